theorem d_X_depth_0 : decode prog_1_method_6_code 0 = .ok (.iload_n 1, 1) := by decide +kernel
theorem d_X_depth_1 : decode prog_1_method_6_code 1 = .ok (.invokestatic 153, 3) := by decide +kernel
theorem d_X_isDepth_0 : decode prog_1_method_30_code 0 = .ok (.iload_n 0, 1) := by decide +kernel
theorem d_X_isDepth_1 : decode prog_1_method_30_code 1 = .ok (.ifCond .lt 12, 3) := by decide +kernel
theorem d_X_isDepth_4 : decode prog_1_method_30_code 4 = .ok (.iload_n 0, 1) := by decide +kernel
theorem d_X_isDepth_5 : decode prog_1_method_30_code 5 = .ok (.iconst 4, 1) := by decide +kernel
theorem d_X_isDepth_6 : decode prog_1_method_30_code 6 = .ok (.if_icmp .ge 7, 3) := by decide +kernel
theorem d_X_isDepth_9 : decode prog_1_method_30_code 9 = .ok (.iconst 1, 1) := by decide +kernel
theorem d_X_isDepth_10 : decode prog_1_method_30_code 10 = .ok (.goto 4, 3) := by decide +kernel
theorem d_X_isDepth_13 : decode prog_1_method_30_code 13 = .ok (.iconst 0, 1) := by decide +kernel
theorem d_X_isDepth_14 : decode prog_1_method_30_code 14 = .ok (.ireturn, 1) := by decide +kernel
theorem li_4 : (4 : Int32).toInt = 4 := by decide +kernel
abbrev m_c1_X_isDepth : Room := { frames := 0, cells := 0, slots := 0, locals := 0 }
set_option maxHeartbeats 4000000 in
set_option maxRecDepth 100000 in
theorem c1_X_isDepth (l : Launch) (G : zG) (b0 : Int32)  : zM l G y_X_isDepth prog_1_method_30_code 1 (Option.some Jvm.ClassFile.FieldType.boolean) m_c1_X_isDepth [.int b0] [] (fun v w => (v = some (.int 0) ∧ w = [] ∧ b0.toInt < 0) ∨ (v = some (.int 0) ∧ w = [] ∧ 0 ≤ b0.toInt ∧ 4 ≤ b0.toInt) ∨ (v = some (.int 1) ∧ w = [] ∧ 0 ≤ b0.toInt ∧ b0.toInt < 4)) := by
  refine z_start (by decide +kernel) (Nat.le_of_ble_eq_true rfl) ?_
  intro p e s m below meth c A Z hr hnm hA hP hD hS ls hl
  have Z : zC p s m _ meth c prog_1_method_30_code 1 "TraceMachines" G := Z
  obtain ⟨hx, hb, hml, hown, hts, hK, hN, hlocks⟩ := id Z
  have hl : lv_has ls 1 [(0, .int b0)] := hl
  refine lv_iload_n hx hb d_X_isDepth_0 rfl (lv_at hl 0 rfl) ?_
  refine lv_if_lt (tgt := 13) hx hb d_X_isDepth_1 (by decide) (fun hc_1 => ?_) (fun hc_1 => ?_)
  · simp only [fa_lt, fa_le, fa_eq, Int32.toInt_toInt64, li_0] at hc_1
    refine lv_iconst (v := 0) hx hb d_X_isDepth_13 (by decide) ?_
    exact z_zret hx hb hr hlocks rfl hP hD hS (Nat.le_of_ble_eq_true rfl) (Nat.le_of_ble_eq_true rfl) d_X_isDepth_14 (Or.inl ⟨rfl, rfl, by omega⟩)
  · simp only [fa_lt, fa_le, fa_eq, Int32.toInt_toInt64, li_0] at hc_1
    refine lv_iload_n hx hb d_X_isDepth_4 rfl (lv_at hl 0 rfl) ?_
    refine lv_iconst (v := 4) hx hb d_X_isDepth_5 (by decide) ?_
    refine lv_icmp_ge (tgt := 13) hx hb d_X_isDepth_6 (by decide) (fun hc_2 => ?_) (fun hc_2 => ?_)
    · simp only [fa_lt, fa_le, fa_eq, Int32.toInt_toInt64, li_4] at hc_2
      refine lv_iconst (v := 0) hx hb d_X_isDepth_13 (by decide) ?_
      exact z_zret hx hb hr hlocks rfl hP hD hS (Nat.le_of_ble_eq_true rfl) (Nat.le_of_ble_eq_true rfl) d_X_isDepth_14 (Or.inr (Or.inl ⟨rfl, rfl, by omega, by omega⟩))
    · simp only [fa_lt, fa_le, fa_eq, Int32.toInt_toInt64, li_4] at hc_2
      refine lv_iconst (v := 1) hx hb d_X_isDepth_9 (by decide) ?_
      refine lv_goto (tgt := 14) hx hb d_X_isDepth_10 (by decide) ?_
      exact z_zret hx hb hr hlocks rfl hP hD hS (Nat.le_of_ble_eq_true rfl) (Nat.le_of_ble_eq_true rfl) d_X_isDepth_14 (Or.inr (Or.inr (⟨rfl, rfl, by omega, by omega⟩)))
theorem d_X_depth_4 : decode prog_1_method_6_code 4 = .ok (.ifCond .ne 5, 3) := by decide +kernel
theorem d_X_depth_7 : decode prog_1_method_6_code 7 = .ok (.iconst (-1), 1) := by decide +kernel
theorem d_X_depth_8 : decode prog_1_method_6_code 8 = .ok (.ireturn, 1) := by decide +kernel
theorem d_X_depth_9 : decode prog_1_method_6_code 9 = .ok (.aload_n 0, 1) := by decide +kernel
theorem d_X_depth_10 : decode prog_1_method_6_code 10 = .ok (.getfield 19, 3) := by decide +kernel
theorem d_X_depth_13 : decode prog_1_method_6_code 13 = .ok (.getfield 156, 3) := by decide +kernel
theorem d_X_depth_16 : decode prog_1_method_6_code 16 = .ok (.istore_n 2, 1) := by decide +kernel
theorem d_X_depth_17 : decode prog_1_method_6_code 17 = .ok (.iload_n 2, 1) := by decide +kernel
theorem d_X_depth_18 : decode prog_1_method_6_code 18 = .ok (.iload_n 1, 1) := by decide +kernel
theorem d_X_depth_19 : decode prog_1_method_6_code 19 = .ok (.if_icmp .ne 6, 3) := by decide +kernel
theorem d_X_depth_22 : decode prog_1_method_6_code 22 = .ok (.bipush (-3), 2) := by decide +kernel
theorem d_X_depth_24 : decode prog_1_method_6_code 24 = .ok (.ireturn, 1) := by decide +kernel
theorem d_X_depth_25 : decode prog_1_method_6_code 25 = .ok (.aload_n 0, 1) := by decide +kernel
theorem d_X_depth_26 : decode prog_1_method_6_code 26 = .ok (.invokevirtual 137, 3) := by decide +kernel
theorem d_X_depth_29 : decode prog_1_method_6_code 29 = .ok (.aload_n 0, 1) := by decide +kernel
theorem d_X_depth_30 : decode prog_1_method_6_code 30 = .ok (.getfield 19, 3) := by decide +kernel
theorem d_X_depth_33 : decode prog_1_method_6_code 33 = .ok (.iload_n 1, 1) := by decide +kernel
theorem d_X_depth_34 : decode prog_1_method_6_code 34 = .ok (.putfield 156, 3) := by decide +kernel
theorem d_X_depth_37 : decode prog_1_method_6_code 37 = .ok (.aload_n 0, 1) := by decide +kernel
theorem d_X_depth_38 : decode prog_1_method_6_code 38 = .ok (.invokevirtual 140, 3) := by decide +kernel
theorem d_X_depth_41 : decode prog_1_method_6_code 41 = .ok (.iload_n 2, 1) := by decide +kernel
theorem d_X_depth_42 : decode prog_1_method_6_code 42 = .ok (.ireturn, 1) := by decide +kernel
theorem li_1 : (1 : Int32).toInt = 1 := by decide +kernel
abbrev m_t_X_depth : Room := { frames := 3, cells := 0, slots := 0, locals := 59 }
set_option maxHeartbeats 4000000 in
set_option maxRecDepth 100000 in
theorem t_X_depth (l : Launch) (G : zG) (b0 : Nat) (p0 : Int32) (b2 : Nat) (b3 : Nat) (b4 : Nat) (b5 : Nat) (b6 : Nat) (b7 : Nat) (b8 : Nat) (b9 : Nat) (b10 : Nat) (b11 : Nat) (b12 : Nat) (b13 : Nat) (b14 : Nat) (b15 : Nat) (b16 : Nat) (b17 : Nat) (b18 : Nat) (b19 : Nat) (b20 : Nat) (b21 : Nat) (b22 : Nat) (b23 : Nat) (b24 : Nat) (b25 : Nat) (b26 : Nat) (b27 : Nat) (b28 : Nat) (b29 : Nat) (b30 : Nat) (b31 : Nat) (b32 : Nat) (b33 : Nat) (b34 : Nat) (b35 : Nat) (b36 : Nat) (b37 : Nat) (b38 : Nat) (b39 : Nat) (b40 : Nat) (b41 : Nat) (b42 : Nat) (b43 : Nat) (b44 : Nat) (b45 : Nat) (b46 : Nat) (b47 : Nat) (b48 : Nat) (b49 : Nat) (b50 : Nat) (b51 : Nat) (b52 : Nat) (b53 : Nat) (b54 : Nat) (b55 : Nat) (b56 : Nat) (b57 : Nat) (b58 : Nat) (b59 : Nat) (b60 : Nat) (b61 : Nat) (b62 : Nat) (b63 : Nat) (b64 : Nat) (b65 : Nat) (b66 : Nat) (b67 : Nat) (b68 : Nat) (b69 : Nat) (b70 : Nat) (b71 : Nat) (b72 : Nat) (b73 : Nat) (b74 : Nat) (b75 : Nat) (b76 : Nat) (b77 : Nat) (b78 : Nat) (b79 : Nat) (b80 : Nat) (b81 : Nat) (b82 : Nat) (b83 : Nat) (b84 : Nat) (b85 : Nat) (b86 : Nat) (b87 : Nat) (b88 : Nat) (b89 : Nat) (b90 : Nat) (b91 : Nat) (b92 : Nat) (b93 : Nat) (b94 : Nat) (b95 : Nat) (b96 : Nat) (b97 : Nat) (b98 : Nat) (b99 : Nat) (b100 : Nat)  : zM l G y_X_depth prog_1_method_6_code 3 (Option.some Jvm.ClassFile.FieldType.int) m_t_X_depth [.ref b0, .int p0] [(b0, .inr (0, [.ref b2, .ref b3, .ref b4, .ref b5, .int 0, .int 0, .ref b6, .ref b7, .ref b8, .ref b9, .ref b10, .ref b11, .ref b12, .ref b13, .ref b14, .ref b15, .ref b16, .ref b17, .ref b18, .ref b19])), (b3, .inr (2, [.int 0, .int 1, .int 0, .ref b20, .ref b21, .ref b22])), (b5, .inl (G.2 5, 8, .inr (.inr (.inr (.inr (va_up (va_up (va_up (va_up (va_up (va_up (va_up (va_up (fun _ => none) 0 (some b23)) 1 (some b24)) 2 (some b25)) 3 (some b26)) 4 (some b27)) 5 (some b28)) 6 (some b29)) 7 (some b30))))))), (b23, .inr (2, [.int 0, .int 1, .int 0, .ref b31, .ref b32, .ref b33])), (b20, .inl (G.2 0, 20, .inl (fun _ => 0))), (b31, .inl (G.2 0, 20, .inl (fun _ => 0))), (b21, .inl (G.2 0, 240, .inl (fun _ => 0))), (b32, .inl (G.2 0, 240, .inl (fun _ => 0))), (b22, .inl (G.2 0, 240, .inl (fun _ => 0))), (b33, .inl (G.2 0, 240, .inl (fun _ => 0))), (b7, .inr (3, [.int 0, .int 0, .int 0, .ref b34, .ref b35, .ref b36, .ref b37, .ref b38, .ref b39, .ref b40, .ref b41])), (b9, .inl (G.2 6, 4, .inr (.inr (.inr (.inr (va_up (va_up (va_up (va_up (fun _ => none) 0 (some b42)) 1 (some b43)) 2 (some b44)) 3 (some b45))))))), (b42, .inr (5, [.int 0, .int 0, .ref b46, .ref b47, .ref b48, .ref b49, .ref b50, .ref b51, .int 0, .ref b52, .ref b53, .ref b54, .ref b55, .ref b56, .ref b57])), (b43, .inr (5, [.int 0, .int 0, .ref b58, .ref b59, .ref b60, .ref b61, .ref b62, .ref b63, .int 0, .ref b64, .ref b65, .ref b66, .ref b67, .ref b68, .ref b69])), (b44, .inr (5, [.int 0, .int 0, .ref b70, .ref b71, .ref b72, .ref b73, .ref b74, .ref b75, .int 0, .ref b76, .ref b77, .ref b78, .ref b79, .ref b80, .ref b81])), (b45, .inr (5, [.int 0, .int 0, .ref b82, .ref b83, .ref b84, .ref b85, .ref b86, .ref b87, .int 0, .ref b88, .ref b89, .ref b90, .ref b91, .ref b92, .ref b93])), (b15, .inr (8, [.int 0, .int 0, .ref b94, .int 0, .int 0, .ref b95, .ref b96, .ref b97, .ref b98, .ref b99])), (b16, .inr (9, [.int 0, .int 0, .int 0, .ref b100, .int 0])), (b19, .inl (G.2 0, 8, .inl (fun _ => (-1))))] (fun v _ => v = some (.int (a_depth p0))) := by
  refine z_start (by decide +kernel) (Nat.le_of_ble_eq_true rfl) ?_
  intro p e s m below meth c A Z hr hnm hA hP hD hS ls hl
  have Z : zC p s m _ meth c prog_1_method_6_code 3 "TraceMachines" G := Z
  obtain ⟨hx, hb, hml, hown, hts, hK, hN, hlocks⟩ := id Z
  have hl : lv_has ls 3 [(0, .ref b0), (1, .int p0)] := hl
  refine lv_iload_n hx hb d_X_depth_0 rfl (lv_at hl 1 rfl) ?_
  refine z_callS (index := 153) (As := [.int p0]) (rest := []) (wr := [(b0, .inr (0, [.ref b2, .ref b3, .ref b4, .ref b5, .int 0, .int 0, .ref b6, .ref b7, .ref b8, .ref b9, .ref b10, .ref b11, .ref b12, .ref b13, .ref b14, .ref b15, .ref b16, .ref b17, .ref b18, .ref b19])), (b3, .inr (2, [.int 0, .int 1, .int 0, .ref b20, .ref b21, .ref b22])), (b5, .inl (G.2 5, 8, .inr (.inr (.inr (.inr (va_up (va_up (va_up (va_up (va_up (va_up (va_up (va_up (fun _ => none) 0 (some b23)) 1 (some b24)) 2 (some b25)) 3 (some b26)) 4 (some b27)) 5 (some b28)) 6 (some b29)) 7 (some b30))))))), (b23, .inr (2, [.int 0, .int 1, .int 0, .ref b31, .ref b32, .ref b33])), (b20, .inl (G.2 0, 20, .inl (fun _ => 0))), (b31, .inl (G.2 0, 20, .inl (fun _ => 0))), (b21, .inl (G.2 0, 240, .inl (fun _ => 0))), (b32, .inl (G.2 0, 240, .inl (fun _ => 0))), (b22, .inl (G.2 0, 240, .inl (fun _ => 0))), (b33, .inl (G.2 0, 240, .inl (fun _ => 0))), (b7, .inr (3, [.int 0, .int 0, .int 0, .ref b34, .ref b35, .ref b36, .ref b37, .ref b38, .ref b39, .ref b40, .ref b41])), (b9, .inl (G.2 6, 4, .inr (.inr (.inr (.inr (va_up (va_up (va_up (va_up (fun _ => none) 0 (some b42)) 1 (some b43)) 2 (some b44)) 3 (some b45))))))), (b42, .inr (5, [.int 0, .int 0, .ref b46, .ref b47, .ref b48, .ref b49, .ref b50, .ref b51, .int 0, .ref b52, .ref b53, .ref b54, .ref b55, .ref b56, .ref b57])), (b43, .inr (5, [.int 0, .int 0, .ref b58, .ref b59, .ref b60, .ref b61, .ref b62, .ref b63, .int 0, .ref b64, .ref b65, .ref b66, .ref b67, .ref b68, .ref b69])), (b44, .inr (5, [.int 0, .int 0, .ref b70, .ref b71, .ref b72, .ref b73, .ref b74, .ref b75, .int 0, .ref b76, .ref b77, .ref b78, .ref b79, .ref b80, .ref b81])), (b45, .inr (5, [.int 0, .int 0, .ref b82, .ref b83, .ref b84, .ref b85, .ref b86, .ref b87, .int 0, .ref b88, .ref b89, .ref b90, .ref b91, .ref b92, .ref b93])), (b15, .inr (8, [.int 0, .int 0, .ref b94, .int 0, .int 0, .ref b95, .ref b96, .ref b97, .ref b98, .ref b99])), (b16, .inr (9, [.int 0, .int 0, .int 0, .ref b100, .int 0])), (b19, .inl (G.2 0, 8, .inl (fun _ => (-1))))]) Z (c1_X_isDepth l G (p0)) hl.1 q548 q549 q1 q550 ⟨by decide, by decide, by show _ = some 1; decide +kernel⟩ ⟨Nat.le_of_ble_eq_true rfl, Nat.le_of_ble_eq_true rfl⟩ ⟨Nat.le_of_ble_eq_true rfl, Nat.le_of_ble_eq_true rfl⟩ rfl (Nat.le_of_ble_eq_true rfl) d_X_depth_1 hP hD hS hA [] [0, 1, 2, 3, 4, 5, 6, 7, 8, 9, 10, 11, 12, 13, 14, 15, 16, 17, 18] rfl rfl rfl rfl (by decide) (fun v w1 H locs hw_1 hP hD hS => ?_)
  rcases hw_1 with ⟨rfl, rfl, hq_2⟩ | ⟨rfl, rfl, hq_3, hq_4⟩ | ⟨rfl, rfl, hq_5, hq_6⟩
  · try simp only [Int32.toInt_toInt64, li_0] at hq_2
    have hP : va_P G.1 classes [(b0, .inr (0, [.ref b2, .ref b3, .ref b4, .ref b5, .int 0, .int 0, .ref b6, .ref b7, .ref b8, .ref b9, .ref b10, .ref b11, .ref b12, .ref b13, .ref b14, .ref b15, .ref b16, .ref b17, .ref b18, .ref b19])), (b3, .inr (2, [.int 0, .int 1, .int 0, .ref b20, .ref b21, .ref b22])), (b5, .inl (G.2 5, 8, .inr (.inr (.inr (.inr (va_up (va_up (va_up (va_up (va_up (va_up (va_up (va_up (fun _ => none) 0 (some b23)) 1 (some b24)) 2 (some b25)) 3 (some b26)) 4 (some b27)) 5 (some b28)) 6 (some b29)) 7 (some b30))))))), (b23, .inr (2, [.int 0, .int 1, .int 0, .ref b31, .ref b32, .ref b33])), (b20, .inl (G.2 0, 20, .inl (fun _ => 0))), (b31, .inl (G.2 0, 20, .inl (fun _ => 0))), (b21, .inl (G.2 0, 240, .inl (fun _ => 0))), (b32, .inl (G.2 0, 240, .inl (fun _ => 0))), (b22, .inl (G.2 0, 240, .inl (fun _ => 0))), (b33, .inl (G.2 0, 240, .inl (fun _ => 0))), (b7, .inr (3, [.int 0, .int 0, .int 0, .ref b34, .ref b35, .ref b36, .ref b37, .ref b38, .ref b39, .ref b40, .ref b41])), (b9, .inl (G.2 6, 4, .inr (.inr (.inr (.inr (va_up (va_up (va_up (va_up (fun _ => none) 0 (some b42)) 1 (some b43)) 2 (some b44)) 3 (some b45))))))), (b42, .inr (5, [.int 0, .int 0, .ref b46, .ref b47, .ref b48, .ref b49, .ref b50, .ref b51, .int 0, .ref b52, .ref b53, .ref b54, .ref b55, .ref b56, .ref b57])), (b43, .inr (5, [.int 0, .int 0, .ref b58, .ref b59, .ref b60, .ref b61, .ref b62, .ref b63, .int 0, .ref b64, .ref b65, .ref b66, .ref b67, .ref b68, .ref b69])), (b44, .inr (5, [.int 0, .int 0, .ref b70, .ref b71, .ref b72, .ref b73, .ref b74, .ref b75, .int 0, .ref b76, .ref b77, .ref b78, .ref b79, .ref b80, .ref b81])), (b45, .inr (5, [.int 0, .int 0, .ref b82, .ref b83, .ref b84, .ref b85, .ref b86, .ref b87, .int 0, .ref b88, .ref b89, .ref b90, .ref b91, .ref b92, .ref b93])), (b15, .inr (8, [.int 0, .int 0, .ref b94, .int 0, .int 0, .ref b95, .ref b96, .ref b97, .ref b98, .ref b99])), (b16, .inr (9, [.int 0, .int 0, .int 0, .ref b100, .int 0])), (b19, .inl (G.2 0, 8, .inl (fun _ => (-1))))] H := hP
    have hD := z_tie hP hD rfl
    refine W.widen (k := 0) (n := 0) (Nat.le_of_ble_eq_true rfl) (Nat.le_of_ble_eq_true rfl) ?_
    refine lv_if_ne (tgt := 9) hx hb d_X_depth_4 (by decide) (fun hc => absurd hc (by decide +kernel)) (fun _ => ?_)
    refine lv_iconst (v := (-1)) hx hb d_X_depth_7 (by decide) ?_
    exact z_iret hx hb hr hlocks hP hD hS (Nat.le_of_ble_eq_true rfl) (Nat.le_of_ble_eq_true rfl) d_X_depth_8 (congrArg (fun z => some (Value.int z)) (by unfold a_depth; (first | rfl | (repeat (first | rw [if_pos (by omega)] | rw [if_neg (by omega)])))))
  · try simp only [Int32.toInt_toInt64, li_0] at hq_3
    try simp only [Int32.toInt_toInt64, li_4] at hq_4
    have hP : va_P G.1 classes [(b0, .inr (0, [.ref b2, .ref b3, .ref b4, .ref b5, .int 0, .int 0, .ref b6, .ref b7, .ref b8, .ref b9, .ref b10, .ref b11, .ref b12, .ref b13, .ref b14, .ref b15, .ref b16, .ref b17, .ref b18, .ref b19])), (b3, .inr (2, [.int 0, .int 1, .int 0, .ref b20, .ref b21, .ref b22])), (b5, .inl (G.2 5, 8, .inr (.inr (.inr (.inr (va_up (va_up (va_up (va_up (va_up (va_up (va_up (va_up (fun _ => none) 0 (some b23)) 1 (some b24)) 2 (some b25)) 3 (some b26)) 4 (some b27)) 5 (some b28)) 6 (some b29)) 7 (some b30))))))), (b23, .inr (2, [.int 0, .int 1, .int 0, .ref b31, .ref b32, .ref b33])), (b20, .inl (G.2 0, 20, .inl (fun _ => 0))), (b31, .inl (G.2 0, 20, .inl (fun _ => 0))), (b21, .inl (G.2 0, 240, .inl (fun _ => 0))), (b32, .inl (G.2 0, 240, .inl (fun _ => 0))), (b22, .inl (G.2 0, 240, .inl (fun _ => 0))), (b33, .inl (G.2 0, 240, .inl (fun _ => 0))), (b7, .inr (3, [.int 0, .int 0, .int 0, .ref b34, .ref b35, .ref b36, .ref b37, .ref b38, .ref b39, .ref b40, .ref b41])), (b9, .inl (G.2 6, 4, .inr (.inr (.inr (.inr (va_up (va_up (va_up (va_up (fun _ => none) 0 (some b42)) 1 (some b43)) 2 (some b44)) 3 (some b45))))))), (b42, .inr (5, [.int 0, .int 0, .ref b46, .ref b47, .ref b48, .ref b49, .ref b50, .ref b51, .int 0, .ref b52, .ref b53, .ref b54, .ref b55, .ref b56, .ref b57])), (b43, .inr (5, [.int 0, .int 0, .ref b58, .ref b59, .ref b60, .ref b61, .ref b62, .ref b63, .int 0, .ref b64, .ref b65, .ref b66, .ref b67, .ref b68, .ref b69])), (b44, .inr (5, [.int 0, .int 0, .ref b70, .ref b71, .ref b72, .ref b73, .ref b74, .ref b75, .int 0, .ref b76, .ref b77, .ref b78, .ref b79, .ref b80, .ref b81])), (b45, .inr (5, [.int 0, .int 0, .ref b82, .ref b83, .ref b84, .ref b85, .ref b86, .ref b87, .int 0, .ref b88, .ref b89, .ref b90, .ref b91, .ref b92, .ref b93])), (b15, .inr (8, [.int 0, .int 0, .ref b94, .int 0, .int 0, .ref b95, .ref b96, .ref b97, .ref b98, .ref b99])), (b16, .inr (9, [.int 0, .int 0, .int 0, .ref b100, .int 0])), (b19, .inl (G.2 0, 8, .inl (fun _ => (-1))))] H := hP
    have hD := z_tie hP hD rfl
    refine W.widen (k := 0) (n := 0) (Nat.le_of_ble_eq_true rfl) (Nat.le_of_ble_eq_true rfl) ?_
    refine lv_if_ne (tgt := 9) hx hb d_X_depth_4 (by decide) (fun hc => absurd hc (by decide +kernel)) (fun _ => ?_)
    refine lv_iconst (v := (-1)) hx hb d_X_depth_7 (by decide) ?_
    exact z_iret hx hb hr hlocks hP hD hS (Nat.le_of_ble_eq_true rfl) (Nat.le_of_ble_eq_true rfl) d_X_depth_8 (congrArg (fun z => some (Value.int z)) (by unfold a_depth; (first | rfl | (repeat (first | rw [if_pos (by omega)] | rw [if_neg (by omega)])))))
  · try simp only [Int32.toInt_toInt64, li_0] at hq_5
    try simp only [Int32.toInt_toInt64, li_4] at hq_6
    have hP : va_P G.1 classes [(b0, .inr (0, [.ref b2, .ref b3, .ref b4, .ref b5, .int 0, .int 0, .ref b6, .ref b7, .ref b8, .ref b9, .ref b10, .ref b11, .ref b12, .ref b13, .ref b14, .ref b15, .ref b16, .ref b17, .ref b18, .ref b19])), (b3, .inr (2, [.int 0, .int 1, .int 0, .ref b20, .ref b21, .ref b22])), (b5, .inl (G.2 5, 8, .inr (.inr (.inr (.inr (va_up (va_up (va_up (va_up (va_up (va_up (va_up (va_up (fun _ => none) 0 (some b23)) 1 (some b24)) 2 (some b25)) 3 (some b26)) 4 (some b27)) 5 (some b28)) 6 (some b29)) 7 (some b30))))))), (b23, .inr (2, [.int 0, .int 1, .int 0, .ref b31, .ref b32, .ref b33])), (b20, .inl (G.2 0, 20, .inl (fun _ => 0))), (b31, .inl (G.2 0, 20, .inl (fun _ => 0))), (b21, .inl (G.2 0, 240, .inl (fun _ => 0))), (b32, .inl (G.2 0, 240, .inl (fun _ => 0))), (b22, .inl (G.2 0, 240, .inl (fun _ => 0))), (b33, .inl (G.2 0, 240, .inl (fun _ => 0))), (b7, .inr (3, [.int 0, .int 0, .int 0, .ref b34, .ref b35, .ref b36, .ref b37, .ref b38, .ref b39, .ref b40, .ref b41])), (b9, .inl (G.2 6, 4, .inr (.inr (.inr (.inr (va_up (va_up (va_up (va_up (fun _ => none) 0 (some b42)) 1 (some b43)) 2 (some b44)) 3 (some b45))))))), (b42, .inr (5, [.int 0, .int 0, .ref b46, .ref b47, .ref b48, .ref b49, .ref b50, .ref b51, .int 0, .ref b52, .ref b53, .ref b54, .ref b55, .ref b56, .ref b57])), (b43, .inr (5, [.int 0, .int 0, .ref b58, .ref b59, .ref b60, .ref b61, .ref b62, .ref b63, .int 0, .ref b64, .ref b65, .ref b66, .ref b67, .ref b68, .ref b69])), (b44, .inr (5, [.int 0, .int 0, .ref b70, .ref b71, .ref b72, .ref b73, .ref b74, .ref b75, .int 0, .ref b76, .ref b77, .ref b78, .ref b79, .ref b80, .ref b81])), (b45, .inr (5, [.int 0, .int 0, .ref b82, .ref b83, .ref b84, .ref b85, .ref b86, .ref b87, .int 0, .ref b88, .ref b89, .ref b90, .ref b91, .ref b92, .ref b93])), (b15, .inr (8, [.int 0, .int 0, .ref b94, .int 0, .int 0, .ref b95, .ref b96, .ref b97, .ref b98, .ref b99])), (b16, .inr (9, [.int 0, .int 0, .int 0, .ref b100, .int 0])), (b19, .inl (G.2 0, 8, .inl (fun _ => (-1))))] H := hP
    have hD := z_tie hP hD rfl
    refine W.widen (k := 0) (n := 0) (Nat.le_of_ble_eq_true rfl) (Nat.le_of_ble_eq_true rfl) ?_
    refine lv_if_ne (tgt := 9) hx hb d_X_depth_4 (by decide) (fun _ => ?_) (fun hc => absurd hc (by decide +kernel))
    refine lv_aload_n hx hb d_X_depth_9 rfl (lv_at hl 0 rfl) ?_
    refine va_get (D := G.1) (ci := 0) (v := .ref b3) (C := R_X) (T := F_X) (N := 20) hx hb hts i_X hown hK hP 0 rfl rfl 1 (by decide) (hts _ q418) (fun _ h9 => h9) rfl d_X_depth_10 ?_
    refine va_get (D := G.1) (ci := 2) (v := .int 1) (C := R_Traces) (T := F_Traces) (N := 6) hx hb hts i_Traces hown hK hP 1 rfl rfl 1 (by decide) (hts _ q60) (fun _ h9 => h9) rfl d_X_depth_13 ?_
    refine lv_istore_n (lv' := [(2, .int 1), (0, .ref b0), (1, .int p0)]) hx hb d_X_depth_16 rfl hl (by decide) rfl (fun ls hl => ?_)
    refine lv_iload_n hx hb d_X_depth_17 rfl (lv_at hl 0 rfl) ?_
    refine lv_iload_n hx hb d_X_depth_18 rfl (lv_at hl 2 rfl) ?_
    refine lv_icmp_ne (tgt := 25) hx hb d_X_depth_19 (by decide) (fun hc_7 => ?_) (fun hc_7 => ?_)
    · simp only [fa_lt, fa_le, fa_eq, Int32.toInt_toInt64, li_1] at hc_7
      refine lv_aload_n hx hb d_X_depth_25 rfl (lv_at hl 1 rfl) ?_
      refine z_callV (index := 137) (As := []) (rest := []) (wr := [(b7, .inr (3, [.int 0, .int 0, .int 0, .ref b34, .ref b35, .ref b36, .ref b37, .ref b38, .ref b39, .ref b40, .ref b41])), (b9, .inl (G.2 6, 4, .inr (.inr (.inr (.inr (va_up (va_up (va_up (va_up (fun _ => none) 0 (some b42)) 1 (some b43)) 2 (some b44)) 3 (some b45))))))), (b42, .inr (5, [.int 0, .int 0, .ref b46, .ref b47, .ref b48, .ref b49, .ref b50, .ref b51, .int 0, .ref b52, .ref b53, .ref b54, .ref b55, .ref b56, .ref b57])), (b43, .inr (5, [.int 0, .int 0, .ref b58, .ref b59, .ref b60, .ref b61, .ref b62, .ref b63, .int 0, .ref b64, .ref b65, .ref b66, .ref b67, .ref b68, .ref b69])), (b44, .inr (5, [.int 0, .int 0, .ref b70, .ref b71, .ref b72, .ref b73, .ref b74, .ref b75, .int 0, .ref b76, .ref b77, .ref b78, .ref b79, .ref b80, .ref b81])), (b45, .inr (5, [.int 0, .int 0, .ref b82, .ref b83, .ref b84, .ref b85, .ref b86, .ref b87, .int 0, .ref b88, .ref b89, .ref b90, .ref b91, .ref b92, .ref b93])), (b15, .inr (8, [.int 0, .int 0, .ref b94, .int 0, .int 0, .ref b95, .ref b96, .ref b97, .ref b98, .ref b99])), (b16, .inr (9, [.int 0, .int 0, .int 0, .ref b100, .int 0])), (b19, .inl (G.2 0, 8, .inl (fun _ => (-1))))]) Z (c1_X_remember l G (b0) (b2) (b3) (b4) (b5) (b6) (b7) (b8) (b9) (b10) (b11) (b12) (b13) (b14) (b15) (b16) (b17) (b18) (b19) (b23) (b24) (b25) (b26) (b27) (b28) (b29) (b30) (b20) (b21) (b22) (b31) (b32) (b33)) hl.1 q524 q526 qs0 q1 q527 ⟨by decide, by decide, by show _ = some 0; decide +kernel⟩ ⟨Nat.le_of_ble_eq_true rfl, Nat.le_of_ble_eq_true rfl⟩ ⟨Nat.le_of_ble_eq_true rfl, Nat.le_of_ble_eq_true rfl⟩ rfl (Nat.le_of_ble_eq_true rfl) d_X_depth_26 hP hD hS hA 0 0 rfl rfl rfl [0, 2, 1, 3, 4, 5, 6, 7, 8, 9] [10, 11, 12, 13, 14, 15, 16, 17, 18] rfl rfl rfl rfl (by decide) (fun v w1 H locs hw_8 hP hD hS => ?_)
      obtain ⟨rfl, rfl⟩ := hw_8
      have hP : va_P G.1 classes [(b7, .inr (3, [.int 0, .int 0, .int 0, .ref b34, .ref b35, .ref b36, .ref b37, .ref b38, .ref b39, .ref b40, .ref b41])), (b9, .inl (G.2 6, 4, .inr (.inr (.inr (.inr (va_up (va_up (va_up (va_up (fun _ => none) 0 (some b42)) 1 (some b43)) 2 (some b44)) 3 (some b45))))))), (b42, .inr (5, [.int 0, .int 0, .ref b46, .ref b47, .ref b48, .ref b49, .ref b50, .ref b51, .int 0, .ref b52, .ref b53, .ref b54, .ref b55, .ref b56, .ref b57])), (b43, .inr (5, [.int 0, .int 0, .ref b58, .ref b59, .ref b60, .ref b61, .ref b62, .ref b63, .int 0, .ref b64, .ref b65, .ref b66, .ref b67, .ref b68, .ref b69])), (b44, .inr (5, [.int 0, .int 0, .ref b70, .ref b71, .ref b72, .ref b73, .ref b74, .ref b75, .int 0, .ref b76, .ref b77, .ref b78, .ref b79, .ref b80, .ref b81])), (b45, .inr (5, [.int 0, .int 0, .ref b82, .ref b83, .ref b84, .ref b85, .ref b86, .ref b87, .int 0, .ref b88, .ref b89, .ref b90, .ref b91, .ref b92, .ref b93])), (b15, .inr (8, [.int 0, .int 0, .ref b94, .int 0, .int 0, .ref b95, .ref b96, .ref b97, .ref b98, .ref b99])), (b16, .inr (9, [.int 0, .int 0, .int 0, .ref b100, .int 0])), (b19, .inl (G.2 0, 8, .inl (fun _ => (-1)))), (b0, .inr (0, [.ref b2, .ref b3, .ref b4, .ref b5, .int 1, .int 1, .ref b6, .ref b7, .ref b8, .ref b9, .ref b10, .ref b11, .ref b12, .ref b13, .ref b14, .ref b15, .ref b16, .ref b17, .ref b18, .ref b19])), (b5, .inl (G.2 5, 8, .inr (.inr (.inr (.inr (va_up (va_up (va_up (va_up (va_up (va_up (va_up (va_up (fun _ => none) 0 (some b23)) 1 (some b24)) 2 (some b25)) 3 (some b26)) 4 (some b27)) 5 (some b28)) 6 (some b29)) 7 (some b30))))))), (b3, .inr (2, [.int 0, .int 1, .int 0, .ref b20, .ref b21, .ref b22])), (b23, .inr (2, [.int 0, .int 1, .int 0, .ref b31, .ref b32, .ref b33])), (b20, .inl (G.2 0, 20, .inl (fun _ => 0))), (b31, .inl (G.2 0, 20, .inl (fun _ => 0))), (b21, .inl (G.2 0, 240, .inl (fun _ => 0))), (b32, .inl (G.2 0, 240, .inl (fun _ => 0))), (b22, .inl (G.2 0, 240, .inl (fun _ => 0))), (b33, .inl (G.2 0, 240, .inl (fun _ => 0)))] H := hP
      have hD := z_tie hP hD rfl
      refine W.widen (k := 0) (n := 0) (Nat.le_of_ble_eq_true rfl) (Nat.le_of_ble_eq_true rfl) ?_
      refine lv_aload_n hx hb d_X_depth_29 rfl (lv_at hl 1 rfl) ?_
      refine va_get (D := G.1) (ci := 0) (v := .ref b3) (C := R_X) (T := F_X) (N := 20) hx hb hts i_X hown hK hP 9 rfl rfl 1 (by decide) (hts _ q418) (fun _ h9 => h9) rfl d_X_depth_30 ?_
      refine lv_iload_n hx hb d_X_depth_33 rfl (lv_at hl 2 rfl) ?_
      refine va_put (D := G.1) (ci := 2) (v := .int p0) (ty := .int) (C := R_Traces) (T := F_Traces) (N := 6) hx hb hts i_Traces t_Traces t_Traces_ok n_Traces hown hK hP hD hS 11 rfl rfl 1 (by decide) (hts _ q60) (fun _ h9 => h9) rfl (by decide +kernel) rfl rfl (Nat.le_of_ble_eq_true rfl) d_X_depth_34 (fun H locs hP hD hS => ?_)
      have hP : va_P G.1 classes [(b7, .inr (3, [.int 0, .int 0, .int 0, .ref b34, .ref b35, .ref b36, .ref b37, .ref b38, .ref b39, .ref b40, .ref b41])), (b9, .inl (G.2 6, 4, .inr (.inr (.inr (.inr (va_up (va_up (va_up (va_up (fun _ => none) 0 (some b42)) 1 (some b43)) 2 (some b44)) 3 (some b45))))))), (b42, .inr (5, [.int 0, .int 0, .ref b46, .ref b47, .ref b48, .ref b49, .ref b50, .ref b51, .int 0, .ref b52, .ref b53, .ref b54, .ref b55, .ref b56, .ref b57])), (b43, .inr (5, [.int 0, .int 0, .ref b58, .ref b59, .ref b60, .ref b61, .ref b62, .ref b63, .int 0, .ref b64, .ref b65, .ref b66, .ref b67, .ref b68, .ref b69])), (b44, .inr (5, [.int 0, .int 0, .ref b70, .ref b71, .ref b72, .ref b73, .ref b74, .ref b75, .int 0, .ref b76, .ref b77, .ref b78, .ref b79, .ref b80, .ref b81])), (b45, .inr (5, [.int 0, .int 0, .ref b82, .ref b83, .ref b84, .ref b85, .ref b86, .ref b87, .int 0, .ref b88, .ref b89, .ref b90, .ref b91, .ref b92, .ref b93])), (b15, .inr (8, [.int 0, .int 0, .ref b94, .int 0, .int 0, .ref b95, .ref b96, .ref b97, .ref b98, .ref b99])), (b16, .inr (9, [.int 0, .int 0, .int 0, .ref b100, .int 0])), (b19, .inl (G.2 0, 8, .inl (fun _ => (-1)))), (b0, .inr (0, [.ref b2, .ref b3, .ref b4, .ref b5, .int 1, .int 1, .ref b6, .ref b7, .ref b8, .ref b9, .ref b10, .ref b11, .ref b12, .ref b13, .ref b14, .ref b15, .ref b16, .ref b17, .ref b18, .ref b19])), (b5, .inl (G.2 5, 8, .inr (.inr (.inr (.inr (va_up (va_up (va_up (va_up (va_up (va_up (va_up (va_up (fun _ => none) 0 (some b23)) 1 (some b24)) 2 (some b25)) 3 (some b26)) 4 (some b27)) 5 (some b28)) 6 (some b29)) 7 (some b30))))))), (b3, .inr (2, [.int 0, .int p0, .int 0, .ref b20, .ref b21, .ref b22])), (b23, .inr (2, [.int 0, .int 1, .int 0, .ref b31, .ref b32, .ref b33])), (b20, .inl (G.2 0, 20, .inl (fun _ => 0))), (b31, .inl (G.2 0, 20, .inl (fun _ => 0))), (b21, .inl (G.2 0, 240, .inl (fun _ => 0))), (b32, .inl (G.2 0, 240, .inl (fun _ => 0))), (b22, .inl (G.2 0, 240, .inl (fun _ => 0))), (b33, .inl (G.2 0, 240, .inl (fun _ => 0)))] H := hP
      have hD := z_tie hP hD rfl
      refine lv_aload_n hx hb d_X_depth_37 rfl (lv_at hl 1 rfl) ?_
      refine z_callV (index := 140) (As := []) (rest := []) (wr := [(b5, .inl (G.2 5, 8, .inr (.inr (.inr (.inr (va_up (va_up (va_up (va_up (va_up (va_up (va_up (va_up (fun _ => none) 0 (some b23)) 1 (some b24)) 2 (some b25)) 3 (some b26)) 4 (some b27)) 5 (some b28)) 6 (some b29)) 7 (some b30))))))), (b3, .inr (2, [.int 0, .int p0, .int 0, .ref b20, .ref b21, .ref b22])), (b23, .inr (2, [.int 0, .int 1, .int 0, .ref b31, .ref b32, .ref b33])), (b20, .inl (G.2 0, 20, .inl (fun _ => 0))), (b31, .inl (G.2 0, 20, .inl (fun _ => 0))), (b21, .inl (G.2 0, 240, .inl (fun _ => 0))), (b32, .inl (G.2 0, 240, .inl (fun _ => 0))), (b22, .inl (G.2 0, 240, .inl (fun _ => 0))), (b33, .inl (G.2 0, 240, .inl (fun _ => 0)))]) Z (c1_X_forgetFound l G (b0) (b2) (b3) (b4) (b5) (b6) (b7) (b8) (b9) (b10) (b11) (b12) (b13) (b14) (b15) (b16) (b17) (b18) (b19) (b34) (b35) (b36) (b37) (b38) (b39) (b40) (b41) (b42) (b43) (b44) (b45) (b46) (b47) (b48) (b49) (b50) (b51) (b52) (b53) (b54) (b55) (b56) (b57) (b58) (b59) (b60) (b61) (b62) (b63) (b64) (b65) (b66) (b67) (b68) (b69) (b70) (b71) (b72) (b73) (b74) (b75) (b76) (b77) (b78) (b79) (b80) (b81) (b82) (b83) (b84) (b85) (b86) (b87) (b88) (b89) (b90) (b91) (b92) (b93) (b94) (b95) (b96) (b97) (b98) (b99) (b100)) hl.1 q528 q530 qs1 q1 q531 ⟨by decide, by decide, by show _ = some 0; decide +kernel⟩ ⟨Nat.le_of_ble_eq_true rfl, Nat.le_of_ble_eq_true rfl⟩ ⟨Nat.le_of_ble_eq_true rfl, Nat.le_of_ble_eq_true rfl⟩ rfl (Nat.le_of_ble_eq_true rfl) d_X_depth_38 hP hD hS hA 9 0 rfl rfl rfl [9, 0, 1, 2, 3, 4, 5, 6, 7, 8] [10, 11, 12, 13, 14, 15, 16, 17, 18] rfl rfl rfl rfl (by decide) (fun v w1 H locs hw_9 hP hD hS => ?_)
      obtain ⟨rfl, rfl⟩ := hw_9
      have hP : va_P G.1 classes [(b5, .inl (G.2 5, 8, .inr (.inr (.inr (.inr (va_up (va_up (va_up (va_up (va_up (va_up (va_up (va_up (fun _ => none) 0 (some b23)) 1 (some b24)) 2 (some b25)) 3 (some b26)) 4 (some b27)) 5 (some b28)) 6 (some b29)) 7 (some b30))))))), (b3, .inr (2, [.int 0, .int p0, .int 0, .ref b20, .ref b21, .ref b22])), (b23, .inr (2, [.int 0, .int 1, .int 0, .ref b31, .ref b32, .ref b33])), (b20, .inl (G.2 0, 20, .inl (fun _ => 0))), (b31, .inl (G.2 0, 20, .inl (fun _ => 0))), (b21, .inl (G.2 0, 240, .inl (fun _ => 0))), (b32, .inl (G.2 0, 240, .inl (fun _ => 0))), (b22, .inl (G.2 0, 240, .inl (fun _ => 0))), (b33, .inl (G.2 0, 240, .inl (fun _ => 0))), (b0, .inr (0, [.ref b2, .ref b3, .ref b4, .ref b5, .int 1, .int 1, .ref b6, .ref b7, .ref b8, .ref b9, .ref b10, .ref b11, .ref b12, .ref b13, .ref b14, .ref b15, .ref b16, .ref b17, .ref b18, .ref b19])), (b7, .inr (3, [.int 0, .int 0, .int 0, .ref b34, .ref b35, .ref b36, .ref b37, .ref b38, .ref b39, .ref b40, .ref b41])), (b9, .inl (G.2 6, 4, .inr (.inr (.inr (.inr (va_up (va_up (va_up (va_up (fun _ => none) 0 (some b42)) 1 (some b43)) 2 (some b44)) 3 (some b45))))))), (b42, .inr (5, [.int 0, .int 0, .ref b46, .ref b47, .ref b48, .ref b49, .ref b50, .ref b51, .int 0, .ref b52, .ref b53, .ref b54, .ref b55, .ref b56, .ref b57])), (b43, .inr (5, [.int 0, .int 0, .ref b58, .ref b59, .ref b60, .ref b61, .ref b62, .ref b63, .int 0, .ref b64, .ref b65, .ref b66, .ref b67, .ref b68, .ref b69])), (b44, .inr (5, [.int 0, .int 0, .ref b70, .ref b71, .ref b72, .ref b73, .ref b74, .ref b75, .int 0, .ref b76, .ref b77, .ref b78, .ref b79, .ref b80, .ref b81])), (b45, .inr (5, [.int 0, .int 0, .ref b82, .ref b83, .ref b84, .ref b85, .ref b86, .ref b87, .int 0, .ref b88, .ref b89, .ref b90, .ref b91, .ref b92, .ref b93])), (b15, .inr (8, [.int 0, .int 0, .ref b94, .int 0, .int 0, .ref b95, .ref b96, .ref b97, .ref b98, .ref b99])), (b16, .inr (9, [.int 0, .int 0, .int 0, .ref b100, .int 0])), (b19, .inl (G.2 0, 8, .inl (fun _ => (-1))))] H := hP
      have hD := z_tie hP hD rfl
      refine W.widen (k := 0) (n := 0) (Nat.le_of_ble_eq_true rfl) (Nat.le_of_ble_eq_true rfl) ?_
      refine lv_iload_n hx hb d_X_depth_41 rfl (lv_at hl 0 rfl) ?_
      exact z_iret hx hb hr hlocks hP hD hS (Nat.le_of_ble_eq_true rfl) (Nat.le_of_ble_eq_true rfl) d_X_depth_42 (congrArg (fun z => some (Value.int z)) (by unfold a_depth; (first | rfl | (repeat (first | rw [if_pos (by omega)] | rw [if_neg (by omega)])))))
    · simp only [fa_lt, fa_le, fa_eq, Int32.toInt_toInt64, li_1] at hc_7
      refine lv_bipush (v := (-3)) hx hb d_X_depth_22 (by decide) ?_
      exact z_iret hx hb hr hlocks hP hD hS (Nat.le_of_ble_eq_true rfl) (Nat.le_of_ble_eq_true rfl) d_X_depth_24 (congrArg (fun z => some (Value.int z)) (by unfold a_depth; (first | rfl | (repeat (first | rw [if_pos (by omega)] | rw [if_neg (by omega)])))))
theorem d_X_margin_0 : decode prog_1_method_7_code 0 = .ok (.iload_n 1, 1) := by decide +kernel
theorem d_X_margin_1 : decode prog_1_method_7_code 1 = .ok (.ifCond .lt 9, 3) := by decide +kernel
theorem d_X_margin_4 : decode prog_1_method_7_code 4 = .ok (.iload_n 1, 1) := by decide +kernel
theorem d_X_margin_5 : decode prog_1_method_7_code 5 = .ok (.bipush 20, 2) := by decide +kernel
theorem d_X_margin_7 : decode prog_1_method_7_code 7 = .ok (.if_icmp .le 5, 3) := by decide +kernel
theorem d_X_margin_10 : decode prog_1_method_7_code 10 = .ok (.iconst (-1), 1) := by decide +kernel
theorem d_X_margin_11 : decode prog_1_method_7_code 11 = .ok (.ireturn, 1) := by decide +kernel
theorem d_X_margin_12 : decode prog_1_method_7_code 12 = .ok (.aload_n 0, 1) := by decide +kernel
theorem d_X_margin_13 : decode prog_1_method_7_code 13 = .ok (.getfield 19, 3) := by decide +kernel
theorem d_X_margin_16 : decode prog_1_method_7_code 16 = .ok (.getfield 159, 3) := by decide +kernel
theorem d_X_margin_19 : decode prog_1_method_7_code 19 = .ok (.istore_n 2, 1) := by decide +kernel
theorem d_X_margin_20 : decode prog_1_method_7_code 20 = .ok (.iload_n 2, 1) := by decide +kernel
theorem d_X_margin_21 : decode prog_1_method_7_code 21 = .ok (.iload_n 1, 1) := by decide +kernel
theorem d_X_margin_22 : decode prog_1_method_7_code 22 = .ok (.if_icmp .ne 6, 3) := by decide +kernel
theorem d_X_margin_25 : decode prog_1_method_7_code 25 = .ok (.bipush (-3), 2) := by decide +kernel
theorem d_X_margin_27 : decode prog_1_method_7_code 27 = .ok (.ireturn, 1) := by decide +kernel
theorem d_X_margin_28 : decode prog_1_method_7_code 28 = .ok (.aload_n 0, 1) := by decide +kernel
theorem d_X_margin_29 : decode prog_1_method_7_code 29 = .ok (.invokevirtual 137, 3) := by decide +kernel
theorem d_X_margin_32 : decode prog_1_method_7_code 32 = .ok (.aload_n 0, 1) := by decide +kernel
theorem d_X_margin_33 : decode prog_1_method_7_code 33 = .ok (.getfield 19, 3) := by decide +kernel
theorem d_X_margin_36 : decode prog_1_method_7_code 36 = .ok (.iload_n 1, 1) := by decide +kernel
theorem d_X_margin_37 : decode prog_1_method_7_code 37 = .ok (.putfield 159, 3) := by decide +kernel
theorem d_X_margin_40 : decode prog_1_method_7_code 40 = .ok (.aload_n 0, 1) := by decide +kernel
theorem d_X_margin_41 : decode prog_1_method_7_code 41 = .ok (.invokevirtual 140, 3) := by decide +kernel
theorem d_X_margin_44 : decode prog_1_method_7_code 44 = .ok (.iload_n 2, 1) := by decide +kernel
theorem d_X_margin_45 : decode prog_1_method_7_code 45 = .ok (.ireturn, 1) := by decide +kernel
theorem li_20 : (20 : Int32).toInt = 20 := by decide +kernel
abbrev m_t_X_margin : Room := { frames := 3, cells := 0, slots := 0, locals := 59 }
set_option maxHeartbeats 4000000 in
set_option maxRecDepth 100000 in
theorem t_X_margin (l : Launch) (G : zG) (b0 : Nat) (p0 : Int32) (b2 : Nat) (b3 : Nat) (b4 : Nat) (b5 : Nat) (b6 : Nat) (b7 : Nat) (b8 : Nat) (b9 : Nat) (b10 : Nat) (b11 : Nat) (b12 : Nat) (b13 : Nat) (b14 : Nat) (b15 : Nat) (b16 : Nat) (b17 : Nat) (b18 : Nat) (b19 : Nat) (b20 : Nat) (b21 : Nat) (b22 : Nat) (b23 : Nat) (b24 : Nat) (b25 : Nat) (b26 : Nat) (b27 : Nat) (b28 : Nat) (b29 : Nat) (b30 : Nat) (b31 : Nat) (b32 : Nat) (b33 : Nat) (b34 : Nat) (b35 : Nat) (b36 : Nat) (b37 : Nat) (b38 : Nat) (b39 : Nat) (b40 : Nat) (b41 : Nat) (b42 : Nat) (b43 : Nat) (b44 : Nat) (b45 : Nat) (b46 : Nat) (b47 : Nat) (b48 : Nat) (b49 : Nat) (b50 : Nat) (b51 : Nat) (b52 : Nat) (b53 : Nat) (b54 : Nat) (b55 : Nat) (b56 : Nat) (b57 : Nat) (b58 : Nat) (b59 : Nat) (b60 : Nat) (b61 : Nat) (b62 : Nat) (b63 : Nat) (b64 : Nat) (b65 : Nat) (b66 : Nat) (b67 : Nat) (b68 : Nat) (b69 : Nat) (b70 : Nat) (b71 : Nat) (b72 : Nat) (b73 : Nat) (b74 : Nat) (b75 : Nat) (b76 : Nat) (b77 : Nat) (b78 : Nat) (b79 : Nat) (b80 : Nat) (b81 : Nat) (b82 : Nat) (b83 : Nat) (b84 : Nat) (b85 : Nat) (b86 : Nat) (b87 : Nat) (b88 : Nat) (b89 : Nat) (b90 : Nat) (b91 : Nat) (b92 : Nat) (b93 : Nat) (b94 : Nat) (b95 : Nat) (b96 : Nat) (b97 : Nat) (b98 : Nat) (b99 : Nat) (b100 : Nat)  : zM l G y_X_margin prog_1_method_7_code 3 (Option.some Jvm.ClassFile.FieldType.int) m_t_X_margin [.ref b0, .int p0] [(b0, .inr (0, [.ref b2, .ref b3, .ref b4, .ref b5, .int 0, .int 0, .ref b6, .ref b7, .ref b8, .ref b9, .ref b10, .ref b11, .ref b12, .ref b13, .ref b14, .ref b15, .ref b16, .ref b17, .ref b18, .ref b19])), (b3, .inr (2, [.int 0, .int 1, .int 0, .ref b20, .ref b21, .ref b22])), (b5, .inl (G.2 5, 8, .inr (.inr (.inr (.inr (va_up (va_up (va_up (va_up (va_up (va_up (va_up (va_up (fun _ => none) 0 (some b23)) 1 (some b24)) 2 (some b25)) 3 (some b26)) 4 (some b27)) 5 (some b28)) 6 (some b29)) 7 (some b30))))))), (b23, .inr (2, [.int 0, .int 1, .int 0, .ref b31, .ref b32, .ref b33])), (b20, .inl (G.2 0, 20, .inl (fun _ => 0))), (b31, .inl (G.2 0, 20, .inl (fun _ => 0))), (b21, .inl (G.2 0, 240, .inl (fun _ => 0))), (b32, .inl (G.2 0, 240, .inl (fun _ => 0))), (b22, .inl (G.2 0, 240, .inl (fun _ => 0))), (b33, .inl (G.2 0, 240, .inl (fun _ => 0))), (b7, .inr (3, [.int 0, .int 0, .int 0, .ref b34, .ref b35, .ref b36, .ref b37, .ref b38, .ref b39, .ref b40, .ref b41])), (b9, .inl (G.2 6, 4, .inr (.inr (.inr (.inr (va_up (va_up (va_up (va_up (fun _ => none) 0 (some b42)) 1 (some b43)) 2 (some b44)) 3 (some b45))))))), (b42, .inr (5, [.int 0, .int 0, .ref b46, .ref b47, .ref b48, .ref b49, .ref b50, .ref b51, .int 0, .ref b52, .ref b53, .ref b54, .ref b55, .ref b56, .ref b57])), (b43, .inr (5, [.int 0, .int 0, .ref b58, .ref b59, .ref b60, .ref b61, .ref b62, .ref b63, .int 0, .ref b64, .ref b65, .ref b66, .ref b67, .ref b68, .ref b69])), (b44, .inr (5, [.int 0, .int 0, .ref b70, .ref b71, .ref b72, .ref b73, .ref b74, .ref b75, .int 0, .ref b76, .ref b77, .ref b78, .ref b79, .ref b80, .ref b81])), (b45, .inr (5, [.int 0, .int 0, .ref b82, .ref b83, .ref b84, .ref b85, .ref b86, .ref b87, .int 0, .ref b88, .ref b89, .ref b90, .ref b91, .ref b92, .ref b93])), (b15, .inr (8, [.int 0, .int 0, .ref b94, .int 0, .int 0, .ref b95, .ref b96, .ref b97, .ref b98, .ref b99])), (b16, .inr (9, [.int 0, .int 0, .int 0, .ref b100, .int 0])), (b19, .inl (G.2 0, 8, .inl (fun _ => (-1))))] (fun v _ => v = some (.int (a_margin p0))) := by
  refine z_start (by decide +kernel) (Nat.le_of_ble_eq_true rfl) ?_
  intro p e s m below meth c A Z hr hnm hA hP hD hS ls hl
  have Z : zC p s m _ meth c prog_1_method_7_code 3 "TraceMachines" G := Z
  obtain ⟨hx, hb, hml, hown, hts, hK, hN, hlocks⟩ := id Z
  have hl : lv_has ls 3 [(0, .ref b0), (1, .int p0)] := hl
  refine lv_iload_n hx hb d_X_margin_0 rfl (lv_at hl 1 rfl) ?_
  refine lv_if_lt (tgt := 10) hx hb d_X_margin_1 (by decide) (fun hc_1 => ?_) (fun hc_1 => ?_)
  · simp only [fa_lt, fa_le, fa_eq, Int32.toInt_toInt64, li_0] at hc_1
    refine lv_iconst (v := (-1)) hx hb d_X_margin_10 (by decide) ?_
    exact z_iret hx hb hr hlocks hP hD hS (Nat.le_of_ble_eq_true rfl) (Nat.le_of_ble_eq_true rfl) d_X_margin_11 (congrArg (fun z => some (Value.int z)) (by unfold a_margin; (first | rfl | (repeat (first | rw [if_pos (by omega)] | rw [if_neg (by omega)])))))
  · simp only [fa_lt, fa_le, fa_eq, Int32.toInt_toInt64, li_0] at hc_1
    refine lv_iload_n hx hb d_X_margin_4 rfl (lv_at hl 1 rfl) ?_
    refine lv_bipush (v := 20) hx hb d_X_margin_5 (by decide) ?_
    refine lv_icmp_le (tgt := 12) hx hb d_X_margin_7 (by decide) (fun hc_2 => ?_) (fun hc_2 => ?_)
    · simp only [fa_lt, fa_le, fa_eq, Int32.toInt_toInt64, li_20] at hc_2
      refine lv_aload_n hx hb d_X_margin_12 rfl (lv_at hl 0 rfl) ?_
      refine va_get (D := G.1) (ci := 0) (v := .ref b3) (C := R_X) (T := F_X) (N := 20) hx hb hts i_X hown hK hP 0 rfl rfl 1 (by decide) (hts _ q418) (fun _ h9 => h9) rfl d_X_margin_13 ?_
      refine va_get (D := G.1) (ci := 2) (v := .int 0) (C := R_Traces) (T := F_Traces) (N := 6) hx hb hts i_Traces hown hK hP 1 rfl rfl 2 (by decide) (hts _ q62) (fun _ h9 => h9) rfl d_X_margin_16 ?_
      refine lv_istore_n (lv' := [(2, .int 0), (0, .ref b0), (1, .int p0)]) hx hb d_X_margin_19 rfl hl (by decide) rfl (fun ls hl => ?_)
      refine lv_iload_n hx hb d_X_margin_20 rfl (lv_at hl 0 rfl) ?_
      refine lv_iload_n hx hb d_X_margin_21 rfl (lv_at hl 2 rfl) ?_
      refine lv_icmp_ne (tgt := 28) hx hb d_X_margin_22 (by decide) (fun hc_3 => ?_) (fun hc_3 => ?_)
      · simp only [fa_lt, fa_le, fa_eq, Int32.toInt_toInt64, li_0] at hc_3
        refine lv_aload_n hx hb d_X_margin_28 rfl (lv_at hl 1 rfl) ?_
        refine z_callV (index := 137) (As := []) (rest := []) (wr := [(b7, .inr (3, [.int 0, .int 0, .int 0, .ref b34, .ref b35, .ref b36, .ref b37, .ref b38, .ref b39, .ref b40, .ref b41])), (b9, .inl (G.2 6, 4, .inr (.inr (.inr (.inr (va_up (va_up (va_up (va_up (fun _ => none) 0 (some b42)) 1 (some b43)) 2 (some b44)) 3 (some b45))))))), (b42, .inr (5, [.int 0, .int 0, .ref b46, .ref b47, .ref b48, .ref b49, .ref b50, .ref b51, .int 0, .ref b52, .ref b53, .ref b54, .ref b55, .ref b56, .ref b57])), (b43, .inr (5, [.int 0, .int 0, .ref b58, .ref b59, .ref b60, .ref b61, .ref b62, .ref b63, .int 0, .ref b64, .ref b65, .ref b66, .ref b67, .ref b68, .ref b69])), (b44, .inr (5, [.int 0, .int 0, .ref b70, .ref b71, .ref b72, .ref b73, .ref b74, .ref b75, .int 0, .ref b76, .ref b77, .ref b78, .ref b79, .ref b80, .ref b81])), (b45, .inr (5, [.int 0, .int 0, .ref b82, .ref b83, .ref b84, .ref b85, .ref b86, .ref b87, .int 0, .ref b88, .ref b89, .ref b90, .ref b91, .ref b92, .ref b93])), (b15, .inr (8, [.int 0, .int 0, .ref b94, .int 0, .int 0, .ref b95, .ref b96, .ref b97, .ref b98, .ref b99])), (b16, .inr (9, [.int 0, .int 0, .int 0, .ref b100, .int 0])), (b19, .inl (G.2 0, 8, .inl (fun _ => (-1))))]) Z (c1_X_remember l G (b0) (b2) (b3) (b4) (b5) (b6) (b7) (b8) (b9) (b10) (b11) (b12) (b13) (b14) (b15) (b16) (b17) (b18) (b19) (b23) (b24) (b25) (b26) (b27) (b28) (b29) (b30) (b20) (b21) (b22) (b31) (b32) (b33)) hl.1 q524 q526 qs0 q1 q527 ⟨by decide, by decide, by show _ = some 0; decide +kernel⟩ ⟨Nat.le_of_ble_eq_true rfl, Nat.le_of_ble_eq_true rfl⟩ ⟨Nat.le_of_ble_eq_true rfl, Nat.le_of_ble_eq_true rfl⟩ rfl (Nat.le_of_ble_eq_true rfl) d_X_margin_29 hP hD hS hA 0 0 rfl rfl rfl [0, 2, 1, 3, 4, 5, 6, 7, 8, 9] [10, 11, 12, 13, 14, 15, 16, 17, 18] rfl rfl rfl rfl (by decide) (fun v w1 H locs hw_4 hP hD hS => ?_)
        obtain ⟨rfl, rfl⟩ := hw_4
        have hP : va_P G.1 classes [(b7, .inr (3, [.int 0, .int 0, .int 0, .ref b34, .ref b35, .ref b36, .ref b37, .ref b38, .ref b39, .ref b40, .ref b41])), (b9, .inl (G.2 6, 4, .inr (.inr (.inr (.inr (va_up (va_up (va_up (va_up (fun _ => none) 0 (some b42)) 1 (some b43)) 2 (some b44)) 3 (some b45))))))), (b42, .inr (5, [.int 0, .int 0, .ref b46, .ref b47, .ref b48, .ref b49, .ref b50, .ref b51, .int 0, .ref b52, .ref b53, .ref b54, .ref b55, .ref b56, .ref b57])), (b43, .inr (5, [.int 0, .int 0, .ref b58, .ref b59, .ref b60, .ref b61, .ref b62, .ref b63, .int 0, .ref b64, .ref b65, .ref b66, .ref b67, .ref b68, .ref b69])), (b44, .inr (5, [.int 0, .int 0, .ref b70, .ref b71, .ref b72, .ref b73, .ref b74, .ref b75, .int 0, .ref b76, .ref b77, .ref b78, .ref b79, .ref b80, .ref b81])), (b45, .inr (5, [.int 0, .int 0, .ref b82, .ref b83, .ref b84, .ref b85, .ref b86, .ref b87, .int 0, .ref b88, .ref b89, .ref b90, .ref b91, .ref b92, .ref b93])), (b15, .inr (8, [.int 0, .int 0, .ref b94, .int 0, .int 0, .ref b95, .ref b96, .ref b97, .ref b98, .ref b99])), (b16, .inr (9, [.int 0, .int 0, .int 0, .ref b100, .int 0])), (b19, .inl (G.2 0, 8, .inl (fun _ => (-1)))), (b0, .inr (0, [.ref b2, .ref b3, .ref b4, .ref b5, .int 1, .int 1, .ref b6, .ref b7, .ref b8, .ref b9, .ref b10, .ref b11, .ref b12, .ref b13, .ref b14, .ref b15, .ref b16, .ref b17, .ref b18, .ref b19])), (b5, .inl (G.2 5, 8, .inr (.inr (.inr (.inr (va_up (va_up (va_up (va_up (va_up (va_up (va_up (va_up (fun _ => none) 0 (some b23)) 1 (some b24)) 2 (some b25)) 3 (some b26)) 4 (some b27)) 5 (some b28)) 6 (some b29)) 7 (some b30))))))), (b3, .inr (2, [.int 0, .int 1, .int 0, .ref b20, .ref b21, .ref b22])), (b23, .inr (2, [.int 0, .int 1, .int 0, .ref b31, .ref b32, .ref b33])), (b20, .inl (G.2 0, 20, .inl (fun _ => 0))), (b31, .inl (G.2 0, 20, .inl (fun _ => 0))), (b21, .inl (G.2 0, 240, .inl (fun _ => 0))), (b32, .inl (G.2 0, 240, .inl (fun _ => 0))), (b22, .inl (G.2 0, 240, .inl (fun _ => 0))), (b33, .inl (G.2 0, 240, .inl (fun _ => 0)))] H := hP
        have hD := z_tie hP hD rfl
        refine W.widen (k := 0) (n := 0) (Nat.le_of_ble_eq_true rfl) (Nat.le_of_ble_eq_true rfl) ?_
        refine lv_aload_n hx hb d_X_margin_32 rfl (lv_at hl 1 rfl) ?_
        refine va_get (D := G.1) (ci := 0) (v := .ref b3) (C := R_X) (T := F_X) (N := 20) hx hb hts i_X hown hK hP 9 rfl rfl 1 (by decide) (hts _ q418) (fun _ h9 => h9) rfl d_X_margin_33 ?_
        refine lv_iload_n hx hb d_X_margin_36 rfl (lv_at hl 2 rfl) ?_
        refine va_put (D := G.1) (ci := 2) (v := .int p0) (ty := .int) (C := R_Traces) (T := F_Traces) (N := 6) hx hb hts i_Traces t_Traces t_Traces_ok n_Traces hown hK hP hD hS 11 rfl rfl 2 (by decide) (hts _ q62) (fun _ h9 => h9) rfl (by decide +kernel) rfl rfl (Nat.le_of_ble_eq_true rfl) d_X_margin_37 (fun H locs hP hD hS => ?_)
        have hP : va_P G.1 classes [(b7, .inr (3, [.int 0, .int 0, .int 0, .ref b34, .ref b35, .ref b36, .ref b37, .ref b38, .ref b39, .ref b40, .ref b41])), (b9, .inl (G.2 6, 4, .inr (.inr (.inr (.inr (va_up (va_up (va_up (va_up (fun _ => none) 0 (some b42)) 1 (some b43)) 2 (some b44)) 3 (some b45))))))), (b42, .inr (5, [.int 0, .int 0, .ref b46, .ref b47, .ref b48, .ref b49, .ref b50, .ref b51, .int 0, .ref b52, .ref b53, .ref b54, .ref b55, .ref b56, .ref b57])), (b43, .inr (5, [.int 0, .int 0, .ref b58, .ref b59, .ref b60, .ref b61, .ref b62, .ref b63, .int 0, .ref b64, .ref b65, .ref b66, .ref b67, .ref b68, .ref b69])), (b44, .inr (5, [.int 0, .int 0, .ref b70, .ref b71, .ref b72, .ref b73, .ref b74, .ref b75, .int 0, .ref b76, .ref b77, .ref b78, .ref b79, .ref b80, .ref b81])), (b45, .inr (5, [.int 0, .int 0, .ref b82, .ref b83, .ref b84, .ref b85, .ref b86, .ref b87, .int 0, .ref b88, .ref b89, .ref b90, .ref b91, .ref b92, .ref b93])), (b15, .inr (8, [.int 0, .int 0, .ref b94, .int 0, .int 0, .ref b95, .ref b96, .ref b97, .ref b98, .ref b99])), (b16, .inr (9, [.int 0, .int 0, .int 0, .ref b100, .int 0])), (b19, .inl (G.2 0, 8, .inl (fun _ => (-1)))), (b0, .inr (0, [.ref b2, .ref b3, .ref b4, .ref b5, .int 1, .int 1, .ref b6, .ref b7, .ref b8, .ref b9, .ref b10, .ref b11, .ref b12, .ref b13, .ref b14, .ref b15, .ref b16, .ref b17, .ref b18, .ref b19])), (b5, .inl (G.2 5, 8, .inr (.inr (.inr (.inr (va_up (va_up (va_up (va_up (va_up (va_up (va_up (va_up (fun _ => none) 0 (some b23)) 1 (some b24)) 2 (some b25)) 3 (some b26)) 4 (some b27)) 5 (some b28)) 6 (some b29)) 7 (some b30))))))), (b3, .inr (2, [.int 0, .int 1, .int p0, .ref b20, .ref b21, .ref b22])), (b23, .inr (2, [.int 0, .int 1, .int 0, .ref b31, .ref b32, .ref b33])), (b20, .inl (G.2 0, 20, .inl (fun _ => 0))), (b31, .inl (G.2 0, 20, .inl (fun _ => 0))), (b21, .inl (G.2 0, 240, .inl (fun _ => 0))), (b32, .inl (G.2 0, 240, .inl (fun _ => 0))), (b22, .inl (G.2 0, 240, .inl (fun _ => 0))), (b33, .inl (G.2 0, 240, .inl (fun _ => 0)))] H := hP
        have hD := z_tie hP hD rfl
        refine lv_aload_n hx hb d_X_margin_40 rfl (lv_at hl 1 rfl) ?_
        refine z_callV (index := 140) (As := []) (rest := []) (wr := [(b5, .inl (G.2 5, 8, .inr (.inr (.inr (.inr (va_up (va_up (va_up (va_up (va_up (va_up (va_up (va_up (fun _ => none) 0 (some b23)) 1 (some b24)) 2 (some b25)) 3 (some b26)) 4 (some b27)) 5 (some b28)) 6 (some b29)) 7 (some b30))))))), (b3, .inr (2, [.int 0, .int 1, .int p0, .ref b20, .ref b21, .ref b22])), (b23, .inr (2, [.int 0, .int 1, .int 0, .ref b31, .ref b32, .ref b33])), (b20, .inl (G.2 0, 20, .inl (fun _ => 0))), (b31, .inl (G.2 0, 20, .inl (fun _ => 0))), (b21, .inl (G.2 0, 240, .inl (fun _ => 0))), (b32, .inl (G.2 0, 240, .inl (fun _ => 0))), (b22, .inl (G.2 0, 240, .inl (fun _ => 0))), (b33, .inl (G.2 0, 240, .inl (fun _ => 0)))]) Z (c1_X_forgetFound l G (b0) (b2) (b3) (b4) (b5) (b6) (b7) (b8) (b9) (b10) (b11) (b12) (b13) (b14) (b15) (b16) (b17) (b18) (b19) (b34) (b35) (b36) (b37) (b38) (b39) (b40) (b41) (b42) (b43) (b44) (b45) (b46) (b47) (b48) (b49) (b50) (b51) (b52) (b53) (b54) (b55) (b56) (b57) (b58) (b59) (b60) (b61) (b62) (b63) (b64) (b65) (b66) (b67) (b68) (b69) (b70) (b71) (b72) (b73) (b74) (b75) (b76) (b77) (b78) (b79) (b80) (b81) (b82) (b83) (b84) (b85) (b86) (b87) (b88) (b89) (b90) (b91) (b92) (b93) (b94) (b95) (b96) (b97) (b98) (b99) (b100)) hl.1 q528 q530 qs1 q1 q531 ⟨by decide, by decide, by show _ = some 0; decide +kernel⟩ ⟨Nat.le_of_ble_eq_true rfl, Nat.le_of_ble_eq_true rfl⟩ ⟨Nat.le_of_ble_eq_true rfl, Nat.le_of_ble_eq_true rfl⟩ rfl (Nat.le_of_ble_eq_true rfl) d_X_margin_41 hP hD hS hA 9 0 rfl rfl rfl [9, 0, 1, 2, 3, 4, 5, 6, 7, 8] [10, 11, 12, 13, 14, 15, 16, 17, 18] rfl rfl rfl rfl (by decide) (fun v w1 H locs hw_5 hP hD hS => ?_)
        obtain ⟨rfl, rfl⟩ := hw_5
        have hP : va_P G.1 classes [(b5, .inl (G.2 5, 8, .inr (.inr (.inr (.inr (va_up (va_up (va_up (va_up (va_up (va_up (va_up (va_up (fun _ => none) 0 (some b23)) 1 (some b24)) 2 (some b25)) 3 (some b26)) 4 (some b27)) 5 (some b28)) 6 (some b29)) 7 (some b30))))))), (b3, .inr (2, [.int 0, .int 1, .int p0, .ref b20, .ref b21, .ref b22])), (b23, .inr (2, [.int 0, .int 1, .int 0, .ref b31, .ref b32, .ref b33])), (b20, .inl (G.2 0, 20, .inl (fun _ => 0))), (b31, .inl (G.2 0, 20, .inl (fun _ => 0))), (b21, .inl (G.2 0, 240, .inl (fun _ => 0))), (b32, .inl (G.2 0, 240, .inl (fun _ => 0))), (b22, .inl (G.2 0, 240, .inl (fun _ => 0))), (b33, .inl (G.2 0, 240, .inl (fun _ => 0))), (b0, .inr (0, [.ref b2, .ref b3, .ref b4, .ref b5, .int 1, .int 1, .ref b6, .ref b7, .ref b8, .ref b9, .ref b10, .ref b11, .ref b12, .ref b13, .ref b14, .ref b15, .ref b16, .ref b17, .ref b18, .ref b19])), (b7, .inr (3, [.int 0, .int 0, .int 0, .ref b34, .ref b35, .ref b36, .ref b37, .ref b38, .ref b39, .ref b40, .ref b41])), (b9, .inl (G.2 6, 4, .inr (.inr (.inr (.inr (va_up (va_up (va_up (va_up (fun _ => none) 0 (some b42)) 1 (some b43)) 2 (some b44)) 3 (some b45))))))), (b42, .inr (5, [.int 0, .int 0, .ref b46, .ref b47, .ref b48, .ref b49, .ref b50, .ref b51, .int 0, .ref b52, .ref b53, .ref b54, .ref b55, .ref b56, .ref b57])), (b43, .inr (5, [.int 0, .int 0, .ref b58, .ref b59, .ref b60, .ref b61, .ref b62, .ref b63, .int 0, .ref b64, .ref b65, .ref b66, .ref b67, .ref b68, .ref b69])), (b44, .inr (5, [.int 0, .int 0, .ref b70, .ref b71, .ref b72, .ref b73, .ref b74, .ref b75, .int 0, .ref b76, .ref b77, .ref b78, .ref b79, .ref b80, .ref b81])), (b45, .inr (5, [.int 0, .int 0, .ref b82, .ref b83, .ref b84, .ref b85, .ref b86, .ref b87, .int 0, .ref b88, .ref b89, .ref b90, .ref b91, .ref b92, .ref b93])), (b15, .inr (8, [.int 0, .int 0, .ref b94, .int 0, .int 0, .ref b95, .ref b96, .ref b97, .ref b98, .ref b99])), (b16, .inr (9, [.int 0, .int 0, .int 0, .ref b100, .int 0])), (b19, .inl (G.2 0, 8, .inl (fun _ => (-1))))] H := hP
        have hD := z_tie hP hD rfl
        refine W.widen (k := 0) (n := 0) (Nat.le_of_ble_eq_true rfl) (Nat.le_of_ble_eq_true rfl) ?_
        refine lv_iload_n hx hb d_X_margin_44 rfl (lv_at hl 0 rfl) ?_
        exact z_iret hx hb hr hlocks hP hD hS (Nat.le_of_ble_eq_true rfl) (Nat.le_of_ble_eq_true rfl) d_X_margin_45 (congrArg (fun z => some (Value.int z)) (by unfold a_margin; (first | rfl | (repeat (first | rw [if_pos (by omega)] | rw [if_neg (by omega)])))))
      · simp only [fa_lt, fa_le, fa_eq, Int32.toInt_toInt64, li_0] at hc_3
        refine lv_bipush (v := (-3)) hx hb d_X_margin_25 (by decide) ?_
        exact z_iret hx hb hr hlocks hP hD hS (Nat.le_of_ble_eq_true rfl) (Nat.le_of_ble_eq_true rfl) d_X_margin_27 (congrArg (fun z => some (Value.int z)) (by unfold a_margin; (first | rfl | (repeat (first | rw [if_pos (by omega)] | rw [if_neg (by omega)])))))
    · simp only [fa_lt, fa_le, fa_eq, Int32.toInt_toInt64, li_20] at hc_2
      refine lv_iconst (v := (-1)) hx hb d_X_margin_10 (by decide) ?_
      exact z_iret hx hb hr hlocks hP hD hS (Nat.le_of_ble_eq_true rfl) (Nat.le_of_ble_eq_true rfl) d_X_margin_11 (congrArg (fun z => some (Value.int z)) (by unfold a_margin; (first | rfl | (repeat (first | rw [if_pos (by omega)] | rw [if_neg (by omega)])))))
theorem d_X_undo_0 : decode prog_1_method_8_code 0 = .ok (.aload_n 0, 1) := by decide +kernel
theorem d_X_undo_1 : decode prog_1_method_8_code 1 = .ok (.getfield 162, 3) := by decide +kernel
theorem d_X_undo_4 : decode prog_1_method_8_code 4 = .ok (.ifCond .ne 6, 3) := by decide +kernel
theorem d_X_undo_7 : decode prog_1_method_8_code 7 = .ok (.bipush (-3), 2) := by decide +kernel
theorem d_X_undo_9 : decode prog_1_method_8_code 9 = .ok (.ireturn, 1) := by decide +kernel
abbrev m_t_X_undo : Room := { frames := 0, cells := 0, slots := 0, locals := 0 }
set_option maxHeartbeats 4000000 in
set_option maxRecDepth 100000 in
theorem t_X_undo (l : Launch) (G : zG) (b0 : Nat) (b1 : Nat) (b2 : Nat) (b3 : Nat) (b4 : Nat) (b5 : Nat) (b6 : Nat) (b7 : Nat) (b8 : Nat) (b9 : Nat) (b10 : Nat) (b11 : Nat) (b12 : Nat) (b13 : Nat) (b14 : Nat) (b15 : Nat) (b16 : Nat) (b17 : Nat) (b18 : Nat)  : zM l G y_X_undo prog_1_method_8_code 1 (Option.some Jvm.ClassFile.FieldType.int) m_t_X_undo [.ref b0] [(b0, .inr (0, [.ref b1, .ref b2, .ref b3, .ref b4, .int 0, .int 0, .ref b5, .ref b6, .ref b7, .ref b8, .ref b9, .ref b10, .ref b11, .ref b12, .ref b13, .ref b14, .ref b15, .ref b16, .ref b17, .ref b18]))] (fun v _ => v = some (.int (a_undo))) := by
  refine z_start (by decide +kernel) (Nat.le_of_ble_eq_true rfl) ?_
  intro p e s m below meth c A Z hr hnm hA hP hD hS ls hl
  have Z : zC p s m _ meth c prog_1_method_8_code 1 "TraceMachines" G := Z
  obtain ⟨hx, hb, hml, hown, hts, hK, hN, hlocks⟩ := id Z
  have hl : lv_has ls 1 [(0, .ref b0)] := hl
  refine lv_aload_n hx hb d_X_undo_0 rfl (lv_at hl 0 rfl) ?_
  refine va_get (D := G.1) (ci := 0) (v := .int 0) (C := R_X) (T := F_X) (N := 20) hx hb hts i_X hown hK hP 0 rfl rfl 5 (by decide) (hts _ q422) (fun _ h9 => h9) rfl d_X_undo_1 ?_
  refine lv_if_ne (tgt := 10) hx hb d_X_undo_4 (by decide) (fun hc => absurd hc (by decide +kernel)) (fun _ => ?_)
  refine lv_bipush (v := (-3)) hx hb d_X_undo_7 (by decide) ?_
  exact z_iret hx hb hr hlocks hP hD hS (Nat.le_of_ble_eq_true rfl) (Nat.le_of_ble_eq_true rfl) d_X_undo_9 (congrArg (fun z => some (Value.int z)) (by unfold a_undo; (first | rfl | (repeat (first | rw [if_pos (by omega)] | rw [if_neg (by omega)])))))
theorem d_X_state_0 : decode prog_1_method_10_code 0 = .ok (.aload_n 0, 1) := by decide +kernel
theorem d_X_state_1 : decode prog_1_method_10_code 1 = .ok (.aload_n 0, 1) := by decide +kernel
theorem d_X_state_2 : decode prog_1_method_10_code 2 = .ok (.getfield 19, 3) := by decide +kernel
theorem d_X_state_5 : decode prog_1_method_10_code 5 = .ok (.getfield 156, 3) := by decide +kernel
theorem d_X_state_8 : decode prog_1_method_10_code 8 = .ok (.invokevirtual 189, 3) := by decide +kernel
theorem d_X_machine_0 : decode prog_1_method_37_code 0 = .ok (.aload_n 0, 1) := by decide +kernel
theorem d_X_machine_1 : decode prog_1_method_37_code 1 = .ok (.getfield 49, 3) := by decide +kernel
theorem d_X_machine_4 : decode prog_1_method_37_code 4 = .ok (.iload_n 1, 1) := by decide +kernel
theorem d_X_machine_5 : decode prog_1_method_37_code 5 = .ok (.aaload, 1) := by decide +kernel
theorem d_X_machine_6 : decode prog_1_method_37_code 6 = .ok (.astore_n 2, 1) := by decide +kernel
theorem d_X_machine_7 : decode prog_1_method_37_code 7 = .ok (.aload_n 0, 1) := by decide +kernel
theorem d_X_machine_8 : decode prog_1_method_37_code 8 = .ok (.getfield 36, 3) := by decide +kernel
theorem d_X_machine_11 : decode prog_1_method_37_code 11 = .ok (.getfield 357, 3) := by decide +kernel
theorem d_X_machine_14 : decode prog_1_method_37_code 14 = .ok (.ifCond .ne 15, 3) := by decide +kernel
theorem d_X_machine_17 : decode prog_1_method_37_code 17 = .ok (.aload_n 0, 1) := by decide +kernel
theorem d_X_machine_18 : decode prog_1_method_37_code 18 = .ok (.getfield 36, 3) := by decide +kernel
theorem d_X_machine_21 : decode prog_1_method_37_code 21 = .ok (.aload_n 0, 1) := by decide +kernel
theorem d_X_machine_22 : decode prog_1_method_37_code 22 = .ok (.getfield 19, 3) := by decide +kernel
theorem d_X_machine_25 : decode prog_1_method_37_code 25 = .ok (.iconst (-1), 1) := by decide +kernel
theorem d_X_machine_26 : decode prog_1_method_37_code 26 = .ok (.invokevirtual 360, 3) := by decide +kernel
theorem d_Tree_grow_0 : decode prog_11_method_3_code 0 = .ok (.aload_n 0, 1) := by decide +kernel
theorem d_Tree_grow_1 : decode prog_11_method_3_code 1 = .ok (.iconst 1, 1) := by decide +kernel
theorem d_Tree_grow_2 : decode prog_11_method_3_code 2 = .ok (.putfield 36, 3) := by decide +kernel
theorem d_Tree_grow_5 : decode prog_11_method_3_code 5 = .ok (.aload_n 0, 1) := by decide +kernel
theorem d_Tree_grow_6 : decode prog_11_method_3_code 6 = .ok (.iload_n 2, 1) := by decide +kernel
theorem d_Tree_grow_7 : decode prog_11_method_3_code 7 = .ok (.putfield 40, 3) := by decide +kernel
theorem d_Tree_grow_10 : decode prog_11_method_3_code 10 = .ok (.aload_n 0, 1) := by decide +kernel
theorem d_Tree_grow_11 : decode prog_11_method_3_code 11 = .ok (.iconst 0, 1) := by decide +kernel
theorem d_Tree_grow_12 : decode prog_11_method_3_code 12 = .ok (.putfield 44, 3) := by decide +kernel
theorem d_Tree_grow_15 : decode prog_11_method_3_code 15 = .ok (.iconst 0, 1) := by decide +kernel
theorem d_Tree_grow_16 : decode prog_11_method_3_code 16 = .ok (.istore_n 3, 1) := by decide +kernel
theorem d_Tree_grow_17 : decode prog_11_method_3_code 17 = .ok (.iload_n 3, 1) := by decide +kernel
theorem d_Tree_grow_18 : decode prog_11_method_3_code 18 = .ok (.aload_n 1, 1) := by decide +kernel
theorem d_Tree_grow_19 : decode prog_11_method_3_code 19 = .ok (.getfield 47, 3) := by decide +kernel
theorem d_Tree_grow_22 : decode prog_11_method_3_code 22 = .ok (.if_icmp .ge 23, 3) := by decide +kernel
theorem d_Tree_grow_45 : decode prog_11_method_3_code 45 = .ok (.return_, 1) := by decide +kernel
abbrev m_c1_Tree_grow : Room := { frames := 0, cells := 0, slots := 0, locals := 0 }
set_option maxHeartbeats 4000000 in
set_option maxRecDepth 100000 in
theorem c1_Tree_grow (l : Launch) (G : zG) (b0 : Nat) (b1 : Nat) (b2 : Nat) (b3 : Nat) (b4 : Nat) (b5 : Nat) (b6 : Nat) (b7 : Nat) (b8 : Nat) (b9 : Nat) (b10 : Nat) (b11 : Nat) (b12 : Nat)  : zM l G y_Tree_grow prog_11_method_3_code 4 (Option.none : Option Jvm.ClassFile.FieldType) m_c1_Tree_grow [.ref b0, .ref b1, .int (-1)] [(b0, .inr (3, [.int 0, .int 0, .int 0, .ref b2, .ref b3, .ref b4, .ref b5, .ref b6, .ref b7, .ref b8, .ref b9])), (b1, .inr (2, [.int 0, .int 1, .int 0, .ref b10, .ref b11, .ref b12]))] (fun v w => (v = none ∧ w = [(b0, .inr (3, [.int 1, .int (-1), .int 0, .ref b2, .ref b3, .ref b4, .ref b5, .ref b6, .ref b7, .ref b8, .ref b9])), (b1, .inr (2, [.int 0, .int 1, .int 0, .ref b10, .ref b11, .ref b12]))])) := by
  refine z_start (by decide +kernel) (Nat.le_of_ble_eq_true rfl) ?_
  intro p e s m below meth c A Z hr hnm hA hP hD hS ls hl
  have Z : zC p s m _ meth c prog_11_method_3_code 4 "TraceMachines$Tree" G := Z
  obtain ⟨hx, hb, hml, hown, hts, hK, hN, hlocks⟩ := id Z
  have hl : lv_has ls 4 [(0, .ref b0), (1, .ref b1), (2, .int (-1))] := hl
  refine lv_aload_n hx hb d_Tree_grow_0 rfl (lv_at hl 0 rfl) ?_
  refine lv_iconst (v := 1) hx hb d_Tree_grow_1 (by decide) ?_
  refine va_put (D := G.1) (ci := 3) (v := .int 1) (ty := .boolean) (C := R_Tree) (T := F_Tree) (N := 11) hx hb hts i_Tree t_Tree t_Tree_ok n_Tree hown hK hP hD hS 0 rfl rfl 0 (by decide) (hts _ q95) (fun _ h9 => h9) rfl (by decide +kernel) rfl rfl (Nat.le_of_ble_eq_true rfl) d_Tree_grow_2 (fun H locs hP hD hS => ?_)
  have hP : va_P G.1 classes [(b0, .inr (3, [.int 1, .int 0, .int 0, .ref b2, .ref b3, .ref b4, .ref b5, .ref b6, .ref b7, .ref b8, .ref b9])), (b1, .inr (2, [.int 0, .int 1, .int 0, .ref b10, .ref b11, .ref b12]))] H := hP
  have hD := z_tie hP hD rfl
  refine lv_aload_n hx hb d_Tree_grow_5 rfl (lv_at hl 0 rfl) ?_
  refine lv_iload_n hx hb d_Tree_grow_6 rfl (lv_at hl 2 rfl) ?_
  refine va_put (D := G.1) (ci := 3) (v := .int (-1)) (ty := .int) (C := R_Tree) (T := F_Tree) (N := 11) hx hb hts i_Tree t_Tree t_Tree_ok n_Tree hown hK hP hD hS 0 rfl rfl 1 (by decide) (hts _ q98) (fun _ h9 => h9) rfl (by decide +kernel) rfl rfl (Nat.le_of_ble_eq_true rfl) d_Tree_grow_7 (fun H locs hP hD hS => ?_)
  have hP : va_P G.1 classes [(b0, .inr (3, [.int 1, .int (-1), .int 0, .ref b2, .ref b3, .ref b4, .ref b5, .ref b6, .ref b7, .ref b8, .ref b9])), (b1, .inr (2, [.int 0, .int 1, .int 0, .ref b10, .ref b11, .ref b12]))] H := hP
  have hD := z_tie hP hD rfl
  refine lv_aload_n hx hb d_Tree_grow_10 rfl (lv_at hl 0 rfl) ?_
  refine lv_iconst (v := 0) hx hb d_Tree_grow_11 (by decide) ?_
  refine va_put (D := G.1) (ci := 3) (v := .int 0) (ty := .int) (C := R_Tree) (T := F_Tree) (N := 11) hx hb hts i_Tree t_Tree t_Tree_ok n_Tree hown hK hP hD hS 0 rfl rfl 2 (by decide) (hts _ q100) (fun _ h9 => h9) rfl (by decide +kernel) rfl rfl (Nat.le_of_ble_eq_true rfl) d_Tree_grow_12 (fun H locs hP hD hS => ?_)
  have hP : va_P G.1 classes [(b0, .inr (3, [.int 1, .int (-1), .int 0, .ref b2, .ref b3, .ref b4, .ref b5, .ref b6, .ref b7, .ref b8, .ref b9])), (b1, .inr (2, [.int 0, .int 1, .int 0, .ref b10, .ref b11, .ref b12]))] H := hP
  have hD := z_tie hP hD rfl
  refine lv_iconst (v := 0) hx hb d_Tree_grow_15 (by decide) ?_
  refine lv_istore_n (lv' := [(3, .int 0), (0, .ref b0), (1, .ref b1), (2, .int (-1))]) hx hb d_Tree_grow_16 rfl hl (by decide) rfl (fun ls hl => ?_)
  refine lv_iload_n hx hb d_Tree_grow_17 rfl (lv_at hl 0 rfl) ?_
  refine lv_aload_n hx hb d_Tree_grow_18 rfl (lv_at hl 2 rfl) ?_
  refine va_get (D := G.1) (ci := 2) (v := .int 0) (C := R_Traces) (T := F_Traces) (N := 6) hx hb hts i_Traces hown hK hP 1 rfl rfl 0 (by decide) (hts _ q57) (fun _ h9 => h9) rfl d_Tree_grow_19 ?_
  refine lv_icmp_ge (tgt := 45) hx hb d_Tree_grow_22 (by decide) (fun _ => ?_) (fun hc => absurd hc (by decide +kernel))
  exact z_vret hx hb hr hlocks hP hD hS (Nat.le_of_ble_eq_true rfl) (Nat.le_of_ble_eq_true rfl) d_Tree_grow_45 ⟨rfl, rfl⟩
theorem d_X_machine_29 : decode prog_1_method_37_code 29 = .ok (.aload_n 2, 1) := by decide +kernel
theorem d_X_machine_30 : decode prog_1_method_37_code 30 = .ok (.getfield 358, 3) := by decide +kernel
theorem d_X_machine_33 : decode prog_1_method_37_code 33 = .ok (.ifCond .ne 20, 3) := by decide +kernel
theorem d_X_machine_36 : decode prog_1_method_37_code 36 = .ok (.aload_n 2, 1) := by decide +kernel
theorem d_X_machine_37 : decode prog_1_method_37_code 37 = .ok (.aload_n 0, 1) := by decide +kernel
theorem d_X_machine_38 : decode prog_1_method_37_code 38 = .ok (.getfield 19, 3) := by decide +kernel
theorem d_X_machine_41 : decode prog_1_method_37_code 41 = .ok (.aload_n 0, 1) := by decide +kernel
theorem d_X_machine_42 : decode prog_1_method_37_code 42 = .ok (.getfield 36, 3) := by decide +kernel
theorem d_X_machine_45 : decode prog_1_method_37_code 45 = .ok (.aload_n 0, 1) := by decide +kernel
theorem d_X_machine_46 : decode prog_1_method_37_code 46 = .ok (.getfield 43, 3) := by decide +kernel
theorem d_X_machine_49 : decode prog_1_method_37_code 49 = .ok (.iload_n 1, 1) := by decide +kernel
theorem d_X_machine_50 : decode prog_1_method_37_code 50 = .ok (.invokevirtual 364, 3) := by decide +kernel
theorem d_Machine_fold_0 : decode prog_4_method_5_code 0 = .ok (.aload_n 0, 1) := by decide +kernel
theorem d_Machine_fold_1 : decode prog_4_method_5_code 1 = .ok (.iconst 1, 1) := by decide +kernel
theorem d_Machine_fold_2 : decode prog_4_method_5_code 2 = .ok (.putfield 51, 3) := by decide +kernel
theorem d_Machine_fold_5 : decode prog_4_method_5_code 5 = .ok (.aload_n 3, 1) := by decide +kernel
theorem d_Machine_fold_6 : decode prog_4_method_5_code 6 = .ok (.aload_n 1, 1) := by decide +kernel
theorem d_Machine_fold_7 : decode prog_4_method_5_code 7 = .ok (.aload_n 2, 1) := by decide +kernel
theorem d_Machine_fold_8 : decode prog_4_method_5_code 8 = .ok (.iload 4, 2) := by decide +kernel
theorem d_Machine_fold_10 : decode prog_4_method_5_code 10 = .ok (.invokevirtual 55, 3) := by decide +kernel
theorem d_Follows_gather_0 : decode prog_3_method_2_code 0 = .ok (.aload_n 0, 1) := by decide +kernel
theorem d_Follows_gather_1 : decode prog_3_method_2_code 1 = .ok (.getfield 18, 3) := by decide +kernel
theorem d_Follows_gather_4 : decode prog_3_method_2_code 4 = .ok (.iconst (-1), 1) := by decide +kernel
theorem d_Follows_gather_5 : decode prog_3_method_2_code 5 = .ok (.invokestatic 21, 3) := by decide +kernel
theorem d_Follows_gather_8 : decode prog_3_method_2_code 8 = .ok (.iconst 0, 1) := by decide +kernel
theorem d_Follows_gather_9 : decode prog_3_method_2_code 9 = .ok (.istore 4, 2) := by decide +kernel
theorem d_Follows_gather_11 : decode prog_3_method_2_code 11 = .ok (.iload 4, 2) := by decide +kernel
theorem d_Follows_gather_13 : decode prog_3_method_2_code 13 = .ok (.aload_n 2, 1) := by decide +kernel
theorem d_Follows_gather_14 : decode prog_3_method_2_code 14 = .ok (.getfield 27, 3) := by decide +kernel
theorem d_Follows_gather_17 : decode prog_3_method_2_code 17 = .ok (.if_icmp .ge 17, 3) := by decide +kernel
theorem d_Follows_gather_34 : decode prog_3_method_2_code 34 = .ok (.iconst 0, 1) := by decide +kernel
theorem d_Follows_gather_35 : decode prog_3_method_2_code 35 = .ok (.istore 4, 2) := by decide +kernel
theorem d_Follows_gather_37 : decode prog_3_method_2_code 37 = .ok (.iload 4, 2) := by decide +kernel
theorem d_Follows_gather_39 : decode prog_3_method_2_code 39 = .ok (.aload_n 1, 1) := by decide +kernel
theorem d_Follows_gather_40 : decode prog_3_method_2_code 40 = .ok (.getfield 33, 3) := by decide +kernel
theorem d_Follows_gather_43 : decode prog_3_method_2_code 43 = .ok (.if_icmp .ge 60, 3) := by decide +kernel
theorem d_Follows_gather_103 : decode prog_3_method_2_code 103 = .ok (.return_, 1) := by decide +kernel
abbrev m_c1_Follows_gather : Room := { frames := 1, cells := 0, slots := 0, locals := 23 }
set_option maxHeartbeats 4000000 in
set_option maxRecDepth 100000 in
theorem c1_Follows_gather (l : Launch) (G : zG) (b0 : Nat) (b1 : Nat) (b2 : Nat) (b3 : Nat) (b4 : Nat) (b5 : Nat) (b6 : Nat) (b7 : Nat) (b8 : Nat) (b9 : Nat) (b10 : Nat) (b11 : Nat) (b12 : Nat) (b13 : Nat) (b14 : Nat) (b15 : Nat) (b16 : Nat)  : zM l G y_Follows_gather prog_3_method_2_code 6 (Option.none : Option Jvm.ClassFile.FieldType) m_c1_Follows_gather [.ref b0, .ref b1, .ref b2, .int 1] [(b0, .inr (4, [.ref b3, .ref b4, .ref b5])), (b5, .inl (G.2 0, 512, .inl (fun _ => 0))), (b2, .inr (3, [.int 1, .int (-1), .int 0, .ref b6, .ref b7, .ref b8, .ref b9, .ref b10, .ref b11, .ref b12, .ref b13])), (b1, .inr (2, [.int 0, .int 1, .int 0, .ref b14, .ref b15, .ref b16]))] (fun v w => (v = none ∧ w = [(b0, .inr (4, [.ref b3, .ref b4, .ref b5])), (b2, .inr (3, [.int 1, .int (-1), .int 0, .ref b6, .ref b7, .ref b8, .ref b9, .ref b10, .ref b11, .ref b12, .ref b13])), (b1, .inr (2, [.int 0, .int 1, .int 0, .ref b14, .ref b15, .ref b16])), (b5, .inl (G.2 0, 512, .inl (fun _ => (-1))))])) := by
  refine z_start (by decide +kernel) (Nat.le_of_ble_eq_true rfl) ?_
  intro p e s m below meth c A Z hr hnm hA hP hD hS ls hl
  have Z : zC p s m _ meth c prog_3_method_2_code 6 "TraceMachines$Follows" G := Z
  obtain ⟨hx, hb, hml, hown, hts, hK, hN, hlocks⟩ := id Z
  have hl : lv_has ls 6 [(0, .ref b0), (1, .ref b1), (2, .ref b2), (3, .int 1)] := hl
  refine lv_aload_n hx hb d_Follows_gather_0 rfl (lv_at hl 0 rfl) ?_
  refine va_get (D := G.1) (ci := 4) (v := .ref b5) (C := R_Follows) (T := F_Follows) (N := 3) hx hb hts i_Follows hown hK hP 0 rfl rfl 2 (by decide) (hts _ q149) (fun _ h9 => h9) rfl d_Follows_gather_1 ?_
  refine lv_iconst (v := (-1)) hx hb d_Follows_gather_4 (by decide) ?_
  refine z_callS (index := 21) (As := [.ref b5, .int (-1)]) (rest := []) (wr := [(b0, .inr (4, [.ref b3, .ref b4, .ref b5])), (b2, .inr (3, [.int 1, .int (-1), .int 0, .ref b6, .ref b7, .ref b8, .ref b9, .ref b10, .ref b11, .ref b12, .ref b13])), (b1, .inr (2, [.int 0, .int 1, .int 0, .ref b14, .ref b15, .ref b16]))]) Z (c_fill_I l G (b5) (512) ((fun _ => 0)) ((-1)) (by first | assumption | decide +kernel | omega)) hl.1 q605 q415 q13 q416 ⟨by decide, by decide, by show _ = some 2; decide +kernel⟩ ⟨Nat.le_of_ble_eq_true rfl, Nat.le_of_ble_eq_true rfl⟩ ⟨Nat.le_of_ble_eq_true rfl, Nat.le_of_ble_eq_true rfl⟩ rfl (Nat.le_of_ble_eq_true rfl) d_Follows_gather_5 hP hD hS hA [1] [0, 2, 3] rfl rfl rfl rfl (by decide) (fun v w1 H locs hw_1 hP hD hS => ?_)
  obtain ⟨rfl, rfl⟩ := hw_1
  have hP : va_P G.1 classes [(b0, .inr (4, [.ref b3, .ref b4, .ref b5])), (b2, .inr (3, [.int 1, .int (-1), .int 0, .ref b6, .ref b7, .ref b8, .ref b9, .ref b10, .ref b11, .ref b12, .ref b13])), (b1, .inr (2, [.int 0, .int 1, .int 0, .ref b14, .ref b15, .ref b16])), (b5, .inl (G.2 0, 512, .inl (fun _ => (-1))))] H := hP
  have hD := z_tie hP hD rfl
  refine W.widen (k := 0) (n := 0) (Nat.le_of_ble_eq_true rfl) (Nat.le_of_ble_eq_true rfl) ?_
  refine lv_iconst (v := 0) hx hb d_Follows_gather_8 (by decide) ?_
  refine lv_istore (lv' := [(4, .int 0), (0, .ref b0), (1, .ref b1), (2, .ref b2), (3, .int 1)]) hx hb d_Follows_gather_9 hl (by decide) rfl (fun ls hl => ?_)
  refine lv_iload hx hb d_Follows_gather_11 (lv_at hl 0 rfl) ?_
  refine lv_aload_n hx hb d_Follows_gather_13 rfl (lv_at hl 3 rfl) ?_
  refine va_get (D := G.1) (ci := 3) (v := .int 0) (C := R_Tree) (T := F_Tree) (N := 11) hx hb hts i_Tree hown hK hP 1 rfl rfl 2 (by decide) (hts _ q99) (fun _ h9 => h9) rfl d_Follows_gather_14 ?_
  refine lv_icmp_ge (tgt := 34) hx hb d_Follows_gather_17 (by decide) (fun _ => ?_) (fun hc => absurd hc (by decide +kernel))
  refine lv_iconst (v := 0) hx hb d_Follows_gather_34 (by decide) ?_
  refine lv_istore (lv' := [(4, .int 0), (0, .ref b0), (1, .ref b1), (2, .ref b2), (3, .int 1)]) hx hb d_Follows_gather_35 hl (by decide) rfl (fun ls hl => ?_)
  refine lv_iload hx hb d_Follows_gather_37 (lv_at hl 0 rfl) ?_
  refine lv_aload_n hx hb d_Follows_gather_39 rfl (lv_at hl 2 rfl) ?_
  refine va_get (D := G.1) (ci := 2) (v := .int 0) (C := R_Traces) (T := F_Traces) (N := 6) hx hb hts i_Traces hown hK hP 2 rfl rfl 0 (by decide) (hts _ q55) (fun _ h9 => h9) rfl d_Follows_gather_40 ?_
  refine lv_icmp_ge (tgt := 103) hx hb d_Follows_gather_43 (by decide) (fun _ => ?_) (fun hc => absurd hc (by decide +kernel))
  exact z_vret hx hb hr hlocks hP hD hS (Nat.le_of_ble_eq_true rfl) (Nat.le_of_ble_eq_true rfl) d_Follows_gather_103 ⟨rfl, rfl⟩
theorem d_Machine_fold_13 : decode prog_4_method_5_code 13 = .ok (.aload_n 0, 1) := by decide +kernel
theorem d_Machine_fold_14 : decode prog_4_method_5_code 14 = .ok (.aload_n 2, 1) := by decide +kernel
theorem d_Machine_fold_15 : decode prog_4_method_5_code 15 = .ok (.aload_n 3, 1) := by decide +kernel
theorem d_Machine_fold_16 : decode prog_4_method_5_code 16 = .ok (.invokevirtual 61, 3) := by decide +kernel
theorem d_Machine_foldStates_0 : decode prog_4_method_6_code 0 = .ok (.aload_n 0, 1) := by decide +kernel
theorem d_Machine_foldStates_1 : decode prog_4_method_6_code 1 = .ok (.iconst 0, 1) := by decide +kernel
theorem d_Machine_foldStates_2 : decode prog_4_method_6_code 2 = .ok (.putfield 75, 3) := by decide +kernel
theorem d_Machine_foldStates_5 : decode prog_4_method_6_code 5 = .ok (.aload_n 0, 1) := by decide +kernel
theorem d_Machine_foldStates_6 : decode prog_4_method_6_code 6 = .ok (.getfield 29, 3) := by decide +kernel
theorem d_Machine_foldStates_9 : decode prog_4_method_6_code 9 = .ok (.lconst 0, 1) := by decide +kernel
theorem d_Machine_foldStates_10 : decode prog_4_method_6_code 10 = .ok (.invokestatic 79, 3) := by decide +kernel
theorem d_Machine_foldStates_13 : decode prog_4_method_6_code 13 = .ok (.iconst 0, 1) := by decide +kernel
theorem d_Machine_foldStates_14 : decode prog_4_method_6_code 14 = .ok (.istore_n 3, 1) := by decide +kernel
theorem d_Machine_foldStates_15 : decode prog_4_method_6_code 15 = .ok (.iload_n 3, 1) := by decide +kernel
theorem d_Machine_foldStates_16 : decode prog_4_method_6_code 16 = .ok (.aload_n 1, 1) := by decide +kernel
theorem d_Machine_foldStates_17 : decode prog_4_method_6_code 17 = .ok (.getfield 85, 3) := by decide +kernel
theorem d_Machine_foldStates_20 : decode prog_4_method_6_code 20 = .ok (.if_icmp .ge 160, 3) := by decide +kernel
theorem d_Machine_foldStates_180 : decode prog_4_method_6_code 180 = .ok (.return_, 1) := by decide +kernel
abbrev m_c1_Machine_foldStates : Room := { frames := 1, cells := 0, slots := 0, locals := 24 }
set_option maxHeartbeats 4000000 in
set_option maxRecDepth 100000 in
theorem c1_Machine_foldStates (l : Launch) (G : zG) (b0 : Nat) (b1 : Nat) (b2 : Nat) (b3 : Nat) (b4 : Nat) (b5 : Nat) (b6 : Nat) (b7 : Nat) (b8 : Nat) (b9 : Nat) (b10 : Nat) (b11 : Nat) (b12 : Nat) (b13 : Nat) (b14 : Nat) (b15 : Nat) (b16 : Nat) (b17 : Nat) (b18 : Nat) (b19 : Nat) (b20 : Nat) (b21 : Nat) (b22 : Nat)  : zM l G y_Machine_foldStates prog_4_method_6_code 6 (Option.none : Option Jvm.ClassFile.FieldType) m_c1_Machine_foldStates [.ref b0, .ref b1, .ref b2] [(b0, .inr (5, [.int 1, .int 0, .ref b3, .ref b4, .ref b5, .ref b6, .ref b7, .ref b8, .int 0, .ref b9, .ref b10, .ref b11, .ref b12, .ref b13, .ref b14])), (b8, .inl (G.2 1, 4, .inr (.inl (fun _ => 0)))), (b1, .inr (3, [.int 1, .int (-1), .int 0, .ref b15, .ref b16, .ref b17, .ref b18, .ref b19, .ref b20, .ref b21, .ref b22]))] (fun v w => (v = none ∧ w = [(b0, .inr (5, [.int 1, .int 0, .ref b3, .ref b4, .ref b5, .ref b6, .ref b7, .ref b8, .int 0, .ref b9, .ref b10, .ref b11, .ref b12, .ref b13, .ref b14])), (b1, .inr (3, [.int 1, .int (-1), .int 0, .ref b15, .ref b16, .ref b17, .ref b18, .ref b19, .ref b20, .ref b21, .ref b22])), (b8, .inl (G.2 1, 4, .inr (.inl (fun _ => 0))))])) := by
  refine z_start (by decide +kernel) (Nat.le_of_ble_eq_true rfl) ?_
  intro p e s m below meth c A Z hr hnm hA hP hD hS ls hl
  have Z : zC p s m _ meth c prog_4_method_6_code 6 "TraceMachines$Machine" G := Z
  obtain ⟨hx, hb, hml, hown, hts, hK, hN, hlocks⟩ := id Z
  have hl : lv_has ls 6 [(0, .ref b0), (1, .ref b1), (2, .ref b2)] := hl
  refine lv_aload_n hx hb d_Machine_foldStates_0 rfl (lv_at hl 0 rfl) ?_
  refine lv_iconst (v := 0) hx hb d_Machine_foldStates_1 (by decide) ?_
  refine va_put (D := G.1) (ci := 5) (v := .int 0) (ty := .int) (C := R_Machine) (T := F_Machine) (N := 15) hx hb hts i_Machine t_Machine t_Machine_ok n_Machine hown hK hP hD hS 0 rfl rfl 1 (by decide) (hts _ q168) (fun _ h9 => h9) rfl (by decide +kernel) rfl rfl (Nat.le_of_ble_eq_true rfl) d_Machine_foldStates_2 (fun H locs hP hD hS => ?_)
  have hP : va_P G.1 classes [(b0, .inr (5, [.int 1, .int 0, .ref b3, .ref b4, .ref b5, .ref b6, .ref b7, .ref b8, .int 0, .ref b9, .ref b10, .ref b11, .ref b12, .ref b13, .ref b14])), (b8, .inl (G.2 1, 4, .inr (.inl (fun _ => 0)))), (b1, .inr (3, [.int 1, .int (-1), .int 0, .ref b15, .ref b16, .ref b17, .ref b18, .ref b19, .ref b20, .ref b21, .ref b22]))] H := hP
  have hD := z_tie hP hD rfl
  refine lv_aload_n hx hb d_Machine_foldStates_5 rfl (lv_at hl 0 rfl) ?_
  refine va_get (D := G.1) (ci := 5) (v := .ref b8) (C := R_Machine) (T := F_Machine) (N := 15) hx hb hts i_Machine hown hK hP 0 rfl rfl 7 (by decide) (hts _ q181) (fun _ h9 => h9) rfl d_Machine_foldStates_6 ?_
  refine lv_lconst (v := 0) hx hb d_Machine_foldStates_9 (by decide) ?_
  refine z_callS (index := 79) (As := [.ref b8, .long 0]) (rest := []) (wr := [(b0, .inr (5, [.int 1, .int 0, .ref b3, .ref b4, .ref b5, .ref b6, .ref b7, .ref b8, .int 0, .ref b9, .ref b10, .ref b11, .ref b12, .ref b13, .ref b14])), (b1, .inr (3, [.int 1, .int (-1), .int 0, .ref b15, .ref b16, .ref b17, .ref b18, .ref b19, .ref b20, .ref b21, .ref b22]))]) Z (c_fill_J l G (b8) (4) ((fun _ => 0)) (0) (by first | assumption | decide +kernel | omega)) hl.1 q622 q623 q13 q624 ⟨by decide, by decide, by show _ = some 2; decide +kernel⟩ ⟨Nat.le_of_ble_eq_true rfl, Nat.le_of_ble_eq_true rfl⟩ ⟨Nat.le_of_ble_eq_true rfl, Nat.le_of_ble_eq_true rfl⟩ rfl (Nat.le_of_ble_eq_true rfl) d_Machine_foldStates_10 hP hD hS hA [1] [0, 2] rfl rfl rfl rfl (by decide) (fun v w1 H locs hw_1 hP hD hS => ?_)
  obtain ⟨rfl, rfl⟩ := hw_1
  have hP : va_P G.1 classes [(b0, .inr (5, [.int 1, .int 0, .ref b3, .ref b4, .ref b5, .ref b6, .ref b7, .ref b8, .int 0, .ref b9, .ref b10, .ref b11, .ref b12, .ref b13, .ref b14])), (b1, .inr (3, [.int 1, .int (-1), .int 0, .ref b15, .ref b16, .ref b17, .ref b18, .ref b19, .ref b20, .ref b21, .ref b22])), (b8, .inl (G.2 1, 4, .inr (.inl (fun _ => 0))))] H := hP
  have hD := z_tie hP hD rfl
  refine W.widen (k := 0) (n := 0) (Nat.le_of_ble_eq_true rfl) (Nat.le_of_ble_eq_true rfl) ?_
  refine lv_iconst (v := 0) hx hb d_Machine_foldStates_13 (by decide) ?_
  refine lv_istore_n (lv' := [(3, .int 0), (0, .ref b0), (1, .ref b1), (2, .ref b2)]) hx hb d_Machine_foldStates_14 rfl hl (by decide) rfl (fun ls hl => ?_)
  refine lv_iload_n hx hb d_Machine_foldStates_15 rfl (lv_at hl 0 rfl) ?_
  refine lv_aload_n hx hb d_Machine_foldStates_16 rfl (lv_at hl 2 rfl) ?_
  refine va_get (D := G.1) (ci := 3) (v := .int 0) (C := R_Tree) (T := F_Tree) (N := 11) hx hb hts i_Tree hown hK hP 1 rfl rfl 2 (by decide) (hts _ q101) (fun _ h9 => h9) rfl d_Machine_foldStates_17 ?_
  refine lv_icmp_ge (tgt := 180) hx hb d_Machine_foldStates_20 (by decide) (fun _ => ?_) (fun hc => absurd hc (by decide +kernel))
  exact z_vret hx hb hr hlocks hP hD hS (Nat.le_of_ble_eq_true rfl) (Nat.le_of_ble_eq_true rfl) d_Machine_foldStates_180 ⟨rfl, rfl⟩
theorem d_Machine_fold_19 : decode prog_4_method_5_code 19 = .ok (.aload_n 0, 1) := by decide +kernel
theorem d_Machine_fold_20 : decode prog_4_method_5_code 20 = .ok (.aload_n 2, 1) := by decide +kernel
theorem d_Machine_fold_21 : decode prog_4_method_5_code 21 = .ok (.invokevirtual 65, 3) := by decide +kernel
theorem d_Machine_gatherKeys_0 : decode prog_4_method_9_code 0 = .ok (.aload_n 0, 1) := by decide +kernel
theorem d_Machine_gatherKeys_1 : decode prog_4_method_9_code 1 = .ok (.iconst 0, 1) := by decide +kernel
theorem d_Machine_gatherKeys_2 : decode prog_4_method_9_code 2 = .ok (.putfield 103, 3) := by decide +kernel
theorem d_Machine_gatherKeys_5 : decode prog_4_method_9_code 5 = .ok (.iconst 1, 1) := by decide +kernel
theorem d_Machine_gatherKeys_6 : decode prog_4_method_9_code 6 = .ok (.istore_n 2, 1) := by decide +kernel
theorem d_Machine_gatherKeys_7 : decode prog_4_method_9_code 7 = .ok (.iload_n 2, 1) := by decide +kernel
theorem d_Machine_gatherKeys_8 : decode prog_4_method_9_code 8 = .ok (.aload_n 1, 1) := by decide +kernel
theorem d_Machine_gatherKeys_9 : decode prog_4_method_9_code 9 = .ok (.getfield 85, 3) := by decide +kernel
theorem d_Machine_gatherKeys_12 : decode prog_4_method_9_code 12 = .ok (.if_icmp .ge 116, 3) := by decide +kernel
theorem d_Machine_gatherKeys_128 : decode prog_4_method_9_code 128 = .ok (.return_, 1) := by decide +kernel
abbrev m_c1_Machine_gatherKeys : Room := { frames := 0, cells := 0, slots := 0, locals := 0 }
set_option maxHeartbeats 4000000 in
set_option maxRecDepth 100000 in
theorem c1_Machine_gatherKeys (l : Launch) (G : zG) (b0 : Nat) (b1 : Nat) (b2 : Nat) (b3 : Nat) (b4 : Nat) (b5 : Nat) (b6 : Nat) (b7 : Nat) (b8 : Nat) (b9 : Nat) (b10 : Nat) (b11 : Nat) (b12 : Nat) (b13 : Nat) (b14 : Nat) (b15 : Nat) (b16 : Nat) (b17 : Nat) (b18 : Nat) (b19 : Nat) (b20 : Nat) (b21 : Nat)  : zM l G y_Machine_gatherKeys prog_4_method_9_code 5 (Option.none : Option Jvm.ClassFile.FieldType) m_c1_Machine_gatherKeys [.ref b0, .ref b1] [(b0, .inr (5, [.int 1, .int 0, .ref b2, .ref b3, .ref b4, .ref b5, .ref b6, .ref b7, .int 0, .ref b8, .ref b9, .ref b10, .ref b11, .ref b12, .ref b13])), (b1, .inr (3, [.int 1, .int (-1), .int 0, .ref b14, .ref b15, .ref b16, .ref b17, .ref b18, .ref b19, .ref b20, .ref b21]))] (fun v w => (v = none ∧ w = [(b0, .inr (5, [.int 1, .int 0, .ref b2, .ref b3, .ref b4, .ref b5, .ref b6, .ref b7, .int 0, .ref b8, .ref b9, .ref b10, .ref b11, .ref b12, .ref b13])), (b1, .inr (3, [.int 1, .int (-1), .int 0, .ref b14, .ref b15, .ref b16, .ref b17, .ref b18, .ref b19, .ref b20, .ref b21]))])) := by
  refine z_start (by decide +kernel) (Nat.le_of_ble_eq_true rfl) ?_
  intro p e s m below meth c A Z hr hnm hA hP hD hS ls hl
  have Z : zC p s m _ meth c prog_4_method_9_code 5 "TraceMachines$Machine" G := Z
  obtain ⟨hx, hb, hml, hown, hts, hK, hN, hlocks⟩ := id Z
  have hl : lv_has ls 5 [(0, .ref b0), (1, .ref b1)] := hl
  refine lv_aload_n hx hb d_Machine_gatherKeys_0 rfl (lv_at hl 0 rfl) ?_
  refine lv_iconst (v := 0) hx hb d_Machine_gatherKeys_1 (by decide) ?_
  refine va_put (D := G.1) (ci := 5) (v := .int 0) (ty := .int) (C := R_Machine) (T := F_Machine) (N := 15) hx hb hts i_Machine t_Machine t_Machine_ok n_Machine hown hK hP hD hS 0 rfl rfl 8 (by decide) (hts _ q184) (fun _ h9 => h9) rfl (by decide +kernel) rfl rfl (Nat.le_of_ble_eq_true rfl) d_Machine_gatherKeys_2 (fun H locs hP hD hS => ?_)
  have hP : va_P G.1 classes [(b0, .inr (5, [.int 1, .int 0, .ref b2, .ref b3, .ref b4, .ref b5, .ref b6, .ref b7, .int 0, .ref b8, .ref b9, .ref b10, .ref b11, .ref b12, .ref b13])), (b1, .inr (3, [.int 1, .int (-1), .int 0, .ref b14, .ref b15, .ref b16, .ref b17, .ref b18, .ref b19, .ref b20, .ref b21]))] H := hP
  have hD := z_tie hP hD rfl
  refine lv_iconst (v := 1) hx hb d_Machine_gatherKeys_5 (by decide) ?_
  refine lv_istore_n (lv' := [(2, .int 1), (0, .ref b0), (1, .ref b1)]) hx hb d_Machine_gatherKeys_6 rfl hl (by decide) rfl (fun ls hl => ?_)
  refine lv_iload_n hx hb d_Machine_gatherKeys_7 rfl (lv_at hl 0 rfl) ?_
  refine lv_aload_n hx hb d_Machine_gatherKeys_8 rfl (lv_at hl 2 rfl) ?_
  refine va_get (D := G.1) (ci := 3) (v := .int 0) (C := R_Tree) (T := F_Tree) (N := 11) hx hb hts i_Tree hown hK hP 1 rfl rfl 2 (by decide) (hts _ q101) (fun _ h9 => h9) rfl d_Machine_gatherKeys_9 ?_
  refine lv_icmp_ge (tgt := 128) hx hb d_Machine_gatherKeys_12 (by decide) (fun _ => ?_) (fun hc => absurd hc (by decide +kernel))
  exact z_vret hx hb hr hlocks hP hD hS (Nat.le_of_ble_eq_true rfl) (Nat.le_of_ble_eq_true rfl) d_Machine_gatherKeys_128 ⟨rfl, rfl⟩
theorem d_Machine_fold_24 : decode prog_4_method_5_code 24 = .ok (.aload_n 0, 1) := by decide +kernel
theorem d_Machine_fold_25 : decode prog_4_method_5_code 25 = .ok (.aload_n 2, 1) := by decide +kernel
theorem d_Machine_fold_26 : decode prog_4_method_5_code 26 = .ok (.invokevirtual 69, 3) := by decide +kernel
theorem d_Machine_gatherRanges_0 : decode prog_4_method_10_code 0 = .ok (.iconst 1, 1) := by decide +kernel
theorem d_Machine_gatherRanges_1 : decode prog_4_method_10_code 1 = .ok (.istore_n 2, 1) := by decide +kernel
theorem d_Machine_gatherRanges_2 : decode prog_4_method_10_code 2 = .ok (.iload_n 2, 1) := by decide +kernel
theorem d_Machine_gatherRanges_3 : decode prog_4_method_10_code 3 = .ok (.aload_n 1, 1) := by decide +kernel
theorem d_Machine_gatherRanges_4 : decode prog_4_method_10_code 4 = .ok (.getfield 85, 3) := by decide +kernel
theorem d_Machine_gatherRanges_7 : decode prog_4_method_10_code 7 = .ok (.if_icmp .ge 84, 3) := by decide +kernel
theorem d_Machine_gatherRanges_91 : decode prog_4_method_10_code 91 = .ok (.return_, 1) := by decide +kernel
abbrev m_c1_Machine_gatherRanges : Room := { frames := 0, cells := 0, slots := 0, locals := 0 }
set_option maxHeartbeats 4000000 in
set_option maxRecDepth 100000 in
theorem c1_Machine_gatherRanges (l : Launch) (G : zG) (b0 : Nat) (b1 : Nat) (b2 : Nat) (b3 : Nat) (b4 : Nat) (b5 : Nat) (b6 : Nat) (b7 : Nat) (b8 : Nat) (b9 : Nat)  : zM l G y_Machine_gatherRanges prog_4_method_10_code 4 (Option.none : Option Jvm.ClassFile.FieldType) m_c1_Machine_gatherRanges [.ref b0, .ref b1] [(b1, .inr (3, [.int 1, .int (-1), .int 0, .ref b2, .ref b3, .ref b4, .ref b5, .ref b6, .ref b7, .ref b8, .ref b9]))] (fun v w => (v = none ∧ w = [(b1, .inr (3, [.int 1, .int (-1), .int 0, .ref b2, .ref b3, .ref b4, .ref b5, .ref b6, .ref b7, .ref b8, .ref b9]))])) := by
  refine z_start (by decide +kernel) (Nat.le_of_ble_eq_true rfl) ?_
  intro p e s m below meth c A Z hr hnm hA hP hD hS ls hl
  have Z : zC p s m _ meth c prog_4_method_10_code 4 "TraceMachines$Machine" G := Z
  obtain ⟨hx, hb, hml, hown, hts, hK, hN, hlocks⟩ := id Z
  have hl : lv_has ls 4 [(0, .ref b0), (1, .ref b1)] := hl
  refine lv_iconst (v := 1) hx hb d_Machine_gatherRanges_0 (by decide) ?_
  refine lv_istore_n (lv' := [(2, .int 1), (0, .ref b0), (1, .ref b1)]) hx hb d_Machine_gatherRanges_1 rfl hl (by decide) rfl (fun ls hl => ?_)
  refine lv_iload_n hx hb d_Machine_gatherRanges_2 rfl (lv_at hl 0 rfl) ?_
  refine lv_aload_n hx hb d_Machine_gatherRanges_3 rfl (lv_at hl 2 rfl) ?_
  refine va_get (D := G.1) (ci := 3) (v := .int 0) (C := R_Tree) (T := F_Tree) (N := 11) hx hb hts i_Tree hown hK hP 0 rfl rfl 2 (by decide) (hts _ q101) (fun _ h9 => h9) rfl d_Machine_gatherRanges_4 ?_
  refine lv_icmp_ge (tgt := 91) hx hb d_Machine_gatherRanges_7 (by decide) (fun _ => ?_) (fun hc => absurd hc (by decide +kernel))
  exact z_vret hx hb hr hlocks hP hD hS (Nat.le_of_ble_eq_true rfl) (Nat.le_of_ble_eq_true rfl) d_Machine_gatherRanges_91 ⟨rfl, rfl⟩
theorem d_Machine_fold_29 : decode prog_4_method_5_code 29 = .ok (.aload_n 0, 1) := by decide +kernel
theorem d_Machine_fold_30 : decode prog_4_method_5_code 30 = .ok (.invokevirtual 72, 3) := by decide +kernel
theorem d_Machine_gatherFirsts_0 : decode prog_4_method_11_code 0 = .ok (.iconst 0, 1) := by decide +kernel
theorem d_Machine_gatherFirsts_1 : decode prog_4_method_11_code 1 = .ok (.istore_n 1, 1) := by decide +kernel
theorem d_Machine_gatherFirsts_2 : decode prog_4_method_11_code 2 = .ok (.iconst 0, 1) := by decide +kernel
theorem d_Machine_gatherFirsts_3 : decode prog_4_method_11_code 3 = .ok (.istore_n 2, 1) := by decide +kernel
theorem d_Machine_gatherFirsts_4 : decode prog_4_method_11_code 4 = .ok (.iload_n 2, 1) := by decide +kernel
theorem d_Machine_gatherFirsts_5 : decode prog_4_method_11_code 5 = .ok (.aload_n 0, 1) := by decide +kernel
theorem d_Machine_gatherFirsts_6 : decode prog_4_method_11_code 6 = .ok (.getfield 75, 3) := by decide +kernel
theorem d_Machine_gatherFirsts_9 : decode prog_4_method_11_code 9 = .ok (.if_icmp .ge 39, 3) := by decide +kernel
theorem d_Machine_gatherFirsts_48 : decode prog_4_method_11_code 48 = .ok (.aload_n 0, 1) := by decide +kernel
theorem d_Machine_gatherFirsts_49 : decode prog_4_method_11_code 49 = .ok (.getfield 45, 3) := by decide +kernel
theorem d_Machine_gatherFirsts_52 : decode prog_4_method_11_code 52 = .ok (.aload_n 0, 1) := by decide +kernel
theorem d_Machine_gatherFirsts_53 : decode prog_4_method_11_code 53 = .ok (.getfield 75, 3) := by decide +kernel
theorem d_Machine_gatherFirsts_56 : decode prog_4_method_11_code 56 = .ok (.aload_n 0, 1) := by decide +kernel
theorem d_Machine_gatherFirsts_57 : decode prog_4_method_11_code 57 = .ok (.getfield 103, 3) := by decide +kernel
theorem d_Machine_gatherFirsts_60 : decode prog_4_method_11_code 60 = .ok (.iastore, 1) := by decide +kernel
theorem d_Machine_gatherFirsts_61 : decode prog_4_method_11_code 61 = .ok (.return_, 1) := by decide +kernel
abbrev m_c1_Machine_gatherFirsts : Room := { frames := 0, cells := 0, slots := 0, locals := 0 }
set_option maxHeartbeats 4000000 in
set_option maxRecDepth 100000 in
theorem c1_Machine_gatherFirsts (l : Launch) (G : zG) (b0 : Nat) (b1 : Nat) (b2 : Nat) (b3 : Nat) (b4 : Nat) (b5 : Nat) (b6 : Nat) (b7 : Nat) (b8 : Nat) (b9 : Nat) (b10 : Nat) (b11 : Nat) (b12 : Nat)  : zM l G y_Machine_gatherFirsts prog_4_method_11_code 3 (Option.none : Option Jvm.ClassFile.FieldType) m_c1_Machine_gatherFirsts [.ref b0] [(b0, .inr (5, [.int 1, .int 0, .ref b1, .ref b2, .ref b3, .ref b4, .ref b5, .ref b6, .int 0, .ref b7, .ref b8, .ref b9, .ref b10, .ref b11, .ref b12])), (b11, .inl (G.2 0, 242, .inl (fun _ => 0)))] (fun v w => (v = none ∧ w = [(b0, .inr (5, [.int 1, .int 0, .ref b1, .ref b2, .ref b3, .ref b4, .ref b5, .ref b6, .int 0, .ref b7, .ref b8, .ref b9, .ref b10, .ref b11, .ref b12])), (b11, .inl (G.2 0, 242, .inl (upd (fun _ => 0) 0 0)))])) := by
  refine z_start (by decide +kernel) (Nat.le_of_ble_eq_true rfl) ?_
  intro p e s m below meth c A Z hr hnm hA hP hD hS ls hl
  have Z : zC p s m _ meth c prog_4_method_11_code 3 "TraceMachines$Machine" G := Z
  obtain ⟨hx, hb, hml, hown, hts, hK, hN, hlocks⟩ := id Z
  have hl : lv_has ls 3 [(0, .ref b0)] := hl
  refine lv_iconst (v := 0) hx hb d_Machine_gatherFirsts_0 (by decide) ?_
  refine lv_istore_n (lv' := [(1, .int 0), (0, .ref b0)]) hx hb d_Machine_gatherFirsts_1 rfl hl (by decide) rfl (fun ls hl => ?_)
  refine lv_iconst (v := 0) hx hb d_Machine_gatherFirsts_2 (by decide) ?_
  refine lv_istore_n (lv' := [(2, .int 0), (1, .int 0), (0, .ref b0)]) hx hb d_Machine_gatherFirsts_3 rfl hl (by decide) rfl (fun ls hl => ?_)
  refine lv_iload_n hx hb d_Machine_gatherFirsts_4 rfl (lv_at hl 0 rfl) ?_
  refine lv_aload_n hx hb d_Machine_gatherFirsts_5 rfl (lv_at hl 2 rfl) ?_
  refine va_get (D := G.1) (ci := 5) (v := .int 0) (C := R_Machine) (T := F_Machine) (N := 15) hx hb hts i_Machine hown hK hP 0 rfl rfl 1 (by decide) (hts _ q168) (fun _ h9 => h9) rfl d_Machine_gatherFirsts_6 ?_
  refine lv_icmp_ge (tgt := 48) hx hb d_Machine_gatherFirsts_9 (by decide) (fun _ => ?_) (fun hc => absurd hc (by decide +kernel))
  refine lv_aload_n hx hb d_Machine_gatherFirsts_48 rfl (lv_at hl 2 rfl) ?_
  refine va_get (D := G.1) (ci := 5) (v := .ref b11) (C := R_Machine) (T := F_Machine) (N := 15) hx hb hts i_Machine hown hK hP 0 rfl rfl 13 (by decide) (hts _ q195) (fun _ h9 => h9) rfl d_Machine_gatherFirsts_49 ?_
  refine lv_aload_n hx hb d_Machine_gatherFirsts_52 rfl (lv_at hl 2 rfl) ?_
  refine va_get (D := G.1) (ci := 5) (v := .int 0) (C := R_Machine) (T := F_Machine) (N := 15) hx hb hts i_Machine hown hK hP 0 rfl rfl 1 (by decide) (hts _ q168) (fun _ h9 => h9) rfl d_Machine_gatherFirsts_53 ?_
  refine lv_aload_n hx hb d_Machine_gatherFirsts_56 rfl (lv_at hl 2 rfl) ?_
  refine va_get (D := G.1) (ci := 5) (v := .int 0) (C := R_Machine) (T := F_Machine) (N := 15) hx hb hts i_Machine hown hK hP 0 rfl rfl 8 (by decide) (hts _ q184) (fun _ h9 => h9) rfl d_Machine_gatherFirsts_57 ?_
  refine va_iast hx hb hK hP hD hS 1 0 rfl rfl (i := 0) (z_in rfl) d_Machine_gatherFirsts_60 (fun H locs hP hD hS => ?_)
  have hP : va_P G.1 classes [(b0, .inr (5, [.int 1, .int 0, .ref b1, .ref b2, .ref b3, .ref b4, .ref b5, .ref b6, .int 0, .ref b7, .ref b8, .ref b9, .ref b10, .ref b11, .ref b12])), (b11, .inl (G.2 0, 242, .inl (upd (fun _ => 0) 0 0)))] H := hP
  have hD := z_tie hP hD rfl
  exact z_vret hx hb hr hlocks hP hD hS (Nat.le_of_ble_eq_true rfl) (Nat.le_of_ble_eq_true rfl) d_Machine_gatherFirsts_61 ⟨rfl, rfl⟩
theorem d_Machine_fold_33 : decode prog_4_method_5_code 33 = .ok (.return_, 1) := by decide +kernel
abbrev m_c1_Machine_fold : Room := { frames := 2, cells := 0, slots := 0, locals := 49 }
set_option maxHeartbeats 4000000 in
set_option maxRecDepth 100000 in
theorem c1_Machine_fold (l : Launch) (G : zG) (b0 : Nat) (b1 : Nat) (b2 : Nat) (b3 : Nat) (b4 : Nat) (b5 : Nat) (b6 : Nat) (b7 : Nat) (b8 : Nat) (b9 : Nat) (b10 : Nat) (b11 : Nat) (b12 : Nat) (b13 : Nat) (b14 : Nat) (b15 : Nat) (b16 : Nat) (b17 : Nat) (b18 : Nat) (b19 : Nat) (b20 : Nat) (b21 : Nat) (b22 : Nat) (b23 : Nat) (b24 : Nat) (b25 : Nat) (b26 : Nat) (b27 : Nat) (b28 : Nat) (b29 : Nat)  : zM l G y_Machine_fold prog_4_method_5_code 5 (Option.none : Option Jvm.ClassFile.FieldType) m_c1_Machine_fold [.ref b0, .ref b1, .ref b2, .ref b3, .int 1] [(b0, .inr (5, [.int 0, .int 0, .ref b4, .ref b5, .ref b6, .ref b7, .ref b8, .ref b9, .int 0, .ref b10, .ref b11, .ref b12, .ref b13, .ref b14, .ref b15])), (b3, .inr (4, [.ref b16, .ref b17, .ref b18])), (b18, .inl (G.2 0, 512, .inl (fun _ => 0))), (b2, .inr (3, [.int 1, .int (-1), .int 0, .ref b19, .ref b20, .ref b21, .ref b22, .ref b23, .ref b24, .ref b25, .ref b26])), (b1, .inr (2, [.int 0, .int 1, .int 0, .ref b27, .ref b28, .ref b29])), (b9, .inl (G.2 1, 4, .inr (.inl (fun _ => 0)))), (b14, .inl (G.2 0, 242, .inl (fun _ => 0)))] (fun v w => (v = none ∧ w = [(b3, .inr (4, [.ref b16, .ref b17, .ref b18])), (b1, .inr (2, [.int 0, .int 1, .int 0, .ref b27, .ref b28, .ref b29])), (b18, .inl (G.2 0, 512, .inl (fun _ => (-1)))), (b9, .inl (G.2 1, 4, .inr (.inl (fun _ => 0)))), (b2, .inr (3, [.int 1, .int (-1), .int 0, .ref b19, .ref b20, .ref b21, .ref b22, .ref b23, .ref b24, .ref b25, .ref b26])), (b0, .inr (5, [.int 1, .int 0, .ref b4, .ref b5, .ref b6, .ref b7, .ref b8, .ref b9, .int 0, .ref b10, .ref b11, .ref b12, .ref b13, .ref b14, .ref b15])), (b14, .inl (G.2 0, 242, .inl (upd (fun _ => 0) 0 0)))])) := by
  refine z_start (by decide +kernel) (Nat.le_of_ble_eq_true rfl) ?_
  intro p e s m below meth c A Z hr hnm hA hP hD hS ls hl
  have Z : zC p s m _ meth c prog_4_method_5_code 5 "TraceMachines$Machine" G := Z
  obtain ⟨hx, hb, hml, hown, hts, hK, hN, hlocks⟩ := id Z
  have hl : lv_has ls 5 [(0, .ref b0), (1, .ref b1), (2, .ref b2), (3, .ref b3), (4, .int 1)] := hl
  refine lv_aload_n hx hb d_Machine_fold_0 rfl (lv_at hl 0 rfl) ?_
  refine lv_iconst (v := 1) hx hb d_Machine_fold_1 (by decide) ?_
  refine va_put (D := G.1) (ci := 5) (v := .int 1) (ty := .boolean) (C := R_Machine) (T := F_Machine) (N := 15) hx hb hts i_Machine t_Machine t_Machine_ok n_Machine hown hK hP hD hS 0 rfl rfl 0 (by decide) (hts _ q164) (fun _ h9 => h9) rfl (by decide +kernel) rfl rfl (Nat.le_of_ble_eq_true rfl) d_Machine_fold_2 (fun H locs hP hD hS => ?_)
  have hP : va_P G.1 classes [(b0, .inr (5, [.int 1, .int 0, .ref b4, .ref b5, .ref b6, .ref b7, .ref b8, .ref b9, .int 0, .ref b10, .ref b11, .ref b12, .ref b13, .ref b14, .ref b15])), (b3, .inr (4, [.ref b16, .ref b17, .ref b18])), (b18, .inl (G.2 0, 512, .inl (fun _ => 0))), (b2, .inr (3, [.int 1, .int (-1), .int 0, .ref b19, .ref b20, .ref b21, .ref b22, .ref b23, .ref b24, .ref b25, .ref b26])), (b1, .inr (2, [.int 0, .int 1, .int 0, .ref b27, .ref b28, .ref b29])), (b9, .inl (G.2 1, 4, .inr (.inl (fun _ => 0)))), (b14, .inl (G.2 0, 242, .inl (fun _ => 0)))] H := hP
  have hD := z_tie hP hD rfl
  refine lv_aload_n hx hb d_Machine_fold_5 rfl (lv_at hl 3 rfl) ?_
  refine lv_aload_n hx hb d_Machine_fold_6 rfl (lv_at hl 1 rfl) ?_
  refine lv_aload_n hx hb d_Machine_fold_7 rfl (lv_at hl 2 rfl) ?_
  refine lv_iload hx hb d_Machine_fold_8 (lv_at hl 4 rfl) ?_
  refine z_callV (index := 55) (As := [.ref b1, .ref b2, .int 1]) (rest := []) (wr := [(b0, .inr (5, [.int 1, .int 0, .ref b4, .ref b5, .ref b6, .ref b7, .ref b8, .ref b9, .int 0, .ref b10, .ref b11, .ref b12, .ref b13, .ref b14, .ref b15])), (b9, .inl (G.2 1, 4, .inr (.inl (fun _ => 0)))), (b14, .inl (G.2 0, 242, .inl (fun _ => 0)))]) Z (c1_Follows_gather l G (b3) (b1) (b2) (b16) (b17) (b18) (b19) (b20) (b21) (b22) (b23) (b24) (b25) (b26) (b27) (b28) (b29)) hl.1 q601 q602 q603 q5 q604 ⟨by decide, by decide, by show _ = some 3; decide +kernel⟩ ⟨Nat.le_of_ble_eq_true rfl, Nat.le_of_ble_eq_true rfl⟩ ⟨Nat.le_of_ble_eq_true rfl, Nat.le_of_ble_eq_true rfl⟩ rfl (Nat.le_of_ble_eq_true rfl) d_Machine_fold_10 hP hD hS hA 1 4 rfl rfl rfl [1, 2, 3, 4] [0, 5, 6] rfl rfl rfl rfl (by decide) (fun v w1 H locs hw_1 hP hD hS => ?_)
  obtain ⟨rfl, rfl⟩ := hw_1
  have hP : va_P G.1 classes [(b0, .inr (5, [.int 1, .int 0, .ref b4, .ref b5, .ref b6, .ref b7, .ref b8, .ref b9, .int 0, .ref b10, .ref b11, .ref b12, .ref b13, .ref b14, .ref b15])), (b9, .inl (G.2 1, 4, .inr (.inl (fun _ => 0)))), (b14, .inl (G.2 0, 242, .inl (fun _ => 0))), (b3, .inr (4, [.ref b16, .ref b17, .ref b18])), (b2, .inr (3, [.int 1, .int (-1), .int 0, .ref b19, .ref b20, .ref b21, .ref b22, .ref b23, .ref b24, .ref b25, .ref b26])), (b1, .inr (2, [.int 0, .int 1, .int 0, .ref b27, .ref b28, .ref b29])), (b18, .inl (G.2 0, 512, .inl (fun _ => (-1))))] H := hP
  have hD := z_tie hP hD rfl
  refine W.widen (k := 0) (n := 0) (Nat.le_of_ble_eq_true rfl) (Nat.le_of_ble_eq_true rfl) ?_
  refine lv_aload_n hx hb d_Machine_fold_13 rfl (lv_at hl 0 rfl) ?_
  refine lv_aload_n hx hb d_Machine_fold_14 rfl (lv_at hl 2 rfl) ?_
  refine lv_aload_n hx hb d_Machine_fold_15 rfl (lv_at hl 3 rfl) ?_
  refine z_callV (index := 61) (As := [.ref b2, .ref b3]) (rest := []) (wr := [(b14, .inl (G.2 0, 242, .inl (fun _ => 0))), (b3, .inr (4, [.ref b16, .ref b17, .ref b18])), (b1, .inr (2, [.int 0, .int 1, .int 0, .ref b27, .ref b28, .ref b29])), (b18, .inl (G.2 0, 512, .inl (fun _ => (-1))))]) Z (c1_Machine_foldStates l G (b0) (b2) (b3) (b4) (b5) (b6) (b7) (b8) (b9) (b10) (b11) (b12) (b13) (b14) (b15) (b19) (b20) (b21) (b22) (b23) (b24) (b25) (b26)) hl.1 q618 q620 qs7 q6 q621 ⟨by decide, by decide, by show _ = some 2; decide +kernel⟩ ⟨Nat.le_of_ble_eq_true rfl, Nat.le_of_ble_eq_true rfl⟩ ⟨Nat.le_of_ble_eq_true rfl, Nat.le_of_ble_eq_true rfl⟩ rfl (Nat.le_of_ble_eq_true rfl) d_Machine_fold_16 hP hD hS hA 0 5 rfl rfl rfl [0, 1, 4] [2, 3, 5, 6] rfl rfl rfl rfl (by decide) (fun v w1 H locs hw_2 hP hD hS => ?_)
  obtain ⟨rfl, rfl⟩ := hw_2
  have hP : va_P G.1 classes [(b14, .inl (G.2 0, 242, .inl (fun _ => 0))), (b3, .inr (4, [.ref b16, .ref b17, .ref b18])), (b1, .inr (2, [.int 0, .int 1, .int 0, .ref b27, .ref b28, .ref b29])), (b18, .inl (G.2 0, 512, .inl (fun _ => (-1)))), (b0, .inr (5, [.int 1, .int 0, .ref b4, .ref b5, .ref b6, .ref b7, .ref b8, .ref b9, .int 0, .ref b10, .ref b11, .ref b12, .ref b13, .ref b14, .ref b15])), (b2, .inr (3, [.int 1, .int (-1), .int 0, .ref b19, .ref b20, .ref b21, .ref b22, .ref b23, .ref b24, .ref b25, .ref b26])), (b9, .inl (G.2 1, 4, .inr (.inl (fun _ => 0))))] H := hP
  have hD := z_tie hP hD rfl
  refine W.widen (k := 0) (n := 0) (Nat.le_of_ble_eq_true rfl) (Nat.le_of_ble_eq_true rfl) ?_
  refine lv_aload_n hx hb d_Machine_fold_19 rfl (lv_at hl 0 rfl) ?_
  refine lv_aload_n hx hb d_Machine_fold_20 rfl (lv_at hl 2 rfl) ?_
  refine z_callV (index := 65) (As := [.ref b2]) (rest := []) (wr := [(b14, .inl (G.2 0, 242, .inl (fun _ => 0))), (b3, .inr (4, [.ref b16, .ref b17, .ref b18])), (b1, .inr (2, [.int 0, .int 1, .int 0, .ref b27, .ref b28, .ref b29])), (b18, .inl (G.2 0, 512, .inl (fun _ => (-1)))), (b9, .inl (G.2 1, 4, .inr (.inl (fun _ => 0))))]) Z (c1_Machine_gatherKeys l G (b0) (b2) (b4) (b5) (b6) (b7) (b8) (b9) (b10) (b11) (b12) (b13) (b14) (b15) (b19) (b20) (b21) (b22) (b23) (b24) (b25) (b26)) hl.1 q637 q639 qs10 q6 q640 ⟨by decide, by decide, by show _ = some 1; decide +kernel⟩ ⟨Nat.le_of_ble_eq_true rfl, Nat.le_of_ble_eq_true rfl⟩ ⟨Nat.le_of_ble_eq_true rfl, Nat.le_of_ble_eq_true rfl⟩ rfl (Nat.le_of_ble_eq_true rfl) d_Machine_fold_21 hP hD hS hA 4 5 rfl rfl rfl [4, 5] [0, 1, 2, 3, 6] rfl rfl rfl rfl (by decide) (fun v w1 H locs hw_3 hP hD hS => ?_)
  obtain ⟨rfl, rfl⟩ := hw_3
  have hP : va_P G.1 classes [(b14, .inl (G.2 0, 242, .inl (fun _ => 0))), (b3, .inr (4, [.ref b16, .ref b17, .ref b18])), (b1, .inr (2, [.int 0, .int 1, .int 0, .ref b27, .ref b28, .ref b29])), (b18, .inl (G.2 0, 512, .inl (fun _ => (-1)))), (b9, .inl (G.2 1, 4, .inr (.inl (fun _ => 0)))), (b0, .inr (5, [.int 1, .int 0, .ref b4, .ref b5, .ref b6, .ref b7, .ref b8, .ref b9, .int 0, .ref b10, .ref b11, .ref b12, .ref b13, .ref b14, .ref b15])), (b2, .inr (3, [.int 1, .int (-1), .int 0, .ref b19, .ref b20, .ref b21, .ref b22, .ref b23, .ref b24, .ref b25, .ref b26]))] H := hP
  have hD := z_tie hP hD rfl
  refine W.widen (k := 0) (n := 0) (Nat.le_of_ble_eq_true rfl) (Nat.le_of_ble_eq_true rfl) ?_
  refine lv_aload_n hx hb d_Machine_fold_24 rfl (lv_at hl 0 rfl) ?_
  refine lv_aload_n hx hb d_Machine_fold_25 rfl (lv_at hl 2 rfl) ?_
  refine z_callV (index := 69) (As := [.ref b2]) (rest := []) (wr := [(b14, .inl (G.2 0, 242, .inl (fun _ => 0))), (b3, .inr (4, [.ref b16, .ref b17, .ref b18])), (b1, .inr (2, [.int 0, .int 1, .int 0, .ref b27, .ref b28, .ref b29])), (b18, .inl (G.2 0, 512, .inl (fun _ => (-1)))), (b9, .inl (G.2 1, 4, .inr (.inl (fun _ => 0)))), (b0, .inr (5, [.int 1, .int 0, .ref b4, .ref b5, .ref b6, .ref b7, .ref b8, .ref b9, .int 0, .ref b10, .ref b11, .ref b12, .ref b13, .ref b14, .ref b15]))]) Z (c1_Machine_gatherRanges l G (b0) (b2) (b19) (b20) (b21) (b22) (b23) (b24) (b25) (b26)) hl.1 q650 q652 qs13 q6 q653 ⟨by decide, by decide, by show _ = some 1; decide +kernel⟩ ⟨Nat.le_of_ble_eq_true rfl, Nat.le_of_ble_eq_true rfl⟩ ⟨Nat.le_of_ble_eq_true rfl, Nat.le_of_ble_eq_true rfl⟩ rfl (Nat.le_of_ble_eq_true rfl) d_Machine_fold_26 hP hD hS hA 5 5 rfl rfl rfl [6] [0, 1, 2, 3, 4, 5] rfl rfl rfl rfl (by decide) (fun v w1 H locs hw_4 hP hD hS => ?_)
  obtain ⟨rfl, rfl⟩ := hw_4
  have hP : va_P G.1 classes [(b14, .inl (G.2 0, 242, .inl (fun _ => 0))), (b3, .inr (4, [.ref b16, .ref b17, .ref b18])), (b1, .inr (2, [.int 0, .int 1, .int 0, .ref b27, .ref b28, .ref b29])), (b18, .inl (G.2 0, 512, .inl (fun _ => (-1)))), (b9, .inl (G.2 1, 4, .inr (.inl (fun _ => 0)))), (b0, .inr (5, [.int 1, .int 0, .ref b4, .ref b5, .ref b6, .ref b7, .ref b8, .ref b9, .int 0, .ref b10, .ref b11, .ref b12, .ref b13, .ref b14, .ref b15])), (b2, .inr (3, [.int 1, .int (-1), .int 0, .ref b19, .ref b20, .ref b21, .ref b22, .ref b23, .ref b24, .ref b25, .ref b26]))] H := hP
  have hD := z_tie hP hD rfl
  refine W.widen (k := 0) (n := 0) (Nat.le_of_ble_eq_true rfl) (Nat.le_of_ble_eq_true rfl) ?_
  refine lv_aload_n hx hb d_Machine_fold_29 rfl (lv_at hl 0 rfl) ?_
  refine z_callV (index := 72) (As := []) (rest := []) (wr := [(b3, .inr (4, [.ref b16, .ref b17, .ref b18])), (b1, .inr (2, [.int 0, .int 1, .int 0, .ref b27, .ref b28, .ref b29])), (b18, .inl (G.2 0, 512, .inl (fun _ => (-1)))), (b9, .inl (G.2 1, 4, .inr (.inl (fun _ => 0)))), (b2, .inr (3, [.int 1, .int (-1), .int 0, .ref b19, .ref b20, .ref b21, .ref b22, .ref b23, .ref b24, .ref b25, .ref b26]))]) Z (c1_Machine_gatherFirsts l G (b0) (b4) (b5) (b6) (b7) (b8) (b9) (b10) (b11) (b12) (b13) (b14) (b15)) hl.1 q656 q658 qs14 q6 q659 ⟨by decide, by decide, by show _ = some 0; decide +kernel⟩ ⟨Nat.le_of_ble_eq_true rfl, Nat.le_of_ble_eq_true rfl⟩ ⟨Nat.le_of_ble_eq_true rfl, Nat.le_of_ble_eq_true rfl⟩ rfl (Nat.le_of_ble_eq_true rfl) d_Machine_fold_30 hP hD hS hA 5 5 rfl rfl rfl [5, 0] [1, 2, 3, 4, 6] rfl rfl rfl rfl (by decide) (fun v w1 H locs hw_5 hP hD hS => ?_)
  obtain ⟨rfl, rfl⟩ := hw_5
  have hP : va_P G.1 classes [(b3, .inr (4, [.ref b16, .ref b17, .ref b18])), (b1, .inr (2, [.int 0, .int 1, .int 0, .ref b27, .ref b28, .ref b29])), (b18, .inl (G.2 0, 512, .inl (fun _ => (-1)))), (b9, .inl (G.2 1, 4, .inr (.inl (fun _ => 0)))), (b2, .inr (3, [.int 1, .int (-1), .int 0, .ref b19, .ref b20, .ref b21, .ref b22, .ref b23, .ref b24, .ref b25, .ref b26])), (b0, .inr (5, [.int 1, .int 0, .ref b4, .ref b5, .ref b6, .ref b7, .ref b8, .ref b9, .int 0, .ref b10, .ref b11, .ref b12, .ref b13, .ref b14, .ref b15])), (b14, .inl (G.2 0, 242, .inl (upd (fun _ => 0) 0 0)))] H := hP
  have hD := z_tie hP hD rfl
  refine W.widen (k := 0) (n := 0) (Nat.le_of_ble_eq_true rfl) (Nat.le_of_ble_eq_true rfl) ?_
  exact z_vret hx hb hr hlocks hP hD hS (Nat.le_of_ble_eq_true rfl) (Nat.le_of_ble_eq_true rfl) d_Machine_fold_33 ⟨rfl, rfl⟩
theorem d_X_machine_53 : decode prog_1_method_37_code 53 = .ok (.aload_n 2, 1) := by decide +kernel
theorem d_X_machine_54 : decode prog_1_method_37_code 54 = .ok (.areturn, 1) := by decide +kernel
abbrev m_c1_X_machine : Room := { frames := 3, cells := 0, slots := 0, locals := 73 }
set_option maxHeartbeats 4000000 in
set_option maxRecDepth 100000 in
theorem c1_X_machine (l : Launch) (G : zG) (b0 : Nat) (b1 : Nat) (b2 : Nat) (b3 : Nat) (b4 : Nat) (b5 : Nat) (b6 : Nat) (b7 : Nat) (b8 : Nat) (b9 : Nat) (b10 : Nat) (b11 : Nat) (b12 : Nat) (b13 : Nat) (b14 : Nat) (b15 : Nat) (b16 : Nat) (b17 : Nat) (b18 : Nat) (b19 : Nat) (b20 : Nat) (b21 : Nat) (b22 : Nat) (b23 : Nat) (b24 : Nat) (b25 : Nat) (b26 : Nat) (b27 : Nat) (b28 : Nat) (b29 : Nat) (b30 : Nat) (b31 : Nat) (b32 : Nat) (b33 : Nat) (b34 : Nat) (b35 : Nat) (b36 : Nat) (b37 : Nat) (b38 : Nat) (b39 : Nat) (b40 : Nat) (b41 : Nat) (b42 : Nat) (b43 : Nat) (b44 : Nat) (b45 : Nat) (b46 : Nat) (b47 : Nat) (b48 : Nat)  : zM l G y_X_machine prog_1_method_37_code 3 (Option.some (Jvm.ClassFile.FieldType.object "TraceMachines$Machine")) m_c1_X_machine [.ref b0, .int 1] [(b0, .inr (0, [.ref b1, .ref b2, .ref b3, .ref b4, .int 0, .int 0, .ref b5, .ref b6, .ref b7, .ref b8, .ref b9, .ref b10, .ref b11, .ref b12, .ref b13, .ref b14, .ref b15, .ref b16, .ref b17, .ref b18])), (b8, .inl (G.2 6, 4, .inr (.inr (.inr (.inr (va_up (va_up (va_up (va_up (fun _ => none) 0 (some b19)) 1 (some b20)) 2 (some b21)) 3 (some b22))))))), (b6, .inr (3, [.int 0, .int 0, .int 0, .ref b23, .ref b24, .ref b25, .ref b26, .ref b27, .ref b28, .ref b29, .ref b30])), (b2, .inr (2, [.int 0, .int 1, .int 0, .ref b31, .ref b32, .ref b33])), (b20, .inr (5, [.int 0, .int 0, .ref b34, .ref b35, .ref b36, .ref b37, .ref b38, .ref b39, .int 0, .ref b40, .ref b41, .ref b42, .ref b43, .ref b44, .ref b45])), (b7, .inr (4, [.ref b46, .ref b47, .ref b48])), (b48, .inl (G.2 0, 512, .inl (fun _ => 0))), (b39, .inl (G.2 1, 4, .inr (.inl (fun _ => 0)))), (b44, .inl (G.2 0, 242, .inl (fun _ => 0)))] (fun v w => (v = some (.ref b20) ∧ w = [(b0, .inr (0, [.ref b1, .ref b2, .ref b3, .ref b4, .int 0, .int 0, .ref b5, .ref b6, .ref b7, .ref b8, .ref b9, .ref b10, .ref b11, .ref b12, .ref b13, .ref b14, .ref b15, .ref b16, .ref b17, .ref b18])), (b8, .inl (G.2 6, 4, .inr (.inr (.inr (.inr (va_up (va_up (va_up (va_up (fun _ => none) 0 (some b19)) 1 (some b20)) 2 (some b21)) 3 (some b22))))))), (b7, .inr (4, [.ref b46, .ref b47, .ref b48])), (b2, .inr (2, [.int 0, .int 1, .int 0, .ref b31, .ref b32, .ref b33])), (b48, .inl (G.2 0, 512, .inl (fun _ => (-1)))), (b39, .inl (G.2 1, 4, .inr (.inl (fun _ => 0)))), (b6, .inr (3, [.int 1, .int (-1), .int 0, .ref b23, .ref b24, .ref b25, .ref b26, .ref b27, .ref b28, .ref b29, .ref b30])), (b20, .inr (5, [.int 1, .int 0, .ref b34, .ref b35, .ref b36, .ref b37, .ref b38, .ref b39, .int 0, .ref b40, .ref b41, .ref b42, .ref b43, .ref b44, .ref b45])), (b44, .inl (G.2 0, 242, .inl (upd (fun _ => 0) 0 0)))])) := by
  refine z_start (by decide +kernel) (Nat.le_of_ble_eq_true rfl) ?_
  intro p e s m below meth c A Z hr hnm hA hP hD hS ls hl
  have Z : zC p s m _ meth c prog_1_method_37_code 3 "TraceMachines" G := Z
  obtain ⟨hx, hb, hml, hown, hts, hK, hN, hlocks⟩ := id Z
  have hl : lv_has ls 3 [(0, .ref b0), (1, .int 1)] := hl
  refine lv_aload_n hx hb d_X_machine_0 rfl (lv_at hl 0 rfl) ?_
  refine va_get (D := G.1) (ci := 0) (v := .ref b8) (C := R_X) (T := F_X) (N := 20) hx hb hts i_X hown hK hP 0 rfl rfl 9 (by decide) (hts _ q426) (fun _ h9 => h9) rfl d_X_machine_1 ?_
  refine lv_iload_n hx hb d_X_machine_4 rfl (lv_at hl 1 rfl) ?_
  refine va_aldq hx hb hK hP 1 6 rfl rfl (i := 1) (z_in rfl) d_X_machine_5 ?_
  refine z_topv (y := .ref b20) rfl ?_
  refine lv_astore_n (lv' := [(2, .ref b20), (0, .ref b0), (1, .int 1)]) hx hb d_X_machine_6 rfl hl (by decide) rfl (fun ls hl => ?_)
  refine lv_aload_n hx hb d_X_machine_7 rfl (lv_at hl 1 rfl) ?_
  refine va_get (D := G.1) (ci := 0) (v := .ref b6) (C := R_X) (T := F_X) (N := 20) hx hb hts i_X hown hK hP 0 rfl rfl 7 (by decide) (hts _ q424) (fun _ h9 => h9) rfl d_X_machine_8 ?_
  refine va_get (D := G.1) (ci := 3) (v := .int 0) (C := R_Tree) (T := F_Tree) (N := 11) hx hb hts i_Tree hown hK hP 2 rfl rfl 0 (by decide) (hts _ q96) (fun _ h9 => h9) rfl d_X_machine_11 ?_
  refine lv_if_ne (tgt := 29) hx hb d_X_machine_14 (by decide) (fun hc => absurd hc (by decide +kernel)) (fun _ => ?_)
  refine lv_aload_n hx hb d_X_machine_17 rfl (lv_at hl 1 rfl) ?_
  refine va_get (D := G.1) (ci := 0) (v := .ref b6) (C := R_X) (T := F_X) (N := 20) hx hb hts i_X hown hK hP 0 rfl rfl 7 (by decide) (hts _ q424) (fun _ h9 => h9) rfl d_X_machine_18 ?_
  refine lv_aload_n hx hb d_X_machine_21 rfl (lv_at hl 1 rfl) ?_
  refine va_get (D := G.1) (ci := 0) (v := .ref b2) (C := R_X) (T := F_X) (N := 20) hx hb hts i_X hown hK hP 0 rfl rfl 1 (by decide) (hts _ q418) (fun _ h9 => h9) rfl d_X_machine_22 ?_
  refine lv_iconst (v := (-1)) hx hb d_X_machine_25 (by decide) ?_
  refine z_callV (index := 360) (As := [.ref b2, .int (-1)]) (rest := []) (wr := [(b0, .inr (0, [.ref b1, .ref b2, .ref b3, .ref b4, .int 0, .int 0, .ref b5, .ref b6, .ref b7, .ref b8, .ref b9, .ref b10, .ref b11, .ref b12, .ref b13, .ref b14, .ref b15, .ref b16, .ref b17, .ref b18])), (b8, .inl (G.2 6, 4, .inr (.inr (.inr (.inr (va_up (va_up (va_up (va_up (fun _ => none) 0 (some b19)) 1 (some b20)) 2 (some b21)) 3 (some b22))))))), (b20, .inr (5, [.int 0, .int 0, .ref b34, .ref b35, .ref b36, .ref b37, .ref b38, .ref b39, .int 0, .ref b40, .ref b41, .ref b42, .ref b43, .ref b44, .ref b45])), (b7, .inr (4, [.ref b46, .ref b47, .ref b48])), (b48, .inl (G.2 0, 512, .inl (fun _ => 0))), (b39, .inl (G.2 1, 4, .inr (.inl (fun _ => 0)))), (b44, .inl (G.2 0, 242, .inl (fun _ => 0)))]) Z (c1_Tree_grow l G (b6) (b2) (b23) (b24) (b25) (b26) (b27) (b28) (b29) (b30) (b31) (b32) (b33)) hl.1 q567 q568 q569 q4 q570 ⟨by decide, by decide, by show _ = some 2; decide +kernel⟩ ⟨Nat.le_of_ble_eq_true rfl, Nat.le_of_ble_eq_true rfl⟩ ⟨Nat.le_of_ble_eq_true rfl, Nat.le_of_ble_eq_true rfl⟩ rfl (Nat.le_of_ble_eq_true rfl) d_X_machine_26 hP hD hS hA 2 3 rfl rfl rfl [2, 3] [0, 1, 4, 5, 6, 7, 8] rfl rfl rfl rfl (by decide) (fun v w1 H locs hw_1 hP hD hS => ?_)
  obtain ⟨rfl, rfl⟩ := hw_1
  have hP : va_P G.1 classes [(b0, .inr (0, [.ref b1, .ref b2, .ref b3, .ref b4, .int 0, .int 0, .ref b5, .ref b6, .ref b7, .ref b8, .ref b9, .ref b10, .ref b11, .ref b12, .ref b13, .ref b14, .ref b15, .ref b16, .ref b17, .ref b18])), (b8, .inl (G.2 6, 4, .inr (.inr (.inr (.inr (va_up (va_up (va_up (va_up (fun _ => none) 0 (some b19)) 1 (some b20)) 2 (some b21)) 3 (some b22))))))), (b20, .inr (5, [.int 0, .int 0, .ref b34, .ref b35, .ref b36, .ref b37, .ref b38, .ref b39, .int 0, .ref b40, .ref b41, .ref b42, .ref b43, .ref b44, .ref b45])), (b7, .inr (4, [.ref b46, .ref b47, .ref b48])), (b48, .inl (G.2 0, 512, .inl (fun _ => 0))), (b39, .inl (G.2 1, 4, .inr (.inl (fun _ => 0)))), (b44, .inl (G.2 0, 242, .inl (fun _ => 0))), (b6, .inr (3, [.int 1, .int (-1), .int 0, .ref b23, .ref b24, .ref b25, .ref b26, .ref b27, .ref b28, .ref b29, .ref b30])), (b2, .inr (2, [.int 0, .int 1, .int 0, .ref b31, .ref b32, .ref b33]))] H := hP
  have hD := z_tie hP hD rfl
  refine W.widen (k := 0) (n := 0) (Nat.le_of_ble_eq_true rfl) (Nat.le_of_ble_eq_true rfl) ?_
  refine lv_aload_n hx hb d_X_machine_29 rfl (lv_at hl 0 rfl) ?_
  refine va_get (D := G.1) (ci := 5) (v := .int 0) (C := R_Machine) (T := F_Machine) (N := 15) hx hb hts i_Machine hown hK hP 2 rfl rfl 0 (by decide) (hts _ q165) (fun _ h9 => h9) rfl d_X_machine_30 ?_
  refine lv_if_ne (tgt := 53) hx hb d_X_machine_33 (by decide) (fun hc => absurd hc (by decide +kernel)) (fun _ => ?_)
  refine lv_aload_n hx hb d_X_machine_36 rfl (lv_at hl 0 rfl) ?_
  refine lv_aload_n hx hb d_X_machine_37 rfl (lv_at hl 1 rfl) ?_
  refine va_get (D := G.1) (ci := 0) (v := .ref b2) (C := R_X) (T := F_X) (N := 20) hx hb hts i_X hown hK hP 0 rfl rfl 1 (by decide) (hts _ q418) (fun _ h9 => h9) rfl d_X_machine_38 ?_
  refine lv_aload_n hx hb d_X_machine_41 rfl (lv_at hl 1 rfl) ?_
  refine va_get (D := G.1) (ci := 0) (v := .ref b6) (C := R_X) (T := F_X) (N := 20) hx hb hts i_X hown hK hP 0 rfl rfl 7 (by decide) (hts _ q424) (fun _ h9 => h9) rfl d_X_machine_42 ?_
  refine lv_aload_n hx hb d_X_machine_45 rfl (lv_at hl 1 rfl) ?_
  refine va_get (D := G.1) (ci := 0) (v := .ref b7) (C := R_X) (T := F_X) (N := 20) hx hb hts i_X hown hK hP 0 rfl rfl 8 (by decide) (hts _ q425) (fun _ h9 => h9) rfl d_X_machine_46 ?_
  refine lv_iload_n hx hb d_X_machine_49 rfl (lv_at hl 2 rfl) ?_
  refine z_callV (index := 364) (As := [.ref b2, .ref b6, .ref b7, .int 1]) (rest := []) (wr := [(b0, .inr (0, [.ref b1, .ref b2, .ref b3, .ref b4, .int 0, .int 0, .ref b5, .ref b6, .ref b7, .ref b8, .ref b9, .ref b10, .ref b11, .ref b12, .ref b13, .ref b14, .ref b15, .ref b16, .ref b17, .ref b18])), (b8, .inl (G.2 6, 4, .inr (.inr (.inr (.inr (va_up (va_up (va_up (va_up (fun _ => none) 0 (some b19)) 1 (some b20)) 2 (some b21)) 3 (some b22)))))))]) Z (c1_Machine_fold l G (b20) (b2) (b6) (b7) (b34) (b35) (b36) (b37) (b38) (b39) (b40) (b41) (b42) (b43) (b44) (b45) (b46) (b47) (b48) (b23) (b24) (b25) (b26) (b27) (b28) (b29) (b30) (b31) (b32) (b33)) hl.1 q597 q598 q599 q6 q600 ⟨by decide, by decide, by show _ = some 4; decide +kernel⟩ ⟨Nat.le_of_ble_eq_true rfl, Nat.le_of_ble_eq_true rfl⟩ ⟨Nat.le_of_ble_eq_true rfl, Nat.le_of_ble_eq_true rfl⟩ rfl (Nat.le_of_ble_eq_true rfl) d_X_machine_50 hP hD hS hA 2 5 rfl rfl rfl [2, 3, 4, 7, 8, 5, 6] [0, 1] rfl rfl rfl rfl (by decide) (fun v w1 H locs hw_2 hP hD hS => ?_)
  obtain ⟨rfl, rfl⟩ := hw_2
  have hP : va_P G.1 classes [(b0, .inr (0, [.ref b1, .ref b2, .ref b3, .ref b4, .int 0, .int 0, .ref b5, .ref b6, .ref b7, .ref b8, .ref b9, .ref b10, .ref b11, .ref b12, .ref b13, .ref b14, .ref b15, .ref b16, .ref b17, .ref b18])), (b8, .inl (G.2 6, 4, .inr (.inr (.inr (.inr (va_up (va_up (va_up (va_up (fun _ => none) 0 (some b19)) 1 (some b20)) 2 (some b21)) 3 (some b22))))))), (b7, .inr (4, [.ref b46, .ref b47, .ref b48])), (b2, .inr (2, [.int 0, .int 1, .int 0, .ref b31, .ref b32, .ref b33])), (b48, .inl (G.2 0, 512, .inl (fun _ => (-1)))), (b39, .inl (G.2 1, 4, .inr (.inl (fun _ => 0)))), (b6, .inr (3, [.int 1, .int (-1), .int 0, .ref b23, .ref b24, .ref b25, .ref b26, .ref b27, .ref b28, .ref b29, .ref b30])), (b20, .inr (5, [.int 1, .int 0, .ref b34, .ref b35, .ref b36, .ref b37, .ref b38, .ref b39, .int 0, .ref b40, .ref b41, .ref b42, .ref b43, .ref b44, .ref b45])), (b44, .inl (G.2 0, 242, .inl (upd (fun _ => 0) 0 0)))] H := hP
  have hD := z_tie hP hD rfl
  refine W.widen (k := 0) (n := 0) (Nat.le_of_ble_eq_true rfl) (Nat.le_of_ble_eq_true rfl) ?_
  refine lv_aload_n hx hb d_X_machine_53 rfl (lv_at hl 0 rfl) ?_
  exact z_aret hx hb hr hlocks hP hD hS (Nat.le_of_ble_eq_true rfl) (Nat.le_of_ble_eq_true rfl) d_X_machine_54 ⟨rfl, rfl⟩
theorem d_X_state_11 : decode prog_1_method_10_code 11 = .ok (.astore_n 3, 1) := by decide +kernel
theorem d_X_state_12 : decode prog_1_method_10_code 12 = .ok (.iload_n 1, 1) := by decide +kernel
theorem d_X_state_13 : decode prog_1_method_10_code 13 = .ok (.ifCond .lt 11, 3) := by decide +kernel
theorem d_X_state_16 : decode prog_1_method_10_code 16 = .ok (.iload_n 1, 1) := by decide +kernel
theorem d_X_state_17 : decode prog_1_method_10_code 17 = .ok (.aload_n 3, 1) := by decide +kernel
theorem d_X_state_18 : decode prog_1_method_10_code 18 = .ok (.getfield 199, 3) := by decide +kernel
theorem d_X_state_21 : decode prog_1_method_10_code 21 = .ok (.if_icmp .lt 5, 3) := by decide +kernel
theorem d_X_state_24 : decode prog_1_method_10_code 24 = .ok (.iconst (-1), 1) := by decide +kernel
theorem d_X_state_25 : decode prog_1_method_10_code 25 = .ok (.ireturn, 1) := by decide +kernel
abbrev m_t_X_state : Room := { frames := 4, cells := 0, slots := 0, locals := 95 }
set_option maxHeartbeats 4000000 in
set_option maxRecDepth 100000 in
theorem t_X_state (l : Launch) (G : zG) (b0 : Nat) (p0 : Int32) (p1 : Int32) (b3 : Nat) (b4 : Nat) (b5 : Nat) (b6 : Nat) (b7 : Nat) (b8 : Nat) (b9 : Nat) (b10 : Nat) (b11 : Nat) (b12 : Nat) (b13 : Nat) (b14 : Nat) (b15 : Nat) (b16 : Nat) (b17 : Nat) (b18 : Nat) (b19 : Nat) (b20 : Nat) (b21 : Nat) (b22 : Nat) (b23 : Nat) (b24 : Nat) (b25 : Nat) (b26 : Nat) (b27 : Nat) (b28 : Nat) (b29 : Nat) (b30 : Nat) (b31 : Nat) (b32 : Nat) (b33 : Nat) (b34 : Nat) (b35 : Nat) (b36 : Nat) (b37 : Nat) (b38 : Nat) (b39 : Nat) (b40 : Nat) (b41 : Nat) (b42 : Nat) (b43 : Nat) (b44 : Nat) (b45 : Nat) (b46 : Nat) (b47 : Nat) (b48 : Nat) (b49 : Nat) (b50 : Nat)  : zM l G y_X_state prog_1_method_10_code 4 (Option.some Jvm.ClassFile.FieldType.int) m_t_X_state [.ref b0, .int p0, .int p1] [(b0, .inr (0, [.ref b3, .ref b4, .ref b5, .ref b6, .int 0, .int 0, .ref b7, .ref b8, .ref b9, .ref b10, .ref b11, .ref b12, .ref b13, .ref b14, .ref b15, .ref b16, .ref b17, .ref b18, .ref b19, .ref b20])), (b4, .inr (2, [.int 0, .int 1, .int 0, .ref b21, .ref b22, .ref b23])), (b10, .inl (G.2 6, 4, .inr (.inr (.inr (.inr (va_up (va_up (va_up (va_up (fun _ => none) 0 (some b24)) 1 (some b25)) 2 (some b26)) 3 (some b27))))))), (b8, .inr (3, [.int 0, .int 0, .int 0, .ref b28, .ref b29, .ref b30, .ref b31, .ref b32, .ref b33, .ref b34, .ref b35])), (b25, .inr (5, [.int 0, .int 0, .ref b36, .ref b37, .ref b38, .ref b39, .ref b40, .ref b41, .int 0, .ref b42, .ref b43, .ref b44, .ref b45, .ref b46, .ref b47])), (b9, .inr (4, [.ref b48, .ref b49, .ref b50])), (b50, .inl (G.2 0, 512, .inl (fun _ => 0))), (b41, .inl (G.2 1, 4, .inr (.inl (fun _ => 0)))), (b46, .inl (G.2 0, 242, .inl (fun _ => 0)))] (fun v _ => v = some (.int (a_state p0 p1))) := by
  refine z_start (by decide +kernel) (Nat.le_of_ble_eq_true rfl) ?_
  intro p e s m below meth c A Z hr hnm hA hP hD hS ls hl
  have Z : zC p s m _ meth c prog_1_method_10_code 4 "TraceMachines" G := Z
  obtain ⟨hx, hb, hml, hown, hts, hK, hN, hlocks⟩ := id Z
  have hl : lv_has ls 4 [(0, .ref b0), (1, .int p0), (2, .int p1)] := hl
  refine lv_aload_n hx hb d_X_state_0 rfl (lv_at hl 0 rfl) ?_
  refine lv_aload_n hx hb d_X_state_1 rfl (lv_at hl 0 rfl) ?_
  refine va_get (D := G.1) (ci := 0) (v := .ref b4) (C := R_X) (T := F_X) (N := 20) hx hb hts i_X hown hK hP 0 rfl rfl 1 (by decide) (hts _ q418) (fun _ h9 => h9) rfl d_X_state_2 ?_
  refine va_get (D := G.1) (ci := 2) (v := .int 1) (C := R_Traces) (T := F_Traces) (N := 6) hx hb hts i_Traces hown hK hP 1 rfl rfl 1 (by decide) (hts _ q60) (fun _ h9 => h9) rfl d_X_state_5 ?_
  refine z_callV (index := 189) (As := [.int 1]) (rest := []) (wr := []) Z (c1_X_machine l G (b0) (b3) (b4) (b5) (b6) (b7) (b8) (b9) (b10) (b11) (b12) (b13) (b14) (b15) (b16) (b17) (b18) (b19) (b20) (b24) (b25) (b26) (b27) (b28) (b29) (b30) (b31) (b32) (b33) (b34) (b35) (b21) (b22) (b23) (b36) (b37) (b38) (b39) (b40) (b41) (b42) (b43) (b44) (b45) (b46) (b47) (b48) (b49) (b50)) hl.1 q563 q565 qs2 q1 q566 ⟨by decide, by decide, by show _ = some 1; decide +kernel⟩ ⟨Nat.le_of_ble_eq_true rfl, Nat.le_of_ble_eq_true rfl⟩ ⟨Nat.le_of_ble_eq_true rfl, Nat.le_of_ble_eq_true rfl⟩ rfl (Nat.le_of_ble_eq_true rfl) d_X_state_8 hP hD hS hA 0 0 rfl rfl rfl [0, 2, 3, 1, 4, 5, 6, 7, 8] [] rfl rfl rfl rfl (by decide) (fun v w1 H locs hw_1 hP hD hS => ?_)
  obtain ⟨rfl, rfl⟩ := hw_1
  have hP : va_P G.1 classes [(b0, .inr (0, [.ref b3, .ref b4, .ref b5, .ref b6, .int 0, .int 0, .ref b7, .ref b8, .ref b9, .ref b10, .ref b11, .ref b12, .ref b13, .ref b14, .ref b15, .ref b16, .ref b17, .ref b18, .ref b19, .ref b20])), (b10, .inl (G.2 6, 4, .inr (.inr (.inr (.inr (va_up (va_up (va_up (va_up (fun _ => none) 0 (some b24)) 1 (some b25)) 2 (some b26)) 3 (some b27))))))), (b9, .inr (4, [.ref b48, .ref b49, .ref b50])), (b4, .inr (2, [.int 0, .int 1, .int 0, .ref b21, .ref b22, .ref b23])), (b50, .inl (G.2 0, 512, .inl (fun _ => (-1)))), (b41, .inl (G.2 1, 4, .inr (.inl (fun _ => 0)))), (b8, .inr (3, [.int 1, .int (-1), .int 0, .ref b28, .ref b29, .ref b30, .ref b31, .ref b32, .ref b33, .ref b34, .ref b35])), (b25, .inr (5, [.int 1, .int 0, .ref b36, .ref b37, .ref b38, .ref b39, .ref b40, .ref b41, .int 0, .ref b42, .ref b43, .ref b44, .ref b45, .ref b46, .ref b47])), (b46, .inl (G.2 0, 242, .inl (upd (fun _ => 0) 0 0)))] H := hP
  have hD := z_tie hP hD rfl
  refine W.widen (k := 0) (n := 0) (Nat.le_of_ble_eq_true rfl) (Nat.le_of_ble_eq_true rfl) ?_
  refine lv_astore_n (lv' := [(3, .ref b25), (0, .ref b0), (1, .int p0), (2, .int p1)]) hx hb d_X_state_11 rfl hl (by decide) rfl (fun ls hl => ?_)
  refine lv_iload_n hx hb d_X_state_12 rfl (lv_at hl 2 rfl) ?_
  refine lv_if_lt (tgt := 24) hx hb d_X_state_13 (by decide) (fun hc_2 => ?_) (fun hc_2 => ?_)
  · simp only [fa_lt, fa_le, fa_eq, Int32.toInt_toInt64, li_0] at hc_2
    refine lv_iconst (v := (-1)) hx hb d_X_state_24 (by decide) ?_
    exact z_iret hx hb hr hlocks hP hD hS (Nat.le_of_ble_eq_true rfl) (Nat.le_of_ble_eq_true rfl) d_X_state_25 (congrArg (fun z => some (Value.int z)) (by unfold a_state; (first | rfl | (repeat (first | rw [if_pos (by omega)] | rw [if_neg (by omega)])))))
  · simp only [fa_lt, fa_le, fa_eq, Int32.toInt_toInt64, li_0] at hc_2
    refine lv_iload_n hx hb d_X_state_16 rfl (lv_at hl 2 rfl) ?_
    refine lv_aload_n hx hb d_X_state_17 rfl (lv_at hl 0 rfl) ?_
    refine va_get (D := G.1) (ci := 5) (v := .int 0) (C := R_Machine) (T := F_Machine) (N := 15) hx hb hts i_Machine hown hK hP 7 rfl rfl 1 (by decide) (hts _ q169) (fun _ h9 => h9) rfl d_X_state_18 ?_
    refine lv_icmp_lt (tgt := 26) hx hb d_X_state_21 (by decide) (fun hc => absurd hc (by intro hc; simp only [fa_lt, fa_le, fa_eq, Int32.toInt_toInt64, li_0] at hc; omega)) (fun _ => ?_)
    refine lv_iconst (v := (-1)) hx hb d_X_state_24 (by decide) ?_
    exact z_iret hx hb hr hlocks hP hD hS (Nat.le_of_ble_eq_true rfl) (Nat.le_of_ble_eq_true rfl) d_X_state_25 (congrArg (fun z => some (Value.int z)) (by unfold a_state; (first | rfl | (repeat (first | rw [if_pos (by omega)] | rw [if_neg (by omega)])))))
theorem d_X_edge_0 : decode prog_1_method_11_code 0 = .ok (.aload_n 0, 1) := by decide +kernel
theorem d_X_edge_1 : decode prog_1_method_11_code 1 = .ok (.aload_n 0, 1) := by decide +kernel
theorem d_X_edge_2 : decode prog_1_method_11_code 2 = .ok (.getfield 19, 3) := by decide +kernel
theorem d_X_edge_5 : decode prog_1_method_11_code 5 = .ok (.getfield 156, 3) := by decide +kernel
theorem d_X_edge_8 : decode prog_1_method_11_code 8 = .ok (.invokevirtual 189, 3) := by decide +kernel
theorem d_X_edge_11 : decode prog_1_method_11_code 11 = .ok (.astore_n 3, 1) := by decide +kernel
theorem d_X_edge_12 : decode prog_1_method_11_code 12 = .ok (.iload_n 1, 1) := by decide +kernel
theorem d_X_edge_13 : decode prog_1_method_11_code 13 = .ok (.ifCond .lt 11, 3) := by decide +kernel
theorem d_X_edge_16 : decode prog_1_method_11_code 16 = .ok (.iload_n 1, 1) := by decide +kernel
theorem d_X_edge_17 : decode prog_1_method_11_code 17 = .ok (.aload_n 3, 1) := by decide +kernel
theorem d_X_edge_18 : decode prog_1_method_11_code 18 = .ok (.getfield 220, 3) := by decide +kernel
theorem d_X_edge_21 : decode prog_1_method_11_code 21 = .ok (.if_icmp .lt 5, 3) := by decide +kernel
theorem d_X_edge_24 : decode prog_1_method_11_code 24 = .ok (.iconst (-1), 1) := by decide +kernel
theorem d_X_edge_25 : decode prog_1_method_11_code 25 = .ok (.ireturn, 1) := by decide +kernel
abbrev m_t_X_edge : Room := { frames := 4, cells := 0, slots := 0, locals := 95 }
set_option maxHeartbeats 4000000 in
set_option maxRecDepth 100000 in
theorem t_X_edge (l : Launch) (G : zG) (b0 : Nat) (p0 : Int32) (p1 : Int32) (b3 : Nat) (b4 : Nat) (b5 : Nat) (b6 : Nat) (b7 : Nat) (b8 : Nat) (b9 : Nat) (b10 : Nat) (b11 : Nat) (b12 : Nat) (b13 : Nat) (b14 : Nat) (b15 : Nat) (b16 : Nat) (b17 : Nat) (b18 : Nat) (b19 : Nat) (b20 : Nat) (b21 : Nat) (b22 : Nat) (b23 : Nat) (b24 : Nat) (b25 : Nat) (b26 : Nat) (b27 : Nat) (b28 : Nat) (b29 : Nat) (b30 : Nat) (b31 : Nat) (b32 : Nat) (b33 : Nat) (b34 : Nat) (b35 : Nat) (b36 : Nat) (b37 : Nat) (b38 : Nat) (b39 : Nat) (b40 : Nat) (b41 : Nat) (b42 : Nat) (b43 : Nat) (b44 : Nat) (b45 : Nat) (b46 : Nat) (b47 : Nat) (b48 : Nat) (b49 : Nat) (b50 : Nat)  : zM l G y_X_edge prog_1_method_11_code 4 (Option.some Jvm.ClassFile.FieldType.int) m_t_X_edge [.ref b0, .int p0, .int p1] [(b0, .inr (0, [.ref b3, .ref b4, .ref b5, .ref b6, .int 0, .int 0, .ref b7, .ref b8, .ref b9, .ref b10, .ref b11, .ref b12, .ref b13, .ref b14, .ref b15, .ref b16, .ref b17, .ref b18, .ref b19, .ref b20])), (b4, .inr (2, [.int 0, .int 1, .int 0, .ref b21, .ref b22, .ref b23])), (b10, .inl (G.2 6, 4, .inr (.inr (.inr (.inr (va_up (va_up (va_up (va_up (fun _ => none) 0 (some b24)) 1 (some b25)) 2 (some b26)) 3 (some b27))))))), (b8, .inr (3, [.int 0, .int 0, .int 0, .ref b28, .ref b29, .ref b30, .ref b31, .ref b32, .ref b33, .ref b34, .ref b35])), (b25, .inr (5, [.int 0, .int 0, .ref b36, .ref b37, .ref b38, .ref b39, .ref b40, .ref b41, .int 0, .ref b42, .ref b43, .ref b44, .ref b45, .ref b46, .ref b47])), (b9, .inr (4, [.ref b48, .ref b49, .ref b50])), (b50, .inl (G.2 0, 512, .inl (fun _ => 0))), (b41, .inl (G.2 1, 4, .inr (.inl (fun _ => 0)))), (b46, .inl (G.2 0, 242, .inl (fun _ => 0)))] (fun v _ => v = some (.int (a_edge p0 p1))) := by
  refine z_start (by decide +kernel) (Nat.le_of_ble_eq_true rfl) ?_
  intro p e s m below meth c A Z hr hnm hA hP hD hS ls hl
  have Z : zC p s m _ meth c prog_1_method_11_code 4 "TraceMachines" G := Z
  obtain ⟨hx, hb, hml, hown, hts, hK, hN, hlocks⟩ := id Z
  have hl : lv_has ls 4 [(0, .ref b0), (1, .int p0), (2, .int p1)] := hl
  refine lv_aload_n hx hb d_X_edge_0 rfl (lv_at hl 0 rfl) ?_
  refine lv_aload_n hx hb d_X_edge_1 rfl (lv_at hl 0 rfl) ?_
  refine va_get (D := G.1) (ci := 0) (v := .ref b4) (C := R_X) (T := F_X) (N := 20) hx hb hts i_X hown hK hP 0 rfl rfl 1 (by decide) (hts _ q418) (fun _ h9 => h9) rfl d_X_edge_2 ?_
  refine va_get (D := G.1) (ci := 2) (v := .int 1) (C := R_Traces) (T := F_Traces) (N := 6) hx hb hts i_Traces hown hK hP 1 rfl rfl 1 (by decide) (hts _ q60) (fun _ h9 => h9) rfl d_X_edge_5 ?_
  refine z_callV (index := 189) (As := [.int 1]) (rest := []) (wr := []) Z (c1_X_machine l G (b0) (b3) (b4) (b5) (b6) (b7) (b8) (b9) (b10) (b11) (b12) (b13) (b14) (b15) (b16) (b17) (b18) (b19) (b20) (b24) (b25) (b26) (b27) (b28) (b29) (b30) (b31) (b32) (b33) (b34) (b35) (b21) (b22) (b23) (b36) (b37) (b38) (b39) (b40) (b41) (b42) (b43) (b44) (b45) (b46) (b47) (b48) (b49) (b50)) hl.1 q563 q565 qs2 q1 q566 ⟨by decide, by decide, by show _ = some 1; decide +kernel⟩ ⟨Nat.le_of_ble_eq_true rfl, Nat.le_of_ble_eq_true rfl⟩ ⟨Nat.le_of_ble_eq_true rfl, Nat.le_of_ble_eq_true rfl⟩ rfl (Nat.le_of_ble_eq_true rfl) d_X_edge_8 hP hD hS hA 0 0 rfl rfl rfl [0, 2, 3, 1, 4, 5, 6, 7, 8] [] rfl rfl rfl rfl (by decide) (fun v w1 H locs hw_1 hP hD hS => ?_)
  obtain ⟨rfl, rfl⟩ := hw_1
  have hP : va_P G.1 classes [(b0, .inr (0, [.ref b3, .ref b4, .ref b5, .ref b6, .int 0, .int 0, .ref b7, .ref b8, .ref b9, .ref b10, .ref b11, .ref b12, .ref b13, .ref b14, .ref b15, .ref b16, .ref b17, .ref b18, .ref b19, .ref b20])), (b10, .inl (G.2 6, 4, .inr (.inr (.inr (.inr (va_up (va_up (va_up (va_up (fun _ => none) 0 (some b24)) 1 (some b25)) 2 (some b26)) 3 (some b27))))))), (b9, .inr (4, [.ref b48, .ref b49, .ref b50])), (b4, .inr (2, [.int 0, .int 1, .int 0, .ref b21, .ref b22, .ref b23])), (b50, .inl (G.2 0, 512, .inl (fun _ => (-1)))), (b41, .inl (G.2 1, 4, .inr (.inl (fun _ => 0)))), (b8, .inr (3, [.int 1, .int (-1), .int 0, .ref b28, .ref b29, .ref b30, .ref b31, .ref b32, .ref b33, .ref b34, .ref b35])), (b25, .inr (5, [.int 1, .int 0, .ref b36, .ref b37, .ref b38, .ref b39, .ref b40, .ref b41, .int 0, .ref b42, .ref b43, .ref b44, .ref b45, .ref b46, .ref b47])), (b46, .inl (G.2 0, 242, .inl (upd (fun _ => 0) 0 0)))] H := hP
  have hD := z_tie hP hD rfl
  refine W.widen (k := 0) (n := 0) (Nat.le_of_ble_eq_true rfl) (Nat.le_of_ble_eq_true rfl) ?_
  refine lv_astore_n (lv' := [(3, .ref b25), (0, .ref b0), (1, .int p0), (2, .int p1)]) hx hb d_X_edge_11 rfl hl (by decide) rfl (fun ls hl => ?_)
  refine lv_iload_n hx hb d_X_edge_12 rfl (lv_at hl 2 rfl) ?_
  refine lv_if_lt (tgt := 24) hx hb d_X_edge_13 (by decide) (fun hc_2 => ?_) (fun hc_2 => ?_)
  · simp only [fa_lt, fa_le, fa_eq, Int32.toInt_toInt64, li_0] at hc_2
    refine lv_iconst (v := (-1)) hx hb d_X_edge_24 (by decide) ?_
    exact z_iret hx hb hr hlocks hP hD hS (Nat.le_of_ble_eq_true rfl) (Nat.le_of_ble_eq_true rfl) d_X_edge_25 (congrArg (fun z => some (Value.int z)) (by unfold a_edge; (first | rfl | (repeat (first | rw [if_pos (by omega)] | rw [if_neg (by omega)])))))
  · simp only [fa_lt, fa_le, fa_eq, Int32.toInt_toInt64, li_0] at hc_2
    refine lv_iload_n hx hb d_X_edge_16 rfl (lv_at hl 2 rfl) ?_
    refine lv_aload_n hx hb d_X_edge_17 rfl (lv_at hl 0 rfl) ?_
    refine va_get (D := G.1) (ci := 5) (v := .int 0) (C := R_Machine) (T := F_Machine) (N := 15) hx hb hts i_Machine hown hK hP 7 rfl rfl 8 (by decide) (hts _ q185) (fun _ h9 => h9) rfl d_X_edge_18 ?_
    refine lv_icmp_lt (tgt := 26) hx hb d_X_edge_21 (by decide) (fun hc => absurd hc (by intro hc; simp only [fa_lt, fa_le, fa_eq, Int32.toInt_toInt64, li_0] at hc; omega)) (fun _ => ?_)
    refine lv_iconst (v := (-1)) hx hb d_X_edge_24 (by decide) ?_
    exact z_iret hx hb hr hlocks hP hD hS (Nat.le_of_ble_eq_true rfl) (Nat.le_of_ble_eq_true rfl) d_X_edge_25 (congrArg (fun z => some (Value.int z)) (by unfold a_edge; (first | rfl | (repeat (first | rw [if_pos (by omega)] | rw [if_neg (by omega)])))))
theorem d_X_vague_0 : decode prog_1_method_12_code 0 = .ok (.iload_n 1, 1) := by decide +kernel
theorem d_X_vague_1 : decode prog_1_method_12_code 1 = .ok (.ifCond .ne 20, 3) := by decide +kernel
theorem d_X_vague_21 : decode prog_1_method_12_code 21 = .ok (.iload_n 1, 1) := by decide +kernel
theorem d_X_vague_22 : decode prog_1_method_12_code 22 = .ok (.iconst 1, 1) := by decide +kernel
theorem d_X_vague_23 : decode prog_1_method_12_code 23 = .ok (.if_icmp .ne 27, 3) := by decide +kernel
theorem d_X_vague_26 : decode prog_1_method_12_code 26 = .ok (.aload_n 0, 1) := by decide +kernel
theorem d_X_vague_27 : decode prog_1_method_12_code 27 = .ok (.aload_n 0, 1) := by decide +kernel
theorem d_X_vague_28 : decode prog_1_method_12_code 28 = .ok (.getfield 19, 3) := by decide +kernel
theorem d_X_vague_31 : decode prog_1_method_12_code 31 = .ok (.getfield 156, 3) := by decide +kernel
theorem d_X_vague_34 : decode prog_1_method_12_code 34 = .ok (.invokevirtual 189, 3) := by decide +kernel
theorem d_X_vague_37 : decode prog_1_method_12_code 37 = .ok (.aload_n 0, 1) := by decide +kernel
theorem d_X_vague_38 : decode prog_1_method_12_code 38 = .ok (.getfield 19, 3) := by decide +kernel
theorem d_X_vague_41 : decode prog_1_method_12_code 41 = .ok (.getfield 159, 3) := by decide +kernel
theorem d_X_vague_44 : decode prog_1_method_12_code 44 = .ok (.invokevirtual 241, 3) := by decide +kernel
theorem d_X_vague_50 : decode prog_1_method_12_code 50 = .ok (.iconst (-1), 1) := by decide +kernel
theorem d_X_vague_51 : decode prog_1_method_12_code 51 = .ok (.ireturn, 1) := by decide +kernel
theorem d_Machine_forks_0 : decode prog_4_method_14_code 0 = .ok (.iconst 0, 1) := by decide +kernel
theorem d_Machine_forks_1 : decode prog_4_method_14_code 1 = .ok (.istore_n 2, 1) := by decide +kernel
theorem d_Machine_forks_2 : decode prog_4_method_14_code 2 = .ok (.iconst 0, 1) := by decide +kernel
theorem d_Machine_forks_3 : decode prog_4_method_14_code 3 = .ok (.istore_n 3, 1) := by decide +kernel
theorem d_Machine_forks_4 : decode prog_4_method_14_code 4 = .ok (.iload_n 3, 1) := by decide +kernel
theorem d_Machine_forks_5 : decode prog_4_method_14_code 5 = .ok (.aload_n 0, 1) := by decide +kernel
theorem d_Machine_forks_6 : decode prog_4_method_14_code 6 = .ok (.getfield 103, 3) := by decide +kernel
theorem d_Machine_forks_9 : decode prog_4_method_14_code 9 = .ok (.if_icmp .ge 106, 3) := by decide +kernel
theorem d_Machine_forks_115 : decode prog_4_method_14_code 115 = .ok (.iload_n 2, 1) := by decide +kernel
theorem d_Machine_forks_116 : decode prog_4_method_14_code 116 = .ok (.ireturn, 1) := by decide +kernel
abbrev m_c1_Machine_forks : Room := { frames := 0, cells := 0, slots := 0, locals := 0 }
set_option maxHeartbeats 4000000 in
set_option maxRecDepth 100000 in
theorem c1_Machine_forks (l : Launch) (G : zG) (b0 : Nat) (b1 : Nat) (b2 : Nat) (b3 : Nat) (b4 : Nat) (b5 : Nat) (b6 : Nat) (b7 : Nat) (b8 : Nat) (b9 : Nat) (b10 : Nat) (b11 : Nat) (b12 : Nat)  : zM l G y_Machine_forks prog_4_method_14_code 7 (Option.some Jvm.ClassFile.FieldType.int) m_c1_Machine_forks [.ref b0, .int 0] [(b0, .inr (5, [.int 1, .int 0, .ref b1, .ref b2, .ref b3, .ref b4, .ref b5, .ref b6, .int 0, .ref b7, .ref b8, .ref b9, .ref b10, .ref b11, .ref b12]))] (fun v w => (v = some (.int 0) ∧ w = [(b0, .inr (5, [.int 1, .int 0, .ref b1, .ref b2, .ref b3, .ref b4, .ref b5, .ref b6, .int 0, .ref b7, .ref b8, .ref b9, .ref b10, .ref b11, .ref b12]))])) := by
  refine z_start (by decide +kernel) (Nat.le_of_ble_eq_true rfl) ?_
  intro p e s m below meth c A Z hr hnm hA hP hD hS ls hl
  have Z : zC p s m _ meth c prog_4_method_14_code 7 "TraceMachines$Machine" G := Z
  obtain ⟨hx, hb, hml, hown, hts, hK, hN, hlocks⟩ := id Z
  have hl : lv_has ls 7 [(0, .ref b0), (1, .int 0)] := hl
  refine lv_iconst (v := 0) hx hb d_Machine_forks_0 (by decide) ?_
  refine lv_istore_n (lv' := [(2, .int 0), (0, .ref b0), (1, .int 0)]) hx hb d_Machine_forks_1 rfl hl (by decide) rfl (fun ls hl => ?_)
  refine lv_iconst (v := 0) hx hb d_Machine_forks_2 (by decide) ?_
  refine lv_istore_n (lv' := [(3, .int 0), (2, .int 0), (0, .ref b0), (1, .int 0)]) hx hb d_Machine_forks_3 rfl hl (by decide) rfl (fun ls hl => ?_)
  refine lv_iload_n hx hb d_Machine_forks_4 rfl (lv_at hl 0 rfl) ?_
  refine lv_aload_n hx hb d_Machine_forks_5 rfl (lv_at hl 2 rfl) ?_
  refine va_get (D := G.1) (ci := 5) (v := .int 0) (C := R_Machine) (T := F_Machine) (N := 15) hx hb hts i_Machine hown hK hP 0 rfl rfl 8 (by decide) (hts _ q184) (fun _ h9 => h9) rfl d_Machine_forks_6 ?_
  refine lv_icmp_ge (tgt := 115) hx hb d_Machine_forks_9 (by decide) (fun _ => ?_) (fun hc => absurd hc (by decide +kernel))
  refine lv_iload_n hx hb d_Machine_forks_115 rfl (lv_at hl 1 rfl) ?_
  exact z_iret hx hb hr hlocks hP hD hS (Nat.le_of_ble_eq_true rfl) (Nat.le_of_ble_eq_true rfl) d_Machine_forks_116 ⟨rfl, rfl⟩
theorem d_X_vague_4 : decode prog_1_method_12_code 4 = .ok (.aload_n 0, 1) := by decide +kernel
theorem d_X_vague_5 : decode prog_1_method_12_code 5 = .ok (.aload_n 0, 1) := by decide +kernel
theorem d_X_vague_6 : decode prog_1_method_12_code 6 = .ok (.getfield 19, 3) := by decide +kernel
theorem d_X_vague_9 : decode prog_1_method_12_code 9 = .ok (.getfield 156, 3) := by decide +kernel
theorem d_X_vague_12 : decode prog_1_method_12_code 12 = .ok (.invokevirtual 189, 3) := by decide +kernel
theorem d_X_vague_15 : decode prog_1_method_12_code 15 = .ok (.bipush 100, 2) := by decide +kernel
theorem d_X_vague_17 : decode prog_1_method_12_code 17 = .ok (.invokevirtual 241, 3) := by decide +kernel
theorem d_X_vague_47 : decode prog_1_method_12_code 47 = .ok (.goto 4, 3) := by decide +kernel
abbrev m_c2_Machine_forks : Room := { frames := 0, cells := 0, slots := 0, locals := 0 }
set_option maxHeartbeats 4000000 in
set_option maxRecDepth 100000 in
theorem c2_Machine_forks (l : Launch) (G : zG) (b0 : Nat) (b1 : Nat) (b2 : Nat) (b3 : Nat) (b4 : Nat) (b5 : Nat) (b6 : Nat) (b7 : Nat) (b8 : Nat) (b9 : Nat) (b10 : Nat) (b11 : Nat) (b12 : Nat)  : zM l G y_Machine_forks prog_4_method_14_code 7 (Option.some Jvm.ClassFile.FieldType.int) m_c2_Machine_forks [.ref b0, .int 100] [(b0, .inr (5, [.int 1, .int 0, .ref b1, .ref b2, .ref b3, .ref b4, .ref b5, .ref b6, .int 0, .ref b7, .ref b8, .ref b9, .ref b10, .ref b11, .ref b12]))] (fun v w => (v = some (.int 0) ∧ w = [(b0, .inr (5, [.int 1, .int 0, .ref b1, .ref b2, .ref b3, .ref b4, .ref b5, .ref b6, .int 0, .ref b7, .ref b8, .ref b9, .ref b10, .ref b11, .ref b12]))])) := by
  refine z_start (by decide +kernel) (Nat.le_of_ble_eq_true rfl) ?_
  intro p e s m below meth c A Z hr hnm hA hP hD hS ls hl
  have Z : zC p s m _ meth c prog_4_method_14_code 7 "TraceMachines$Machine" G := Z
  obtain ⟨hx, hb, hml, hown, hts, hK, hN, hlocks⟩ := id Z
  have hl : lv_has ls 7 [(0, .ref b0), (1, .int 100)] := hl
  refine lv_iconst (v := 0) hx hb d_Machine_forks_0 (by decide) ?_
  refine lv_istore_n (lv' := [(2, .int 0), (0, .ref b0), (1, .int 100)]) hx hb d_Machine_forks_1 rfl hl (by decide) rfl (fun ls hl => ?_)
  refine lv_iconst (v := 0) hx hb d_Machine_forks_2 (by decide) ?_
  refine lv_istore_n (lv' := [(3, .int 0), (2, .int 0), (0, .ref b0), (1, .int 100)]) hx hb d_Machine_forks_3 rfl hl (by decide) rfl (fun ls hl => ?_)
  refine lv_iload_n hx hb d_Machine_forks_4 rfl (lv_at hl 0 rfl) ?_
  refine lv_aload_n hx hb d_Machine_forks_5 rfl (lv_at hl 2 rfl) ?_
  refine va_get (D := G.1) (ci := 5) (v := .int 0) (C := R_Machine) (T := F_Machine) (N := 15) hx hb hts i_Machine hown hK hP 0 rfl rfl 8 (by decide) (hts _ q184) (fun _ h9 => h9) rfl d_Machine_forks_6 ?_
  refine lv_icmp_ge (tgt := 115) hx hb d_Machine_forks_9 (by decide) (fun _ => ?_) (fun hc => absurd hc (by decide +kernel))
  refine lv_iload_n hx hb d_Machine_forks_115 rfl (lv_at hl 1 rfl) ?_
  exact z_iret hx hb hr hlocks hP hD hS (Nat.le_of_ble_eq_true rfl) (Nat.le_of_ble_eq_true rfl) d_Machine_forks_116 ⟨rfl, rfl⟩
theorem d_X_vague_20 : decode prog_1_method_12_code 20 = .ok (.ireturn, 1) := by decide +kernel
abbrev m_t_X_vague : Room := { frames := 4, cells := 0, slots := 0, locals := 95 }
set_option maxHeartbeats 4000000 in
set_option maxRecDepth 100000 in
theorem t_X_vague (l : Launch) (G : zG) (b0 : Nat) (p0 : Int32) (b2 : Nat) (b3 : Nat) (b4 : Nat) (b5 : Nat) (b6 : Nat) (b7 : Nat) (b8 : Nat) (b9 : Nat) (b10 : Nat) (b11 : Nat) (b12 : Nat) (b13 : Nat) (b14 : Nat) (b15 : Nat) (b16 : Nat) (b17 : Nat) (b18 : Nat) (b19 : Nat) (b20 : Nat) (b21 : Nat) (b22 : Nat) (b23 : Nat) (b24 : Nat) (b25 : Nat) (b26 : Nat) (b27 : Nat) (b28 : Nat) (b29 : Nat) (b30 : Nat) (b31 : Nat) (b32 : Nat) (b33 : Nat) (b34 : Nat) (b35 : Nat) (b36 : Nat) (b37 : Nat) (b38 : Nat) (b39 : Nat) (b40 : Nat) (b41 : Nat) (b42 : Nat) (b43 : Nat) (b44 : Nat) (b45 : Nat) (b46 : Nat) (b47 : Nat) (b48 : Nat) (b49 : Nat)  : zM l G y_X_vague prog_1_method_12_code 2 (Option.some Jvm.ClassFile.FieldType.int) m_t_X_vague [.ref b0, .int p0] [(b0, .inr (0, [.ref b2, .ref b3, .ref b4, .ref b5, .int 0, .int 0, .ref b6, .ref b7, .ref b8, .ref b9, .ref b10, .ref b11, .ref b12, .ref b13, .ref b14, .ref b15, .ref b16, .ref b17, .ref b18, .ref b19])), (b3, .inr (2, [.int 0, .int 1, .int 0, .ref b20, .ref b21, .ref b22])), (b9, .inl (G.2 6, 4, .inr (.inr (.inr (.inr (va_up (va_up (va_up (va_up (fun _ => none) 0 (some b23)) 1 (some b24)) 2 (some b25)) 3 (some b26))))))), (b7, .inr (3, [.int 0, .int 0, .int 0, .ref b27, .ref b28, .ref b29, .ref b30, .ref b31, .ref b32, .ref b33, .ref b34])), (b24, .inr (5, [.int 0, .int 0, .ref b35, .ref b36, .ref b37, .ref b38, .ref b39, .ref b40, .int 0, .ref b41, .ref b42, .ref b43, .ref b44, .ref b45, .ref b46])), (b8, .inr (4, [.ref b47, .ref b48, .ref b49])), (b49, .inl (G.2 0, 512, .inl (fun _ => 0))), (b40, .inl (G.2 1, 4, .inr (.inl (fun _ => 0)))), (b45, .inl (G.2 0, 242, .inl (fun _ => 0)))] (fun v _ => v = some (.int (a_vague p0))) := by
  refine z_start (by decide +kernel) (Nat.le_of_ble_eq_true rfl) ?_
  intro p e s m below meth c A Z hr hnm hA hP hD hS ls hl
  have Z : zC p s m _ meth c prog_1_method_12_code 2 "TraceMachines" G := Z
  obtain ⟨hx, hb, hml, hown, hts, hK, hN, hlocks⟩ := id Z
  have hl : lv_has ls 2 [(0, .ref b0), (1, .int p0)] := hl
  refine lv_iload_n hx hb d_X_vague_0 rfl (lv_at hl 1 rfl) ?_
  refine lv_if_ne (tgt := 21) hx hb d_X_vague_1 (by decide) (fun hc_1 => ?_) (fun hc_1 => ?_)
  · simp only [fa_lt, fa_le, fa_eq, Int32.toInt_toInt64, li_0] at hc_1
    refine lv_iload_n hx hb d_X_vague_21 rfl (lv_at hl 1 rfl) ?_
    refine lv_iconst (v := 1) hx hb d_X_vague_22 (by decide) ?_
    refine lv_icmp_ne (tgt := 50) hx hb d_X_vague_23 (by decide) (fun hc_2 => ?_) (fun hc_2 => ?_)
    · simp only [fa_lt, fa_le, fa_eq, Int32.toInt_toInt64, li_1] at hc_2
      refine lv_iconst (v := (-1)) hx hb d_X_vague_50 (by decide) ?_
      exact z_iret hx hb hr hlocks hP hD hS (Nat.le_of_ble_eq_true rfl) (Nat.le_of_ble_eq_true rfl) d_X_vague_51 (congrArg (fun z => some (Value.int z)) (by unfold a_vague; (first | rfl | (repeat (first | rw [if_pos (by omega)] | rw [if_neg (by omega)])))))
    · simp only [fa_lt, fa_le, fa_eq, Int32.toInt_toInt64, li_1] at hc_2
      refine lv_aload_n hx hb d_X_vague_26 rfl (lv_at hl 0 rfl) ?_
      refine lv_aload_n hx hb d_X_vague_27 rfl (lv_at hl 0 rfl) ?_
      refine va_get (D := G.1) (ci := 0) (v := .ref b3) (C := R_X) (T := F_X) (N := 20) hx hb hts i_X hown hK hP 0 rfl rfl 1 (by decide) (hts _ q418) (fun _ h9 => h9) rfl d_X_vague_28 ?_
      refine va_get (D := G.1) (ci := 2) (v := .int 1) (C := R_Traces) (T := F_Traces) (N := 6) hx hb hts i_Traces hown hK hP 1 rfl rfl 1 (by decide) (hts _ q60) (fun _ h9 => h9) rfl d_X_vague_31 ?_
      refine z_callV (index := 189) (As := [.int 1]) (rest := []) (wr := []) Z (c1_X_machine l G (b0) (b2) (b3) (b4) (b5) (b6) (b7) (b8) (b9) (b10) (b11) (b12) (b13) (b14) (b15) (b16) (b17) (b18) (b19) (b23) (b24) (b25) (b26) (b27) (b28) (b29) (b30) (b31) (b32) (b33) (b34) (b20) (b21) (b22) (b35) (b36) (b37) (b38) (b39) (b40) (b41) (b42) (b43) (b44) (b45) (b46) (b47) (b48) (b49)) hl.1 q563 q565 qs2 q1 q566 ⟨by decide, by decide, by show _ = some 1; decide +kernel⟩ ⟨Nat.le_of_ble_eq_true rfl, Nat.le_of_ble_eq_true rfl⟩ ⟨Nat.le_of_ble_eq_true rfl, Nat.le_of_ble_eq_true rfl⟩ rfl (Nat.le_of_ble_eq_true rfl) d_X_vague_34 hP hD hS hA 0 0 rfl rfl rfl [0, 2, 3, 1, 4, 5, 6, 7, 8] [] rfl rfl rfl rfl (by decide) (fun v w1 H locs hw_3 hP hD hS => ?_)
      obtain ⟨rfl, rfl⟩ := hw_3
      have hP : va_P G.1 classes [(b0, .inr (0, [.ref b2, .ref b3, .ref b4, .ref b5, .int 0, .int 0, .ref b6, .ref b7, .ref b8, .ref b9, .ref b10, .ref b11, .ref b12, .ref b13, .ref b14, .ref b15, .ref b16, .ref b17, .ref b18, .ref b19])), (b9, .inl (G.2 6, 4, .inr (.inr (.inr (.inr (va_up (va_up (va_up (va_up (fun _ => none) 0 (some b23)) 1 (some b24)) 2 (some b25)) 3 (some b26))))))), (b8, .inr (4, [.ref b47, .ref b48, .ref b49])), (b3, .inr (2, [.int 0, .int 1, .int 0, .ref b20, .ref b21, .ref b22])), (b49, .inl (G.2 0, 512, .inl (fun _ => (-1)))), (b40, .inl (G.2 1, 4, .inr (.inl (fun _ => 0)))), (b7, .inr (3, [.int 1, .int (-1), .int 0, .ref b27, .ref b28, .ref b29, .ref b30, .ref b31, .ref b32, .ref b33, .ref b34])), (b24, .inr (5, [.int 1, .int 0, .ref b35, .ref b36, .ref b37, .ref b38, .ref b39, .ref b40, .int 0, .ref b41, .ref b42, .ref b43, .ref b44, .ref b45, .ref b46])), (b45, .inl (G.2 0, 242, .inl (upd (fun _ => 0) 0 0)))] H := hP
      have hD := z_tie hP hD rfl
      refine W.widen (k := 0) (n := 0) (Nat.le_of_ble_eq_true rfl) (Nat.le_of_ble_eq_true rfl) ?_
      refine lv_aload_n hx hb d_X_vague_37 rfl (lv_at hl 0 rfl) ?_
      refine va_get (D := G.1) (ci := 0) (v := .ref b3) (C := R_X) (T := F_X) (N := 20) hx hb hts i_X hown hK hP 0 rfl rfl 1 (by decide) (hts _ q418) (fun _ h9 => h9) rfl d_X_vague_38 ?_
      refine va_get (D := G.1) (ci := 2) (v := .int 0) (C := R_Traces) (T := F_Traces) (N := 6) hx hb hts i_Traces hown hK hP 3 rfl rfl 2 (by decide) (hts _ q62) (fun _ h9 => h9) rfl d_X_vague_41 ?_
      refine z_callV (index := 241) (As := [.int 0]) (rest := []) (wr := [(b0, .inr (0, [.ref b2, .ref b3, .ref b4, .ref b5, .int 0, .int 0, .ref b6, .ref b7, .ref b8, .ref b9, .ref b10, .ref b11, .ref b12, .ref b13, .ref b14, .ref b15, .ref b16, .ref b17, .ref b18, .ref b19])), (b9, .inl (G.2 6, 4, .inr (.inr (.inr (.inr (va_up (va_up (va_up (va_up (fun _ => none) 0 (some b23)) 1 (some b24)) 2 (some b25)) 3 (some b26))))))), (b8, .inr (4, [.ref b47, .ref b48, .ref b49])), (b3, .inr (2, [.int 0, .int 1, .int 0, .ref b20, .ref b21, .ref b22])), (b49, .inl (G.2 0, 512, .inl (fun _ => (-1)))), (b40, .inl (G.2 1, 4, .inr (.inl (fun _ => 0)))), (b7, .inr (3, [.int 1, .int (-1), .int 0, .ref b27, .ref b28, .ref b29, .ref b30, .ref b31, .ref b32, .ref b33, .ref b34])), (b45, .inl (G.2 0, 242, .inl (upd (fun _ => 0) 0 0)))]) Z (c1_Machine_forks l G (b24) (b35) (b36) (b37) (b38) (b39) (b40) (b41) (b42) (b43) (b44) (b45) (b46)) hl.1 q688 q689 q690 q6 q691 ⟨by decide, by decide, by show _ = some 1; decide +kernel⟩ ⟨Nat.le_of_ble_eq_true rfl, Nat.le_of_ble_eq_true rfl⟩ ⟨Nat.le_of_ble_eq_true rfl, Nat.le_of_ble_eq_true rfl⟩ rfl (Nat.le_of_ble_eq_true rfl) d_X_vague_44 hP hD hS hA 7 5 rfl rfl rfl [7] [0, 1, 2, 3, 4, 5, 6, 8] rfl rfl rfl rfl (by decide) (fun v w1 H locs hw_4 hP hD hS => ?_)
      obtain ⟨rfl, rfl⟩ := hw_4
      have hP : va_P G.1 classes [(b0, .inr (0, [.ref b2, .ref b3, .ref b4, .ref b5, .int 0, .int 0, .ref b6, .ref b7, .ref b8, .ref b9, .ref b10, .ref b11, .ref b12, .ref b13, .ref b14, .ref b15, .ref b16, .ref b17, .ref b18, .ref b19])), (b9, .inl (G.2 6, 4, .inr (.inr (.inr (.inr (va_up (va_up (va_up (va_up (fun _ => none) 0 (some b23)) 1 (some b24)) 2 (some b25)) 3 (some b26))))))), (b8, .inr (4, [.ref b47, .ref b48, .ref b49])), (b3, .inr (2, [.int 0, .int 1, .int 0, .ref b20, .ref b21, .ref b22])), (b49, .inl (G.2 0, 512, .inl (fun _ => (-1)))), (b40, .inl (G.2 1, 4, .inr (.inl (fun _ => 0)))), (b7, .inr (3, [.int 1, .int (-1), .int 0, .ref b27, .ref b28, .ref b29, .ref b30, .ref b31, .ref b32, .ref b33, .ref b34])), (b45, .inl (G.2 0, 242, .inl (upd (fun _ => 0) 0 0))), (b24, .inr (5, [.int 1, .int 0, .ref b35, .ref b36, .ref b37, .ref b38, .ref b39, .ref b40, .int 0, .ref b41, .ref b42, .ref b43, .ref b44, .ref b45, .ref b46]))] H := hP
      have hD := z_tie hP hD rfl
      refine W.widen (k := 0) (n := 0) (Nat.le_of_ble_eq_true rfl) (Nat.le_of_ble_eq_true rfl) ?_
      refine lv_goto (tgt := 51) hx hb d_X_vague_47 (by decide) ?_
      exact z_iret hx hb hr hlocks hP hD hS (Nat.le_of_ble_eq_true rfl) (Nat.le_of_ble_eq_true rfl) d_X_vague_51 (congrArg (fun z => some (Value.int z)) (by unfold a_vague; (first | rfl | (repeat (first | rw [if_pos (by omega)] | rw [if_neg (by omega)])))))
  · simp only [fa_lt, fa_le, fa_eq, Int32.toInt_toInt64, li_0] at hc_1
    refine lv_aload_n hx hb d_X_vague_4 rfl (lv_at hl 0 rfl) ?_
    refine lv_aload_n hx hb d_X_vague_5 rfl (lv_at hl 0 rfl) ?_
    refine va_get (D := G.1) (ci := 0) (v := .ref b3) (C := R_X) (T := F_X) (N := 20) hx hb hts i_X hown hK hP 0 rfl rfl 1 (by decide) (hts _ q418) (fun _ h9 => h9) rfl d_X_vague_6 ?_
    refine va_get (D := G.1) (ci := 2) (v := .int 1) (C := R_Traces) (T := F_Traces) (N := 6) hx hb hts i_Traces hown hK hP 1 rfl rfl 1 (by decide) (hts _ q60) (fun _ h9 => h9) rfl d_X_vague_9 ?_
    refine z_callV (index := 189) (As := [.int 1]) (rest := []) (wr := []) Z (c1_X_machine l G (b0) (b2) (b3) (b4) (b5) (b6) (b7) (b8) (b9) (b10) (b11) (b12) (b13) (b14) (b15) (b16) (b17) (b18) (b19) (b23) (b24) (b25) (b26) (b27) (b28) (b29) (b30) (b31) (b32) (b33) (b34) (b20) (b21) (b22) (b35) (b36) (b37) (b38) (b39) (b40) (b41) (b42) (b43) (b44) (b45) (b46) (b47) (b48) (b49)) hl.1 q563 q565 qs2 q1 q566 ⟨by decide, by decide, by show _ = some 1; decide +kernel⟩ ⟨Nat.le_of_ble_eq_true rfl, Nat.le_of_ble_eq_true rfl⟩ ⟨Nat.le_of_ble_eq_true rfl, Nat.le_of_ble_eq_true rfl⟩ rfl (Nat.le_of_ble_eq_true rfl) d_X_vague_12 hP hD hS hA 0 0 rfl rfl rfl [0, 2, 3, 1, 4, 5, 6, 7, 8] [] rfl rfl rfl rfl (by decide) (fun v w1 H locs hw_5 hP hD hS => ?_)
    obtain ⟨rfl, rfl⟩ := hw_5
    have hP : va_P G.1 classes [(b0, .inr (0, [.ref b2, .ref b3, .ref b4, .ref b5, .int 0, .int 0, .ref b6, .ref b7, .ref b8, .ref b9, .ref b10, .ref b11, .ref b12, .ref b13, .ref b14, .ref b15, .ref b16, .ref b17, .ref b18, .ref b19])), (b9, .inl (G.2 6, 4, .inr (.inr (.inr (.inr (va_up (va_up (va_up (va_up (fun _ => none) 0 (some b23)) 1 (some b24)) 2 (some b25)) 3 (some b26))))))), (b8, .inr (4, [.ref b47, .ref b48, .ref b49])), (b3, .inr (2, [.int 0, .int 1, .int 0, .ref b20, .ref b21, .ref b22])), (b49, .inl (G.2 0, 512, .inl (fun _ => (-1)))), (b40, .inl (G.2 1, 4, .inr (.inl (fun _ => 0)))), (b7, .inr (3, [.int 1, .int (-1), .int 0, .ref b27, .ref b28, .ref b29, .ref b30, .ref b31, .ref b32, .ref b33, .ref b34])), (b24, .inr (5, [.int 1, .int 0, .ref b35, .ref b36, .ref b37, .ref b38, .ref b39, .ref b40, .int 0, .ref b41, .ref b42, .ref b43, .ref b44, .ref b45, .ref b46])), (b45, .inl (G.2 0, 242, .inl (upd (fun _ => 0) 0 0)))] H := hP
    have hD := z_tie hP hD rfl
    refine W.widen (k := 0) (n := 0) (Nat.le_of_ble_eq_true rfl) (Nat.le_of_ble_eq_true rfl) ?_
    refine lv_bipush (v := 100) hx hb d_X_vague_15 (by decide) ?_
    refine z_callV (index := 241) (As := [.int 100]) (rest := []) (wr := [(b0, .inr (0, [.ref b2, .ref b3, .ref b4, .ref b5, .int 0, .int 0, .ref b6, .ref b7, .ref b8, .ref b9, .ref b10, .ref b11, .ref b12, .ref b13, .ref b14, .ref b15, .ref b16, .ref b17, .ref b18, .ref b19])), (b9, .inl (G.2 6, 4, .inr (.inr (.inr (.inr (va_up (va_up (va_up (va_up (fun _ => none) 0 (some b23)) 1 (some b24)) 2 (some b25)) 3 (some b26))))))), (b8, .inr (4, [.ref b47, .ref b48, .ref b49])), (b3, .inr (2, [.int 0, .int 1, .int 0, .ref b20, .ref b21, .ref b22])), (b49, .inl (G.2 0, 512, .inl (fun _ => (-1)))), (b40, .inl (G.2 1, 4, .inr (.inl (fun _ => 0)))), (b7, .inr (3, [.int 1, .int (-1), .int 0, .ref b27, .ref b28, .ref b29, .ref b30, .ref b31, .ref b32, .ref b33, .ref b34])), (b45, .inl (G.2 0, 242, .inl (upd (fun _ => 0) 0 0)))]) Z (c2_Machine_forks l G (b24) (b35) (b36) (b37) (b38) (b39) (b40) (b41) (b42) (b43) (b44) (b45) (b46)) hl.1 q688 q689 q690 q6 q691 ⟨by decide, by decide, by show _ = some 1; decide +kernel⟩ ⟨Nat.le_of_ble_eq_true rfl, Nat.le_of_ble_eq_true rfl⟩ ⟨Nat.le_of_ble_eq_true rfl, Nat.le_of_ble_eq_true rfl⟩ rfl (Nat.le_of_ble_eq_true rfl) d_X_vague_17 hP hD hS hA 7 5 rfl rfl rfl [7] [0, 1, 2, 3, 4, 5, 6, 8] rfl rfl rfl rfl (by decide) (fun v w1 H locs hw_6 hP hD hS => ?_)
    obtain ⟨rfl, rfl⟩ := hw_6
    have hP : va_P G.1 classes [(b0, .inr (0, [.ref b2, .ref b3, .ref b4, .ref b5, .int 0, .int 0, .ref b6, .ref b7, .ref b8, .ref b9, .ref b10, .ref b11, .ref b12, .ref b13, .ref b14, .ref b15, .ref b16, .ref b17, .ref b18, .ref b19])), (b9, .inl (G.2 6, 4, .inr (.inr (.inr (.inr (va_up (va_up (va_up (va_up (fun _ => none) 0 (some b23)) 1 (some b24)) 2 (some b25)) 3 (some b26))))))), (b8, .inr (4, [.ref b47, .ref b48, .ref b49])), (b3, .inr (2, [.int 0, .int 1, .int 0, .ref b20, .ref b21, .ref b22])), (b49, .inl (G.2 0, 512, .inl (fun _ => (-1)))), (b40, .inl (G.2 1, 4, .inr (.inl (fun _ => 0)))), (b7, .inr (3, [.int 1, .int (-1), .int 0, .ref b27, .ref b28, .ref b29, .ref b30, .ref b31, .ref b32, .ref b33, .ref b34])), (b45, .inl (G.2 0, 242, .inl (upd (fun _ => 0) 0 0))), (b24, .inr (5, [.int 1, .int 0, .ref b35, .ref b36, .ref b37, .ref b38, .ref b39, .ref b40, .int 0, .ref b41, .ref b42, .ref b43, .ref b44, .ref b45, .ref b46]))] H := hP
    have hD := z_tie hP hD rfl
    refine W.widen (k := 0) (n := 0) (Nat.le_of_ble_eq_true rfl) (Nat.le_of_ble_eq_true rfl) ?_
    exact z_iret hx hb hr hlocks hP hD hS (Nat.le_of_ble_eq_true rfl) (Nat.le_of_ble_eq_true rfl) d_X_vague_20 (congrArg (fun z => some (Value.int z)) (by unfold a_vague; (first | rfl | (repeat (first | rw [if_pos (by omega)] | rw [if_neg (by omega)])))))
theorem d_X_run_0 : decode prog_1_method_13_code 0 = .ok (.aload_n 0, 1) := by decide +kernel
theorem d_X_run_1 : decode prog_1_method_13_code 1 = .ok (.getfield 23, 3) := by decide +kernel
theorem d_X_run_4 : decode prog_1_method_13_code 4 = .ok (.iconst 0, 1) := by decide +kernel
theorem d_X_run_5 : decode prog_1_method_13_code 5 = .ok (.putfield 143, 3) := by decide +kernel
theorem d_X_run_8 : decode prog_1_method_13_code 8 = .ok (.aload_n 0, 1) := by decide +kernel
theorem d_X_run_9 : decode prog_1_method_13_code 9 = .ok (.getfield 12, 3) := by decide +kernel
theorem d_X_run_12 : decode prog_1_method_13_code 12 = .ok (.aload_n 0, 1) := by decide +kernel
theorem d_X_run_13 : decode prog_1_method_13_code 13 = .ok (.getfield 23, 3) := by decide +kernel
theorem d_X_run_16 : decode prog_1_method_13_code 16 = .ok (.iconst 1, 1) := by decide +kernel
theorem d_X_run_17 : decode prog_1_method_13_code 17 = .ok (.invokevirtual 133, 3) := by decide +kernel
abbrev m_c2_Text_parse : Room := { frames := 1, cells := 0, slots := 0, locals := 20 }
set_option maxHeartbeats 4000000 in
set_option maxRecDepth 100000 in
theorem c2_Text_parse (l : Launch) (G : zG) (b0 : Nat) (b1 : Nat) (b2 : Nat) (b3 : Nat) (b4 : Nat) (b5 : Nat)  : zM l G y_Text_parse prog_9_method_4_code 7 (Option.some Jvm.ClassFile.FieldType.int) m_c2_Text_parse [.ref b0, .ref b1, .int 1] [(b0, .inr (1, [.int 0, .ref b2])), (b1, .inr (2, [.int 0, .int 1, .int 0, .ref b3, .ref b4, .ref b5])), (b3, .inl (G.2 0, 20, .inl (fun _ => 0)))] (fun v w => (v = some (.int (-1)) ∧ w = [(b0, .inr (1, [.int 0, .ref b2])), (b1, .inr (2, [.int 1, .int 1, .int 0, .ref b3, .ref b4, .ref b5])), (b3, .inl (G.2 0, 20, .inl (upd (fun _ => 0) 0 0)))])) := by
  refine z_start (by decide +kernel) (Nat.le_of_ble_eq_true rfl) ?_
  intro p e s m below meth c A Z hr hnm hA hP hD hS ls hl
  have Z : zC p s m _ meth c prog_9_method_4_code 7 "TraceMachines$Text" G := Z
  obtain ⟨hx, hb, hml, hown, hts, hK, hN, hlocks⟩ := id Z
  have hl : lv_has ls 7 [(0, .ref b0), (1, .ref b1), (2, .int 1)] := hl
  refine lv_iconst (v := 0) hx hb d_Text_parse_0 (by decide) ?_
  refine lv_istore_n (lv' := [(3, .int 0), (0, .ref b0), (1, .ref b1), (2, .int 1)]) hx hb d_Text_parse_1 rfl hl (by decide) rfl (fun ls hl => ?_)
  refine lv_iconst (v := 0) hx hb d_Text_parse_2 (by decide) ?_
  refine lv_istore (lv' := [(4, .int 0), (3, .int 0), (0, .ref b0), (1, .ref b1), (2, .int 1)]) hx hb d_Text_parse_3 hl (by decide) rfl (fun ls hl => ?_)
  refine lv_iconst (v := 0) hx hb d_Text_parse_5 (by decide) ?_
  refine lv_istore (lv' := [(5, .int 0), (4, .int 0), (3, .int 0), (0, .ref b0), (1, .ref b1), (2, .int 1)]) hx hb d_Text_parse_6 hl (by decide) rfl (fun ls hl => ?_)
  refine lv_iload hx hb d_Text_parse_8 (lv_at hl 0 rfl) ?_
  refine lv_aload_n hx hb d_Text_parse_10 rfl (lv_at hl 3 rfl) ?_
  refine va_get (D := G.1) (ci := 1) (v := .int 0) (C := R_Text) (T := F_Text) (N := 2) hx hb hts i_Text hown hK hP 0 rfl rfl 0 (by decide) (hts _ q37) (fun _ h9 => h9) rfl d_Text_parse_11 ?_
  refine lv_icmp_ge (tgt := 143) hx hb d_Text_parse_14 (by decide) (fun _ => ?_) (fun hc => absurd hc (by decide +kernel))
  refine lv_iload_n hx hb d_Text_parse_143 rfl (lv_at hl 2 rfl) ?_
  refine lv_if_ne (tgt := 154) hx hb d_Text_parse_144 (by decide) (fun hc => absurd hc (by decide +kernel)) (fun _ => ?_)
  refine lv_aload_n hx hb d_Text_parse_147 rfl (lv_at hl 4 rfl) ?_
  refine z_callV (index := 25) (As := []) (rest := []) (wr := [(b0, .inr (1, [.int 0, .ref b2]))]) Z (c1_Traces_open l G (b1) (b3) (b4) (b5)) hl.1 q513 q514 q515 q3 q516 ⟨by decide, by decide, by show _ = some 0; decide +kernel⟩ ⟨Nat.le_of_ble_eq_true rfl, Nat.le_of_ble_eq_true rfl⟩ ⟨Nat.le_of_ble_eq_true rfl, Nat.le_of_ble_eq_true rfl⟩ rfl (Nat.le_of_ble_eq_true rfl) d_Text_parse_148 hP hD hS hA 1 2 rfl rfl rfl [1, 2] [0] rfl rfl rfl rfl (by decide) (fun v w1 H locs hw_1 hP hD hS => ?_)
  obtain ⟨rfl, rfl⟩ := hw_1
  have hP : va_P G.1 classes [(b0, .inr (1, [.int 0, .ref b2])), (b1, .inr (2, [.int 1, .int 1, .int 0, .ref b3, .ref b4, .ref b5])), (b3, .inl (G.2 0, 20, .inl (upd (fun _ => 0) 0 0)))] H := hP
  have hD := z_tie hP hD rfl
  refine W.widen (k := 0) (n := 0) (Nat.le_of_ble_eq_true rfl) (Nat.le_of_ble_eq_true rfl) ?_
  refine lv_if_eq (tgt := 158) hx hb d_Text_parse_151 (by decide) (fun hc => absurd hc (by decide +kernel)) (fun _ => ?_)
  refine lv_iconst (v := (-1)) hx hb d_Text_parse_154 (by decide) ?_
  refine lv_goto (tgt := 162) hx hb d_Text_parse_155 (by decide) ?_
  exact z_iret hx hb hr hlocks hP hD hS (Nat.le_of_ble_eq_true rfl) (Nat.le_of_ble_eq_true rfl) d_Text_parse_162 ⟨rfl, rfl⟩
theorem d_X_run_20 : decode prog_1_method_13_code 20 = .ok (.istore_n 2, 1) := by decide +kernel
theorem d_X_run_21 : decode prog_1_method_13_code 21 = .ok (.aload_n 0, 1) := by decide +kernel
theorem d_X_run_22 : decode prog_1_method_13_code 22 = .ok (.getfield 12, 3) := by decide +kernel
theorem d_X_run_25 : decode prog_1_method_13_code 25 = .ok (.iconst 0, 1) := by decide +kernel
theorem d_X_run_26 : decode prog_1_method_13_code 26 = .ok (.invokevirtual 126, 3) := by decide +kernel
theorem d_X_run_29 : decode prog_1_method_13_code 29 = .ok (.pop, 1) := by decide +kernel
theorem d_X_run_30 : decode prog_1_method_13_code 30 = .ok (.iload_n 2, 1) := by decide +kernel
theorem d_X_run_31 : decode prog_1_method_13_code 31 = .ok (.iconst (-1), 1) := by decide +kernel
theorem d_X_run_32 : decode prog_1_method_13_code 32 = .ok (.if_icmp .eq 9, 3) := by decide +kernel
theorem d_X_run_41 : decode prog_1_method_13_code 41 = .ok (.aload_n 0, 1) := by decide +kernel
theorem d_X_run_42 : decode prog_1_method_13_code 42 = .ok (.aload_n 0, 1) := by decide +kernel
theorem d_X_run_43 : decode prog_1_method_13_code 43 = .ok (.getfield 19, 3) := by decide +kernel
theorem d_X_run_46 : decode prog_1_method_13_code 46 = .ok (.getfield 156, 3) := by decide +kernel
theorem d_X_run_49 : decode prog_1_method_13_code 49 = .ok (.invokevirtual 189, 3) := by decide +kernel
theorem d_X_run_52 : decode prog_1_method_13_code 52 = .ok (.aload_n 0, 1) := by decide +kernel
theorem d_X_run_53 : decode prog_1_method_13_code 53 = .ok (.getfield 23, 3) := by decide +kernel
theorem d_X_run_56 : decode prog_1_method_13_code 56 = .ok (.iconst 0, 1) := by decide +kernel
theorem d_X_run_57 : decode prog_1_method_13_code 57 = .ok (.aload_n 0, 1) := by decide +kernel
theorem d_X_run_58 : decode prog_1_method_13_code 58 = .ok (.iload_n 1, 1) := by decide +kernel
theorem d_X_run_59 : decode prog_1_method_13_code 59 = .ok (.invokevirtual 244, 3) := by decide +kernel
theorem d_X_slack_0 : decode prog_1_method_34_code 0 = .ok (.iload_n 1, 1) := by decide +kernel
theorem d_X_slack_1 : decode prog_1_method_34_code 1 = .ok (.ifCond .eq 13, 3) := by decide +kernel
theorem d_X_slack_4 : decode prog_1_method_34_code 4 = .ok (.aload_n 0, 1) := by decide +kernel
theorem d_X_slack_5 : decode prog_1_method_34_code 5 = .ok (.getfield 19, 3) := by decide +kernel
theorem d_X_slack_8 : decode prog_1_method_34_code 8 = .ok (.getfield 159, 3) := by decide +kernel
theorem d_X_slack_11 : decode prog_1_method_34_code 11 = .ok (.goto 5, 3) := by decide +kernel
theorem d_X_slack_14 : decode prog_1_method_34_code 14 = .ok (.bipush 100, 2) := by decide +kernel
theorem d_X_slack_16 : decode prog_1_method_34_code 16 = .ok (.ireturn, 1) := by decide +kernel
abbrev m_c1_X_slack : Room := { frames := 0, cells := 0, slots := 0, locals := 0 }
set_option maxHeartbeats 4000000 in
set_option maxRecDepth 100000 in
theorem c1_X_slack (l : Launch) (G : zG) (b0 : Nat) (b1 : Int32) (b2 : Nat) (b3 : Nat) (b4 : Nat) (b5 : Nat) (b6 : Nat) (b7 : Nat) (b8 : Nat) (b9 : Nat) (b10 : Nat) (b11 : Nat) (b12 : Nat) (b13 : Nat) (b14 : Nat) (b15 : Nat) (b16 : Nat) (b17 : Nat) (b18 : Nat) (b19 : Nat) (b20 : Nat) (b21 : Nat) (b22 : Nat)  : zM l G y_X_slack prog_1_method_34_code 2 (Option.some Jvm.ClassFile.FieldType.int) m_c1_X_slack [.ref b0, .int b1] [(b0, .inr (0, [.ref b2, .ref b3, .ref b4, .ref b5, .int 0, .int 0, .ref b6, .ref b7, .ref b8, .ref b9, .ref b10, .ref b11, .ref b12, .ref b13, .ref b14, .ref b15, .ref b16, .ref b17, .ref b18, .ref b19])), (b3, .inr (2, [.int 0, .int 1, .int 0, .ref b20, .ref b21, .ref b22]))] (fun v w => (v = some (.int 100) ∧ w = [(b0, .inr (0, [.ref b2, .ref b3, .ref b4, .ref b5, .int 0, .int 0, .ref b6, .ref b7, .ref b8, .ref b9, .ref b10, .ref b11, .ref b12, .ref b13, .ref b14, .ref b15, .ref b16, .ref b17, .ref b18, .ref b19])), (b3, .inr (2, [.int 0, .int 1, .int 0, .ref b20, .ref b21, .ref b22]))] ∧ b1.toInt = 0) ∨ (v = some (.int 0) ∧ w = [(b0, .inr (0, [.ref b2, .ref b3, .ref b4, .ref b5, .int 0, .int 0, .ref b6, .ref b7, .ref b8, .ref b9, .ref b10, .ref b11, .ref b12, .ref b13, .ref b14, .ref b15, .ref b16, .ref b17, .ref b18, .ref b19])), (b3, .inr (2, [.int 0, .int 1, .int 0, .ref b20, .ref b21, .ref b22]))] ∧ ¬ b1.toInt = 0)) := by
  refine z_start (by decide +kernel) (Nat.le_of_ble_eq_true rfl) ?_
  intro p e s m below meth c A Z hr hnm hA hP hD hS ls hl
  have Z : zC p s m _ meth c prog_1_method_34_code 2 "TraceMachines" G := Z
  obtain ⟨hx, hb, hml, hown, hts, hK, hN, hlocks⟩ := id Z
  have hl : lv_has ls 2 [(0, .ref b0), (1, .int b1)] := hl
  refine lv_iload_n hx hb d_X_slack_0 rfl (lv_at hl 1 rfl) ?_
  refine lv_if_eq (tgt := 14) hx hb d_X_slack_1 (by decide) (fun hc_1 => ?_) (fun hc_1 => ?_)
  · simp only [fa_lt, fa_le, fa_eq, Int32.toInt_toInt64, li_0] at hc_1
    refine lv_bipush (v := 100) hx hb d_X_slack_14 (by decide) ?_
    exact z_iret hx hb hr hlocks hP hD hS (Nat.le_of_ble_eq_true rfl) (Nat.le_of_ble_eq_true rfl) d_X_slack_16 (Or.inl ⟨rfl, rfl, by omega⟩)
  · simp only [fa_lt, fa_le, fa_eq, Int32.toInt_toInt64, li_0] at hc_1
    refine lv_aload_n hx hb d_X_slack_4 rfl (lv_at hl 0 rfl) ?_
    refine va_get (D := G.1) (ci := 0) (v := .ref b3) (C := R_X) (T := F_X) (N := 20) hx hb hts i_X hown hK hP 0 rfl rfl 1 (by decide) (hts _ q418) (fun _ h9 => h9) rfl d_X_slack_5 ?_
    refine va_get (D := G.1) (ci := 2) (v := .int 0) (C := R_Traces) (T := F_Traces) (N := 6) hx hb hts i_Traces hown hK hP 1 rfl rfl 2 (by decide) (hts _ q62) (fun _ h9 => h9) rfl d_X_slack_8 ?_
    refine lv_goto (tgt := 16) hx hb d_X_slack_11 (by decide) ?_
    exact z_iret hx hb hr hlocks hP hD hS (Nat.le_of_ble_eq_true rfl) (Nat.le_of_ble_eq_true rfl) d_X_slack_16 (Or.inr (⟨rfl, rfl, by omega⟩))
theorem d_X_run_62 : decode prog_1_method_13_code 62 = .ok (.aload_n 0, 1) := by decide +kernel
theorem d_X_run_63 : decode prog_1_method_13_code 63 = .ok (.getfield 66, 3) := by decide +kernel
theorem d_X_run_66 : decode prog_1_method_13_code 66 = .ok (.invokevirtual 248, 3) := by decide +kernel
theorem d_Machine_failsAt_0 : decode prog_4_method_15_code 0 = .ok (.aload 4, 2) := by decide +kernel
theorem d_Machine_failsAt_2 : decode prog_4_method_15_code 2 = .ok (.invokevirtual 136, 3) := by decide +kernel
theorem d_Sets_clear_0 : decode prog_8_method_3_code 0 = .ok (.aload_n 0, 1) := by decide +kernel
theorem d_Sets_clear_1 : decode prog_8_method_3_code 1 = .ok (.getfield 18, 3) := by decide +kernel
theorem d_Sets_clear_4 : decode prog_8_method_3_code 4 = .ok (.lconst 0, 1) := by decide +kernel
theorem d_Sets_clear_5 : decode prog_8_method_3_code 5 = .ok (.invokestatic 35, 3) := by decide +kernel
theorem d_Sets_clear_8 : decode prog_8_method_3_code 8 = .ok (.return_, 1) := by decide +kernel
abbrev m_c1_Sets_clear : Room := { frames := 1, cells := 0, slots := 0, locals := 24 }
set_option maxHeartbeats 4000000 in
set_option maxRecDepth 100000 in
theorem c1_Sets_clear (l : Launch) (G : zG) (b0 : Nat) (b1 : Nat) (b2 : Nat)  : zM l G y_Sets_clear prog_8_method_3_code 1 (Option.none : Option Jvm.ClassFile.FieldType) m_c1_Sets_clear [.ref b0] [(b0, .inr (6, [.int 0, .int 4, .int 2, .ref b1, .ref b2])), (b1, .inl (G.2 1, 8, .inr (.inl (fun _ => 0))))] (fun v w => (v = none ∧ w = [(b0, .inr (6, [.int 0, .int 4, .int 2, .ref b1, .ref b2])), (b1, .inl (G.2 1, 8, .inr (.inl (fun _ => 0))))])) := by
  refine z_start (by decide +kernel) (Nat.le_of_ble_eq_true rfl) ?_
  intro p e s m below meth c A Z hr hnm hA hP hD hS ls hl
  have Z : zC p s m _ meth c prog_8_method_3_code 1 "TraceMachines$StateSets" G := Z
  obtain ⟨hx, hb, hml, hown, hts, hK, hN, hlocks⟩ := id Z
  have hl : lv_has ls 1 [(0, .ref b0)] := hl
  refine lv_aload_n hx hb d_Sets_clear_0 rfl (lv_at hl 0 rfl) ?_
  refine va_get (D := G.1) (ci := 6) (v := .ref b1) (C := R_Sets) (T := F_Sets) (N := 5) hx hb hts i_Sets hown hK hP 0 rfl rfl 3 (by decide) (hts _ q244) (fun _ h9 => h9) rfl d_Sets_clear_1 ?_
  refine lv_lconst (v := 0) hx hb d_Sets_clear_4 (by decide) ?_
  refine z_callS (index := 35) (As := [.ref b1, .long 0]) (rest := []) (wr := [(b0, .inr (6, [.int 0, .int 4, .int 2, .ref b1, .ref b2]))]) Z (c_fill_J l G (b1) (8) ((fun _ => 0)) (0) (by first | assumption | decide +kernel | omega)) hl.1 q708 q623 q13 q624 ⟨by decide, by decide, by show _ = some 2; decide +kernel⟩ ⟨Nat.le_of_ble_eq_true rfl, Nat.le_of_ble_eq_true rfl⟩ ⟨Nat.le_of_ble_eq_true rfl, Nat.le_of_ble_eq_true rfl⟩ rfl (Nat.le_of_ble_eq_true rfl) d_Sets_clear_5 hP hD hS hA [1] [0] rfl rfl rfl rfl (by decide) (fun v w1 H locs hw_1 hP hD hS => ?_)
  obtain ⟨rfl, rfl⟩ := hw_1
  have hP : va_P G.1 classes [(b0, .inr (6, [.int 0, .int 4, .int 2, .ref b1, .ref b2])), (b1, .inl (G.2 1, 8, .inr (.inl (fun _ => 0))))] H := hP
  have hD := z_tie hP hD rfl
  refine W.widen (k := 0) (n := 0) (Nat.le_of_ble_eq_true rfl) (Nat.le_of_ble_eq_true rfl) ?_
  exact z_vret hx hb hr hlocks hP hD hS (Nat.le_of_ble_eq_true rfl) (Nat.le_of_ble_eq_true rfl) d_Sets_clear_8 ⟨rfl, rfl⟩
theorem d_Machine_failsAt_5 : decode prog_4_method_15_code 5 = .ok (.aload_n 0, 1) := by decide +kernel
theorem d_Machine_failsAt_6 : decode prog_4_method_15_code 6 = .ok (.getfield 75, 3) := by decide +kernel
theorem d_Machine_failsAt_9 : decode prog_4_method_15_code 9 = .ok (.ifCond .ne 5, 3) := by decide +kernel
theorem d_Machine_failsAt_12 : decode prog_4_method_15_code 12 = .ok (.iconst 0, 1) := by decide +kernel
theorem d_Machine_failsAt_13 : decode prog_4_method_15_code 13 = .ok (.ireturn, 1) := by decide +kernel
abbrev m_c1_Machine_failsAt : Room := { frames := 2, cells := 0, slots := 0, locals := 44 }
set_option maxHeartbeats 4000000 in
set_option maxRecDepth 100000 in
theorem c1_Machine_failsAt (l : Launch) (G : zG) (b0 : Nat) (b1 : Nat) (b2 : Nat) (b3 : Nat) (b4 : Nat) (b5 : Nat) (b6 : Nat) (b7 : Nat) (b8 : Nat) (b9 : Nat) (b10 : Nat) (b11 : Nat) (b12 : Nat) (b13 : Nat) (b14 : Nat) (b15 : Nat) (b16 : Nat)  : zM l G y_Machine_failsAt prog_4_method_15_code 7 (Option.some Jvm.ClassFile.FieldType.int) m_c1_Machine_failsAt [.ref b0, .ref b1, .int 0, .int 100, .ref b2] [(b2, .inr (6, [.int 0, .int 4, .int 2, .ref b3, .ref b4])), (b3, .inl (G.2 1, 8, .inr (.inl (fun _ => 0)))), (b0, .inr (5, [.int 1, .int 0, .ref b5, .ref b6, .ref b7, .ref b8, .ref b9, .ref b10, .int 0, .ref b11, .ref b12, .ref b13, .ref b14, .ref b15, .ref b16]))] (fun v w => (v = some (.int 0) ∧ w = [(b0, .inr (5, [.int 1, .int 0, .ref b5, .ref b6, .ref b7, .ref b8, .ref b9, .ref b10, .int 0, .ref b11, .ref b12, .ref b13, .ref b14, .ref b15, .ref b16])), (b2, .inr (6, [.int 0, .int 4, .int 2, .ref b3, .ref b4])), (b3, .inl (G.2 1, 8, .inr (.inl (fun _ => 0))))])) := by
  refine z_start (by decide +kernel) (Nat.le_of_ble_eq_true rfl) ?_
  intro p e s m below meth c A Z hr hnm hA hP hD hS ls hl
  have Z : zC p s m _ meth c prog_4_method_15_code 7 "TraceMachines$Machine" G := Z
  obtain ⟨hx, hb, hml, hown, hts, hK, hN, hlocks⟩ := id Z
  have hl : lv_has ls 7 [(0, .ref b0), (1, .ref b1), (2, .int 0), (3, .int 100), (4, .ref b2)] := hl
  refine lv_aload hx hb d_Machine_failsAt_0 (lv_at hl 4 rfl) ?_
  refine z_callV (index := 136) (As := []) (rest := []) (wr := [(b0, .inr (5, [.int 1, .int 0, .ref b5, .ref b6, .ref b7, .ref b8, .ref b9, .ref b10, .int 0, .ref b11, .ref b12, .ref b13, .ref b14, .ref b15, .ref b16]))]) Z (c1_Sets_clear l G (b2) (b3) (b4)) hl.1 q704 q705 q706 q7 q707 ⟨by decide, by decide, by show _ = some 0; decide +kernel⟩ ⟨Nat.le_of_ble_eq_true rfl, Nat.le_of_ble_eq_true rfl⟩ ⟨Nat.le_of_ble_eq_true rfl, Nat.le_of_ble_eq_true rfl⟩ rfl (Nat.le_of_ble_eq_true rfl) d_Machine_failsAt_2 hP hD hS hA 0 6 rfl rfl rfl [0, 1] [2] rfl rfl rfl rfl (by decide) (fun v w1 H locs hw_1 hP hD hS => ?_)
  obtain ⟨rfl, rfl⟩ := hw_1
  have hP : va_P G.1 classes [(b0, .inr (5, [.int 1, .int 0, .ref b5, .ref b6, .ref b7, .ref b8, .ref b9, .ref b10, .int 0, .ref b11, .ref b12, .ref b13, .ref b14, .ref b15, .ref b16])), (b2, .inr (6, [.int 0, .int 4, .int 2, .ref b3, .ref b4])), (b3, .inl (G.2 1, 8, .inr (.inl (fun _ => 0))))] H := hP
  have hD := z_tie hP hD rfl
  refine W.widen (k := 0) (n := 0) (Nat.le_of_ble_eq_true rfl) (Nat.le_of_ble_eq_true rfl) ?_
  refine lv_aload_n hx hb d_Machine_failsAt_5 rfl (lv_at hl 0 rfl) ?_
  refine va_get (D := G.1) (ci := 5) (v := .int 0) (C := R_Machine) (T := F_Machine) (N := 15) hx hb hts i_Machine hown hK hP 0 rfl rfl 1 (by decide) (hts _ q168) (fun _ h9 => h9) rfl d_Machine_failsAt_6 ?_
  refine lv_if_ne (tgt := 14) hx hb d_Machine_failsAt_9 (by decide) (fun hc => absurd hc (by decide +kernel)) (fun _ => ?_)
  refine lv_iconst (v := 0) hx hb d_Machine_failsAt_12 (by decide) ?_
  exact z_iret hx hb hr hlocks hP hD hS (Nat.le_of_ble_eq_true rfl) (Nat.le_of_ble_eq_true rfl) d_Machine_failsAt_13 ⟨rfl, rfl⟩
theorem d_X_run_69 : decode prog_1_method_13_code 69 = .ok (.istore_n 3, 1) := by decide +kernel
theorem d_X_run_70 : decode prog_1_method_13_code 70 = .ok (.aload_n 0, 1) := by decide +kernel
theorem d_X_run_71 : decode prog_1_method_13_code 71 = .ok (.getfield 70, 3) := by decide +kernel
theorem d_X_run_74 : decode prog_1_method_13_code 74 = .ok (.iconst 0, 1) := by decide +kernel
theorem d_X_run_75 : decode prog_1_method_13_code 75 = .ok (.iload_n 3, 1) := by decide +kernel
theorem d_X_run_76 : decode prog_1_method_13_code 76 = .ok (.iastore, 1) := by decide +kernel
theorem d_X_run_77 : decode prog_1_method_13_code 77 = .ok (.aload_n 0, 1) := by decide +kernel
theorem d_X_run_78 : decode prog_1_method_13_code 78 = .ok (.getfield 70, 3) := by decide +kernel
theorem d_X_run_81 : decode prog_1_method_13_code 81 = .ok (.iconst 1, 1) := by decide +kernel
theorem d_X_run_82 : decode prog_1_method_13_code 82 = .ok (.aload_n 0, 1) := by decide +kernel
theorem d_X_run_83 : decode prog_1_method_13_code 83 = .ok (.getfield 66, 3) := by decide +kernel
theorem d_X_run_86 : decode prog_1_method_13_code 86 = .ok (.iconst 0, 1) := by decide +kernel
theorem d_X_run_87 : decode prog_1_method_13_code 87 = .ok (.invokevirtual 252, 3) := by decide +kernel
theorem d_Sets_size_0 : decode prog_8_method_6_code 0 = .ok (.iconst 0, 1) := by decide +kernel
theorem d_Sets_size_1 : decode prog_8_method_6_code 1 = .ok (.istore_n 2, 1) := by decide +kernel
theorem d_Sets_size_2 : decode prog_8_method_6_code 2 = .ok (.iconst 0, 1) := by decide +kernel
theorem d_Sets_size_3 : decode prog_8_method_6_code 3 = .ok (.istore_n 3, 1) := by decide +kernel
theorem d_Sets_size_4 : decode prog_8_method_6_code 4 = .ok (.iload_n 3, 1) := by decide +kernel
theorem d_Sets_size_5 : decode prog_8_method_6_code 5 = .ok (.aload_n 0, 1) := by decide +kernel
theorem d_Sets_size_6 : decode prog_8_method_6_code 6 = .ok (.getfield 15, 3) := by decide +kernel
theorem d_Sets_size_9 : decode prog_8_method_6_code 9 = .ok (.if_icmp .ge 28, 3) := by decide +kernel
theorem d_Sets_size_12 : decode prog_8_method_6_code 12 = .ok (.iload_n 2, 1) := by decide +kernel
theorem d_Sets_size_13 : decode prog_8_method_6_code 13 = .ok (.aload_n 0, 1) := by decide +kernel
theorem d_Sets_size_14 : decode prog_8_method_6_code 14 = .ok (.getfield 18, 3) := by decide +kernel
theorem d_Sets_size_17 : decode prog_8_method_6_code 17 = .ok (.iload_n 1, 1) := by decide +kernel
theorem d_Sets_size_18 : decode prog_8_method_6_code 18 = .ok (.aload_n 0, 1) := by decide +kernel
theorem d_Sets_size_19 : decode prog_8_method_6_code 19 = .ok (.getfield 15, 3) := by decide +kernel
theorem d_Sets_size_22 : decode prog_8_method_6_code 22 = .ok (.imul, 1) := by decide +kernel
theorem d_Sets_size_23 : decode prog_8_method_6_code 23 = .ok (.iload_n 3, 1) := by decide +kernel
theorem d_Sets_size_24 : decode prog_8_method_6_code 24 = .ok (.iadd, 1) := by decide +kernel
theorem d_Sets_size_25 : decode prog_8_method_6_code 25 = .ok (.laload, 1) := by decide +kernel
theorem d_Sets_size_26 : decode prog_8_method_6_code 26 = .ok (.invokestatic 38, 3) := by decide +kernel
theorem d_Long_bitCount_0 : decode prog_18_method_50_code 0 = .ok (.lload_n 0, 1) := by decide +kernel
theorem d_Long_bitCount_1 : decode prog_18_method_50_code 1 = .ok (.lload_n 0, 1) := by decide +kernel
theorem d_Long_bitCount_2 : decode prog_18_method_50_code 2 = .ok (.iconst 1, 1) := by decide +kernel
theorem d_Long_bitCount_3 : decode prog_18_method_50_code 3 = .ok (.lushr, 1) := by decide +kernel
theorem d_Long_bitCount_4 : decode prog_18_method_50_code 4 = .ok (.ldc2_w 314, 3) := by decide +kernel
theorem d_Long_bitCount_7 : decode prog_18_method_50_code 7 = .ok (.land, 1) := by decide +kernel
theorem d_Long_bitCount_8 : decode prog_18_method_50_code 8 = .ok (.lsub, 1) := by decide +kernel
theorem d_Long_bitCount_9 : decode prog_18_method_50_code 9 = .ok (.lstore_n 0, 1) := by decide +kernel
theorem d_Long_bitCount_10 : decode prog_18_method_50_code 10 = .ok (.lload_n 0, 1) := by decide +kernel
theorem d_Long_bitCount_11 : decode prog_18_method_50_code 11 = .ok (.ldc2_w 316, 3) := by decide +kernel
theorem d_Long_bitCount_14 : decode prog_18_method_50_code 14 = .ok (.land, 1) := by decide +kernel
theorem d_Long_bitCount_15 : decode prog_18_method_50_code 15 = .ok (.lload_n 0, 1) := by decide +kernel
theorem d_Long_bitCount_16 : decode prog_18_method_50_code 16 = .ok (.iconst 2, 1) := by decide +kernel
theorem d_Long_bitCount_17 : decode prog_18_method_50_code 17 = .ok (.lushr, 1) := by decide +kernel
theorem d_Long_bitCount_18 : decode prog_18_method_50_code 18 = .ok (.ldc2_w 316, 3) := by decide +kernel
theorem d_Long_bitCount_21 : decode prog_18_method_50_code 21 = .ok (.land, 1) := by decide +kernel
theorem d_Long_bitCount_22 : decode prog_18_method_50_code 22 = .ok (.ladd, 1) := by decide +kernel
theorem d_Long_bitCount_23 : decode prog_18_method_50_code 23 = .ok (.lstore_n 0, 1) := by decide +kernel
theorem d_Long_bitCount_24 : decode prog_18_method_50_code 24 = .ok (.lload_n 0, 1) := by decide +kernel
theorem d_Long_bitCount_25 : decode prog_18_method_50_code 25 = .ok (.lload_n 0, 1) := by decide +kernel
theorem d_Long_bitCount_26 : decode prog_18_method_50_code 26 = .ok (.iconst 4, 1) := by decide +kernel
theorem d_Long_bitCount_27 : decode prog_18_method_50_code 27 = .ok (.lushr, 1) := by decide +kernel
theorem d_Long_bitCount_28 : decode prog_18_method_50_code 28 = .ok (.ladd, 1) := by decide +kernel
theorem d_Long_bitCount_29 : decode prog_18_method_50_code 29 = .ok (.ldc2_w 318, 3) := by decide +kernel
theorem d_Long_bitCount_32 : decode prog_18_method_50_code 32 = .ok (.land, 1) := by decide +kernel
theorem d_Long_bitCount_33 : decode prog_18_method_50_code 33 = .ok (.lstore_n 0, 1) := by decide +kernel
theorem d_Long_bitCount_34 : decode prog_18_method_50_code 34 = .ok (.lload_n 0, 1) := by decide +kernel
theorem d_Long_bitCount_35 : decode prog_18_method_50_code 35 = .ok (.lload_n 0, 1) := by decide +kernel
theorem d_Long_bitCount_36 : decode prog_18_method_50_code 36 = .ok (.bipush 8, 2) := by decide +kernel
theorem d_Long_bitCount_38 : decode prog_18_method_50_code 38 = .ok (.lushr, 1) := by decide +kernel
theorem d_Long_bitCount_39 : decode prog_18_method_50_code 39 = .ok (.ladd, 1) := by decide +kernel
theorem d_Long_bitCount_40 : decode prog_18_method_50_code 40 = .ok (.lstore_n 0, 1) := by decide +kernel
theorem d_Long_bitCount_41 : decode prog_18_method_50_code 41 = .ok (.lload_n 0, 1) := by decide +kernel
theorem d_Long_bitCount_42 : decode prog_18_method_50_code 42 = .ok (.lload_n 0, 1) := by decide +kernel
theorem d_Long_bitCount_43 : decode prog_18_method_50_code 43 = .ok (.bipush 16, 2) := by decide +kernel
theorem d_Long_bitCount_45 : decode prog_18_method_50_code 45 = .ok (.lushr, 1) := by decide +kernel
theorem d_Long_bitCount_46 : decode prog_18_method_50_code 46 = .ok (.ladd, 1) := by decide +kernel
theorem d_Long_bitCount_47 : decode prog_18_method_50_code 47 = .ok (.lstore_n 0, 1) := by decide +kernel
theorem d_Long_bitCount_48 : decode prog_18_method_50_code 48 = .ok (.lload_n 0, 1) := by decide +kernel
theorem d_Long_bitCount_49 : decode prog_18_method_50_code 49 = .ok (.lload_n 0, 1) := by decide +kernel
theorem d_Long_bitCount_50 : decode prog_18_method_50_code 50 = .ok (.bipush 32, 2) := by decide +kernel
theorem d_Long_bitCount_52 : decode prog_18_method_50_code 52 = .ok (.lushr, 1) := by decide +kernel
theorem d_Long_bitCount_53 : decode prog_18_method_50_code 53 = .ok (.ladd, 1) := by decide +kernel
theorem d_Long_bitCount_54 : decode prog_18_method_50_code 54 = .ok (.lstore_n 0, 1) := by decide +kernel
theorem d_Long_bitCount_55 : decode prog_18_method_50_code 55 = .ok (.lload_n 0, 1) := by decide +kernel
theorem d_Long_bitCount_56 : decode prog_18_method_50_code 56 = .ok (.l2i, 1) := by decide +kernel
theorem d_Long_bitCount_57 : decode prog_18_method_50_code 57 = .ok (.bipush 127, 2) := by decide +kernel
theorem d_Long_bitCount_59 : decode prog_18_method_50_code 59 = .ok (.iand, 1) := by decide +kernel
theorem d_Long_bitCount_60 : decode prog_18_method_50_code 60 = .ok (.ireturn, 1) := by decide +kernel
abbrev m_c1_Long_bitCount : Room := { frames := 0, cells := 0, slots := 0, locals := 0 }
set_option maxHeartbeats 4000000 in
set_option maxRecDepth 100000 in
theorem c1_Long_bitCount (l : Launch) (G : zG)   : zM l G y_Long_bitCount prog_18_method_50_code 2 (Option.some Jvm.ClassFile.FieldType.int) m_c1_Long_bitCount [.long 0] [] (fun v w => (v = some (.int 0) ∧ w = [])) := by
  refine z_start (by decide +kernel) (Nat.le_of_ble_eq_true rfl) ?_
  intro p e s m below meth c A Z hr hnm hA hP hD hS ls hl
  have Z : zC p s m _ meth c prog_18_method_50_code 2 "java/lang/Long" G := Z
  obtain ⟨hx, hb, hml, hown, hts, hK, hN, hlocks⟩ := id Z
  have hl : lv_has ls 2 [(0, .long 0)] := hl
  refine lv_lload_n hx hb d_Long_bitCount_0 rfl (lv_at hl 0 rfl) ?_
  refine lv_lload_n hx hb d_Long_bitCount_1 rfl (lv_at hl 0 rfl) ?_
  refine lv_iconst (v := 1) hx hb d_Long_bitCount_2 (by decide) ?_
  refine lv_lushr (v := 0) hx hb d_Long_bitCount_3 (by decide +kernel) ?_
  refine lv_ldc2 hx hb hown (hts _ q729) d_Long_bitCount_4 ?_
  refine lv_land hx hb d_Long_bitCount_7 ?_
  refine z_topl (y := 0) (by decide +kernel) ?_
  refine lv_lsub hx hb d_Long_bitCount_8 ?_
  refine z_topl (y := 0) (by decide +kernel) ?_
  refine lv_lstore_n (lv' := [(0, .long 0)]) hx hb d_Long_bitCount_9 rfl hl (by decide) rfl (fun ls hl => ?_)
  refine lv_lload_n hx hb d_Long_bitCount_10 rfl (lv_at hl 0 rfl) ?_
  refine lv_ldc2 hx hb hown (hts _ q730) d_Long_bitCount_11 ?_
  refine lv_land hx hb d_Long_bitCount_14 ?_
  refine z_topl (y := 0) (by decide +kernel) ?_
  refine lv_lload_n hx hb d_Long_bitCount_15 rfl (lv_at hl 0 rfl) ?_
  refine lv_iconst (v := 2) hx hb d_Long_bitCount_16 (by decide) ?_
  refine lv_lushr (v := 0) hx hb d_Long_bitCount_17 (by decide +kernel) ?_
  refine lv_ldc2 hx hb hown (hts _ q730) d_Long_bitCount_18 ?_
  refine lv_land hx hb d_Long_bitCount_21 ?_
  refine z_topl (y := 0) (by decide +kernel) ?_
  refine lv_ladd hx hb d_Long_bitCount_22 ?_
  refine z_topl (y := 0) (by decide +kernel) ?_
  refine lv_lstore_n (lv' := [(0, .long 0)]) hx hb d_Long_bitCount_23 rfl hl (by decide) rfl (fun ls hl => ?_)
  refine lv_lload_n hx hb d_Long_bitCount_24 rfl (lv_at hl 0 rfl) ?_
  refine lv_lload_n hx hb d_Long_bitCount_25 rfl (lv_at hl 0 rfl) ?_
  refine lv_iconst (v := 4) hx hb d_Long_bitCount_26 (by decide) ?_
  refine lv_lushr (v := 0) hx hb d_Long_bitCount_27 (by decide +kernel) ?_
  refine lv_ladd hx hb d_Long_bitCount_28 ?_
  refine z_topl (y := 0) (by decide +kernel) ?_
  refine lv_ldc2 hx hb hown (hts _ q731) d_Long_bitCount_29 ?_
  refine lv_land hx hb d_Long_bitCount_32 ?_
  refine z_topl (y := 0) (by decide +kernel) ?_
  refine lv_lstore_n (lv' := [(0, .long 0)]) hx hb d_Long_bitCount_33 rfl hl (by decide) rfl (fun ls hl => ?_)
  refine lv_lload_n hx hb d_Long_bitCount_34 rfl (lv_at hl 0 rfl) ?_
  refine lv_lload_n hx hb d_Long_bitCount_35 rfl (lv_at hl 0 rfl) ?_
  refine lv_bipush (v := 8) hx hb d_Long_bitCount_36 (by decide) ?_
  refine lv_lushr (v := 0) hx hb d_Long_bitCount_38 (by decide +kernel) ?_
  refine lv_ladd hx hb d_Long_bitCount_39 ?_
  refine z_topl (y := 0) (by decide +kernel) ?_
  refine lv_lstore_n (lv' := [(0, .long 0)]) hx hb d_Long_bitCount_40 rfl hl (by decide) rfl (fun ls hl => ?_)
  refine lv_lload_n hx hb d_Long_bitCount_41 rfl (lv_at hl 0 rfl) ?_
  refine lv_lload_n hx hb d_Long_bitCount_42 rfl (lv_at hl 0 rfl) ?_
  refine lv_bipush (v := 16) hx hb d_Long_bitCount_43 (by decide) ?_
  refine lv_lushr (v := 0) hx hb d_Long_bitCount_45 (by decide +kernel) ?_
  refine lv_ladd hx hb d_Long_bitCount_46 ?_
  refine z_topl (y := 0) (by decide +kernel) ?_
  refine lv_lstore_n (lv' := [(0, .long 0)]) hx hb d_Long_bitCount_47 rfl hl (by decide) rfl (fun ls hl => ?_)
  refine lv_lload_n hx hb d_Long_bitCount_48 rfl (lv_at hl 0 rfl) ?_
  refine lv_lload_n hx hb d_Long_bitCount_49 rfl (lv_at hl 0 rfl) ?_
  refine lv_bipush (v := 32) hx hb d_Long_bitCount_50 (by decide) ?_
  refine lv_lushr (v := 0) hx hb d_Long_bitCount_52 (by decide +kernel) ?_
  refine lv_ladd hx hb d_Long_bitCount_53 ?_
  refine z_topl (y := 0) (by decide +kernel) ?_
  refine lv_lstore_n (lv' := [(0, .long 0)]) hx hb d_Long_bitCount_54 rfl hl (by decide) rfl (fun ls hl => ?_)
  refine lv_lload_n hx hb d_Long_bitCount_55 rfl (lv_at hl 0 rfl) ?_
  refine lv_l2i (v := 0) hx hb d_Long_bitCount_56 (by decide +kernel) ?_
  refine lv_bipush (v := 127) hx hb d_Long_bitCount_57 (by decide) ?_
  refine lv_iand hx hb d_Long_bitCount_59 ?_
  refine z_topi (y := 0) (by decide +kernel) ?_
  exact z_iret hx hb hr hlocks hP hD hS (Nat.le_of_ble_eq_true rfl) (Nat.le_of_ble_eq_true rfl) d_Long_bitCount_60 ⟨rfl, rfl⟩
theorem d_Sets_size_29 : decode prog_8_method_6_code 29 = .ok (.iadd, 1) := by decide +kernel
theorem d_Sets_size_30 : decode prog_8_method_6_code 30 = .ok (.istore_n 2, 1) := by decide +kernel
theorem d_Sets_size_31 : decode prog_8_method_6_code 31 = .ok (.iinc 3 1, 3) := by decide +kernel
theorem d_Sets_size_34 : decode prog_8_method_6_code 34 = .ok (.goto (-30), 3) := by decide +kernel
theorem d_Sets_size_37 : decode prog_8_method_6_code 37 = .ok (.iload_n 2, 1) := by decide +kernel
theorem d_Sets_size_38 : decode prog_8_method_6_code 38 = .ok (.ireturn, 1) := by decide +kernel
abbrev m_c1_Sets_size : Room := { frames := 1, cells := 0, slots := 0, locals := 21 }
set_option maxHeartbeats 4000000 in
set_option maxRecDepth 100000 in
theorem c1_Sets_size (l : Launch) (G : zG) (b0 : Nat) (b1 : Nat) (b2 : Nat)  : zM l G y_Sets_size prog_8_method_6_code 4 (Option.some Jvm.ClassFile.FieldType.int) m_c1_Sets_size [.ref b0, .int 0] [(b0, .inr (6, [.int 0, .int 4, .int 2, .ref b1, .ref b2])), (b1, .inl (G.2 1, 8, .inr (.inl (fun _ => 0))))] (fun v w => (v = some (.int 0) ∧ w = [(b0, .inr (6, [.int 0, .int 4, .int 2, .ref b1, .ref b2])), (b1, .inl (G.2 1, 8, .inr (.inl (fun _ => 0))))])) := by
  refine z_start (by decide +kernel) (Nat.le_of_ble_eq_true rfl) ?_
  intro p e s m below meth c A Z hr hnm hA hP hD hS ls hl
  have Z : zC p s m _ meth c prog_8_method_6_code 4 "TraceMachines$StateSets" G := Z
  obtain ⟨hx, hb, hml, hown, hts, hK, hN, hlocks⟩ := id Z
  have hl : lv_has ls 4 [(0, .ref b0), (1, .int 0)] := hl
  refine lv_iconst (v := 0) hx hb d_Sets_size_0 (by decide) ?_
  refine lv_istore_n (lv' := [(2, .int 0), (0, .ref b0), (1, .int 0)]) hx hb d_Sets_size_1 rfl hl (by decide) rfl (fun ls hl => ?_)
  refine lv_iconst (v := 0) hx hb d_Sets_size_2 (by decide) ?_
  refine lv_istore_n (lv' := [(3, .int 0), (2, .int 0), (0, .ref b0), (1, .int 0)]) hx hb d_Sets_size_3 rfl hl (by decide) rfl (fun ls hl => ?_)
  refine lv_iload_n hx hb d_Sets_size_4 rfl (lv_at hl 0 rfl) ?_
  refine lv_aload_n hx hb d_Sets_size_5 rfl (lv_at hl 2 rfl) ?_
  refine va_get (D := G.1) (ci := 6) (v := .int 4) (C := R_Sets) (T := F_Sets) (N := 5) hx hb hts i_Sets hown hK hP 0 rfl rfl 1 (by decide) (hts _ q242) (fun _ h9 => h9) rfl d_Sets_size_6 ?_
  refine lv_icmp_ge (tgt := 37) hx hb d_Sets_size_9 (by decide) (fun hc => absurd hc (by decide +kernel)) (fun _ => ?_)
  refine lv_iload_n hx hb d_Sets_size_12 rfl (lv_at hl 1 rfl) ?_
  refine lv_aload_n hx hb d_Sets_size_13 rfl (lv_at hl 2 rfl) ?_
  refine va_get (D := G.1) (ci := 6) (v := .ref b1) (C := R_Sets) (T := F_Sets) (N := 5) hx hb hts i_Sets hown hK hP 0 rfl rfl 3 (by decide) (hts _ q244) (fun _ h9 => h9) rfl d_Sets_size_14 ?_
  refine lv_iload_n hx hb d_Sets_size_17 rfl (lv_at hl 3 rfl) ?_
  refine lv_aload_n hx hb d_Sets_size_18 rfl (lv_at hl 2 rfl) ?_
  refine va_get (D := G.1) (ci := 6) (v := .int 4) (C := R_Sets) (T := F_Sets) (N := 5) hx hb hts i_Sets hown hK hP 0 rfl rfl 1 (by decide) (hts _ q242) (fun _ h9 => h9) rfl d_Sets_size_19 ?_
  refine lv_imul hx hb d_Sets_size_22 ?_
  refine z_topi (y := 0) (by decide +kernel) ?_
  refine lv_iload_n hx hb d_Sets_size_23 rfl (lv_at hl 0 rfl) ?_
  refine lv_iadd hx hb d_Sets_size_24 ?_
  refine z_topi (y := 0) (by decide +kernel) ?_
  refine va_lald hx hb hK hP 1 1 rfl rfl (i := 0) (z_in rfl) d_Sets_size_25 ?_
  refine z_topl (y := 0) rfl ?_
  refine z_callS (index := 38) (As := [.long 0]) (rest := [.int 0]) (wr := [(b0, .inr (6, [.int 0, .int 4, .int 2, .ref b1, .ref b2])), (b1, .inl (G.2 1, 8, .inr (.inl (fun _ => 0))))]) Z (c1_Long_bitCount l G ) hl.1 q726 q727 q21 q728 ⟨by decide, by decide, by show _ = some 1; decide +kernel⟩ ⟨Nat.le_of_ble_eq_true rfl, Nat.le_of_ble_eq_true rfl⟩ ⟨Nat.le_of_ble_eq_true rfl, Nat.le_of_ble_eq_true rfl⟩ rfl (Nat.le_of_ble_eq_true rfl) d_Sets_size_26 hP hD hS hA [] [0, 1] rfl rfl rfl rfl (by decide) (fun v w1 H locs hw_1 hP hD hS => ?_)
  obtain ⟨rfl, rfl⟩ := hw_1
  have hP : va_P G.1 classes [(b0, .inr (6, [.int 0, .int 4, .int 2, .ref b1, .ref b2])), (b1, .inl (G.2 1, 8, .inr (.inl (fun _ => 0))))] H := hP
  have hD := z_tie hP hD rfl
  refine W.widen (k := 0) (n := 0) (Nat.le_of_ble_eq_true rfl) (Nat.le_of_ble_eq_true rfl) ?_
  refine lv_iadd hx hb d_Sets_size_29 ?_
  refine z_topi (y := 0) (by decide +kernel) ?_
  refine lv_istore_n (lv' := [(2, .int 0), (3, .int 0), (0, .ref b0), (1, .int 0)]) hx hb d_Sets_size_30 rfl hl (by decide) rfl (fun ls hl => ?_)
  refine lv_iinc (v := 1) (lv' := [(3, .int 1), (2, .int 0), (0, .ref b0), (1, .int 0)]) hx hb d_Sets_size_31 hl (k := 1) rfl (by decide +kernel) (by decide) rfl (fun ls hl => ?_)
  refine lv_goto (tgt := 4) hx hb d_Sets_size_34 (by decide) ?_
  refine lv_iload_n hx hb d_Sets_size_4 rfl (lv_at hl 0 rfl) ?_
  refine lv_aload_n hx hb d_Sets_size_5 rfl (lv_at hl 2 rfl) ?_
  refine va_get (D := G.1) (ci := 6) (v := .int 4) (C := R_Sets) (T := F_Sets) (N := 5) hx hb hts i_Sets hown hK hP 0 rfl rfl 1 (by decide) (hts _ q242) (fun _ h9 => h9) rfl d_Sets_size_6 ?_
  refine lv_icmp_ge (tgt := 37) hx hb d_Sets_size_9 (by decide) (fun hc => absurd hc (by decide +kernel)) (fun _ => ?_)
  refine lv_iload_n hx hb d_Sets_size_12 rfl (lv_at hl 1 rfl) ?_
  refine lv_aload_n hx hb d_Sets_size_13 rfl (lv_at hl 2 rfl) ?_
  refine va_get (D := G.1) (ci := 6) (v := .ref b1) (C := R_Sets) (T := F_Sets) (N := 5) hx hb hts i_Sets hown hK hP 0 rfl rfl 3 (by decide) (hts _ q244) (fun _ h9 => h9) rfl d_Sets_size_14 ?_
  refine lv_iload_n hx hb d_Sets_size_17 rfl (lv_at hl 3 rfl) ?_
  refine lv_aload_n hx hb d_Sets_size_18 rfl (lv_at hl 2 rfl) ?_
  refine va_get (D := G.1) (ci := 6) (v := .int 4) (C := R_Sets) (T := F_Sets) (N := 5) hx hb hts i_Sets hown hK hP 0 rfl rfl 1 (by decide) (hts _ q242) (fun _ h9 => h9) rfl d_Sets_size_19 ?_
  refine lv_imul hx hb d_Sets_size_22 ?_
  refine z_topi (y := 0) (by decide +kernel) ?_
  refine lv_iload_n hx hb d_Sets_size_23 rfl (lv_at hl 0 rfl) ?_
  refine lv_iadd hx hb d_Sets_size_24 ?_
  refine z_topi (y := 1) (by decide +kernel) ?_
  refine va_lald hx hb hK hP 1 1 rfl rfl (i := 1) (z_in rfl) d_Sets_size_25 ?_
  refine z_topl (y := 0) rfl ?_
  refine z_callS (index := 38) (As := [.long 0]) (rest := [.int 0]) (wr := [(b0, .inr (6, [.int 0, .int 4, .int 2, .ref b1, .ref b2])), (b1, .inl (G.2 1, 8, .inr (.inl (fun _ => 0))))]) Z (c1_Long_bitCount l G ) hl.1 q726 q727 q21 q728 ⟨by decide, by decide, by show _ = some 1; decide +kernel⟩ ⟨Nat.le_of_ble_eq_true rfl, Nat.le_of_ble_eq_true rfl⟩ ⟨Nat.le_of_ble_eq_true rfl, Nat.le_of_ble_eq_true rfl⟩ rfl (Nat.le_of_ble_eq_true rfl) d_Sets_size_26 hP hD hS hA [] [0, 1] rfl rfl rfl rfl (by decide) (fun v w1 H locs hw_2 hP hD hS => ?_)
  obtain ⟨rfl, rfl⟩ := hw_2
  have hP : va_P G.1 classes [(b0, .inr (6, [.int 0, .int 4, .int 2, .ref b1, .ref b2])), (b1, .inl (G.2 1, 8, .inr (.inl (fun _ => 0))))] H := hP
  have hD := z_tie hP hD rfl
  refine W.widen (k := 0) (n := 0) (Nat.le_of_ble_eq_true rfl) (Nat.le_of_ble_eq_true rfl) ?_
  refine lv_iadd hx hb d_Sets_size_29 ?_
  refine z_topi (y := 0) (by decide +kernel) ?_
  refine lv_istore_n (lv' := [(2, .int 0), (3, .int 1), (0, .ref b0), (1, .int 0)]) hx hb d_Sets_size_30 rfl hl (by decide) rfl (fun ls hl => ?_)
  refine lv_iinc (v := 2) (lv' := [(3, .int 2), (2, .int 0), (0, .ref b0), (1, .int 0)]) hx hb d_Sets_size_31 hl (k := 1) rfl (by decide +kernel) (by decide) rfl (fun ls hl => ?_)
  refine lv_goto (tgt := 4) hx hb d_Sets_size_34 (by decide) ?_
  refine lv_iload_n hx hb d_Sets_size_4 rfl (lv_at hl 0 rfl) ?_
  refine lv_aload_n hx hb d_Sets_size_5 rfl (lv_at hl 2 rfl) ?_
  refine va_get (D := G.1) (ci := 6) (v := .int 4) (C := R_Sets) (T := F_Sets) (N := 5) hx hb hts i_Sets hown hK hP 0 rfl rfl 1 (by decide) (hts _ q242) (fun _ h9 => h9) rfl d_Sets_size_6 ?_
  refine lv_icmp_ge (tgt := 37) hx hb d_Sets_size_9 (by decide) (fun hc => absurd hc (by decide +kernel)) (fun _ => ?_)
  refine lv_iload_n hx hb d_Sets_size_12 rfl (lv_at hl 1 rfl) ?_
  refine lv_aload_n hx hb d_Sets_size_13 rfl (lv_at hl 2 rfl) ?_
  refine va_get (D := G.1) (ci := 6) (v := .ref b1) (C := R_Sets) (T := F_Sets) (N := 5) hx hb hts i_Sets hown hK hP 0 rfl rfl 3 (by decide) (hts _ q244) (fun _ h9 => h9) rfl d_Sets_size_14 ?_
  refine lv_iload_n hx hb d_Sets_size_17 rfl (lv_at hl 3 rfl) ?_
  refine lv_aload_n hx hb d_Sets_size_18 rfl (lv_at hl 2 rfl) ?_
  refine va_get (D := G.1) (ci := 6) (v := .int 4) (C := R_Sets) (T := F_Sets) (N := 5) hx hb hts i_Sets hown hK hP 0 rfl rfl 1 (by decide) (hts _ q242) (fun _ h9 => h9) rfl d_Sets_size_19 ?_
  refine lv_imul hx hb d_Sets_size_22 ?_
  refine z_topi (y := 0) (by decide +kernel) ?_
  refine lv_iload_n hx hb d_Sets_size_23 rfl (lv_at hl 0 rfl) ?_
  refine lv_iadd hx hb d_Sets_size_24 ?_
  refine z_topi (y := 2) (by decide +kernel) ?_
  refine va_lald hx hb hK hP 1 1 rfl rfl (i := 2) (z_in rfl) d_Sets_size_25 ?_
  refine z_topl (y := 0) rfl ?_
  refine z_callS (index := 38) (As := [.long 0]) (rest := [.int 0]) (wr := [(b0, .inr (6, [.int 0, .int 4, .int 2, .ref b1, .ref b2])), (b1, .inl (G.2 1, 8, .inr (.inl (fun _ => 0))))]) Z (c1_Long_bitCount l G ) hl.1 q726 q727 q21 q728 ⟨by decide, by decide, by show _ = some 1; decide +kernel⟩ ⟨Nat.le_of_ble_eq_true rfl, Nat.le_of_ble_eq_true rfl⟩ ⟨Nat.le_of_ble_eq_true rfl, Nat.le_of_ble_eq_true rfl⟩ rfl (Nat.le_of_ble_eq_true rfl) d_Sets_size_26 hP hD hS hA [] [0, 1] rfl rfl rfl rfl (by decide) (fun v w1 H locs hw_3 hP hD hS => ?_)
  obtain ⟨rfl, rfl⟩ := hw_3
  have hP : va_P G.1 classes [(b0, .inr (6, [.int 0, .int 4, .int 2, .ref b1, .ref b2])), (b1, .inl (G.2 1, 8, .inr (.inl (fun _ => 0))))] H := hP
  have hD := z_tie hP hD rfl
  refine W.widen (k := 0) (n := 0) (Nat.le_of_ble_eq_true rfl) (Nat.le_of_ble_eq_true rfl) ?_
  refine lv_iadd hx hb d_Sets_size_29 ?_
  refine z_topi (y := 0) (by decide +kernel) ?_
  refine lv_istore_n (lv' := [(2, .int 0), (3, .int 2), (0, .ref b0), (1, .int 0)]) hx hb d_Sets_size_30 rfl hl (by decide) rfl (fun ls hl => ?_)
  refine lv_iinc (v := 3) (lv' := [(3, .int 3), (2, .int 0), (0, .ref b0), (1, .int 0)]) hx hb d_Sets_size_31 hl (k := 1) rfl (by decide +kernel) (by decide) rfl (fun ls hl => ?_)
  refine lv_goto (tgt := 4) hx hb d_Sets_size_34 (by decide) ?_
  refine lv_iload_n hx hb d_Sets_size_4 rfl (lv_at hl 0 rfl) ?_
  refine lv_aload_n hx hb d_Sets_size_5 rfl (lv_at hl 2 rfl) ?_
  refine va_get (D := G.1) (ci := 6) (v := .int 4) (C := R_Sets) (T := F_Sets) (N := 5) hx hb hts i_Sets hown hK hP 0 rfl rfl 1 (by decide) (hts _ q242) (fun _ h9 => h9) rfl d_Sets_size_6 ?_
  refine lv_icmp_ge (tgt := 37) hx hb d_Sets_size_9 (by decide) (fun hc => absurd hc (by decide +kernel)) (fun _ => ?_)
  refine lv_iload_n hx hb d_Sets_size_12 rfl (lv_at hl 1 rfl) ?_
  refine lv_aload_n hx hb d_Sets_size_13 rfl (lv_at hl 2 rfl) ?_
  refine va_get (D := G.1) (ci := 6) (v := .ref b1) (C := R_Sets) (T := F_Sets) (N := 5) hx hb hts i_Sets hown hK hP 0 rfl rfl 3 (by decide) (hts _ q244) (fun _ h9 => h9) rfl d_Sets_size_14 ?_
  refine lv_iload_n hx hb d_Sets_size_17 rfl (lv_at hl 3 rfl) ?_
  refine lv_aload_n hx hb d_Sets_size_18 rfl (lv_at hl 2 rfl) ?_
  refine va_get (D := G.1) (ci := 6) (v := .int 4) (C := R_Sets) (T := F_Sets) (N := 5) hx hb hts i_Sets hown hK hP 0 rfl rfl 1 (by decide) (hts _ q242) (fun _ h9 => h9) rfl d_Sets_size_19 ?_
  refine lv_imul hx hb d_Sets_size_22 ?_
  refine z_topi (y := 0) (by decide +kernel) ?_
  refine lv_iload_n hx hb d_Sets_size_23 rfl (lv_at hl 0 rfl) ?_
  refine lv_iadd hx hb d_Sets_size_24 ?_
  refine z_topi (y := 3) (by decide +kernel) ?_
  refine va_lald hx hb hK hP 1 1 rfl rfl (i := 3) (z_in rfl) d_Sets_size_25 ?_
  refine z_topl (y := 0) rfl ?_
  refine z_callS (index := 38) (As := [.long 0]) (rest := [.int 0]) (wr := [(b0, .inr (6, [.int 0, .int 4, .int 2, .ref b1, .ref b2])), (b1, .inl (G.2 1, 8, .inr (.inl (fun _ => 0))))]) Z (c1_Long_bitCount l G ) hl.1 q726 q727 q21 q728 ⟨by decide, by decide, by show _ = some 1; decide +kernel⟩ ⟨Nat.le_of_ble_eq_true rfl, Nat.le_of_ble_eq_true rfl⟩ ⟨Nat.le_of_ble_eq_true rfl, Nat.le_of_ble_eq_true rfl⟩ rfl (Nat.le_of_ble_eq_true rfl) d_Sets_size_26 hP hD hS hA [] [0, 1] rfl rfl rfl rfl (by decide) (fun v w1 H locs hw_4 hP hD hS => ?_)
  obtain ⟨rfl, rfl⟩ := hw_4
  have hP : va_P G.1 classes [(b0, .inr (6, [.int 0, .int 4, .int 2, .ref b1, .ref b2])), (b1, .inl (G.2 1, 8, .inr (.inl (fun _ => 0))))] H := hP
  have hD := z_tie hP hD rfl
  refine W.widen (k := 0) (n := 0) (Nat.le_of_ble_eq_true rfl) (Nat.le_of_ble_eq_true rfl) ?_
  refine lv_iadd hx hb d_Sets_size_29 ?_
  refine z_topi (y := 0) (by decide +kernel) ?_
  refine lv_istore_n (lv' := [(2, .int 0), (3, .int 3), (0, .ref b0), (1, .int 0)]) hx hb d_Sets_size_30 rfl hl (by decide) rfl (fun ls hl => ?_)
  refine lv_iinc (v := 4) (lv' := [(3, .int 4), (2, .int 0), (0, .ref b0), (1, .int 0)]) hx hb d_Sets_size_31 hl (k := 1) rfl (by decide +kernel) (by decide) rfl (fun ls hl => ?_)
  refine lv_goto (tgt := 4) hx hb d_Sets_size_34 (by decide) ?_
  refine lv_iload_n hx hb d_Sets_size_4 rfl (lv_at hl 0 rfl) ?_
  refine lv_aload_n hx hb d_Sets_size_5 rfl (lv_at hl 2 rfl) ?_
  refine va_get (D := G.1) (ci := 6) (v := .int 4) (C := R_Sets) (T := F_Sets) (N := 5) hx hb hts i_Sets hown hK hP 0 rfl rfl 1 (by decide) (hts _ q242) (fun _ h9 => h9) rfl d_Sets_size_6 ?_
  refine lv_icmp_ge (tgt := 37) hx hb d_Sets_size_9 (by decide) (fun _ => ?_) (fun hc => absurd hc (by decide +kernel))
  refine lv_iload_n hx hb d_Sets_size_37 rfl (lv_at hl 1 rfl) ?_
  exact z_iret hx hb hr hlocks hP hD hS (Nat.le_of_ble_eq_true rfl) (Nat.le_of_ble_eq_true rfl) d_Sets_size_38 ⟨rfl, rfl⟩
theorem d_X_run_90 : decode prog_1_method_13_code 90 = .ok (.iastore, 1) := by decide +kernel
theorem d_X_run_91 : decode prog_1_method_13_code 91 = .ok (.aload_n 0, 1) := by decide +kernel
theorem d_X_run_92 : decode prog_1_method_13_code 92 = .ok (.getfield 70, 3) := by decide +kernel
theorem d_X_run_95 : decode prog_1_method_13_code 95 = .ok (.iconst 2, 1) := by decide +kernel
theorem d_X_run_96 : decode prog_1_method_13_code 96 = .ok (.aload_n 0, 1) := by decide +kernel
theorem d_X_run_97 : decode prog_1_method_13_code 97 = .ok (.getfield 66, 3) := by decide +kernel
theorem d_X_run_100 : decode prog_1_method_13_code 100 = .ok (.iconst 0, 1) := by decide +kernel
theorem d_X_run_101 : decode prog_1_method_13_code 101 = .ok (.invokevirtual 255, 3) := by decide +kernel
theorem d_Sets_least_0 : decode prog_8_method_8_code 0 = .ok (.iconst 0, 1) := by decide +kernel
theorem d_Sets_least_1 : decode prog_8_method_8_code 1 = .ok (.istore_n 2, 1) := by decide +kernel
theorem d_Sets_least_2 : decode prog_8_method_8_code 2 = .ok (.iload_n 2, 1) := by decide +kernel
theorem d_Sets_least_3 : decode prog_8_method_8_code 3 = .ok (.aload_n 0, 1) := by decide +kernel
theorem d_Sets_least_4 : decode prog_8_method_8_code 4 = .ok (.getfield 15, 3) := by decide +kernel
theorem d_Sets_least_7 : decode prog_8_method_8_code 7 = .ok (.if_icmp .ge 39, 3) := by decide +kernel
theorem d_Sets_least_10 : decode prog_8_method_8_code 10 = .ok (.aload_n 0, 1) := by decide +kernel
theorem d_Sets_least_11 : decode prog_8_method_8_code 11 = .ok (.getfield 18, 3) := by decide +kernel
theorem d_Sets_least_14 : decode prog_8_method_8_code 14 = .ok (.iload_n 1, 1) := by decide +kernel
theorem d_Sets_least_15 : decode prog_8_method_8_code 15 = .ok (.aload_n 0, 1) := by decide +kernel
theorem d_Sets_least_16 : decode prog_8_method_8_code 16 = .ok (.getfield 15, 3) := by decide +kernel
theorem d_Sets_least_19 : decode prog_8_method_8_code 19 = .ok (.imul, 1) := by decide +kernel
theorem d_Sets_least_20 : decode prog_8_method_8_code 20 = .ok (.iload_n 2, 1) := by decide +kernel
theorem d_Sets_least_21 : decode prog_8_method_8_code 21 = .ok (.iadd, 1) := by decide +kernel
theorem d_Sets_least_22 : decode prog_8_method_8_code 22 = .ok (.laload, 1) := by decide +kernel
theorem d_Sets_least_23 : decode prog_8_method_8_code 23 = .ok (.lstore_n 3, 1) := by decide +kernel
theorem d_Sets_least_24 : decode prog_8_method_8_code 24 = .ok (.lload_n 3, 1) := by decide +kernel
theorem d_Sets_least_25 : decode prog_8_method_8_code 25 = .ok (.lconst 0, 1) := by decide +kernel
theorem d_Sets_least_26 : decode prog_8_method_8_code 26 = .ok (.lcmp, 1) := by decide +kernel
theorem d_Sets_least_27 : decode prog_8_method_8_code 27 = .ok (.ifCond .eq 13, 3) := by decide +kernel
theorem d_Sets_least_40 : decode prog_8_method_8_code 40 = .ok (.iinc 2 1, 3) := by decide +kernel
theorem d_Sets_least_43 : decode prog_8_method_8_code 43 = .ok (.goto (-41), 3) := by decide +kernel
theorem d_Sets_least_46 : decode prog_8_method_8_code 46 = .ok (.iconst (-1), 1) := by decide +kernel
theorem d_Sets_least_47 : decode prog_8_method_8_code 47 = .ok (.ireturn, 1) := by decide +kernel
abbrev m_c1_Sets_least : Room := { frames := 0, cells := 0, slots := 0, locals := 0 }
set_option maxHeartbeats 4000000 in
set_option maxRecDepth 100000 in
theorem c1_Sets_least (l : Launch) (G : zG) (b0 : Nat) (b1 : Nat) (b2 : Nat)  : zM l G y_Sets_least prog_8_method_8_code 5 (Option.some Jvm.ClassFile.FieldType.int) m_c1_Sets_least [.ref b0, .int 0] [(b0, .inr (6, [.int 0, .int 4, .int 2, .ref b1, .ref b2])), (b1, .inl (G.2 1, 8, .inr (.inl (fun _ => 0))))] (fun v w => (v = some (.int (-1)) ∧ w = [(b0, .inr (6, [.int 0, .int 4, .int 2, .ref b1, .ref b2])), (b1, .inl (G.2 1, 8, .inr (.inl (fun _ => 0))))])) := by
  refine z_start (by decide +kernel) (Nat.le_of_ble_eq_true rfl) ?_
  intro p e s m below meth c A Z hr hnm hA hP hD hS ls hl
  have Z : zC p s m _ meth c prog_8_method_8_code 5 "TraceMachines$StateSets" G := Z
  obtain ⟨hx, hb, hml, hown, hts, hK, hN, hlocks⟩ := id Z
  have hl : lv_has ls 5 [(0, .ref b0), (1, .int 0)] := hl
  refine lv_iconst (v := 0) hx hb d_Sets_least_0 (by decide) ?_
  refine lv_istore_n (lv' := [(2, .int 0), (0, .ref b0), (1, .int 0)]) hx hb d_Sets_least_1 rfl hl (by decide) rfl (fun ls hl => ?_)
  refine lv_iload_n hx hb d_Sets_least_2 rfl (lv_at hl 0 rfl) ?_
  refine lv_aload_n hx hb d_Sets_least_3 rfl (lv_at hl 1 rfl) ?_
  refine va_get (D := G.1) (ci := 6) (v := .int 4) (C := R_Sets) (T := F_Sets) (N := 5) hx hb hts i_Sets hown hK hP 0 rfl rfl 1 (by decide) (hts _ q242) (fun _ h9 => h9) rfl d_Sets_least_4 ?_
  refine lv_icmp_ge (tgt := 46) hx hb d_Sets_least_7 (by decide) (fun hc => absurd hc (by decide +kernel)) (fun _ => ?_)
  refine lv_aload_n hx hb d_Sets_least_10 rfl (lv_at hl 1 rfl) ?_
  refine va_get (D := G.1) (ci := 6) (v := .ref b1) (C := R_Sets) (T := F_Sets) (N := 5) hx hb hts i_Sets hown hK hP 0 rfl rfl 3 (by decide) (hts _ q244) (fun _ h9 => h9) rfl d_Sets_least_11 ?_
  refine lv_iload_n hx hb d_Sets_least_14 rfl (lv_at hl 2 rfl) ?_
  refine lv_aload_n hx hb d_Sets_least_15 rfl (lv_at hl 1 rfl) ?_
  refine va_get (D := G.1) (ci := 6) (v := .int 4) (C := R_Sets) (T := F_Sets) (N := 5) hx hb hts i_Sets hown hK hP 0 rfl rfl 1 (by decide) (hts _ q242) (fun _ h9 => h9) rfl d_Sets_least_16 ?_
  refine lv_imul hx hb d_Sets_least_19 ?_
  refine z_topi (y := 0) (by decide +kernel) ?_
  refine lv_iload_n hx hb d_Sets_least_20 rfl (lv_at hl 0 rfl) ?_
  refine lv_iadd hx hb d_Sets_least_21 ?_
  refine z_topi (y := 0) (by decide +kernel) ?_
  refine va_lald hx hb hK hP 1 1 rfl rfl (i := 0) (z_in rfl) d_Sets_least_22 ?_
  refine z_topl (y := 0) rfl ?_
  refine lv_lstore_n (lv' := [(3, .long 0), (2, .int 0), (0, .ref b0), (1, .int 0)]) hx hb d_Sets_least_23 rfl hl (by decide) rfl (fun ls hl => ?_)
  refine lv_lload_n hx hb d_Sets_least_24 rfl (lv_at hl 0 rfl) ?_
  refine lv_lconst (v := 0) hx hb d_Sets_least_25 (by decide) ?_
  refine W.lcmp hx hb d_Sets_least_26 ?_
  refine z_topi (y := 0) (by decide +kernel) ?_
  refine lv_if_eq (tgt := 40) hx hb d_Sets_least_27 (by decide) (fun _ => ?_) (fun hc => absurd hc (by decide +kernel))
  refine lv_iinc (v := 1) (lv' := [(2, .int 1), (3, .long 0), (0, .ref b0), (1, .int 0)]) hx hb d_Sets_least_40 hl (k := 1) rfl (by decide +kernel) (by decide) rfl (fun ls hl => ?_)
  refine lv_goto (tgt := 2) hx hb d_Sets_least_43 (by decide) ?_
  refine lv_iload_n hx hb d_Sets_least_2 rfl (lv_at hl 0 rfl) ?_
  refine lv_aload_n hx hb d_Sets_least_3 rfl (lv_at hl 2 rfl) ?_
  refine va_get (D := G.1) (ci := 6) (v := .int 4) (C := R_Sets) (T := F_Sets) (N := 5) hx hb hts i_Sets hown hK hP 0 rfl rfl 1 (by decide) (hts _ q242) (fun _ h9 => h9) rfl d_Sets_least_4 ?_
  refine lv_icmp_ge (tgt := 46) hx hb d_Sets_least_7 (by decide) (fun hc => absurd hc (by decide +kernel)) (fun _ => ?_)
  refine lv_aload_n hx hb d_Sets_least_10 rfl (lv_at hl 2 rfl) ?_
  refine va_get (D := G.1) (ci := 6) (v := .ref b1) (C := R_Sets) (T := F_Sets) (N := 5) hx hb hts i_Sets hown hK hP 0 rfl rfl 3 (by decide) (hts _ q244) (fun _ h9 => h9) rfl d_Sets_least_11 ?_
  refine lv_iload_n hx hb d_Sets_least_14 rfl (lv_at hl 3 rfl) ?_
  refine lv_aload_n hx hb d_Sets_least_15 rfl (lv_at hl 2 rfl) ?_
  refine va_get (D := G.1) (ci := 6) (v := .int 4) (C := R_Sets) (T := F_Sets) (N := 5) hx hb hts i_Sets hown hK hP 0 rfl rfl 1 (by decide) (hts _ q242) (fun _ h9 => h9) rfl d_Sets_least_16 ?_
  refine lv_imul hx hb d_Sets_least_19 ?_
  refine z_topi (y := 0) (by decide +kernel) ?_
  refine lv_iload_n hx hb d_Sets_least_20 rfl (lv_at hl 0 rfl) ?_
  refine lv_iadd hx hb d_Sets_least_21 ?_
  refine z_topi (y := 1) (by decide +kernel) ?_
  refine va_lald hx hb hK hP 1 1 rfl rfl (i := 1) (z_in rfl) d_Sets_least_22 ?_
  refine z_topl (y := 0) rfl ?_
  refine lv_lstore_n (lv' := [(3, .long 0), (2, .int 1), (0, .ref b0), (1, .int 0)]) hx hb d_Sets_least_23 rfl hl (by decide) rfl (fun ls hl => ?_)
  refine lv_lload_n hx hb d_Sets_least_24 rfl (lv_at hl 0 rfl) ?_
  refine lv_lconst (v := 0) hx hb d_Sets_least_25 (by decide) ?_
  refine W.lcmp hx hb d_Sets_least_26 ?_
  refine z_topi (y := 0) (by decide +kernel) ?_
  refine lv_if_eq (tgt := 40) hx hb d_Sets_least_27 (by decide) (fun _ => ?_) (fun hc => absurd hc (by decide +kernel))
  refine lv_iinc (v := 2) (lv' := [(2, .int 2), (3, .long 0), (0, .ref b0), (1, .int 0)]) hx hb d_Sets_least_40 hl (k := 1) rfl (by decide +kernel) (by decide) rfl (fun ls hl => ?_)
  refine lv_goto (tgt := 2) hx hb d_Sets_least_43 (by decide) ?_
  refine lv_iload_n hx hb d_Sets_least_2 rfl (lv_at hl 0 rfl) ?_
  refine lv_aload_n hx hb d_Sets_least_3 rfl (lv_at hl 2 rfl) ?_
  refine va_get (D := G.1) (ci := 6) (v := .int 4) (C := R_Sets) (T := F_Sets) (N := 5) hx hb hts i_Sets hown hK hP 0 rfl rfl 1 (by decide) (hts _ q242) (fun _ h9 => h9) rfl d_Sets_least_4 ?_
  refine lv_icmp_ge (tgt := 46) hx hb d_Sets_least_7 (by decide) (fun hc => absurd hc (by decide +kernel)) (fun _ => ?_)
  refine lv_aload_n hx hb d_Sets_least_10 rfl (lv_at hl 2 rfl) ?_
  refine va_get (D := G.1) (ci := 6) (v := .ref b1) (C := R_Sets) (T := F_Sets) (N := 5) hx hb hts i_Sets hown hK hP 0 rfl rfl 3 (by decide) (hts _ q244) (fun _ h9 => h9) rfl d_Sets_least_11 ?_
  refine lv_iload_n hx hb d_Sets_least_14 rfl (lv_at hl 3 rfl) ?_
  refine lv_aload_n hx hb d_Sets_least_15 rfl (lv_at hl 2 rfl) ?_
  refine va_get (D := G.1) (ci := 6) (v := .int 4) (C := R_Sets) (T := F_Sets) (N := 5) hx hb hts i_Sets hown hK hP 0 rfl rfl 1 (by decide) (hts _ q242) (fun _ h9 => h9) rfl d_Sets_least_16 ?_
  refine lv_imul hx hb d_Sets_least_19 ?_
  refine z_topi (y := 0) (by decide +kernel) ?_
  refine lv_iload_n hx hb d_Sets_least_20 rfl (lv_at hl 0 rfl) ?_
  refine lv_iadd hx hb d_Sets_least_21 ?_
  refine z_topi (y := 2) (by decide +kernel) ?_
  refine va_lald hx hb hK hP 1 1 rfl rfl (i := 2) (z_in rfl) d_Sets_least_22 ?_
  refine z_topl (y := 0) rfl ?_
  refine lv_lstore_n (lv' := [(3, .long 0), (2, .int 2), (0, .ref b0), (1, .int 0)]) hx hb d_Sets_least_23 rfl hl (by decide) rfl (fun ls hl => ?_)
  refine lv_lload_n hx hb d_Sets_least_24 rfl (lv_at hl 0 rfl) ?_
  refine lv_lconst (v := 0) hx hb d_Sets_least_25 (by decide) ?_
  refine W.lcmp hx hb d_Sets_least_26 ?_
  refine z_topi (y := 0) (by decide +kernel) ?_
  refine lv_if_eq (tgt := 40) hx hb d_Sets_least_27 (by decide) (fun _ => ?_) (fun hc => absurd hc (by decide +kernel))
  refine lv_iinc (v := 3) (lv' := [(2, .int 3), (3, .long 0), (0, .ref b0), (1, .int 0)]) hx hb d_Sets_least_40 hl (k := 1) rfl (by decide +kernel) (by decide) rfl (fun ls hl => ?_)
  refine lv_goto (tgt := 2) hx hb d_Sets_least_43 (by decide) ?_
  refine lv_iload_n hx hb d_Sets_least_2 rfl (lv_at hl 0 rfl) ?_
  refine lv_aload_n hx hb d_Sets_least_3 rfl (lv_at hl 2 rfl) ?_
  refine va_get (D := G.1) (ci := 6) (v := .int 4) (C := R_Sets) (T := F_Sets) (N := 5) hx hb hts i_Sets hown hK hP 0 rfl rfl 1 (by decide) (hts _ q242) (fun _ h9 => h9) rfl d_Sets_least_4 ?_
  refine lv_icmp_ge (tgt := 46) hx hb d_Sets_least_7 (by decide) (fun hc => absurd hc (by decide +kernel)) (fun _ => ?_)
  refine lv_aload_n hx hb d_Sets_least_10 rfl (lv_at hl 2 rfl) ?_
  refine va_get (D := G.1) (ci := 6) (v := .ref b1) (C := R_Sets) (T := F_Sets) (N := 5) hx hb hts i_Sets hown hK hP 0 rfl rfl 3 (by decide) (hts _ q244) (fun _ h9 => h9) rfl d_Sets_least_11 ?_
  refine lv_iload_n hx hb d_Sets_least_14 rfl (lv_at hl 3 rfl) ?_
  refine lv_aload_n hx hb d_Sets_least_15 rfl (lv_at hl 2 rfl) ?_
  refine va_get (D := G.1) (ci := 6) (v := .int 4) (C := R_Sets) (T := F_Sets) (N := 5) hx hb hts i_Sets hown hK hP 0 rfl rfl 1 (by decide) (hts _ q242) (fun _ h9 => h9) rfl d_Sets_least_16 ?_
  refine lv_imul hx hb d_Sets_least_19 ?_
  refine z_topi (y := 0) (by decide +kernel) ?_
  refine lv_iload_n hx hb d_Sets_least_20 rfl (lv_at hl 0 rfl) ?_
  refine lv_iadd hx hb d_Sets_least_21 ?_
  refine z_topi (y := 3) (by decide +kernel) ?_
  refine va_lald hx hb hK hP 1 1 rfl rfl (i := 3) (z_in rfl) d_Sets_least_22 ?_
  refine z_topl (y := 0) rfl ?_
  refine lv_lstore_n (lv' := [(3, .long 0), (2, .int 3), (0, .ref b0), (1, .int 0)]) hx hb d_Sets_least_23 rfl hl (by decide) rfl (fun ls hl => ?_)
  refine lv_lload_n hx hb d_Sets_least_24 rfl (lv_at hl 0 rfl) ?_
  refine lv_lconst (v := 0) hx hb d_Sets_least_25 (by decide) ?_
  refine W.lcmp hx hb d_Sets_least_26 ?_
  refine z_topi (y := 0) (by decide +kernel) ?_
  refine lv_if_eq (tgt := 40) hx hb d_Sets_least_27 (by decide) (fun _ => ?_) (fun hc => absurd hc (by decide +kernel))
  refine lv_iinc (v := 4) (lv' := [(2, .int 4), (3, .long 0), (0, .ref b0), (1, .int 0)]) hx hb d_Sets_least_40 hl (k := 1) rfl (by decide +kernel) (by decide) rfl (fun ls hl => ?_)
  refine lv_goto (tgt := 2) hx hb d_Sets_least_43 (by decide) ?_
  refine lv_iload_n hx hb d_Sets_least_2 rfl (lv_at hl 0 rfl) ?_
  refine lv_aload_n hx hb d_Sets_least_3 rfl (lv_at hl 2 rfl) ?_
  refine va_get (D := G.1) (ci := 6) (v := .int 4) (C := R_Sets) (T := F_Sets) (N := 5) hx hb hts i_Sets hown hK hP 0 rfl rfl 1 (by decide) (hts _ q242) (fun _ h9 => h9) rfl d_Sets_least_4 ?_
  refine lv_icmp_ge (tgt := 46) hx hb d_Sets_least_7 (by decide) (fun _ => ?_) (fun hc => absurd hc (by decide +kernel))
  refine lv_iconst (v := (-1)) hx hb d_Sets_least_46 (by decide) ?_
  exact z_iret hx hb hr hlocks hP hD hS (Nat.le_of_ble_eq_true rfl) (Nat.le_of_ble_eq_true rfl) d_Sets_least_47 ⟨rfl, rfl⟩
theorem d_X_run_104 : decode prog_1_method_13_code 104 = .ok (.iastore, 1) := by decide +kernel
theorem d_X_run_105 : decode prog_1_method_13_code 105 = .ok (.iload_n 3, 1) := by decide +kernel
theorem d_X_run_106 : decode prog_1_method_13_code 106 = .ok (.iconst (-1), 1) := by decide +kernel
theorem d_X_run_107 : decode prog_1_method_13_code 107 = .ok (.if_icmp .ne 7, 3) := by decide +kernel
theorem d_X_run_114 : decode prog_1_method_13_code 114 = .ok (.iconst 0, 1) := by decide +kernel
theorem d_X_run_115 : decode prog_1_method_13_code 115 = .ok (.ireturn, 1) := by decide +kernel
abbrev m_c2_Machine_failsAt : Room := { frames := 2, cells := 0, slots := 0, locals := 44 }
set_option maxHeartbeats 4000000 in
set_option maxRecDepth 100000 in
theorem c2_Machine_failsAt (l : Launch) (G : zG) (b0 : Nat) (b1 : Nat) (b2 : Nat) (b3 : Nat) (b4 : Nat) (b5 : Nat) (b6 : Nat) (b7 : Nat) (b8 : Nat) (b9 : Nat) (b10 : Nat) (b11 : Nat) (b12 : Nat) (b13 : Nat) (b14 : Nat) (b15 : Nat) (b16 : Nat)  : zM l G y_Machine_failsAt prog_4_method_15_code 7 (Option.some Jvm.ClassFile.FieldType.int) m_c2_Machine_failsAt [.ref b0, .ref b1, .int 0, .int 0, .ref b2] [(b2, .inr (6, [.int 0, .int 4, .int 2, .ref b3, .ref b4])), (b3, .inl (G.2 1, 8, .inr (.inl (fun _ => 0)))), (b0, .inr (5, [.int 1, .int 0, .ref b5, .ref b6, .ref b7, .ref b8, .ref b9, .ref b10, .int 0, .ref b11, .ref b12, .ref b13, .ref b14, .ref b15, .ref b16]))] (fun v w => (v = some (.int 0) ∧ w = [(b0, .inr (5, [.int 1, .int 0, .ref b5, .ref b6, .ref b7, .ref b8, .ref b9, .ref b10, .int 0, .ref b11, .ref b12, .ref b13, .ref b14, .ref b15, .ref b16])), (b2, .inr (6, [.int 0, .int 4, .int 2, .ref b3, .ref b4])), (b3, .inl (G.2 1, 8, .inr (.inl (fun _ => 0))))])) := by
  refine z_start (by decide +kernel) (Nat.le_of_ble_eq_true rfl) ?_
  intro p e s m below meth c A Z hr hnm hA hP hD hS ls hl
  have Z : zC p s m _ meth c prog_4_method_15_code 7 "TraceMachines$Machine" G := Z
  obtain ⟨hx, hb, hml, hown, hts, hK, hN, hlocks⟩ := id Z
  have hl : lv_has ls 7 [(0, .ref b0), (1, .ref b1), (2, .int 0), (3, .int 0), (4, .ref b2)] := hl
  refine lv_aload hx hb d_Machine_failsAt_0 (lv_at hl 4 rfl) ?_
  refine z_callV (index := 136) (As := []) (rest := []) (wr := [(b0, .inr (5, [.int 1, .int 0, .ref b5, .ref b6, .ref b7, .ref b8, .ref b9, .ref b10, .int 0, .ref b11, .ref b12, .ref b13, .ref b14, .ref b15, .ref b16]))]) Z (c1_Sets_clear l G (b2) (b3) (b4)) hl.1 q704 q705 q706 q7 q707 ⟨by decide, by decide, by show _ = some 0; decide +kernel⟩ ⟨Nat.le_of_ble_eq_true rfl, Nat.le_of_ble_eq_true rfl⟩ ⟨Nat.le_of_ble_eq_true rfl, Nat.le_of_ble_eq_true rfl⟩ rfl (Nat.le_of_ble_eq_true rfl) d_Machine_failsAt_2 hP hD hS hA 0 6 rfl rfl rfl [0, 1] [2] rfl rfl rfl rfl (by decide) (fun v w1 H locs hw_1 hP hD hS => ?_)
  obtain ⟨rfl, rfl⟩ := hw_1
  have hP : va_P G.1 classes [(b0, .inr (5, [.int 1, .int 0, .ref b5, .ref b6, .ref b7, .ref b8, .ref b9, .ref b10, .int 0, .ref b11, .ref b12, .ref b13, .ref b14, .ref b15, .ref b16])), (b2, .inr (6, [.int 0, .int 4, .int 2, .ref b3, .ref b4])), (b3, .inl (G.2 1, 8, .inr (.inl (fun _ => 0))))] H := hP
  have hD := z_tie hP hD rfl
  refine W.widen (k := 0) (n := 0) (Nat.le_of_ble_eq_true rfl) (Nat.le_of_ble_eq_true rfl) ?_
  refine lv_aload_n hx hb d_Machine_failsAt_5 rfl (lv_at hl 0 rfl) ?_
  refine va_get (D := G.1) (ci := 5) (v := .int 0) (C := R_Machine) (T := F_Machine) (N := 15) hx hb hts i_Machine hown hK hP 0 rfl rfl 1 (by decide) (hts _ q168) (fun _ h9 => h9) rfl d_Machine_failsAt_6 ?_
  refine lv_if_ne (tgt := 14) hx hb d_Machine_failsAt_9 (by decide) (fun hc => absurd hc (by decide +kernel)) (fun _ => ?_)
  refine lv_iconst (v := 0) hx hb d_Machine_failsAt_12 (by decide) ?_
  exact z_iret hx hb hr hlocks hP hD hS (Nat.le_of_ble_eq_true rfl) (Nat.le_of_ble_eq_true rfl) d_Machine_failsAt_13 ⟨rfl, rfl⟩
abbrev m_t_X_run : Room := { frames := 4, cells := 0, slots := 0, locals := 95 }
set_option maxHeartbeats 4000000 in
set_option maxRecDepth 100000 in
theorem t_X_run (l : Launch) (G : zG) (b0 : Nat) (p0 : Int32) (b2 : Nat) (b3 : Nat) (b4 : Nat) (b5 : Nat) (b6 : Nat) (b7 : Nat) (b8 : Nat) (b9 : Nat) (b10 : Nat) (b11 : Nat) (b12 : Nat) (b13 : Nat) (b14 : Nat) (b15 : Nat) (b16 : Nat) (b17 : Nat) (b18 : Nat) (b19 : Nat) (b20 : Nat) (b21 : Nat) (b22 : Nat) (b23 : Nat) (b24 : Nat) (b25 : Nat) (b26 : Nat) (b27 : Nat) (b28 : Nat) (b29 : Nat) (b30 : Nat) (b31 : Nat) (b32 : Nat) (b33 : Nat) (b34 : Nat) (b35 : Nat) (b36 : Nat) (b37 : Nat) (b38 : Nat) (b39 : Nat) (b40 : Nat) (b41 : Nat) (b42 : Nat) (b43 : Nat) (b44 : Nat) (b45 : Nat) (b46 : Nat) (b47 : Nat) (b48 : Nat) (b49 : Nat) (b50 : Nat) (b51 : Nat) (b52 : Nat) (b53 : Nat) (b54 : Nat) (b55 : Nat)  : zM l G y_X_run prog_1_method_13_code 4 (Option.some Jvm.ClassFile.FieldType.int) m_t_X_run [.ref b0, .int p0] [(b0, .inr (0, [.ref b2, .ref b3, .ref b4, .ref b5, .int 0, .int 0, .ref b6, .ref b7, .ref b8, .ref b9, .ref b10, .ref b11, .ref b12, .ref b13, .ref b14, .ref b15, .ref b16, .ref b17, .ref b18, .ref b19])), (b4, .inr (2, [.int 0, .int 1, .int 0, .ref b20, .ref b21, .ref b22])), (b2, .inr (1, [.int 0, .ref b23])), (b20, .inl (G.2 0, 20, .inl (fun _ => 0))), (b3, .inr (2, [.int 0, .int 1, .int 0, .ref b24, .ref b25, .ref b26])), (b9, .inl (G.2 6, 4, .inr (.inr (.inr (.inr (va_up (va_up (va_up (va_up (fun _ => none) 0 (some b27)) 1 (some b28)) 2 (some b29)) 3 (some b30))))))), (b7, .inr (3, [.int 0, .int 0, .int 0, .ref b31, .ref b32, .ref b33, .ref b34, .ref b35, .ref b36, .ref b37, .ref b38])), (b28, .inr (5, [.int 0, .int 0, .ref b39, .ref b40, .ref b41, .ref b42, .ref b43, .ref b44, .int 0, .ref b45, .ref b46, .ref b47, .ref b48, .ref b49, .ref b50])), (b8, .inr (4, [.ref b51, .ref b52, .ref b53])), (b53, .inl (G.2 0, 512, .inl (fun _ => 0))), (b44, .inl (G.2 1, 4, .inr (.inl (fun _ => 0)))), (b49, .inl (G.2 0, 242, .inl (fun _ => 0))), (b12, .inr (6, [.int 0, .int 4, .int 2, .ref b54, .ref b55])), (b54, .inl (G.2 1, 8, .inr (.inl (fun _ => 0)))), (b13, .inl (G.2 0, 3, .inl (fun _ => (-1))))] (fun v _ => v = some (.int (a_run p0))) := by
  refine z_start (by decide +kernel) (Nat.le_of_ble_eq_true rfl) ?_
  intro p e s m below meth c A Z hr hnm hA hP hD hS ls hl
  have Z : zC p s m _ meth c prog_1_method_13_code 4 "TraceMachines" G := Z
  obtain ⟨hx, hb, hml, hown, hts, hK, hN, hlocks⟩ := id Z
  have hl : lv_has ls 4 [(0, .ref b0), (1, .int p0)] := hl
  refine lv_aload_n hx hb d_X_run_0 rfl (lv_at hl 0 rfl) ?_
  refine va_get (D := G.1) (ci := 0) (v := .ref b4) (C := R_X) (T := F_X) (N := 20) hx hb hts i_X hown hK hP 0 rfl rfl 2 (by decide) (hts _ q419) (fun _ h9 => h9) rfl d_X_run_1 ?_
  refine lv_iconst (v := 0) hx hb d_X_run_4 (by decide) ?_
  refine va_put (D := G.1) (ci := 2) (v := .int 0) (ty := .int) (C := R_Traces) (T := F_Traces) (N := 6) hx hb hts i_Traces t_Traces t_Traces_ok n_Traces hown hK hP hD hS 1 rfl rfl 0 (by decide) (hts _ q58) (fun _ h9 => h9) rfl (by decide +kernel) rfl rfl (Nat.le_of_ble_eq_true rfl) d_X_run_5 (fun H locs hP hD hS => ?_)
  have hP : va_P G.1 classes [(b0, .inr (0, [.ref b2, .ref b3, .ref b4, .ref b5, .int 0, .int 0, .ref b6, .ref b7, .ref b8, .ref b9, .ref b10, .ref b11, .ref b12, .ref b13, .ref b14, .ref b15, .ref b16, .ref b17, .ref b18, .ref b19])), (b4, .inr (2, [.int 0, .int 1, .int 0, .ref b20, .ref b21, .ref b22])), (b2, .inr (1, [.int 0, .ref b23])), (b20, .inl (G.2 0, 20, .inl (fun _ => 0))), (b3, .inr (2, [.int 0, .int 1, .int 0, .ref b24, .ref b25, .ref b26])), (b9, .inl (G.2 6, 4, .inr (.inr (.inr (.inr (va_up (va_up (va_up (va_up (fun _ => none) 0 (some b27)) 1 (some b28)) 2 (some b29)) 3 (some b30))))))), (b7, .inr (3, [.int 0, .int 0, .int 0, .ref b31, .ref b32, .ref b33, .ref b34, .ref b35, .ref b36, .ref b37, .ref b38])), (b28, .inr (5, [.int 0, .int 0, .ref b39, .ref b40, .ref b41, .ref b42, .ref b43, .ref b44, .int 0, .ref b45, .ref b46, .ref b47, .ref b48, .ref b49, .ref b50])), (b8, .inr (4, [.ref b51, .ref b52, .ref b53])), (b53, .inl (G.2 0, 512, .inl (fun _ => 0))), (b44, .inl (G.2 1, 4, .inr (.inl (fun _ => 0)))), (b49, .inl (G.2 0, 242, .inl (fun _ => 0))), (b12, .inr (6, [.int 0, .int 4, .int 2, .ref b54, .ref b55])), (b54, .inl (G.2 1, 8, .inr (.inl (fun _ => 0)))), (b13, .inl (G.2 0, 3, .inl (fun _ => (-1))))] H := hP
  have hD := z_tie hP hD rfl
  refine lv_aload_n hx hb d_X_run_8 rfl (lv_at hl 0 rfl) ?_
  refine va_get (D := G.1) (ci := 0) (v := .ref b2) (C := R_X) (T := F_X) (N := 20) hx hb hts i_X hown hK hP 0 rfl rfl 0 (by decide) (hts _ q417) (fun _ h9 => h9) rfl d_X_run_9 ?_
  refine lv_aload_n hx hb d_X_run_12 rfl (lv_at hl 0 rfl) ?_
  refine va_get (D := G.1) (ci := 0) (v := .ref b4) (C := R_X) (T := F_X) (N := 20) hx hb hts i_X hown hK hP 0 rfl rfl 2 (by decide) (hts _ q419) (fun _ h9 => h9) rfl d_X_run_13 ?_
  refine lv_iconst (v := 1) hx hb d_X_run_16 (by decide) ?_
  refine z_callV (index := 133) (As := [.ref b4, .int 1]) (rest := []) (wr := [(b0, .inr (0, [.ref b2, .ref b3, .ref b4, .ref b5, .int 0, .int 0, .ref b6, .ref b7, .ref b8, .ref b9, .ref b10, .ref b11, .ref b12, .ref b13, .ref b14, .ref b15, .ref b16, .ref b17, .ref b18, .ref b19])), (b3, .inr (2, [.int 0, .int 1, .int 0, .ref b24, .ref b25, .ref b26])), (b9, .inl (G.2 6, 4, .inr (.inr (.inr (.inr (va_up (va_up (va_up (va_up (fun _ => none) 0 (some b27)) 1 (some b28)) 2 (some b29)) 3 (some b30))))))), (b7, .inr (3, [.int 0, .int 0, .int 0, .ref b31, .ref b32, .ref b33, .ref b34, .ref b35, .ref b36, .ref b37, .ref b38])), (b28, .inr (5, [.int 0, .int 0, .ref b39, .ref b40, .ref b41, .ref b42, .ref b43, .ref b44, .int 0, .ref b45, .ref b46, .ref b47, .ref b48, .ref b49, .ref b50])), (b8, .inr (4, [.ref b51, .ref b52, .ref b53])), (b53, .inl (G.2 0, 512, .inl (fun _ => 0))), (b44, .inl (G.2 1, 4, .inr (.inl (fun _ => 0)))), (b49, .inl (G.2 0, 242, .inl (fun _ => 0))), (b12, .inr (6, [.int 0, .int 4, .int 2, .ref b54, .ref b55])), (b54, .inl (G.2 1, 8, .inr (.inl (fun _ => 0)))), (b13, .inl (G.2 0, 3, .inl (fun _ => (-1))))]) Z (c2_Text_parse l G (b2) (b4) (b23) (b20) (b21) (b22)) hl.1 q505 q506 q507 q2 q508 ⟨by decide, by decide, by show _ = some 2; decide +kernel⟩ ⟨Nat.le_of_ble_eq_true rfl, Nat.le_of_ble_eq_true rfl⟩ ⟨Nat.le_of_ble_eq_true rfl, Nat.le_of_ble_eq_true rfl⟩ rfl (Nat.le_of_ble_eq_true rfl) d_X_run_17 hP hD hS hA 2 1 rfl rfl rfl [2, 1, 3] [0, 4, 5, 6, 7, 8, 9, 10, 11, 12, 13, 14] rfl rfl rfl rfl (by decide) (fun v w1 H locs hw_1 hP hD hS => ?_)
  obtain ⟨rfl, rfl⟩ := hw_1
  have hP : va_P G.1 classes [(b0, .inr (0, [.ref b2, .ref b3, .ref b4, .ref b5, .int 0, .int 0, .ref b6, .ref b7, .ref b8, .ref b9, .ref b10, .ref b11, .ref b12, .ref b13, .ref b14, .ref b15, .ref b16, .ref b17, .ref b18, .ref b19])), (b3, .inr (2, [.int 0, .int 1, .int 0, .ref b24, .ref b25, .ref b26])), (b9, .inl (G.2 6, 4, .inr (.inr (.inr (.inr (va_up (va_up (va_up (va_up (fun _ => none) 0 (some b27)) 1 (some b28)) 2 (some b29)) 3 (some b30))))))), (b7, .inr (3, [.int 0, .int 0, .int 0, .ref b31, .ref b32, .ref b33, .ref b34, .ref b35, .ref b36, .ref b37, .ref b38])), (b28, .inr (5, [.int 0, .int 0, .ref b39, .ref b40, .ref b41, .ref b42, .ref b43, .ref b44, .int 0, .ref b45, .ref b46, .ref b47, .ref b48, .ref b49, .ref b50])), (b8, .inr (4, [.ref b51, .ref b52, .ref b53])), (b53, .inl (G.2 0, 512, .inl (fun _ => 0))), (b44, .inl (G.2 1, 4, .inr (.inl (fun _ => 0)))), (b49, .inl (G.2 0, 242, .inl (fun _ => 0))), (b12, .inr (6, [.int 0, .int 4, .int 2, .ref b54, .ref b55])), (b54, .inl (G.2 1, 8, .inr (.inl (fun _ => 0)))), (b13, .inl (G.2 0, 3, .inl (fun _ => (-1)))), (b2, .inr (1, [.int 0, .ref b23])), (b4, .inr (2, [.int 1, .int 1, .int 0, .ref b20, .ref b21, .ref b22])), (b20, .inl (G.2 0, 20, .inl (upd (fun _ => 0) 0 0)))] H := hP
  have hD := z_tie hP hD rfl
  refine W.widen (k := 0) (n := 0) (Nat.le_of_ble_eq_true rfl) (Nat.le_of_ble_eq_true rfl) ?_
  refine lv_istore_n (lv' := [(2, .int (-1)), (0, .ref b0), (1, .int p0)]) hx hb d_X_run_20 rfl hl (by decide) rfl (fun ls hl => ?_)
  refine lv_aload_n hx hb d_X_run_21 rfl (lv_at hl 1 rfl) ?_
  refine va_get (D := G.1) (ci := 0) (v := .ref b2) (C := R_X) (T := F_X) (N := 20) hx hb hts i_X hown hK hP 0 rfl rfl 0 (by decide) (hts _ q417) (fun _ h9 => h9) rfl d_X_run_22 ?_
  refine lv_iconst (v := 0) hx hb d_X_run_25 (by decide) ?_
  refine z_callV (index := 126) (As := [.int 0]) (rest := []) (wr := [(b0, .inr (0, [.ref b2, .ref b3, .ref b4, .ref b5, .int 0, .int 0, .ref b6, .ref b7, .ref b8, .ref b9, .ref b10, .ref b11, .ref b12, .ref b13, .ref b14, .ref b15, .ref b16, .ref b17, .ref b18, .ref b19])), (b3, .inr (2, [.int 0, .int 1, .int 0, .ref b24, .ref b25, .ref b26])), (b9, .inl (G.2 6, 4, .inr (.inr (.inr (.inr (va_up (va_up (va_up (va_up (fun _ => none) 0 (some b27)) 1 (some b28)) 2 (some b29)) 3 (some b30))))))), (b7, .inr (3, [.int 0, .int 0, .int 0, .ref b31, .ref b32, .ref b33, .ref b34, .ref b35, .ref b36, .ref b37, .ref b38])), (b28, .inr (5, [.int 0, .int 0, .ref b39, .ref b40, .ref b41, .ref b42, .ref b43, .ref b44, .int 0, .ref b45, .ref b46, .ref b47, .ref b48, .ref b49, .ref b50])), (b8, .inr (4, [.ref b51, .ref b52, .ref b53])), (b53, .inl (G.2 0, 512, .inl (fun _ => 0))), (b44, .inl (G.2 1, 4, .inr (.inl (fun _ => 0)))), (b49, .inl (G.2 0, 242, .inl (fun _ => 0))), (b12, .inr (6, [.int 0, .int 4, .int 2, .ref b54, .ref b55])), (b54, .inl (G.2 1, 8, .inr (.inl (fun _ => 0)))), (b13, .inl (G.2 0, 3, .inl (fun _ => (-1)))), (b4, .inr (2, [.int 1, .int 1, .int 0, .ref b20, .ref b21, .ref b22])), (b20, .inl (G.2 0, 20, .inl (upd (fun _ => 0) 0 0)))]) Z (c1_Text_cut l G (b2) (0) (b23)) hl.1 q490 q491 q492 q2 q493 ⟨by decide, by decide, by show _ = some 1; decide +kernel⟩ ⟨Nat.le_of_ble_eq_true rfl, Nat.le_of_ble_eq_true rfl⟩ ⟨Nat.le_of_ble_eq_true rfl, Nat.le_of_ble_eq_true rfl⟩ rfl (Nat.le_of_ble_eq_true rfl) d_X_run_26 hP hD hS hA 12 1 rfl rfl rfl [12] [0, 1, 2, 3, 4, 5, 6, 7, 8, 9, 10, 11, 13, 14] rfl rfl rfl rfl (by decide) (fun v w1 H locs hw_2 hP hD hS => ?_)
  rcases hw_2 with ⟨rfl, rfl, hq_3⟩ | ⟨rfl, rfl, hq_4, hq_5⟩ | ⟨rfl, rfl, hq_6, hq_7⟩
  · exfalso; (try simp only [Int32.toInt_toInt64, li_0, li_0] at hq_3); omega
  · try simp only [Int32.toInt_toInt64, li_0, li_0] at hq_4
    try simp only [Int32.toInt_toInt64, li_0, li_0] at hq_5
    have hP : va_P G.1 classes [(b0, .inr (0, [.ref b2, .ref b3, .ref b4, .ref b5, .int 0, .int 0, .ref b6, .ref b7, .ref b8, .ref b9, .ref b10, .ref b11, .ref b12, .ref b13, .ref b14, .ref b15, .ref b16, .ref b17, .ref b18, .ref b19])), (b3, .inr (2, [.int 0, .int 1, .int 0, .ref b24, .ref b25, .ref b26])), (b9, .inl (G.2 6, 4, .inr (.inr (.inr (.inr (va_up (va_up (va_up (va_up (fun _ => none) 0 (some b27)) 1 (some b28)) 2 (some b29)) 3 (some b30))))))), (b7, .inr (3, [.int 0, .int 0, .int 0, .ref b31, .ref b32, .ref b33, .ref b34, .ref b35, .ref b36, .ref b37, .ref b38])), (b28, .inr (5, [.int 0, .int 0, .ref b39, .ref b40, .ref b41, .ref b42, .ref b43, .ref b44, .int 0, .ref b45, .ref b46, .ref b47, .ref b48, .ref b49, .ref b50])), (b8, .inr (4, [.ref b51, .ref b52, .ref b53])), (b53, .inl (G.2 0, 512, .inl (fun _ => 0))), (b44, .inl (G.2 1, 4, .inr (.inl (fun _ => 0)))), (b49, .inl (G.2 0, 242, .inl (fun _ => 0))), (b12, .inr (6, [.int 0, .int 4, .int 2, .ref b54, .ref b55])), (b54, .inl (G.2 1, 8, .inr (.inl (fun _ => 0)))), (b13, .inl (G.2 0, 3, .inl (fun _ => (-1)))), (b4, .inr (2, [.int 1, .int 1, .int 0, .ref b20, .ref b21, .ref b22])), (b20, .inl (G.2 0, 20, .inl (upd (fun _ => 0) 0 0))), (b2, .inr (1, [.int 0, .ref b23]))] H := hP
    have hD := z_tie hP hD rfl
    refine W.widen (k := 0) (n := 0) (Nat.le_of_ble_eq_true rfl) (Nat.le_of_ble_eq_true rfl) ?_
    refine lv_pop hx hb d_X_run_29 rfl ?_
    refine lv_iload_n hx hb d_X_run_30 rfl (lv_at hl 0 rfl) ?_
    refine lv_iconst (v := (-1)) hx hb d_X_run_31 (by decide) ?_
    refine lv_icmp_eq (tgt := 41) hx hb d_X_run_32 (by decide) (fun _ => ?_) (fun hc => absurd hc (by decide +kernel))
    refine lv_aload_n hx hb d_X_run_41 rfl (lv_at hl 1 rfl) ?_
    refine lv_aload_n hx hb d_X_run_42 rfl (lv_at hl 1 rfl) ?_
    refine va_get (D := G.1) (ci := 0) (v := .ref b3) (C := R_X) (T := F_X) (N := 20) hx hb hts i_X hown hK hP 0 rfl rfl 1 (by decide) (hts _ q418) (fun _ h9 => h9) rfl d_X_run_43 ?_
    refine va_get (D := G.1) (ci := 2) (v := .int 1) (C := R_Traces) (T := F_Traces) (N := 6) hx hb hts i_Traces hown hK hP 1 rfl rfl 1 (by decide) (hts _ q60) (fun _ h9 => h9) rfl d_X_run_46 ?_
    refine z_callV (index := 189) (As := [.int 1]) (rest := []) (wr := [(b12, .inr (6, [.int 0, .int 4, .int 2, .ref b54, .ref b55])), (b54, .inl (G.2 1, 8, .inr (.inl (fun _ => 0)))), (b13, .inl (G.2 0, 3, .inl (fun _ => (-1)))), (b4, .inr (2, [.int 1, .int 1, .int 0, .ref b20, .ref b21, .ref b22])), (b20, .inl (G.2 0, 20, .inl (upd (fun _ => 0) 0 0))), (b2, .inr (1, [.int 0, .ref b23]))]) Z (c1_X_machine l G (b0) (b2) (b3) (b4) (b5) (b6) (b7) (b8) (b9) (b10) (b11) (b12) (b13) (b14) (b15) (b16) (b17) (b18) (b19) (b27) (b28) (b29) (b30) (b31) (b32) (b33) (b34) (b35) (b36) (b37) (b38) (b24) (b25) (b26) (b39) (b40) (b41) (b42) (b43) (b44) (b45) (b46) (b47) (b48) (b49) (b50) (b51) (b52) (b53)) hl.1 q563 q565 qs2 q1 q566 ⟨by decide, by decide, by show _ = some 1; decide +kernel⟩ ⟨Nat.le_of_ble_eq_true rfl, Nat.le_of_ble_eq_true rfl⟩ ⟨Nat.le_of_ble_eq_true rfl, Nat.le_of_ble_eq_true rfl⟩ rfl (Nat.le_of_ble_eq_true rfl) d_X_run_49 hP hD hS hA 0 0 rfl rfl rfl [0, 2, 3, 1, 4, 5, 6, 7, 8] [9, 10, 11, 12, 13, 14] rfl rfl rfl rfl (by decide) (fun v w1 H locs hw_8 hP hD hS => ?_)
    obtain ⟨rfl, rfl⟩ := hw_8
    have hP : va_P G.1 classes [(b12, .inr (6, [.int 0, .int 4, .int 2, .ref b54, .ref b55])), (b54, .inl (G.2 1, 8, .inr (.inl (fun _ => 0)))), (b13, .inl (G.2 0, 3, .inl (fun _ => (-1)))), (b4, .inr (2, [.int 1, .int 1, .int 0, .ref b20, .ref b21, .ref b22])), (b20, .inl (G.2 0, 20, .inl (upd (fun _ => 0) 0 0))), (b2, .inr (1, [.int 0, .ref b23])), (b0, .inr (0, [.ref b2, .ref b3, .ref b4, .ref b5, .int 0, .int 0, .ref b6, .ref b7, .ref b8, .ref b9, .ref b10, .ref b11, .ref b12, .ref b13, .ref b14, .ref b15, .ref b16, .ref b17, .ref b18, .ref b19])), (b9, .inl (G.2 6, 4, .inr (.inr (.inr (.inr (va_up (va_up (va_up (va_up (fun _ => none) 0 (some b27)) 1 (some b28)) 2 (some b29)) 3 (some b30))))))), (b8, .inr (4, [.ref b51, .ref b52, .ref b53])), (b3, .inr (2, [.int 0, .int 1, .int 0, .ref b24, .ref b25, .ref b26])), (b53, .inl (G.2 0, 512, .inl (fun _ => (-1)))), (b44, .inl (G.2 1, 4, .inr (.inl (fun _ => 0)))), (b7, .inr (3, [.int 1, .int (-1), .int 0, .ref b31, .ref b32, .ref b33, .ref b34, .ref b35, .ref b36, .ref b37, .ref b38])), (b28, .inr (5, [.int 1, .int 0, .ref b39, .ref b40, .ref b41, .ref b42, .ref b43, .ref b44, .int 0, .ref b45, .ref b46, .ref b47, .ref b48, .ref b49, .ref b50])), (b49, .inl (G.2 0, 242, .inl (upd (fun _ => 0) 0 0)))] H := hP
    have hD := z_tie hP hD rfl
    refine W.widen (k := 0) (n := 0) (Nat.le_of_ble_eq_true rfl) (Nat.le_of_ble_eq_true rfl) ?_
    refine lv_aload_n hx hb d_X_run_52 rfl (lv_at hl 1 rfl) ?_
    refine va_get (D := G.1) (ci := 0) (v := .ref b4) (C := R_X) (T := F_X) (N := 20) hx hb hts i_X hown hK hP 6 rfl rfl 2 (by decide) (hts _ q419) (fun _ h9 => h9) rfl d_X_run_53 ?_
    refine lv_iconst (v := 0) hx hb d_X_run_56 (by decide) ?_
    refine lv_aload_n hx hb d_X_run_57 rfl (lv_at hl 1 rfl) ?_
    refine lv_iload_n hx hb d_X_run_58 rfl (lv_at hl 2 rfl) ?_
    refine z_callV (index := 244) (As := [.int p0]) (rest := [.int 0, .ref b4, .ref b28]) (wr := [(b12, .inr (6, [.int 0, .int 4, .int 2, .ref b54, .ref b55])), (b54, .inl (G.2 1, 8, .inr (.inl (fun _ => 0)))), (b13, .inl (G.2 0, 3, .inl (fun _ => (-1)))), (b4, .inr (2, [.int 1, .int 1, .int 0, .ref b20, .ref b21, .ref b22])), (b20, .inl (G.2 0, 20, .inl (upd (fun _ => 0) 0 0))), (b2, .inr (1, [.int 0, .ref b23])), (b9, .inl (G.2 6, 4, .inr (.inr (.inr (.inr (va_up (va_up (va_up (va_up (fun _ => none) 0 (some b27)) 1 (some b28)) 2 (some b29)) 3 (some b30))))))), (b8, .inr (4, [.ref b51, .ref b52, .ref b53])), (b53, .inl (G.2 0, 512, .inl (fun _ => (-1)))), (b44, .inl (G.2 1, 4, .inr (.inl (fun _ => 0)))), (b7, .inr (3, [.int 1, .int (-1), .int 0, .ref b31, .ref b32, .ref b33, .ref b34, .ref b35, .ref b36, .ref b37, .ref b38])), (b28, .inr (5, [.int 1, .int 0, .ref b39, .ref b40, .ref b41, .ref b42, .ref b43, .ref b44, .int 0, .ref b45, .ref b46, .ref b47, .ref b48, .ref b49, .ref b50])), (b49, .inl (G.2 0, 242, .inl (upd (fun _ => 0) 0 0)))]) Z (c1_X_slack l G (b0) (p0) (b2) (b3) (b4) (b5) (b6) (b7) (b8) (b9) (b10) (b11) (b12) (b13) (b14) (b15) (b16) (b17) (b18) (b19) (b24) (b25) (b26)) hl.1 q696 q698 qs15 q1 q699 ⟨by decide, by decide, by show _ = some 1; decide +kernel⟩ ⟨Nat.le_of_ble_eq_true rfl, Nat.le_of_ble_eq_true rfl⟩ ⟨Nat.le_of_ble_eq_true rfl, Nat.le_of_ble_eq_true rfl⟩ rfl (Nat.le_of_ble_eq_true rfl) d_X_run_59 hP hD hS hA 6 0 rfl rfl rfl [6, 9] [0, 1, 2, 3, 4, 5, 7, 8, 10, 11, 12, 13, 14] rfl rfl rfl rfl (by decide) (fun v w1 H locs hw_9 hP hD hS => ?_)
    rcases hw_9 with ⟨rfl, rfl, hq_10⟩ | ⟨rfl, rfl, hq_11⟩
    · try simp only [Int32.toInt_toInt64, li_0] at hq_10
      have hP : va_P G.1 classes [(b12, .inr (6, [.int 0, .int 4, .int 2, .ref b54, .ref b55])), (b54, .inl (G.2 1, 8, .inr (.inl (fun _ => 0)))), (b13, .inl (G.2 0, 3, .inl (fun _ => (-1)))), (b4, .inr (2, [.int 1, .int 1, .int 0, .ref b20, .ref b21, .ref b22])), (b20, .inl (G.2 0, 20, .inl (upd (fun _ => 0) 0 0))), (b2, .inr (1, [.int 0, .ref b23])), (b9, .inl (G.2 6, 4, .inr (.inr (.inr (.inr (va_up (va_up (va_up (va_up (fun _ => none) 0 (some b27)) 1 (some b28)) 2 (some b29)) 3 (some b30))))))), (b8, .inr (4, [.ref b51, .ref b52, .ref b53])), (b53, .inl (G.2 0, 512, .inl (fun _ => (-1)))), (b44, .inl (G.2 1, 4, .inr (.inl (fun _ => 0)))), (b7, .inr (3, [.int 1, .int (-1), .int 0, .ref b31, .ref b32, .ref b33, .ref b34, .ref b35, .ref b36, .ref b37, .ref b38])), (b28, .inr (5, [.int 1, .int 0, .ref b39, .ref b40, .ref b41, .ref b42, .ref b43, .ref b44, .int 0, .ref b45, .ref b46, .ref b47, .ref b48, .ref b49, .ref b50])), (b49, .inl (G.2 0, 242, .inl (upd (fun _ => 0) 0 0))), (b0, .inr (0, [.ref b2, .ref b3, .ref b4, .ref b5, .int 0, .int 0, .ref b6, .ref b7, .ref b8, .ref b9, .ref b10, .ref b11, .ref b12, .ref b13, .ref b14, .ref b15, .ref b16, .ref b17, .ref b18, .ref b19])), (b3, .inr (2, [.int 0, .int 1, .int 0, .ref b24, .ref b25, .ref b26]))] H := hP
      have hD := z_tie hP hD rfl
      refine W.widen (k := 0) (n := 0) (Nat.le_of_ble_eq_true rfl) (Nat.le_of_ble_eq_true rfl) ?_
      refine lv_aload_n hx hb d_X_run_62 rfl (lv_at hl 1 rfl) ?_
      refine va_get (D := G.1) (ci := 0) (v := .ref b12) (C := R_X) (T := F_X) (N := 20) hx hb hts i_X hown hK hP 13 rfl rfl 12 (by decide) (hts _ q429) (fun _ h9 => h9) rfl d_X_run_63 ?_
      refine z_callV (index := 248) (As := [.ref b4, .int 0, .int 100, .ref b12]) (rest := []) (wr := [(b13, .inl (G.2 0, 3, .inl (fun _ => (-1)))), (b4, .inr (2, [.int 1, .int 1, .int 0, .ref b20, .ref b21, .ref b22])), (b20, .inl (G.2 0, 20, .inl (upd (fun _ => 0) 0 0))), (b2, .inr (1, [.int 0, .ref b23])), (b9, .inl (G.2 6, 4, .inr (.inr (.inr (.inr (va_up (va_up (va_up (va_up (fun _ => none) 0 (some b27)) 1 (some b28)) 2 (some b29)) 3 (some b30))))))), (b8, .inr (4, [.ref b51, .ref b52, .ref b53])), (b53, .inl (G.2 0, 512, .inl (fun _ => (-1)))), (b44, .inl (G.2 1, 4, .inr (.inl (fun _ => 0)))), (b7, .inr (3, [.int 1, .int (-1), .int 0, .ref b31, .ref b32, .ref b33, .ref b34, .ref b35, .ref b36, .ref b37, .ref b38])), (b49, .inl (G.2 0, 242, .inl (upd (fun _ => 0) 0 0))), (b0, .inr (0, [.ref b2, .ref b3, .ref b4, .ref b5, .int 0, .int 0, .ref b6, .ref b7, .ref b8, .ref b9, .ref b10, .ref b11, .ref b12, .ref b13, .ref b14, .ref b15, .ref b16, .ref b17, .ref b18, .ref b19])), (b3, .inr (2, [.int 0, .int 1, .int 0, .ref b24, .ref b25, .ref b26]))]) Z (c1_Machine_failsAt l G (b28) (b4) (b12) (b54) (b55) (b39) (b40) (b41) (b42) (b43) (b44) (b45) (b46) (b47) (b48) (b49) (b50)) hl.1 q700 q701 q702 q6 q703 ⟨by decide, by decide, by show _ = some 4; decide +kernel⟩ ⟨Nat.le_of_ble_eq_true rfl, Nat.le_of_ble_eq_true rfl⟩ ⟨Nat.le_of_ble_eq_true rfl, Nat.le_of_ble_eq_true rfl⟩ rfl (Nat.le_of_ble_eq_true rfl) d_X_run_66 hP hD hS hA 11 5 rfl rfl rfl [0, 1, 11] [2, 3, 4, 5, 6, 7, 8, 9, 10, 12, 13, 14] rfl rfl rfl rfl (by decide) (fun v w1 H locs hw_12 hP hD hS => ?_)
      obtain ⟨rfl, rfl⟩ := hw_12
      have hP : va_P G.1 classes [(b13, .inl (G.2 0, 3, .inl (fun _ => (-1)))), (b4, .inr (2, [.int 1, .int 1, .int 0, .ref b20, .ref b21, .ref b22])), (b20, .inl (G.2 0, 20, .inl (upd (fun _ => 0) 0 0))), (b2, .inr (1, [.int 0, .ref b23])), (b9, .inl (G.2 6, 4, .inr (.inr (.inr (.inr (va_up (va_up (va_up (va_up (fun _ => none) 0 (some b27)) 1 (some b28)) 2 (some b29)) 3 (some b30))))))), (b8, .inr (4, [.ref b51, .ref b52, .ref b53])), (b53, .inl (G.2 0, 512, .inl (fun _ => (-1)))), (b44, .inl (G.2 1, 4, .inr (.inl (fun _ => 0)))), (b7, .inr (3, [.int 1, .int (-1), .int 0, .ref b31, .ref b32, .ref b33, .ref b34, .ref b35, .ref b36, .ref b37, .ref b38])), (b49, .inl (G.2 0, 242, .inl (upd (fun _ => 0) 0 0))), (b0, .inr (0, [.ref b2, .ref b3, .ref b4, .ref b5, .int 0, .int 0, .ref b6, .ref b7, .ref b8, .ref b9, .ref b10, .ref b11, .ref b12, .ref b13, .ref b14, .ref b15, .ref b16, .ref b17, .ref b18, .ref b19])), (b3, .inr (2, [.int 0, .int 1, .int 0, .ref b24, .ref b25, .ref b26])), (b28, .inr (5, [.int 1, .int 0, .ref b39, .ref b40, .ref b41, .ref b42, .ref b43, .ref b44, .int 0, .ref b45, .ref b46, .ref b47, .ref b48, .ref b49, .ref b50])), (b12, .inr (6, [.int 0, .int 4, .int 2, .ref b54, .ref b55])), (b54, .inl (G.2 1, 8, .inr (.inl (fun _ => 0))))] H := hP
      have hD := z_tie hP hD rfl
      refine W.widen (k := 0) (n := 0) (Nat.le_of_ble_eq_true rfl) (Nat.le_of_ble_eq_true rfl) ?_
      refine lv_istore_n (lv' := [(3, .int 0), (2, .int (-1)), (0, .ref b0), (1, .int p0)]) hx hb d_X_run_69 rfl hl (by decide) rfl (fun ls hl => ?_)
      refine lv_aload_n hx hb d_X_run_70 rfl (lv_at hl 2 rfl) ?_
      refine va_get (D := G.1) (ci := 0) (v := .ref b13) (C := R_X) (T := F_X) (N := 20) hx hb hts i_X hown hK hP 10 rfl rfl 13 (by decide) (hts _ q430) (fun _ h9 => h9) rfl d_X_run_71 ?_
      refine lv_iconst (v := 0) hx hb d_X_run_74 (by decide) ?_
      refine lv_iload_n hx hb d_X_run_75 rfl (lv_at hl 0 rfl) ?_
      refine va_iast hx hb hK hP hD hS 0 0 rfl rfl (i := 0) (z_in rfl) d_X_run_76 (fun H locs hP hD hS => ?_)
      have hP : va_P G.1 classes [(b13, .inl (G.2 0, 3, .inl (upd (fun _ => (-1)) 0 0))), (b4, .inr (2, [.int 1, .int 1, .int 0, .ref b20, .ref b21, .ref b22])), (b20, .inl (G.2 0, 20, .inl (upd (fun _ => 0) 0 0))), (b2, .inr (1, [.int 0, .ref b23])), (b9, .inl (G.2 6, 4, .inr (.inr (.inr (.inr (va_up (va_up (va_up (va_up (fun _ => none) 0 (some b27)) 1 (some b28)) 2 (some b29)) 3 (some b30))))))), (b8, .inr (4, [.ref b51, .ref b52, .ref b53])), (b53, .inl (G.2 0, 512, .inl (fun _ => (-1)))), (b44, .inl (G.2 1, 4, .inr (.inl (fun _ => 0)))), (b7, .inr (3, [.int 1, .int (-1), .int 0, .ref b31, .ref b32, .ref b33, .ref b34, .ref b35, .ref b36, .ref b37, .ref b38])), (b49, .inl (G.2 0, 242, .inl (upd (fun _ => 0) 0 0))), (b0, .inr (0, [.ref b2, .ref b3, .ref b4, .ref b5, .int 0, .int 0, .ref b6, .ref b7, .ref b8, .ref b9, .ref b10, .ref b11, .ref b12, .ref b13, .ref b14, .ref b15, .ref b16, .ref b17, .ref b18, .ref b19])), (b3, .inr (2, [.int 0, .int 1, .int 0, .ref b24, .ref b25, .ref b26])), (b28, .inr (5, [.int 1, .int 0, .ref b39, .ref b40, .ref b41, .ref b42, .ref b43, .ref b44, .int 0, .ref b45, .ref b46, .ref b47, .ref b48, .ref b49, .ref b50])), (b12, .inr (6, [.int 0, .int 4, .int 2, .ref b54, .ref b55])), (b54, .inl (G.2 1, 8, .inr (.inl (fun _ => 0))))] H := hP
      have hD := z_tie hP hD rfl
      refine lv_aload_n hx hb d_X_run_77 rfl (lv_at hl 2 rfl) ?_
      refine va_get (D := G.1) (ci := 0) (v := .ref b13) (C := R_X) (T := F_X) (N := 20) hx hb hts i_X hown hK hP 10 rfl rfl 13 (by decide) (hts _ q430) (fun _ h9 => h9) rfl d_X_run_78 ?_
      refine lv_iconst (v := 1) hx hb d_X_run_81 (by decide) ?_
      refine lv_aload_n hx hb d_X_run_82 rfl (lv_at hl 2 rfl) ?_
      refine va_get (D := G.1) (ci := 0) (v := .ref b12) (C := R_X) (T := F_X) (N := 20) hx hb hts i_X hown hK hP 10 rfl rfl 12 (by decide) (hts _ q429) (fun _ h9 => h9) rfl d_X_run_83 ?_
      refine lv_iconst (v := 0) hx hb d_X_run_86 (by decide) ?_
      refine z_callV (index := 252) (As := [.int 0]) (rest := [.int 1, .ref b13]) (wr := [(b13, .inl (G.2 0, 3, .inl (upd (fun _ => (-1)) 0 0))), (b4, .inr (2, [.int 1, .int 1, .int 0, .ref b20, .ref b21, .ref b22])), (b20, .inl (G.2 0, 20, .inl (upd (fun _ => 0) 0 0))), (b2, .inr (1, [.int 0, .ref b23])), (b9, .inl (G.2 6, 4, .inr (.inr (.inr (.inr (va_up (va_up (va_up (va_up (fun _ => none) 0 (some b27)) 1 (some b28)) 2 (some b29)) 3 (some b30))))))), (b8, .inr (4, [.ref b51, .ref b52, .ref b53])), (b53, .inl (G.2 0, 512, .inl (fun _ => (-1)))), (b44, .inl (G.2 1, 4, .inr (.inl (fun _ => 0)))), (b7, .inr (3, [.int 1, .int (-1), .int 0, .ref b31, .ref b32, .ref b33, .ref b34, .ref b35, .ref b36, .ref b37, .ref b38])), (b49, .inl (G.2 0, 242, .inl (upd (fun _ => 0) 0 0))), (b0, .inr (0, [.ref b2, .ref b3, .ref b4, .ref b5, .int 0, .int 0, .ref b6, .ref b7, .ref b8, .ref b9, .ref b10, .ref b11, .ref b12, .ref b13, .ref b14, .ref b15, .ref b16, .ref b17, .ref b18, .ref b19])), (b3, .inr (2, [.int 0, .int 1, .int 0, .ref b24, .ref b25, .ref b26])), (b28, .inr (5, [.int 1, .int 0, .ref b39, .ref b40, .ref b41, .ref b42, .ref b43, .ref b44, .int 0, .ref b45, .ref b46, .ref b47, .ref b48, .ref b49, .ref b50]))]) Z (c1_Sets_size l G (b12) (b54) (b55)) hl.1 q746 q747 q748 q7 q749 ⟨by decide, by decide, by show _ = some 1; decide +kernel⟩ ⟨Nat.le_of_ble_eq_true rfl, Nat.le_of_ble_eq_true rfl⟩ ⟨Nat.le_of_ble_eq_true rfl, Nat.le_of_ble_eq_true rfl⟩ rfl (Nat.le_of_ble_eq_true rfl) d_X_run_87 hP hD hS hA 13 6 rfl rfl rfl [13, 14] [0, 1, 2, 3, 4, 5, 6, 7, 8, 9, 10, 11, 12] rfl rfl rfl rfl (by decide) (fun v w1 H locs hw_13 hP hD hS => ?_)
      obtain ⟨rfl, rfl⟩ := hw_13
      have hP : va_P G.1 classes [(b13, .inl (G.2 0, 3, .inl (upd (fun _ => (-1)) 0 0))), (b4, .inr (2, [.int 1, .int 1, .int 0, .ref b20, .ref b21, .ref b22])), (b20, .inl (G.2 0, 20, .inl (upd (fun _ => 0) 0 0))), (b2, .inr (1, [.int 0, .ref b23])), (b9, .inl (G.2 6, 4, .inr (.inr (.inr (.inr (va_up (va_up (va_up (va_up (fun _ => none) 0 (some b27)) 1 (some b28)) 2 (some b29)) 3 (some b30))))))), (b8, .inr (4, [.ref b51, .ref b52, .ref b53])), (b53, .inl (G.2 0, 512, .inl (fun _ => (-1)))), (b44, .inl (G.2 1, 4, .inr (.inl (fun _ => 0)))), (b7, .inr (3, [.int 1, .int (-1), .int 0, .ref b31, .ref b32, .ref b33, .ref b34, .ref b35, .ref b36, .ref b37, .ref b38])), (b49, .inl (G.2 0, 242, .inl (upd (fun _ => 0) 0 0))), (b0, .inr (0, [.ref b2, .ref b3, .ref b4, .ref b5, .int 0, .int 0, .ref b6, .ref b7, .ref b8, .ref b9, .ref b10, .ref b11, .ref b12, .ref b13, .ref b14, .ref b15, .ref b16, .ref b17, .ref b18, .ref b19])), (b3, .inr (2, [.int 0, .int 1, .int 0, .ref b24, .ref b25, .ref b26])), (b28, .inr (5, [.int 1, .int 0, .ref b39, .ref b40, .ref b41, .ref b42, .ref b43, .ref b44, .int 0, .ref b45, .ref b46, .ref b47, .ref b48, .ref b49, .ref b50])), (b12, .inr (6, [.int 0, .int 4, .int 2, .ref b54, .ref b55])), (b54, .inl (G.2 1, 8, .inr (.inl (fun _ => 0))))] H := hP
      have hD := z_tie hP hD rfl
      refine W.widen (k := 0) (n := 0) (Nat.le_of_ble_eq_true rfl) (Nat.le_of_ble_eq_true rfl) ?_
      refine va_iast hx hb hK hP hD hS 0 0 rfl rfl (i := 1) (z_in rfl) d_X_run_90 (fun H locs hP hD hS => ?_)
      have hP : va_P G.1 classes [(b13, .inl (G.2 0, 3, .inl (upd (upd (fun _ => (-1)) 0 0) 1 0))), (b4, .inr (2, [.int 1, .int 1, .int 0, .ref b20, .ref b21, .ref b22])), (b20, .inl (G.2 0, 20, .inl (upd (fun _ => 0) 0 0))), (b2, .inr (1, [.int 0, .ref b23])), (b9, .inl (G.2 6, 4, .inr (.inr (.inr (.inr (va_up (va_up (va_up (va_up (fun _ => none) 0 (some b27)) 1 (some b28)) 2 (some b29)) 3 (some b30))))))), (b8, .inr (4, [.ref b51, .ref b52, .ref b53])), (b53, .inl (G.2 0, 512, .inl (fun _ => (-1)))), (b44, .inl (G.2 1, 4, .inr (.inl (fun _ => 0)))), (b7, .inr (3, [.int 1, .int (-1), .int 0, .ref b31, .ref b32, .ref b33, .ref b34, .ref b35, .ref b36, .ref b37, .ref b38])), (b49, .inl (G.2 0, 242, .inl (upd (fun _ => 0) 0 0))), (b0, .inr (0, [.ref b2, .ref b3, .ref b4, .ref b5, .int 0, .int 0, .ref b6, .ref b7, .ref b8, .ref b9, .ref b10, .ref b11, .ref b12, .ref b13, .ref b14, .ref b15, .ref b16, .ref b17, .ref b18, .ref b19])), (b3, .inr (2, [.int 0, .int 1, .int 0, .ref b24, .ref b25, .ref b26])), (b28, .inr (5, [.int 1, .int 0, .ref b39, .ref b40, .ref b41, .ref b42, .ref b43, .ref b44, .int 0, .ref b45, .ref b46, .ref b47, .ref b48, .ref b49, .ref b50])), (b12, .inr (6, [.int 0, .int 4, .int 2, .ref b54, .ref b55])), (b54, .inl (G.2 1, 8, .inr (.inl (fun _ => 0))))] H := hP
      have hD := z_tie hP hD rfl
      refine lv_aload_n hx hb d_X_run_91 rfl (lv_at hl 2 rfl) ?_
      refine va_get (D := G.1) (ci := 0) (v := .ref b13) (C := R_X) (T := F_X) (N := 20) hx hb hts i_X hown hK hP 10 rfl rfl 13 (by decide) (hts _ q430) (fun _ h9 => h9) rfl d_X_run_92 ?_
      refine lv_iconst (v := 2) hx hb d_X_run_95 (by decide) ?_
      refine lv_aload_n hx hb d_X_run_96 rfl (lv_at hl 2 rfl) ?_
      refine va_get (D := G.1) (ci := 0) (v := .ref b12) (C := R_X) (T := F_X) (N := 20) hx hb hts i_X hown hK hP 10 rfl rfl 12 (by decide) (hts _ q429) (fun _ h9 => h9) rfl d_X_run_97 ?_
      refine lv_iconst (v := 0) hx hb d_X_run_100 (by decide) ?_
      refine z_callV (index := 255) (As := [.int 0]) (rest := [.int 2, .ref b13]) (wr := [(b13, .inl (G.2 0, 3, .inl (upd (upd (fun _ => (-1)) 0 0) 1 0))), (b4, .inr (2, [.int 1, .int 1, .int 0, .ref b20, .ref b21, .ref b22])), (b20, .inl (G.2 0, 20, .inl (upd (fun _ => 0) 0 0))), (b2, .inr (1, [.int 0, .ref b23])), (b9, .inl (G.2 6, 4, .inr (.inr (.inr (.inr (va_up (va_up (va_up (va_up (fun _ => none) 0 (some b27)) 1 (some b28)) 2 (some b29)) 3 (some b30))))))), (b8, .inr (4, [.ref b51, .ref b52, .ref b53])), (b53, .inl (G.2 0, 512, .inl (fun _ => (-1)))), (b44, .inl (G.2 1, 4, .inr (.inl (fun _ => 0)))), (b7, .inr (3, [.int 1, .int (-1), .int 0, .ref b31, .ref b32, .ref b33, .ref b34, .ref b35, .ref b36, .ref b37, .ref b38])), (b49, .inl (G.2 0, 242, .inl (upd (fun _ => 0) 0 0))), (b0, .inr (0, [.ref b2, .ref b3, .ref b4, .ref b5, .int 0, .int 0, .ref b6, .ref b7, .ref b8, .ref b9, .ref b10, .ref b11, .ref b12, .ref b13, .ref b14, .ref b15, .ref b16, .ref b17, .ref b18, .ref b19])), (b3, .inr (2, [.int 0, .int 1, .int 0, .ref b24, .ref b25, .ref b26])), (b28, .inr (5, [.int 1, .int 0, .ref b39, .ref b40, .ref b41, .ref b42, .ref b43, .ref b44, .int 0, .ref b45, .ref b46, .ref b47, .ref b48, .ref b49, .ref b50]))]) Z (c1_Sets_least l G (b12) (b54) (b55)) hl.1 q750 q751 q752 q7 q753 ⟨by decide, by decide, by show _ = some 1; decide +kernel⟩ ⟨Nat.le_of_ble_eq_true rfl, Nat.le_of_ble_eq_true rfl⟩ ⟨Nat.le_of_ble_eq_true rfl, Nat.le_of_ble_eq_true rfl⟩ rfl (Nat.le_of_ble_eq_true rfl) d_X_run_101 hP hD hS hA 13 6 rfl rfl rfl [13, 14] [0, 1, 2, 3, 4, 5, 6, 7, 8, 9, 10, 11, 12] rfl rfl rfl rfl (by decide) (fun v w1 H locs hw_14 hP hD hS => ?_)
      obtain ⟨rfl, rfl⟩ := hw_14
      have hP : va_P G.1 classes [(b13, .inl (G.2 0, 3, .inl (upd (upd (fun _ => (-1)) 0 0) 1 0))), (b4, .inr (2, [.int 1, .int 1, .int 0, .ref b20, .ref b21, .ref b22])), (b20, .inl (G.2 0, 20, .inl (upd (fun _ => 0) 0 0))), (b2, .inr (1, [.int 0, .ref b23])), (b9, .inl (G.2 6, 4, .inr (.inr (.inr (.inr (va_up (va_up (va_up (va_up (fun _ => none) 0 (some b27)) 1 (some b28)) 2 (some b29)) 3 (some b30))))))), (b8, .inr (4, [.ref b51, .ref b52, .ref b53])), (b53, .inl (G.2 0, 512, .inl (fun _ => (-1)))), (b44, .inl (G.2 1, 4, .inr (.inl (fun _ => 0)))), (b7, .inr (3, [.int 1, .int (-1), .int 0, .ref b31, .ref b32, .ref b33, .ref b34, .ref b35, .ref b36, .ref b37, .ref b38])), (b49, .inl (G.2 0, 242, .inl (upd (fun _ => 0) 0 0))), (b0, .inr (0, [.ref b2, .ref b3, .ref b4, .ref b5, .int 0, .int 0, .ref b6, .ref b7, .ref b8, .ref b9, .ref b10, .ref b11, .ref b12, .ref b13, .ref b14, .ref b15, .ref b16, .ref b17, .ref b18, .ref b19])), (b3, .inr (2, [.int 0, .int 1, .int 0, .ref b24, .ref b25, .ref b26])), (b28, .inr (5, [.int 1, .int 0, .ref b39, .ref b40, .ref b41, .ref b42, .ref b43, .ref b44, .int 0, .ref b45, .ref b46, .ref b47, .ref b48, .ref b49, .ref b50])), (b12, .inr (6, [.int 0, .int 4, .int 2, .ref b54, .ref b55])), (b54, .inl (G.2 1, 8, .inr (.inl (fun _ => 0))))] H := hP
      have hD := z_tie hP hD rfl
      refine W.widen (k := 0) (n := 0) (Nat.le_of_ble_eq_true rfl) (Nat.le_of_ble_eq_true rfl) ?_
      refine va_iast hx hb hK hP hD hS 0 0 rfl rfl (i := 2) (z_in rfl) d_X_run_104 (fun H locs hP hD hS => ?_)
      have hP : va_P G.1 classes [(b13, .inl (G.2 0, 3, .inl (upd (upd (upd (fun _ => (-1)) 0 0) 1 0) 2 (-1)))), (b4, .inr (2, [.int 1, .int 1, .int 0, .ref b20, .ref b21, .ref b22])), (b20, .inl (G.2 0, 20, .inl (upd (fun _ => 0) 0 0))), (b2, .inr (1, [.int 0, .ref b23])), (b9, .inl (G.2 6, 4, .inr (.inr (.inr (.inr (va_up (va_up (va_up (va_up (fun _ => none) 0 (some b27)) 1 (some b28)) 2 (some b29)) 3 (some b30))))))), (b8, .inr (4, [.ref b51, .ref b52, .ref b53])), (b53, .inl (G.2 0, 512, .inl (fun _ => (-1)))), (b44, .inl (G.2 1, 4, .inr (.inl (fun _ => 0)))), (b7, .inr (3, [.int 1, .int (-1), .int 0, .ref b31, .ref b32, .ref b33, .ref b34, .ref b35, .ref b36, .ref b37, .ref b38])), (b49, .inl (G.2 0, 242, .inl (upd (fun _ => 0) 0 0))), (b0, .inr (0, [.ref b2, .ref b3, .ref b4, .ref b5, .int 0, .int 0, .ref b6, .ref b7, .ref b8, .ref b9, .ref b10, .ref b11, .ref b12, .ref b13, .ref b14, .ref b15, .ref b16, .ref b17, .ref b18, .ref b19])), (b3, .inr (2, [.int 0, .int 1, .int 0, .ref b24, .ref b25, .ref b26])), (b28, .inr (5, [.int 1, .int 0, .ref b39, .ref b40, .ref b41, .ref b42, .ref b43, .ref b44, .int 0, .ref b45, .ref b46, .ref b47, .ref b48, .ref b49, .ref b50])), (b12, .inr (6, [.int 0, .int 4, .int 2, .ref b54, .ref b55])), (b54, .inl (G.2 1, 8, .inr (.inl (fun _ => 0))))] H := hP
      have hD := z_tie hP hD rfl
      refine lv_iload_n hx hb d_X_run_105 rfl (lv_at hl 0 rfl) ?_
      refine lv_iconst (v := (-1)) hx hb d_X_run_106 (by decide) ?_
      refine lv_icmp_ne (tgt := 114) hx hb d_X_run_107 (by decide) (fun _ => ?_) (fun hc => absurd hc (by decide +kernel))
      refine lv_iconst (v := 0) hx hb d_X_run_114 (by decide) ?_
      exact z_iret hx hb hr hlocks hP hD hS (Nat.le_of_ble_eq_true rfl) (Nat.le_of_ble_eq_true rfl) d_X_run_115 (congrArg (fun z => some (Value.int z)) (by unfold a_run; (first | rfl | (repeat (first | rw [if_pos (by omega)] | rw [if_neg (by omega)])))))
    · try simp only [Int32.toInt_toInt64, li_0] at hq_11
      have hP : va_P G.1 classes [(b12, .inr (6, [.int 0, .int 4, .int 2, .ref b54, .ref b55])), (b54, .inl (G.2 1, 8, .inr (.inl (fun _ => 0)))), (b13, .inl (G.2 0, 3, .inl (fun _ => (-1)))), (b4, .inr (2, [.int 1, .int 1, .int 0, .ref b20, .ref b21, .ref b22])), (b20, .inl (G.2 0, 20, .inl (upd (fun _ => 0) 0 0))), (b2, .inr (1, [.int 0, .ref b23])), (b9, .inl (G.2 6, 4, .inr (.inr (.inr (.inr (va_up (va_up (va_up (va_up (fun _ => none) 0 (some b27)) 1 (some b28)) 2 (some b29)) 3 (some b30))))))), (b8, .inr (4, [.ref b51, .ref b52, .ref b53])), (b53, .inl (G.2 0, 512, .inl (fun _ => (-1)))), (b44, .inl (G.2 1, 4, .inr (.inl (fun _ => 0)))), (b7, .inr (3, [.int 1, .int (-1), .int 0, .ref b31, .ref b32, .ref b33, .ref b34, .ref b35, .ref b36, .ref b37, .ref b38])), (b28, .inr (5, [.int 1, .int 0, .ref b39, .ref b40, .ref b41, .ref b42, .ref b43, .ref b44, .int 0, .ref b45, .ref b46, .ref b47, .ref b48, .ref b49, .ref b50])), (b49, .inl (G.2 0, 242, .inl (upd (fun _ => 0) 0 0))), (b0, .inr (0, [.ref b2, .ref b3, .ref b4, .ref b5, .int 0, .int 0, .ref b6, .ref b7, .ref b8, .ref b9, .ref b10, .ref b11, .ref b12, .ref b13, .ref b14, .ref b15, .ref b16, .ref b17, .ref b18, .ref b19])), (b3, .inr (2, [.int 0, .int 1, .int 0, .ref b24, .ref b25, .ref b26]))] H := hP
      have hD := z_tie hP hD rfl
      refine W.widen (k := 0) (n := 0) (Nat.le_of_ble_eq_true rfl) (Nat.le_of_ble_eq_true rfl) ?_
      refine lv_aload_n hx hb d_X_run_62 rfl (lv_at hl 1 rfl) ?_
      refine va_get (D := G.1) (ci := 0) (v := .ref b12) (C := R_X) (T := F_X) (N := 20) hx hb hts i_X hown hK hP 13 rfl rfl 12 (by decide) (hts _ q429) (fun _ h9 => h9) rfl d_X_run_63 ?_
      refine z_callV (index := 248) (As := [.ref b4, .int 0, .int 0, .ref b12]) (rest := []) (wr := [(b13, .inl (G.2 0, 3, .inl (fun _ => (-1)))), (b4, .inr (2, [.int 1, .int 1, .int 0, .ref b20, .ref b21, .ref b22])), (b20, .inl (G.2 0, 20, .inl (upd (fun _ => 0) 0 0))), (b2, .inr (1, [.int 0, .ref b23])), (b9, .inl (G.2 6, 4, .inr (.inr (.inr (.inr (va_up (va_up (va_up (va_up (fun _ => none) 0 (some b27)) 1 (some b28)) 2 (some b29)) 3 (some b30))))))), (b8, .inr (4, [.ref b51, .ref b52, .ref b53])), (b53, .inl (G.2 0, 512, .inl (fun _ => (-1)))), (b44, .inl (G.2 1, 4, .inr (.inl (fun _ => 0)))), (b7, .inr (3, [.int 1, .int (-1), .int 0, .ref b31, .ref b32, .ref b33, .ref b34, .ref b35, .ref b36, .ref b37, .ref b38])), (b49, .inl (G.2 0, 242, .inl (upd (fun _ => 0) 0 0))), (b0, .inr (0, [.ref b2, .ref b3, .ref b4, .ref b5, .int 0, .int 0, .ref b6, .ref b7, .ref b8, .ref b9, .ref b10, .ref b11, .ref b12, .ref b13, .ref b14, .ref b15, .ref b16, .ref b17, .ref b18, .ref b19])), (b3, .inr (2, [.int 0, .int 1, .int 0, .ref b24, .ref b25, .ref b26]))]) Z (c2_Machine_failsAt l G (b28) (b4) (b12) (b54) (b55) (b39) (b40) (b41) (b42) (b43) (b44) (b45) (b46) (b47) (b48) (b49) (b50)) hl.1 q700 q701 q702 q6 q703 ⟨by decide, by decide, by show _ = some 4; decide +kernel⟩ ⟨Nat.le_of_ble_eq_true rfl, Nat.le_of_ble_eq_true rfl⟩ ⟨Nat.le_of_ble_eq_true rfl, Nat.le_of_ble_eq_true rfl⟩ rfl (Nat.le_of_ble_eq_true rfl) d_X_run_66 hP hD hS hA 11 5 rfl rfl rfl [0, 1, 11] [2, 3, 4, 5, 6, 7, 8, 9, 10, 12, 13, 14] rfl rfl rfl rfl (by decide) (fun v w1 H locs hw_15 hP hD hS => ?_)
      obtain ⟨rfl, rfl⟩ := hw_15
      have hP : va_P G.1 classes [(b13, .inl (G.2 0, 3, .inl (fun _ => (-1)))), (b4, .inr (2, [.int 1, .int 1, .int 0, .ref b20, .ref b21, .ref b22])), (b20, .inl (G.2 0, 20, .inl (upd (fun _ => 0) 0 0))), (b2, .inr (1, [.int 0, .ref b23])), (b9, .inl (G.2 6, 4, .inr (.inr (.inr (.inr (va_up (va_up (va_up (va_up (fun _ => none) 0 (some b27)) 1 (some b28)) 2 (some b29)) 3 (some b30))))))), (b8, .inr (4, [.ref b51, .ref b52, .ref b53])), (b53, .inl (G.2 0, 512, .inl (fun _ => (-1)))), (b44, .inl (G.2 1, 4, .inr (.inl (fun _ => 0)))), (b7, .inr (3, [.int 1, .int (-1), .int 0, .ref b31, .ref b32, .ref b33, .ref b34, .ref b35, .ref b36, .ref b37, .ref b38])), (b49, .inl (G.2 0, 242, .inl (upd (fun _ => 0) 0 0))), (b0, .inr (0, [.ref b2, .ref b3, .ref b4, .ref b5, .int 0, .int 0, .ref b6, .ref b7, .ref b8, .ref b9, .ref b10, .ref b11, .ref b12, .ref b13, .ref b14, .ref b15, .ref b16, .ref b17, .ref b18, .ref b19])), (b3, .inr (2, [.int 0, .int 1, .int 0, .ref b24, .ref b25, .ref b26])), (b28, .inr (5, [.int 1, .int 0, .ref b39, .ref b40, .ref b41, .ref b42, .ref b43, .ref b44, .int 0, .ref b45, .ref b46, .ref b47, .ref b48, .ref b49, .ref b50])), (b12, .inr (6, [.int 0, .int 4, .int 2, .ref b54, .ref b55])), (b54, .inl (G.2 1, 8, .inr (.inl (fun _ => 0))))] H := hP
      have hD := z_tie hP hD rfl
      refine W.widen (k := 0) (n := 0) (Nat.le_of_ble_eq_true rfl) (Nat.le_of_ble_eq_true rfl) ?_
      refine lv_istore_n (lv' := [(3, .int 0), (2, .int (-1)), (0, .ref b0), (1, .int p0)]) hx hb d_X_run_69 rfl hl (by decide) rfl (fun ls hl => ?_)
      refine lv_aload_n hx hb d_X_run_70 rfl (lv_at hl 2 rfl) ?_
      refine va_get (D := G.1) (ci := 0) (v := .ref b13) (C := R_X) (T := F_X) (N := 20) hx hb hts i_X hown hK hP 10 rfl rfl 13 (by decide) (hts _ q430) (fun _ h9 => h9) rfl d_X_run_71 ?_
      refine lv_iconst (v := 0) hx hb d_X_run_74 (by decide) ?_
      refine lv_iload_n hx hb d_X_run_75 rfl (lv_at hl 0 rfl) ?_
      refine va_iast hx hb hK hP hD hS 0 0 rfl rfl (i := 0) (z_in rfl) d_X_run_76 (fun H locs hP hD hS => ?_)
      have hP : va_P G.1 classes [(b13, .inl (G.2 0, 3, .inl (upd (fun _ => (-1)) 0 0))), (b4, .inr (2, [.int 1, .int 1, .int 0, .ref b20, .ref b21, .ref b22])), (b20, .inl (G.2 0, 20, .inl (upd (fun _ => 0) 0 0))), (b2, .inr (1, [.int 0, .ref b23])), (b9, .inl (G.2 6, 4, .inr (.inr (.inr (.inr (va_up (va_up (va_up (va_up (fun _ => none) 0 (some b27)) 1 (some b28)) 2 (some b29)) 3 (some b30))))))), (b8, .inr (4, [.ref b51, .ref b52, .ref b53])), (b53, .inl (G.2 0, 512, .inl (fun _ => (-1)))), (b44, .inl (G.2 1, 4, .inr (.inl (fun _ => 0)))), (b7, .inr (3, [.int 1, .int (-1), .int 0, .ref b31, .ref b32, .ref b33, .ref b34, .ref b35, .ref b36, .ref b37, .ref b38])), (b49, .inl (G.2 0, 242, .inl (upd (fun _ => 0) 0 0))), (b0, .inr (0, [.ref b2, .ref b3, .ref b4, .ref b5, .int 0, .int 0, .ref b6, .ref b7, .ref b8, .ref b9, .ref b10, .ref b11, .ref b12, .ref b13, .ref b14, .ref b15, .ref b16, .ref b17, .ref b18, .ref b19])), (b3, .inr (2, [.int 0, .int 1, .int 0, .ref b24, .ref b25, .ref b26])), (b28, .inr (5, [.int 1, .int 0, .ref b39, .ref b40, .ref b41, .ref b42, .ref b43, .ref b44, .int 0, .ref b45, .ref b46, .ref b47, .ref b48, .ref b49, .ref b50])), (b12, .inr (6, [.int 0, .int 4, .int 2, .ref b54, .ref b55])), (b54, .inl (G.2 1, 8, .inr (.inl (fun _ => 0))))] H := hP
      have hD := z_tie hP hD rfl
      refine lv_aload_n hx hb d_X_run_77 rfl (lv_at hl 2 rfl) ?_
      refine va_get (D := G.1) (ci := 0) (v := .ref b13) (C := R_X) (T := F_X) (N := 20) hx hb hts i_X hown hK hP 10 rfl rfl 13 (by decide) (hts _ q430) (fun _ h9 => h9) rfl d_X_run_78 ?_
      refine lv_iconst (v := 1) hx hb d_X_run_81 (by decide) ?_
      refine lv_aload_n hx hb d_X_run_82 rfl (lv_at hl 2 rfl) ?_
      refine va_get (D := G.1) (ci := 0) (v := .ref b12) (C := R_X) (T := F_X) (N := 20) hx hb hts i_X hown hK hP 10 rfl rfl 12 (by decide) (hts _ q429) (fun _ h9 => h9) rfl d_X_run_83 ?_
      refine lv_iconst (v := 0) hx hb d_X_run_86 (by decide) ?_
      refine z_callV (index := 252) (As := [.int 0]) (rest := [.int 1, .ref b13]) (wr := [(b13, .inl (G.2 0, 3, .inl (upd (fun _ => (-1)) 0 0))), (b4, .inr (2, [.int 1, .int 1, .int 0, .ref b20, .ref b21, .ref b22])), (b20, .inl (G.2 0, 20, .inl (upd (fun _ => 0) 0 0))), (b2, .inr (1, [.int 0, .ref b23])), (b9, .inl (G.2 6, 4, .inr (.inr (.inr (.inr (va_up (va_up (va_up (va_up (fun _ => none) 0 (some b27)) 1 (some b28)) 2 (some b29)) 3 (some b30))))))), (b8, .inr (4, [.ref b51, .ref b52, .ref b53])), (b53, .inl (G.2 0, 512, .inl (fun _ => (-1)))), (b44, .inl (G.2 1, 4, .inr (.inl (fun _ => 0)))), (b7, .inr (3, [.int 1, .int (-1), .int 0, .ref b31, .ref b32, .ref b33, .ref b34, .ref b35, .ref b36, .ref b37, .ref b38])), (b49, .inl (G.2 0, 242, .inl (upd (fun _ => 0) 0 0))), (b0, .inr (0, [.ref b2, .ref b3, .ref b4, .ref b5, .int 0, .int 0, .ref b6, .ref b7, .ref b8, .ref b9, .ref b10, .ref b11, .ref b12, .ref b13, .ref b14, .ref b15, .ref b16, .ref b17, .ref b18, .ref b19])), (b3, .inr (2, [.int 0, .int 1, .int 0, .ref b24, .ref b25, .ref b26])), (b28, .inr (5, [.int 1, .int 0, .ref b39, .ref b40, .ref b41, .ref b42, .ref b43, .ref b44, .int 0, .ref b45, .ref b46, .ref b47, .ref b48, .ref b49, .ref b50]))]) Z (c1_Sets_size l G (b12) (b54) (b55)) hl.1 q746 q747 q748 q7 q749 ⟨by decide, by decide, by show _ = some 1; decide +kernel⟩ ⟨Nat.le_of_ble_eq_true rfl, Nat.le_of_ble_eq_true rfl⟩ ⟨Nat.le_of_ble_eq_true rfl, Nat.le_of_ble_eq_true rfl⟩ rfl (Nat.le_of_ble_eq_true rfl) d_X_run_87 hP hD hS hA 13 6 rfl rfl rfl [13, 14] [0, 1, 2, 3, 4, 5, 6, 7, 8, 9, 10, 11, 12] rfl rfl rfl rfl (by decide) (fun v w1 H locs hw_16 hP hD hS => ?_)
      obtain ⟨rfl, rfl⟩ := hw_16
      have hP : va_P G.1 classes [(b13, .inl (G.2 0, 3, .inl (upd (fun _ => (-1)) 0 0))), (b4, .inr (2, [.int 1, .int 1, .int 0, .ref b20, .ref b21, .ref b22])), (b20, .inl (G.2 0, 20, .inl (upd (fun _ => 0) 0 0))), (b2, .inr (1, [.int 0, .ref b23])), (b9, .inl (G.2 6, 4, .inr (.inr (.inr (.inr (va_up (va_up (va_up (va_up (fun _ => none) 0 (some b27)) 1 (some b28)) 2 (some b29)) 3 (some b30))))))), (b8, .inr (4, [.ref b51, .ref b52, .ref b53])), (b53, .inl (G.2 0, 512, .inl (fun _ => (-1)))), (b44, .inl (G.2 1, 4, .inr (.inl (fun _ => 0)))), (b7, .inr (3, [.int 1, .int (-1), .int 0, .ref b31, .ref b32, .ref b33, .ref b34, .ref b35, .ref b36, .ref b37, .ref b38])), (b49, .inl (G.2 0, 242, .inl (upd (fun _ => 0) 0 0))), (b0, .inr (0, [.ref b2, .ref b3, .ref b4, .ref b5, .int 0, .int 0, .ref b6, .ref b7, .ref b8, .ref b9, .ref b10, .ref b11, .ref b12, .ref b13, .ref b14, .ref b15, .ref b16, .ref b17, .ref b18, .ref b19])), (b3, .inr (2, [.int 0, .int 1, .int 0, .ref b24, .ref b25, .ref b26])), (b28, .inr (5, [.int 1, .int 0, .ref b39, .ref b40, .ref b41, .ref b42, .ref b43, .ref b44, .int 0, .ref b45, .ref b46, .ref b47, .ref b48, .ref b49, .ref b50])), (b12, .inr (6, [.int 0, .int 4, .int 2, .ref b54, .ref b55])), (b54, .inl (G.2 1, 8, .inr (.inl (fun _ => 0))))] H := hP
      have hD := z_tie hP hD rfl
      refine W.widen (k := 0) (n := 0) (Nat.le_of_ble_eq_true rfl) (Nat.le_of_ble_eq_true rfl) ?_
      refine va_iast hx hb hK hP hD hS 0 0 rfl rfl (i := 1) (z_in rfl) d_X_run_90 (fun H locs hP hD hS => ?_)
      have hP : va_P G.1 classes [(b13, .inl (G.2 0, 3, .inl (upd (upd (fun _ => (-1)) 0 0) 1 0))), (b4, .inr (2, [.int 1, .int 1, .int 0, .ref b20, .ref b21, .ref b22])), (b20, .inl (G.2 0, 20, .inl (upd (fun _ => 0) 0 0))), (b2, .inr (1, [.int 0, .ref b23])), (b9, .inl (G.2 6, 4, .inr (.inr (.inr (.inr (va_up (va_up (va_up (va_up (fun _ => none) 0 (some b27)) 1 (some b28)) 2 (some b29)) 3 (some b30))))))), (b8, .inr (4, [.ref b51, .ref b52, .ref b53])), (b53, .inl (G.2 0, 512, .inl (fun _ => (-1)))), (b44, .inl (G.2 1, 4, .inr (.inl (fun _ => 0)))), (b7, .inr (3, [.int 1, .int (-1), .int 0, .ref b31, .ref b32, .ref b33, .ref b34, .ref b35, .ref b36, .ref b37, .ref b38])), (b49, .inl (G.2 0, 242, .inl (upd (fun _ => 0) 0 0))), (b0, .inr (0, [.ref b2, .ref b3, .ref b4, .ref b5, .int 0, .int 0, .ref b6, .ref b7, .ref b8, .ref b9, .ref b10, .ref b11, .ref b12, .ref b13, .ref b14, .ref b15, .ref b16, .ref b17, .ref b18, .ref b19])), (b3, .inr (2, [.int 0, .int 1, .int 0, .ref b24, .ref b25, .ref b26])), (b28, .inr (5, [.int 1, .int 0, .ref b39, .ref b40, .ref b41, .ref b42, .ref b43, .ref b44, .int 0, .ref b45, .ref b46, .ref b47, .ref b48, .ref b49, .ref b50])), (b12, .inr (6, [.int 0, .int 4, .int 2, .ref b54, .ref b55])), (b54, .inl (G.2 1, 8, .inr (.inl (fun _ => 0))))] H := hP
      have hD := z_tie hP hD rfl
      refine lv_aload_n hx hb d_X_run_91 rfl (lv_at hl 2 rfl) ?_
      refine va_get (D := G.1) (ci := 0) (v := .ref b13) (C := R_X) (T := F_X) (N := 20) hx hb hts i_X hown hK hP 10 rfl rfl 13 (by decide) (hts _ q430) (fun _ h9 => h9) rfl d_X_run_92 ?_
      refine lv_iconst (v := 2) hx hb d_X_run_95 (by decide) ?_
      refine lv_aload_n hx hb d_X_run_96 rfl (lv_at hl 2 rfl) ?_
      refine va_get (D := G.1) (ci := 0) (v := .ref b12) (C := R_X) (T := F_X) (N := 20) hx hb hts i_X hown hK hP 10 rfl rfl 12 (by decide) (hts _ q429) (fun _ h9 => h9) rfl d_X_run_97 ?_
      refine lv_iconst (v := 0) hx hb d_X_run_100 (by decide) ?_
      refine z_callV (index := 255) (As := [.int 0]) (rest := [.int 2, .ref b13]) (wr := [(b13, .inl (G.2 0, 3, .inl (upd (upd (fun _ => (-1)) 0 0) 1 0))), (b4, .inr (2, [.int 1, .int 1, .int 0, .ref b20, .ref b21, .ref b22])), (b20, .inl (G.2 0, 20, .inl (upd (fun _ => 0) 0 0))), (b2, .inr (1, [.int 0, .ref b23])), (b9, .inl (G.2 6, 4, .inr (.inr (.inr (.inr (va_up (va_up (va_up (va_up (fun _ => none) 0 (some b27)) 1 (some b28)) 2 (some b29)) 3 (some b30))))))), (b8, .inr (4, [.ref b51, .ref b52, .ref b53])), (b53, .inl (G.2 0, 512, .inl (fun _ => (-1)))), (b44, .inl (G.2 1, 4, .inr (.inl (fun _ => 0)))), (b7, .inr (3, [.int 1, .int (-1), .int 0, .ref b31, .ref b32, .ref b33, .ref b34, .ref b35, .ref b36, .ref b37, .ref b38])), (b49, .inl (G.2 0, 242, .inl (upd (fun _ => 0) 0 0))), (b0, .inr (0, [.ref b2, .ref b3, .ref b4, .ref b5, .int 0, .int 0, .ref b6, .ref b7, .ref b8, .ref b9, .ref b10, .ref b11, .ref b12, .ref b13, .ref b14, .ref b15, .ref b16, .ref b17, .ref b18, .ref b19])), (b3, .inr (2, [.int 0, .int 1, .int 0, .ref b24, .ref b25, .ref b26])), (b28, .inr (5, [.int 1, .int 0, .ref b39, .ref b40, .ref b41, .ref b42, .ref b43, .ref b44, .int 0, .ref b45, .ref b46, .ref b47, .ref b48, .ref b49, .ref b50]))]) Z (c1_Sets_least l G (b12) (b54) (b55)) hl.1 q750 q751 q752 q7 q753 ⟨by decide, by decide, by show _ = some 1; decide +kernel⟩ ⟨Nat.le_of_ble_eq_true rfl, Nat.le_of_ble_eq_true rfl⟩ ⟨Nat.le_of_ble_eq_true rfl, Nat.le_of_ble_eq_true rfl⟩ rfl (Nat.le_of_ble_eq_true rfl) d_X_run_101 hP hD hS hA 13 6 rfl rfl rfl [13, 14] [0, 1, 2, 3, 4, 5, 6, 7, 8, 9, 10, 11, 12] rfl rfl rfl rfl (by decide) (fun v w1 H locs hw_17 hP hD hS => ?_)
      obtain ⟨rfl, rfl⟩ := hw_17
      have hP : va_P G.1 classes [(b13, .inl (G.2 0, 3, .inl (upd (upd (fun _ => (-1)) 0 0) 1 0))), (b4, .inr (2, [.int 1, .int 1, .int 0, .ref b20, .ref b21, .ref b22])), (b20, .inl (G.2 0, 20, .inl (upd (fun _ => 0) 0 0))), (b2, .inr (1, [.int 0, .ref b23])), (b9, .inl (G.2 6, 4, .inr (.inr (.inr (.inr (va_up (va_up (va_up (va_up (fun _ => none) 0 (some b27)) 1 (some b28)) 2 (some b29)) 3 (some b30))))))), (b8, .inr (4, [.ref b51, .ref b52, .ref b53])), (b53, .inl (G.2 0, 512, .inl (fun _ => (-1)))), (b44, .inl (G.2 1, 4, .inr (.inl (fun _ => 0)))), (b7, .inr (3, [.int 1, .int (-1), .int 0, .ref b31, .ref b32, .ref b33, .ref b34, .ref b35, .ref b36, .ref b37, .ref b38])), (b49, .inl (G.2 0, 242, .inl (upd (fun _ => 0) 0 0))), (b0, .inr (0, [.ref b2, .ref b3, .ref b4, .ref b5, .int 0, .int 0, .ref b6, .ref b7, .ref b8, .ref b9, .ref b10, .ref b11, .ref b12, .ref b13, .ref b14, .ref b15, .ref b16, .ref b17, .ref b18, .ref b19])), (b3, .inr (2, [.int 0, .int 1, .int 0, .ref b24, .ref b25, .ref b26])), (b28, .inr (5, [.int 1, .int 0, .ref b39, .ref b40, .ref b41, .ref b42, .ref b43, .ref b44, .int 0, .ref b45, .ref b46, .ref b47, .ref b48, .ref b49, .ref b50])), (b12, .inr (6, [.int 0, .int 4, .int 2, .ref b54, .ref b55])), (b54, .inl (G.2 1, 8, .inr (.inl (fun _ => 0))))] H := hP
      have hD := z_tie hP hD rfl
      refine W.widen (k := 0) (n := 0) (Nat.le_of_ble_eq_true rfl) (Nat.le_of_ble_eq_true rfl) ?_
      refine va_iast hx hb hK hP hD hS 0 0 rfl rfl (i := 2) (z_in rfl) d_X_run_104 (fun H locs hP hD hS => ?_)
      have hP : va_P G.1 classes [(b13, .inl (G.2 0, 3, .inl (upd (upd (upd (fun _ => (-1)) 0 0) 1 0) 2 (-1)))), (b4, .inr (2, [.int 1, .int 1, .int 0, .ref b20, .ref b21, .ref b22])), (b20, .inl (G.2 0, 20, .inl (upd (fun _ => 0) 0 0))), (b2, .inr (1, [.int 0, .ref b23])), (b9, .inl (G.2 6, 4, .inr (.inr (.inr (.inr (va_up (va_up (va_up (va_up (fun _ => none) 0 (some b27)) 1 (some b28)) 2 (some b29)) 3 (some b30))))))), (b8, .inr (4, [.ref b51, .ref b52, .ref b53])), (b53, .inl (G.2 0, 512, .inl (fun _ => (-1)))), (b44, .inl (G.2 1, 4, .inr (.inl (fun _ => 0)))), (b7, .inr (3, [.int 1, .int (-1), .int 0, .ref b31, .ref b32, .ref b33, .ref b34, .ref b35, .ref b36, .ref b37, .ref b38])), (b49, .inl (G.2 0, 242, .inl (upd (fun _ => 0) 0 0))), (b0, .inr (0, [.ref b2, .ref b3, .ref b4, .ref b5, .int 0, .int 0, .ref b6, .ref b7, .ref b8, .ref b9, .ref b10, .ref b11, .ref b12, .ref b13, .ref b14, .ref b15, .ref b16, .ref b17, .ref b18, .ref b19])), (b3, .inr (2, [.int 0, .int 1, .int 0, .ref b24, .ref b25, .ref b26])), (b28, .inr (5, [.int 1, .int 0, .ref b39, .ref b40, .ref b41, .ref b42, .ref b43, .ref b44, .int 0, .ref b45, .ref b46, .ref b47, .ref b48, .ref b49, .ref b50])), (b12, .inr (6, [.int 0, .int 4, .int 2, .ref b54, .ref b55])), (b54, .inl (G.2 1, 8, .inr (.inl (fun _ => 0))))] H := hP
      have hD := z_tie hP hD rfl
      refine lv_iload_n hx hb d_X_run_105 rfl (lv_at hl 0 rfl) ?_
      refine lv_iconst (v := (-1)) hx hb d_X_run_106 (by decide) ?_
      refine lv_icmp_ne (tgt := 114) hx hb d_X_run_107 (by decide) (fun _ => ?_) (fun hc => absurd hc (by decide +kernel))
      refine lv_iconst (v := 0) hx hb d_X_run_114 (by decide) ?_
      exact z_iret hx hb hr hlocks hP hD hS (Nat.le_of_ble_eq_true rfl) (Nat.le_of_ble_eq_true rfl) d_X_run_115 (congrArg (fun z => some (Value.int z)) (by unfold a_run; (first | rfl | (repeat (first | rw [if_pos (by omega)] | rw [if_neg (by omega)])))))
  · exfalso; (try simp only [Int32.toInt_toInt64, li_0, li_0] at hq_6); (try simp only [Int32.toInt_toInt64, li_0, li_0] at hq_7); omega
