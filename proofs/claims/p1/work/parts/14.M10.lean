theorem d_Model_edge_0 : decode prog_14_method_41_code 0 = .ok (.aload_n 0, 1) := by decide +kernel
theorem d_Model_edge_1 : decode prog_14_method_41_code 1 = .ok (.iconst 0, 1) := by decide +kernel
theorem d_Model_edge_2 : decode prog_14_method_41_code 2 = .ok (.putfield 1, 3) := by decide +kernel
theorem d_Model_edge_5 : decode prog_14_method_41_code 5 = .ok (.aload_n 0, 1) := by decide +kernel
theorem d_Model_edge_6 : decode prog_14_method_41_code 6 = .ok (.invokevirtual 254, 3) := by decide +kernel
theorem d_Model_edge_9 : decode prog_14_method_41_code 9 = .ok (.iload_n 1, 1) := by decide +kernel
theorem d_Model_edge_10 : decode prog_14_method_41_code 10 = .ok (.i2l, 1) := by decide +kernel
theorem d_Model_edge_11 : decode prog_14_method_41_code 11 = .ok (.lconst 0, 1) := by decide +kernel
theorem d_Model_edge_12 : decode prog_14_method_41_code 12 = .ok (.aload_n 0, 1) := by decide +kernel
theorem d_Model_edge_13 : decode prog_14_method_41_code 13 = .ok (.getfield 70, 3) := by decide +kernel
theorem d_Model_edge_16 : decode prog_14_method_41_code 16 = .ok (.iconst 0, 1) := by decide +kernel
theorem d_Model_edge_17 : decode prog_14_method_41_code 17 = .ok (.iaload, 1) := by decide +kernel
theorem d_Model_edge_18 : decode prog_14_method_41_code 18 = .ok (.i2l, 1) := by decide +kernel
theorem d_Model_edge_19 : decode prog_14_method_41_code 19 = .ok (.lconst 1, 1) := by decide +kernel
theorem d_Model_edge_20 : decode prog_14_method_41_code 20 = .ok (.lsub, 1) := by decide +kernel
theorem d_Model_edge_21 : decode prog_14_method_41_code 21 = .ok (.invokestatic 138, 3) := by decide +kernel
theorem d_Model_edge_24 : decode prog_14_method_41_code 24 = .ok (.ifCond .eq 15, 3) := by decide +kernel
theorem d_Model_edge_39 : decode prog_14_method_41_code 39 = .ok (.iconst (-1), 1) := by decide +kernel
theorem d_Model_edge_40 : decode prog_14_method_41_code 40 = .ok (.ireturn, 1) := by decide +kernel
abbrev m_t_Model_edge : Room := { frames := 4, cells := 0, slots := 0, locals := 94 }
set_option maxHeartbeats 4000000 in
set_option maxRecDepth 100000 in
theorem t_Model_edge (l : Launch) (G : zG) (b0 : Nat) (p0 : Int32) (p1 : Int32) (b3 : Nat) (b4 : Nat) (b5 : Nat) (b6 : Nat) (b7 : Nat) (b8 : Nat) (b9 : Nat) (b10 : Nat) (b11 : Nat) (b12 : Nat) (b13 : Nat) (b14 : Nat) (b15 : Nat) (b16 : Nat) (b17 : Nat) (b18 : Nat) (b19 : Nat) (b20 : Nat) (b21 : Nat) (b22 : Nat) (b23 : Nat) (b24 : Nat) (b25 : Nat) (b26 : Nat) (b27 : Nat) (b28 : Nat) (b29 : Nat) (b30 : Nat) (b31 : Nat) (b32 : Nat) (b33 : Nat) (b34 : Nat) (b35 : Nat) (b36 : Nat) (b37 : Nat) (b38 : Nat) (b39 : Nat) (b40 : Nat) (b41 : Nat)  : zM l G y_Model_edge prog_14_method_41_code 3 (Option.some Jvm.ClassFile.FieldType.int) m_t_Model_edge [.ref b0, .int p0, .int p1] [(b0, .inr (12, [.int 0, .ref b3, .ref b4, .ref b5, .ref b6, .int 0, .ref b7, .int 0, .int 0, .int 0, .int 0, .ref b8, .ref b9, .ref b10, .int 0, .ref b11, .ref b12, .ref b13, .ref b14, .ref b15, .ref b16, .ref b17, .ref b18, .ref b19, .ref b20, .ref b21, .ref b22, .int 0, .ref b23, .ref b24, .int 0, .int 0, .int 0, .int 0, .ref b25, .ref b26, .ref b27, .ref b28, .ref b29, .ref b30, .ref b31, .int 0, .ref b32, .ref b33, .int 0, .ref b34, .ref b35, .ref b36, .ref b37, .ref b38, .int 0, .ref b39, .ref b40, .ref b41])), (b3, .inl (G.2 0, 503, .inl (upd (fun _ => 0) 501 1))), (b11, .inl (G.2 0, 2, .inl (fun _ => 0))), (b12, .inl (G.2 0, 4820, .inl (fun _ => 0))), (b15, .inl (G.2 0, 482, .inl (fun _ => 0))), (b17, .inl (G.2 0, 2, .inl (fun _ => 0))), (b21, .inl (G.2 0, 2, .inl (fun _ => 0)))] (fun v _ => v = some (.int (a_edge p0 p1))) := by
  refine z_start (by decide +kernel) (Nat.le_of_ble_eq_true rfl) ?_
  intro p e s m below meth c A Z hr hnm hA hP hD hS ls hl
  have Z : zC p s m _ meth c prog_14_method_41_code 3 "TraceMachinesModel" G := Z
  obtain ⟨hx, hb, hml, hown, hts, hK, hN, hlocks⟩ := id Z
  have hl : lv_has ls 3 [(0, .ref b0), (1, .int p0), (2, .int p1)] := hl
  refine lv_aload_n hx hb d_Model_edge_0 rfl (lv_at hl 0 rfl) ?_
  refine lv_iconst (v := 0) hx hb d_Model_edge_1 (by decide) ?_
  refine va_put (D := G.1) (ci := 12) (v := .int 0) (ty := .int) (C := R_Model) (T := F_Model) (N := 54) hx hb hts i_Model t_Model t_Model_ok n_Model hown hK hP hD hS 0 rfl rfl 0 (by decide) (hts _ q1113) (fun _ h9 => h9) rfl (by decide +kernel) rfl rfl (Nat.le_of_ble_eq_true rfl) d_Model_edge_2 (fun H locs hP hD hS => ?_)
  have hP : va_P G.1 classes [(b0, .inr (12, [.int 0, .ref b3, .ref b4, .ref b5, .ref b6, .int 0, .ref b7, .int 0, .int 0, .int 0, .int 0, .ref b8, .ref b9, .ref b10, .int 0, .ref b11, .ref b12, .ref b13, .ref b14, .ref b15, .ref b16, .ref b17, .ref b18, .ref b19, .ref b20, .ref b21, .ref b22, .int 0, .ref b23, .ref b24, .int 0, .int 0, .int 0, .int 0, .ref b25, .ref b26, .ref b27, .ref b28, .ref b29, .ref b30, .ref b31, .int 0, .ref b32, .ref b33, .int 0, .ref b34, .ref b35, .ref b36, .ref b37, .ref b38, .int 0, .ref b39, .ref b40, .ref b41])), (b3, .inl (G.2 0, 503, .inl (upd (fun _ => 0) 501 1))), (b11, .inl (G.2 0, 2, .inl (fun _ => 0))), (b12, .inl (G.2 0, 4820, .inl (fun _ => 0))), (b15, .inl (G.2 0, 482, .inl (fun _ => 0))), (b17, .inl (G.2 0, 2, .inl (fun _ => 0))), (b21, .inl (G.2 0, 2, .inl (fun _ => 0)))] H := hP
  have hD := z_tie hP hD rfl
  refine lv_aload_n hx hb d_Model_edge_5 rfl (lv_at hl 0 rfl) ?_
  refine z_callV (index := 254) (As := []) (rest := []) (wr := []) Z (c1_Model_lay1 l G (b0) (b3) (b4) (b5) (b6) (b7) (b8) (b9) (b10) (b11) (b12) (b13) (b14) (b15) (b16) (b17) (b18) (b19) (b20) (b21) (b22) (b23) (b24) (b25) (b26) (b27) (b28) (b29) (b30) (b31) (b32) (b33) (b34) (b35) (b36) (b37) (b38) (b39) (b40) (b41)) hl.1 q1360 q1362 qs55 q14 q1363 ⟨by decide, by decide, by show _ = some 0; decide +kernel⟩ ⟨Nat.le_of_ble_eq_true rfl, Nat.le_of_ble_eq_true rfl⟩ ⟨Nat.le_of_ble_eq_true rfl, Nat.le_of_ble_eq_true rfl⟩ rfl (Nat.le_of_ble_eq_true rfl) d_Model_edge_6 hP hD hS hA 0 12 rfl rfl rfl [0, 1, 2, 3, 4, 5, 6] [] rfl rfl rfl rfl (by decide) (fun v w1 H locs hw_1 hP hD hS => ?_)
  obtain ⟨rfl, rfl⟩ := hw_1
  have hP : va_P G.1 classes [(b21, .inl (G.2 0, 2, .inl (upd (fun _ => 0) 0 0))), (b12, .inl (G.2 0, 4820, .inl (upd (upd (upd (upd (upd (upd (upd (upd (upd (upd (fun _ => 0) 0 (-1)) 1 (-1)) 2 (-1)) 3 (-1)) 4 (-1)) 5 (-1)) 6 (-1)) 7 (-1)) 8 (-1)) 9 (-1)))), (b15, .inl (G.2 0, 482, .inl (upd (upd (fun _ => 0) 0 0) 0 0))), (b17, .inl (G.2 0, 2, .inl (upd (fun _ => 0) 0 0))), (b11, .inl (G.2 0, 2, .inl (upd (upd (fun _ => 0) 0 0) 0 1))), (b0, .inr (12, [.int 0, .ref b3, .ref b4, .ref b5, .ref b6, .int 0, .ref b7, .int 0, .int 0, .int 0, .int 0, .ref b8, .ref b9, .ref b10, .int 0, .ref b11, .ref b12, .ref b13, .ref b14, .ref b15, .ref b16, .ref b17, .ref b18, .ref b19, .ref b20, .ref b21, .ref b22, .int 0, .ref b23, .ref b24, .int 0, .int 0, .int 0, .int 0, .ref b25, .ref b26, .ref b27, .ref b28, .ref b29, .ref b30, .ref b31, .int 0, .ref b32, .ref b33, .int 0, .ref b34, .ref b35, .ref b36, .ref b37, .ref b38, .int 0, .ref b39, .ref b40, .ref b41])), (b3, .inl (G.2 0, 503, .inl (upd (fun _ => 0) 501 1)))] H := hP
  have hD := z_tie hP hD rfl
  refine W.widen (k := 0) (n := 0) (Nat.le_of_ble_eq_true rfl) (Nat.le_of_ble_eq_true rfl) ?_
  refine lv_iload_n hx hb d_Model_edge_9 rfl (lv_at hl 1 rfl) ?_
  refine lv_i2l (v := p0.toInt64) hx hb d_Model_edge_10 rfl ?_
  refine lv_lconst (v := 0) hx hb d_Model_edge_11 (by decide) ?_
  refine lv_aload_n hx hb d_Model_edge_12 rfl (lv_at hl 0 rfl) ?_
  refine va_get (D := G.1) (ci := 12) (v := .ref b21) (C := R_Model) (T := F_Model) (N := 54) hx hb hts i_Model hown hK hP 5 rfl rfl 25 (by decide) (hts _ q1138) (fun _ h9 => h9) rfl d_Model_edge_13 ?_
  refine lv_iconst (v := 0) hx hb d_Model_edge_16 (by decide) ?_
  refine va_iald hx hb hK hP 0 0 rfl rfl (i := 0) (z_in rfl) d_Model_edge_17 ?_
  refine z_topi (y := 0) rfl ?_
  refine lv_i2l (v := 0) hx hb d_Model_edge_18 (by decide +kernel) ?_
  refine lv_lconst (v := 1) hx hb d_Model_edge_19 (by decide) ?_
  refine lv_lsub hx hb d_Model_edge_20 ?_
  refine z_topl (y := (-1)) (by decide +kernel) ?_
  refine z_callS (index := 138) (As := [.long p0.toInt64, .long 0, .long (-1)]) (rest := []) (wr := [(b21, .inl (G.2 0, 2, .inl (upd (fun _ => 0) 0 0))), (b12, .inl (G.2 0, 4820, .inl (upd (upd (upd (upd (upd (upd (upd (upd (upd (upd (fun _ => 0) 0 (-1)) 1 (-1)) 2 (-1)) 3 (-1)) 4 (-1)) 5 (-1)) 6 (-1)) 7 (-1)) 8 (-1)) 9 (-1)))), (b15, .inl (G.2 0, 482, .inl (upd (upd (fun _ => 0) 0 0) 0 0))), (b17, .inl (G.2 0, 2, .inl (upd (fun _ => 0) 0 0))), (b11, .inl (G.2 0, 2, .inl (upd (upd (fun _ => 0) 0 0) 0 1))), (b0, .inr (12, [.int 0, .ref b3, .ref b4, .ref b5, .ref b6, .int 0, .ref b7, .int 0, .int 0, .int 0, .int 0, .ref b8, .ref b9, .ref b10, .int 0, .ref b11, .ref b12, .ref b13, .ref b14, .ref b15, .ref b16, .ref b17, .ref b18, .ref b19, .ref b20, .ref b21, .ref b22, .int 0, .ref b23, .ref b24, .int 0, .int 0, .int 0, .int 0, .ref b25, .ref b26, .ref b27, .ref b28, .ref b29, .ref b30, .ref b31, .int 0, .ref b32, .ref b33, .int 0, .ref b34, .ref b35, .ref b36, .ref b37, .ref b38, .int 0, .ref b39, .ref b40, .ref b41])), (b3, .inl (G.2 0, 503, .inl (upd (fun _ => 0) 501 1)))]) Z (c3_Model_in l G (p0.toInt64)) hl.1 q1285 q1286 q14 q1287 ⟨by decide, by decide, by show _ = some 3; decide +kernel⟩ ⟨Nat.le_of_ble_eq_true rfl, Nat.le_of_ble_eq_true rfl⟩ ⟨Nat.le_of_ble_eq_true rfl, Nat.le_of_ble_eq_true rfl⟩ rfl (Nat.le_of_ble_eq_true rfl) d_Model_edge_21 hP hD hS hA [] [0, 1, 2, 3, 4, 5, 6] rfl rfl rfl rfl (by decide) (fun v w1 H locs hw_2 hP hD hS => ?_)
  obtain ⟨rfl, rfl⟩ := hw_2
  have hP : va_P G.1 classes [(b21, .inl (G.2 0, 2, .inl (upd (fun _ => 0) 0 0))), (b12, .inl (G.2 0, 4820, .inl (upd (upd (upd (upd (upd (upd (upd (upd (upd (upd (fun _ => 0) 0 (-1)) 1 (-1)) 2 (-1)) 3 (-1)) 4 (-1)) 5 (-1)) 6 (-1)) 7 (-1)) 8 (-1)) 9 (-1)))), (b15, .inl (G.2 0, 482, .inl (upd (upd (fun _ => 0) 0 0) 0 0))), (b17, .inl (G.2 0, 2, .inl (upd (fun _ => 0) 0 0))), (b11, .inl (G.2 0, 2, .inl (upd (upd (fun _ => 0) 0 0) 0 1))), (b0, .inr (12, [.int 0, .ref b3, .ref b4, .ref b5, .ref b6, .int 0, .ref b7, .int 0, .int 0, .int 0, .int 0, .ref b8, .ref b9, .ref b10, .int 0, .ref b11, .ref b12, .ref b13, .ref b14, .ref b15, .ref b16, .ref b17, .ref b18, .ref b19, .ref b20, .ref b21, .ref b22, .int 0, .ref b23, .ref b24, .int 0, .int 0, .int 0, .int 0, .ref b25, .ref b26, .ref b27, .ref b28, .ref b29, .ref b30, .ref b31, .int 0, .ref b32, .ref b33, .int 0, .ref b34, .ref b35, .ref b36, .ref b37, .ref b38, .int 0, .ref b39, .ref b40, .ref b41])), (b3, .inl (G.2 0, 503, .inl (upd (fun _ => 0) 501 1)))] H := hP
  have hD := z_tie hP hD rfl
  refine W.widen (k := 0) (n := 0) (Nat.le_of_ble_eq_true rfl) (Nat.le_of_ble_eq_true rfl) ?_
  refine lv_if_eq (tgt := 39) hx hb d_Model_edge_24 (by decide) (fun _ => ?_) (fun hc => absurd hc (by decide +kernel))
  refine lv_iconst (v := (-1)) hx hb d_Model_edge_39 (by decide) ?_
  exact z_iret hx hb hr hlocks hP hD hS (Nat.le_of_ble_eq_true rfl) (Nat.le_of_ble_eq_true rfl) d_Model_edge_40 (congrArg (fun z => some (Value.int z)) (by unfold a_edge; (first | rfl | (repeat (first | rw [if_pos (by omega)] | rw [if_neg (by omega)])))))
theorem d_Model_vague_0 : decode prog_14_method_44_code 0 = .ok (.aload_n 0, 1) := by decide +kernel
theorem d_Model_vague_1 : decode prog_14_method_44_code 1 = .ok (.iconst 0, 1) := by decide +kernel
theorem d_Model_vague_2 : decode prog_14_method_44_code 2 = .ok (.putfield 1, 3) := by decide +kernel
theorem d_Model_vague_5 : decode prog_14_method_44_code 5 = .ok (.iload_n 1, 1) := by decide +kernel
theorem d_Model_vague_6 : decode prog_14_method_44_code 6 = .ok (.i2l, 1) := by decide +kernel
theorem d_Model_vague_7 : decode prog_14_method_44_code 7 = .ok (.lconst 0, 1) := by decide +kernel
theorem d_Model_vague_8 : decode prog_14_method_44_code 8 = .ok (.lconst 1, 1) := by decide +kernel
theorem d_Model_vague_9 : decode prog_14_method_44_code 9 = .ok (.invokestatic 138, 3) := by decide +kernel
theorem ll_1 : (1 : Int64).toInt = 1 := by decide +kernel
abbrev m_c6_Model_in : Room := { frames := 0, cells := 0, slots := 0, locals := 0 }
set_option maxHeartbeats 4000000 in
set_option maxRecDepth 100000 in
theorem c6_Model_in (l : Launch) (G : zG) (b0 : Int64)  : zM l G y_Model_in prog_14_method_3_code 6 (Option.some Jvm.ClassFile.FieldType.boolean) m_c6_Model_in [.long b0, .long 0, .long 1] [] (fun v w => (v = some (.int 0) ∧ w = [] ∧ b0.toInt < 0) ∨ (v = some (.int 0) ∧ w = [] ∧ 0 ≤ b0.toInt ∧ 1 < b0.toInt) ∨ (v = some (.int 1) ∧ w = [] ∧ 0 ≤ b0.toInt ∧ b0.toInt ≤ 1)) := by
  refine z_start (by decide +kernel) (Nat.le_of_ble_eq_true rfl) ?_
  intro p e s m below meth c A Z hr hnm hA hP hD hS ls hl
  have Z : zC p s m _ meth c prog_14_method_3_code 6 "TraceMachinesModel" G := Z
  obtain ⟨hx, hb, hml, hown, hts, hK, hN, hlocks⟩ := id Z
  have hl : lv_has ls 6 [(0, .long b0), (2, .long 0), (4, .long 1)] := hl
  refine lv_lload_n hx hb d_Model_in_0 rfl (lv_at hl 0 rfl) ?_
  refine lv_lload_n hx hb d_Model_in_1 rfl (lv_at hl 1 rfl) ?_
  refine W.lcmp hx hb d_Model_in_2 ?_
  refine lv_topi (fun v_1 ev_1 => ?_)
  refine lv_if_lt (tgt := 17) hx hb d_Model_in_3 (by decide) (fun hc_2 => ?_) (fun hc_2 => ?_)
  · rw [ev_1] at hc_2; simp only [lg_cmp_lt, lg_cmp_le, lg_cmp_gt, lg_cmp_ge, lg_cmp_eq] at hc_2; simp only [fa_lt64, fa_le64, fa_eq64, Int32.toInt_toInt64, ll_0] at hc_2
    refine lv_iconst (v := 0) hx hb d_Model_in_17 (by decide) ?_
    exact z_zret hx hb hr hlocks rfl hP hD hS (Nat.le_of_ble_eq_true rfl) (Nat.le_of_ble_eq_true rfl) d_Model_in_18 (Or.inl ⟨rfl, rfl, by omega⟩)
  · rw [ev_1] at hc_2; simp only [lg_cmp_lt, lg_cmp_le, lg_cmp_gt, lg_cmp_ge, lg_cmp_eq] at hc_2; simp only [fa_lt64, fa_le64, fa_eq64, Int32.toInt_toInt64, ll_0] at hc_2
    refine lv_lload_n hx hb d_Model_in_6 rfl (lv_at hl 0 rfl) ?_
    refine lv_lload hx hb d_Model_in_7 (lv_at hl 2 rfl) ?_
    refine W.lcmp hx hb d_Model_in_9 ?_
    refine lv_topi (fun v_3 ev_3 => ?_)
    refine lv_if_gt (tgt := 17) hx hb d_Model_in_10 (by decide) (fun hc_4 => ?_) (fun hc_4 => ?_)
    · rw [ev_3] at hc_4; simp only [lg_cmp_lt, lg_cmp_le, lg_cmp_gt, lg_cmp_ge, lg_cmp_eq] at hc_4; simp only [fa_lt64, fa_le64, fa_eq64, Int32.toInt_toInt64, ll_1] at hc_4
      refine lv_iconst (v := 0) hx hb d_Model_in_17 (by decide) ?_
      exact z_zret hx hb hr hlocks rfl hP hD hS (Nat.le_of_ble_eq_true rfl) (Nat.le_of_ble_eq_true rfl) d_Model_in_18 (Or.inr (Or.inl ⟨rfl, rfl, by omega, by omega⟩))
    · rw [ev_3] at hc_4; simp only [lg_cmp_lt, lg_cmp_le, lg_cmp_gt, lg_cmp_ge, lg_cmp_eq] at hc_4; simp only [fa_lt64, fa_le64, fa_eq64, Int32.toInt_toInt64, ll_1] at hc_4
      refine lv_iconst (v := 1) hx hb d_Model_in_13 (by decide) ?_
      refine lv_goto (tgt := 18) hx hb d_Model_in_14 (by decide) ?_
      exact z_zret hx hb hr hlocks rfl hP hD hS (Nat.le_of_ble_eq_true rfl) (Nat.le_of_ble_eq_true rfl) d_Model_in_18 (Or.inr (Or.inr (⟨rfl, rfl, by omega, by omega⟩)))
theorem d_Model_vague_12 : decode prog_14_method_44_code 12 = .ok (.ifCond .ne 5, 3) := by decide +kernel
theorem d_Model_vague_15 : decode prog_14_method_44_code 15 = .ok (.iconst (-1), 1) := by decide +kernel
theorem d_Model_vague_16 : decode prog_14_method_44_code 16 = .ok (.ireturn, 1) := by decide +kernel
theorem d_Model_vague_17 : decode prog_14_method_44_code 17 = .ok (.aload_n 0, 1) := by decide +kernel
theorem d_Model_vague_18 : decode prog_14_method_44_code 18 = .ok (.invokevirtual 254, 3) := by decide +kernel
theorem d_Model_vague_21 : decode prog_14_method_44_code 21 = .ok (.iconst 0, 1) := by decide +kernel
theorem d_Model_vague_22 : decode prog_14_method_44_code 22 = .ok (.istore_n 2, 1) := by decide +kernel
theorem d_Model_vague_23 : decode prog_14_method_44_code 23 = .ok (.iconst 0, 1) := by decide +kernel
theorem d_Model_vague_24 : decode prog_14_method_44_code 24 = .ok (.istore_n 3, 1) := by decide +kernel
theorem d_Model_vague_25 : decode prog_14_method_44_code 25 = .ok (.iload_n 3, 1) := by decide +kernel
theorem d_Model_vague_26 : decode prog_14_method_44_code 26 = .ok (.aload_n 0, 1) := by decide +kernel
theorem d_Model_vague_27 : decode prog_14_method_44_code 27 = .ok (.getfield 70, 3) := by decide +kernel
theorem d_Model_vague_30 : decode prog_14_method_44_code 30 = .ok (.iconst 0, 1) := by decide +kernel
theorem d_Model_vague_31 : decode prog_14_method_44_code 31 = .ok (.iaload, 1) := by decide +kernel
theorem d_Model_vague_32 : decode prog_14_method_44_code 32 = .ok (.if_icmp .ge 63, 3) := by decide +kernel
theorem d_Model_vague_95 : decode prog_14_method_44_code 95 = .ok (.iload_n 2, 1) := by decide +kernel
theorem d_Model_vague_96 : decode prog_14_method_44_code 96 = .ok (.ireturn, 1) := by decide +kernel
abbrev m_t_Model_vague : Room := { frames := 4, cells := 0, slots := 0, locals := 94 }
set_option maxHeartbeats 4000000 in
set_option maxRecDepth 100000 in
theorem t_Model_vague (l : Launch) (G : zG) (b0 : Nat) (p0 : Int32) (b2 : Nat) (b3 : Nat) (b4 : Nat) (b5 : Nat) (b6 : Nat) (b7 : Nat) (b8 : Nat) (b9 : Nat) (b10 : Nat) (b11 : Nat) (b12 : Nat) (b13 : Nat) (b14 : Nat) (b15 : Nat) (b16 : Nat) (b17 : Nat) (b18 : Nat) (b19 : Nat) (b20 : Nat) (b21 : Nat) (b22 : Nat) (b23 : Nat) (b24 : Nat) (b25 : Nat) (b26 : Nat) (b27 : Nat) (b28 : Nat) (b29 : Nat) (b30 : Nat) (b31 : Nat) (b32 : Nat) (b33 : Nat) (b34 : Nat) (b35 : Nat) (b36 : Nat) (b37 : Nat) (b38 : Nat) (b39 : Nat) (b40 : Nat)  : zM l G y_Model_vague prog_14_method_44_code 5 (Option.some Jvm.ClassFile.FieldType.int) m_t_Model_vague [.ref b0, .int p0] [(b0, .inr (12, [.int 0, .ref b2, .ref b3, .ref b4, .ref b5, .int 0, .ref b6, .int 0, .int 0, .int 0, .int 0, .ref b7, .ref b8, .ref b9, .int 0, .ref b10, .ref b11, .ref b12, .ref b13, .ref b14, .ref b15, .ref b16, .ref b17, .ref b18, .ref b19, .ref b20, .ref b21, .int 0, .ref b22, .ref b23, .int 0, .int 0, .int 0, .int 0, .ref b24, .ref b25, .ref b26, .ref b27, .ref b28, .ref b29, .ref b30, .int 0, .ref b31, .ref b32, .int 0, .ref b33, .ref b34, .ref b35, .ref b36, .ref b37, .int 0, .ref b38, .ref b39, .ref b40])), (b2, .inl (G.2 0, 503, .inl (upd (fun _ => 0) 501 1))), (b10, .inl (G.2 0, 2, .inl (fun _ => 0))), (b11, .inl (G.2 0, 4820, .inl (fun _ => 0))), (b14, .inl (G.2 0, 482, .inl (fun _ => 0))), (b16, .inl (G.2 0, 2, .inl (fun _ => 0))), (b20, .inl (G.2 0, 2, .inl (fun _ => 0)))] (fun v _ => v = some (.int (a_vague p0))) := by
  refine z_start (by decide +kernel) (Nat.le_of_ble_eq_true rfl) ?_
  intro p e s m below meth c A Z hr hnm hA hP hD hS ls hl
  have Z : zC p s m _ meth c prog_14_method_44_code 5 "TraceMachinesModel" G := Z
  obtain ⟨hx, hb, hml, hown, hts, hK, hN, hlocks⟩ := id Z
  have hl : lv_has ls 5 [(0, .ref b0), (1, .int p0)] := hl
  refine lv_aload_n hx hb d_Model_vague_0 rfl (lv_at hl 0 rfl) ?_
  refine lv_iconst (v := 0) hx hb d_Model_vague_1 (by decide) ?_
  refine va_put (D := G.1) (ci := 12) (v := .int 0) (ty := .int) (C := R_Model) (T := F_Model) (N := 54) hx hb hts i_Model t_Model t_Model_ok n_Model hown hK hP hD hS 0 rfl rfl 0 (by decide) (hts _ q1113) (fun _ h9 => h9) rfl (by decide +kernel) rfl rfl (Nat.le_of_ble_eq_true rfl) d_Model_vague_2 (fun H locs hP hD hS => ?_)
  have hP : va_P G.1 classes [(b0, .inr (12, [.int 0, .ref b2, .ref b3, .ref b4, .ref b5, .int 0, .ref b6, .int 0, .int 0, .int 0, .int 0, .ref b7, .ref b8, .ref b9, .int 0, .ref b10, .ref b11, .ref b12, .ref b13, .ref b14, .ref b15, .ref b16, .ref b17, .ref b18, .ref b19, .ref b20, .ref b21, .int 0, .ref b22, .ref b23, .int 0, .int 0, .int 0, .int 0, .ref b24, .ref b25, .ref b26, .ref b27, .ref b28, .ref b29, .ref b30, .int 0, .ref b31, .ref b32, .int 0, .ref b33, .ref b34, .ref b35, .ref b36, .ref b37, .int 0, .ref b38, .ref b39, .ref b40])), (b2, .inl (G.2 0, 503, .inl (upd (fun _ => 0) 501 1))), (b10, .inl (G.2 0, 2, .inl (fun _ => 0))), (b11, .inl (G.2 0, 4820, .inl (fun _ => 0))), (b14, .inl (G.2 0, 482, .inl (fun _ => 0))), (b16, .inl (G.2 0, 2, .inl (fun _ => 0))), (b20, .inl (G.2 0, 2, .inl (fun _ => 0)))] H := hP
  have hD := z_tie hP hD rfl
  refine lv_iload_n hx hb d_Model_vague_5 rfl (lv_at hl 1 rfl) ?_
  refine lv_i2l (v := p0.toInt64) hx hb d_Model_vague_6 rfl ?_
  refine lv_lconst (v := 0) hx hb d_Model_vague_7 (by decide) ?_
  refine lv_lconst (v := 1) hx hb d_Model_vague_8 (by decide) ?_
  refine z_callS (index := 138) (As := [.long p0.toInt64, .long 0, .long 1]) (rest := []) (wr := [(b0, .inr (12, [.int 0, .ref b2, .ref b3, .ref b4, .ref b5, .int 0, .ref b6, .int 0, .int 0, .int 0, .int 0, .ref b7, .ref b8, .ref b9, .int 0, .ref b10, .ref b11, .ref b12, .ref b13, .ref b14, .ref b15, .ref b16, .ref b17, .ref b18, .ref b19, .ref b20, .ref b21, .int 0, .ref b22, .ref b23, .int 0, .int 0, .int 0, .int 0, .ref b24, .ref b25, .ref b26, .ref b27, .ref b28, .ref b29, .ref b30, .int 0, .ref b31, .ref b32, .int 0, .ref b33, .ref b34, .ref b35, .ref b36, .ref b37, .int 0, .ref b38, .ref b39, .ref b40])), (b2, .inl (G.2 0, 503, .inl (upd (fun _ => 0) 501 1))), (b10, .inl (G.2 0, 2, .inl (fun _ => 0))), (b11, .inl (G.2 0, 4820, .inl (fun _ => 0))), (b14, .inl (G.2 0, 482, .inl (fun _ => 0))), (b16, .inl (G.2 0, 2, .inl (fun _ => 0))), (b20, .inl (G.2 0, 2, .inl (fun _ => 0)))]) Z (c6_Model_in l G (p0.toInt64)) hl.1 q1285 q1286 q14 q1287 ⟨by decide, by decide, by show _ = some 3; decide +kernel⟩ ⟨Nat.le_of_ble_eq_true rfl, Nat.le_of_ble_eq_true rfl⟩ ⟨Nat.le_of_ble_eq_true rfl, Nat.le_of_ble_eq_true rfl⟩ rfl (Nat.le_of_ble_eq_true rfl) d_Model_vague_9 hP hD hS hA [] [0, 1, 2, 3, 4, 5, 6] rfl rfl rfl rfl (by decide) (fun v w1 H locs hw_1 hP hD hS => ?_)
  rcases hw_1 with ⟨rfl, rfl, hq_2⟩ | ⟨rfl, rfl, hq_3, hq_4⟩ | ⟨rfl, rfl, hq_5, hq_6⟩
  · try simp only [Int32.toInt_toInt64, ll_0] at hq_2
    have hP : va_P G.1 classes [(b0, .inr (12, [.int 0, .ref b2, .ref b3, .ref b4, .ref b5, .int 0, .ref b6, .int 0, .int 0, .int 0, .int 0, .ref b7, .ref b8, .ref b9, .int 0, .ref b10, .ref b11, .ref b12, .ref b13, .ref b14, .ref b15, .ref b16, .ref b17, .ref b18, .ref b19, .ref b20, .ref b21, .int 0, .ref b22, .ref b23, .int 0, .int 0, .int 0, .int 0, .ref b24, .ref b25, .ref b26, .ref b27, .ref b28, .ref b29, .ref b30, .int 0, .ref b31, .ref b32, .int 0, .ref b33, .ref b34, .ref b35, .ref b36, .ref b37, .int 0, .ref b38, .ref b39, .ref b40])), (b2, .inl (G.2 0, 503, .inl (upd (fun _ => 0) 501 1))), (b10, .inl (G.2 0, 2, .inl (fun _ => 0))), (b11, .inl (G.2 0, 4820, .inl (fun _ => 0))), (b14, .inl (G.2 0, 482, .inl (fun _ => 0))), (b16, .inl (G.2 0, 2, .inl (fun _ => 0))), (b20, .inl (G.2 0, 2, .inl (fun _ => 0)))] H := hP
    have hD := z_tie hP hD rfl
    refine W.widen (k := 0) (n := 0) (Nat.le_of_ble_eq_true rfl) (Nat.le_of_ble_eq_true rfl) ?_
    refine lv_if_ne (tgt := 17) hx hb d_Model_vague_12 (by decide) (fun hc => absurd hc (by decide +kernel)) (fun _ => ?_)
    refine lv_iconst (v := (-1)) hx hb d_Model_vague_15 (by decide) ?_
    exact z_iret hx hb hr hlocks hP hD hS (Nat.le_of_ble_eq_true rfl) (Nat.le_of_ble_eq_true rfl) d_Model_vague_16 (congrArg (fun z => some (Value.int z)) (by unfold a_vague; (first | rfl | (repeat (first | rw [if_pos (by omega)] | rw [if_neg (by omega)])))))
  · try simp only [Int32.toInt_toInt64, ll_0] at hq_3
    try simp only [Int32.toInt_toInt64, ll_1] at hq_4
    have hP : va_P G.1 classes [(b0, .inr (12, [.int 0, .ref b2, .ref b3, .ref b4, .ref b5, .int 0, .ref b6, .int 0, .int 0, .int 0, .int 0, .ref b7, .ref b8, .ref b9, .int 0, .ref b10, .ref b11, .ref b12, .ref b13, .ref b14, .ref b15, .ref b16, .ref b17, .ref b18, .ref b19, .ref b20, .ref b21, .int 0, .ref b22, .ref b23, .int 0, .int 0, .int 0, .int 0, .ref b24, .ref b25, .ref b26, .ref b27, .ref b28, .ref b29, .ref b30, .int 0, .ref b31, .ref b32, .int 0, .ref b33, .ref b34, .ref b35, .ref b36, .ref b37, .int 0, .ref b38, .ref b39, .ref b40])), (b2, .inl (G.2 0, 503, .inl (upd (fun _ => 0) 501 1))), (b10, .inl (G.2 0, 2, .inl (fun _ => 0))), (b11, .inl (G.2 0, 4820, .inl (fun _ => 0))), (b14, .inl (G.2 0, 482, .inl (fun _ => 0))), (b16, .inl (G.2 0, 2, .inl (fun _ => 0))), (b20, .inl (G.2 0, 2, .inl (fun _ => 0)))] H := hP
    have hD := z_tie hP hD rfl
    refine W.widen (k := 0) (n := 0) (Nat.le_of_ble_eq_true rfl) (Nat.le_of_ble_eq_true rfl) ?_
    refine lv_if_ne (tgt := 17) hx hb d_Model_vague_12 (by decide) (fun hc => absurd hc (by decide +kernel)) (fun _ => ?_)
    refine lv_iconst (v := (-1)) hx hb d_Model_vague_15 (by decide) ?_
    exact z_iret hx hb hr hlocks hP hD hS (Nat.le_of_ble_eq_true rfl) (Nat.le_of_ble_eq_true rfl) d_Model_vague_16 (congrArg (fun z => some (Value.int z)) (by unfold a_vague; (first | rfl | (repeat (first | rw [if_pos (by omega)] | rw [if_neg (by omega)])))))
  · try simp only [Int32.toInt_toInt64, ll_0] at hq_5
    try simp only [Int32.toInt_toInt64, ll_1] at hq_6
    have hP : va_P G.1 classes [(b0, .inr (12, [.int 0, .ref b2, .ref b3, .ref b4, .ref b5, .int 0, .ref b6, .int 0, .int 0, .int 0, .int 0, .ref b7, .ref b8, .ref b9, .int 0, .ref b10, .ref b11, .ref b12, .ref b13, .ref b14, .ref b15, .ref b16, .ref b17, .ref b18, .ref b19, .ref b20, .ref b21, .int 0, .ref b22, .ref b23, .int 0, .int 0, .int 0, .int 0, .ref b24, .ref b25, .ref b26, .ref b27, .ref b28, .ref b29, .ref b30, .int 0, .ref b31, .ref b32, .int 0, .ref b33, .ref b34, .ref b35, .ref b36, .ref b37, .int 0, .ref b38, .ref b39, .ref b40])), (b2, .inl (G.2 0, 503, .inl (upd (fun _ => 0) 501 1))), (b10, .inl (G.2 0, 2, .inl (fun _ => 0))), (b11, .inl (G.2 0, 4820, .inl (fun _ => 0))), (b14, .inl (G.2 0, 482, .inl (fun _ => 0))), (b16, .inl (G.2 0, 2, .inl (fun _ => 0))), (b20, .inl (G.2 0, 2, .inl (fun _ => 0)))] H := hP
    have hD := z_tie hP hD rfl
    refine W.widen (k := 0) (n := 0) (Nat.le_of_ble_eq_true rfl) (Nat.le_of_ble_eq_true rfl) ?_
    refine lv_if_ne (tgt := 17) hx hb d_Model_vague_12 (by decide) (fun _ => ?_) (fun hc => absurd hc (by decide +kernel))
    refine lv_aload_n hx hb d_Model_vague_17 rfl (lv_at hl 0 rfl) ?_
    refine z_callV (index := 254) (As := []) (rest := []) (wr := []) Z (c1_Model_lay1 l G (b0) (b2) (b3) (b4) (b5) (b6) (b7) (b8) (b9) (b10) (b11) (b12) (b13) (b14) (b15) (b16) (b17) (b18) (b19) (b20) (b21) (b22) (b23) (b24) (b25) (b26) (b27) (b28) (b29) (b30) (b31) (b32) (b33) (b34) (b35) (b36) (b37) (b38) (b39) (b40)) hl.1 q1360 q1362 qs55 q14 q1363 ⟨by decide, by decide, by show _ = some 0; decide +kernel⟩ ⟨Nat.le_of_ble_eq_true rfl, Nat.le_of_ble_eq_true rfl⟩ ⟨Nat.le_of_ble_eq_true rfl, Nat.le_of_ble_eq_true rfl⟩ rfl (Nat.le_of_ble_eq_true rfl) d_Model_vague_18 hP hD hS hA 0 12 rfl rfl rfl [0, 1, 2, 3, 4, 5, 6] [] rfl rfl rfl rfl (by decide) (fun v w1 H locs hw_7 hP hD hS => ?_)
    obtain ⟨rfl, rfl⟩ := hw_7
    have hP : va_P G.1 classes [(b20, .inl (G.2 0, 2, .inl (upd (fun _ => 0) 0 0))), (b11, .inl (G.2 0, 4820, .inl (upd (upd (upd (upd (upd (upd (upd (upd (upd (upd (fun _ => 0) 0 (-1)) 1 (-1)) 2 (-1)) 3 (-1)) 4 (-1)) 5 (-1)) 6 (-1)) 7 (-1)) 8 (-1)) 9 (-1)))), (b14, .inl (G.2 0, 482, .inl (upd (upd (fun _ => 0) 0 0) 0 0))), (b16, .inl (G.2 0, 2, .inl (upd (fun _ => 0) 0 0))), (b10, .inl (G.2 0, 2, .inl (upd (upd (fun _ => 0) 0 0) 0 1))), (b0, .inr (12, [.int 0, .ref b2, .ref b3, .ref b4, .ref b5, .int 0, .ref b6, .int 0, .int 0, .int 0, .int 0, .ref b7, .ref b8, .ref b9, .int 0, .ref b10, .ref b11, .ref b12, .ref b13, .ref b14, .ref b15, .ref b16, .ref b17, .ref b18, .ref b19, .ref b20, .ref b21, .int 0, .ref b22, .ref b23, .int 0, .int 0, .int 0, .int 0, .ref b24, .ref b25, .ref b26, .ref b27, .ref b28, .ref b29, .ref b30, .int 0, .ref b31, .ref b32, .int 0, .ref b33, .ref b34, .ref b35, .ref b36, .ref b37, .int 0, .ref b38, .ref b39, .ref b40])), (b2, .inl (G.2 0, 503, .inl (upd (fun _ => 0) 501 1)))] H := hP
    have hD := z_tie hP hD rfl
    refine W.widen (k := 0) (n := 0) (Nat.le_of_ble_eq_true rfl) (Nat.le_of_ble_eq_true rfl) ?_
    refine lv_iconst (v := 0) hx hb d_Model_vague_21 (by decide) ?_
    refine lv_istore_n (lv' := [(2, .int 0), (0, .ref b0), (1, .int p0)]) hx hb d_Model_vague_22 rfl hl (by decide) rfl (fun ls hl => ?_)
    refine lv_iconst (v := 0) hx hb d_Model_vague_23 (by decide) ?_
    refine lv_istore_n (lv' := [(3, .int 0), (2, .int 0), (0, .ref b0), (1, .int p0)]) hx hb d_Model_vague_24 rfl hl (by decide) rfl (fun ls hl => ?_)
    refine lv_iload_n hx hb d_Model_vague_25 rfl (lv_at hl 0 rfl) ?_
    refine lv_aload_n hx hb d_Model_vague_26 rfl (lv_at hl 2 rfl) ?_
    refine va_get (D := G.1) (ci := 12) (v := .ref b20) (C := R_Model) (T := F_Model) (N := 54) hx hb hts i_Model hown hK hP 5 rfl rfl 25 (by decide) (hts _ q1138) (fun _ h9 => h9) rfl d_Model_vague_27 ?_
    refine lv_iconst (v := 0) hx hb d_Model_vague_30 (by decide) ?_
    refine va_iald hx hb hK hP 0 0 rfl rfl (i := 0) (z_in rfl) d_Model_vague_31 ?_
    refine z_topi (y := 0) rfl ?_
    refine lv_icmp_ge (tgt := 95) hx hb d_Model_vague_32 (by decide) (fun _ => ?_) (fun hc => absurd hc (by decide +kernel))
    refine lv_iload_n hx hb d_Model_vague_95 rfl (lv_at hl 1 rfl) ?_
    exact z_iret hx hb hr hlocks hP hD hS (Nat.le_of_ble_eq_true rfl) (Nat.le_of_ble_eq_true rfl) d_Model_vague_96 (congrArg (fun z => some (Value.int z)) (by unfold a_vague; (first | rfl | (repeat (first | rw [if_pos (by omega)] | rw [if_neg (by omega)])))))
theorem d_Model_run_0 : decode prog_14_method_51_code 0 = .ok (.aload_n 0, 1) := by decide +kernel
theorem d_Model_run_1 : decode prog_14_method_51_code 1 = .ok (.iconst 0, 1) := by decide +kernel
theorem d_Model_run_2 : decode prog_14_method_51_code 2 = .ok (.putfield 1, 3) := by decide +kernel
theorem d_Model_run_5 : decode prog_14_method_51_code 5 = .ok (.aload_n 0, 1) := by decide +kernel
theorem d_Model_run_6 : decode prog_14_method_51_code 6 = .ok (.iconst 0, 1) := by decide +kernel
theorem d_Model_run_7 : decode prog_14_method_51_code 7 = .ok (.putfield 149, 3) := by decide +kernel
theorem d_Model_run_10 : decode prog_14_method_51_code 10 = .ok (.aload_n 0, 1) := by decide +kernel
theorem d_Model_run_11 : decode prog_14_method_51_code 11 = .ok (.iconst 1, 1) := by decide +kernel
theorem d_Model_run_12 : decode prog_14_method_51_code 12 = .ok (.putfield 145, 3) := by decide +kernel
theorem d_Model_run_15 : decode prog_14_method_51_code 15 = .ok (.aload_n 0, 1) := by decide +kernel
theorem d_Model_run_16 : decode prog_14_method_51_code 16 = .ok (.invokevirtual 176, 3) := by decide +kernel
theorem d_Model_run_19 : decode prog_14_method_51_code 19 = .ok (.aload_n 0, 1) := by decide +kernel
theorem d_Model_run_20 : decode prog_14_method_51_code 20 = .ok (.invokevirtual 185, 3) := by decide +kernel
theorem d_Model_run_23 : decode prog_14_method_51_code 23 = .ok (.aload_n 0, 1) := by decide +kernel
theorem d_Model_run_24 : decode prog_14_method_51_code 24 = .ok (.getfield 145, 3) := by decide +kernel
theorem d_Model_run_27 : decode prog_14_method_51_code 27 = .ok (.ifCond .ne 12, 3) := by decide +kernel
theorem d_Model_run_39 : decode prog_14_method_51_code 39 = .ok (.aload_n 0, 1) := by decide +kernel
theorem d_Model_run_40 : decode prog_14_method_51_code 40 = .ok (.invokevirtual 254, 3) := by decide +kernel
abbrev m_c2_Model_newPrefix : Room := { frames := 0, cells := 0, slots := 0, locals := 0 }
set_option maxHeartbeats 4000000 in
set_option maxRecDepth 100000 in
theorem c2_Model_newPrefix (l : Launch) (G : zG) (b0 : Nat) (b1 : Nat) (b2 : Nat) (b3 : Nat) (b4 : Nat) (b5 : Nat) (b6 : Nat) (b7 : Nat) (b8 : Nat) (b9 : Nat) (b10 : Nat) (b11 : Nat) (b12 : Nat) (b13 : Nat) (b14 : Nat) (b15 : Nat) (b16 : Nat) (b17 : Nat) (b18 : Nat) (b19 : Nat) (b20 : Nat) (b21 : Nat) (b22 : Nat) (b23 : Nat) (b24 : Nat) (b25 : Nat) (b26 : Nat) (b27 : Nat) (b28 : Nat) (b29 : Nat) (b30 : Nat) (b31 : Nat) (b32 : Nat) (b33 : Nat) (b34 : Nat) (b35 : Nat) (b36 : Nat) (b37 : Nat) (b38 : Nat) (b39 : Nat)  : zM l G y_Model_newPrefix prog_14_method_26_code 4 (Option.none : Option Jvm.ClassFile.FieldType) m_c2_Model_newPrefix [.ref b0, .int 0] [(b0, .inr (12, [.int 0, .ref b1, .ref b2, .ref b3, .ref b4, .int 0, .ref b5, .int 0, .int 0, .int 0, .int 1, .ref b6, .ref b7, .ref b8, .int 0, .ref b9, .ref b10, .ref b11, .ref b12, .ref b13, .ref b14, .ref b15, .ref b16, .ref b17, .ref b18, .ref b19, .ref b20, .int 0, .ref b21, .ref b22, .int 0, .int 0, .int 0, .int 0, .ref b23, .ref b24, .ref b25, .ref b26, .ref b27, .ref b28, .ref b29, .int 0, .ref b30, .ref b31, .int 0, .ref b32, .ref b33, .ref b34, .ref b35, .ref b36, .int 0, .ref b37, .ref b38, .ref b39])), (b9, .inl (G.2 0, 2, .inl (upd (fun _ => 0) 0 0))), (b10, .inl (G.2 0, 4820, .inl (fun _ => 0))), (b13, .inl (G.2 0, 482, .inl (fun _ => 0)))] (fun v w => (v = none ∧ w = [(b0, .inr (12, [.int 0, .ref b1, .ref b2, .ref b3, .ref b4, .int 0, .ref b5, .int 0, .int 0, .int 0, .int 1, .ref b6, .ref b7, .ref b8, .int 0, .ref b9, .ref b10, .ref b11, .ref b12, .ref b13, .ref b14, .ref b15, .ref b16, .ref b17, .ref b18, .ref b19, .ref b20, .int 0, .ref b21, .ref b22, .int 0, .int 0, .int 0, .int 0, .ref b23, .ref b24, .ref b25, .ref b26, .ref b27, .ref b28, .ref b29, .int 0, .ref b30, .ref b31, .int 0, .ref b32, .ref b33, .ref b34, .ref b35, .ref b36, .int 0, .ref b37, .ref b38, .ref b39])), (b9, .inl (G.2 0, 2, .inl (upd (upd (fun _ => 0) 0 0) 0 1))), (b10, .inl (G.2 0, 4820, .inl (upd (upd (upd (upd (upd (upd (upd (upd (upd (upd (fun _ => 0) 0 (-1)) 1 (-1)) 2 (-1)) 3 (-1)) 4 (-1)) 5 (-1)) 6 (-1)) 7 (-1)) 8 (-1)) 9 (-1)))), (b13, .inl (G.2 0, 482, .inl (upd (fun _ => 0) 0 0)))])) := by
  refine z_start (by decide +kernel) (Nat.le_of_ble_eq_true rfl) ?_
  intro p e s m below meth c A Z hr hnm hA hP hD hS ls hl
  have Z : zC p s m _ meth c prog_14_method_26_code 4 "TraceMachinesModel" G := Z
  obtain ⟨hx, hb, hml, hown, hts, hK, hN, hlocks⟩ := id Z
  have hl : lv_has ls 4 [(0, .ref b0), (1, .int 0)] := hl
  refine lv_sipush (v := 241) hx hb d_Model_newPrefix_0 (by decide) ?_
  refine lv_iload_n hx hb d_Model_newPrefix_3 rfl (lv_at hl 1 rfl) ?_
  refine lv_imul hx hb d_Model_newPrefix_4 ?_
  refine z_topi (y := 0) (by decide +kernel) ?_
  refine lv_aload_n hx hb d_Model_newPrefix_5 rfl (lv_at hl 0 rfl) ?_
  refine va_get (D := G.1) (ci := 12) (v := .ref b9) (C := R_Model) (T := F_Model) (N := 54) hx hb hts i_Model hown hK hP 0 rfl rfl 15 (by decide) (hts _ q1128) (fun _ h9 => h9) rfl d_Model_newPrefix_6 ?_
  refine lv_iload_n hx hb d_Model_newPrefix_9 rfl (lv_at hl 1 rfl) ?_
  refine va_iald hx hb hK hP 1 0 rfl rfl (i := 0) (z_in rfl) d_Model_newPrefix_10 ?_
  refine z_topi (y := 0) rfl ?_
  refine lv_iadd hx hb d_Model_newPrefix_11 ?_
  refine z_topi (y := 0) (by decide +kernel) ?_
  refine lv_istore_n (lv' := [(2, .int 0), (0, .ref b0), (1, .int 0)]) hx hb d_Model_newPrefix_12 rfl hl (by decide) rfl (fun ls hl => ?_)
  refine lv_iconst (v := 0) hx hb d_Model_newPrefix_13 (by decide) ?_
  refine lv_istore_n (lv' := [(3, .int 0), (2, .int 0), (0, .ref b0), (1, .int 0)]) hx hb d_Model_newPrefix_14 rfl hl (by decide) rfl (fun ls hl => ?_)
  refine lv_iload_n hx hb d_Model_newPrefix_15 rfl (lv_at hl 0 rfl) ?_
  refine lv_bipush (v := 10) hx hb d_Model_newPrefix_16 (by decide) ?_
  refine lv_icmp_ge (tgt := 39) hx hb d_Model_newPrefix_18 (by decide) (fun hc => absurd hc (by decide +kernel)) (fun _ => ?_)
  refine lv_aload_n hx hb d_Model_newPrefix_21 rfl (lv_at hl 2 rfl) ?_
  refine va_get (D := G.1) (ci := 12) (v := .ref b10) (C := R_Model) (T := F_Model) (N := 54) hx hb hts i_Model hown hK hP 0 rfl rfl 16 (by decide) (hts _ q1129) (fun _ h9 => h9) rfl d_Model_newPrefix_22 ?_
  refine lv_bipush (v := 10) hx hb d_Model_newPrefix_25 (by decide) ?_
  refine lv_iload_n hx hb d_Model_newPrefix_27 rfl (lv_at hl 1 rfl) ?_
  refine lv_imul hx hb d_Model_newPrefix_28 ?_
  refine z_topi (y := 0) (by decide +kernel) ?_
  refine lv_iload_n hx hb d_Model_newPrefix_29 rfl (lv_at hl 0 rfl) ?_
  refine lv_iadd hx hb d_Model_newPrefix_30 ?_
  refine z_topi (y := 0) (by decide +kernel) ?_
  refine lv_iconst (v := (-1)) hx hb d_Model_newPrefix_31 (by decide) ?_
  refine va_iast hx hb hK hP hD hS 2 0 rfl rfl (i := 0) (z_in rfl) d_Model_newPrefix_32 (fun H locs hP hD hS => ?_)
  have hP : va_P G.1 classes [(b0, .inr (12, [.int 0, .ref b1, .ref b2, .ref b3, .ref b4, .int 0, .ref b5, .int 0, .int 0, .int 0, .int 1, .ref b6, .ref b7, .ref b8, .int 0, .ref b9, .ref b10, .ref b11, .ref b12, .ref b13, .ref b14, .ref b15, .ref b16, .ref b17, .ref b18, .ref b19, .ref b20, .int 0, .ref b21, .ref b22, .int 0, .int 0, .int 0, .int 0, .ref b23, .ref b24, .ref b25, .ref b26, .ref b27, .ref b28, .ref b29, .int 0, .ref b30, .ref b31, .int 0, .ref b32, .ref b33, .ref b34, .ref b35, .ref b36, .int 0, .ref b37, .ref b38, .ref b39])), (b9, .inl (G.2 0, 2, .inl (upd (fun _ => 0) 0 0))), (b10, .inl (G.2 0, 4820, .inl (upd (fun _ => 0) 0 (-1)))), (b13, .inl (G.2 0, 482, .inl (fun _ => 0)))] H := hP
  have hD := z_tie hP hD rfl
  refine lv_iinc (v := 1) (lv' := [(3, .int 1), (2, .int 0), (0, .ref b0), (1, .int 0)]) hx hb d_Model_newPrefix_33 hl (k := 0) rfl (by decide +kernel) (by decide) rfl (fun ls hl => ?_)
  refine lv_goto (tgt := 15) hx hb d_Model_newPrefix_36 (by decide) ?_
  refine lv_iload_n hx hb d_Model_newPrefix_15 rfl (lv_at hl 0 rfl) ?_
  refine lv_bipush (v := 10) hx hb d_Model_newPrefix_16 (by decide) ?_
  refine lv_icmp_ge (tgt := 39) hx hb d_Model_newPrefix_18 (by decide) (fun hc => absurd hc (by decide +kernel)) (fun _ => ?_)
  refine lv_aload_n hx hb d_Model_newPrefix_21 rfl (lv_at hl 2 rfl) ?_
  refine va_get (D := G.1) (ci := 12) (v := .ref b10) (C := R_Model) (T := F_Model) (N := 54) hx hb hts i_Model hown hK hP 0 rfl rfl 16 (by decide) (hts _ q1129) (fun _ h9 => h9) rfl d_Model_newPrefix_22 ?_
  refine lv_bipush (v := 10) hx hb d_Model_newPrefix_25 (by decide) ?_
  refine lv_iload_n hx hb d_Model_newPrefix_27 rfl (lv_at hl 1 rfl) ?_
  refine lv_imul hx hb d_Model_newPrefix_28 ?_
  refine z_topi (y := 0) (by decide +kernel) ?_
  refine lv_iload_n hx hb d_Model_newPrefix_29 rfl (lv_at hl 0 rfl) ?_
  refine lv_iadd hx hb d_Model_newPrefix_30 ?_
  refine z_topi (y := 1) (by decide +kernel) ?_
  refine lv_iconst (v := (-1)) hx hb d_Model_newPrefix_31 (by decide) ?_
  refine va_iast hx hb hK hP hD hS 2 0 rfl rfl (i := 1) (z_in rfl) d_Model_newPrefix_32 (fun H locs hP hD hS => ?_)
  have hP : va_P G.1 classes [(b0, .inr (12, [.int 0, .ref b1, .ref b2, .ref b3, .ref b4, .int 0, .ref b5, .int 0, .int 0, .int 0, .int 1, .ref b6, .ref b7, .ref b8, .int 0, .ref b9, .ref b10, .ref b11, .ref b12, .ref b13, .ref b14, .ref b15, .ref b16, .ref b17, .ref b18, .ref b19, .ref b20, .int 0, .ref b21, .ref b22, .int 0, .int 0, .int 0, .int 0, .ref b23, .ref b24, .ref b25, .ref b26, .ref b27, .ref b28, .ref b29, .int 0, .ref b30, .ref b31, .int 0, .ref b32, .ref b33, .ref b34, .ref b35, .ref b36, .int 0, .ref b37, .ref b38, .ref b39])), (b9, .inl (G.2 0, 2, .inl (upd (fun _ => 0) 0 0))), (b10, .inl (G.2 0, 4820, .inl (upd (upd (fun _ => 0) 0 (-1)) 1 (-1)))), (b13, .inl (G.2 0, 482, .inl (fun _ => 0)))] H := hP
  have hD := z_tie hP hD rfl
  refine lv_iinc (v := 2) (lv' := [(3, .int 2), (2, .int 0), (0, .ref b0), (1, .int 0)]) hx hb d_Model_newPrefix_33 hl (k := 0) rfl (by decide +kernel) (by decide) rfl (fun ls hl => ?_)
  refine lv_goto (tgt := 15) hx hb d_Model_newPrefix_36 (by decide) ?_
  refine lv_iload_n hx hb d_Model_newPrefix_15 rfl (lv_at hl 0 rfl) ?_
  refine lv_bipush (v := 10) hx hb d_Model_newPrefix_16 (by decide) ?_
  refine lv_icmp_ge (tgt := 39) hx hb d_Model_newPrefix_18 (by decide) (fun hc => absurd hc (by decide +kernel)) (fun _ => ?_)
  refine lv_aload_n hx hb d_Model_newPrefix_21 rfl (lv_at hl 2 rfl) ?_
  refine va_get (D := G.1) (ci := 12) (v := .ref b10) (C := R_Model) (T := F_Model) (N := 54) hx hb hts i_Model hown hK hP 0 rfl rfl 16 (by decide) (hts _ q1129) (fun _ h9 => h9) rfl d_Model_newPrefix_22 ?_
  refine lv_bipush (v := 10) hx hb d_Model_newPrefix_25 (by decide) ?_
  refine lv_iload_n hx hb d_Model_newPrefix_27 rfl (lv_at hl 1 rfl) ?_
  refine lv_imul hx hb d_Model_newPrefix_28 ?_
  refine z_topi (y := 0) (by decide +kernel) ?_
  refine lv_iload_n hx hb d_Model_newPrefix_29 rfl (lv_at hl 0 rfl) ?_
  refine lv_iadd hx hb d_Model_newPrefix_30 ?_
  refine z_topi (y := 2) (by decide +kernel) ?_
  refine lv_iconst (v := (-1)) hx hb d_Model_newPrefix_31 (by decide) ?_
  refine va_iast hx hb hK hP hD hS 2 0 rfl rfl (i := 2) (z_in rfl) d_Model_newPrefix_32 (fun H locs hP hD hS => ?_)
  have hP : va_P G.1 classes [(b0, .inr (12, [.int 0, .ref b1, .ref b2, .ref b3, .ref b4, .int 0, .ref b5, .int 0, .int 0, .int 0, .int 1, .ref b6, .ref b7, .ref b8, .int 0, .ref b9, .ref b10, .ref b11, .ref b12, .ref b13, .ref b14, .ref b15, .ref b16, .ref b17, .ref b18, .ref b19, .ref b20, .int 0, .ref b21, .ref b22, .int 0, .int 0, .int 0, .int 0, .ref b23, .ref b24, .ref b25, .ref b26, .ref b27, .ref b28, .ref b29, .int 0, .ref b30, .ref b31, .int 0, .ref b32, .ref b33, .ref b34, .ref b35, .ref b36, .int 0, .ref b37, .ref b38, .ref b39])), (b9, .inl (G.2 0, 2, .inl (upd (fun _ => 0) 0 0))), (b10, .inl (G.2 0, 4820, .inl (upd (upd (upd (fun _ => 0) 0 (-1)) 1 (-1)) 2 (-1)))), (b13, .inl (G.2 0, 482, .inl (fun _ => 0)))] H := hP
  have hD := z_tie hP hD rfl
  refine lv_iinc (v := 3) (lv' := [(3, .int 3), (2, .int 0), (0, .ref b0), (1, .int 0)]) hx hb d_Model_newPrefix_33 hl (k := 0) rfl (by decide +kernel) (by decide) rfl (fun ls hl => ?_)
  refine lv_goto (tgt := 15) hx hb d_Model_newPrefix_36 (by decide) ?_
  refine lv_iload_n hx hb d_Model_newPrefix_15 rfl (lv_at hl 0 rfl) ?_
  refine lv_bipush (v := 10) hx hb d_Model_newPrefix_16 (by decide) ?_
  refine lv_icmp_ge (tgt := 39) hx hb d_Model_newPrefix_18 (by decide) (fun hc => absurd hc (by decide +kernel)) (fun _ => ?_)
  refine lv_aload_n hx hb d_Model_newPrefix_21 rfl (lv_at hl 2 rfl) ?_
  refine va_get (D := G.1) (ci := 12) (v := .ref b10) (C := R_Model) (T := F_Model) (N := 54) hx hb hts i_Model hown hK hP 0 rfl rfl 16 (by decide) (hts _ q1129) (fun _ h9 => h9) rfl d_Model_newPrefix_22 ?_
  refine lv_bipush (v := 10) hx hb d_Model_newPrefix_25 (by decide) ?_
  refine lv_iload_n hx hb d_Model_newPrefix_27 rfl (lv_at hl 1 rfl) ?_
  refine lv_imul hx hb d_Model_newPrefix_28 ?_
  refine z_topi (y := 0) (by decide +kernel) ?_
  refine lv_iload_n hx hb d_Model_newPrefix_29 rfl (lv_at hl 0 rfl) ?_
  refine lv_iadd hx hb d_Model_newPrefix_30 ?_
  refine z_topi (y := 3) (by decide +kernel) ?_
  refine lv_iconst (v := (-1)) hx hb d_Model_newPrefix_31 (by decide) ?_
  refine va_iast hx hb hK hP hD hS 2 0 rfl rfl (i := 3) (z_in rfl) d_Model_newPrefix_32 (fun H locs hP hD hS => ?_)
  have hP : va_P G.1 classes [(b0, .inr (12, [.int 0, .ref b1, .ref b2, .ref b3, .ref b4, .int 0, .ref b5, .int 0, .int 0, .int 0, .int 1, .ref b6, .ref b7, .ref b8, .int 0, .ref b9, .ref b10, .ref b11, .ref b12, .ref b13, .ref b14, .ref b15, .ref b16, .ref b17, .ref b18, .ref b19, .ref b20, .int 0, .ref b21, .ref b22, .int 0, .int 0, .int 0, .int 0, .ref b23, .ref b24, .ref b25, .ref b26, .ref b27, .ref b28, .ref b29, .int 0, .ref b30, .ref b31, .int 0, .ref b32, .ref b33, .ref b34, .ref b35, .ref b36, .int 0, .ref b37, .ref b38, .ref b39])), (b9, .inl (G.2 0, 2, .inl (upd (fun _ => 0) 0 0))), (b10, .inl (G.2 0, 4820, .inl (upd (upd (upd (upd (fun _ => 0) 0 (-1)) 1 (-1)) 2 (-1)) 3 (-1)))), (b13, .inl (G.2 0, 482, .inl (fun _ => 0)))] H := hP
  have hD := z_tie hP hD rfl
  refine lv_iinc (v := 4) (lv' := [(3, .int 4), (2, .int 0), (0, .ref b0), (1, .int 0)]) hx hb d_Model_newPrefix_33 hl (k := 0) rfl (by decide +kernel) (by decide) rfl (fun ls hl => ?_)
  refine lv_goto (tgt := 15) hx hb d_Model_newPrefix_36 (by decide) ?_
  refine lv_iload_n hx hb d_Model_newPrefix_15 rfl (lv_at hl 0 rfl) ?_
  refine lv_bipush (v := 10) hx hb d_Model_newPrefix_16 (by decide) ?_
  refine lv_icmp_ge (tgt := 39) hx hb d_Model_newPrefix_18 (by decide) (fun hc => absurd hc (by decide +kernel)) (fun _ => ?_)
  refine lv_aload_n hx hb d_Model_newPrefix_21 rfl (lv_at hl 2 rfl) ?_
  refine va_get (D := G.1) (ci := 12) (v := .ref b10) (C := R_Model) (T := F_Model) (N := 54) hx hb hts i_Model hown hK hP 0 rfl rfl 16 (by decide) (hts _ q1129) (fun _ h9 => h9) rfl d_Model_newPrefix_22 ?_
  refine lv_bipush (v := 10) hx hb d_Model_newPrefix_25 (by decide) ?_
  refine lv_iload_n hx hb d_Model_newPrefix_27 rfl (lv_at hl 1 rfl) ?_
  refine lv_imul hx hb d_Model_newPrefix_28 ?_
  refine z_topi (y := 0) (by decide +kernel) ?_
  refine lv_iload_n hx hb d_Model_newPrefix_29 rfl (lv_at hl 0 rfl) ?_
  refine lv_iadd hx hb d_Model_newPrefix_30 ?_
  refine z_topi (y := 4) (by decide +kernel) ?_
  refine lv_iconst (v := (-1)) hx hb d_Model_newPrefix_31 (by decide) ?_
  refine va_iast hx hb hK hP hD hS 2 0 rfl rfl (i := 4) (z_in rfl) d_Model_newPrefix_32 (fun H locs hP hD hS => ?_)
  have hP : va_P G.1 classes [(b0, .inr (12, [.int 0, .ref b1, .ref b2, .ref b3, .ref b4, .int 0, .ref b5, .int 0, .int 0, .int 0, .int 1, .ref b6, .ref b7, .ref b8, .int 0, .ref b9, .ref b10, .ref b11, .ref b12, .ref b13, .ref b14, .ref b15, .ref b16, .ref b17, .ref b18, .ref b19, .ref b20, .int 0, .ref b21, .ref b22, .int 0, .int 0, .int 0, .int 0, .ref b23, .ref b24, .ref b25, .ref b26, .ref b27, .ref b28, .ref b29, .int 0, .ref b30, .ref b31, .int 0, .ref b32, .ref b33, .ref b34, .ref b35, .ref b36, .int 0, .ref b37, .ref b38, .ref b39])), (b9, .inl (G.2 0, 2, .inl (upd (fun _ => 0) 0 0))), (b10, .inl (G.2 0, 4820, .inl (upd (upd (upd (upd (upd (fun _ => 0) 0 (-1)) 1 (-1)) 2 (-1)) 3 (-1)) 4 (-1)))), (b13, .inl (G.2 0, 482, .inl (fun _ => 0)))] H := hP
  have hD := z_tie hP hD rfl
  refine lv_iinc (v := 5) (lv' := [(3, .int 5), (2, .int 0), (0, .ref b0), (1, .int 0)]) hx hb d_Model_newPrefix_33 hl (k := 0) rfl (by decide +kernel) (by decide) rfl (fun ls hl => ?_)
  refine lv_goto (tgt := 15) hx hb d_Model_newPrefix_36 (by decide) ?_
  refine lv_iload_n hx hb d_Model_newPrefix_15 rfl (lv_at hl 0 rfl) ?_
  refine lv_bipush (v := 10) hx hb d_Model_newPrefix_16 (by decide) ?_
  refine lv_icmp_ge (tgt := 39) hx hb d_Model_newPrefix_18 (by decide) (fun hc => absurd hc (by decide +kernel)) (fun _ => ?_)
  refine lv_aload_n hx hb d_Model_newPrefix_21 rfl (lv_at hl 2 rfl) ?_
  refine va_get (D := G.1) (ci := 12) (v := .ref b10) (C := R_Model) (T := F_Model) (N := 54) hx hb hts i_Model hown hK hP 0 rfl rfl 16 (by decide) (hts _ q1129) (fun _ h9 => h9) rfl d_Model_newPrefix_22 ?_
  refine lv_bipush (v := 10) hx hb d_Model_newPrefix_25 (by decide) ?_
  refine lv_iload_n hx hb d_Model_newPrefix_27 rfl (lv_at hl 1 rfl) ?_
  refine lv_imul hx hb d_Model_newPrefix_28 ?_
  refine z_topi (y := 0) (by decide +kernel) ?_
  refine lv_iload_n hx hb d_Model_newPrefix_29 rfl (lv_at hl 0 rfl) ?_
  refine lv_iadd hx hb d_Model_newPrefix_30 ?_
  refine z_topi (y := 5) (by decide +kernel) ?_
  refine lv_iconst (v := (-1)) hx hb d_Model_newPrefix_31 (by decide) ?_
  refine va_iast hx hb hK hP hD hS 2 0 rfl rfl (i := 5) (z_in rfl) d_Model_newPrefix_32 (fun H locs hP hD hS => ?_)
  have hP : va_P G.1 classes [(b0, .inr (12, [.int 0, .ref b1, .ref b2, .ref b3, .ref b4, .int 0, .ref b5, .int 0, .int 0, .int 0, .int 1, .ref b6, .ref b7, .ref b8, .int 0, .ref b9, .ref b10, .ref b11, .ref b12, .ref b13, .ref b14, .ref b15, .ref b16, .ref b17, .ref b18, .ref b19, .ref b20, .int 0, .ref b21, .ref b22, .int 0, .int 0, .int 0, .int 0, .ref b23, .ref b24, .ref b25, .ref b26, .ref b27, .ref b28, .ref b29, .int 0, .ref b30, .ref b31, .int 0, .ref b32, .ref b33, .ref b34, .ref b35, .ref b36, .int 0, .ref b37, .ref b38, .ref b39])), (b9, .inl (G.2 0, 2, .inl (upd (fun _ => 0) 0 0))), (b10, .inl (G.2 0, 4820, .inl (upd (upd (upd (upd (upd (upd (fun _ => 0) 0 (-1)) 1 (-1)) 2 (-1)) 3 (-1)) 4 (-1)) 5 (-1)))), (b13, .inl (G.2 0, 482, .inl (fun _ => 0)))] H := hP
  have hD := z_tie hP hD rfl
  refine lv_iinc (v := 6) (lv' := [(3, .int 6), (2, .int 0), (0, .ref b0), (1, .int 0)]) hx hb d_Model_newPrefix_33 hl (k := 0) rfl (by decide +kernel) (by decide) rfl (fun ls hl => ?_)
  refine lv_goto (tgt := 15) hx hb d_Model_newPrefix_36 (by decide) ?_
  refine lv_iload_n hx hb d_Model_newPrefix_15 rfl (lv_at hl 0 rfl) ?_
  refine lv_bipush (v := 10) hx hb d_Model_newPrefix_16 (by decide) ?_
  refine lv_icmp_ge (tgt := 39) hx hb d_Model_newPrefix_18 (by decide) (fun hc => absurd hc (by decide +kernel)) (fun _ => ?_)
  refine lv_aload_n hx hb d_Model_newPrefix_21 rfl (lv_at hl 2 rfl) ?_
  refine va_get (D := G.1) (ci := 12) (v := .ref b10) (C := R_Model) (T := F_Model) (N := 54) hx hb hts i_Model hown hK hP 0 rfl rfl 16 (by decide) (hts _ q1129) (fun _ h9 => h9) rfl d_Model_newPrefix_22 ?_
  refine lv_bipush (v := 10) hx hb d_Model_newPrefix_25 (by decide) ?_
  refine lv_iload_n hx hb d_Model_newPrefix_27 rfl (lv_at hl 1 rfl) ?_
  refine lv_imul hx hb d_Model_newPrefix_28 ?_
  refine z_topi (y := 0) (by decide +kernel) ?_
  refine lv_iload_n hx hb d_Model_newPrefix_29 rfl (lv_at hl 0 rfl) ?_
  refine lv_iadd hx hb d_Model_newPrefix_30 ?_
  refine z_topi (y := 6) (by decide +kernel) ?_
  refine lv_iconst (v := (-1)) hx hb d_Model_newPrefix_31 (by decide) ?_
  refine va_iast hx hb hK hP hD hS 2 0 rfl rfl (i := 6) (z_in rfl) d_Model_newPrefix_32 (fun H locs hP hD hS => ?_)
  have hP : va_P G.1 classes [(b0, .inr (12, [.int 0, .ref b1, .ref b2, .ref b3, .ref b4, .int 0, .ref b5, .int 0, .int 0, .int 0, .int 1, .ref b6, .ref b7, .ref b8, .int 0, .ref b9, .ref b10, .ref b11, .ref b12, .ref b13, .ref b14, .ref b15, .ref b16, .ref b17, .ref b18, .ref b19, .ref b20, .int 0, .ref b21, .ref b22, .int 0, .int 0, .int 0, .int 0, .ref b23, .ref b24, .ref b25, .ref b26, .ref b27, .ref b28, .ref b29, .int 0, .ref b30, .ref b31, .int 0, .ref b32, .ref b33, .ref b34, .ref b35, .ref b36, .int 0, .ref b37, .ref b38, .ref b39])), (b9, .inl (G.2 0, 2, .inl (upd (fun _ => 0) 0 0))), (b10, .inl (G.2 0, 4820, .inl (upd (upd (upd (upd (upd (upd (upd (fun _ => 0) 0 (-1)) 1 (-1)) 2 (-1)) 3 (-1)) 4 (-1)) 5 (-1)) 6 (-1)))), (b13, .inl (G.2 0, 482, .inl (fun _ => 0)))] H := hP
  have hD := z_tie hP hD rfl
  refine lv_iinc (v := 7) (lv' := [(3, .int 7), (2, .int 0), (0, .ref b0), (1, .int 0)]) hx hb d_Model_newPrefix_33 hl (k := 0) rfl (by decide +kernel) (by decide) rfl (fun ls hl => ?_)
  refine lv_goto (tgt := 15) hx hb d_Model_newPrefix_36 (by decide) ?_
  refine lv_iload_n hx hb d_Model_newPrefix_15 rfl (lv_at hl 0 rfl) ?_
  refine lv_bipush (v := 10) hx hb d_Model_newPrefix_16 (by decide) ?_
  refine lv_icmp_ge (tgt := 39) hx hb d_Model_newPrefix_18 (by decide) (fun hc => absurd hc (by decide +kernel)) (fun _ => ?_)
  refine lv_aload_n hx hb d_Model_newPrefix_21 rfl (lv_at hl 2 rfl) ?_
  refine va_get (D := G.1) (ci := 12) (v := .ref b10) (C := R_Model) (T := F_Model) (N := 54) hx hb hts i_Model hown hK hP 0 rfl rfl 16 (by decide) (hts _ q1129) (fun _ h9 => h9) rfl d_Model_newPrefix_22 ?_
  refine lv_bipush (v := 10) hx hb d_Model_newPrefix_25 (by decide) ?_
  refine lv_iload_n hx hb d_Model_newPrefix_27 rfl (lv_at hl 1 rfl) ?_
  refine lv_imul hx hb d_Model_newPrefix_28 ?_
  refine z_topi (y := 0) (by decide +kernel) ?_
  refine lv_iload_n hx hb d_Model_newPrefix_29 rfl (lv_at hl 0 rfl) ?_
  refine lv_iadd hx hb d_Model_newPrefix_30 ?_
  refine z_topi (y := 7) (by decide +kernel) ?_
  refine lv_iconst (v := (-1)) hx hb d_Model_newPrefix_31 (by decide) ?_
  refine va_iast hx hb hK hP hD hS 2 0 rfl rfl (i := 7) (z_in rfl) d_Model_newPrefix_32 (fun H locs hP hD hS => ?_)
  have hP : va_P G.1 classes [(b0, .inr (12, [.int 0, .ref b1, .ref b2, .ref b3, .ref b4, .int 0, .ref b5, .int 0, .int 0, .int 0, .int 1, .ref b6, .ref b7, .ref b8, .int 0, .ref b9, .ref b10, .ref b11, .ref b12, .ref b13, .ref b14, .ref b15, .ref b16, .ref b17, .ref b18, .ref b19, .ref b20, .int 0, .ref b21, .ref b22, .int 0, .int 0, .int 0, .int 0, .ref b23, .ref b24, .ref b25, .ref b26, .ref b27, .ref b28, .ref b29, .int 0, .ref b30, .ref b31, .int 0, .ref b32, .ref b33, .ref b34, .ref b35, .ref b36, .int 0, .ref b37, .ref b38, .ref b39])), (b9, .inl (G.2 0, 2, .inl (upd (fun _ => 0) 0 0))), (b10, .inl (G.2 0, 4820, .inl (upd (upd (upd (upd (upd (upd (upd (upd (fun _ => 0) 0 (-1)) 1 (-1)) 2 (-1)) 3 (-1)) 4 (-1)) 5 (-1)) 6 (-1)) 7 (-1)))), (b13, .inl (G.2 0, 482, .inl (fun _ => 0)))] H := hP
  have hD := z_tie hP hD rfl
  refine lv_iinc (v := 8) (lv' := [(3, .int 8), (2, .int 0), (0, .ref b0), (1, .int 0)]) hx hb d_Model_newPrefix_33 hl (k := 0) rfl (by decide +kernel) (by decide) rfl (fun ls hl => ?_)
  refine lv_goto (tgt := 15) hx hb d_Model_newPrefix_36 (by decide) ?_
  refine lv_iload_n hx hb d_Model_newPrefix_15 rfl (lv_at hl 0 rfl) ?_
  refine lv_bipush (v := 10) hx hb d_Model_newPrefix_16 (by decide) ?_
  refine lv_icmp_ge (tgt := 39) hx hb d_Model_newPrefix_18 (by decide) (fun hc => absurd hc (by decide +kernel)) (fun _ => ?_)
  refine lv_aload_n hx hb d_Model_newPrefix_21 rfl (lv_at hl 2 rfl) ?_
  refine va_get (D := G.1) (ci := 12) (v := .ref b10) (C := R_Model) (T := F_Model) (N := 54) hx hb hts i_Model hown hK hP 0 rfl rfl 16 (by decide) (hts _ q1129) (fun _ h9 => h9) rfl d_Model_newPrefix_22 ?_
  refine lv_bipush (v := 10) hx hb d_Model_newPrefix_25 (by decide) ?_
  refine lv_iload_n hx hb d_Model_newPrefix_27 rfl (lv_at hl 1 rfl) ?_
  refine lv_imul hx hb d_Model_newPrefix_28 ?_
  refine z_topi (y := 0) (by decide +kernel) ?_
  refine lv_iload_n hx hb d_Model_newPrefix_29 rfl (lv_at hl 0 rfl) ?_
  refine lv_iadd hx hb d_Model_newPrefix_30 ?_
  refine z_topi (y := 8) (by decide +kernel) ?_
  refine lv_iconst (v := (-1)) hx hb d_Model_newPrefix_31 (by decide) ?_
  refine va_iast hx hb hK hP hD hS 2 0 rfl rfl (i := 8) (z_in rfl) d_Model_newPrefix_32 (fun H locs hP hD hS => ?_)
  have hP : va_P G.1 classes [(b0, .inr (12, [.int 0, .ref b1, .ref b2, .ref b3, .ref b4, .int 0, .ref b5, .int 0, .int 0, .int 0, .int 1, .ref b6, .ref b7, .ref b8, .int 0, .ref b9, .ref b10, .ref b11, .ref b12, .ref b13, .ref b14, .ref b15, .ref b16, .ref b17, .ref b18, .ref b19, .ref b20, .int 0, .ref b21, .ref b22, .int 0, .int 0, .int 0, .int 0, .ref b23, .ref b24, .ref b25, .ref b26, .ref b27, .ref b28, .ref b29, .int 0, .ref b30, .ref b31, .int 0, .ref b32, .ref b33, .ref b34, .ref b35, .ref b36, .int 0, .ref b37, .ref b38, .ref b39])), (b9, .inl (G.2 0, 2, .inl (upd (fun _ => 0) 0 0))), (b10, .inl (G.2 0, 4820, .inl (upd (upd (upd (upd (upd (upd (upd (upd (upd (fun _ => 0) 0 (-1)) 1 (-1)) 2 (-1)) 3 (-1)) 4 (-1)) 5 (-1)) 6 (-1)) 7 (-1)) 8 (-1)))), (b13, .inl (G.2 0, 482, .inl (fun _ => 0)))] H := hP
  have hD := z_tie hP hD rfl
  refine lv_iinc (v := 9) (lv' := [(3, .int 9), (2, .int 0), (0, .ref b0), (1, .int 0)]) hx hb d_Model_newPrefix_33 hl (k := 0) rfl (by decide +kernel) (by decide) rfl (fun ls hl => ?_)
  refine lv_goto (tgt := 15) hx hb d_Model_newPrefix_36 (by decide) ?_
  refine lv_iload_n hx hb d_Model_newPrefix_15 rfl (lv_at hl 0 rfl) ?_
  refine lv_bipush (v := 10) hx hb d_Model_newPrefix_16 (by decide) ?_
  refine lv_icmp_ge (tgt := 39) hx hb d_Model_newPrefix_18 (by decide) (fun hc => absurd hc (by decide +kernel)) (fun _ => ?_)
  refine lv_aload_n hx hb d_Model_newPrefix_21 rfl (lv_at hl 2 rfl) ?_
  refine va_get (D := G.1) (ci := 12) (v := .ref b10) (C := R_Model) (T := F_Model) (N := 54) hx hb hts i_Model hown hK hP 0 rfl rfl 16 (by decide) (hts _ q1129) (fun _ h9 => h9) rfl d_Model_newPrefix_22 ?_
  refine lv_bipush (v := 10) hx hb d_Model_newPrefix_25 (by decide) ?_
  refine lv_iload_n hx hb d_Model_newPrefix_27 rfl (lv_at hl 1 rfl) ?_
  refine lv_imul hx hb d_Model_newPrefix_28 ?_
  refine z_topi (y := 0) (by decide +kernel) ?_
  refine lv_iload_n hx hb d_Model_newPrefix_29 rfl (lv_at hl 0 rfl) ?_
  refine lv_iadd hx hb d_Model_newPrefix_30 ?_
  refine z_topi (y := 9) (by decide +kernel) ?_
  refine lv_iconst (v := (-1)) hx hb d_Model_newPrefix_31 (by decide) ?_
  refine va_iast hx hb hK hP hD hS 2 0 rfl rfl (i := 9) (z_in rfl) d_Model_newPrefix_32 (fun H locs hP hD hS => ?_)
  have hP : va_P G.1 classes [(b0, .inr (12, [.int 0, .ref b1, .ref b2, .ref b3, .ref b4, .int 0, .ref b5, .int 0, .int 0, .int 0, .int 1, .ref b6, .ref b7, .ref b8, .int 0, .ref b9, .ref b10, .ref b11, .ref b12, .ref b13, .ref b14, .ref b15, .ref b16, .ref b17, .ref b18, .ref b19, .ref b20, .int 0, .ref b21, .ref b22, .int 0, .int 0, .int 0, .int 0, .ref b23, .ref b24, .ref b25, .ref b26, .ref b27, .ref b28, .ref b29, .int 0, .ref b30, .ref b31, .int 0, .ref b32, .ref b33, .ref b34, .ref b35, .ref b36, .int 0, .ref b37, .ref b38, .ref b39])), (b9, .inl (G.2 0, 2, .inl (upd (fun _ => 0) 0 0))), (b10, .inl (G.2 0, 4820, .inl (upd (upd (upd (upd (upd (upd (upd (upd (upd (upd (fun _ => 0) 0 (-1)) 1 (-1)) 2 (-1)) 3 (-1)) 4 (-1)) 5 (-1)) 6 (-1)) 7 (-1)) 8 (-1)) 9 (-1)))), (b13, .inl (G.2 0, 482, .inl (fun _ => 0)))] H := hP
  have hD := z_tie hP hD rfl
  refine lv_iinc (v := 10) (lv' := [(3, .int 10), (2, .int 0), (0, .ref b0), (1, .int 0)]) hx hb d_Model_newPrefix_33 hl (k := 0) rfl (by decide +kernel) (by decide) rfl (fun ls hl => ?_)
  refine lv_goto (tgt := 15) hx hb d_Model_newPrefix_36 (by decide) ?_
  refine lv_iload_n hx hb d_Model_newPrefix_15 rfl (lv_at hl 0 rfl) ?_
  refine lv_bipush (v := 10) hx hb d_Model_newPrefix_16 (by decide) ?_
  refine lv_icmp_ge (tgt := 39) hx hb d_Model_newPrefix_18 (by decide) (fun _ => ?_) (fun hc => absurd hc (by decide +kernel))
  refine lv_aload_n hx hb d_Model_newPrefix_39 rfl (lv_at hl 2 rfl) ?_
  refine va_get (D := G.1) (ci := 12) (v := .ref b13) (C := R_Model) (T := F_Model) (N := 54) hx hb hts i_Model hown hK hP 0 rfl rfl 19 (by decide) (hts _ q1132) (fun _ h9 => h9) rfl d_Model_newPrefix_40 ?_
  refine lv_iload_n hx hb d_Model_newPrefix_43 rfl (lv_at hl 1 rfl) ?_
  refine lv_iconst (v := 0) hx hb d_Model_newPrefix_44 (by decide) ?_
  refine va_iast hx hb hK hP hD hS 3 0 rfl rfl (i := 0) (z_in rfl) d_Model_newPrefix_45 (fun H locs hP hD hS => ?_)
  have hP : va_P G.1 classes [(b0, .inr (12, [.int 0, .ref b1, .ref b2, .ref b3, .ref b4, .int 0, .ref b5, .int 0, .int 0, .int 0, .int 1, .ref b6, .ref b7, .ref b8, .int 0, .ref b9, .ref b10, .ref b11, .ref b12, .ref b13, .ref b14, .ref b15, .ref b16, .ref b17, .ref b18, .ref b19, .ref b20, .int 0, .ref b21, .ref b22, .int 0, .int 0, .int 0, .int 0, .ref b23, .ref b24, .ref b25, .ref b26, .ref b27, .ref b28, .ref b29, .int 0, .ref b30, .ref b31, .int 0, .ref b32, .ref b33, .ref b34, .ref b35, .ref b36, .int 0, .ref b37, .ref b38, .ref b39])), (b9, .inl (G.2 0, 2, .inl (upd (fun _ => 0) 0 0))), (b10, .inl (G.2 0, 4820, .inl (upd (upd (upd (upd (upd (upd (upd (upd (upd (upd (fun _ => 0) 0 (-1)) 1 (-1)) 2 (-1)) 3 (-1)) 4 (-1)) 5 (-1)) 6 (-1)) 7 (-1)) 8 (-1)) 9 (-1)))), (b13, .inl (G.2 0, 482, .inl (upd (fun _ => 0) 0 0)))] H := hP
  have hD := z_tie hP hD rfl
  refine lv_aload_n hx hb d_Model_newPrefix_46 rfl (lv_at hl 2 rfl) ?_
  refine va_get (D := G.1) (ci := 12) (v := .ref b9) (C := R_Model) (T := F_Model) (N := 54) hx hb hts i_Model hown hK hP 0 rfl rfl 15 (by decide) (hts _ q1128) (fun _ h9 => h9) rfl d_Model_newPrefix_47 ?_
  refine lv_iload_n hx hb d_Model_newPrefix_50 rfl (lv_at hl 3 rfl) ?_
  refine lv_dup2_11 hx hb d_Model_newPrefix_51 rfl rfl ?_
  refine va_iald hx hb hK hP 1 0 rfl rfl (i := 0) (z_in rfl) d_Model_newPrefix_52 ?_
  refine z_topi (y := 0) rfl ?_
  refine lv_iconst (v := 1) hx hb d_Model_newPrefix_53 (by decide) ?_
  refine lv_iadd hx hb d_Model_newPrefix_54 ?_
  refine z_topi (y := 1) (by decide +kernel) ?_
  refine va_iast hx hb hK hP hD hS 1 0 rfl rfl (i := 0) (z_in rfl) d_Model_newPrefix_55 (fun H locs hP hD hS => ?_)
  have hP : va_P G.1 classes [(b0, .inr (12, [.int 0, .ref b1, .ref b2, .ref b3, .ref b4, .int 0, .ref b5, .int 0, .int 0, .int 0, .int 1, .ref b6, .ref b7, .ref b8, .int 0, .ref b9, .ref b10, .ref b11, .ref b12, .ref b13, .ref b14, .ref b15, .ref b16, .ref b17, .ref b18, .ref b19, .ref b20, .int 0, .ref b21, .ref b22, .int 0, .int 0, .int 0, .int 0, .ref b23, .ref b24, .ref b25, .ref b26, .ref b27, .ref b28, .ref b29, .int 0, .ref b30, .ref b31, .int 0, .ref b32, .ref b33, .ref b34, .ref b35, .ref b36, .int 0, .ref b37, .ref b38, .ref b39])), (b9, .inl (G.2 0, 2, .inl (upd (upd (fun _ => 0) 0 0) 0 1))), (b10, .inl (G.2 0, 4820, .inl (upd (upd (upd (upd (upd (upd (upd (upd (upd (upd (fun _ => 0) 0 (-1)) 1 (-1)) 2 (-1)) 3 (-1)) 4 (-1)) 5 (-1)) 6 (-1)) 7 (-1)) 8 (-1)) 9 (-1)))), (b13, .inl (G.2 0, 482, .inl (upd (fun _ => 0) 0 0)))] H := hP
  have hD := z_tie hP hD rfl
  exact z_vret hx hb hr hlocks hP hD hS (Nat.le_of_ble_eq_true rfl) (Nat.le_of_ble_eq_true rfl) d_Model_newPrefix_56 ⟨rfl, rfl⟩
abbrev m_c3_Model_many : Room := { frames := 0, cells := 0, slots := 0, locals := 0 }
set_option maxHeartbeats 4000000 in
set_option maxRecDepth 100000 in
theorem c3_Model_many (l : Launch) (G : zG) (b0 : Nat) (b1 : Nat) (b2 : Nat) (b3 : Nat) (b4 : Nat) (b5 : Nat) (b6 : Nat) (b7 : Nat) (b8 : Nat) (b9 : Nat) (b10 : Nat) (b11 : Nat) (b12 : Nat) (b13 : Nat) (b14 : Nat) (b15 : Nat) (b16 : Nat) (b17 : Nat) (b18 : Nat) (b19 : Nat) (b20 : Nat) (b21 : Nat) (b22 : Nat) (b23 : Nat) (b24 : Nat) (b25 : Nat) (b26 : Nat) (b27 : Nat) (b28 : Nat) (b29 : Nat) (b30 : Nat) (b31 : Nat) (b32 : Nat) (b33 : Nat) (b34 : Nat) (b35 : Nat) (b36 : Nat) (b37 : Nat) (b38 : Nat) (b39 : Nat)  : zM l G y_Model_many prog_14_method_4_code 1 (Option.some Jvm.ClassFile.FieldType.int) m_c3_Model_many [.ref b0] [(b0, .inr (12, [.int 0, .ref b1, .ref b2, .ref b3, .ref b4, .int 0, .ref b5, .int 0, .int 0, .int 0, .int 1, .ref b6, .ref b7, .ref b8, .int 0, .ref b9, .ref b10, .ref b11, .ref b12, .ref b13, .ref b14, .ref b15, .ref b16, .ref b17, .ref b18, .ref b19, .ref b20, .int 0, .ref b21, .ref b22, .int 0, .int 0, .int 0, .int 0, .ref b23, .ref b24, .ref b25, .ref b26, .ref b27, .ref b28, .ref b29, .int 0, .ref b30, .ref b31, .int 0, .ref b32, .ref b33, .ref b34, .ref b35, .ref b36, .int 0, .ref b37, .ref b38, .ref b39])), (b1, .inl (G.2 0, 503, .inl (upd (fun _ => 0) 501 1)))] (fun v w => (v = some (.int 0) ∧ w = [(b0, .inr (12, [.int 0, .ref b1, .ref b2, .ref b3, .ref b4, .int 0, .ref b5, .int 0, .int 0, .int 0, .int 1, .ref b6, .ref b7, .ref b8, .int 0, .ref b9, .ref b10, .ref b11, .ref b12, .ref b13, .ref b14, .ref b15, .ref b16, .ref b17, .ref b18, .ref b19, .ref b20, .int 0, .ref b21, .ref b22, .int 0, .int 0, .int 0, .int 0, .ref b23, .ref b24, .ref b25, .ref b26, .ref b27, .ref b28, .ref b29, .int 0, .ref b30, .ref b31, .int 0, .ref b32, .ref b33, .ref b34, .ref b35, .ref b36, .int 0, .ref b37, .ref b38, .ref b39])), (b1, .inl (G.2 0, 503, .inl (upd (fun _ => 0) 501 1)))])) := by
  refine z_start (by decide +kernel) (Nat.le_of_ble_eq_true rfl) ?_
  intro p e s m below meth c A Z hr hnm hA hP hD hS ls hl
  have Z : zC p s m _ meth c prog_14_method_4_code 1 "TraceMachinesModel" G := Z
  obtain ⟨hx, hb, hml, hown, hts, hK, hN, hlocks⟩ := id Z
  have hl : lv_has ls 1 [(0, .ref b0)] := hl
  refine lv_aload_n hx hb d_Model_many_0 rfl (lv_at hl 0 rfl) ?_
  refine va_get (D := G.1) (ci := 12) (v := .ref b1) (C := R_Model) (T := F_Model) (N := 54) hx hb hts i_Model hown hK hP 0 rfl rfl 1 (by decide) (hts _ q1114) (fun _ h9 => h9) rfl d_Model_many_1 ?_
  refine lv_iconst (v := 0) hx hb d_Model_many_4 (by decide) ?_
  refine va_iald hx hb hK hP 1 0 rfl rfl (i := 0) (z_in rfl) d_Model_many_5 ?_
  refine z_topi (y := 0) rfl ?_
  exact z_iret hx hb hr hlocks hP hD hS (Nat.le_of_ble_eq_true rfl) (Nat.le_of_ble_eq_true rfl) d_Model_many_6 ⟨rfl, rfl⟩
abbrev m_c2_Model_layPrefixes : Room := { frames := 1, cells := 0, slots := 0, locals := 23 }
set_option maxHeartbeats 4000000 in
set_option maxRecDepth 100000 in
theorem c2_Model_layPrefixes (l : Launch) (G : zG) (b0 : Nat) (b1 : Nat) (b2 : Nat) (b3 : Nat) (b4 : Nat) (b5 : Nat) (b6 : Nat) (b7 : Nat) (b8 : Nat) (b9 : Nat) (b10 : Nat) (b11 : Nat) (b12 : Nat) (b13 : Nat) (b14 : Nat) (b15 : Nat) (b16 : Nat) (b17 : Nat) (b18 : Nat) (b19 : Nat) (b20 : Nat) (b21 : Nat) (b22 : Nat) (b23 : Nat) (b24 : Nat) (b25 : Nat) (b26 : Nat) (b27 : Nat) (b28 : Nat) (b29 : Nat) (b30 : Nat) (b31 : Nat) (b32 : Nat) (b33 : Nat) (b34 : Nat) (b35 : Nat) (b36 : Nat) (b37 : Nat) (b38 : Nat) (b39 : Nat)  : zM l G y_Model_layPrefixes prog_14_method_27_code 7 (Option.none : Option Jvm.ClassFile.FieldType) m_c2_Model_layPrefixes [.ref b0, .int 0, .int (-1)] [(b0, .inr (12, [.int 0, .ref b1, .ref b2, .ref b3, .ref b4, .int 0, .ref b5, .int 0, .int 0, .int 0, .int 1, .ref b6, .ref b7, .ref b8, .int 0, .ref b9, .ref b10, .ref b11, .ref b12, .ref b13, .ref b14, .ref b15, .ref b16, .ref b17, .ref b18, .ref b19, .ref b20, .int 0, .ref b21, .ref b22, .int 0, .int 0, .int 0, .int 0, .ref b23, .ref b24, .ref b25, .ref b26, .ref b27, .ref b28, .ref b29, .int 0, .ref b30, .ref b31, .int 0, .ref b32, .ref b33, .ref b34, .ref b35, .ref b36, .int 0, .ref b37, .ref b38, .ref b39])), (b9, .inl (G.2 0, 2, .inl (fun _ => 0))), (b10, .inl (G.2 0, 4820, .inl (fun _ => 0))), (b13, .inl (G.2 0, 482, .inl (fun _ => 0))), (b1, .inl (G.2 0, 503, .inl (upd (fun _ => 0) 501 1)))] (fun v w => (v = none ∧ w = [(b9, .inl (G.2 0, 2, .inl (upd (upd (fun _ => 0) 0 0) 0 1))), (b10, .inl (G.2 0, 4820, .inl (upd (upd (upd (upd (upd (upd (upd (upd (upd (upd (fun _ => 0) 0 (-1)) 1 (-1)) 2 (-1)) 3 (-1)) 4 (-1)) 5 (-1)) 6 (-1)) 7 (-1)) 8 (-1)) 9 (-1)))), (b13, .inl (G.2 0, 482, .inl (upd (fun _ => 0) 0 0))), (b0, .inr (12, [.int 0, .ref b1, .ref b2, .ref b3, .ref b4, .int 0, .ref b5, .int 0, .int 0, .int 0, .int 1, .ref b6, .ref b7, .ref b8, .int 0, .ref b9, .ref b10, .ref b11, .ref b12, .ref b13, .ref b14, .ref b15, .ref b16, .ref b17, .ref b18, .ref b19, .ref b20, .int 0, .ref b21, .ref b22, .int 0, .int 0, .int 0, .int 0, .ref b23, .ref b24, .ref b25, .ref b26, .ref b27, .ref b28, .ref b29, .int 0, .ref b30, .ref b31, .int 0, .ref b32, .ref b33, .ref b34, .ref b35, .ref b36, .int 0, .ref b37, .ref b38, .ref b39])), (b1, .inl (G.2 0, 503, .inl (upd (fun _ => 0) 501 1)))])) := by
  refine z_start (by decide +kernel) (Nat.le_of_ble_eq_true rfl) ?_
  intro p e s m below meth c A Z hr hnm hA hP hD hS ls hl
  have Z : zC p s m _ meth c prog_14_method_27_code 7 "TraceMachinesModel" G := Z
  obtain ⟨hx, hb, hml, hown, hts, hK, hN, hlocks⟩ := id Z
  have hl : lv_has ls 7 [(0, .ref b0), (1, .int 0), (2, .int (-1))] := hl
  refine lv_aload_n hx hb d_Model_layPrefixes_0 rfl (lv_at hl 0 rfl) ?_
  refine va_get (D := G.1) (ci := 12) (v := .ref b9) (C := R_Model) (T := F_Model) (N := 54) hx hb hts i_Model hown hK hP 0 rfl rfl 15 (by decide) (hts _ q1128) (fun _ h9 => h9) rfl d_Model_layPrefixes_1 ?_
  refine lv_iload_n hx hb d_Model_layPrefixes_4 rfl (lv_at hl 1 rfl) ?_
  refine lv_iconst (v := 0) hx hb d_Model_layPrefixes_5 (by decide) ?_
  refine va_iast hx hb hK hP hD hS 1 0 rfl rfl (i := 0) (z_in rfl) d_Model_layPrefixes_6 (fun H locs hP hD hS => ?_)
  have hP : va_P G.1 classes [(b0, .inr (12, [.int 0, .ref b1, .ref b2, .ref b3, .ref b4, .int 0, .ref b5, .int 0, .int 0, .int 0, .int 1, .ref b6, .ref b7, .ref b8, .int 0, .ref b9, .ref b10, .ref b11, .ref b12, .ref b13, .ref b14, .ref b15, .ref b16, .ref b17, .ref b18, .ref b19, .ref b20, .int 0, .ref b21, .ref b22, .int 0, .int 0, .int 0, .int 0, .ref b23, .ref b24, .ref b25, .ref b26, .ref b27, .ref b28, .ref b29, .int 0, .ref b30, .ref b31, .int 0, .ref b32, .ref b33, .ref b34, .ref b35, .ref b36, .int 0, .ref b37, .ref b38, .ref b39])), (b9, .inl (G.2 0, 2, .inl (upd (fun _ => 0) 0 0))), (b10, .inl (G.2 0, 4820, .inl (fun _ => 0))), (b13, .inl (G.2 0, 482, .inl (fun _ => 0))), (b1, .inl (G.2 0, 503, .inl (upd (fun _ => 0) 501 1)))] H := hP
  have hD := z_tie hP hD rfl
  refine lv_aload_n hx hb d_Model_layPrefixes_7 rfl (lv_at hl 0 rfl) ?_
  refine lv_iload_n hx hb d_Model_layPrefixes_8 rfl (lv_at hl 1 rfl) ?_
  refine z_callV (index := 199) (As := [.int 0]) (rest := []) (wr := [(b1, .inl (G.2 0, 503, .inl (upd (fun _ => 0) 501 1)))]) Z (c2_Model_newPrefix l G (b0) (b1) (b2) (b3) (b4) (b5) (b6) (b7) (b8) (b9) (b10) (b11) (b12) (b13) (b14) (b15) (b16) (b17) (b18) (b19) (b20) (b21) (b22) (b23) (b24) (b25) (b26) (b27) (b28) (b29) (b30) (b31) (b32) (b33) (b34) (b35) (b36) (b37) (b38) (b39)) hl.1 q1372 q1374 qs58 q14 q1375 ⟨by decide, by decide, by show _ = some 1; decide +kernel⟩ ⟨Nat.le_of_ble_eq_true rfl, Nat.le_of_ble_eq_true rfl⟩ ⟨Nat.le_of_ble_eq_true rfl, Nat.le_of_ble_eq_true rfl⟩ rfl (Nat.le_of_ble_eq_true rfl) d_Model_layPrefixes_9 hP hD hS hA 0 12 rfl rfl rfl [0, 1, 2, 3] [4] rfl rfl rfl rfl (by decide) (fun v w1 H locs hw_1 hP hD hS => ?_)
  obtain ⟨rfl, rfl⟩ := hw_1
  have hP : va_P G.1 classes [(b1, .inl (G.2 0, 503, .inl (upd (fun _ => 0) 501 1))), (b0, .inr (12, [.int 0, .ref b1, .ref b2, .ref b3, .ref b4, .int 0, .ref b5, .int 0, .int 0, .int 0, .int 1, .ref b6, .ref b7, .ref b8, .int 0, .ref b9, .ref b10, .ref b11, .ref b12, .ref b13, .ref b14, .ref b15, .ref b16, .ref b17, .ref b18, .ref b19, .ref b20, .int 0, .ref b21, .ref b22, .int 0, .int 0, .int 0, .int 0, .ref b23, .ref b24, .ref b25, .ref b26, .ref b27, .ref b28, .ref b29, .int 0, .ref b30, .ref b31, .int 0, .ref b32, .ref b33, .ref b34, .ref b35, .ref b36, .int 0, .ref b37, .ref b38, .ref b39])), (b9, .inl (G.2 0, 2, .inl (upd (upd (fun _ => 0) 0 0) 0 1))), (b10, .inl (G.2 0, 4820, .inl (upd (upd (upd (upd (upd (upd (upd (upd (upd (upd (fun _ => 0) 0 (-1)) 1 (-1)) 2 (-1)) 3 (-1)) 4 (-1)) 5 (-1)) 6 (-1)) 7 (-1)) 8 (-1)) 9 (-1)))), (b13, .inl (G.2 0, 482, .inl (upd (fun _ => 0) 0 0)))] H := hP
  have hD := z_tie hP hD rfl
  refine W.widen (k := 0) (n := 0) (Nat.le_of_ble_eq_true rfl) (Nat.le_of_ble_eq_true rfl) ?_
  refine lv_iconst (v := 0) hx hb d_Model_layPrefixes_12 (by decide) ?_
  refine lv_istore_n (lv' := [(3, .int 0), (0, .ref b0), (1, .int 0), (2, .int (-1))]) hx hb d_Model_layPrefixes_13 rfl hl (by decide) rfl (fun ls hl => ?_)
  refine lv_iload_n hx hb d_Model_layPrefixes_14 rfl (lv_at hl 0 rfl) ?_
  refine lv_aload_n hx hb d_Model_layPrefixes_15 rfl (lv_at hl 1 rfl) ?_
  refine z_callV (index := 134) (As := []) (rest := [.int 0]) (wr := [(b9, .inl (G.2 0, 2, .inl (upd (upd (fun _ => 0) 0 0) 0 1))), (b10, .inl (G.2 0, 4820, .inl (upd (upd (upd (upd (upd (upd (upd (upd (upd (upd (fun _ => 0) 0 (-1)) 1 (-1)) 2 (-1)) 3 (-1)) 4 (-1)) 5 (-1)) 6 (-1)) 7 (-1)) 8 (-1)) 9 (-1)))), (b13, .inl (G.2 0, 482, .inl (upd (fun _ => 0) 0 0)))]) Z (c3_Model_many l G (b0) (b1) (b2) (b3) (b4) (b5) (b6) (b7) (b8) (b9) (b10) (b11) (b12) (b13) (b14) (b15) (b16) (b17) (b18) (b19) (b20) (b21) (b22) (b23) (b24) (b25) (b26) (b27) (b28) (b29) (b30) (b31) (b32) (b33) (b34) (b35) (b36) (b37) (b38) (b39)) hl.1 q1324 q1326 qs51 q14 q1327 ⟨by decide, by decide, by show _ = some 0; decide +kernel⟩ ⟨Nat.le_of_ble_eq_true rfl, Nat.le_of_ble_eq_true rfl⟩ ⟨Nat.le_of_ble_eq_true rfl, Nat.le_of_ble_eq_true rfl⟩ rfl (Nat.le_of_ble_eq_true rfl) d_Model_layPrefixes_16 hP hD hS hA 1 12 rfl rfl rfl [1, 0] [2, 3, 4] rfl rfl rfl rfl (by decide) (fun v w1 H locs hw_2 hP hD hS => ?_)
  obtain ⟨rfl, rfl⟩ := hw_2
  have hP : va_P G.1 classes [(b9, .inl (G.2 0, 2, .inl (upd (upd (fun _ => 0) 0 0) 0 1))), (b10, .inl (G.2 0, 4820, .inl (upd (upd (upd (upd (upd (upd (upd (upd (upd (upd (fun _ => 0) 0 (-1)) 1 (-1)) 2 (-1)) 3 (-1)) 4 (-1)) 5 (-1)) 6 (-1)) 7 (-1)) 8 (-1)) 9 (-1)))), (b13, .inl (G.2 0, 482, .inl (upd (fun _ => 0) 0 0))), (b0, .inr (12, [.int 0, .ref b1, .ref b2, .ref b3, .ref b4, .int 0, .ref b5, .int 0, .int 0, .int 0, .int 1, .ref b6, .ref b7, .ref b8, .int 0, .ref b9, .ref b10, .ref b11, .ref b12, .ref b13, .ref b14, .ref b15, .ref b16, .ref b17, .ref b18, .ref b19, .ref b20, .int 0, .ref b21, .ref b22, .int 0, .int 0, .int 0, .int 0, .ref b23, .ref b24, .ref b25, .ref b26, .ref b27, .ref b28, .ref b29, .int 0, .ref b30, .ref b31, .int 0, .ref b32, .ref b33, .ref b34, .ref b35, .ref b36, .int 0, .ref b37, .ref b38, .ref b39])), (b1, .inl (G.2 0, 503, .inl (upd (fun _ => 0) 501 1)))] H := hP
  have hD := z_tie hP hD rfl
  refine W.widen (k := 0) (n := 0) (Nat.le_of_ble_eq_true rfl) (Nat.le_of_ble_eq_true rfl) ?_
  refine lv_icmp_ge (tgt := 152) hx hb d_Model_layPrefixes_19 (by decide) (fun _ => ?_) (fun hc => absurd hc (by decide +kernel))
  exact z_vret hx hb hr hlocks hP hD hS (Nat.le_of_ble_eq_true rfl) (Nat.le_of_ble_eq_true rfl) d_Model_layPrefixes_152 ⟨rfl, rfl⟩
abbrev m_c2_Model_layStates : Room := { frames := 1, cells := 0, slots := 0, locals := 20 }
set_option maxHeartbeats 4000000 in
set_option maxRecDepth 100000 in
theorem c2_Model_layStates (l : Launch) (G : zG) (b0 : Nat) (b1 : Nat) (b2 : Nat) (b3 : Nat) (b4 : Nat) (b5 : Nat) (b6 : Nat) (b7 : Nat) (b8 : Nat) (b9 : Nat) (b10 : Nat) (b11 : Nat) (b12 : Nat) (b13 : Nat) (b14 : Nat) (b15 : Nat) (b16 : Nat) (b17 : Nat) (b18 : Nat) (b19 : Nat) (b20 : Nat) (b21 : Nat) (b22 : Nat) (b23 : Nat) (b24 : Nat) (b25 : Nat) (b26 : Nat) (b27 : Nat) (b28 : Nat) (b29 : Nat) (b30 : Nat) (b31 : Nat) (b32 : Nat) (b33 : Nat) (b34 : Nat) (b35 : Nat) (b36 : Nat) (b37 : Nat) (b38 : Nat) (b39 : Nat)  : zM l G y_Model_layStates prog_14_method_31_code 8 (Option.none : Option Jvm.ClassFile.FieldType) m_c2_Model_layStates [.ref b0, .int 0, .int 1, .int (-1)] [(b0, .inr (12, [.int 0, .ref b1, .ref b2, .ref b3, .ref b4, .int 0, .ref b5, .int 0, .int 0, .int 0, .int 1, .ref b6, .ref b7, .ref b8, .int 0, .ref b9, .ref b10, .ref b11, .ref b12, .ref b13, .ref b14, .ref b15, .ref b16, .ref b17, .ref b18, .ref b19, .ref b20, .int 0, .ref b21, .ref b22, .int 0, .int 0, .int 0, .int 0, .ref b23, .ref b24, .ref b25, .ref b26, .ref b27, .ref b28, .ref b29, .int 0, .ref b30, .ref b31, .int 0, .ref b32, .ref b33, .ref b34, .ref b35, .ref b36, .int 0, .ref b37, .ref b38, .ref b39])), (b1, .inl (G.2 0, 503, .inl (upd (fun _ => 0) 501 1))), (b15, .inl (G.2 0, 2, .inl (fun _ => 0))), (b9, .inl (G.2 0, 2, .inl (upd (upd (fun _ => 0) 0 0) 0 1)))] (fun v w => (v = none ∧ w = [(b15, .inl (G.2 0, 2, .inl (upd (fun _ => 0) 0 0))), (b9, .inl (G.2 0, 2, .inl (upd (upd (fun _ => 0) 0 0) 0 1))), (b0, .inr (12, [.int 0, .ref b1, .ref b2, .ref b3, .ref b4, .int 0, .ref b5, .int 0, .int 0, .int 0, .int 1, .ref b6, .ref b7, .ref b8, .int 0, .ref b9, .ref b10, .ref b11, .ref b12, .ref b13, .ref b14, .ref b15, .ref b16, .ref b17, .ref b18, .ref b19, .ref b20, .int 0, .ref b21, .ref b22, .int 0, .int 0, .int 0, .int 0, .ref b23, .ref b24, .ref b25, .ref b26, .ref b27, .ref b28, .ref b29, .int 0, .ref b30, .ref b31, .int 0, .ref b32, .ref b33, .ref b34, .ref b35, .ref b36, .int 0, .ref b37, .ref b38, .ref b39])), (b1, .inl (G.2 0, 503, .inl (upd (fun _ => 0) 501 1)))])) := by
  refine z_start (by decide +kernel) (Nat.le_of_ble_eq_true rfl) ?_
  intro p e s m below meth c A Z hr hnm hA hP hD hS ls hl
  have Z : zC p s m _ meth c prog_14_method_31_code 8 "TraceMachinesModel" G := Z
  obtain ⟨hx, hb, hml, hown, hts, hK, hN, hlocks⟩ := id Z
  have hl : lv_has ls 8 [(0, .ref b0), (1, .int 0), (2, .int 1), (3, .int (-1))] := hl
  refine lv_sipush (v := 241) hx hb d_Model_layStates_0 (by decide) ?_
  refine lv_iload_n hx hb d_Model_layStates_3 rfl (lv_at hl 1 rfl) ?_
  refine lv_imul hx hb d_Model_layStates_4 ?_
  refine z_topi (y := 0) (by decide +kernel) ?_
  refine lv_istore (lv' := [(4, .int 0), (0, .ref b0), (1, .int 0), (2, .int 1), (3, .int (-1))]) hx hb d_Model_layStates_5 hl (by decide) rfl (fun ls hl => ?_)
  refine lv_iconst (v := 0) hx hb d_Model_layStates_7 (by decide) ?_
  refine lv_istore (lv' := [(5, .int 0), (4, .int 0), (0, .ref b0), (1, .int 0), (2, .int 1), (3, .int (-1))]) hx hb d_Model_layStates_8 hl (by decide) rfl (fun ls hl => ?_)
  refine lv_iload hx hb d_Model_layStates_10 (lv_at hl 0 rfl) ?_
  refine lv_aload_n hx hb d_Model_layStates_12 rfl (lv_at hl 2 rfl) ?_
  refine z_callV (index := 134) (As := []) (rest := [.int 0]) (wr := [(b15, .inl (G.2 0, 2, .inl (fun _ => 0))), (b9, .inl (G.2 0, 2, .inl (upd (upd (fun _ => 0) 0 0) 0 1)))]) Z (c3_Model_many l G (b0) (b1) (b2) (b3) (b4) (b5) (b6) (b7) (b8) (b9) (b10) (b11) (b12) (b13) (b14) (b15) (b16) (b17) (b18) (b19) (b20) (b21) (b22) (b23) (b24) (b25) (b26) (b27) (b28) (b29) (b30) (b31) (b32) (b33) (b34) (b35) (b36) (b37) (b38) (b39)) hl.1 q1324 q1326 qs51 q14 q1327 ⟨by decide, by decide, by show _ = some 0; decide +kernel⟩ ⟨Nat.le_of_ble_eq_true rfl, Nat.le_of_ble_eq_true rfl⟩ ⟨Nat.le_of_ble_eq_true rfl, Nat.le_of_ble_eq_true rfl⟩ rfl (Nat.le_of_ble_eq_true rfl) d_Model_layStates_13 hP hD hS hA 0 12 rfl rfl rfl [0, 1] [2, 3] rfl rfl rfl rfl (by decide) (fun v w1 H locs hw_1 hP hD hS => ?_)
  obtain ⟨rfl, rfl⟩ := hw_1
  have hP : va_P G.1 classes [(b15, .inl (G.2 0, 2, .inl (fun _ => 0))), (b9, .inl (G.2 0, 2, .inl (upd (upd (fun _ => 0) 0 0) 0 1))), (b0, .inr (12, [.int 0, .ref b1, .ref b2, .ref b3, .ref b4, .int 0, .ref b5, .int 0, .int 0, .int 0, .int 1, .ref b6, .ref b7, .ref b8, .int 0, .ref b9, .ref b10, .ref b11, .ref b12, .ref b13, .ref b14, .ref b15, .ref b16, .ref b17, .ref b18, .ref b19, .ref b20, .int 0, .ref b21, .ref b22, .int 0, .int 0, .int 0, .int 0, .ref b23, .ref b24, .ref b25, .ref b26, .ref b27, .ref b28, .ref b29, .int 0, .ref b30, .ref b31, .int 0, .ref b32, .ref b33, .ref b34, .ref b35, .ref b36, .int 0, .ref b37, .ref b38, .ref b39])), (b1, .inl (G.2 0, 503, .inl (upd (fun _ => 0) 501 1)))] H := hP
  have hD := z_tie hP hD rfl
  refine W.widen (k := 0) (n := 0) (Nat.le_of_ble_eq_true rfl) (Nat.le_of_ble_eq_true rfl) ?_
  refine lv_icmp_ge (tgt := 76) hx hb d_Model_layStates_16 (by decide) (fun _ => ?_) (fun hc => absurd hc (by decide +kernel))
  refine lv_aload_n hx hb d_Model_layStates_76 rfl (lv_at hl 2 rfl) ?_
  refine va_get (D := G.1) (ci := 12) (v := .ref b15) (C := R_Model) (T := F_Model) (N := 54) hx hb hts i_Model hown hK hP 2 rfl rfl 21 (by decide) (hts _ q1134) (fun _ h9 => h9) rfl d_Model_layStates_77 ?_
  refine lv_iload_n hx hb d_Model_layStates_80 rfl (lv_at hl 3 rfl) ?_
  refine lv_iconst (v := 0) hx hb d_Model_layStates_81 (by decide) ?_
  refine va_iast hx hb hK hP hD hS 0 0 rfl rfl (i := 0) (z_in rfl) d_Model_layStates_82 (fun H locs hP hD hS => ?_)
  have hP : va_P G.1 classes [(b15, .inl (G.2 0, 2, .inl (upd (fun _ => 0) 0 0))), (b9, .inl (G.2 0, 2, .inl (upd (upd (fun _ => 0) 0 0) 0 1))), (b0, .inr (12, [.int 0, .ref b1, .ref b2, .ref b3, .ref b4, .int 0, .ref b5, .int 0, .int 0, .int 0, .int 1, .ref b6, .ref b7, .ref b8, .int 0, .ref b9, .ref b10, .ref b11, .ref b12, .ref b13, .ref b14, .ref b15, .ref b16, .ref b17, .ref b18, .ref b19, .ref b20, .int 0, .ref b21, .ref b22, .int 0, .int 0, .int 0, .int 0, .ref b23, .ref b24, .ref b25, .ref b26, .ref b27, .ref b28, .ref b29, .int 0, .ref b30, .ref b31, .int 0, .ref b32, .ref b33, .ref b34, .ref b35, .ref b36, .int 0, .ref b37, .ref b38, .ref b39])), (b1, .inl (G.2 0, 503, .inl (upd (fun _ => 0) 501 1)))] H := hP
  have hD := z_tie hP hD rfl
  refine lv_aload_n hx hb d_Model_layStates_83 rfl (lv_at hl 2 rfl) ?_
  refine z_callV (index := 134) (As := []) (rest := []) (wr := [(b15, .inl (G.2 0, 2, .inl (upd (fun _ => 0) 0 0))), (b9, .inl (G.2 0, 2, .inl (upd (upd (fun _ => 0) 0 0) 0 1)))]) Z (c3_Model_many l G (b0) (b1) (b2) (b3) (b4) (b5) (b6) (b7) (b8) (b9) (b10) (b11) (b12) (b13) (b14) (b15) (b16) (b17) (b18) (b19) (b20) (b21) (b22) (b23) (b24) (b25) (b26) (b27) (b28) (b29) (b30) (b31) (b32) (b33) (b34) (b35) (b36) (b37) (b38) (b39)) hl.1 q1324 q1326 qs51 q14 q1327 ⟨by decide, by decide, by show _ = some 0; decide +kernel⟩ ⟨Nat.le_of_ble_eq_true rfl, Nat.le_of_ble_eq_true rfl⟩ ⟨Nat.le_of_ble_eq_true rfl, Nat.le_of_ble_eq_true rfl⟩ rfl (Nat.le_of_ble_eq_true rfl) d_Model_layStates_84 hP hD hS hA 2 12 rfl rfl rfl [2, 3] [0, 1] rfl rfl rfl rfl (by decide) (fun v w1 H locs hw_2 hP hD hS => ?_)
  obtain ⟨rfl, rfl⟩ := hw_2
  have hP : va_P G.1 classes [(b15, .inl (G.2 0, 2, .inl (upd (fun _ => 0) 0 0))), (b9, .inl (G.2 0, 2, .inl (upd (upd (fun _ => 0) 0 0) 0 1))), (b0, .inr (12, [.int 0, .ref b1, .ref b2, .ref b3, .ref b4, .int 0, .ref b5, .int 0, .int 0, .int 0, .int 1, .ref b6, .ref b7, .ref b8, .int 0, .ref b9, .ref b10, .ref b11, .ref b12, .ref b13, .ref b14, .ref b15, .ref b16, .ref b17, .ref b18, .ref b19, .ref b20, .int 0, .ref b21, .ref b22, .int 0, .int 0, .int 0, .int 0, .ref b23, .ref b24, .ref b25, .ref b26, .ref b27, .ref b28, .ref b29, .int 0, .ref b30, .ref b31, .int 0, .ref b32, .ref b33, .ref b34, .ref b35, .ref b36, .int 0, .ref b37, .ref b38, .ref b39])), (b1, .inl (G.2 0, 503, .inl (upd (fun _ => 0) 501 1)))] H := hP
  have hD := z_tie hP hD rfl
  refine W.widen (k := 0) (n := 0) (Nat.le_of_ble_eq_true rfl) (Nat.le_of_ble_eq_true rfl) ?_
  refine lv_iload_n hx hb d_Model_layStates_87 rfl (lv_at hl 5 rfl) ?_
  refine lv_iconst (v := (-1)) hx hb d_Model_layStates_88 (by decide) ?_
  refine lv_icmp_ne (tgt := 96) hx hb d_Model_layStates_89 (by decide) (fun hc => absurd hc (by decide +kernel)) (fun _ => ?_)
  refine lv_iconst (v := 0) hx hb d_Model_layStates_92 (by decide) ?_
  refine lv_goto (tgt := 97) hx hb d_Model_layStates_93 (by decide) ?_
  refine lv_icmp_le (tgt := 104) hx hb d_Model_layStates_97 (by decide) (fun _ => ?_) (fun hc => absurd hc (by decide +kernel))
  refine lv_iconst (v := 0) hx hb d_Model_layStates_104 (by decide) ?_
  refine lv_istore (lv' := [(5, .int 0), (4, .int 0), (0, .ref b0), (1, .int 0), (2, .int 1), (3, .int (-1))]) hx hb d_Model_layStates_105 hl (by decide) rfl (fun ls hl => ?_)
  refine lv_iconst (v := 0) hx hb d_Model_layStates_107 (by decide) ?_
  refine lv_istore (lv' := [(6, .int 0), (5, .int 0), (4, .int 0), (0, .ref b0), (1, .int 0), (2, .int 1), (3, .int (-1))]) hx hb d_Model_layStates_108 hl (by decide) rfl (fun ls hl => ?_)
  refine lv_iload hx hb d_Model_layStates_110 (lv_at hl 0 rfl) ?_
  refine lv_aload_n hx hb d_Model_layStates_112 rfl (lv_at hl 3 rfl) ?_
  refine va_get (D := G.1) (ci := 12) (v := .ref b9) (C := R_Model) (T := F_Model) (N := 54) hx hb hts i_Model hown hK hP 2 rfl rfl 15 (by decide) (hts _ q1128) (fun _ h9 => h9) rfl d_Model_layStates_113 ?_
  refine lv_iload_n hx hb d_Model_layStates_116 rfl (lv_at hl 4 rfl) ?_
  refine va_iald hx hb hK hP 1 0 rfl rfl (i := 0) (z_in rfl) d_Model_layStates_117 ?_
  refine z_topi (y := 1) rfl ?_
  refine lv_icmp_ge (tgt := 258) hx hb d_Model_layStates_118 (by decide) (fun hc => absurd hc (by decide +kernel)) (fun _ => ?_)
  refine lv_iload hx hb d_Model_layStates_121 (lv_at hl 1 rfl) ?_
  refine lv_if_eq (tgt := 258) hx hb d_Model_layStates_123 (by decide) (fun _ => ?_) (fun hc => absurd hc (by decide +kernel))
  exact z_vret hx hb hr hlocks hP hD hS (Nat.le_of_ble_eq_true rfl) (Nat.le_of_ble_eq_true rfl) d_Model_layStates_258 ⟨rfl, rfl⟩
abbrev m_c2_Model_lay2 : Room := { frames := 2, cells := 0, slots := 0, locals := 49 }
set_option maxHeartbeats 4000000 in
set_option maxRecDepth 100000 in
theorem c2_Model_lay2 (l : Launch) (G : zG) (b0 : Nat) (b1 : Nat) (b2 : Nat) (b3 : Nat) (b4 : Nat) (b5 : Nat) (b6 : Nat) (b7 : Nat) (b8 : Nat) (b9 : Nat) (b10 : Nat) (b11 : Nat) (b12 : Nat) (b13 : Nat) (b14 : Nat) (b15 : Nat) (b16 : Nat) (b17 : Nat) (b18 : Nat) (b19 : Nat) (b20 : Nat) (b21 : Nat) (b22 : Nat) (b23 : Nat) (b24 : Nat) (b25 : Nat) (b26 : Nat) (b27 : Nat) (b28 : Nat) (b29 : Nat) (b30 : Nat) (b31 : Nat) (b32 : Nat) (b33 : Nat) (b34 : Nat) (b35 : Nat) (b36 : Nat) (b37 : Nat) (b38 : Nat) (b39 : Nat)  : zM l G y_Model_lay2 prog_14_method_35_code 6 (Option.none : Option Jvm.ClassFile.FieldType) m_c2_Model_lay2 [.ref b0, .int 0, .int 1, .int (-1)] [(b0, .inr (12, [.int 0, .ref b1, .ref b2, .ref b3, .ref b4, .int 0, .ref b5, .int 0, .int 0, .int 0, .int 1, .ref b6, .ref b7, .ref b8, .int 0, .ref b9, .ref b10, .ref b11, .ref b12, .ref b13, .ref b14, .ref b15, .ref b16, .ref b17, .ref b18, .ref b19, .ref b20, .int 0, .ref b21, .ref b22, .int 0, .int 0, .int 0, .int 0, .ref b23, .ref b24, .ref b25, .ref b26, .ref b27, .ref b28, .ref b29, .int 0, .ref b30, .ref b31, .int 0, .ref b32, .ref b33, .ref b34, .ref b35, .ref b36, .int 0, .ref b37, .ref b38, .ref b39])), (b9, .inl (G.2 0, 2, .inl (fun _ => 0))), (b10, .inl (G.2 0, 4820, .inl (fun _ => 0))), (b13, .inl (G.2 0, 482, .inl (fun _ => 0))), (b1, .inl (G.2 0, 503, .inl (upd (fun _ => 0) 501 1))), (b15, .inl (G.2 0, 2, .inl (fun _ => 0))), (b19, .inl (G.2 0, 2, .inl (fun _ => 0)))] (fun v w => (v = none ∧ w = [(b19, .inl (G.2 0, 2, .inl (upd (fun _ => 0) 0 0))), (b10, .inl (G.2 0, 4820, .inl (upd (upd (upd (upd (upd (upd (upd (upd (upd (upd (fun _ => 0) 0 (-1)) 1 (-1)) 2 (-1)) 3 (-1)) 4 (-1)) 5 (-1)) 6 (-1)) 7 (-1)) 8 (-1)) 9 (-1)))), (b13, .inl (G.2 0, 482, .inl (upd (upd (fun _ => 0) 0 0) 0 0))), (b15, .inl (G.2 0, 2, .inl (upd (fun _ => 0) 0 0))), (b9, .inl (G.2 0, 2, .inl (upd (upd (fun _ => 0) 0 0) 0 1))), (b0, .inr (12, [.int 0, .ref b1, .ref b2, .ref b3, .ref b4, .int 0, .ref b5, .int 0, .int 0, .int 0, .int 1, .ref b6, .ref b7, .ref b8, .int 0, .ref b9, .ref b10, .ref b11, .ref b12, .ref b13, .ref b14, .ref b15, .ref b16, .ref b17, .ref b18, .ref b19, .ref b20, .int 0, .ref b21, .ref b22, .int 0, .int 0, .int 0, .int 0, .ref b23, .ref b24, .ref b25, .ref b26, .ref b27, .ref b28, .ref b29, .int 0, .ref b30, .ref b31, .int 0, .ref b32, .ref b33, .ref b34, .ref b35, .ref b36, .int 0, .ref b37, .ref b38, .ref b39])), (b1, .inl (G.2 0, 503, .inl (upd (fun _ => 0) 501 1)))])) := by
  refine z_start (by decide +kernel) (Nat.le_of_ble_eq_true rfl) ?_
  intro p e s m below meth c A Z hr hnm hA hP hD hS ls hl
  have Z : zC p s m _ meth c prog_14_method_35_code 6 "TraceMachinesModel" G := Z
  obtain ⟨hx, hb, hml, hown, hts, hK, hN, hlocks⟩ := id Z
  have hl : lv_has ls 6 [(0, .ref b0), (1, .int 0), (2, .int 1), (3, .int (-1))] := hl
  refine lv_aload_n hx hb d_Model_lay2_0 rfl (lv_at hl 0 rfl) ?_
  refine lv_iload_n hx hb d_Model_lay2_1 rfl (lv_at hl 1 rfl) ?_
  refine lv_iload_n hx hb d_Model_lay2_2 rfl (lv_at hl 3 rfl) ?_
  refine z_callV (index := 241) (As := [.int 0, .int (-1)]) (rest := []) (wr := [(b15, .inl (G.2 0, 2, .inl (fun _ => 0))), (b19, .inl (G.2 0, 2, .inl (fun _ => 0)))]) Z (c2_Model_layPrefixes l G (b0) (b1) (b2) (b3) (b4) (b5) (b6) (b7) (b8) (b9) (b10) (b11) (b12) (b13) (b14) (b15) (b16) (b17) (b18) (b19) (b20) (b21) (b22) (b23) (b24) (b25) (b26) (b27) (b28) (b29) (b30) (b31) (b32) (b33) (b34) (b35) (b36) (b37) (b38) (b39)) hl.1 q1368 q1370 qs57 q14 q1371 ⟨by decide, by decide, by show _ = some 2; decide +kernel⟩ ⟨Nat.le_of_ble_eq_true rfl, Nat.le_of_ble_eq_true rfl⟩ ⟨Nat.le_of_ble_eq_true rfl, Nat.le_of_ble_eq_true rfl⟩ rfl (Nat.le_of_ble_eq_true rfl) d_Model_lay2_3 hP hD hS hA 0 12 rfl rfl rfl [0, 1, 2, 3, 4] [5, 6] rfl rfl rfl rfl (by decide) (fun v w1 H locs hw_1 hP hD hS => ?_)
  obtain ⟨rfl, rfl⟩ := hw_1
  have hP : va_P G.1 classes [(b15, .inl (G.2 0, 2, .inl (fun _ => 0))), (b19, .inl (G.2 0, 2, .inl (fun _ => 0))), (b9, .inl (G.2 0, 2, .inl (upd (upd (fun _ => 0) 0 0) 0 1))), (b10, .inl (G.2 0, 4820, .inl (upd (upd (upd (upd (upd (upd (upd (upd (upd (upd (fun _ => 0) 0 (-1)) 1 (-1)) 2 (-1)) 3 (-1)) 4 (-1)) 5 (-1)) 6 (-1)) 7 (-1)) 8 (-1)) 9 (-1)))), (b13, .inl (G.2 0, 482, .inl (upd (fun _ => 0) 0 0))), (b0, .inr (12, [.int 0, .ref b1, .ref b2, .ref b3, .ref b4, .int 0, .ref b5, .int 0, .int 0, .int 0, .int 1, .ref b6, .ref b7, .ref b8, .int 0, .ref b9, .ref b10, .ref b11, .ref b12, .ref b13, .ref b14, .ref b15, .ref b16, .ref b17, .ref b18, .ref b19, .ref b20, .int 0, .ref b21, .ref b22, .int 0, .int 0, .int 0, .int 0, .ref b23, .ref b24, .ref b25, .ref b26, .ref b27, .ref b28, .ref b29, .int 0, .ref b30, .ref b31, .int 0, .ref b32, .ref b33, .ref b34, .ref b35, .ref b36, .int 0, .ref b37, .ref b38, .ref b39])), (b1, .inl (G.2 0, 503, .inl (upd (fun _ => 0) 501 1)))] H := hP
  have hD := z_tie hP hD rfl
  refine W.widen (k := 0) (n := 0) (Nat.le_of_ble_eq_true rfl) (Nat.le_of_ble_eq_true rfl) ?_
  refine lv_iconst (v := 0) hx hb d_Model_lay2_6 (by decide) ?_
  refine lv_istore (lv' := [(4, .int 0), (0, .ref b0), (1, .int 0), (2, .int 1), (3, .int (-1))]) hx hb d_Model_lay2_7 hl (by decide) rfl (fun ls hl => ?_)
  refine lv_iload hx hb d_Model_lay2_9 (lv_at hl 0 rfl) ?_
  refine lv_aload_n hx hb d_Model_lay2_11 rfl (lv_at hl 1 rfl) ?_
  refine va_get (D := G.1) (ci := 12) (v := .ref b9) (C := R_Model) (T := F_Model) (N := 54) hx hb hts i_Model hown hK hP 5 rfl rfl 15 (by decide) (hts _ q1128) (fun _ h9 => h9) rfl d_Model_lay2_12 ?_
  refine lv_iload_n hx hb d_Model_lay2_15 rfl (lv_at hl 2 rfl) ?_
  refine va_iald hx hb hK hP 2 0 rfl rfl (i := 0) (z_in rfl) d_Model_lay2_16 ?_
  refine z_topi (y := 1) rfl ?_
  refine lv_icmp_ge (tgt := 40) hx hb d_Model_lay2_17 (by decide) (fun hc => absurd hc (by decide +kernel)) (fun _ => ?_)
  refine lv_aload_n hx hb d_Model_lay2_20 rfl (lv_at hl 1 rfl) ?_
  refine va_get (D := G.1) (ci := 12) (v := .ref b13) (C := R_Model) (T := F_Model) (N := 54) hx hb hts i_Model hown hK hP 5 rfl rfl 19 (by decide) (hts _ q1132) (fun _ h9 => h9) rfl d_Model_lay2_21 ?_
  refine lv_sipush (v := 241) hx hb d_Model_lay2_24 (by decide) ?_
  refine lv_iload_n hx hb d_Model_lay2_27 rfl (lv_at hl 2 rfl) ?_
  refine lv_imul hx hb d_Model_lay2_28 ?_
  refine z_topi (y := 0) (by decide +kernel) ?_
  refine lv_iload hx hb d_Model_lay2_29 (lv_at hl 0 rfl) ?_
  refine lv_iadd hx hb d_Model_lay2_31 ?_
  refine z_topi (y := 0) (by decide +kernel) ?_
  refine lv_iconst (v := 0) hx hb d_Model_lay2_32 (by decide) ?_
  refine va_iast hx hb hK hP hD hS 4 0 rfl rfl (i := 0) (z_in rfl) d_Model_lay2_33 (fun H locs hP hD hS => ?_)
  have hP : va_P G.1 classes [(b15, .inl (G.2 0, 2, .inl (fun _ => 0))), (b19, .inl (G.2 0, 2, .inl (fun _ => 0))), (b9, .inl (G.2 0, 2, .inl (upd (upd (fun _ => 0) 0 0) 0 1))), (b10, .inl (G.2 0, 4820, .inl (upd (upd (upd (upd (upd (upd (upd (upd (upd (upd (fun _ => 0) 0 (-1)) 1 (-1)) 2 (-1)) 3 (-1)) 4 (-1)) 5 (-1)) 6 (-1)) 7 (-1)) 8 (-1)) 9 (-1)))), (b13, .inl (G.2 0, 482, .inl (upd (upd (fun _ => 0) 0 0) 0 0))), (b0, .inr (12, [.int 0, .ref b1, .ref b2, .ref b3, .ref b4, .int 0, .ref b5, .int 0, .int 0, .int 0, .int 1, .ref b6, .ref b7, .ref b8, .int 0, .ref b9, .ref b10, .ref b11, .ref b12, .ref b13, .ref b14, .ref b15, .ref b16, .ref b17, .ref b18, .ref b19, .ref b20, .int 0, .ref b21, .ref b22, .int 0, .int 0, .int 0, .int 0, .ref b23, .ref b24, .ref b25, .ref b26, .ref b27, .ref b28, .ref b29, .int 0, .ref b30, .ref b31, .int 0, .ref b32, .ref b33, .ref b34, .ref b35, .ref b36, .int 0, .ref b37, .ref b38, .ref b39])), (b1, .inl (G.2 0, 503, .inl (upd (fun _ => 0) 501 1)))] H := hP
  have hD := z_tie hP hD rfl
  refine lv_iinc (v := 1) (lv' := [(4, .int 1), (0, .ref b0), (1, .int 0), (2, .int 1), (3, .int (-1))]) hx hb d_Model_lay2_34 hl (k := 0) rfl (by decide +kernel) (by decide) rfl (fun ls hl => ?_)
  refine lv_goto (tgt := 9) hx hb d_Model_lay2_37 (by decide) ?_
  refine lv_iload hx hb d_Model_lay2_9 (lv_at hl 0 rfl) ?_
  refine lv_aload_n hx hb d_Model_lay2_11 rfl (lv_at hl 1 rfl) ?_
  refine va_get (D := G.1) (ci := 12) (v := .ref b9) (C := R_Model) (T := F_Model) (N := 54) hx hb hts i_Model hown hK hP 5 rfl rfl 15 (by decide) (hts _ q1128) (fun _ h9 => h9) rfl d_Model_lay2_12 ?_
  refine lv_iload_n hx hb d_Model_lay2_15 rfl (lv_at hl 2 rfl) ?_
  refine va_iald hx hb hK hP 2 0 rfl rfl (i := 0) (z_in rfl) d_Model_lay2_16 ?_
  refine z_topi (y := 1) rfl ?_
  refine lv_icmp_ge (tgt := 40) hx hb d_Model_lay2_17 (by decide) (fun _ => ?_) (fun hc => absurd hc (by decide +kernel))
  refine lv_aload_n hx hb d_Model_lay2_40 rfl (lv_at hl 1 rfl) ?_
  refine lv_iload_n hx hb d_Model_lay2_41 rfl (lv_at hl 2 rfl) ?_
  refine lv_iload_n hx hb d_Model_lay2_42 rfl (lv_at hl 3 rfl) ?_
  refine lv_iload_n hx hb d_Model_lay2_43 rfl (lv_at hl 4 rfl) ?_
  refine z_callV (index := 244) (As := [.int 0, .int 1, .int (-1)]) (rest := []) (wr := [(b19, .inl (G.2 0, 2, .inl (fun _ => 0))), (b10, .inl (G.2 0, 4820, .inl (upd (upd (upd (upd (upd (upd (upd (upd (upd (upd (fun _ => 0) 0 (-1)) 1 (-1)) 2 (-1)) 3 (-1)) 4 (-1)) 5 (-1)) 6 (-1)) 7 (-1)) 8 (-1)) 9 (-1)))), (b13, .inl (G.2 0, 482, .inl (upd (upd (fun _ => 0) 0 0) 0 0)))]) Z (c2_Model_layStates l G (b0) (b1) (b2) (b3) (b4) (b5) (b6) (b7) (b8) (b9) (b10) (b11) (b12) (b13) (b14) (b15) (b16) (b17) (b18) (b19) (b20) (b21) (b22) (b23) (b24) (b25) (b26) (b27) (b28) (b29) (b30) (b31) (b32) (b33) (b34) (b35) (b36) (b37) (b38) (b39)) hl.1 q1380 q1382 qs60 q14 q1383 ⟨by decide, by decide, by show _ = some 3; decide +kernel⟩ ⟨Nat.le_of_ble_eq_true rfl, Nat.le_of_ble_eq_true rfl⟩ ⟨Nat.le_of_ble_eq_true rfl, Nat.le_of_ble_eq_true rfl⟩ rfl (Nat.le_of_ble_eq_true rfl) d_Model_lay2_44 hP hD hS hA 5 12 rfl rfl rfl [5, 6, 0, 2] [1, 3, 4] rfl rfl rfl rfl (by decide) (fun v w1 H locs hw_2 hP hD hS => ?_)
  obtain ⟨rfl, rfl⟩ := hw_2
  have hP : va_P G.1 classes [(b19, .inl (G.2 0, 2, .inl (fun _ => 0))), (b10, .inl (G.2 0, 4820, .inl (upd (upd (upd (upd (upd (upd (upd (upd (upd (upd (fun _ => 0) 0 (-1)) 1 (-1)) 2 (-1)) 3 (-1)) 4 (-1)) 5 (-1)) 6 (-1)) 7 (-1)) 8 (-1)) 9 (-1)))), (b13, .inl (G.2 0, 482, .inl (upd (upd (fun _ => 0) 0 0) 0 0))), (b15, .inl (G.2 0, 2, .inl (upd (fun _ => 0) 0 0))), (b9, .inl (G.2 0, 2, .inl (upd (upd (fun _ => 0) 0 0) 0 1))), (b0, .inr (12, [.int 0, .ref b1, .ref b2, .ref b3, .ref b4, .int 0, .ref b5, .int 0, .int 0, .int 0, .int 1, .ref b6, .ref b7, .ref b8, .int 0, .ref b9, .ref b10, .ref b11, .ref b12, .ref b13, .ref b14, .ref b15, .ref b16, .ref b17, .ref b18, .ref b19, .ref b20, .int 0, .ref b21, .ref b22, .int 0, .int 0, .int 0, .int 0, .ref b23, .ref b24, .ref b25, .ref b26, .ref b27, .ref b28, .ref b29, .int 0, .ref b30, .ref b31, .int 0, .ref b32, .ref b33, .ref b34, .ref b35, .ref b36, .int 0, .ref b37, .ref b38, .ref b39])), (b1, .inl (G.2 0, 503, .inl (upd (fun _ => 0) 501 1)))] H := hP
  have hD := z_tie hP hD rfl
  refine W.widen (k := 0) (n := 0) (Nat.le_of_ble_eq_true rfl) (Nat.le_of_ble_eq_true rfl) ?_
  refine lv_aload_n hx hb d_Model_lay2_47 rfl (lv_at hl 1 rfl) ?_
  refine va_get (D := G.1) (ci := 12) (v := .ref b19) (C := R_Model) (T := F_Model) (N := 54) hx hb hts i_Model hown hK hP 5 rfl rfl 25 (by decide) (hts _ q1138) (fun _ h9 => h9) rfl d_Model_lay2_48 ?_
  refine lv_iload_n hx hb d_Model_lay2_51 rfl (lv_at hl 2 rfl) ?_
  refine lv_iconst (v := 0) hx hb d_Model_lay2_52 (by decide) ?_
  refine va_iast hx hb hK hP hD hS 0 0 rfl rfl (i := 0) (z_in rfl) d_Model_lay2_53 (fun H locs hP hD hS => ?_)
  have hP : va_P G.1 classes [(b19, .inl (G.2 0, 2, .inl (upd (fun _ => 0) 0 0))), (b10, .inl (G.2 0, 4820, .inl (upd (upd (upd (upd (upd (upd (upd (upd (upd (upd (fun _ => 0) 0 (-1)) 1 (-1)) 2 (-1)) 3 (-1)) 4 (-1)) 5 (-1)) 6 (-1)) 7 (-1)) 8 (-1)) 9 (-1)))), (b13, .inl (G.2 0, 482, .inl (upd (upd (fun _ => 0) 0 0) 0 0))), (b15, .inl (G.2 0, 2, .inl (upd (fun _ => 0) 0 0))), (b9, .inl (G.2 0, 2, .inl (upd (upd (fun _ => 0) 0 0) 0 1))), (b0, .inr (12, [.int 0, .ref b1, .ref b2, .ref b3, .ref b4, .int 0, .ref b5, .int 0, .int 0, .int 0, .int 1, .ref b6, .ref b7, .ref b8, .int 0, .ref b9, .ref b10, .ref b11, .ref b12, .ref b13, .ref b14, .ref b15, .ref b16, .ref b17, .ref b18, .ref b19, .ref b20, .int 0, .ref b21, .ref b22, .int 0, .int 0, .int 0, .int 0, .ref b23, .ref b24, .ref b25, .ref b26, .ref b27, .ref b28, .ref b29, .int 0, .ref b30, .ref b31, .int 0, .ref b32, .ref b33, .ref b34, .ref b35, .ref b36, .int 0, .ref b37, .ref b38, .ref b39])), (b1, .inl (G.2 0, 503, .inl (upd (fun _ => 0) 501 1)))] H := hP
  have hD := z_tie hP hD rfl
  refine lv_iconst (v := 0) hx hb d_Model_lay2_54 (by decide) ?_
  refine lv_istore (lv' := [(4, .int 0), (0, .ref b0), (1, .int 0), (2, .int 1), (3, .int (-1))]) hx hb d_Model_lay2_55 hl (by decide) rfl (fun ls hl => ?_)
  refine lv_iload hx hb d_Model_lay2_57 (lv_at hl 0 rfl) ?_
  refine lv_aload_n hx hb d_Model_lay2_59 rfl (lv_at hl 1 rfl) ?_
  refine z_callV (index := 134) (As := []) (rest := [.int 0]) (wr := [(b19, .inl (G.2 0, 2, .inl (upd (fun _ => 0) 0 0))), (b10, .inl (G.2 0, 4820, .inl (upd (upd (upd (upd (upd (upd (upd (upd (upd (upd (fun _ => 0) 0 (-1)) 1 (-1)) 2 (-1)) 3 (-1)) 4 (-1)) 5 (-1)) 6 (-1)) 7 (-1)) 8 (-1)) 9 (-1)))), (b13, .inl (G.2 0, 482, .inl (upd (upd (fun _ => 0) 0 0) 0 0))), (b15, .inl (G.2 0, 2, .inl (upd (fun _ => 0) 0 0))), (b9, .inl (G.2 0, 2, .inl (upd (upd (fun _ => 0) 0 0) 0 1)))]) Z (c3_Model_many l G (b0) (b1) (b2) (b3) (b4) (b5) (b6) (b7) (b8) (b9) (b10) (b11) (b12) (b13) (b14) (b15) (b16) (b17) (b18) (b19) (b20) (b21) (b22) (b23) (b24) (b25) (b26) (b27) (b28) (b29) (b30) (b31) (b32) (b33) (b34) (b35) (b36) (b37) (b38) (b39)) hl.1 q1324 q1326 qs51 q14 q1327 ⟨by decide, by decide, by show _ = some 0; decide +kernel⟩ ⟨Nat.le_of_ble_eq_true rfl, Nat.le_of_ble_eq_true rfl⟩ ⟨Nat.le_of_ble_eq_true rfl, Nat.le_of_ble_eq_true rfl⟩ rfl (Nat.le_of_ble_eq_true rfl) d_Model_lay2_60 hP hD hS hA 5 12 rfl rfl rfl [5, 6] [0, 1, 2, 3, 4] rfl rfl rfl rfl (by decide) (fun v w1 H locs hw_3 hP hD hS => ?_)
  obtain ⟨rfl, rfl⟩ := hw_3
  have hP : va_P G.1 classes [(b19, .inl (G.2 0, 2, .inl (upd (fun _ => 0) 0 0))), (b10, .inl (G.2 0, 4820, .inl (upd (upd (upd (upd (upd (upd (upd (upd (upd (upd (fun _ => 0) 0 (-1)) 1 (-1)) 2 (-1)) 3 (-1)) 4 (-1)) 5 (-1)) 6 (-1)) 7 (-1)) 8 (-1)) 9 (-1)))), (b13, .inl (G.2 0, 482, .inl (upd (upd (fun _ => 0) 0 0) 0 0))), (b15, .inl (G.2 0, 2, .inl (upd (fun _ => 0) 0 0))), (b9, .inl (G.2 0, 2, .inl (upd (upd (fun _ => 0) 0 0) 0 1))), (b0, .inr (12, [.int 0, .ref b1, .ref b2, .ref b3, .ref b4, .int 0, .ref b5, .int 0, .int 0, .int 0, .int 1, .ref b6, .ref b7, .ref b8, .int 0, .ref b9, .ref b10, .ref b11, .ref b12, .ref b13, .ref b14, .ref b15, .ref b16, .ref b17, .ref b18, .ref b19, .ref b20, .int 0, .ref b21, .ref b22, .int 0, .int 0, .int 0, .int 0, .ref b23, .ref b24, .ref b25, .ref b26, .ref b27, .ref b28, .ref b29, .int 0, .ref b30, .ref b31, .int 0, .ref b32, .ref b33, .ref b34, .ref b35, .ref b36, .int 0, .ref b37, .ref b38, .ref b39])), (b1, .inl (G.2 0, 503, .inl (upd (fun _ => 0) 501 1)))] H := hP
  have hD := z_tie hP hD rfl
  refine W.widen (k := 0) (n := 0) (Nat.le_of_ble_eq_true rfl) (Nat.le_of_ble_eq_true rfl) ?_
  refine lv_icmp_ge (tgt := 135) hx hb d_Model_lay2_63 (by decide) (fun _ => ?_) (fun hc => absurd hc (by decide +kernel))
  exact z_vret hx hb hr hlocks hP hD hS (Nat.le_of_ble_eq_true rfl) (Nat.le_of_ble_eq_true rfl) d_Model_lay2_135 ⟨rfl, rfl⟩
abbrev m_c2_Model_lay1 : Room := { frames := 3, cells := 0, slots := 0, locals := 74 }
set_option maxHeartbeats 4000000 in
set_option maxRecDepth 100000 in
theorem c2_Model_lay1 (l : Launch) (G : zG) (b0 : Nat) (b1 : Nat) (b2 : Nat) (b3 : Nat) (b4 : Nat) (b5 : Nat) (b6 : Nat) (b7 : Nat) (b8 : Nat) (b9 : Nat) (b10 : Nat) (b11 : Nat) (b12 : Nat) (b13 : Nat) (b14 : Nat) (b15 : Nat) (b16 : Nat) (b17 : Nat) (b18 : Nat) (b19 : Nat) (b20 : Nat) (b21 : Nat) (b22 : Nat) (b23 : Nat) (b24 : Nat) (b25 : Nat) (b26 : Nat) (b27 : Nat) (b28 : Nat) (b29 : Nat) (b30 : Nat) (b31 : Nat) (b32 : Nat) (b33 : Nat) (b34 : Nat) (b35 : Nat) (b36 : Nat) (b37 : Nat) (b38 : Nat) (b39 : Nat)  : zM l G y_Model_lay1 prog_14_method_36_code 1 (Option.none : Option Jvm.ClassFile.FieldType) m_c2_Model_lay1 [.ref b0] [(b0, .inr (12, [.int 0, .ref b1, .ref b2, .ref b3, .ref b4, .int 0, .ref b5, .int 0, .int 0, .int 0, .int 1, .ref b6, .ref b7, .ref b8, .int 0, .ref b9, .ref b10, .ref b11, .ref b12, .ref b13, .ref b14, .ref b15, .ref b16, .ref b17, .ref b18, .ref b19, .ref b20, .int 0, .ref b21, .ref b22, .int 0, .int 0, .int 0, .int 0, .ref b23, .ref b24, .ref b25, .ref b26, .ref b27, .ref b28, .ref b29, .int 0, .ref b30, .ref b31, .int 0, .ref b32, .ref b33, .ref b34, .ref b35, .ref b36, .int 0, .ref b37, .ref b38, .ref b39])), (b1, .inl (G.2 0, 503, .inl (upd (fun _ => 0) 501 1))), (b9, .inl (G.2 0, 2, .inl (fun _ => 0))), (b10, .inl (G.2 0, 4820, .inl (fun _ => 0))), (b13, .inl (G.2 0, 482, .inl (fun _ => 0))), (b15, .inl (G.2 0, 2, .inl (fun _ => 0))), (b19, .inl (G.2 0, 2, .inl (fun _ => 0)))] (fun v w => (v = none ∧ w = [(b19, .inl (G.2 0, 2, .inl (upd (fun _ => 0) 0 0))), (b10, .inl (G.2 0, 4820, .inl (upd (upd (upd (upd (upd (upd (upd (upd (upd (upd (fun _ => 0) 0 (-1)) 1 (-1)) 2 (-1)) 3 (-1)) 4 (-1)) 5 (-1)) 6 (-1)) 7 (-1)) 8 (-1)) 9 (-1)))), (b13, .inl (G.2 0, 482, .inl (upd (upd (fun _ => 0) 0 0) 0 0))), (b15, .inl (G.2 0, 2, .inl (upd (fun _ => 0) 0 0))), (b9, .inl (G.2 0, 2, .inl (upd (upd (fun _ => 0) 0 0) 0 1))), (b0, .inr (12, [.int 0, .ref b1, .ref b2, .ref b3, .ref b4, .int 0, .ref b5, .int 0, .int 0, .int 0, .int 1, .ref b6, .ref b7, .ref b8, .int 0, .ref b9, .ref b10, .ref b11, .ref b12, .ref b13, .ref b14, .ref b15, .ref b16, .ref b17, .ref b18, .ref b19, .ref b20, .int 0, .ref b21, .ref b22, .int 0, .int 0, .int 0, .int 0, .ref b23, .ref b24, .ref b25, .ref b26, .ref b27, .ref b28, .ref b29, .int 0, .ref b30, .ref b31, .int 0, .ref b32, .ref b33, .ref b34, .ref b35, .ref b36, .int 0, .ref b37, .ref b38, .ref b39])), (b1, .inl (G.2 0, 503, .inl (upd (fun _ => 0) 501 1)))])) := by
  refine z_start (by decide +kernel) (Nat.le_of_ble_eq_true rfl) ?_
  intro p e s m below meth c A Z hr hnm hA hP hD hS ls hl
  have Z : zC p s m _ meth c prog_14_method_36_code 1 "TraceMachinesModel" G := Z
  obtain ⟨hx, hb, hml, hown, hts, hK, hN, hlocks⟩ := id Z
  have hl : lv_has ls 1 [(0, .ref b0)] := hl
  refine lv_aload_n hx hb d_Model_lay1_0 rfl (lv_at hl 0 rfl) ?_
  refine lv_iconst (v := 0) hx hb d_Model_lay1_1 (by decide) ?_
  refine lv_aload_n hx hb d_Model_lay1_2 rfl (lv_at hl 0 rfl) ?_
  refine va_get (D := G.1) (ci := 12) (v := .ref b1) (C := R_Model) (T := F_Model) (N := 54) hx hb hts i_Model hown hK hP 0 rfl rfl 1 (by decide) (hts _ q1114) (fun _ h9 => h9) rfl d_Model_lay1_3 ?_
  refine lv_sipush (v := 501) hx hb d_Model_lay1_6 (by decide) ?_
  refine va_iald hx hb hK hP 1 0 rfl rfl (i := 501) (z_in rfl) d_Model_lay1_9 ?_
  refine z_topi (y := 1) rfl ?_
  refine lv_iconst (v := (-1)) hx hb d_Model_lay1_10 (by decide) ?_
  refine z_callV (index := 251) (As := [.int 0, .int 1, .int (-1)]) (rest := []) (wr := []) Z (c2_Model_lay2 l G (b0) (b1) (b2) (b3) (b4) (b5) (b6) (b7) (b8) (b9) (b10) (b11) (b12) (b13) (b14) (b15) (b16) (b17) (b18) (b19) (b20) (b21) (b22) (b23) (b24) (b25) (b26) (b27) (b28) (b29) (b30) (b31) (b32) (b33) (b34) (b35) (b36) (b37) (b38) (b39)) hl.1 q1364 q1366 qs56 q14 q1367 ⟨by decide, by decide, by show _ = some 3; decide +kernel⟩ ⟨Nat.le_of_ble_eq_true rfl, Nat.le_of_ble_eq_true rfl⟩ ⟨Nat.le_of_ble_eq_true rfl, Nat.le_of_ble_eq_true rfl⟩ rfl (Nat.le_of_ble_eq_true rfl) d_Model_lay1_11 hP hD hS hA 0 12 rfl rfl rfl [0, 2, 3, 4, 1, 5, 6] [] rfl rfl rfl rfl (by decide) (fun v w1 H locs hw_1 hP hD hS => ?_)
  obtain ⟨rfl, rfl⟩ := hw_1
  have hP : va_P G.1 classes [(b19, .inl (G.2 0, 2, .inl (upd (fun _ => 0) 0 0))), (b10, .inl (G.2 0, 4820, .inl (upd (upd (upd (upd (upd (upd (upd (upd (upd (upd (fun _ => 0) 0 (-1)) 1 (-1)) 2 (-1)) 3 (-1)) 4 (-1)) 5 (-1)) 6 (-1)) 7 (-1)) 8 (-1)) 9 (-1)))), (b13, .inl (G.2 0, 482, .inl (upd (upd (fun _ => 0) 0 0) 0 0))), (b15, .inl (G.2 0, 2, .inl (upd (fun _ => 0) 0 0))), (b9, .inl (G.2 0, 2, .inl (upd (upd (fun _ => 0) 0 0) 0 1))), (b0, .inr (12, [.int 0, .ref b1, .ref b2, .ref b3, .ref b4, .int 0, .ref b5, .int 0, .int 0, .int 0, .int 1, .ref b6, .ref b7, .ref b8, .int 0, .ref b9, .ref b10, .ref b11, .ref b12, .ref b13, .ref b14, .ref b15, .ref b16, .ref b17, .ref b18, .ref b19, .ref b20, .int 0, .ref b21, .ref b22, .int 0, .int 0, .int 0, .int 0, .ref b23, .ref b24, .ref b25, .ref b26, .ref b27, .ref b28, .ref b29, .int 0, .ref b30, .ref b31, .int 0, .ref b32, .ref b33, .ref b34, .ref b35, .ref b36, .int 0, .ref b37, .ref b38, .ref b39])), (b1, .inl (G.2 0, 503, .inl (upd (fun _ => 0) 501 1)))] H := hP
  have hD := z_tie hP hD rfl
  refine W.widen (k := 0) (n := 0) (Nat.le_of_ble_eq_true rfl) (Nat.le_of_ble_eq_true rfl) ?_
  exact z_vret hx hb hr hlocks hP hD hS (Nat.le_of_ble_eq_true rfl) (Nat.le_of_ble_eq_true rfl) d_Model_lay1_14 ⟨rfl, rfl⟩
theorem d_Model_run_43 : decode prog_14_method_51_code 43 = .ok (.aload_n 0, 1) := by decide +kernel
theorem d_Model_run_44 : decode prog_14_method_51_code 44 = .ok (.iconst 1, 1) := by decide +kernel
theorem d_Model_run_45 : decode prog_14_method_51_code 45 = .ok (.putfield 290, 3) := by decide +kernel
theorem d_Model_run_48 : decode prog_14_method_51_code 48 = .ok (.aload_n 0, 1) := by decide +kernel
theorem d_Model_run_49 : decode prog_14_method_51_code 49 = .ok (.aload_n 0, 1) := by decide +kernel
theorem d_Model_run_50 : decode prog_14_method_51_code 50 = .ok (.iconst 0, 1) := by decide +kernel
theorem d_Model_run_51 : decode prog_14_method_51_code 51 = .ok (.iload_n 1, 1) := by decide +kernel
theorem d_Model_run_52 : decode prog_14_method_51_code 52 = .ok (.invokevirtual 293, 3) := by decide +kernel
theorem d_Model_runs_0 : decode prog_14_method_50_code 0 = .ok (.aload_n 0, 1) := by decide +kernel
theorem d_Model_runs_1 : decode prog_14_method_50_code 1 = .ok (.iload_n 1, 1) := by decide +kernel
theorem d_Model_runs_2 : decode prog_14_method_50_code 2 = .ok (.invokevirtual 275, 3) := by decide +kernel
theorem d_Model_start_0 : decode prog_14_method_46_code 0 = .ok (.iconst 0, 1) := by decide +kernel
theorem d_Model_start_1 : decode prog_14_method_46_code 1 = .ok (.istore_n 2, 1) := by decide +kernel
theorem d_Model_start_2 : decode prog_14_method_46_code 2 = .ok (.iload_n 2, 1) := by decide +kernel
theorem d_Model_start_3 : decode prog_14_method_46_code 3 = .ok (.iconst 4, 1) := by decide +kernel
theorem d_Model_start_4 : decode prog_14_method_46_code 4 = .ok (.if_icmp .ge 16, 3) := by decide +kernel
theorem d_Model_start_7 : decode prog_14_method_46_code 7 = .ok (.aload_n 0, 1) := by decide +kernel
theorem d_Model_start_8 : decode prog_14_method_46_code 8 = .ok (.getfield 76, 3) := by decide +kernel
theorem d_Model_start_11 : decode prog_14_method_46_code 11 = .ok (.iload_n 2, 1) := by decide +kernel
theorem d_Model_start_12 : decode prog_14_method_46_code 12 = .ok (.lconst 0, 1) := by decide +kernel
theorem d_Model_start_13 : decode prog_14_method_46_code 13 = .ok (.lastore, 1) := by decide +kernel
theorem d_Model_start_14 : decode prog_14_method_46_code 14 = .ok (.iinc 2 1, 3) := by decide +kernel
theorem d_Model_start_17 : decode prog_14_method_46_code 17 = .ok (.goto (-15), 3) := by decide +kernel
theorem d_Model_start_20 : decode prog_14_method_46_code 20 = .ok (.aload_n 0, 1) := by decide +kernel
theorem d_Model_start_21 : decode prog_14_method_46_code 21 = .ok (.getfield 76, 3) := by decide +kernel
theorem d_Model_start_24 : decode prog_14_method_46_code 24 = .ok (.iconst 0, 1) := by decide +kernel
theorem d_Model_start_25 : decode prog_14_method_46_code 25 = .ok (.aload_n 0, 1) := by decide +kernel
theorem d_Model_start_26 : decode prog_14_method_46_code 26 = .ok (.getfield 58, 3) := by decide +kernel
theorem d_Model_start_29 : decode prog_14_method_46_code 29 = .ok (.iload_n 1, 1) := by decide +kernel
theorem d_Model_start_30 : decode prog_14_method_46_code 30 = .ok (.iaload, 1) := by decide +kernel
theorem d_Model_start_31 : decode prog_14_method_46_code 31 = .ok (.ifCond .le 7, 3) := by decide +kernel
theorem d_Model_start_38 : decode prog_14_method_46_code 38 = .ok (.lconst 0, 1) := by decide +kernel
theorem d_Model_start_39 : decode prog_14_method_46_code 39 = .ok (.lastore, 1) := by decide +kernel
theorem d_Model_start_40 : decode prog_14_method_46_code 40 = .ok (.return_, 1) := by decide +kernel
abbrev m_c1_Model_start : Room := { frames := 0, cells := 0, slots := 0, locals := 0 }
set_option maxHeartbeats 4000000 in
set_option maxRecDepth 100000 in
theorem c1_Model_start (l : Launch) (G : zG) (b0 : Nat) (b1 : Nat) (b2 : Nat) (b3 : Nat) (b4 : Nat) (b5 : Nat) (b6 : Nat) (b7 : Nat) (b8 : Nat) (b9 : Nat) (b10 : Nat) (b11 : Nat) (b12 : Nat) (b13 : Nat) (b14 : Nat) (b15 : Nat) (b16 : Nat) (b17 : Nat) (b18 : Nat) (b19 : Nat) (b20 : Nat) (b21 : Nat) (b22 : Nat) (b23 : Nat) (b24 : Nat) (b25 : Nat) (b26 : Nat) (b27 : Nat) (b28 : Nat) (b29 : Nat) (b30 : Nat) (b31 : Nat) (b32 : Nat) (b33 : Nat) (b34 : Nat) (b35 : Nat) (b36 : Nat) (b37 : Nat) (b38 : Nat) (b39 : Nat)  : zM l G y_Model_start prog_14_method_46_code 3 (Option.none : Option Jvm.ClassFile.FieldType) m_c1_Model_start [.ref b0, .int 0] [(b0, .inr (12, [.int 0, .ref b1, .ref b2, .ref b3, .ref b4, .int 0, .ref b5, .int 0, .int 0, .int 0, .int 1, .ref b6, .ref b7, .ref b8, .int 0, .ref b9, .ref b10, .ref b11, .ref b12, .ref b13, .ref b14, .ref b15, .ref b16, .ref b17, .ref b18, .ref b19, .ref b20, .int 0, .ref b21, .ref b22, .int 1, .int 0, .int 0, .int 0, .ref b23, .ref b24, .ref b25, .ref b26, .ref b27, .ref b28, .ref b29, .int 0, .ref b30, .ref b31, .int 0, .ref b32, .ref b33, .ref b34, .ref b35, .ref b36, .int 0, .ref b37, .ref b38, .ref b39])), (b21, .inl (G.2 1, 4, .inr (.inl (fun _ => 0)))), (b15, .inl (G.2 0, 2, .inl (upd (fun _ => 0) 0 0)))] (fun v w => (v = none ∧ w = [(b0, .inr (12, [.int 0, .ref b1, .ref b2, .ref b3, .ref b4, .int 0, .ref b5, .int 0, .int 0, .int 0, .int 1, .ref b6, .ref b7, .ref b8, .int 0, .ref b9, .ref b10, .ref b11, .ref b12, .ref b13, .ref b14, .ref b15, .ref b16, .ref b17, .ref b18, .ref b19, .ref b20, .int 0, .ref b21, .ref b22, .int 1, .int 0, .int 0, .int 0, .ref b23, .ref b24, .ref b25, .ref b26, .ref b27, .ref b28, .ref b29, .int 0, .ref b30, .ref b31, .int 0, .ref b32, .ref b33, .ref b34, .ref b35, .ref b36, .int 0, .ref b37, .ref b38, .ref b39])), (b21, .inl (G.2 1, 4, .inr (.inl (vp_updL (vp_updL (vp_updL (vp_updL (vp_updL (fun _ => 0) 0 0) 1 0) 2 0) 3 0) 0 0)))), (b15, .inl (G.2 0, 2, .inl (upd (fun _ => 0) 0 0)))])) := by
  refine z_start (by decide +kernel) (Nat.le_of_ble_eq_true rfl) ?_
  intro p e s m below meth c A Z hr hnm hA hP hD hS ls hl
  have Z : zC p s m _ meth c prog_14_method_46_code 3 "TraceMachinesModel" G := Z
  obtain ⟨hx, hb, hml, hown, hts, hK, hN, hlocks⟩ := id Z
  have hl : lv_has ls 3 [(0, .ref b0), (1, .int 0)] := hl
  refine lv_iconst (v := 0) hx hb d_Model_start_0 (by decide) ?_
  refine lv_istore_n (lv' := [(2, .int 0), (0, .ref b0), (1, .int 0)]) hx hb d_Model_start_1 rfl hl (by decide) rfl (fun ls hl => ?_)
  refine lv_iload_n hx hb d_Model_start_2 rfl (lv_at hl 0 rfl) ?_
  refine lv_iconst (v := 4) hx hb d_Model_start_3 (by decide) ?_
  refine lv_icmp_ge (tgt := 20) hx hb d_Model_start_4 (by decide) (fun hc => absurd hc (by decide +kernel)) (fun _ => ?_)
  refine lv_aload_n hx hb d_Model_start_7 rfl (lv_at hl 1 rfl) ?_
  refine va_get (D := G.1) (ci := 12) (v := .ref b21) (C := R_Model) (T := F_Model) (N := 54) hx hb hts i_Model hown hK hP 0 rfl rfl 28 (by decide) (hts _ q1141) (fun _ h9 => h9) rfl d_Model_start_8 ?_
  refine lv_iload_n hx hb d_Model_start_11 rfl (lv_at hl 0 rfl) ?_
  refine lv_lconst (v := 0) hx hb d_Model_start_12 (by decide) ?_
  refine va_last hx hb hK hP hD hS 1 1 rfl rfl (i := 0) (z_in rfl) d_Model_start_13 (fun H locs hP hD hS => ?_)
  have hP : va_P G.1 classes [(b0, .inr (12, [.int 0, .ref b1, .ref b2, .ref b3, .ref b4, .int 0, .ref b5, .int 0, .int 0, .int 0, .int 1, .ref b6, .ref b7, .ref b8, .int 0, .ref b9, .ref b10, .ref b11, .ref b12, .ref b13, .ref b14, .ref b15, .ref b16, .ref b17, .ref b18, .ref b19, .ref b20, .int 0, .ref b21, .ref b22, .int 1, .int 0, .int 0, .int 0, .ref b23, .ref b24, .ref b25, .ref b26, .ref b27, .ref b28, .ref b29, .int 0, .ref b30, .ref b31, .int 0, .ref b32, .ref b33, .ref b34, .ref b35, .ref b36, .int 0, .ref b37, .ref b38, .ref b39])), (b21, .inl (G.2 1, 4, .inr (.inl (vp_updL (fun _ => 0) 0 0)))), (b15, .inl (G.2 0, 2, .inl (upd (fun _ => 0) 0 0)))] H := hP
  have hD := z_tie hP hD rfl
  refine lv_iinc (v := 1) (lv' := [(2, .int 1), (0, .ref b0), (1, .int 0)]) hx hb d_Model_start_14 hl (k := 0) rfl (by decide +kernel) (by decide) rfl (fun ls hl => ?_)
  refine lv_goto (tgt := 2) hx hb d_Model_start_17 (by decide) ?_
  refine lv_iload_n hx hb d_Model_start_2 rfl (lv_at hl 0 rfl) ?_
  refine lv_iconst (v := 4) hx hb d_Model_start_3 (by decide) ?_
  refine lv_icmp_ge (tgt := 20) hx hb d_Model_start_4 (by decide) (fun hc => absurd hc (by decide +kernel)) (fun _ => ?_)
  refine lv_aload_n hx hb d_Model_start_7 rfl (lv_at hl 1 rfl) ?_
  refine va_get (D := G.1) (ci := 12) (v := .ref b21) (C := R_Model) (T := F_Model) (N := 54) hx hb hts i_Model hown hK hP 0 rfl rfl 28 (by decide) (hts _ q1141) (fun _ h9 => h9) rfl d_Model_start_8 ?_
  refine lv_iload_n hx hb d_Model_start_11 rfl (lv_at hl 0 rfl) ?_
  refine lv_lconst (v := 0) hx hb d_Model_start_12 (by decide) ?_
  refine va_last hx hb hK hP hD hS 1 1 rfl rfl (i := 1) (z_in rfl) d_Model_start_13 (fun H locs hP hD hS => ?_)
  have hP : va_P G.1 classes [(b0, .inr (12, [.int 0, .ref b1, .ref b2, .ref b3, .ref b4, .int 0, .ref b5, .int 0, .int 0, .int 0, .int 1, .ref b6, .ref b7, .ref b8, .int 0, .ref b9, .ref b10, .ref b11, .ref b12, .ref b13, .ref b14, .ref b15, .ref b16, .ref b17, .ref b18, .ref b19, .ref b20, .int 0, .ref b21, .ref b22, .int 1, .int 0, .int 0, .int 0, .ref b23, .ref b24, .ref b25, .ref b26, .ref b27, .ref b28, .ref b29, .int 0, .ref b30, .ref b31, .int 0, .ref b32, .ref b33, .ref b34, .ref b35, .ref b36, .int 0, .ref b37, .ref b38, .ref b39])), (b21, .inl (G.2 1, 4, .inr (.inl (vp_updL (vp_updL (fun _ => 0) 0 0) 1 0)))), (b15, .inl (G.2 0, 2, .inl (upd (fun _ => 0) 0 0)))] H := hP
  have hD := z_tie hP hD rfl
  refine lv_iinc (v := 2) (lv' := [(2, .int 2), (0, .ref b0), (1, .int 0)]) hx hb d_Model_start_14 hl (k := 0) rfl (by decide +kernel) (by decide) rfl (fun ls hl => ?_)
  refine lv_goto (tgt := 2) hx hb d_Model_start_17 (by decide) ?_
  refine lv_iload_n hx hb d_Model_start_2 rfl (lv_at hl 0 rfl) ?_
  refine lv_iconst (v := 4) hx hb d_Model_start_3 (by decide) ?_
  refine lv_icmp_ge (tgt := 20) hx hb d_Model_start_4 (by decide) (fun hc => absurd hc (by decide +kernel)) (fun _ => ?_)
  refine lv_aload_n hx hb d_Model_start_7 rfl (lv_at hl 1 rfl) ?_
  refine va_get (D := G.1) (ci := 12) (v := .ref b21) (C := R_Model) (T := F_Model) (N := 54) hx hb hts i_Model hown hK hP 0 rfl rfl 28 (by decide) (hts _ q1141) (fun _ h9 => h9) rfl d_Model_start_8 ?_
  refine lv_iload_n hx hb d_Model_start_11 rfl (lv_at hl 0 rfl) ?_
  refine lv_lconst (v := 0) hx hb d_Model_start_12 (by decide) ?_
  refine va_last hx hb hK hP hD hS 1 1 rfl rfl (i := 2) (z_in rfl) d_Model_start_13 (fun H locs hP hD hS => ?_)
  have hP : va_P G.1 classes [(b0, .inr (12, [.int 0, .ref b1, .ref b2, .ref b3, .ref b4, .int 0, .ref b5, .int 0, .int 0, .int 0, .int 1, .ref b6, .ref b7, .ref b8, .int 0, .ref b9, .ref b10, .ref b11, .ref b12, .ref b13, .ref b14, .ref b15, .ref b16, .ref b17, .ref b18, .ref b19, .ref b20, .int 0, .ref b21, .ref b22, .int 1, .int 0, .int 0, .int 0, .ref b23, .ref b24, .ref b25, .ref b26, .ref b27, .ref b28, .ref b29, .int 0, .ref b30, .ref b31, .int 0, .ref b32, .ref b33, .ref b34, .ref b35, .ref b36, .int 0, .ref b37, .ref b38, .ref b39])), (b21, .inl (G.2 1, 4, .inr (.inl (vp_updL (vp_updL (vp_updL (fun _ => 0) 0 0) 1 0) 2 0)))), (b15, .inl (G.2 0, 2, .inl (upd (fun _ => 0) 0 0)))] H := hP
  have hD := z_tie hP hD rfl
  refine lv_iinc (v := 3) (lv' := [(2, .int 3), (0, .ref b0), (1, .int 0)]) hx hb d_Model_start_14 hl (k := 0) rfl (by decide +kernel) (by decide) rfl (fun ls hl => ?_)
  refine lv_goto (tgt := 2) hx hb d_Model_start_17 (by decide) ?_
  refine lv_iload_n hx hb d_Model_start_2 rfl (lv_at hl 0 rfl) ?_
  refine lv_iconst (v := 4) hx hb d_Model_start_3 (by decide) ?_
  refine lv_icmp_ge (tgt := 20) hx hb d_Model_start_4 (by decide) (fun hc => absurd hc (by decide +kernel)) (fun _ => ?_)
  refine lv_aload_n hx hb d_Model_start_7 rfl (lv_at hl 1 rfl) ?_
  refine va_get (D := G.1) (ci := 12) (v := .ref b21) (C := R_Model) (T := F_Model) (N := 54) hx hb hts i_Model hown hK hP 0 rfl rfl 28 (by decide) (hts _ q1141) (fun _ h9 => h9) rfl d_Model_start_8 ?_
  refine lv_iload_n hx hb d_Model_start_11 rfl (lv_at hl 0 rfl) ?_
  refine lv_lconst (v := 0) hx hb d_Model_start_12 (by decide) ?_
  refine va_last hx hb hK hP hD hS 1 1 rfl rfl (i := 3) (z_in rfl) d_Model_start_13 (fun H locs hP hD hS => ?_)
  have hP : va_P G.1 classes [(b0, .inr (12, [.int 0, .ref b1, .ref b2, .ref b3, .ref b4, .int 0, .ref b5, .int 0, .int 0, .int 0, .int 1, .ref b6, .ref b7, .ref b8, .int 0, .ref b9, .ref b10, .ref b11, .ref b12, .ref b13, .ref b14, .ref b15, .ref b16, .ref b17, .ref b18, .ref b19, .ref b20, .int 0, .ref b21, .ref b22, .int 1, .int 0, .int 0, .int 0, .ref b23, .ref b24, .ref b25, .ref b26, .ref b27, .ref b28, .ref b29, .int 0, .ref b30, .ref b31, .int 0, .ref b32, .ref b33, .ref b34, .ref b35, .ref b36, .int 0, .ref b37, .ref b38, .ref b39])), (b21, .inl (G.2 1, 4, .inr (.inl (vp_updL (vp_updL (vp_updL (vp_updL (fun _ => 0) 0 0) 1 0) 2 0) 3 0)))), (b15, .inl (G.2 0, 2, .inl (upd (fun _ => 0) 0 0)))] H := hP
  have hD := z_tie hP hD rfl
  refine lv_iinc (v := 4) (lv' := [(2, .int 4), (0, .ref b0), (1, .int 0)]) hx hb d_Model_start_14 hl (k := 0) rfl (by decide +kernel) (by decide) rfl (fun ls hl => ?_)
  refine lv_goto (tgt := 2) hx hb d_Model_start_17 (by decide) ?_
  refine lv_iload_n hx hb d_Model_start_2 rfl (lv_at hl 0 rfl) ?_
  refine lv_iconst (v := 4) hx hb d_Model_start_3 (by decide) ?_
  refine lv_icmp_ge (tgt := 20) hx hb d_Model_start_4 (by decide) (fun _ => ?_) (fun hc => absurd hc (by decide +kernel))
  refine lv_aload_n hx hb d_Model_start_20 rfl (lv_at hl 1 rfl) ?_
  refine va_get (D := G.1) (ci := 12) (v := .ref b21) (C := R_Model) (T := F_Model) (N := 54) hx hb hts i_Model hown hK hP 0 rfl rfl 28 (by decide) (hts _ q1141) (fun _ h9 => h9) rfl d_Model_start_21 ?_
  refine lv_iconst (v := 0) hx hb d_Model_start_24 (by decide) ?_
  refine lv_aload_n hx hb d_Model_start_25 rfl (lv_at hl 1 rfl) ?_
  refine va_get (D := G.1) (ci := 12) (v := .ref b15) (C := R_Model) (T := F_Model) (N := 54) hx hb hts i_Model hown hK hP 0 rfl rfl 21 (by decide) (hts _ q1134) (fun _ h9 => h9) rfl d_Model_start_26 ?_
  refine lv_iload_n hx hb d_Model_start_29 rfl (lv_at hl 2 rfl) ?_
  refine va_iald hx hb hK hP 2 0 rfl rfl (i := 0) (z_in rfl) d_Model_start_30 ?_
  refine z_topi (y := 0) rfl ?_
  refine lv_if_le (tgt := 38) hx hb d_Model_start_31 (by decide) (fun _ => ?_) (fun hc => absurd hc (by decide +kernel))
  refine lv_lconst (v := 0) hx hb d_Model_start_38 (by decide) ?_
  refine va_last hx hb hK hP hD hS 1 1 rfl rfl (i := 0) (z_in rfl) d_Model_start_39 (fun H locs hP hD hS => ?_)
  have hP : va_P G.1 classes [(b0, .inr (12, [.int 0, .ref b1, .ref b2, .ref b3, .ref b4, .int 0, .ref b5, .int 0, .int 0, .int 0, .int 1, .ref b6, .ref b7, .ref b8, .int 0, .ref b9, .ref b10, .ref b11, .ref b12, .ref b13, .ref b14, .ref b15, .ref b16, .ref b17, .ref b18, .ref b19, .ref b20, .int 0, .ref b21, .ref b22, .int 1, .int 0, .int 0, .int 0, .ref b23, .ref b24, .ref b25, .ref b26, .ref b27, .ref b28, .ref b29, .int 0, .ref b30, .ref b31, .int 0, .ref b32, .ref b33, .ref b34, .ref b35, .ref b36, .int 0, .ref b37, .ref b38, .ref b39])), (b21, .inl (G.2 1, 4, .inr (.inl (vp_updL (vp_updL (vp_updL (vp_updL (vp_updL (fun _ => 0) 0 0) 1 0) 2 0) 3 0) 0 0)))), (b15, .inl (G.2 0, 2, .inl (upd (fun _ => 0) 0 0)))] H := hP
  have hD := z_tie hP hD rfl
  exact z_vret hx hb hr hlocks hP hD hS (Nat.le_of_ble_eq_true rfl) (Nat.le_of_ble_eq_true rfl) d_Model_start_40 ⟨rfl, rfl⟩
theorem d_Model_runs_5 : decode prog_14_method_50_code 5 = .ok (.aload_n 0, 1) := by decide +kernel
theorem d_Model_runs_6 : decode prog_14_method_50_code 6 = .ok (.getfield 76, 3) := by decide +kernel
theorem d_Model_runs_9 : decode prog_14_method_50_code 9 = .ok (.iconst 0, 1) := by decide +kernel
theorem d_Model_runs_10 : decode prog_14_method_50_code 10 = .ok (.invokestatic 278, 3) := by decide +kernel
theorem d_Model_isEmpty_0 : decode prog_14_method_48_code 0 = .ok (.aload_n 0, 1) := by decide +kernel
theorem d_Model_isEmpty_1 : decode prog_14_method_48_code 1 = .ok (.iload_n 1, 1) := by decide +kernel
theorem d_Model_isEmpty_2 : decode prog_14_method_48_code 2 = .ok (.laload, 1) := by decide +kernel
theorem d_Model_isEmpty_3 : decode prog_14_method_48_code 3 = .ok (.aload_n 0, 1) := by decide +kernel
theorem d_Model_isEmpty_4 : decode prog_14_method_48_code 4 = .ok (.iload_n 1, 1) := by decide +kernel
theorem d_Model_isEmpty_5 : decode prog_14_method_48_code 5 = .ok (.iconst 1, 1) := by decide +kernel
theorem d_Model_isEmpty_6 : decode prog_14_method_48_code 6 = .ok (.iadd, 1) := by decide +kernel
theorem d_Model_isEmpty_7 : decode prog_14_method_48_code 7 = .ok (.laload, 1) := by decide +kernel
theorem d_Model_isEmpty_8 : decode prog_14_method_48_code 8 = .ok (.lor, 1) := by decide +kernel
theorem d_Model_isEmpty_9 : decode prog_14_method_48_code 9 = .ok (.aload_n 0, 1) := by decide +kernel
theorem d_Model_isEmpty_10 : decode prog_14_method_48_code 10 = .ok (.iload_n 1, 1) := by decide +kernel
theorem d_Model_isEmpty_11 : decode prog_14_method_48_code 11 = .ok (.iconst 2, 1) := by decide +kernel
theorem d_Model_isEmpty_12 : decode prog_14_method_48_code 12 = .ok (.iadd, 1) := by decide +kernel
theorem d_Model_isEmpty_13 : decode prog_14_method_48_code 13 = .ok (.laload, 1) := by decide +kernel
theorem d_Model_isEmpty_14 : decode prog_14_method_48_code 14 = .ok (.lor, 1) := by decide +kernel
theorem d_Model_isEmpty_15 : decode prog_14_method_48_code 15 = .ok (.aload_n 0, 1) := by decide +kernel
theorem d_Model_isEmpty_16 : decode prog_14_method_48_code 16 = .ok (.iload_n 1, 1) := by decide +kernel
theorem d_Model_isEmpty_17 : decode prog_14_method_48_code 17 = .ok (.iconst 3, 1) := by decide +kernel
theorem d_Model_isEmpty_18 : decode prog_14_method_48_code 18 = .ok (.iadd, 1) := by decide +kernel
theorem d_Model_isEmpty_19 : decode prog_14_method_48_code 19 = .ok (.laload, 1) := by decide +kernel
theorem d_Model_isEmpty_20 : decode prog_14_method_48_code 20 = .ok (.lor, 1) := by decide +kernel
theorem d_Model_isEmpty_21 : decode prog_14_method_48_code 21 = .ok (.lconst 0, 1) := by decide +kernel
theorem d_Model_isEmpty_22 : decode prog_14_method_48_code 22 = .ok (.lcmp, 1) := by decide +kernel
theorem d_Model_isEmpty_23 : decode prog_14_method_48_code 23 = .ok (.ifCond .ne 7, 3) := by decide +kernel
theorem d_Model_isEmpty_26 : decode prog_14_method_48_code 26 = .ok (.iconst 1, 1) := by decide +kernel
theorem d_Model_isEmpty_27 : decode prog_14_method_48_code 27 = .ok (.goto 4, 3) := by decide +kernel
theorem d_Model_isEmpty_31 : decode prog_14_method_48_code 31 = .ok (.ireturn, 1) := by decide +kernel
abbrev m_c1_Model_isEmpty : Room := { frames := 0, cells := 0, slots := 0, locals := 0 }
set_option maxHeartbeats 4000000 in
set_option maxRecDepth 100000 in
theorem c1_Model_isEmpty (l : Launch) (G : zG) (b0 : Nat)  : zM l G y_Model_isEmpty prog_14_method_48_code 2 (Option.some Jvm.ClassFile.FieldType.boolean) m_c1_Model_isEmpty [.ref b0, .int 0] [(b0, .inl (G.2 1, 4, .inr (.inl (vp_updL (vp_updL (vp_updL (vp_updL (vp_updL (fun _ => 0) 0 0) 1 0) 2 0) 3 0) 0 0))))] (fun v w => (v = some (.int 1) ∧ w = [(b0, .inl (G.2 1, 4, .inr (.inl (vp_updL (vp_updL (vp_updL (vp_updL (vp_updL (fun _ => 0) 0 0) 1 0) 2 0) 3 0) 0 0))))])) := by
  refine z_start (by decide +kernel) (Nat.le_of_ble_eq_true rfl) ?_
  intro p e s m below meth c A Z hr hnm hA hP hD hS ls hl
  have Z : zC p s m _ meth c prog_14_method_48_code 2 "TraceMachinesModel" G := Z
  obtain ⟨hx, hb, hml, hown, hts, hK, hN, hlocks⟩ := id Z
  have hl : lv_has ls 2 [(0, .ref b0), (1, .int 0)] := hl
  refine lv_aload_n hx hb d_Model_isEmpty_0 rfl (lv_at hl 0 rfl) ?_
  refine lv_iload_n hx hb d_Model_isEmpty_1 rfl (lv_at hl 1 rfl) ?_
  refine va_lald hx hb hK hP 0 1 rfl rfl (i := 0) (z_in rfl) d_Model_isEmpty_2 ?_
  refine z_topl (y := 0) rfl ?_
  refine lv_aload_n hx hb d_Model_isEmpty_3 rfl (lv_at hl 0 rfl) ?_
  refine lv_iload_n hx hb d_Model_isEmpty_4 rfl (lv_at hl 1 rfl) ?_
  refine lv_iconst (v := 1) hx hb d_Model_isEmpty_5 (by decide) ?_
  refine lv_iadd hx hb d_Model_isEmpty_6 ?_
  refine z_topi (y := 1) (by decide +kernel) ?_
  refine va_lald hx hb hK hP 0 1 rfl rfl (i := 1) (z_in rfl) d_Model_isEmpty_7 ?_
  refine z_topl (y := 0) rfl ?_
  refine lv_lor hx hb d_Model_isEmpty_8 ?_
  refine z_topl (y := 0) (by decide +kernel) ?_
  refine lv_aload_n hx hb d_Model_isEmpty_9 rfl (lv_at hl 0 rfl) ?_
  refine lv_iload_n hx hb d_Model_isEmpty_10 rfl (lv_at hl 1 rfl) ?_
  refine lv_iconst (v := 2) hx hb d_Model_isEmpty_11 (by decide) ?_
  refine lv_iadd hx hb d_Model_isEmpty_12 ?_
  refine z_topi (y := 2) (by decide +kernel) ?_
  refine va_lald hx hb hK hP 0 1 rfl rfl (i := 2) (z_in rfl) d_Model_isEmpty_13 ?_
  refine z_topl (y := 0) rfl ?_
  refine lv_lor hx hb d_Model_isEmpty_14 ?_
  refine z_topl (y := 0) (by decide +kernel) ?_
  refine lv_aload_n hx hb d_Model_isEmpty_15 rfl (lv_at hl 0 rfl) ?_
  refine lv_iload_n hx hb d_Model_isEmpty_16 rfl (lv_at hl 1 rfl) ?_
  refine lv_iconst (v := 3) hx hb d_Model_isEmpty_17 (by decide) ?_
  refine lv_iadd hx hb d_Model_isEmpty_18 ?_
  refine z_topi (y := 3) (by decide +kernel) ?_
  refine va_lald hx hb hK hP 0 1 rfl rfl (i := 3) (z_in rfl) d_Model_isEmpty_19 ?_
  refine z_topl (y := 0) rfl ?_
  refine lv_lor hx hb d_Model_isEmpty_20 ?_
  refine z_topl (y := 0) (by decide +kernel) ?_
  refine lv_lconst (v := 0) hx hb d_Model_isEmpty_21 (by decide) ?_
  refine W.lcmp hx hb d_Model_isEmpty_22 ?_
  refine z_topi (y := 0) (by decide +kernel) ?_
  refine lv_if_ne (tgt := 30) hx hb d_Model_isEmpty_23 (by decide) (fun hc => absurd hc (by decide +kernel)) (fun _ => ?_)
  refine lv_iconst (v := 1) hx hb d_Model_isEmpty_26 (by decide) ?_
  refine lv_goto (tgt := 31) hx hb d_Model_isEmpty_27 (by decide) ?_
  exact z_zret hx hb hr hlocks rfl hP hD hS (Nat.le_of_ble_eq_true rfl) (Nat.le_of_ble_eq_true rfl) d_Model_isEmpty_31 ⟨rfl, rfl⟩
theorem d_Model_runs_13 : decode prog_14_method_50_code 13 = .ok (.ifCond .eq 5, 3) := by decide +kernel
theorem d_Model_runs_16 : decode prog_14_method_50_code 16 = .ok (.iconst 0, 1) := by decide +kernel
theorem d_Model_runs_17 : decode prog_14_method_50_code 17 = .ok (.ireturn, 1) := by decide +kernel
abbrev m_c1_Model_runs : Room := { frames := 1, cells := 0, slots := 0, locals := 22 }
set_option maxHeartbeats 4000000 in
set_option maxRecDepth 100000 in
theorem c1_Model_runs (l : Launch) (G : zG) (b0 : Nat) (b1 : Int32) (b2 : Nat) (b3 : Nat) (b4 : Nat) (b5 : Nat) (b6 : Nat) (b7 : Nat) (b8 : Nat) (b9 : Nat) (b10 : Nat) (b11 : Nat) (b12 : Nat) (b13 : Nat) (b14 : Nat) (b15 : Nat) (b16 : Nat) (b17 : Nat) (b18 : Nat) (b19 : Nat) (b20 : Nat) (b21 : Nat) (b22 : Nat) (b23 : Nat) (b24 : Nat) (b25 : Nat) (b26 : Nat) (b27 : Nat) (b28 : Nat) (b29 : Nat) (b30 : Nat) (b31 : Nat) (b32 : Nat) (b33 : Nat) (b34 : Nat) (b35 : Nat) (b36 : Nat) (b37 : Nat) (b38 : Nat) (b39 : Nat) (b40 : Nat)  : zM l G y_Model_runs prog_14_method_50_code 5 (Option.some Jvm.ClassFile.FieldType.int) m_c1_Model_runs [.ref b0, .int 0, .int b1] [(b0, .inr (12, [.int 0, .ref b2, .ref b3, .ref b4, .ref b5, .int 0, .ref b6, .int 0, .int 0, .int 0, .int 1, .ref b7, .ref b8, .ref b9, .int 0, .ref b10, .ref b11, .ref b12, .ref b13, .ref b14, .ref b15, .ref b16, .ref b17, .ref b18, .ref b19, .ref b20, .ref b21, .int 0, .ref b22, .ref b23, .int 1, .int 0, .int 0, .int 0, .ref b24, .ref b25, .ref b26, .ref b27, .ref b28, .ref b29, .ref b30, .int 0, .ref b31, .ref b32, .int 0, .ref b33, .ref b34, .ref b35, .ref b36, .ref b37, .int 0, .ref b38, .ref b39, .ref b40])), (b22, .inl (G.2 1, 4, .inr (.inl (fun _ => 0)))), (b16, .inl (G.2 0, 2, .inl (upd (fun _ => 0) 0 0)))] (fun v w => (v = some (.int 0) ∧ w = [(b0, .inr (12, [.int 0, .ref b2, .ref b3, .ref b4, .ref b5, .int 0, .ref b6, .int 0, .int 0, .int 0, .int 1, .ref b7, .ref b8, .ref b9, .int 0, .ref b10, .ref b11, .ref b12, .ref b13, .ref b14, .ref b15, .ref b16, .ref b17, .ref b18, .ref b19, .ref b20, .ref b21, .int 0, .ref b22, .ref b23, .int 1, .int 0, .int 0, .int 0, .ref b24, .ref b25, .ref b26, .ref b27, .ref b28, .ref b29, .ref b30, .int 0, .ref b31, .ref b32, .int 0, .ref b33, .ref b34, .ref b35, .ref b36, .ref b37, .int 0, .ref b38, .ref b39, .ref b40])), (b16, .inl (G.2 0, 2, .inl (upd (fun _ => 0) 0 0))), (b22, .inl (G.2 1, 4, .inr (.inl (vp_updL (vp_updL (vp_updL (vp_updL (vp_updL (fun _ => 0) 0 0) 1 0) 2 0) 3 0) 0 0))))])) := by
  refine z_start (by decide +kernel) (Nat.le_of_ble_eq_true rfl) ?_
  intro p e s m below meth c A Z hr hnm hA hP hD hS ls hl
  have Z : zC p s m _ meth c prog_14_method_50_code 5 "TraceMachinesModel" G := Z
  obtain ⟨hx, hb, hml, hown, hts, hK, hN, hlocks⟩ := id Z
  have hl : lv_has ls 5 [(0, .ref b0), (1, .int 0), (2, .int b1)] := hl
  refine lv_aload_n hx hb d_Model_runs_0 rfl (lv_at hl 0 rfl) ?_
  refine lv_iload_n hx hb d_Model_runs_1 rfl (lv_at hl 1 rfl) ?_
  refine z_callV (index := 275) (As := [.int 0]) (rest := []) (wr := []) Z (c1_Model_start l G (b0) (b2) (b3) (b4) (b5) (b6) (b7) (b8) (b9) (b10) (b11) (b12) (b13) (b14) (b15) (b16) (b17) (b18) (b19) (b20) (b21) (b22) (b23) (b24) (b25) (b26) (b27) (b28) (b29) (b30) (b31) (b32) (b33) (b34) (b35) (b36) (b37) (b38) (b39) (b40)) hl.1 q1457 q1459 qs75 q14 q1460 ⟨by decide, by decide, by show _ = some 1; decide +kernel⟩ ⟨Nat.le_of_ble_eq_true rfl, Nat.le_of_ble_eq_true rfl⟩ ⟨Nat.le_of_ble_eq_true rfl, Nat.le_of_ble_eq_true rfl⟩ rfl (Nat.le_of_ble_eq_true rfl) d_Model_runs_2 hP hD hS hA 0 12 rfl rfl rfl [0, 1, 2] [] rfl rfl rfl rfl (by decide) (fun v w1 H locs hw_1 hP hD hS => ?_)
  obtain ⟨rfl, rfl⟩ := hw_1
  have hP : va_P G.1 classes [(b0, .inr (12, [.int 0, .ref b2, .ref b3, .ref b4, .ref b5, .int 0, .ref b6, .int 0, .int 0, .int 0, .int 1, .ref b7, .ref b8, .ref b9, .int 0, .ref b10, .ref b11, .ref b12, .ref b13, .ref b14, .ref b15, .ref b16, .ref b17, .ref b18, .ref b19, .ref b20, .ref b21, .int 0, .ref b22, .ref b23, .int 1, .int 0, .int 0, .int 0, .ref b24, .ref b25, .ref b26, .ref b27, .ref b28, .ref b29, .ref b30, .int 0, .ref b31, .ref b32, .int 0, .ref b33, .ref b34, .ref b35, .ref b36, .ref b37, .int 0, .ref b38, .ref b39, .ref b40])), (b22, .inl (G.2 1, 4, .inr (.inl (vp_updL (vp_updL (vp_updL (vp_updL (vp_updL (fun _ => 0) 0 0) 1 0) 2 0) 3 0) 0 0)))), (b16, .inl (G.2 0, 2, .inl (upd (fun _ => 0) 0 0)))] H := hP
  have hD := z_tie hP hD rfl
  refine W.widen (k := 0) (n := 0) (Nat.le_of_ble_eq_true rfl) (Nat.le_of_ble_eq_true rfl) ?_
  refine lv_aload_n hx hb d_Model_runs_5 rfl (lv_at hl 0 rfl) ?_
  refine va_get (D := G.1) (ci := 12) (v := .ref b22) (C := R_Model) (T := F_Model) (N := 54) hx hb hts i_Model hown hK hP 0 rfl rfl 28 (by decide) (hts _ q1141) (fun _ h9 => h9) rfl d_Model_runs_6 ?_
  refine lv_iconst (v := 0) hx hb d_Model_runs_9 (by decide) ?_
  refine z_callS (index := 278) (As := [.ref b22, .int 0]) (rest := []) (wr := [(b0, .inr (12, [.int 0, .ref b2, .ref b3, .ref b4, .ref b5, .int 0, .ref b6, .int 0, .int 0, .int 0, .int 1, .ref b7, .ref b8, .ref b9, .int 0, .ref b10, .ref b11, .ref b12, .ref b13, .ref b14, .ref b15, .ref b16, .ref b17, .ref b18, .ref b19, .ref b20, .ref b21, .int 0, .ref b22, .ref b23, .int 1, .int 0, .int 0, .int 0, .ref b24, .ref b25, .ref b26, .ref b27, .ref b28, .ref b29, .ref b30, .int 0, .ref b31, .ref b32, .int 0, .ref b33, .ref b34, .ref b35, .ref b36, .ref b37, .int 0, .ref b38, .ref b39, .ref b40])), (b16, .inl (G.2 0, 2, .inl (upd (fun _ => 0) 0 0)))]) Z (c1_Model_isEmpty l G (b22)) hl.1 q1461 q1462 q14 q1463 ⟨by decide, by decide, by show _ = some 2; decide +kernel⟩ ⟨Nat.le_of_ble_eq_true rfl, Nat.le_of_ble_eq_true rfl⟩ ⟨Nat.le_of_ble_eq_true rfl, Nat.le_of_ble_eq_true rfl⟩ rfl (Nat.le_of_ble_eq_true rfl) d_Model_runs_10 hP hD hS hA [1] [0, 2] rfl rfl rfl rfl (by decide) (fun v w1 H locs hw_2 hP hD hS => ?_)
  obtain ⟨rfl, rfl⟩ := hw_2
  have hP : va_P G.1 classes [(b0, .inr (12, [.int 0, .ref b2, .ref b3, .ref b4, .ref b5, .int 0, .ref b6, .int 0, .int 0, .int 0, .int 1, .ref b7, .ref b8, .ref b9, .int 0, .ref b10, .ref b11, .ref b12, .ref b13, .ref b14, .ref b15, .ref b16, .ref b17, .ref b18, .ref b19, .ref b20, .ref b21, .int 0, .ref b22, .ref b23, .int 1, .int 0, .int 0, .int 0, .ref b24, .ref b25, .ref b26, .ref b27, .ref b28, .ref b29, .ref b30, .int 0, .ref b31, .ref b32, .int 0, .ref b33, .ref b34, .ref b35, .ref b36, .ref b37, .int 0, .ref b38, .ref b39, .ref b40])), (b16, .inl (G.2 0, 2, .inl (upd (fun _ => 0) 0 0))), (b22, .inl (G.2 1, 4, .inr (.inl (vp_updL (vp_updL (vp_updL (vp_updL (vp_updL (fun _ => 0) 0 0) 1 0) 2 0) 3 0) 0 0))))] H := hP
  have hD := z_tie hP hD rfl
  refine W.widen (k := 0) (n := 0) (Nat.le_of_ble_eq_true rfl) (Nat.le_of_ble_eq_true rfl) ?_
  refine lv_if_eq (tgt := 18) hx hb d_Model_runs_13 (by decide) (fun hc => absurd hc (by decide +kernel)) (fun _ => ?_)
  refine lv_iconst (v := 0) hx hb d_Model_runs_16 (by decide) ?_
  exact z_iret hx hb hr hlocks hP hD hS (Nat.le_of_ble_eq_true rfl) (Nat.le_of_ble_eq_true rfl) d_Model_runs_17 ⟨rfl, rfl⟩
theorem d_Model_run_55 : decode prog_14_method_51_code 55 = .ok (.putfield 296, 3) := by decide +kernel
theorem d_Model_run_58 : decode prog_14_method_51_code 58 = .ok (.aload_n 0, 1) := by decide +kernel
theorem d_Model_run_59 : decode prog_14_method_51_code 59 = .ok (.iconst 0, 1) := by decide +kernel
theorem d_Model_run_60 : decode prog_14_method_51_code 60 = .ok (.putfield 299, 3) := by decide +kernel
theorem d_Model_run_63 : decode prog_14_method_51_code 63 = .ok (.aload_n 0, 1) := by decide +kernel
theorem d_Model_run_64 : decode prog_14_method_51_code 64 = .ok (.iconst (-1), 1) := by decide +kernel
theorem d_Model_run_65 : decode prog_14_method_51_code 65 = .ok (.putfield 302, 3) := by decide +kernel
theorem d_Model_run_68 : decode prog_14_method_51_code 68 = .ok (.aload_n 0, 1) := by decide +kernel
theorem d_Model_run_69 : decode prog_14_method_51_code 69 = .ok (.getfield 58, 3) := by decide +kernel
theorem d_Model_run_72 : decode prog_14_method_51_code 72 = .ok (.iconst 0, 1) := by decide +kernel
theorem d_Model_run_73 : decode prog_14_method_51_code 73 = .ok (.iaload, 1) := by decide +kernel
theorem d_Model_run_74 : decode prog_14_method_51_code 74 = .ok (.iconst 1, 1) := by decide +kernel
theorem d_Model_run_75 : decode prog_14_method_51_code 75 = .ok (.isub, 1) := by decide +kernel
theorem d_Model_run_76 : decode prog_14_method_51_code 76 = .ok (.istore_n 2, 1) := by decide +kernel
theorem d_Model_run_77 : decode prog_14_method_51_code 77 = .ok (.iload_n 2, 1) := by decide +kernel
theorem d_Model_run_78 : decode prog_14_method_51_code 78 = .ok (.ifCond .lt 36, 3) := by decide +kernel
theorem d_Model_run_114 : decode prog_14_method_51_code 114 = .ok (.aload_n 0, 1) := by decide +kernel
theorem d_Model_run_115 : decode prog_14_method_51_code 115 = .ok (.getfield 296, 3) := by decide +kernel
theorem d_Model_run_118 : decode prog_14_method_51_code 118 = .ok (.iconst (-1), 1) := by decide +kernel
theorem d_Model_run_119 : decode prog_14_method_51_code 119 = .ok (.if_icmp .ne 7, 3) := by decide +kernel
theorem d_Model_run_126 : decode prog_14_method_51_code 126 = .ok (.iconst 0, 1) := by decide +kernel
theorem d_Model_run_127 : decode prog_14_method_51_code 127 = .ok (.ireturn, 1) := by decide +kernel
abbrev m_t_Model_run : Room := { frames := 4, cells := 0, slots := 0, locals := 94 }
set_option maxHeartbeats 4000000 in
set_option maxRecDepth 100000 in
theorem t_Model_run (l : Launch) (G : zG) (b0 : Nat) (p0 : Int32) (b2 : Nat) (b3 : Nat) (b4 : Nat) (b5 : Nat) (b6 : Nat) (b7 : Nat) (b8 : Nat) (b9 : Nat) (b10 : Nat) (b11 : Nat) (b12 : Nat) (b13 : Nat) (b14 : Nat) (b15 : Nat) (b16 : Nat) (b17 : Nat) (b18 : Nat) (b19 : Nat) (b20 : Nat) (b21 : Nat) (b22 : Nat) (b23 : Nat) (b24 : Nat) (b25 : Nat) (b26 : Nat) (b27 : Nat) (b28 : Nat) (b29 : Nat) (b30 : Nat) (b31 : Nat) (b32 : Nat) (b33 : Nat) (b34 : Nat) (b35 : Nat) (b36 : Nat) (b37 : Nat) (b38 : Nat) (b39 : Nat) (b40 : Nat)  : zM l G y_Model_run prog_14_method_51_code 3 (Option.some Jvm.ClassFile.FieldType.int) m_t_Model_run [.ref b0, .int p0] [(b0, .inr (12, [.int 0, .ref b2, .ref b3, .ref b4, .ref b5, .int 0, .ref b6, .int 0, .int 0, .int 0, .int 0, .ref b7, .ref b8, .ref b9, .int 0, .ref b10, .ref b11, .ref b12, .ref b13, .ref b14, .ref b15, .ref b16, .ref b17, .ref b18, .ref b19, .ref b20, .ref b21, .int 0, .ref b22, .ref b23, .int 0, .int 0, .int 0, .int 0, .ref b24, .ref b25, .ref b26, .ref b27, .ref b28, .ref b29, .ref b30, .int 0, .ref b31, .ref b32, .int 0, .ref b33, .ref b34, .ref b35, .ref b36, .ref b37, .int 0, .ref b38, .ref b39, .ref b40])), (b2, .inl (G.2 0, 503, .inl (upd (fun _ => 0) 501 1))), (b10, .inl (G.2 0, 2, .inl (fun _ => 0))), (b11, .inl (G.2 0, 4820, .inl (fun _ => 0))), (b14, .inl (G.2 0, 482, .inl (fun _ => 0))), (b16, .inl (G.2 0, 2, .inl (fun _ => 0))), (b20, .inl (G.2 0, 2, .inl (fun _ => 0))), (b22, .inl (G.2 1, 4, .inr (.inl (fun _ => 0))))] (fun v _ => v = some (.int (a_run p0))) := by
  refine z_start (by decide +kernel) (Nat.le_of_ble_eq_true rfl) ?_
  intro p e s m below meth c A Z hr hnm hA hP hD hS ls hl
  have Z : zC p s m _ meth c prog_14_method_51_code 3 "TraceMachinesModel" G := Z
  obtain ⟨hx, hb, hml, hown, hts, hK, hN, hlocks⟩ := id Z
  have hl : lv_has ls 3 [(0, .ref b0), (1, .int p0)] := hl
  refine lv_aload_n hx hb d_Model_run_0 rfl (lv_at hl 0 rfl) ?_
  refine lv_iconst (v := 0) hx hb d_Model_run_1 (by decide) ?_
  refine va_put (D := G.1) (ci := 12) (v := .int 0) (ty := .int) (C := R_Model) (T := F_Model) (N := 54) hx hb hts i_Model t_Model t_Model_ok n_Model hown hK hP hD hS 0 rfl rfl 0 (by decide) (hts _ q1113) (fun _ h9 => h9) rfl (by decide +kernel) rfl rfl (Nat.le_of_ble_eq_true rfl) d_Model_run_2 (fun H locs hP hD hS => ?_)
  have hP : va_P G.1 classes [(b0, .inr (12, [.int 0, .ref b2, .ref b3, .ref b4, .ref b5, .int 0, .ref b6, .int 0, .int 0, .int 0, .int 0, .ref b7, .ref b8, .ref b9, .int 0, .ref b10, .ref b11, .ref b12, .ref b13, .ref b14, .ref b15, .ref b16, .ref b17, .ref b18, .ref b19, .ref b20, .ref b21, .int 0, .ref b22, .ref b23, .int 0, .int 0, .int 0, .int 0, .ref b24, .ref b25, .ref b26, .ref b27, .ref b28, .ref b29, .ref b30, .int 0, .ref b31, .ref b32, .int 0, .ref b33, .ref b34, .ref b35, .ref b36, .ref b37, .int 0, .ref b38, .ref b39, .ref b40])), (b2, .inl (G.2 0, 503, .inl (upd (fun _ => 0) 501 1))), (b10, .inl (G.2 0, 2, .inl (fun _ => 0))), (b11, .inl (G.2 0, 4820, .inl (fun _ => 0))), (b14, .inl (G.2 0, 482, .inl (fun _ => 0))), (b16, .inl (G.2 0, 2, .inl (fun _ => 0))), (b20, .inl (G.2 0, 2, .inl (fun _ => 0))), (b22, .inl (G.2 1, 4, .inr (.inl (fun _ => 0))))] H := hP
  have hD := z_tie hP hD rfl
  refine lv_aload_n hx hb d_Model_run_5 rfl (lv_at hl 0 rfl) ?_
  refine lv_iconst (v := 0) hx hb d_Model_run_6 (by decide) ?_
  refine va_put (D := G.1) (ci := 12) (v := .int 0) (ty := .int) (C := R_Model) (T := F_Model) (N := 54) hx hb hts i_Model t_Model t_Model_ok n_Model hown hK hP hD hS 0 rfl rfl 8 (by decide) (hts _ q1121) (fun _ h9 => h9) rfl (by decide +kernel) rfl rfl (Nat.le_of_ble_eq_true rfl) d_Model_run_7 (fun H locs hP hD hS => ?_)
  have hP : va_P G.1 classes [(b0, .inr (12, [.int 0, .ref b2, .ref b3, .ref b4, .ref b5, .int 0, .ref b6, .int 0, .int 0, .int 0, .int 0, .ref b7, .ref b8, .ref b9, .int 0, .ref b10, .ref b11, .ref b12, .ref b13, .ref b14, .ref b15, .ref b16, .ref b17, .ref b18, .ref b19, .ref b20, .ref b21, .int 0, .ref b22, .ref b23, .int 0, .int 0, .int 0, .int 0, .ref b24, .ref b25, .ref b26, .ref b27, .ref b28, .ref b29, .ref b30, .int 0, .ref b31, .ref b32, .int 0, .ref b33, .ref b34, .ref b35, .ref b36, .ref b37, .int 0, .ref b38, .ref b39, .ref b40])), (b2, .inl (G.2 0, 503, .inl (upd (fun _ => 0) 501 1))), (b10, .inl (G.2 0, 2, .inl (fun _ => 0))), (b11, .inl (G.2 0, 4820, .inl (fun _ => 0))), (b14, .inl (G.2 0, 482, .inl (fun _ => 0))), (b16, .inl (G.2 0, 2, .inl (fun _ => 0))), (b20, .inl (G.2 0, 2, .inl (fun _ => 0))), (b22, .inl (G.2 1, 4, .inr (.inl (fun _ => 0))))] H := hP
  have hD := z_tie hP hD rfl
  refine lv_aload_n hx hb d_Model_run_10 rfl (lv_at hl 0 rfl) ?_
  refine lv_iconst (v := 1) hx hb d_Model_run_11 (by decide) ?_
  refine va_put (D := G.1) (ci := 12) (v := .int 1) (ty := .boolean) (C := R_Model) (T := F_Model) (N := 54) hx hb hts i_Model t_Model t_Model_ok n_Model hown hK hP hD hS 0 rfl rfl 10 (by decide) (hts _ q1123) (fun _ h9 => h9) rfl (by decide +kernel) rfl rfl (Nat.le_of_ble_eq_true rfl) d_Model_run_12 (fun H locs hP hD hS => ?_)
  have hP : va_P G.1 classes [(b0, .inr (12, [.int 0, .ref b2, .ref b3, .ref b4, .ref b5, .int 0, .ref b6, .int 0, .int 0, .int 0, .int 1, .ref b7, .ref b8, .ref b9, .int 0, .ref b10, .ref b11, .ref b12, .ref b13, .ref b14, .ref b15, .ref b16, .ref b17, .ref b18, .ref b19, .ref b20, .ref b21, .int 0, .ref b22, .ref b23, .int 0, .int 0, .int 0, .int 0, .ref b24, .ref b25, .ref b26, .ref b27, .ref b28, .ref b29, .ref b30, .int 0, .ref b31, .ref b32, .int 0, .ref b33, .ref b34, .ref b35, .ref b36, .ref b37, .int 0, .ref b38, .ref b39, .ref b40])), (b2, .inl (G.2 0, 503, .inl (upd (fun _ => 0) 501 1))), (b10, .inl (G.2 0, 2, .inl (fun _ => 0))), (b11, .inl (G.2 0, 4820, .inl (fun _ => 0))), (b14, .inl (G.2 0, 482, .inl (fun _ => 0))), (b16, .inl (G.2 0, 2, .inl (fun _ => 0))), (b20, .inl (G.2 0, 2, .inl (fun _ => 0))), (b22, .inl (G.2 1, 4, .inr (.inl (fun _ => 0))))] H := hP
  have hD := z_tie hP hD rfl
  refine lv_aload_n hx hb d_Model_run_15 rfl (lv_at hl 0 rfl) ?_
  refine z_callV (index := 176) (As := []) (rest := []) (wr := [(b2, .inl (G.2 0, 503, .inl (upd (fun _ => 0) 501 1))), (b10, .inl (G.2 0, 2, .inl (fun _ => 0))), (b11, .inl (G.2 0, 4820, .inl (fun _ => 0))), (b14, .inl (G.2 0, 482, .inl (fun _ => 0))), (b16, .inl (G.2 0, 2, .inl (fun _ => 0))), (b20, .inl (G.2 0, 2, .inl (fun _ => 0))), (b22, .inl (G.2 1, 4, .inr (.inl (fun _ => 0))))]) Z (c1_Model_readCalls l G (b0) (b2) (b3) (b4) (b5) (b6) (b7) (b8) (b9) (b10) (b11) (b12) (b13) (b14) (b15) (b16) (b17) (b18) (b19) (b20) (b21) (b22) (b23) (b24) (b25) (b26) (b27) (b28) (b29) (b30) (b31) (b32) (b33) (b34) (b35) (b36) (b37) (b38) (b39) (b40)) hl.1 q1304 q1306 qs47 q14 q1307 ⟨by decide, by decide, by show _ = some 0; decide +kernel⟩ ⟨Nat.le_of_ble_eq_true rfl, Nat.le_of_ble_eq_true rfl⟩ ⟨Nat.le_of_ble_eq_true rfl, Nat.le_of_ble_eq_true rfl⟩ rfl (Nat.le_of_ble_eq_true rfl) d_Model_run_16 hP hD hS hA 0 12 rfl rfl rfl [0] [1, 2, 3, 4, 5, 6, 7] rfl rfl rfl rfl (by decide) (fun v w1 H locs hw_1 hP hD hS => ?_)
  obtain ⟨rfl, rfl⟩ := hw_1
  have hP : va_P G.1 classes [(b2, .inl (G.2 0, 503, .inl (upd (fun _ => 0) 501 1))), (b10, .inl (G.2 0, 2, .inl (fun _ => 0))), (b11, .inl (G.2 0, 4820, .inl (fun _ => 0))), (b14, .inl (G.2 0, 482, .inl (fun _ => 0))), (b16, .inl (G.2 0, 2, .inl (fun _ => 0))), (b20, .inl (G.2 0, 2, .inl (fun _ => 0))), (b22, .inl (G.2 1, 4, .inr (.inl (fun _ => 0)))), (b0, .inr (12, [.int 0, .ref b2, .ref b3, .ref b4, .ref b5, .int 0, .ref b6, .int 0, .int 0, .int 0, .int 1, .ref b7, .ref b8, .ref b9, .int 0, .ref b10, .ref b11, .ref b12, .ref b13, .ref b14, .ref b15, .ref b16, .ref b17, .ref b18, .ref b19, .ref b20, .ref b21, .int 0, .ref b22, .ref b23, .int 0, .int 0, .int 0, .int 0, .ref b24, .ref b25, .ref b26, .ref b27, .ref b28, .ref b29, .ref b30, .int 0, .ref b31, .ref b32, .int 0, .ref b33, .ref b34, .ref b35, .ref b36, .ref b37, .int 0, .ref b38, .ref b39, .ref b40]))] H := hP
  have hD := z_tie hP hD rfl
  refine W.widen (k := 0) (n := 0) (Nat.le_of_ble_eq_true rfl) (Nat.le_of_ble_eq_true rfl) ?_
  refine lv_aload_n hx hb d_Model_run_19 rfl (lv_at hl 0 rfl) ?_
  refine z_callV (index := 185) (As := []) (rest := []) (wr := [(b2, .inl (G.2 0, 503, .inl (upd (fun _ => 0) 501 1))), (b10, .inl (G.2 0, 2, .inl (fun _ => 0))), (b11, .inl (G.2 0, 4820, .inl (fun _ => 0))), (b14, .inl (G.2 0, 482, .inl (fun _ => 0))), (b16, .inl (G.2 0, 2, .inl (fun _ => 0))), (b20, .inl (G.2 0, 2, .inl (fun _ => 0))), (b22, .inl (G.2 1, 4, .inr (.inl (fun _ => 0))))]) Z (c1_Model_endsReading l G (b0) (b2) (b3) (b4) (b5) (b6) (b7) (b8) (b9) (b10) (b11) (b12) (b13) (b14) (b15) (b16) (b17) (b18) (b19) (b20) (b21) (b22) (b23) (b24) (b25) (b26) (b27) (b28) (b29) (b30) (b31) (b32) (b33) (b34) (b35) (b36) (b37) (b38) (b39) (b40)) hl.1 q1316 q1318 qs49 q14 q1319 ⟨by decide, by decide, by show _ = some 0; decide +kernel⟩ ⟨Nat.le_of_ble_eq_true rfl, Nat.le_of_ble_eq_true rfl⟩ ⟨Nat.le_of_ble_eq_true rfl, Nat.le_of_ble_eq_true rfl⟩ rfl (Nat.le_of_ble_eq_true rfl) d_Model_run_20 hP hD hS hA 7 12 rfl rfl rfl [7] [0, 1, 2, 3, 4, 5, 6] rfl rfl rfl rfl (by decide) (fun v w1 H locs hw_2 hP hD hS => ?_)
  obtain ⟨rfl, rfl⟩ := hw_2
  have hP : va_P G.1 classes [(b2, .inl (G.2 0, 503, .inl (upd (fun _ => 0) 501 1))), (b10, .inl (G.2 0, 2, .inl (fun _ => 0))), (b11, .inl (G.2 0, 4820, .inl (fun _ => 0))), (b14, .inl (G.2 0, 482, .inl (fun _ => 0))), (b16, .inl (G.2 0, 2, .inl (fun _ => 0))), (b20, .inl (G.2 0, 2, .inl (fun _ => 0))), (b22, .inl (G.2 1, 4, .inr (.inl (fun _ => 0)))), (b0, .inr (12, [.int 0, .ref b2, .ref b3, .ref b4, .ref b5, .int 0, .ref b6, .int 0, .int 0, .int 0, .int 1, .ref b7, .ref b8, .ref b9, .int 0, .ref b10, .ref b11, .ref b12, .ref b13, .ref b14, .ref b15, .ref b16, .ref b17, .ref b18, .ref b19, .ref b20, .ref b21, .int 0, .ref b22, .ref b23, .int 0, .int 0, .int 0, .int 0, .ref b24, .ref b25, .ref b26, .ref b27, .ref b28, .ref b29, .ref b30, .int 0, .ref b31, .ref b32, .int 0, .ref b33, .ref b34, .ref b35, .ref b36, .ref b37, .int 0, .ref b38, .ref b39, .ref b40]))] H := hP
  have hD := z_tie hP hD rfl
  refine W.widen (k := 0) (n := 0) (Nat.le_of_ble_eq_true rfl) (Nat.le_of_ble_eq_true rfl) ?_
  refine lv_aload_n hx hb d_Model_run_23 rfl (lv_at hl 0 rfl) ?_
  refine va_get (D := G.1) (ci := 12) (v := .int 1) (C := R_Model) (T := F_Model) (N := 54) hx hb hts i_Model hown hK hP 7 rfl rfl 10 (by decide) (hts _ q1123) (fun _ h9 => h9) rfl d_Model_run_24 ?_
  refine lv_if_ne (tgt := 39) hx hb d_Model_run_27 (by decide) (fun _ => ?_) (fun hc => absurd hc (by decide +kernel))
  refine lv_aload_n hx hb d_Model_run_39 rfl (lv_at hl 0 rfl) ?_
  refine z_callV (index := 254) (As := []) (rest := []) (wr := [(b22, .inl (G.2 1, 4, .inr (.inl (fun _ => 0))))]) Z (c2_Model_lay1 l G (b0) (b2) (b3) (b4) (b5) (b6) (b7) (b8) (b9) (b10) (b11) (b12) (b13) (b14) (b15) (b16) (b17) (b18) (b19) (b20) (b21) (b22) (b23) (b24) (b25) (b26) (b27) (b28) (b29) (b30) (b31) (b32) (b33) (b34) (b35) (b36) (b37) (b38) (b39) (b40)) hl.1 q1360 q1362 qs55 q14 q1363 ⟨by decide, by decide, by show _ = some 0; decide +kernel⟩ ⟨Nat.le_of_ble_eq_true rfl, Nat.le_of_ble_eq_true rfl⟩ ⟨Nat.le_of_ble_eq_true rfl, Nat.le_of_ble_eq_true rfl⟩ rfl (Nat.le_of_ble_eq_true rfl) d_Model_run_40 hP hD hS hA 7 12 rfl rfl rfl [7, 0, 1, 2, 3, 4, 5] [6] rfl rfl rfl rfl (by decide) (fun v w1 H locs hw_3 hP hD hS => ?_)
  obtain ⟨rfl, rfl⟩ := hw_3
  have hP : va_P G.1 classes [(b22, .inl (G.2 1, 4, .inr (.inl (fun _ => 0)))), (b20, .inl (G.2 0, 2, .inl (upd (fun _ => 0) 0 0))), (b11, .inl (G.2 0, 4820, .inl (upd (upd (upd (upd (upd (upd (upd (upd (upd (upd (fun _ => 0) 0 (-1)) 1 (-1)) 2 (-1)) 3 (-1)) 4 (-1)) 5 (-1)) 6 (-1)) 7 (-1)) 8 (-1)) 9 (-1)))), (b14, .inl (G.2 0, 482, .inl (upd (upd (fun _ => 0) 0 0) 0 0))), (b16, .inl (G.2 0, 2, .inl (upd (fun _ => 0) 0 0))), (b10, .inl (G.2 0, 2, .inl (upd (upd (fun _ => 0) 0 0) 0 1))), (b0, .inr (12, [.int 0, .ref b2, .ref b3, .ref b4, .ref b5, .int 0, .ref b6, .int 0, .int 0, .int 0, .int 1, .ref b7, .ref b8, .ref b9, .int 0, .ref b10, .ref b11, .ref b12, .ref b13, .ref b14, .ref b15, .ref b16, .ref b17, .ref b18, .ref b19, .ref b20, .ref b21, .int 0, .ref b22, .ref b23, .int 0, .int 0, .int 0, .int 0, .ref b24, .ref b25, .ref b26, .ref b27, .ref b28, .ref b29, .ref b30, .int 0, .ref b31, .ref b32, .int 0, .ref b33, .ref b34, .ref b35, .ref b36, .ref b37, .int 0, .ref b38, .ref b39, .ref b40])), (b2, .inl (G.2 0, 503, .inl (upd (fun _ => 0) 501 1)))] H := hP
  have hD := z_tie hP hD rfl
  refine W.widen (k := 0) (n := 0) (Nat.le_of_ble_eq_true rfl) (Nat.le_of_ble_eq_true rfl) ?_
  refine lv_aload_n hx hb d_Model_run_43 rfl (lv_at hl 0 rfl) ?_
  refine lv_iconst (v := 1) hx hb d_Model_run_44 (by decide) ?_
  refine va_put (D := G.1) (ci := 12) (v := .int 1) (ty := .boolean) (C := R_Model) (T := F_Model) (N := 54) hx hb hts i_Model t_Model t_Model_ok n_Model hown hK hP hD hS 6 rfl rfl 30 (by decide) (hts _ q1143) (fun _ h9 => h9) rfl (by decide +kernel) rfl rfl (Nat.le_of_ble_eq_true rfl) d_Model_run_45 (fun H locs hP hD hS => ?_)
  have hP : va_P G.1 classes [(b22, .inl (G.2 1, 4, .inr (.inl (fun _ => 0)))), (b20, .inl (G.2 0, 2, .inl (upd (fun _ => 0) 0 0))), (b11, .inl (G.2 0, 4820, .inl (upd (upd (upd (upd (upd (upd (upd (upd (upd (upd (fun _ => 0) 0 (-1)) 1 (-1)) 2 (-1)) 3 (-1)) 4 (-1)) 5 (-1)) 6 (-1)) 7 (-1)) 8 (-1)) 9 (-1)))), (b14, .inl (G.2 0, 482, .inl (upd (upd (fun _ => 0) 0 0) 0 0))), (b16, .inl (G.2 0, 2, .inl (upd (fun _ => 0) 0 0))), (b10, .inl (G.2 0, 2, .inl (upd (upd (fun _ => 0) 0 0) 0 1))), (b0, .inr (12, [.int 0, .ref b2, .ref b3, .ref b4, .ref b5, .int 0, .ref b6, .int 0, .int 0, .int 0, .int 1, .ref b7, .ref b8, .ref b9, .int 0, .ref b10, .ref b11, .ref b12, .ref b13, .ref b14, .ref b15, .ref b16, .ref b17, .ref b18, .ref b19, .ref b20, .ref b21, .int 0, .ref b22, .ref b23, .int 1, .int 0, .int 0, .int 0, .ref b24, .ref b25, .ref b26, .ref b27, .ref b28, .ref b29, .ref b30, .int 0, .ref b31, .ref b32, .int 0, .ref b33, .ref b34, .ref b35, .ref b36, .ref b37, .int 0, .ref b38, .ref b39, .ref b40])), (b2, .inl (G.2 0, 503, .inl (upd (fun _ => 0) 501 1)))] H := hP
  have hD := z_tie hP hD rfl
  refine lv_aload_n hx hb d_Model_run_48 rfl (lv_at hl 0 rfl) ?_
  refine lv_aload_n hx hb d_Model_run_49 rfl (lv_at hl 0 rfl) ?_
  refine lv_iconst (v := 0) hx hb d_Model_run_50 (by decide) ?_
  refine lv_iload_n hx hb d_Model_run_51 rfl (lv_at hl 1 rfl) ?_
  refine z_callV (index := 293) (As := [.int 0, .int p0]) (rest := [.ref b0]) (wr := [(b20, .inl (G.2 0, 2, .inl (upd (fun _ => 0) 0 0))), (b11, .inl (G.2 0, 4820, .inl (upd (upd (upd (upd (upd (upd (upd (upd (upd (upd (fun _ => 0) 0 (-1)) 1 (-1)) 2 (-1)) 3 (-1)) 4 (-1)) 5 (-1)) 6 (-1)) 7 (-1)) 8 (-1)) 9 (-1)))), (b14, .inl (G.2 0, 482, .inl (upd (upd (fun _ => 0) 0 0) 0 0))), (b10, .inl (G.2 0, 2, .inl (upd (upd (fun _ => 0) 0 0) 0 1))), (b2, .inl (G.2 0, 503, .inl (upd (fun _ => 0) 501 1)))]) Z (c1_Model_runs l G (b0) (p0) (b2) (b3) (b4) (b5) (b6) (b7) (b8) (b9) (b10) (b11) (b12) (b13) (b14) (b15) (b16) (b17) (b18) (b19) (b20) (b21) (b22) (b23) (b24) (b25) (b26) (b27) (b28) (b29) (b30) (b31) (b32) (b33) (b34) (b35) (b36) (b37) (b38) (b39) (b40)) hl.1 q1453 q1455 qs74 q14 q1456 ⟨by decide, by decide, by show _ = some 2; decide +kernel⟩ ⟨Nat.le_of_ble_eq_true rfl, Nat.le_of_ble_eq_true rfl⟩ ⟨Nat.le_of_ble_eq_true rfl, Nat.le_of_ble_eq_true rfl⟩ rfl (Nat.le_of_ble_eq_true rfl) d_Model_run_52 hP hD hS hA 6 12 rfl rfl rfl [6, 0, 4] [1, 2, 3, 5, 7] rfl rfl rfl rfl (by decide) (fun v w1 H locs hw_4 hP hD hS => ?_)
  obtain ⟨rfl, rfl⟩ := hw_4
  have hP : va_P G.1 classes [(b20, .inl (G.2 0, 2, .inl (upd (fun _ => 0) 0 0))), (b11, .inl (G.2 0, 4820, .inl (upd (upd (upd (upd (upd (upd (upd (upd (upd (upd (fun _ => 0) 0 (-1)) 1 (-1)) 2 (-1)) 3 (-1)) 4 (-1)) 5 (-1)) 6 (-1)) 7 (-1)) 8 (-1)) 9 (-1)))), (b14, .inl (G.2 0, 482, .inl (upd (upd (fun _ => 0) 0 0) 0 0))), (b10, .inl (G.2 0, 2, .inl (upd (upd (fun _ => 0) 0 0) 0 1))), (b2, .inl (G.2 0, 503, .inl (upd (fun _ => 0) 501 1))), (b0, .inr (12, [.int 0, .ref b2, .ref b3, .ref b4, .ref b5, .int 0, .ref b6, .int 0, .int 0, .int 0, .int 1, .ref b7, .ref b8, .ref b9, .int 0, .ref b10, .ref b11, .ref b12, .ref b13, .ref b14, .ref b15, .ref b16, .ref b17, .ref b18, .ref b19, .ref b20, .ref b21, .int 0, .ref b22, .ref b23, .int 1, .int 0, .int 0, .int 0, .ref b24, .ref b25, .ref b26, .ref b27, .ref b28, .ref b29, .ref b30, .int 0, .ref b31, .ref b32, .int 0, .ref b33, .ref b34, .ref b35, .ref b36, .ref b37, .int 0, .ref b38, .ref b39, .ref b40])), (b16, .inl (G.2 0, 2, .inl (upd (fun _ => 0) 0 0))), (b22, .inl (G.2 1, 4, .inr (.inl (vp_updL (vp_updL (vp_updL (vp_updL (vp_updL (fun _ => 0) 0 0) 1 0) 2 0) 3 0) 0 0))))] H := hP
  have hD := z_tie hP hD rfl
  refine W.widen (k := 0) (n := 0) (Nat.le_of_ble_eq_true rfl) (Nat.le_of_ble_eq_true rfl) ?_
  refine va_put (D := G.1) (ci := 12) (v := .int 0) (ty := .int) (C := R_Model) (T := F_Model) (N := 54) hx hb hts i_Model t_Model t_Model_ok n_Model hown hK hP hD hS 5 rfl rfl 31 (by decide) (hts _ q1144) (fun _ h9 => h9) rfl (by decide +kernel) rfl rfl (Nat.le_of_ble_eq_true rfl) d_Model_run_55 (fun H locs hP hD hS => ?_)
  have hP : va_P G.1 classes [(b20, .inl (G.2 0, 2, .inl (upd (fun _ => 0) 0 0))), (b11, .inl (G.2 0, 4820, .inl (upd (upd (upd (upd (upd (upd (upd (upd (upd (upd (fun _ => 0) 0 (-1)) 1 (-1)) 2 (-1)) 3 (-1)) 4 (-1)) 5 (-1)) 6 (-1)) 7 (-1)) 8 (-1)) 9 (-1)))), (b14, .inl (G.2 0, 482, .inl (upd (upd (fun _ => 0) 0 0) 0 0))), (b10, .inl (G.2 0, 2, .inl (upd (upd (fun _ => 0) 0 0) 0 1))), (b2, .inl (G.2 0, 503, .inl (upd (fun _ => 0) 501 1))), (b0, .inr (12, [.int 0, .ref b2, .ref b3, .ref b4, .ref b5, .int 0, .ref b6, .int 0, .int 0, .int 0, .int 1, .ref b7, .ref b8, .ref b9, .int 0, .ref b10, .ref b11, .ref b12, .ref b13, .ref b14, .ref b15, .ref b16, .ref b17, .ref b18, .ref b19, .ref b20, .ref b21, .int 0, .ref b22, .ref b23, .int 1, .int 0, .int 0, .int 0, .ref b24, .ref b25, .ref b26, .ref b27, .ref b28, .ref b29, .ref b30, .int 0, .ref b31, .ref b32, .int 0, .ref b33, .ref b34, .ref b35, .ref b36, .ref b37, .int 0, .ref b38, .ref b39, .ref b40])), (b16, .inl (G.2 0, 2, .inl (upd (fun _ => 0) 0 0))), (b22, .inl (G.2 1, 4, .inr (.inl (vp_updL (vp_updL (vp_updL (vp_updL (vp_updL (fun _ => 0) 0 0) 1 0) 2 0) 3 0) 0 0))))] H := hP
  have hD := z_tie hP hD rfl
  refine lv_aload_n hx hb d_Model_run_58 rfl (lv_at hl 0 rfl) ?_
  refine lv_iconst (v := 0) hx hb d_Model_run_59 (by decide) ?_
  refine va_put (D := G.1) (ci := 12) (v := .int 0) (ty := .int) (C := R_Model) (T := F_Model) (N := 54) hx hb hts i_Model t_Model t_Model_ok n_Model hown hK hP hD hS 5 rfl rfl 32 (by decide) (hts _ q1145) (fun _ h9 => h9) rfl (by decide +kernel) rfl rfl (Nat.le_of_ble_eq_true rfl) d_Model_run_60 (fun H locs hP hD hS => ?_)
  have hP : va_P G.1 classes [(b20, .inl (G.2 0, 2, .inl (upd (fun _ => 0) 0 0))), (b11, .inl (G.2 0, 4820, .inl (upd (upd (upd (upd (upd (upd (upd (upd (upd (upd (fun _ => 0) 0 (-1)) 1 (-1)) 2 (-1)) 3 (-1)) 4 (-1)) 5 (-1)) 6 (-1)) 7 (-1)) 8 (-1)) 9 (-1)))), (b14, .inl (G.2 0, 482, .inl (upd (upd (fun _ => 0) 0 0) 0 0))), (b10, .inl (G.2 0, 2, .inl (upd (upd (fun _ => 0) 0 0) 0 1))), (b2, .inl (G.2 0, 503, .inl (upd (fun _ => 0) 501 1))), (b0, .inr (12, [.int 0, .ref b2, .ref b3, .ref b4, .ref b5, .int 0, .ref b6, .int 0, .int 0, .int 0, .int 1, .ref b7, .ref b8, .ref b9, .int 0, .ref b10, .ref b11, .ref b12, .ref b13, .ref b14, .ref b15, .ref b16, .ref b17, .ref b18, .ref b19, .ref b20, .ref b21, .int 0, .ref b22, .ref b23, .int 1, .int 0, .int 0, .int 0, .ref b24, .ref b25, .ref b26, .ref b27, .ref b28, .ref b29, .ref b30, .int 0, .ref b31, .ref b32, .int 0, .ref b33, .ref b34, .ref b35, .ref b36, .ref b37, .int 0, .ref b38, .ref b39, .ref b40])), (b16, .inl (G.2 0, 2, .inl (upd (fun _ => 0) 0 0))), (b22, .inl (G.2 1, 4, .inr (.inl (vp_updL (vp_updL (vp_updL (vp_updL (vp_updL (fun _ => 0) 0 0) 1 0) 2 0) 3 0) 0 0))))] H := hP
  have hD := z_tie hP hD rfl
  refine lv_aload_n hx hb d_Model_run_63 rfl (lv_at hl 0 rfl) ?_
  refine lv_iconst (v := (-1)) hx hb d_Model_run_64 (by decide) ?_
  refine va_put (D := G.1) (ci := 12) (v := .int (-1)) (ty := .int) (C := R_Model) (T := F_Model) (N := 54) hx hb hts i_Model t_Model t_Model_ok n_Model hown hK hP hD hS 5 rfl rfl 33 (by decide) (hts _ q1146) (fun _ h9 => h9) rfl (by decide +kernel) rfl rfl (Nat.le_of_ble_eq_true rfl) d_Model_run_65 (fun H locs hP hD hS => ?_)
  have hP : va_P G.1 classes [(b20, .inl (G.2 0, 2, .inl (upd (fun _ => 0) 0 0))), (b11, .inl (G.2 0, 4820, .inl (upd (upd (upd (upd (upd (upd (upd (upd (upd (upd (fun _ => 0) 0 (-1)) 1 (-1)) 2 (-1)) 3 (-1)) 4 (-1)) 5 (-1)) 6 (-1)) 7 (-1)) 8 (-1)) 9 (-1)))), (b14, .inl (G.2 0, 482, .inl (upd (upd (fun _ => 0) 0 0) 0 0))), (b10, .inl (G.2 0, 2, .inl (upd (upd (fun _ => 0) 0 0) 0 1))), (b2, .inl (G.2 0, 503, .inl (upd (fun _ => 0) 501 1))), (b0, .inr (12, [.int 0, .ref b2, .ref b3, .ref b4, .ref b5, .int 0, .ref b6, .int 0, .int 0, .int 0, .int 1, .ref b7, .ref b8, .ref b9, .int 0, .ref b10, .ref b11, .ref b12, .ref b13, .ref b14, .ref b15, .ref b16, .ref b17, .ref b18, .ref b19, .ref b20, .ref b21, .int 0, .ref b22, .ref b23, .int 1, .int 0, .int 0, .int (-1), .ref b24, .ref b25, .ref b26, .ref b27, .ref b28, .ref b29, .ref b30, .int 0, .ref b31, .ref b32, .int 0, .ref b33, .ref b34, .ref b35, .ref b36, .ref b37, .int 0, .ref b38, .ref b39, .ref b40])), (b16, .inl (G.2 0, 2, .inl (upd (fun _ => 0) 0 0))), (b22, .inl (G.2 1, 4, .inr (.inl (vp_updL (vp_updL (vp_updL (vp_updL (vp_updL (fun _ => 0) 0 0) 1 0) 2 0) 3 0) 0 0))))] H := hP
  have hD := z_tie hP hD rfl
  refine lv_aload_n hx hb d_Model_run_68 rfl (lv_at hl 0 rfl) ?_
  refine va_get (D := G.1) (ci := 12) (v := .ref b16) (C := R_Model) (T := F_Model) (N := 54) hx hb hts i_Model hown hK hP 5 rfl rfl 21 (by decide) (hts _ q1134) (fun _ h9 => h9) rfl d_Model_run_69 ?_
  refine lv_iconst (v := 0) hx hb d_Model_run_72 (by decide) ?_
  refine va_iald hx hb hK hP 6 0 rfl rfl (i := 0) (z_in rfl) d_Model_run_73 ?_
  refine z_topi (y := 0) rfl ?_
  refine lv_iconst (v := 1) hx hb d_Model_run_74 (by decide) ?_
  refine lv_isub hx hb d_Model_run_75 ?_
  refine z_topi (y := (-1)) (by decide +kernel) ?_
  refine lv_istore_n (lv' := [(2, .int (-1)), (0, .ref b0), (1, .int p0)]) hx hb d_Model_run_76 rfl hl (by decide) rfl (fun ls hl => ?_)
  refine lv_iload_n hx hb d_Model_run_77 rfl (lv_at hl 0 rfl) ?_
  refine lv_if_lt (tgt := 114) hx hb d_Model_run_78 (by decide) (fun _ => ?_) (fun hc => absurd hc (by decide +kernel))
  refine lv_aload_n hx hb d_Model_run_114 rfl (lv_at hl 1 rfl) ?_
  refine va_get (D := G.1) (ci := 12) (v := .int 0) (C := R_Model) (T := F_Model) (N := 54) hx hb hts i_Model hown hK hP 5 rfl rfl 31 (by decide) (hts _ q1144) (fun _ h9 => h9) rfl d_Model_run_115 ?_
  refine lv_iconst (v := (-1)) hx hb d_Model_run_118 (by decide) ?_
  refine lv_icmp_ne (tgt := 126) hx hb d_Model_run_119 (by decide) (fun _ => ?_) (fun hc => absurd hc (by decide +kernel))
  refine lv_iconst (v := 0) hx hb d_Model_run_126 (by decide) ?_
  exact z_iret hx hb hr hlocks hP hD hS (Nat.le_of_ble_eq_true rfl) (Nat.le_of_ble_eq_true rfl) d_Model_run_127 (congrArg (fun z => some (Value.int z)) (by unfold a_run; (first | rfl | (repeat (first | rw [if_pos (by omega)] | rw [if_neg (by omega)])))))
