theorem d_Model_leaving_0 : decode prog_14_method_39_code 0 = .ok (.iconst 0, 1) := by decide +kernel
theorem d_Model_leaving_1 : decode prog_14_method_39_code 1 = .ok (.istore_n 3, 1) := by decide +kernel
theorem d_Model_leaving_2 : decode prog_14_method_39_code 2 = .ok (.iconst 0, 1) := by decide +kernel
theorem d_Model_leaving_3 : decode prog_14_method_39_code 3 = .ok (.istore 4, 2) := by decide +kernel
theorem d_Model_leaving_5 : decode prog_14_method_39_code 5 = .ok (.iload 4, 2) := by decide +kernel
theorem d_Model_leaving_7 : decode prog_14_method_39_code 7 = .ok (.aload_n 0, 1) := by decide +kernel
theorem d_Model_leaving_8 : decode prog_14_method_39_code 8 = .ok (.getfield 70, 3) := by decide +kernel
theorem d_Model_leaving_11 : decode prog_14_method_39_code 11 = .ok (.iconst 0, 1) := by decide +kernel
theorem d_Model_leaving_12 : decode prog_14_method_39_code 12 = .ok (.iaload, 1) := by decide +kernel
theorem d_Model_leaving_13 : decode prog_14_method_39_code 13 = .ok (.if_icmp .ge 44, 3) := by decide +kernel
theorem d_Model_leaving_16 : decode prog_14_method_39_code 16 = .ok (.iload_n 3, 1) := by decide +kernel
theorem d_Model_leaving_17 : decode prog_14_method_39_code 17 = .ok (.aload_n 0, 1) := by decide +kernel
theorem d_Model_leaving_18 : decode prog_14_method_39_code 18 = .ok (.iconst 0, 1) := by decide +kernel
theorem d_Model_leaving_19 : decode prog_14_method_39_code 19 = .ok (.iload 4, 2) := by decide +kernel
theorem d_Model_leaving_21 : decode prog_14_method_39_code 21 = .ok (.iconst 0, 1) := by decide +kernel
theorem d_Model_leaving_22 : decode prog_14_method_39_code 22 = .ok (.invokevirtual 225, 3) := by decide +kernel
theorem d_Model_leaving_25 : decode prog_14_method_39_code 25 = .ok (.iload_n 1, 1) := by decide +kernel
theorem d_Model_leaving_26 : decode prog_14_method_39_code 26 = .ok (.if_icmp .ne 22, 3) := by decide +kernel
theorem d_Model_leaving_29 : decode prog_14_method_39_code 29 = .ok (.iload_n 2, 1) := by decide +kernel
theorem d_Model_leaving_30 : decode prog_14_method_39_code 30 = .ok (.ifCond .eq 14, 3) := by decide +kernel
theorem d_Model_leaving_33 : decode prog_14_method_39_code 33 = .ok (.aload_n 0, 1) := by decide +kernel
theorem d_Model_leaving_34 : decode prog_14_method_39_code 34 = .ok (.iconst 0, 1) := by decide +kernel
theorem d_Model_leaving_35 : decode prog_14_method_39_code 35 = .ok (.iload 4, 2) := by decide +kernel
theorem d_Model_leaving_37 : decode prog_14_method_39_code 37 = .ok (.iconst 3, 1) := by decide +kernel
theorem d_Model_leaving_38 : decode prog_14_method_39_code 38 = .ok (.invokevirtual 225, 3) := by decide +kernel
theorem d_Model_leaving_41 : decode prog_14_method_39_code 41 = .ok (.goto 8, 3) := by decide +kernel
theorem d_Model_leaving_44 : decode prog_14_method_39_code 44 = .ok (.iconst 1, 1) := by decide +kernel
theorem d_Model_leaving_45 : decode prog_14_method_39_code 45 = .ok (.goto 4, 3) := by decide +kernel
theorem d_Model_leaving_48 : decode prog_14_method_39_code 48 = .ok (.iconst 0, 1) := by decide +kernel
theorem d_Model_leaving_49 : decode prog_14_method_39_code 49 = .ok (.iadd, 1) := by decide +kernel
theorem d_Model_leaving_50 : decode prog_14_method_39_code 50 = .ok (.istore_n 3, 1) := by decide +kernel
theorem d_Model_leaving_51 : decode prog_14_method_39_code 51 = .ok (.iinc 4 1, 3) := by decide +kernel
theorem d_Model_leaving_54 : decode prog_14_method_39_code 54 = .ok (.goto (-49), 3) := by decide +kernel
theorem d_Model_leaving_57 : decode prog_14_method_39_code 57 = .ok (.iload_n 3, 1) := by decide +kernel
theorem d_Model_leaving_58 : decode prog_14_method_39_code 58 = .ok (.ireturn, 1) := by decide +kernel
abbrev m_s14_Model_edgeAt : Room := { frames := 0, cells := 0, slots := 0, locals := 0 }
set_option maxHeartbeats 4000000 in
set_option maxRecDepth 100000 in
theorem s14_Model_edgeAt (l : Launch) (G : zG) (b0 : Nat) (b1 : Int32) (b2 : Int32) (b3 : Nat) (b4 : Nat) (b5 : Nat) (b6 : Nat) (b7 : Int32) (b8 : Nat) (b9 : Int32) (b10 : Int32) (b11 : Int32) (b12 : Int32) (b13 : Nat) (b14 : Nat) (b15 : Nat) (b16 : Int32) (b17 : Nat) (b18 : Nat) (b19 : Nat) (b20 : Nat) (b21 : Nat) (b22 : Nat) (b23 : Nat) (b24 : Nat) (b25 : Nat) (b26 : Nat) (b27 : Nat) (b28 : Nat) (b29 : Int32) (b30 : Nat) (b31 : Nat) (b32 : Int32) (b33 : Int32) (b34 : Int32) (b35 : Int32) (b36 : Nat) (b37 : Nat) (b38 : Nat) (b39 : Nat) (b40 : Nat) (b41 : Nat) (b42 : Nat) (b43 : Int32) (b44 : Nat) (b45 : Nat) (b46 : Int32) (b47 : Nat) (b48 : Nat) (b49 : Nat) (b50 : Nat) (b51 : Nat) (b52 : Int32) (b53 : Nat) (b54 : Nat) (b55 : Nat) (b56 : Nat → Int32) (hb1 : zI b1 0 240) (hb7 : zI b7 0 8) (hb9 : zI b9 0 240) (hb10 : zI b10 0 240) (hb12 : zI b12 0 1) (hb16 : zI b16 0 12) (hb29 : zI b29 0 1) (hb32 : zI b32 0 1) (hb43 : zI b43 0 1000) (hb46 : zI b46 0 1000) (hb52 : zI b52 0 400) (hb56 : zqa qE b56) : zM l G y_Model_edgeAt prog_14_method_25_code 4 (Option.some Jvm.ClassFile.FieldType.int) m_s14_Model_edgeAt [.ref b0, .int 0, .int b1, .int 3] [(b0, .inr (12, [.int b2, .ref b3, .ref b4, .ref b5, .ref b6, .int b7, .ref b8, .int b9, .int b10, .int b11, .int b12, .ref b13, .ref b14, .ref b15, .int b16, .ref b17, .ref b18, .ref b19, .ref b20, .ref b21, .ref b22, .ref b23, .ref b24, .ref b25, .ref b26, .ref b27, .ref b28, .int b29, .ref b30, .ref b31, .int b32, .int b33, .int b34, .int b35, .ref b36, .ref b37, .ref b38, .ref b39, .ref b40, .ref b41, .ref b42, .int b43, .ref b44, .ref b45, .int b46, .ref b47, .ref b48, .ref b49, .ref b50, .ref b51, .int b52, .ref b53, .ref b54, .ref b55])), (b28, .inl (G.2 0, 2880, .inl b56))] (fun v w => ∃ (e0 : Int32), v = some (.int e0) ∧ w = [(b0, .inr (12, [.int b2, .ref b3, .ref b4, .ref b5, .ref b6, .int b7, .ref b8, .int b9, .int b10, .int b11, .int b12, .ref b13, .ref b14, .ref b15, .int b16, .ref b17, .ref b18, .ref b19, .ref b20, .ref b21, .ref b22, .ref b23, .ref b24, .ref b25, .ref b26, .ref b27, .ref b28, .int b29, .ref b30, .ref b31, .int b32, .int b33, .int b34, .int b35, .ref b36, .ref b37, .ref b38, .ref b39, .ref b40, .ref b41, .ref b42, .int b43, .ref b44, .ref b45, .int b46, .ref b47, .ref b48, .ref b49, .ref b50, .ref b51, .int b52, .ref b53, .ref b54, .ref b55])), (b28, .inl (G.2 0, 2880, .inl b56))] ∧ (e0 = b56 (6 * b1.toInt.toNat + 3))) := by
  refine z_start (by decide +kernel) (Nat.le_of_ble_eq_true rfl) ?_
  intro p e s m below meth c A Z hr hnm hA hP hD hS ls hl
  have Z : zC p s m _ meth c prog_14_method_25_code 4 "TraceMachinesModel" G := Z
  obtain ⟨hx, hb, hml, hown, hts, hK, hN, hlocks⟩ := id Z
  have hl : lv_has ls 4 [(0, .ref b0), (1, .int 0), (2, .int b1), (3, .int 3)] := hl
  refine lv_aload_n hx hb d_Model_edgeAt_0 rfl (lv_at hl 0 rfl) ?_
  refine va_get (D := G.1) (ci := 12) (v := .ref b28) (C := R_Model) (T := F_Model) (N := 54) hx hb hts i_Model hown hK hP 0 rfl rfl 26 (by decide) (hts _ q1135) (fun _ h9 => h9) rfl d_Model_edgeAt_1 ?_
  refine lv_bipush (v := 6) hx hb d_Model_edgeAt_4 (by decide) ?_
  refine lv_sipush (v := 240) hx hb d_Model_edgeAt_6 (by decide) ?_
  refine lv_iload_n hx hb d_Model_edgeAt_9 rfl (lv_at hl 1 rfl) ?_
  refine lv_imul hx hb d_Model_edgeAt_10 ?_
  refine z_topi (y := 0) (by decide +kernel) ?_
  refine lv_iload_n hx hb d_Model_edgeAt_11 rfl (lv_at hl 2 rfl) ?_
  refine lv_iadd hx hb d_Model_edgeAt_12 ?_
  refine lv_topi (fun v_1 ev_1 => ?_)
  obtain ⟨qv_1, hv_1⟩ := zI_add (l := 0) (h := 240) zc_0 hb1 ev_1 (by decide)
  rw [li_0] at qv_1
  refine lv_imul hx hb d_Model_edgeAt_13 ?_
  refine lv_topi (fun v_2 ev_2 => ?_)
  obtain ⟨qv_2, hv_2⟩ := zI_mul (l := 0) (h := 1440) zc_6 hv_1 ev_2 (by decide)
  rw [li_6] at qv_2
  refine lv_iload_n hx hb d_Model_edgeAt_14 rfl (lv_at hl 3 rfl) ?_
  refine lv_iadd hx hb d_Model_edgeAt_15 ?_
  refine lv_topi (fun v_3 ev_3 => ?_)
  obtain ⟨qv_3, hv_3⟩ := zI_add (l := 3) (h := 1443) hv_2 zc_3 ev_3 (by decide)
  rw [li_3] at qv_3
  refine va_iald hx hb hK hP 1 0 rfl rfl (zI.inn hv_3 (by decide)) d_Model_edgeAt_16 ?_
  refine lv_topi (fun v_4 ev_4 => ?_)
  have kv_4 := zQE.ld hb56 hv_3 ev_4 (by decide)
  exact z_iret hx hb hr hlocks hP hD hS (Nat.le_of_ble_eq_true rfl) (Nat.le_of_ble_eq_true rfl) d_Model_edgeAt_17 ⟨v_4, rfl, rfl, (by rw [ev_4, z_plf hv_3 (by decide)]; congr 1; omega)⟩
abbrev m_s1_Model_leaving : Room := { frames := 1, cells := 0, slots := 0, locals := 23 }
set_option maxHeartbeats 4000000 in
set_option maxRecDepth 100000 in
theorem s1_Model_leaving (l : Launch) (G : zG) (b0 : Nat) (b1 : Int32) (b2 : Int32) (b3 : Int32) (b4 : Nat) (b5 : Nat) (b6 : Nat) (b7 : Nat) (b8 : Int32) (b9 : Nat) (b10 : Int32) (b11 : Int32) (b12 : Int32) (b13 : Int32) (b14 : Nat) (b15 : Nat) (b16 : Nat) (b17 : Int32) (b18 : Nat) (b19 : Nat) (b20 : Nat) (b21 : Nat) (b22 : Nat) (b23 : Nat) (b24 : Nat) (b25 : Nat) (b26 : Nat) (b27 : Nat) (b28 : Nat) (b29 : Nat) (b30 : Int32) (b31 : Nat) (b32 : Nat) (b33 : Int32) (b34 : Int32) (b35 : Int32) (b36 : Int32) (b37 : Nat) (b38 : Nat) (b39 : Nat) (b40 : Nat) (b41 : Nat) (b42 : Nat) (b43 : Nat) (b44 : Int32) (b45 : Nat) (b46 : Nat) (b47 : Int32) (b48 : Nat) (b49 : Nat) (b50 : Nat) (b51 : Nat) (b52 : Nat) (b53 : Int32) (b54 : Nat) (b55 : Nat) (b56 : Nat) (b57 : Nat → Int32) (b58 : Nat → Int32) (hb2 : zI b2 0 1) (hb8 : zI b8 0 8) (hb10 : zI b10 0 240) (hb11 : zI b11 0 240) (hb13 : zI b13 0 1) (hb17 : zI b17 0 12) (hb30 : zI b30 0 1) (hb33 : zI b33 0 1) (hb44 : zI b44 0 1000) (hb47 : zI b47 0 1000) (hb53 : zI b53 0 400) (hb57 : zR b57 0 240) (hb58 : zqa qE b58) : zM l G y_Model_leaving prog_14_method_39_code 5 (Option.some Jvm.ClassFile.FieldType.int) m_s1_Model_leaving [.ref b0, .int b1, .int b2] [(b0, .inr (12, [.int b3, .ref b4, .ref b5, .ref b6, .ref b7, .int b8, .ref b9, .int b10, .int b11, .int b12, .int b13, .ref b14, .ref b15, .ref b16, .int b17, .ref b18, .ref b19, .ref b20, .ref b21, .ref b22, .ref b23, .ref b24, .ref b25, .ref b26, .ref b27, .ref b28, .ref b29, .int b30, .ref b31, .ref b32, .int b33, .int b34, .int b35, .int b36, .ref b37, .ref b38, .ref b39, .ref b40, .ref b41, .ref b42, .ref b43, .int b44, .ref b45, .ref b46, .int b47, .ref b48, .ref b49, .ref b50, .ref b51, .ref b52, .int b53, .ref b54, .ref b55, .ref b56])), (b28, .inl (G.2 0, 2, .inl b57)), (b29, .inl (G.2 0, 2880, .inl b58))] (fun v w => ∃ (e0 : Int32), v = some (.int e0) ∧ w = [(b0, .inr (12, [.int b3, .ref b4, .ref b5, .ref b6, .ref b7, .int b8, .ref b9, .int b10, .int b11, .int b12, .int b13, .ref b14, .ref b15, .ref b16, .int b17, .ref b18, .ref b19, .ref b20, .ref b21, .ref b22, .ref b23, .ref b24, .ref b25, .ref b26, .ref b27, .ref b28, .ref b29, .int b30, .ref b31, .ref b32, .int b33, .int b34, .int b35, .int b36, .ref b37, .ref b38, .ref b39, .ref b40, .ref b41, .ref b42, .ref b43, .int b44, .ref b45, .ref b46, .int b47, .ref b48, .ref b49, .ref b50, .ref b51, .ref b52, .int b53, .ref b54, .ref b55, .ref b56])), (b28, .inl (G.2 0, 2, .inl b57)), (b29, .inl (G.2 0, 2880, .inl b58))] ∧ ((b2 : Int32).toInt = 1 → (∀ j : Nat, j < ((b57 (0 : Int32).toNatClampNeg).toInt).toNat → 0 ≤ zeU b58 j) → zsm (fun _ => 0) (zeU b58) 0 ((b57 (0 : Int32).toNatClampNeg).toInt).toNat ≤ 240 → (e0 : Int32).toInt = zsm (zeF b58) (zeU b58) (b1 : Int32).toInt ((b57 (0 : Int32).toNatClampNeg).toInt).toNat)) := by
  refine z_start (by decide +kernel) (Nat.le_of_ble_eq_true rfl) ?_
  intro p e s m below meth c A Z hr hnm hA hP hD hS ls hl
  have Z : zC p s m _ meth c prog_14_method_39_code 5 "TraceMachinesModel" G := Z
  obtain ⟨hx, hb, hml, hown, hts, hK, hN, hlocks⟩ := id Z
  have hl : lv_has ls 5 [(0, .ref b0), (1, .int b1), (2, .int b2)] := hl
  refine lv_iconst (v := 0) hx hb d_Model_leaving_0 (by decide) ?_
  refine lv_istore_n (lv' := [(3, .int 0), (0, .ref b0), (1, .int b1), (2, .int b2)]) hx hb d_Model_leaving_1 rfl hl (by decide) rfl (fun ls hl => ?_)
  refine lv_iconst (v := 0) hx hb d_Model_leaving_2 (by decide) ?_
  refine lv_istore (lv' := [(4, .int 0), (3, .int 0), (0, .ref b0), (1, .int b1), (2, .int b2)]) hx hb d_Model_leaving_3 hl (by decide) rfl (fun ls hl => ?_)
  suffices key : ∀ (k_30 : Nat) (y_31 : Int32) (y_32 : Int32) (H : Heap) (locs : List Loc) (ls : Array Slot), (zI y_31 0 240) → ((y_31 : Int32).toInt ≤ (b57 (0 : Int32).toNatClampNeg).toInt) → ((b2 : Int32).toInt = 1 → (∀ j : Nat, j < ((b57 (0 : Int32).toNatClampNeg).toInt).toNat → 0 ≤ zeU b58 j) → zsm (fun _ => 0) (zeU b58) 0 ((b57 (0 : Int32).toNatClampNeg).toInt).toNat ≤ 240 → (y_32 : Int32).toInt = zsm (zeF b58) (zeU b58) (b1 : Int32).toInt (y_31 : Int32).toInt.toNat) → (240 : Int) - y_31.toInt < (k_30 : Int) → va_P G.1 classes [(b0, .inr (12, [.int b3, .ref b4, .ref b5, .ref b6, .ref b7, .int b8, .ref b9, .int b10, .int b11, .int b12, .int b13, .ref b14, .ref b15, .ref b16, .int b17, .ref b18, .ref b19, .ref b20, .ref b21, .ref b22, .ref b23, .ref b24, .ref b25, .ref b26, .ref b27, .ref b28, .ref b29, .int b30, .ref b31, .ref b32, .int b33, .int b34, .int b35, .int b36, .ref b37, .ref b38, .ref b39, .ref b40, .ref b41, .ref b42, .ref b43, .int b44, .ref b45, .ref b46, .int b47, .ref b48, .ref b49, .ref b50, .ref b51, .ref b52, .int b53, .ref b54, .ref b55, .ref b56])), (b28, .inl (G.2 0, 2, .inl b57)), (b29, .inl (G.2 0, 2880, .inl b58))] H → va_D A [(b0, .inr (12, [.int b3, .ref b4, .ref b5, .ref b6, .ref b7, .int b8, .ref b9, .int b10, .int b11, .int b12, .int b13, .ref b14, .ref b15, .ref b16, .int b17, .ref b18, .ref b19, .ref b20, .ref b21, .ref b22, .ref b23, .ref b24, .ref b25, .ref b26, .ref b27, .ref b28, .ref b29, .int b30, .ref b31, .ref b32, .int b33, .int b34, .int b35, .int b36, .ref b37, .ref b38, .ref b39, .ref b40, .ref b41, .ref b42, .ref b43, .int b44, .ref b45, .ref b46, .int b47, .ref b48, .ref b49, .ref b50, .ref b51, .ref b52, .int b53, .ref b54, .ref b55, .ref b56])), (b28, .inl (G.2 0, 2, .inl b57)), (b29, .inl (G.2 0, 2880, .inl b58))] → va_S A s.heap H locs → lv_has ls 5 [(4, .int y_31), (3, .int y_32), (0, .ref b0), (1, .int b1), (2, .int b2)] → W p l e m_s1_Model_leaving s m ([.ref b0, .int b1, .int b2] : List Value).toArray below meth c H locs 0 0 (MQ below (zQ G (fun v w => ∃ (e0 : Int32), v = some (.int e0) ∧ w = [(b0, .inr (12, [.int b3, .ref b4, .ref b5, .ref b6, .ref b7, .int b8, .ref b9, .int b10, .int b11, .int b12, .int b13, .ref b14, .ref b15, .ref b16, .int b17, .ref b18, .ref b19, .ref b20, .ref b21, .ref b22, .ref b23, .ref b24, .ref b25, .ref b26, .ref b27, .ref b28, .ref b29, .int b30, .ref b31, .ref b32, .int b33, .int b34, .int b35, .int b36, .ref b37, .ref b38, .ref b39, .ref b40, .ref b41, .ref b42, .ref b43, .int b44, .ref b45, .ref b46, .int b47, .ref b48, .ref b49, .ref b50, .ref b51, .ref b52, .int b53, .ref b54, .ref b55, .ref b56])), (b28, .inl (G.2 0, 2, .inl b57)), (b29, .inl (G.2 0, 2880, .inl b58))] ∧ ((b2 : Int32).toInt = 1 → (∀ j : Nat, j < ((b57 (0 : Int32).toNatClampNeg).toInt).toNat → 0 ≤ zeU b58 j) → zsm (fun _ => 0) (zeU b58) 0 ((b57 (0 : Int32).toNatClampNeg).toInt).toNat ≤ 240 → (e0 : Int32).toInt = zsm (zeF b58) (zeU b58) (b1 : Int32).toInt ((b57 (0 : Int32).toNatClampNeg).toInt).toNat)) A) ([.ref b0, .int b1, .int b2] : List Value).toArray s m_s1_Model_leaving.cells m_s1_Model_leaving.slots A) (F0 m 5 ls []) by
    exact key 241 (0) (0) _ _ _ (zI.wk (l' := 0) (h' := 240) zc_0 (by decide)) (by have _l0 := li_0; have h9 := (hb57 (0 : Int32).toNatClampNeg).1; omega) (fun _ _ _ => by rw [li_0]; rfl) (zm_upi (zI.wk (l' := 0) (h' := 240) zc_0 (by decide)) (by decide)) hP hD hS (lv_sub hl [0, 1, 2, 3, 4] rfl)
  intro k_30
  induction k_30 with
  | zero =>
    intro y_31 y_32 H locs ls hy_31 hli_33 hli_34 hmk_30 hP hD hS hl
    exact (zm_up0 hy_31 hmk_30).elim
  | succ k_30 ihk_30 =>
    intro y_31 y_32 H locs ls hy_31 hli_33 hli_34 hmk_30 hP hD hS hl
    refine lv_iload hx hb d_Model_leaving_5 (lv_at hl 0 rfl) ?_
    refine lv_aload_n hx hb d_Model_leaving_7 rfl (lv_at hl 2 rfl) ?_
    refine va_get (D := G.1) (ci := 12) (v := .ref b28) (C := R_Model) (T := F_Model) (N := 54) hx hb hts i_Model hown hK hP 0 rfl rfl 25 (by decide) (hts _ q1134) (fun _ h9 => h9) rfl d_Model_leaving_8 ?_
    refine lv_iconst (v := 0) hx hb d_Model_leaving_11 (by decide) ?_
    refine va_iald hx hb hK hP 1 0 rfl rfl (i := 0) (z_in rfl) d_Model_leaving_12 ?_
    refine lv_topi (fun v_35 ev_35 => ?_)
    have hv_35 : zI v_35 0 240 := (hb57 _).eq ev_35
    refine lv_icmp_ge (tgt := 57) hx hb d_Model_leaving_13 (by decide) (fun hc_36 => ?_) (fun hc_36 => ?_)
    · have _nhc_36 := hc_36
      have ni_37 := (fa_le _ _).mp hc_36
      refine lv_iload_n hx hb d_Model_leaving_57 rfl (lv_at hl 1 rfl) ?_
      exact z_iret hx hb hr hlocks hP hD hS (Nat.le_of_ble_eq_true rfl) (Nat.le_of_ble_eq_true rfl) d_Model_leaving_58 ⟨y_32, rfl, rfl, (fun h1 hu ht => by have h6 : v_35.toInt = (b57 (0 : Int32).toNatClampNeg).toInt := (by rw [ev_35]); have z9 : (b57 (0 : Int32).toNatClampNeg).toInt.toNat = y_31.toInt.toNat := (by omega); rw [z9]; exact hli_34 h1 hu ht)⟩
    · have _nhc_36 := hc_36
      have ni_38 := (fa_lt _ _).mp (zi_nle hc_36)
      have hv_39 : zI y_31 0 239 := zI.lt_l hy_31 hv_35 (zi_nle hc_36) (by decide)
      have hv_40 : zI v_35 1 240 := zI.lt_r hy_31 hv_35 (zi_nle hc_36) (by decide)
      refine lv_iload_n hx hb d_Model_leaving_16 rfl (lv_at hl 1 rfl) ?_
      refine lv_aload_n hx hb d_Model_leaving_17 rfl (lv_at hl 2 rfl) ?_
      refine lv_iconst (v := 0) hx hb d_Model_leaving_18 (by decide) ?_
      refine lv_iload hx hb d_Model_leaving_19 (lv_at hl 0 rfl) ?_
      refine lv_iconst (v := 0) hx hb d_Model_leaving_21 (by decide) ?_
      refine z_callV (index := 225) (As := [.int 0, .int y_31, .int 0]) (rest := [.int y_32]) (wr := [(b28, .inl (G.2 0, 2, .inl b57))]) Z (s4_Model_edgeAt l G (b0) (y_31) (b3) (b4) (b5) (b6) (b7) (b8) (b9) (b10) (b11) (b12) (b13) (b14) (b15) (b16) (b17) (b18) (b19) (b20) (b21) (b22) (b23) (b24) (b25) (b26) (b27) (b28) (b29) (b30) (b31) (b32) (b33) (b34) (b35) (b36) (b37) (b38) (b39) (b40) (b41) (b42) (b43) (b44) (b45) (b46) (b47) (b48) (b49) (b50) (b51) (b52) (b53) (b54) (b55) (b56) (b58) (zI.wk (l' := 0) (h' := 240) hv_39 (by decide)) hb8 hb10 hb11 hb13 hb17 hb30 hb33 hb44 hb47 hb53 hb58) hl.1 q1408 q1410 qs68 q14 q1411 ⟨by decide, by decide, by show _ = some 3; decide +kernel⟩ ⟨Nat.le_of_ble_eq_true rfl, Nat.le_of_ble_eq_true rfl⟩ ⟨Nat.le_of_ble_eq_true rfl, Nat.le_of_ble_eq_true rfl⟩ rfl (Nat.le_of_ble_eq_true rfl) d_Model_leaving_22 hP hD hS hA 0 12 rfl rfl rfl [0, 2] [1] rfl rfl rfl rfl (by decide) (fun v w1 H locs hw_41 hP hD hS => ?_)
      obtain ⟨x_42, rfl, rfl, hx_42, hfx_43⟩ := hw_41
      have hP : va_P G.1 classes [(b28, .inl (G.2 0, 2, .inl b57)), (b0, .inr (12, [.int b3, .ref b4, .ref b5, .ref b6, .ref b7, .int b8, .ref b9, .int b10, .int b11, .int b12, .int b13, .ref b14, .ref b15, .ref b16, .int b17, .ref b18, .ref b19, .ref b20, .ref b21, .ref b22, .ref b23, .ref b24, .ref b25, .ref b26, .ref b27, .ref b28, .ref b29, .int b30, .ref b31, .ref b32, .int b33, .int b34, .int b35, .int b36, .ref b37, .ref b38, .ref b39, .ref b40, .ref b41, .ref b42, .ref b43, .int b44, .ref b45, .ref b46, .int b47, .ref b48, .ref b49, .ref b50, .ref b51, .ref b52, .int b53, .ref b54, .ref b55, .ref b56])), (b29, .inl (G.2 0, 2880, .inl b58))] H := hP
      have hD := z_tie hP hD rfl
      refine W.widen (k := 0) (n := 0) (Nat.le_of_ble_eq_true rfl) (Nat.le_of_ble_eq_true rfl) ?_
      refine lv_iload_n hx hb d_Model_leaving_25 rfl (lv_at hl 3 rfl) ?_
      refine lv_icmp_ne (tgt := 48) hx hb d_Model_leaving_26 (by decide) (fun hc_44 => ?_) (fun hc_44 => ?_)
      · have _nhc_44 := hc_44
        have ni_45 : ¬ (x_42 : Int32).toInt = (b1 : Int32).toInt := fun z => hc_44 ((fa_eq _ _).mpr z)
        refine lv_iconst (v := 0) hx hb d_Model_leaving_48 (by decide) ?_
        refine lv_iadd hx hb d_Model_leaving_49 ?_
        refine lv_topi (fun v_46 ev_46 => ?_)
        obtain ⟨qv_46, hv_46⟩ := zI_add (l := -2147483648) (h := 2147483647) (zI_all y_32) zc_0 ev_46 (by decide)
        rw [li_0] at qv_46
        refine lv_istore_n (lv' := [(3, .int v_46), (4, .int y_31), (0, .ref b0), (1, .int b1), (2, .int b2)]) hx hb d_Model_leaving_50 rfl hl (by decide) rfl (fun ls hl => ?_)
        obtain ⟨v_47, ev_47⟩ : ∃ z : Int32, z = y_31 + 1 := ⟨_, rfl⟩
        obtain ⟨qv_47, hv_47⟩ := zI_add (l := 1) (h := 240) hv_39 zc_1 ev_47 (by decide)
        rw [li_1] at qv_47
        refine lv_iinc (v := v_47) (lv' := [(4, .int v_47), (3, .int v_46), (0, .ref b0), (1, .int b1), (2, .int b2)]) hx hb d_Model_leaving_51 hl (k := 1) rfl (by rw [ev_47]; rfl) (by decide) rfl (fun ls hl => ?_)
        refine lv_goto (tgt := 5) hx hb d_Model_leaving_54 (by decide) ?_
        exact ihk_30 (v_47) (v_46) _ _ _ (zI.wk (l' := 0) (h' := 240) hv_47 (by decide)) (by have h6 : v_35.toInt = (b57 (0 : Int32).toNatClampNeg).toInt := (by rw [ev_35]); omega) (fun h1 hu ht => by have _l0 := li_0; have _l1 := li_1; have h6 : v_35.toInt = (b57 (0 : Int32).toNatClampNeg).toInt := (by rw [ev_35]); have z9 : v_47.toInt.toNat = y_31.toInt.toNat + 1 := (by omega); rw [z9]; exact zsm_st ev_46 (hli_34 h1 hu ht) (by show _ = if (b58 (6 * y_31.toInt.toNat)).toInt = b1.toInt then _ else _; have h9 := congrArg Int32.toInt hfx_43; rw [if_neg (by intro h5; exact absurd (h9.trans h5) (by omega))]; exact li_0) hu ht (by omega)) (zm_up qv_47 hmk_30 (by decide)) (hP.sub [1, 0, 2] rfl) (hD.sub [1, 0, 2] (by decide) rfl) hS (lv_sub hl [0, 1, 2, 3, 4] rfl)
      · have _nhc_44 := hc_44
        have ni_48 := (fa_eq _ _).mp hc_44
        have hv_49 : zI b1 0 240 := zI.eq_l (zI_all b1) hx_42 hc_44.symm
        refine lv_iload_n hx hb d_Model_leaving_29 rfl (lv_at hl 4 rfl) ?_
        refine lv_if_eq (tgt := 44) hx hb d_Model_leaving_30 (by decide) (fun hc_50 => ?_) (fun hc_50 => ?_)
        · have _nhc_50 := hc_50
          have ni_51 := (fa_eq _ _).mp hc_50
          rw [li_0] at ni_51
          have hv_52 : zI b2 0 0 := zI.eq_l hb2 zc_0 hc_50
          refine lv_iconst (v := 1) hx hb d_Model_leaving_44 (by decide) ?_
          refine lv_goto (tgt := 49) hx hb d_Model_leaving_45 (by decide) ?_
          refine lv_iadd hx hb d_Model_leaving_49 ?_
          refine lv_topi (fun v_53 ev_53 => ?_)
          refine lv_istore_n (lv' := [(3, .int v_53), (4, .int y_31), (0, .ref b0), (1, .int b1), (2, .int b2)]) hx hb d_Model_leaving_50 rfl hl (by decide) rfl (fun ls hl => ?_)
          obtain ⟨v_54, ev_54⟩ : ∃ z : Int32, z = y_31 + 1 := ⟨_, rfl⟩
          obtain ⟨qv_54, hv_54⟩ := zI_add (l := 1) (h := 240) hv_39 zc_1 ev_54 (by decide)
          rw [li_1] at qv_54
          refine lv_iinc (v := v_54) (lv' := [(4, .int v_54), (3, .int v_53), (0, .ref b0), (1, .int b1), (2, .int b2)]) hx hb d_Model_leaving_51 hl (k := 1) rfl (by rw [ev_54]; rfl) (by decide) rfl (fun ls hl => ?_)
          refine lv_goto (tgt := 5) hx hb d_Model_leaving_54 (by decide) ?_
          exact ihk_30 (v_54) (v_53) _ _ _ (zI.wk (l' := 0) (h' := 240) hv_54 (by decide)) (by have h6 : v_35.toInt = (b57 (0 : Int32).toNatClampNeg).toInt := (by rw [ev_35]); omega) (fun h1 => by exfalso; have _l0 := li_0; have _l1 := li_1; omega) (zm_up qv_54 hmk_30 (by decide)) (hP.sub [1, 0, 2] rfl) (hD.sub [1, 0, 2] (by decide) rfl) hS (lv_sub hl [0, 1, 2, 3, 4] rfl)
        · have _nhc_50 := hc_50
          have ni_55 : ¬ (b2 : Int32).toInt = (0 : Int32).toInt := fun z => hc_50 ((fa_eq _ _).mpr z)
          simp only [li_0] at ni_55
          have hv_56 : zI b2 1 1 := zI.ne_lo hb2 zc_0 hc_50 (by decide)
          refine lv_aload_n hx hb d_Model_leaving_33 rfl (lv_at hl 2 rfl) ?_
          refine lv_iconst (v := 0) hx hb d_Model_leaving_34 (by decide) ?_
          refine lv_iload hx hb d_Model_leaving_35 (lv_at hl 0 rfl) ?_
          refine lv_iconst (v := 3) hx hb d_Model_leaving_37 (by decide) ?_
          refine z_callV (index := 225) (As := [.int 0, .int y_31, .int 3]) (rest := [.int y_32]) (wr := [(b28, .inl (G.2 0, 2, .inl b57))]) Z (s14_Model_edgeAt l G (b0) (y_31) (b3) (b4) (b5) (b6) (b7) (b8) (b9) (b10) (b11) (b12) (b13) (b14) (b15) (b16) (b17) (b18) (b19) (b20) (b21) (b22) (b23) (b24) (b25) (b26) (b27) (b28) (b29) (b30) (b31) (b32) (b33) (b34) (b35) (b36) (b37) (b38) (b39) (b40) (b41) (b42) (b43) (b44) (b45) (b46) (b47) (b48) (b49) (b50) (b51) (b52) (b53) (b54) (b55) (b56) (b58) (zI.wk (l' := 0) (h' := 240) hv_39 (by decide)) hb8 hb10 hb11 hb13 hb17 hb30 hb33 hb44 hb47 hb53 hb58) hl.1 q1408 q1410 qs68 q14 q1411 ⟨by decide, by decide, by show _ = some 3; decide +kernel⟩ ⟨Nat.le_of_ble_eq_true rfl, Nat.le_of_ble_eq_true rfl⟩ ⟨Nat.le_of_ble_eq_true rfl, Nat.le_of_ble_eq_true rfl⟩ rfl (Nat.le_of_ble_eq_true rfl) d_Model_leaving_38 hP hD hS hA 1 12 rfl rfl rfl [1, 2] [0] rfl rfl rfl rfl (by decide) (fun v w1 H locs hw_57 hP hD hS => ?_)
          obtain ⟨x_58, rfl, rfl, hfx_59⟩ := hw_57
          have hP : va_P G.1 classes [(b28, .inl (G.2 0, 2, .inl b57)), (b0, .inr (12, [.int b3, .ref b4, .ref b5, .ref b6, .ref b7, .int b8, .ref b9, .int b10, .int b11, .int b12, .int b13, .ref b14, .ref b15, .ref b16, .int b17, .ref b18, .ref b19, .ref b20, .ref b21, .ref b22, .ref b23, .ref b24, .ref b25, .ref b26, .ref b27, .ref b28, .ref b29, .int b30, .ref b31, .ref b32, .int b33, .int b34, .int b35, .int b36, .ref b37, .ref b38, .ref b39, .ref b40, .ref b41, .ref b42, .ref b43, .int b44, .ref b45, .ref b46, .int b47, .ref b48, .ref b49, .ref b50, .ref b51, .ref b52, .int b53, .ref b54, .ref b55, .ref b56])), (b29, .inl (G.2 0, 2880, .inl b58))] H := hP
          have hD := z_tie hP hD rfl
          refine W.widen (k := 0) (n := 0) (Nat.le_of_ble_eq_true rfl) (Nat.le_of_ble_eq_true rfl) ?_
          refine lv_goto (tgt := 49) hx hb d_Model_leaving_41 (by decide) ?_
          refine lv_iadd hx hb d_Model_leaving_49 ?_
          refine lv_topi (fun v_60 ev_60 => ?_)
          refine lv_istore_n (lv' := [(3, .int v_60), (4, .int y_31), (0, .ref b0), (1, .int b1), (2, .int b2)]) hx hb d_Model_leaving_50 rfl hl (by decide) rfl (fun ls hl => ?_)
          obtain ⟨v_61, ev_61⟩ : ∃ z : Int32, z = y_31 + 1 := ⟨_, rfl⟩
          obtain ⟨qv_61, hv_61⟩ := zI_add (l := 1) (h := 240) hv_39 zc_1 ev_61 (by decide)
          rw [li_1] at qv_61
          refine lv_iinc (v := v_61) (lv' := [(4, .int v_61), (3, .int v_60), (0, .ref b0), (1, .int b1), (2, .int b2)]) hx hb d_Model_leaving_51 hl (k := 1) rfl (by rw [ev_61]; rfl) (by decide) rfl (fun ls hl => ?_)
          refine lv_goto (tgt := 5) hx hb d_Model_leaving_54 (by decide) ?_
          exact ihk_30 (v_61) (v_60) _ _ _ (zI.wk (l' := 0) (h' := 240) hv_61 (by decide)) (by have h6 : v_35.toInt = (b57 (0 : Int32).toNatClampNeg).toInt := (by rw [ev_35]); omega) (fun h1 hu ht => by have _l0 := li_0; have _l1 := li_1; have h6 : v_35.toInt = (b57 (0 : Int32).toNatClampNeg).toInt := (by rw [ev_35]); have z9 : v_61.toInt.toNat = y_31.toInt.toNat + 1 := (by omega); rw [z9]; exact zsm_st ev_60 (hli_34 h1 hu ht) (by show _ = if (b58 (6 * y_31.toInt.toNat)).toInt = b1.toInt then (b58 (6 * y_31.toInt.toNat + 3)).toInt else 0; have h9 := congrArg Int32.toInt hfx_43; have h8 := congrArg Int32.toInt hfx_59; rw [if_pos (by exact h9.symm.trans (by omega))]; exact h8) hu ht (by omega)) (zm_up qv_61 hmk_30 (by decide)) (hP.sub [1, 0, 2] rfl) (hD.sub [1, 0, 2] (by decide) rfl) hS (lv_sub hl [0, 1, 2, 3, 4] rfl)
theorem d_Model_finals_0 : decode prog_14_method_95_code 0 = .ok (.iconst 0, 1) := by decide +kernel
theorem d_Model_finals_1 : decode prog_14_method_95_code 1 = .ok (.istore_n 1, 1) := by decide +kernel
theorem d_Model_finals_2 : decode prog_14_method_95_code 2 = .ok (.iconst 0, 1) := by decide +kernel
theorem d_Model_finals_3 : decode prog_14_method_95_code 3 = .ok (.istore_n 2, 1) := by decide +kernel
theorem d_Model_finals_4 : decode prog_14_method_95_code 4 = .ok (.iload_n 2, 1) := by decide +kernel
theorem d_Model_finals_5 : decode prog_14_method_95_code 5 = .ok (.aload_n 0, 1) := by decide +kernel
theorem d_Model_finals_6 : decode prog_14_method_95_code 6 = .ok (.getfield 58, 3) := by decide +kernel
theorem d_Model_finals_9 : decode prog_14_method_95_code 9 = .ok (.iconst 0, 1) := by decide +kernel
theorem d_Model_finals_10 : decode prog_14_method_95_code 10 = .ok (.iaload, 1) := by decide +kernel
theorem d_Model_finals_11 : decode prog_14_method_95_code 11 = .ok (.if_icmp .ge 26, 3) := by decide +kernel
theorem d_Model_finals_14 : decode prog_14_method_95_code 14 = .ok (.iload_n 1, 1) := by decide +kernel
theorem d_Model_finals_15 : decode prog_14_method_95_code 15 = .ok (.aload_n 0, 1) := by decide +kernel
theorem d_Model_finals_16 : decode prog_14_method_95_code 16 = .ok (.iconst 0, 1) := by decide +kernel
theorem d_Model_finals_17 : decode prog_14_method_95_code 17 = .ok (.iload_n 2, 1) := by decide +kernel
theorem d_Model_finals_18 : decode prog_14_method_95_code 18 = .ok (.invokevirtual 256, 3) := by decide +kernel
theorem d_Model_finals_21 : decode prog_14_method_95_code 21 = .ok (.ifCond .eq 7, 3) := by decide +kernel
theorem d_Model_finals_24 : decode prog_14_method_95_code 24 = .ok (.iconst 1, 1) := by decide +kernel
theorem d_Model_finals_25 : decode prog_14_method_95_code 25 = .ok (.goto 4, 3) := by decide +kernel
theorem d_Model_finals_28 : decode prog_14_method_95_code 28 = .ok (.iconst 0, 1) := by decide +kernel
theorem d_Model_finals_29 : decode prog_14_method_95_code 29 = .ok (.iadd, 1) := by decide +kernel
theorem d_Model_finals_30 : decode prog_14_method_95_code 30 = .ok (.istore_n 1, 1) := by decide +kernel
theorem d_Model_finals_31 : decode prog_14_method_95_code 31 = .ok (.iinc 2 1, 3) := by decide +kernel
theorem d_Model_finals_34 : decode prog_14_method_95_code 34 = .ok (.goto (-30), 3) := by decide +kernel
theorem d_Model_finals_37 : decode prog_14_method_95_code 37 = .ok (.iload_n 1, 1) := by decide +kernel
theorem d_Model_finals_38 : decode prog_14_method_95_code 38 = .ok (.ireturn, 1) := by decide +kernel
theorem d_Model_isFinal_0 : decode prog_14_method_37_code 0 = .ok (.aload_n 0, 1) := by decide +kernel
theorem d_Model_isFinal_1 : decode prog_14_method_37_code 1 = .ok (.getfield 67, 3) := by decide +kernel
theorem d_Model_isFinal_4 : decode prog_14_method_37_code 4 = .ok (.sipush 241, 3) := by decide +kernel
theorem d_Model_isFinal_7 : decode prog_14_method_37_code 7 = .ok (.iload_n 1, 1) := by decide +kernel
theorem d_Model_isFinal_8 : decode prog_14_method_37_code 8 = .ok (.imul, 1) := by decide +kernel
theorem d_Model_isFinal_9 : decode prog_14_method_37_code 9 = .ok (.iload_n 2, 1) := by decide +kernel
theorem d_Model_isFinal_10 : decode prog_14_method_37_code 10 = .ok (.iadd, 1) := by decide +kernel
theorem d_Model_isFinal_11 : decode prog_14_method_37_code 11 = .ok (.iaload, 1) := by decide +kernel
theorem d_Model_isFinal_12 : decode prog_14_method_37_code 12 = .ok (.ifCond .le 7, 3) := by decide +kernel
theorem d_Model_isFinal_15 : decode prog_14_method_37_code 15 = .ok (.iconst 1, 1) := by decide +kernel
theorem d_Model_isFinal_16 : decode prog_14_method_37_code 16 = .ok (.goto 4, 3) := by decide +kernel
theorem d_Model_isFinal_19 : decode prog_14_method_37_code 19 = .ok (.iconst 0, 1) := by decide +kernel
theorem d_Model_isFinal_20 : decode prog_14_method_37_code 20 = .ok (.ireturn, 1) := by decide +kernel
abbrev m_s2_Model_isFinal : Room := { frames := 0, cells := 0, slots := 0, locals := 0 }
set_option maxHeartbeats 4000000 in
set_option maxRecDepth 100000 in
theorem s2_Model_isFinal (l : Launch) (G : zG) (b0 : Nat) (b1 : Int32) (b2 : Int32) (b3 : Nat) (b4 : Nat) (b5 : Nat) (b6 : Nat) (b7 : Int32) (b8 : Nat) (b9 : Int32) (b10 : Int32) (b11 : Int32) (b12 : Int32) (b13 : Nat) (b14 : Nat) (b15 : Nat) (b16 : Int32) (b17 : Nat) (b18 : Nat) (b19 : Nat) (b20 : Nat) (b21 : Nat) (b22 : Nat) (b23 : Nat) (b24 : Nat) (b25 : Nat) (b26 : Nat) (b27 : Nat) (b28 : Nat) (b29 : Int32) (b30 : Nat) (b31 : Nat) (b32 : Int32) (b33 : Int32) (b34 : Int32) (b35 : Int32) (b36 : Nat) (b37 : Nat) (b38 : Nat) (b39 : Nat) (b40 : Nat) (b41 : Nat) (b42 : Nat) (b43 : Int32) (b44 : Nat) (b45 : Nat) (b46 : Int32) (b47 : Nat) (b48 : Nat) (b49 : Nat) (b50 : Nat) (b51 : Nat) (b52 : Int32) (b53 : Nat) (b54 : Nat) (b55 : Nat) (b56 : Nat → Int32) (hb1 : zI b1 0 240) (hb7 : zI b7 0 8) (hb9 : zI b9 0 240) (hb10 : zI b10 0 240) (hb12 : zI b12 0 1) (hb16 : zI b16 0 12) (hb29 : zI b29 0 1) (hb32 : zI b32 0 1) (hb43 : zI b43 0 1000) (hb46 : zI b46 0 1000) (hb52 : zI b52 0 400) : zM l G y_Model_isFinal prog_14_method_37_code 3 (Option.some Jvm.ClassFile.FieldType.boolean) m_s2_Model_isFinal [.ref b0, .int 0, .int b1] [(b0, .inr (12, [.int b2, .ref b3, .ref b4, .ref b5, .ref b6, .int b7, .ref b8, .int b9, .int b10, .int b11, .int b12, .ref b13, .ref b14, .ref b15, .int b16, .ref b17, .ref b18, .ref b19, .ref b20, .ref b21, .ref b22, .ref b23, .ref b24, .ref b25, .ref b26, .ref b27, .ref b28, .int b29, .ref b30, .ref b31, .int b32, .int b33, .int b34, .int b35, .ref b36, .ref b37, .ref b38, .ref b39, .ref b40, .ref b41, .ref b42, .int b43, .ref b44, .ref b45, .int b46, .ref b47, .ref b48, .ref b49, .ref b50, .ref b51, .int b52, .ref b53, .ref b54, .ref b55])), (b26, .inl (G.2 0, 482, .inl b56))] (fun v w => ∃ (e0 : Int32), v = some (.int e0) ∧ w = [(b0, .inr (12, [.int b2, .ref b3, .ref b4, .ref b5, .ref b6, .int b7, .ref b8, .int b9, .int b10, .int b11, .int b12, .ref b13, .ref b14, .ref b15, .int b16, .ref b17, .ref b18, .ref b19, .ref b20, .ref b21, .ref b22, .ref b23, .ref b24, .ref b25, .ref b26, .ref b27, .ref b28, .int b29, .ref b30, .ref b31, .int b32, .int b33, .int b34, .int b35, .ref b36, .ref b37, .ref b38, .ref b39, .ref b40, .ref b41, .ref b42, .int b43, .ref b44, .ref b45, .int b46, .ref b47, .ref b48, .ref b49, .ref b50, .ref b51, .int b52, .ref b53, .ref b54, .ref b55])), (b26, .inl (G.2 0, 482, .inl b56))] ∧ (zI e0 0 1)) := by
  refine z_start (by decide +kernel) (Nat.le_of_ble_eq_true rfl) ?_
  intro p e s m below meth c A Z hr hnm hA hP hD hS ls hl
  have Z : zC p s m _ meth c prog_14_method_37_code 3 "TraceMachinesModel" G := Z
  obtain ⟨hx, hb, hml, hown, hts, hK, hN, hlocks⟩ := id Z
  have hl : lv_has ls 3 [(0, .ref b0), (1, .int 0), (2, .int b1)] := hl
  refine lv_aload_n hx hb d_Model_isFinal_0 rfl (lv_at hl 0 rfl) ?_
  refine va_get (D := G.1) (ci := 12) (v := .ref b26) (C := R_Model) (T := F_Model) (N := 54) hx hb hts i_Model hown hK hP 0 rfl rfl 24 (by decide) (hts _ q1133) (fun _ h9 => h9) rfl d_Model_isFinal_1 ?_
  refine lv_sipush (v := 241) hx hb d_Model_isFinal_4 (by decide) ?_
  refine lv_iload_n hx hb d_Model_isFinal_7 rfl (lv_at hl 1 rfl) ?_
  refine lv_imul hx hb d_Model_isFinal_8 ?_
  refine z_topi (y := 0) (by decide +kernel) ?_
  refine lv_iload_n hx hb d_Model_isFinal_9 rfl (lv_at hl 2 rfl) ?_
  refine lv_iadd hx hb d_Model_isFinal_10 ?_
  refine lv_topi (fun v_1 ev_1 => ?_)
  obtain ⟨qv_1, hv_1⟩ := zI_add (l := 0) (h := 240) zc_0 hb1 ev_1 (by decide)
  rw [li_0] at qv_1
  refine va_iald hx hb hK hP 1 0 rfl rfl (zI.inn hv_1 (by decide)) d_Model_isFinal_11 ?_
  refine lv_topi (fun v_2 ev_2 => ?_)
  refine lv_if_le (tgt := 19) hx hb d_Model_isFinal_12 (by decide) (fun hc_3 => ?_) (fun hc_3 => ?_)
  · have _nhc_3 := hc_3
    have ni_4 := (fa_le _ _).mp hc_3
    rw [li_0] at ni_4
    have hv_5 : zI v_2 (-2147483648) 0 := zI.le_l (zI_all v_2) zc_0 hc_3 (by decide)
    refine lv_iconst (v := 0) hx hb d_Model_isFinal_19 (by decide) ?_
    exact z_zret hx hb hr hlocks rfl hP hD hS (Nat.le_of_ble_eq_true rfl) (Nat.le_of_ble_eq_true rfl) d_Model_isFinal_20 ⟨0, rfl, rfl, (zI.wk (l' := 0) (h' := 1) zc_0 (by decide))⟩
  · have _nhc_3 := hc_3
    have ni_6 := (fa_lt _ _).mp (zi_nle hc_3)
    rw [li_0] at ni_6
    have hv_7 : zI v_2 1 2147483647 := zI.lt_r zc_0 (zI_all v_2) (zi_nle hc_3) (by decide)
    refine lv_iconst (v := 1) hx hb d_Model_isFinal_15 (by decide) ?_
    refine lv_goto (tgt := 20) hx hb d_Model_isFinal_16 (by decide) ?_
    exact z_zret hx hb hr hlocks rfl hP hD hS (Nat.le_of_ble_eq_true rfl) (Nat.le_of_ble_eq_true rfl) d_Model_isFinal_20 ⟨1, rfl, rfl, (zI.wk (l' := 0) (h' := 1) zc_1 (by decide))⟩
abbrev m_s1_Model_finals : Room := { frames := 1, cells := 0, slots := 0, locals := 22 }
set_option maxHeartbeats 4000000 in
set_option maxRecDepth 100000 in
theorem s1_Model_finals (l : Launch) (G : zG) (b0 : Nat) (b1 : Int32) (b2 : Nat) (b3 : Nat) (b4 : Nat) (b5 : Nat) (b6 : Int32) (b7 : Nat) (b8 : Int32) (b9 : Int32) (b10 : Int32) (b11 : Int32) (b12 : Nat) (b13 : Nat) (b14 : Nat) (b15 : Int32) (b16 : Nat) (b17 : Nat) (b18 : Nat) (b19 : Nat) (b20 : Nat) (b21 : Nat) (b22 : Nat) (b23 : Nat) (b24 : Nat) (b25 : Nat) (b26 : Nat) (b27 : Nat) (b28 : Int32) (b29 : Nat) (b30 : Nat) (b31 : Int32) (b32 : Int32) (b33 : Int32) (b34 : Int32) (b35 : Nat) (b36 : Nat) (b37 : Nat) (b38 : Nat) (b39 : Nat) (b40 : Nat) (b41 : Nat) (b42 : Int32) (b43 : Nat) (b44 : Nat) (b45 : Int32) (b46 : Nat) (b47 : Nat) (b48 : Nat) (b49 : Nat) (b50 : Nat) (b51 : Int32) (b52 : Nat) (b53 : Nat) (b54 : Nat) (b55 : Nat → Int32) (b56 : Nat → Int32) (hb6 : zI b6 0 8) (hb8 : zI b8 0 240) (hb9 : zI b9 0 240) (hb11 : zI b11 0 1) (hb15 : zI b15 0 12) (hb28 : zI b28 0 1) (hb31 : zI b31 0 1) (hb42 : zI b42 0 1000) (hb45 : zI b45 0 1000) (hb51 : zI b51 0 400) (hb55 : zR b55 0 241) : zM l G y_Model_finals prog_14_method_95_code 3 (Option.some Jvm.ClassFile.FieldType.int) m_s1_Model_finals [.ref b0] [(b0, .inr (12, [.int b1, .ref b2, .ref b3, .ref b4, .ref b5, .int b6, .ref b7, .int b8, .int b9, .int b10, .int b11, .ref b12, .ref b13, .ref b14, .int b15, .ref b16, .ref b17, .ref b18, .ref b19, .ref b20, .ref b21, .ref b22, .ref b23, .ref b24, .ref b25, .ref b26, .ref b27, .int b28, .ref b29, .ref b30, .int b31, .int b32, .int b33, .int b34, .ref b35, .ref b36, .ref b37, .ref b38, .ref b39, .ref b40, .ref b41, .int b42, .ref b43, .ref b44, .int b45, .ref b46, .ref b47, .ref b48, .ref b49, .ref b50, .int b51, .ref b52, .ref b53, .ref b54])), (b22, .inl (G.2 0, 2, .inl b55)), (b25, .inl (G.2 0, 482, .inl b56))] (fun v w => ∃ (e0 : Int32), v = some (.int e0) ∧ w = [(b0, .inr (12, [.int b1, .ref b2, .ref b3, .ref b4, .ref b5, .int b6, .ref b7, .int b8, .int b9, .int b10, .int b11, .ref b12, .ref b13, .ref b14, .int b15, .ref b16, .ref b17, .ref b18, .ref b19, .ref b20, .ref b21, .ref b22, .ref b23, .ref b24, .ref b25, .ref b26, .ref b27, .int b28, .ref b29, .ref b30, .int b31, .int b32, .int b33, .int b34, .ref b35, .ref b36, .ref b37, .ref b38, .ref b39, .ref b40, .ref b41, .int b42, .ref b43, .ref b44, .int b45, .ref b46, .ref b47, .ref b48, .ref b49, .ref b50, .int b51, .ref b52, .ref b53, .ref b54])), (b22, .inl (G.2 0, 2, .inl b55)), (b25, .inl (G.2 0, 482, .inl b56))]) := by
  refine z_start (by decide +kernel) (Nat.le_of_ble_eq_true rfl) ?_
  intro p e s m below meth c A Z hr hnm hA hP hD hS ls hl
  have Z : zC p s m _ meth c prog_14_method_95_code 3 "TraceMachinesModel" G := Z
  obtain ⟨hx, hb, hml, hown, hts, hK, hN, hlocks⟩ := id Z
  have hl : lv_has ls 3 [(0, .ref b0)] := hl
  refine lv_iconst (v := 0) hx hb d_Model_finals_0 (by decide) ?_
  refine lv_istore_n (lv' := [(1, .int 0), (0, .ref b0)]) hx hb d_Model_finals_1 rfl hl (by decide) rfl (fun ls hl => ?_)
  refine lv_iconst (v := 0) hx hb d_Model_finals_2 (by decide) ?_
  refine lv_istore_n (lv' := [(2, .int 0), (1, .int 0), (0, .ref b0)]) hx hb d_Model_finals_3 rfl hl (by decide) rfl (fun ls hl => ?_)
  suffices key : ∀ (k_20 : Nat) (y_21 : Int32) (y_22 : Int32) (H : Heap) (locs : List Loc) (ls : Array Slot), (zI y_21 0 241) → (241 : Int) - y_21.toInt < (k_20 : Int) → va_P G.1 classes [(b0, .inr (12, [.int b1, .ref b2, .ref b3, .ref b4, .ref b5, .int b6, .ref b7, .int b8, .int b9, .int b10, .int b11, .ref b12, .ref b13, .ref b14, .int b15, .ref b16, .ref b17, .ref b18, .ref b19, .ref b20, .ref b21, .ref b22, .ref b23, .ref b24, .ref b25, .ref b26, .ref b27, .int b28, .ref b29, .ref b30, .int b31, .int b32, .int b33, .int b34, .ref b35, .ref b36, .ref b37, .ref b38, .ref b39, .ref b40, .ref b41, .int b42, .ref b43, .ref b44, .int b45, .ref b46, .ref b47, .ref b48, .ref b49, .ref b50, .int b51, .ref b52, .ref b53, .ref b54])), (b22, .inl (G.2 0, 2, .inl b55)), (b25, .inl (G.2 0, 482, .inl b56))] H → va_D A [(b0, .inr (12, [.int b1, .ref b2, .ref b3, .ref b4, .ref b5, .int b6, .ref b7, .int b8, .int b9, .int b10, .int b11, .ref b12, .ref b13, .ref b14, .int b15, .ref b16, .ref b17, .ref b18, .ref b19, .ref b20, .ref b21, .ref b22, .ref b23, .ref b24, .ref b25, .ref b26, .ref b27, .int b28, .ref b29, .ref b30, .int b31, .int b32, .int b33, .int b34, .ref b35, .ref b36, .ref b37, .ref b38, .ref b39, .ref b40, .ref b41, .int b42, .ref b43, .ref b44, .int b45, .ref b46, .ref b47, .ref b48, .ref b49, .ref b50, .int b51, .ref b52, .ref b53, .ref b54])), (b22, .inl (G.2 0, 2, .inl b55)), (b25, .inl (G.2 0, 482, .inl b56))] → va_S A s.heap H locs → lv_has ls 3 [(2, .int y_21), (1, .int y_22), (0, .ref b0)] → W p l e m_s1_Model_finals s m ([.ref b0] : List Value).toArray below meth c H locs 0 0 (MQ below (zQ G (fun v w => ∃ (e0 : Int32), v = some (.int e0) ∧ w = [(b0, .inr (12, [.int b1, .ref b2, .ref b3, .ref b4, .ref b5, .int b6, .ref b7, .int b8, .int b9, .int b10, .int b11, .ref b12, .ref b13, .ref b14, .int b15, .ref b16, .ref b17, .ref b18, .ref b19, .ref b20, .ref b21, .ref b22, .ref b23, .ref b24, .ref b25, .ref b26, .ref b27, .int b28, .ref b29, .ref b30, .int b31, .int b32, .int b33, .int b34, .ref b35, .ref b36, .ref b37, .ref b38, .ref b39, .ref b40, .ref b41, .int b42, .ref b43, .ref b44, .int b45, .ref b46, .ref b47, .ref b48, .ref b49, .ref b50, .int b51, .ref b52, .ref b53, .ref b54])), (b22, .inl (G.2 0, 2, .inl b55)), (b25, .inl (G.2 0, 482, .inl b56))]) A) ([.ref b0] : List Value).toArray s m_s1_Model_finals.cells m_s1_Model_finals.slots A) (F0 m 4 ls []) by
    exact key 242 (0) (0) _ _ _ (zI.wk (l' := 0) (h' := 241) zc_0 (by decide)) (zm_upi (zI.wk (l' := 0) (h' := 241) zc_0 (by decide)) (by decide)) hP hD hS (lv_sub hl [0, 1, 2] rfl)
  intro k_20
  induction k_20 with
  | zero =>
    intro y_21 y_22 H locs ls hy_21 hmk_20 hP hD hS hl
    exact (zm_up0 hy_21 hmk_20).elim
  | succ k_20 ihk_20 =>
    intro y_21 y_22 H locs ls hy_21 hmk_20 hP hD hS hl
    refine lv_iload_n hx hb d_Model_finals_4 rfl (lv_at hl 0 rfl) ?_
    refine lv_aload_n hx hb d_Model_finals_5 rfl (lv_at hl 2 rfl) ?_
    refine va_get (D := G.1) (ci := 12) (v := .ref b22) (C := R_Model) (T := F_Model) (N := 54) hx hb hts i_Model hown hK hP 0 rfl rfl 21 (by decide) (hts _ q1130) (fun _ h9 => h9) rfl d_Model_finals_6 ?_
    refine lv_iconst (v := 0) hx hb d_Model_finals_9 (by decide) ?_
    refine va_iald hx hb hK hP 1 0 rfl rfl (i := 0) (z_in rfl) d_Model_finals_10 ?_
    refine lv_topi (fun v_23 ev_23 => ?_)
    have hv_23 : zI v_23 0 241 := (hb55 _).eq ev_23
    refine lv_icmp_ge (tgt := 37) hx hb d_Model_finals_11 (by decide) (fun hc_24 => ?_) (fun hc_24 => ?_)
    · have _nhc_24 := hc_24
      have ni_25 := (fa_le _ _).mp hc_24
      refine lv_iload_n hx hb d_Model_finals_37 rfl (lv_at hl 1 rfl) ?_
      exact z_iret hx hb hr hlocks hP hD hS (Nat.le_of_ble_eq_true rfl) (Nat.le_of_ble_eq_true rfl) d_Model_finals_38 ⟨y_22, rfl, rfl⟩
    · have _nhc_24 := hc_24
      have ni_26 := (fa_lt _ _).mp (zi_nle hc_24)
      have hv_27 : zI y_21 0 240 := zI.lt_l hy_21 hv_23 (zi_nle hc_24) (by decide)
      have hv_28 : zI v_23 1 241 := zI.lt_r hy_21 hv_23 (zi_nle hc_24) (by decide)
      refine lv_iload_n hx hb d_Model_finals_14 rfl (lv_at hl 1 rfl) ?_
      refine lv_aload_n hx hb d_Model_finals_15 rfl (lv_at hl 2 rfl) ?_
      refine lv_iconst (v := 0) hx hb d_Model_finals_16 (by decide) ?_
      refine lv_iload_n hx hb d_Model_finals_17 rfl (lv_at hl 0 rfl) ?_
      refine z_callV (index := 256) (As := [.int 0, .int y_21]) (rest := [.int y_22]) (wr := [(b22, .inl (G.2 0, 2, .inl b55))]) Z (s2_Model_isFinal l G (b0) (y_21) (b1) (b2) (b3) (b4) (b5) (b6) (b7) (b8) (b9) (b10) (b11) (b12) (b13) (b14) (b15) (b16) (b17) (b18) (b19) (b20) (b21) (b22) (b23) (b24) (b25) (b26) (b27) (b28) (b29) (b30) (b31) (b32) (b33) (b34) (b35) (b36) (b37) (b38) (b39) (b40) (b41) (b42) (b43) (b44) (b45) (b46) (b47) (b48) (b49) (b50) (b51) (b52) (b53) (b54) (b56) hv_27 hb6 hb8 hb9 hb11 hb15 hb28 hb31 hb42 hb45 hb51) hl.1 q1420 q1422 qs70 q14 q1423 ⟨by decide, by decide, by show _ = some 2; decide +kernel⟩ ⟨Nat.le_of_ble_eq_true rfl, Nat.le_of_ble_eq_true rfl⟩ ⟨Nat.le_of_ble_eq_true rfl, Nat.le_of_ble_eq_true rfl⟩ rfl (Nat.le_of_ble_eq_true rfl) d_Model_finals_18 hP hD hS hA 0 12 rfl rfl rfl [0, 2] [1] rfl rfl rfl rfl (by decide) (fun v w1 H locs hw_29 hP hD hS => ?_)
      obtain ⟨x_30, rfl, rfl, hx_30⟩ := hw_29
      have hP : va_P G.1 classes [(b22, .inl (G.2 0, 2, .inl b55)), (b0, .inr (12, [.int b1, .ref b2, .ref b3, .ref b4, .ref b5, .int b6, .ref b7, .int b8, .int b9, .int b10, .int b11, .ref b12, .ref b13, .ref b14, .int b15, .ref b16, .ref b17, .ref b18, .ref b19, .ref b20, .ref b21, .ref b22, .ref b23, .ref b24, .ref b25, .ref b26, .ref b27, .int b28, .ref b29, .ref b30, .int b31, .int b32, .int b33, .int b34, .ref b35, .ref b36, .ref b37, .ref b38, .ref b39, .ref b40, .ref b41, .int b42, .ref b43, .ref b44, .int b45, .ref b46, .ref b47, .ref b48, .ref b49, .ref b50, .int b51, .ref b52, .ref b53, .ref b54])), (b25, .inl (G.2 0, 482, .inl b56))] H := hP
      have hD := z_tie hP hD rfl
      refine W.widen (k := 0) (n := 0) (Nat.le_of_ble_eq_true rfl) (Nat.le_of_ble_eq_true rfl) ?_
      refine lv_if_eq (tgt := 28) hx hb d_Model_finals_21 (by decide) (fun hc_31 => ?_) (fun hc_31 => ?_)
      · have _nhc_31 := hc_31
        have ni_32 := (fa_eq _ _).mp hc_31
        rw [li_0] at ni_32
        have hv_33 : zI x_30 0 0 := zI.eq_l hx_30 zc_0 hc_31
        refine lv_iconst (v := 0) hx hb d_Model_finals_28 (by decide) ?_
        refine lv_iadd hx hb d_Model_finals_29 ?_
        refine lv_topi (fun v_34 ev_34 => ?_)
        obtain ⟨qv_34, hv_34⟩ := zI_add (l := -2147483648) (h := 2147483647) (zI_all y_22) zc_0 ev_34 (by decide)
        rw [li_0] at qv_34
        refine lv_istore_n (lv' := [(1, .int v_34), (2, .int y_21), (0, .ref b0)]) hx hb d_Model_finals_30 rfl hl (by decide) rfl (fun ls hl => ?_)
        obtain ⟨v_35, ev_35⟩ : ∃ z : Int32, z = y_21 + 1 := ⟨_, rfl⟩
        obtain ⟨qv_35, hv_35⟩ := zI_add (l := 1) (h := 241) hv_27 zc_1 ev_35 (by decide)
        rw [li_1] at qv_35
        refine lv_iinc (v := v_35) (lv' := [(2, .int v_35), (1, .int v_34), (0, .ref b0)]) hx hb d_Model_finals_31 hl (k := 1) rfl (by rw [ev_35]; rfl) (by decide) rfl (fun ls hl => ?_)
        refine lv_goto (tgt := 4) hx hb d_Model_finals_34 (by decide) ?_
        exact ihk_20 (v_35) (v_34) _ _ _ (zI.wk (l' := 0) (h' := 241) hv_35 (by decide)) (zm_up qv_35 hmk_20 (by decide)) (hP.sub [1, 0, 2] rfl) (hD.sub [1, 0, 2] (by decide) rfl) hS (lv_sub hl [0, 1, 2] rfl)
      · have _nhc_31 := hc_31
        have ni_36 : ¬ (x_30 : Int32).toInt = (0 : Int32).toInt := fun z => hc_31 ((fa_eq _ _).mpr z)
        simp only [li_0] at ni_36
        have hv_37 : zI x_30 1 1 := zI.ne_lo hx_30 zc_0 hc_31 (by decide)
        refine lv_iconst (v := 1) hx hb d_Model_finals_24 (by decide) ?_
        refine lv_goto (tgt := 29) hx hb d_Model_finals_25 (by decide) ?_
        refine lv_iadd hx hb d_Model_finals_29 ?_
        refine lv_topi (fun v_38 ev_38 => ?_)
        refine lv_istore_n (lv' := [(1, .int v_38), (2, .int y_21), (0, .ref b0)]) hx hb d_Model_finals_30 rfl hl (by decide) rfl (fun ls hl => ?_)
        obtain ⟨v_39, ev_39⟩ : ∃ z : Int32, z = y_21 + 1 := ⟨_, rfl⟩
        obtain ⟨qv_39, hv_39⟩ := zI_add (l := 1) (h := 241) hv_27 zc_1 ev_39 (by decide)
        rw [li_1] at qv_39
        refine lv_iinc (v := v_39) (lv' := [(2, .int v_39), (1, .int v_38), (0, .ref b0)]) hx hb d_Model_finals_31 hl (k := 1) rfl (by rw [ev_39]; rfl) (by decide) rfl (fun ls hl => ?_)
        refine lv_goto (tgt := 4) hx hb d_Model_finals_34 (by decide) ?_
        exact ihk_20 (v_39) (v_38) _ _ _ (zI.wk (l' := 0) (h' := 241) hv_39 (by decide)) (zm_up qv_39 hmk_20 (by decide)) (hP.sub [1, 0, 2] rfl) (hD.sub [1, 0, 2] (by decide) rfl) hS (lv_sub hl [0, 1, 2] rfl)
theorem d_Model_takeTrace_0 : decode prog_14_method_53_code 0 = .ok (.aload_n 0, 1) := by decide +kernel
theorem d_Model_takeTrace_1 : decode prog_14_method_53_code 1 = .ok (.aload_n 0, 1) := by decide +kernel
theorem d_Model_takeTrace_2 : decode prog_14_method_53_code 2 = .ok (.iload_n 1, 1) := by decide +kernel
theorem d_Model_takeTrace_3 : decode prog_14_method_53_code 3 = .ok (.invokevirtual 203, 3) := by decide +kernel
theorem d_Model_takeTrace_6 : decode prog_14_method_53_code 6 = .ok (.putfield 159, 3) := by decide +kernel
theorem d_Model_takeTrace_9 : decode prog_14_method_53_code 9 = .ok (.iconst 0, 1) := by decide +kernel
theorem d_Model_takeTrace_10 : decode prog_14_method_53_code 10 = .ok (.istore_n 2, 1) := by decide +kernel
theorem d_Model_takeTrace_11 : decode prog_14_method_53_code 11 = .ok (.iload_n 2, 1) := by decide +kernel
theorem d_Model_takeTrace_12 : decode prog_14_method_53_code 12 = .ok (.aload_n 0, 1) := by decide +kernel
theorem d_Model_takeTrace_13 : decode prog_14_method_53_code 13 = .ok (.getfield 159, 3) := by decide +kernel
theorem d_Model_takeTrace_16 : decode prog_14_method_53_code 16 = .ok (.if_icmp .ge 33, 3) := by decide +kernel
theorem d_Model_takeTrace_19 : decode prog_14_method_53_code 19 = .ok (.aload_n 0, 1) := by decide +kernel
theorem d_Model_takeTrace_20 : decode prog_14_method_53_code 20 = .ok (.getfield 34, 3) := by decide +kernel
theorem d_Model_takeTrace_23 : decode prog_14_method_53_code 23 = .ok (.iload_n 2, 1) := by decide +kernel
theorem d_Model_takeTrace_24 : decode prog_14_method_53_code 24 = .ok (.aload_n 0, 1) := by decide +kernel
theorem d_Model_takeTrace_25 : decode prog_14_method_53_code 25 = .ok (.iload_n 1, 1) := by decide +kernel
theorem d_Model_takeTrace_26 : decode prog_14_method_53_code 26 = .ok (.iload_n 2, 1) := by decide +kernel
theorem d_Model_takeTrace_27 : decode prog_14_method_53_code 27 = .ok (.invokevirtual 207, 3) := by decide +kernel
theorem d_Model_takeTrace_30 : decode prog_14_method_53_code 30 = .ok (.iastore, 1) := by decide +kernel
theorem d_Model_takeTrace_31 : decode prog_14_method_53_code 31 = .ok (.aload_n 0, 1) := by decide +kernel
theorem d_Model_takeTrace_32 : decode prog_14_method_53_code 32 = .ok (.getfield 37, 3) := by decide +kernel
theorem d_Model_takeTrace_35 : decode prog_14_method_53_code 35 = .ok (.iload_n 2, 1) := by decide +kernel
theorem d_Model_takeTrace_36 : decode prog_14_method_53_code 36 = .ok (.aload_n 0, 1) := by decide +kernel
theorem d_Model_takeTrace_37 : decode prog_14_method_53_code 37 = .ok (.iload_n 1, 1) := by decide +kernel
theorem d_Model_takeTrace_38 : decode prog_14_method_53_code 38 = .ok (.iload_n 2, 1) := by decide +kernel
theorem d_Model_takeTrace_39 : decode prog_14_method_53_code 39 = .ok (.invokevirtual 238, 3) := by decide +kernel
theorem d_Model_takeTrace_42 : decode prog_14_method_53_code 42 = .ok (.iastore, 1) := by decide +kernel
theorem d_Model_takeTrace_43 : decode prog_14_method_53_code 43 = .ok (.iinc 2 1, 3) := by decide +kernel
theorem d_Model_takeTrace_46 : decode prog_14_method_53_code 46 = .ok (.goto (-35), 3) := by decide +kernel
theorem d_Model_takeTrace_49 : decode prog_14_method_53_code 49 = .ok (.return_, 1) := by decide +kernel
abbrev m_s1_Model_takeTrace : Room := { frames := 1, cells := 0, slots := 0, locals := 22 }
set_option maxHeartbeats 4000000 in
set_option maxRecDepth 100000 in
theorem s1_Model_takeTrace (l : Launch) (G : zG) (b0 : Nat) (b1 : Int32) (b2 : Int32) (b3 : Nat) (b4 : Nat) (b5 : Nat) (b6 : Nat) (b7 : Int32) (b8 : Nat) (b9 : Int32) (b10 : Int32) (b11 : Int32) (b12 : Int32) (b13 : Nat) (b14 : Nat) (b15 : Nat) (b16 : Int32) (b17 : Nat) (b18 : Nat) (b19 : Nat) (b20 : Nat) (b21 : Nat) (b22 : Nat) (b23 : Nat) (b24 : Nat) (b25 : Nat) (b26 : Nat) (b27 : Nat) (b28 : Nat) (b29 : Int32) (b30 : Nat) (b31 : Nat) (b32 : Int32) (b33 : Int32) (b34 : Int32) (b35 : Int32) (b36 : Nat) (b37 : Nat) (b38 : Nat) (b39 : Nat) (b40 : Nat) (b41 : Nat) (b42 : Nat) (b43 : Int32) (b44 : Nat) (b45 : Nat) (b46 : Int32) (b47 : Nat) (b48 : Nat) (b49 : Nat) (b50 : Nat) (b51 : Nat) (b52 : Int32) (b53 : Nat) (b54 : Nat) (b55 : Nat) (b56 : Nat → Int32) (b57 : Nat → Int32) (b58 : Nat → Int32) (hb1 : zI b1 0 19) (hb7 : zI b7 0 8) (hb9 : zI b9 0 240) (hb10 : zI b10 0 240) (hb12 : zI b12 0 1) (hb16 : zI b16 0 12) (hb29 : zI b29 0 1) (hb32 : zI b32 0 1) (hb43 : zI b43 0 1000) (hb46 : zI b46 0 1000) (hb52 : zI b52 0 400) (hb56 : zW5 b56) (hb57 : zR b57 0 9) : zM l G y_Model_takeTrace prog_14_method_53_code 3 (Option.none : Option Jvm.ClassFile.FieldType) m_s1_Model_takeTrace [.ref b0, .int b1] [(b0, .inr (12, [.int b2, .ref b3, .ref b4, .ref b5, .ref b6, .int b7, .ref b8, .int b9, .int b10, .int b11, .int b12, .ref b13, .ref b14, .ref b15, .int b16, .ref b17, .ref b18, .ref b19, .ref b20, .ref b21, .ref b22, .ref b23, .ref b24, .ref b25, .ref b26, .ref b27, .ref b28, .int b29, .ref b30, .ref b31, .int b32, .int b33, .int b34, .int b35, .ref b36, .ref b37, .ref b38, .ref b39, .ref b40, .ref b41, .ref b42, .int b43, .ref b44, .ref b45, .int b46, .ref b47, .ref b48, .ref b49, .ref b50, .ref b51, .int b52, .ref b53, .ref b54, .ref b55])), (b3, .inl (G.2 0, 503, .inl b56)), (b14, .inl (G.2 0, 12, .inl b57)), (b15, .inl (G.2 0, 12, .inl b58))] (fun v w => ∃ (e0 : Int32), ∃ (e1 : Nat → Int32), ∃ (e2 : Nat → Int32), v = none ∧ w = [(b0, .inr (12, [.int b2, .ref b3, .ref b4, .ref b5, .ref b6, .int b7, .ref b8, .int b9, .int b10, .int b11, .int b12, .ref b13, .ref b14, .ref b15, .int e0, .ref b17, .ref b18, .ref b19, .ref b20, .ref b21, .ref b22, .ref b23, .ref b24, .ref b25, .ref b26, .ref b27, .ref b28, .int b29, .ref b30, .ref b31, .int b32, .int b33, .int b34, .int b35, .ref b36, .ref b37, .ref b38, .ref b39, .ref b40, .ref b41, .ref b42, .int b43, .ref b44, .ref b45, .int b46, .ref b47, .ref b48, .ref b49, .ref b50, .ref b51, .int b52, .ref b53, .ref b54, .ref b55])), (b3, .inl (G.2 0, 503, .inl b56)), (b14, .inl (G.2 0, 12, .inl e1)), (b15, .inl (G.2 0, 12, .inl e2))] ∧ (zI e0 0 12) ∧ (zR e1 0 9)) := by
  refine z_start (by decide +kernel) (Nat.le_of_ble_eq_true rfl) ?_
  intro p e s m below meth c A Z hr hnm hA hP hD hS ls hl
  have Z : zC p s m _ meth c prog_14_method_53_code 3 "TraceMachinesModel" G := Z
  obtain ⟨hx, hb, hml, hown, hts, hK, hN, hlocks⟩ := id Z
  have hl : lv_has ls 3 [(0, .ref b0), (1, .int b1)] := hl
  refine lv_aload_n hx hb d_Model_takeTrace_0 rfl (lv_at hl 0 rfl) ?_
  refine lv_aload_n hx hb d_Model_takeTrace_1 rfl (lv_at hl 0 rfl) ?_
  refine lv_iload_n hx hb d_Model_takeTrace_2 rfl (lv_at hl 1 rfl) ?_
  refine z_callV (index := 203) (As := [.int b1]) (rest := [.ref b0]) (wr := [(b14, .inl (G.2 0, 12, .inl b57)), (b15, .inl (G.2 0, 12, .inl b58))]) Z (s1_Model_calls l G (b0) (b1) (b2) (b3) (b4) (b5) (b6) (b7) (b8) (b9) (b10) (b11) (b12) (b13) (b14) (b15) (b16) (b17) (b18) (b19) (b20) (b21) (b22) (b23) (b24) (b25) (b26) (b27) (b28) (b29) (b30) (b31) (b32) (b33) (b34) (b35) (b36) (b37) (b38) (b39) (b40) (b41) (b42) (b43) (b44) (b45) (b46) (b47) (b48) (b49) (b50) (b51) (b52) (b53) (b54) (b55) (b56) hb1 hb7 hb9 hb10 hb12 hb16 hb29 hb32 hb43 hb46 hb52 hb56) hl.1 q1352 q1354 qs54 q14 q1355 ⟨by decide, by decide, by show _ = some 1; decide +kernel⟩ ⟨Nat.le_of_ble_eq_true rfl, Nat.le_of_ble_eq_true rfl⟩ ⟨Nat.le_of_ble_eq_true rfl, Nat.le_of_ble_eq_true rfl⟩ rfl (Nat.le_of_ble_eq_true rfl) d_Model_takeTrace_3 hP hD hS hA 0 12 rfl rfl rfl [0, 1] [2, 3] rfl rfl rfl rfl (by decide) (fun v w1 H locs hw_1 hP hD hS => ?_)
  obtain ⟨x_2, rfl, rfl, hx_2, hfx_3⟩ := hw_1
  have hP : va_P G.1 classes [(b14, .inl (G.2 0, 12, .inl b57)), (b15, .inl (G.2 0, 12, .inl b58)), (b0, .inr (12, [.int b2, .ref b3, .ref b4, .ref b5, .ref b6, .int b7, .ref b8, .int b9, .int b10, .int b11, .int b12, .ref b13, .ref b14, .ref b15, .int b16, .ref b17, .ref b18, .ref b19, .ref b20, .ref b21, .ref b22, .ref b23, .ref b24, .ref b25, .ref b26, .ref b27, .ref b28, .int b29, .ref b30, .ref b31, .int b32, .int b33, .int b34, .int b35, .ref b36, .ref b37, .ref b38, .ref b39, .ref b40, .ref b41, .ref b42, .int b43, .ref b44, .ref b45, .int b46, .ref b47, .ref b48, .ref b49, .ref b50, .ref b51, .int b52, .ref b53, .ref b54, .ref b55])), (b3, .inl (G.2 0, 503, .inl b56))] H := hP
  have hD := z_tie hP hD rfl
  refine W.widen (k := 0) (n := 0) (Nat.le_of_ble_eq_true rfl) (Nat.le_of_ble_eq_true rfl) ?_
  refine va_put (D := G.1) (ci := 12) (v := .int x_2) (ty := .int) (C := R_Model) (T := F_Model) (N := 54) hx hb hts i_Model t_Model t_Model_ok n_Model hown hK hP hD hS 2 rfl rfl 14 (by decide) (hts _ q1123) (fun _ h9 => h9) rfl (by decide +kernel) rfl rfl (Nat.le_of_ble_eq_true rfl) d_Model_takeTrace_6 (fun H locs hP hD hS => ?_)
  have hP : va_P G.1 classes [(b14, .inl (G.2 0, 12, .inl b57)), (b15, .inl (G.2 0, 12, .inl b58)), (b0, .inr (12, [.int b2, .ref b3, .ref b4, .ref b5, .ref b6, .int b7, .ref b8, .int b9, .int b10, .int b11, .int b12, .ref b13, .ref b14, .ref b15, .int x_2, .ref b17, .ref b18, .ref b19, .ref b20, .ref b21, .ref b22, .ref b23, .ref b24, .ref b25, .ref b26, .ref b27, .ref b28, .int b29, .ref b30, .ref b31, .int b32, .int b33, .int b34, .int b35, .ref b36, .ref b37, .ref b38, .ref b39, .ref b40, .ref b41, .ref b42, .int b43, .ref b44, .ref b45, .int b46, .ref b47, .ref b48, .ref b49, .ref b50, .ref b51, .int b52, .ref b53, .ref b54, .ref b55])), (b3, .inl (G.2 0, 503, .inl b56))] H := hP
  have hD := z_tie hP hD rfl
  refine lv_iconst (v := 0) hx hb d_Model_takeTrace_9 (by decide) ?_
  refine lv_istore_n (lv' := [(2, .int 0), (0, .ref b0), (1, .int b1)]) hx hb d_Model_takeTrace_10 rfl hl (by decide) rfl (fun ls hl => ?_)
  suffices key : ∀ (k_19 : Nat) (y_20 : Int32) (y_21 : Nat → Int32) (y_22 : Nat → Int32) (H : Heap) (locs : List Loc) (ls : Array Slot), (zI y_20 0 12) → (zR y_21 0 9) → (12 : Int) - y_20.toInt < (k_19 : Int) → va_P G.1 classes [(b14, .inl (G.2 0, 12, .inl y_21)), (b15, .inl (G.2 0, 12, .inl y_22)), (b0, .inr (12, [.int b2, .ref b3, .ref b4, .ref b5, .ref b6, .int b7, .ref b8, .int b9, .int b10, .int b11, .int b12, .ref b13, .ref b14, .ref b15, .int x_2, .ref b17, .ref b18, .ref b19, .ref b20, .ref b21, .ref b22, .ref b23, .ref b24, .ref b25, .ref b26, .ref b27, .ref b28, .int b29, .ref b30, .ref b31, .int b32, .int b33, .int b34, .int b35, .ref b36, .ref b37, .ref b38, .ref b39, .ref b40, .ref b41, .ref b42, .int b43, .ref b44, .ref b45, .int b46, .ref b47, .ref b48, .ref b49, .ref b50, .ref b51, .int b52, .ref b53, .ref b54, .ref b55])), (b3, .inl (G.2 0, 503, .inl b56))] H → va_D A [(b14, .inl (G.2 0, 12, .inl y_21)), (b15, .inl (G.2 0, 12, .inl y_22)), (b0, .inr (12, [.int b2, .ref b3, .ref b4, .ref b5, .ref b6, .int b7, .ref b8, .int b9, .int b10, .int b11, .int b12, .ref b13, .ref b14, .ref b15, .int x_2, .ref b17, .ref b18, .ref b19, .ref b20, .ref b21, .ref b22, .ref b23, .ref b24, .ref b25, .ref b26, .ref b27, .ref b28, .int b29, .ref b30, .ref b31, .int b32, .int b33, .int b34, .int b35, .ref b36, .ref b37, .ref b38, .ref b39, .ref b40, .ref b41, .ref b42, .int b43, .ref b44, .ref b45, .int b46, .ref b47, .ref b48, .ref b49, .ref b50, .ref b51, .int b52, .ref b53, .ref b54, .ref b55])), (b3, .inl (G.2 0, 503, .inl b56))] → va_S A s.heap H locs → lv_has ls 3 [(2, .int y_20), (0, .ref b0), (1, .int b1)] → W p l e m_s1_Model_takeTrace s m ([.ref b0, .int b1] : List Value).toArray below meth c H locs 0 0 (MQ below (zQ G (fun v w => ∃ (e0 : Int32), ∃ (e1 : Nat → Int32), ∃ (e2 : Nat → Int32), v = none ∧ w = [(b0, .inr (12, [.int b2, .ref b3, .ref b4, .ref b5, .ref b6, .int b7, .ref b8, .int b9, .int b10, .int b11, .int b12, .ref b13, .ref b14, .ref b15, .int e0, .ref b17, .ref b18, .ref b19, .ref b20, .ref b21, .ref b22, .ref b23, .ref b24, .ref b25, .ref b26, .ref b27, .ref b28, .int b29, .ref b30, .ref b31, .int b32, .int b33, .int b34, .int b35, .ref b36, .ref b37, .ref b38, .ref b39, .ref b40, .ref b41, .ref b42, .int b43, .ref b44, .ref b45, .int b46, .ref b47, .ref b48, .ref b49, .ref b50, .ref b51, .int b52, .ref b53, .ref b54, .ref b55])), (b3, .inl (G.2 0, 503, .inl b56)), (b14, .inl (G.2 0, 12, .inl e1)), (b15, .inl (G.2 0, 12, .inl e2))] ∧ (zI e0 0 12) ∧ (zR e1 0 9)) A) ([.ref b0, .int b1] : List Value).toArray s m_s1_Model_takeTrace.cells m_s1_Model_takeTrace.slots A) (F0 m 11 ls []) by
    exact key 13 (0) (b57) (b58) _ _ _ (zI.wk (l' := 0) (h' := 12) zc_0 (by decide)) hb57 (zm_upi (zI.wk (l' := 0) (h' := 12) zc_0 (by decide)) (by decide)) hP hD hS (lv_sub hl [0, 1, 2] rfl)
  intro k_19
  induction k_19 with
  | zero =>
    intro y_20 y_21 y_22 H locs ls hy_20 hy_21 hmk_19 hP hD hS hl
    exact (zm_up0 hy_20 hmk_19).elim
  | succ k_19 ihk_19 =>
    intro y_20 y_21 y_22 H locs ls hy_20 hy_21 hmk_19 hP hD hS hl
    refine lv_iload_n hx hb d_Model_takeTrace_11 rfl (lv_at hl 0 rfl) ?_
    refine lv_aload_n hx hb d_Model_takeTrace_12 rfl (lv_at hl 1 rfl) ?_
    refine va_get (D := G.1) (ci := 12) (v := .int x_2) (C := R_Model) (T := F_Model) (N := 54) hx hb hts i_Model hown hK hP 2 rfl rfl 14 (by decide) (hts _ q1123) (fun _ h9 => h9) rfl d_Model_takeTrace_13 ?_
    refine lv_icmp_ge (tgt := 49) hx hb d_Model_takeTrace_16 (by decide) (fun hc_23 => ?_) (fun hc_23 => ?_)
    · have _nhc_23 := hc_23
      have ni_24 := (fa_le _ _).mp hc_23
      exact z_vret hx hb hr hlocks (hP.sub [2, 3, 0, 1] rfl) (hD.sub [2, 3, 0, 1] (by decide) rfl) hS (Nat.le_of_ble_eq_true rfl) (Nat.le_of_ble_eq_true rfl) d_Model_takeTrace_49 ⟨x_2, y_21, y_22, rfl, rfl, hx_2, hy_21⟩
    · have _nhc_23 := hc_23
      have ni_25 := (fa_lt _ _).mp (zi_nle hc_23)
      have hv_26 : zI y_20 0 11 := zI.lt_l hy_20 hx_2 (zi_nle hc_23) (by decide)
      have hv_27 : zI x_2 1 12 := zI.lt_r hy_20 hx_2 (zi_nle hc_23) (by decide)
      refine lv_aload_n hx hb d_Model_takeTrace_19 rfl (lv_at hl 1 rfl) ?_
      refine va_get (D := G.1) (ci := 12) (v := .ref b14) (C := R_Model) (T := F_Model) (N := 54) hx hb hts i_Model hown hK hP 2 rfl rfl 12 (by decide) (hts _ q1121) (fun _ h9 => h9) rfl d_Model_takeTrace_20 ?_
      refine lv_iload_n hx hb d_Model_takeTrace_23 rfl (lv_at hl 0 rfl) ?_
      refine lv_aload_n hx hb d_Model_takeTrace_24 rfl (lv_at hl 1 rfl) ?_
      refine lv_iload_n hx hb d_Model_takeTrace_25 rfl (lv_at hl 2 rfl) ?_
      refine lv_iload_n hx hb d_Model_takeTrace_26 rfl (lv_at hl 0 rfl) ?_
      refine z_callV (index := 207) (As := [.int b1, .int y_20]) (rest := [.int y_20, .ref b14]) (wr := [(b14, .inl (G.2 0, 12, .inl y_21)), (b15, .inl (G.2 0, 12, .inl y_22))]) Z (s1_Model_letterAt l G (b0) (b1) (y_20) (b2) (b3) (b4) (b5) (b6) (b7) (b8) (b9) (b10) (b11) (b12) (b13) (b14) (b15) (x_2) (b17) (b18) (b19) (b20) (b21) (b22) (b23) (b24) (b25) (b26) (b27) (b28) (b29) (b30) (b31) (b32) (b33) (b34) (b35) (b36) (b37) (b38) (b39) (b40) (b41) (b42) (b43) (b44) (b45) (b46) (b47) (b48) (b49) (b50) (b51) (b52) (b53) (b54) (b55) (b56) hb1 hv_26 hb7 hb9 hb10 hb12 (zI.wk (l' := 0) (h' := 12) hv_27 (by decide)) hb29 hb32 hb43 hb46 hb52 hb56) hl.1 q1372 q1374 qs59 q14 q1375 ⟨by decide, by decide, by show _ = some 2; decide +kernel⟩ ⟨Nat.le_of_ble_eq_true rfl, Nat.le_of_ble_eq_true rfl⟩ ⟨Nat.le_of_ble_eq_true rfl, Nat.le_of_ble_eq_true rfl⟩ rfl (Nat.le_of_ble_eq_true rfl) d_Model_takeTrace_27 hP hD hS hA 2 12 rfl rfl rfl [2, 3] [0, 1] rfl rfl rfl rfl (by decide) (fun v w1 H locs hw_28 hP hD hS => ?_)
      obtain ⟨x_29, rfl, rfl, hx_29⟩ := hw_28
      have hP : va_P G.1 classes [(b14, .inl (G.2 0, 12, .inl y_21)), (b15, .inl (G.2 0, 12, .inl y_22)), (b0, .inr (12, [.int b2, .ref b3, .ref b4, .ref b5, .ref b6, .int b7, .ref b8, .int b9, .int b10, .int b11, .int b12, .ref b13, .ref b14, .ref b15, .int x_2, .ref b17, .ref b18, .ref b19, .ref b20, .ref b21, .ref b22, .ref b23, .ref b24, .ref b25, .ref b26, .ref b27, .ref b28, .int b29, .ref b30, .ref b31, .int b32, .int b33, .int b34, .int b35, .ref b36, .ref b37, .ref b38, .ref b39, .ref b40, .ref b41, .ref b42, .int b43, .ref b44, .ref b45, .int b46, .ref b47, .ref b48, .ref b49, .ref b50, .ref b51, .int b52, .ref b53, .ref b54, .ref b55])), (b3, .inl (G.2 0, 503, .inl b56))] H := hP
      have hD := z_tie hP hD rfl
      refine W.widen (k := 0) (n := 0) (Nat.le_of_ble_eq_true rfl) (Nat.le_of_ble_eq_true rfl) ?_
      refine va_iast hx hb hK hP hD hS 0 0 rfl rfl (zI.inn hv_26 (by decide)) d_Model_takeTrace_30 (fun H locs hP hD hS => ?_)
      obtain ⟨f_30, hf_30, gf_30, uf_30, hP, hD⟩ := z_newfu 0 hP hD rfl hy_21 hx_29
      have hP : va_P G.1 classes [(b14, .inl (G.2 0, 12, .inl f_30)), (b15, .inl (G.2 0, 12, .inl y_22)), (b0, .inr (12, [.int b2, .ref b3, .ref b4, .ref b5, .ref b6, .int b7, .ref b8, .int b9, .int b10, .int b11, .int b12, .ref b13, .ref b14, .ref b15, .int x_2, .ref b17, .ref b18, .ref b19, .ref b20, .ref b21, .ref b22, .ref b23, .ref b24, .ref b25, .ref b26, .ref b27, .ref b28, .int b29, .ref b30, .ref b31, .int b32, .int b33, .int b34, .int b35, .ref b36, .ref b37, .ref b38, .ref b39, .ref b40, .ref b41, .ref b42, .int b43, .ref b44, .ref b45, .int b46, .ref b47, .ref b48, .ref b49, .ref b50, .ref b51, .int b52, .ref b53, .ref b54, .ref b55])), (b3, .inl (G.2 0, 503, .inl b56))] H := hP
      have hD := z_tie hP hD rfl
      refine lv_aload_n hx hb d_Model_takeTrace_31 rfl (lv_at hl 1 rfl) ?_
      refine va_get (D := G.1) (ci := 12) (v := .ref b15) (C := R_Model) (T := F_Model) (N := 54) hx hb hts i_Model hown hK hP 2 rfl rfl 13 (by decide) (hts _ q1122) (fun _ h9 => h9) rfl d_Model_takeTrace_32 ?_
      refine lv_iload_n hx hb d_Model_takeTrace_35 rfl (lv_at hl 0 rfl) ?_
      refine lv_aload_n hx hb d_Model_takeTrace_36 rfl (lv_at hl 1 rfl) ?_
      refine lv_iload_n hx hb d_Model_takeTrace_37 rfl (lv_at hl 2 rfl) ?_
      refine lv_iload_n hx hb d_Model_takeTrace_38 rfl (lv_at hl 0 rfl) ?_
      refine z_callV (index := 238) (As := [.int b1, .int y_20]) (rest := [.int y_20, .ref b15]) (wr := [(b14, .inl (G.2 0, 12, .inl f_30)), (b15, .inl (G.2 0, 12, .inl y_22))]) Z (s1_Model_valueAt l G (b0) (b1) (y_20) (b2) (b3) (b4) (b5) (b6) (b7) (b8) (b9) (b10) (b11) (b12) (b13) (b14) (b15) (x_2) (b17) (b18) (b19) (b20) (b21) (b22) (b23) (b24) (b25) (b26) (b27) (b28) (b29) (b30) (b31) (b32) (b33) (b34) (b35) (b36) (b37) (b38) (b39) (b40) (b41) (b42) (b43) (b44) (b45) (b46) (b47) (b48) (b49) (b50) (b51) (b52) (b53) (b54) (b55) (b56) hb1 hv_26 hb7 hb9 hb10 hb12 (zI.wk (l' := 0) (h' := 12) hv_27 (by decide)) hb29 hb32 hb43 hb46 hb52 hb56) hl.1 q1412 q1414 qs69 q14 q1415 ⟨by decide, by decide, by show _ = some 2; decide +kernel⟩ ⟨Nat.le_of_ble_eq_true rfl, Nat.le_of_ble_eq_true rfl⟩ ⟨Nat.le_of_ble_eq_true rfl, Nat.le_of_ble_eq_true rfl⟩ rfl (Nat.le_of_ble_eq_true rfl) d_Model_takeTrace_39 hP hD hS hA 2 12 rfl rfl rfl [2, 3] [0, 1] rfl rfl rfl rfl (by decide) (fun v w1 H locs hw_31 hP hD hS => ?_)
      obtain ⟨x_32, rfl, rfl⟩ := hw_31
      have hP : va_P G.1 classes [(b14, .inl (G.2 0, 12, .inl f_30)), (b15, .inl (G.2 0, 12, .inl y_22)), (b0, .inr (12, [.int b2, .ref b3, .ref b4, .ref b5, .ref b6, .int b7, .ref b8, .int b9, .int b10, .int b11, .int b12, .ref b13, .ref b14, .ref b15, .int x_2, .ref b17, .ref b18, .ref b19, .ref b20, .ref b21, .ref b22, .ref b23, .ref b24, .ref b25, .ref b26, .ref b27, .ref b28, .int b29, .ref b30, .ref b31, .int b32, .int b33, .int b34, .int b35, .ref b36, .ref b37, .ref b38, .ref b39, .ref b40, .ref b41, .ref b42, .int b43, .ref b44, .ref b45, .int b46, .ref b47, .ref b48, .ref b49, .ref b50, .ref b51, .int b52, .ref b53, .ref b54, .ref b55])), (b3, .inl (G.2 0, 503, .inl b56))] H := hP
      have hD := z_tie hP hD rfl
      refine W.widen (k := 0) (n := 0) (Nat.le_of_ble_eq_true rfl) (Nat.le_of_ble_eq_true rfl) ?_
      refine va_iast hx hb hK hP hD hS 1 0 rfl rfl (zI.inn hv_26 (by decide)) d_Model_takeTrace_42 (fun H locs hP hD hS => ?_)
      obtain ⟨f_33, gf_33, uf_33, hP, hD⟩ := z_newFu 1 hP hD rfl
      have hP : va_P G.1 classes [(b14, .inl (G.2 0, 12, .inl f_30)), (b15, .inl (G.2 0, 12, .inl f_33)), (b0, .inr (12, [.int b2, .ref b3, .ref b4, .ref b5, .ref b6, .int b7, .ref b8, .int b9, .int b10, .int b11, .int b12, .ref b13, .ref b14, .ref b15, .int x_2, .ref b17, .ref b18, .ref b19, .ref b20, .ref b21, .ref b22, .ref b23, .ref b24, .ref b25, .ref b26, .ref b27, .ref b28, .int b29, .ref b30, .ref b31, .int b32, .int b33, .int b34, .int b35, .ref b36, .ref b37, .ref b38, .ref b39, .ref b40, .ref b41, .ref b42, .int b43, .ref b44, .ref b45, .int b46, .ref b47, .ref b48, .ref b49, .ref b50, .ref b51, .int b52, .ref b53, .ref b54, .ref b55])), (b3, .inl (G.2 0, 503, .inl b56))] H := hP
      have hD := z_tie hP hD rfl
      obtain ⟨v_34, ev_34⟩ : ∃ z : Int32, z = y_20 + 1 := ⟨_, rfl⟩
      obtain ⟨qv_34, hv_34⟩ := zI_add (l := 1) (h := 12) hv_26 zc_1 ev_34 (by decide)
      rw [li_1] at qv_34
      refine lv_iinc (v := v_34) (lv' := [(2, .int v_34), (0, .ref b0), (1, .int b1)]) hx hb d_Model_takeTrace_43 hl (k := 0) rfl (by rw [ev_34]; rfl) (by decide) rfl (fun ls hl => ?_)
      refine lv_goto (tgt := 11) hx hb d_Model_takeTrace_46 (by decide) ?_
      exact ihk_19 (v_34) (f_30) (f_33) _ _ _ (zI.wk (l' := 0) (h' := 12) hv_34 (by decide)) hf_30 (zm_up qv_34 hmk_19 (by decide)) hP hD hS (lv_sub hl [0, 1, 2] rfl)
theorem d_Model_isAhead_0 : decode prog_14_method_83_code 0 = .ok (.aload_n 0, 1) := by decide +kernel
theorem d_Model_isAhead_1 : decode prog_14_method_83_code 1 = .ok (.getfield 128, 3) := by decide +kernel
theorem d_Model_isAhead_4 : decode prog_14_method_83_code 4 = .ok (.iload_n 1, 1) := by decide +kernel
theorem d_Model_isAhead_5 : decode prog_14_method_83_code 5 = .ok (.iaload, 1) := by decide +kernel
theorem d_Model_isAhead_6 : decode prog_14_method_83_code 6 = .ok (.aload_n 0, 1) := by decide +kernel
theorem d_Model_isAhead_7 : decode prog_14_method_83_code 7 = .ok (.getfield 128, 3) := by decide +kernel
theorem d_Model_isAhead_10 : decode prog_14_method_83_code 10 = .ok (.iload_n 2, 1) := by decide +kernel
theorem d_Model_isAhead_11 : decode prog_14_method_83_code 11 = .ok (.iaload, 1) := by decide +kernel
theorem d_Model_isAhead_12 : decode prog_14_method_83_code 12 = .ok (.if_icmp .eq 24, 3) := by decide +kernel
theorem d_Model_isAhead_15 : decode prog_14_method_83_code 15 = .ok (.aload_n 0, 1) := by decide +kernel
theorem d_Model_isAhead_16 : decode prog_14_method_83_code 16 = .ok (.getfield 128, 3) := by decide +kernel
theorem d_Model_isAhead_19 : decode prog_14_method_83_code 19 = .ok (.iload_n 1, 1) := by decide +kernel
theorem d_Model_isAhead_20 : decode prog_14_method_83_code 20 = .ok (.iaload, 1) := by decide +kernel
theorem d_Model_isAhead_21 : decode prog_14_method_83_code 21 = .ok (.aload_n 0, 1) := by decide +kernel
theorem d_Model_isAhead_22 : decode prog_14_method_83_code 22 = .ok (.getfield 128, 3) := by decide +kernel
theorem d_Model_isAhead_25 : decode prog_14_method_83_code 25 = .ok (.iload_n 2, 1) := by decide +kernel
theorem d_Model_isAhead_26 : decode prog_14_method_83_code 26 = .ok (.iaload, 1) := by decide +kernel
theorem d_Model_isAhead_27 : decode prog_14_method_83_code 27 = .ok (.if_icmp .ge 7, 3) := by decide +kernel
theorem d_Model_isAhead_30 : decode prog_14_method_83_code 30 = .ok (.iconst 1, 1) := by decide +kernel
theorem d_Model_isAhead_31 : decode prog_14_method_83_code 31 = .ok (.goto 4, 3) := by decide +kernel
theorem d_Model_isAhead_34 : decode prog_14_method_83_code 34 = .ok (.iconst 0, 1) := by decide +kernel
theorem d_Model_isAhead_35 : decode prog_14_method_83_code 35 = .ok (.ireturn, 1) := by decide +kernel
theorem d_Model_isAhead_36 : decode prog_14_method_83_code 36 = .ok (.aload_n 0, 1) := by decide +kernel
theorem d_Model_isAhead_37 : decode prog_14_method_83_code 37 = .ok (.getfield 131, 3) := by decide +kernel
theorem d_Model_isAhead_40 : decode prog_14_method_83_code 40 = .ok (.iload_n 1, 1) := by decide +kernel
theorem d_Model_isAhead_41 : decode prog_14_method_83_code 41 = .ok (.iaload, 1) := by decide +kernel
theorem d_Model_isAhead_42 : decode prog_14_method_83_code 42 = .ok (.aload_n 0, 1) := by decide +kernel
theorem d_Model_isAhead_43 : decode prog_14_method_83_code 43 = .ok (.getfield 131, 3) := by decide +kernel
theorem d_Model_isAhead_46 : decode prog_14_method_83_code 46 = .ok (.iload_n 2, 1) := by decide +kernel
theorem d_Model_isAhead_47 : decode prog_14_method_83_code 47 = .ok (.iaload, 1) := by decide +kernel
theorem d_Model_isAhead_48 : decode prog_14_method_83_code 48 = .ok (.if_icmp .eq 26, 3) := by decide +kernel
theorem d_Model_isAhead_51 : decode prog_14_method_83_code 51 = .ok (.aload_n 0, 1) := by decide +kernel
theorem d_Model_isAhead_52 : decode prog_14_method_83_code 52 = .ok (.getfield 131, 3) := by decide +kernel
theorem d_Model_isAhead_55 : decode prog_14_method_83_code 55 = .ok (.iload_n 1, 1) := by decide +kernel
theorem d_Model_isAhead_56 : decode prog_14_method_83_code 56 = .ok (.iaload, 1) := by decide +kernel
theorem d_Model_isAhead_57 : decode prog_14_method_83_code 57 = .ok (.aload_n 0, 1) := by decide +kernel
theorem d_Model_isAhead_58 : decode prog_14_method_83_code 58 = .ok (.getfield 131, 3) := by decide +kernel
theorem d_Model_isAhead_61 : decode prog_14_method_83_code 61 = .ok (.iload_n 2, 1) := by decide +kernel
theorem d_Model_isAhead_62 : decode prog_14_method_83_code 62 = .ok (.iaload, 1) := by decide +kernel
theorem d_Model_isAhead_63 : decode prog_14_method_83_code 63 = .ok (.if_icmp .le 7, 3) := by decide +kernel
theorem d_Model_isAhead_66 : decode prog_14_method_83_code 66 = .ok (.iconst 1, 1) := by decide +kernel
theorem d_Model_isAhead_67 : decode prog_14_method_83_code 67 = .ok (.goto 17, 3) := by decide +kernel
theorem d_Model_isAhead_70 : decode prog_14_method_83_code 70 = .ok (.iconst 0, 1) := by decide +kernel
theorem d_Model_isAhead_71 : decode prog_14_method_83_code 71 = .ok (.goto 13, 3) := by decide +kernel
theorem d_Model_isAhead_74 : decode prog_14_method_83_code 74 = .ok (.iload_n 1, 1) := by decide +kernel
theorem d_Model_isAhead_75 : decode prog_14_method_83_code 75 = .ok (.iload_n 2, 1) := by decide +kernel
theorem d_Model_isAhead_76 : decode prog_14_method_83_code 76 = .ok (.if_icmp .ge 7, 3) := by decide +kernel
theorem d_Model_isAhead_79 : decode prog_14_method_83_code 79 = .ok (.iconst 1, 1) := by decide +kernel
theorem d_Model_isAhead_80 : decode prog_14_method_83_code 80 = .ok (.goto 4, 3) := by decide +kernel
theorem d_Model_isAhead_83 : decode prog_14_method_83_code 83 = .ok (.iconst 0, 1) := by decide +kernel
theorem d_Model_isAhead_84 : decode prog_14_method_83_code 84 = .ok (.ireturn, 1) := by decide +kernel
abbrev m_s1_Model_isAhead : Room := { frames := 0, cells := 0, slots := 0, locals := 0 }
set_option maxHeartbeats 4000000 in
set_option maxRecDepth 100000 in
theorem s1_Model_isAhead (l : Launch) (G : zG) (b0 : Nat) (b1 : Int32) (b2 : Int32) (b3 : Int32) (b4 : Nat) (b5 : Nat) (b6 : Nat) (b7 : Nat) (b8 : Int32) (b9 : Nat) (b10 : Int32) (b11 : Int32) (b12 : Int32) (b13 : Int32) (b14 : Nat) (b15 : Nat) (b16 : Nat) (b17 : Int32) (b18 : Nat) (b19 : Nat) (b20 : Nat) (b21 : Nat) (b22 : Nat) (b23 : Nat) (b24 : Nat) (b25 : Nat) (b26 : Nat) (b27 : Nat) (b28 : Nat) (b29 : Nat) (b30 : Int32) (b31 : Nat) (b32 : Nat) (b33 : Int32) (b34 : Int32) (b35 : Int32) (b36 : Int32) (b37 : Nat) (b38 : Nat) (b39 : Nat) (b40 : Nat) (b41 : Nat) (b42 : Nat) (b43 : Nat) (b44 : Int32) (b45 : Nat) (b46 : Nat) (b47 : Int32) (b48 : Nat) (b49 : Nat) (b50 : Nat) (b51 : Nat) (b52 : Nat) (b53 : Int32) (b54 : Nat) (b55 : Nat) (b56 : Nat) (b57 : Nat → Int32) (b58 : Nat → Int32) (hb1 : zI b1 0 19) (hb2 : zI b2 0 19) (hb8 : zI b8 0 8) (hb10 : zI b10 0 240) (hb11 : zI b11 0 240) (hb13 : zI b13 0 1) (hb17 : zI b17 0 12) (hb30 : zI b30 0 1) (hb33 : zI b33 0 1) (hb44 : zI b44 0 1000) (hb47 : zI b47 0 1000) (hb53 : zI b53 0 400) : zM l G y_Model_isAhead prog_14_method_83_code 3 (Option.some Jvm.ClassFile.FieldType.boolean) m_s1_Model_isAhead [.ref b0, .int b1, .int b2] [(b0, .inr (12, [.int b3, .ref b4, .ref b5, .ref b6, .ref b7, .int b8, .ref b9, .int b10, .int b11, .int b12, .int b13, .ref b14, .ref b15, .ref b16, .int b17, .ref b18, .ref b19, .ref b20, .ref b21, .ref b22, .ref b23, .ref b24, .ref b25, .ref b26, .ref b27, .ref b28, .ref b29, .int b30, .ref b31, .ref b32, .int b33, .int b34, .int b35, .int b36, .ref b37, .ref b38, .ref b39, .ref b40, .ref b41, .ref b42, .ref b43, .int b44, .ref b45, .ref b46, .int b47, .ref b48, .ref b49, .ref b50, .ref b51, .ref b52, .int b53, .ref b54, .ref b55, .ref b56])), (b55, .inl (G.2 0, 20, .inl b57)), (b56, .inl (G.2 0, 20, .inl b58))] (fun v w => ∃ (e0 : Int32), v = some (.int e0) ∧ w = [(b0, .inr (12, [.int b3, .ref b4, .ref b5, .ref b6, .ref b7, .int b8, .ref b9, .int b10, .int b11, .int b12, .int b13, .ref b14, .ref b15, .ref b16, .int b17, .ref b18, .ref b19, .ref b20, .ref b21, .ref b22, .ref b23, .ref b24, .ref b25, .ref b26, .ref b27, .ref b28, .ref b29, .int b30, .ref b31, .ref b32, .int b33, .int b34, .int b35, .int b36, .ref b37, .ref b38, .ref b39, .ref b40, .ref b41, .ref b42, .ref b43, .int b44, .ref b45, .ref b46, .int b47, .ref b48, .ref b49, .ref b50, .ref b51, .ref b52, .int b53, .ref b54, .ref b55, .ref b56])), (b55, .inl (G.2 0, 20, .inl b57)), (b56, .inl (G.2 0, 20, .inl b58))] ∧ (zI e0 0 1)) := by
  refine z_start (by decide +kernel) (Nat.le_of_ble_eq_true rfl) ?_
  intro p e s m below meth c A Z hr hnm hA hP hD hS ls hl
  have Z : zC p s m _ meth c prog_14_method_83_code 3 "TraceMachinesModel" G := Z
  obtain ⟨hx, hb, hml, hown, hts, hK, hN, hlocks⟩ := id Z
  have hl : lv_has ls 3 [(0, .ref b0), (1, .int b1), (2, .int b2)] := hl
  refine lv_aload_n hx hb d_Model_isAhead_0 rfl (lv_at hl 0 rfl) ?_
  refine va_get (D := G.1) (ci := 12) (v := .ref b55) (C := R_Model) (T := F_Model) (N := 54) hx hb hts i_Model hown hK hP 0 rfl rfl 52 (by decide) (hts _ q1161) (fun _ h9 => h9) rfl d_Model_isAhead_1 ?_
  refine lv_iload_n hx hb d_Model_isAhead_4 rfl (lv_at hl 1 rfl) ?_
  refine va_iald hx hb hK hP 1 0 rfl rfl (zI.inn hb1 (by decide)) d_Model_isAhead_5 ?_
  refine lv_topi (fun v_1 ev_1 => ?_)
  refine lv_aload_n hx hb d_Model_isAhead_6 rfl (lv_at hl 0 rfl) ?_
  refine va_get (D := G.1) (ci := 12) (v := .ref b55) (C := R_Model) (T := F_Model) (N := 54) hx hb hts i_Model hown hK hP 0 rfl rfl 52 (by decide) (hts _ q1161) (fun _ h9 => h9) rfl d_Model_isAhead_7 ?_
  refine lv_iload_n hx hb d_Model_isAhead_10 rfl (lv_at hl 2 rfl) ?_
  refine va_iald hx hb hK hP 1 0 rfl rfl (zI.inn hb2 (by decide)) d_Model_isAhead_11 ?_
  refine lv_topi (fun v_2 ev_2 => ?_)
  refine lv_icmp_eq (tgt := 36) hx hb d_Model_isAhead_12 (by decide) (fun hc_3 => ?_) (fun hc_3 => ?_)
  · have _nhc_3 := hc_3
    have ni_4 := (fa_eq _ _).mp hc_3
    refine lv_aload_n hx hb d_Model_isAhead_36 rfl (lv_at hl 0 rfl) ?_
    refine va_get (D := G.1) (ci := 12) (v := .ref b56) (C := R_Model) (T := F_Model) (N := 54) hx hb hts i_Model hown hK hP 0 rfl rfl 53 (by decide) (hts _ q1162) (fun _ h9 => h9) rfl d_Model_isAhead_37 ?_
    refine lv_iload_n hx hb d_Model_isAhead_40 rfl (lv_at hl 1 rfl) ?_
    refine va_iald hx hb hK hP 2 0 rfl rfl (zI.inn hb1 (by decide)) d_Model_isAhead_41 ?_
    refine lv_topi (fun v_5 ev_5 => ?_)
    refine lv_aload_n hx hb d_Model_isAhead_42 rfl (lv_at hl 0 rfl) ?_
    refine va_get (D := G.1) (ci := 12) (v := .ref b56) (C := R_Model) (T := F_Model) (N := 54) hx hb hts i_Model hown hK hP 0 rfl rfl 53 (by decide) (hts _ q1162) (fun _ h9 => h9) rfl d_Model_isAhead_43 ?_
    refine lv_iload_n hx hb d_Model_isAhead_46 rfl (lv_at hl 2 rfl) ?_
    refine va_iald hx hb hK hP 2 0 rfl rfl (zI.inn hb2 (by decide)) d_Model_isAhead_47 ?_
    refine lv_topi (fun v_6 ev_6 => ?_)
    refine lv_icmp_eq (tgt := 74) hx hb d_Model_isAhead_48 (by decide) (fun hc_7 => ?_) (fun hc_7 => ?_)
    · have _nhc_7 := hc_7
      have ni_8 := (fa_eq _ _).mp hc_7
      refine lv_iload_n hx hb d_Model_isAhead_74 rfl (lv_at hl 1 rfl) ?_
      refine lv_iload_n hx hb d_Model_isAhead_75 rfl (lv_at hl 2 rfl) ?_
      refine lv_icmp_ge (tgt := 83) hx hb d_Model_isAhead_76 (by decide) (fun hc_9 => ?_) (fun hc_9 => ?_)
      · have _nhc_9 := hc_9
        have ni_10 := (fa_le _ _).mp hc_9
        refine lv_iconst (v := 0) hx hb d_Model_isAhead_83 (by decide) ?_
        exact z_zret hx hb hr hlocks rfl hP hD hS (Nat.le_of_ble_eq_true rfl) (Nat.le_of_ble_eq_true rfl) d_Model_isAhead_84 ⟨0, rfl, rfl, (zI.wk (l' := 0) (h' := 1) zc_0 (by decide))⟩
      · have _nhc_9 := hc_9
        have ni_11 := (fa_lt _ _).mp (zi_nle hc_9)
        have hv_12 : zI b1 0 18 := zI.lt_l hb1 hb2 (zi_nle hc_9) (by decide)
        have hv_13 : zI b2 1 19 := zI.lt_r hb1 hb2 (zi_nle hc_9) (by decide)
        refine lv_iconst (v := 1) hx hb d_Model_isAhead_79 (by decide) ?_
        refine lv_goto (tgt := 84) hx hb d_Model_isAhead_80 (by decide) ?_
        exact z_zret hx hb hr hlocks rfl hP hD hS (Nat.le_of_ble_eq_true rfl) (Nat.le_of_ble_eq_true rfl) d_Model_isAhead_84 ⟨1, rfl, rfl, (zI.wk (l' := 0) (h' := 1) zc_1 (by decide))⟩
    · have _nhc_7 := hc_7
      have ni_14 : ¬ (v_5 : Int32).toInt = (v_6 : Int32).toInt := fun z => hc_7 ((fa_eq _ _).mpr z)
      refine lv_aload_n hx hb d_Model_isAhead_51 rfl (lv_at hl 0 rfl) ?_
      refine va_get (D := G.1) (ci := 12) (v := .ref b56) (C := R_Model) (T := F_Model) (N := 54) hx hb hts i_Model hown hK hP 0 rfl rfl 53 (by decide) (hts _ q1162) (fun _ h9 => h9) rfl d_Model_isAhead_52 ?_
      refine lv_iload_n hx hb d_Model_isAhead_55 rfl (lv_at hl 1 rfl) ?_
      refine va_iald hx hb hK hP 2 0 rfl rfl (zI.inn hb1 (by decide)) d_Model_isAhead_56 ?_
      refine lv_topi (fun v_15 ev_15 => ?_)
      obtain rfl : v_5 = v_15 := ev_5.trans ev_15.symm
      refine lv_aload_n hx hb d_Model_isAhead_57 rfl (lv_at hl 0 rfl) ?_
      refine va_get (D := G.1) (ci := 12) (v := .ref b56) (C := R_Model) (T := F_Model) (N := 54) hx hb hts i_Model hown hK hP 0 rfl rfl 53 (by decide) (hts _ q1162) (fun _ h9 => h9) rfl d_Model_isAhead_58 ?_
      refine lv_iload_n hx hb d_Model_isAhead_61 rfl (lv_at hl 2 rfl) ?_
      refine va_iald hx hb hK hP 2 0 rfl rfl (zI.inn hb2 (by decide)) d_Model_isAhead_62 ?_
      refine lv_topi (fun v_16 ev_16 => ?_)
      obtain rfl : v_6 = v_16 := ev_6.trans ev_16.symm
      refine lv_icmp_le (tgt := 70) hx hb d_Model_isAhead_63 (by decide) (fun hc_17 => ?_) (fun hc_17 => ?_)
      · have _nhc_17 := hc_17
        have ni_18 := (fa_le _ _).mp hc_17
        refine lv_iconst (v := 0) hx hb d_Model_isAhead_70 (by decide) ?_
        refine lv_goto (tgt := 84) hx hb d_Model_isAhead_71 (by decide) ?_
        exact z_zret hx hb hr hlocks rfl hP hD hS (Nat.le_of_ble_eq_true rfl) (Nat.le_of_ble_eq_true rfl) d_Model_isAhead_84 ⟨0, rfl, rfl, (zI.wk (l' := 0) (h' := 1) zc_0 (by decide))⟩
      · have _nhc_17 := hc_17
        have ni_19 := (fa_lt _ _).mp (zi_nle hc_17)
        have hv_20 : zI v_6 (-2147483648) 2147483646 := zI.lt_l (zI_all v_6) (zI_all v_5) (zi_nle hc_17) (by decide)
        have hv_21 : zI v_5 (-2147483647) 2147483647 := zI.lt_r (zI_all v_6) (zI_all v_5) (zi_nle hc_17) (by decide)
        refine lv_iconst (v := 1) hx hb d_Model_isAhead_66 (by decide) ?_
        refine lv_goto (tgt := 84) hx hb d_Model_isAhead_67 (by decide) ?_
        exact z_zret hx hb hr hlocks rfl hP hD hS (Nat.le_of_ble_eq_true rfl) (Nat.le_of_ble_eq_true rfl) d_Model_isAhead_84 ⟨1, rfl, rfl, (zI.wk (l' := 0) (h' := 1) zc_1 (by decide))⟩
  · have _nhc_3 := hc_3
    have ni_22 : ¬ (v_1 : Int32).toInt = (v_2 : Int32).toInt := fun z => hc_3 ((fa_eq _ _).mpr z)
    refine lv_aload_n hx hb d_Model_isAhead_15 rfl (lv_at hl 0 rfl) ?_
    refine va_get (D := G.1) (ci := 12) (v := .ref b55) (C := R_Model) (T := F_Model) (N := 54) hx hb hts i_Model hown hK hP 0 rfl rfl 52 (by decide) (hts _ q1161) (fun _ h9 => h9) rfl d_Model_isAhead_16 ?_
    refine lv_iload_n hx hb d_Model_isAhead_19 rfl (lv_at hl 1 rfl) ?_
    refine va_iald hx hb hK hP 1 0 rfl rfl (zI.inn hb1 (by decide)) d_Model_isAhead_20 ?_
    refine lv_topi (fun v_23 ev_23 => ?_)
    obtain rfl : v_1 = v_23 := ev_1.trans ev_23.symm
    refine lv_aload_n hx hb d_Model_isAhead_21 rfl (lv_at hl 0 rfl) ?_
    refine va_get (D := G.1) (ci := 12) (v := .ref b55) (C := R_Model) (T := F_Model) (N := 54) hx hb hts i_Model hown hK hP 0 rfl rfl 52 (by decide) (hts _ q1161) (fun _ h9 => h9) rfl d_Model_isAhead_22 ?_
    refine lv_iload_n hx hb d_Model_isAhead_25 rfl (lv_at hl 2 rfl) ?_
    refine va_iald hx hb hK hP 1 0 rfl rfl (zI.inn hb2 (by decide)) d_Model_isAhead_26 ?_
    refine lv_topi (fun v_24 ev_24 => ?_)
    obtain rfl : v_2 = v_24 := ev_2.trans ev_24.symm
    refine lv_icmp_ge (tgt := 34) hx hb d_Model_isAhead_27 (by decide) (fun hc_25 => ?_) (fun hc_25 => ?_)
    · have _nhc_25 := hc_25
      have ni_26 := (fa_le _ _).mp hc_25
      refine lv_iconst (v := 0) hx hb d_Model_isAhead_34 (by decide) ?_
      exact z_zret hx hb hr hlocks rfl hP hD hS (Nat.le_of_ble_eq_true rfl) (Nat.le_of_ble_eq_true rfl) d_Model_isAhead_35 ⟨0, rfl, rfl, (zI.wk (l' := 0) (h' := 1) zc_0 (by decide))⟩
    · have _nhc_25 := hc_25
      have ni_27 := (fa_lt _ _).mp (zi_nle hc_25)
      have hv_28 : zI v_1 (-2147483648) 2147483646 := zI.lt_l (zI_all v_1) (zI_all v_2) (zi_nle hc_25) (by decide)
      have hv_29 : zI v_2 (-2147483647) 2147483647 := zI.lt_r (zI_all v_1) (zI_all v_2) (zi_nle hc_25) (by decide)
      refine lv_iconst (v := 1) hx hb d_Model_isAhead_30 (by decide) ?_
      refine lv_goto (tgt := 35) hx hb d_Model_isAhead_31 (by decide) ?_
      exact z_zret hx hb hr hlocks rfl hP hD hS (Nat.le_of_ble_eq_true rfl) (Nat.le_of_ble_eq_true rfl) d_Model_isAhead_35 ⟨1, rfl, rfl, (zI.wk (l' := 0) (h' := 1) zc_1 (by decide))⟩
theorem d_Model_placeAmong_0 : decode prog_14_method_84_code 0 = .ok (.iconst 0, 1) := by decide +kernel
theorem d_Model_placeAmong_1 : decode prog_14_method_84_code 1 = .ok (.istore_n 2, 1) := by decide +kernel
theorem d_Model_placeAmong_2 : decode prog_14_method_84_code 2 = .ok (.iconst 0, 1) := by decide +kernel
theorem d_Model_placeAmong_3 : decode prog_14_method_84_code 3 = .ok (.istore_n 3, 1) := by decide +kernel
theorem d_Model_placeAmong_4 : decode prog_14_method_84_code 4 = .ok (.iload_n 3, 1) := by decide +kernel
theorem d_Model_placeAmong_5 : decode prog_14_method_84_code 5 = .ok (.aload_n 0, 1) := by decide +kernel
theorem d_Model_placeAmong_6 : decode prog_14_method_84_code 6 = .ok (.invokevirtual 134, 3) := by decide +kernel
theorem d_Model_placeAmong_9 : decode prog_14_method_84_code 9 = .ok (.if_icmp .ge 31, 3) := by decide +kernel
theorem d_Model_placeAmong_12 : decode prog_14_method_84_code 12 = .ok (.iload_n 2, 1) := by decide +kernel
theorem d_Model_placeAmong_13 : decode prog_14_method_84_code 13 = .ok (.iload_n 3, 1) := by decide +kernel
theorem d_Model_placeAmong_14 : decode prog_14_method_84_code 14 = .ok (.iload_n 1, 1) := by decide +kernel
theorem d_Model_placeAmong_15 : decode prog_14_method_84_code 15 = .ok (.if_icmp .eq 16, 3) := by decide +kernel
theorem d_Model_placeAmong_18 : decode prog_14_method_84_code 18 = .ok (.aload_n 0, 1) := by decide +kernel
theorem d_Model_placeAmong_19 : decode prog_14_method_84_code 19 = .ok (.iload_n 3, 1) := by decide +kernel
theorem d_Model_placeAmong_20 : decode prog_14_method_84_code 20 = .ok (.iload_n 1, 1) := by decide +kernel
theorem d_Model_placeAmong_21 : decode prog_14_method_84_code 21 = .ok (.invokevirtual 400, 3) := by decide +kernel
theorem d_Model_placeAmong_24 : decode prog_14_method_84_code 24 = .ok (.ifCond .eq 7, 3) := by decide +kernel
theorem d_Model_placeAmong_27 : decode prog_14_method_84_code 27 = .ok (.iconst 1, 1) := by decide +kernel
theorem d_Model_placeAmong_28 : decode prog_14_method_84_code 28 = .ok (.goto 4, 3) := by decide +kernel
theorem d_Model_placeAmong_31 : decode prog_14_method_84_code 31 = .ok (.iconst 0, 1) := by decide +kernel
theorem d_Model_placeAmong_32 : decode prog_14_method_84_code 32 = .ok (.iadd, 1) := by decide +kernel
theorem d_Model_placeAmong_33 : decode prog_14_method_84_code 33 = .ok (.istore_n 2, 1) := by decide +kernel
theorem d_Model_placeAmong_34 : decode prog_14_method_84_code 34 = .ok (.iinc 3 1, 3) := by decide +kernel
theorem d_Model_placeAmong_37 : decode prog_14_method_84_code 37 = .ok (.goto (-33), 3) := by decide +kernel
theorem d_Model_placeAmong_40 : decode prog_14_method_84_code 40 = .ok (.iload_n 2, 1) := by decide +kernel
theorem d_Model_placeAmong_41 : decode prog_14_method_84_code 41 = .ok (.ireturn, 1) := by decide +kernel
abbrev m_s1_Model_placeAmong : Room := { frames := 1, cells := 0, slots := 0, locals := 22 }
set_option maxHeartbeats 4000000 in
set_option maxRecDepth 100000 in
theorem s1_Model_placeAmong (l : Launch) (G : zG) (b0 : Nat) (b1 : Int32) (b2 : Int32) (b3 : Nat) (b4 : Nat) (b5 : Nat) (b6 : Nat) (b7 : Int32) (b8 : Nat) (b9 : Int32) (b10 : Int32) (b11 : Int32) (b12 : Int32) (b13 : Nat) (b14 : Nat) (b15 : Nat) (b16 : Int32) (b17 : Nat) (b18 : Nat) (b19 : Nat) (b20 : Nat) (b21 : Nat) (b22 : Nat) (b23 : Nat) (b24 : Nat) (b25 : Nat) (b26 : Nat) (b27 : Nat) (b28 : Nat) (b29 : Int32) (b30 : Nat) (b31 : Nat) (b32 : Int32) (b33 : Int32) (b34 : Int32) (b35 : Int32) (b36 : Nat) (b37 : Nat) (b38 : Nat) (b39 : Nat) (b40 : Nat) (b41 : Nat) (b42 : Nat) (b43 : Int32) (b44 : Nat) (b45 : Nat) (b46 : Int32) (b47 : Nat) (b48 : Nat) (b49 : Nat) (b50 : Nat) (b51 : Nat) (b52 : Int32) (b53 : Nat) (b54 : Nat) (b55 : Nat) (b56 : Nat → Int32) (b57 : Nat → Int32) (b58 : Nat → Int32) (hb1 : zI b1 0 19) (hb7 : zI b7 0 8) (hb9 : zI b9 0 240) (hb10 : zI b10 0 240) (hb12 : zI b12 0 1) (hb16 : zI b16 0 12) (hb29 : zI b29 0 1) (hb32 : zI b32 0 1) (hb43 : zI b43 0 1000) (hb46 : zI b46 0 1000) (hb52 : zI b52 0 400) (hb56 : zW5 b56) : zM l G y_Model_placeAmong prog_14_method_84_code 4 (Option.some Jvm.ClassFile.FieldType.int) m_s1_Model_placeAmong [.ref b0, .int b1] [(b0, .inr (12, [.int b2, .ref b3, .ref b4, .ref b5, .ref b6, .int b7, .ref b8, .int b9, .int b10, .int b11, .int b12, .ref b13, .ref b14, .ref b15, .int b16, .ref b17, .ref b18, .ref b19, .ref b20, .ref b21, .ref b22, .ref b23, .ref b24, .ref b25, .ref b26, .ref b27, .ref b28, .int b29, .ref b30, .ref b31, .int b32, .int b33, .int b34, .int b35, .ref b36, .ref b37, .ref b38, .ref b39, .ref b40, .ref b41, .ref b42, .int b43, .ref b44, .ref b45, .int b46, .ref b47, .ref b48, .ref b49, .ref b50, .ref b51, .int b52, .ref b53, .ref b54, .ref b55])), (b3, .inl (G.2 0, 503, .inl b56)), (b54, .inl (G.2 0, 20, .inl b57)), (b55, .inl (G.2 0, 20, .inl b58))] (fun v w => ∃ (e0 : Int32), v = some (.int e0) ∧ w = [(b0, .inr (12, [.int b2, .ref b3, .ref b4, .ref b5, .ref b6, .int b7, .ref b8, .int b9, .int b10, .int b11, .int b12, .ref b13, .ref b14, .ref b15, .int b16, .ref b17, .ref b18, .ref b19, .ref b20, .ref b21, .ref b22, .ref b23, .ref b24, .ref b25, .ref b26, .ref b27, .ref b28, .int b29, .ref b30, .ref b31, .int b32, .int b33, .int b34, .int b35, .ref b36, .ref b37, .ref b38, .ref b39, .ref b40, .ref b41, .ref b42, .int b43, .ref b44, .ref b45, .int b46, .ref b47, .ref b48, .ref b49, .ref b50, .ref b51, .int b52, .ref b53, .ref b54, .ref b55])), (b3, .inl (G.2 0, 503, .inl b56)), (b54, .inl (G.2 0, 20, .inl b57)), (b55, .inl (G.2 0, 20, .inl b58))]) := by
  refine z_start (by decide +kernel) (Nat.le_of_ble_eq_true rfl) ?_
  intro p e s m below meth c A Z hr hnm hA hP hD hS ls hl
  have Z : zC p s m _ meth c prog_14_method_84_code 4 "TraceMachinesModel" G := Z
  obtain ⟨hx, hb, hml, hown, hts, hK, hN, hlocks⟩ := id Z
  have hl : lv_has ls 4 [(0, .ref b0), (1, .int b1)] := hl
  refine lv_iconst (v := 0) hx hb d_Model_placeAmong_0 (by decide) ?_
  refine lv_istore_n (lv' := [(2, .int 0), (0, .ref b0), (1, .int b1)]) hx hb d_Model_placeAmong_1 rfl hl (by decide) rfl (fun ls hl => ?_)
  refine lv_iconst (v := 0) hx hb d_Model_placeAmong_2 (by decide) ?_
  refine lv_istore_n (lv' := [(3, .int 0), (2, .int 0), (0, .ref b0), (1, .int b1)]) hx hb d_Model_placeAmong_3 rfl hl (by decide) rfl (fun ls hl => ?_)
  suffices key : ∀ (k_27 : Nat) (y_28 : Int32) (y_29 : Int32) (H : Heap) (locs : List Loc) (ls : Array Slot), (zI y_28 0 20) → (20 : Int) - y_28.toInt < (k_27 : Int) → va_P G.1 classes [(b0, .inr (12, [.int b2, .ref b3, .ref b4, .ref b5, .ref b6, .int b7, .ref b8, .int b9, .int b10, .int b11, .int b12, .ref b13, .ref b14, .ref b15, .int b16, .ref b17, .ref b18, .ref b19, .ref b20, .ref b21, .ref b22, .ref b23, .ref b24, .ref b25, .ref b26, .ref b27, .ref b28, .int b29, .ref b30, .ref b31, .int b32, .int b33, .int b34, .int b35, .ref b36, .ref b37, .ref b38, .ref b39, .ref b40, .ref b41, .ref b42, .int b43, .ref b44, .ref b45, .int b46, .ref b47, .ref b48, .ref b49, .ref b50, .ref b51, .int b52, .ref b53, .ref b54, .ref b55])), (b3, .inl (G.2 0, 503, .inl b56)), (b54, .inl (G.2 0, 20, .inl b57)), (b55, .inl (G.2 0, 20, .inl b58))] H → va_D A [(b0, .inr (12, [.int b2, .ref b3, .ref b4, .ref b5, .ref b6, .int b7, .ref b8, .int b9, .int b10, .int b11, .int b12, .ref b13, .ref b14, .ref b15, .int b16, .ref b17, .ref b18, .ref b19, .ref b20, .ref b21, .ref b22, .ref b23, .ref b24, .ref b25, .ref b26, .ref b27, .ref b28, .int b29, .ref b30, .ref b31, .int b32, .int b33, .int b34, .int b35, .ref b36, .ref b37, .ref b38, .ref b39, .ref b40, .ref b41, .ref b42, .int b43, .ref b44, .ref b45, .int b46, .ref b47, .ref b48, .ref b49, .ref b50, .ref b51, .int b52, .ref b53, .ref b54, .ref b55])), (b3, .inl (G.2 0, 503, .inl b56)), (b54, .inl (G.2 0, 20, .inl b57)), (b55, .inl (G.2 0, 20, .inl b58))] → va_S A s.heap H locs → lv_has ls 4 [(3, .int y_28), (2, .int y_29), (0, .ref b0), (1, .int b1)] → W p l e m_s1_Model_placeAmong s m ([.ref b0, .int b1] : List Value).toArray below meth c H locs 0 0 (MQ below (zQ G (fun v w => ∃ (e0 : Int32), v = some (.int e0) ∧ w = [(b0, .inr (12, [.int b2, .ref b3, .ref b4, .ref b5, .ref b6, .int b7, .ref b8, .int b9, .int b10, .int b11, .int b12, .ref b13, .ref b14, .ref b15, .int b16, .ref b17, .ref b18, .ref b19, .ref b20, .ref b21, .ref b22, .ref b23, .ref b24, .ref b25, .ref b26, .ref b27, .ref b28, .int b29, .ref b30, .ref b31, .int b32, .int b33, .int b34, .int b35, .ref b36, .ref b37, .ref b38, .ref b39, .ref b40, .ref b41, .ref b42, .int b43, .ref b44, .ref b45, .int b46, .ref b47, .ref b48, .ref b49, .ref b50, .ref b51, .int b52, .ref b53, .ref b54, .ref b55])), (b3, .inl (G.2 0, 503, .inl b56)), (b54, .inl (G.2 0, 20, .inl b57)), (b55, .inl (G.2 0, 20, .inl b58))]) A) ([.ref b0, .int b1] : List Value).toArray s m_s1_Model_placeAmong.cells m_s1_Model_placeAmong.slots A) (F0 m 4 ls []) by
    exact key 21 (0) (0) _ _ _ (zI.wk (l' := 0) (h' := 20) zc_0 (by decide)) (zm_upi (zI.wk (l' := 0) (h' := 20) zc_0 (by decide)) (by decide)) hP hD hS (lv_sub hl [0, 1, 2, 3] rfl)
  intro k_27
  induction k_27 with
  | zero =>
    intro y_28 y_29 H locs ls hy_28 hmk_27 hP hD hS hl
    exact (zm_up0 hy_28 hmk_27).elim
  | succ k_27 ihk_27 =>
    intro y_28 y_29 H locs ls hy_28 hmk_27 hP hD hS hl
    refine lv_iload_n hx hb d_Model_placeAmong_4 rfl (lv_at hl 0 rfl) ?_
    refine lv_aload_n hx hb d_Model_placeAmong_5 rfl (lv_at hl 2 rfl) ?_
    refine z_callV (index := 134) (As := []) (rest := [.int y_28]) (wr := [(b54, .inl (G.2 0, 20, .inl b57)), (b55, .inl (G.2 0, 20, .inl b58))]) Z (s1_Model_many l G (b0) (b2) (b3) (b4) (b5) (b6) (b7) (b8) (b9) (b10) (b11) (b12) (b13) (b14) (b15) (b16) (b17) (b18) (b19) (b20) (b21) (b22) (b23) (b24) (b25) (b26) (b27) (b28) (b29) (b30) (b31) (b32) (b33) (b34) (b35) (b36) (b37) (b38) (b39) (b40) (b41) (b42) (b43) (b44) (b45) (b46) (b47) (b48) (b49) (b50) (b51) (b52) (b53) (b54) (b55) (b56) hb7 hb9 hb10 hb12 hb16 hb29 hb32 hb43 hb46 hb52 hb56) hl.1 q1320 q1322 qs51 q14 q1323 ⟨by decide, by decide, by show _ = some 0; decide +kernel⟩ ⟨Nat.le_of_ble_eq_true rfl, Nat.le_of_ble_eq_true rfl⟩ ⟨Nat.le_of_ble_eq_true rfl, Nat.le_of_ble_eq_true rfl⟩ rfl (Nat.le_of_ble_eq_true rfl) d_Model_placeAmong_6 hP hD hS hA 0 12 rfl rfl rfl [0, 1] [2, 3] rfl rfl rfl rfl (by decide) (fun v w1 H locs hw_30 hP hD hS => ?_)
    obtain ⟨x_31, rfl, rfl, hx_31, hfx_32⟩ := hw_30
    have hP : va_P G.1 classes [(b54, .inl (G.2 0, 20, .inl b57)), (b55, .inl (G.2 0, 20, .inl b58)), (b0, .inr (12, [.int b2, .ref b3, .ref b4, .ref b5, .ref b6, .int b7, .ref b8, .int b9, .int b10, .int b11, .int b12, .ref b13, .ref b14, .ref b15, .int b16, .ref b17, .ref b18, .ref b19, .ref b20, .ref b21, .ref b22, .ref b23, .ref b24, .ref b25, .ref b26, .ref b27, .ref b28, .int b29, .ref b30, .ref b31, .int b32, .int b33, .int b34, .int b35, .ref b36, .ref b37, .ref b38, .ref b39, .ref b40, .ref b41, .ref b42, .int b43, .ref b44, .ref b45, .int b46, .ref b47, .ref b48, .ref b49, .ref b50, .ref b51, .int b52, .ref b53, .ref b54, .ref b55])), (b3, .inl (G.2 0, 503, .inl b56))] H := hP
    have hD := z_tie hP hD rfl
    refine W.widen (k := 0) (n := 0) (Nat.le_of_ble_eq_true rfl) (Nat.le_of_ble_eq_true rfl) ?_
    refine lv_icmp_ge (tgt := 40) hx hb d_Model_placeAmong_9 (by decide) (fun hc_33 => ?_) (fun hc_33 => ?_)
    · have _nhc_33 := hc_33
      have ni_34 := (fa_le _ _).mp hc_33
      refine lv_iload_n hx hb d_Model_placeAmong_40 rfl (lv_at hl 1 rfl) ?_
      exact z_iret hx hb hr hlocks (hP.sub [2, 3, 0, 1] rfl) (hD.sub [2, 3, 0, 1] (by decide) rfl) hS (Nat.le_of_ble_eq_true rfl) (Nat.le_of_ble_eq_true rfl) d_Model_placeAmong_41 ⟨y_29, rfl, rfl⟩
    · have _nhc_33 := hc_33
      have ni_35 := (fa_lt _ _).mp (zi_nle hc_33)
      have hv_36 : zI y_28 0 19 := zI.lt_l hy_28 hx_31 (zi_nle hc_33) (by decide)
      have hv_37 : zI x_31 1 20 := zI.lt_r hy_28 hx_31 (zi_nle hc_33) (by decide)
      refine lv_iload_n hx hb d_Model_placeAmong_12 rfl (lv_at hl 1 rfl) ?_
      refine lv_iload_n hx hb d_Model_placeAmong_13 rfl (lv_at hl 0 rfl) ?_
      refine lv_iload_n hx hb d_Model_placeAmong_14 rfl (lv_at hl 3 rfl) ?_
      refine lv_icmp_eq (tgt := 31) hx hb d_Model_placeAmong_15 (by decide) (fun hc_38 => ?_) (fun hc_38 => ?_)
      · have _nhc_38 := hc_38
        have ni_39 := (fa_eq _ _).mp hc_38
        refine lv_iconst (v := 0) hx hb d_Model_placeAmong_31 (by decide) ?_
        refine lv_iadd hx hb d_Model_placeAmong_32 ?_
        refine lv_topi (fun v_40 ev_40 => ?_)
        obtain ⟨qv_40, hv_40⟩ := zI_add (l := -2147483648) (h := 2147483647) (zI_all y_29) zc_0 ev_40 (by decide)
        rw [li_0] at qv_40
        refine lv_istore_n (lv' := [(2, .int v_40), (3, .int y_28), (0, .ref b0), (1, .int b1)]) hx hb d_Model_placeAmong_33 rfl hl (by decide) rfl (fun ls hl => ?_)
        obtain ⟨v_41, ev_41⟩ : ∃ z : Int32, z = y_28 + 1 := ⟨_, rfl⟩
        obtain ⟨qv_41, hv_41⟩ := zI_add (l := 1) (h := 20) hv_36 zc_1 ev_41 (by decide)
        rw [li_1] at qv_41
        refine lv_iinc (v := v_41) (lv' := [(3, .int v_41), (2, .int v_40), (0, .ref b0), (1, .int b1)]) hx hb d_Model_placeAmong_34 hl (k := 1) rfl (by rw [ev_41]; rfl) (by decide) rfl (fun ls hl => ?_)
        refine lv_goto (tgt := 4) hx hb d_Model_placeAmong_37 (by decide) ?_
        exact ihk_27 (v_41) (v_40) _ _ _ (zI.wk (l' := 0) (h' := 20) hv_41 (by decide)) (zm_up qv_41 hmk_27 (by decide)) (hP.sub [2, 3, 0, 1] rfl) (hD.sub [2, 3, 0, 1] (by decide) rfl) hS (lv_sub hl [0, 1, 2, 3] rfl)
      · have _nhc_38 := hc_38
        have ni_42 : ¬ (y_28 : Int32).toInt = (b1 : Int32).toInt := fun z => hc_38 ((fa_eq _ _).mpr z)
        refine lv_aload_n hx hb d_Model_placeAmong_18 rfl (lv_at hl 2 rfl) ?_
        refine lv_iload_n hx hb d_Model_placeAmong_19 rfl (lv_at hl 0 rfl) ?_
        refine lv_iload_n hx hb d_Model_placeAmong_20 rfl (lv_at hl 3 rfl) ?_
        refine z_callV (index := 400) (As := [.int y_28, .int b1]) (rest := [.int y_29]) (wr := [(b3, .inl (G.2 0, 503, .inl b56))]) Z (s1_Model_isAhead l G (b0) (y_28) (b1) (b2) (b3) (b4) (b5) (b6) (b7) (b8) (b9) (b10) (b11) (b12) (b13) (b14) (b15) (b16) (b17) (b18) (b19) (b20) (b21) (b22) (b23) (b24) (b25) (b26) (b27) (b28) (b29) (b30) (b31) (b32) (b33) (b34) (b35) (b36) (b37) (b38) (b39) (b40) (b41) (b42) (b43) (b44) (b45) (b46) (b47) (b48) (b49) (b50) (b51) (b52) (b53) (b54) (b55) (b57) (b58) hv_36 hb1 hb7 hb9 hb10 hb12 hb16 hb29 hb32 hb43 hb46 hb52) hl.1 q1607 q1609 qs98 q14 q1610 ⟨by decide, by decide, by show _ = some 2; decide +kernel⟩ ⟨Nat.le_of_ble_eq_true rfl, Nat.le_of_ble_eq_true rfl⟩ ⟨Nat.le_of_ble_eq_true rfl, Nat.le_of_ble_eq_true rfl⟩ rfl (Nat.le_of_ble_eq_true rfl) d_Model_placeAmong_21 hP hD hS hA 2 12 rfl rfl rfl [2, 0, 1] [3] rfl rfl rfl rfl (by decide) (fun v w1 H locs hw_43 hP hD hS => ?_)
        obtain ⟨x_44, rfl, rfl, hx_44⟩ := hw_43
        have hP : va_P G.1 classes [(b3, .inl (G.2 0, 503, .inl b56)), (b0, .inr (12, [.int b2, .ref b3, .ref b4, .ref b5, .ref b6, .int b7, .ref b8, .int b9, .int b10, .int b11, .int b12, .ref b13, .ref b14, .ref b15, .int b16, .ref b17, .ref b18, .ref b19, .ref b20, .ref b21, .ref b22, .ref b23, .ref b24, .ref b25, .ref b26, .ref b27, .ref b28, .int b29, .ref b30, .ref b31, .int b32, .int b33, .int b34, .int b35, .ref b36, .ref b37, .ref b38, .ref b39, .ref b40, .ref b41, .ref b42, .int b43, .ref b44, .ref b45, .int b46, .ref b47, .ref b48, .ref b49, .ref b50, .ref b51, .int b52, .ref b53, .ref b54, .ref b55])), (b54, .inl (G.2 0, 20, .inl b57)), (b55, .inl (G.2 0, 20, .inl b58))] H := hP
        have hD := z_tie hP hD rfl
        refine W.widen (k := 0) (n := 0) (Nat.le_of_ble_eq_true rfl) (Nat.le_of_ble_eq_true rfl) ?_
        refine lv_if_eq (tgt := 31) hx hb d_Model_placeAmong_24 (by decide) (fun hc_45 => ?_) (fun hc_45 => ?_)
        · have _nhc_45 := hc_45
          have ni_46 := (fa_eq _ _).mp hc_45
          rw [li_0] at ni_46
          have hv_47 : zI x_44 0 0 := zI.eq_l hx_44 zc_0 hc_45
          refine lv_iconst (v := 0) hx hb d_Model_placeAmong_31 (by decide) ?_
          refine lv_iadd hx hb d_Model_placeAmong_32 ?_
          refine lv_topi (fun v_48 ev_48 => ?_)
          obtain ⟨qv_48, hv_48⟩ := zI_add (l := -2147483648) (h := 2147483647) (zI_all y_29) zc_0 ev_48 (by decide)
          rw [li_0] at qv_48
          refine lv_istore_n (lv' := [(2, .int v_48), (3, .int y_28), (0, .ref b0), (1, .int b1)]) hx hb d_Model_placeAmong_33 rfl hl (by decide) rfl (fun ls hl => ?_)
          obtain ⟨v_49, ev_49⟩ : ∃ z : Int32, z = y_28 + 1 := ⟨_, rfl⟩
          obtain ⟨qv_49, hv_49⟩ := zI_add (l := 1) (h := 20) hv_36 zc_1 ev_49 (by decide)
          rw [li_1] at qv_49
          refine lv_iinc (v := v_49) (lv' := [(3, .int v_49), (2, .int v_48), (0, .ref b0), (1, .int b1)]) hx hb d_Model_placeAmong_34 hl (k := 1) rfl (by rw [ev_49]; rfl) (by decide) rfl (fun ls hl => ?_)
          refine lv_goto (tgt := 4) hx hb d_Model_placeAmong_37 (by decide) ?_
          exact ihk_27 (v_49) (v_48) _ _ _ (zI.wk (l' := 0) (h' := 20) hv_49 (by decide)) (zm_up qv_49 hmk_27 (by decide)) (hP.sub [1, 0, 2, 3] rfl) (hD.sub [1, 0, 2, 3] (by decide) rfl) hS (lv_sub hl [0, 1, 2, 3] rfl)
        · have _nhc_45 := hc_45
          have ni_50 : ¬ (x_44 : Int32).toInt = (0 : Int32).toInt := fun z => hc_45 ((fa_eq _ _).mpr z)
          simp only [li_0] at ni_50
          have hv_51 : zI x_44 1 1 := zI.ne_lo hx_44 zc_0 hc_45 (by decide)
          refine lv_iconst (v := 1) hx hb d_Model_placeAmong_27 (by decide) ?_
          refine lv_goto (tgt := 32) hx hb d_Model_placeAmong_28 (by decide) ?_
          refine lv_iadd hx hb d_Model_placeAmong_32 ?_
          refine lv_topi (fun v_52 ev_52 => ?_)
          refine lv_istore_n (lv' := [(2, .int v_52), (3, .int y_28), (0, .ref b0), (1, .int b1)]) hx hb d_Model_placeAmong_33 rfl hl (by decide) rfl (fun ls hl => ?_)
          obtain ⟨v_53, ev_53⟩ : ∃ z : Int32, z = y_28 + 1 := ⟨_, rfl⟩
          obtain ⟨qv_53, hv_53⟩ := zI_add (l := 1) (h := 20) hv_36 zc_1 ev_53 (by decide)
          rw [li_1] at qv_53
          refine lv_iinc (v := v_53) (lv' := [(3, .int v_53), (2, .int v_52), (0, .ref b0), (1, .int b1)]) hx hb d_Model_placeAmong_34 hl (k := 1) rfl (by rw [ev_53]; rfl) (by decide) rfl (fun ls hl => ?_)
          refine lv_goto (tgt := 4) hx hb d_Model_placeAmong_37 (by decide) ?_
          exact ihk_27 (v_53) (v_52) _ _ _ (zI.wk (l' := 0) (h' := 20) hv_53 (by decide)) (zm_up qv_53 hmk_27 (by decide)) (hP.sub [1, 0, 2, 3] rfl) (hD.sub [1, 0, 2, 3] (by decide) rfl) hS (lv_sub hl [0, 1, 2, 3] rfl)
theorem d_Model_call_0 : decode prog_14_method_38_code 0 = .ok (.aload_n 0, 1) := by decide +kernel
theorem d_Model_call_1 : decode prog_14_method_38_code 1 = .ok (.aload_n 0, 1) := by decide +kernel
theorem d_Model_call_2 : decode prog_14_method_38_code 2 = .ok (.iload_n 1, 1) := by decide +kernel
theorem d_Model_call_3 : decode prog_14_method_38_code 3 = .ok (.invokevirtual 191, 3) := by decide +kernel
theorem d_Model_call_6 : decode prog_14_method_38_code 6 = .ok (.ifCond .eq 7, 3) := by decide +kernel
theorem d_Model_call_9 : decode prog_14_method_38_code 9 = .ok (.iconst 0, 1) := by decide +kernel
theorem d_Model_call_10 : decode prog_14_method_38_code 10 = .ok (.goto 4, 3) := by decide +kernel
theorem d_Model_call_13 : decode prog_14_method_38_code 13 = .ok (.iconst 1, 1) := by decide +kernel
theorem d_Model_call_14 : decode prog_14_method_38_code 14 = .ok (.putfield 1, 3) := by decide +kernel
theorem d_Model_call_17 : decode prog_14_method_38_code 17 = .ok (.aload_n 0, 1) := by decide +kernel
theorem d_Model_call_18 : decode prog_14_method_38_code 18 = .ok (.getfield 1, 3) := by decide +kernel
theorem d_Model_call_21 : decode prog_14_method_38_code 21 = .ok (.iconst 1, 1) := by decide +kernel
theorem d_Model_call_22 : decode prog_14_method_38_code 22 = .ok (.if_icmp .ne 5, 3) := by decide +kernel
theorem d_Model_call_25 : decode prog_14_method_38_code 25 = .ok (.iconst 0, 1) := by decide +kernel
theorem d_Model_call_26 : decode prog_14_method_38_code 26 = .ok (.ireturn, 1) := by decide +kernel
theorem d_Model_call_27 : decode prog_14_method_38_code 27 = .ok (.iload_n 2, 1) := by decide +kernel
theorem d_Model_call_28 : decode prog_14_method_38_code 28 = .ok (.iconst (-1), 1) := by decide +kernel
theorem d_Model_call_29 : decode prog_14_method_38_code 29 = .ok (.if_icmp .ne 17, 3) := by decide +kernel
theorem d_Model_call_32 : decode prog_14_method_38_code 32 = .ok (.iload_n 3, 1) := by decide +kernel
theorem d_Model_call_33 : decode prog_14_method_38_code 33 = .ok (.ifCond .ne 11, 3) := by decide +kernel
theorem d_Model_call_36 : decode prog_14_method_38_code 36 = .ok (.aload_n 0, 1) := by decide +kernel
theorem d_Model_call_37 : decode prog_14_method_38_code 37 = .ok (.iload_n 1, 1) := by decide +kernel
theorem d_Model_call_38 : decode prog_14_method_38_code 38 = .ok (.invokevirtual 203, 3) := by decide +kernel
theorem d_Model_call_41 : decode prog_14_method_38_code 41 = .ok (.goto 4, 3) := by decide +kernel
theorem d_Model_call_44 : decode prog_14_method_38_code 44 = .ok (.iconst (-1), 1) := by decide +kernel
theorem d_Model_call_45 : decode prog_14_method_38_code 45 = .ok (.ireturn, 1) := by decide +kernel
theorem d_Model_call_46 : decode prog_14_method_38_code 46 = .ok (.iload_n 2, 1) := by decide +kernel
theorem d_Model_call_47 : decode prog_14_method_38_code 47 = .ok (.i2l, 1) := by decide +kernel
theorem d_Model_call_48 : decode prog_14_method_38_code 48 = .ok (.lconst 0, 1) := by decide +kernel
theorem d_Model_call_49 : decode prog_14_method_38_code 49 = .ok (.aload_n 0, 1) := by decide +kernel
theorem d_Model_call_50 : decode prog_14_method_38_code 50 = .ok (.iload_n 1, 1) := by decide +kernel
theorem d_Model_call_51 : decode prog_14_method_38_code 51 = .ok (.invokevirtual 203, 3) := by decide +kernel
theorem d_Model_call_54 : decode prog_14_method_38_code 54 = .ok (.i2l, 1) := by decide +kernel
theorem d_Model_call_55 : decode prog_14_method_38_code 55 = .ok (.lconst 1, 1) := by decide +kernel
theorem d_Model_call_56 : decode prog_14_method_38_code 56 = .ok (.lsub, 1) := by decide +kernel
theorem d_Model_call_57 : decode prog_14_method_38_code 57 = .ok (.invokestatic 138, 3) := by decide +kernel
theorem d_Model_call_60 : decode prog_14_method_38_code 60 = .ok (.ifCond .ne 5, 3) := by decide +kernel
theorem d_Model_call_63 : decode prog_14_method_38_code 63 = .ok (.iconst (-1), 1) := by decide +kernel
theorem d_Model_call_64 : decode prog_14_method_38_code 64 = .ok (.ireturn, 1) := by decide +kernel
theorem d_Model_call_65 : decode prog_14_method_38_code 65 = .ok (.aload_n 0, 1) := by decide +kernel
theorem d_Model_call_66 : decode prog_14_method_38_code 66 = .ok (.invokevirtual 254, 3) := by decide +kernel
theorem d_Model_call_69 : decode prog_14_method_38_code 69 = .ok (.iload_n 3, 1) := by decide +kernel
theorem d_Model_call_70 : decode prog_14_method_38_code 70 = .ok (.tableswitch 67 0 3 #[30, 40, 47, 57], 30) := by decide +kernel
theorem d_Model_call_100 : decode prog_14_method_38_code 100 = .ok (.bipush 97, 2) := by decide +kernel
theorem d_Model_call_102 : decode prog_14_method_38_code 102 = .ok (.aload_n 0, 1) := by decide +kernel
theorem d_Model_call_103 : decode prog_14_method_38_code 103 = .ok (.iload_n 1, 1) := by decide +kernel
theorem d_Model_call_104 : decode prog_14_method_38_code 104 = .ok (.iload_n 2, 1) := by decide +kernel
theorem d_Model_call_105 : decode prog_14_method_38_code 105 = .ok (.invokevirtual 207, 3) := by decide +kernel
theorem d_Model_call_108 : decode prog_14_method_38_code 108 = .ok (.iadd, 1) := by decide +kernel
theorem d_Model_call_109 : decode prog_14_method_38_code 109 = .ok (.ireturn, 1) := by decide +kernel
theorem d_Model_call_110 : decode prog_14_method_38_code 110 = .ok (.aload_n 0, 1) := by decide +kernel
theorem d_Model_call_111 : decode prog_14_method_38_code 111 = .ok (.iload_n 1, 1) := by decide +kernel
theorem d_Model_call_112 : decode prog_14_method_38_code 112 = .ok (.iload_n 2, 1) := by decide +kernel
theorem d_Model_call_113 : decode prog_14_method_38_code 113 = .ok (.invokevirtual 238, 3) := by decide +kernel
theorem d_Model_call_116 : decode prog_14_method_38_code 116 = .ok (.ireturn, 1) := by decide +kernel
theorem d_Model_call_117 : decode prog_14_method_38_code 117 = .ok (.aload_n 0, 1) := by decide +kernel
theorem d_Model_call_118 : decode prog_14_method_38_code 118 = .ok (.iconst 0, 1) := by decide +kernel
theorem d_Model_call_119 : decode prog_14_method_38_code 119 = .ok (.iload_n 1, 1) := by decide +kernel
theorem d_Model_call_120 : decode prog_14_method_38_code 120 = .ok (.iload_n 2, 1) := by decide +kernel
theorem d_Model_call_121 : decode prog_14_method_38_code 121 = .ok (.iconst 1, 1) := by decide +kernel
theorem d_Model_call_122 : decode prog_14_method_38_code 122 = .ok (.iadd, 1) := by decide +kernel
theorem d_Model_call_123 : decode prog_14_method_38_code 123 = .ok (.invokevirtual 211, 3) := by decide +kernel
theorem d_Model_call_126 : decode prog_14_method_38_code 126 = .ok (.ireturn, 1) := by decide +kernel
theorem d_Model_call_127 : decode prog_14_method_38_code 127 = .ok (.aload_n 0, 1) := by decide +kernel
theorem d_Model_call_128 : decode prog_14_method_38_code 128 = .ok (.iconst 0, 1) := by decide +kernel
theorem d_Model_call_129 : decode prog_14_method_38_code 129 = .ok (.iload_n 1, 1) := by decide +kernel
theorem d_Model_call_130 : decode prog_14_method_38_code 130 = .ok (.iload_n 2, 1) := by decide +kernel
theorem d_Model_call_131 : decode prog_14_method_38_code 131 = .ok (.iconst 1, 1) := by decide +kernel
theorem d_Model_call_132 : decode prog_14_method_38_code 132 = .ok (.iadd, 1) := by decide +kernel
theorem d_Model_call_133 : decode prog_14_method_38_code 133 = .ok (.invokevirtual 231, 3) := by decide +kernel
theorem d_Model_call_136 : decode prog_14_method_38_code 136 = .ok (.ireturn, 1) := by decide +kernel
theorem d_Model_call_137 : decode prog_14_method_38_code 137 = .ok (.iconst (-1), 1) := by decide +kernel
theorem d_Model_call_138 : decode prog_14_method_38_code 138 = .ok (.ireturn, 1) := by decide +kernel
abbrev m_s1_Model_call : Room := { frames := 5, cells := 0, slots := 0, locals := 124 }
set_option maxHeartbeats 4000000 in
set_option maxRecDepth 100000 in
theorem s1_Model_call (l : Launch) (G : zG) (b0 : Nat) (b1 : Int32) (b2 : Int32) (b3 : Int32) (b4 : Int32) (b5 : Nat) (b6 : Nat) (b7 : Nat) (b8 : Nat) (b9 : Int32) (b10 : Nat) (b11 : Int32) (b12 : Int32) (b13 : Int32) (b14 : Int32) (b15 : Nat) (b16 : Nat) (b17 : Nat) (b18 : Int32) (b19 : Nat) (b20 : Nat) (b21 : Nat) (b22 : Nat) (b23 : Nat) (b24 : Nat) (b25 : Nat) (b26 : Nat) (b27 : Nat) (b28 : Nat) (b29 : Nat) (b30 : Nat) (b31 : Int32) (b32 : Nat) (b33 : Nat) (b34 : Int32) (b35 : Int32) (b36 : Int32) (b37 : Int32) (b38 : Nat) (b39 : Nat) (b40 : Nat) (b41 : Nat) (b42 : Nat) (b43 : Nat) (b44 : Nat) (b45 : Int32) (b46 : Nat) (b47 : Nat) (b48 : Int32) (b49 : Nat) (b50 : Nat) (b51 : Nat) (b52 : Nat) (b53 : Nat) (b54 : Int32) (b55 : Nat) (b56 : Nat) (b57 : Nat) (b58 : Nat → Int32) (b59 : Nat → Int32) (b60 : Nat → Int32) (b61 : Nat → Int32) (b62 : Nat → Int32) (b63 : Nat → Int32) (b64 : Nat → Int32) (b65 : Nat → Int32) (b66 : Nat → Int32) (b67 : Nat → Int32) (b68 : Nat → Int32) (b69 : Nat → Int32) (b70 : Nat → Int32) (hb9 : zI b9 0 8) (hb11 : zI b11 0 240) (hb12 : zI b12 0 240) (hb14 : zI b14 0 1) (hb18 : zI b18 0 12) (hb31 : zI b31 0 1) (hb34 : zI b34 0 1) (hb45 : zI b45 0 1000) (hb48 : zI b48 0 1000) (hb54 : zI b54 0 400) (hb58 : zW5 b58) (hb59 : zR b59 0 241) (hb60 : zR b60 (-1) 240) (hb61 : zqa qP b61) (hb63 : zqa qC b63) (hb64 : zR b64 0 240) (hb65 : zR b65 0 241) (hb66 : zR b66 0 240) (hb69 : zR b69 0 240) (hb70 : zqa qE b70) : zM l G y_Model_call prog_14_method_38_code 4 (Option.some Jvm.ClassFile.FieldType.int) m_s1_Model_call [.ref b0, .int b1, .int b2, .int b3] [(b0, .inr (12, [.int b4, .ref b5, .ref b6, .ref b7, .ref b8, .int b9, .ref b10, .int b11, .int b12, .int b13, .int b14, .ref b15, .ref b16, .ref b17, .int b18, .ref b19, .ref b20, .ref b21, .ref b22, .ref b23, .ref b24, .ref b25, .ref b26, .ref b27, .ref b28, .ref b29, .ref b30, .int b31, .ref b32, .ref b33, .int b34, .int b35, .int b36, .int b37, .ref b38, .ref b39, .ref b40, .ref b41, .ref b42, .ref b43, .ref b44, .int b45, .ref b46, .ref b47, .int b48, .ref b49, .ref b50, .ref b51, .ref b52, .ref b53, .int b54, .ref b55, .ref b56, .ref b57])), (b5, .inl (G.2 0, 503, .inl b58)), (b19, .inl (G.2 0, 2, .inl b59)), (b20, .inl (G.2 0, 4820, .inl b60)), (b21, .inl (G.2 0, 520, .inl b61)), (b22, .inl (G.2 0, 9640, .inl b62)), (b23, .inl (G.2 0, 482, .inl b63)), (b24, .inl (G.2 0, 482, .inl b64)), (b25, .inl (G.2 0, 2, .inl b65)), (b26, .inl (G.2 0, 482, .inl b66)), (b27, .inl (G.2 0, 482, .inl b67)), (b28, .inl (G.2 0, 482, .inl b68)), (b29, .inl (G.2 0, 2, .inl b69)), (b30, .inl (G.2 0, 2880, .inl b70))] (fun v w => ∃ (e0 : Int32), ∃ (e1 : Int32), ∃ (e2 : Int32), ∃ (e3 : Nat → Int32), ∃ (e4 : Nat → Int32), ∃ (e5 : Nat → Int32), ∃ (e6 : Nat → Int32), ∃ (e7 : Nat → Int32), ∃ (e8 : Nat → Int32), ∃ (e9 : Nat → Int32), ∃ (e10 : Nat → Int32), ∃ (e11 : Nat → Int32), ∃ (e12 : Nat → Int32), ∃ (e13 : Nat → Int32), ∃ (e14 : Nat → Int32), v = some (.int e0) ∧ w = [(b0, .inr (12, [.int e1, .ref b5, .ref b6, .ref b7, .ref b8, .int b9, .ref b10, .int b11, .int b12, .int b13, .int b14, .ref b15, .ref b16, .ref b17, .int b18, .ref b19, .ref b20, .ref b21, .ref b22, .ref b23, .ref b24, .ref b25, .ref b26, .ref b27, .ref b28, .ref b29, .ref b30, .int e2, .ref b32, .ref b33, .int b34, .int b35, .int b36, .int b37, .ref b38, .ref b39, .ref b40, .ref b41, .ref b42, .ref b43, .ref b44, .int b45, .ref b46, .ref b47, .int b48, .ref b49, .ref b50, .ref b51, .ref b52, .ref b53, .int b54, .ref b55, .ref b56, .ref b57])), (b5, .inl (G.2 0, 503, .inl b58)), (b19, .inl (G.2 0, 2, .inl e3)), (b20, .inl (G.2 0, 4820, .inl e4)), (b21, .inl (G.2 0, 520, .inl e5)), (b22, .inl (G.2 0, 9640, .inl e6)), (b23, .inl (G.2 0, 482, .inl e7)), (b24, .inl (G.2 0, 482, .inl e8)), (b25, .inl (G.2 0, 2, .inl e9)), (b26, .inl (G.2 0, 482, .inl e10)), (b27, .inl (G.2 0, 482, .inl e11)), (b28, .inl (G.2 0, 482, .inl e12)), (b29, .inl (G.2 0, 2, .inl e13)), (b30, .inl (G.2 0, 2880, .inl e14))] ∧ (zI e1 0 1) ∧ (zI e2 0 1) ∧ (zR e3 0 241) ∧ (zR e4 (-1) 240) ∧ (zqa qP e5) ∧ (zqa qC e7) ∧ (zR e8 0 240) ∧ (zR e9 0 241) ∧ (zR e10 0 240) ∧ (zR e13 0 240) ∧ (zqa qE e14)) := by
  refine z_start (by decide +kernel) (Nat.le_of_ble_eq_true rfl) ?_
  intro p e s m below meth c A Z hr hnm hA hP hD hS ls hl
  have Z : zC p s m _ meth c prog_14_method_38_code 4 "TraceMachinesModel" G := Z
  obtain ⟨hx, hb, hml, hown, hts, hK, hN, hlocks⟩ := id Z
  have hl : lv_has ls 4 [(0, .ref b0), (1, .int b1), (2, .int b2), (3, .int b3)] := hl
  refine lv_aload_n hx hb d_Model_call_0 rfl (lv_at hl 0 rfl) ?_
  refine lv_aload_n hx hb d_Model_call_1 rfl (lv_at hl 0 rfl) ?_
  refine lv_iload_n hx hb d_Model_call_2 rfl (lv_at hl 1 rfl) ?_
  refine z_callV (index := 191) (As := [.int b1]) (rest := [.ref b0]) (wr := [(b19, .inl (G.2 0, 2, .inl b59)), (b20, .inl (G.2 0, 4820, .inl b60)), (b21, .inl (G.2 0, 520, .inl b61)), (b22, .inl (G.2 0, 9640, .inl b62)), (b23, .inl (G.2 0, 482, .inl b63)), (b24, .inl (G.2 0, 482, .inl b64)), (b25, .inl (G.2 0, 2, .inl b65)), (b26, .inl (G.2 0, 482, .inl b66)), (b27, .inl (G.2 0, 482, .inl b67)), (b28, .inl (G.2 0, 482, .inl b68)), (b29, .inl (G.2 0, 2, .inl b69)), (b30, .inl (G.2 0, 2880, .inl b70))]) Z (s1_Model_isTrace l G (b0) (b1) (b4) (b5) (b6) (b7) (b8) (b9) (b10) (b11) (b12) (b13) (b14) (b15) (b16) (b17) (b18) (b19) (b20) (b21) (b22) (b23) (b24) (b25) (b26) (b27) (b28) (b29) (b30) (b31) (b32) (b33) (b34) (b35) (b36) (b37) (b38) (b39) (b40) (b41) (b42) (b43) (b44) (b45) (b46) (b47) (b48) (b49) (b50) (b51) (b52) (b53) (b54) (b55) (b56) (b57) (b58) hb9 hb11 hb12 hb14 hb18 hb31 hb34 hb45 hb48 hb54 hb58) hl.1 q1328 q1330 qs52 q14 q1331 ⟨by decide, by decide, by show _ = some 1; decide +kernel⟩ ⟨Nat.le_of_ble_eq_true rfl, Nat.le_of_ble_eq_true rfl⟩ ⟨Nat.le_of_ble_eq_true rfl, Nat.le_of_ble_eq_true rfl⟩ rfl (Nat.le_of_ble_eq_true rfl) d_Model_call_3 hP hD hS hA 0 12 rfl rfl rfl [0, 1] [2, 3, 4, 5, 6, 7, 8, 9, 10, 11, 12, 13] rfl rfl rfl rfl (by decide) (fun v w1 H locs hw_1 hP hD hS => ?_)
  obtain ⟨x_2, rfl, rfl, hx_2, hfx_3⟩ := hw_1
  have hP : va_P G.1 classes [(b19, .inl (G.2 0, 2, .inl b59)), (b20, .inl (G.2 0, 4820, .inl b60)), (b21, .inl (G.2 0, 520, .inl b61)), (b22, .inl (G.2 0, 9640, .inl b62)), (b23, .inl (G.2 0, 482, .inl b63)), (b24, .inl (G.2 0, 482, .inl b64)), (b25, .inl (G.2 0, 2, .inl b65)), (b26, .inl (G.2 0, 482, .inl b66)), (b27, .inl (G.2 0, 482, .inl b67)), (b28, .inl (G.2 0, 482, .inl b68)), (b29, .inl (G.2 0, 2, .inl b69)), (b30, .inl (G.2 0, 2880, .inl b70)), (b0, .inr (12, [.int b4, .ref b5, .ref b6, .ref b7, .ref b8, .int b9, .ref b10, .int b11, .int b12, .int b13, .int b14, .ref b15, .ref b16, .ref b17, .int b18, .ref b19, .ref b20, .ref b21, .ref b22, .ref b23, .ref b24, .ref b25, .ref b26, .ref b27, .ref b28, .ref b29, .ref b30, .int b31, .ref b32, .ref b33, .int b34, .int b35, .int b36, .int b37, .ref b38, .ref b39, .ref b40, .ref b41, .ref b42, .ref b43, .ref b44, .int b45, .ref b46, .ref b47, .int b48, .ref b49, .ref b50, .ref b51, .ref b52, .ref b53, .int b54, .ref b55, .ref b56, .ref b57])), (b5, .inl (G.2 0, 503, .inl b58))] H := hP
  have hD := z_tie hP hD rfl
  refine W.widen (k := 0) (n := 0) (Nat.le_of_ble_eq_true rfl) (Nat.le_of_ble_eq_true rfl) ?_
  refine lv_if_eq (tgt := 13) hx hb d_Model_call_6 (by decide) (fun hc_4 => ?_) (fun hc_4 => ?_)
  · have _nhc_4 := hc_4
    have ni_5 := (fa_eq _ _).mp hc_4
    rw [li_0] at ni_5
    have hv_6 : zI x_2 0 0 := zI.eq_l hx_2 zc_0 hc_4
    refine lv_iconst (v := 1) hx hb d_Model_call_13 (by decide) ?_
    refine va_put (D := G.1) (ci := 12) (v := .int 1) (ty := .int) (C := R_Model) (T := F_Model) (N := 54) hx hb hts i_Model t_Model t_Model_ok n_Model hown hK hP hD hS 12 rfl rfl 0 (by decide) (hts _ q1109) (fun _ h9 => h9) rfl (by decide +kernel) rfl rfl (Nat.le_of_ble_eq_true rfl) d_Model_call_14 (fun H locs hP hD hS => ?_)
    have hP : va_P G.1 classes [(b19, .inl (G.2 0, 2, .inl b59)), (b20, .inl (G.2 0, 4820, .inl b60)), (b21, .inl (G.2 0, 520, .inl b61)), (b22, .inl (G.2 0, 9640, .inl b62)), (b23, .inl (G.2 0, 482, .inl b63)), (b24, .inl (G.2 0, 482, .inl b64)), (b25, .inl (G.2 0, 2, .inl b65)), (b26, .inl (G.2 0, 482, .inl b66)), (b27, .inl (G.2 0, 482, .inl b67)), (b28, .inl (G.2 0, 482, .inl b68)), (b29, .inl (G.2 0, 2, .inl b69)), (b30, .inl (G.2 0, 2880, .inl b70)), (b0, .inr (12, [.int 1, .ref b5, .ref b6, .ref b7, .ref b8, .int b9, .ref b10, .int b11, .int b12, .int b13, .int b14, .ref b15, .ref b16, .ref b17, .int b18, .ref b19, .ref b20, .ref b21, .ref b22, .ref b23, .ref b24, .ref b25, .ref b26, .ref b27, .ref b28, .ref b29, .ref b30, .int b31, .ref b32, .ref b33, .int b34, .int b35, .int b36, .int b37, .ref b38, .ref b39, .ref b40, .ref b41, .ref b42, .ref b43, .ref b44, .int b45, .ref b46, .ref b47, .int b48, .ref b49, .ref b50, .ref b51, .ref b52, .ref b53, .int b54, .ref b55, .ref b56, .ref b57])), (b5, .inl (G.2 0, 503, .inl b58))] H := hP
    have hD := z_tie hP hD rfl
    refine lv_aload_n hx hb d_Model_call_17 rfl (lv_at hl 0 rfl) ?_
    refine va_get (D := G.1) (ci := 12) (v := .int 1) (C := R_Model) (T := F_Model) (N := 54) hx hb hts i_Model hown hK hP 12 rfl rfl 0 (by decide) (hts _ q1109) (fun _ h9 => h9) rfl d_Model_call_18 ?_
    refine lv_iconst (v := 1) hx hb d_Model_call_21 (by decide) ?_
    refine lv_icmp_ne (tgt := 27) hx hb d_Model_call_22 (by decide) (fun hc => absurd hc (by decide +kernel)) (fun _ => ?_)
    refine lv_iconst (v := 0) hx hb d_Model_call_25 (by decide) ?_
    exact z_iret hx hb hr hlocks (hP.sub [12, 13, 0, 1, 2, 3, 4, 5, 6, 7, 8, 9, 10, 11] rfl) (hD.sub [12, 13, 0, 1, 2, 3, 4, 5, 6, 7, 8, 9, 10, 11] (by decide) rfl) hS (Nat.le_of_ble_eq_true rfl) (Nat.le_of_ble_eq_true rfl) d_Model_call_26 ⟨0, 1, b31, b59, b60, b61, b62, b63, b64, b65, b66, b67, b68, b69, b70, rfl, rfl, (zI.wk (l' := 0) (h' := 1) zc_1 (by decide)), hb31, hb59, hb60, hb61, hb63, hb64, hb65, hb66, hb69, hb70⟩
  · have _nhc_4 := hc_4
    have ni_7 : ¬ (x_2 : Int32).toInt = (0 : Int32).toInt := fun z => hc_4 ((fa_eq _ _).mpr z)
    simp only [li_0] at ni_7
    have hv_8 : zI x_2 1 1 := zI.ne_lo hx_2 zc_0 hc_4 (by decide)
    refine lv_iconst (v := 0) hx hb d_Model_call_9 (by decide) ?_
    refine lv_goto (tgt := 14) hx hb d_Model_call_10 (by decide) ?_
    refine va_put (D := G.1) (ci := 12) (v := .int 0) (ty := .int) (C := R_Model) (T := F_Model) (N := 54) hx hb hts i_Model t_Model t_Model_ok n_Model hown hK hP hD hS 12 rfl rfl 0 (by decide) (hts _ q1109) (fun _ h9 => h9) rfl (by decide +kernel) rfl rfl (Nat.le_of_ble_eq_true rfl) d_Model_call_14 (fun H locs hP hD hS => ?_)
    have hP : va_P G.1 classes [(b19, .inl (G.2 0, 2, .inl b59)), (b20, .inl (G.2 0, 4820, .inl b60)), (b21, .inl (G.2 0, 520, .inl b61)), (b22, .inl (G.2 0, 9640, .inl b62)), (b23, .inl (G.2 0, 482, .inl b63)), (b24, .inl (G.2 0, 482, .inl b64)), (b25, .inl (G.2 0, 2, .inl b65)), (b26, .inl (G.2 0, 482, .inl b66)), (b27, .inl (G.2 0, 482, .inl b67)), (b28, .inl (G.2 0, 482, .inl b68)), (b29, .inl (G.2 0, 2, .inl b69)), (b30, .inl (G.2 0, 2880, .inl b70)), (b0, .inr (12, [.int 0, .ref b5, .ref b6, .ref b7, .ref b8, .int b9, .ref b10, .int b11, .int b12, .int b13, .int b14, .ref b15, .ref b16, .ref b17, .int b18, .ref b19, .ref b20, .ref b21, .ref b22, .ref b23, .ref b24, .ref b25, .ref b26, .ref b27, .ref b28, .ref b29, .ref b30, .int b31, .ref b32, .ref b33, .int b34, .int b35, .int b36, .int b37, .ref b38, .ref b39, .ref b40, .ref b41, .ref b42, .ref b43, .ref b44, .int b45, .ref b46, .ref b47, .int b48, .ref b49, .ref b50, .ref b51, .ref b52, .ref b53, .int b54, .ref b55, .ref b56, .ref b57])), (b5, .inl (G.2 0, 503, .inl b58))] H := hP
    have hD := z_tie hP hD rfl
    refine lv_aload_n hx hb d_Model_call_17 rfl (lv_at hl 0 rfl) ?_
    refine va_get (D := G.1) (ci := 12) (v := .int 0) (C := R_Model) (T := F_Model) (N := 54) hx hb hts i_Model hown hK hP 12 rfl rfl 0 (by decide) (hts _ q1109) (fun _ h9 => h9) rfl d_Model_call_18 ?_
    refine lv_iconst (v := 1) hx hb d_Model_call_21 (by decide) ?_
    refine lv_icmp_ne (tgt := 27) hx hb d_Model_call_22 (by decide) (fun _ => ?_) (fun hc => absurd hc (by decide +kernel))
    have hv_9 : zI b1 0 19 := by rcases hfx_3 with h9 | h9; exact absurd h9 (by omega); exact ⟨h9.1, by have h8 := (zW5.ld (i := 0) (v := b58 (0 : Int32).toNatClampNeg) (a := 0) (b := 20) hb58 zc_0 rfl (by decide)); omega⟩
    refine lv_iload_n hx hb d_Model_call_27 rfl (lv_at hl 2 rfl) ?_
    refine lv_iconst (v := (-1)) hx hb d_Model_call_28 (by decide) ?_
    refine lv_icmp_ne (tgt := 46) hx hb d_Model_call_29 (by decide) (fun hc_10 => ?_) (fun hc_10 => ?_)
    · have _nhc_10 := hc_10
      have ni_11 : ¬ (b2 : Int32).toInt = ((-1) : Int32).toInt := fun z => hc_10 ((fa_eq _ _).mpr z)
      simp only [li_m1] at ni_11
      refine lv_iload_n hx hb d_Model_call_46 rfl (lv_at hl 2 rfl) ?_
      refine lv_i2l (v := b2.toInt64) hx hb d_Model_call_47 rfl ?_
      refine lv_lconst (v := 0) hx hb d_Model_call_48 (by decide) ?_
      refine lv_aload_n hx hb d_Model_call_49 rfl (lv_at hl 0 rfl) ?_
      refine lv_iload_n hx hb d_Model_call_50 rfl (lv_at hl 1 rfl) ?_
      refine z_callV (index := 203) (As := [.int b1]) (rest := [.long 0, .long b2.toInt64]) (wr := [(b19, .inl (G.2 0, 2, .inl b59)), (b20, .inl (G.2 0, 4820, .inl b60)), (b21, .inl (G.2 0, 520, .inl b61)), (b22, .inl (G.2 0, 9640, .inl b62)), (b23, .inl (G.2 0, 482, .inl b63)), (b24, .inl (G.2 0, 482, .inl b64)), (b25, .inl (G.2 0, 2, .inl b65)), (b26, .inl (G.2 0, 482, .inl b66)), (b27, .inl (G.2 0, 482, .inl b67)), (b28, .inl (G.2 0, 482, .inl b68)), (b29, .inl (G.2 0, 2, .inl b69)), (b30, .inl (G.2 0, 2880, .inl b70))]) Z (s1_Model_calls l G (b0) (b1) (0) (b5) (b6) (b7) (b8) (b9) (b10) (b11) (b12) (b13) (b14) (b15) (b16) (b17) (b18) (b19) (b20) (b21) (b22) (b23) (b24) (b25) (b26) (b27) (b28) (b29) (b30) (b31) (b32) (b33) (b34) (b35) (b36) (b37) (b38) (b39) (b40) (b41) (b42) (b43) (b44) (b45) (b46) (b47) (b48) (b49) (b50) (b51) (b52) (b53) (b54) (b55) (b56) (b57) (b58) hv_9 hb9 hb11 hb12 hb14 hb18 hb31 hb34 hb45 hb48 hb54 hb58) hl.1 q1352 q1354 qs54 q14 q1355 ⟨by decide, by decide, by show _ = some 1; decide +kernel⟩ ⟨Nat.le_of_ble_eq_true rfl, Nat.le_of_ble_eq_true rfl⟩ ⟨Nat.le_of_ble_eq_true rfl, Nat.le_of_ble_eq_true rfl⟩ rfl (Nat.le_of_ble_eq_true rfl) d_Model_call_51 hP hD hS hA 12 12 rfl rfl rfl [12, 13] [0, 1, 2, 3, 4, 5, 6, 7, 8, 9, 10, 11] rfl rfl rfl rfl (by decide) (fun v w1 H locs hw_12 hP hD hS => ?_)
      obtain ⟨x_13, rfl, rfl, hx_13, hfx_14⟩ := hw_12
      have hP : va_P G.1 classes [(b19, .inl (G.2 0, 2, .inl b59)), (b20, .inl (G.2 0, 4820, .inl b60)), (b21, .inl (G.2 0, 520, .inl b61)), (b22, .inl (G.2 0, 9640, .inl b62)), (b23, .inl (G.2 0, 482, .inl b63)), (b24, .inl (G.2 0, 482, .inl b64)), (b25, .inl (G.2 0, 2, .inl b65)), (b26, .inl (G.2 0, 482, .inl b66)), (b27, .inl (G.2 0, 482, .inl b67)), (b28, .inl (G.2 0, 482, .inl b68)), (b29, .inl (G.2 0, 2, .inl b69)), (b30, .inl (G.2 0, 2880, .inl b70)), (b0, .inr (12, [.int 0, .ref b5, .ref b6, .ref b7, .ref b8, .int b9, .ref b10, .int b11, .int b12, .int b13, .int b14, .ref b15, .ref b16, .ref b17, .int b18, .ref b19, .ref b20, .ref b21, .ref b22, .ref b23, .ref b24, .ref b25, .ref b26, .ref b27, .ref b28, .ref b29, .ref b30, .int b31, .ref b32, .ref b33, .int b34, .int b35, .int b36, .int b37, .ref b38, .ref b39, .ref b40, .ref b41, .ref b42, .ref b43, .ref b44, .int b45, .ref b46, .ref b47, .int b48, .ref b49, .ref b50, .ref b51, .ref b52, .ref b53, .int b54, .ref b55, .ref b56, .ref b57])), (b5, .inl (G.2 0, 503, .inl b58))] H := hP
      have hD := z_tie hP hD rfl
      refine W.widen (k := 0) (n := 0) (Nat.le_of_ble_eq_true rfl) (Nat.le_of_ble_eq_true rfl) ?_
      refine lv_i2l (v := x_13.toInt64) hx hb d_Model_call_54 rfl ?_
      refine lv_lconst (v := 1) hx hb d_Model_call_55 (by decide) ?_
      refine lv_lsub hx hb d_Model_call_56 ?_
      refine lv_topl (fun v_15 ev_15 => ?_)
      obtain ⟨qv_15, hv_15⟩ := zJ_sub (l := -1) (h := 11) (zI_i2l hx_13 rfl).2 zcl_1 ev_15 (by decide)
      try simp only [Int32.toInt_toInt64, ll_1] at qv_15
      refine z_callS (index := 138) (As := [.long b2.toInt64, .long 0, .long v_15]) (rest := []) (wr := [(b19, .inl (G.2 0, 2, .inl b59)), (b20, .inl (G.2 0, 4820, .inl b60)), (b21, .inl (G.2 0, 520, .inl b61)), (b22, .inl (G.2 0, 9640, .inl b62)), (b23, .inl (G.2 0, 482, .inl b63)), (b24, .inl (G.2 0, 482, .inl b64)), (b25, .inl (G.2 0, 2, .inl b65)), (b26, .inl (G.2 0, 482, .inl b66)), (b27, .inl (G.2 0, 482, .inl b67)), (b28, .inl (G.2 0, 482, .inl b68)), (b29, .inl (G.2 0, 2, .inl b69)), (b30, .inl (G.2 0, 2880, .inl b70)), (b0, .inr (12, [.int 0, .ref b5, .ref b6, .ref b7, .ref b8, .int b9, .ref b10, .int b11, .int b12, .int b13, .int b14, .ref b15, .ref b16, .ref b17, .int b18, .ref b19, .ref b20, .ref b21, .ref b22, .ref b23, .ref b24, .ref b25, .ref b26, .ref b27, .ref b28, .ref b29, .ref b30, .int b31, .ref b32, .ref b33, .int b34, .int b35, .int b36, .int b37, .ref b38, .ref b39, .ref b40, .ref b41, .ref b42, .ref b43, .ref b44, .int b45, .ref b46, .ref b47, .int b48, .ref b49, .ref b50, .ref b51, .ref b52, .ref b53, .int b54, .ref b55, .ref b56, .ref b57])), (b5, .inl (G.2 0, 503, .inl b58))]) Z (s2_Model_in l G (b2.toInt64) (0) (v_15)) hl.1 q1281 q1282 q14 q1283 ⟨by decide, by decide, by show _ = some 3; decide +kernel⟩ ⟨Nat.le_of_ble_eq_true rfl, Nat.le_of_ble_eq_true rfl⟩ ⟨Nat.le_of_ble_eq_true rfl, Nat.le_of_ble_eq_true rfl⟩ rfl (Nat.le_of_ble_eq_true rfl) d_Model_call_57 hP hD hS hA [] [0, 1, 2, 3, 4, 5, 6, 7, 8, 9, 10, 11, 12, 13] rfl rfl rfl rfl (by decide) (fun v w1 H locs hw_16 hP hD hS => ?_)
      rcases hw_16 with ⟨rfl, rfl, hq_17⟩ | ⟨rfl, rfl, hq_18, hq_19⟩ | ⟨rfl, rfl, hq_20, hq_21⟩
      · have hP : va_P G.1 classes [(b19, .inl (G.2 0, 2, .inl b59)), (b20, .inl (G.2 0, 4820, .inl b60)), (b21, .inl (G.2 0, 520, .inl b61)), (b22, .inl (G.2 0, 9640, .inl b62)), (b23, .inl (G.2 0, 482, .inl b63)), (b24, .inl (G.2 0, 482, .inl b64)), (b25, .inl (G.2 0, 2, .inl b65)), (b26, .inl (G.2 0, 482, .inl b66)), (b27, .inl (G.2 0, 482, .inl b67)), (b28, .inl (G.2 0, 482, .inl b68)), (b29, .inl (G.2 0, 2, .inl b69)), (b30, .inl (G.2 0, 2880, .inl b70)), (b0, .inr (12, [.int 0, .ref b5, .ref b6, .ref b7, .ref b8, .int b9, .ref b10, .int b11, .int b12, .int b13, .int b14, .ref b15, .ref b16, .ref b17, .int b18, .ref b19, .ref b20, .ref b21, .ref b22, .ref b23, .ref b24, .ref b25, .ref b26, .ref b27, .ref b28, .ref b29, .ref b30, .int b31, .ref b32, .ref b33, .int b34, .int b35, .int b36, .int b37, .ref b38, .ref b39, .ref b40, .ref b41, .ref b42, .ref b43, .ref b44, .int b45, .ref b46, .ref b47, .int b48, .ref b49, .ref b50, .ref b51, .ref b52, .ref b53, .int b54, .ref b55, .ref b56, .ref b57])), (b5, .inl (G.2 0, 503, .inl b58))] H := hP
        have hD := z_tie hP hD rfl
        try simp only [Int32.toInt_toInt64, ll_0] at hq_17
        have hv_22 : zI b2 (-2147483648) (-1) := by have _a := hq_17; have _b := (zI_all b2); have _c := zcl_0; simp only [Int32.toInt_toInt64] at *; exact ⟨by omega, by omega⟩
        refine W.widen (k := 0) (n := 0) (Nat.le_of_ble_eq_true rfl) (Nat.le_of_ble_eq_true rfl) ?_
        refine lv_if_ne (tgt := 65) hx hb d_Model_call_60 (by decide) (fun hc => absurd hc (by decide +kernel)) (fun _ => ?_)
        refine lv_iconst (v := (-1)) hx hb d_Model_call_63 (by decide) ?_
        exact z_iret hx hb hr hlocks (hP.sub [12, 13, 0, 1, 2, 3, 4, 5, 6, 7, 8, 9, 10, 11] rfl) (hD.sub [12, 13, 0, 1, 2, 3, 4, 5, 6, 7, 8, 9, 10, 11] (by decide) rfl) hS (Nat.le_of_ble_eq_true rfl) (Nat.le_of_ble_eq_true rfl) d_Model_call_64 ⟨(-1), 0, b31, b59, b60, b61, b62, b63, b64, b65, b66, b67, b68, b69, b70, rfl, rfl, (zI.wk (l' := 0) (h' := 1) zc_0 (by decide)), hb31, hb59, hb60, hb61, hb63, hb64, hb65, hb66, hb69, hb70⟩
      · have hP : va_P G.1 classes [(b19, .inl (G.2 0, 2, .inl b59)), (b20, .inl (G.2 0, 4820, .inl b60)), (b21, .inl (G.2 0, 520, .inl b61)), (b22, .inl (G.2 0, 9640, .inl b62)), (b23, .inl (G.2 0, 482, .inl b63)), (b24, .inl (G.2 0, 482, .inl b64)), (b25, .inl (G.2 0, 2, .inl b65)), (b26, .inl (G.2 0, 482, .inl b66)), (b27, .inl (G.2 0, 482, .inl b67)), (b28, .inl (G.2 0, 482, .inl b68)), (b29, .inl (G.2 0, 2, .inl b69)), (b30, .inl (G.2 0, 2880, .inl b70)), (b0, .inr (12, [.int 0, .ref b5, .ref b6, .ref b7, .ref b8, .int b9, .ref b10, .int b11, .int b12, .int b13, .int b14, .ref b15, .ref b16, .ref b17, .int b18, .ref b19, .ref b20, .ref b21, .ref b22, .ref b23, .ref b24, .ref b25, .ref b26, .ref b27, .ref b28, .ref b29, .ref b30, .int b31, .ref b32, .ref b33, .int b34, .int b35, .int b36, .int b37, .ref b38, .ref b39, .ref b40, .ref b41, .ref b42, .ref b43, .ref b44, .int b45, .ref b46, .ref b47, .int b48, .ref b49, .ref b50, .ref b51, .ref b52, .ref b53, .int b54, .ref b55, .ref b56, .ref b57])), (b5, .inl (G.2 0, 503, .inl b58))] H := hP
        have hD := z_tie hP hD rfl
        try simp only [Int32.toInt_toInt64, ll_0] at hq_18
        have hv_23 : zI b2 0 2147483647 := by have _a := hq_18; have _b := (zI_all b2); have _c := zcl_0; simp only [Int32.toInt_toInt64] at *; exact ⟨by omega, by omega⟩
        try simp only [Int32.toInt_toInt64] at hq_19
        refine W.widen (k := 0) (n := 0) (Nat.le_of_ble_eq_true rfl) (Nat.le_of_ble_eq_true rfl) ?_
        refine lv_if_ne (tgt := 65) hx hb d_Model_call_60 (by decide) (fun hc => absurd hc (by decide +kernel)) (fun _ => ?_)
        refine lv_iconst (v := (-1)) hx hb d_Model_call_63 (by decide) ?_
        exact z_iret hx hb hr hlocks (hP.sub [12, 13, 0, 1, 2, 3, 4, 5, 6, 7, 8, 9, 10, 11] rfl) (hD.sub [12, 13, 0, 1, 2, 3, 4, 5, 6, 7, 8, 9, 10, 11] (by decide) rfl) hS (Nat.le_of_ble_eq_true rfl) (Nat.le_of_ble_eq_true rfl) d_Model_call_64 ⟨(-1), 0, b31, b59, b60, b61, b62, b63, b64, b65, b66, b67, b68, b69, b70, rfl, rfl, (zI.wk (l' := 0) (h' := 1) zc_0 (by decide)), hb31, hb59, hb60, hb61, hb63, hb64, hb65, hb66, hb69, hb70⟩
      · have hP : va_P G.1 classes [(b19, .inl (G.2 0, 2, .inl b59)), (b20, .inl (G.2 0, 4820, .inl b60)), (b21, .inl (G.2 0, 520, .inl b61)), (b22, .inl (G.2 0, 9640, .inl b62)), (b23, .inl (G.2 0, 482, .inl b63)), (b24, .inl (G.2 0, 482, .inl b64)), (b25, .inl (G.2 0, 2, .inl b65)), (b26, .inl (G.2 0, 482, .inl b66)), (b27, .inl (G.2 0, 482, .inl b67)), (b28, .inl (G.2 0, 482, .inl b68)), (b29, .inl (G.2 0, 2, .inl b69)), (b30, .inl (G.2 0, 2880, .inl b70)), (b0, .inr (12, [.int 0, .ref b5, .ref b6, .ref b7, .ref b8, .int b9, .ref b10, .int b11, .int b12, .int b13, .int b14, .ref b15, .ref b16, .ref b17, .int b18, .ref b19, .ref b20, .ref b21, .ref b22, .ref b23, .ref b24, .ref b25, .ref b26, .ref b27, .ref b28, .ref b29, .ref b30, .int b31, .ref b32, .ref b33, .int b34, .int b35, .int b36, .int b37, .ref b38, .ref b39, .ref b40, .ref b41, .ref b42, .ref b43, .ref b44, .int b45, .ref b46, .ref b47, .int b48, .ref b49, .ref b50, .ref b51, .ref b52, .ref b53, .int b54, .ref b55, .ref b56, .ref b57])), (b5, .inl (G.2 0, 503, .inl b58))] H := hP
        have hD := z_tie hP hD rfl
        try simp only [Int32.toInt_toInt64, ll_0] at hq_20
        have hv_24 : zI b2 0 2147483647 := by have _a := hq_20; have _b := (zI_all b2); have _c := zcl_0; simp only [Int32.toInt_toInt64] at *; exact ⟨by omega, by omega⟩
        try simp only [Int32.toInt_toInt64] at hq_21
        have hv_25 : zI b2 0 11 := by have _a := hq_21; have _b := hv_24; have _c := hv_15; simp only [Int32.toInt_toInt64] at *; exact ⟨by omega, by omega⟩
        have hv_26 : zJ v_15 0 11 := by have _a := hq_21; have _b := hv_15; have _c := (zI_i2l hv_25 rfl).2; simp only [Int32.toInt_toInt64] at *; exact ⟨by omega, by omega⟩
        refine W.widen (k := 0) (n := 0) (Nat.le_of_ble_eq_true rfl) (Nat.le_of_ble_eq_true rfl) ?_
        refine lv_if_ne (tgt := 65) hx hb d_Model_call_60 (by decide) (fun _ => ?_) (fun hc => absurd hc (by decide +kernel))
        refine lv_aload_n hx hb d_Model_call_65 rfl (lv_at hl 0 rfl) ?_
        refine z_callV (index := 254) (As := []) (rest := []) (wr := []) Z (s1_Model_lay1 l G (b0) (0) (b5) (b6) (b7) (b8) (b9) (b10) (b11) (b12) (b13) (b14) (b15) (b16) (b17) (b18) (b19) (b20) (b21) (b22) (b23) (b24) (b25) (b26) (b27) (b28) (b29) (b30) (b31) (b32) (b33) (b34) (b35) (b36) (b37) (b38) (b39) (b40) (b41) (b42) (b43) (b44) (b45) (b46) (b47) (b48) (b49) (b50) (b51) (b52) (b53) (b54) (b55) (b56) (b57) (b58) (b59) (b60) (b61) (b62) (b63) (b64) (b65) (b66) (b67) (b68) (b69) (b70) hb9 hb11 hb12 hb14 hb18 hb31 hb34 hb45 hb48 hb54 hb58 hb59 hb60 hb61 hb63 hb64 hb65 hb66 hb69 hb70) hl.1 q1356 q1358 qs55 q14 q1359 ⟨by decide, by decide, by show _ = some 0; decide +kernel⟩ ⟨Nat.le_of_ble_eq_true rfl, Nat.le_of_ble_eq_true rfl⟩ ⟨Nat.le_of_ble_eq_true rfl, Nat.le_of_ble_eq_true rfl⟩ rfl (Nat.le_of_ble_eq_true rfl) d_Model_call_66 hP hD hS hA 12 12 rfl rfl rfl [12, 13, 0, 1, 2, 3, 4, 5, 6, 7, 8, 9, 10, 11] [] rfl rfl rfl rfl (by decide) (fun v w1 H locs hw_27 hP hD hS => ?_)
        refine Exists.elim hw_27 (fun x_28 hz_42 => Exists.elim hz_42 (fun f_29 hz_43 => Exists.elim hz_43 (fun f_30 hz_44 => Exists.elim hz_44 (fun f_31 hz_45 => Exists.elim hz_45 (fun f_32 hz_46 => Exists.elim hz_46 (fun f_33 hz_47 => Exists.elim hz_47 (fun f_34 hz_48 => Exists.elim hz_48 (fun f_35 hz_49 => Exists.elim hz_49 (fun f_36 hz_50 => Exists.elim hz_50 (fun f_37 hz_51 => Exists.elim hz_51 (fun f_38 hz_52 => Exists.elim hz_52 (fun f_39 hz_53 => Exists.elim hz_53 (fun f_40 hz_54 => ?_)))))))))))))
        clear hw_27 hz_42 hz_43 hz_44 hz_45 hz_46 hz_47 hz_48 hz_49 hz_50 hz_51 hz_52 hz_53
        obtain ⟨rfl, rfl, hx_28, hf_29, hf_30, hf_31, hf_33, hf_34, hf_35, hf_36, hf_39, hf_40, hfx_41⟩ := hz_54
        have hP : va_P G.1 classes [(b0, .inr (12, [.int 0, .ref b5, .ref b6, .ref b7, .ref b8, .int b9, .ref b10, .int b11, .int b12, .int b13, .int b14, .ref b15, .ref b16, .ref b17, .int b18, .ref b19, .ref b20, .ref b21, .ref b22, .ref b23, .ref b24, .ref b25, .ref b26, .ref b27, .ref b28, .ref b29, .ref b30, .int x_28, .ref b32, .ref b33, .int b34, .int b35, .int b36, .int b37, .ref b38, .ref b39, .ref b40, .ref b41, .ref b42, .ref b43, .ref b44, .int b45, .ref b46, .ref b47, .int b48, .ref b49, .ref b50, .ref b51, .ref b52, .ref b53, .int b54, .ref b55, .ref b56, .ref b57])), (b5, .inl (G.2 0, 503, .inl b58)), (b19, .inl (G.2 0, 2, .inl f_29)), (b20, .inl (G.2 0, 4820, .inl f_30)), (b21, .inl (G.2 0, 520, .inl f_31)), (b22, .inl (G.2 0, 9640, .inl f_32)), (b23, .inl (G.2 0, 482, .inl f_33)), (b24, .inl (G.2 0, 482, .inl f_34)), (b25, .inl (G.2 0, 2, .inl f_35)), (b26, .inl (G.2 0, 482, .inl f_36)), (b27, .inl (G.2 0, 482, .inl f_37)), (b28, .inl (G.2 0, 482, .inl f_38)), (b29, .inl (G.2 0, 2, .inl f_39)), (b30, .inl (G.2 0, 2880, .inl f_40))] H := hP
        have hD := z_tie hP hD rfl
        refine W.widen (k := 0) (n := 0) (Nat.le_of_ble_eq_true rfl) (Nat.le_of_ble_eq_true rfl) ?_
        refine lv_iload_n hx hb d_Model_call_69 rfl (lv_at hl 3 rfl) ?_
        by_cases hs_55 : b3 = 0
        · subst hs_55
          refine lv_tableIn (off := 30) (tgt := 100) hx hb d_Model_call_70 (by decide +kernel) (by decide +kernel) rfl (by decide) ?_
          refine lv_bipush (v := 97) hx hb d_Model_call_100 (by decide) ?_
          refine lv_aload_n hx hb d_Model_call_102 rfl (lv_at hl 0 rfl) ?_
          refine lv_iload_n hx hb d_Model_call_103 rfl (lv_at hl 1 rfl) ?_
          refine lv_iload_n hx hb d_Model_call_104 rfl (lv_at hl 2 rfl) ?_
          refine z_callV (index := 207) (As := [.int b1, .int b2]) (rest := [.int 97]) (wr := [(b19, .inl (G.2 0, 2, .inl f_29)), (b20, .inl (G.2 0, 4820, .inl f_30)), (b21, .inl (G.2 0, 520, .inl f_31)), (b22, .inl (G.2 0, 9640, .inl f_32)), (b23, .inl (G.2 0, 482, .inl f_33)), (b24, .inl (G.2 0, 482, .inl f_34)), (b25, .inl (G.2 0, 2, .inl f_35)), (b26, .inl (G.2 0, 482, .inl f_36)), (b27, .inl (G.2 0, 482, .inl f_37)), (b28, .inl (G.2 0, 482, .inl f_38)), (b29, .inl (G.2 0, 2, .inl f_39)), (b30, .inl (G.2 0, 2880, .inl f_40))]) Z (s1_Model_letterAt l G (b0) (b1) (b2) (0) (b5) (b6) (b7) (b8) (b9) (b10) (b11) (b12) (b13) (b14) (b15) (b16) (b17) (b18) (b19) (b20) (b21) (b22) (b23) (b24) (b25) (b26) (b27) (b28) (b29) (b30) (x_28) (b32) (b33) (b34) (b35) (b36) (b37) (b38) (b39) (b40) (b41) (b42) (b43) (b44) (b45) (b46) (b47) (b48) (b49) (b50) (b51) (b52) (b53) (b54) (b55) (b56) (b57) (b58) hv_9 hv_25 hb9 hb11 hb12 hb14 hb18 hx_28 hb34 hb45 hb48 hb54 hb58) hl.1 q1372 q1374 qs59 q14 q1375 ⟨by decide, by decide, by show _ = some 2; decide +kernel⟩ ⟨Nat.le_of_ble_eq_true rfl, Nat.le_of_ble_eq_true rfl⟩ ⟨Nat.le_of_ble_eq_true rfl, Nat.le_of_ble_eq_true rfl⟩ rfl (Nat.le_of_ble_eq_true rfl) d_Model_call_105 hP hD hS hA 0 12 rfl rfl rfl [0, 1] [2, 3, 4, 5, 6, 7, 8, 9, 10, 11, 12, 13] rfl rfl rfl rfl (by decide) (fun v w1 H locs hw_56 hP hD hS => ?_)
          obtain ⟨x_57, rfl, rfl, hx_57⟩ := hw_56
          have hP : va_P G.1 classes [(b19, .inl (G.2 0, 2, .inl f_29)), (b20, .inl (G.2 0, 4820, .inl f_30)), (b21, .inl (G.2 0, 520, .inl f_31)), (b22, .inl (G.2 0, 9640, .inl f_32)), (b23, .inl (G.2 0, 482, .inl f_33)), (b24, .inl (G.2 0, 482, .inl f_34)), (b25, .inl (G.2 0, 2, .inl f_35)), (b26, .inl (G.2 0, 482, .inl f_36)), (b27, .inl (G.2 0, 482, .inl f_37)), (b28, .inl (G.2 0, 482, .inl f_38)), (b29, .inl (G.2 0, 2, .inl f_39)), (b30, .inl (G.2 0, 2880, .inl f_40)), (b0, .inr (12, [.int 0, .ref b5, .ref b6, .ref b7, .ref b8, .int b9, .ref b10, .int b11, .int b12, .int b13, .int b14, .ref b15, .ref b16, .ref b17, .int b18, .ref b19, .ref b20, .ref b21, .ref b22, .ref b23, .ref b24, .ref b25, .ref b26, .ref b27, .ref b28, .ref b29, .ref b30, .int x_28, .ref b32, .ref b33, .int b34, .int b35, .int b36, .int b37, .ref b38, .ref b39, .ref b40, .ref b41, .ref b42, .ref b43, .ref b44, .int b45, .ref b46, .ref b47, .int b48, .ref b49, .ref b50, .ref b51, .ref b52, .ref b53, .int b54, .ref b55, .ref b56, .ref b57])), (b5, .inl (G.2 0, 503, .inl b58))] H := hP
          have hD := z_tie hP hD rfl
          refine W.widen (k := 0) (n := 0) (Nat.le_of_ble_eq_true rfl) (Nat.le_of_ble_eq_true rfl) ?_
          refine lv_iadd hx hb d_Model_call_108 ?_
          refine lv_topi (fun v_58 ev_58 => ?_)
          obtain ⟨qv_58, hv_58⟩ := zI_add (l := 97) (h := 106) zc_97 hx_57 ev_58 (by decide)
          rw [li_97] at qv_58
          exact z_iret hx hb hr hlocks (hP.sub [12, 13, 0, 1, 2, 3, 4, 5, 6, 7, 8, 9, 10, 11] rfl) (hD.sub [12, 13, 0, 1, 2, 3, 4, 5, 6, 7, 8, 9, 10, 11] (by decide) rfl) hS (Nat.le_of_ble_eq_true rfl) (Nat.le_of_ble_eq_true rfl) d_Model_call_109 ⟨v_58, 0, x_28, f_29, f_30, f_31, f_32, f_33, f_34, f_35, f_36, f_37, f_38, f_39, f_40, rfl, rfl, (zI.wk (l' := 0) (h' := 1) zc_0 (by decide)), hx_28, hf_29, hf_30, hf_31, hf_33, hf_34, hf_35, hf_36, hf_39, hf_40⟩
        simp only [fa_lt, fa_le, fa_eq, Int32.toInt_toInt64, li_0] at hs_55
        by_cases hs_59 : b3 = 1
        · subst hs_59
          refine lv_tableIn (off := 40) (tgt := 110) hx hb d_Model_call_70 (by decide +kernel) (by decide +kernel) rfl (by decide) ?_
          refine lv_aload_n hx hb d_Model_call_110 rfl (lv_at hl 0 rfl) ?_
          refine lv_iload_n hx hb d_Model_call_111 rfl (lv_at hl 1 rfl) ?_
          refine lv_iload_n hx hb d_Model_call_112 rfl (lv_at hl 2 rfl) ?_
          refine z_callV (index := 238) (As := [.int b1, .int b2]) (rest := []) (wr := [(b19, .inl (G.2 0, 2, .inl f_29)), (b20, .inl (G.2 0, 4820, .inl f_30)), (b21, .inl (G.2 0, 520, .inl f_31)), (b22, .inl (G.2 0, 9640, .inl f_32)), (b23, .inl (G.2 0, 482, .inl f_33)), (b24, .inl (G.2 0, 482, .inl f_34)), (b25, .inl (G.2 0, 2, .inl f_35)), (b26, .inl (G.2 0, 482, .inl f_36)), (b27, .inl (G.2 0, 482, .inl f_37)), (b28, .inl (G.2 0, 482, .inl f_38)), (b29, .inl (G.2 0, 2, .inl f_39)), (b30, .inl (G.2 0, 2880, .inl f_40))]) Z (s1_Model_valueAt l G (b0) (b1) (b2) (0) (b5) (b6) (b7) (b8) (b9) (b10) (b11) (b12) (b13) (b14) (b15) (b16) (b17) (b18) (b19) (b20) (b21) (b22) (b23) (b24) (b25) (b26) (b27) (b28) (b29) (b30) (x_28) (b32) (b33) (b34) (b35) (b36) (b37) (b38) (b39) (b40) (b41) (b42) (b43) (b44) (b45) (b46) (b47) (b48) (b49) (b50) (b51) (b52) (b53) (b54) (b55) (b56) (b57) (b58) hv_9 hv_25 hb9 hb11 hb12 hb14 hb18 hx_28 hb34 hb45 hb48 hb54 hb58) hl.1 q1412 q1414 qs69 q14 q1415 ⟨by decide, by decide, by show _ = some 2; decide +kernel⟩ ⟨Nat.le_of_ble_eq_true rfl, Nat.le_of_ble_eq_true rfl⟩ ⟨Nat.le_of_ble_eq_true rfl, Nat.le_of_ble_eq_true rfl⟩ rfl (Nat.le_of_ble_eq_true rfl) d_Model_call_113 hP hD hS hA 0 12 rfl rfl rfl [0, 1] [2, 3, 4, 5, 6, 7, 8, 9, 10, 11, 12, 13] rfl rfl rfl rfl (by decide) (fun v w1 H locs hw_60 hP hD hS => ?_)
          obtain ⟨x_61, rfl, rfl⟩ := hw_60
          have hP : va_P G.1 classes [(b19, .inl (G.2 0, 2, .inl f_29)), (b20, .inl (G.2 0, 4820, .inl f_30)), (b21, .inl (G.2 0, 520, .inl f_31)), (b22, .inl (G.2 0, 9640, .inl f_32)), (b23, .inl (G.2 0, 482, .inl f_33)), (b24, .inl (G.2 0, 482, .inl f_34)), (b25, .inl (G.2 0, 2, .inl f_35)), (b26, .inl (G.2 0, 482, .inl f_36)), (b27, .inl (G.2 0, 482, .inl f_37)), (b28, .inl (G.2 0, 482, .inl f_38)), (b29, .inl (G.2 0, 2, .inl f_39)), (b30, .inl (G.2 0, 2880, .inl f_40)), (b0, .inr (12, [.int 0, .ref b5, .ref b6, .ref b7, .ref b8, .int b9, .ref b10, .int b11, .int b12, .int b13, .int b14, .ref b15, .ref b16, .ref b17, .int b18, .ref b19, .ref b20, .ref b21, .ref b22, .ref b23, .ref b24, .ref b25, .ref b26, .ref b27, .ref b28, .ref b29, .ref b30, .int x_28, .ref b32, .ref b33, .int b34, .int b35, .int b36, .int b37, .ref b38, .ref b39, .ref b40, .ref b41, .ref b42, .ref b43, .ref b44, .int b45, .ref b46, .ref b47, .int b48, .ref b49, .ref b50, .ref b51, .ref b52, .ref b53, .int b54, .ref b55, .ref b56, .ref b57])), (b5, .inl (G.2 0, 503, .inl b58))] H := hP
          have hD := z_tie hP hD rfl
          refine W.widen (k := 0) (n := 0) (Nat.le_of_ble_eq_true rfl) (Nat.le_of_ble_eq_true rfl) ?_
          exact z_iret hx hb hr hlocks (hP.sub [12, 13, 0, 1, 2, 3, 4, 5, 6, 7, 8, 9, 10, 11] rfl) (hD.sub [12, 13, 0, 1, 2, 3, 4, 5, 6, 7, 8, 9, 10, 11] (by decide) rfl) hS (Nat.le_of_ble_eq_true rfl) (Nat.le_of_ble_eq_true rfl) d_Model_call_116 ⟨x_61, 0, x_28, f_29, f_30, f_31, f_32, f_33, f_34, f_35, f_36, f_37, f_38, f_39, f_40, rfl, rfl, (zI.wk (l' := 0) (h' := 1) zc_0 (by decide)), hx_28, hf_29, hf_30, hf_31, hf_33, hf_34, hf_35, hf_36, hf_39, hf_40⟩
        simp only [fa_lt, fa_le, fa_eq, Int32.toInt_toInt64, li_1] at hs_59
        by_cases hs_62 : b3 = 2
        · subst hs_62
          refine lv_tableIn (off := 47) (tgt := 117) hx hb d_Model_call_70 (by decide +kernel) (by decide +kernel) rfl (by decide) ?_
          refine lv_aload_n hx hb d_Model_call_117 rfl (lv_at hl 0 rfl) ?_
          refine lv_iconst (v := 0) hx hb d_Model_call_118 (by decide) ?_
          refine lv_iload_n hx hb d_Model_call_119 rfl (lv_at hl 1 rfl) ?_
          refine lv_iload_n hx hb d_Model_call_120 rfl (lv_at hl 2 rfl) ?_
          refine lv_iconst (v := 1) hx hb d_Model_call_121 (by decide) ?_
          refine lv_iadd hx hb d_Model_call_122 ?_
          refine lv_topi (fun v_63 ev_63 => ?_)
          obtain ⟨qv_63, hv_63⟩ := zI_add (l := 1) (h := 12) hv_25 zc_1 ev_63 (by decide)
          rw [li_1] at qv_63
          refine z_callV (index := 211) (As := [.int 0, .int b1, .int v_63]) (rest := []) (wr := [(b5, .inl (G.2 0, 503, .inl b58)), (b19, .inl (G.2 0, 2, .inl f_29)), (b20, .inl (G.2 0, 4820, .inl f_30)), (b22, .inl (G.2 0, 9640, .inl f_32)), (b23, .inl (G.2 0, 482, .inl f_33)), (b24, .inl (G.2 0, 482, .inl f_34)), (b25, .inl (G.2 0, 2, .inl f_35)), (b26, .inl (G.2 0, 482, .inl f_36)), (b27, .inl (G.2 0, 482, .inl f_37)), (b28, .inl (G.2 0, 482, .inl f_38)), (b29, .inl (G.2 0, 2, .inl f_39)), (b30, .inl (G.2 0, 2880, .inl f_40))]) Z (s1_Model_pathOf l G (b0) (b1) (v_63) (0) (b5) (b6) (b7) (b8) (b9) (b10) (b11) (b12) (b13) (b14) (b15) (b16) (b17) (b18) (b19) (b20) (b21) (b22) (b23) (b24) (b25) (b26) (b27) (b28) (b29) (b30) (x_28) (b32) (b33) (b34) (b35) (b36) (b37) (b38) (b39) (b40) (b41) (b42) (b43) (b44) (b45) (b46) (b47) (b48) (b49) (b50) (b51) (b52) (b53) (b54) (b55) (b56) (b57) (f_31) hv_9 (zI.wk (l' := 0) (h' := 12) hv_63 (by decide)) hb9 hb11 hb12 hb14 hb18 hx_28 hb34 hb45 hb48 hb54 hf_31) hl.1 q1380 q1382 qs61 q14 q1383 ⟨by decide, by decide, by show _ = some 3; decide +kernel⟩ ⟨Nat.le_of_ble_eq_true rfl, Nat.le_of_ble_eq_true rfl⟩ ⟨Nat.le_of_ble_eq_true rfl, Nat.le_of_ble_eq_true rfl⟩ rfl (Nat.le_of_ble_eq_true rfl) d_Model_call_123 hP hD hS hA 0 12 rfl rfl rfl [0, 4] [1, 2, 3, 5, 6, 7, 8, 9, 10, 11, 12, 13] rfl rfl rfl rfl (by decide) (fun v w1 H locs hw_64 hP hD hS => ?_)
          obtain ⟨x_65, rfl, rfl, hx_65, hfx_66, hfx_67⟩ := hw_64
          have hP : va_P G.1 classes [(b5, .inl (G.2 0, 503, .inl b58)), (b19, .inl (G.2 0, 2, .inl f_29)), (b20, .inl (G.2 0, 4820, .inl f_30)), (b22, .inl (G.2 0, 9640, .inl f_32)), (b23, .inl (G.2 0, 482, .inl f_33)), (b24, .inl (G.2 0, 482, .inl f_34)), (b25, .inl (G.2 0, 2, .inl f_35)), (b26, .inl (G.2 0, 482, .inl f_36)), (b27, .inl (G.2 0, 482, .inl f_37)), (b28, .inl (G.2 0, 482, .inl f_38)), (b29, .inl (G.2 0, 2, .inl f_39)), (b30, .inl (G.2 0, 2880, .inl f_40)), (b0, .inr (12, [.int 0, .ref b5, .ref b6, .ref b7, .ref b8, .int b9, .ref b10, .int b11, .int b12, .int b13, .int b14, .ref b15, .ref b16, .ref b17, .int b18, .ref b19, .ref b20, .ref b21, .ref b22, .ref b23, .ref b24, .ref b25, .ref b26, .ref b27, .ref b28, .ref b29, .ref b30, .int x_28, .ref b32, .ref b33, .int b34, .int b35, .int b36, .int b37, .ref b38, .ref b39, .ref b40, .ref b41, .ref b42, .ref b43, .ref b44, .int b45, .ref b46, .ref b47, .int b48, .ref b49, .ref b50, .ref b51, .ref b52, .ref b53, .int b54, .ref b55, .ref b56, .ref b57])), (b21, .inl (G.2 0, 520, .inl f_31))] H := hP
          have hD := z_tie hP hD rfl
          refine W.widen (k := 0) (n := 0) (Nat.le_of_ble_eq_true rfl) (Nat.le_of_ble_eq_true rfl) ?_
          exact z_iret hx hb hr hlocks (hP.sub [12, 0, 1, 2, 13, 3, 4, 5, 6, 7, 8, 9, 10, 11] rfl) (hD.sub [12, 0, 1, 2, 13, 3, 4, 5, 6, 7, 8, 9, 10, 11] (by decide) rfl) hS (Nat.le_of_ble_eq_true rfl) (Nat.le_of_ble_eq_true rfl) d_Model_call_126 ⟨x_65, 0, x_28, f_29, f_30, f_31, f_32, f_33, f_34, f_35, f_36, f_37, f_38, f_39, f_40, rfl, rfl, (zI.wk (l' := 0) (h' := 1) zc_0 (by decide)), hx_28, hf_29, hf_30, hf_31, hf_33, hf_34, hf_35, hf_36, hf_39, hf_40⟩
        simp only [fa_lt, fa_le, fa_eq, Int32.toInt_toInt64, li_2] at hs_62
        by_cases hs_68 : b3 = 3
        · subst hs_68
          refine lv_tableIn (off := 57) (tgt := 127) hx hb d_Model_call_70 (by decide +kernel) (by decide +kernel) rfl (by decide) ?_
          refine lv_aload_n hx hb d_Model_call_127 rfl (lv_at hl 0 rfl) ?_
          refine lv_iconst (v := 0) hx hb d_Model_call_128 (by decide) ?_
          refine lv_iload_n hx hb d_Model_call_129 rfl (lv_at hl 1 rfl) ?_
          refine lv_iload_n hx hb d_Model_call_130 rfl (lv_at hl 2 rfl) ?_
          refine lv_iconst (v := 1) hx hb d_Model_call_131 (by decide) ?_
          refine lv_iadd hx hb d_Model_call_132 ?_
          refine lv_topi (fun v_69 ev_69 => ?_)
          obtain ⟨qv_69, hv_69⟩ := zI_add (l := 1) (h := 12) hv_25 zc_1 ev_69 (by decide)
          rw [li_1] at qv_69
          refine z_callV (index := 231) (As := [.int 0, .int b1, .int v_69]) (rest := []) (wr := [(b5, .inl (G.2 0, 503, .inl b58)), (b19, .inl (G.2 0, 2, .inl f_29)), (b20, .inl (G.2 0, 4820, .inl f_30)), (b22, .inl (G.2 0, 9640, .inl f_32)), (b23, .inl (G.2 0, 482, .inl f_33)), (b25, .inl (G.2 0, 2, .inl f_35)), (b26, .inl (G.2 0, 482, .inl f_36)), (b27, .inl (G.2 0, 482, .inl f_37)), (b28, .inl (G.2 0, 482, .inl f_38)), (b29, .inl (G.2 0, 2, .inl f_39)), (b30, .inl (G.2 0, 2880, .inl f_40))]) Z (s1_Model_stateAt l G (b0) (b1) (v_69) (0) (b5) (b6) (b7) (b8) (b9) (b10) (b11) (b12) (b13) (b14) (b15) (b16) (b17) (b18) (b19) (b20) (b21) (b22) (b23) (b24) (b25) (b26) (b27) (b28) (b29) (b30) (x_28) (b32) (b33) (b34) (b35) (b36) (b37) (b38) (b39) (b40) (b41) (b42) (b43) (b44) (b45) (b46) (b47) (b48) (b49) (b50) (b51) (b52) (b53) (b54) (b55) (b56) (b57) (f_31) (f_34) hv_9 (zI.wk (l' := 0) (h' := 12) hv_69 (by decide)) hb9 hb11 hb12 hb14 hb18 hx_28 hb34 hb45 hb48 hb54 hf_31 hf_34) hl.1 q1400 q1402 qs66 q14 q1403 ⟨by decide, by decide, by show _ = some 3; decide +kernel⟩ ⟨Nat.le_of_ble_eq_true rfl, Nat.le_of_ble_eq_true rfl⟩ ⟨Nat.le_of_ble_eq_true rfl, Nat.le_of_ble_eq_true rfl⟩ rfl (Nat.le_of_ble_eq_true rfl) d_Model_call_133 hP hD hS hA 0 12 rfl rfl rfl [0, 4, 7] [1, 2, 3, 5, 6, 8, 9, 10, 11, 12, 13] rfl rfl rfl rfl (by decide) (fun v w1 H locs hw_70 hP hD hS => ?_)
          obtain ⟨x_71, rfl, rfl, hx_71, hfx_72⟩ := hw_70
          have hP : va_P G.1 classes [(b5, .inl (G.2 0, 503, .inl b58)), (b19, .inl (G.2 0, 2, .inl f_29)), (b20, .inl (G.2 0, 4820, .inl f_30)), (b22, .inl (G.2 0, 9640, .inl f_32)), (b23, .inl (G.2 0, 482, .inl f_33)), (b25, .inl (G.2 0, 2, .inl f_35)), (b26, .inl (G.2 0, 482, .inl f_36)), (b27, .inl (G.2 0, 482, .inl f_37)), (b28, .inl (G.2 0, 482, .inl f_38)), (b29, .inl (G.2 0, 2, .inl f_39)), (b30, .inl (G.2 0, 2880, .inl f_40)), (b0, .inr (12, [.int 0, .ref b5, .ref b6, .ref b7, .ref b8, .int b9, .ref b10, .int b11, .int b12, .int b13, .int b14, .ref b15, .ref b16, .ref b17, .int b18, .ref b19, .ref b20, .ref b21, .ref b22, .ref b23, .ref b24, .ref b25, .ref b26, .ref b27, .ref b28, .ref b29, .ref b30, .int x_28, .ref b32, .ref b33, .int b34, .int b35, .int b36, .int b37, .ref b38, .ref b39, .ref b40, .ref b41, .ref b42, .ref b43, .ref b44, .int b45, .ref b46, .ref b47, .int b48, .ref b49, .ref b50, .ref b51, .ref b52, .ref b53, .int b54, .ref b55, .ref b56, .ref b57])), (b21, .inl (G.2 0, 520, .inl f_31)), (b24, .inl (G.2 0, 482, .inl f_34))] H := hP
          have hD := z_tie hP hD rfl
          refine W.widen (k := 0) (n := 0) (Nat.le_of_ble_eq_true rfl) (Nat.le_of_ble_eq_true rfl) ?_
          exact z_iret hx hb hr hlocks (hP.sub [11, 0, 1, 2, 12, 3, 4, 13, 5, 6, 7, 8, 9, 10] rfl) (hD.sub [11, 0, 1, 2, 12, 3, 4, 13, 5, 6, 7, 8, 9, 10] (by decide) rfl) hS (Nat.le_of_ble_eq_true rfl) (Nat.le_of_ble_eq_true rfl) d_Model_call_136 ⟨x_71, 0, x_28, f_29, f_30, f_31, f_32, f_33, f_34, f_35, f_36, f_37, f_38, f_39, f_40, rfl, rfl, (zI.wk (l' := 0) (h' := 1) zc_0 (by decide)), hx_28, hf_29, hf_30, hf_31, hf_33, hf_34, hf_35, hf_36, hf_39, hf_40⟩
        simp only [fa_lt, fa_le, fa_eq, Int32.toInt_toInt64, li_3] at hs_68
        refine lv_tableOut (tgt := 137) hx hb d_Model_call_70 (by omega) (by decide) ?_
        refine lv_iconst (v := (-1)) hx hb d_Model_call_137 (by decide) ?_
        exact z_iret hx hb hr hlocks hP hD hS (Nat.le_of_ble_eq_true rfl) (Nat.le_of_ble_eq_true rfl) d_Model_call_138 ⟨(-1), 0, x_28, f_29, f_30, f_31, f_32, f_33, f_34, f_35, f_36, f_37, f_38, f_39, f_40, rfl, rfl, (zI.wk (l' := 0) (h' := 1) zc_0 (by decide)), hx_28, hf_29, hf_30, hf_31, hf_33, hf_34, hf_35, hf_36, hf_39, hf_40⟩
    · have _nhc_10 := hc_10
      have ni_73 := (fa_eq _ _).mp hc_10
      rw [li_m1] at ni_73
      have hv_74 : zI b2 (-1) (-1) := zI.eq_l (zI_all b2) zc_m1 hc_10
      refine lv_iload_n hx hb d_Model_call_32 rfl (lv_at hl 3 rfl) ?_
      refine lv_if_ne (tgt := 44) hx hb d_Model_call_33 (by decide) (fun hc_75 => ?_) (fun hc_75 => ?_)
      · have _nhc_75 := hc_75
        have ni_76 : ¬ (b3 : Int32).toInt = (0 : Int32).toInt := fun z => hc_75 ((fa_eq _ _).mpr z)
        simp only [li_0] at ni_76
        refine lv_iconst (v := (-1)) hx hb d_Model_call_44 (by decide) ?_
        exact z_iret hx hb hr hlocks (hP.sub [12, 13, 0, 1, 2, 3, 4, 5, 6, 7, 8, 9, 10, 11] rfl) (hD.sub [12, 13, 0, 1, 2, 3, 4, 5, 6, 7, 8, 9, 10, 11] (by decide) rfl) hS (Nat.le_of_ble_eq_true rfl) (Nat.le_of_ble_eq_true rfl) d_Model_call_45 ⟨(-1), 0, b31, b59, b60, b61, b62, b63, b64, b65, b66, b67, b68, b69, b70, rfl, rfl, (zI.wk (l' := 0) (h' := 1) zc_0 (by decide)), hb31, hb59, hb60, hb61, hb63, hb64, hb65, hb66, hb69, hb70⟩
      · have _nhc_75 := hc_75
        have ni_77 := (fa_eq _ _).mp hc_75
        rw [li_0] at ni_77
        have hv_78 : zI b3 0 0 := zI.eq_l (zI_all b3) zc_0 hc_75
        refine lv_aload_n hx hb d_Model_call_36 rfl (lv_at hl 0 rfl) ?_
        refine lv_iload_n hx hb d_Model_call_37 rfl (lv_at hl 1 rfl) ?_
        refine z_callV (index := 203) (As := [.int b1]) (rest := []) (wr := [(b19, .inl (G.2 0, 2, .inl b59)), (b20, .inl (G.2 0, 4820, .inl b60)), (b21, .inl (G.2 0, 520, .inl b61)), (b22, .inl (G.2 0, 9640, .inl b62)), (b23, .inl (G.2 0, 482, .inl b63)), (b24, .inl (G.2 0, 482, .inl b64)), (b25, .inl (G.2 0, 2, .inl b65)), (b26, .inl (G.2 0, 482, .inl b66)), (b27, .inl (G.2 0, 482, .inl b67)), (b28, .inl (G.2 0, 482, .inl b68)), (b29, .inl (G.2 0, 2, .inl b69)), (b30, .inl (G.2 0, 2880, .inl b70))]) Z (s1_Model_calls l G (b0) (b1) (0) (b5) (b6) (b7) (b8) (b9) (b10) (b11) (b12) (b13) (b14) (b15) (b16) (b17) (b18) (b19) (b20) (b21) (b22) (b23) (b24) (b25) (b26) (b27) (b28) (b29) (b30) (b31) (b32) (b33) (b34) (b35) (b36) (b37) (b38) (b39) (b40) (b41) (b42) (b43) (b44) (b45) (b46) (b47) (b48) (b49) (b50) (b51) (b52) (b53) (b54) (b55) (b56) (b57) (b58) hv_9 hb9 hb11 hb12 hb14 hb18 hb31 hb34 hb45 hb48 hb54 hb58) hl.1 q1352 q1354 qs54 q14 q1355 ⟨by decide, by decide, by show _ = some 1; decide +kernel⟩ ⟨Nat.le_of_ble_eq_true rfl, Nat.le_of_ble_eq_true rfl⟩ ⟨Nat.le_of_ble_eq_true rfl, Nat.le_of_ble_eq_true rfl⟩ rfl (Nat.le_of_ble_eq_true rfl) d_Model_call_38 hP hD hS hA 12 12 rfl rfl rfl [12, 13] [0, 1, 2, 3, 4, 5, 6, 7, 8, 9, 10, 11] rfl rfl rfl rfl (by decide) (fun v w1 H locs hw_79 hP hD hS => ?_)
        obtain ⟨x_80, rfl, rfl, hx_80, hfx_81⟩ := hw_79
        have hP : va_P G.1 classes [(b19, .inl (G.2 0, 2, .inl b59)), (b20, .inl (G.2 0, 4820, .inl b60)), (b21, .inl (G.2 0, 520, .inl b61)), (b22, .inl (G.2 0, 9640, .inl b62)), (b23, .inl (G.2 0, 482, .inl b63)), (b24, .inl (G.2 0, 482, .inl b64)), (b25, .inl (G.2 0, 2, .inl b65)), (b26, .inl (G.2 0, 482, .inl b66)), (b27, .inl (G.2 0, 482, .inl b67)), (b28, .inl (G.2 0, 482, .inl b68)), (b29, .inl (G.2 0, 2, .inl b69)), (b30, .inl (G.2 0, 2880, .inl b70)), (b0, .inr (12, [.int 0, .ref b5, .ref b6, .ref b7, .ref b8, .int b9, .ref b10, .int b11, .int b12, .int b13, .int b14, .ref b15, .ref b16, .ref b17, .int b18, .ref b19, .ref b20, .ref b21, .ref b22, .ref b23, .ref b24, .ref b25, .ref b26, .ref b27, .ref b28, .ref b29, .ref b30, .int b31, .ref b32, .ref b33, .int b34, .int b35, .int b36, .int b37, .ref b38, .ref b39, .ref b40, .ref b41, .ref b42, .ref b43, .ref b44, .int b45, .ref b46, .ref b47, .int b48, .ref b49, .ref b50, .ref b51, .ref b52, .ref b53, .int b54, .ref b55, .ref b56, .ref b57])), (b5, .inl (G.2 0, 503, .inl b58))] H := hP
        have hD := z_tie hP hD rfl
        refine W.widen (k := 0) (n := 0) (Nat.le_of_ble_eq_true rfl) (Nat.le_of_ble_eq_true rfl) ?_
        refine lv_goto (tgt := 45) hx hb d_Model_call_41 (by decide) ?_
        exact z_iret hx hb hr hlocks (hP.sub [12, 13, 0, 1, 2, 3, 4, 5, 6, 7, 8, 9, 10, 11] rfl) (hD.sub [12, 13, 0, 1, 2, 3, 4, 5, 6, 7, 8, 9, 10, 11] (by decide) rfl) hS (Nat.le_of_ble_eq_true rfl) (Nat.le_of_ble_eq_true rfl) d_Model_call_45 ⟨x_80, 0, b31, b59, b60, b61, b62, b63, b64, b65, b66, b67, b68, b69, b70, rfl, rfl, (zI.wk (l' := 0) (h' := 1) zc_0 (by decide)), hb31, hb59, hb60, hb61, hb63, hb64, hb65, hb66, hb69, hb70⟩
theorem d_Model_state_0 : decode prog_14_method_40_code 0 = .ok (.aload_n 0, 1) := by decide +kernel
theorem d_Model_state_1 : decode prog_14_method_40_code 1 = .ok (.iconst 0, 1) := by decide +kernel
theorem d_Model_state_2 : decode prog_14_method_40_code 2 = .ok (.putfield 1, 3) := by decide +kernel
theorem d_Model_state_5 : decode prog_14_method_40_code 5 = .ok (.aload_n 0, 1) := by decide +kernel
theorem d_Model_state_6 : decode prog_14_method_40_code 6 = .ok (.invokevirtual 254, 3) := by decide +kernel
theorem d_Model_state_9 : decode prog_14_method_40_code 9 = .ok (.iload_n 1, 1) := by decide +kernel
theorem d_Model_state_10 : decode prog_14_method_40_code 10 = .ok (.i2l, 1) := by decide +kernel
theorem d_Model_state_11 : decode prog_14_method_40_code 11 = .ok (.lconst 0, 1) := by decide +kernel
theorem d_Model_state_12 : decode prog_14_method_40_code 12 = .ok (.aload_n 0, 1) := by decide +kernel
theorem d_Model_state_13 : decode prog_14_method_40_code 13 = .ok (.getfield 58, 3) := by decide +kernel
theorem d_Model_state_16 : decode prog_14_method_40_code 16 = .ok (.iconst 0, 1) := by decide +kernel
theorem d_Model_state_17 : decode prog_14_method_40_code 17 = .ok (.iaload, 1) := by decide +kernel
theorem d_Model_state_18 : decode prog_14_method_40_code 18 = .ok (.i2l, 1) := by decide +kernel
theorem d_Model_state_19 : decode prog_14_method_40_code 19 = .ok (.lconst 1, 1) := by decide +kernel
theorem d_Model_state_20 : decode prog_14_method_40_code 20 = .ok (.lsub, 1) := by decide +kernel
theorem d_Model_state_21 : decode prog_14_method_40_code 21 = .ok (.invokestatic 138, 3) := by decide +kernel
theorem d_Model_state_24 : decode prog_14_method_40_code 24 = .ok (.ifCond .ne 5, 3) := by decide +kernel
theorem d_Model_state_27 : decode prog_14_method_40_code 27 = .ok (.iconst (-1), 1) := by decide +kernel
theorem d_Model_state_28 : decode prog_14_method_40_code 28 = .ok (.ireturn, 1) := by decide +kernel
theorem d_Model_state_29 : decode prog_14_method_40_code 29 = .ok (.iload_n 2, 1) := by decide +kernel
theorem d_Model_state_30 : decode prog_14_method_40_code 30 = .ok (.tableswitch 104 0 6 #[42, 49, 56, 71, 78, 85, 92], 42) := by decide +kernel
theorem d_Model_state_72 : decode prog_14_method_40_code 72 = .ok (.aload_n 0, 1) := by decide +kernel
theorem d_Model_state_73 : decode prog_14_method_40_code 73 = .ok (.getfield 61, 3) := by decide +kernel
theorem d_Model_state_76 : decode prog_14_method_40_code 76 = .ok (.iload_n 1, 1) := by decide +kernel
theorem d_Model_state_77 : decode prog_14_method_40_code 77 = .ok (.iaload, 1) := by decide +kernel
theorem d_Model_state_78 : decode prog_14_method_40_code 78 = .ok (.ireturn, 1) := by decide +kernel
theorem d_Model_state_79 : decode prog_14_method_40_code 79 = .ok (.aload_n 0, 1) := by decide +kernel
theorem d_Model_state_80 : decode prog_14_method_40_code 80 = .ok (.getfield 64, 3) := by decide +kernel
theorem d_Model_state_83 : decode prog_14_method_40_code 83 = .ok (.iload_n 1, 1) := by decide +kernel
theorem d_Model_state_84 : decode prog_14_method_40_code 84 = .ok (.iaload, 1) := by decide +kernel
theorem d_Model_state_85 : decode prog_14_method_40_code 85 = .ok (.ireturn, 1) := by decide +kernel
theorem d_Model_state_86 : decode prog_14_method_40_code 86 = .ok (.aload_n 0, 1) := by decide +kernel
theorem d_Model_state_87 : decode prog_14_method_40_code 87 = .ok (.iconst 0, 1) := by decide +kernel
theorem d_Model_state_88 : decode prog_14_method_40_code 88 = .ok (.iload_n 1, 1) := by decide +kernel
theorem d_Model_state_89 : decode prog_14_method_40_code 89 = .ok (.invokevirtual 256, 3) := by decide +kernel
theorem d_Model_state_92 : decode prog_14_method_40_code 92 = .ok (.ifCond .eq 7, 3) := by decide +kernel
theorem d_Model_state_95 : decode prog_14_method_40_code 95 = .ok (.iconst 1, 1) := by decide +kernel
theorem d_Model_state_96 : decode prog_14_method_40_code 96 = .ok (.goto 4, 3) := by decide +kernel
theorem d_Model_state_99 : decode prog_14_method_40_code 99 = .ok (.iconst 0, 1) := by decide +kernel
theorem d_Model_state_100 : decode prog_14_method_40_code 100 = .ok (.ireturn, 1) := by decide +kernel
theorem d_Model_state_101 : decode prog_14_method_40_code 101 = .ok (.aload_n 0, 1) := by decide +kernel
theorem d_Model_state_102 : decode prog_14_method_40_code 102 = .ok (.getfield 67, 3) := by decide +kernel
theorem d_Model_state_105 : decode prog_14_method_40_code 105 = .ok (.iload_n 1, 1) := by decide +kernel
theorem d_Model_state_106 : decode prog_14_method_40_code 106 = .ok (.iaload, 1) := by decide +kernel
theorem d_Model_state_107 : decode prog_14_method_40_code 107 = .ok (.ireturn, 1) := by decide +kernel
theorem d_Model_state_108 : decode prog_14_method_40_code 108 = .ok (.aload_n 0, 1) := by decide +kernel
theorem d_Model_state_109 : decode prog_14_method_40_code 109 = .ok (.iload_n 1, 1) := by decide +kernel
theorem d_Model_state_110 : decode prog_14_method_40_code 110 = .ok (.iconst 0, 1) := by decide +kernel
theorem d_Model_state_111 : decode prog_14_method_40_code 111 = .ok (.invokevirtual 259, 3) := by decide +kernel
theorem d_Model_state_114 : decode prog_14_method_40_code 114 = .ok (.ireturn, 1) := by decide +kernel
theorem d_Model_state_115 : decode prog_14_method_40_code 115 = .ok (.aload_n 0, 1) := by decide +kernel
theorem d_Model_state_116 : decode prog_14_method_40_code 116 = .ok (.iload_n 1, 1) := by decide +kernel
theorem d_Model_state_117 : decode prog_14_method_40_code 117 = .ok (.iconst 1, 1) := by decide +kernel
theorem d_Model_state_118 : decode prog_14_method_40_code 118 = .ok (.invokevirtual 259, 3) := by decide +kernel
theorem d_Model_state_121 : decode prog_14_method_40_code 121 = .ok (.ireturn, 1) := by decide +kernel
theorem d_Model_state_122 : decode prog_14_method_40_code 122 = .ok (.aload_n 0, 1) := by decide +kernel
theorem d_Model_state_123 : decode prog_14_method_40_code 123 = .ok (.getfield 52, 3) := by decide +kernel
theorem d_Model_state_126 : decode prog_14_method_40_code 126 = .ok (.aload_n 0, 1) := by decide +kernel
theorem d_Model_state_127 : decode prog_14_method_40_code 127 = .ok (.getfield 61, 3) := by decide +kernel
theorem d_Model_state_130 : decode prog_14_method_40_code 130 = .ok (.iload_n 1, 1) := by decide +kernel
theorem d_Model_state_131 : decode prog_14_method_40_code 131 = .ok (.iaload, 1) := by decide +kernel
theorem d_Model_state_132 : decode prog_14_method_40_code 132 = .ok (.iaload, 1) := by decide +kernel
theorem d_Model_state_133 : decode prog_14_method_40_code 133 = .ok (.ireturn, 1) := by decide +kernel
theorem d_Model_state_134 : decode prog_14_method_40_code 134 = .ok (.iconst (-1), 1) := by decide +kernel
theorem d_Model_state_135 : decode prog_14_method_40_code 135 = .ok (.ireturn, 1) := by decide +kernel
abbrev m_s1_Model_state : Room := { frames := 5, cells := 0, slots := 0, locals := 124 }
set_option maxHeartbeats 4000000 in
set_option maxRecDepth 100000 in
theorem s1_Model_state (l : Launch) (G : zG) (b0 : Nat) (b1 : Int32) (b2 : Int32) (b3 : Int32) (b4 : Nat) (b5 : Nat) (b6 : Nat) (b7 : Nat) (b8 : Int32) (b9 : Nat) (b10 : Int32) (b11 : Int32) (b12 : Int32) (b13 : Int32) (b14 : Nat) (b15 : Nat) (b16 : Nat) (b17 : Int32) (b18 : Nat) (b19 : Nat) (b20 : Nat) (b21 : Nat) (b22 : Nat) (b23 : Nat) (b24 : Nat) (b25 : Nat) (b26 : Nat) (b27 : Nat) (b28 : Nat) (b29 : Nat) (b30 : Int32) (b31 : Nat) (b32 : Nat) (b33 : Int32) (b34 : Int32) (b35 : Int32) (b36 : Int32) (b37 : Nat) (b38 : Nat) (b39 : Nat) (b40 : Nat) (b41 : Nat) (b42 : Nat) (b43 : Nat) (b44 : Int32) (b45 : Nat) (b46 : Nat) (b47 : Int32) (b48 : Nat) (b49 : Nat) (b50 : Nat) (b51 : Nat) (b52 : Nat) (b53 : Int32) (b54 : Nat) (b55 : Nat) (b56 : Nat) (b57 : Nat → Int32) (b58 : Nat → Int32) (b59 : Nat → Int32) (b60 : Nat → Int32) (b61 : Nat → Int32) (b62 : Nat → Int32) (b63 : Nat → Int32) (b64 : Nat → Int32) (b65 : Nat → Int32) (b66 : Nat → Int32) (b67 : Nat → Int32) (b68 : Nat → Int32) (b69 : Nat → Int32) (hb8 : zI b8 0 8) (hb10 : zI b10 0 240) (hb11 : zI b11 0 240) (hb13 : zI b13 0 1) (hb17 : zI b17 0 12) (hb30 : zI b30 0 1) (hb33 : zI b33 0 1) (hb44 : zI b44 0 1000) (hb47 : zI b47 0 1000) (hb53 : zI b53 0 400) (hb57 : zW5 b57) (hb58 : zR b58 0 241) (hb59 : zR b59 (-1) 240) (hb60 : zqa qP b60) (hb62 : zqa qC b62) (hb63 : zR b63 0 240) (hb64 : zR b64 0 241) (hb65 : zR b65 0 240) (hb68 : zR b68 0 240) (hb69 : zqa qE b69) : zM l G y_Model_state prog_14_method_40_code 3 (Option.some Jvm.ClassFile.FieldType.int) m_s1_Model_state [.ref b0, .int b1, .int b2] [(b0, .inr (12, [.int b3, .ref b4, .ref b5, .ref b6, .ref b7, .int b8, .ref b9, .int b10, .int b11, .int b12, .int b13, .ref b14, .ref b15, .ref b16, .int b17, .ref b18, .ref b19, .ref b20, .ref b21, .ref b22, .ref b23, .ref b24, .ref b25, .ref b26, .ref b27, .ref b28, .ref b29, .int b30, .ref b31, .ref b32, .int b33, .int b34, .int b35, .int b36, .ref b37, .ref b38, .ref b39, .ref b40, .ref b41, .ref b42, .ref b43, .int b44, .ref b45, .ref b46, .int b47, .ref b48, .ref b49, .ref b50, .ref b51, .ref b52, .int b53, .ref b54, .ref b55, .ref b56])), (b4, .inl (G.2 0, 503, .inl b57)), (b18, .inl (G.2 0, 2, .inl b58)), (b19, .inl (G.2 0, 4820, .inl b59)), (b20, .inl (G.2 0, 520, .inl b60)), (b21, .inl (G.2 0, 9640, .inl b61)), (b22, .inl (G.2 0, 482, .inl b62)), (b23, .inl (G.2 0, 482, .inl b63)), (b24, .inl (G.2 0, 2, .inl b64)), (b25, .inl (G.2 0, 482, .inl b65)), (b26, .inl (G.2 0, 482, .inl b66)), (b27, .inl (G.2 0, 482, .inl b67)), (b28, .inl (G.2 0, 2, .inl b68)), (b29, .inl (G.2 0, 2880, .inl b69))] (fun v w => ∃ (e0 : Int32), ∃ (e1 : Int32), ∃ (e2 : Nat → Int32), ∃ (e3 : Nat → Int32), ∃ (e4 : Nat → Int32), ∃ (e5 : Nat → Int32), ∃ (e6 : Nat → Int32), ∃ (e7 : Nat → Int32), ∃ (e8 : Nat → Int32), ∃ (e9 : Nat → Int32), ∃ (e10 : Nat → Int32), ∃ (e11 : Nat → Int32), ∃ (e12 : Nat → Int32), ∃ (e13 : Nat → Int32), v = some (.int e0) ∧ w = [(b0, .inr (12, [.int 0, .ref b4, .ref b5, .ref b6, .ref b7, .int b8, .ref b9, .int b10, .int b11, .int b12, .int b13, .ref b14, .ref b15, .ref b16, .int b17, .ref b18, .ref b19, .ref b20, .ref b21, .ref b22, .ref b23, .ref b24, .ref b25, .ref b26, .ref b27, .ref b28, .ref b29, .int e1, .ref b31, .ref b32, .int b33, .int b34, .int b35, .int b36, .ref b37, .ref b38, .ref b39, .ref b40, .ref b41, .ref b42, .ref b43, .int b44, .ref b45, .ref b46, .int b47, .ref b48, .ref b49, .ref b50, .ref b51, .ref b52, .int b53, .ref b54, .ref b55, .ref b56])), (b4, .inl (G.2 0, 503, .inl b57)), (b18, .inl (G.2 0, 2, .inl e2)), (b19, .inl (G.2 0, 4820, .inl e3)), (b20, .inl (G.2 0, 520, .inl e4)), (b21, .inl (G.2 0, 9640, .inl e5)), (b22, .inl (G.2 0, 482, .inl e6)), (b23, .inl (G.2 0, 482, .inl e7)), (b24, .inl (G.2 0, 2, .inl e8)), (b25, .inl (G.2 0, 482, .inl e9)), (b26, .inl (G.2 0, 482, .inl e10)), (b27, .inl (G.2 0, 482, .inl e11)), (b28, .inl (G.2 0, 2, .inl e12)), (b29, .inl (G.2 0, 2880, .inl e13))] ∧ (zI e1 0 1) ∧ (zR e2 0 241) ∧ (zR e3 (-1) 240) ∧ (zqa qP e4) ∧ (zqa qC e6) ∧ (zR e7 0 240) ∧ (zR e8 0 241) ∧ (zR e9 0 240) ∧ (zR e12 0 240) ∧ (zqa qE e13)) := by
  refine z_start (by decide +kernel) (Nat.le_of_ble_eq_true rfl) ?_
  intro p e s m below meth c A Z hr hnm hA hP hD hS ls hl
  have Z : zC p s m _ meth c prog_14_method_40_code 3 "TraceMachinesModel" G := Z
  obtain ⟨hx, hb, hml, hown, hts, hK, hN, hlocks⟩ := id Z
  have hl : lv_has ls 3 [(0, .ref b0), (1, .int b1), (2, .int b2)] := hl
  refine lv_aload_n hx hb d_Model_state_0 rfl (lv_at hl 0 rfl) ?_
  refine lv_iconst (v := 0) hx hb d_Model_state_1 (by decide) ?_
  refine va_put (D := G.1) (ci := 12) (v := .int 0) (ty := .int) (C := R_Model) (T := F_Model) (N := 54) hx hb hts i_Model t_Model t_Model_ok n_Model hown hK hP hD hS 0 rfl rfl 0 (by decide) (hts _ q1109) (fun _ h9 => h9) rfl (by decide +kernel) rfl rfl (Nat.le_of_ble_eq_true rfl) d_Model_state_2 (fun H locs hP hD hS => ?_)
  have hP : va_P G.1 classes [(b0, .inr (12, [.int 0, .ref b4, .ref b5, .ref b6, .ref b7, .int b8, .ref b9, .int b10, .int b11, .int b12, .int b13, .ref b14, .ref b15, .ref b16, .int b17, .ref b18, .ref b19, .ref b20, .ref b21, .ref b22, .ref b23, .ref b24, .ref b25, .ref b26, .ref b27, .ref b28, .ref b29, .int b30, .ref b31, .ref b32, .int b33, .int b34, .int b35, .int b36, .ref b37, .ref b38, .ref b39, .ref b40, .ref b41, .ref b42, .ref b43, .int b44, .ref b45, .ref b46, .int b47, .ref b48, .ref b49, .ref b50, .ref b51, .ref b52, .int b53, .ref b54, .ref b55, .ref b56])), (b4, .inl (G.2 0, 503, .inl b57)), (b18, .inl (G.2 0, 2, .inl b58)), (b19, .inl (G.2 0, 4820, .inl b59)), (b20, .inl (G.2 0, 520, .inl b60)), (b21, .inl (G.2 0, 9640, .inl b61)), (b22, .inl (G.2 0, 482, .inl b62)), (b23, .inl (G.2 0, 482, .inl b63)), (b24, .inl (G.2 0, 2, .inl b64)), (b25, .inl (G.2 0, 482, .inl b65)), (b26, .inl (G.2 0, 482, .inl b66)), (b27, .inl (G.2 0, 482, .inl b67)), (b28, .inl (G.2 0, 2, .inl b68)), (b29, .inl (G.2 0, 2880, .inl b69))] H := hP
  have hD := z_tie hP hD rfl
  refine lv_aload_n hx hb d_Model_state_5 rfl (lv_at hl 0 rfl) ?_
  refine z_callV (index := 254) (As := []) (rest := []) (wr := []) Z (s1_Model_lay1 l G (b0) (0) (b4) (b5) (b6) (b7) (b8) (b9) (b10) (b11) (b12) (b13) (b14) (b15) (b16) (b17) (b18) (b19) (b20) (b21) (b22) (b23) (b24) (b25) (b26) (b27) (b28) (b29) (b30) (b31) (b32) (b33) (b34) (b35) (b36) (b37) (b38) (b39) (b40) (b41) (b42) (b43) (b44) (b45) (b46) (b47) (b48) (b49) (b50) (b51) (b52) (b53) (b54) (b55) (b56) (b57) (b58) (b59) (b60) (b61) (b62) (b63) (b64) (b65) (b66) (b67) (b68) (b69) hb8 hb10 hb11 hb13 hb17 hb30 hb33 hb44 hb47 hb53 hb57 hb58 hb59 hb60 hb62 hb63 hb64 hb65 hb68 hb69) hl.1 q1356 q1358 qs55 q14 q1359 ⟨by decide, by decide, by show _ = some 0; decide +kernel⟩ ⟨Nat.le_of_ble_eq_true rfl, Nat.le_of_ble_eq_true rfl⟩ ⟨Nat.le_of_ble_eq_true rfl, Nat.le_of_ble_eq_true rfl⟩ rfl (Nat.le_of_ble_eq_true rfl) d_Model_state_6 hP hD hS hA 0 12 rfl rfl rfl [0, 1, 2, 3, 4, 5, 6, 7, 8, 9, 10, 11, 12, 13] [] rfl rfl rfl rfl (by decide) (fun v w1 H locs hw_1 hP hD hS => ?_)
  refine Exists.elim hw_1 (fun x_2 hz_16 => Exists.elim hz_16 (fun f_3 hz_17 => Exists.elim hz_17 (fun f_4 hz_18 => Exists.elim hz_18 (fun f_5 hz_19 => Exists.elim hz_19 (fun f_6 hz_20 => Exists.elim hz_20 (fun f_7 hz_21 => Exists.elim hz_21 (fun f_8 hz_22 => Exists.elim hz_22 (fun f_9 hz_23 => Exists.elim hz_23 (fun f_10 hz_24 => Exists.elim hz_24 (fun f_11 hz_25 => Exists.elim hz_25 (fun f_12 hz_26 => Exists.elim hz_26 (fun f_13 hz_27 => Exists.elim hz_27 (fun f_14 hz_28 => ?_)))))))))))))
  clear hw_1 hz_16 hz_17 hz_18 hz_19 hz_20 hz_21 hz_22 hz_23 hz_24 hz_25 hz_26 hz_27
  obtain ⟨rfl, rfl, hx_2, hf_3, hf_4, hf_5, hf_7, hf_8, hf_9, hf_10, hf_13, hf_14, hfx_15⟩ := hz_28
  have hP : va_P G.1 classes [(b0, .inr (12, [.int 0, .ref b4, .ref b5, .ref b6, .ref b7, .int b8, .ref b9, .int b10, .int b11, .int b12, .int b13, .ref b14, .ref b15, .ref b16, .int b17, .ref b18, .ref b19, .ref b20, .ref b21, .ref b22, .ref b23, .ref b24, .ref b25, .ref b26, .ref b27, .ref b28, .ref b29, .int x_2, .ref b31, .ref b32, .int b33, .int b34, .int b35, .int b36, .ref b37, .ref b38, .ref b39, .ref b40, .ref b41, .ref b42, .ref b43, .int b44, .ref b45, .ref b46, .int b47, .ref b48, .ref b49, .ref b50, .ref b51, .ref b52, .int b53, .ref b54, .ref b55, .ref b56])), (b4, .inl (G.2 0, 503, .inl b57)), (b18, .inl (G.2 0, 2, .inl f_3)), (b19, .inl (G.2 0, 4820, .inl f_4)), (b20, .inl (G.2 0, 520, .inl f_5)), (b21, .inl (G.2 0, 9640, .inl f_6)), (b22, .inl (G.2 0, 482, .inl f_7)), (b23, .inl (G.2 0, 482, .inl f_8)), (b24, .inl (G.2 0, 2, .inl f_9)), (b25, .inl (G.2 0, 482, .inl f_10)), (b26, .inl (G.2 0, 482, .inl f_11)), (b27, .inl (G.2 0, 482, .inl f_12)), (b28, .inl (G.2 0, 2, .inl f_13)), (b29, .inl (G.2 0, 2880, .inl f_14))] H := hP
  have hD := z_tie hP hD rfl
  refine W.widen (k := 0) (n := 0) (Nat.le_of_ble_eq_true rfl) (Nat.le_of_ble_eq_true rfl) ?_
  refine lv_iload_n hx hb d_Model_state_9 rfl (lv_at hl 1 rfl) ?_
  refine lv_i2l (v := b1.toInt64) hx hb d_Model_state_10 rfl ?_
  refine lv_lconst (v := 0) hx hb d_Model_state_11 (by decide) ?_
  refine lv_aload_n hx hb d_Model_state_12 rfl (lv_at hl 0 rfl) ?_
  refine va_get (D := G.1) (ci := 12) (v := .ref b24) (C := R_Model) (T := F_Model) (N := 54) hx hb hts i_Model hown hK hP 0 rfl rfl 21 (by decide) (hts _ q1130) (fun _ h9 => h9) rfl d_Model_state_13 ?_
  refine lv_iconst (v := 0) hx hb d_Model_state_16 (by decide) ?_
  refine va_iald hx hb hK hP 8 0 rfl rfl (i := 0) (z_in rfl) d_Model_state_17 ?_
  refine lv_topi (fun v_29 ev_29 => ?_)
  have hv_29 : zI v_29 0 241 := (hf_9 _).eq ev_29
  refine lv_i2l (v := v_29.toInt64) hx hb d_Model_state_18 rfl ?_
  refine lv_lconst (v := 1) hx hb d_Model_state_19 (by decide) ?_
  refine lv_lsub hx hb d_Model_state_20 ?_
  refine lv_topl (fun v_30 ev_30 => ?_)
  obtain ⟨qv_30, hv_30⟩ := zJ_sub (l := -1) (h := 240) (zI_i2l hv_29 rfl).2 zcl_1 ev_30 (by decide)
  try simp only [Int32.toInt_toInt64, ll_1] at qv_30
  refine z_callS (index := 138) (As := [.long b1.toInt64, .long 0, .long v_30]) (rest := []) (wr := [(b0, .inr (12, [.int 0, .ref b4, .ref b5, .ref b6, .ref b7, .int b8, .ref b9, .int b10, .int b11, .int b12, .int b13, .ref b14, .ref b15, .ref b16, .int b17, .ref b18, .ref b19, .ref b20, .ref b21, .ref b22, .ref b23, .ref b24, .ref b25, .ref b26, .ref b27, .ref b28, .ref b29, .int x_2, .ref b31, .ref b32, .int b33, .int b34, .int b35, .int b36, .ref b37, .ref b38, .ref b39, .ref b40, .ref b41, .ref b42, .ref b43, .int b44, .ref b45, .ref b46, .int b47, .ref b48, .ref b49, .ref b50, .ref b51, .ref b52, .int b53, .ref b54, .ref b55, .ref b56])), (b4, .inl (G.2 0, 503, .inl b57)), (b18, .inl (G.2 0, 2, .inl f_3)), (b19, .inl (G.2 0, 4820, .inl f_4)), (b20, .inl (G.2 0, 520, .inl f_5)), (b21, .inl (G.2 0, 9640, .inl f_6)), (b22, .inl (G.2 0, 482, .inl f_7)), (b23, .inl (G.2 0, 482, .inl f_8)), (b24, .inl (G.2 0, 2, .inl f_9)), (b25, .inl (G.2 0, 482, .inl f_10)), (b26, .inl (G.2 0, 482, .inl f_11)), (b27, .inl (G.2 0, 482, .inl f_12)), (b28, .inl (G.2 0, 2, .inl f_13)), (b29, .inl (G.2 0, 2880, .inl f_14))]) Z (s2_Model_in l G (b1.toInt64) (0) (v_30)) hl.1 q1281 q1282 q14 q1283 ⟨by decide, by decide, by show _ = some 3; decide +kernel⟩ ⟨Nat.le_of_ble_eq_true rfl, Nat.le_of_ble_eq_true rfl⟩ ⟨Nat.le_of_ble_eq_true rfl, Nat.le_of_ble_eq_true rfl⟩ rfl (Nat.le_of_ble_eq_true rfl) d_Model_state_21 hP hD hS hA [] [0, 1, 2, 3, 4, 5, 6, 7, 8, 9, 10, 11, 12, 13] rfl rfl rfl rfl (by decide) (fun v w1 H locs hw_31 hP hD hS => ?_)
  rcases hw_31 with ⟨rfl, rfl, hq_32⟩ | ⟨rfl, rfl, hq_33, hq_34⟩ | ⟨rfl, rfl, hq_35, hq_36⟩
  · have hP : va_P G.1 classes [(b0, .inr (12, [.int 0, .ref b4, .ref b5, .ref b6, .ref b7, .int b8, .ref b9, .int b10, .int b11, .int b12, .int b13, .ref b14, .ref b15, .ref b16, .int b17, .ref b18, .ref b19, .ref b20, .ref b21, .ref b22, .ref b23, .ref b24, .ref b25, .ref b26, .ref b27, .ref b28, .ref b29, .int x_2, .ref b31, .ref b32, .int b33, .int b34, .int b35, .int b36, .ref b37, .ref b38, .ref b39, .ref b40, .ref b41, .ref b42, .ref b43, .int b44, .ref b45, .ref b46, .int b47, .ref b48, .ref b49, .ref b50, .ref b51, .ref b52, .int b53, .ref b54, .ref b55, .ref b56])), (b4, .inl (G.2 0, 503, .inl b57)), (b18, .inl (G.2 0, 2, .inl f_3)), (b19, .inl (G.2 0, 4820, .inl f_4)), (b20, .inl (G.2 0, 520, .inl f_5)), (b21, .inl (G.2 0, 9640, .inl f_6)), (b22, .inl (G.2 0, 482, .inl f_7)), (b23, .inl (G.2 0, 482, .inl f_8)), (b24, .inl (G.2 0, 2, .inl f_9)), (b25, .inl (G.2 0, 482, .inl f_10)), (b26, .inl (G.2 0, 482, .inl f_11)), (b27, .inl (G.2 0, 482, .inl f_12)), (b28, .inl (G.2 0, 2, .inl f_13)), (b29, .inl (G.2 0, 2880, .inl f_14))] H := hP
    have hD := z_tie hP hD rfl
    try simp only [Int32.toInt_toInt64, ll_0] at hq_32
    have hv_37 : zI b1 (-2147483648) (-1) := by have _a := hq_32; have _b := (zI_all b1); have _c := zcl_0; simp only [Int32.toInt_toInt64] at *; exact ⟨by omega, by omega⟩
    refine W.widen (k := 0) (n := 0) (Nat.le_of_ble_eq_true rfl) (Nat.le_of_ble_eq_true rfl) ?_
    refine lv_if_ne (tgt := 29) hx hb d_Model_state_24 (by decide) (fun hc => absurd hc (by decide +kernel)) (fun _ => ?_)
    refine lv_iconst (v := (-1)) hx hb d_Model_state_27 (by decide) ?_
    exact z_iret hx hb hr hlocks hP hD hS (Nat.le_of_ble_eq_true rfl) (Nat.le_of_ble_eq_true rfl) d_Model_state_28 ⟨(-1), x_2, f_3, f_4, f_5, f_6, f_7, f_8, f_9, f_10, f_11, f_12, f_13, f_14, rfl, rfl, hx_2, hf_3, hf_4, hf_5, hf_7, hf_8, hf_9, hf_10, hf_13, hf_14⟩
  · have hP : va_P G.1 classes [(b0, .inr (12, [.int 0, .ref b4, .ref b5, .ref b6, .ref b7, .int b8, .ref b9, .int b10, .int b11, .int b12, .int b13, .ref b14, .ref b15, .ref b16, .int b17, .ref b18, .ref b19, .ref b20, .ref b21, .ref b22, .ref b23, .ref b24, .ref b25, .ref b26, .ref b27, .ref b28, .ref b29, .int x_2, .ref b31, .ref b32, .int b33, .int b34, .int b35, .int b36, .ref b37, .ref b38, .ref b39, .ref b40, .ref b41, .ref b42, .ref b43, .int b44, .ref b45, .ref b46, .int b47, .ref b48, .ref b49, .ref b50, .ref b51, .ref b52, .int b53, .ref b54, .ref b55, .ref b56])), (b4, .inl (G.2 0, 503, .inl b57)), (b18, .inl (G.2 0, 2, .inl f_3)), (b19, .inl (G.2 0, 4820, .inl f_4)), (b20, .inl (G.2 0, 520, .inl f_5)), (b21, .inl (G.2 0, 9640, .inl f_6)), (b22, .inl (G.2 0, 482, .inl f_7)), (b23, .inl (G.2 0, 482, .inl f_8)), (b24, .inl (G.2 0, 2, .inl f_9)), (b25, .inl (G.2 0, 482, .inl f_10)), (b26, .inl (G.2 0, 482, .inl f_11)), (b27, .inl (G.2 0, 482, .inl f_12)), (b28, .inl (G.2 0, 2, .inl f_13)), (b29, .inl (G.2 0, 2880, .inl f_14))] H := hP
    have hD := z_tie hP hD rfl
    try simp only [Int32.toInt_toInt64, ll_0] at hq_33
    have hv_38 : zI b1 0 2147483647 := by have _a := hq_33; have _b := (zI_all b1); have _c := zcl_0; simp only [Int32.toInt_toInt64] at *; exact ⟨by omega, by omega⟩
    try simp only [Int32.toInt_toInt64] at hq_34
    refine W.widen (k := 0) (n := 0) (Nat.le_of_ble_eq_true rfl) (Nat.le_of_ble_eq_true rfl) ?_
    refine lv_if_ne (tgt := 29) hx hb d_Model_state_24 (by decide) (fun hc => absurd hc (by decide +kernel)) (fun _ => ?_)
    refine lv_iconst (v := (-1)) hx hb d_Model_state_27 (by decide) ?_
    exact z_iret hx hb hr hlocks hP hD hS (Nat.le_of_ble_eq_true rfl) (Nat.le_of_ble_eq_true rfl) d_Model_state_28 ⟨(-1), x_2, f_3, f_4, f_5, f_6, f_7, f_8, f_9, f_10, f_11, f_12, f_13, f_14, rfl, rfl, hx_2, hf_3, hf_4, hf_5, hf_7, hf_8, hf_9, hf_10, hf_13, hf_14⟩
  · have hP : va_P G.1 classes [(b0, .inr (12, [.int 0, .ref b4, .ref b5, .ref b6, .ref b7, .int b8, .ref b9, .int b10, .int b11, .int b12, .int b13, .ref b14, .ref b15, .ref b16, .int b17, .ref b18, .ref b19, .ref b20, .ref b21, .ref b22, .ref b23, .ref b24, .ref b25, .ref b26, .ref b27, .ref b28, .ref b29, .int x_2, .ref b31, .ref b32, .int b33, .int b34, .int b35, .int b36, .ref b37, .ref b38, .ref b39, .ref b40, .ref b41, .ref b42, .ref b43, .int b44, .ref b45, .ref b46, .int b47, .ref b48, .ref b49, .ref b50, .ref b51, .ref b52, .int b53, .ref b54, .ref b55, .ref b56])), (b4, .inl (G.2 0, 503, .inl b57)), (b18, .inl (G.2 0, 2, .inl f_3)), (b19, .inl (G.2 0, 4820, .inl f_4)), (b20, .inl (G.2 0, 520, .inl f_5)), (b21, .inl (G.2 0, 9640, .inl f_6)), (b22, .inl (G.2 0, 482, .inl f_7)), (b23, .inl (G.2 0, 482, .inl f_8)), (b24, .inl (G.2 0, 2, .inl f_9)), (b25, .inl (G.2 0, 482, .inl f_10)), (b26, .inl (G.2 0, 482, .inl f_11)), (b27, .inl (G.2 0, 482, .inl f_12)), (b28, .inl (G.2 0, 2, .inl f_13)), (b29, .inl (G.2 0, 2880, .inl f_14))] H := hP
    have hD := z_tie hP hD rfl
    try simp only [Int32.toInt_toInt64, ll_0] at hq_35
    have hv_39 : zI b1 0 2147483647 := by have _a := hq_35; have _b := (zI_all b1); have _c := zcl_0; simp only [Int32.toInt_toInt64] at *; exact ⟨by omega, by omega⟩
    try simp only [Int32.toInt_toInt64] at hq_36
    have hv_40 : zI b1 0 240 := by have _a := hq_36; have _b := hv_39; have _c := hv_30; simp only [Int32.toInt_toInt64] at *; exact ⟨by omega, by omega⟩
    have hv_41 : zJ v_30 0 240 := by have _a := hq_36; have _b := hv_30; have _c := (zI_i2l hv_40 rfl).2; simp only [Int32.toInt_toInt64] at *; exact ⟨by omega, by omega⟩
    refine W.widen (k := 0) (n := 0) (Nat.le_of_ble_eq_true rfl) (Nat.le_of_ble_eq_true rfl) ?_
    refine lv_if_ne (tgt := 29) hx hb d_Model_state_24 (by decide) (fun _ => ?_) (fun hc => absurd hc (by decide +kernel))
    refine lv_iload_n hx hb d_Model_state_29 rfl (lv_at hl 2 rfl) ?_
    by_cases hs_42 : b2 = 0
    · subst hs_42
      refine lv_tableIn (off := 42) (tgt := 72) hx hb d_Model_state_30 (by decide +kernel) (by decide +kernel) rfl (by decide) ?_
      refine lv_aload_n hx hb d_Model_state_72 rfl (lv_at hl 0 rfl) ?_
      refine va_get (D := G.1) (ci := 12) (v := .ref b25) (C := R_Model) (T := F_Model) (N := 54) hx hb hts i_Model hown hK hP 0 rfl rfl 22 (by decide) (hts _ q1131) (fun _ h9 => h9) rfl d_Model_state_73 ?_
      refine lv_iload_n hx hb d_Model_state_76 rfl (lv_at hl 1 rfl) ?_
      refine va_iald hx hb hK hP 9 0 rfl rfl (zI.inn hv_40 (by decide)) d_Model_state_77 ?_
      refine lv_topi (fun v_43 ev_43 => ?_)
      have hv_43 : zI v_43 0 240 := (hf_10 _).eq ev_43
      exact z_iret hx hb hr hlocks hP hD hS (Nat.le_of_ble_eq_true rfl) (Nat.le_of_ble_eq_true rfl) d_Model_state_78 ⟨v_43, x_2, f_3, f_4, f_5, f_6, f_7, f_8, f_9, f_10, f_11, f_12, f_13, f_14, rfl, rfl, hx_2, hf_3, hf_4, hf_5, hf_7, hf_8, hf_9, hf_10, hf_13, hf_14⟩
    simp only [fa_lt, fa_le, fa_eq, Int32.toInt_toInt64, li_0] at hs_42
    by_cases hs_44 : b2 = 1
    · subst hs_44
      refine lv_tableIn (off := 49) (tgt := 79) hx hb d_Model_state_30 (by decide +kernel) (by decide +kernel) rfl (by decide) ?_
      refine lv_aload_n hx hb d_Model_state_79 rfl (lv_at hl 0 rfl) ?_
      refine va_get (D := G.1) (ci := 12) (v := .ref b26) (C := R_Model) (T := F_Model) (N := 54) hx hb hts i_Model hown hK hP 0 rfl rfl 23 (by decide) (hts _ q1132) (fun _ h9 => h9) rfl d_Model_state_80 ?_
      refine lv_iload_n hx hb d_Model_state_83 rfl (lv_at hl 1 rfl) ?_
      refine va_iald hx hb hK hP 10 0 rfl rfl (zI.inn hv_40 (by decide)) d_Model_state_84 ?_
      refine lv_topi (fun v_45 ev_45 => ?_)
      exact z_iret hx hb hr hlocks hP hD hS (Nat.le_of_ble_eq_true rfl) (Nat.le_of_ble_eq_true rfl) d_Model_state_85 ⟨v_45, x_2, f_3, f_4, f_5, f_6, f_7, f_8, f_9, f_10, f_11, f_12, f_13, f_14, rfl, rfl, hx_2, hf_3, hf_4, hf_5, hf_7, hf_8, hf_9, hf_10, hf_13, hf_14⟩
    simp only [fa_lt, fa_le, fa_eq, Int32.toInt_toInt64, li_1] at hs_44
    by_cases hs_46 : b2 = 2
    · subst hs_46
      refine lv_tableIn (off := 56) (tgt := 86) hx hb d_Model_state_30 (by decide +kernel) (by decide +kernel) rfl (by decide) ?_
      refine lv_aload_n hx hb d_Model_state_86 rfl (lv_at hl 0 rfl) ?_
      refine lv_iconst (v := 0) hx hb d_Model_state_87 (by decide) ?_
      refine lv_iload_n hx hb d_Model_state_88 rfl (lv_at hl 1 rfl) ?_
      refine z_callV (index := 256) (As := [.int 0, .int b1]) (rest := []) (wr := [(b4, .inl (G.2 0, 503, .inl b57)), (b18, .inl (G.2 0, 2, .inl f_3)), (b19, .inl (G.2 0, 4820, .inl f_4)), (b20, .inl (G.2 0, 520, .inl f_5)), (b21, .inl (G.2 0, 9640, .inl f_6)), (b22, .inl (G.2 0, 482, .inl f_7)), (b23, .inl (G.2 0, 482, .inl f_8)), (b24, .inl (G.2 0, 2, .inl f_9)), (b25, .inl (G.2 0, 482, .inl f_10)), (b26, .inl (G.2 0, 482, .inl f_11)), (b28, .inl (G.2 0, 2, .inl f_13)), (b29, .inl (G.2 0, 2880, .inl f_14))]) Z (s2_Model_isFinal l G (b0) (b1) (0) (b4) (b5) (b6) (b7) (b8) (b9) (b10) (b11) (b12) (b13) (b14) (b15) (b16) (b17) (b18) (b19) (b20) (b21) (b22) (b23) (b24) (b25) (b26) (b27) (b28) (b29) (x_2) (b31) (b32) (b33) (b34) (b35) (b36) (b37) (b38) (b39) (b40) (b41) (b42) (b43) (b44) (b45) (b46) (b47) (b48) (b49) (b50) (b51) (b52) (b53) (b54) (b55) (b56) (f_12) hv_40 hb8 hb10 hb11 hb13 hb17 hx_2 hb33 hb44 hb47 hb53) hl.1 q1420 q1422 qs70 q14 q1423 ⟨by decide, by decide, by show _ = some 2; decide +kernel⟩ ⟨Nat.le_of_ble_eq_true rfl, Nat.le_of_ble_eq_true rfl⟩ ⟨Nat.le_of_ble_eq_true rfl, Nat.le_of_ble_eq_true rfl⟩ rfl (Nat.le_of_ble_eq_true rfl) d_Model_state_89 hP hD hS hA 0 12 rfl rfl rfl [0, 11] [1, 2, 3, 4, 5, 6, 7, 8, 9, 10, 12, 13] rfl rfl rfl rfl (by decide) (fun v w1 H locs hw_47 hP hD hS => ?_)
      obtain ⟨x_48, rfl, rfl, hx_48⟩ := hw_47
      have hP : va_P G.1 classes [(b4, .inl (G.2 0, 503, .inl b57)), (b18, .inl (G.2 0, 2, .inl f_3)), (b19, .inl (G.2 0, 4820, .inl f_4)), (b20, .inl (G.2 0, 520, .inl f_5)), (b21, .inl (G.2 0, 9640, .inl f_6)), (b22, .inl (G.2 0, 482, .inl f_7)), (b23, .inl (G.2 0, 482, .inl f_8)), (b24, .inl (G.2 0, 2, .inl f_9)), (b25, .inl (G.2 0, 482, .inl f_10)), (b26, .inl (G.2 0, 482, .inl f_11)), (b28, .inl (G.2 0, 2, .inl f_13)), (b29, .inl (G.2 0, 2880, .inl f_14)), (b0, .inr (12, [.int 0, .ref b4, .ref b5, .ref b6, .ref b7, .int b8, .ref b9, .int b10, .int b11, .int b12, .int b13, .ref b14, .ref b15, .ref b16, .int b17, .ref b18, .ref b19, .ref b20, .ref b21, .ref b22, .ref b23, .ref b24, .ref b25, .ref b26, .ref b27, .ref b28, .ref b29, .int x_2, .ref b31, .ref b32, .int b33, .int b34, .int b35, .int b36, .ref b37, .ref b38, .ref b39, .ref b40, .ref b41, .ref b42, .ref b43, .int b44, .ref b45, .ref b46, .int b47, .ref b48, .ref b49, .ref b50, .ref b51, .ref b52, .int b53, .ref b54, .ref b55, .ref b56])), (b27, .inl (G.2 0, 482, .inl f_12))] H := hP
      have hD := z_tie hP hD rfl
      refine W.widen (k := 0) (n := 0) (Nat.le_of_ble_eq_true rfl) (Nat.le_of_ble_eq_true rfl) ?_
      refine lv_if_eq (tgt := 99) hx hb d_Model_state_92 (by decide) (fun hc_49 => ?_) (fun hc_49 => ?_)
      · have _nhc_49 := hc_49
        have ni_50 := (fa_eq _ _).mp hc_49
        rw [li_0] at ni_50
        have hv_51 : zI x_48 0 0 := zI.eq_l hx_48 zc_0 hc_49
        refine lv_iconst (v := 0) hx hb d_Model_state_99 (by decide) ?_
        exact z_iret hx hb hr hlocks (hP.sub [12, 0, 1, 2, 3, 4, 5, 6, 7, 8, 9, 13, 10, 11] rfl) (hD.sub [12, 0, 1, 2, 3, 4, 5, 6, 7, 8, 9, 13, 10, 11] (by decide) rfl) hS (Nat.le_of_ble_eq_true rfl) (Nat.le_of_ble_eq_true rfl) d_Model_state_100 ⟨0, x_2, f_3, f_4, f_5, f_6, f_7, f_8, f_9, f_10, f_11, f_12, f_13, f_14, rfl, rfl, hx_2, hf_3, hf_4, hf_5, hf_7, hf_8, hf_9, hf_10, hf_13, hf_14⟩
      · have _nhc_49 := hc_49
        have ni_52 : ¬ (x_48 : Int32).toInt = (0 : Int32).toInt := fun z => hc_49 ((fa_eq _ _).mpr z)
        simp only [li_0] at ni_52
        have hv_53 : zI x_48 1 1 := zI.ne_lo hx_48 zc_0 hc_49 (by decide)
        refine lv_iconst (v := 1) hx hb d_Model_state_95 (by decide) ?_
        refine lv_goto (tgt := 100) hx hb d_Model_state_96 (by decide) ?_
        exact z_iret hx hb hr hlocks (hP.sub [12, 0, 1, 2, 3, 4, 5, 6, 7, 8, 9, 13, 10, 11] rfl) (hD.sub [12, 0, 1, 2, 3, 4, 5, 6, 7, 8, 9, 13, 10, 11] (by decide) rfl) hS (Nat.le_of_ble_eq_true rfl) (Nat.le_of_ble_eq_true rfl) d_Model_state_100 ⟨1, x_2, f_3, f_4, f_5, f_6, f_7, f_8, f_9, f_10, f_11, f_12, f_13, f_14, rfl, rfl, hx_2, hf_3, hf_4, hf_5, hf_7, hf_8, hf_9, hf_10, hf_13, hf_14⟩
    simp only [fa_lt, fa_le, fa_eq, Int32.toInt_toInt64, li_2] at hs_46
    by_cases hs_54 : b2 = 3
    · subst hs_54
      refine lv_tableIn (off := 71) (tgt := 101) hx hb d_Model_state_30 (by decide +kernel) (by decide +kernel) rfl (by decide) ?_
      refine lv_aload_n hx hb d_Model_state_101 rfl (lv_at hl 0 rfl) ?_
      refine va_get (D := G.1) (ci := 12) (v := .ref b27) (C := R_Model) (T := F_Model) (N := 54) hx hb hts i_Model hown hK hP 0 rfl rfl 24 (by decide) (hts _ q1133) (fun _ h9 => h9) rfl d_Model_state_102 ?_
      refine lv_iload_n hx hb d_Model_state_105 rfl (lv_at hl 1 rfl) ?_
      refine va_iald hx hb hK hP 11 0 rfl rfl (zI.inn hv_40 (by decide)) d_Model_state_106 ?_
      refine lv_topi (fun v_55 ev_55 => ?_)
      exact z_iret hx hb hr hlocks hP hD hS (Nat.le_of_ble_eq_true rfl) (Nat.le_of_ble_eq_true rfl) d_Model_state_107 ⟨v_55, x_2, f_3, f_4, f_5, f_6, f_7, f_8, f_9, f_10, f_11, f_12, f_13, f_14, rfl, rfl, hx_2, hf_3, hf_4, hf_5, hf_7, hf_8, hf_9, hf_10, hf_13, hf_14⟩
    simp only [fa_lt, fa_le, fa_eq, Int32.toInt_toInt64, li_3] at hs_54
    by_cases hs_56 : b2 = 4
    · subst hs_56
      refine lv_tableIn (off := 78) (tgt := 108) hx hb d_Model_state_30 (by decide +kernel) (by decide +kernel) rfl (by decide) ?_
      refine lv_aload_n hx hb d_Model_state_108 rfl (lv_at hl 0 rfl) ?_
      refine lv_iload_n hx hb d_Model_state_109 rfl (lv_at hl 1 rfl) ?_
      refine lv_iconst (v := 0) hx hb d_Model_state_110 (by decide) ?_
      refine z_callV (index := 259) (As := [.int b1, .int 0]) (rest := []) (wr := [(b4, .inl (G.2 0, 503, .inl b57)), (b18, .inl (G.2 0, 2, .inl f_3)), (b19, .inl (G.2 0, 4820, .inl f_4)), (b20, .inl (G.2 0, 520, .inl f_5)), (b21, .inl (G.2 0, 9640, .inl f_6)), (b22, .inl (G.2 0, 482, .inl f_7)), (b23, .inl (G.2 0, 482, .inl f_8)), (b24, .inl (G.2 0, 2, .inl f_9)), (b25, .inl (G.2 0, 482, .inl f_10)), (b26, .inl (G.2 0, 482, .inl f_11)), (b27, .inl (G.2 0, 482, .inl f_12))]) Z (s1_Model_leaving l G (b0) (b1) (0) (0) (b4) (b5) (b6) (b7) (b8) (b9) (b10) (b11) (b12) (b13) (b14) (b15) (b16) (b17) (b18) (b19) (b20) (b21) (b22) (b23) (b24) (b25) (b26) (b27) (b28) (b29) (x_2) (b31) (b32) (b33) (b34) (b35) (b36) (b37) (b38) (b39) (b40) (b41) (b42) (b43) (b44) (b45) (b46) (b47) (b48) (b49) (b50) (b51) (b52) (b53) (b54) (b55) (b56) (f_13) (f_14) (zI.wk (l' := 0) (h' := 1) zc_0 (by decide)) hb8 hb10 hb11 hb13 hb17 hx_2 hb33 hb44 hb47 hb53 hf_13 hf_14) hl.1 q1424 q1426 qs71 q14 q1427 ⟨by decide, by decide, by show _ = some 2; decide +kernel⟩ ⟨Nat.le_of_ble_eq_true rfl, Nat.le_of_ble_eq_true rfl⟩ ⟨Nat.le_of_ble_eq_true rfl, Nat.le_of_ble_eq_true rfl⟩ rfl (Nat.le_of_ble_eq_true rfl) d_Model_state_111 hP hD hS hA 0 12 rfl rfl rfl [0, 12, 13] [1, 2, 3, 4, 5, 6, 7, 8, 9, 10, 11] rfl rfl rfl rfl (by decide) (fun v w1 H locs hw_57 hP hD hS => ?_)
      obtain ⟨x_58, rfl, rfl, hfx_59⟩ := hw_57
      have hP : va_P G.1 classes [(b4, .inl (G.2 0, 503, .inl b57)), (b18, .inl (G.2 0, 2, .inl f_3)), (b19, .inl (G.2 0, 4820, .inl f_4)), (b20, .inl (G.2 0, 520, .inl f_5)), (b21, .inl (G.2 0, 9640, .inl f_6)), (b22, .inl (G.2 0, 482, .inl f_7)), (b23, .inl (G.2 0, 482, .inl f_8)), (b24, .inl (G.2 0, 2, .inl f_9)), (b25, .inl (G.2 0, 482, .inl f_10)), (b26, .inl (G.2 0, 482, .inl f_11)), (b27, .inl (G.2 0, 482, .inl f_12)), (b0, .inr (12, [.int 0, .ref b4, .ref b5, .ref b6, .ref b7, .int b8, .ref b9, .int b10, .int b11, .int b12, .int b13, .ref b14, .ref b15, .ref b16, .int b17, .ref b18, .ref b19, .ref b20, .ref b21, .ref b22, .ref b23, .ref b24, .ref b25, .ref b26, .ref b27, .ref b28, .ref b29, .int x_2, .ref b31, .ref b32, .int b33, .int b34, .int b35, .int b36, .ref b37, .ref b38, .ref b39, .ref b40, .ref b41, .ref b42, .ref b43, .int b44, .ref b45, .ref b46, .int b47, .ref b48, .ref b49, .ref b50, .ref b51, .ref b52, .int b53, .ref b54, .ref b55, .ref b56])), (b28, .inl (G.2 0, 2, .inl f_13)), (b29, .inl (G.2 0, 2880, .inl f_14))] H := hP
      have hD := z_tie hP hD rfl
      refine W.widen (k := 0) (n := 0) (Nat.le_of_ble_eq_true rfl) (Nat.le_of_ble_eq_true rfl) ?_
      exact z_iret hx hb hr hlocks (hP.sub [11, 0, 1, 2, 3, 4, 5, 6, 7, 8, 9, 10, 12, 13] rfl) (hD.sub [11, 0, 1, 2, 3, 4, 5, 6, 7, 8, 9, 10, 12, 13] (by decide) rfl) hS (Nat.le_of_ble_eq_true rfl) (Nat.le_of_ble_eq_true rfl) d_Model_state_114 ⟨x_58, x_2, f_3, f_4, f_5, f_6, f_7, f_8, f_9, f_10, f_11, f_12, f_13, f_14, rfl, rfl, hx_2, hf_3, hf_4, hf_5, hf_7, hf_8, hf_9, hf_10, hf_13, hf_14⟩
    simp only [fa_lt, fa_le, fa_eq, Int32.toInt_toInt64, li_4] at hs_56
    by_cases hs_60 : b2 = 5
    · subst hs_60
      refine lv_tableIn (off := 85) (tgt := 115) hx hb d_Model_state_30 (by decide +kernel) (by decide +kernel) rfl (by decide) ?_
      refine lv_aload_n hx hb d_Model_state_115 rfl (lv_at hl 0 rfl) ?_
      refine lv_iload_n hx hb d_Model_state_116 rfl (lv_at hl 1 rfl) ?_
      refine lv_iconst (v := 1) hx hb d_Model_state_117 (by decide) ?_
      refine z_callV (index := 259) (As := [.int b1, .int 1]) (rest := []) (wr := [(b4, .inl (G.2 0, 503, .inl b57)), (b18, .inl (G.2 0, 2, .inl f_3)), (b19, .inl (G.2 0, 4820, .inl f_4)), (b20, .inl (G.2 0, 520, .inl f_5)), (b21, .inl (G.2 0, 9640, .inl f_6)), (b22, .inl (G.2 0, 482, .inl f_7)), (b23, .inl (G.2 0, 482, .inl f_8)), (b24, .inl (G.2 0, 2, .inl f_9)), (b25, .inl (G.2 0, 482, .inl f_10)), (b26, .inl (G.2 0, 482, .inl f_11)), (b27, .inl (G.2 0, 482, .inl f_12))]) Z (s1_Model_leaving l G (b0) (b1) (1) (0) (b4) (b5) (b6) (b7) (b8) (b9) (b10) (b11) (b12) (b13) (b14) (b15) (b16) (b17) (b18) (b19) (b20) (b21) (b22) (b23) (b24) (b25) (b26) (b27) (b28) (b29) (x_2) (b31) (b32) (b33) (b34) (b35) (b36) (b37) (b38) (b39) (b40) (b41) (b42) (b43) (b44) (b45) (b46) (b47) (b48) (b49) (b50) (b51) (b52) (b53) (b54) (b55) (b56) (f_13) (f_14) (zI.wk (l' := 0) (h' := 1) zc_1 (by decide)) hb8 hb10 hb11 hb13 hb17 hx_2 hb33 hb44 hb47 hb53 hf_13 hf_14) hl.1 q1424 q1426 qs71 q14 q1427 ⟨by decide, by decide, by show _ = some 2; decide +kernel⟩ ⟨Nat.le_of_ble_eq_true rfl, Nat.le_of_ble_eq_true rfl⟩ ⟨Nat.le_of_ble_eq_true rfl, Nat.le_of_ble_eq_true rfl⟩ rfl (Nat.le_of_ble_eq_true rfl) d_Model_state_118 hP hD hS hA 0 12 rfl rfl rfl [0, 12, 13] [1, 2, 3, 4, 5, 6, 7, 8, 9, 10, 11] rfl rfl rfl rfl (by decide) (fun v w1 H locs hw_61 hP hD hS => ?_)
      obtain ⟨x_62, rfl, rfl, hfx_63⟩ := hw_61
      have hP : va_P G.1 classes [(b4, .inl (G.2 0, 503, .inl b57)), (b18, .inl (G.2 0, 2, .inl f_3)), (b19, .inl (G.2 0, 4820, .inl f_4)), (b20, .inl (G.2 0, 520, .inl f_5)), (b21, .inl (G.2 0, 9640, .inl f_6)), (b22, .inl (G.2 0, 482, .inl f_7)), (b23, .inl (G.2 0, 482, .inl f_8)), (b24, .inl (G.2 0, 2, .inl f_9)), (b25, .inl (G.2 0, 482, .inl f_10)), (b26, .inl (G.2 0, 482, .inl f_11)), (b27, .inl (G.2 0, 482, .inl f_12)), (b0, .inr (12, [.int 0, .ref b4, .ref b5, .ref b6, .ref b7, .int b8, .ref b9, .int b10, .int b11, .int b12, .int b13, .ref b14, .ref b15, .ref b16, .int b17, .ref b18, .ref b19, .ref b20, .ref b21, .ref b22, .ref b23, .ref b24, .ref b25, .ref b26, .ref b27, .ref b28, .ref b29, .int x_2, .ref b31, .ref b32, .int b33, .int b34, .int b35, .int b36, .ref b37, .ref b38, .ref b39, .ref b40, .ref b41, .ref b42, .ref b43, .int b44, .ref b45, .ref b46, .int b47, .ref b48, .ref b49, .ref b50, .ref b51, .ref b52, .int b53, .ref b54, .ref b55, .ref b56])), (b28, .inl (G.2 0, 2, .inl f_13)), (b29, .inl (G.2 0, 2880, .inl f_14))] H := hP
      have hD := z_tie hP hD rfl
      refine W.widen (k := 0) (n := 0) (Nat.le_of_ble_eq_true rfl) (Nat.le_of_ble_eq_true rfl) ?_
      exact z_iret hx hb hr hlocks (hP.sub [11, 0, 1, 2, 3, 4, 5, 6, 7, 8, 9, 10, 12, 13] rfl) (hD.sub [11, 0, 1, 2, 3, 4, 5, 6, 7, 8, 9, 10, 12, 13] (by decide) rfl) hS (Nat.le_of_ble_eq_true rfl) (Nat.le_of_ble_eq_true rfl) d_Model_state_121 ⟨x_62, x_2, f_3, f_4, f_5, f_6, f_7, f_8, f_9, f_10, f_11, f_12, f_13, f_14, rfl, rfl, hx_2, hf_3, hf_4, hf_5, hf_7, hf_8, hf_9, hf_10, hf_13, hf_14⟩
    simp only [fa_lt, fa_le, fa_eq, Int32.toInt_toInt64, li_5] at hs_60
    by_cases hs_64 : b2 = 6
    · subst hs_64
      refine lv_tableIn (off := 92) (tgt := 122) hx hb d_Model_state_30 (by decide +kernel) (by decide +kernel) rfl (by decide) ?_
      refine lv_aload_n hx hb d_Model_state_122 rfl (lv_at hl 0 rfl) ?_
      refine va_get (D := G.1) (ci := 12) (v := .ref b22) (C := R_Model) (T := F_Model) (N := 54) hx hb hts i_Model hown hK hP 0 rfl rfl 19 (by decide) (hts _ q1128) (fun _ h9 => h9) rfl d_Model_state_123 ?_
      refine lv_aload_n hx hb d_Model_state_126 rfl (lv_at hl 0 rfl) ?_
      refine va_get (D := G.1) (ci := 12) (v := .ref b25) (C := R_Model) (T := F_Model) (N := 54) hx hb hts i_Model hown hK hP 0 rfl rfl 22 (by decide) (hts _ q1131) (fun _ h9 => h9) rfl d_Model_state_127 ?_
      refine lv_iload_n hx hb d_Model_state_130 rfl (lv_at hl 1 rfl) ?_
      refine va_iald hx hb hK hP 9 0 rfl rfl (zI.inn hv_40 (by decide)) d_Model_state_131 ?_
      refine lv_topi (fun v_65 ev_65 => ?_)
      have hv_65 : zI v_65 0 240 := (hf_10 _).eq ev_65
      refine va_iald hx hb hK hP 6 0 rfl rfl (zI.inn hv_65 (by decide)) d_Model_state_132 ?_
      refine lv_topi (fun v_66 ev_66 => ?_)
      obtain ⟨hv_66, kv_66⟩ := zQC.ld hf_7 hv_65 ev_66 (by decide)
      exact z_iret hx hb hr hlocks hP hD hS (Nat.le_of_ble_eq_true rfl) (Nat.le_of_ble_eq_true rfl) d_Model_state_133 ⟨v_66, x_2, f_3, f_4, f_5, f_6, f_7, f_8, f_9, f_10, f_11, f_12, f_13, f_14, rfl, rfl, hx_2, hf_3, hf_4, hf_5, hf_7, hf_8, hf_9, hf_10, hf_13, hf_14⟩
    simp only [fa_lt, fa_le, fa_eq, Int32.toInt_toInt64, li_6] at hs_64
    refine lv_tableOut (tgt := 134) hx hb d_Model_state_30 (by omega) (by decide) ?_
    refine lv_iconst (v := (-1)) hx hb d_Model_state_134 (by decide) ?_
    exact z_iret hx hb hr hlocks hP hD hS (Nat.le_of_ble_eq_true rfl) (Nat.le_of_ble_eq_true rfl) d_Model_state_135 ⟨(-1), x_2, f_3, f_4, f_5, f_6, f_7, f_8, f_9, f_10, f_11, f_12, f_13, f_14, rfl, rfl, hx_2, hf_3, hf_4, hf_5, hf_7, hf_8, hf_9, hf_10, hf_13, hf_14⟩
theorem d_Model_edge_0 : decode prog_14_method_41_code 0 = .ok (.aload_n 0, 1) := by decide +kernel
theorem d_Model_edge_1 : decode prog_14_method_41_code 1 = .ok (.iconst 0, 1) := by decide +kernel
theorem d_Model_edge_2 : decode prog_14_method_41_code 2 = .ok (.putfield 1, 3) := by decide +kernel
theorem d_Model_edge_5 : decode prog_14_method_41_code 5 = .ok (.aload_n 0, 1) := by decide +kernel
theorem d_Model_edge_6 : decode prog_14_method_41_code 6 = .ok (.invokevirtual 254, 3) := by decide +kernel
theorem d_Model_edge_9 : decode prog_14_method_41_code 9 = .ok (.iload_n 1, 1) := by decide +kernel
theorem d_Model_edge_10 : decode prog_14_method_41_code 10 = .ok (.i2l, 1) := by decide +kernel
theorem d_Model_edge_11 : decode prog_14_method_41_code 11 = .ok (.lconst 0, 1) := by decide +kernel
theorem d_Model_edge_12 : decode prog_14_method_41_code 12 = .ok (.aload_n 0, 1) := by decide +kernel
theorem d_Model_edge_13 : decode prog_14_method_41_code 13 = .ok (.getfield 70, 3) := by decide +kernel
theorem d_Model_edge_16 : decode prog_14_method_41_code 16 = .ok (.iconst 0, 1) := by decide +kernel
theorem d_Model_edge_17 : decode prog_14_method_41_code 17 = .ok (.iaload, 1) := by decide +kernel
theorem d_Model_edge_18 : decode prog_14_method_41_code 18 = .ok (.i2l, 1) := by decide +kernel
theorem d_Model_edge_19 : decode prog_14_method_41_code 19 = .ok (.lconst 1, 1) := by decide +kernel
theorem d_Model_edge_20 : decode prog_14_method_41_code 20 = .ok (.lsub, 1) := by decide +kernel
theorem d_Model_edge_21 : decode prog_14_method_41_code 21 = .ok (.invokestatic 138, 3) := by decide +kernel
theorem d_Model_edge_24 : decode prog_14_method_41_code 24 = .ok (.ifCond .eq 15, 3) := by decide +kernel
theorem d_Model_edge_27 : decode prog_14_method_41_code 27 = .ok (.iload_n 2, 1) := by decide +kernel
theorem d_Model_edge_28 : decode prog_14_method_41_code 28 = .ok (.i2l, 1) := by decide +kernel
theorem d_Model_edge_29 : decode prog_14_method_41_code 29 = .ok (.lconst 0, 1) := by decide +kernel
theorem d_Model_edge_30 : decode prog_14_method_41_code 30 = .ok (.ldc2_w 263, 3) := by decide +kernel
theorem d_Model_edge_33 : decode prog_14_method_41_code 33 = .ok (.invokestatic 138, 3) := by decide +kernel
theorem d_Model_edge_36 : decode prog_14_method_41_code 36 = .ok (.ifCond .ne 5, 3) := by decide +kernel
theorem d_Model_edge_39 : decode prog_14_method_41_code 39 = .ok (.iconst (-1), 1) := by decide +kernel
theorem d_Model_edge_40 : decode prog_14_method_41_code 40 = .ok (.ireturn, 1) := by decide +kernel
theorem d_Model_edge_41 : decode prog_14_method_41_code 41 = .ok (.iload_n 2, 1) := by decide +kernel
theorem d_Model_edge_42 : decode prog_14_method_41_code 42 = .ok (.iconst 1, 1) := by decide +kernel
theorem d_Model_edge_43 : decode prog_14_method_41_code 43 = .ok (.if_icmp .ne 16, 3) := by decide +kernel
theorem d_Model_edge_46 : decode prog_14_method_41_code 46 = .ok (.bipush 97, 2) := by decide +kernel
theorem d_Model_edge_48 : decode prog_14_method_41_code 48 = .ok (.aload_n 0, 1) := by decide +kernel
theorem d_Model_edge_49 : decode prog_14_method_41_code 49 = .ok (.iconst 0, 1) := by decide +kernel
theorem d_Model_edge_50 : decode prog_14_method_41_code 50 = .ok (.iload_n 1, 1) := by decide +kernel
theorem d_Model_edge_51 : decode prog_14_method_41_code 51 = .ok (.iconst 1, 1) := by decide +kernel
theorem d_Model_edge_52 : decode prog_14_method_41_code 52 = .ok (.invokevirtual 225, 3) := by decide +kernel
theorem d_Model_edge_55 : decode prog_14_method_41_code 55 = .ok (.iadd, 1) := by decide +kernel
theorem d_Model_edge_56 : decode prog_14_method_41_code 56 = .ok (.goto 10, 3) := by decide +kernel
theorem d_Model_edge_59 : decode prog_14_method_41_code 59 = .ok (.aload_n 0, 1) := by decide +kernel
theorem d_Model_edge_60 : decode prog_14_method_41_code 60 = .ok (.iconst 0, 1) := by decide +kernel
theorem d_Model_edge_61 : decode prog_14_method_41_code 61 = .ok (.iload_n 1, 1) := by decide +kernel
theorem d_Model_edge_62 : decode prog_14_method_41_code 62 = .ok (.iload_n 2, 1) := by decide +kernel
theorem d_Model_edge_63 : decode prog_14_method_41_code 63 = .ok (.invokevirtual 225, 3) := by decide +kernel
abbrev m_s16_Model_edgeAt : Room := { frames := 0, cells := 0, slots := 0, locals := 0 }
set_option maxHeartbeats 4000000 in
set_option maxRecDepth 100000 in
theorem s16_Model_edgeAt (l : Launch) (G : zG) (b0 : Nat) (b1 : Int32) (b2 : Int32) (b3 : Int32) (b4 : Nat) (b5 : Nat) (b6 : Nat) (b7 : Nat) (b8 : Int32) (b9 : Nat) (b10 : Int32) (b11 : Int32) (b12 : Int32) (b13 : Int32) (b14 : Nat) (b15 : Nat) (b16 : Nat) (b17 : Int32) (b18 : Nat) (b19 : Nat) (b20 : Nat) (b21 : Nat) (b22 : Nat) (b23 : Nat) (b24 : Nat) (b25 : Nat) (b26 : Nat) (b27 : Nat) (b28 : Nat) (b29 : Nat) (b30 : Int32) (b31 : Nat) (b32 : Nat) (b33 : Int32) (b34 : Int32) (b35 : Int32) (b36 : Int32) (b37 : Nat) (b38 : Nat) (b39 : Nat) (b40 : Nat) (b41 : Nat) (b42 : Nat) (b43 : Nat) (b44 : Int32) (b45 : Nat) (b46 : Nat) (b47 : Int32) (b48 : Nat) (b49 : Nat) (b50 : Nat) (b51 : Nat) (b52 : Nat) (b53 : Int32) (b54 : Nat) (b55 : Nat) (b56 : Nat) (b57 : Nat → Int32) (hb1 : zI b1 0 240) (hb2 : zI b2 0 5) (hb8 : zI b8 0 8) (hb10 : zI b10 0 240) (hb11 : zI b11 0 240) (hb13 : zI b13 0 1) (hb17 : zI b17 0 12) (hb30 : zI b30 0 1) (hb33 : zI b33 0 1) (hb44 : zI b44 0 1000) (hb47 : zI b47 0 1000) (hb53 : zI b53 0 400) (hb57 : zqa qE b57) : zM l G y_Model_edgeAt prog_14_method_25_code 4 (Option.some Jvm.ClassFile.FieldType.int) m_s16_Model_edgeAt [.ref b0, .int 0, .int b1, .int b2] [(b0, .inr (12, [.int b3, .ref b4, .ref b5, .ref b6, .ref b7, .int b8, .ref b9, .int b10, .int b11, .int b12, .int b13, .ref b14, .ref b15, .ref b16, .int b17, .ref b18, .ref b19, .ref b20, .ref b21, .ref b22, .ref b23, .ref b24, .ref b25, .ref b26, .ref b27, .ref b28, .ref b29, .int b30, .ref b31, .ref b32, .int b33, .int b34, .int b35, .int b36, .ref b37, .ref b38, .ref b39, .ref b40, .ref b41, .ref b42, .ref b43, .int b44, .ref b45, .ref b46, .int b47, .ref b48, .ref b49, .ref b50, .ref b51, .ref b52, .int b53, .ref b54, .ref b55, .ref b56])), (b29, .inl (G.2 0, 2880, .inl b57))] (fun v w => ∃ (e0 : Int32), v = some (.int e0) ∧ w = [(b0, .inr (12, [.int b3, .ref b4, .ref b5, .ref b6, .ref b7, .int b8, .ref b9, .int b10, .int b11, .int b12, .int b13, .ref b14, .ref b15, .ref b16, .int b17, .ref b18, .ref b19, .ref b20, .ref b21, .ref b22, .ref b23, .ref b24, .ref b25, .ref b26, .ref b27, .ref b28, .ref b29, .int b30, .ref b31, .ref b32, .int b33, .int b34, .int b35, .int b36, .ref b37, .ref b38, .ref b39, .ref b40, .ref b41, .ref b42, .ref b43, .int b44, .ref b45, .ref b46, .int b47, .ref b48, .ref b49, .ref b50, .ref b51, .ref b52, .int b53, .ref b54, .ref b55, .ref b56])), (b29, .inl (G.2 0, 2880, .inl b57))]) := by
  refine z_start (by decide +kernel) (Nat.le_of_ble_eq_true rfl) ?_
  intro p e s m below meth c A Z hr hnm hA hP hD hS ls hl
  have Z : zC p s m _ meth c prog_14_method_25_code 4 "TraceMachinesModel" G := Z
  obtain ⟨hx, hb, hml, hown, hts, hK, hN, hlocks⟩ := id Z
  have hl : lv_has ls 4 [(0, .ref b0), (1, .int 0), (2, .int b1), (3, .int b2)] := hl
  refine lv_aload_n hx hb d_Model_edgeAt_0 rfl (lv_at hl 0 rfl) ?_
  refine va_get (D := G.1) (ci := 12) (v := .ref b29) (C := R_Model) (T := F_Model) (N := 54) hx hb hts i_Model hown hK hP 0 rfl rfl 26 (by decide) (hts _ q1135) (fun _ h9 => h9) rfl d_Model_edgeAt_1 ?_
  refine lv_bipush (v := 6) hx hb d_Model_edgeAt_4 (by decide) ?_
  refine lv_sipush (v := 240) hx hb d_Model_edgeAt_6 (by decide) ?_
  refine lv_iload_n hx hb d_Model_edgeAt_9 rfl (lv_at hl 1 rfl) ?_
  refine lv_imul hx hb d_Model_edgeAt_10 ?_
  refine z_topi (y := 0) (by decide +kernel) ?_
  refine lv_iload_n hx hb d_Model_edgeAt_11 rfl (lv_at hl 2 rfl) ?_
  refine lv_iadd hx hb d_Model_edgeAt_12 ?_
  refine lv_topi (fun v_1 ev_1 => ?_)
  obtain ⟨qv_1, hv_1⟩ := zI_add (l := 0) (h := 240) zc_0 hb1 ev_1 (by decide)
  rw [li_0] at qv_1
  refine lv_imul hx hb d_Model_edgeAt_13 ?_
  refine lv_topi (fun v_2 ev_2 => ?_)
  obtain ⟨qv_2, hv_2⟩ := zI_mul (l := 0) (h := 1440) zc_6 hv_1 ev_2 (by decide)
  rw [li_6] at qv_2
  refine lv_iload_n hx hb d_Model_edgeAt_14 rfl (lv_at hl 3 rfl) ?_
  refine lv_iadd hx hb d_Model_edgeAt_15 ?_
  refine lv_topi (fun v_3 ev_3 => ?_)
  obtain ⟨qv_3, hv_3⟩ := zI_add (l := 0) (h := 1445) hv_2 hb2 ev_3 (by decide)
  refine va_iald hx hb hK hP 1 0 rfl rfl (zI.inn hv_3 (by decide)) d_Model_edgeAt_16 ?_
  refine lv_topi (fun v_4 ev_4 => ?_)
  have kv_4 := zQE.ld hb57 hv_3 ev_4 (by decide)
  exact z_iret hx hb hr hlocks hP hD hS (Nat.le_of_ble_eq_true rfl) (Nat.le_of_ble_eq_true rfl) d_Model_edgeAt_17 ⟨v_4, rfl, rfl⟩
theorem d_Model_edge_66 : decode prog_14_method_41_code 66 = .ok (.ireturn, 1) := by decide +kernel
abbrev m_s1_Model_edge : Room := { frames := 5, cells := 0, slots := 0, locals := 124 }
set_option maxHeartbeats 4000000 in
set_option maxRecDepth 100000 in
theorem s1_Model_edge (l : Launch) (G : zG) (b0 : Nat) (b1 : Int32) (b2 : Int32) (b3 : Int32) (b4 : Nat) (b5 : Nat) (b6 : Nat) (b7 : Nat) (b8 : Int32) (b9 : Nat) (b10 : Int32) (b11 : Int32) (b12 : Int32) (b13 : Int32) (b14 : Nat) (b15 : Nat) (b16 : Nat) (b17 : Int32) (b18 : Nat) (b19 : Nat) (b20 : Nat) (b21 : Nat) (b22 : Nat) (b23 : Nat) (b24 : Nat) (b25 : Nat) (b26 : Nat) (b27 : Nat) (b28 : Nat) (b29 : Nat) (b30 : Int32) (b31 : Nat) (b32 : Nat) (b33 : Int32) (b34 : Int32) (b35 : Int32) (b36 : Int32) (b37 : Nat) (b38 : Nat) (b39 : Nat) (b40 : Nat) (b41 : Nat) (b42 : Nat) (b43 : Nat) (b44 : Int32) (b45 : Nat) (b46 : Nat) (b47 : Int32) (b48 : Nat) (b49 : Nat) (b50 : Nat) (b51 : Nat) (b52 : Nat) (b53 : Int32) (b54 : Nat) (b55 : Nat) (b56 : Nat) (b57 : Nat → Int32) (b58 : Nat → Int32) (b59 : Nat → Int32) (b60 : Nat → Int32) (b61 : Nat → Int32) (b62 : Nat → Int32) (b63 : Nat → Int32) (b64 : Nat → Int32) (b65 : Nat → Int32) (b66 : Nat → Int32) (b67 : Nat → Int32) (b68 : Nat → Int32) (b69 : Nat → Int32) (hb8 : zI b8 0 8) (hb10 : zI b10 0 240) (hb11 : zI b11 0 240) (hb13 : zI b13 0 1) (hb17 : zI b17 0 12) (hb30 : zI b30 0 1) (hb33 : zI b33 0 1) (hb44 : zI b44 0 1000) (hb47 : zI b47 0 1000) (hb53 : zI b53 0 400) (hb57 : zW5 b57) (hb58 : zR b58 0 241) (hb59 : zR b59 (-1) 240) (hb60 : zqa qP b60) (hb62 : zqa qC b62) (hb63 : zR b63 0 240) (hb64 : zR b64 0 241) (hb65 : zR b65 0 240) (hb68 : zR b68 0 240) (hb69 : zqa qE b69) : zM l G y_Model_edge prog_14_method_41_code 3 (Option.some Jvm.ClassFile.FieldType.int) m_s1_Model_edge [.ref b0, .int b1, .int b2] [(b0, .inr (12, [.int b3, .ref b4, .ref b5, .ref b6, .ref b7, .int b8, .ref b9, .int b10, .int b11, .int b12, .int b13, .ref b14, .ref b15, .ref b16, .int b17, .ref b18, .ref b19, .ref b20, .ref b21, .ref b22, .ref b23, .ref b24, .ref b25, .ref b26, .ref b27, .ref b28, .ref b29, .int b30, .ref b31, .ref b32, .int b33, .int b34, .int b35, .int b36, .ref b37, .ref b38, .ref b39, .ref b40, .ref b41, .ref b42, .ref b43, .int b44, .ref b45, .ref b46, .int b47, .ref b48, .ref b49, .ref b50, .ref b51, .ref b52, .int b53, .ref b54, .ref b55, .ref b56])), (b4, .inl (G.2 0, 503, .inl b57)), (b18, .inl (G.2 0, 2, .inl b58)), (b19, .inl (G.2 0, 4820, .inl b59)), (b20, .inl (G.2 0, 520, .inl b60)), (b21, .inl (G.2 0, 9640, .inl b61)), (b22, .inl (G.2 0, 482, .inl b62)), (b23, .inl (G.2 0, 482, .inl b63)), (b24, .inl (G.2 0, 2, .inl b64)), (b25, .inl (G.2 0, 482, .inl b65)), (b26, .inl (G.2 0, 482, .inl b66)), (b27, .inl (G.2 0, 482, .inl b67)), (b28, .inl (G.2 0, 2, .inl b68)), (b29, .inl (G.2 0, 2880, .inl b69))] (fun v w => ∃ (e0 : Int32), ∃ (e1 : Int32), ∃ (e2 : Nat → Int32), ∃ (e3 : Nat → Int32), ∃ (e4 : Nat → Int32), ∃ (e5 : Nat → Int32), ∃ (e6 : Nat → Int32), ∃ (e7 : Nat → Int32), ∃ (e8 : Nat → Int32), ∃ (e9 : Nat → Int32), ∃ (e10 : Nat → Int32), ∃ (e11 : Nat → Int32), ∃ (e12 : Nat → Int32), ∃ (e13 : Nat → Int32), v = some (.int e0) ∧ w = [(b0, .inr (12, [.int 0, .ref b4, .ref b5, .ref b6, .ref b7, .int b8, .ref b9, .int b10, .int b11, .int b12, .int b13, .ref b14, .ref b15, .ref b16, .int b17, .ref b18, .ref b19, .ref b20, .ref b21, .ref b22, .ref b23, .ref b24, .ref b25, .ref b26, .ref b27, .ref b28, .ref b29, .int e1, .ref b31, .ref b32, .int b33, .int b34, .int b35, .int b36, .ref b37, .ref b38, .ref b39, .ref b40, .ref b41, .ref b42, .ref b43, .int b44, .ref b45, .ref b46, .int b47, .ref b48, .ref b49, .ref b50, .ref b51, .ref b52, .int b53, .ref b54, .ref b55, .ref b56])), (b4, .inl (G.2 0, 503, .inl b57)), (b18, .inl (G.2 0, 2, .inl e2)), (b19, .inl (G.2 0, 4820, .inl e3)), (b20, .inl (G.2 0, 520, .inl e4)), (b21, .inl (G.2 0, 9640, .inl e5)), (b22, .inl (G.2 0, 482, .inl e6)), (b23, .inl (G.2 0, 482, .inl e7)), (b24, .inl (G.2 0, 2, .inl e8)), (b25, .inl (G.2 0, 482, .inl e9)), (b26, .inl (G.2 0, 482, .inl e10)), (b27, .inl (G.2 0, 482, .inl e11)), (b28, .inl (G.2 0, 2, .inl e12)), (b29, .inl (G.2 0, 2880, .inl e13))] ∧ (zI e1 0 1) ∧ (zR e2 0 241) ∧ (zR e3 (-1) 240) ∧ (zqa qP e4) ∧ (zqa qC e6) ∧ (zR e7 0 240) ∧ (zR e8 0 241) ∧ (zR e9 0 240) ∧ (zR e12 0 240) ∧ (zqa qE e13)) := by
  refine z_start (by decide +kernel) (Nat.le_of_ble_eq_true rfl) ?_
  intro p e s m below meth c A Z hr hnm hA hP hD hS ls hl
  have Z : zC p s m _ meth c prog_14_method_41_code 3 "TraceMachinesModel" G := Z
  obtain ⟨hx, hb, hml, hown, hts, hK, hN, hlocks⟩ := id Z
  have hl : lv_has ls 3 [(0, .ref b0), (1, .int b1), (2, .int b2)] := hl
  refine lv_aload_n hx hb d_Model_edge_0 rfl (lv_at hl 0 rfl) ?_
  refine lv_iconst (v := 0) hx hb d_Model_edge_1 (by decide) ?_
  refine va_put (D := G.1) (ci := 12) (v := .int 0) (ty := .int) (C := R_Model) (T := F_Model) (N := 54) hx hb hts i_Model t_Model t_Model_ok n_Model hown hK hP hD hS 0 rfl rfl 0 (by decide) (hts _ q1109) (fun _ h9 => h9) rfl (by decide +kernel) rfl rfl (Nat.le_of_ble_eq_true rfl) d_Model_edge_2 (fun H locs hP hD hS => ?_)
  have hP : va_P G.1 classes [(b0, .inr (12, [.int 0, .ref b4, .ref b5, .ref b6, .ref b7, .int b8, .ref b9, .int b10, .int b11, .int b12, .int b13, .ref b14, .ref b15, .ref b16, .int b17, .ref b18, .ref b19, .ref b20, .ref b21, .ref b22, .ref b23, .ref b24, .ref b25, .ref b26, .ref b27, .ref b28, .ref b29, .int b30, .ref b31, .ref b32, .int b33, .int b34, .int b35, .int b36, .ref b37, .ref b38, .ref b39, .ref b40, .ref b41, .ref b42, .ref b43, .int b44, .ref b45, .ref b46, .int b47, .ref b48, .ref b49, .ref b50, .ref b51, .ref b52, .int b53, .ref b54, .ref b55, .ref b56])), (b4, .inl (G.2 0, 503, .inl b57)), (b18, .inl (G.2 0, 2, .inl b58)), (b19, .inl (G.2 0, 4820, .inl b59)), (b20, .inl (G.2 0, 520, .inl b60)), (b21, .inl (G.2 0, 9640, .inl b61)), (b22, .inl (G.2 0, 482, .inl b62)), (b23, .inl (G.2 0, 482, .inl b63)), (b24, .inl (G.2 0, 2, .inl b64)), (b25, .inl (G.2 0, 482, .inl b65)), (b26, .inl (G.2 0, 482, .inl b66)), (b27, .inl (G.2 0, 482, .inl b67)), (b28, .inl (G.2 0, 2, .inl b68)), (b29, .inl (G.2 0, 2880, .inl b69))] H := hP
  have hD := z_tie hP hD rfl
  refine lv_aload_n hx hb d_Model_edge_5 rfl (lv_at hl 0 rfl) ?_
  refine z_callV (index := 254) (As := []) (rest := []) (wr := []) Z (s1_Model_lay1 l G (b0) (0) (b4) (b5) (b6) (b7) (b8) (b9) (b10) (b11) (b12) (b13) (b14) (b15) (b16) (b17) (b18) (b19) (b20) (b21) (b22) (b23) (b24) (b25) (b26) (b27) (b28) (b29) (b30) (b31) (b32) (b33) (b34) (b35) (b36) (b37) (b38) (b39) (b40) (b41) (b42) (b43) (b44) (b45) (b46) (b47) (b48) (b49) (b50) (b51) (b52) (b53) (b54) (b55) (b56) (b57) (b58) (b59) (b60) (b61) (b62) (b63) (b64) (b65) (b66) (b67) (b68) (b69) hb8 hb10 hb11 hb13 hb17 hb30 hb33 hb44 hb47 hb53 hb57 hb58 hb59 hb60 hb62 hb63 hb64 hb65 hb68 hb69) hl.1 q1356 q1358 qs55 q14 q1359 ⟨by decide, by decide, by show _ = some 0; decide +kernel⟩ ⟨Nat.le_of_ble_eq_true rfl, Nat.le_of_ble_eq_true rfl⟩ ⟨Nat.le_of_ble_eq_true rfl, Nat.le_of_ble_eq_true rfl⟩ rfl (Nat.le_of_ble_eq_true rfl) d_Model_edge_6 hP hD hS hA 0 12 rfl rfl rfl [0, 1, 2, 3, 4, 5, 6, 7, 8, 9, 10, 11, 12, 13] [] rfl rfl rfl rfl (by decide) (fun v w1 H locs hw_1 hP hD hS => ?_)
  refine Exists.elim hw_1 (fun x_2 hz_16 => Exists.elim hz_16 (fun f_3 hz_17 => Exists.elim hz_17 (fun f_4 hz_18 => Exists.elim hz_18 (fun f_5 hz_19 => Exists.elim hz_19 (fun f_6 hz_20 => Exists.elim hz_20 (fun f_7 hz_21 => Exists.elim hz_21 (fun f_8 hz_22 => Exists.elim hz_22 (fun f_9 hz_23 => Exists.elim hz_23 (fun f_10 hz_24 => Exists.elim hz_24 (fun f_11 hz_25 => Exists.elim hz_25 (fun f_12 hz_26 => Exists.elim hz_26 (fun f_13 hz_27 => Exists.elim hz_27 (fun f_14 hz_28 => ?_)))))))))))))
  clear hw_1 hz_16 hz_17 hz_18 hz_19 hz_20 hz_21 hz_22 hz_23 hz_24 hz_25 hz_26 hz_27
  obtain ⟨rfl, rfl, hx_2, hf_3, hf_4, hf_5, hf_7, hf_8, hf_9, hf_10, hf_13, hf_14, hfx_15⟩ := hz_28
  have hP : va_P G.1 classes [(b0, .inr (12, [.int 0, .ref b4, .ref b5, .ref b6, .ref b7, .int b8, .ref b9, .int b10, .int b11, .int b12, .int b13, .ref b14, .ref b15, .ref b16, .int b17, .ref b18, .ref b19, .ref b20, .ref b21, .ref b22, .ref b23, .ref b24, .ref b25, .ref b26, .ref b27, .ref b28, .ref b29, .int x_2, .ref b31, .ref b32, .int b33, .int b34, .int b35, .int b36, .ref b37, .ref b38, .ref b39, .ref b40, .ref b41, .ref b42, .ref b43, .int b44, .ref b45, .ref b46, .int b47, .ref b48, .ref b49, .ref b50, .ref b51, .ref b52, .int b53, .ref b54, .ref b55, .ref b56])), (b4, .inl (G.2 0, 503, .inl b57)), (b18, .inl (G.2 0, 2, .inl f_3)), (b19, .inl (G.2 0, 4820, .inl f_4)), (b20, .inl (G.2 0, 520, .inl f_5)), (b21, .inl (G.2 0, 9640, .inl f_6)), (b22, .inl (G.2 0, 482, .inl f_7)), (b23, .inl (G.2 0, 482, .inl f_8)), (b24, .inl (G.2 0, 2, .inl f_9)), (b25, .inl (G.2 0, 482, .inl f_10)), (b26, .inl (G.2 0, 482, .inl f_11)), (b27, .inl (G.2 0, 482, .inl f_12)), (b28, .inl (G.2 0, 2, .inl f_13)), (b29, .inl (G.2 0, 2880, .inl f_14))] H := hP
  have hD := z_tie hP hD rfl
  refine W.widen (k := 0) (n := 0) (Nat.le_of_ble_eq_true rfl) (Nat.le_of_ble_eq_true rfl) ?_
  refine lv_iload_n hx hb d_Model_edge_9 rfl (lv_at hl 1 rfl) ?_
  refine lv_i2l (v := b1.toInt64) hx hb d_Model_edge_10 rfl ?_
  refine lv_lconst (v := 0) hx hb d_Model_edge_11 (by decide) ?_
  refine lv_aload_n hx hb d_Model_edge_12 rfl (lv_at hl 0 rfl) ?_
  refine va_get (D := G.1) (ci := 12) (v := .ref b28) (C := R_Model) (T := F_Model) (N := 54) hx hb hts i_Model hown hK hP 0 rfl rfl 25 (by decide) (hts _ q1134) (fun _ h9 => h9) rfl d_Model_edge_13 ?_
  refine lv_iconst (v := 0) hx hb d_Model_edge_16 (by decide) ?_
  refine va_iald hx hb hK hP 12 0 rfl rfl (i := 0) (z_in rfl) d_Model_edge_17 ?_
  refine lv_topi (fun v_29 ev_29 => ?_)
  have hv_29 : zI v_29 0 240 := (hf_13 _).eq ev_29
  refine lv_i2l (v := v_29.toInt64) hx hb d_Model_edge_18 rfl ?_
  refine lv_lconst (v := 1) hx hb d_Model_edge_19 (by decide) ?_
  refine lv_lsub hx hb d_Model_edge_20 ?_
  refine lv_topl (fun v_30 ev_30 => ?_)
  obtain ⟨qv_30, hv_30⟩ := zJ_sub (l := -1) (h := 239) (zI_i2l hv_29 rfl).2 zcl_1 ev_30 (by decide)
  try simp only [Int32.toInt_toInt64, ll_1] at qv_30
  refine z_callS (index := 138) (As := [.long b1.toInt64, .long 0, .long v_30]) (rest := []) (wr := [(b0, .inr (12, [.int 0, .ref b4, .ref b5, .ref b6, .ref b7, .int b8, .ref b9, .int b10, .int b11, .int b12, .int b13, .ref b14, .ref b15, .ref b16, .int b17, .ref b18, .ref b19, .ref b20, .ref b21, .ref b22, .ref b23, .ref b24, .ref b25, .ref b26, .ref b27, .ref b28, .ref b29, .int x_2, .ref b31, .ref b32, .int b33, .int b34, .int b35, .int b36, .ref b37, .ref b38, .ref b39, .ref b40, .ref b41, .ref b42, .ref b43, .int b44, .ref b45, .ref b46, .int b47, .ref b48, .ref b49, .ref b50, .ref b51, .ref b52, .int b53, .ref b54, .ref b55, .ref b56])), (b4, .inl (G.2 0, 503, .inl b57)), (b18, .inl (G.2 0, 2, .inl f_3)), (b19, .inl (G.2 0, 4820, .inl f_4)), (b20, .inl (G.2 0, 520, .inl f_5)), (b21, .inl (G.2 0, 9640, .inl f_6)), (b22, .inl (G.2 0, 482, .inl f_7)), (b23, .inl (G.2 0, 482, .inl f_8)), (b24, .inl (G.2 0, 2, .inl f_9)), (b25, .inl (G.2 0, 482, .inl f_10)), (b26, .inl (G.2 0, 482, .inl f_11)), (b27, .inl (G.2 0, 482, .inl f_12)), (b28, .inl (G.2 0, 2, .inl f_13)), (b29, .inl (G.2 0, 2880, .inl f_14))]) Z (s2_Model_in l G (b1.toInt64) (0) (v_30)) hl.1 q1281 q1282 q14 q1283 ⟨by decide, by decide, by show _ = some 3; decide +kernel⟩ ⟨Nat.le_of_ble_eq_true rfl, Nat.le_of_ble_eq_true rfl⟩ ⟨Nat.le_of_ble_eq_true rfl, Nat.le_of_ble_eq_true rfl⟩ rfl (Nat.le_of_ble_eq_true rfl) d_Model_edge_21 hP hD hS hA [] [0, 1, 2, 3, 4, 5, 6, 7, 8, 9, 10, 11, 12, 13] rfl rfl rfl rfl (by decide) (fun v w1 H locs hw_31 hP hD hS => ?_)
  rcases hw_31 with ⟨rfl, rfl, hq_32⟩ | ⟨rfl, rfl, hq_33, hq_34⟩ | ⟨rfl, rfl, hq_35, hq_36⟩
  · have hP : va_P G.1 classes [(b0, .inr (12, [.int 0, .ref b4, .ref b5, .ref b6, .ref b7, .int b8, .ref b9, .int b10, .int b11, .int b12, .int b13, .ref b14, .ref b15, .ref b16, .int b17, .ref b18, .ref b19, .ref b20, .ref b21, .ref b22, .ref b23, .ref b24, .ref b25, .ref b26, .ref b27, .ref b28, .ref b29, .int x_2, .ref b31, .ref b32, .int b33, .int b34, .int b35, .int b36, .ref b37, .ref b38, .ref b39, .ref b40, .ref b41, .ref b42, .ref b43, .int b44, .ref b45, .ref b46, .int b47, .ref b48, .ref b49, .ref b50, .ref b51, .ref b52, .int b53, .ref b54, .ref b55, .ref b56])), (b4, .inl (G.2 0, 503, .inl b57)), (b18, .inl (G.2 0, 2, .inl f_3)), (b19, .inl (G.2 0, 4820, .inl f_4)), (b20, .inl (G.2 0, 520, .inl f_5)), (b21, .inl (G.2 0, 9640, .inl f_6)), (b22, .inl (G.2 0, 482, .inl f_7)), (b23, .inl (G.2 0, 482, .inl f_8)), (b24, .inl (G.2 0, 2, .inl f_9)), (b25, .inl (G.2 0, 482, .inl f_10)), (b26, .inl (G.2 0, 482, .inl f_11)), (b27, .inl (G.2 0, 482, .inl f_12)), (b28, .inl (G.2 0, 2, .inl f_13)), (b29, .inl (G.2 0, 2880, .inl f_14))] H := hP
    have hD := z_tie hP hD rfl
    try simp only [Int32.toInt_toInt64, ll_0] at hq_32
    have hv_37 : zI b1 (-2147483648) (-1) := by have _a := hq_32; have _b := (zI_all b1); have _c := zcl_0; simp only [Int32.toInt_toInt64] at *; exact ⟨by omega, by omega⟩
    refine W.widen (k := 0) (n := 0) (Nat.le_of_ble_eq_true rfl) (Nat.le_of_ble_eq_true rfl) ?_
    refine lv_if_eq (tgt := 39) hx hb d_Model_edge_24 (by decide) (fun _ => ?_) (fun hc => absurd hc (by decide +kernel))
    refine lv_iconst (v := (-1)) hx hb d_Model_edge_39 (by decide) ?_
    exact z_iret hx hb hr hlocks hP hD hS (Nat.le_of_ble_eq_true rfl) (Nat.le_of_ble_eq_true rfl) d_Model_edge_40 ⟨(-1), x_2, f_3, f_4, f_5, f_6, f_7, f_8, f_9, f_10, f_11, f_12, f_13, f_14, rfl, rfl, hx_2, hf_3, hf_4, hf_5, hf_7, hf_8, hf_9, hf_10, hf_13, hf_14⟩
  · have hP : va_P G.1 classes [(b0, .inr (12, [.int 0, .ref b4, .ref b5, .ref b6, .ref b7, .int b8, .ref b9, .int b10, .int b11, .int b12, .int b13, .ref b14, .ref b15, .ref b16, .int b17, .ref b18, .ref b19, .ref b20, .ref b21, .ref b22, .ref b23, .ref b24, .ref b25, .ref b26, .ref b27, .ref b28, .ref b29, .int x_2, .ref b31, .ref b32, .int b33, .int b34, .int b35, .int b36, .ref b37, .ref b38, .ref b39, .ref b40, .ref b41, .ref b42, .ref b43, .int b44, .ref b45, .ref b46, .int b47, .ref b48, .ref b49, .ref b50, .ref b51, .ref b52, .int b53, .ref b54, .ref b55, .ref b56])), (b4, .inl (G.2 0, 503, .inl b57)), (b18, .inl (G.2 0, 2, .inl f_3)), (b19, .inl (G.2 0, 4820, .inl f_4)), (b20, .inl (G.2 0, 520, .inl f_5)), (b21, .inl (G.2 0, 9640, .inl f_6)), (b22, .inl (G.2 0, 482, .inl f_7)), (b23, .inl (G.2 0, 482, .inl f_8)), (b24, .inl (G.2 0, 2, .inl f_9)), (b25, .inl (G.2 0, 482, .inl f_10)), (b26, .inl (G.2 0, 482, .inl f_11)), (b27, .inl (G.2 0, 482, .inl f_12)), (b28, .inl (G.2 0, 2, .inl f_13)), (b29, .inl (G.2 0, 2880, .inl f_14))] H := hP
    have hD := z_tie hP hD rfl
    try simp only [Int32.toInt_toInt64, ll_0] at hq_33
    have hv_38 : zI b1 0 2147483647 := by have _a := hq_33; have _b := (zI_all b1); have _c := zcl_0; simp only [Int32.toInt_toInt64] at *; exact ⟨by omega, by omega⟩
    try simp only [Int32.toInt_toInt64] at hq_34
    refine W.widen (k := 0) (n := 0) (Nat.le_of_ble_eq_true rfl) (Nat.le_of_ble_eq_true rfl) ?_
    refine lv_if_eq (tgt := 39) hx hb d_Model_edge_24 (by decide) (fun _ => ?_) (fun hc => absurd hc (by decide +kernel))
    refine lv_iconst (v := (-1)) hx hb d_Model_edge_39 (by decide) ?_
    exact z_iret hx hb hr hlocks hP hD hS (Nat.le_of_ble_eq_true rfl) (Nat.le_of_ble_eq_true rfl) d_Model_edge_40 ⟨(-1), x_2, f_3, f_4, f_5, f_6, f_7, f_8, f_9, f_10, f_11, f_12, f_13, f_14, rfl, rfl, hx_2, hf_3, hf_4, hf_5, hf_7, hf_8, hf_9, hf_10, hf_13, hf_14⟩
  · have hP : va_P G.1 classes [(b0, .inr (12, [.int 0, .ref b4, .ref b5, .ref b6, .ref b7, .int b8, .ref b9, .int b10, .int b11, .int b12, .int b13, .ref b14, .ref b15, .ref b16, .int b17, .ref b18, .ref b19, .ref b20, .ref b21, .ref b22, .ref b23, .ref b24, .ref b25, .ref b26, .ref b27, .ref b28, .ref b29, .int x_2, .ref b31, .ref b32, .int b33, .int b34, .int b35, .int b36, .ref b37, .ref b38, .ref b39, .ref b40, .ref b41, .ref b42, .ref b43, .int b44, .ref b45, .ref b46, .int b47, .ref b48, .ref b49, .ref b50, .ref b51, .ref b52, .int b53, .ref b54, .ref b55, .ref b56])), (b4, .inl (G.2 0, 503, .inl b57)), (b18, .inl (G.2 0, 2, .inl f_3)), (b19, .inl (G.2 0, 4820, .inl f_4)), (b20, .inl (G.2 0, 520, .inl f_5)), (b21, .inl (G.2 0, 9640, .inl f_6)), (b22, .inl (G.2 0, 482, .inl f_7)), (b23, .inl (G.2 0, 482, .inl f_8)), (b24, .inl (G.2 0, 2, .inl f_9)), (b25, .inl (G.2 0, 482, .inl f_10)), (b26, .inl (G.2 0, 482, .inl f_11)), (b27, .inl (G.2 0, 482, .inl f_12)), (b28, .inl (G.2 0, 2, .inl f_13)), (b29, .inl (G.2 0, 2880, .inl f_14))] H := hP
    have hD := z_tie hP hD rfl
    try simp only [Int32.toInt_toInt64, ll_0] at hq_35
    have hv_39 : zI b1 0 2147483647 := by have _a := hq_35; have _b := (zI_all b1); have _c := zcl_0; simp only [Int32.toInt_toInt64] at *; exact ⟨by omega, by omega⟩
    try simp only [Int32.toInt_toInt64] at hq_36
    have hv_40 : zI b1 0 239 := by have _a := hq_36; have _b := hv_39; have _c := hv_30; simp only [Int32.toInt_toInt64] at *; exact ⟨by omega, by omega⟩
    have hv_41 : zJ v_30 0 239 := by have _a := hq_36; have _b := hv_30; have _c := (zI_i2l hv_40 rfl).2; simp only [Int32.toInt_toInt64] at *; exact ⟨by omega, by omega⟩
    refine W.widen (k := 0) (n := 0) (Nat.le_of_ble_eq_true rfl) (Nat.le_of_ble_eq_true rfl) ?_
    refine lv_if_eq (tgt := 39) hx hb d_Model_edge_24 (by decide) (fun hc => absurd hc (by decide +kernel)) (fun _ => ?_)
    refine lv_iload_n hx hb d_Model_edge_27 rfl (lv_at hl 2 rfl) ?_
    refine lv_i2l (v := b2.toInt64) hx hb d_Model_edge_28 rfl ?_
    refine lv_lconst (v := 0) hx hb d_Model_edge_29 (by decide) ?_
    refine lv_ldc2 hx hb hown (hts _ q1432) d_Model_edge_30 ?_
    refine z_callS (index := 138) (As := [.long b2.toInt64, .long 0, .long 5]) (rest := []) (wr := [(b0, .inr (12, [.int 0, .ref b4, .ref b5, .ref b6, .ref b7, .int b8, .ref b9, .int b10, .int b11, .int b12, .int b13, .ref b14, .ref b15, .ref b16, .int b17, .ref b18, .ref b19, .ref b20, .ref b21, .ref b22, .ref b23, .ref b24, .ref b25, .ref b26, .ref b27, .ref b28, .ref b29, .int x_2, .ref b31, .ref b32, .int b33, .int b34, .int b35, .int b36, .ref b37, .ref b38, .ref b39, .ref b40, .ref b41, .ref b42, .ref b43, .int b44, .ref b45, .ref b46, .int b47, .ref b48, .ref b49, .ref b50, .ref b51, .ref b52, .int b53, .ref b54, .ref b55, .ref b56])), (b4, .inl (G.2 0, 503, .inl b57)), (b18, .inl (G.2 0, 2, .inl f_3)), (b19, .inl (G.2 0, 4820, .inl f_4)), (b20, .inl (G.2 0, 520, .inl f_5)), (b21, .inl (G.2 0, 9640, .inl f_6)), (b22, .inl (G.2 0, 482, .inl f_7)), (b23, .inl (G.2 0, 482, .inl f_8)), (b24, .inl (G.2 0, 2, .inl f_9)), (b25, .inl (G.2 0, 482, .inl f_10)), (b26, .inl (G.2 0, 482, .inl f_11)), (b27, .inl (G.2 0, 482, .inl f_12)), (b28, .inl (G.2 0, 2, .inl f_13)), (b29, .inl (G.2 0, 2880, .inl f_14))]) Z (s2_Model_in l G (b2.toInt64) (0) (5)) hl.1 q1281 q1282 q14 q1283 ⟨by decide, by decide, by show _ = some 3; decide +kernel⟩ ⟨Nat.le_of_ble_eq_true rfl, Nat.le_of_ble_eq_true rfl⟩ ⟨Nat.le_of_ble_eq_true rfl, Nat.le_of_ble_eq_true rfl⟩ rfl (Nat.le_of_ble_eq_true rfl) d_Model_edge_33 hP hD hS hA [] [0, 1, 2, 3, 4, 5, 6, 7, 8, 9, 10, 11, 12, 13] rfl rfl rfl rfl (by decide) (fun v w1 H locs hw_42 hP hD hS => ?_)
    rcases hw_42 with ⟨rfl, rfl, hq_43⟩ | ⟨rfl, rfl, hq_44, hq_45⟩ | ⟨rfl, rfl, hq_46, hq_47⟩
    · have hP : va_P G.1 classes [(b0, .inr (12, [.int 0, .ref b4, .ref b5, .ref b6, .ref b7, .int b8, .ref b9, .int b10, .int b11, .int b12, .int b13, .ref b14, .ref b15, .ref b16, .int b17, .ref b18, .ref b19, .ref b20, .ref b21, .ref b22, .ref b23, .ref b24, .ref b25, .ref b26, .ref b27, .ref b28, .ref b29, .int x_2, .ref b31, .ref b32, .int b33, .int b34, .int b35, .int b36, .ref b37, .ref b38, .ref b39, .ref b40, .ref b41, .ref b42, .ref b43, .int b44, .ref b45, .ref b46, .int b47, .ref b48, .ref b49, .ref b50, .ref b51, .ref b52, .int b53, .ref b54, .ref b55, .ref b56])), (b4, .inl (G.2 0, 503, .inl b57)), (b18, .inl (G.2 0, 2, .inl f_3)), (b19, .inl (G.2 0, 4820, .inl f_4)), (b20, .inl (G.2 0, 520, .inl f_5)), (b21, .inl (G.2 0, 9640, .inl f_6)), (b22, .inl (G.2 0, 482, .inl f_7)), (b23, .inl (G.2 0, 482, .inl f_8)), (b24, .inl (G.2 0, 2, .inl f_9)), (b25, .inl (G.2 0, 482, .inl f_10)), (b26, .inl (G.2 0, 482, .inl f_11)), (b27, .inl (G.2 0, 482, .inl f_12)), (b28, .inl (G.2 0, 2, .inl f_13)), (b29, .inl (G.2 0, 2880, .inl f_14))] H := hP
      have hD := z_tie hP hD rfl
      try simp only [Int32.toInt_toInt64, ll_0] at hq_43
      have hv_48 : zI b2 (-2147483648) (-1) := by have _a := hq_43; have _b := (zI_all b2); have _c := zcl_0; simp only [Int32.toInt_toInt64] at *; exact ⟨by omega, by omega⟩
      refine W.widen (k := 0) (n := 0) (Nat.le_of_ble_eq_true rfl) (Nat.le_of_ble_eq_true rfl) ?_
      refine lv_if_ne (tgt := 41) hx hb d_Model_edge_36 (by decide) (fun hc => absurd hc (by decide +kernel)) (fun _ => ?_)
      refine lv_iconst (v := (-1)) hx hb d_Model_edge_39 (by decide) ?_
      exact z_iret hx hb hr hlocks hP hD hS (Nat.le_of_ble_eq_true rfl) (Nat.le_of_ble_eq_true rfl) d_Model_edge_40 ⟨(-1), x_2, f_3, f_4, f_5, f_6, f_7, f_8, f_9, f_10, f_11, f_12, f_13, f_14, rfl, rfl, hx_2, hf_3, hf_4, hf_5, hf_7, hf_8, hf_9, hf_10, hf_13, hf_14⟩
    · have hP : va_P G.1 classes [(b0, .inr (12, [.int 0, .ref b4, .ref b5, .ref b6, .ref b7, .int b8, .ref b9, .int b10, .int b11, .int b12, .int b13, .ref b14, .ref b15, .ref b16, .int b17, .ref b18, .ref b19, .ref b20, .ref b21, .ref b22, .ref b23, .ref b24, .ref b25, .ref b26, .ref b27, .ref b28, .ref b29, .int x_2, .ref b31, .ref b32, .int b33, .int b34, .int b35, .int b36, .ref b37, .ref b38, .ref b39, .ref b40, .ref b41, .ref b42, .ref b43, .int b44, .ref b45, .ref b46, .int b47, .ref b48, .ref b49, .ref b50, .ref b51, .ref b52, .int b53, .ref b54, .ref b55, .ref b56])), (b4, .inl (G.2 0, 503, .inl b57)), (b18, .inl (G.2 0, 2, .inl f_3)), (b19, .inl (G.2 0, 4820, .inl f_4)), (b20, .inl (G.2 0, 520, .inl f_5)), (b21, .inl (G.2 0, 9640, .inl f_6)), (b22, .inl (G.2 0, 482, .inl f_7)), (b23, .inl (G.2 0, 482, .inl f_8)), (b24, .inl (G.2 0, 2, .inl f_9)), (b25, .inl (G.2 0, 482, .inl f_10)), (b26, .inl (G.2 0, 482, .inl f_11)), (b27, .inl (G.2 0, 482, .inl f_12)), (b28, .inl (G.2 0, 2, .inl f_13)), (b29, .inl (G.2 0, 2880, .inl f_14))] H := hP
      have hD := z_tie hP hD rfl
      try simp only [Int32.toInt_toInt64, ll_0] at hq_44
      have hv_49 : zI b2 0 2147483647 := by have _a := hq_44; have _b := (zI_all b2); have _c := zcl_0; simp only [Int32.toInt_toInt64] at *; exact ⟨by omega, by omega⟩
      try simp only [Int32.toInt_toInt64, ll_5] at hq_45
      have hv_50 : zI b2 6 2147483647 := by have _a := hq_45; have _b := hv_49; have _c := zcl_5; simp only [Int32.toInt_toInt64] at *; exact ⟨by omega, by omega⟩
      refine W.widen (k := 0) (n := 0) (Nat.le_of_ble_eq_true rfl) (Nat.le_of_ble_eq_true rfl) ?_
      refine lv_if_ne (tgt := 41) hx hb d_Model_edge_36 (by decide) (fun hc => absurd hc (by decide +kernel)) (fun _ => ?_)
      refine lv_iconst (v := (-1)) hx hb d_Model_edge_39 (by decide) ?_
      exact z_iret hx hb hr hlocks hP hD hS (Nat.le_of_ble_eq_true rfl) (Nat.le_of_ble_eq_true rfl) d_Model_edge_40 ⟨(-1), x_2, f_3, f_4, f_5, f_6, f_7, f_8, f_9, f_10, f_11, f_12, f_13, f_14, rfl, rfl, hx_2, hf_3, hf_4, hf_5, hf_7, hf_8, hf_9, hf_10, hf_13, hf_14⟩
    · have hP : va_P G.1 classes [(b0, .inr (12, [.int 0, .ref b4, .ref b5, .ref b6, .ref b7, .int b8, .ref b9, .int b10, .int b11, .int b12, .int b13, .ref b14, .ref b15, .ref b16, .int b17, .ref b18, .ref b19, .ref b20, .ref b21, .ref b22, .ref b23, .ref b24, .ref b25, .ref b26, .ref b27, .ref b28, .ref b29, .int x_2, .ref b31, .ref b32, .int b33, .int b34, .int b35, .int b36, .ref b37, .ref b38, .ref b39, .ref b40, .ref b41, .ref b42, .ref b43, .int b44, .ref b45, .ref b46, .int b47, .ref b48, .ref b49, .ref b50, .ref b51, .ref b52, .int b53, .ref b54, .ref b55, .ref b56])), (b4, .inl (G.2 0, 503, .inl b57)), (b18, .inl (G.2 0, 2, .inl f_3)), (b19, .inl (G.2 0, 4820, .inl f_4)), (b20, .inl (G.2 0, 520, .inl f_5)), (b21, .inl (G.2 0, 9640, .inl f_6)), (b22, .inl (G.2 0, 482, .inl f_7)), (b23, .inl (G.2 0, 482, .inl f_8)), (b24, .inl (G.2 0, 2, .inl f_9)), (b25, .inl (G.2 0, 482, .inl f_10)), (b26, .inl (G.2 0, 482, .inl f_11)), (b27, .inl (G.2 0, 482, .inl f_12)), (b28, .inl (G.2 0, 2, .inl f_13)), (b29, .inl (G.2 0, 2880, .inl f_14))] H := hP
      have hD := z_tie hP hD rfl
      try simp only [Int32.toInt_toInt64, ll_0] at hq_46
      have hv_51 : zI b2 0 2147483647 := by have _a := hq_46; have _b := (zI_all b2); have _c := zcl_0; simp only [Int32.toInt_toInt64] at *; exact ⟨by omega, by omega⟩
      try simp only [Int32.toInt_toInt64, ll_5] at hq_47
      have hv_52 : zI b2 0 5 := by have _a := hq_47; have _b := hv_51; have _c := zcl_5; simp only [Int32.toInt_toInt64] at *; exact ⟨by omega, by omega⟩
      refine W.widen (k := 0) (n := 0) (Nat.le_of_ble_eq_true rfl) (Nat.le_of_ble_eq_true rfl) ?_
      refine lv_if_ne (tgt := 41) hx hb d_Model_edge_36 (by decide) (fun _ => ?_) (fun hc => absurd hc (by decide +kernel))
      refine lv_iload_n hx hb d_Model_edge_41 rfl (lv_at hl 2 rfl) ?_
      refine lv_iconst (v := 1) hx hb d_Model_edge_42 (by decide) ?_
      refine lv_icmp_ne (tgt := 59) hx hb d_Model_edge_43 (by decide) (fun hc_53 => ?_) (fun hc_53 => ?_)
      · have _nhc_53 := hc_53
        have ni_54 : ¬ (b2 : Int32).toInt = (1 : Int32).toInt := fun z => hc_53 ((fa_eq _ _).mpr z)
        simp only [li_1] at ni_54
        refine lv_aload_n hx hb d_Model_edge_59 rfl (lv_at hl 0 rfl) ?_
        refine lv_iconst (v := 0) hx hb d_Model_edge_60 (by decide) ?_
        refine lv_iload_n hx hb d_Model_edge_61 rfl (lv_at hl 1 rfl) ?_
        refine lv_iload_n hx hb d_Model_edge_62 rfl (lv_at hl 2 rfl) ?_
        refine z_callV (index := 225) (As := [.int 0, .int b1, .int b2]) (rest := []) (wr := [(b4, .inl (G.2 0, 503, .inl b57)), (b18, .inl (G.2 0, 2, .inl f_3)), (b19, .inl (G.2 0, 4820, .inl f_4)), (b20, .inl (G.2 0, 520, .inl f_5)), (b21, .inl (G.2 0, 9640, .inl f_6)), (b22, .inl (G.2 0, 482, .inl f_7)), (b23, .inl (G.2 0, 482, .inl f_8)), (b24, .inl (G.2 0, 2, .inl f_9)), (b25, .inl (G.2 0, 482, .inl f_10)), (b26, .inl (G.2 0, 482, .inl f_11)), (b27, .inl (G.2 0, 482, .inl f_12)), (b28, .inl (G.2 0, 2, .inl f_13))]) Z (s16_Model_edgeAt l G (b0) (b1) (b2) (0) (b4) (b5) (b6) (b7) (b8) (b9) (b10) (b11) (b12) (b13) (b14) (b15) (b16) (b17) (b18) (b19) (b20) (b21) (b22) (b23) (b24) (b25) (b26) (b27) (b28) (b29) (x_2) (b31) (b32) (b33) (b34) (b35) (b36) (b37) (b38) (b39) (b40) (b41) (b42) (b43) (b44) (b45) (b46) (b47) (b48) (b49) (b50) (b51) (b52) (b53) (b54) (b55) (b56) (f_14) (zI.wk (l' := 0) (h' := 240) hv_40 (by decide)) hv_52 hb8 hb10 hb11 hb13 hb17 hx_2 hb33 hb44 hb47 hb53 hf_14) hl.1 q1408 q1410 qs68 q14 q1411 ⟨by decide, by decide, by show _ = some 3; decide +kernel⟩ ⟨Nat.le_of_ble_eq_true rfl, Nat.le_of_ble_eq_true rfl⟩ ⟨Nat.le_of_ble_eq_true rfl, Nat.le_of_ble_eq_true rfl⟩ rfl (Nat.le_of_ble_eq_true rfl) d_Model_edge_63 hP hD hS hA 0 12 rfl rfl rfl [0, 13] [1, 2, 3, 4, 5, 6, 7, 8, 9, 10, 11, 12] rfl rfl rfl rfl (by decide) (fun v w1 H locs hw_55 hP hD hS => ?_)
        obtain ⟨x_56, rfl, rfl⟩ := hw_55
        have hP : va_P G.1 classes [(b4, .inl (G.2 0, 503, .inl b57)), (b18, .inl (G.2 0, 2, .inl f_3)), (b19, .inl (G.2 0, 4820, .inl f_4)), (b20, .inl (G.2 0, 520, .inl f_5)), (b21, .inl (G.2 0, 9640, .inl f_6)), (b22, .inl (G.2 0, 482, .inl f_7)), (b23, .inl (G.2 0, 482, .inl f_8)), (b24, .inl (G.2 0, 2, .inl f_9)), (b25, .inl (G.2 0, 482, .inl f_10)), (b26, .inl (G.2 0, 482, .inl f_11)), (b27, .inl (G.2 0, 482, .inl f_12)), (b28, .inl (G.2 0, 2, .inl f_13)), (b0, .inr (12, [.int 0, .ref b4, .ref b5, .ref b6, .ref b7, .int b8, .ref b9, .int b10, .int b11, .int b12, .int b13, .ref b14, .ref b15, .ref b16, .int b17, .ref b18, .ref b19, .ref b20, .ref b21, .ref b22, .ref b23, .ref b24, .ref b25, .ref b26, .ref b27, .ref b28, .ref b29, .int x_2, .ref b31, .ref b32, .int b33, .int b34, .int b35, .int b36, .ref b37, .ref b38, .ref b39, .ref b40, .ref b41, .ref b42, .ref b43, .int b44, .ref b45, .ref b46, .int b47, .ref b48, .ref b49, .ref b50, .ref b51, .ref b52, .int b53, .ref b54, .ref b55, .ref b56])), (b29, .inl (G.2 0, 2880, .inl f_14))] H := hP
        have hD := z_tie hP hD rfl
        refine W.widen (k := 0) (n := 0) (Nat.le_of_ble_eq_true rfl) (Nat.le_of_ble_eq_true rfl) ?_
        exact z_iret hx hb hr hlocks (hP.sub [12, 0, 1, 2, 3, 4, 5, 6, 7, 8, 9, 10, 11, 13] rfl) (hD.sub [12, 0, 1, 2, 3, 4, 5, 6, 7, 8, 9, 10, 11, 13] (by decide) rfl) hS (Nat.le_of_ble_eq_true rfl) (Nat.le_of_ble_eq_true rfl) d_Model_edge_66 ⟨x_56, x_2, f_3, f_4, f_5, f_6, f_7, f_8, f_9, f_10, f_11, f_12, f_13, f_14, rfl, rfl, hx_2, hf_3, hf_4, hf_5, hf_7, hf_8, hf_9, hf_10, hf_13, hf_14⟩
      · have _nhc_53 := hc_53
        have ni_57 := (fa_eq _ _).mp hc_53
        rw [li_1] at ni_57
        have hv_58 : zI b2 1 1 := zI.eq_l hv_52 zc_1 hc_53
        refine lv_bipush (v := 97) hx hb d_Model_edge_46 (by decide) ?_
        refine lv_aload_n hx hb d_Model_edge_48 rfl (lv_at hl 0 rfl) ?_
        refine lv_iconst (v := 0) hx hb d_Model_edge_49 (by decide) ?_
        refine lv_iload_n hx hb d_Model_edge_50 rfl (lv_at hl 1 rfl) ?_
        refine lv_iconst (v := 1) hx hb d_Model_edge_51 (by decide) ?_
        refine z_callV (index := 225) (As := [.int 0, .int b1, .int 1]) (rest := [.int 97]) (wr := [(b4, .inl (G.2 0, 503, .inl b57)), (b18, .inl (G.2 0, 2, .inl f_3)), (b19, .inl (G.2 0, 4820, .inl f_4)), (b20, .inl (G.2 0, 520, .inl f_5)), (b21, .inl (G.2 0, 9640, .inl f_6)), (b22, .inl (G.2 0, 482, .inl f_7)), (b23, .inl (G.2 0, 482, .inl f_8)), (b24, .inl (G.2 0, 2, .inl f_9)), (b25, .inl (G.2 0, 482, .inl f_10)), (b26, .inl (G.2 0, 482, .inl f_11)), (b27, .inl (G.2 0, 482, .inl f_12)), (b28, .inl (G.2 0, 2, .inl f_13))]) Z (s5_Model_edgeAt l G (b0) (b1) (0) (b4) (b5) (b6) (b7) (b8) (b9) (b10) (b11) (b12) (b13) (b14) (b15) (b16) (b17) (b18) (b19) (b20) (b21) (b22) (b23) (b24) (b25) (b26) (b27) (b28) (b29) (x_2) (b31) (b32) (b33) (b34) (b35) (b36) (b37) (b38) (b39) (b40) (b41) (b42) (b43) (b44) (b45) (b46) (b47) (b48) (b49) (b50) (b51) (b52) (b53) (b54) (b55) (b56) (f_14) (zI.wk (l' := 0) (h' := 240) hv_40 (by decide)) hb8 hb10 hb11 hb13 hb17 hx_2 hb33 hb44 hb47 hb53 hf_14) hl.1 q1408 q1410 qs68 q14 q1411 ⟨by decide, by decide, by show _ = some 3; decide +kernel⟩ ⟨Nat.le_of_ble_eq_true rfl, Nat.le_of_ble_eq_true rfl⟩ ⟨Nat.le_of_ble_eq_true rfl, Nat.le_of_ble_eq_true rfl⟩ rfl (Nat.le_of_ble_eq_true rfl) d_Model_edge_52 hP hD hS hA 0 12 rfl rfl rfl [0, 13] [1, 2, 3, 4, 5, 6, 7, 8, 9, 10, 11, 12] rfl rfl rfl rfl (by decide) (fun v w1 H locs hw_59 hP hD hS => ?_)
        obtain ⟨x_60, rfl, rfl, hx_60, hfx_61⟩ := hw_59
        have hP : va_P G.1 classes [(b4, .inl (G.2 0, 503, .inl b57)), (b18, .inl (G.2 0, 2, .inl f_3)), (b19, .inl (G.2 0, 4820, .inl f_4)), (b20, .inl (G.2 0, 520, .inl f_5)), (b21, .inl (G.2 0, 9640, .inl f_6)), (b22, .inl (G.2 0, 482, .inl f_7)), (b23, .inl (G.2 0, 482, .inl f_8)), (b24, .inl (G.2 0, 2, .inl f_9)), (b25, .inl (G.2 0, 482, .inl f_10)), (b26, .inl (G.2 0, 482, .inl f_11)), (b27, .inl (G.2 0, 482, .inl f_12)), (b28, .inl (G.2 0, 2, .inl f_13)), (b0, .inr (12, [.int 0, .ref b4, .ref b5, .ref b6, .ref b7, .int b8, .ref b9, .int b10, .int b11, .int b12, .int b13, .ref b14, .ref b15, .ref b16, .int b17, .ref b18, .ref b19, .ref b20, .ref b21, .ref b22, .ref b23, .ref b24, .ref b25, .ref b26, .ref b27, .ref b28, .ref b29, .int x_2, .ref b31, .ref b32, .int b33, .int b34, .int b35, .int b36, .ref b37, .ref b38, .ref b39, .ref b40, .ref b41, .ref b42, .ref b43, .int b44, .ref b45, .ref b46, .int b47, .ref b48, .ref b49, .ref b50, .ref b51, .ref b52, .int b53, .ref b54, .ref b55, .ref b56])), (b29, .inl (G.2 0, 2880, .inl f_14))] H := hP
        have hD := z_tie hP hD rfl
        refine W.widen (k := 0) (n := 0) (Nat.le_of_ble_eq_true rfl) (Nat.le_of_ble_eq_true rfl) ?_
        refine lv_iadd hx hb d_Model_edge_55 ?_
        refine lv_topi (fun v_62 ev_62 => ?_)
        obtain ⟨qv_62, hv_62⟩ := zI_add (l := 97) (h := 106) zc_97 hx_60 ev_62 (by decide)
        rw [li_97] at qv_62
        refine lv_goto (tgt := 66) hx hb d_Model_edge_56 (by decide) ?_
        exact z_iret hx hb hr hlocks (hP.sub [12, 0, 1, 2, 3, 4, 5, 6, 7, 8, 9, 10, 11, 13] rfl) (hD.sub [12, 0, 1, 2, 3, 4, 5, 6, 7, 8, 9, 10, 11, 13] (by decide) rfl) hS (Nat.le_of_ble_eq_true rfl) (Nat.le_of_ble_eq_true rfl) d_Model_edge_66 ⟨v_62, x_2, f_3, f_4, f_5, f_6, f_7, f_8, f_9, f_10, f_11, f_12, f_13, f_14, rfl, rfl, hx_2, hf_3, hf_4, hf_5, hf_7, hf_8, hf_9, hf_10, hf_13, hf_14⟩
theorem d_Model_vague_0 : decode prog_14_method_44_code 0 = .ok (.aload_n 0, 1) := by decide +kernel
theorem d_Model_vague_1 : decode prog_14_method_44_code 1 = .ok (.iconst 0, 1) := by decide +kernel
theorem d_Model_vague_2 : decode prog_14_method_44_code 2 = .ok (.putfield 1, 3) := by decide +kernel
theorem d_Model_vague_5 : decode prog_14_method_44_code 5 = .ok (.iload_n 1, 1) := by decide +kernel
theorem d_Model_vague_6 : decode prog_14_method_44_code 6 = .ok (.i2l, 1) := by decide +kernel
theorem d_Model_vague_7 : decode prog_14_method_44_code 7 = .ok (.lconst 0, 1) := by decide +kernel
theorem d_Model_vague_8 : decode prog_14_method_44_code 8 = .ok (.lconst 1, 1) := by decide +kernel
theorem d_Model_vague_9 : decode prog_14_method_44_code 9 = .ok (.invokestatic 138, 3) := by decide +kernel
theorem d_Model_vague_12 : decode prog_14_method_44_code 12 = .ok (.ifCond .ne 5, 3) := by decide +kernel
theorem d_Model_vague_15 : decode prog_14_method_44_code 15 = .ok (.iconst (-1), 1) := by decide +kernel
theorem d_Model_vague_16 : decode prog_14_method_44_code 16 = .ok (.ireturn, 1) := by decide +kernel
theorem d_Model_vague_17 : decode prog_14_method_44_code 17 = .ok (.aload_n 0, 1) := by decide +kernel
theorem d_Model_vague_18 : decode prog_14_method_44_code 18 = .ok (.invokevirtual 254, 3) := by decide +kernel
theorem d_Model_vague_21 : decode prog_14_method_44_code 21 = .ok (.iconst 0, 1) := by decide +kernel
theorem d_Model_vague_22 : decode prog_14_method_44_code 22 = .ok (.istore_n 2, 1) := by decide +kernel
theorem d_Model_vague_23 : decode prog_14_method_44_code 23 = .ok (.iconst 0, 1) := by decide +kernel
theorem d_Model_vague_24 : decode prog_14_method_44_code 24 = .ok (.istore_n 3, 1) := by decide +kernel
theorem d_Model_vague_25 : decode prog_14_method_44_code 25 = .ok (.iload_n 3, 1) := by decide +kernel
theorem d_Model_vague_26 : decode prog_14_method_44_code 26 = .ok (.aload_n 0, 1) := by decide +kernel
theorem d_Model_vague_27 : decode prog_14_method_44_code 27 = .ok (.getfield 70, 3) := by decide +kernel
theorem d_Model_vague_30 : decode prog_14_method_44_code 30 = .ok (.iconst 0, 1) := by decide +kernel
theorem d_Model_vague_31 : decode prog_14_method_44_code 31 = .ok (.iaload, 1) := by decide +kernel
theorem d_Model_vague_32 : decode prog_14_method_44_code 32 = .ok (.if_icmp .ge 63, 3) := by decide +kernel
theorem d_Model_vague_35 : decode prog_14_method_44_code 35 = .ok (.iload_n 3, 1) := by decide +kernel
theorem d_Model_vague_36 : decode prog_14_method_44_code 36 = .ok (.iconst 1, 1) := by decide +kernel
theorem d_Model_vague_37 : decode prog_14_method_44_code 37 = .ok (.iadd, 1) := by decide +kernel
theorem d_Model_vague_38 : decode prog_14_method_44_code 38 = .ok (.istore 4, 2) := by decide +kernel
theorem d_Model_vague_40 : decode prog_14_method_44_code 40 = .ok (.iload 4, 2) := by decide +kernel
theorem d_Model_vague_42 : decode prog_14_method_44_code 42 = .ok (.aload_n 0, 1) := by decide +kernel
theorem d_Model_vague_43 : decode prog_14_method_44_code 43 = .ok (.getfield 70, 3) := by decide +kernel
theorem d_Model_vague_46 : decode prog_14_method_44_code 46 = .ok (.iconst 0, 1) := by decide +kernel
theorem d_Model_vague_47 : decode prog_14_method_44_code 47 = .ok (.iaload, 1) := by decide +kernel
theorem d_Model_vague_48 : decode prog_14_method_44_code 48 = .ok (.if_icmp .ge 41, 3) := by decide +kernel
theorem d_Model_vague_51 : decode prog_14_method_44_code 51 = .ok (.iload_n 2, 1) := by decide +kernel
theorem d_Model_vague_52 : decode prog_14_method_44_code 52 = .ok (.aload_n 0, 1) := by decide +kernel
theorem d_Model_vague_53 : decode prog_14_method_44_code 53 = .ok (.iload_n 3, 1) := by decide +kernel
theorem d_Model_vague_54 : decode prog_14_method_44_code 54 = .ok (.iload 4, 2) := by decide +kernel
theorem d_Model_vague_56 : decode prog_14_method_44_code 56 = .ok (.invokevirtual 265, 3) := by decide +kernel
theorem d_Model_vague_59 : decode prog_14_method_44_code 59 = .ok (.ifCond .eq 21, 3) := by decide +kernel
theorem d_Model_vague_62 : decode prog_14_method_44_code 62 = .ok (.iload_n 1, 1) := by decide +kernel
theorem d_Model_vague_63 : decode prog_14_method_44_code 63 = .ok (.ifCond .eq 13, 3) := by decide +kernel
theorem d_Model_vague_66 : decode prog_14_method_44_code 66 = .ok (.aload_n 0, 1) := by decide +kernel
theorem d_Model_vague_67 : decode prog_14_method_44_code 67 = .ok (.iload_n 3, 1) := by decide +kernel
theorem d_Model_vague_68 : decode prog_14_method_44_code 68 = .ok (.iload 4, 2) := by decide +kernel
theorem d_Model_vague_70 : decode prog_14_method_44_code 70 = .ok (.invokevirtual 268, 3) := by decide +kernel
theorem d_Model_vague_73 : decode prog_14_method_44_code 73 = .ok (.ifCond .eq 7, 3) := by decide +kernel
theorem d_Model_vague_76 : decode prog_14_method_44_code 76 = .ok (.iconst 1, 1) := by decide +kernel
theorem d_Model_vague_77 : decode prog_14_method_44_code 77 = .ok (.goto 4, 3) := by decide +kernel
theorem d_Model_vague_80 : decode prog_14_method_44_code 80 = .ok (.iconst 0, 1) := by decide +kernel
theorem d_Model_vague_81 : decode prog_14_method_44_code 81 = .ok (.iadd, 1) := by decide +kernel
theorem d_Model_vague_82 : decode prog_14_method_44_code 82 = .ok (.istore_n 2, 1) := by decide +kernel
theorem d_Model_vague_83 : decode prog_14_method_44_code 83 = .ok (.iinc 4 1, 3) := by decide +kernel
theorem d_Model_vague_86 : decode prog_14_method_44_code 86 = .ok (.goto (-46), 3) := by decide +kernel
theorem d_Model_vague_89 : decode prog_14_method_44_code 89 = .ok (.iinc 3 1, 3) := by decide +kernel
theorem d_Model_vague_92 : decode prog_14_method_44_code 92 = .ok (.goto (-67), 3) := by decide +kernel
theorem d_Model_vague_95 : decode prog_14_method_44_code 95 = .ok (.iload_n 2, 1) := by decide +kernel
theorem d_Model_vague_96 : decode prog_14_method_44_code 96 = .ok (.ireturn, 1) := by decide +kernel
theorem d_Model_areTwo_0 : decode prog_14_method_42_code 0 = .ok (.aload_n 0, 1) := by decide +kernel
theorem d_Model_areTwo_1 : decode prog_14_method_42_code 1 = .ok (.iconst 0, 1) := by decide +kernel
theorem d_Model_areTwo_2 : decode prog_14_method_42_code 2 = .ok (.iload_n 1, 1) := by decide +kernel
theorem d_Model_areTwo_3 : decode prog_14_method_42_code 3 = .ok (.iconst 0, 1) := by decide +kernel
theorem d_Model_areTwo_4 : decode prog_14_method_42_code 4 = .ok (.invokevirtual 225, 3) := by decide +kernel
theorem d_Model_areTwo_7 : decode prog_14_method_42_code 7 = .ok (.aload_n 0, 1) := by decide +kernel
theorem d_Model_areTwo_8 : decode prog_14_method_42_code 8 = .ok (.iconst 0, 1) := by decide +kernel
theorem d_Model_areTwo_9 : decode prog_14_method_42_code 9 = .ok (.iload_n 2, 1) := by decide +kernel
theorem d_Model_areTwo_10 : decode prog_14_method_42_code 10 = .ok (.iconst 0, 1) := by decide +kernel
theorem d_Model_areTwo_11 : decode prog_14_method_42_code 11 = .ok (.invokevirtual 225, 3) := by decide +kernel
theorem d_Model_areTwo_14 : decode prog_14_method_42_code 14 = .ok (.if_icmp .ne 24, 3) := by decide +kernel
theorem d_Model_areTwo_17 : decode prog_14_method_42_code 17 = .ok (.aload_n 0, 1) := by decide +kernel
theorem d_Model_areTwo_18 : decode prog_14_method_42_code 18 = .ok (.iconst 0, 1) := by decide +kernel
theorem d_Model_areTwo_19 : decode prog_14_method_42_code 19 = .ok (.iload_n 1, 1) := by decide +kernel
theorem d_Model_areTwo_20 : decode prog_14_method_42_code 20 = .ok (.iconst 1, 1) := by decide +kernel
theorem d_Model_areTwo_21 : decode prog_14_method_42_code 21 = .ok (.invokevirtual 225, 3) := by decide +kernel
theorem d_Model_areTwo_24 : decode prog_14_method_42_code 24 = .ok (.aload_n 0, 1) := by decide +kernel
theorem d_Model_areTwo_25 : decode prog_14_method_42_code 25 = .ok (.iconst 0, 1) := by decide +kernel
theorem d_Model_areTwo_26 : decode prog_14_method_42_code 26 = .ok (.iload_n 2, 1) := by decide +kernel
theorem d_Model_areTwo_27 : decode prog_14_method_42_code 27 = .ok (.iconst 1, 1) := by decide +kernel
theorem d_Model_areTwo_28 : decode prog_14_method_42_code 28 = .ok (.invokevirtual 225, 3) := by decide +kernel
theorem d_Model_areTwo_31 : decode prog_14_method_42_code 31 = .ok (.if_icmp .ne 7, 3) := by decide +kernel
theorem d_Model_areTwo_34 : decode prog_14_method_42_code 34 = .ok (.iconst 1, 1) := by decide +kernel
theorem d_Model_areTwo_35 : decode prog_14_method_42_code 35 = .ok (.goto 4, 3) := by decide +kernel
theorem d_Model_areTwo_38 : decode prog_14_method_42_code 38 = .ok (.iconst 0, 1) := by decide +kernel
theorem d_Model_areTwo_39 : decode prog_14_method_42_code 39 = .ok (.ireturn, 1) := by decide +kernel
theorem d_Model_haveCommon_0 : decode prog_14_method_43_code 0 = .ok (.iconst 2, 1) := by decide +kernel
theorem d_Model_haveCommon_1 : decode prog_14_method_43_code 1 = .ok (.aload_n 0, 1) := by decide +kernel
theorem d_Model_haveCommon_2 : decode prog_14_method_43_code 2 = .ok (.getfield 13, 3) := by decide +kernel
theorem d_Model_haveCommon_5 : decode prog_14_method_43_code 5 = .ok (.sipush 502, 3) := by decide +kernel
theorem d_Model_haveCommon_8 : decode prog_14_method_43_code 8 = .ok (.iaload, 1) := by decide +kernel
theorem d_Model_haveCommon_9 : decode prog_14_method_43_code 9 = .ok (.imul, 1) := by decide +kernel
theorem d_Model_haveCommon_10 : decode prog_14_method_43_code 10 = .ok (.istore_n 3, 1) := by decide +kernel
theorem d_Model_haveCommon_11 : decode prog_14_method_43_code 11 = .ok (.aload_n 0, 1) := by decide +kernel
theorem d_Model_haveCommon_12 : decode prog_14_method_43_code 12 = .ok (.iconst 0, 1) := by decide +kernel
theorem d_Model_haveCommon_13 : decode prog_14_method_43_code 13 = .ok (.iload_n 1, 1) := by decide +kernel
theorem d_Model_haveCommon_14 : decode prog_14_method_43_code 14 = .ok (.iconst 4, 1) := by decide +kernel
theorem d_Model_haveCommon_15 : decode prog_14_method_43_code 15 = .ok (.invokevirtual 225, 3) := by decide +kernel
theorem d_Model_haveCommon_18 : decode prog_14_method_43_code 18 = .ok (.aload_n 0, 1) := by decide +kernel
theorem d_Model_haveCommon_19 : decode prog_14_method_43_code 19 = .ok (.iconst 0, 1) := by decide +kernel
theorem d_Model_haveCommon_20 : decode prog_14_method_43_code 20 = .ok (.iload_n 2, 1) := by decide +kernel
theorem d_Model_haveCommon_21 : decode prog_14_method_43_code 21 = .ok (.iconst 5, 1) := by decide +kernel
theorem d_Model_haveCommon_22 : decode prog_14_method_43_code 22 = .ok (.invokevirtual 225, 3) := by decide +kernel
theorem d_Model_haveCommon_25 : decode prog_14_method_43_code 25 = .ok (.iload_n 3, 1) := by decide +kernel
theorem d_Model_haveCommon_26 : decode prog_14_method_43_code 26 = .ok (.iadd, 1) := by decide +kernel
theorem d_Model_haveCommon_27 : decode prog_14_method_43_code 27 = .ok (.if_icmp .gt 26, 3) := by decide +kernel
theorem d_Model_haveCommon_30 : decode prog_14_method_43_code 30 = .ok (.aload_n 0, 1) := by decide +kernel
theorem d_Model_haveCommon_31 : decode prog_14_method_43_code 31 = .ok (.iconst 0, 1) := by decide +kernel
theorem d_Model_haveCommon_32 : decode prog_14_method_43_code 32 = .ok (.iload_n 2, 1) := by decide +kernel
theorem d_Model_haveCommon_33 : decode prog_14_method_43_code 33 = .ok (.iconst 4, 1) := by decide +kernel
theorem d_Model_haveCommon_34 : decode prog_14_method_43_code 34 = .ok (.invokevirtual 225, 3) := by decide +kernel
theorem d_Model_haveCommon_37 : decode prog_14_method_43_code 37 = .ok (.aload_n 0, 1) := by decide +kernel
theorem d_Model_haveCommon_38 : decode prog_14_method_43_code 38 = .ok (.iconst 0, 1) := by decide +kernel
theorem d_Model_haveCommon_39 : decode prog_14_method_43_code 39 = .ok (.iload_n 1, 1) := by decide +kernel
theorem d_Model_haveCommon_40 : decode prog_14_method_43_code 40 = .ok (.iconst 5, 1) := by decide +kernel
theorem d_Model_haveCommon_41 : decode prog_14_method_43_code 41 = .ok (.invokevirtual 225, 3) := by decide +kernel
theorem d_Model_haveCommon_44 : decode prog_14_method_43_code 44 = .ok (.iload_n 3, 1) := by decide +kernel
theorem d_Model_haveCommon_45 : decode prog_14_method_43_code 45 = .ok (.iadd, 1) := by decide +kernel
theorem d_Model_haveCommon_46 : decode prog_14_method_43_code 46 = .ok (.if_icmp .gt 7, 3) := by decide +kernel
theorem d_Model_haveCommon_49 : decode prog_14_method_43_code 49 = .ok (.iconst 1, 1) := by decide +kernel
theorem d_Model_haveCommon_50 : decode prog_14_method_43_code 50 = .ok (.goto 4, 3) := by decide +kernel
theorem d_Model_haveCommon_53 : decode prog_14_method_43_code 53 = .ok (.iconst 0, 1) := by decide +kernel
abbrev m_s2_Model_areTwo : Room := { frames := 1, cells := 0, slots := 0, locals := 23 }
set_option maxHeartbeats 4000000 in
set_option maxRecDepth 100000 in
theorem s2_Model_areTwo (l : Launch) (G : zG) (b0 : Nat) (b1 : Int32) (b2 : Int32) (b3 : Int32) (b4 : Nat) (b5 : Nat) (b6 : Nat) (b7 : Nat) (b8 : Int32) (b9 : Nat) (b10 : Int32) (b11 : Int32) (b12 : Int32) (b13 : Int32) (b14 : Nat) (b15 : Nat) (b16 : Nat) (b17 : Int32) (b18 : Nat) (b19 : Nat) (b20 : Nat) (b21 : Nat) (b22 : Nat) (b23 : Nat) (b24 : Nat) (b25 : Nat) (b26 : Nat) (b27 : Nat) (b28 : Nat) (b29 : Nat) (b30 : Int32) (b31 : Nat) (b32 : Nat) (b33 : Int32) (b34 : Int32) (b35 : Int32) (b36 : Int32) (b37 : Nat) (b38 : Nat) (b39 : Nat) (b40 : Nat) (b41 : Nat) (b42 : Nat) (b43 : Nat) (b44 : Int32) (b45 : Nat) (b46 : Nat) (b47 : Int32) (b48 : Nat) (b49 : Nat) (b50 : Nat) (b51 : Nat) (b52 : Nat) (b53 : Int32) (b54 : Nat) (b55 : Nat) (b56 : Nat) (b57 : Nat → Int32) (hb1 : zI b1 0 239) (hb2 : zI b2 0 239) (hb8 : zI b8 0 8) (hb10 : zI b10 0 240) (hb11 : zI b11 0 240) (hb13 : zI b13 0 1) (hb17 : zI b17 0 12) (hb30 : zI b30 0 1) (hb33 : zI b33 0 1) (hb44 : zI b44 0 1000) (hb47 : zI b47 0 1000) (hb53 : zI b53 0 400) (hb57 : zqa qE b57) : zM l G y_Model_areTwo prog_14_method_42_code 3 (Option.some Jvm.ClassFile.FieldType.boolean) m_s2_Model_areTwo [.ref b0, .int b1, .int b2] [(b0, .inr (12, [.int b3, .ref b4, .ref b5, .ref b6, .ref b7, .int b8, .ref b9, .int b10, .int b11, .int b12, .int b13, .ref b14, .ref b15, .ref b16, .int b17, .ref b18, .ref b19, .ref b20, .ref b21, .ref b22, .ref b23, .ref b24, .ref b25, .ref b26, .ref b27, .ref b28, .ref b29, .int b30, .ref b31, .ref b32, .int b33, .int b34, .int b35, .int b36, .ref b37, .ref b38, .ref b39, .ref b40, .ref b41, .ref b42, .ref b43, .int b44, .ref b45, .ref b46, .int b47, .ref b48, .ref b49, .ref b50, .ref b51, .ref b52, .int b53, .ref b54, .ref b55, .ref b56])), (b29, .inl (G.2 0, 2880, .inl b57))] (fun v w => ∃ (e0 : Int32), v = some (.int e0) ∧ w = [(b0, .inr (12, [.int b3, .ref b4, .ref b5, .ref b6, .ref b7, .int b8, .ref b9, .int b10, .int b11, .int b12, .int b13, .ref b14, .ref b15, .ref b16, .int b17, .ref b18, .ref b19, .ref b20, .ref b21, .ref b22, .ref b23, .ref b24, .ref b25, .ref b26, .ref b27, .ref b28, .ref b29, .int b30, .ref b31, .ref b32, .int b33, .int b34, .int b35, .int b36, .ref b37, .ref b38, .ref b39, .ref b40, .ref b41, .ref b42, .ref b43, .int b44, .ref b45, .ref b46, .int b47, .ref b48, .ref b49, .ref b50, .ref b51, .ref b52, .int b53, .ref b54, .ref b55, .ref b56])), (b29, .inl (G.2 0, 2880, .inl b57))] ∧ (zI e0 0 1)) := by
  refine z_start (by decide +kernel) (Nat.le_of_ble_eq_true rfl) ?_
  intro p e s m below meth c A Z hr hnm hA hP hD hS ls hl
  have Z : zC p s m _ meth c prog_14_method_42_code 3 "TraceMachinesModel" G := Z
  obtain ⟨hx, hb, hml, hown, hts, hK, hN, hlocks⟩ := id Z
  have hl : lv_has ls 3 [(0, .ref b0), (1, .int b1), (2, .int b2)] := hl
  refine lv_aload_n hx hb d_Model_areTwo_0 rfl (lv_at hl 0 rfl) ?_
  refine lv_iconst (v := 0) hx hb d_Model_areTwo_1 (by decide) ?_
  refine lv_iload_n hx hb d_Model_areTwo_2 rfl (lv_at hl 1 rfl) ?_
  refine lv_iconst (v := 0) hx hb d_Model_areTwo_3 (by decide) ?_
  refine z_callV (index := 225) (As := [.int 0, .int b1, .int 0]) (rest := []) (wr := []) Z (s4_Model_edgeAt l G (b0) (b1) (b3) (b4) (b5) (b6) (b7) (b8) (b9) (b10) (b11) (b12) (b13) (b14) (b15) (b16) (b17) (b18) (b19) (b20) (b21) (b22) (b23) (b24) (b25) (b26) (b27) (b28) (b29) (b30) (b31) (b32) (b33) (b34) (b35) (b36) (b37) (b38) (b39) (b40) (b41) (b42) (b43) (b44) (b45) (b46) (b47) (b48) (b49) (b50) (b51) (b52) (b53) (b54) (b55) (b56) (b57) (zI.wk (l' := 0) (h' := 240) hb1 (by decide)) hb8 hb10 hb11 hb13 hb17 hb30 hb33 hb44 hb47 hb53 hb57) hl.1 q1408 q1410 qs68 q14 q1411 ⟨by decide, by decide, by show _ = some 3; decide +kernel⟩ ⟨Nat.le_of_ble_eq_true rfl, Nat.le_of_ble_eq_true rfl⟩ ⟨Nat.le_of_ble_eq_true rfl, Nat.le_of_ble_eq_true rfl⟩ rfl (Nat.le_of_ble_eq_true rfl) d_Model_areTwo_4 hP hD hS hA 0 12 rfl rfl rfl [0, 1] [] rfl rfl rfl rfl (by decide) (fun v w1 H locs hw_1 hP hD hS => ?_)
  obtain ⟨x_2, rfl, rfl, hx_2, hfx_3⟩ := hw_1
  have hP : va_P G.1 classes [(b0, .inr (12, [.int b3, .ref b4, .ref b5, .ref b6, .ref b7, .int b8, .ref b9, .int b10, .int b11, .int b12, .int b13, .ref b14, .ref b15, .ref b16, .int b17, .ref b18, .ref b19, .ref b20, .ref b21, .ref b22, .ref b23, .ref b24, .ref b25, .ref b26, .ref b27, .ref b28, .ref b29, .int b30, .ref b31, .ref b32, .int b33, .int b34, .int b35, .int b36, .ref b37, .ref b38, .ref b39, .ref b40, .ref b41, .ref b42, .ref b43, .int b44, .ref b45, .ref b46, .int b47, .ref b48, .ref b49, .ref b50, .ref b51, .ref b52, .int b53, .ref b54, .ref b55, .ref b56])), (b29, .inl (G.2 0, 2880, .inl b57))] H := hP
  have hD := z_tie hP hD rfl
  refine W.widen (k := 0) (n := 0) (Nat.le_of_ble_eq_true rfl) (Nat.le_of_ble_eq_true rfl) ?_
  refine lv_aload_n hx hb d_Model_areTwo_7 rfl (lv_at hl 0 rfl) ?_
  refine lv_iconst (v := 0) hx hb d_Model_areTwo_8 (by decide) ?_
  refine lv_iload_n hx hb d_Model_areTwo_9 rfl (lv_at hl 2 rfl) ?_
  refine lv_iconst (v := 0) hx hb d_Model_areTwo_10 (by decide) ?_
  refine z_callV (index := 225) (As := [.int 0, .int b2, .int 0]) (rest := [.int x_2]) (wr := []) Z (s4_Model_edgeAt l G (b0) (b2) (b3) (b4) (b5) (b6) (b7) (b8) (b9) (b10) (b11) (b12) (b13) (b14) (b15) (b16) (b17) (b18) (b19) (b20) (b21) (b22) (b23) (b24) (b25) (b26) (b27) (b28) (b29) (b30) (b31) (b32) (b33) (b34) (b35) (b36) (b37) (b38) (b39) (b40) (b41) (b42) (b43) (b44) (b45) (b46) (b47) (b48) (b49) (b50) (b51) (b52) (b53) (b54) (b55) (b56) (b57) (zI.wk (l' := 0) (h' := 240) hb2 (by decide)) hb8 hb10 hb11 hb13 hb17 hb30 hb33 hb44 hb47 hb53 hb57) hl.1 q1408 q1410 qs68 q14 q1411 ⟨by decide, by decide, by show _ = some 3; decide +kernel⟩ ⟨Nat.le_of_ble_eq_true rfl, Nat.le_of_ble_eq_true rfl⟩ ⟨Nat.le_of_ble_eq_true rfl, Nat.le_of_ble_eq_true rfl⟩ rfl (Nat.le_of_ble_eq_true rfl) d_Model_areTwo_11 hP hD hS hA 0 12 rfl rfl rfl [0, 1] [] rfl rfl rfl rfl (by decide) (fun v w1 H locs hw_4 hP hD hS => ?_)
  obtain ⟨x_5, rfl, rfl, hx_5, hfx_6⟩ := hw_4
  have hP : va_P G.1 classes [(b0, .inr (12, [.int b3, .ref b4, .ref b5, .ref b6, .ref b7, .int b8, .ref b9, .int b10, .int b11, .int b12, .int b13, .ref b14, .ref b15, .ref b16, .int b17, .ref b18, .ref b19, .ref b20, .ref b21, .ref b22, .ref b23, .ref b24, .ref b25, .ref b26, .ref b27, .ref b28, .ref b29, .int b30, .ref b31, .ref b32, .int b33, .int b34, .int b35, .int b36, .ref b37, .ref b38, .ref b39, .ref b40, .ref b41, .ref b42, .ref b43, .int b44, .ref b45, .ref b46, .int b47, .ref b48, .ref b49, .ref b50, .ref b51, .ref b52, .int b53, .ref b54, .ref b55, .ref b56])), (b29, .inl (G.2 0, 2880, .inl b57))] H := hP
  have hD := z_tie hP hD rfl
  refine W.widen (k := 0) (n := 0) (Nat.le_of_ble_eq_true rfl) (Nat.le_of_ble_eq_true rfl) ?_
  refine lv_icmp_ne (tgt := 38) hx hb d_Model_areTwo_14 (by decide) (fun hc_7 => ?_) (fun hc_7 => ?_)
  · have _nhc_7 := hc_7
    have ni_8 : ¬ (x_2 : Int32).toInt = (x_5 : Int32).toInt := fun z => hc_7 ((fa_eq _ _).mpr z)
    refine lv_iconst (v := 0) hx hb d_Model_areTwo_38 (by decide) ?_
    exact z_zret hx hb hr hlocks rfl hP hD hS (Nat.le_of_ble_eq_true rfl) (Nat.le_of_ble_eq_true rfl) d_Model_areTwo_39 ⟨0, rfl, rfl, (zI.wk (l' := 0) (h' := 1) zc_0 (by decide))⟩
  · have _nhc_7 := hc_7
    have ni_9 := (fa_eq _ _).mp hc_7
    refine lv_aload_n hx hb d_Model_areTwo_17 rfl (lv_at hl 0 rfl) ?_
    refine lv_iconst (v := 0) hx hb d_Model_areTwo_18 (by decide) ?_
    refine lv_iload_n hx hb d_Model_areTwo_19 rfl (lv_at hl 1 rfl) ?_
    refine lv_iconst (v := 1) hx hb d_Model_areTwo_20 (by decide) ?_
    refine z_callV (index := 225) (As := [.int 0, .int b1, .int 1]) (rest := []) (wr := []) Z (s5_Model_edgeAt l G (b0) (b1) (b3) (b4) (b5) (b6) (b7) (b8) (b9) (b10) (b11) (b12) (b13) (b14) (b15) (b16) (b17) (b18) (b19) (b20) (b21) (b22) (b23) (b24) (b25) (b26) (b27) (b28) (b29) (b30) (b31) (b32) (b33) (b34) (b35) (b36) (b37) (b38) (b39) (b40) (b41) (b42) (b43) (b44) (b45) (b46) (b47) (b48) (b49) (b50) (b51) (b52) (b53) (b54) (b55) (b56) (b57) (zI.wk (l' := 0) (h' := 240) hb1 (by decide)) hb8 hb10 hb11 hb13 hb17 hb30 hb33 hb44 hb47 hb53 hb57) hl.1 q1408 q1410 qs68 q14 q1411 ⟨by decide, by decide, by show _ = some 3; decide +kernel⟩ ⟨Nat.le_of_ble_eq_true rfl, Nat.le_of_ble_eq_true rfl⟩ ⟨Nat.le_of_ble_eq_true rfl, Nat.le_of_ble_eq_true rfl⟩ rfl (Nat.le_of_ble_eq_true rfl) d_Model_areTwo_21 hP hD hS hA 0 12 rfl rfl rfl [0, 1] [] rfl rfl rfl rfl (by decide) (fun v w1 H locs hw_10 hP hD hS => ?_)
    obtain ⟨x_11, rfl, rfl, hx_11, hfx_12⟩ := hw_10
    have hP : va_P G.1 classes [(b0, .inr (12, [.int b3, .ref b4, .ref b5, .ref b6, .ref b7, .int b8, .ref b9, .int b10, .int b11, .int b12, .int b13, .ref b14, .ref b15, .ref b16, .int b17, .ref b18, .ref b19, .ref b20, .ref b21, .ref b22, .ref b23, .ref b24, .ref b25, .ref b26, .ref b27, .ref b28, .ref b29, .int b30, .ref b31, .ref b32, .int b33, .int b34, .int b35, .int b36, .ref b37, .ref b38, .ref b39, .ref b40, .ref b41, .ref b42, .ref b43, .int b44, .ref b45, .ref b46, .int b47, .ref b48, .ref b49, .ref b50, .ref b51, .ref b52, .int b53, .ref b54, .ref b55, .ref b56])), (b29, .inl (G.2 0, 2880, .inl b57))] H := hP
    have hD := z_tie hP hD rfl
    refine W.widen (k := 0) (n := 0) (Nat.le_of_ble_eq_true rfl) (Nat.le_of_ble_eq_true rfl) ?_
    refine lv_aload_n hx hb d_Model_areTwo_24 rfl (lv_at hl 0 rfl) ?_
    refine lv_iconst (v := 0) hx hb d_Model_areTwo_25 (by decide) ?_
    refine lv_iload_n hx hb d_Model_areTwo_26 rfl (lv_at hl 2 rfl) ?_
    refine lv_iconst (v := 1) hx hb d_Model_areTwo_27 (by decide) ?_
    refine z_callV (index := 225) (As := [.int 0, .int b2, .int 1]) (rest := [.int x_11]) (wr := []) Z (s5_Model_edgeAt l G (b0) (b2) (b3) (b4) (b5) (b6) (b7) (b8) (b9) (b10) (b11) (b12) (b13) (b14) (b15) (b16) (b17) (b18) (b19) (b20) (b21) (b22) (b23) (b24) (b25) (b26) (b27) (b28) (b29) (b30) (b31) (b32) (b33) (b34) (b35) (b36) (b37) (b38) (b39) (b40) (b41) (b42) (b43) (b44) (b45) (b46) (b47) (b48) (b49) (b50) (b51) (b52) (b53) (b54) (b55) (b56) (b57) (zI.wk (l' := 0) (h' := 240) hb2 (by decide)) hb8 hb10 hb11 hb13 hb17 hb30 hb33 hb44 hb47 hb53 hb57) hl.1 q1408 q1410 qs68 q14 q1411 ⟨by decide, by decide, by show _ = some 3; decide +kernel⟩ ⟨Nat.le_of_ble_eq_true rfl, Nat.le_of_ble_eq_true rfl⟩ ⟨Nat.le_of_ble_eq_true rfl, Nat.le_of_ble_eq_true rfl⟩ rfl (Nat.le_of_ble_eq_true rfl) d_Model_areTwo_28 hP hD hS hA 0 12 rfl rfl rfl [0, 1] [] rfl rfl rfl rfl (by decide) (fun v w1 H locs hw_13 hP hD hS => ?_)
    obtain ⟨x_14, rfl, rfl, hx_14, hfx_15⟩ := hw_13
    have hP : va_P G.1 classes [(b0, .inr (12, [.int b3, .ref b4, .ref b5, .ref b6, .ref b7, .int b8, .ref b9, .int b10, .int b11, .int b12, .int b13, .ref b14, .ref b15, .ref b16, .int b17, .ref b18, .ref b19, .ref b20, .ref b21, .ref b22, .ref b23, .ref b24, .ref b25, .ref b26, .ref b27, .ref b28, .ref b29, .int b30, .ref b31, .ref b32, .int b33, .int b34, .int b35, .int b36, .ref b37, .ref b38, .ref b39, .ref b40, .ref b41, .ref b42, .ref b43, .int b44, .ref b45, .ref b46, .int b47, .ref b48, .ref b49, .ref b50, .ref b51, .ref b52, .int b53, .ref b54, .ref b55, .ref b56])), (b29, .inl (G.2 0, 2880, .inl b57))] H := hP
    have hD := z_tie hP hD rfl
    refine W.widen (k := 0) (n := 0) (Nat.le_of_ble_eq_true rfl) (Nat.le_of_ble_eq_true rfl) ?_
    refine lv_icmp_ne (tgt := 38) hx hb d_Model_areTwo_31 (by decide) (fun hc_16 => ?_) (fun hc_16 => ?_)
    · have _nhc_16 := hc_16
      have ni_17 : ¬ (x_11 : Int32).toInt = (x_14 : Int32).toInt := fun z => hc_16 ((fa_eq _ _).mpr z)
      refine lv_iconst (v := 0) hx hb d_Model_areTwo_38 (by decide) ?_
      exact z_zret hx hb hr hlocks rfl hP hD hS (Nat.le_of_ble_eq_true rfl) (Nat.le_of_ble_eq_true rfl) d_Model_areTwo_39 ⟨0, rfl, rfl, (zI.wk (l' := 0) (h' := 1) zc_0 (by decide))⟩
    · have _nhc_16 := hc_16
      have ni_18 := (fa_eq _ _).mp hc_16
      refine lv_iconst (v := 1) hx hb d_Model_areTwo_34 (by decide) ?_
      refine lv_goto (tgt := 39) hx hb d_Model_areTwo_35 (by decide) ?_
      exact z_zret hx hb hr hlocks rfl hP hD hS (Nat.le_of_ble_eq_true rfl) (Nat.le_of_ble_eq_true rfl) d_Model_areTwo_39 ⟨1, rfl, rfl, (zI.wk (l' := 0) (h' := 1) zc_1 (by decide))⟩
theorem d_Model_haveCommon_54 : decode prog_14_method_43_code 54 = .ok (.ireturn, 1) := by decide +kernel
abbrev m_s2_Model_haveCommon : Room := { frames := 1, cells := 0, slots := 0, locals := 23 }
set_option maxHeartbeats 4000000 in
set_option maxRecDepth 100000 in
theorem s2_Model_haveCommon (l : Launch) (G : zG) (b0 : Nat) (b1 : Int32) (b2 : Int32) (b3 : Int32) (b4 : Nat) (b5 : Nat) (b6 : Nat) (b7 : Nat) (b8 : Int32) (b9 : Nat) (b10 : Int32) (b11 : Int32) (b12 : Int32) (b13 : Int32) (b14 : Nat) (b15 : Nat) (b16 : Nat) (b17 : Int32) (b18 : Nat) (b19 : Nat) (b20 : Nat) (b21 : Nat) (b22 : Nat) (b23 : Nat) (b24 : Nat) (b25 : Nat) (b26 : Nat) (b27 : Nat) (b28 : Nat) (b29 : Nat) (b30 : Int32) (b31 : Nat) (b32 : Nat) (b33 : Int32) (b34 : Int32) (b35 : Int32) (b36 : Int32) (b37 : Nat) (b38 : Nat) (b39 : Nat) (b40 : Nat) (b41 : Nat) (b42 : Nat) (b43 : Nat) (b44 : Int32) (b45 : Nat) (b46 : Nat) (b47 : Int32) (b48 : Nat) (b49 : Nat) (b50 : Nat) (b51 : Nat) (b52 : Nat) (b53 : Int32) (b54 : Nat) (b55 : Nat) (b56 : Nat) (b57 : Nat → Int32) (b58 : Nat → Int32) (hb1 : zI b1 0 239) (hb2 : zI b2 0 239) (hb8 : zI b8 0 8) (hb10 : zI b10 0 240) (hb11 : zI b11 0 240) (hb13 : zI b13 0 1) (hb17 : zI b17 0 12) (hb30 : zI b30 0 1) (hb33 : zI b33 0 1) (hb44 : zI b44 0 1000) (hb47 : zI b47 0 1000) (hb53 : zI b53 0 400) (hb57 : zW5 b57) (hb58 : zqa qE b58) : zM l G y_Model_haveCommon prog_14_method_43_code 4 (Option.some Jvm.ClassFile.FieldType.boolean) m_s2_Model_haveCommon [.ref b0, .int b1, .int b2] [(b0, .inr (12, [.int b3, .ref b4, .ref b5, .ref b6, .ref b7, .int b8, .ref b9, .int b10, .int b11, .int b12, .int b13, .ref b14, .ref b15, .ref b16, .int b17, .ref b18, .ref b19, .ref b20, .ref b21, .ref b22, .ref b23, .ref b24, .ref b25, .ref b26, .ref b27, .ref b28, .ref b29, .int b30, .ref b31, .ref b32, .int b33, .int b34, .int b35, .int b36, .ref b37, .ref b38, .ref b39, .ref b40, .ref b41, .ref b42, .ref b43, .int b44, .ref b45, .ref b46, .int b47, .ref b48, .ref b49, .ref b50, .ref b51, .ref b52, .int b53, .ref b54, .ref b55, .ref b56])), (b4, .inl (G.2 0, 503, .inl b57)), (b29, .inl (G.2 0, 2880, .inl b58))] (fun v w => ∃ (e0 : Int32), v = some (.int e0) ∧ w = [(b0, .inr (12, [.int b3, .ref b4, .ref b5, .ref b6, .ref b7, .int b8, .ref b9, .int b10, .int b11, .int b12, .int b13, .ref b14, .ref b15, .ref b16, .int b17, .ref b18, .ref b19, .ref b20, .ref b21, .ref b22, .ref b23, .ref b24, .ref b25, .ref b26, .ref b27, .ref b28, .ref b29, .int b30, .ref b31, .ref b32, .int b33, .int b34, .int b35, .int b36, .ref b37, .ref b38, .ref b39, .ref b40, .ref b41, .ref b42, .ref b43, .int b44, .ref b45, .ref b46, .int b47, .ref b48, .ref b49, .ref b50, .ref b51, .ref b52, .int b53, .ref b54, .ref b55, .ref b56])), (b4, .inl (G.2 0, 503, .inl b57)), (b29, .inl (G.2 0, 2880, .inl b58))] ∧ (zI e0 0 1)) := by
  refine z_start (by decide +kernel) (Nat.le_of_ble_eq_true rfl) ?_
  intro p e s m below meth c A Z hr hnm hA hP hD hS ls hl
  have Z : zC p s m _ meth c prog_14_method_43_code 4 "TraceMachinesModel" G := Z
  obtain ⟨hx, hb, hml, hown, hts, hK, hN, hlocks⟩ := id Z
  have hl : lv_has ls 4 [(0, .ref b0), (1, .int b1), (2, .int b2)] := hl
  refine lv_iconst (v := 2) hx hb d_Model_haveCommon_0 (by decide) ?_
  refine lv_aload_n hx hb d_Model_haveCommon_1 rfl (lv_at hl 0 rfl) ?_
  refine va_get (D := G.1) (ci := 12) (v := .ref b4) (C := R_Model) (T := F_Model) (N := 54) hx hb hts i_Model hown hK hP 0 rfl rfl 1 (by decide) (hts _ q1110) (fun _ h9 => h9) rfl d_Model_haveCommon_2 ?_
  refine lv_sipush (v := 502) hx hb d_Model_haveCommon_5 (by decide) ?_
  refine va_iald hx hb hK hP 1 0 rfl rfl (i := 502) (z_in rfl) d_Model_haveCommon_8 ?_
  refine lv_topi (fun v_1 ev_1 => ?_)
  have hv_1 : zI v_1 0 20 := zW5.ld hb57 zc_502 ev_1 (by decide)
  refine lv_imul hx hb d_Model_haveCommon_9 ?_
  refine lv_topi (fun v_2 ev_2 => ?_)
  obtain ⟨qv_2, hv_2⟩ := zI_mul (l := 0) (h := 40) zc_2 hv_1 ev_2 (by decide)
  rw [li_2] at qv_2
  refine lv_istore_n (lv' := [(3, .int v_2), (0, .ref b0), (1, .int b1), (2, .int b2)]) hx hb d_Model_haveCommon_10 rfl hl (by decide) rfl (fun ls hl => ?_)
  refine lv_aload_n hx hb d_Model_haveCommon_11 rfl (lv_at hl 1 rfl) ?_
  refine lv_iconst (v := 0) hx hb d_Model_haveCommon_12 (by decide) ?_
  refine lv_iload_n hx hb d_Model_haveCommon_13 rfl (lv_at hl 2 rfl) ?_
  refine lv_iconst (v := 4) hx hb d_Model_haveCommon_14 (by decide) ?_
  refine z_callV (index := 225) (As := [.int 0, .int b1, .int 4]) (rest := []) (wr := [(b4, .inl (G.2 0, 503, .inl b57))]) Z (s16_Model_edgeAt l G (b0) (b1) (4) (b3) (b4) (b5) (b6) (b7) (b8) (b9) (b10) (b11) (b12) (b13) (b14) (b15) (b16) (b17) (b18) (b19) (b20) (b21) (b22) (b23) (b24) (b25) (b26) (b27) (b28) (b29) (b30) (b31) (b32) (b33) (b34) (b35) (b36) (b37) (b38) (b39) (b40) (b41) (b42) (b43) (b44) (b45) (b46) (b47) (b48) (b49) (b50) (b51) (b52) (b53) (b54) (b55) (b56) (b58) (zI.wk (l' := 0) (h' := 240) hb1 (by decide)) (zI.wk (l' := 0) (h' := 5) zc_4 (by decide)) hb8 hb10 hb11 hb13 hb17 hb30 hb33 hb44 hb47 hb53 hb58) hl.1 q1408 q1410 qs68 q14 q1411 ⟨by decide, by decide, by show _ = some 3; decide +kernel⟩ ⟨Nat.le_of_ble_eq_true rfl, Nat.le_of_ble_eq_true rfl⟩ ⟨Nat.le_of_ble_eq_true rfl, Nat.le_of_ble_eq_true rfl⟩ rfl (Nat.le_of_ble_eq_true rfl) d_Model_haveCommon_15 hP hD hS hA 0 12 rfl rfl rfl [0, 2] [1] rfl rfl rfl rfl (by decide) (fun v w1 H locs hw_3 hP hD hS => ?_)
  obtain ⟨x_4, rfl, rfl⟩ := hw_3
  have hP : va_P G.1 classes [(b4, .inl (G.2 0, 503, .inl b57)), (b0, .inr (12, [.int b3, .ref b4, .ref b5, .ref b6, .ref b7, .int b8, .ref b9, .int b10, .int b11, .int b12, .int b13, .ref b14, .ref b15, .ref b16, .int b17, .ref b18, .ref b19, .ref b20, .ref b21, .ref b22, .ref b23, .ref b24, .ref b25, .ref b26, .ref b27, .ref b28, .ref b29, .int b30, .ref b31, .ref b32, .int b33, .int b34, .int b35, .int b36, .ref b37, .ref b38, .ref b39, .ref b40, .ref b41, .ref b42, .ref b43, .int b44, .ref b45, .ref b46, .int b47, .ref b48, .ref b49, .ref b50, .ref b51, .ref b52, .int b53, .ref b54, .ref b55, .ref b56])), (b29, .inl (G.2 0, 2880, .inl b58))] H := hP
  have hD := z_tie hP hD rfl
  refine W.widen (k := 0) (n := 0) (Nat.le_of_ble_eq_true rfl) (Nat.le_of_ble_eq_true rfl) ?_
  refine lv_aload_n hx hb d_Model_haveCommon_18 rfl (lv_at hl 1 rfl) ?_
  refine lv_iconst (v := 0) hx hb d_Model_haveCommon_19 (by decide) ?_
  refine lv_iload_n hx hb d_Model_haveCommon_20 rfl (lv_at hl 3 rfl) ?_
  refine lv_iconst (v := 5) hx hb d_Model_haveCommon_21 (by decide) ?_
  refine z_callV (index := 225) (As := [.int 0, .int b2, .int 5]) (rest := [.int x_4]) (wr := [(b4, .inl (G.2 0, 503, .inl b57))]) Z (s16_Model_edgeAt l G (b0) (b2) (5) (b3) (b4) (b5) (b6) (b7) (b8) (b9) (b10) (b11) (b12) (b13) (b14) (b15) (b16) (b17) (b18) (b19) (b20) (b21) (b22) (b23) (b24) (b25) (b26) (b27) (b28) (b29) (b30) (b31) (b32) (b33) (b34) (b35) (b36) (b37) (b38) (b39) (b40) (b41) (b42) (b43) (b44) (b45) (b46) (b47) (b48) (b49) (b50) (b51) (b52) (b53) (b54) (b55) (b56) (b58) (zI.wk (l' := 0) (h' := 240) hb2 (by decide)) (zI.wk (l' := 0) (h' := 5) zc_5 (by decide)) hb8 hb10 hb11 hb13 hb17 hb30 hb33 hb44 hb47 hb53 hb58) hl.1 q1408 q1410 qs68 q14 q1411 ⟨by decide, by decide, by show _ = some 3; decide +kernel⟩ ⟨Nat.le_of_ble_eq_true rfl, Nat.le_of_ble_eq_true rfl⟩ ⟨Nat.le_of_ble_eq_true rfl, Nat.le_of_ble_eq_true rfl⟩ rfl (Nat.le_of_ble_eq_true rfl) d_Model_haveCommon_22 hP hD hS hA 1 12 rfl rfl rfl [1, 2] [0] rfl rfl rfl rfl (by decide) (fun v w1 H locs hw_5 hP hD hS => ?_)
  obtain ⟨x_6, rfl, rfl⟩ := hw_5
  have hP : va_P G.1 classes [(b4, .inl (G.2 0, 503, .inl b57)), (b0, .inr (12, [.int b3, .ref b4, .ref b5, .ref b6, .ref b7, .int b8, .ref b9, .int b10, .int b11, .int b12, .int b13, .ref b14, .ref b15, .ref b16, .int b17, .ref b18, .ref b19, .ref b20, .ref b21, .ref b22, .ref b23, .ref b24, .ref b25, .ref b26, .ref b27, .ref b28, .ref b29, .int b30, .ref b31, .ref b32, .int b33, .int b34, .int b35, .int b36, .ref b37, .ref b38, .ref b39, .ref b40, .ref b41, .ref b42, .ref b43, .int b44, .ref b45, .ref b46, .int b47, .ref b48, .ref b49, .ref b50, .ref b51, .ref b52, .int b53, .ref b54, .ref b55, .ref b56])), (b29, .inl (G.2 0, 2880, .inl b58))] H := hP
  have hD := z_tie hP hD rfl
  refine W.widen (k := 0) (n := 0) (Nat.le_of_ble_eq_true rfl) (Nat.le_of_ble_eq_true rfl) ?_
  refine lv_iload_n hx hb d_Model_haveCommon_25 rfl (lv_at hl 0 rfl) ?_
  refine lv_iadd hx hb d_Model_haveCommon_26 ?_
  refine lv_topi (fun v_7 ev_7 => ?_)
  refine lv_icmp_gt (tgt := 53) hx hb d_Model_haveCommon_27 (by decide) (fun hc_8 => ?_) (fun hc_8 => ?_)
  · have _nhc_8 := hc_8
    have ni_9 := (fa_lt _ _).mp hc_8
    have hv_10 : zI v_7 (-2147483648) 2147483646 := zI.lt_l (zI_all v_7) (zI_all x_4) hc_8 (by decide)
    have hv_11 : zI x_4 (-2147483647) 2147483647 := zI.lt_r (zI_all v_7) (zI_all x_4) hc_8 (by decide)
    refine lv_iconst (v := 0) hx hb d_Model_haveCommon_53 (by decide) ?_
    exact z_zret hx hb hr hlocks rfl (hP.sub [1, 0, 2] rfl) (hD.sub [1, 0, 2] (by decide) rfl) hS (Nat.le_of_ble_eq_true rfl) (Nat.le_of_ble_eq_true rfl) d_Model_haveCommon_54 ⟨0, rfl, rfl, (zI.wk (l' := 0) (h' := 1) zc_0 (by decide))⟩
  · have _nhc_8 := hc_8
    have ni_12 := (fa_le _ _).mp (zi_nlt hc_8)
    refine lv_aload_n hx hb d_Model_haveCommon_30 rfl (lv_at hl 1 rfl) ?_
    refine lv_iconst (v := 0) hx hb d_Model_haveCommon_31 (by decide) ?_
    refine lv_iload_n hx hb d_Model_haveCommon_32 rfl (lv_at hl 3 rfl) ?_
    refine lv_iconst (v := 4) hx hb d_Model_haveCommon_33 (by decide) ?_
    refine z_callV (index := 225) (As := [.int 0, .int b2, .int 4]) (rest := []) (wr := [(b4, .inl (G.2 0, 503, .inl b57))]) Z (s16_Model_edgeAt l G (b0) (b2) (4) (b3) (b4) (b5) (b6) (b7) (b8) (b9) (b10) (b11) (b12) (b13) (b14) (b15) (b16) (b17) (b18) (b19) (b20) (b21) (b22) (b23) (b24) (b25) (b26) (b27) (b28) (b29) (b30) (b31) (b32) (b33) (b34) (b35) (b36) (b37) (b38) (b39) (b40) (b41) (b42) (b43) (b44) (b45) (b46) (b47) (b48) (b49) (b50) (b51) (b52) (b53) (b54) (b55) (b56) (b58) (zI.wk (l' := 0) (h' := 240) hb2 (by decide)) (zI.wk (l' := 0) (h' := 5) zc_4 (by decide)) hb8 hb10 hb11 hb13 hb17 hb30 hb33 hb44 hb47 hb53 hb58) hl.1 q1408 q1410 qs68 q14 q1411 ⟨by decide, by decide, by show _ = some 3; decide +kernel⟩ ⟨Nat.le_of_ble_eq_true rfl, Nat.le_of_ble_eq_true rfl⟩ ⟨Nat.le_of_ble_eq_true rfl, Nat.le_of_ble_eq_true rfl⟩ rfl (Nat.le_of_ble_eq_true rfl) d_Model_haveCommon_34 hP hD hS hA 1 12 rfl rfl rfl [1, 2] [0] rfl rfl rfl rfl (by decide) (fun v w1 H locs hw_13 hP hD hS => ?_)
    obtain ⟨x_14, rfl, rfl⟩ := hw_13
    have hP : va_P G.1 classes [(b4, .inl (G.2 0, 503, .inl b57)), (b0, .inr (12, [.int b3, .ref b4, .ref b5, .ref b6, .ref b7, .int b8, .ref b9, .int b10, .int b11, .int b12, .int b13, .ref b14, .ref b15, .ref b16, .int b17, .ref b18, .ref b19, .ref b20, .ref b21, .ref b22, .ref b23, .ref b24, .ref b25, .ref b26, .ref b27, .ref b28, .ref b29, .int b30, .ref b31, .ref b32, .int b33, .int b34, .int b35, .int b36, .ref b37, .ref b38, .ref b39, .ref b40, .ref b41, .ref b42, .ref b43, .int b44, .ref b45, .ref b46, .int b47, .ref b48, .ref b49, .ref b50, .ref b51, .ref b52, .int b53, .ref b54, .ref b55, .ref b56])), (b29, .inl (G.2 0, 2880, .inl b58))] H := hP
    have hD := z_tie hP hD rfl
    refine W.widen (k := 0) (n := 0) (Nat.le_of_ble_eq_true rfl) (Nat.le_of_ble_eq_true rfl) ?_
    refine lv_aload_n hx hb d_Model_haveCommon_37 rfl (lv_at hl 1 rfl) ?_
    refine lv_iconst (v := 0) hx hb d_Model_haveCommon_38 (by decide) ?_
    refine lv_iload_n hx hb d_Model_haveCommon_39 rfl (lv_at hl 2 rfl) ?_
    refine lv_iconst (v := 5) hx hb d_Model_haveCommon_40 (by decide) ?_
    refine z_callV (index := 225) (As := [.int 0, .int b1, .int 5]) (rest := [.int x_14]) (wr := [(b4, .inl (G.2 0, 503, .inl b57))]) Z (s16_Model_edgeAt l G (b0) (b1) (5) (b3) (b4) (b5) (b6) (b7) (b8) (b9) (b10) (b11) (b12) (b13) (b14) (b15) (b16) (b17) (b18) (b19) (b20) (b21) (b22) (b23) (b24) (b25) (b26) (b27) (b28) (b29) (b30) (b31) (b32) (b33) (b34) (b35) (b36) (b37) (b38) (b39) (b40) (b41) (b42) (b43) (b44) (b45) (b46) (b47) (b48) (b49) (b50) (b51) (b52) (b53) (b54) (b55) (b56) (b58) (zI.wk (l' := 0) (h' := 240) hb1 (by decide)) (zI.wk (l' := 0) (h' := 5) zc_5 (by decide)) hb8 hb10 hb11 hb13 hb17 hb30 hb33 hb44 hb47 hb53 hb58) hl.1 q1408 q1410 qs68 q14 q1411 ⟨by decide, by decide, by show _ = some 3; decide +kernel⟩ ⟨Nat.le_of_ble_eq_true rfl, Nat.le_of_ble_eq_true rfl⟩ ⟨Nat.le_of_ble_eq_true rfl, Nat.le_of_ble_eq_true rfl⟩ rfl (Nat.le_of_ble_eq_true rfl) d_Model_haveCommon_41 hP hD hS hA 1 12 rfl rfl rfl [1, 2] [0] rfl rfl rfl rfl (by decide) (fun v w1 H locs hw_15 hP hD hS => ?_)
    obtain ⟨x_16, rfl, rfl⟩ := hw_15
    have hP : va_P G.1 classes [(b4, .inl (G.2 0, 503, .inl b57)), (b0, .inr (12, [.int b3, .ref b4, .ref b5, .ref b6, .ref b7, .int b8, .ref b9, .int b10, .int b11, .int b12, .int b13, .ref b14, .ref b15, .ref b16, .int b17, .ref b18, .ref b19, .ref b20, .ref b21, .ref b22, .ref b23, .ref b24, .ref b25, .ref b26, .ref b27, .ref b28, .ref b29, .int b30, .ref b31, .ref b32, .int b33, .int b34, .int b35, .int b36, .ref b37, .ref b38, .ref b39, .ref b40, .ref b41, .ref b42, .ref b43, .int b44, .ref b45, .ref b46, .int b47, .ref b48, .ref b49, .ref b50, .ref b51, .ref b52, .int b53, .ref b54, .ref b55, .ref b56])), (b29, .inl (G.2 0, 2880, .inl b58))] H := hP
    have hD := z_tie hP hD rfl
    refine W.widen (k := 0) (n := 0) (Nat.le_of_ble_eq_true rfl) (Nat.le_of_ble_eq_true rfl) ?_
    refine lv_iload_n hx hb d_Model_haveCommon_44 rfl (lv_at hl 0 rfl) ?_
    refine lv_iadd hx hb d_Model_haveCommon_45 ?_
    refine lv_topi (fun v_17 ev_17 => ?_)
    refine lv_icmp_gt (tgt := 53) hx hb d_Model_haveCommon_46 (by decide) (fun hc_18 => ?_) (fun hc_18 => ?_)
    · have _nhc_18 := hc_18
      have ni_19 := (fa_lt _ _).mp hc_18
      have hv_20 : zI v_17 (-2147483648) 2147483646 := zI.lt_l (zI_all v_17) (zI_all x_14) hc_18 (by decide)
      have hv_21 : zI x_14 (-2147483647) 2147483647 := zI.lt_r (zI_all v_17) (zI_all x_14) hc_18 (by decide)
      refine lv_iconst (v := 0) hx hb d_Model_haveCommon_53 (by decide) ?_
      exact z_zret hx hb hr hlocks rfl (hP.sub [1, 0, 2] rfl) (hD.sub [1, 0, 2] (by decide) rfl) hS (Nat.le_of_ble_eq_true rfl) (Nat.le_of_ble_eq_true rfl) d_Model_haveCommon_54 ⟨0, rfl, rfl, (zI.wk (l' := 0) (h' := 1) zc_0 (by decide))⟩
    · have _nhc_18 := hc_18
      have ni_22 := (fa_le _ _).mp (zi_nlt hc_18)
      refine lv_iconst (v := 1) hx hb d_Model_haveCommon_49 (by decide) ?_
      refine lv_goto (tgt := 54) hx hb d_Model_haveCommon_50 (by decide) ?_
      exact z_zret hx hb hr hlocks rfl (hP.sub [1, 0, 2] rfl) (hD.sub [1, 0, 2] (by decide) rfl) hS (Nat.le_of_ble_eq_true rfl) (Nat.le_of_ble_eq_true rfl) d_Model_haveCommon_54 ⟨1, rfl, rfl, (zI.wk (l' := 0) (h' := 1) zc_1 (by decide))⟩
abbrev m_s1_Model_vague : Room := { frames := 5, cells := 0, slots := 0, locals := 124 }
set_option maxHeartbeats 4000000 in
set_option maxRecDepth 100000 in
theorem s1_Model_vague (l : Launch) (G : zG) (b0 : Nat) (b1 : Int32) (b2 : Int32) (b3 : Nat) (b4 : Nat) (b5 : Nat) (b6 : Nat) (b7 : Int32) (b8 : Nat) (b9 : Int32) (b10 : Int32) (b11 : Int32) (b12 : Int32) (b13 : Nat) (b14 : Nat) (b15 : Nat) (b16 : Int32) (b17 : Nat) (b18 : Nat) (b19 : Nat) (b20 : Nat) (b21 : Nat) (b22 : Nat) (b23 : Nat) (b24 : Nat) (b25 : Nat) (b26 : Nat) (b27 : Nat) (b28 : Nat) (b29 : Int32) (b30 : Nat) (b31 : Nat) (b32 : Int32) (b33 : Int32) (b34 : Int32) (b35 : Int32) (b36 : Nat) (b37 : Nat) (b38 : Nat) (b39 : Nat) (b40 : Nat) (b41 : Nat) (b42 : Nat) (b43 : Int32) (b44 : Nat) (b45 : Nat) (b46 : Int32) (b47 : Nat) (b48 : Nat) (b49 : Nat) (b50 : Nat) (b51 : Nat) (b52 : Int32) (b53 : Nat) (b54 : Nat) (b55 : Nat) (b56 : Nat → Int32) (b57 : Nat → Int32) (b58 : Nat → Int32) (b59 : Nat → Int32) (b60 : Nat → Int32) (b61 : Nat → Int32) (b62 : Nat → Int32) (b63 : Nat → Int32) (b64 : Nat → Int32) (b65 : Nat → Int32) (b66 : Nat → Int32) (b67 : Nat → Int32) (b68 : Nat → Int32) (hb7 : zI b7 0 8) (hb9 : zI b9 0 240) (hb10 : zI b10 0 240) (hb12 : zI b12 0 1) (hb16 : zI b16 0 12) (hb29 : zI b29 0 1) (hb32 : zI b32 0 1) (hb43 : zI b43 0 1000) (hb46 : zI b46 0 1000) (hb52 : zI b52 0 400) (hb56 : zW5 b56) (hb57 : zR b57 0 241) (hb58 : zR b58 (-1) 240) (hb59 : zqa qP b59) (hb61 : zqa qC b61) (hb62 : zR b62 0 240) (hb63 : zR b63 0 241) (hb64 : zR b64 0 240) (hb67 : zR b67 0 240) (hb68 : zqa qE b68) : zM l G y_Model_vague prog_14_method_44_code 5 (Option.some Jvm.ClassFile.FieldType.int) m_s1_Model_vague [.ref b0, .int b1] [(b0, .inr (12, [.int b2, .ref b3, .ref b4, .ref b5, .ref b6, .int b7, .ref b8, .int b9, .int b10, .int b11, .int b12, .ref b13, .ref b14, .ref b15, .int b16, .ref b17, .ref b18, .ref b19, .ref b20, .ref b21, .ref b22, .ref b23, .ref b24, .ref b25, .ref b26, .ref b27, .ref b28, .int b29, .ref b30, .ref b31, .int b32, .int b33, .int b34, .int b35, .ref b36, .ref b37, .ref b38, .ref b39, .ref b40, .ref b41, .ref b42, .int b43, .ref b44, .ref b45, .int b46, .ref b47, .ref b48, .ref b49, .ref b50, .ref b51, .int b52, .ref b53, .ref b54, .ref b55])), (b3, .inl (G.2 0, 503, .inl b56)), (b17, .inl (G.2 0, 2, .inl b57)), (b18, .inl (G.2 0, 4820, .inl b58)), (b19, .inl (G.2 0, 520, .inl b59)), (b20, .inl (G.2 0, 9640, .inl b60)), (b21, .inl (G.2 0, 482, .inl b61)), (b22, .inl (G.2 0, 482, .inl b62)), (b23, .inl (G.2 0, 2, .inl b63)), (b24, .inl (G.2 0, 482, .inl b64)), (b25, .inl (G.2 0, 482, .inl b65)), (b26, .inl (G.2 0, 482, .inl b66)), (b27, .inl (G.2 0, 2, .inl b67)), (b28, .inl (G.2 0, 2880, .inl b68))] (fun v w => ∃ (e0 : Int32), ∃ (e1 : Int32), ∃ (e2 : Nat → Int32), ∃ (e3 : Nat → Int32), ∃ (e4 : Nat → Int32), ∃ (e5 : Nat → Int32), ∃ (e6 : Nat → Int32), ∃ (e7 : Nat → Int32), ∃ (e8 : Nat → Int32), ∃ (e9 : Nat → Int32), ∃ (e10 : Nat → Int32), ∃ (e11 : Nat → Int32), ∃ (e12 : Nat → Int32), ∃ (e13 : Nat → Int32), v = some (.int e0) ∧ w = [(b0, .inr (12, [.int 0, .ref b3, .ref b4, .ref b5, .ref b6, .int b7, .ref b8, .int b9, .int b10, .int b11, .int b12, .ref b13, .ref b14, .ref b15, .int b16, .ref b17, .ref b18, .ref b19, .ref b20, .ref b21, .ref b22, .ref b23, .ref b24, .ref b25, .ref b26, .ref b27, .ref b28, .int e1, .ref b30, .ref b31, .int b32, .int b33, .int b34, .int b35, .ref b36, .ref b37, .ref b38, .ref b39, .ref b40, .ref b41, .ref b42, .int b43, .ref b44, .ref b45, .int b46, .ref b47, .ref b48, .ref b49, .ref b50, .ref b51, .int b52, .ref b53, .ref b54, .ref b55])), (b3, .inl (G.2 0, 503, .inl b56)), (b17, .inl (G.2 0, 2, .inl e2)), (b18, .inl (G.2 0, 4820, .inl e3)), (b19, .inl (G.2 0, 520, .inl e4)), (b20, .inl (G.2 0, 9640, .inl e5)), (b21, .inl (G.2 0, 482, .inl e6)), (b22, .inl (G.2 0, 482, .inl e7)), (b23, .inl (G.2 0, 2, .inl e8)), (b24, .inl (G.2 0, 482, .inl e9)), (b25, .inl (G.2 0, 482, .inl e10)), (b26, .inl (G.2 0, 482, .inl e11)), (b27, .inl (G.2 0, 2, .inl e12)), (b28, .inl (G.2 0, 2880, .inl e13))] ∧ (zI e1 0 1) ∧ (zR e2 0 241) ∧ (zR e3 (-1) 240) ∧ (zqa qP e4) ∧ (zqa qC e6) ∧ (zR e7 0 240) ∧ (zR e8 0 241) ∧ (zR e9 0 240) ∧ (zR e12 0 240) ∧ (zqa qE e13)) := by
  refine z_start (by decide +kernel) (Nat.le_of_ble_eq_true rfl) ?_
  intro p e s m below meth c A Z hr hnm hA hP hD hS ls hl
  have Z : zC p s m _ meth c prog_14_method_44_code 5 "TraceMachinesModel" G := Z
  obtain ⟨hx, hb, hml, hown, hts, hK, hN, hlocks⟩ := id Z
  have hl : lv_has ls 5 [(0, .ref b0), (1, .int b1)] := hl
  refine lv_aload_n hx hb d_Model_vague_0 rfl (lv_at hl 0 rfl) ?_
  refine lv_iconst (v := 0) hx hb d_Model_vague_1 (by decide) ?_
  refine va_put (D := G.1) (ci := 12) (v := .int 0) (ty := .int) (C := R_Model) (T := F_Model) (N := 54) hx hb hts i_Model t_Model t_Model_ok n_Model hown hK hP hD hS 0 rfl rfl 0 (by decide) (hts _ q1109) (fun _ h9 => h9) rfl (by decide +kernel) rfl rfl (Nat.le_of_ble_eq_true rfl) d_Model_vague_2 (fun H locs hP hD hS => ?_)
  have hP : va_P G.1 classes [(b0, .inr (12, [.int 0, .ref b3, .ref b4, .ref b5, .ref b6, .int b7, .ref b8, .int b9, .int b10, .int b11, .int b12, .ref b13, .ref b14, .ref b15, .int b16, .ref b17, .ref b18, .ref b19, .ref b20, .ref b21, .ref b22, .ref b23, .ref b24, .ref b25, .ref b26, .ref b27, .ref b28, .int b29, .ref b30, .ref b31, .int b32, .int b33, .int b34, .int b35, .ref b36, .ref b37, .ref b38, .ref b39, .ref b40, .ref b41, .ref b42, .int b43, .ref b44, .ref b45, .int b46, .ref b47, .ref b48, .ref b49, .ref b50, .ref b51, .int b52, .ref b53, .ref b54, .ref b55])), (b3, .inl (G.2 0, 503, .inl b56)), (b17, .inl (G.2 0, 2, .inl b57)), (b18, .inl (G.2 0, 4820, .inl b58)), (b19, .inl (G.2 0, 520, .inl b59)), (b20, .inl (G.2 0, 9640, .inl b60)), (b21, .inl (G.2 0, 482, .inl b61)), (b22, .inl (G.2 0, 482, .inl b62)), (b23, .inl (G.2 0, 2, .inl b63)), (b24, .inl (G.2 0, 482, .inl b64)), (b25, .inl (G.2 0, 482, .inl b65)), (b26, .inl (G.2 0, 482, .inl b66)), (b27, .inl (G.2 0, 2, .inl b67)), (b28, .inl (G.2 0, 2880, .inl b68))] H := hP
  have hD := z_tie hP hD rfl
  refine lv_iload_n hx hb d_Model_vague_5 rfl (lv_at hl 1 rfl) ?_
  refine lv_i2l (v := b1.toInt64) hx hb d_Model_vague_6 rfl ?_
  refine lv_lconst (v := 0) hx hb d_Model_vague_7 (by decide) ?_
  refine lv_lconst (v := 1) hx hb d_Model_vague_8 (by decide) ?_
  refine z_callS (index := 138) (As := [.long b1.toInt64, .long 0, .long 1]) (rest := []) (wr := [(b0, .inr (12, [.int 0, .ref b3, .ref b4, .ref b5, .ref b6, .int b7, .ref b8, .int b9, .int b10, .int b11, .int b12, .ref b13, .ref b14, .ref b15, .int b16, .ref b17, .ref b18, .ref b19, .ref b20, .ref b21, .ref b22, .ref b23, .ref b24, .ref b25, .ref b26, .ref b27, .ref b28, .int b29, .ref b30, .ref b31, .int b32, .int b33, .int b34, .int b35, .ref b36, .ref b37, .ref b38, .ref b39, .ref b40, .ref b41, .ref b42, .int b43, .ref b44, .ref b45, .int b46, .ref b47, .ref b48, .ref b49, .ref b50, .ref b51, .int b52, .ref b53, .ref b54, .ref b55])), (b3, .inl (G.2 0, 503, .inl b56)), (b17, .inl (G.2 0, 2, .inl b57)), (b18, .inl (G.2 0, 4820, .inl b58)), (b19, .inl (G.2 0, 520, .inl b59)), (b20, .inl (G.2 0, 9640, .inl b60)), (b21, .inl (G.2 0, 482, .inl b61)), (b22, .inl (G.2 0, 482, .inl b62)), (b23, .inl (G.2 0, 2, .inl b63)), (b24, .inl (G.2 0, 482, .inl b64)), (b25, .inl (G.2 0, 482, .inl b65)), (b26, .inl (G.2 0, 482, .inl b66)), (b27, .inl (G.2 0, 2, .inl b67)), (b28, .inl (G.2 0, 2880, .inl b68))]) Z (s2_Model_in l G (b1.toInt64) (0) (1)) hl.1 q1281 q1282 q14 q1283 ⟨by decide, by decide, by show _ = some 3; decide +kernel⟩ ⟨Nat.le_of_ble_eq_true rfl, Nat.le_of_ble_eq_true rfl⟩ ⟨Nat.le_of_ble_eq_true rfl, Nat.le_of_ble_eq_true rfl⟩ rfl (Nat.le_of_ble_eq_true rfl) d_Model_vague_9 hP hD hS hA [] [0, 1, 2, 3, 4, 5, 6, 7, 8, 9, 10, 11, 12, 13] rfl rfl rfl rfl (by decide) (fun v w1 H locs hw_1 hP hD hS => ?_)
  rcases hw_1 with ⟨rfl, rfl, hq_2⟩ | ⟨rfl, rfl, hq_3, hq_4⟩ | ⟨rfl, rfl, hq_5, hq_6⟩
  · have hP : va_P G.1 classes [(b0, .inr (12, [.int 0, .ref b3, .ref b4, .ref b5, .ref b6, .int b7, .ref b8, .int b9, .int b10, .int b11, .int b12, .ref b13, .ref b14, .ref b15, .int b16, .ref b17, .ref b18, .ref b19, .ref b20, .ref b21, .ref b22, .ref b23, .ref b24, .ref b25, .ref b26, .ref b27, .ref b28, .int b29, .ref b30, .ref b31, .int b32, .int b33, .int b34, .int b35, .ref b36, .ref b37, .ref b38, .ref b39, .ref b40, .ref b41, .ref b42, .int b43, .ref b44, .ref b45, .int b46, .ref b47, .ref b48, .ref b49, .ref b50, .ref b51, .int b52, .ref b53, .ref b54, .ref b55])), (b3, .inl (G.2 0, 503, .inl b56)), (b17, .inl (G.2 0, 2, .inl b57)), (b18, .inl (G.2 0, 4820, .inl b58)), (b19, .inl (G.2 0, 520, .inl b59)), (b20, .inl (G.2 0, 9640, .inl b60)), (b21, .inl (G.2 0, 482, .inl b61)), (b22, .inl (G.2 0, 482, .inl b62)), (b23, .inl (G.2 0, 2, .inl b63)), (b24, .inl (G.2 0, 482, .inl b64)), (b25, .inl (G.2 0, 482, .inl b65)), (b26, .inl (G.2 0, 482, .inl b66)), (b27, .inl (G.2 0, 2, .inl b67)), (b28, .inl (G.2 0, 2880, .inl b68))] H := hP
    have hD := z_tie hP hD rfl
    try simp only [Int32.toInt_toInt64, ll_0] at hq_2
    have hv_7 : zI b1 (-2147483648) (-1) := by have _a := hq_2; have _b := (zI_all b1); have _c := zcl_0; simp only [Int32.toInt_toInt64] at *; exact ⟨by omega, by omega⟩
    refine W.widen (k := 0) (n := 0) (Nat.le_of_ble_eq_true rfl) (Nat.le_of_ble_eq_true rfl) ?_
    refine lv_if_ne (tgt := 17) hx hb d_Model_vague_12 (by decide) (fun hc => absurd hc (by decide +kernel)) (fun _ => ?_)
    refine lv_iconst (v := (-1)) hx hb d_Model_vague_15 (by decide) ?_
    exact z_iret hx hb hr hlocks hP hD hS (Nat.le_of_ble_eq_true rfl) (Nat.le_of_ble_eq_true rfl) d_Model_vague_16 ⟨(-1), b29, b57, b58, b59, b60, b61, b62, b63, b64, b65, b66, b67, b68, rfl, rfl, hb29, hb57, hb58, hb59, hb61, hb62, hb63, hb64, hb67, hb68⟩
  · have hP : va_P G.1 classes [(b0, .inr (12, [.int 0, .ref b3, .ref b4, .ref b5, .ref b6, .int b7, .ref b8, .int b9, .int b10, .int b11, .int b12, .ref b13, .ref b14, .ref b15, .int b16, .ref b17, .ref b18, .ref b19, .ref b20, .ref b21, .ref b22, .ref b23, .ref b24, .ref b25, .ref b26, .ref b27, .ref b28, .int b29, .ref b30, .ref b31, .int b32, .int b33, .int b34, .int b35, .ref b36, .ref b37, .ref b38, .ref b39, .ref b40, .ref b41, .ref b42, .int b43, .ref b44, .ref b45, .int b46, .ref b47, .ref b48, .ref b49, .ref b50, .ref b51, .int b52, .ref b53, .ref b54, .ref b55])), (b3, .inl (G.2 0, 503, .inl b56)), (b17, .inl (G.2 0, 2, .inl b57)), (b18, .inl (G.2 0, 4820, .inl b58)), (b19, .inl (G.2 0, 520, .inl b59)), (b20, .inl (G.2 0, 9640, .inl b60)), (b21, .inl (G.2 0, 482, .inl b61)), (b22, .inl (G.2 0, 482, .inl b62)), (b23, .inl (G.2 0, 2, .inl b63)), (b24, .inl (G.2 0, 482, .inl b64)), (b25, .inl (G.2 0, 482, .inl b65)), (b26, .inl (G.2 0, 482, .inl b66)), (b27, .inl (G.2 0, 2, .inl b67)), (b28, .inl (G.2 0, 2880, .inl b68))] H := hP
    have hD := z_tie hP hD rfl
    try simp only [Int32.toInt_toInt64, ll_0] at hq_3
    have hv_8 : zI b1 0 2147483647 := by have _a := hq_3; have _b := (zI_all b1); have _c := zcl_0; simp only [Int32.toInt_toInt64] at *; exact ⟨by omega, by omega⟩
    try simp only [Int32.toInt_toInt64, ll_1] at hq_4
    have hv_9 : zI b1 2 2147483647 := by have _a := hq_4; have _b := hv_8; have _c := zcl_1; simp only [Int32.toInt_toInt64] at *; exact ⟨by omega, by omega⟩
    refine W.widen (k := 0) (n := 0) (Nat.le_of_ble_eq_true rfl) (Nat.le_of_ble_eq_true rfl) ?_
    refine lv_if_ne (tgt := 17) hx hb d_Model_vague_12 (by decide) (fun hc => absurd hc (by decide +kernel)) (fun _ => ?_)
    refine lv_iconst (v := (-1)) hx hb d_Model_vague_15 (by decide) ?_
    exact z_iret hx hb hr hlocks hP hD hS (Nat.le_of_ble_eq_true rfl) (Nat.le_of_ble_eq_true rfl) d_Model_vague_16 ⟨(-1), b29, b57, b58, b59, b60, b61, b62, b63, b64, b65, b66, b67, b68, rfl, rfl, hb29, hb57, hb58, hb59, hb61, hb62, hb63, hb64, hb67, hb68⟩
  · have hP : va_P G.1 classes [(b0, .inr (12, [.int 0, .ref b3, .ref b4, .ref b5, .ref b6, .int b7, .ref b8, .int b9, .int b10, .int b11, .int b12, .ref b13, .ref b14, .ref b15, .int b16, .ref b17, .ref b18, .ref b19, .ref b20, .ref b21, .ref b22, .ref b23, .ref b24, .ref b25, .ref b26, .ref b27, .ref b28, .int b29, .ref b30, .ref b31, .int b32, .int b33, .int b34, .int b35, .ref b36, .ref b37, .ref b38, .ref b39, .ref b40, .ref b41, .ref b42, .int b43, .ref b44, .ref b45, .int b46, .ref b47, .ref b48, .ref b49, .ref b50, .ref b51, .int b52, .ref b53, .ref b54, .ref b55])), (b3, .inl (G.2 0, 503, .inl b56)), (b17, .inl (G.2 0, 2, .inl b57)), (b18, .inl (G.2 0, 4820, .inl b58)), (b19, .inl (G.2 0, 520, .inl b59)), (b20, .inl (G.2 0, 9640, .inl b60)), (b21, .inl (G.2 0, 482, .inl b61)), (b22, .inl (G.2 0, 482, .inl b62)), (b23, .inl (G.2 0, 2, .inl b63)), (b24, .inl (G.2 0, 482, .inl b64)), (b25, .inl (G.2 0, 482, .inl b65)), (b26, .inl (G.2 0, 482, .inl b66)), (b27, .inl (G.2 0, 2, .inl b67)), (b28, .inl (G.2 0, 2880, .inl b68))] H := hP
    have hD := z_tie hP hD rfl
    try simp only [Int32.toInt_toInt64, ll_0] at hq_5
    have hv_10 : zI b1 0 2147483647 := by have _a := hq_5; have _b := (zI_all b1); have _c := zcl_0; simp only [Int32.toInt_toInt64] at *; exact ⟨by omega, by omega⟩
    try simp only [Int32.toInt_toInt64, ll_1] at hq_6
    have hv_11 : zI b1 0 1 := by have _a := hq_6; have _b := hv_10; have _c := zcl_1; simp only [Int32.toInt_toInt64] at *; exact ⟨by omega, by omega⟩
    refine W.widen (k := 0) (n := 0) (Nat.le_of_ble_eq_true rfl) (Nat.le_of_ble_eq_true rfl) ?_
    refine lv_if_ne (tgt := 17) hx hb d_Model_vague_12 (by decide) (fun _ => ?_) (fun hc => absurd hc (by decide +kernel))
    refine lv_aload_n hx hb d_Model_vague_17 rfl (lv_at hl 0 rfl) ?_
    refine z_callV (index := 254) (As := []) (rest := []) (wr := []) Z (s1_Model_lay1 l G (b0) (0) (b3) (b4) (b5) (b6) (b7) (b8) (b9) (b10) (b11) (b12) (b13) (b14) (b15) (b16) (b17) (b18) (b19) (b20) (b21) (b22) (b23) (b24) (b25) (b26) (b27) (b28) (b29) (b30) (b31) (b32) (b33) (b34) (b35) (b36) (b37) (b38) (b39) (b40) (b41) (b42) (b43) (b44) (b45) (b46) (b47) (b48) (b49) (b50) (b51) (b52) (b53) (b54) (b55) (b56) (b57) (b58) (b59) (b60) (b61) (b62) (b63) (b64) (b65) (b66) (b67) (b68) hb7 hb9 hb10 hb12 hb16 hb29 hb32 hb43 hb46 hb52 hb56 hb57 hb58 hb59 hb61 hb62 hb63 hb64 hb67 hb68) hl.1 q1356 q1358 qs55 q14 q1359 ⟨by decide, by decide, by show _ = some 0; decide +kernel⟩ ⟨Nat.le_of_ble_eq_true rfl, Nat.le_of_ble_eq_true rfl⟩ ⟨Nat.le_of_ble_eq_true rfl, Nat.le_of_ble_eq_true rfl⟩ rfl (Nat.le_of_ble_eq_true rfl) d_Model_vague_18 hP hD hS hA 0 12 rfl rfl rfl [0, 1, 2, 3, 4, 5, 6, 7, 8, 9, 10, 11, 12, 13] [] rfl rfl rfl rfl (by decide) (fun v w1 H locs hw_12 hP hD hS => ?_)
    refine Exists.elim hw_12 (fun x_13 hz_27 => Exists.elim hz_27 (fun f_14 hz_28 => Exists.elim hz_28 (fun f_15 hz_29 => Exists.elim hz_29 (fun f_16 hz_30 => Exists.elim hz_30 (fun f_17 hz_31 => Exists.elim hz_31 (fun f_18 hz_32 => Exists.elim hz_32 (fun f_19 hz_33 => Exists.elim hz_33 (fun f_20 hz_34 => Exists.elim hz_34 (fun f_21 hz_35 => Exists.elim hz_35 (fun f_22 hz_36 => Exists.elim hz_36 (fun f_23 hz_37 => Exists.elim hz_37 (fun f_24 hz_38 => Exists.elim hz_38 (fun f_25 hz_39 => ?_)))))))))))))
    clear hw_12 hz_27 hz_28 hz_29 hz_30 hz_31 hz_32 hz_33 hz_34 hz_35 hz_36 hz_37 hz_38
    obtain ⟨rfl, rfl, hx_13, hf_14, hf_15, hf_16, hf_18, hf_19, hf_20, hf_21, hf_24, hf_25, hfx_26⟩ := hz_39
    have hP : va_P G.1 classes [(b0, .inr (12, [.int 0, .ref b3, .ref b4, .ref b5, .ref b6, .int b7, .ref b8, .int b9, .int b10, .int b11, .int b12, .ref b13, .ref b14, .ref b15, .int b16, .ref b17, .ref b18, .ref b19, .ref b20, .ref b21, .ref b22, .ref b23, .ref b24, .ref b25, .ref b26, .ref b27, .ref b28, .int x_13, .ref b30, .ref b31, .int b32, .int b33, .int b34, .int b35, .ref b36, .ref b37, .ref b38, .ref b39, .ref b40, .ref b41, .ref b42, .int b43, .ref b44, .ref b45, .int b46, .ref b47, .ref b48, .ref b49, .ref b50, .ref b51, .int b52, .ref b53, .ref b54, .ref b55])), (b3, .inl (G.2 0, 503, .inl b56)), (b17, .inl (G.2 0, 2, .inl f_14)), (b18, .inl (G.2 0, 4820, .inl f_15)), (b19, .inl (G.2 0, 520, .inl f_16)), (b20, .inl (G.2 0, 9640, .inl f_17)), (b21, .inl (G.2 0, 482, .inl f_18)), (b22, .inl (G.2 0, 482, .inl f_19)), (b23, .inl (G.2 0, 2, .inl f_20)), (b24, .inl (G.2 0, 482, .inl f_21)), (b25, .inl (G.2 0, 482, .inl f_22)), (b26, .inl (G.2 0, 482, .inl f_23)), (b27, .inl (G.2 0, 2, .inl f_24)), (b28, .inl (G.2 0, 2880, .inl f_25))] H := hP
    have hD := z_tie hP hD rfl
    refine W.widen (k := 0) (n := 0) (Nat.le_of_ble_eq_true rfl) (Nat.le_of_ble_eq_true rfl) ?_
    refine lv_iconst (v := 0) hx hb d_Model_vague_21 (by decide) ?_
    refine lv_istore_n (lv' := [(2, .int 0), (0, .ref b0), (1, .int b1)]) hx hb d_Model_vague_22 rfl hl (by decide) rfl (fun ls hl => ?_)
    refine lv_iconst (v := 0) hx hb d_Model_vague_23 (by decide) ?_
    refine lv_istore_n (lv' := [(3, .int 0), (2, .int 0), (0, .ref b0), (1, .int b1)]) hx hb d_Model_vague_24 rfl hl (by decide) rfl (fun ls hl => ?_)
    suffices key : ∀ (k_121 : Nat) (y_122 : Int32) (y_123 : Int32) (H : Heap) (locs : List Loc) (ls : Array Slot), (zI y_122 0 240) → (240 : Int) - y_122.toInt < (k_121 : Int) → va_P G.1 classes [(b0, .inr (12, [.int 0, .ref b3, .ref b4, .ref b5, .ref b6, .int b7, .ref b8, .int b9, .int b10, .int b11, .int b12, .ref b13, .ref b14, .ref b15, .int b16, .ref b17, .ref b18, .ref b19, .ref b20, .ref b21, .ref b22, .ref b23, .ref b24, .ref b25, .ref b26, .ref b27, .ref b28, .int x_13, .ref b30, .ref b31, .int b32, .int b33, .int b34, .int b35, .ref b36, .ref b37, .ref b38, .ref b39, .ref b40, .ref b41, .ref b42, .int b43, .ref b44, .ref b45, .int b46, .ref b47, .ref b48, .ref b49, .ref b50, .ref b51, .int b52, .ref b53, .ref b54, .ref b55])), (b3, .inl (G.2 0, 503, .inl b56)), (b17, .inl (G.2 0, 2, .inl f_14)), (b18, .inl (G.2 0, 4820, .inl f_15)), (b19, .inl (G.2 0, 520, .inl f_16)), (b20, .inl (G.2 0, 9640, .inl f_17)), (b21, .inl (G.2 0, 482, .inl f_18)), (b22, .inl (G.2 0, 482, .inl f_19)), (b23, .inl (G.2 0, 2, .inl f_20)), (b24, .inl (G.2 0, 482, .inl f_21)), (b25, .inl (G.2 0, 482, .inl f_22)), (b26, .inl (G.2 0, 482, .inl f_23)), (b27, .inl (G.2 0, 2, .inl f_24)), (b28, .inl (G.2 0, 2880, .inl f_25))] H → va_D A [(b0, .inr (12, [.int 0, .ref b3, .ref b4, .ref b5, .ref b6, .int b7, .ref b8, .int b9, .int b10, .int b11, .int b12, .ref b13, .ref b14, .ref b15, .int b16, .ref b17, .ref b18, .ref b19, .ref b20, .ref b21, .ref b22, .ref b23, .ref b24, .ref b25, .ref b26, .ref b27, .ref b28, .int x_13, .ref b30, .ref b31, .int b32, .int b33, .int b34, .int b35, .ref b36, .ref b37, .ref b38, .ref b39, .ref b40, .ref b41, .ref b42, .int b43, .ref b44, .ref b45, .int b46, .ref b47, .ref b48, .ref b49, .ref b50, .ref b51, .int b52, .ref b53, .ref b54, .ref b55])), (b3, .inl (G.2 0, 503, .inl b56)), (b17, .inl (G.2 0, 2, .inl f_14)), (b18, .inl (G.2 0, 4820, .inl f_15)), (b19, .inl (G.2 0, 520, .inl f_16)), (b20, .inl (G.2 0, 9640, .inl f_17)), (b21, .inl (G.2 0, 482, .inl f_18)), (b22, .inl (G.2 0, 482, .inl f_19)), (b23, .inl (G.2 0, 2, .inl f_20)), (b24, .inl (G.2 0, 482, .inl f_21)), (b25, .inl (G.2 0, 482, .inl f_22)), (b26, .inl (G.2 0, 482, .inl f_23)), (b27, .inl (G.2 0, 2, .inl f_24)), (b28, .inl (G.2 0, 2880, .inl f_25))] → va_S A s.heap H locs → lv_has ls 5 [(3, .int y_122), (2, .int y_123), (0, .ref b0), (1, .int b1)] → W p l e m_s1_Model_vague s m ([.ref b0, .int b1] : List Value).toArray below meth c H locs 0 0 (MQ below (zQ G (fun v w => ∃ (e0 : Int32), ∃ (e1 : Int32), ∃ (e2 : Nat → Int32), ∃ (e3 : Nat → Int32), ∃ (e4 : Nat → Int32), ∃ (e5 : Nat → Int32), ∃ (e6 : Nat → Int32), ∃ (e7 : Nat → Int32), ∃ (e8 : Nat → Int32), ∃ (e9 : Nat → Int32), ∃ (e10 : Nat → Int32), ∃ (e11 : Nat → Int32), ∃ (e12 : Nat → Int32), ∃ (e13 : Nat → Int32), v = some (.int e0) ∧ w = [(b0, .inr (12, [.int 0, .ref b3, .ref b4, .ref b5, .ref b6, .int b7, .ref b8, .int b9, .int b10, .int b11, .int b12, .ref b13, .ref b14, .ref b15, .int b16, .ref b17, .ref b18, .ref b19, .ref b20, .ref b21, .ref b22, .ref b23, .ref b24, .ref b25, .ref b26, .ref b27, .ref b28, .int e1, .ref b30, .ref b31, .int b32, .int b33, .int b34, .int b35, .ref b36, .ref b37, .ref b38, .ref b39, .ref b40, .ref b41, .ref b42, .int b43, .ref b44, .ref b45, .int b46, .ref b47, .ref b48, .ref b49, .ref b50, .ref b51, .int b52, .ref b53, .ref b54, .ref b55])), (b3, .inl (G.2 0, 503, .inl b56)), (b17, .inl (G.2 0, 2, .inl e2)), (b18, .inl (G.2 0, 4820, .inl e3)), (b19, .inl (G.2 0, 520, .inl e4)), (b20, .inl (G.2 0, 9640, .inl e5)), (b21, .inl (G.2 0, 482, .inl e6)), (b22, .inl (G.2 0, 482, .inl e7)), (b23, .inl (G.2 0, 2, .inl e8)), (b24, .inl (G.2 0, 482, .inl e9)), (b25, .inl (G.2 0, 482, .inl e10)), (b26, .inl (G.2 0, 482, .inl e11)), (b27, .inl (G.2 0, 2, .inl e12)), (b28, .inl (G.2 0, 2880, .inl e13))] ∧ (zI e1 0 1) ∧ (zR e2 0 241) ∧ (zR e3 (-1) 240) ∧ (zqa qP e4) ∧ (zqa qC e6) ∧ (zR e7 0 240) ∧ (zR e8 0 241) ∧ (zR e9 0 240) ∧ (zR e12 0 240) ∧ (zqa qE e13)) A) ([.ref b0, .int b1] : List Value).toArray s m_s1_Model_vague.cells m_s1_Model_vague.slots A) (F0 m 25 ls []) by
      exact key 241 (0) (0) _ _ _ (zI.wk (l' := 0) (h' := 240) zc_0 (by decide)) (zm_upi (zI.wk (l' := 0) (h' := 240) zc_0 (by decide)) (by decide)) hP hD hS (lv_sub hl [0, 1, 2, 3] rfl)
    intro k_121
    induction k_121 with
    | zero =>
      intro y_122 y_123 H locs ls hy_122 hmk_121 hP hD hS hl
      exact (zm_up0 hy_122 hmk_121).elim
    | succ k_121 ihk_121 =>
      intro y_122 y_123 H locs ls hy_122 hmk_121 hP hD hS hl
      refine lv_iload_n hx hb d_Model_vague_25 rfl (lv_at hl 0 rfl) ?_
      refine lv_aload_n hx hb d_Model_vague_26 rfl (lv_at hl 2 rfl) ?_
      refine va_get (D := G.1) (ci := 12) (v := .ref b27) (C := R_Model) (T := F_Model) (N := 54) hx hb hts i_Model hown hK hP 0 rfl rfl 25 (by decide) (hts _ q1134) (fun _ h9 => h9) rfl d_Model_vague_27 ?_
      refine lv_iconst (v := 0) hx hb d_Model_vague_30 (by decide) ?_
      refine va_iald hx hb hK hP 12 0 rfl rfl (i := 0) (z_in rfl) d_Model_vague_31 ?_
      refine lv_topi (fun v_124 ev_124 => ?_)
      have hv_124 : zI v_124 0 240 := (hf_24 _).eq ev_124
      refine lv_icmp_ge (tgt := 95) hx hb d_Model_vague_32 (by decide) (fun hc_125 => ?_) (fun hc_125 => ?_)
      · have _nhc_125 := hc_125
        have ni_126 := (fa_le _ _).mp hc_125
        refine lv_iload_n hx hb d_Model_vague_95 rfl (lv_at hl 1 rfl) ?_
        exact z_iret hx hb hr hlocks hP hD hS (Nat.le_of_ble_eq_true rfl) (Nat.le_of_ble_eq_true rfl) d_Model_vague_96 ⟨y_123, x_13, f_14, f_15, f_16, f_17, f_18, f_19, f_20, f_21, f_22, f_23, f_24, f_25, rfl, rfl, hx_13, hf_14, hf_15, hf_16, hf_18, hf_19, hf_20, hf_21, hf_24, hf_25⟩
      · have _nhc_125 := hc_125
        have ni_127 := (fa_lt _ _).mp (zi_nle hc_125)
        have hv_128 : zI y_122 0 239 := zI.lt_l hy_122 hv_124 (zi_nle hc_125) (by decide)
        have hv_129 : zI v_124 1 240 := zI.lt_r hy_122 hv_124 (zi_nle hc_125) (by decide)
        refine lv_iload_n hx hb d_Model_vague_35 rfl (lv_at hl 0 rfl) ?_
        refine lv_iconst (v := 1) hx hb d_Model_vague_36 (by decide) ?_
        refine lv_iadd hx hb d_Model_vague_37 ?_
        refine lv_topi (fun v_130 ev_130 => ?_)
        obtain ⟨qv_130, hv_130⟩ := zI_add (l := 1) (h := 240) hv_128 zc_1 ev_130 (by decide)
        rw [li_1] at qv_130
        refine lv_istore (lv' := [(4, .int v_130), (3, .int y_122), (2, .int y_123), (0, .ref b0), (1, .int b1)]) hx hb d_Model_vague_38 hl (by decide) rfl (fun ls hl => ?_)
        suffices key : ∀ (k_167 : Nat) (y_168 : Int32) (y_169 : Int32) (H : Heap) (locs : List Loc) (ls : Array Slot), (zI y_168 1 240) → (240 : Int) - y_168.toInt < (k_167 : Int) → va_P G.1 classes [(b0, .inr (12, [.int 0, .ref b3, .ref b4, .ref b5, .ref b6, .int b7, .ref b8, .int b9, .int b10, .int b11, .int b12, .ref b13, .ref b14, .ref b15, .int b16, .ref b17, .ref b18, .ref b19, .ref b20, .ref b21, .ref b22, .ref b23, .ref b24, .ref b25, .ref b26, .ref b27, .ref b28, .int x_13, .ref b30, .ref b31, .int b32, .int b33, .int b34, .int b35, .ref b36, .ref b37, .ref b38, .ref b39, .ref b40, .ref b41, .ref b42, .int b43, .ref b44, .ref b45, .int b46, .ref b47, .ref b48, .ref b49, .ref b50, .ref b51, .int b52, .ref b53, .ref b54, .ref b55])), (b3, .inl (G.2 0, 503, .inl b56)), (b17, .inl (G.2 0, 2, .inl f_14)), (b18, .inl (G.2 0, 4820, .inl f_15)), (b19, .inl (G.2 0, 520, .inl f_16)), (b20, .inl (G.2 0, 9640, .inl f_17)), (b21, .inl (G.2 0, 482, .inl f_18)), (b22, .inl (G.2 0, 482, .inl f_19)), (b23, .inl (G.2 0, 2, .inl f_20)), (b24, .inl (G.2 0, 482, .inl f_21)), (b25, .inl (G.2 0, 482, .inl f_22)), (b26, .inl (G.2 0, 482, .inl f_23)), (b27, .inl (G.2 0, 2, .inl f_24)), (b28, .inl (G.2 0, 2880, .inl f_25))] H → va_D A [(b0, .inr (12, [.int 0, .ref b3, .ref b4, .ref b5, .ref b6, .int b7, .ref b8, .int b9, .int b10, .int b11, .int b12, .ref b13, .ref b14, .ref b15, .int b16, .ref b17, .ref b18, .ref b19, .ref b20, .ref b21, .ref b22, .ref b23, .ref b24, .ref b25, .ref b26, .ref b27, .ref b28, .int x_13, .ref b30, .ref b31, .int b32, .int b33, .int b34, .int b35, .ref b36, .ref b37, .ref b38, .ref b39, .ref b40, .ref b41, .ref b42, .int b43, .ref b44, .ref b45, .int b46, .ref b47, .ref b48, .ref b49, .ref b50, .ref b51, .int b52, .ref b53, .ref b54, .ref b55])), (b3, .inl (G.2 0, 503, .inl b56)), (b17, .inl (G.2 0, 2, .inl f_14)), (b18, .inl (G.2 0, 4820, .inl f_15)), (b19, .inl (G.2 0, 520, .inl f_16)), (b20, .inl (G.2 0, 9640, .inl f_17)), (b21, .inl (G.2 0, 482, .inl f_18)), (b22, .inl (G.2 0, 482, .inl f_19)), (b23, .inl (G.2 0, 2, .inl f_20)), (b24, .inl (G.2 0, 482, .inl f_21)), (b25, .inl (G.2 0, 482, .inl f_22)), (b26, .inl (G.2 0, 482, .inl f_23)), (b27, .inl (G.2 0, 2, .inl f_24)), (b28, .inl (G.2 0, 2880, .inl f_25))] → va_S A s.heap H locs → lv_has ls 5 [(4, .int y_168), (3, .int y_122), (2, .int y_169), (0, .ref b0), (1, .int b1)] → W p l e m_s1_Model_vague s m ([.ref b0, .int b1] : List Value).toArray below meth c H locs 0 0 (MQ below (zQ G (fun v w => ∃ (e0 : Int32), ∃ (e1 : Int32), ∃ (e2 : Nat → Int32), ∃ (e3 : Nat → Int32), ∃ (e4 : Nat → Int32), ∃ (e5 : Nat → Int32), ∃ (e6 : Nat → Int32), ∃ (e7 : Nat → Int32), ∃ (e8 : Nat → Int32), ∃ (e9 : Nat → Int32), ∃ (e10 : Nat → Int32), ∃ (e11 : Nat → Int32), ∃ (e12 : Nat → Int32), ∃ (e13 : Nat → Int32), v = some (.int e0) ∧ w = [(b0, .inr (12, [.int 0, .ref b3, .ref b4, .ref b5, .ref b6, .int b7, .ref b8, .int b9, .int b10, .int b11, .int b12, .ref b13, .ref b14, .ref b15, .int b16, .ref b17, .ref b18, .ref b19, .ref b20, .ref b21, .ref b22, .ref b23, .ref b24, .ref b25, .ref b26, .ref b27, .ref b28, .int e1, .ref b30, .ref b31, .int b32, .int b33, .int b34, .int b35, .ref b36, .ref b37, .ref b38, .ref b39, .ref b40, .ref b41, .ref b42, .int b43, .ref b44, .ref b45, .int b46, .ref b47, .ref b48, .ref b49, .ref b50, .ref b51, .int b52, .ref b53, .ref b54, .ref b55])), (b3, .inl (G.2 0, 503, .inl b56)), (b17, .inl (G.2 0, 2, .inl e2)), (b18, .inl (G.2 0, 4820, .inl e3)), (b19, .inl (G.2 0, 520, .inl e4)), (b20, .inl (G.2 0, 9640, .inl e5)), (b21, .inl (G.2 0, 482, .inl e6)), (b22, .inl (G.2 0, 482, .inl e7)), (b23, .inl (G.2 0, 2, .inl e8)), (b24, .inl (G.2 0, 482, .inl e9)), (b25, .inl (G.2 0, 482, .inl e10)), (b26, .inl (G.2 0, 482, .inl e11)), (b27, .inl (G.2 0, 2, .inl e12)), (b28, .inl (G.2 0, 2880, .inl e13))] ∧ (zI e1 0 1) ∧ (zR e2 0 241) ∧ (zR e3 (-1) 240) ∧ (zqa qP e4) ∧ (zqa qC e6) ∧ (zR e7 0 240) ∧ (zR e8 0 241) ∧ (zR e9 0 240) ∧ (zR e12 0 240) ∧ (zqa qE e13)) A) ([.ref b0, .int b1] : List Value).toArray s m_s1_Model_vague.cells m_s1_Model_vague.slots A) (F0 m 40 ls []) by
          exact key 240 (v_130) (y_123) _ _ _ hv_130 (zm_upi hv_130 (by decide)) hP hD hS (lv_sub hl [0, 1, 2, 3, 4] rfl)
        intro k_167
        induction k_167 with
        | zero =>
          intro y_168 y_169 H locs ls hy_168 hmk_167 hP hD hS hl
          exact (zm_up0 hy_168 hmk_167).elim
        | succ k_167 ihk_167 =>
          intro y_168 y_169 H locs ls hy_168 hmk_167 hP hD hS hl
          refine lv_iload hx hb d_Model_vague_40 (lv_at hl 0 rfl) ?_
          refine lv_aload_n hx hb d_Model_vague_42 rfl (lv_at hl 3 rfl) ?_
          refine va_get (D := G.1) (ci := 12) (v := .ref b27) (C := R_Model) (T := F_Model) (N := 54) hx hb hts i_Model hown hK hP 0 rfl rfl 25 (by decide) (hts _ q1134) (fun _ h9 => h9) rfl d_Model_vague_43 ?_
          refine lv_iconst (v := 0) hx hb d_Model_vague_46 (by decide) ?_
          refine va_iald hx hb hK hP 12 0 rfl rfl (i := 0) (z_in rfl) d_Model_vague_47 ?_
          refine lv_topi (fun v_170 ev_170 => ?_)
          obtain rfl : v_124 = v_170 := ev_124.trans ev_170.symm
          refine lv_icmp_ge (tgt := 89) hx hb d_Model_vague_48 (by decide) (fun hc_171 => ?_) (fun hc_171 => ?_)
          · have _nhc_171 := hc_171
            have ni_172 := (fa_le _ _).mp hc_171
            obtain ⟨v_173, ev_173⟩ : ∃ z : Int32, z = y_122 + 1 := ⟨_, rfl⟩
            obtain ⟨qv_173, hv_173⟩ := zI_add (l := 1) (h := 240) hv_128 zc_1 ev_173 (by decide)
            rw [li_1] at qv_173
            refine lv_iinc (v := v_173) (lv' := [(3, .int v_173), (4, .int y_168), (2, .int y_169), (0, .ref b0), (1, .int b1)]) hx hb d_Model_vague_89 hl (k := 1) rfl (by rw [ev_173]; rfl) (by decide) rfl (fun ls hl => ?_)
            refine lv_goto (tgt := 25) hx hb d_Model_vague_92 (by decide) ?_
            exact ihk_121 (v_173) (y_169) _ _ _ (zI.wk (l' := 0) (h' := 240) hv_173 (by decide)) (zm_up qv_173 hmk_121 (by decide)) hP hD hS (lv_sub hl [0, 2, 3, 4] rfl)
          · have _nhc_171 := hc_171
            have ni_174 := (fa_lt _ _).mp (zi_nle hc_171)
            have hv_175 : zI y_168 1 239 := zI.lt_l hy_168 hv_129 (zi_nle hc_171) (by decide)
            have hv_176 : zI v_124 2 240 := zI.lt_r hy_168 hv_129 (zi_nle hc_171) (by decide)
            refine lv_iload_n hx hb d_Model_vague_51 rfl (lv_at hl 2 rfl) ?_
            refine lv_aload_n hx hb d_Model_vague_52 rfl (lv_at hl 3 rfl) ?_
            refine lv_iload_n hx hb d_Model_vague_53 rfl (lv_at hl 1 rfl) ?_
            refine lv_iload hx hb d_Model_vague_54 (lv_at hl 0 rfl) ?_
            refine z_callV (index := 265) (As := [.int y_122, .int y_168]) (rest := [.int y_169]) (wr := [(b3, .inl (G.2 0, 503, .inl b56)), (b17, .inl (G.2 0, 2, .inl f_14)), (b18, .inl (G.2 0, 4820, .inl f_15)), (b19, .inl (G.2 0, 520, .inl f_16)), (b20, .inl (G.2 0, 9640, .inl f_17)), (b21, .inl (G.2 0, 482, .inl f_18)), (b22, .inl (G.2 0, 482, .inl f_19)), (b23, .inl (G.2 0, 2, .inl f_20)), (b24, .inl (G.2 0, 482, .inl f_21)), (b25, .inl (G.2 0, 482, .inl f_22)), (b26, .inl (G.2 0, 482, .inl f_23)), (b27, .inl (G.2 0, 2, .inl f_24))]) Z (s2_Model_areTwo l G (b0) (y_122) (y_168) (0) (b3) (b4) (b5) (b6) (b7) (b8) (b9) (b10) (b11) (b12) (b13) (b14) (b15) (b16) (b17) (b18) (b19) (b20) (b21) (b22) (b23) (b24) (b25) (b26) (b27) (b28) (x_13) (b30) (b31) (b32) (b33) (b34) (b35) (b36) (b37) (b38) (b39) (b40) (b41) (b42) (b43) (b44) (b45) (b46) (b47) (b48) (b49) (b50) (b51) (b52) (b53) (b54) (b55) (f_25) hv_128 (zI.wk (l' := 0) (h' := 239) hv_175 (by decide)) hb7 hb9 hb10 hb12 hb16 hx_13 hb32 hb43 hb46 hb52 hf_25) hl.1 q1437 q1439 qs72 q14 q1440 ⟨by decide, by decide, by show _ = some 2; decide +kernel⟩ ⟨Nat.le_of_ble_eq_true rfl, Nat.le_of_ble_eq_true rfl⟩ ⟨Nat.le_of_ble_eq_true rfl, Nat.le_of_ble_eq_true rfl⟩ rfl (Nat.le_of_ble_eq_true rfl) d_Model_vague_56 hP hD hS hA 0 12 rfl rfl rfl [0, 13] [1, 2, 3, 4, 5, 6, 7, 8, 9, 10, 11, 12] rfl rfl rfl rfl (by decide) (fun v w1 H locs hw_177 hP hD hS => ?_)
            obtain ⟨x_178, rfl, rfl, hx_178⟩ := hw_177
            have hP : va_P G.1 classes [(b3, .inl (G.2 0, 503, .inl b56)), (b17, .inl (G.2 0, 2, .inl f_14)), (b18, .inl (G.2 0, 4820, .inl f_15)), (b19, .inl (G.2 0, 520, .inl f_16)), (b20, .inl (G.2 0, 9640, .inl f_17)), (b21, .inl (G.2 0, 482, .inl f_18)), (b22, .inl (G.2 0, 482, .inl f_19)), (b23, .inl (G.2 0, 2, .inl f_20)), (b24, .inl (G.2 0, 482, .inl f_21)), (b25, .inl (G.2 0, 482, .inl f_22)), (b26, .inl (G.2 0, 482, .inl f_23)), (b27, .inl (G.2 0, 2, .inl f_24)), (b0, .inr (12, [.int 0, .ref b3, .ref b4, .ref b5, .ref b6, .int b7, .ref b8, .int b9, .int b10, .int b11, .int b12, .ref b13, .ref b14, .ref b15, .int b16, .ref b17, .ref b18, .ref b19, .ref b20, .ref b21, .ref b22, .ref b23, .ref b24, .ref b25, .ref b26, .ref b27, .ref b28, .int x_13, .ref b30, .ref b31, .int b32, .int b33, .int b34, .int b35, .ref b36, .ref b37, .ref b38, .ref b39, .ref b40, .ref b41, .ref b42, .int b43, .ref b44, .ref b45, .int b46, .ref b47, .ref b48, .ref b49, .ref b50, .ref b51, .int b52, .ref b53, .ref b54, .ref b55])), (b28, .inl (G.2 0, 2880, .inl f_25))] H := hP
            have hD := z_tie hP hD rfl
            refine W.widen (k := 0) (n := 0) (Nat.le_of_ble_eq_true rfl) (Nat.le_of_ble_eq_true rfl) ?_
            refine lv_if_eq (tgt := 80) hx hb d_Model_vague_59 (by decide) (fun hc_179 => ?_) (fun hc_179 => ?_)
            · have _nhc_179 := hc_179
              have ni_180 := (fa_eq _ _).mp hc_179
              rw [li_0] at ni_180
              have hv_181 : zI x_178 0 0 := zI.eq_l hx_178 zc_0 hc_179
              refine lv_iconst (v := 0) hx hb d_Model_vague_80 (by decide) ?_
              refine lv_iadd hx hb d_Model_vague_81 ?_
              refine lv_topi (fun v_182 ev_182 => ?_)
              obtain ⟨qv_182, hv_182⟩ := zI_add (l := -2147483648) (h := 2147483647) (zI_all y_169) zc_0 ev_182 (by decide)
              rw [li_0] at qv_182
              refine lv_istore_n (lv' := [(2, .int v_182), (4, .int y_168), (3, .int y_122), (0, .ref b0), (1, .int b1)]) hx hb d_Model_vague_82 rfl hl (by decide) rfl (fun ls hl => ?_)
              obtain ⟨v_183, ev_183⟩ : ∃ z : Int32, z = y_168 + 1 := ⟨_, rfl⟩
              obtain ⟨qv_183, hv_183⟩ := zI_add (l := 2) (h := 240) hv_175 zc_1 ev_183 (by decide)
              rw [li_1] at qv_183
              refine lv_iinc (v := v_183) (lv' := [(4, .int v_183), (2, .int v_182), (3, .int y_122), (0, .ref b0), (1, .int b1)]) hx hb d_Model_vague_83 hl (k := 1) rfl (by rw [ev_183]; rfl) (by decide) rfl (fun ls hl => ?_)
              refine lv_goto (tgt := 40) hx hb d_Model_vague_86 (by decide) ?_
              exact ihk_167 (v_183) (v_182) _ _ _ (zI.wk (l' := 1) (h' := 240) hv_183 (by decide)) (zm_up qv_183 hmk_167 (by decide)) (hP.sub [12, 0, 1, 2, 3, 4, 5, 6, 7, 8, 9, 10, 11, 13] rfl) (hD.sub [12, 0, 1, 2, 3, 4, 5, 6, 7, 8, 9, 10, 11, 13] (by decide) rfl) hS (lv_sub hl [0, 2, 1, 3, 4] rfl)
            · have _nhc_179 := hc_179
              have ni_184 : ¬ (x_178 : Int32).toInt = (0 : Int32).toInt := fun z => hc_179 ((fa_eq _ _).mpr z)
              simp only [li_0] at ni_184
              have hv_185 : zI x_178 1 1 := zI.ne_lo hx_178 zc_0 hc_179 (by decide)
              refine lv_iload_n hx hb d_Model_vague_62 rfl (lv_at hl 4 rfl) ?_
              refine lv_if_eq (tgt := 76) hx hb d_Model_vague_63 (by decide) (fun hc_186 => ?_) (fun hc_186 => ?_)
              · have _nhc_186 := hc_186
                have ni_187 := (fa_eq _ _).mp hc_186
                rw [li_0] at ni_187
                have hv_188 : zI b1 0 0 := zI.eq_l hv_11 zc_0 hc_186
                refine lv_iconst (v := 1) hx hb d_Model_vague_76 (by decide) ?_
                refine lv_goto (tgt := 81) hx hb d_Model_vague_77 (by decide) ?_
                refine lv_iadd hx hb d_Model_vague_81 ?_
                refine lv_topi (fun v_189 ev_189 => ?_)
                refine lv_istore_n (lv' := [(2, .int v_189), (4, .int y_168), (3, .int y_122), (0, .ref b0), (1, .int b1)]) hx hb d_Model_vague_82 rfl hl (by decide) rfl (fun ls hl => ?_)
                obtain ⟨v_190, ev_190⟩ : ∃ z : Int32, z = y_168 + 1 := ⟨_, rfl⟩
                obtain ⟨qv_190, hv_190⟩ := zI_add (l := 2) (h := 240) hv_175 zc_1 ev_190 (by decide)
                rw [li_1] at qv_190
                refine lv_iinc (v := v_190) (lv' := [(4, .int v_190), (2, .int v_189), (3, .int y_122), (0, .ref b0), (1, .int b1)]) hx hb d_Model_vague_83 hl (k := 1) rfl (by rw [ev_190]; rfl) (by decide) rfl (fun ls hl => ?_)
                refine lv_goto (tgt := 40) hx hb d_Model_vague_86 (by decide) ?_
                exact ihk_167 (v_190) (v_189) _ _ _ (zI.wk (l' := 1) (h' := 240) hv_190 (by decide)) (zm_up qv_190 hmk_167 (by decide)) (hP.sub [12, 0, 1, 2, 3, 4, 5, 6, 7, 8, 9, 10, 11, 13] rfl) (hD.sub [12, 0, 1, 2, 3, 4, 5, 6, 7, 8, 9, 10, 11, 13] (by decide) rfl) hS (lv_sub hl [0, 2, 1, 3, 4] rfl)
              · have _nhc_186 := hc_186
                have ni_191 : ¬ (b1 : Int32).toInt = (0 : Int32).toInt := fun z => hc_186 ((fa_eq _ _).mpr z)
                simp only [li_0] at ni_191
                have hv_192 : zI b1 1 1 := zI.ne_lo hv_11 zc_0 hc_186 (by decide)
                refine lv_aload_n hx hb d_Model_vague_66 rfl (lv_at hl 3 rfl) ?_
                refine lv_iload_n hx hb d_Model_vague_67 rfl (lv_at hl 1 rfl) ?_
                refine lv_iload hx hb d_Model_vague_68 (lv_at hl 0 rfl) ?_
                refine z_callV (index := 268) (As := [.int y_122, .int y_168]) (rest := [.int y_169]) (wr := [(b17, .inl (G.2 0, 2, .inl f_14)), (b18, .inl (G.2 0, 4820, .inl f_15)), (b19, .inl (G.2 0, 520, .inl f_16)), (b20, .inl (G.2 0, 9640, .inl f_17)), (b21, .inl (G.2 0, 482, .inl f_18)), (b22, .inl (G.2 0, 482, .inl f_19)), (b23, .inl (G.2 0, 2, .inl f_20)), (b24, .inl (G.2 0, 482, .inl f_21)), (b25, .inl (G.2 0, 482, .inl f_22)), (b26, .inl (G.2 0, 482, .inl f_23)), (b27, .inl (G.2 0, 2, .inl f_24))]) Z (s2_Model_haveCommon l G (b0) (y_122) (y_168) (0) (b3) (b4) (b5) (b6) (b7) (b8) (b9) (b10) (b11) (b12) (b13) (b14) (b15) (b16) (b17) (b18) (b19) (b20) (b21) (b22) (b23) (b24) (b25) (b26) (b27) (b28) (x_13) (b30) (b31) (b32) (b33) (b34) (b35) (b36) (b37) (b38) (b39) (b40) (b41) (b42) (b43) (b44) (b45) (b46) (b47) (b48) (b49) (b50) (b51) (b52) (b53) (b54) (b55) (b56) (f_25) hv_128 (zI.wk (l' := 0) (h' := 239) hv_175 (by decide)) hb7 hb9 hb10 hb12 hb16 hx_13 hb32 hb43 hb46 hb52 hb56 hf_25) hl.1 q1441 q1443 qs73 q14 q1444 ⟨by decide, by decide, by show _ = some 2; decide +kernel⟩ ⟨Nat.le_of_ble_eq_true rfl, Nat.le_of_ble_eq_true rfl⟩ ⟨Nat.le_of_ble_eq_true rfl, Nat.le_of_ble_eq_true rfl⟩ rfl (Nat.le_of_ble_eq_true rfl) d_Model_vague_70 hP hD hS hA 12 12 rfl rfl rfl [12, 0, 13] [1, 2, 3, 4, 5, 6, 7, 8, 9, 10, 11] rfl rfl rfl rfl (by decide) (fun v w1 H locs hw_193 hP hD hS => ?_)
                obtain ⟨x_194, rfl, rfl, hx_194⟩ := hw_193
                have hP : va_P G.1 classes [(b17, .inl (G.2 0, 2, .inl f_14)), (b18, .inl (G.2 0, 4820, .inl f_15)), (b19, .inl (G.2 0, 520, .inl f_16)), (b20, .inl (G.2 0, 9640, .inl f_17)), (b21, .inl (G.2 0, 482, .inl f_18)), (b22, .inl (G.2 0, 482, .inl f_19)), (b23, .inl (G.2 0, 2, .inl f_20)), (b24, .inl (G.2 0, 482, .inl f_21)), (b25, .inl (G.2 0, 482, .inl f_22)), (b26, .inl (G.2 0, 482, .inl f_23)), (b27, .inl (G.2 0, 2, .inl f_24)), (b0, .inr (12, [.int 0, .ref b3, .ref b4, .ref b5, .ref b6, .int b7, .ref b8, .int b9, .int b10, .int b11, .int b12, .ref b13, .ref b14, .ref b15, .int b16, .ref b17, .ref b18, .ref b19, .ref b20, .ref b21, .ref b22, .ref b23, .ref b24, .ref b25, .ref b26, .ref b27, .ref b28, .int x_13, .ref b30, .ref b31, .int b32, .int b33, .int b34, .int b35, .ref b36, .ref b37, .ref b38, .ref b39, .ref b40, .ref b41, .ref b42, .int b43, .ref b44, .ref b45, .int b46, .ref b47, .ref b48, .ref b49, .ref b50, .ref b51, .int b52, .ref b53, .ref b54, .ref b55])), (b3, .inl (G.2 0, 503, .inl b56)), (b28, .inl (G.2 0, 2880, .inl f_25))] H := hP
                have hD := z_tie hP hD rfl
                refine W.widen (k := 0) (n := 0) (Nat.le_of_ble_eq_true rfl) (Nat.le_of_ble_eq_true rfl) ?_
                refine lv_if_eq (tgt := 80) hx hb d_Model_vague_73 (by decide) (fun hc_195 => ?_) (fun hc_195 => ?_)
                · have _nhc_195 := hc_195
                  have ni_196 := (fa_eq _ _).mp hc_195
                  rw [li_0] at ni_196
                  have hv_197 : zI x_194 0 0 := zI.eq_l hx_194 zc_0 hc_195
                  refine lv_iconst (v := 0) hx hb d_Model_vague_80 (by decide) ?_
                  refine lv_iadd hx hb d_Model_vague_81 ?_
                  refine lv_topi (fun v_198 ev_198 => ?_)
                  obtain ⟨qv_198, hv_198⟩ := zI_add (l := -2147483648) (h := 2147483647) (zI_all y_169) zc_0 ev_198 (by decide)
                  rw [li_0] at qv_198
                  refine lv_istore_n (lv' := [(2, .int v_198), (4, .int y_168), (3, .int y_122), (0, .ref b0), (1, .int b1)]) hx hb d_Model_vague_82 rfl hl (by decide) rfl (fun ls hl => ?_)
                  obtain ⟨v_199, ev_199⟩ : ∃ z : Int32, z = y_168 + 1 := ⟨_, rfl⟩
                  obtain ⟨qv_199, hv_199⟩ := zI_add (l := 2) (h := 240) hv_175 zc_1 ev_199 (by decide)
                  rw [li_1] at qv_199
                  refine lv_iinc (v := v_199) (lv' := [(4, .int v_199), (2, .int v_198), (3, .int y_122), (0, .ref b0), (1, .int b1)]) hx hb d_Model_vague_83 hl (k := 1) rfl (by rw [ev_199]; rfl) (by decide) rfl (fun ls hl => ?_)
                  refine lv_goto (tgt := 40) hx hb d_Model_vague_86 (by decide) ?_
                  exact ihk_167 (v_199) (v_198) _ _ _ (zI.wk (l' := 1) (h' := 240) hv_199 (by decide)) (zm_up qv_199 hmk_167 (by decide)) (hP.sub [11, 12, 0, 1, 2, 3, 4, 5, 6, 7, 8, 9, 10, 13] rfl) (hD.sub [11, 12, 0, 1, 2, 3, 4, 5, 6, 7, 8, 9, 10, 13] (by decide) rfl) hS (lv_sub hl [0, 2, 1, 3, 4] rfl)
                · have _nhc_195 := hc_195
                  have ni_200 : ¬ (x_194 : Int32).toInt = (0 : Int32).toInt := fun z => hc_195 ((fa_eq _ _).mpr z)
                  simp only [li_0] at ni_200
                  have hv_201 : zI x_194 1 1 := zI.ne_lo hx_194 zc_0 hc_195 (by decide)
                  refine lv_iconst (v := 1) hx hb d_Model_vague_76 (by decide) ?_
                  refine lv_goto (tgt := 81) hx hb d_Model_vague_77 (by decide) ?_
                  refine lv_iadd hx hb d_Model_vague_81 ?_
                  refine lv_topi (fun v_202 ev_202 => ?_)
                  refine lv_istore_n (lv' := [(2, .int v_202), (4, .int y_168), (3, .int y_122), (0, .ref b0), (1, .int b1)]) hx hb d_Model_vague_82 rfl hl (by decide) rfl (fun ls hl => ?_)
                  obtain ⟨v_203, ev_203⟩ : ∃ z : Int32, z = y_168 + 1 := ⟨_, rfl⟩
                  obtain ⟨qv_203, hv_203⟩ := zI_add (l := 2) (h := 240) hv_175 zc_1 ev_203 (by decide)
                  rw [li_1] at qv_203
                  refine lv_iinc (v := v_203) (lv' := [(4, .int v_203), (2, .int v_202), (3, .int y_122), (0, .ref b0), (1, .int b1)]) hx hb d_Model_vague_83 hl (k := 1) rfl (by rw [ev_203]; rfl) (by decide) rfl (fun ls hl => ?_)
                  refine lv_goto (tgt := 40) hx hb d_Model_vague_86 (by decide) ?_
                  exact ihk_167 (v_203) (v_202) _ _ _ (zI.wk (l' := 1) (h' := 240) hv_203 (by decide)) (zm_up qv_203 hmk_167 (by decide)) (hP.sub [11, 12, 0, 1, 2, 3, 4, 5, 6, 7, 8, 9, 10, 13] rfl) (hD.sub [11, 12, 0, 1, 2, 3, 4, 5, 6, 7, 8, 9, 10, 13] (by decide) rfl) hS (lv_sub hl [0, 2, 1, 3, 4] rfl)
theorem d_Model_count_0 : decode prog_14_method_96_code 0 = .ok (.aload_n 0, 1) := by decide +kernel
theorem d_Model_count_1 : decode prog_14_method_96_code 1 = .ok (.iconst 0, 1) := by decide +kernel
theorem d_Model_count_2 : decode prog_14_method_96_code 2 = .ok (.putfield 1, 3) := by decide +kernel
theorem d_Model_count_5 : decode prog_14_method_96_code 5 = .ok (.aload_n 0, 1) := by decide +kernel
theorem d_Model_count_6 : decode prog_14_method_96_code 6 = .ok (.invokevirtual 254, 3) := by decide +kernel
theorem d_Model_count_9 : decode prog_14_method_96_code 9 = .ok (.iload_n 1, 1) := by decide +kernel
theorem d_Model_count_10 : decode prog_14_method_96_code 10 = .ok (.tableswitch 129 0 9 #[54, 59, 64, 82, 89, 96, 101, 110, 119, 124], 54) := by decide +kernel
theorem d_Model_count_64 : decode prog_14_method_96_code 64 = .ok (.aload_n 0, 1) := by decide +kernel
theorem d_Model_count_65 : decode prog_14_method_96_code 65 = .ok (.invokevirtual 134, 3) := by decide +kernel
theorem d_Model_count_68 : decode prog_14_method_96_code 68 = .ok (.ireturn, 1) := by decide +kernel
theorem d_Model_count_69 : decode prog_14_method_96_code 69 = .ok (.aload_n 0, 1) := by decide +kernel
theorem d_Model_count_70 : decode prog_14_method_96_code 70 = .ok (.invokevirtual 421, 3) := by decide +kernel
theorem d_Model_count_73 : decode prog_14_method_96_code 73 = .ok (.ireturn, 1) := by decide +kernel
theorem d_Model_count_74 : decode prog_14_method_96_code 74 = .ok (.aload_n 0, 1) := by decide +kernel
theorem d_Model_count_75 : decode prog_14_method_96_code 75 = .ok (.invokevirtual 134, 3) := by decide +kernel
theorem d_Model_count_78 : decode prog_14_method_96_code 78 = .ok (.ifCond .ne 7, 3) := by decide +kernel
theorem d_Model_count_81 : decode prog_14_method_96_code 81 = .ok (.iconst 0, 1) := by decide +kernel
theorem d_Model_count_82 : decode prog_14_method_96_code 82 = .ok (.goto 9, 3) := by decide +kernel
theorem d_Model_count_85 : decode prog_14_method_96_code 85 = .ok (.aload_n 0, 1) := by decide +kernel
theorem d_Model_count_86 : decode prog_14_method_96_code 86 = .ok (.getfield 40, 3) := by decide +kernel
theorem d_Model_count_89 : decode prog_14_method_96_code 89 = .ok (.iconst 0, 1) := by decide +kernel
theorem d_Model_count_90 : decode prog_14_method_96_code 90 = .ok (.iaload, 1) := by decide +kernel
theorem d_Model_count_91 : decode prog_14_method_96_code 91 = .ok (.ireturn, 1) := by decide +kernel
theorem d_Model_count_92 : decode prog_14_method_96_code 92 = .ok (.aload_n 0, 1) := by decide +kernel
theorem d_Model_count_93 : decode prog_14_method_96_code 93 = .ok (.getfield 58, 3) := by decide +kernel
theorem d_Model_count_96 : decode prog_14_method_96_code 96 = .ok (.iconst 0, 1) := by decide +kernel
theorem d_Model_count_97 : decode prog_14_method_96_code 97 = .ok (.iaload, 1) := by decide +kernel
theorem d_Model_count_98 : decode prog_14_method_96_code 98 = .ok (.ireturn, 1) := by decide +kernel
theorem d_Model_count_99 : decode prog_14_method_96_code 99 = .ok (.aload_n 0, 1) := by decide +kernel
theorem d_Model_count_100 : decode prog_14_method_96_code 100 = .ok (.getfield 70, 3) := by decide +kernel
theorem d_Model_count_103 : decode prog_14_method_96_code 103 = .ok (.iconst 0, 1) := by decide +kernel
theorem d_Model_count_104 : decode prog_14_method_96_code 104 = .ok (.iaload, 1) := by decide +kernel
theorem d_Model_count_105 : decode prog_14_method_96_code 105 = .ok (.ireturn, 1) := by decide +kernel
theorem d_Model_count_106 : decode prog_14_method_96_code 106 = .ok (.aload_n 0, 1) := by decide +kernel
theorem d_Model_count_107 : decode prog_14_method_96_code 107 = .ok (.invokevirtual 424, 3) := by decide +kernel
theorem d_Model_count_110 : decode prog_14_method_96_code 110 = .ok (.ireturn, 1) := by decide +kernel
theorem d_Model_count_111 : decode prog_14_method_96_code 111 = .ok (.aload_n 0, 1) := by decide +kernel
theorem d_Model_count_112 : decode prog_14_method_96_code 112 = .ok (.getfield 13, 3) := by decide +kernel
theorem d_Model_count_115 : decode prog_14_method_96_code 115 = .ok (.sipush 501, 3) := by decide +kernel
theorem d_Model_count_118 : decode prog_14_method_96_code 118 = .ok (.iaload, 1) := by decide +kernel
theorem d_Model_count_119 : decode prog_14_method_96_code 119 = .ok (.ireturn, 1) := by decide +kernel
theorem d_Model_count_120 : decode prog_14_method_96_code 120 = .ok (.aload_n 0, 1) := by decide +kernel
theorem d_Model_count_121 : decode prog_14_method_96_code 121 = .ok (.getfield 13, 3) := by decide +kernel
theorem d_Model_count_124 : decode prog_14_method_96_code 124 = .ok (.sipush 502, 3) := by decide +kernel
theorem d_Model_count_127 : decode prog_14_method_96_code 127 = .ok (.iaload, 1) := by decide +kernel
theorem d_Model_count_128 : decode prog_14_method_96_code 128 = .ok (.ireturn, 1) := by decide +kernel
theorem d_Model_count_129 : decode prog_14_method_96_code 129 = .ok (.aload_n 0, 1) := by decide +kernel
theorem d_Model_count_130 : decode prog_14_method_96_code 130 = .ok (.getfield 142, 3) := by decide +kernel
theorem d_Model_count_133 : decode prog_14_method_96_code 133 = .ok (.ireturn, 1) := by decide +kernel
theorem d_Model_count_134 : decode prog_14_method_96_code 134 = .ok (.aload_n 0, 1) := by decide +kernel
theorem d_Model_count_135 : decode prog_14_method_96_code 135 = .ok (.getfield 179, 3) := by decide +kernel
theorem d_Model_count_138 : decode prog_14_method_96_code 138 = .ok (.ireturn, 1) := by decide +kernel
theorem d_Model_count_139 : decode prog_14_method_96_code 139 = .ok (.iconst (-1), 1) := by decide +kernel
theorem d_Model_count_140 : decode prog_14_method_96_code 140 = .ok (.ireturn, 1) := by decide +kernel
abbrev m_s1_Model_count : Room := { frames := 5, cells := 0, slots := 0, locals := 124 }
set_option maxHeartbeats 4000000 in
set_option maxRecDepth 100000 in
theorem s1_Model_count (l : Launch) (G : zG) (b0 : Nat) (b1 : Int32) (b2 : Int32) (b3 : Nat) (b4 : Nat) (b5 : Nat) (b6 : Nat) (b7 : Int32) (b8 : Nat) (b9 : Int32) (b10 : Int32) (b11 : Int32) (b12 : Int32) (b13 : Nat) (b14 : Nat) (b15 : Nat) (b16 : Int32) (b17 : Nat) (b18 : Nat) (b19 : Nat) (b20 : Nat) (b21 : Nat) (b22 : Nat) (b23 : Nat) (b24 : Nat) (b25 : Nat) (b26 : Nat) (b27 : Nat) (b28 : Nat) (b29 : Int32) (b30 : Nat) (b31 : Nat) (b32 : Int32) (b33 : Int32) (b34 : Int32) (b35 : Int32) (b36 : Nat) (b37 : Nat) (b38 : Nat) (b39 : Nat) (b40 : Nat) (b41 : Nat) (b42 : Nat) (b43 : Int32) (b44 : Nat) (b45 : Nat) (b46 : Int32) (b47 : Nat) (b48 : Nat) (b49 : Nat) (b50 : Nat) (b51 : Nat) (b52 : Int32) (b53 : Nat) (b54 : Nat) (b55 : Nat) (b56 : Nat → Int32) (b57 : Nat → Int32) (b58 : Nat → Int32) (b59 : Nat → Int32) (b60 : Nat → Int32) (b61 : Nat → Int32) (b62 : Nat → Int32) (b63 : Nat → Int32) (b64 : Nat → Int32) (b65 : Nat → Int32) (b66 : Nat → Int32) (b67 : Nat → Int32) (b68 : Nat → Int32) (hb7 : zI b7 0 8) (hb9 : zI b9 0 240) (hb10 : zI b10 0 240) (hb12 : zI b12 0 1) (hb16 : zI b16 0 12) (hb29 : zI b29 0 1) (hb32 : zI b32 0 1) (hb43 : zI b43 0 1000) (hb46 : zI b46 0 1000) (hb52 : zI b52 0 400) (hb56 : zW5 b56) (hb57 : zR b57 0 241) (hb58 : zR b58 (-1) 240) (hb59 : zqa qP b59) (hb61 : zqa qC b61) (hb62 : zR b62 0 240) (hb63 : zR b63 0 241) (hb64 : zR b64 0 240) (hb67 : zR b67 0 240) (hb68 : zqa qE b68) : zM l G y_Model_count prog_14_method_96_code 2 (Option.some Jvm.ClassFile.FieldType.int) m_s1_Model_count [.ref b0, .int b1] [(b0, .inr (12, [.int b2, .ref b3, .ref b4, .ref b5, .ref b6, .int b7, .ref b8, .int b9, .int b10, .int b11, .int b12, .ref b13, .ref b14, .ref b15, .int b16, .ref b17, .ref b18, .ref b19, .ref b20, .ref b21, .ref b22, .ref b23, .ref b24, .ref b25, .ref b26, .ref b27, .ref b28, .int b29, .ref b30, .ref b31, .int b32, .int b33, .int b34, .int b35, .ref b36, .ref b37, .ref b38, .ref b39, .ref b40, .ref b41, .ref b42, .int b43, .ref b44, .ref b45, .int b46, .ref b47, .ref b48, .ref b49, .ref b50, .ref b51, .int b52, .ref b53, .ref b54, .ref b55])), (b3, .inl (G.2 0, 503, .inl b56)), (b17, .inl (G.2 0, 2, .inl b57)), (b18, .inl (G.2 0, 4820, .inl b58)), (b19, .inl (G.2 0, 520, .inl b59)), (b20, .inl (G.2 0, 9640, .inl b60)), (b21, .inl (G.2 0, 482, .inl b61)), (b22, .inl (G.2 0, 482, .inl b62)), (b23, .inl (G.2 0, 2, .inl b63)), (b24, .inl (G.2 0, 482, .inl b64)), (b25, .inl (G.2 0, 482, .inl b65)), (b26, .inl (G.2 0, 482, .inl b66)), (b27, .inl (G.2 0, 2, .inl b67)), (b28, .inl (G.2 0, 2880, .inl b68))] (fun v w => ∃ (e0 : Int32), ∃ (e1 : Int32), ∃ (e2 : Nat → Int32), ∃ (e3 : Nat → Int32), ∃ (e4 : Nat → Int32), ∃ (e5 : Nat → Int32), ∃ (e6 : Nat → Int32), ∃ (e7 : Nat → Int32), ∃ (e8 : Nat → Int32), ∃ (e9 : Nat → Int32), ∃ (e10 : Nat → Int32), ∃ (e11 : Nat → Int32), ∃ (e12 : Nat → Int32), ∃ (e13 : Nat → Int32), v = some (.int e0) ∧ w = [(b0, .inr (12, [.int 0, .ref b3, .ref b4, .ref b5, .ref b6, .int b7, .ref b8, .int b9, .int b10, .int b11, .int b12, .ref b13, .ref b14, .ref b15, .int b16, .ref b17, .ref b18, .ref b19, .ref b20, .ref b21, .ref b22, .ref b23, .ref b24, .ref b25, .ref b26, .ref b27, .ref b28, .int e1, .ref b30, .ref b31, .int b32, .int b33, .int b34, .int b35, .ref b36, .ref b37, .ref b38, .ref b39, .ref b40, .ref b41, .ref b42, .int b43, .ref b44, .ref b45, .int b46, .ref b47, .ref b48, .ref b49, .ref b50, .ref b51, .int b52, .ref b53, .ref b54, .ref b55])), (b3, .inl (G.2 0, 503, .inl b56)), (b17, .inl (G.2 0, 2, .inl e2)), (b18, .inl (G.2 0, 4820, .inl e3)), (b19, .inl (G.2 0, 520, .inl e4)), (b20, .inl (G.2 0, 9640, .inl e5)), (b21, .inl (G.2 0, 482, .inl e6)), (b22, .inl (G.2 0, 482, .inl e7)), (b23, .inl (G.2 0, 2, .inl e8)), (b24, .inl (G.2 0, 482, .inl e9)), (b25, .inl (G.2 0, 482, .inl e10)), (b26, .inl (G.2 0, 482, .inl e11)), (b27, .inl (G.2 0, 2, .inl e12)), (b28, .inl (G.2 0, 2880, .inl e13))] ∧ (zI e1 0 1) ∧ (zR e2 0 241) ∧ (zR e3 (-1) 240) ∧ (zqa qP e4) ∧ (zqa qC e6) ∧ (zR e7 0 240) ∧ (zR e8 0 241) ∧ (zR e9 0 240) ∧ (zR e12 0 240) ∧ (zqa qE e13)) := by
  refine z_start (by decide +kernel) (Nat.le_of_ble_eq_true rfl) ?_
  intro p e s m below meth c A Z hr hnm hA hP hD hS ls hl
  have Z : zC p s m _ meth c prog_14_method_96_code 2 "TraceMachinesModel" G := Z
  obtain ⟨hx, hb, hml, hown, hts, hK, hN, hlocks⟩ := id Z
  have hl : lv_has ls 2 [(0, .ref b0), (1, .int b1)] := hl
  refine lv_aload_n hx hb d_Model_count_0 rfl (lv_at hl 0 rfl) ?_
  refine lv_iconst (v := 0) hx hb d_Model_count_1 (by decide) ?_
  refine va_put (D := G.1) (ci := 12) (v := .int 0) (ty := .int) (C := R_Model) (T := F_Model) (N := 54) hx hb hts i_Model t_Model t_Model_ok n_Model hown hK hP hD hS 0 rfl rfl 0 (by decide) (hts _ q1109) (fun _ h9 => h9) rfl (by decide +kernel) rfl rfl (Nat.le_of_ble_eq_true rfl) d_Model_count_2 (fun H locs hP hD hS => ?_)
  have hP : va_P G.1 classes [(b0, .inr (12, [.int 0, .ref b3, .ref b4, .ref b5, .ref b6, .int b7, .ref b8, .int b9, .int b10, .int b11, .int b12, .ref b13, .ref b14, .ref b15, .int b16, .ref b17, .ref b18, .ref b19, .ref b20, .ref b21, .ref b22, .ref b23, .ref b24, .ref b25, .ref b26, .ref b27, .ref b28, .int b29, .ref b30, .ref b31, .int b32, .int b33, .int b34, .int b35, .ref b36, .ref b37, .ref b38, .ref b39, .ref b40, .ref b41, .ref b42, .int b43, .ref b44, .ref b45, .int b46, .ref b47, .ref b48, .ref b49, .ref b50, .ref b51, .int b52, .ref b53, .ref b54, .ref b55])), (b3, .inl (G.2 0, 503, .inl b56)), (b17, .inl (G.2 0, 2, .inl b57)), (b18, .inl (G.2 0, 4820, .inl b58)), (b19, .inl (G.2 0, 520, .inl b59)), (b20, .inl (G.2 0, 9640, .inl b60)), (b21, .inl (G.2 0, 482, .inl b61)), (b22, .inl (G.2 0, 482, .inl b62)), (b23, .inl (G.2 0, 2, .inl b63)), (b24, .inl (G.2 0, 482, .inl b64)), (b25, .inl (G.2 0, 482, .inl b65)), (b26, .inl (G.2 0, 482, .inl b66)), (b27, .inl (G.2 0, 2, .inl b67)), (b28, .inl (G.2 0, 2880, .inl b68))] H := hP
  have hD := z_tie hP hD rfl
  refine lv_aload_n hx hb d_Model_count_5 rfl (lv_at hl 0 rfl) ?_
  refine z_callV (index := 254) (As := []) (rest := []) (wr := []) Z (s1_Model_lay1 l G (b0) (0) (b3) (b4) (b5) (b6) (b7) (b8) (b9) (b10) (b11) (b12) (b13) (b14) (b15) (b16) (b17) (b18) (b19) (b20) (b21) (b22) (b23) (b24) (b25) (b26) (b27) (b28) (b29) (b30) (b31) (b32) (b33) (b34) (b35) (b36) (b37) (b38) (b39) (b40) (b41) (b42) (b43) (b44) (b45) (b46) (b47) (b48) (b49) (b50) (b51) (b52) (b53) (b54) (b55) (b56) (b57) (b58) (b59) (b60) (b61) (b62) (b63) (b64) (b65) (b66) (b67) (b68) hb7 hb9 hb10 hb12 hb16 hb29 hb32 hb43 hb46 hb52 hb56 hb57 hb58 hb59 hb61 hb62 hb63 hb64 hb67 hb68) hl.1 q1356 q1358 qs55 q14 q1359 ⟨by decide, by decide, by show _ = some 0; decide +kernel⟩ ⟨Nat.le_of_ble_eq_true rfl, Nat.le_of_ble_eq_true rfl⟩ ⟨Nat.le_of_ble_eq_true rfl, Nat.le_of_ble_eq_true rfl⟩ rfl (Nat.le_of_ble_eq_true rfl) d_Model_count_6 hP hD hS hA 0 12 rfl rfl rfl [0, 1, 2, 3, 4, 5, 6, 7, 8, 9, 10, 11, 12, 13] [] rfl rfl rfl rfl (by decide) (fun v w1 H locs hw_1 hP hD hS => ?_)
  refine Exists.elim hw_1 (fun x_2 hz_16 => Exists.elim hz_16 (fun f_3 hz_17 => Exists.elim hz_17 (fun f_4 hz_18 => Exists.elim hz_18 (fun f_5 hz_19 => Exists.elim hz_19 (fun f_6 hz_20 => Exists.elim hz_20 (fun f_7 hz_21 => Exists.elim hz_21 (fun f_8 hz_22 => Exists.elim hz_22 (fun f_9 hz_23 => Exists.elim hz_23 (fun f_10 hz_24 => Exists.elim hz_24 (fun f_11 hz_25 => Exists.elim hz_25 (fun f_12 hz_26 => Exists.elim hz_26 (fun f_13 hz_27 => Exists.elim hz_27 (fun f_14 hz_28 => ?_)))))))))))))
  clear hw_1 hz_16 hz_17 hz_18 hz_19 hz_20 hz_21 hz_22 hz_23 hz_24 hz_25 hz_26 hz_27
  obtain ⟨rfl, rfl, hx_2, hf_3, hf_4, hf_5, hf_7, hf_8, hf_9, hf_10, hf_13, hf_14, hfx_15⟩ := hz_28
  have hP : va_P G.1 classes [(b0, .inr (12, [.int 0, .ref b3, .ref b4, .ref b5, .ref b6, .int b7, .ref b8, .int b9, .int b10, .int b11, .int b12, .ref b13, .ref b14, .ref b15, .int b16, .ref b17, .ref b18, .ref b19, .ref b20, .ref b21, .ref b22, .ref b23, .ref b24, .ref b25, .ref b26, .ref b27, .ref b28, .int x_2, .ref b30, .ref b31, .int b32, .int b33, .int b34, .int b35, .ref b36, .ref b37, .ref b38, .ref b39, .ref b40, .ref b41, .ref b42, .int b43, .ref b44, .ref b45, .int b46, .ref b47, .ref b48, .ref b49, .ref b50, .ref b51, .int b52, .ref b53, .ref b54, .ref b55])), (b3, .inl (G.2 0, 503, .inl b56)), (b17, .inl (G.2 0, 2, .inl f_3)), (b18, .inl (G.2 0, 4820, .inl f_4)), (b19, .inl (G.2 0, 520, .inl f_5)), (b20, .inl (G.2 0, 9640, .inl f_6)), (b21, .inl (G.2 0, 482, .inl f_7)), (b22, .inl (G.2 0, 482, .inl f_8)), (b23, .inl (G.2 0, 2, .inl f_9)), (b24, .inl (G.2 0, 482, .inl f_10)), (b25, .inl (G.2 0, 482, .inl f_11)), (b26, .inl (G.2 0, 482, .inl f_12)), (b27, .inl (G.2 0, 2, .inl f_13)), (b28, .inl (G.2 0, 2880, .inl f_14))] H := hP
  have hD := z_tie hP hD rfl
  refine W.widen (k := 0) (n := 0) (Nat.le_of_ble_eq_true rfl) (Nat.le_of_ble_eq_true rfl) ?_
  refine lv_iload_n hx hb d_Model_count_9 rfl (lv_at hl 1 rfl) ?_
  by_cases hs_29 : b1 = 0
  · subst hs_29
    refine lv_tableIn (off := 54) (tgt := 64) hx hb d_Model_count_10 (by decide +kernel) (by decide +kernel) rfl (by decide) ?_
    refine lv_aload_n hx hb d_Model_count_64 rfl (lv_at hl 0 rfl) ?_
    refine z_callV (index := 134) (As := []) (rest := []) (wr := [(b17, .inl (G.2 0, 2, .inl f_3)), (b18, .inl (G.2 0, 4820, .inl f_4)), (b19, .inl (G.2 0, 520, .inl f_5)), (b20, .inl (G.2 0, 9640, .inl f_6)), (b21, .inl (G.2 0, 482, .inl f_7)), (b22, .inl (G.2 0, 482, .inl f_8)), (b23, .inl (G.2 0, 2, .inl f_9)), (b24, .inl (G.2 0, 482, .inl f_10)), (b25, .inl (G.2 0, 482, .inl f_11)), (b26, .inl (G.2 0, 482, .inl f_12)), (b27, .inl (G.2 0, 2, .inl f_13)), (b28, .inl (G.2 0, 2880, .inl f_14))]) Z (s1_Model_many l G (b0) (0) (b3) (b4) (b5) (b6) (b7) (b8) (b9) (b10) (b11) (b12) (b13) (b14) (b15) (b16) (b17) (b18) (b19) (b20) (b21) (b22) (b23) (b24) (b25) (b26) (b27) (b28) (x_2) (b30) (b31) (b32) (b33) (b34) (b35) (b36) (b37) (b38) (b39) (b40) (b41) (b42) (b43) (b44) (b45) (b46) (b47) (b48) (b49) (b50) (b51) (b52) (b53) (b54) (b55) (b56) hb7 hb9 hb10 hb12 hb16 hx_2 hb32 hb43 hb46 hb52 hb56) hl.1 q1320 q1322 qs51 q14 q1323 ⟨by decide, by decide, by show _ = some 0; decide +kernel⟩ ⟨Nat.le_of_ble_eq_true rfl, Nat.le_of_ble_eq_true rfl⟩ ⟨Nat.le_of_ble_eq_true rfl, Nat.le_of_ble_eq_true rfl⟩ rfl (Nat.le_of_ble_eq_true rfl) d_Model_count_65 hP hD hS hA 0 12 rfl rfl rfl [0, 1] [2, 3, 4, 5, 6, 7, 8, 9, 10, 11, 12, 13] rfl rfl rfl rfl (by decide) (fun v w1 H locs hw_30 hP hD hS => ?_)
    obtain ⟨x_31, rfl, rfl, hx_31, hfx_32⟩ := hw_30
    have hP : va_P G.1 classes [(b17, .inl (G.2 0, 2, .inl f_3)), (b18, .inl (G.2 0, 4820, .inl f_4)), (b19, .inl (G.2 0, 520, .inl f_5)), (b20, .inl (G.2 0, 9640, .inl f_6)), (b21, .inl (G.2 0, 482, .inl f_7)), (b22, .inl (G.2 0, 482, .inl f_8)), (b23, .inl (G.2 0, 2, .inl f_9)), (b24, .inl (G.2 0, 482, .inl f_10)), (b25, .inl (G.2 0, 482, .inl f_11)), (b26, .inl (G.2 0, 482, .inl f_12)), (b27, .inl (G.2 0, 2, .inl f_13)), (b28, .inl (G.2 0, 2880, .inl f_14)), (b0, .inr (12, [.int 0, .ref b3, .ref b4, .ref b5, .ref b6, .int b7, .ref b8, .int b9, .int b10, .int b11, .int b12, .ref b13, .ref b14, .ref b15, .int b16, .ref b17, .ref b18, .ref b19, .ref b20, .ref b21, .ref b22, .ref b23, .ref b24, .ref b25, .ref b26, .ref b27, .ref b28, .int x_2, .ref b30, .ref b31, .int b32, .int b33, .int b34, .int b35, .ref b36, .ref b37, .ref b38, .ref b39, .ref b40, .ref b41, .ref b42, .int b43, .ref b44, .ref b45, .int b46, .ref b47, .ref b48, .ref b49, .ref b50, .ref b51, .int b52, .ref b53, .ref b54, .ref b55])), (b3, .inl (G.2 0, 503, .inl b56))] H := hP
    have hD := z_tie hP hD rfl
    refine W.widen (k := 0) (n := 0) (Nat.le_of_ble_eq_true rfl) (Nat.le_of_ble_eq_true rfl) ?_
    exact z_iret hx hb hr hlocks (hP.sub [12, 13, 0, 1, 2, 3, 4, 5, 6, 7, 8, 9, 10, 11] rfl) (hD.sub [12, 13, 0, 1, 2, 3, 4, 5, 6, 7, 8, 9, 10, 11] (by decide) rfl) hS (Nat.le_of_ble_eq_true rfl) (Nat.le_of_ble_eq_true rfl) d_Model_count_68 ⟨x_31, x_2, f_3, f_4, f_5, f_6, f_7, f_8, f_9, f_10, f_11, f_12, f_13, f_14, rfl, rfl, hx_2, hf_3, hf_4, hf_5, hf_7, hf_8, hf_9, hf_10, hf_13, hf_14⟩
  simp only [fa_lt, fa_le, fa_eq, Int32.toInt_toInt64, li_0] at hs_29
  by_cases hs_33 : b1 = 1
  · subst hs_33
    refine lv_tableIn (off := 59) (tgt := 69) hx hb d_Model_count_10 (by decide +kernel) (by decide +kernel) rfl (by decide) ?_
    refine lv_aload_n hx hb d_Model_count_69 rfl (lv_at hl 0 rfl) ?_
    refine z_callV (index := 421) (As := []) (rest := []) (wr := [(b17, .inl (G.2 0, 2, .inl f_3)), (b18, .inl (G.2 0, 4820, .inl f_4)), (b19, .inl (G.2 0, 520, .inl f_5)), (b20, .inl (G.2 0, 9640, .inl f_6)), (b21, .inl (G.2 0, 482, .inl f_7)), (b22, .inl (G.2 0, 482, .inl f_8)), (b23, .inl (G.2 0, 2, .inl f_9)), (b24, .inl (G.2 0, 482, .inl f_10)), (b25, .inl (G.2 0, 482, .inl f_11)), (b26, .inl (G.2 0, 482, .inl f_12)), (b27, .inl (G.2 0, 2, .inl f_13)), (b28, .inl (G.2 0, 2880, .inl f_14))]) Z (s1_Model_callsOfAll l G (b0) (0) (b3) (b4) (b5) (b6) (b7) (b8) (b9) (b10) (b11) (b12) (b13) (b14) (b15) (b16) (b17) (b18) (b19) (b20) (b21) (b22) (b23) (b24) (b25) (b26) (b27) (b28) (x_2) (b30) (b31) (b32) (b33) (b34) (b35) (b36) (b37) (b38) (b39) (b40) (b41) (b42) (b43) (b44) (b45) (b46) (b47) (b48) (b49) (b50) (b51) (b52) (b53) (b54) (b55) (b56) hb7 hb9 hb10 hb12 hb16 hx_2 hb32 hb43 hb46 hb52 hb56) hl.1 q1651 q1653 qs102 q14 q1654 ⟨by decide, by decide, by show _ = some 0; decide +kernel⟩ ⟨Nat.le_of_ble_eq_true rfl, Nat.le_of_ble_eq_true rfl⟩ ⟨Nat.le_of_ble_eq_true rfl, Nat.le_of_ble_eq_true rfl⟩ rfl (Nat.le_of_ble_eq_true rfl) d_Model_count_70 hP hD hS hA 0 12 rfl rfl rfl [0, 1] [2, 3, 4, 5, 6, 7, 8, 9, 10, 11, 12, 13] rfl rfl rfl rfl (by decide) (fun v w1 H locs hw_34 hP hD hS => ?_)
    obtain ⟨x_35, rfl, rfl⟩ := hw_34
    have hP : va_P G.1 classes [(b17, .inl (G.2 0, 2, .inl f_3)), (b18, .inl (G.2 0, 4820, .inl f_4)), (b19, .inl (G.2 0, 520, .inl f_5)), (b20, .inl (G.2 0, 9640, .inl f_6)), (b21, .inl (G.2 0, 482, .inl f_7)), (b22, .inl (G.2 0, 482, .inl f_8)), (b23, .inl (G.2 0, 2, .inl f_9)), (b24, .inl (G.2 0, 482, .inl f_10)), (b25, .inl (G.2 0, 482, .inl f_11)), (b26, .inl (G.2 0, 482, .inl f_12)), (b27, .inl (G.2 0, 2, .inl f_13)), (b28, .inl (G.2 0, 2880, .inl f_14)), (b0, .inr (12, [.int 0, .ref b3, .ref b4, .ref b5, .ref b6, .int b7, .ref b8, .int b9, .int b10, .int b11, .int b12, .ref b13, .ref b14, .ref b15, .int b16, .ref b17, .ref b18, .ref b19, .ref b20, .ref b21, .ref b22, .ref b23, .ref b24, .ref b25, .ref b26, .ref b27, .ref b28, .int x_2, .ref b30, .ref b31, .int b32, .int b33, .int b34, .int b35, .ref b36, .ref b37, .ref b38, .ref b39, .ref b40, .ref b41, .ref b42, .int b43, .ref b44, .ref b45, .int b46, .ref b47, .ref b48, .ref b49, .ref b50, .ref b51, .int b52, .ref b53, .ref b54, .ref b55])), (b3, .inl (G.2 0, 503, .inl b56))] H := hP
    have hD := z_tie hP hD rfl
    refine W.widen (k := 0) (n := 0) (Nat.le_of_ble_eq_true rfl) (Nat.le_of_ble_eq_true rfl) ?_
    exact z_iret hx hb hr hlocks (hP.sub [12, 13, 0, 1, 2, 3, 4, 5, 6, 7, 8, 9, 10, 11] rfl) (hD.sub [12, 13, 0, 1, 2, 3, 4, 5, 6, 7, 8, 9, 10, 11] (by decide) rfl) hS (Nat.le_of_ble_eq_true rfl) (Nat.le_of_ble_eq_true rfl) d_Model_count_73 ⟨x_35, x_2, f_3, f_4, f_5, f_6, f_7, f_8, f_9, f_10, f_11, f_12, f_13, f_14, rfl, rfl, hx_2, hf_3, hf_4, hf_5, hf_7, hf_8, hf_9, hf_10, hf_13, hf_14⟩
  simp only [fa_lt, fa_le, fa_eq, Int32.toInt_toInt64, li_1] at hs_33
  by_cases hs_36 : b1 = 2
  · subst hs_36
    refine lv_tableIn (off := 64) (tgt := 74) hx hb d_Model_count_10 (by decide +kernel) (by decide +kernel) rfl (by decide) ?_
    refine lv_aload_n hx hb d_Model_count_74 rfl (lv_at hl 0 rfl) ?_
    refine z_callV (index := 134) (As := []) (rest := []) (wr := [(b17, .inl (G.2 0, 2, .inl f_3)), (b18, .inl (G.2 0, 4820, .inl f_4)), (b19, .inl (G.2 0, 520, .inl f_5)), (b20, .inl (G.2 0, 9640, .inl f_6)), (b21, .inl (G.2 0, 482, .inl f_7)), (b22, .inl (G.2 0, 482, .inl f_8)), (b23, .inl (G.2 0, 2, .inl f_9)), (b24, .inl (G.2 0, 482, .inl f_10)), (b25, .inl (G.2 0, 482, .inl f_11)), (b26, .inl (G.2 0, 482, .inl f_12)), (b27, .inl (G.2 0, 2, .inl f_13)), (b28, .inl (G.2 0, 2880, .inl f_14))]) Z (s1_Model_many l G (b0) (0) (b3) (b4) (b5) (b6) (b7) (b8) (b9) (b10) (b11) (b12) (b13) (b14) (b15) (b16) (b17) (b18) (b19) (b20) (b21) (b22) (b23) (b24) (b25) (b26) (b27) (b28) (x_2) (b30) (b31) (b32) (b33) (b34) (b35) (b36) (b37) (b38) (b39) (b40) (b41) (b42) (b43) (b44) (b45) (b46) (b47) (b48) (b49) (b50) (b51) (b52) (b53) (b54) (b55) (b56) hb7 hb9 hb10 hb12 hb16 hx_2 hb32 hb43 hb46 hb52 hb56) hl.1 q1320 q1322 qs51 q14 q1323 ⟨by decide, by decide, by show _ = some 0; decide +kernel⟩ ⟨Nat.le_of_ble_eq_true rfl, Nat.le_of_ble_eq_true rfl⟩ ⟨Nat.le_of_ble_eq_true rfl, Nat.le_of_ble_eq_true rfl⟩ rfl (Nat.le_of_ble_eq_true rfl) d_Model_count_75 hP hD hS hA 0 12 rfl rfl rfl [0, 1] [2, 3, 4, 5, 6, 7, 8, 9, 10, 11, 12, 13] rfl rfl rfl rfl (by decide) (fun v w1 H locs hw_37 hP hD hS => ?_)
    obtain ⟨x_38, rfl, rfl, hx_38, hfx_39⟩ := hw_37
    have hP : va_P G.1 classes [(b17, .inl (G.2 0, 2, .inl f_3)), (b18, .inl (G.2 0, 4820, .inl f_4)), (b19, .inl (G.2 0, 520, .inl f_5)), (b20, .inl (G.2 0, 9640, .inl f_6)), (b21, .inl (G.2 0, 482, .inl f_7)), (b22, .inl (G.2 0, 482, .inl f_8)), (b23, .inl (G.2 0, 2, .inl f_9)), (b24, .inl (G.2 0, 482, .inl f_10)), (b25, .inl (G.2 0, 482, .inl f_11)), (b26, .inl (G.2 0, 482, .inl f_12)), (b27, .inl (G.2 0, 2, .inl f_13)), (b28, .inl (G.2 0, 2880, .inl f_14)), (b0, .inr (12, [.int 0, .ref b3, .ref b4, .ref b5, .ref b6, .int b7, .ref b8, .int b9, .int b10, .int b11, .int b12, .ref b13, .ref b14, .ref b15, .int b16, .ref b17, .ref b18, .ref b19, .ref b20, .ref b21, .ref b22, .ref b23, .ref b24, .ref b25, .ref b26, .ref b27, .ref b28, .int x_2, .ref b30, .ref b31, .int b32, .int b33, .int b34, .int b35, .ref b36, .ref b37, .ref b38, .ref b39, .ref b40, .ref b41, .ref b42, .int b43, .ref b44, .ref b45, .int b46, .ref b47, .ref b48, .ref b49, .ref b50, .ref b51, .int b52, .ref b53, .ref b54, .ref b55])), (b3, .inl (G.2 0, 503, .inl b56))] H := hP
    have hD := z_tie hP hD rfl
    refine W.widen (k := 0) (n := 0) (Nat.le_of_ble_eq_true rfl) (Nat.le_of_ble_eq_true rfl) ?_
    refine lv_if_ne (tgt := 85) hx hb d_Model_count_78 (by decide) (fun hc_40 => ?_) (fun hc_40 => ?_)
    · have _nhc_40 := hc_40
      have ni_41 : ¬ (x_38 : Int32).toInt = (0 : Int32).toInt := fun z => hc_40 ((fa_eq _ _).mpr z)
      simp only [li_0] at ni_41
      have hv_42 : zI x_38 1 20 := zI.ne_lo hx_38 zc_0 hc_40 (by decide)
      refine lv_aload_n hx hb d_Model_count_85 rfl (lv_at hl 0 rfl) ?_
      refine va_get (D := G.1) (ci := 12) (v := .ref b17) (C := R_Model) (T := F_Model) (N := 54) hx hb hts i_Model hown hK hP 12 rfl rfl 15 (by decide) (hts _ q1124) (fun _ h9 => h9) rfl d_Model_count_86 ?_
      refine lv_iconst (v := 0) hx hb d_Model_count_89 (by decide) ?_
      refine va_iald hx hb hK hP 0 0 rfl rfl (i := 0) (z_in rfl) d_Model_count_90 ?_
      refine lv_topi (fun v_43 ev_43 => ?_)
      have hv_43 : zI v_43 0 241 := (hf_3 _).eq ev_43
      exact z_iret hx hb hr hlocks (hP.sub [12, 13, 0, 1, 2, 3, 4, 5, 6, 7, 8, 9, 10, 11] rfl) (hD.sub [12, 13, 0, 1, 2, 3, 4, 5, 6, 7, 8, 9, 10, 11] (by decide) rfl) hS (Nat.le_of_ble_eq_true rfl) (Nat.le_of_ble_eq_true rfl) d_Model_count_91 ⟨v_43, x_2, f_3, f_4, f_5, f_6, f_7, f_8, f_9, f_10, f_11, f_12, f_13, f_14, rfl, rfl, hx_2, hf_3, hf_4, hf_5, hf_7, hf_8, hf_9, hf_10, hf_13, hf_14⟩
    · have _nhc_40 := hc_40
      have ni_44 := (fa_eq _ _).mp hc_40
      rw [li_0] at ni_44
      have hv_45 : zI x_38 0 0 := zI.eq_l hx_38 zc_0 hc_40
      refine lv_iconst (v := 0) hx hb d_Model_count_81 (by decide) ?_
      refine lv_goto (tgt := 91) hx hb d_Model_count_82 (by decide) ?_
      exact z_iret hx hb hr hlocks (hP.sub [12, 13, 0, 1, 2, 3, 4, 5, 6, 7, 8, 9, 10, 11] rfl) (hD.sub [12, 13, 0, 1, 2, 3, 4, 5, 6, 7, 8, 9, 10, 11] (by decide) rfl) hS (Nat.le_of_ble_eq_true rfl) (Nat.le_of_ble_eq_true rfl) d_Model_count_91 ⟨0, x_2, f_3, f_4, f_5, f_6, f_7, f_8, f_9, f_10, f_11, f_12, f_13, f_14, rfl, rfl, hx_2, hf_3, hf_4, hf_5, hf_7, hf_8, hf_9, hf_10, hf_13, hf_14⟩
  simp only [fa_lt, fa_le, fa_eq, Int32.toInt_toInt64, li_2] at hs_36
  by_cases hs_46 : b1 = 3
  · subst hs_46
    refine lv_tableIn (off := 82) (tgt := 92) hx hb d_Model_count_10 (by decide +kernel) (by decide +kernel) rfl (by decide) ?_
    refine lv_aload_n hx hb d_Model_count_92 rfl (lv_at hl 0 rfl) ?_
    refine va_get (D := G.1) (ci := 12) (v := .ref b23) (C := R_Model) (T := F_Model) (N := 54) hx hb hts i_Model hown hK hP 0 rfl rfl 21 (by decide) (hts _ q1130) (fun _ h9 => h9) rfl d_Model_count_93 ?_
    refine lv_iconst (v := 0) hx hb d_Model_count_96 (by decide) ?_
    refine va_iald hx hb hK hP 8 0 rfl rfl (i := 0) (z_in rfl) d_Model_count_97 ?_
    refine lv_topi (fun v_47 ev_47 => ?_)
    have hv_47 : zI v_47 0 241 := (hf_9 _).eq ev_47
    exact z_iret hx hb hr hlocks hP hD hS (Nat.le_of_ble_eq_true rfl) (Nat.le_of_ble_eq_true rfl) d_Model_count_98 ⟨v_47, x_2, f_3, f_4, f_5, f_6, f_7, f_8, f_9, f_10, f_11, f_12, f_13, f_14, rfl, rfl, hx_2, hf_3, hf_4, hf_5, hf_7, hf_8, hf_9, hf_10, hf_13, hf_14⟩
  simp only [fa_lt, fa_le, fa_eq, Int32.toInt_toInt64, li_3] at hs_46
  by_cases hs_48 : b1 = 4
  · subst hs_48
    refine lv_tableIn (off := 89) (tgt := 99) hx hb d_Model_count_10 (by decide +kernel) (by decide +kernel) rfl (by decide) ?_
    refine lv_aload_n hx hb d_Model_count_99 rfl (lv_at hl 0 rfl) ?_
    refine va_get (D := G.1) (ci := 12) (v := .ref b27) (C := R_Model) (T := F_Model) (N := 54) hx hb hts i_Model hown hK hP 0 rfl rfl 25 (by decide) (hts _ q1134) (fun _ h9 => h9) rfl d_Model_count_100 ?_
    refine lv_iconst (v := 0) hx hb d_Model_count_103 (by decide) ?_
    refine va_iald hx hb hK hP 12 0 rfl rfl (i := 0) (z_in rfl) d_Model_count_104 ?_
    refine lv_topi (fun v_49 ev_49 => ?_)
    have hv_49 : zI v_49 0 240 := (hf_13 _).eq ev_49
    exact z_iret hx hb hr hlocks hP hD hS (Nat.le_of_ble_eq_true rfl) (Nat.le_of_ble_eq_true rfl) d_Model_count_105 ⟨v_49, x_2, f_3, f_4, f_5, f_6, f_7, f_8, f_9, f_10, f_11, f_12, f_13, f_14, rfl, rfl, hx_2, hf_3, hf_4, hf_5, hf_7, hf_8, hf_9, hf_10, hf_13, hf_14⟩
  simp only [fa_lt, fa_le, fa_eq, Int32.toInt_toInt64, li_4] at hs_48
  by_cases hs_50 : b1 = 5
  · subst hs_50
    refine lv_tableIn (off := 96) (tgt := 106) hx hb d_Model_count_10 (by decide +kernel) (by decide +kernel) rfl (by decide) ?_
    refine lv_aload_n hx hb d_Model_count_106 rfl (lv_at hl 0 rfl) ?_
    refine z_callV (index := 424) (As := []) (rest := []) (wr := [(b3, .inl (G.2 0, 503, .inl b56)), (b17, .inl (G.2 0, 2, .inl f_3)), (b18, .inl (G.2 0, 4820, .inl f_4)), (b19, .inl (G.2 0, 520, .inl f_5)), (b20, .inl (G.2 0, 9640, .inl f_6)), (b21, .inl (G.2 0, 482, .inl f_7)), (b22, .inl (G.2 0, 482, .inl f_8)), (b24, .inl (G.2 0, 482, .inl f_10)), (b25, .inl (G.2 0, 482, .inl f_11)), (b27, .inl (G.2 0, 2, .inl f_13)), (b28, .inl (G.2 0, 2880, .inl f_14))]) Z (s1_Model_finals l G (b0) (0) (b3) (b4) (b5) (b6) (b7) (b8) (b9) (b10) (b11) (b12) (b13) (b14) (b15) (b16) (b17) (b18) (b19) (b20) (b21) (b22) (b23) (b24) (b25) (b26) (b27) (b28) (x_2) (b30) (b31) (b32) (b33) (b34) (b35) (b36) (b37) (b38) (b39) (b40) (b41) (b42) (b43) (b44) (b45) (b46) (b47) (b48) (b49) (b50) (b51) (b52) (b53) (b54) (b55) (f_9) (f_12) hb7 hb9 hb10 hb12 hb16 hx_2 hb32 hb43 hb46 hb52 hf_9) hl.1 q1655 q1657 qs103 q14 q1658 ⟨by decide, by decide, by show _ = some 0; decide +kernel⟩ ⟨Nat.le_of_ble_eq_true rfl, Nat.le_of_ble_eq_true rfl⟩ ⟨Nat.le_of_ble_eq_true rfl, Nat.le_of_ble_eq_true rfl⟩ rfl (Nat.le_of_ble_eq_true rfl) d_Model_count_107 hP hD hS hA 0 12 rfl rfl rfl [0, 8, 11] [1, 2, 3, 4, 5, 6, 7, 9, 10, 12, 13] rfl rfl rfl rfl (by decide) (fun v w1 H locs hw_51 hP hD hS => ?_)
    obtain ⟨x_52, rfl, rfl⟩ := hw_51
    have hP : va_P G.1 classes [(b3, .inl (G.2 0, 503, .inl b56)), (b17, .inl (G.2 0, 2, .inl f_3)), (b18, .inl (G.2 0, 4820, .inl f_4)), (b19, .inl (G.2 0, 520, .inl f_5)), (b20, .inl (G.2 0, 9640, .inl f_6)), (b21, .inl (G.2 0, 482, .inl f_7)), (b22, .inl (G.2 0, 482, .inl f_8)), (b24, .inl (G.2 0, 482, .inl f_10)), (b25, .inl (G.2 0, 482, .inl f_11)), (b27, .inl (G.2 0, 2, .inl f_13)), (b28, .inl (G.2 0, 2880, .inl f_14)), (b0, .inr (12, [.int 0, .ref b3, .ref b4, .ref b5, .ref b6, .int b7, .ref b8, .int b9, .int b10, .int b11, .int b12, .ref b13, .ref b14, .ref b15, .int b16, .ref b17, .ref b18, .ref b19, .ref b20, .ref b21, .ref b22, .ref b23, .ref b24, .ref b25, .ref b26, .ref b27, .ref b28, .int x_2, .ref b30, .ref b31, .int b32, .int b33, .int b34, .int b35, .ref b36, .ref b37, .ref b38, .ref b39, .ref b40, .ref b41, .ref b42, .int b43, .ref b44, .ref b45, .int b46, .ref b47, .ref b48, .ref b49, .ref b50, .ref b51, .int b52, .ref b53, .ref b54, .ref b55])), (b23, .inl (G.2 0, 2, .inl f_9)), (b26, .inl (G.2 0, 482, .inl f_12))] H := hP
    have hD := z_tie hP hD rfl
    refine W.widen (k := 0) (n := 0) (Nat.le_of_ble_eq_true rfl) (Nat.le_of_ble_eq_true rfl) ?_
    exact z_iret hx hb hr hlocks (hP.sub [11, 0, 1, 2, 3, 4, 5, 6, 12, 7, 8, 13, 9, 10] rfl) (hD.sub [11, 0, 1, 2, 3, 4, 5, 6, 12, 7, 8, 13, 9, 10] (by decide) rfl) hS (Nat.le_of_ble_eq_true rfl) (Nat.le_of_ble_eq_true rfl) d_Model_count_110 ⟨x_52, x_2, f_3, f_4, f_5, f_6, f_7, f_8, f_9, f_10, f_11, f_12, f_13, f_14, rfl, rfl, hx_2, hf_3, hf_4, hf_5, hf_7, hf_8, hf_9, hf_10, hf_13, hf_14⟩
  simp only [fa_lt, fa_le, fa_eq, Int32.toInt_toInt64, li_5] at hs_50
  by_cases hs_53 : b1 = 6
  · subst hs_53
    refine lv_tableIn (off := 101) (tgt := 111) hx hb d_Model_count_10 (by decide +kernel) (by decide +kernel) rfl (by decide) ?_
    refine lv_aload_n hx hb d_Model_count_111 rfl (lv_at hl 0 rfl) ?_
    refine va_get (D := G.1) (ci := 12) (v := .ref b3) (C := R_Model) (T := F_Model) (N := 54) hx hb hts i_Model hown hK hP 0 rfl rfl 1 (by decide) (hts _ q1110) (fun _ h9 => h9) rfl d_Model_count_112 ?_
    refine lv_sipush (v := 501) hx hb d_Model_count_115 (by decide) ?_
    refine va_iald hx hb hK hP 1 0 rfl rfl (i := 501) (z_in rfl) d_Model_count_118 ?_
    refine lv_topi (fun v_54 ev_54 => ?_)
    have hv_54 : zI v_54 0 3 := zW5.ld hb56 zc_501 ev_54 (by decide)
    exact z_iret hx hb hr hlocks hP hD hS (Nat.le_of_ble_eq_true rfl) (Nat.le_of_ble_eq_true rfl) d_Model_count_119 ⟨v_54, x_2, f_3, f_4, f_5, f_6, f_7, f_8, f_9, f_10, f_11, f_12, f_13, f_14, rfl, rfl, hx_2, hf_3, hf_4, hf_5, hf_7, hf_8, hf_9, hf_10, hf_13, hf_14⟩
  simp only [fa_lt, fa_le, fa_eq, Int32.toInt_toInt64, li_6] at hs_53
  by_cases hs_55 : b1 = 7
  · subst hs_55
    refine lv_tableIn (off := 110) (tgt := 120) hx hb d_Model_count_10 (by decide +kernel) (by decide +kernel) rfl (by decide) ?_
    refine lv_aload_n hx hb d_Model_count_120 rfl (lv_at hl 0 rfl) ?_
    refine va_get (D := G.1) (ci := 12) (v := .ref b3) (C := R_Model) (T := F_Model) (N := 54) hx hb hts i_Model hown hK hP 0 rfl rfl 1 (by decide) (hts _ q1110) (fun _ h9 => h9) rfl d_Model_count_121 ?_
    refine lv_sipush (v := 502) hx hb d_Model_count_124 (by decide) ?_
    refine va_iald hx hb hK hP 1 0 rfl rfl (i := 502) (z_in rfl) d_Model_count_127 ?_
    refine lv_topi (fun v_56 ev_56 => ?_)
    have hv_56 : zI v_56 0 20 := zW5.ld hb56 zc_502 ev_56 (by decide)
    exact z_iret hx hb hr hlocks hP hD hS (Nat.le_of_ble_eq_true rfl) (Nat.le_of_ble_eq_true rfl) d_Model_count_128 ⟨v_56, x_2, f_3, f_4, f_5, f_6, f_7, f_8, f_9, f_10, f_11, f_12, f_13, f_14, rfl, rfl, hx_2, hf_3, hf_4, hf_5, hf_7, hf_8, hf_9, hf_10, hf_13, hf_14⟩
  simp only [fa_lt, fa_le, fa_eq, Int32.toInt_toInt64, li_7] at hs_55
  by_cases hs_57 : b1 = 8
  · subst hs_57
    refine lv_tableIn (off := 119) (tgt := 129) hx hb d_Model_count_10 (by decide +kernel) (by decide +kernel) rfl (by decide) ?_
    refine lv_aload_n hx hb d_Model_count_129 rfl (lv_at hl 0 rfl) ?_
    refine va_get (D := G.1) (ci := 12) (v := .int b9) (C := R_Model) (T := F_Model) (N := 54) hx hb hts i_Model hown hK hP 0 rfl rfl 7 (by decide) (hts _ q1116) (fun _ h9 => h9) rfl d_Model_count_130 ?_
    exact z_iret hx hb hr hlocks hP hD hS (Nat.le_of_ble_eq_true rfl) (Nat.le_of_ble_eq_true rfl) d_Model_count_133 ⟨b9, x_2, f_3, f_4, f_5, f_6, f_7, f_8, f_9, f_10, f_11, f_12, f_13, f_14, rfl, rfl, hx_2, hf_3, hf_4, hf_5, hf_7, hf_8, hf_9, hf_10, hf_13, hf_14⟩
  simp only [fa_lt, fa_le, fa_eq, Int32.toInt_toInt64, li_8] at hs_57
  by_cases hs_58 : b1 = 9
  · subst hs_58
    refine lv_tableIn (off := 124) (tgt := 134) hx hb d_Model_count_10 (by decide +kernel) (by decide +kernel) rfl (by decide) ?_
    refine lv_aload_n hx hb d_Model_count_134 rfl (lv_at hl 0 rfl) ?_
    refine va_get (D := G.1) (ci := 12) (v := .int b7) (C := R_Model) (T := F_Model) (N := 54) hx hb hts i_Model hown hK hP 0 rfl rfl 5 (by decide) (hts _ q1114) (fun _ h9 => h9) rfl d_Model_count_135 ?_
    exact z_iret hx hb hr hlocks hP hD hS (Nat.le_of_ble_eq_true rfl) (Nat.le_of_ble_eq_true rfl) d_Model_count_138 ⟨b7, x_2, f_3, f_4, f_5, f_6, f_7, f_8, f_9, f_10, f_11, f_12, f_13, f_14, rfl, rfl, hx_2, hf_3, hf_4, hf_5, hf_7, hf_8, hf_9, hf_10, hf_13, hf_14⟩
  simp only [fa_lt, fa_le, fa_eq, Int32.toInt_toInt64, li_9] at hs_58
  refine lv_tableOut (tgt := 139) hx hb d_Model_count_10 (by omega) (by decide) ?_
  refine lv_iconst (v := (-1)) hx hb d_Model_count_139 (by decide) ?_
  exact z_iret hx hb hr hlocks hP hD hS (Nat.le_of_ble_eq_true rfl) (Nat.le_of_ble_eq_true rfl) d_Model_count_140 ⟨(-1), x_2, f_3, f_4, f_5, f_6, f_7, f_8, f_9, f_10, f_11, f_12, f_13, f_14, rfl, rfl, hx_2, hf_3, hf_4, hf_5, hf_7, hf_8, hf_9, hf_10, hf_13, hf_14⟩
theorem d_Model_ways_0 : decode prog_14_method_59_code 0 = .ok (.aload_n 0, 1) := by decide +kernel
theorem d_Model_ways_1 : decode prog_14_method_59_code 1 = .ok (.iconst 0, 1) := by decide +kernel
theorem d_Model_ways_2 : decode prog_14_method_59_code 2 = .ok (.putfield 1, 3) := by decide +kernel
theorem d_Model_ways_5 : decode prog_14_method_59_code 5 = .ok (.aload_n 0, 1) := by decide +kernel
theorem d_Model_ways_6 : decode prog_14_method_59_code 6 = .ok (.iload_n 1, 1) := by decide +kernel
theorem d_Model_ways_7 : decode prog_14_method_59_code 7 = .ok (.invokevirtual 191, 3) := by decide +kernel
theorem d_Model_ways_10 : decode prog_14_method_59_code 10 = .ok (.ifCond .ne 5, 3) := by decide +kernel
theorem d_Model_ways_13 : decode prog_14_method_59_code 13 = .ok (.iconst (-1), 1) := by decide +kernel
theorem d_Model_ways_15 : decode prog_14_method_59_code 15 = .ok (.aload_n 0, 1) := by decide +kernel
theorem d_Model_ways_16 : decode prog_14_method_59_code 16 = .ok (.invokevirtual 254, 3) := by decide +kernel
theorem d_Model_ways_19 : decode prog_14_method_59_code 19 = .ok (.iconst 0, 1) := by decide +kernel
theorem d_Model_ways_20 : decode prog_14_method_59_code 20 = .ok (.istore_n 2, 1) := by decide +kernel
theorem d_Model_ways_21 : decode prog_14_method_59_code 21 = .ok (.iload_n 2, 1) := by decide +kernel
theorem d_Model_ways_22 : decode prog_14_method_59_code 22 = .ok (.aload_n 0, 1) := by decide +kernel
theorem d_Model_ways_23 : decode prog_14_method_59_code 23 = .ok (.getfield 58, 3) := by decide +kernel
theorem d_Model_ways_26 : decode prog_14_method_59_code 26 = .ok (.iconst 0, 1) := by decide +kernel
theorem d_Model_ways_27 : decode prog_14_method_59_code 27 = .ok (.iaload, 1) := by decide +kernel
theorem d_Model_ways_28 : decode prog_14_method_59_code 28 = .ok (.if_icmp .ge 24, 3) := by decide +kernel
theorem d_Model_ways_31 : decode prog_14_method_59_code 31 = .ok (.aload_n 0, 1) := by decide +kernel
theorem d_Model_ways_32 : decode prog_14_method_59_code 32 = .ok (.getfield 92, 3) := by decide +kernel
theorem d_Model_ways_35 : decode prog_14_method_59_code 35 = .ok (.iload_n 2, 1) := by decide +kernel
theorem d_Model_ways_36 : decode prog_14_method_59_code 36 = .ok (.iload_n 2, 1) := by decide +kernel
theorem d_Model_ways_37 : decode prog_14_method_59_code 37 = .ok (.ifCond .ne 7, 3) := by decide +kernel
theorem d_Model_ways_40 : decode prog_14_method_59_code 40 = .ok (.lconst 1, 1) := by decide +kernel
theorem d_Model_ways_41 : decode prog_14_method_59_code 41 = .ok (.goto 4, 3) := by decide +kernel
theorem d_Model_ways_44 : decode prog_14_method_59_code 44 = .ok (.lconst 0, 1) := by decide +kernel
theorem d_Model_ways_45 : decode prog_14_method_59_code 45 = .ok (.lastore, 1) := by decide +kernel
theorem d_Model_ways_46 : decode prog_14_method_59_code 46 = .ok (.iinc 2 1, 3) := by decide +kernel
theorem d_Model_ways_49 : decode prog_14_method_59_code 49 = .ok (.goto (-28), 3) := by decide +kernel
theorem d_Model_ways_52 : decode prog_14_method_59_code 52 = .ok (.iconst 0, 1) := by decide +kernel
theorem d_Model_ways_53 : decode prog_14_method_59_code 53 = .ok (.istore_n 2, 1) := by decide +kernel
theorem d_Model_ways_54 : decode prog_14_method_59_code 54 = .ok (.iload_n 2, 1) := by decide +kernel
theorem d_Model_ways_55 : decode prog_14_method_59_code 55 = .ok (.aload_n 0, 1) := by decide +kernel
theorem d_Model_ways_56 : decode prog_14_method_59_code 56 = .ok (.iload_n 1, 1) := by decide +kernel
theorem d_Model_ways_57 : decode prog_14_method_59_code 57 = .ok (.invokevirtual 203, 3) := by decide +kernel
theorem d_Model_ways_60 : decode prog_14_method_59_code 60 = .ok (.if_icmp .ge 19, 3) := by decide +kernel
theorem d_Model_ways_63 : decode prog_14_method_59_code 63 = .ok (.aload_n 0, 1) := by decide +kernel
theorem d_Model_ways_64 : decode prog_14_method_59_code 64 = .ok (.aload_n 0, 1) := by decide +kernel
theorem d_Model_ways_65 : decode prog_14_method_59_code 65 = .ok (.iload_n 1, 1) := by decide +kernel
theorem d_Model_ways_66 : decode prog_14_method_59_code 66 = .ok (.iload_n 2, 1) := by decide +kernel
theorem d_Model_ways_67 : decode prog_14_method_59_code 67 = .ok (.invokevirtual 207, 3) := by decide +kernel
theorem d_Model_ways_70 : decode prog_14_method_59_code 70 = .ok (.invokevirtual 316, 3) := by decide +kernel
theorem d_Model_ways_73 : decode prog_14_method_59_code 73 = .ok (.iinc 2 1, 3) := by decide +kernel
theorem d_Model_ways_76 : decode prog_14_method_59_code 76 = .ok (.goto (-22), 3) := by decide +kernel
theorem d_Model_ways_79 : decode prog_14_method_59_code 79 = .ok (.lconst 0, 1) := by decide +kernel
theorem d_Model_ways_80 : decode prog_14_method_59_code 80 = .ok (.lstore_n 2, 1) := by decide +kernel
theorem d_Model_ways_81 : decode prog_14_method_59_code 81 = .ok (.iconst 0, 1) := by decide +kernel
theorem d_Model_ways_82 : decode prog_14_method_59_code 82 = .ok (.istore 4, 2) := by decide +kernel
theorem d_Model_ways_84 : decode prog_14_method_59_code 84 = .ok (.iload 4, 2) := by decide +kernel
theorem d_Model_ways_86 : decode prog_14_method_59_code 86 = .ok (.aload_n 0, 1) := by decide +kernel
theorem d_Model_ways_87 : decode prog_14_method_59_code 87 = .ok (.getfield 58, 3) := by decide +kernel
theorem d_Model_ways_90 : decode prog_14_method_59_code 90 = .ok (.iconst 0, 1) := by decide +kernel
theorem d_Model_ways_91 : decode prog_14_method_59_code 91 = .ok (.iaload, 1) := by decide +kernel
theorem d_Model_ways_92 : decode prog_14_method_59_code 92 = .ok (.if_icmp .ge 33, 3) := by decide +kernel
theorem d_Model_ways_95 : decode prog_14_method_59_code 95 = .ok (.lload_n 2, 1) := by decide +kernel
theorem d_Model_ways_96 : decode prog_14_method_59_code 96 = .ok (.aload_n 0, 1) := by decide +kernel
theorem d_Model_ways_97 : decode prog_14_method_59_code 97 = .ok (.iconst 0, 1) := by decide +kernel
theorem d_Model_ways_98 : decode prog_14_method_59_code 98 = .ok (.iload 4, 2) := by decide +kernel
theorem d_Model_ways_100 : decode prog_14_method_59_code 100 = .ok (.invokevirtual 256, 3) := by decide +kernel
theorem d_Model_ways_103 : decode prog_14_method_59_code 103 = .ok (.ifCond .eq 13, 3) := by decide +kernel
theorem d_Model_ways_106 : decode prog_14_method_59_code 106 = .ok (.aload_n 0, 1) := by decide +kernel
theorem d_Model_ways_107 : decode prog_14_method_59_code 107 = .ok (.getfield 92, 3) := by decide +kernel
theorem d_Model_ways_110 : decode prog_14_method_59_code 110 = .ok (.iload 4, 2) := by decide +kernel
theorem d_Model_ways_112 : decode prog_14_method_59_code 112 = .ok (.laload, 1) := by decide +kernel
theorem d_Model_ways_113 : decode prog_14_method_59_code 113 = .ok (.goto 4, 3) := by decide +kernel
theorem d_Model_ways_116 : decode prog_14_method_59_code 116 = .ok (.lconst 0, 1) := by decide +kernel
theorem d_Model_ways_117 : decode prog_14_method_59_code 117 = .ok (.ladd, 1) := by decide +kernel
theorem d_Model_ways_118 : decode prog_14_method_59_code 118 = .ok (.lstore_n 2, 1) := by decide +kernel
theorem d_Model_ways_119 : decode prog_14_method_59_code 119 = .ok (.iinc 4 1, 3) := by decide +kernel
theorem d_Model_ways_122 : decode prog_14_method_59_code 122 = .ok (.goto (-38), 3) := by decide +kernel
theorem d_Model_ways_125 : decode prog_14_method_59_code 125 = .ok (.lload_n 2, 1) := by decide +kernel
theorem d_Model_ways_126 : decode prog_14_method_59_code 126 = .ok (.ldc2_w 314, 3) := by decide +kernel
theorem d_Model_ways_129 : decode prog_14_method_59_code 129 = .ok (.lcmp, 1) := by decide +kernel
theorem d_Model_ways_130 : decode prog_14_method_59_code 130 = .ok (.ifCond .le 9, 3) := by decide +kernel
theorem d_Model_ways_133 : decode prog_14_method_59_code 133 = .ok (.ldc_w 319, 3) := by decide +kernel
theorem d_Model_ways_136 : decode prog_14_method_59_code 136 = .ok (.goto 5, 3) := by decide +kernel
theorem d_Model_ways_139 : decode prog_14_method_59_code 139 = .ok (.lload_n 2, 1) := by decide +kernel
theorem d_Model_ways_140 : decode prog_14_method_59_code 140 = .ok (.l2i, 1) := by decide +kernel
theorem d_Model_ways_141 : decode prog_14_method_59_code 141 = .ok (.ireturn, 1) := by decide +kernel
theorem d_Model_stepWays_0 : decode prog_14_method_58_code 0 = .ok (.iconst 0, 1) := by decide +kernel
theorem d_Model_stepWays_1 : decode prog_14_method_58_code 1 = .ok (.istore_n 2, 1) := by decide +kernel
theorem d_Model_stepWays_2 : decode prog_14_method_58_code 2 = .ok (.iload_n 2, 1) := by decide +kernel
theorem d_Model_stepWays_3 : decode prog_14_method_58_code 3 = .ok (.aload_n 0, 1) := by decide +kernel
theorem d_Model_stepWays_4 : decode prog_14_method_58_code 4 = .ok (.getfield 58, 3) := by decide +kernel
theorem d_Model_stepWays_7 : decode prog_14_method_58_code 7 = .ok (.iconst 0, 1) := by decide +kernel
theorem d_Model_stepWays_8 : decode prog_14_method_58_code 8 = .ok (.iaload, 1) := by decide +kernel
theorem d_Model_stepWays_9 : decode prog_14_method_58_code 9 = .ok (.if_icmp .ge 16, 3) := by decide +kernel
theorem d_Model_stepWays_12 : decode prog_14_method_58_code 12 = .ok (.aload_n 0, 1) := by decide +kernel
theorem d_Model_stepWays_13 : decode prog_14_method_58_code 13 = .ok (.getfield 95, 3) := by decide +kernel
theorem d_Model_stepWays_16 : decode prog_14_method_58_code 16 = .ok (.iload_n 2, 1) := by decide +kernel
theorem d_Model_stepWays_17 : decode prog_14_method_58_code 17 = .ok (.lconst 0, 1) := by decide +kernel
theorem d_Model_stepWays_18 : decode prog_14_method_58_code 18 = .ok (.lastore, 1) := by decide +kernel
theorem d_Model_stepWays_19 : decode prog_14_method_58_code 19 = .ok (.iinc 2 1, 3) := by decide +kernel
theorem d_Model_stepWays_22 : decode prog_14_method_58_code 22 = .ok (.goto (-20), 3) := by decide +kernel
theorem d_Model_stepWays_25 : decode prog_14_method_58_code 25 = .ok (.iconst 0, 1) := by decide +kernel
theorem d_Model_stepWays_26 : decode prog_14_method_58_code 26 = .ok (.istore_n 2, 1) := by decide +kernel
theorem d_Model_stepWays_27 : decode prog_14_method_58_code 27 = .ok (.iload_n 2, 1) := by decide +kernel
theorem d_Model_stepWays_28 : decode prog_14_method_58_code 28 = .ok (.aload_n 0, 1) := by decide +kernel
theorem d_Model_stepWays_29 : decode prog_14_method_58_code 29 = .ok (.getfield 70, 3) := by decide +kernel
theorem d_Model_stepWays_32 : decode prog_14_method_58_code 32 = .ok (.iconst 0, 1) := by decide +kernel
theorem d_Model_stepWays_33 : decode prog_14_method_58_code 33 = .ok (.iaload, 1) := by decide +kernel
theorem d_Model_stepWays_34 : decode prog_14_method_58_code 34 = .ok (.if_icmp .ge 76, 3) := by decide +kernel
theorem d_Model_stepWays_37 : decode prog_14_method_58_code 37 = .ok (.aload_n 0, 1) := by decide +kernel
theorem d_Model_stepWays_38 : decode prog_14_method_58_code 38 = .ok (.iconst 0, 1) := by decide +kernel
theorem d_Model_stepWays_39 : decode prog_14_method_58_code 39 = .ok (.iload_n 2, 1) := by decide +kernel
theorem d_Model_stepWays_40 : decode prog_14_method_58_code 40 = .ok (.iconst 2, 1) := by decide +kernel
theorem d_Model_stepWays_41 : decode prog_14_method_58_code 41 = .ok (.invokevirtual 225, 3) := by decide +kernel
theorem d_Model_stepWays_44 : decode prog_14_method_58_code 44 = .ok (.istore_n 3, 1) := by decide +kernel
theorem d_Model_stepWays_45 : decode prog_14_method_58_code 45 = .ok (.aload_n 0, 1) := by decide +kernel
theorem d_Model_stepWays_46 : decode prog_14_method_58_code 46 = .ok (.getfield 95, 3) := by decide +kernel
theorem d_Model_stepWays_49 : decode prog_14_method_58_code 49 = .ok (.iload_n 3, 1) := by decide +kernel
theorem d_Model_stepWays_50 : decode prog_14_method_58_code 50 = .ok (.laload, 1) := by decide +kernel
theorem d_Model_stepWays_51 : decode prog_14_method_58_code 51 = .ok (.aload_n 0, 1) := by decide +kernel
theorem d_Model_stepWays_52 : decode prog_14_method_58_code 52 = .ok (.iconst 0, 1) := by decide +kernel
theorem d_Model_stepWays_53 : decode prog_14_method_58_code 53 = .ok (.iload_n 2, 1) := by decide +kernel
theorem d_Model_stepWays_54 : decode prog_14_method_58_code 54 = .ok (.iconst 1, 1) := by decide +kernel
theorem d_Model_stepWays_55 : decode prog_14_method_58_code 55 = .ok (.invokevirtual 225, 3) := by decide +kernel
theorem d_Model_stepWays_58 : decode prog_14_method_58_code 58 = .ok (.iload_n 1, 1) := by decide +kernel
theorem d_Model_stepWays_59 : decode prog_14_method_58_code 59 = .ok (.if_icmp .ne 18, 3) := by decide +kernel
theorem d_Model_stepWays_62 : decode prog_14_method_58_code 62 = .ok (.aload_n 0, 1) := by decide +kernel
theorem d_Model_stepWays_63 : decode prog_14_method_58_code 63 = .ok (.getfield 92, 3) := by decide +kernel
theorem d_Model_stepWays_66 : decode prog_14_method_58_code 66 = .ok (.aload_n 0, 1) := by decide +kernel
theorem d_Model_stepWays_67 : decode prog_14_method_58_code 67 = .ok (.iconst 0, 1) := by decide +kernel
theorem d_Model_stepWays_68 : decode prog_14_method_58_code 68 = .ok (.iload_n 2, 1) := by decide +kernel
theorem d_Model_stepWays_69 : decode prog_14_method_58_code 69 = .ok (.iconst 0, 1) := by decide +kernel
theorem d_Model_stepWays_70 : decode prog_14_method_58_code 70 = .ok (.invokevirtual 225, 3) := by decide +kernel
theorem d_Model_stepWays_73 : decode prog_14_method_58_code 73 = .ok (.laload, 1) := by decide +kernel
theorem d_Model_stepWays_74 : decode prog_14_method_58_code 74 = .ok (.goto 4, 3) := by decide +kernel
theorem d_Model_stepWays_77 : decode prog_14_method_58_code 77 = .ok (.lconst 0, 1) := by decide +kernel
theorem d_Model_stepWays_78 : decode prog_14_method_58_code 78 = .ok (.ladd, 1) := by decide +kernel
theorem d_Model_stepWays_79 : decode prog_14_method_58_code 79 = .ok (.lstore 4, 2) := by decide +kernel
theorem d_Model_stepWays_81 : decode prog_14_method_58_code 81 = .ok (.aload_n 0, 1) := by decide +kernel
theorem d_Model_stepWays_82 : decode prog_14_method_58_code 82 = .ok (.getfield 95, 3) := by decide +kernel
theorem d_Model_stepWays_85 : decode prog_14_method_58_code 85 = .ok (.iload_n 3, 1) := by decide +kernel
theorem d_Model_stepWays_86 : decode prog_14_method_58_code 86 = .ok (.lload 4, 2) := by decide +kernel
theorem d_Model_stepWays_88 : decode prog_14_method_58_code 88 = .ok (.ldc2_w 314, 3) := by decide +kernel
theorem d_Model_stepWays_91 : decode prog_14_method_58_code 91 = .ok (.lcmp, 1) := by decide +kernel
theorem d_Model_stepWays_92 : decode prog_14_method_58_code 92 = .ok (.ifCond .le 9, 3) := by decide +kernel
theorem d_Model_stepWays_95 : decode prog_14_method_58_code 95 = .ok (.ldc2_w 314, 3) := by decide +kernel
theorem d_Model_stepWays_98 : decode prog_14_method_58_code 98 = .ok (.goto 5, 3) := by decide +kernel
theorem d_Model_stepWays_101 : decode prog_14_method_58_code 101 = .ok (.lload 4, 2) := by decide +kernel
theorem d_Model_stepWays_103 : decode prog_14_method_58_code 103 = .ok (.lastore, 1) := by decide +kernel
theorem d_Model_stepWays_104 : decode prog_14_method_58_code 104 = .ok (.iinc 2 1, 3) := by decide +kernel
theorem d_Model_stepWays_107 : decode prog_14_method_58_code 107 = .ok (.goto (-80), 3) := by decide +kernel
theorem d_Model_stepWays_110 : decode prog_14_method_58_code 110 = .ok (.iconst 0, 1) := by decide +kernel
theorem d_Model_stepWays_111 : decode prog_14_method_58_code 111 = .ok (.istore_n 2, 1) := by decide +kernel
theorem d_Model_stepWays_112 : decode prog_14_method_58_code 112 = .ok (.iload_n 2, 1) := by decide +kernel
theorem d_Model_stepWays_113 : decode prog_14_method_58_code 113 = .ok (.aload_n 0, 1) := by decide +kernel
theorem d_Model_stepWays_114 : decode prog_14_method_58_code 114 = .ok (.getfield 58, 3) := by decide +kernel
theorem d_Model_stepWays_117 : decode prog_14_method_58_code 117 = .ok (.iconst 0, 1) := by decide +kernel
theorem d_Model_stepWays_118 : decode prog_14_method_58_code 118 = .ok (.iaload, 1) := by decide +kernel
theorem d_Model_stepWays_119 : decode prog_14_method_58_code 119 = .ok (.if_icmp .ge 21, 3) := by decide +kernel
theorem d_Model_stepWays_122 : decode prog_14_method_58_code 122 = .ok (.aload_n 0, 1) := by decide +kernel
theorem d_Model_stepWays_123 : decode prog_14_method_58_code 123 = .ok (.getfield 92, 3) := by decide +kernel
theorem d_Model_stepWays_126 : decode prog_14_method_58_code 126 = .ok (.iload_n 2, 1) := by decide +kernel
theorem d_Model_stepWays_127 : decode prog_14_method_58_code 127 = .ok (.aload_n 0, 1) := by decide +kernel
theorem d_Model_stepWays_128 : decode prog_14_method_58_code 128 = .ok (.getfield 95, 3) := by decide +kernel
theorem d_Model_stepWays_131 : decode prog_14_method_58_code 131 = .ok (.iload_n 2, 1) := by decide +kernel
theorem d_Model_stepWays_132 : decode prog_14_method_58_code 132 = .ok (.laload, 1) := by decide +kernel
theorem d_Model_stepWays_133 : decode prog_14_method_58_code 133 = .ok (.lastore, 1) := by decide +kernel
theorem d_Model_stepWays_134 : decode prog_14_method_58_code 134 = .ok (.iinc 2 1, 3) := by decide +kernel
theorem d_Model_stepWays_137 : decode prog_14_method_58_code 137 = .ok (.goto (-25), 3) := by decide +kernel
theorem d_Model_stepWays_140 : decode prog_14_method_58_code 140 = .ok (.return_, 1) := by decide +kernel
theorem ll_1000000 : (1000000 : Int64).toInt = 1000000 := by decide +kernel
theorem zcl_1000000 : zJ 1000000 1000000 1000000 := ⟨by decide +kernel, by decide +kernel⟩
abbrev m_s2_Model_stepWays : Room := { frames := 1, cells := 0, slots := 0, locals := 23 }
set_option maxHeartbeats 4000000 in
set_option maxRecDepth 100000 in
theorem s2_Model_stepWays (l : Launch) (G : zG) (b0 : Nat) (b1 : Int32) (b2 : Int32) (b3 : Nat) (b4 : Nat) (b5 : Nat) (b6 : Nat) (b7 : Int32) (b8 : Nat) (b9 : Int32) (b10 : Int32) (b11 : Int32) (b12 : Int32) (b13 : Nat) (b14 : Nat) (b15 : Nat) (b16 : Int32) (b17 : Nat) (b18 : Nat) (b19 : Nat) (b20 : Nat) (b21 : Nat) (b22 : Nat) (b23 : Nat) (b24 : Nat) (b25 : Nat) (b26 : Nat) (b27 : Nat) (b28 : Nat) (b29 : Int32) (b30 : Nat) (b31 : Nat) (b32 : Int32) (b33 : Int32) (b34 : Int32) (b35 : Int32) (b36 : Nat) (b37 : Nat) (b38 : Nat) (b39 : Nat) (b40 : Nat) (b41 : Nat) (b42 : Nat) (b43 : Int32) (b44 : Nat) (b45 : Nat) (b46 : Int32) (b47 : Nat) (b48 : Nat) (b49 : Nat) (b50 : Nat) (b51 : Nat) (b52 : Int32) (b53 : Nat) (b54 : Nat) (b55 : Nat) (b56 : Nat → Int32) (b57 : Nat → Int32) (b58 : Nat → Int32) (b59 : Nat → Int64) (b60 : Nat → Int64) (hb1 : zI b1 0 9) (hb7 : zI b7 0 8) (hb9 : zI b9 0 240) (hb10 : zI b10 0 240) (hb12 : zI b12 0 1) (hb16 : zI b16 0 12) (hb29 : zI b29 0 1) (hb32 : zI b32 0 1) (hb43 : zI b43 0 1000) (hb46 : zI b46 0 1000) (hb52 : zI b52 0 400) (hb56 : zR b56 0 241) (hb57 : zR b57 0 240) (hb58 : zqa qE b58) : zM l G y_Model_stepWays prog_14_method_58_code 6 (Option.none : Option Jvm.ClassFile.FieldType) m_s2_Model_stepWays [.ref b0, .int b1] [(b0, .inr (12, [.int b2, .ref b3, .ref b4, .ref b5, .ref b6, .int b7, .ref b8, .int b9, .int b10, .int b11, .int b12, .ref b13, .ref b14, .ref b15, .int b16, .ref b17, .ref b18, .ref b19, .ref b20, .ref b21, .ref b22, .ref b23, .ref b24, .ref b25, .ref b26, .ref b27, .ref b28, .int b29, .ref b30, .ref b31, .int b32, .int b33, .int b34, .int b35, .ref b36, .ref b37, .ref b38, .ref b39, .ref b40, .ref b41, .ref b42, .int b43, .ref b44, .ref b45, .int b46, .ref b47, .ref b48, .ref b49, .ref b50, .ref b51, .int b52, .ref b53, .ref b54, .ref b55])), (b23, .inl (G.2 0, 2, .inl b56)), (b27, .inl (G.2 0, 2, .inl b57)), (b28, .inl (G.2 0, 2880, .inl b58)), (b39, .inl (G.2 1, 241, .inr (.inl b59))), (b40, .inl (G.2 1, 241, .inr (.inl b60)))] (fun v w => ∃ (e0 : Nat → Int64), ∃ (e1 : Nat → Int64), v = none ∧ w = [(b0, .inr (12, [.int b2, .ref b3, .ref b4, .ref b5, .ref b6, .int b7, .ref b8, .int b9, .int b10, .int b11, .int b12, .ref b13, .ref b14, .ref b15, .int b16, .ref b17, .ref b18, .ref b19, .ref b20, .ref b21, .ref b22, .ref b23, .ref b24, .ref b25, .ref b26, .ref b27, .ref b28, .int b29, .ref b30, .ref b31, .int b32, .int b33, .int b34, .int b35, .ref b36, .ref b37, .ref b38, .ref b39, .ref b40, .ref b41, .ref b42, .int b43, .ref b44, .ref b45, .int b46, .ref b47, .ref b48, .ref b49, .ref b50, .ref b51, .int b52, .ref b53, .ref b54, .ref b55])), (b23, .inl (G.2 0, 2, .inl b56)), (b27, .inl (G.2 0, 2, .inl b57)), (b28, .inl (G.2 0, 2880, .inl b58)), (b39, .inl (G.2 1, 241, .inr (.inl e0))), (b40, .inl (G.2 1, 241, .inr (.inl e1)))]) := by
  refine z_start (by decide +kernel) (Nat.le_of_ble_eq_true rfl) ?_
  intro p e s m below meth c A Z hr hnm hA hP hD hS ls hl
  have Z : zC p s m _ meth c prog_14_method_58_code 6 "TraceMachinesModel" G := Z
  obtain ⟨hx, hb, hml, hown, hts, hK, hN, hlocks⟩ := id Z
  have hl : lv_has ls 6 [(0, .ref b0), (1, .int b1)] := hl
  refine lv_iconst (v := 0) hx hb d_Model_stepWays_0 (by decide) ?_
  refine lv_istore_n (lv' := [(2, .int 0), (0, .ref b0), (1, .int b1)]) hx hb d_Model_stepWays_1 rfl hl (by decide) rfl (fun ls hl => ?_)
  suffices key : ∀ (k_143 : Nat) (y_144 : Int32) (y_145 : Nat → Int64) (H : Heap) (locs : List Loc) (ls : Array Slot), (zI y_144 0 241) → (241 : Int) - y_144.toInt < (k_143 : Int) → va_P G.1 classes [(b0, .inr (12, [.int b2, .ref b3, .ref b4, .ref b5, .ref b6, .int b7, .ref b8, .int b9, .int b10, .int b11, .int b12, .ref b13, .ref b14, .ref b15, .int b16, .ref b17, .ref b18, .ref b19, .ref b20, .ref b21, .ref b22, .ref b23, .ref b24, .ref b25, .ref b26, .ref b27, .ref b28, .int b29, .ref b30, .ref b31, .int b32, .int b33, .int b34, .int b35, .ref b36, .ref b37, .ref b38, .ref b39, .ref b40, .ref b41, .ref b42, .int b43, .ref b44, .ref b45, .int b46, .ref b47, .ref b48, .ref b49, .ref b50, .ref b51, .int b52, .ref b53, .ref b54, .ref b55])), (b23, .inl (G.2 0, 2, .inl b56)), (b27, .inl (G.2 0, 2, .inl b57)), (b28, .inl (G.2 0, 2880, .inl b58)), (b39, .inl (G.2 1, 241, .inr (.inl b59))), (b40, .inl (G.2 1, 241, .inr (.inl y_145)))] H → va_D A [(b0, .inr (12, [.int b2, .ref b3, .ref b4, .ref b5, .ref b6, .int b7, .ref b8, .int b9, .int b10, .int b11, .int b12, .ref b13, .ref b14, .ref b15, .int b16, .ref b17, .ref b18, .ref b19, .ref b20, .ref b21, .ref b22, .ref b23, .ref b24, .ref b25, .ref b26, .ref b27, .ref b28, .int b29, .ref b30, .ref b31, .int b32, .int b33, .int b34, .int b35, .ref b36, .ref b37, .ref b38, .ref b39, .ref b40, .ref b41, .ref b42, .int b43, .ref b44, .ref b45, .int b46, .ref b47, .ref b48, .ref b49, .ref b50, .ref b51, .int b52, .ref b53, .ref b54, .ref b55])), (b23, .inl (G.2 0, 2, .inl b56)), (b27, .inl (G.2 0, 2, .inl b57)), (b28, .inl (G.2 0, 2880, .inl b58)), (b39, .inl (G.2 1, 241, .inr (.inl b59))), (b40, .inl (G.2 1, 241, .inr (.inl y_145)))] → va_S A s.heap H locs → lv_has ls 6 [(2, .int y_144), (0, .ref b0), (1, .int b1)] → W p l e m_s2_Model_stepWays s m ([.ref b0, .int b1] : List Value).toArray below meth c H locs 0 0 (MQ below (zQ G (fun v w => ∃ (e0 : Nat → Int64), ∃ (e1 : Nat → Int64), v = none ∧ w = [(b0, .inr (12, [.int b2, .ref b3, .ref b4, .ref b5, .ref b6, .int b7, .ref b8, .int b9, .int b10, .int b11, .int b12, .ref b13, .ref b14, .ref b15, .int b16, .ref b17, .ref b18, .ref b19, .ref b20, .ref b21, .ref b22, .ref b23, .ref b24, .ref b25, .ref b26, .ref b27, .ref b28, .int b29, .ref b30, .ref b31, .int b32, .int b33, .int b34, .int b35, .ref b36, .ref b37, .ref b38, .ref b39, .ref b40, .ref b41, .ref b42, .int b43, .ref b44, .ref b45, .int b46, .ref b47, .ref b48, .ref b49, .ref b50, .ref b51, .int b52, .ref b53, .ref b54, .ref b55])), (b23, .inl (G.2 0, 2, .inl b56)), (b27, .inl (G.2 0, 2, .inl b57)), (b28, .inl (G.2 0, 2880, .inl b58)), (b39, .inl (G.2 1, 241, .inr (.inl e0))), (b40, .inl (G.2 1, 241, .inr (.inl e1)))]) A) ([.ref b0, .int b1] : List Value).toArray s m_s2_Model_stepWays.cells m_s2_Model_stepWays.slots A) (F0 m 2 ls []) by
    exact key 242 (0) (b60) _ _ _ (zI.wk (l' := 0) (h' := 241) zc_0 (by decide)) (zm_upi (zI.wk (l' := 0) (h' := 241) zc_0 (by decide)) (by decide)) hP hD hS (lv_sub hl [0, 1, 2] rfl)
  intro k_143
  induction k_143 with
  | zero =>
    intro y_144 y_145 H locs ls hy_144 hmk_143 hP hD hS hl
    exact (zm_up0 hy_144 hmk_143).elim
  | succ k_143 ihk_143 =>
    intro y_144 y_145 H locs ls hy_144 hmk_143 hP hD hS hl
    refine lv_iload_n hx hb d_Model_stepWays_2 rfl (lv_at hl 0 rfl) ?_
    refine lv_aload_n hx hb d_Model_stepWays_3 rfl (lv_at hl 1 rfl) ?_
    refine va_get (D := G.1) (ci := 12) (v := .ref b23) (C := R_Model) (T := F_Model) (N := 54) hx hb hts i_Model hown hK hP 0 rfl rfl 21 (by decide) (hts _ q1130) (fun _ h9 => h9) rfl d_Model_stepWays_4 ?_
    refine lv_iconst (v := 0) hx hb d_Model_stepWays_7 (by decide) ?_
    refine va_iald hx hb hK hP 1 0 rfl rfl (i := 0) (z_in rfl) d_Model_stepWays_8 ?_
    refine lv_topi (fun v_146 ev_146 => ?_)
    have hv_146 : zI v_146 0 241 := (hb56 _).eq ev_146
    refine lv_icmp_ge (tgt := 25) hx hb d_Model_stepWays_9 (by decide) (fun hc_147 => ?_) (fun hc_147 => ?_)
    · have _nhc_147 := hc_147
      have ni_148 := (fa_le _ _).mp hc_147
      refine lv_iconst (v := 0) hx hb d_Model_stepWays_25 (by decide) ?_
      refine lv_istore_n (lv' := [(2, .int 0), (0, .ref b0), (1, .int b1)]) hx hb d_Model_stepWays_26 rfl hl (by decide) rfl (fun ls hl => ?_)
      suffices key : ∀ (k_215 : Nat) (y_216 : Int32) (y_217 : Nat → Int64) (H : Heap) (locs : List Loc) (ls : Array Slot), (zI y_216 0 240) → (240 : Int) - y_216.toInt < (k_215 : Int) → va_P G.1 classes [(b0, .inr (12, [.int b2, .ref b3, .ref b4, .ref b5, .ref b6, .int b7, .ref b8, .int b9, .int b10, .int b11, .int b12, .ref b13, .ref b14, .ref b15, .int b16, .ref b17, .ref b18, .ref b19, .ref b20, .ref b21, .ref b22, .ref b23, .ref b24, .ref b25, .ref b26, .ref b27, .ref b28, .int b29, .ref b30, .ref b31, .int b32, .int b33, .int b34, .int b35, .ref b36, .ref b37, .ref b38, .ref b39, .ref b40, .ref b41, .ref b42, .int b43, .ref b44, .ref b45, .int b46, .ref b47, .ref b48, .ref b49, .ref b50, .ref b51, .int b52, .ref b53, .ref b54, .ref b55])), (b23, .inl (G.2 0, 2, .inl b56)), (b27, .inl (G.2 0, 2, .inl b57)), (b28, .inl (G.2 0, 2880, .inl b58)), (b39, .inl (G.2 1, 241, .inr (.inl b59))), (b40, .inl (G.2 1, 241, .inr (.inl y_217)))] H → va_D A [(b0, .inr (12, [.int b2, .ref b3, .ref b4, .ref b5, .ref b6, .int b7, .ref b8, .int b9, .int b10, .int b11, .int b12, .ref b13, .ref b14, .ref b15, .int b16, .ref b17, .ref b18, .ref b19, .ref b20, .ref b21, .ref b22, .ref b23, .ref b24, .ref b25, .ref b26, .ref b27, .ref b28, .int b29, .ref b30, .ref b31, .int b32, .int b33, .int b34, .int b35, .ref b36, .ref b37, .ref b38, .ref b39, .ref b40, .ref b41, .ref b42, .int b43, .ref b44, .ref b45, .int b46, .ref b47, .ref b48, .ref b49, .ref b50, .ref b51, .int b52, .ref b53, .ref b54, .ref b55])), (b23, .inl (G.2 0, 2, .inl b56)), (b27, .inl (G.2 0, 2, .inl b57)), (b28, .inl (G.2 0, 2880, .inl b58)), (b39, .inl (G.2 1, 241, .inr (.inl b59))), (b40, .inl (G.2 1, 241, .inr (.inl y_217)))] → va_S A s.heap H locs → lv_has ls 6 [(2, .int y_216), (0, .ref b0), (1, .int b1)] → W p l e m_s2_Model_stepWays s m ([.ref b0, .int b1] : List Value).toArray below meth c H locs 0 0 (MQ below (zQ G (fun v w => ∃ (e0 : Nat → Int64), ∃ (e1 : Nat → Int64), v = none ∧ w = [(b0, .inr (12, [.int b2, .ref b3, .ref b4, .ref b5, .ref b6, .int b7, .ref b8, .int b9, .int b10, .int b11, .int b12, .ref b13, .ref b14, .ref b15, .int b16, .ref b17, .ref b18, .ref b19, .ref b20, .ref b21, .ref b22, .ref b23, .ref b24, .ref b25, .ref b26, .ref b27, .ref b28, .int b29, .ref b30, .ref b31, .int b32, .int b33, .int b34, .int b35, .ref b36, .ref b37, .ref b38, .ref b39, .ref b40, .ref b41, .ref b42, .int b43, .ref b44, .ref b45, .int b46, .ref b47, .ref b48, .ref b49, .ref b50, .ref b51, .int b52, .ref b53, .ref b54, .ref b55])), (b23, .inl (G.2 0, 2, .inl b56)), (b27, .inl (G.2 0, 2, .inl b57)), (b28, .inl (G.2 0, 2880, .inl b58)), (b39, .inl (G.2 1, 241, .inr (.inl e0))), (b40, .inl (G.2 1, 241, .inr (.inl e1)))]) A) ([.ref b0, .int b1] : List Value).toArray s m_s2_Model_stepWays.cells m_s2_Model_stepWays.slots A) (F0 m 27 ls []) by
        exact key 241 (0) (y_145) _ _ _ (zI.wk (l' := 0) (h' := 240) zc_0 (by decide)) (zm_upi (zI.wk (l' := 0) (h' := 240) zc_0 (by decide)) (by decide)) hP hD hS (lv_sub hl [0, 1, 2] rfl)
      intro k_215
      induction k_215 with
      | zero =>
        intro y_216 y_217 H locs ls hy_216 hmk_215 hP hD hS hl
        exact (zm_up0 hy_216 hmk_215).elim
      | succ k_215 ihk_215 =>
        intro y_216 y_217 H locs ls hy_216 hmk_215 hP hD hS hl
        refine lv_iload_n hx hb d_Model_stepWays_27 rfl (lv_at hl 0 rfl) ?_
        refine lv_aload_n hx hb d_Model_stepWays_28 rfl (lv_at hl 1 rfl) ?_
        refine va_get (D := G.1) (ci := 12) (v := .ref b27) (C := R_Model) (T := F_Model) (N := 54) hx hb hts i_Model hown hK hP 0 rfl rfl 25 (by decide) (hts _ q1134) (fun _ h9 => h9) rfl d_Model_stepWays_29 ?_
        refine lv_iconst (v := 0) hx hb d_Model_stepWays_32 (by decide) ?_
        refine va_iald hx hb hK hP 2 0 rfl rfl (i := 0) (z_in rfl) d_Model_stepWays_33 ?_
        refine lv_topi (fun v_218 ev_218 => ?_)
        have hv_218 : zI v_218 0 240 := (hb57 _).eq ev_218
        refine lv_icmp_ge (tgt := 110) hx hb d_Model_stepWays_34 (by decide) (fun hc_219 => ?_) (fun hc_219 => ?_)
        · have _nhc_219 := hc_219
          have ni_220 := (fa_le _ _).mp hc_219
          refine lv_iconst (v := 0) hx hb d_Model_stepWays_110 (by decide) ?_
          refine lv_istore_n (lv' := [(2, .int 0), (0, .ref b0), (1, .int b1)]) hx hb d_Model_stepWays_111 rfl hl (by decide) rfl (fun ls hl => ?_)
          suffices key : ∀ (k_232 : Nat) (y_233 : Int32) (y_234 : Nat → Int64) (H : Heap) (locs : List Loc) (ls : Array Slot), (zI y_233 0 241) → (241 : Int) - y_233.toInt < (k_232 : Int) → va_P G.1 classes [(b0, .inr (12, [.int b2, .ref b3, .ref b4, .ref b5, .ref b6, .int b7, .ref b8, .int b9, .int b10, .int b11, .int b12, .ref b13, .ref b14, .ref b15, .int b16, .ref b17, .ref b18, .ref b19, .ref b20, .ref b21, .ref b22, .ref b23, .ref b24, .ref b25, .ref b26, .ref b27, .ref b28, .int b29, .ref b30, .ref b31, .int b32, .int b33, .int b34, .int b35, .ref b36, .ref b37, .ref b38, .ref b39, .ref b40, .ref b41, .ref b42, .int b43, .ref b44, .ref b45, .int b46, .ref b47, .ref b48, .ref b49, .ref b50, .ref b51, .int b52, .ref b53, .ref b54, .ref b55])), (b23, .inl (G.2 0, 2, .inl b56)), (b27, .inl (G.2 0, 2, .inl b57)), (b28, .inl (G.2 0, 2880, .inl b58)), (b39, .inl (G.2 1, 241, .inr (.inl y_234))), (b40, .inl (G.2 1, 241, .inr (.inl y_217)))] H → va_D A [(b0, .inr (12, [.int b2, .ref b3, .ref b4, .ref b5, .ref b6, .int b7, .ref b8, .int b9, .int b10, .int b11, .int b12, .ref b13, .ref b14, .ref b15, .int b16, .ref b17, .ref b18, .ref b19, .ref b20, .ref b21, .ref b22, .ref b23, .ref b24, .ref b25, .ref b26, .ref b27, .ref b28, .int b29, .ref b30, .ref b31, .int b32, .int b33, .int b34, .int b35, .ref b36, .ref b37, .ref b38, .ref b39, .ref b40, .ref b41, .ref b42, .int b43, .ref b44, .ref b45, .int b46, .ref b47, .ref b48, .ref b49, .ref b50, .ref b51, .int b52, .ref b53, .ref b54, .ref b55])), (b23, .inl (G.2 0, 2, .inl b56)), (b27, .inl (G.2 0, 2, .inl b57)), (b28, .inl (G.2 0, 2880, .inl b58)), (b39, .inl (G.2 1, 241, .inr (.inl y_234))), (b40, .inl (G.2 1, 241, .inr (.inl y_217)))] → va_S A s.heap H locs → lv_has ls 6 [(2, .int y_233), (0, .ref b0), (1, .int b1)] → W p l e m_s2_Model_stepWays s m ([.ref b0, .int b1] : List Value).toArray below meth c H locs 0 0 (MQ below (zQ G (fun v w => ∃ (e0 : Nat → Int64), ∃ (e1 : Nat → Int64), v = none ∧ w = [(b0, .inr (12, [.int b2, .ref b3, .ref b4, .ref b5, .ref b6, .int b7, .ref b8, .int b9, .int b10, .int b11, .int b12, .ref b13, .ref b14, .ref b15, .int b16, .ref b17, .ref b18, .ref b19, .ref b20, .ref b21, .ref b22, .ref b23, .ref b24, .ref b25, .ref b26, .ref b27, .ref b28, .int b29, .ref b30, .ref b31, .int b32, .int b33, .int b34, .int b35, .ref b36, .ref b37, .ref b38, .ref b39, .ref b40, .ref b41, .ref b42, .int b43, .ref b44, .ref b45, .int b46, .ref b47, .ref b48, .ref b49, .ref b50, .ref b51, .int b52, .ref b53, .ref b54, .ref b55])), (b23, .inl (G.2 0, 2, .inl b56)), (b27, .inl (G.2 0, 2, .inl b57)), (b28, .inl (G.2 0, 2880, .inl b58)), (b39, .inl (G.2 1, 241, .inr (.inl e0))), (b40, .inl (G.2 1, 241, .inr (.inl e1)))]) A) ([.ref b0, .int b1] : List Value).toArray s m_s2_Model_stepWays.cells m_s2_Model_stepWays.slots A) (F0 m 112 ls []) by
            exact key 242 (0) (b59) _ _ _ (zI.wk (l' := 0) (h' := 241) zc_0 (by decide)) (zm_upi (zI.wk (l' := 0) (h' := 241) zc_0 (by decide)) (by decide)) hP hD hS (lv_sub hl [0, 1, 2] rfl)
          intro k_232
          induction k_232 with
          | zero =>
            intro y_233 y_234 H locs ls hy_233 hmk_232 hP hD hS hl
            exact (zm_up0 hy_233 hmk_232).elim
          | succ k_232 ihk_232 =>
            intro y_233 y_234 H locs ls hy_233 hmk_232 hP hD hS hl
            refine lv_iload_n hx hb d_Model_stepWays_112 rfl (lv_at hl 0 rfl) ?_
            refine lv_aload_n hx hb d_Model_stepWays_113 rfl (lv_at hl 1 rfl) ?_
            refine va_get (D := G.1) (ci := 12) (v := .ref b23) (C := R_Model) (T := F_Model) (N := 54) hx hb hts i_Model hown hK hP 0 rfl rfl 21 (by decide) (hts _ q1130) (fun _ h9 => h9) rfl d_Model_stepWays_114 ?_
            refine lv_iconst (v := 0) hx hb d_Model_stepWays_117 (by decide) ?_
            refine va_iald hx hb hK hP 1 0 rfl rfl (i := 0) (z_in rfl) d_Model_stepWays_118 ?_
            refine lv_topi (fun v_235 ev_235 => ?_)
            obtain rfl : v_146 = v_235 := ev_146.trans ev_235.symm
            refine lv_icmp_ge (tgt := 140) hx hb d_Model_stepWays_119 (by decide) (fun hc_236 => ?_) (fun hc_236 => ?_)
            · have _nhc_236 := hc_236
              have ni_237 := (fa_le _ _).mp hc_236
              exact z_vret hx hb hr hlocks hP hD hS (Nat.le_of_ble_eq_true rfl) (Nat.le_of_ble_eq_true rfl) d_Model_stepWays_140 ⟨y_234, y_217, rfl, rfl⟩
            · have _nhc_236 := hc_236
              have ni_238 := (fa_lt _ _).mp (zi_nle hc_236)
              have hv_239 : zI y_233 0 240 := zI.lt_l hy_233 hv_146 (zi_nle hc_236) (by decide)
              have hv_240 : zI v_146 1 241 := zI.lt_r hy_233 hv_146 (zi_nle hc_236) (by decide)
              refine lv_aload_n hx hb d_Model_stepWays_122 rfl (lv_at hl 1 rfl) ?_
              refine va_get (D := G.1) (ci := 12) (v := .ref b39) (C := R_Model) (T := F_Model) (N := 54) hx hb hts i_Model hown hK hP 0 rfl rfl 37 (by decide) (hts _ q1146) (fun _ h9 => h9) rfl d_Model_stepWays_123 ?_
              refine lv_iload_n hx hb d_Model_stepWays_126 rfl (lv_at hl 0 rfl) ?_
              refine lv_aload_n hx hb d_Model_stepWays_127 rfl (lv_at hl 1 rfl) ?_
              refine va_get (D := G.1) (ci := 12) (v := .ref b40) (C := R_Model) (T := F_Model) (N := 54) hx hb hts i_Model hown hK hP 0 rfl rfl 38 (by decide) (hts _ q1147) (fun _ h9 => h9) rfl d_Model_stepWays_128 ?_
              refine lv_iload_n hx hb d_Model_stepWays_131 rfl (lv_at hl 0 rfl) ?_
              refine va_lald hx hb hK hP 5 1 rfl rfl (zI.inn hv_239 (by decide)) d_Model_stepWays_132 ?_
              refine lv_topl (fun v_241 ev_241 => ?_)
              refine va_last hx hb hK hP hD hS 4 1 rfl rfl (zI.inn hv_239 (by decide)) d_Model_stepWays_133 (fun H locs hP hD hS => ?_)
              obtain ⟨f_242, hP, hD⟩ := z_newL 4 hP hD rfl
              have hP : va_P G.1 classes [(b0, .inr (12, [.int b2, .ref b3, .ref b4, .ref b5, .ref b6, .int b7, .ref b8, .int b9, .int b10, .int b11, .int b12, .ref b13, .ref b14, .ref b15, .int b16, .ref b17, .ref b18, .ref b19, .ref b20, .ref b21, .ref b22, .ref b23, .ref b24, .ref b25, .ref b26, .ref b27, .ref b28, .int b29, .ref b30, .ref b31, .int b32, .int b33, .int b34, .int b35, .ref b36, .ref b37, .ref b38, .ref b39, .ref b40, .ref b41, .ref b42, .int b43, .ref b44, .ref b45, .int b46, .ref b47, .ref b48, .ref b49, .ref b50, .ref b51, .int b52, .ref b53, .ref b54, .ref b55])), (b23, .inl (G.2 0, 2, .inl b56)), (b27, .inl (G.2 0, 2, .inl b57)), (b28, .inl (G.2 0, 2880, .inl b58)), (b39, .inl (G.2 1, 241, .inr (.inl f_242))), (b40, .inl (G.2 1, 241, .inr (.inl y_217)))] H := hP
              have hD := z_tie hP hD rfl
              obtain ⟨v_243, ev_243⟩ : ∃ z : Int32, z = y_233 + 1 := ⟨_, rfl⟩
              obtain ⟨qv_243, hv_243⟩ := zI_add (l := 1) (h := 241) hv_239 zc_1 ev_243 (by decide)
              rw [li_1] at qv_243
              refine lv_iinc (v := v_243) (lv' := [(2, .int v_243), (0, .ref b0), (1, .int b1)]) hx hb d_Model_stepWays_134 hl (k := 0) rfl (by rw [ev_243]; rfl) (by decide) rfl (fun ls hl => ?_)
              refine lv_goto (tgt := 112) hx hb d_Model_stepWays_137 (by decide) ?_
              exact ihk_232 (v_243) (f_242) _ _ _ (zI.wk (l' := 0) (h' := 241) hv_243 (by decide)) (zm_up qv_243 hmk_232 (by decide)) hP hD hS (lv_sub hl [0, 1, 2] rfl)
        · have _nhc_219 := hc_219
          have ni_244 := (fa_lt _ _).mp (zi_nle hc_219)
          have hv_245 : zI y_216 0 239 := zI.lt_l hy_216 hv_218 (zi_nle hc_219) (by decide)
          have hv_246 : zI v_218 1 240 := zI.lt_r hy_216 hv_218 (zi_nle hc_219) (by decide)
          refine lv_aload_n hx hb d_Model_stepWays_37 rfl (lv_at hl 1 rfl) ?_
          refine lv_iconst (v := 0) hx hb d_Model_stepWays_38 (by decide) ?_
          refine lv_iload_n hx hb d_Model_stepWays_39 rfl (lv_at hl 0 rfl) ?_
          refine lv_iconst (v := 2) hx hb d_Model_stepWays_40 (by decide) ?_
          refine z_callV (index := 225) (As := [.int 0, .int y_216, .int 2]) (rest := []) (wr := [(b23, .inl (G.2 0, 2, .inl b56)), (b27, .inl (G.2 0, 2, .inl b57)), (b39, .inl (G.2 1, 241, .inr (.inl b59))), (b40, .inl (G.2 1, 241, .inr (.inl y_217)))]) Z (s6_Model_edgeAt l G (b0) (y_216) (b2) (b3) (b4) (b5) (b6) (b7) (b8) (b9) (b10) (b11) (b12) (b13) (b14) (b15) (b16) (b17) (b18) (b19) (b20) (b21) (b22) (b23) (b24) (b25) (b26) (b27) (b28) (b29) (b30) (b31) (b32) (b33) (b34) (b35) (b36) (b37) (b38) (b39) (b40) (b41) (b42) (b43) (b44) (b45) (b46) (b47) (b48) (b49) (b50) (b51) (b52) (b53) (b54) (b55) (b58) (zI.wk (l' := 0) (h' := 240) hv_245 (by decide)) hb7 hb9 hb10 hb12 hb16 hb29 hb32 hb43 hb46 hb52 hb58) hl.1 q1408 q1410 qs68 q14 q1411 ⟨by decide, by decide, by show _ = some 3; decide +kernel⟩ ⟨Nat.le_of_ble_eq_true rfl, Nat.le_of_ble_eq_true rfl⟩ ⟨Nat.le_of_ble_eq_true rfl, Nat.le_of_ble_eq_true rfl⟩ rfl (Nat.le_of_ble_eq_true rfl) d_Model_stepWays_41 hP hD hS hA 0 12 rfl rfl rfl [0, 3] [1, 2, 4, 5] rfl rfl rfl rfl (by decide) (fun v w1 H locs hw_247 hP hD hS => ?_)
          obtain ⟨x_248, rfl, rfl, hx_248, hfx_249⟩ := hw_247
          have hP : va_P G.1 classes [(b23, .inl (G.2 0, 2, .inl b56)), (b27, .inl (G.2 0, 2, .inl b57)), (b39, .inl (G.2 1, 241, .inr (.inl b59))), (b40, .inl (G.2 1, 241, .inr (.inl y_217))), (b0, .inr (12, [.int b2, .ref b3, .ref b4, .ref b5, .ref b6, .int b7, .ref b8, .int b9, .int b10, .int b11, .int b12, .ref b13, .ref b14, .ref b15, .int b16, .ref b17, .ref b18, .ref b19, .ref b20, .ref b21, .ref b22, .ref b23, .ref b24, .ref b25, .ref b26, .ref b27, .ref b28, .int b29, .ref b30, .ref b31, .int b32, .int b33, .int b34, .int b35, .ref b36, .ref b37, .ref b38, .ref b39, .ref b40, .ref b41, .ref b42, .int b43, .ref b44, .ref b45, .int b46, .ref b47, .ref b48, .ref b49, .ref b50, .ref b51, .int b52, .ref b53, .ref b54, .ref b55])), (b28, .inl (G.2 0, 2880, .inl b58))] H := hP
          have hD := z_tie hP hD rfl
          refine W.widen (k := 0) (n := 0) (Nat.le_of_ble_eq_true rfl) (Nat.le_of_ble_eq_true rfl) ?_
          refine lv_istore_n (lv' := [(3, .int x_248), (2, .int y_216), (0, .ref b0), (1, .int b1)]) hx hb d_Model_stepWays_44 rfl hl (by decide) rfl (fun ls hl => ?_)
          refine lv_aload_n hx hb d_Model_stepWays_45 rfl (lv_at hl 2 rfl) ?_
          refine va_get (D := G.1) (ci := 12) (v := .ref b40) (C := R_Model) (T := F_Model) (N := 54) hx hb hts i_Model hown hK hP 4 rfl rfl 38 (by decide) (hts _ q1147) (fun _ h9 => h9) rfl d_Model_stepWays_46 ?_
          refine lv_iload_n hx hb d_Model_stepWays_49 rfl (lv_at hl 0 rfl) ?_
          refine va_lald hx hb hK hP 3 1 rfl rfl (zI.inn hx_248 (by decide)) d_Model_stepWays_50 ?_
          refine lv_topl (fun v_250 ev_250 => ?_)
          refine lv_aload_n hx hb d_Model_stepWays_51 rfl (lv_at hl 2 rfl) ?_
          refine lv_iconst (v := 0) hx hb d_Model_stepWays_52 (by decide) ?_
          refine lv_iload_n hx hb d_Model_stepWays_53 rfl (lv_at hl 1 rfl) ?_
          refine lv_iconst (v := 1) hx hb d_Model_stepWays_54 (by decide) ?_
          refine z_callV (index := 225) (As := [.int 0, .int y_216, .int 1]) (rest := [.long v_250]) (wr := [(b23, .inl (G.2 0, 2, .inl b56)), (b27, .inl (G.2 0, 2, .inl b57)), (b39, .inl (G.2 1, 241, .inr (.inl b59))), (b40, .inl (G.2 1, 241, .inr (.inl y_217)))]) Z (s5_Model_edgeAt l G (b0) (y_216) (b2) (b3) (b4) (b5) (b6) (b7) (b8) (b9) (b10) (b11) (b12) (b13) (b14) (b15) (b16) (b17) (b18) (b19) (b20) (b21) (b22) (b23) (b24) (b25) (b26) (b27) (b28) (b29) (b30) (b31) (b32) (b33) (b34) (b35) (b36) (b37) (b38) (b39) (b40) (b41) (b42) (b43) (b44) (b45) (b46) (b47) (b48) (b49) (b50) (b51) (b52) (b53) (b54) (b55) (b58) (zI.wk (l' := 0) (h' := 240) hv_245 (by decide)) hb7 hb9 hb10 hb12 hb16 hb29 hb32 hb43 hb46 hb52 hb58) hl.1 q1408 q1410 qs68 q14 q1411 ⟨by decide, by decide, by show _ = some 3; decide +kernel⟩ ⟨Nat.le_of_ble_eq_true rfl, Nat.le_of_ble_eq_true rfl⟩ ⟨Nat.le_of_ble_eq_true rfl, Nat.le_of_ble_eq_true rfl⟩ rfl (Nat.le_of_ble_eq_true rfl) d_Model_stepWays_55 hP hD hS hA 4 12 rfl rfl rfl [4, 5] [0, 1, 2, 3] rfl rfl rfl rfl (by decide) (fun v w1 H locs hw_251 hP hD hS => ?_)
          obtain ⟨x_252, rfl, rfl, hx_252, hfx_253⟩ := hw_251
          have hP : va_P G.1 classes [(b23, .inl (G.2 0, 2, .inl b56)), (b27, .inl (G.2 0, 2, .inl b57)), (b39, .inl (G.2 1, 241, .inr (.inl b59))), (b40, .inl (G.2 1, 241, .inr (.inl y_217))), (b0, .inr (12, [.int b2, .ref b3, .ref b4, .ref b5, .ref b6, .int b7, .ref b8, .int b9, .int b10, .int b11, .int b12, .ref b13, .ref b14, .ref b15, .int b16, .ref b17, .ref b18, .ref b19, .ref b20, .ref b21, .ref b22, .ref b23, .ref b24, .ref b25, .ref b26, .ref b27, .ref b28, .int b29, .ref b30, .ref b31, .int b32, .int b33, .int b34, .int b35, .ref b36, .ref b37, .ref b38, .ref b39, .ref b40, .ref b41, .ref b42, .int b43, .ref b44, .ref b45, .int b46, .ref b47, .ref b48, .ref b49, .ref b50, .ref b51, .int b52, .ref b53, .ref b54, .ref b55])), (b28, .inl (G.2 0, 2880, .inl b58))] H := hP
          have hD := z_tie hP hD rfl
          refine W.widen (k := 0) (n := 0) (Nat.le_of_ble_eq_true rfl) (Nat.le_of_ble_eq_true rfl) ?_
          refine lv_iload_n hx hb d_Model_stepWays_58 rfl (lv_at hl 3 rfl) ?_
          refine lv_icmp_ne (tgt := 77) hx hb d_Model_stepWays_59 (by decide) (fun hc_254 => ?_) (fun hc_254 => ?_)
          · have _nhc_254 := hc_254
            have ni_255 : ¬ (x_252 : Int32).toInt = (b1 : Int32).toInt := fun z => hc_254 ((fa_eq _ _).mpr z)
            refine lv_lconst (v := 0) hx hb d_Model_stepWays_77 (by decide) ?_
            refine lv_ladd hx hb d_Model_stepWays_78 ?_
            refine lv_topl (fun v_256 ev_256 => ?_)
            refine lv_lstore (lv' := [(4, .long v_256), (3, .int x_248), (2, .int y_216), (0, .ref b0), (1, .int b1)]) hx hb d_Model_stepWays_79 hl (by decide) rfl (fun ls hl => ?_)
            refine lv_aload_n hx hb d_Model_stepWays_81 rfl (lv_at hl 3 rfl) ?_
            refine va_get (D := G.1) (ci := 12) (v := .ref b40) (C := R_Model) (T := F_Model) (N := 54) hx hb hts i_Model hown hK hP 4 rfl rfl 38 (by decide) (hts _ q1147) (fun _ h9 => h9) rfl d_Model_stepWays_82 ?_
            refine lv_iload_n hx hb d_Model_stepWays_85 rfl (lv_at hl 1 rfl) ?_
            refine lv_lload hx hb d_Model_stepWays_86 (lv_at hl 0 rfl) ?_
            refine lv_ldc2 hx hb hown (hts _ q1498) d_Model_stepWays_88 ?_
            refine W.lcmp hx hb d_Model_stepWays_91 ?_
            refine lv_topi (fun v_257 ev_257 => ?_)
            refine lv_if_le (tgt := 101) hx hb d_Model_stepWays_92 (by decide) (fun hc_258 => ?_) (fun hc_258 => ?_)
            · have ni_259 := hc_258
              rw [ev_257] at ni_259
              simp only [lg_cmp_lt, lg_cmp_le, lg_cmp_gt, lg_cmp_ge, lg_cmp_eq, fa_lt64, fa_le64, fa_eq64, Int32.toInt_toInt64, ll_1000000] at ni_259
              have hv_260 : zJ v_256 (-9223372036854775808) 1000000 := by have _a := ni_259; have _b := (zJ_all v_256); have _c := zcl_1000000; simp only [Int32.toInt_toInt64] at *; exact ⟨by omega, by omega⟩
              refine lv_lload hx hb d_Model_stepWays_101 (lv_at hl 0 rfl) ?_
              refine va_last hx hb hK hP hD hS 3 1 rfl rfl (zI.inn hx_248 (by decide)) d_Model_stepWays_103 (fun H locs hP hD hS => ?_)
              obtain ⟨f_261, hP, hD⟩ := z_newL 3 hP hD rfl
              have hP : va_P G.1 classes [(b23, .inl (G.2 0, 2, .inl b56)), (b27, .inl (G.2 0, 2, .inl b57)), (b39, .inl (G.2 1, 241, .inr (.inl b59))), (b40, .inl (G.2 1, 241, .inr (.inl f_261))), (b0, .inr (12, [.int b2, .ref b3, .ref b4, .ref b5, .ref b6, .int b7, .ref b8, .int b9, .int b10, .int b11, .int b12, .ref b13, .ref b14, .ref b15, .int b16, .ref b17, .ref b18, .ref b19, .ref b20, .ref b21, .ref b22, .ref b23, .ref b24, .ref b25, .ref b26, .ref b27, .ref b28, .int b29, .ref b30, .ref b31, .int b32, .int b33, .int b34, .int b35, .ref b36, .ref b37, .ref b38, .ref b39, .ref b40, .ref b41, .ref b42, .int b43, .ref b44, .ref b45, .int b46, .ref b47, .ref b48, .ref b49, .ref b50, .ref b51, .int b52, .ref b53, .ref b54, .ref b55])), (b28, .inl (G.2 0, 2880, .inl b58))] H := hP
              have hD := z_tie hP hD rfl
              obtain ⟨v_262, ev_262⟩ : ∃ z : Int32, z = y_216 + 1 := ⟨_, rfl⟩
              obtain ⟨qv_262, hv_262⟩ := zI_add (l := 1) (h := 240) hv_245 zc_1 ev_262 (by decide)
              rw [li_1] at qv_262
              refine lv_iinc (v := v_262) (lv' := [(2, .int v_262), (4, .long v_256), (3, .int x_248), (0, .ref b0), (1, .int b1)]) hx hb d_Model_stepWays_104 hl (k := 2) rfl (by rw [ev_262]; rfl) (by decide) rfl (fun ls hl => ?_)
              refine lv_goto (tgt := 27) hx hb d_Model_stepWays_107 (by decide) ?_
              exact ihk_215 (v_262) (f_261) _ _ _ (zI.wk (l' := 0) (h' := 240) hv_262 (by decide)) (zm_up qv_262 hmk_215 (by decide)) (hP.sub [4, 0, 1, 5, 2, 3] rfl) (hD.sub [4, 0, 1, 5, 2, 3] (by decide) rfl) hS (lv_sub hl [0, 3, 4] rfl)
            · have ni_263 := hc_258
              rw [ev_257] at ni_263
              simp only [lg_cmp_lt, lg_cmp_le, lg_cmp_gt, lg_cmp_ge, lg_cmp_eq, fa_lt64, fa_le64, fa_eq64, Int32.toInt_toInt64, ll_1000000] at ni_263
              have hv_264 : zJ v_256 1000001 9223372036854775807 := by have _a := ni_263; have _b := (zJ_all v_256); have _c := zcl_1000000; simp only [Int32.toInt_toInt64] at *; exact ⟨by omega, by omega⟩
              refine lv_ldc2 hx hb hown (hts _ q1498) d_Model_stepWays_95 ?_
              refine lv_goto (tgt := 103) hx hb d_Model_stepWays_98 (by decide) ?_
              refine va_last hx hb hK hP hD hS 3 1 rfl rfl (zI.inn hx_248 (by decide)) d_Model_stepWays_103 (fun H locs hP hD hS => ?_)
              obtain ⟨f_265, hP, hD⟩ := z_newL 3 hP hD rfl
              have hP : va_P G.1 classes [(b23, .inl (G.2 0, 2, .inl b56)), (b27, .inl (G.2 0, 2, .inl b57)), (b39, .inl (G.2 1, 241, .inr (.inl b59))), (b40, .inl (G.2 1, 241, .inr (.inl f_265))), (b0, .inr (12, [.int b2, .ref b3, .ref b4, .ref b5, .ref b6, .int b7, .ref b8, .int b9, .int b10, .int b11, .int b12, .ref b13, .ref b14, .ref b15, .int b16, .ref b17, .ref b18, .ref b19, .ref b20, .ref b21, .ref b22, .ref b23, .ref b24, .ref b25, .ref b26, .ref b27, .ref b28, .int b29, .ref b30, .ref b31, .int b32, .int b33, .int b34, .int b35, .ref b36, .ref b37, .ref b38, .ref b39, .ref b40, .ref b41, .ref b42, .int b43, .ref b44, .ref b45, .int b46, .ref b47, .ref b48, .ref b49, .ref b50, .ref b51, .int b52, .ref b53, .ref b54, .ref b55])), (b28, .inl (G.2 0, 2880, .inl b58))] H := hP
              have hD := z_tie hP hD rfl
              obtain ⟨v_266, ev_266⟩ : ∃ z : Int32, z = y_216 + 1 := ⟨_, rfl⟩
              obtain ⟨qv_266, hv_266⟩ := zI_add (l := 1) (h := 240) hv_245 zc_1 ev_266 (by decide)
              rw [li_1] at qv_266
              refine lv_iinc (v := v_266) (lv' := [(2, .int v_266), (4, .long v_256), (3, .int x_248), (0, .ref b0), (1, .int b1)]) hx hb d_Model_stepWays_104 hl (k := 2) rfl (by rw [ev_266]; rfl) (by decide) rfl (fun ls hl => ?_)
              refine lv_goto (tgt := 27) hx hb d_Model_stepWays_107 (by decide) ?_
              exact ihk_215 (v_266) (f_265) _ _ _ (zI.wk (l' := 0) (h' := 240) hv_266 (by decide)) (zm_up qv_266 hmk_215 (by decide)) (hP.sub [4, 0, 1, 5, 2, 3] rfl) (hD.sub [4, 0, 1, 5, 2, 3] (by decide) rfl) hS (lv_sub hl [0, 3, 4] rfl)
          · have _nhc_254 := hc_254
            have ni_267 := (fa_eq _ _).mp hc_254
            refine lv_aload_n hx hb d_Model_stepWays_62 rfl (lv_at hl 2 rfl) ?_
            refine va_get (D := G.1) (ci := 12) (v := .ref b39) (C := R_Model) (T := F_Model) (N := 54) hx hb hts i_Model hown hK hP 4 rfl rfl 37 (by decide) (hts _ q1146) (fun _ h9 => h9) rfl d_Model_stepWays_63 ?_
            refine lv_aload_n hx hb d_Model_stepWays_66 rfl (lv_at hl 2 rfl) ?_
            refine lv_iconst (v := 0) hx hb d_Model_stepWays_67 (by decide) ?_
            refine lv_iload_n hx hb d_Model_stepWays_68 rfl (lv_at hl 1 rfl) ?_
            refine lv_iconst (v := 0) hx hb d_Model_stepWays_69 (by decide) ?_
            refine z_callV (index := 225) (As := [.int 0, .int y_216, .int 0]) (rest := [.ref b39, .long v_250]) (wr := [(b23, .inl (G.2 0, 2, .inl b56)), (b27, .inl (G.2 0, 2, .inl b57)), (b39, .inl (G.2 1, 241, .inr (.inl b59))), (b40, .inl (G.2 1, 241, .inr (.inl y_217)))]) Z (s4_Model_edgeAt l G (b0) (y_216) (b2) (b3) (b4) (b5) (b6) (b7) (b8) (b9) (b10) (b11) (b12) (b13) (b14) (b15) (b16) (b17) (b18) (b19) (b20) (b21) (b22) (b23) (b24) (b25) (b26) (b27) (b28) (b29) (b30) (b31) (b32) (b33) (b34) (b35) (b36) (b37) (b38) (b39) (b40) (b41) (b42) (b43) (b44) (b45) (b46) (b47) (b48) (b49) (b50) (b51) (b52) (b53) (b54) (b55) (b58) (zI.wk (l' := 0) (h' := 240) hv_245 (by decide)) hb7 hb9 hb10 hb12 hb16 hb29 hb32 hb43 hb46 hb52 hb58) hl.1 q1408 q1410 qs68 q14 q1411 ⟨by decide, by decide, by show _ = some 3; decide +kernel⟩ ⟨Nat.le_of_ble_eq_true rfl, Nat.le_of_ble_eq_true rfl⟩ ⟨Nat.le_of_ble_eq_true rfl, Nat.le_of_ble_eq_true rfl⟩ rfl (Nat.le_of_ble_eq_true rfl) d_Model_stepWays_70 hP hD hS hA 4 12 rfl rfl rfl [4, 5] [0, 1, 2, 3] rfl rfl rfl rfl (by decide) (fun v w1 H locs hw_268 hP hD hS => ?_)
            obtain ⟨x_269, rfl, rfl, hx_269, hfx_270⟩ := hw_268
            have hP : va_P G.1 classes [(b23, .inl (G.2 0, 2, .inl b56)), (b27, .inl (G.2 0, 2, .inl b57)), (b39, .inl (G.2 1, 241, .inr (.inl b59))), (b40, .inl (G.2 1, 241, .inr (.inl y_217))), (b0, .inr (12, [.int b2, .ref b3, .ref b4, .ref b5, .ref b6, .int b7, .ref b8, .int b9, .int b10, .int b11, .int b12, .ref b13, .ref b14, .ref b15, .int b16, .ref b17, .ref b18, .ref b19, .ref b20, .ref b21, .ref b22, .ref b23, .ref b24, .ref b25, .ref b26, .ref b27, .ref b28, .int b29, .ref b30, .ref b31, .int b32, .int b33, .int b34, .int b35, .ref b36, .ref b37, .ref b38, .ref b39, .ref b40, .ref b41, .ref b42, .int b43, .ref b44, .ref b45, .int b46, .ref b47, .ref b48, .ref b49, .ref b50, .ref b51, .int b52, .ref b53, .ref b54, .ref b55])), (b28, .inl (G.2 0, 2880, .inl b58))] H := hP
            have hD := z_tie hP hD rfl
            refine W.widen (k := 0) (n := 0) (Nat.le_of_ble_eq_true rfl) (Nat.le_of_ble_eq_true rfl) ?_
            refine va_lald hx hb hK hP 2 1 rfl rfl (zI.inn hx_269 (by decide)) d_Model_stepWays_73 ?_
            refine lv_topl (fun v_271 ev_271 => ?_)
            refine lv_goto (tgt := 78) hx hb d_Model_stepWays_74 (by decide) ?_
            refine lv_ladd hx hb d_Model_stepWays_78 ?_
            refine lv_topl (fun v_272 ev_272 => ?_)
            refine lv_lstore (lv' := [(4, .long v_272), (3, .int x_248), (2, .int y_216), (0, .ref b0), (1, .int b1)]) hx hb d_Model_stepWays_79 hl (by decide) rfl (fun ls hl => ?_)
            refine lv_aload_n hx hb d_Model_stepWays_81 rfl (lv_at hl 3 rfl) ?_
            refine va_get (D := G.1) (ci := 12) (v := .ref b40) (C := R_Model) (T := F_Model) (N := 54) hx hb hts i_Model hown hK hP 4 rfl rfl 38 (by decide) (hts _ q1147) (fun _ h9 => h9) rfl d_Model_stepWays_82 ?_
            refine lv_iload_n hx hb d_Model_stepWays_85 rfl (lv_at hl 1 rfl) ?_
            refine lv_lload hx hb d_Model_stepWays_86 (lv_at hl 0 rfl) ?_
            refine lv_ldc2 hx hb hown (hts _ q1498) d_Model_stepWays_88 ?_
            refine W.lcmp hx hb d_Model_stepWays_91 ?_
            refine lv_topi (fun v_273 ev_273 => ?_)
            refine lv_if_le (tgt := 101) hx hb d_Model_stepWays_92 (by decide) (fun hc_274 => ?_) (fun hc_274 => ?_)
            · have ni_275 := hc_274
              rw [ev_273] at ni_275
              simp only [lg_cmp_lt, lg_cmp_le, lg_cmp_gt, lg_cmp_ge, lg_cmp_eq, fa_lt64, fa_le64, fa_eq64, Int32.toInt_toInt64, ll_1000000] at ni_275
              have hv_276 : zJ v_272 (-9223372036854775808) 1000000 := by have _a := ni_275; have _b := (zJ_all v_272); have _c := zcl_1000000; simp only [Int32.toInt_toInt64] at *; exact ⟨by omega, by omega⟩
              refine lv_lload hx hb d_Model_stepWays_101 (lv_at hl 0 rfl) ?_
              refine va_last hx hb hK hP hD hS 3 1 rfl rfl (zI.inn hx_248 (by decide)) d_Model_stepWays_103 (fun H locs hP hD hS => ?_)
              obtain ⟨f_277, hP, hD⟩ := z_newL 3 hP hD rfl
              have hP : va_P G.1 classes [(b23, .inl (G.2 0, 2, .inl b56)), (b27, .inl (G.2 0, 2, .inl b57)), (b39, .inl (G.2 1, 241, .inr (.inl b59))), (b40, .inl (G.2 1, 241, .inr (.inl f_277))), (b0, .inr (12, [.int b2, .ref b3, .ref b4, .ref b5, .ref b6, .int b7, .ref b8, .int b9, .int b10, .int b11, .int b12, .ref b13, .ref b14, .ref b15, .int b16, .ref b17, .ref b18, .ref b19, .ref b20, .ref b21, .ref b22, .ref b23, .ref b24, .ref b25, .ref b26, .ref b27, .ref b28, .int b29, .ref b30, .ref b31, .int b32, .int b33, .int b34, .int b35, .ref b36, .ref b37, .ref b38, .ref b39, .ref b40, .ref b41, .ref b42, .int b43, .ref b44, .ref b45, .int b46, .ref b47, .ref b48, .ref b49, .ref b50, .ref b51, .int b52, .ref b53, .ref b54, .ref b55])), (b28, .inl (G.2 0, 2880, .inl b58))] H := hP
              have hD := z_tie hP hD rfl
              obtain ⟨v_278, ev_278⟩ : ∃ z : Int32, z = y_216 + 1 := ⟨_, rfl⟩
              obtain ⟨qv_278, hv_278⟩ := zI_add (l := 1) (h := 240) hv_245 zc_1 ev_278 (by decide)
              rw [li_1] at qv_278
              refine lv_iinc (v := v_278) (lv' := [(2, .int v_278), (4, .long v_272), (3, .int x_248), (0, .ref b0), (1, .int b1)]) hx hb d_Model_stepWays_104 hl (k := 2) rfl (by rw [ev_278]; rfl) (by decide) rfl (fun ls hl => ?_)
              refine lv_goto (tgt := 27) hx hb d_Model_stepWays_107 (by decide) ?_
              exact ihk_215 (v_278) (f_277) _ _ _ (zI.wk (l' := 0) (h' := 240) hv_278 (by decide)) (zm_up qv_278 hmk_215 (by decide)) (hP.sub [4, 0, 1, 5, 2, 3] rfl) (hD.sub [4, 0, 1, 5, 2, 3] (by decide) rfl) hS (lv_sub hl [0, 3, 4] rfl)
            · have ni_279 := hc_274
              rw [ev_273] at ni_279
              simp only [lg_cmp_lt, lg_cmp_le, lg_cmp_gt, lg_cmp_ge, lg_cmp_eq, fa_lt64, fa_le64, fa_eq64, Int32.toInt_toInt64, ll_1000000] at ni_279
              have hv_280 : zJ v_272 1000001 9223372036854775807 := by have _a := ni_279; have _b := (zJ_all v_272); have _c := zcl_1000000; simp only [Int32.toInt_toInt64] at *; exact ⟨by omega, by omega⟩
              refine lv_ldc2 hx hb hown (hts _ q1498) d_Model_stepWays_95 ?_
              refine lv_goto (tgt := 103) hx hb d_Model_stepWays_98 (by decide) ?_
              refine va_last hx hb hK hP hD hS 3 1 rfl rfl (zI.inn hx_248 (by decide)) d_Model_stepWays_103 (fun H locs hP hD hS => ?_)
              obtain ⟨f_281, hP, hD⟩ := z_newL 3 hP hD rfl
              have hP : va_P G.1 classes [(b23, .inl (G.2 0, 2, .inl b56)), (b27, .inl (G.2 0, 2, .inl b57)), (b39, .inl (G.2 1, 241, .inr (.inl b59))), (b40, .inl (G.2 1, 241, .inr (.inl f_281))), (b0, .inr (12, [.int b2, .ref b3, .ref b4, .ref b5, .ref b6, .int b7, .ref b8, .int b9, .int b10, .int b11, .int b12, .ref b13, .ref b14, .ref b15, .int b16, .ref b17, .ref b18, .ref b19, .ref b20, .ref b21, .ref b22, .ref b23, .ref b24, .ref b25, .ref b26, .ref b27, .ref b28, .int b29, .ref b30, .ref b31, .int b32, .int b33, .int b34, .int b35, .ref b36, .ref b37, .ref b38, .ref b39, .ref b40, .ref b41, .ref b42, .int b43, .ref b44, .ref b45, .int b46, .ref b47, .ref b48, .ref b49, .ref b50, .ref b51, .int b52, .ref b53, .ref b54, .ref b55])), (b28, .inl (G.2 0, 2880, .inl b58))] H := hP
              have hD := z_tie hP hD rfl
              obtain ⟨v_282, ev_282⟩ : ∃ z : Int32, z = y_216 + 1 := ⟨_, rfl⟩
              obtain ⟨qv_282, hv_282⟩ := zI_add (l := 1) (h := 240) hv_245 zc_1 ev_282 (by decide)
              rw [li_1] at qv_282
              refine lv_iinc (v := v_282) (lv' := [(2, .int v_282), (4, .long v_272), (3, .int x_248), (0, .ref b0), (1, .int b1)]) hx hb d_Model_stepWays_104 hl (k := 2) rfl (by rw [ev_282]; rfl) (by decide) rfl (fun ls hl => ?_)
              refine lv_goto (tgt := 27) hx hb d_Model_stepWays_107 (by decide) ?_
              exact ihk_215 (v_282) (f_281) _ _ _ (zI.wk (l' := 0) (h' := 240) hv_282 (by decide)) (zm_up qv_282 hmk_215 (by decide)) (hP.sub [4, 0, 1, 5, 2, 3] rfl) (hD.sub [4, 0, 1, 5, 2, 3] (by decide) rfl) hS (lv_sub hl [0, 3, 4] rfl)
    · have _nhc_147 := hc_147
      have ni_283 := (fa_lt _ _).mp (zi_nle hc_147)
      have hv_284 : zI y_144 0 240 := zI.lt_l hy_144 hv_146 (zi_nle hc_147) (by decide)
      have hv_285 : zI v_146 1 241 := zI.lt_r hy_144 hv_146 (zi_nle hc_147) (by decide)
      refine lv_aload_n hx hb d_Model_stepWays_12 rfl (lv_at hl 1 rfl) ?_
      refine va_get (D := G.1) (ci := 12) (v := .ref b40) (C := R_Model) (T := F_Model) (N := 54) hx hb hts i_Model hown hK hP 0 rfl rfl 38 (by decide) (hts _ q1147) (fun _ h9 => h9) rfl d_Model_stepWays_13 ?_
      refine lv_iload_n hx hb d_Model_stepWays_16 rfl (lv_at hl 0 rfl) ?_
      refine lv_lconst (v := 0) hx hb d_Model_stepWays_17 (by decide) ?_
      refine va_last hx hb hK hP hD hS 5 1 rfl rfl (zI.inn hv_284 (by decide)) d_Model_stepWays_18 (fun H locs hP hD hS => ?_)
      obtain ⟨f_286, hP, hD⟩ := z_newL 5 hP hD rfl
      have hP : va_P G.1 classes [(b0, .inr (12, [.int b2, .ref b3, .ref b4, .ref b5, .ref b6, .int b7, .ref b8, .int b9, .int b10, .int b11, .int b12, .ref b13, .ref b14, .ref b15, .int b16, .ref b17, .ref b18, .ref b19, .ref b20, .ref b21, .ref b22, .ref b23, .ref b24, .ref b25, .ref b26, .ref b27, .ref b28, .int b29, .ref b30, .ref b31, .int b32, .int b33, .int b34, .int b35, .ref b36, .ref b37, .ref b38, .ref b39, .ref b40, .ref b41, .ref b42, .int b43, .ref b44, .ref b45, .int b46, .ref b47, .ref b48, .ref b49, .ref b50, .ref b51, .int b52, .ref b53, .ref b54, .ref b55])), (b23, .inl (G.2 0, 2, .inl b56)), (b27, .inl (G.2 0, 2, .inl b57)), (b28, .inl (G.2 0, 2880, .inl b58)), (b39, .inl (G.2 1, 241, .inr (.inl b59))), (b40, .inl (G.2 1, 241, .inr (.inl f_286)))] H := hP
      have hD := z_tie hP hD rfl
      obtain ⟨v_287, ev_287⟩ : ∃ z : Int32, z = y_144 + 1 := ⟨_, rfl⟩
      obtain ⟨qv_287, hv_287⟩ := zI_add (l := 1) (h := 241) hv_284 zc_1 ev_287 (by decide)
      rw [li_1] at qv_287
      refine lv_iinc (v := v_287) (lv' := [(2, .int v_287), (0, .ref b0), (1, .int b1)]) hx hb d_Model_stepWays_19 hl (k := 0) rfl (by rw [ev_287]; rfl) (by decide) rfl (fun ls hl => ?_)
      refine lv_goto (tgt := 2) hx hb d_Model_stepWays_22 (by decide) ?_
      exact ihk_143 (v_287) (f_286) _ _ _ (zI.wk (l' := 0) (h' := 241) hv_287 (by decide)) (zm_up qv_287 hmk_143 (by decide)) hP hD hS (lv_sub hl [0, 1, 2] rfl)
theorem d_Model_ways_14 : decode prog_14_method_59_code 14 = .ok (.ireturn, 1) := by decide +kernel
abbrev m_s1_Model_ways : Room := { frames := 5, cells := 0, slots := 0, locals := 124 }
set_option maxHeartbeats 4000000 in
set_option maxRecDepth 100000 in
theorem s1_Model_ways (l : Launch) (G : zG) (b0 : Nat) (b1 : Int32) (b2 : Int32) (b3 : Nat) (b4 : Nat) (b5 : Nat) (b6 : Nat) (b7 : Int32) (b8 : Nat) (b9 : Int32) (b10 : Int32) (b11 : Int32) (b12 : Int32) (b13 : Nat) (b14 : Nat) (b15 : Nat) (b16 : Int32) (b17 : Nat) (b18 : Nat) (b19 : Nat) (b20 : Nat) (b21 : Nat) (b22 : Nat) (b23 : Nat) (b24 : Nat) (b25 : Nat) (b26 : Nat) (b27 : Nat) (b28 : Nat) (b29 : Int32) (b30 : Nat) (b31 : Nat) (b32 : Int32) (b33 : Int32) (b34 : Int32) (b35 : Int32) (b36 : Nat) (b37 : Nat) (b38 : Nat) (b39 : Nat) (b40 : Nat) (b41 : Nat) (b42 : Nat) (b43 : Int32) (b44 : Nat) (b45 : Nat) (b46 : Int32) (b47 : Nat) (b48 : Nat) (b49 : Nat) (b50 : Nat) (b51 : Nat) (b52 : Int32) (b53 : Nat) (b54 : Nat) (b55 : Nat) (b56 : Nat → Int32) (b57 : Nat → Int32) (b58 : Nat → Int32) (b59 : Nat → Int32) (b60 : Nat → Int32) (b61 : Nat → Int32) (b62 : Nat → Int32) (b63 : Nat → Int32) (b64 : Nat → Int32) (b65 : Nat → Int32) (b66 : Nat → Int32) (b67 : Nat → Int32) (b68 : Nat → Int32) (b69 : Nat → Int64) (b70 : Nat → Int64) (hb7 : zI b7 0 8) (hb9 : zI b9 0 240) (hb10 : zI b10 0 240) (hb12 : zI b12 0 1) (hb16 : zI b16 0 12) (hb29 : zI b29 0 1) (hb32 : zI b32 0 1) (hb43 : zI b43 0 1000) (hb46 : zI b46 0 1000) (hb52 : zI b52 0 400) (hb56 : zW5 b56) (hb57 : zR b57 0 241) (hb58 : zR b58 (-1) 240) (hb59 : zqa qP b59) (hb61 : zqa qC b61) (hb62 : zR b62 0 240) (hb63 : zR b63 0 241) (hb64 : zR b64 0 240) (hb67 : zR b67 0 240) (hb68 : zqa qE b68) : zM l G y_Model_ways prog_14_method_59_code 5 (Option.some Jvm.ClassFile.FieldType.int) m_s1_Model_ways [.ref b0, .int b1] [(b0, .inr (12, [.int b2, .ref b3, .ref b4, .ref b5, .ref b6, .int b7, .ref b8, .int b9, .int b10, .int b11, .int b12, .ref b13, .ref b14, .ref b15, .int b16, .ref b17, .ref b18, .ref b19, .ref b20, .ref b21, .ref b22, .ref b23, .ref b24, .ref b25, .ref b26, .ref b27, .ref b28, .int b29, .ref b30, .ref b31, .int b32, .int b33, .int b34, .int b35, .ref b36, .ref b37, .ref b38, .ref b39, .ref b40, .ref b41, .ref b42, .int b43, .ref b44, .ref b45, .int b46, .ref b47, .ref b48, .ref b49, .ref b50, .ref b51, .int b52, .ref b53, .ref b54, .ref b55])), (b3, .inl (G.2 0, 503, .inl b56)), (b17, .inl (G.2 0, 2, .inl b57)), (b18, .inl (G.2 0, 4820, .inl b58)), (b19, .inl (G.2 0, 520, .inl b59)), (b20, .inl (G.2 0, 9640, .inl b60)), (b21, .inl (G.2 0, 482, .inl b61)), (b22, .inl (G.2 0, 482, .inl b62)), (b23, .inl (G.2 0, 2, .inl b63)), (b24, .inl (G.2 0, 482, .inl b64)), (b25, .inl (G.2 0, 482, .inl b65)), (b26, .inl (G.2 0, 482, .inl b66)), (b27, .inl (G.2 0, 2, .inl b67)), (b28, .inl (G.2 0, 2880, .inl b68)), (b39, .inl (G.2 1, 241, .inr (.inl b69))), (b40, .inl (G.2 1, 241, .inr (.inl b70)))] (fun v w => ∃ (e0 : Int32), ∃ (e1 : Int32), ∃ (e2 : Nat → Int32), ∃ (e3 : Nat → Int32), ∃ (e4 : Nat → Int32), ∃ (e5 : Nat → Int32), ∃ (e6 : Nat → Int32), ∃ (e7 : Nat → Int32), ∃ (e8 : Nat → Int32), ∃ (e9 : Nat → Int32), ∃ (e10 : Nat → Int32), ∃ (e11 : Nat → Int32), ∃ (e12 : Nat → Int32), ∃ (e13 : Nat → Int32), ∃ (e14 : Nat → Int64), ∃ (e15 : Nat → Int64), v = some (.int e0) ∧ w = [(b0, .inr (12, [.int 0, .ref b3, .ref b4, .ref b5, .ref b6, .int b7, .ref b8, .int b9, .int b10, .int b11, .int b12, .ref b13, .ref b14, .ref b15, .int b16, .ref b17, .ref b18, .ref b19, .ref b20, .ref b21, .ref b22, .ref b23, .ref b24, .ref b25, .ref b26, .ref b27, .ref b28, .int e1, .ref b30, .ref b31, .int b32, .int b33, .int b34, .int b35, .ref b36, .ref b37, .ref b38, .ref b39, .ref b40, .ref b41, .ref b42, .int b43, .ref b44, .ref b45, .int b46, .ref b47, .ref b48, .ref b49, .ref b50, .ref b51, .int b52, .ref b53, .ref b54, .ref b55])), (b3, .inl (G.2 0, 503, .inl b56)), (b17, .inl (G.2 0, 2, .inl e2)), (b18, .inl (G.2 0, 4820, .inl e3)), (b19, .inl (G.2 0, 520, .inl e4)), (b20, .inl (G.2 0, 9640, .inl e5)), (b21, .inl (G.2 0, 482, .inl e6)), (b22, .inl (G.2 0, 482, .inl e7)), (b23, .inl (G.2 0, 2, .inl e8)), (b24, .inl (G.2 0, 482, .inl e9)), (b25, .inl (G.2 0, 482, .inl e10)), (b26, .inl (G.2 0, 482, .inl e11)), (b27, .inl (G.2 0, 2, .inl e12)), (b28, .inl (G.2 0, 2880, .inl e13)), (b39, .inl (G.2 1, 241, .inr (.inl e14))), (b40, .inl (G.2 1, 241, .inr (.inl e15)))] ∧ (zI e1 0 1) ∧ (zR e2 0 241) ∧ (zR e3 (-1) 240) ∧ (zqa qP e4) ∧ (zqa qC e6) ∧ (zR e7 0 240) ∧ (zR e8 0 241) ∧ (zR e9 0 240) ∧ (zR e12 0 240) ∧ (zqa qE e13)) := by
  refine z_start (by decide +kernel) (Nat.le_of_ble_eq_true rfl) ?_
  intro p e s m below meth c A Z hr hnm hA hP hD hS ls hl
  have Z : zC p s m _ meth c prog_14_method_59_code 5 "TraceMachinesModel" G := Z
  obtain ⟨hx, hb, hml, hown, hts, hK, hN, hlocks⟩ := id Z
  have hl : lv_has ls 5 [(0, .ref b0), (1, .int b1)] := hl
  refine lv_aload_n hx hb d_Model_ways_0 rfl (lv_at hl 0 rfl) ?_
  refine lv_iconst (v := 0) hx hb d_Model_ways_1 (by decide) ?_
  refine va_put (D := G.1) (ci := 12) (v := .int 0) (ty := .int) (C := R_Model) (T := F_Model) (N := 54) hx hb hts i_Model t_Model t_Model_ok n_Model hown hK hP hD hS 0 rfl rfl 0 (by decide) (hts _ q1109) (fun _ h9 => h9) rfl (by decide +kernel) rfl rfl (Nat.le_of_ble_eq_true rfl) d_Model_ways_2 (fun H locs hP hD hS => ?_)
  have hP : va_P G.1 classes [(b0, .inr (12, [.int 0, .ref b3, .ref b4, .ref b5, .ref b6, .int b7, .ref b8, .int b9, .int b10, .int b11, .int b12, .ref b13, .ref b14, .ref b15, .int b16, .ref b17, .ref b18, .ref b19, .ref b20, .ref b21, .ref b22, .ref b23, .ref b24, .ref b25, .ref b26, .ref b27, .ref b28, .int b29, .ref b30, .ref b31, .int b32, .int b33, .int b34, .int b35, .ref b36, .ref b37, .ref b38, .ref b39, .ref b40, .ref b41, .ref b42, .int b43, .ref b44, .ref b45, .int b46, .ref b47, .ref b48, .ref b49, .ref b50, .ref b51, .int b52, .ref b53, .ref b54, .ref b55])), (b3, .inl (G.2 0, 503, .inl b56)), (b17, .inl (G.2 0, 2, .inl b57)), (b18, .inl (G.2 0, 4820, .inl b58)), (b19, .inl (G.2 0, 520, .inl b59)), (b20, .inl (G.2 0, 9640, .inl b60)), (b21, .inl (G.2 0, 482, .inl b61)), (b22, .inl (G.2 0, 482, .inl b62)), (b23, .inl (G.2 0, 2, .inl b63)), (b24, .inl (G.2 0, 482, .inl b64)), (b25, .inl (G.2 0, 482, .inl b65)), (b26, .inl (G.2 0, 482, .inl b66)), (b27, .inl (G.2 0, 2, .inl b67)), (b28, .inl (G.2 0, 2880, .inl b68)), (b39, .inl (G.2 1, 241, .inr (.inl b69))), (b40, .inl (G.2 1, 241, .inr (.inl b70)))] H := hP
  have hD := z_tie hP hD rfl
  refine lv_aload_n hx hb d_Model_ways_5 rfl (lv_at hl 0 rfl) ?_
  refine lv_iload_n hx hb d_Model_ways_6 rfl (lv_at hl 1 rfl) ?_
  refine z_callV (index := 191) (As := [.int b1]) (rest := []) (wr := [(b17, .inl (G.2 0, 2, .inl b57)), (b18, .inl (G.2 0, 4820, .inl b58)), (b19, .inl (G.2 0, 520, .inl b59)), (b20, .inl (G.2 0, 9640, .inl b60)), (b21, .inl (G.2 0, 482, .inl b61)), (b22, .inl (G.2 0, 482, .inl b62)), (b23, .inl (G.2 0, 2, .inl b63)), (b24, .inl (G.2 0, 482, .inl b64)), (b25, .inl (G.2 0, 482, .inl b65)), (b26, .inl (G.2 0, 482, .inl b66)), (b27, .inl (G.2 0, 2, .inl b67)), (b28, .inl (G.2 0, 2880, .inl b68)), (b39, .inl (G.2 1, 241, .inr (.inl b69))), (b40, .inl (G.2 1, 241, .inr (.inl b70)))]) Z (s1_Model_isTrace l G (b0) (b1) (0) (b3) (b4) (b5) (b6) (b7) (b8) (b9) (b10) (b11) (b12) (b13) (b14) (b15) (b16) (b17) (b18) (b19) (b20) (b21) (b22) (b23) (b24) (b25) (b26) (b27) (b28) (b29) (b30) (b31) (b32) (b33) (b34) (b35) (b36) (b37) (b38) (b39) (b40) (b41) (b42) (b43) (b44) (b45) (b46) (b47) (b48) (b49) (b50) (b51) (b52) (b53) (b54) (b55) (b56) hb7 hb9 hb10 hb12 hb16 hb29 hb32 hb43 hb46 hb52 hb56) hl.1 q1328 q1330 qs52 q14 q1331 ⟨by decide, by decide, by show _ = some 1; decide +kernel⟩ ⟨Nat.le_of_ble_eq_true rfl, Nat.le_of_ble_eq_true rfl⟩ ⟨Nat.le_of_ble_eq_true rfl, Nat.le_of_ble_eq_true rfl⟩ rfl (Nat.le_of_ble_eq_true rfl) d_Model_ways_7 hP hD hS hA 0 12 rfl rfl rfl [0, 1] [2, 3, 4, 5, 6, 7, 8, 9, 10, 11, 12, 13, 14, 15] rfl rfl rfl rfl (by decide) (fun v w1 H locs hw_1 hP hD hS => ?_)
  obtain ⟨x_2, rfl, rfl, hx_2, hfx_3⟩ := hw_1
  have hP : va_P G.1 classes [(b17, .inl (G.2 0, 2, .inl b57)), (b18, .inl (G.2 0, 4820, .inl b58)), (b19, .inl (G.2 0, 520, .inl b59)), (b20, .inl (G.2 0, 9640, .inl b60)), (b21, .inl (G.2 0, 482, .inl b61)), (b22, .inl (G.2 0, 482, .inl b62)), (b23, .inl (G.2 0, 2, .inl b63)), (b24, .inl (G.2 0, 482, .inl b64)), (b25, .inl (G.2 0, 482, .inl b65)), (b26, .inl (G.2 0, 482, .inl b66)), (b27, .inl (G.2 0, 2, .inl b67)), (b28, .inl (G.2 0, 2880, .inl b68)), (b39, .inl (G.2 1, 241, .inr (.inl b69))), (b40, .inl (G.2 1, 241, .inr (.inl b70))), (b0, .inr (12, [.int 0, .ref b3, .ref b4, .ref b5, .ref b6, .int b7, .ref b8, .int b9, .int b10, .int b11, .int b12, .ref b13, .ref b14, .ref b15, .int b16, .ref b17, .ref b18, .ref b19, .ref b20, .ref b21, .ref b22, .ref b23, .ref b24, .ref b25, .ref b26, .ref b27, .ref b28, .int b29, .ref b30, .ref b31, .int b32, .int b33, .int b34, .int b35, .ref b36, .ref b37, .ref b38, .ref b39, .ref b40, .ref b41, .ref b42, .int b43, .ref b44, .ref b45, .int b46, .ref b47, .ref b48, .ref b49, .ref b50, .ref b51, .int b52, .ref b53, .ref b54, .ref b55])), (b3, .inl (G.2 0, 503, .inl b56))] H := hP
  have hD := z_tie hP hD rfl
  refine W.widen (k := 0) (n := 0) (Nat.le_of_ble_eq_true rfl) (Nat.le_of_ble_eq_true rfl) ?_
  refine lv_if_ne (tgt := 15) hx hb d_Model_ways_10 (by decide) (fun hc_4 => ?_) (fun hc_4 => ?_)
  · have _nhc_4 := hc_4
    have ni_5 : ¬ (x_2 : Int32).toInt = (0 : Int32).toInt := fun z => hc_4 ((fa_eq _ _).mpr z)
    simp only [li_0] at ni_5
    have hv_6 : zI x_2 1 1 := zI.ne_lo hx_2 zc_0 hc_4 (by decide)
    have hv_7 : zI b1 0 19 := by rcases hfx_3 with h9 | h9; exact absurd h9 (by omega); exact ⟨h9.1, by have h8 := (zW5.ld (i := 0) (v := b56 (0 : Int32).toNatClampNeg) (a := 0) (b := 20) hb56 zc_0 rfl (by decide)); omega⟩
    refine lv_aload_n hx hb d_Model_ways_15 rfl (lv_at hl 0 rfl) ?_
    refine z_callV (index := 254) (As := []) (rest := []) (wr := [(b39, .inl (G.2 1, 241, .inr (.inl b69))), (b40, .inl (G.2 1, 241, .inr (.inl b70)))]) Z (s1_Model_lay1 l G (b0) (0) (b3) (b4) (b5) (b6) (b7) (b8) (b9) (b10) (b11) (b12) (b13) (b14) (b15) (b16) (b17) (b18) (b19) (b20) (b21) (b22) (b23) (b24) (b25) (b26) (b27) (b28) (b29) (b30) (b31) (b32) (b33) (b34) (b35) (b36) (b37) (b38) (b39) (b40) (b41) (b42) (b43) (b44) (b45) (b46) (b47) (b48) (b49) (b50) (b51) (b52) (b53) (b54) (b55) (b56) (b57) (b58) (b59) (b60) (b61) (b62) (b63) (b64) (b65) (b66) (b67) (b68) hb7 hb9 hb10 hb12 hb16 hb29 hb32 hb43 hb46 hb52 hb56 hb57 hb58 hb59 hb61 hb62 hb63 hb64 hb67 hb68) hl.1 q1356 q1358 qs55 q14 q1359 ⟨by decide, by decide, by show _ = some 0; decide +kernel⟩ ⟨Nat.le_of_ble_eq_true rfl, Nat.le_of_ble_eq_true rfl⟩ ⟨Nat.le_of_ble_eq_true rfl, Nat.le_of_ble_eq_true rfl⟩ rfl (Nat.le_of_ble_eq_true rfl) d_Model_ways_16 hP hD hS hA 14 12 rfl rfl rfl [14, 15, 0, 1, 2, 3, 4, 5, 6, 7, 8, 9, 10, 11] [12, 13] rfl rfl rfl rfl (by decide) (fun v w1 H locs hw_8 hP hD hS => ?_)
    refine Exists.elim hw_8 (fun x_9 hz_23 => Exists.elim hz_23 (fun f_10 hz_24 => Exists.elim hz_24 (fun f_11 hz_25 => Exists.elim hz_25 (fun f_12 hz_26 => Exists.elim hz_26 (fun f_13 hz_27 => Exists.elim hz_27 (fun f_14 hz_28 => Exists.elim hz_28 (fun f_15 hz_29 => Exists.elim hz_29 (fun f_16 hz_30 => Exists.elim hz_30 (fun f_17 hz_31 => Exists.elim hz_31 (fun f_18 hz_32 => Exists.elim hz_32 (fun f_19 hz_33 => Exists.elim hz_33 (fun f_20 hz_34 => Exists.elim hz_34 (fun f_21 hz_35 => ?_)))))))))))))
    clear hw_8 hz_23 hz_24 hz_25 hz_26 hz_27 hz_28 hz_29 hz_30 hz_31 hz_32 hz_33 hz_34
    obtain ⟨rfl, rfl, hx_9, hf_10, hf_11, hf_12, hf_14, hf_15, hf_16, hf_17, hf_20, hf_21, hfx_22⟩ := hz_35
    have hP : va_P G.1 classes [(b39, .inl (G.2 1, 241, .inr (.inl b69))), (b40, .inl (G.2 1, 241, .inr (.inl b70))), (b0, .inr (12, [.int 0, .ref b3, .ref b4, .ref b5, .ref b6, .int b7, .ref b8, .int b9, .int b10, .int b11, .int b12, .ref b13, .ref b14, .ref b15, .int b16, .ref b17, .ref b18, .ref b19, .ref b20, .ref b21, .ref b22, .ref b23, .ref b24, .ref b25, .ref b26, .ref b27, .ref b28, .int x_9, .ref b30, .ref b31, .int b32, .int b33, .int b34, .int b35, .ref b36, .ref b37, .ref b38, .ref b39, .ref b40, .ref b41, .ref b42, .int b43, .ref b44, .ref b45, .int b46, .ref b47, .ref b48, .ref b49, .ref b50, .ref b51, .int b52, .ref b53, .ref b54, .ref b55])), (b3, .inl (G.2 0, 503, .inl b56)), (b17, .inl (G.2 0, 2, .inl f_10)), (b18, .inl (G.2 0, 4820, .inl f_11)), (b19, .inl (G.2 0, 520, .inl f_12)), (b20, .inl (G.2 0, 9640, .inl f_13)), (b21, .inl (G.2 0, 482, .inl f_14)), (b22, .inl (G.2 0, 482, .inl f_15)), (b23, .inl (G.2 0, 2, .inl f_16)), (b24, .inl (G.2 0, 482, .inl f_17)), (b25, .inl (G.2 0, 482, .inl f_18)), (b26, .inl (G.2 0, 482, .inl f_19)), (b27, .inl (G.2 0, 2, .inl f_20)), (b28, .inl (G.2 0, 2880, .inl f_21))] H := hP
    have hD := z_tie hP hD rfl
    refine W.widen (k := 0) (n := 0) (Nat.le_of_ble_eq_true rfl) (Nat.le_of_ble_eq_true rfl) ?_
    refine lv_iconst (v := 0) hx hb d_Model_ways_19 (by decide) ?_
    refine lv_istore_n (lv' := [(2, .int 0), (0, .ref b0), (1, .int b1)]) hx hb d_Model_ways_20 rfl hl (by decide) rfl (fun ls hl => ?_)
    suffices key : ∀ (k_195 : Nat) (y_196 : Int32) (y_197 : Nat → Int64) (H : Heap) (locs : List Loc) (ls : Array Slot), (zI y_196 0 241) → (241 : Int) - y_196.toInt < (k_195 : Int) → va_P G.1 classes [(b39, .inl (G.2 1, 241, .inr (.inl y_197))), (b40, .inl (G.2 1, 241, .inr (.inl b70))), (b0, .inr (12, [.int 0, .ref b3, .ref b4, .ref b5, .ref b6, .int b7, .ref b8, .int b9, .int b10, .int b11, .int b12, .ref b13, .ref b14, .ref b15, .int b16, .ref b17, .ref b18, .ref b19, .ref b20, .ref b21, .ref b22, .ref b23, .ref b24, .ref b25, .ref b26, .ref b27, .ref b28, .int x_9, .ref b30, .ref b31, .int b32, .int b33, .int b34, .int b35, .ref b36, .ref b37, .ref b38, .ref b39, .ref b40, .ref b41, .ref b42, .int b43, .ref b44, .ref b45, .int b46, .ref b47, .ref b48, .ref b49, .ref b50, .ref b51, .int b52, .ref b53, .ref b54, .ref b55])), (b3, .inl (G.2 0, 503, .inl b56)), (b17, .inl (G.2 0, 2, .inl f_10)), (b18, .inl (G.2 0, 4820, .inl f_11)), (b19, .inl (G.2 0, 520, .inl f_12)), (b20, .inl (G.2 0, 9640, .inl f_13)), (b21, .inl (G.2 0, 482, .inl f_14)), (b22, .inl (G.2 0, 482, .inl f_15)), (b23, .inl (G.2 0, 2, .inl f_16)), (b24, .inl (G.2 0, 482, .inl f_17)), (b25, .inl (G.2 0, 482, .inl f_18)), (b26, .inl (G.2 0, 482, .inl f_19)), (b27, .inl (G.2 0, 2, .inl f_20)), (b28, .inl (G.2 0, 2880, .inl f_21))] H → va_D A [(b39, .inl (G.2 1, 241, .inr (.inl y_197))), (b40, .inl (G.2 1, 241, .inr (.inl b70))), (b0, .inr (12, [.int 0, .ref b3, .ref b4, .ref b5, .ref b6, .int b7, .ref b8, .int b9, .int b10, .int b11, .int b12, .ref b13, .ref b14, .ref b15, .int b16, .ref b17, .ref b18, .ref b19, .ref b20, .ref b21, .ref b22, .ref b23, .ref b24, .ref b25, .ref b26, .ref b27, .ref b28, .int x_9, .ref b30, .ref b31, .int b32, .int b33, .int b34, .int b35, .ref b36, .ref b37, .ref b38, .ref b39, .ref b40, .ref b41, .ref b42, .int b43, .ref b44, .ref b45, .int b46, .ref b47, .ref b48, .ref b49, .ref b50, .ref b51, .int b52, .ref b53, .ref b54, .ref b55])), (b3, .inl (G.2 0, 503, .inl b56)), (b17, .inl (G.2 0, 2, .inl f_10)), (b18, .inl (G.2 0, 4820, .inl f_11)), (b19, .inl (G.2 0, 520, .inl f_12)), (b20, .inl (G.2 0, 9640, .inl f_13)), (b21, .inl (G.2 0, 482, .inl f_14)), (b22, .inl (G.2 0, 482, .inl f_15)), (b23, .inl (G.2 0, 2, .inl f_16)), (b24, .inl (G.2 0, 482, .inl f_17)), (b25, .inl (G.2 0, 482, .inl f_18)), (b26, .inl (G.2 0, 482, .inl f_19)), (b27, .inl (G.2 0, 2, .inl f_20)), (b28, .inl (G.2 0, 2880, .inl f_21))] → va_S A s.heap H locs → lv_has ls 5 [(2, .int y_196), (0, .ref b0), (1, .int b1)] → W p l e m_s1_Model_ways s m ([.ref b0, .int b1] : List Value).toArray below meth c H locs 0 0 (MQ below (zQ G (fun v w => ∃ (e0 : Int32), ∃ (e1 : Int32), ∃ (e2 : Nat → Int32), ∃ (e3 : Nat → Int32), ∃ (e4 : Nat → Int32), ∃ (e5 : Nat → Int32), ∃ (e6 : Nat → Int32), ∃ (e7 : Nat → Int32), ∃ (e8 : Nat → Int32), ∃ (e9 : Nat → Int32), ∃ (e10 : Nat → Int32), ∃ (e11 : Nat → Int32), ∃ (e12 : Nat → Int32), ∃ (e13 : Nat → Int32), ∃ (e14 : Nat → Int64), ∃ (e15 : Nat → Int64), v = some (.int e0) ∧ w = [(b0, .inr (12, [.int 0, .ref b3, .ref b4, .ref b5, .ref b6, .int b7, .ref b8, .int b9, .int b10, .int b11, .int b12, .ref b13, .ref b14, .ref b15, .int b16, .ref b17, .ref b18, .ref b19, .ref b20, .ref b21, .ref b22, .ref b23, .ref b24, .ref b25, .ref b26, .ref b27, .ref b28, .int e1, .ref b30, .ref b31, .int b32, .int b33, .int b34, .int b35, .ref b36, .ref b37, .ref b38, .ref b39, .ref b40, .ref b41, .ref b42, .int b43, .ref b44, .ref b45, .int b46, .ref b47, .ref b48, .ref b49, .ref b50, .ref b51, .int b52, .ref b53, .ref b54, .ref b55])), (b3, .inl (G.2 0, 503, .inl b56)), (b17, .inl (G.2 0, 2, .inl e2)), (b18, .inl (G.2 0, 4820, .inl e3)), (b19, .inl (G.2 0, 520, .inl e4)), (b20, .inl (G.2 0, 9640, .inl e5)), (b21, .inl (G.2 0, 482, .inl e6)), (b22, .inl (G.2 0, 482, .inl e7)), (b23, .inl (G.2 0, 2, .inl e8)), (b24, .inl (G.2 0, 482, .inl e9)), (b25, .inl (G.2 0, 482, .inl e10)), (b26, .inl (G.2 0, 482, .inl e11)), (b27, .inl (G.2 0, 2, .inl e12)), (b28, .inl (G.2 0, 2880, .inl e13)), (b39, .inl (G.2 1, 241, .inr (.inl e14))), (b40, .inl (G.2 1, 241, .inr (.inl e15)))] ∧ (zI e1 0 1) ∧ (zR e2 0 241) ∧ (zR e3 (-1) 240) ∧ (zqa qP e4) ∧ (zqa qC e6) ∧ (zR e7 0 240) ∧ (zR e8 0 241) ∧ (zR e9 0 240) ∧ (zR e12 0 240) ∧ (zqa qE e13)) A) ([.ref b0, .int b1] : List Value).toArray s m_s1_Model_ways.cells m_s1_Model_ways.slots A) (F0 m 21 ls []) by
      exact key 242 (0) (b69) _ _ _ (zI.wk (l' := 0) (h' := 241) zc_0 (by decide)) (zm_upi (zI.wk (l' := 0) (h' := 241) zc_0 (by decide)) (by decide)) hP hD hS (lv_sub hl [0, 1, 2] rfl)
    intro k_195
    induction k_195 with
    | zero =>
      intro y_196 y_197 H locs ls hy_196 hmk_195 hP hD hS hl
      exact (zm_up0 hy_196 hmk_195).elim
    | succ k_195 ihk_195 =>
      intro y_196 y_197 H locs ls hy_196 hmk_195 hP hD hS hl
      refine lv_iload_n hx hb d_Model_ways_21 rfl (lv_at hl 0 rfl) ?_
      refine lv_aload_n hx hb d_Model_ways_22 rfl (lv_at hl 1 rfl) ?_
      refine va_get (D := G.1) (ci := 12) (v := .ref b23) (C := R_Model) (T := F_Model) (N := 54) hx hb hts i_Model hown hK hP 2 rfl rfl 21 (by decide) (hts _ q1130) (fun _ h9 => h9) rfl d_Model_ways_23 ?_
      refine lv_iconst (v := 0) hx hb d_Model_ways_26 (by decide) ?_
      refine va_iald hx hb hK hP 10 0 rfl rfl (i := 0) (z_in rfl) d_Model_ways_27 ?_
      refine lv_topi (fun v_198 ev_198 => ?_)
      have hv_198 : zI v_198 0 241 := (hf_16 _).eq ev_198
      refine lv_icmp_ge (tgt := 52) hx hb d_Model_ways_28 (by decide) (fun hc_199 => ?_) (fun hc_199 => ?_)
      · have _nhc_199 := hc_199
        have ni_200 := (fa_le _ _).mp hc_199
        refine lv_iconst (v := 0) hx hb d_Model_ways_52 (by decide) ?_
        refine lv_istore_n (lv' := [(2, .int 0), (0, .ref b0), (1, .int b1)]) hx hb d_Model_ways_53 rfl hl (by decide) rfl (fun ls hl => ?_)
        suffices key : ∀ (k_272 : Nat) (y_273 : Int32) (y_274 : Nat → Int64) (y_275 : Nat → Int64) (H : Heap) (locs : List Loc) (ls : Array Slot), (zI y_273 0 12) → (12 : Int) - y_273.toInt < (k_272 : Int) → va_P G.1 classes [(b39, .inl (G.2 1, 241, .inr (.inl y_274))), (b40, .inl (G.2 1, 241, .inr (.inl y_275))), (b0, .inr (12, [.int 0, .ref b3, .ref b4, .ref b5, .ref b6, .int b7, .ref b8, .int b9, .int b10, .int b11, .int b12, .ref b13, .ref b14, .ref b15, .int b16, .ref b17, .ref b18, .ref b19, .ref b20, .ref b21, .ref b22, .ref b23, .ref b24, .ref b25, .ref b26, .ref b27, .ref b28, .int x_9, .ref b30, .ref b31, .int b32, .int b33, .int b34, .int b35, .ref b36, .ref b37, .ref b38, .ref b39, .ref b40, .ref b41, .ref b42, .int b43, .ref b44, .ref b45, .int b46, .ref b47, .ref b48, .ref b49, .ref b50, .ref b51, .int b52, .ref b53, .ref b54, .ref b55])), (b3, .inl (G.2 0, 503, .inl b56)), (b17, .inl (G.2 0, 2, .inl f_10)), (b18, .inl (G.2 0, 4820, .inl f_11)), (b19, .inl (G.2 0, 520, .inl f_12)), (b20, .inl (G.2 0, 9640, .inl f_13)), (b21, .inl (G.2 0, 482, .inl f_14)), (b22, .inl (G.2 0, 482, .inl f_15)), (b23, .inl (G.2 0, 2, .inl f_16)), (b24, .inl (G.2 0, 482, .inl f_17)), (b25, .inl (G.2 0, 482, .inl f_18)), (b26, .inl (G.2 0, 482, .inl f_19)), (b27, .inl (G.2 0, 2, .inl f_20)), (b28, .inl (G.2 0, 2880, .inl f_21))] H → va_D A [(b39, .inl (G.2 1, 241, .inr (.inl y_274))), (b40, .inl (G.2 1, 241, .inr (.inl y_275))), (b0, .inr (12, [.int 0, .ref b3, .ref b4, .ref b5, .ref b6, .int b7, .ref b8, .int b9, .int b10, .int b11, .int b12, .ref b13, .ref b14, .ref b15, .int b16, .ref b17, .ref b18, .ref b19, .ref b20, .ref b21, .ref b22, .ref b23, .ref b24, .ref b25, .ref b26, .ref b27, .ref b28, .int x_9, .ref b30, .ref b31, .int b32, .int b33, .int b34, .int b35, .ref b36, .ref b37, .ref b38, .ref b39, .ref b40, .ref b41, .ref b42, .int b43, .ref b44, .ref b45, .int b46, .ref b47, .ref b48, .ref b49, .ref b50, .ref b51, .int b52, .ref b53, .ref b54, .ref b55])), (b3, .inl (G.2 0, 503, .inl b56)), (b17, .inl (G.2 0, 2, .inl f_10)), (b18, .inl (G.2 0, 4820, .inl f_11)), (b19, .inl (G.2 0, 520, .inl f_12)), (b20, .inl (G.2 0, 9640, .inl f_13)), (b21, .inl (G.2 0, 482, .inl f_14)), (b22, .inl (G.2 0, 482, .inl f_15)), (b23, .inl (G.2 0, 2, .inl f_16)), (b24, .inl (G.2 0, 482, .inl f_17)), (b25, .inl (G.2 0, 482, .inl f_18)), (b26, .inl (G.2 0, 482, .inl f_19)), (b27, .inl (G.2 0, 2, .inl f_20)), (b28, .inl (G.2 0, 2880, .inl f_21))] → va_S A s.heap H locs → lv_has ls 5 [(2, .int y_273), (0, .ref b0), (1, .int b1)] → W p l e m_s1_Model_ways s m ([.ref b0, .int b1] : List Value).toArray below meth c H locs 0 0 (MQ below (zQ G (fun v w => ∃ (e0 : Int32), ∃ (e1 : Int32), ∃ (e2 : Nat → Int32), ∃ (e3 : Nat → Int32), ∃ (e4 : Nat → Int32), ∃ (e5 : Nat → Int32), ∃ (e6 : Nat → Int32), ∃ (e7 : Nat → Int32), ∃ (e8 : Nat → Int32), ∃ (e9 : Nat → Int32), ∃ (e10 : Nat → Int32), ∃ (e11 : Nat → Int32), ∃ (e12 : Nat → Int32), ∃ (e13 : Nat → Int32), ∃ (e14 : Nat → Int64), ∃ (e15 : Nat → Int64), v = some (.int e0) ∧ w = [(b0, .inr (12, [.int 0, .ref b3, .ref b4, .ref b5, .ref b6, .int b7, .ref b8, .int b9, .int b10, .int b11, .int b12, .ref b13, .ref b14, .ref b15, .int b16, .ref b17, .ref b18, .ref b19, .ref b20, .ref b21, .ref b22, .ref b23, .ref b24, .ref b25, .ref b26, .ref b27, .ref b28, .int e1, .ref b30, .ref b31, .int b32, .int b33, .int b34, .int b35, .ref b36, .ref b37, .ref b38, .ref b39, .ref b40, .ref b41, .ref b42, .int b43, .ref b44, .ref b45, .int b46, .ref b47, .ref b48, .ref b49, .ref b50, .ref b51, .int b52, .ref b53, .ref b54, .ref b55])), (b3, .inl (G.2 0, 503, .inl b56)), (b17, .inl (G.2 0, 2, .inl e2)), (b18, .inl (G.2 0, 4820, .inl e3)), (b19, .inl (G.2 0, 520, .inl e4)), (b20, .inl (G.2 0, 9640, .inl e5)), (b21, .inl (G.2 0, 482, .inl e6)), (b22, .inl (G.2 0, 482, .inl e7)), (b23, .inl (G.2 0, 2, .inl e8)), (b24, .inl (G.2 0, 482, .inl e9)), (b25, .inl (G.2 0, 482, .inl e10)), (b26, .inl (G.2 0, 482, .inl e11)), (b27, .inl (G.2 0, 2, .inl e12)), (b28, .inl (G.2 0, 2880, .inl e13)), (b39, .inl (G.2 1, 241, .inr (.inl e14))), (b40, .inl (G.2 1, 241, .inr (.inl e15)))] ∧ (zI e1 0 1) ∧ (zR e2 0 241) ∧ (zR e3 (-1) 240) ∧ (zqa qP e4) ∧ (zqa qC e6) ∧ (zR e7 0 240) ∧ (zR e8 0 241) ∧ (zR e9 0 240) ∧ (zR e12 0 240) ∧ (zqa qE e13)) A) ([.ref b0, .int b1] : List Value).toArray s m_s1_Model_ways.cells m_s1_Model_ways.slots A) (F0 m 54 ls []) by
          exact key 13 (0) (y_197) (b70) _ _ _ (zI.wk (l' := 0) (h' := 12) zc_0 (by decide)) (zm_upi (zI.wk (l' := 0) (h' := 12) zc_0 (by decide)) (by decide)) hP hD hS (lv_sub hl [0, 1, 2] rfl)
        intro k_272
        induction k_272 with
        | zero =>
          intro y_273 y_274 y_275 H locs ls hy_273 hmk_272 hP hD hS hl
          exact (zm_up0 hy_273 hmk_272).elim
        | succ k_272 ihk_272 =>
          intro y_273 y_274 y_275 H locs ls hy_273 hmk_272 hP hD hS hl
          refine lv_iload_n hx hb d_Model_ways_54 rfl (lv_at hl 0 rfl) ?_
          refine lv_aload_n hx hb d_Model_ways_55 rfl (lv_at hl 1 rfl) ?_
          refine lv_iload_n hx hb d_Model_ways_56 rfl (lv_at hl 2 rfl) ?_
          refine z_callV (index := 203) (As := [.int b1]) (rest := [.int y_273]) (wr := [(b39, .inl (G.2 1, 241, .inr (.inl y_274))), (b40, .inl (G.2 1, 241, .inr (.inl y_275))), (b17, .inl (G.2 0, 2, .inl f_10)), (b18, .inl (G.2 0, 4820, .inl f_11)), (b19, .inl (G.2 0, 520, .inl f_12)), (b20, .inl (G.2 0, 9640, .inl f_13)), (b21, .inl (G.2 0, 482, .inl f_14)), (b22, .inl (G.2 0, 482, .inl f_15)), (b23, .inl (G.2 0, 2, .inl f_16)), (b24, .inl (G.2 0, 482, .inl f_17)), (b25, .inl (G.2 0, 482, .inl f_18)), (b26, .inl (G.2 0, 482, .inl f_19)), (b27, .inl (G.2 0, 2, .inl f_20)), (b28, .inl (G.2 0, 2880, .inl f_21))]) Z (s1_Model_calls l G (b0) (b1) (0) (b3) (b4) (b5) (b6) (b7) (b8) (b9) (b10) (b11) (b12) (b13) (b14) (b15) (b16) (b17) (b18) (b19) (b20) (b21) (b22) (b23) (b24) (b25) (b26) (b27) (b28) (x_9) (b30) (b31) (b32) (b33) (b34) (b35) (b36) (b37) (b38) (b39) (b40) (b41) (b42) (b43) (b44) (b45) (b46) (b47) (b48) (b49) (b50) (b51) (b52) (b53) (b54) (b55) (b56) hv_7 hb7 hb9 hb10 hb12 hb16 hx_9 hb32 hb43 hb46 hb52 hb56) hl.1 q1352 q1354 qs54 q14 q1355 ⟨by decide, by decide, by show _ = some 1; decide +kernel⟩ ⟨Nat.le_of_ble_eq_true rfl, Nat.le_of_ble_eq_true rfl⟩ ⟨Nat.le_of_ble_eq_true rfl, Nat.le_of_ble_eq_true rfl⟩ rfl (Nat.le_of_ble_eq_true rfl) d_Model_ways_57 hP hD hS hA 2 12 rfl rfl rfl [2, 3] [0, 1, 4, 5, 6, 7, 8, 9, 10, 11, 12, 13, 14, 15] rfl rfl rfl rfl (by decide) (fun v w1 H locs hw_276 hP hD hS => ?_)
          obtain ⟨x_277, rfl, rfl, hx_277, hfx_278⟩ := hw_276
          have hP : va_P G.1 classes [(b39, .inl (G.2 1, 241, .inr (.inl y_274))), (b40, .inl (G.2 1, 241, .inr (.inl y_275))), (b17, .inl (G.2 0, 2, .inl f_10)), (b18, .inl (G.2 0, 4820, .inl f_11)), (b19, .inl (G.2 0, 520, .inl f_12)), (b20, .inl (G.2 0, 9640, .inl f_13)), (b21, .inl (G.2 0, 482, .inl f_14)), (b22, .inl (G.2 0, 482, .inl f_15)), (b23, .inl (G.2 0, 2, .inl f_16)), (b24, .inl (G.2 0, 482, .inl f_17)), (b25, .inl (G.2 0, 482, .inl f_18)), (b26, .inl (G.2 0, 482, .inl f_19)), (b27, .inl (G.2 0, 2, .inl f_20)), (b28, .inl (G.2 0, 2880, .inl f_21)), (b0, .inr (12, [.int 0, .ref b3, .ref b4, .ref b5, .ref b6, .int b7, .ref b8, .int b9, .int b10, .int b11, .int b12, .ref b13, .ref b14, .ref b15, .int b16, .ref b17, .ref b18, .ref b19, .ref b20, .ref b21, .ref b22, .ref b23, .ref b24, .ref b25, .ref b26, .ref b27, .ref b28, .int x_9, .ref b30, .ref b31, .int b32, .int b33, .int b34, .int b35, .ref b36, .ref b37, .ref b38, .ref b39, .ref b40, .ref b41, .ref b42, .int b43, .ref b44, .ref b45, .int b46, .ref b47, .ref b48, .ref b49, .ref b50, .ref b51, .int b52, .ref b53, .ref b54, .ref b55])), (b3, .inl (G.2 0, 503, .inl b56))] H := hP
          have hD := z_tie hP hD rfl
          refine W.widen (k := 0) (n := 0) (Nat.le_of_ble_eq_true rfl) (Nat.le_of_ble_eq_true rfl) ?_
          refine lv_icmp_ge (tgt := 79) hx hb d_Model_ways_60 (by decide) (fun hc_279 => ?_) (fun hc_279 => ?_)
          · have _nhc_279 := hc_279
            have ni_280 := (fa_le _ _).mp hc_279
            refine lv_lconst (v := 0) hx hb d_Model_ways_79 (by decide) ?_
            refine lv_lstore_n (lv' := [(2, .long 0), (0, .ref b0), (1, .int b1)]) hx hb d_Model_ways_80 rfl hl (by decide) rfl (fun ls hl => ?_)
            refine lv_iconst (v := 0) hx hb d_Model_ways_81 (by decide) ?_
            refine lv_istore (lv' := [(4, .int 0), (2, .long 0), (0, .ref b0), (1, .int b1)]) hx hb d_Model_ways_82 hl (by decide) rfl (fun ls hl => ?_)
            suffices key : ∀ (k_308 : Nat) (y_309 : Int32) (y_310 : Int64) (H : Heap) (locs : List Loc) (ls : Array Slot), (zI y_309 0 241) → (241 : Int) - y_309.toInt < (k_308 : Int) → va_P G.1 classes [(b39, .inl (G.2 1, 241, .inr (.inl y_274))), (b40, .inl (G.2 1, 241, .inr (.inl y_275))), (b17, .inl (G.2 0, 2, .inl f_10)), (b18, .inl (G.2 0, 4820, .inl f_11)), (b19, .inl (G.2 0, 520, .inl f_12)), (b20, .inl (G.2 0, 9640, .inl f_13)), (b21, .inl (G.2 0, 482, .inl f_14)), (b22, .inl (G.2 0, 482, .inl f_15)), (b23, .inl (G.2 0, 2, .inl f_16)), (b24, .inl (G.2 0, 482, .inl f_17)), (b25, .inl (G.2 0, 482, .inl f_18)), (b26, .inl (G.2 0, 482, .inl f_19)), (b27, .inl (G.2 0, 2, .inl f_20)), (b28, .inl (G.2 0, 2880, .inl f_21)), (b0, .inr (12, [.int 0, .ref b3, .ref b4, .ref b5, .ref b6, .int b7, .ref b8, .int b9, .int b10, .int b11, .int b12, .ref b13, .ref b14, .ref b15, .int b16, .ref b17, .ref b18, .ref b19, .ref b20, .ref b21, .ref b22, .ref b23, .ref b24, .ref b25, .ref b26, .ref b27, .ref b28, .int x_9, .ref b30, .ref b31, .int b32, .int b33, .int b34, .int b35, .ref b36, .ref b37, .ref b38, .ref b39, .ref b40, .ref b41, .ref b42, .int b43, .ref b44, .ref b45, .int b46, .ref b47, .ref b48, .ref b49, .ref b50, .ref b51, .int b52, .ref b53, .ref b54, .ref b55])), (b3, .inl (G.2 0, 503, .inl b56))] H → va_D A [(b39, .inl (G.2 1, 241, .inr (.inl y_274))), (b40, .inl (G.2 1, 241, .inr (.inl y_275))), (b17, .inl (G.2 0, 2, .inl f_10)), (b18, .inl (G.2 0, 4820, .inl f_11)), (b19, .inl (G.2 0, 520, .inl f_12)), (b20, .inl (G.2 0, 9640, .inl f_13)), (b21, .inl (G.2 0, 482, .inl f_14)), (b22, .inl (G.2 0, 482, .inl f_15)), (b23, .inl (G.2 0, 2, .inl f_16)), (b24, .inl (G.2 0, 482, .inl f_17)), (b25, .inl (G.2 0, 482, .inl f_18)), (b26, .inl (G.2 0, 482, .inl f_19)), (b27, .inl (G.2 0, 2, .inl f_20)), (b28, .inl (G.2 0, 2880, .inl f_21)), (b0, .inr (12, [.int 0, .ref b3, .ref b4, .ref b5, .ref b6, .int b7, .ref b8, .int b9, .int b10, .int b11, .int b12, .ref b13, .ref b14, .ref b15, .int b16, .ref b17, .ref b18, .ref b19, .ref b20, .ref b21, .ref b22, .ref b23, .ref b24, .ref b25, .ref b26, .ref b27, .ref b28, .int x_9, .ref b30, .ref b31, .int b32, .int b33, .int b34, .int b35, .ref b36, .ref b37, .ref b38, .ref b39, .ref b40, .ref b41, .ref b42, .int b43, .ref b44, .ref b45, .int b46, .ref b47, .ref b48, .ref b49, .ref b50, .ref b51, .int b52, .ref b53, .ref b54, .ref b55])), (b3, .inl (G.2 0, 503, .inl b56))] → va_S A s.heap H locs → lv_has ls 5 [(4, .int y_309), (2, .long y_310), (0, .ref b0), (1, .int b1)] → W p l e m_s1_Model_ways s m ([.ref b0, .int b1] : List Value).toArray below meth c H locs 0 0 (MQ below (zQ G (fun v w => ∃ (e0 : Int32), ∃ (e1 : Int32), ∃ (e2 : Nat → Int32), ∃ (e3 : Nat → Int32), ∃ (e4 : Nat → Int32), ∃ (e5 : Nat → Int32), ∃ (e6 : Nat → Int32), ∃ (e7 : Nat → Int32), ∃ (e8 : Nat → Int32), ∃ (e9 : Nat → Int32), ∃ (e10 : Nat → Int32), ∃ (e11 : Nat → Int32), ∃ (e12 : Nat → Int32), ∃ (e13 : Nat → Int32), ∃ (e14 : Nat → Int64), ∃ (e15 : Nat → Int64), v = some (.int e0) ∧ w = [(b0, .inr (12, [.int 0, .ref b3, .ref b4, .ref b5, .ref b6, .int b7, .ref b8, .int b9, .int b10, .int b11, .int b12, .ref b13, .ref b14, .ref b15, .int b16, .ref b17, .ref b18, .ref b19, .ref b20, .ref b21, .ref b22, .ref b23, .ref b24, .ref b25, .ref b26, .ref b27, .ref b28, .int e1, .ref b30, .ref b31, .int b32, .int b33, .int b34, .int b35, .ref b36, .ref b37, .ref b38, .ref b39, .ref b40, .ref b41, .ref b42, .int b43, .ref b44, .ref b45, .int b46, .ref b47, .ref b48, .ref b49, .ref b50, .ref b51, .int b52, .ref b53, .ref b54, .ref b55])), (b3, .inl (G.2 0, 503, .inl b56)), (b17, .inl (G.2 0, 2, .inl e2)), (b18, .inl (G.2 0, 4820, .inl e3)), (b19, .inl (G.2 0, 520, .inl e4)), (b20, .inl (G.2 0, 9640, .inl e5)), (b21, .inl (G.2 0, 482, .inl e6)), (b22, .inl (G.2 0, 482, .inl e7)), (b23, .inl (G.2 0, 2, .inl e8)), (b24, .inl (G.2 0, 482, .inl e9)), (b25, .inl (G.2 0, 482, .inl e10)), (b26, .inl (G.2 0, 482, .inl e11)), (b27, .inl (G.2 0, 2, .inl e12)), (b28, .inl (G.2 0, 2880, .inl e13)), (b39, .inl (G.2 1, 241, .inr (.inl e14))), (b40, .inl (G.2 1, 241, .inr (.inl e15)))] ∧ (zI e1 0 1) ∧ (zR e2 0 241) ∧ (zR e3 (-1) 240) ∧ (zqa qP e4) ∧ (zqa qC e6) ∧ (zR e7 0 240) ∧ (zR e8 0 241) ∧ (zR e9 0 240) ∧ (zR e12 0 240) ∧ (zqa qE e13)) A) ([.ref b0, .int b1] : List Value).toArray s m_s1_Model_ways.cells m_s1_Model_ways.slots A) (F0 m 84 ls []) by
              exact key 242 (0) (0) _ _ _ (zI.wk (l' := 0) (h' := 241) zc_0 (by decide)) (zm_upi (zI.wk (l' := 0) (h' := 241) zc_0 (by decide)) (by decide)) hP hD hS (lv_sub hl [0, 1, 2, 3] rfl)
            intro k_308
            induction k_308 with
            | zero =>
              intro y_309 y_310 H locs ls hy_309 hmk_308 hP hD hS hl
              exact (zm_up0 hy_309 hmk_308).elim
            | succ k_308 ihk_308 =>
              intro y_309 y_310 H locs ls hy_309 hmk_308 hP hD hS hl
              refine lv_iload hx hb d_Model_ways_84 (lv_at hl 0 rfl) ?_
              refine lv_aload_n hx hb d_Model_ways_86 rfl (lv_at hl 2 rfl) ?_
              refine va_get (D := G.1) (ci := 12) (v := .ref b23) (C := R_Model) (T := F_Model) (N := 54) hx hb hts i_Model hown hK hP 14 rfl rfl 21 (by decide) (hts _ q1130) (fun _ h9 => h9) rfl d_Model_ways_87 ?_
              refine lv_iconst (v := 0) hx hb d_Model_ways_90 (by decide) ?_
              refine va_iald hx hb hK hP 8 0 rfl rfl (i := 0) (z_in rfl) d_Model_ways_91 ?_
              refine lv_topi (fun v_311 ev_311 => ?_)
              obtain rfl : v_198 = v_311 := ev_198.trans ev_311.symm
              refine lv_icmp_ge (tgt := 125) hx hb d_Model_ways_92 (by decide) (fun hc_312 => ?_) (fun hc_312 => ?_)
              · have _nhc_312 := hc_312
                have ni_313 := (fa_le _ _).mp hc_312
                refine lv_lload_n hx hb d_Model_ways_125 rfl (lv_at hl 1 rfl) ?_
                refine lv_ldc2 hx hb hown (hts _ q1498) d_Model_ways_126 ?_
                refine W.lcmp hx hb d_Model_ways_129 ?_
                refine lv_topi (fun v_314 ev_314 => ?_)
                refine lv_if_le (tgt := 139) hx hb d_Model_ways_130 (by decide) (fun hc_315 => ?_) (fun hc_315 => ?_)
                · have ni_316 := hc_315
                  rw [ev_314] at ni_316
                  simp only [lg_cmp_lt, lg_cmp_le, lg_cmp_gt, lg_cmp_ge, lg_cmp_eq, fa_lt64, fa_le64, fa_eq64, Int32.toInt_toInt64, ll_1000000] at ni_316
                  have hv_317 : zJ y_310 (-9223372036854775808) 1000000 := by have _a := ni_316; have _b := (zJ_all y_310); have _c := zcl_1000000; simp only [Int32.toInt_toInt64] at *; exact ⟨by omega, by omega⟩
                  refine lv_lload_n hx hb d_Model_ways_139 rfl (lv_at hl 1 rfl) ?_
                  obtain ⟨v_318, ev_318⟩ : ∃ z : Int32, z = (y_310).toInt32 := ⟨_, rfl⟩
                  refine lv_l2i (v := v_318) hx hb d_Model_ways_140 ev_318.symm ?_
                  exact z_iret hx hb hr hlocks (hP.sub [14, 15, 2, 3, 4, 5, 6, 7, 8, 9, 10, 11, 12, 13, 0, 1] rfl) (hD.sub [14, 15, 2, 3, 4, 5, 6, 7, 8, 9, 10, 11, 12, 13, 0, 1] (by decide) rfl) hS (Nat.le_of_ble_eq_true rfl) (Nat.le_of_ble_eq_true rfl) d_Model_ways_141 ⟨v_318, x_9, f_10, f_11, f_12, f_13, f_14, f_15, f_16, f_17, f_18, f_19, f_20, f_21, y_274, y_275, rfl, rfl, hx_9, hf_10, hf_11, hf_12, hf_14, hf_15, hf_16, hf_17, hf_20, hf_21⟩
                · have ni_319 := hc_315
                  rw [ev_314] at ni_319
                  simp only [lg_cmp_lt, lg_cmp_le, lg_cmp_gt, lg_cmp_ge, lg_cmp_eq, fa_lt64, fa_le64, fa_eq64, Int32.toInt_toInt64, ll_1000000] at ni_319
                  have hv_320 : zJ y_310 1000001 9223372036854775807 := by have _a := ni_319; have _b := (zJ_all y_310); have _c := zcl_1000000; simp only [Int32.toInt_toInt64] at *; exact ⟨by omega, by omega⟩
                  refine lv_ldcw hx hb hown (hts _ q1499) d_Model_ways_133 ?_
                  refine lv_goto (tgt := 141) hx hb d_Model_ways_136 (by decide) ?_
                  exact z_iret hx hb hr hlocks (hP.sub [14, 15, 2, 3, 4, 5, 6, 7, 8, 9, 10, 11, 12, 13, 0, 1] rfl) (hD.sub [14, 15, 2, 3, 4, 5, 6, 7, 8, 9, 10, 11, 12, 13, 0, 1] (by decide) rfl) hS (Nat.le_of_ble_eq_true rfl) (Nat.le_of_ble_eq_true rfl) d_Model_ways_141 ⟨1000000, x_9, f_10, f_11, f_12, f_13, f_14, f_15, f_16, f_17, f_18, f_19, f_20, f_21, y_274, y_275, rfl, rfl, hx_9, hf_10, hf_11, hf_12, hf_14, hf_15, hf_16, hf_17, hf_20, hf_21⟩
              · have _nhc_312 := hc_312
                have ni_321 := (fa_lt _ _).mp (zi_nle hc_312)
                have hv_322 : zI y_309 0 240 := zI.lt_l hy_309 hv_198 (zi_nle hc_312) (by decide)
                have hv_323 : zI v_198 1 241 := zI.lt_r hy_309 hv_198 (zi_nle hc_312) (by decide)
                refine lv_lload_n hx hb d_Model_ways_95 rfl (lv_at hl 1 rfl) ?_
                refine lv_aload_n hx hb d_Model_ways_96 rfl (lv_at hl 2 rfl) ?_
                refine lv_iconst (v := 0) hx hb d_Model_ways_97 (by decide) ?_
                refine lv_iload hx hb d_Model_ways_98 (lv_at hl 0 rfl) ?_
                refine z_callV (index := 256) (As := [.int 0, .int y_309]) (rest := [.long y_310]) (wr := [(b39, .inl (G.2 1, 241, .inr (.inl y_274))), (b40, .inl (G.2 1, 241, .inr (.inl y_275))), (b17, .inl (G.2 0, 2, .inl f_10)), (b18, .inl (G.2 0, 4820, .inl f_11)), (b19, .inl (G.2 0, 520, .inl f_12)), (b20, .inl (G.2 0, 9640, .inl f_13)), (b21, .inl (G.2 0, 482, .inl f_14)), (b22, .inl (G.2 0, 482, .inl f_15)), (b23, .inl (G.2 0, 2, .inl f_16)), (b24, .inl (G.2 0, 482, .inl f_17)), (b25, .inl (G.2 0, 482, .inl f_18)), (b27, .inl (G.2 0, 2, .inl f_20)), (b28, .inl (G.2 0, 2880, .inl f_21)), (b3, .inl (G.2 0, 503, .inl b56))]) Z (s2_Model_isFinal l G (b0) (y_309) (0) (b3) (b4) (b5) (b6) (b7) (b8) (b9) (b10) (b11) (b12) (b13) (b14) (b15) (b16) (b17) (b18) (b19) (b20) (b21) (b22) (b23) (b24) (b25) (b26) (b27) (b28) (x_9) (b30) (b31) (b32) (b33) (b34) (b35) (b36) (b37) (b38) (b39) (b40) (b41) (b42) (b43) (b44) (b45) (b46) (b47) (b48) (b49) (b50) (b51) (b52) (b53) (b54) (b55) (f_19) hv_322 hb7 hb9 hb10 hb12 hb16 hx_9 hb32 hb43 hb46 hb52) hl.1 q1420 q1422 qs70 q14 q1423 ⟨by decide, by decide, by show _ = some 2; decide +kernel⟩ ⟨Nat.le_of_ble_eq_true rfl, Nat.le_of_ble_eq_true rfl⟩ ⟨Nat.le_of_ble_eq_true rfl, Nat.le_of_ble_eq_true rfl⟩ rfl (Nat.le_of_ble_eq_true rfl) d_Model_ways_100 hP hD hS hA 14 12 rfl rfl rfl [14, 11] [0, 1, 2, 3, 4, 5, 6, 7, 8, 9, 10, 12, 13, 15] rfl rfl rfl rfl (by decide) (fun v w1 H locs hw_324 hP hD hS => ?_)
                obtain ⟨x_325, rfl, rfl, hx_325⟩ := hw_324
                have hP : va_P G.1 classes [(b39, .inl (G.2 1, 241, .inr (.inl y_274))), (b40, .inl (G.2 1, 241, .inr (.inl y_275))), (b17, .inl (G.2 0, 2, .inl f_10)), (b18, .inl (G.2 0, 4820, .inl f_11)), (b19, .inl (G.2 0, 520, .inl f_12)), (b20, .inl (G.2 0, 9640, .inl f_13)), (b21, .inl (G.2 0, 482, .inl f_14)), (b22, .inl (G.2 0, 482, .inl f_15)), (b23, .inl (G.2 0, 2, .inl f_16)), (b24, .inl (G.2 0, 482, .inl f_17)), (b25, .inl (G.2 0, 482, .inl f_18)), (b27, .inl (G.2 0, 2, .inl f_20)), (b28, .inl (G.2 0, 2880, .inl f_21)), (b3, .inl (G.2 0, 503, .inl b56)), (b0, .inr (12, [.int 0, .ref b3, .ref b4, .ref b5, .ref b6, .int b7, .ref b8, .int b9, .int b10, .int b11, .int b12, .ref b13, .ref b14, .ref b15, .int b16, .ref b17, .ref b18, .ref b19, .ref b20, .ref b21, .ref b22, .ref b23, .ref b24, .ref b25, .ref b26, .ref b27, .ref b28, .int x_9, .ref b30, .ref b31, .int b32, .int b33, .int b34, .int b35, .ref b36, .ref b37, .ref b38, .ref b39, .ref b40, .ref b41, .ref b42, .int b43, .ref b44, .ref b45, .int b46, .ref b47, .ref b48, .ref b49, .ref b50, .ref b51, .int b52, .ref b53, .ref b54, .ref b55])), (b26, .inl (G.2 0, 482, .inl f_19))] H := hP
                have hD := z_tie hP hD rfl
                refine W.widen (k := 0) (n := 0) (Nat.le_of_ble_eq_true rfl) (Nat.le_of_ble_eq_true rfl) ?_
                refine lv_if_eq (tgt := 116) hx hb d_Model_ways_103 (by decide) (fun hc_326 => ?_) (fun hc_326 => ?_)
                · have _nhc_326 := hc_326
                  have ni_327 := (fa_eq _ _).mp hc_326
                  rw [li_0] at ni_327
                  have hv_328 : zI x_325 0 0 := zI.eq_l hx_325 zc_0 hc_326
                  refine lv_lconst (v := 0) hx hb d_Model_ways_116 (by decide) ?_
                  refine lv_ladd hx hb d_Model_ways_117 ?_
                  refine lv_topl (fun v_329 ev_329 => ?_)
                  refine lv_lstore_n (lv' := [(2, .long v_329), (4, .int y_309), (0, .ref b0), (1, .int b1)]) hx hb d_Model_ways_118 rfl hl (by decide) rfl (fun ls hl => ?_)
                  obtain ⟨v_330, ev_330⟩ : ∃ z : Int32, z = y_309 + 1 := ⟨_, rfl⟩
                  obtain ⟨qv_330, hv_330⟩ := zI_add (l := 1) (h := 241) hv_322 zc_1 ev_330 (by decide)
                  rw [li_1] at qv_330
                  refine lv_iinc (v := v_330) (lv' := [(4, .int v_330), (2, .long v_329), (0, .ref b0), (1, .int b1)]) hx hb d_Model_ways_119 hl (k := 1) rfl (by rw [ev_330]; rfl) (by decide) rfl (fun ls hl => ?_)
                  refine lv_goto (tgt := 84) hx hb d_Model_ways_122 (by decide) ?_
                  exact ihk_308 (v_330) (v_329) _ _ _ (zI.wk (l' := 0) (h' := 241) hv_330 (by decide)) (zm_up qv_330 hmk_308 (by decide)) (hP.sub [0, 1, 2, 3, 4, 5, 6, 7, 8, 9, 10, 15, 11, 12, 14, 13] rfl) (hD.sub [0, 1, 2, 3, 4, 5, 6, 7, 8, 9, 10, 15, 11, 12, 14, 13] (by decide) rfl) hS (lv_sub hl [0, 1, 2, 3] rfl)
                · have _nhc_326 := hc_326
                  have ni_331 : ¬ (x_325 : Int32).toInt = (0 : Int32).toInt := fun z => hc_326 ((fa_eq _ _).mpr z)
                  simp only [li_0] at ni_331
                  have hv_332 : zI x_325 1 1 := zI.ne_lo hx_325 zc_0 hc_326 (by decide)
                  refine lv_aload_n hx hb d_Model_ways_106 rfl (lv_at hl 2 rfl) ?_
                  refine va_get (D := G.1) (ci := 12) (v := .ref b39) (C := R_Model) (T := F_Model) (N := 54) hx hb hts i_Model hown hK hP 14 rfl rfl 37 (by decide) (hts _ q1146) (fun _ h9 => h9) rfl d_Model_ways_107 ?_
                  refine lv_iload hx hb d_Model_ways_110 (lv_at hl 0 rfl) ?_
                  refine va_lald hx hb hK hP 0 1 rfl rfl (zI.inn hv_322 (by decide)) d_Model_ways_112 ?_
                  refine lv_topl (fun v_333 ev_333 => ?_)
                  refine lv_goto (tgt := 117) hx hb d_Model_ways_113 (by decide) ?_
                  refine lv_ladd hx hb d_Model_ways_117 ?_
                  refine lv_topl (fun v_334 ev_334 => ?_)
                  refine lv_lstore_n (lv' := [(2, .long v_334), (4, .int y_309), (0, .ref b0), (1, .int b1)]) hx hb d_Model_ways_118 rfl hl (by decide) rfl (fun ls hl => ?_)
                  obtain ⟨v_335, ev_335⟩ : ∃ z : Int32, z = y_309 + 1 := ⟨_, rfl⟩
                  obtain ⟨qv_335, hv_335⟩ := zI_add (l := 1) (h := 241) hv_322 zc_1 ev_335 (by decide)
                  rw [li_1] at qv_335
                  refine lv_iinc (v := v_335) (lv' := [(4, .int v_335), (2, .long v_334), (0, .ref b0), (1, .int b1)]) hx hb d_Model_ways_119 hl (k := 1) rfl (by rw [ev_335]; rfl) (by decide) rfl (fun ls hl => ?_)
                  refine lv_goto (tgt := 84) hx hb d_Model_ways_122 (by decide) ?_
                  exact ihk_308 (v_335) (v_334) _ _ _ (zI.wk (l' := 0) (h' := 241) hv_335 (by decide)) (zm_up qv_335 hmk_308 (by decide)) (hP.sub [0, 1, 2, 3, 4, 5, 6, 7, 8, 9, 10, 15, 11, 12, 14, 13] rfl) (hD.sub [0, 1, 2, 3, 4, 5, 6, 7, 8, 9, 10, 15, 11, 12, 14, 13] (by decide) rfl) hS (lv_sub hl [0, 1, 2, 3] rfl)
          · have _nhc_279 := hc_279
            have ni_336 := (fa_lt _ _).mp (zi_nle hc_279)
            have hv_337 : zI y_273 0 11 := zI.lt_l hy_273 hx_277 (zi_nle hc_279) (by decide)
            have hv_338 : zI x_277 1 12 := zI.lt_r hy_273 hx_277 (zi_nle hc_279) (by decide)
            refine lv_aload_n hx hb d_Model_ways_63 rfl (lv_at hl 1 rfl) ?_
            refine lv_aload_n hx hb d_Model_ways_64 rfl (lv_at hl 1 rfl) ?_
            refine lv_iload_n hx hb d_Model_ways_65 rfl (lv_at hl 2 rfl) ?_
            refine lv_iload_n hx hb d_Model_ways_66 rfl (lv_at hl 0 rfl) ?_
            refine z_callV (index := 207) (As := [.int b1, .int y_273]) (rest := [.ref b0]) (wr := [(b39, .inl (G.2 1, 241, .inr (.inl y_274))), (b40, .inl (G.2 1, 241, .inr (.inl y_275))), (b17, .inl (G.2 0, 2, .inl f_10)), (b18, .inl (G.2 0, 4820, .inl f_11)), (b19, .inl (G.2 0, 520, .inl f_12)), (b20, .inl (G.2 0, 9640, .inl f_13)), (b21, .inl (G.2 0, 482, .inl f_14)), (b22, .inl (G.2 0, 482, .inl f_15)), (b23, .inl (G.2 0, 2, .inl f_16)), (b24, .inl (G.2 0, 482, .inl f_17)), (b25, .inl (G.2 0, 482, .inl f_18)), (b26, .inl (G.2 0, 482, .inl f_19)), (b27, .inl (G.2 0, 2, .inl f_20)), (b28, .inl (G.2 0, 2880, .inl f_21))]) Z (s1_Model_letterAt l G (b0) (b1) (y_273) (0) (b3) (b4) (b5) (b6) (b7) (b8) (b9) (b10) (b11) (b12) (b13) (b14) (b15) (b16) (b17) (b18) (b19) (b20) (b21) (b22) (b23) (b24) (b25) (b26) (b27) (b28) (x_9) (b30) (b31) (b32) (b33) (b34) (b35) (b36) (b37) (b38) (b39) (b40) (b41) (b42) (b43) (b44) (b45) (b46) (b47) (b48) (b49) (b50) (b51) (b52) (b53) (b54) (b55) (b56) hv_7 hv_337 hb7 hb9 hb10 hb12 hb16 hx_9 hb32 hb43 hb46 hb52 hb56) hl.1 q1372 q1374 qs59 q14 q1375 ⟨by decide, by decide, by show _ = some 2; decide +kernel⟩ ⟨Nat.le_of_ble_eq_true rfl, Nat.le_of_ble_eq_true rfl⟩ ⟨Nat.le_of_ble_eq_true rfl, Nat.le_of_ble_eq_true rfl⟩ rfl (Nat.le_of_ble_eq_true rfl) d_Model_ways_67 hP hD hS hA 14 12 rfl rfl rfl [14, 15] [0, 1, 2, 3, 4, 5, 6, 7, 8, 9, 10, 11, 12, 13] rfl rfl rfl rfl (by decide) (fun v w1 H locs hw_339 hP hD hS => ?_)
            obtain ⟨x_340, rfl, rfl, hx_340⟩ := hw_339
            have hP : va_P G.1 classes [(b39, .inl (G.2 1, 241, .inr (.inl y_274))), (b40, .inl (G.2 1, 241, .inr (.inl y_275))), (b17, .inl (G.2 0, 2, .inl f_10)), (b18, .inl (G.2 0, 4820, .inl f_11)), (b19, .inl (G.2 0, 520, .inl f_12)), (b20, .inl (G.2 0, 9640, .inl f_13)), (b21, .inl (G.2 0, 482, .inl f_14)), (b22, .inl (G.2 0, 482, .inl f_15)), (b23, .inl (G.2 0, 2, .inl f_16)), (b24, .inl (G.2 0, 482, .inl f_17)), (b25, .inl (G.2 0, 482, .inl f_18)), (b26, .inl (G.2 0, 482, .inl f_19)), (b27, .inl (G.2 0, 2, .inl f_20)), (b28, .inl (G.2 0, 2880, .inl f_21)), (b0, .inr (12, [.int 0, .ref b3, .ref b4, .ref b5, .ref b6, .int b7, .ref b8, .int b9, .int b10, .int b11, .int b12, .ref b13, .ref b14, .ref b15, .int b16, .ref b17, .ref b18, .ref b19, .ref b20, .ref b21, .ref b22, .ref b23, .ref b24, .ref b25, .ref b26, .ref b27, .ref b28, .int x_9, .ref b30, .ref b31, .int b32, .int b33, .int b34, .int b35, .ref b36, .ref b37, .ref b38, .ref b39, .ref b40, .ref b41, .ref b42, .int b43, .ref b44, .ref b45, .int b46, .ref b47, .ref b48, .ref b49, .ref b50, .ref b51, .int b52, .ref b53, .ref b54, .ref b55])), (b3, .inl (G.2 0, 503, .inl b56))] H := hP
            have hD := z_tie hP hD rfl
            refine W.widen (k := 0) (n := 0) (Nat.le_of_ble_eq_true rfl) (Nat.le_of_ble_eq_true rfl) ?_
            refine z_callV (index := 316) (As := [.int x_340]) (rest := []) (wr := [(b17, .inl (G.2 0, 2, .inl f_10)), (b18, .inl (G.2 0, 4820, .inl f_11)), (b19, .inl (G.2 0, 520, .inl f_12)), (b20, .inl (G.2 0, 9640, .inl f_13)), (b21, .inl (G.2 0, 482, .inl f_14)), (b22, .inl (G.2 0, 482, .inl f_15)), (b24, .inl (G.2 0, 482, .inl f_17)), (b25, .inl (G.2 0, 482, .inl f_18)), (b26, .inl (G.2 0, 482, .inl f_19)), (b3, .inl (G.2 0, 503, .inl b56))]) Z (s2_Model_stepWays l G (b0) (x_340) (0) (b3) (b4) (b5) (b6) (b7) (b8) (b9) (b10) (b11) (b12) (b13) (b14) (b15) (b16) (b17) (b18) (b19) (b20) (b21) (b22) (b23) (b24) (b25) (b26) (b27) (b28) (x_9) (b30) (b31) (b32) (b33) (b34) (b35) (b36) (b37) (b38) (b39) (b40) (b41) (b42) (b43) (b44) (b45) (b46) (b47) (b48) (b49) (b50) (b51) (b52) (b53) (b54) (b55) (f_16) (f_20) (f_21) (y_274) (y_275) hx_340 hb7 hb9 hb10 hb12 hb16 hx_9 hb32 hb43 hb46 hb52 hf_16 hf_20 hf_21) hl.1 q1494 q1496 qs80 q14 q1497 ⟨by decide, by decide, by show _ = some 1; decide +kernel⟩ ⟨Nat.le_of_ble_eq_true rfl, Nat.le_of_ble_eq_true rfl⟩ ⟨Nat.le_of_ble_eq_true rfl, Nat.le_of_ble_eq_true rfl⟩ rfl (Nat.le_of_ble_eq_true rfl) d_Model_ways_70 hP hD hS hA 14 12 rfl rfl rfl [14, 8, 12, 13, 0, 1] [2, 3, 4, 5, 6, 7, 9, 10, 11, 15] rfl rfl rfl rfl (by decide) (fun v w1 H locs hw_341 hP hD hS => ?_)
            obtain ⟨f_342, f_343, rfl, rfl⟩ := hw_341
            have hP : va_P G.1 classes [(b17, .inl (G.2 0, 2, .inl f_10)), (b18, .inl (G.2 0, 4820, .inl f_11)), (b19, .inl (G.2 0, 520, .inl f_12)), (b20, .inl (G.2 0, 9640, .inl f_13)), (b21, .inl (G.2 0, 482, .inl f_14)), (b22, .inl (G.2 0, 482, .inl f_15)), (b24, .inl (G.2 0, 482, .inl f_17)), (b25, .inl (G.2 0, 482, .inl f_18)), (b26, .inl (G.2 0, 482, .inl f_19)), (b3, .inl (G.2 0, 503, .inl b56)), (b0, .inr (12, [.int 0, .ref b3, .ref b4, .ref b5, .ref b6, .int b7, .ref b8, .int b9, .int b10, .int b11, .int b12, .ref b13, .ref b14, .ref b15, .int b16, .ref b17, .ref b18, .ref b19, .ref b20, .ref b21, .ref b22, .ref b23, .ref b24, .ref b25, .ref b26, .ref b27, .ref b28, .int x_9, .ref b30, .ref b31, .int b32, .int b33, .int b34, .int b35, .ref b36, .ref b37, .ref b38, .ref b39, .ref b40, .ref b41, .ref b42, .int b43, .ref b44, .ref b45, .int b46, .ref b47, .ref b48, .ref b49, .ref b50, .ref b51, .int b52, .ref b53, .ref b54, .ref b55])), (b23, .inl (G.2 0, 2, .inl f_16)), (b27, .inl (G.2 0, 2, .inl f_20)), (b28, .inl (G.2 0, 2880, .inl f_21)), (b39, .inl (G.2 1, 241, .inr (.inl f_342))), (b40, .inl (G.2 1, 241, .inr (.inl f_343)))] H := hP
            have hD := z_tie hP hD rfl
            refine W.widen (k := 0) (n := 0) (Nat.le_of_ble_eq_true rfl) (Nat.le_of_ble_eq_true rfl) ?_
            obtain ⟨v_344, ev_344⟩ : ∃ z : Int32, z = y_273 + 1 := ⟨_, rfl⟩
            obtain ⟨qv_344, hv_344⟩ := zI_add (l := 1) (h := 12) hv_337 zc_1 ev_344 (by decide)
            rw [li_1] at qv_344
            refine lv_iinc (v := v_344) (lv' := [(2, .int v_344), (0, .ref b0), (1, .int b1)]) hx hb d_Model_ways_73 hl (k := 0) rfl (by rw [ev_344]; rfl) (by decide) rfl (fun ls hl => ?_)
            refine lv_goto (tgt := 54) hx hb d_Model_ways_76 (by decide) ?_
            exact ihk_272 (v_344) (f_342) (f_343) _ _ _ (zI.wk (l' := 0) (h' := 12) hv_344 (by decide)) (zm_up qv_344 hmk_272 (by decide)) (hP.sub [14, 15, 10, 9, 0, 1, 2, 3, 4, 5, 11, 6, 7, 8, 12, 13] rfl) (hD.sub [14, 15, 10, 9, 0, 1, 2, 3, 4, 5, 11, 6, 7, 8, 12, 13] (by decide) rfl) hS (lv_sub hl [0, 1, 2] rfl)
      · have _nhc_199 := hc_199
        have ni_345 := (fa_lt _ _).mp (zi_nle hc_199)
        have hv_346 : zI y_196 0 240 := zI.lt_l hy_196 hv_198 (zi_nle hc_199) (by decide)
        have hv_347 : zI v_198 1 241 := zI.lt_r hy_196 hv_198 (zi_nle hc_199) (by decide)
        refine lv_aload_n hx hb d_Model_ways_31 rfl (lv_at hl 1 rfl) ?_
        refine va_get (D := G.1) (ci := 12) (v := .ref b39) (C := R_Model) (T := F_Model) (N := 54) hx hb hts i_Model hown hK hP 2 rfl rfl 37 (by decide) (hts _ q1146) (fun _ h9 => h9) rfl d_Model_ways_32 ?_
        refine lv_iload_n hx hb d_Model_ways_35 rfl (lv_at hl 0 rfl) ?_
        refine lv_iload_n hx hb d_Model_ways_36 rfl (lv_at hl 0 rfl) ?_
        refine lv_if_ne (tgt := 44) hx hb d_Model_ways_37 (by decide) (fun hc_348 => ?_) (fun hc_348 => ?_)
        · have _nhc_348 := hc_348
          have ni_349 : ¬ (y_196 : Int32).toInt = (0 : Int32).toInt := fun z => hc_348 ((fa_eq _ _).mpr z)
          simp only [li_0] at ni_349
          have hv_350 : zI y_196 1 240 := zI.ne_lo hv_346 zc_0 hc_348 (by decide)
          refine lv_lconst (v := 0) hx hb d_Model_ways_44 (by decide) ?_
          refine va_last hx hb hK hP hD hS 0 1 rfl rfl (zI.inn hv_350 (by decide)) d_Model_ways_45 (fun H locs hP hD hS => ?_)
          obtain ⟨f_351, hP, hD⟩ := z_newL 0 hP hD rfl
          have hP : va_P G.1 classes [(b39, .inl (G.2 1, 241, .inr (.inl f_351))), (b40, .inl (G.2 1, 241, .inr (.inl b70))), (b0, .inr (12, [.int 0, .ref b3, .ref b4, .ref b5, .ref b6, .int b7, .ref b8, .int b9, .int b10, .int b11, .int b12, .ref b13, .ref b14, .ref b15, .int b16, .ref b17, .ref b18, .ref b19, .ref b20, .ref b21, .ref b22, .ref b23, .ref b24, .ref b25, .ref b26, .ref b27, .ref b28, .int x_9, .ref b30, .ref b31, .int b32, .int b33, .int b34, .int b35, .ref b36, .ref b37, .ref b38, .ref b39, .ref b40, .ref b41, .ref b42, .int b43, .ref b44, .ref b45, .int b46, .ref b47, .ref b48, .ref b49, .ref b50, .ref b51, .int b52, .ref b53, .ref b54, .ref b55])), (b3, .inl (G.2 0, 503, .inl b56)), (b17, .inl (G.2 0, 2, .inl f_10)), (b18, .inl (G.2 0, 4820, .inl f_11)), (b19, .inl (G.2 0, 520, .inl f_12)), (b20, .inl (G.2 0, 9640, .inl f_13)), (b21, .inl (G.2 0, 482, .inl f_14)), (b22, .inl (G.2 0, 482, .inl f_15)), (b23, .inl (G.2 0, 2, .inl f_16)), (b24, .inl (G.2 0, 482, .inl f_17)), (b25, .inl (G.2 0, 482, .inl f_18)), (b26, .inl (G.2 0, 482, .inl f_19)), (b27, .inl (G.2 0, 2, .inl f_20)), (b28, .inl (G.2 0, 2880, .inl f_21))] H := hP
          have hD := z_tie hP hD rfl
          obtain ⟨v_352, ev_352⟩ : ∃ z : Int32, z = y_196 + 1 := ⟨_, rfl⟩
          obtain ⟨qv_352, hv_352⟩ := zI_add (l := 2) (h := 241) hv_350 zc_1 ev_352 (by decide)
          rw [li_1] at qv_352
          refine lv_iinc (v := v_352) (lv' := [(2, .int v_352), (0, .ref b0), (1, .int b1)]) hx hb d_Model_ways_46 hl (k := 0) rfl (by rw [ev_352]; rfl) (by decide) rfl (fun ls hl => ?_)
          refine lv_goto (tgt := 21) hx hb d_Model_ways_49 (by decide) ?_
          exact ihk_195 (v_352) (f_351) _ _ _ (zI.wk (l' := 0) (h' := 241) hv_352 (by decide)) (zm_up qv_352 hmk_195 (by decide)) hP hD hS (lv_sub hl [0, 1, 2] rfl)
        · have _nhc_348 := hc_348
          have ni_353 := (fa_eq _ _).mp hc_348
          rw [li_0] at ni_353
          have hv_354 : zI y_196 0 0 := zI.eq_l hv_346 zc_0 hc_348
          refine lv_lconst (v := 1) hx hb d_Model_ways_40 (by decide) ?_
          refine lv_goto (tgt := 45) hx hb d_Model_ways_41 (by decide) ?_
          refine va_last hx hb hK hP hD hS 0 1 rfl rfl (zI.inn hv_354 (by decide)) d_Model_ways_45 (fun H locs hP hD hS => ?_)
          obtain ⟨f_355, hP, hD⟩ := z_newL 0 hP hD rfl
          have hP : va_P G.1 classes [(b39, .inl (G.2 1, 241, .inr (.inl f_355))), (b40, .inl (G.2 1, 241, .inr (.inl b70))), (b0, .inr (12, [.int 0, .ref b3, .ref b4, .ref b5, .ref b6, .int b7, .ref b8, .int b9, .int b10, .int b11, .int b12, .ref b13, .ref b14, .ref b15, .int b16, .ref b17, .ref b18, .ref b19, .ref b20, .ref b21, .ref b22, .ref b23, .ref b24, .ref b25, .ref b26, .ref b27, .ref b28, .int x_9, .ref b30, .ref b31, .int b32, .int b33, .int b34, .int b35, .ref b36, .ref b37, .ref b38, .ref b39, .ref b40, .ref b41, .ref b42, .int b43, .ref b44, .ref b45, .int b46, .ref b47, .ref b48, .ref b49, .ref b50, .ref b51, .int b52, .ref b53, .ref b54, .ref b55])), (b3, .inl (G.2 0, 503, .inl b56)), (b17, .inl (G.2 0, 2, .inl f_10)), (b18, .inl (G.2 0, 4820, .inl f_11)), (b19, .inl (G.2 0, 520, .inl f_12)), (b20, .inl (G.2 0, 9640, .inl f_13)), (b21, .inl (G.2 0, 482, .inl f_14)), (b22, .inl (G.2 0, 482, .inl f_15)), (b23, .inl (G.2 0, 2, .inl f_16)), (b24, .inl (G.2 0, 482, .inl f_17)), (b25, .inl (G.2 0, 482, .inl f_18)), (b26, .inl (G.2 0, 482, .inl f_19)), (b27, .inl (G.2 0, 2, .inl f_20)), (b28, .inl (G.2 0, 2880, .inl f_21))] H := hP
          have hD := z_tie hP hD rfl
          obtain ⟨v_356, ev_356⟩ : ∃ z : Int32, z = y_196 + 1 := ⟨_, rfl⟩
          obtain ⟨qv_356, hv_356⟩ := zI_add (l := 1) (h := 1) hv_354 zc_1 ev_356 (by decide)
          rw [li_1] at qv_356
          refine lv_iinc (v := v_356) (lv' := [(2, .int v_356), (0, .ref b0), (1, .int b1)]) hx hb d_Model_ways_46 hl (k := 0) rfl (by rw [ev_356]; rfl) (by decide) rfl (fun ls hl => ?_)
          refine lv_goto (tgt := 21) hx hb d_Model_ways_49 (by decide) ?_
          exact ihk_195 (v_356) (f_355) _ _ _ (zI.wk (l' := 0) (h' := 241) hv_356 (by decide)) (zm_up qv_356 hmk_195 (by decide)) hP hD hS (lv_sub hl [0, 1, 2] rfl)
  · have _nhc_4 := hc_4
    have ni_357 := (fa_eq _ _).mp hc_4
    rw [li_0] at ni_357
    have hv_358 : zI x_2 0 0 := zI.eq_l hx_2 zc_0 hc_4
    refine lv_iconst (v := (-1)) hx hb d_Model_ways_13 (by decide) ?_
    exact z_iret hx hb hr hlocks (hP.sub [14, 15, 0, 1, 2, 3, 4, 5, 6, 7, 8, 9, 10, 11, 12, 13] rfl) (hD.sub [14, 15, 0, 1, 2, 3, 4, 5, 6, 7, 8, 9, 10, 11, 12, 13] (by decide) rfl) hS (Nat.le_of_ble_eq_true rfl) (Nat.le_of_ble_eq_true rfl) d_Model_ways_14 ⟨(-1), b29, b57, b58, b59, b60, b61, b62, b63, b64, b65, b66, b67, b68, b69, b70, rfl, rfl, hb29, hb57, hb58, hb59, hb61, hb62, hb63, hb64, hb67, hb68⟩
