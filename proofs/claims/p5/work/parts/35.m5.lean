theorem d_Model_placeOf_0 : decode prog_14_method_33_code 0 = .ok (.sipush 2410, 3) := by decide +kernel
theorem d_Model_placeOf_3 : decode prog_14_method_33_code 3 = .ok (.iload_n 2, 1) := by decide +kernel
theorem d_Model_placeOf_4 : decode prog_14_method_33_code 4 = .ok (.imul, 1) := by decide +kernel
theorem d_Model_placeOf_5 : decode prog_14_method_33_code 5 = .ok (.sipush 241, 3) := by decide +kernel
theorem d_Model_placeOf_8 : decode prog_14_method_33_code 8 = .ok (.iload_n 3, 1) := by decide +kernel
theorem d_Model_placeOf_9 : decode prog_14_method_33_code 9 = .ok (.imul, 1) := by decide +kernel
theorem d_Model_placeOf_10 : decode prog_14_method_33_code 10 = .ok (.iadd, 1) := by decide +kernel
theorem d_Model_placeOf_11 : decode prog_14_method_33_code 11 = .ok (.iload 4, 2) := by decide +kernel
theorem d_Model_placeOf_13 : decode prog_14_method_33_code 13 = .ok (.iadd, 1) := by decide +kernel
theorem d_Model_placeOf_14 : decode prog_14_method_33_code 14 = .ok (.istore 5, 2) := by decide +kernel
theorem d_Model_placeOf_16 : decode prog_14_method_33_code 16 = .ok (.iconst 0, 1) := by decide +kernel
theorem d_Model_placeOf_17 : decode prog_14_method_33_code 17 = .ok (.istore 6, 2) := by decide +kernel
theorem d_Model_placeOf_19 : decode prog_14_method_33_code 19 = .ok (.iconst (-1), 1) := by decide +kernel
theorem d_Model_placeOf_20 : decode prog_14_method_33_code 20 = .ok (.istore 7, 2) := by decide +kernel
theorem d_Model_placeOf_22 : decode prog_14_method_33_code 22 = .ok (.iload 6, 2) := by decide +kernel
theorem d_Model_placeOf_24 : decode prog_14_method_33_code 24 = .ok (.aload_n 0, 1) := by decide +kernel
theorem d_Model_placeOf_25 : decode prog_14_method_33_code 25 = .ok (.getfield 70, 3) := by decide +kernel
theorem d_Model_placeOf_28 : decode prog_14_method_33_code 28 = .ok (.iload_n 1, 1) := by decide +kernel
theorem d_Model_placeOf_29 : decode prog_14_method_33_code 29 = .ok (.iaload, 1) := by decide +kernel
theorem d_Model_placeOf_30 : decode prog_14_method_33_code 30 = .ok (.if_icmp .ge 66, 3) := by decide +kernel
theorem d_Model_placeOf_33 : decode prog_14_method_33_code 33 = .ok (.iload 7, 2) := by decide +kernel
theorem d_Model_placeOf_35 : decode prog_14_method_33_code 35 = .ok (.iload 5, 2) := by decide +kernel
theorem d_Model_placeOf_37 : decode prog_14_method_33_code 37 = .ok (.if_icmp .ge 59, 3) := by decide +kernel
theorem d_Model_placeOf_40 : decode prog_14_method_33_code 40 = .ok (.sipush 2410, 3) := by decide +kernel
theorem d_Model_placeOf_43 : decode prog_14_method_33_code 43 = .ok (.aload_n 0, 1) := by decide +kernel
theorem d_Model_placeOf_44 : decode prog_14_method_33_code 44 = .ok (.iload_n 1, 1) := by decide +kernel
theorem d_Model_placeOf_45 : decode prog_14_method_33_code 45 = .ok (.iload 6, 2) := by decide +kernel
theorem d_Model_placeOf_47 : decode prog_14_method_33_code 47 = .ok (.iconst 0, 1) := by decide +kernel
theorem d_Model_placeOf_48 : decode prog_14_method_33_code 48 = .ok (.invokevirtual 225, 3) := by decide +kernel
theorem d_Model_placeOf_51 : decode prog_14_method_33_code 51 = .ok (.imul, 1) := by decide +kernel
theorem d_Model_placeOf_52 : decode prog_14_method_33_code 52 = .ok (.sipush 241, 3) := by decide +kernel
theorem d_Model_placeOf_55 : decode prog_14_method_33_code 55 = .ok (.aload_n 0, 1) := by decide +kernel
theorem d_Model_placeOf_56 : decode prog_14_method_33_code 56 = .ok (.iload_n 1, 1) := by decide +kernel
theorem d_Model_placeOf_57 : decode prog_14_method_33_code 57 = .ok (.iload 6, 2) := by decide +kernel
theorem d_Model_placeOf_59 : decode prog_14_method_33_code 59 = .ok (.iconst 1, 1) := by decide +kernel
theorem d_Model_placeOf_60 : decode prog_14_method_33_code 60 = .ok (.invokevirtual 225, 3) := by decide +kernel
theorem d_Model_placeOf_63 : decode prog_14_method_33_code 63 = .ok (.imul, 1) := by decide +kernel
theorem d_Model_placeOf_64 : decode prog_14_method_33_code 64 = .ok (.iadd, 1) := by decide +kernel
theorem d_Model_placeOf_65 : decode prog_14_method_33_code 65 = .ok (.aload_n 0, 1) := by decide +kernel
theorem d_Model_placeOf_66 : decode prog_14_method_33_code 66 = .ok (.iload_n 1, 1) := by decide +kernel
theorem d_Model_placeOf_67 : decode prog_14_method_33_code 67 = .ok (.iload 6, 2) := by decide +kernel
theorem d_Model_placeOf_69 : decode prog_14_method_33_code 69 = .ok (.iconst 2, 1) := by decide +kernel
theorem d_Model_placeOf_70 : decode prog_14_method_33_code 70 = .ok (.invokevirtual 225, 3) := by decide +kernel
theorem d_Model_placeOf_73 : decode prog_14_method_33_code 73 = .ok (.iadd, 1) := by decide +kernel
theorem d_Model_placeOf_74 : decode prog_14_method_33_code 74 = .ok (.istore 7, 2) := by decide +kernel
theorem d_Model_placeOf_76 : decode prog_14_method_33_code 76 = .ok (.iload 6, 2) := by decide +kernel
theorem d_Model_placeOf_78 : decode prog_14_method_33_code 78 = .ok (.iload 7, 2) := by decide +kernel
theorem d_Model_placeOf_80 : decode prog_14_method_33_code 80 = .ok (.iload 5, 2) := by decide +kernel
theorem d_Model_placeOf_82 : decode prog_14_method_33_code 82 = .ok (.if_icmp .ge 7, 3) := by decide +kernel
theorem d_Model_placeOf_85 : decode prog_14_method_33_code 85 = .ok (.iconst 1, 1) := by decide +kernel
theorem d_Model_placeOf_86 : decode prog_14_method_33_code 86 = .ok (.goto 4, 3) := by decide +kernel
theorem d_Model_placeOf_89 : decode prog_14_method_33_code 89 = .ok (.iconst 0, 1) := by decide +kernel
theorem d_Model_placeOf_90 : decode prog_14_method_33_code 90 = .ok (.iadd, 1) := by decide +kernel
theorem d_Model_placeOf_91 : decode prog_14_method_33_code 91 = .ok (.istore 6, 2) := by decide +kernel
theorem d_Model_placeOf_93 : decode prog_14_method_33_code 93 = .ok (.goto (-71), 3) := by decide +kernel
theorem d_Model_placeOf_96 : decode prog_14_method_33_code 96 = .ok (.aload_n 0, 1) := by decide +kernel
theorem d_Model_placeOf_97 : decode prog_14_method_33_code 97 = .ok (.iload 6, 2) := by decide +kernel
theorem d_Model_placeOf_99 : decode prog_14_method_33_code 99 = .ok (.aload_n 0, 1) := by decide +kernel
theorem d_Model_placeOf_100 : decode prog_14_method_33_code 100 = .ok (.getfield 70, 3) := by decide +kernel
theorem d_Model_placeOf_103 : decode prog_14_method_33_code 103 = .ok (.iload_n 1, 1) := by decide +kernel
theorem d_Model_placeOf_104 : decode prog_14_method_33_code 104 = .ok (.iaload, 1) := by decide +kernel
theorem d_Model_placeOf_105 : decode prog_14_method_33_code 105 = .ok (.if_icmp .ge 14, 3) := by decide +kernel
theorem d_Model_placeOf_108 : decode prog_14_method_33_code 108 = .ok (.iload 7, 2) := by decide +kernel
theorem d_Model_placeOf_110 : decode prog_14_method_33_code 110 = .ok (.iload 5, 2) := by decide +kernel
theorem d_Model_placeOf_112 : decode prog_14_method_33_code 112 = .ok (.if_icmp .ne 7, 3) := by decide +kernel
theorem d_Model_placeOf_115 : decode prog_14_method_33_code 115 = .ok (.iconst 1, 1) := by decide +kernel
theorem d_Model_placeOf_116 : decode prog_14_method_33_code 116 = .ok (.goto 4, 3) := by decide +kernel
theorem d_Model_placeOf_119 : decode prog_14_method_33_code 119 = .ok (.iconst 0, 1) := by decide +kernel
theorem d_Model_placeOf_120 : decode prog_14_method_33_code 120 = .ok (.putfield 228, 3) := by decide +kernel
theorem d_Model_placeOf_123 : decode prog_14_method_33_code 123 = .ok (.iload 6, 2) := by decide +kernel
theorem d_Model_placeOf_125 : decode prog_14_method_33_code 125 = .ok (.ireturn, 1) := by decide +kernel
theorem d_Model_edgeAt_0 : decode prog_14_method_25_code 0 = .ok (.aload_n 0, 1) := by decide +kernel
theorem d_Model_edgeAt_1 : decode prog_14_method_25_code 1 = .ok (.getfield 73, 3) := by decide +kernel
theorem d_Model_edgeAt_4 : decode prog_14_method_25_code 4 = .ok (.bipush 6, 2) := by decide +kernel
theorem d_Model_edgeAt_6 : decode prog_14_method_25_code 6 = .ok (.sipush 240, 3) := by decide +kernel
theorem d_Model_edgeAt_9 : decode prog_14_method_25_code 9 = .ok (.iload_n 1, 1) := by decide +kernel
theorem d_Model_edgeAt_10 : decode prog_14_method_25_code 10 = .ok (.imul, 1) := by decide +kernel
theorem d_Model_edgeAt_11 : decode prog_14_method_25_code 11 = .ok (.iload_n 2, 1) := by decide +kernel
theorem d_Model_edgeAt_12 : decode prog_14_method_25_code 12 = .ok (.iadd, 1) := by decide +kernel
theorem d_Model_edgeAt_13 : decode prog_14_method_25_code 13 = .ok (.imul, 1) := by decide +kernel
theorem d_Model_edgeAt_14 : decode prog_14_method_25_code 14 = .ok (.iload_n 3, 1) := by decide +kernel
theorem d_Model_edgeAt_15 : decode prog_14_method_25_code 15 = .ok (.iadd, 1) := by decide +kernel
theorem d_Model_edgeAt_16 : decode prog_14_method_25_code 16 = .ok (.iaload, 1) := by decide +kernel
theorem d_Model_edgeAt_17 : decode prog_14_method_25_code 17 = .ok (.ireturn, 1) := by decide +kernel
abbrev m_s4_Model_edgeAt : Room := { frames := 0, cells := 0, slots := 0, locals := 0 }
set_option maxHeartbeats 4000000 in
set_option maxRecDepth 100000 in
theorem s4_Model_edgeAt (l : Launch) (G : zG) (b0 : Nat) (b1 : Int32) (b2 : Int32) (b3 : Nat) (b4 : Nat) (b5 : Nat) (b6 : Nat) (b7 : Int32) (b8 : Nat) (b9 : Int32) (b10 : Int32) (b11 : Int32) (b12 : Int32) (b13 : Nat) (b14 : Nat) (b15 : Nat) (b16 : Int32) (b17 : Nat) (b18 : Nat) (b19 : Nat) (b20 : Nat) (b21 : Nat) (b22 : Nat) (b23 : Nat) (b24 : Nat) (b25 : Nat) (b26 : Nat) (b27 : Nat) (b28 : Nat) (b29 : Int32) (b30 : Nat) (b31 : Nat) (b32 : Int32) (b33 : Int32) (b34 : Int32) (b35 : Int32) (b36 : Nat) (b37 : Nat) (b38 : Nat) (b39 : Nat) (b40 : Nat) (b41 : Nat) (b42 : Nat) (b43 : Int32) (b44 : Nat) (b45 : Nat) (b46 : Int32) (b47 : Nat) (b48 : Nat) (b49 : Nat) (b50 : Nat) (b51 : Nat) (b52 : Int32) (b53 : Nat) (b54 : Nat) (b55 : Nat) (b56 : Nat → Int32) (hb1 : zI b1 0 240) (hb7 : zI b7 0 8) (hb9 : zI b9 0 240) (hb10 : zI b10 0 240) (hb12 : zI b12 0 1) (hb16 : zI b16 0 12) (hb29 : zI b29 0 1) (hb32 : zI b32 0 1) (hb43 : zI b43 0 1000) (hb46 : zI b46 0 1000) (hb52 : zI b52 0 400) (hb56 : zqa qE b56) : zM l G y_Model_edgeAt prog_14_method_25_code 4 (Option.some Jvm.ClassFile.FieldType.int) m_s4_Model_edgeAt [.ref b0, .int 0, .int b1, .int 0] [(b0, .inr (12, [.int b2, .ref b3, .ref b4, .ref b5, .ref b6, .int b7, .ref b8, .int b9, .int b10, .int b11, .int b12, .ref b13, .ref b14, .ref b15, .int b16, .ref b17, .ref b18, .ref b19, .ref b20, .ref b21, .ref b22, .ref b23, .ref b24, .ref b25, .ref b26, .ref b27, .ref b28, .int b29, .ref b30, .ref b31, .int b32, .int b33, .int b34, .int b35, .ref b36, .ref b37, .ref b38, .ref b39, .ref b40, .ref b41, .ref b42, .int b43, .ref b44, .ref b45, .int b46, .ref b47, .ref b48, .ref b49, .ref b50, .ref b51, .int b52, .ref b53, .ref b54, .ref b55])), (b28, .inl (G.2 0, 2880, .inl b56))] (fun v w => ∃ (e0 : Int32), v = some (.int e0) ∧ w = [(b0, .inr (12, [.int b2, .ref b3, .ref b4, .ref b5, .ref b6, .int b7, .ref b8, .int b9, .int b10, .int b11, .int b12, .ref b13, .ref b14, .ref b15, .int b16, .ref b17, .ref b18, .ref b19, .ref b20, .ref b21, .ref b22, .ref b23, .ref b24, .ref b25, .ref b26, .ref b27, .ref b28, .int b29, .ref b30, .ref b31, .int b32, .int b33, .int b34, .int b35, .ref b36, .ref b37, .ref b38, .ref b39, .ref b40, .ref b41, .ref b42, .int b43, .ref b44, .ref b45, .int b46, .ref b47, .ref b48, .ref b49, .ref b50, .ref b51, .int b52, .ref b53, .ref b54, .ref b55])), (b28, .inl (G.2 0, 2880, .inl b56))] ∧ (zI e0 0 240) ∧ (e0 = b56 (6 * b1.toInt.toNat + 0))) := by
  refine z_start (by decide +kernel) (Nat.le_of_ble_eq_true rfl) ?_
  intro p e s m below meth c A Z hr hnm hA hP hD hS ls hl
  have Z : zC p s m _ meth c prog_14_method_25_code 4 "TraceMachinesModel" G := Z
  obtain ⟨hx, hb, hml, hown, hts, hK, hN, hlocks⟩ := id Z
  have hl : lv_has ls 4 [(0, .ref b0), (1, .int 0), (2, .int b1), (3, .int 0)] := hl
  refine lv_aload_n hx hb d_Model_edgeAt_0 rfl (lv_at hl 0 rfl) ?_
  refine va_get (D := G.1) (ci := 12) (v := .ref b28) (C := R_Model) (T := F_Model) (N := 54) hx hb hts i_Model hown hK hP 0 rfl rfl 26 (by decide) (hts _ q1135) (fun _ h9 => h9) rfl d_Model_edgeAt_1 ?_
  refine lv_bipush (v := 6) hx hb d_Model_edgeAt_4 (by decide) ?_
  refine lv_sipush (v := 240) hx hb d_Model_edgeAt_6 (by decide) ?_
  refine lv_iload_n hx hb d_Model_edgeAt_9 rfl (lv_at hl 1 rfl) ?_
  refine lv_imul hx hb d_Model_edgeAt_10 ?_
  refine z_topi (y := 0) (by decide +kernel) ?_
  refine lv_iload_n hx hb d_Model_edgeAt_11 rfl (lv_at hl 2 rfl) ?_
  refine lv_iadd hx hb d_Model_edgeAt_12 ?_
  refine lv_topi (fun v_1 ev_1 => ?_)
  obtain ⟨qv_1, hv_1⟩ := zI_add (l := 0) (h := 240) zc_0 hb1 ev_1 (by decide)
  rw [li_0] at qv_1
  refine lv_imul hx hb d_Model_edgeAt_13 ?_
  refine lv_topi (fun v_2 ev_2 => ?_)
  obtain ⟨qv_2, hv_2⟩ := zI_mul (l := 0) (h := 1440) zc_6 hv_1 ev_2 (by decide)
  rw [li_6] at qv_2
  refine lv_iload_n hx hb d_Model_edgeAt_14 rfl (lv_at hl 3 rfl) ?_
  refine lv_iadd hx hb d_Model_edgeAt_15 ?_
  refine lv_topi (fun v_3 ev_3 => ?_)
  obtain ⟨qv_3, hv_3⟩ := zI_add (l := 0) (h := 1440) hv_2 zc_0 ev_3 (by decide)
  rw [li_0] at qv_3
  refine va_iald hx hb hK hP 1 0 rfl rfl (zI.inn hv_3 (by decide)) d_Model_edgeAt_16 ?_
  refine lv_topi (fun v_4 ev_4 => ?_)
  have kv_4 := zQE.ld hb56 hv_3 ev_4 (by decide)
  have hv_4 : zI v_4 0 240 := kv_4.1 (by omega)
  exact z_iret hx hb hr hlocks hP hD hS (Nat.le_of_ble_eq_true rfl) (Nat.le_of_ble_eq_true rfl) d_Model_edgeAt_17 ⟨v_4, rfl, rfl, hv_4, (by rw [ev_4, z_plf hv_3 (by decide)]; congr 1; omega)⟩
abbrev m_s5_Model_edgeAt : Room := { frames := 0, cells := 0, slots := 0, locals := 0 }
set_option maxHeartbeats 4000000 in
set_option maxRecDepth 100000 in
theorem s5_Model_edgeAt (l : Launch) (G : zG) (b0 : Nat) (b1 : Int32) (b2 : Int32) (b3 : Nat) (b4 : Nat) (b5 : Nat) (b6 : Nat) (b7 : Int32) (b8 : Nat) (b9 : Int32) (b10 : Int32) (b11 : Int32) (b12 : Int32) (b13 : Nat) (b14 : Nat) (b15 : Nat) (b16 : Int32) (b17 : Nat) (b18 : Nat) (b19 : Nat) (b20 : Nat) (b21 : Nat) (b22 : Nat) (b23 : Nat) (b24 : Nat) (b25 : Nat) (b26 : Nat) (b27 : Nat) (b28 : Nat) (b29 : Int32) (b30 : Nat) (b31 : Nat) (b32 : Int32) (b33 : Int32) (b34 : Int32) (b35 : Int32) (b36 : Nat) (b37 : Nat) (b38 : Nat) (b39 : Nat) (b40 : Nat) (b41 : Nat) (b42 : Nat) (b43 : Int32) (b44 : Nat) (b45 : Nat) (b46 : Int32) (b47 : Nat) (b48 : Nat) (b49 : Nat) (b50 : Nat) (b51 : Nat) (b52 : Int32) (b53 : Nat) (b54 : Nat) (b55 : Nat) (b56 : Nat → Int32) (hb1 : zI b1 0 240) (hb7 : zI b7 0 8) (hb9 : zI b9 0 240) (hb10 : zI b10 0 240) (hb12 : zI b12 0 1) (hb16 : zI b16 0 12) (hb29 : zI b29 0 1) (hb32 : zI b32 0 1) (hb43 : zI b43 0 1000) (hb46 : zI b46 0 1000) (hb52 : zI b52 0 400) (hb56 : zqa qE b56) : zM l G y_Model_edgeAt prog_14_method_25_code 4 (Option.some Jvm.ClassFile.FieldType.int) m_s5_Model_edgeAt [.ref b0, .int 0, .int b1, .int 1] [(b0, .inr (12, [.int b2, .ref b3, .ref b4, .ref b5, .ref b6, .int b7, .ref b8, .int b9, .int b10, .int b11, .int b12, .ref b13, .ref b14, .ref b15, .int b16, .ref b17, .ref b18, .ref b19, .ref b20, .ref b21, .ref b22, .ref b23, .ref b24, .ref b25, .ref b26, .ref b27, .ref b28, .int b29, .ref b30, .ref b31, .int b32, .int b33, .int b34, .int b35, .ref b36, .ref b37, .ref b38, .ref b39, .ref b40, .ref b41, .ref b42, .int b43, .ref b44, .ref b45, .int b46, .ref b47, .ref b48, .ref b49, .ref b50, .ref b51, .int b52, .ref b53, .ref b54, .ref b55])), (b28, .inl (G.2 0, 2880, .inl b56))] (fun v w => ∃ (e0 : Int32), v = some (.int e0) ∧ w = [(b0, .inr (12, [.int b2, .ref b3, .ref b4, .ref b5, .ref b6, .int b7, .ref b8, .int b9, .int b10, .int b11, .int b12, .ref b13, .ref b14, .ref b15, .int b16, .ref b17, .ref b18, .ref b19, .ref b20, .ref b21, .ref b22, .ref b23, .ref b24, .ref b25, .ref b26, .ref b27, .ref b28, .int b29, .ref b30, .ref b31, .int b32, .int b33, .int b34, .int b35, .ref b36, .ref b37, .ref b38, .ref b39, .ref b40, .ref b41, .ref b42, .int b43, .ref b44, .ref b45, .int b46, .ref b47, .ref b48, .ref b49, .ref b50, .ref b51, .int b52, .ref b53, .ref b54, .ref b55])), (b28, .inl (G.2 0, 2880, .inl b56))] ∧ (zI e0 0 9) ∧ (e0 = b56 (6 * b1.toInt.toNat + 1))) := by
  refine z_start (by decide +kernel) (Nat.le_of_ble_eq_true rfl) ?_
  intro p e s m below meth c A Z hr hnm hA hP hD hS ls hl
  have Z : zC p s m _ meth c prog_14_method_25_code 4 "TraceMachinesModel" G := Z
  obtain ⟨hx, hb, hml, hown, hts, hK, hN, hlocks⟩ := id Z
  have hl : lv_has ls 4 [(0, .ref b0), (1, .int 0), (2, .int b1), (3, .int 1)] := hl
  refine lv_aload_n hx hb d_Model_edgeAt_0 rfl (lv_at hl 0 rfl) ?_
  refine va_get (D := G.1) (ci := 12) (v := .ref b28) (C := R_Model) (T := F_Model) (N := 54) hx hb hts i_Model hown hK hP 0 rfl rfl 26 (by decide) (hts _ q1135) (fun _ h9 => h9) rfl d_Model_edgeAt_1 ?_
  refine lv_bipush (v := 6) hx hb d_Model_edgeAt_4 (by decide) ?_
  refine lv_sipush (v := 240) hx hb d_Model_edgeAt_6 (by decide) ?_
  refine lv_iload_n hx hb d_Model_edgeAt_9 rfl (lv_at hl 1 rfl) ?_
  refine lv_imul hx hb d_Model_edgeAt_10 ?_
  refine z_topi (y := 0) (by decide +kernel) ?_
  refine lv_iload_n hx hb d_Model_edgeAt_11 rfl (lv_at hl 2 rfl) ?_
  refine lv_iadd hx hb d_Model_edgeAt_12 ?_
  refine lv_topi (fun v_1 ev_1 => ?_)
  obtain ⟨qv_1, hv_1⟩ := zI_add (l := 0) (h := 240) zc_0 hb1 ev_1 (by decide)
  rw [li_0] at qv_1
  refine lv_imul hx hb d_Model_edgeAt_13 ?_
  refine lv_topi (fun v_2 ev_2 => ?_)
  obtain ⟨qv_2, hv_2⟩ := zI_mul (l := 0) (h := 1440) zc_6 hv_1 ev_2 (by decide)
  rw [li_6] at qv_2
  refine lv_iload_n hx hb d_Model_edgeAt_14 rfl (lv_at hl 3 rfl) ?_
  refine lv_iadd hx hb d_Model_edgeAt_15 ?_
  refine lv_topi (fun v_3 ev_3 => ?_)
  obtain ⟨qv_3, hv_3⟩ := zI_add (l := 1) (h := 1441) hv_2 zc_1 ev_3 (by decide)
  rw [li_1] at qv_3
  refine va_iald hx hb hK hP 1 0 rfl rfl (zI.inn hv_3 (by decide)) d_Model_edgeAt_16 ?_
  refine lv_topi (fun v_4 ev_4 => ?_)
  have kv_4 := zQE.ld hb56 hv_3 ev_4 (by decide)
  have hv_4 : zI v_4 0 9 := kv_4.2.1 (by omega)
  exact z_iret hx hb hr hlocks hP hD hS (Nat.le_of_ble_eq_true rfl) (Nat.le_of_ble_eq_true rfl) d_Model_edgeAt_17 ⟨v_4, rfl, rfl, hv_4, (by rw [ev_4, z_plf hv_3 (by decide)]; congr 1; omega)⟩
abbrev m_s6_Model_edgeAt : Room := { frames := 0, cells := 0, slots := 0, locals := 0 }
set_option maxHeartbeats 4000000 in
set_option maxRecDepth 100000 in
theorem s6_Model_edgeAt (l : Launch) (G : zG) (b0 : Nat) (b1 : Int32) (b2 : Int32) (b3 : Nat) (b4 : Nat) (b5 : Nat) (b6 : Nat) (b7 : Int32) (b8 : Nat) (b9 : Int32) (b10 : Int32) (b11 : Int32) (b12 : Int32) (b13 : Nat) (b14 : Nat) (b15 : Nat) (b16 : Int32) (b17 : Nat) (b18 : Nat) (b19 : Nat) (b20 : Nat) (b21 : Nat) (b22 : Nat) (b23 : Nat) (b24 : Nat) (b25 : Nat) (b26 : Nat) (b27 : Nat) (b28 : Nat) (b29 : Int32) (b30 : Nat) (b31 : Nat) (b32 : Int32) (b33 : Int32) (b34 : Int32) (b35 : Int32) (b36 : Nat) (b37 : Nat) (b38 : Nat) (b39 : Nat) (b40 : Nat) (b41 : Nat) (b42 : Nat) (b43 : Int32) (b44 : Nat) (b45 : Nat) (b46 : Int32) (b47 : Nat) (b48 : Nat) (b49 : Nat) (b50 : Nat) (b51 : Nat) (b52 : Int32) (b53 : Nat) (b54 : Nat) (b55 : Nat) (b56 : Nat → Int32) (hb1 : zI b1 0 240) (hb7 : zI b7 0 8) (hb9 : zI b9 0 240) (hb10 : zI b10 0 240) (hb12 : zI b12 0 1) (hb16 : zI b16 0 12) (hb29 : zI b29 0 1) (hb32 : zI b32 0 1) (hb43 : zI b43 0 1000) (hb46 : zI b46 0 1000) (hb52 : zI b52 0 400) (hb56 : zqa qE b56) : zM l G y_Model_edgeAt prog_14_method_25_code 4 (Option.some Jvm.ClassFile.FieldType.int) m_s6_Model_edgeAt [.ref b0, .int 0, .int b1, .int 2] [(b0, .inr (12, [.int b2, .ref b3, .ref b4, .ref b5, .ref b6, .int b7, .ref b8, .int b9, .int b10, .int b11, .int b12, .ref b13, .ref b14, .ref b15, .int b16, .ref b17, .ref b18, .ref b19, .ref b20, .ref b21, .ref b22, .ref b23, .ref b24, .ref b25, .ref b26, .ref b27, .ref b28, .int b29, .ref b30, .ref b31, .int b32, .int b33, .int b34, .int b35, .ref b36, .ref b37, .ref b38, .ref b39, .ref b40, .ref b41, .ref b42, .int b43, .ref b44, .ref b45, .int b46, .ref b47, .ref b48, .ref b49, .ref b50, .ref b51, .int b52, .ref b53, .ref b54, .ref b55])), (b28, .inl (G.2 0, 2880, .inl b56))] (fun v w => ∃ (e0 : Int32), v = some (.int e0) ∧ w = [(b0, .inr (12, [.int b2, .ref b3, .ref b4, .ref b5, .ref b6, .int b7, .ref b8, .int b9, .int b10, .int b11, .int b12, .ref b13, .ref b14, .ref b15, .int b16, .ref b17, .ref b18, .ref b19, .ref b20, .ref b21, .ref b22, .ref b23, .ref b24, .ref b25, .ref b26, .ref b27, .ref b28, .int b29, .ref b30, .ref b31, .int b32, .int b33, .int b34, .int b35, .ref b36, .ref b37, .ref b38, .ref b39, .ref b40, .ref b41, .ref b42, .int b43, .ref b44, .ref b45, .int b46, .ref b47, .ref b48, .ref b49, .ref b50, .ref b51, .int b52, .ref b53, .ref b54, .ref b55])), (b28, .inl (G.2 0, 2880, .inl b56))] ∧ (zI e0 0 240) ∧ (e0 = b56 (6 * b1.toInt.toNat + 2))) := by
  refine z_start (by decide +kernel) (Nat.le_of_ble_eq_true rfl) ?_
  intro p e s m below meth c A Z hr hnm hA hP hD hS ls hl
  have Z : zC p s m _ meth c prog_14_method_25_code 4 "TraceMachinesModel" G := Z
  obtain ⟨hx, hb, hml, hown, hts, hK, hN, hlocks⟩ := id Z
  have hl : lv_has ls 4 [(0, .ref b0), (1, .int 0), (2, .int b1), (3, .int 2)] := hl
  refine lv_aload_n hx hb d_Model_edgeAt_0 rfl (lv_at hl 0 rfl) ?_
  refine va_get (D := G.1) (ci := 12) (v := .ref b28) (C := R_Model) (T := F_Model) (N := 54) hx hb hts i_Model hown hK hP 0 rfl rfl 26 (by decide) (hts _ q1135) (fun _ h9 => h9) rfl d_Model_edgeAt_1 ?_
  refine lv_bipush (v := 6) hx hb d_Model_edgeAt_4 (by decide) ?_
  refine lv_sipush (v := 240) hx hb d_Model_edgeAt_6 (by decide) ?_
  refine lv_iload_n hx hb d_Model_edgeAt_9 rfl (lv_at hl 1 rfl) ?_
  refine lv_imul hx hb d_Model_edgeAt_10 ?_
  refine z_topi (y := 0) (by decide +kernel) ?_
  refine lv_iload_n hx hb d_Model_edgeAt_11 rfl (lv_at hl 2 rfl) ?_
  refine lv_iadd hx hb d_Model_edgeAt_12 ?_
  refine lv_topi (fun v_1 ev_1 => ?_)
  obtain ⟨qv_1, hv_1⟩ := zI_add (l := 0) (h := 240) zc_0 hb1 ev_1 (by decide)
  rw [li_0] at qv_1
  refine lv_imul hx hb d_Model_edgeAt_13 ?_
  refine lv_topi (fun v_2 ev_2 => ?_)
  obtain ⟨qv_2, hv_2⟩ := zI_mul (l := 0) (h := 1440) zc_6 hv_1 ev_2 (by decide)
  rw [li_6] at qv_2
  refine lv_iload_n hx hb d_Model_edgeAt_14 rfl (lv_at hl 3 rfl) ?_
  refine lv_iadd hx hb d_Model_edgeAt_15 ?_
  refine lv_topi (fun v_3 ev_3 => ?_)
  obtain ⟨qv_3, hv_3⟩ := zI_add (l := 2) (h := 1442) hv_2 zc_2 ev_3 (by decide)
  rw [li_2] at qv_3
  refine va_iald hx hb hK hP 1 0 rfl rfl (zI.inn hv_3 (by decide)) d_Model_edgeAt_16 ?_
  refine lv_topi (fun v_4 ev_4 => ?_)
  have kv_4 := zQE.ld hb56 hv_3 ev_4 (by decide)
  have hv_4 : zI v_4 0 240 := kv_4.2.2 (by omega)
  exact z_iret hx hb hr hlocks hP hD hS (Nat.le_of_ble_eq_true rfl) (Nat.le_of_ble_eq_true rfl) d_Model_edgeAt_17 ⟨v_4, rfl, rfl, hv_4, (by rw [ev_4, z_plf hv_3 (by decide)]; congr 1; omega)⟩
abbrev m_s1_Model_placeOf : Room := { frames := 1, cells := 0, slots := 0, locals := 23 }
set_option maxHeartbeats 4000000 in
set_option maxRecDepth 100000 in
theorem s1_Model_placeOf (l : Launch) (G : zG) (b0 : Nat) (b1 : Int32) (b2 : Int32) (b3 : Int32) (b4 : Int32) (b5 : Nat) (b6 : Nat) (b7 : Nat) (b8 : Nat) (b9 : Int32) (b10 : Nat) (b11 : Int32) (b12 : Int32) (b13 : Int32) (b14 : Int32) (b15 : Nat) (b16 : Nat) (b17 : Nat) (b18 : Int32) (b19 : Nat) (b20 : Nat) (b21 : Nat) (b22 : Nat) (b23 : Nat) (b24 : Nat) (b25 : Nat) (b26 : Nat) (b27 : Nat) (b28 : Nat) (b29 : Nat) (b30 : Nat) (b31 : Int32) (b32 : Nat) (b33 : Nat) (b34 : Int32) (b35 : Int32) (b36 : Int32) (b37 : Int32) (b38 : Nat) (b39 : Nat) (b40 : Nat) (b41 : Nat) (b42 : Nat) (b43 : Nat) (b44 : Nat) (b45 : Int32) (b46 : Nat) (b47 : Nat) (b48 : Int32) (b49 : Nat) (b50 : Nat) (b51 : Nat) (b52 : Nat) (b53 : Nat) (b54 : Int32) (b55 : Nat) (b56 : Nat) (b57 : Nat) (b58 : Nat → Int32) (b59 : Nat → Int32) (hb1 : zI b1 0 240) (hb2 : zI b2 0 9) (hb3 : zI b3 0 240) (hb9 : zI b9 0 8) (hb11 : zI b11 0 240) (hb12 : zI b12 0 240) (hb14 : zI b14 0 1) (hb18 : zI b18 0 12) (hb31 : zI b31 0 1) (hb34 : zI b34 0 1) (hb45 : zI b45 0 1000) (hb48 : zI b48 0 1000) (hb54 : zI b54 0 400) (hb58 : zR b58 0 240) (hb59 : zqa qE b59) : zM l G y_Model_placeOf prog_14_method_33_code 8 (Option.some Jvm.ClassFile.FieldType.int) m_s1_Model_placeOf [.ref b0, .int 0, .int b1, .int b2, .int b3] [(b0, .inr (12, [.int b4, .ref b5, .ref b6, .ref b7, .ref b8, .int b9, .ref b10, .int b11, .int b12, .int b13, .int b14, .ref b15, .ref b16, .ref b17, .int b18, .ref b19, .ref b20, .ref b21, .ref b22, .ref b23, .ref b24, .ref b25, .ref b26, .ref b27, .ref b28, .ref b29, .ref b30, .int b31, .ref b32, .ref b33, .int b34, .int b35, .int b36, .int b37, .ref b38, .ref b39, .ref b40, .ref b41, .ref b42, .ref b43, .ref b44, .int b45, .ref b46, .ref b47, .int b48, .ref b49, .ref b50, .ref b51, .ref b52, .ref b53, .int b54, .ref b55, .ref b56, .ref b57])), (b29, .inl (G.2 0, 2, .inl b58)), (b30, .inl (G.2 0, 2880, .inl b59))] (fun v w => ∃ (e0 : Int32), ∃ (e1 : Int32), v = some (.int e0) ∧ w = [(b0, .inr (12, [.int b4, .ref b5, .ref b6, .ref b7, .ref b8, .int b9, .ref b10, .int b11, .int b12, .int b13, .int b14, .ref b15, .ref b16, .ref b17, .int b18, .ref b19, .ref b20, .ref b21, .ref b22, .ref b23, .ref b24, .ref b25, .ref b26, .ref b27, .ref b28, .ref b29, .ref b30, .int e1, .ref b32, .ref b33, .int b34, .int b35, .int b36, .int b37, .ref b38, .ref b39, .ref b40, .ref b41, .ref b42, .ref b43, .ref b44, .int b45, .ref b46, .ref b47, .int b48, .ref b49, .ref b50, .ref b51, .ref b52, .ref b53, .int b54, .ref b55, .ref b56, .ref b57])), (b29, .inl (G.2 0, 2, .inl b58)), (b30, .inl (G.2 0, 2880, .inl b59))] ∧ (zI e0 0 240) ∧ (zI e1 0 1) ∧ ((e0 : Int32).toInt ≤ (b58 (0 : Int32).toNatClampNeg).toInt) ∧ ((e1 : Int32).toInt = 0 ∨ (e0 : Int32).toInt < (b58 (0 : Int32).toNatClampNeg).toInt ∧ (b59 (6 * (e0 : Int32).toInt.toNat)).toInt = b1.toInt ∧ (b59 (6 * (e0 : Int32).toInt.toNat + 2)).toInt = b3.toInt)) := by
  refine z_start (by decide +kernel) (Nat.le_of_ble_eq_true rfl) ?_
  intro p e s m below meth c A Z hr hnm hA hP hD hS ls hl
  have Z : zC p s m _ meth c prog_14_method_33_code 8 "TraceMachinesModel" G := Z
  obtain ⟨hx, hb, hml, hown, hts, hK, hN, hlocks⟩ := id Z
  have hl : lv_has ls 8 [(0, .ref b0), (1, .int 0), (2, .int b1), (3, .int b2), (4, .int b3)] := hl
  refine lv_sipush (v := 2410) hx hb d_Model_placeOf_0 (by decide) ?_
  refine lv_iload_n hx hb d_Model_placeOf_3 rfl (lv_at hl 2 rfl) ?_
  refine lv_imul hx hb d_Model_placeOf_4 ?_
  refine lv_topi (fun v_1 ev_1 => ?_)
  obtain ⟨qv_1, hv_1⟩ := zI_mul (l := 0) (h := 578400) zc_2410 hb1 ev_1 (by decide)
  rw [li_2410] at qv_1
  refine lv_sipush (v := 241) hx hb d_Model_placeOf_5 (by decide) ?_
  refine lv_iload_n hx hb d_Model_placeOf_8 rfl (lv_at hl 3 rfl) ?_
  refine lv_imul hx hb d_Model_placeOf_9 ?_
  refine lv_topi (fun v_2 ev_2 => ?_)
  obtain ⟨qv_2, hv_2⟩ := zI_mul (l := 0) (h := 2169) zc_241 hb2 ev_2 (by decide)
  rw [li_241] at qv_2
  refine lv_iadd hx hb d_Model_placeOf_10 ?_
  refine lv_topi (fun v_3 ev_3 => ?_)
  obtain ⟨qv_3, hv_3⟩ := zI_add (l := 0) (h := 580569) hv_1 hv_2 ev_3 (by decide)
  refine lv_iload hx hb d_Model_placeOf_11 (lv_at hl 4 rfl) ?_
  refine lv_iadd hx hb d_Model_placeOf_13 ?_
  refine lv_topi (fun v_4 ev_4 => ?_)
  obtain ⟨qv_4, hv_4⟩ := zI_add (l := 0) (h := 580809) hv_3 hb3 ev_4 (by decide)
  refine lv_istore (lv' := [(5, .int v_4), (0, .ref b0), (1, .int 0), (2, .int b1), (3, .int b2), (4, .int b3)]) hx hb d_Model_placeOf_14 hl (by decide) rfl (fun ls hl => ?_)
  refine lv_iconst (v := 0) hx hb d_Model_placeOf_16 (by decide) ?_
  refine lv_istore (lv' := [(6, .int 0), (5, .int v_4), (0, .ref b0), (1, .int 0), (2, .int b1), (3, .int b2), (4, .int b3)]) hx hb d_Model_placeOf_17 hl (by decide) rfl (fun ls hl => ?_)
  refine lv_iconst (v := (-1)) hx hb d_Model_placeOf_19 (by decide) ?_
  refine lv_istore (lv' := [(7, .int (-1)), (6, .int 0), (5, .int v_4), (0, .ref b0), (1, .int 0), (2, .int b1), (3, .int b2), (4, .int b3)]) hx hb d_Model_placeOf_20 hl (by decide) rfl (fun ls hl => ?_)
  suffices key : ∀ (k_57 : Nat) (y_58 : Int32) (y_59 : Int32) (H : Heap) (locs : List Loc) (ls : Array Slot), (zI y_58 (-1) 580809) → (zI y_59 0 240) → ((y_59 : Int32).toInt ≤ (b58 (0 : Int32).toNatClampNeg).toInt) → ((y_58 : Int32).toInt < (v_4 : Int32).toInt) → (240 : Int) - y_59.toInt < (k_57 : Int) → va_P G.1 classes [(b0, .inr (12, [.int b4, .ref b5, .ref b6, .ref b7, .ref b8, .int b9, .ref b10, .int b11, .int b12, .int b13, .int b14, .ref b15, .ref b16, .ref b17, .int b18, .ref b19, .ref b20, .ref b21, .ref b22, .ref b23, .ref b24, .ref b25, .ref b26, .ref b27, .ref b28, .ref b29, .ref b30, .int b31, .ref b32, .ref b33, .int b34, .int b35, .int b36, .int b37, .ref b38, .ref b39, .ref b40, .ref b41, .ref b42, .ref b43, .ref b44, .int b45, .ref b46, .ref b47, .int b48, .ref b49, .ref b50, .ref b51, .ref b52, .ref b53, .int b54, .ref b55, .ref b56, .ref b57])), (b29, .inl (G.2 0, 2, .inl b58)), (b30, .inl (G.2 0, 2880, .inl b59))] H → va_D A [(b0, .inr (12, [.int b4, .ref b5, .ref b6, .ref b7, .ref b8, .int b9, .ref b10, .int b11, .int b12, .int b13, .int b14, .ref b15, .ref b16, .ref b17, .int b18, .ref b19, .ref b20, .ref b21, .ref b22, .ref b23, .ref b24, .ref b25, .ref b26, .ref b27, .ref b28, .ref b29, .ref b30, .int b31, .ref b32, .ref b33, .int b34, .int b35, .int b36, .int b37, .ref b38, .ref b39, .ref b40, .ref b41, .ref b42, .ref b43, .ref b44, .int b45, .ref b46, .ref b47, .int b48, .ref b49, .ref b50, .ref b51, .ref b52, .ref b53, .int b54, .ref b55, .ref b56, .ref b57])), (b29, .inl (G.2 0, 2, .inl b58)), (b30, .inl (G.2 0, 2880, .inl b59))] → va_S A s.heap H locs → lv_has ls 8 [(7, .int y_58), (6, .int y_59), (5, .int v_4), (0, .ref b0), (1, .int 0), (2, .int b1), (3, .int b2), (4, .int b3)] → W p l e m_s1_Model_placeOf s m ([.ref b0, .int 0, .int b1, .int b2, .int b3] : List Value).toArray below meth c H locs 0 0 (MQ below (zQ G (fun v w => ∃ (e0 : Int32), ∃ (e1 : Int32), v = some (.int e0) ∧ w = [(b0, .inr (12, [.int b4, .ref b5, .ref b6, .ref b7, .ref b8, .int b9, .ref b10, .int b11, .int b12, .int b13, .int b14, .ref b15, .ref b16, .ref b17, .int b18, .ref b19, .ref b20, .ref b21, .ref b22, .ref b23, .ref b24, .ref b25, .ref b26, .ref b27, .ref b28, .ref b29, .ref b30, .int e1, .ref b32, .ref b33, .int b34, .int b35, .int b36, .int b37, .ref b38, .ref b39, .ref b40, .ref b41, .ref b42, .ref b43, .ref b44, .int b45, .ref b46, .ref b47, .int b48, .ref b49, .ref b50, .ref b51, .ref b52, .ref b53, .int b54, .ref b55, .ref b56, .ref b57])), (b29, .inl (G.2 0, 2, .inl b58)), (b30, .inl (G.2 0, 2880, .inl b59))] ∧ (zI e0 0 240) ∧ (zI e1 0 1) ∧ ((e0 : Int32).toInt ≤ (b58 (0 : Int32).toNatClampNeg).toInt) ∧ ((e1 : Int32).toInt = 0 ∨ (e0 : Int32).toInt < (b58 (0 : Int32).toNatClampNeg).toInt ∧ (b59 (6 * (e0 : Int32).toInt.toNat)).toInt = b1.toInt ∧ (b59 (6 * (e0 : Int32).toInt.toNat + 2)).toInt = b3.toInt)) A) ([.ref b0, .int 0, .int b1, .int b2, .int b3] : List Value).toArray s m_s1_Model_placeOf.cells m_s1_Model_placeOf.slots A) (F0 m 22 ls []) by
    exact key 242 ((-1)) (0) _ _ _ (zI.wk (l' := (-1)) (h' := 580809) zc_m1 (by decide)) (zI.wk (l' := 0) (h' := 240) zc_0 (by decide)) (by have _l0 := li_0; have h9 := hb58 (0 : Int32).toNatClampNeg; omega) (by have _l0 := li_m1; omega) (by have _l0 := li_0; omega) hP hD hS (lv_sub hl [0, 1, 2, 3, 4, 5, 6, 7] rfl)
  intro k_57
  induction k_57 with
  | zero =>
    intro y_58 y_59 H locs ls hy_58 hy_59 hli_60 hli_61 hmk_57 hP hD hS hl
    exfalso; omega
  | succ k_57 ihk_57 =>
    intro y_58 y_59 H locs ls hy_58 hy_59 hli_60 hli_61 hmk_57 hP hD hS hl
    refine lv_iload hx hb d_Model_placeOf_22 (lv_at hl 1 rfl) ?_
    refine lv_aload_n hx hb d_Model_placeOf_24 rfl (lv_at hl 3 rfl) ?_
    refine va_get (D := G.1) (ci := 12) (v := .ref b29) (C := R_Model) (T := F_Model) (N := 54) hx hb hts i_Model hown hK hP 0 rfl rfl 25 (by decide) (hts _ q1134) (fun _ h9 => h9) rfl d_Model_placeOf_25 ?_
    refine lv_iload_n hx hb d_Model_placeOf_28 rfl (lv_at hl 4 rfl) ?_
    refine va_iald hx hb hK hP 1 0 rfl rfl (i := 0) (z_in rfl) d_Model_placeOf_29 ?_
    refine lv_topi (fun v_62 ev_62 => ?_)
    have hv_62 : zI v_62 0 240 := (hb58 _).eq ev_62
    have hemv_62 : v_62.toInt ≤ 240 ∧ v_62.toInt = (b58 (0 : Int32).toNatClampNeg).toInt := ⟨hv_62.2, by rw [ev_62]⟩
    refine lv_icmp_ge (tgt := 96) hx hb d_Model_placeOf_30 (by decide) (fun hc_63 => ?_) (fun hc_63 => ?_)
    · have _nhc_63 := hc_63
      have ni_64 := (fa_le _ _).mp hc_63
      refine lv_aload_n hx hb d_Model_placeOf_96 rfl (lv_at hl 3 rfl) ?_
      refine lv_iload hx hb d_Model_placeOf_97 (lv_at hl 1 rfl) ?_
      refine lv_aload_n hx hb d_Model_placeOf_99 rfl (lv_at hl 3 rfl) ?_
      refine va_get (D := G.1) (ci := 12) (v := .ref b29) (C := R_Model) (T := F_Model) (N := 54) hx hb hts i_Model hown hK hP 0 rfl rfl 25 (by decide) (hts _ q1134) (fun _ h9 => h9) rfl d_Model_placeOf_100 ?_
      refine lv_iload_n hx hb d_Model_placeOf_103 rfl (lv_at hl 4 rfl) ?_
      refine va_iald hx hb hK hP 1 0 rfl rfl (i := 0) (z_in rfl) d_Model_placeOf_104 ?_
      refine lv_topi (fun v_65 ev_65 => ?_)
      obtain rfl : v_62 = v_65 := ev_62.trans ev_65.symm
      refine lv_icmp_ge (tgt := 119) hx hb d_Model_placeOf_105 (by decide) (fun _ => ?_) (fun hc => (by exfalso; exact hc ((fa_le _ _).mpr (by omega))))
      refine lv_iconst (v := 0) hx hb d_Model_placeOf_119 (by decide) ?_
      refine va_put (D := G.1) (ci := 12) (v := .int 0) (ty := .boolean) (C := R_Model) (T := F_Model) (N := 54) hx hb hts i_Model t_Model t_Model_ok n_Model hown hK hP hD hS 0 rfl rfl 27 (by decide) (hts _ q1136) (fun _ h9 => h9) rfl (by decide +kernel) rfl rfl (Nat.le_of_ble_eq_true rfl) d_Model_placeOf_120 (fun H locs hP hD hS => ?_)
      have hP : va_P G.1 classes [(b0, .inr (12, [.int b4, .ref b5, .ref b6, .ref b7, .ref b8, .int b9, .ref b10, .int b11, .int b12, .int b13, .int b14, .ref b15, .ref b16, .ref b17, .int b18, .ref b19, .ref b20, .ref b21, .ref b22, .ref b23, .ref b24, .ref b25, .ref b26, .ref b27, .ref b28, .ref b29, .ref b30, .int 0, .ref b32, .ref b33, .int b34, .int b35, .int b36, .int b37, .ref b38, .ref b39, .ref b40, .ref b41, .ref b42, .ref b43, .ref b44, .int b45, .ref b46, .ref b47, .int b48, .ref b49, .ref b50, .ref b51, .ref b52, .ref b53, .int b54, .ref b55, .ref b56, .ref b57])), (b29, .inl (G.2 0, 2, .inl b58)), (b30, .inl (G.2 0, 2880, .inl b59))] H := hP
      have hD := z_tie hP hD rfl
      refine lv_iload hx hb d_Model_placeOf_123 (lv_at hl 1 rfl) ?_
      exact z_iret hx hb hr hlocks hP hD hS (Nat.le_of_ble_eq_true rfl) (Nat.le_of_ble_eq_true rfl) d_Model_placeOf_125 ⟨y_59, 0, rfl, rfl, hy_59, (zI.wk (l' := 0) (h' := 1) zc_0 (by decide)), (by omega), (Or.inl li_0)⟩
    · have _nhc_63 := hc_63
      have ni_66 := (fa_lt _ _).mp (zi_nle hc_63)
      have hv_67 : zI y_59 0 239 := zI.lt_l hy_59 hv_62 (zi_nle hc_63) (by decide)
      have hv_68 : zI v_62 1 240 := zI.lt_r hy_59 hv_62 (zi_nle hc_63) (by decide)
      refine lv_iload hx hb d_Model_placeOf_33 (lv_at hl 0 rfl) ?_
      refine lv_iload hx hb d_Model_placeOf_35 (lv_at hl 2 rfl) ?_
      refine lv_icmp_ge (tgt := 96) hx hb d_Model_placeOf_37 (by decide) (fun hc => (by exfalso; have h9 := (fa_le _ _).mp hc; omega)) (fun _ => ?_)
      refine lv_sipush (v := 2410) hx hb d_Model_placeOf_40 (by decide) ?_
      refine lv_aload_n hx hb d_Model_placeOf_43 rfl (lv_at hl 3 rfl) ?_
      refine lv_iload_n hx hb d_Model_placeOf_44 rfl (lv_at hl 4 rfl) ?_
      refine lv_iload hx hb d_Model_placeOf_45 (lv_at hl 1 rfl) ?_
      refine lv_iconst (v := 0) hx hb d_Model_placeOf_47 (by decide) ?_
      refine z_callV (index := 225) (As := [.int 0, .int y_59, .int 0]) (rest := [.int 2410]) (wr := [(b29, .inl (G.2 0, 2, .inl b58))]) Z (s4_Model_edgeAt l G (b0) (y_59) (b4) (b5) (b6) (b7) (b8) (b9) (b10) (b11) (b12) (b13) (b14) (b15) (b16) (b17) (b18) (b19) (b20) (b21) (b22) (b23) (b24) (b25) (b26) (b27) (b28) (b29) (b30) (b31) (b32) (b33) (b34) (b35) (b36) (b37) (b38) (b39) (b40) (b41) (b42) (b43) (b44) (b45) (b46) (b47) (b48) (b49) (b50) (b51) (b52) (b53) (b54) (b55) (b56) (b57) (b59) (zI.wk (l' := 0) (h' := 240) hv_67 (by decide)) hb9 hb11 hb12 hb14 hb18 hb31 hb34 hb45 hb48 hb54 hb59) hl.1 q1408 q1410 qs68 q14 q1411 ⟨by decide, by decide, by show _ = some 3; decide +kernel⟩ ⟨Nat.le_of_ble_eq_true rfl, Nat.le_of_ble_eq_true rfl⟩ ⟨Nat.le_of_ble_eq_true rfl, Nat.le_of_ble_eq_true rfl⟩ rfl (Nat.le_of_ble_eq_true rfl) d_Model_placeOf_48 hP hD hS hA 0 12 rfl rfl rfl [0, 2] [1] rfl rfl rfl rfl (by decide) (fun v w1 H locs hw_69 hP hD hS => ?_)
      obtain ⟨x_70, rfl, rfl, hx_70, hfx_71⟩ := hw_69
      have hP : va_P G.1 classes [(b29, .inl (G.2 0, 2, .inl b58)), (b0, .inr (12, [.int b4, .ref b5, .ref b6, .ref b7, .ref b8, .int b9, .ref b10, .int b11, .int b12, .int b13, .int b14, .ref b15, .ref b16, .ref b17, .int b18, .ref b19, .ref b20, .ref b21, .ref b22, .ref b23, .ref b24, .ref b25, .ref b26, .ref b27, .ref b28, .ref b29, .ref b30, .int b31, .ref b32, .ref b33, .int b34, .int b35, .int b36, .int b37, .ref b38, .ref b39, .ref b40, .ref b41, .ref b42, .ref b43, .ref b44, .int b45, .ref b46, .ref b47, .int b48, .ref b49, .ref b50, .ref b51, .ref b52, .ref b53, .int b54, .ref b55, .ref b56, .ref b57])), (b30, .inl (G.2 0, 2880, .inl b59))] H := hP
      have hD := z_tie hP hD rfl
      refine W.widen (k := 0) (n := 0) (Nat.le_of_ble_eq_true rfl) (Nat.le_of_ble_eq_true rfl) ?_
      refine lv_imul hx hb d_Model_placeOf_51 ?_
      refine lv_topi (fun v_72 ev_72 => ?_)
      obtain ⟨qv_72, hv_72⟩ := zI_mul (l := 0) (h := 578400) zc_2410 hx_70 ev_72 (by decide)
      rw [li_2410] at qv_72
      refine lv_sipush (v := 241) hx hb d_Model_placeOf_52 (by decide) ?_
      refine lv_aload_n hx hb d_Model_placeOf_55 rfl (lv_at hl 3 rfl) ?_
      refine lv_iload_n hx hb d_Model_placeOf_56 rfl (lv_at hl 4 rfl) ?_
      refine lv_iload hx hb d_Model_placeOf_57 (lv_at hl 1 rfl) ?_
      refine lv_iconst (v := 1) hx hb d_Model_placeOf_59 (by decide) ?_
      refine z_callV (index := 225) (As := [.int 0, .int y_59, .int 1]) (rest := [.int 241, .int v_72]) (wr := [(b29, .inl (G.2 0, 2, .inl b58))]) Z (s5_Model_edgeAt l G (b0) (y_59) (b4) (b5) (b6) (b7) (b8) (b9) (b10) (b11) (b12) (b13) (b14) (b15) (b16) (b17) (b18) (b19) (b20) (b21) (b22) (b23) (b24) (b25) (b26) (b27) (b28) (b29) (b30) (b31) (b32) (b33) (b34) (b35) (b36) (b37) (b38) (b39) (b40) (b41) (b42) (b43) (b44) (b45) (b46) (b47) (b48) (b49) (b50) (b51) (b52) (b53) (b54) (b55) (b56) (b57) (b59) (zI.wk (l' := 0) (h' := 240) hv_67 (by decide)) hb9 hb11 hb12 hb14 hb18 hb31 hb34 hb45 hb48 hb54 hb59) hl.1 q1408 q1410 qs68 q14 q1411 ⟨by decide, by decide, by show _ = some 3; decide +kernel⟩ ⟨Nat.le_of_ble_eq_true rfl, Nat.le_of_ble_eq_true rfl⟩ ⟨Nat.le_of_ble_eq_true rfl, Nat.le_of_ble_eq_true rfl⟩ rfl (Nat.le_of_ble_eq_true rfl) d_Model_placeOf_60 hP hD hS hA 1 12 rfl rfl rfl [1, 2] [0] rfl rfl rfl rfl (by decide) (fun v w1 H locs hw_73 hP hD hS => ?_)
      obtain ⟨x_74, rfl, rfl, hx_74, hfx_75⟩ := hw_73
      have hP : va_P G.1 classes [(b29, .inl (G.2 0, 2, .inl b58)), (b0, .inr (12, [.int b4, .ref b5, .ref b6, .ref b7, .ref b8, .int b9, .ref b10, .int b11, .int b12, .int b13, .int b14, .ref b15, .ref b16, .ref b17, .int b18, .ref b19, .ref b20, .ref b21, .ref b22, .ref b23, .ref b24, .ref b25, .ref b26, .ref b27, .ref b28, .ref b29, .ref b30, .int b31, .ref b32, .ref b33, .int b34, .int b35, .int b36, .int b37, .ref b38, .ref b39, .ref b40, .ref b41, .ref b42, .ref b43, .ref b44, .int b45, .ref b46, .ref b47, .int b48, .ref b49, .ref b50, .ref b51, .ref b52, .ref b53, .int b54, .ref b55, .ref b56, .ref b57])), (b30, .inl (G.2 0, 2880, .inl b59))] H := hP
      have hD := z_tie hP hD rfl
      refine W.widen (k := 0) (n := 0) (Nat.le_of_ble_eq_true rfl) (Nat.le_of_ble_eq_true rfl) ?_
      refine lv_imul hx hb d_Model_placeOf_63 ?_
      refine lv_topi (fun v_76 ev_76 => ?_)
      obtain ⟨qv_76, hv_76⟩ := zI_mul (l := 0) (h := 2169) zc_241 hx_74 ev_76 (by decide)
      rw [li_241] at qv_76
      refine lv_iadd hx hb d_Model_placeOf_64 ?_
      refine lv_topi (fun v_77 ev_77 => ?_)
      obtain ⟨qv_77, hv_77⟩ := zI_add (l := 0) (h := 580569) hv_72 hv_76 ev_77 (by decide)
      refine lv_aload_n hx hb d_Model_placeOf_65 rfl (lv_at hl 3 rfl) ?_
      refine lv_iload_n hx hb d_Model_placeOf_66 rfl (lv_at hl 4 rfl) ?_
      refine lv_iload hx hb d_Model_placeOf_67 (lv_at hl 1 rfl) ?_
      refine lv_iconst (v := 2) hx hb d_Model_placeOf_69 (by decide) ?_
      refine z_callV (index := 225) (As := [.int 0, .int y_59, .int 2]) (rest := [.int v_77]) (wr := [(b29, .inl (G.2 0, 2, .inl b58))]) Z (s6_Model_edgeAt l G (b0) (y_59) (b4) (b5) (b6) (b7) (b8) (b9) (b10) (b11) (b12) (b13) (b14) (b15) (b16) (b17) (b18) (b19) (b20) (b21) (b22) (b23) (b24) (b25) (b26) (b27) (b28) (b29) (b30) (b31) (b32) (b33) (b34) (b35) (b36) (b37) (b38) (b39) (b40) (b41) (b42) (b43) (b44) (b45) (b46) (b47) (b48) (b49) (b50) (b51) (b52) (b53) (b54) (b55) (b56) (b57) (b59) (zI.wk (l' := 0) (h' := 240) hv_67 (by decide)) hb9 hb11 hb12 hb14 hb18 hb31 hb34 hb45 hb48 hb54 hb59) hl.1 q1408 q1410 qs68 q14 q1411 ⟨by decide, by decide, by show _ = some 3; decide +kernel⟩ ⟨Nat.le_of_ble_eq_true rfl, Nat.le_of_ble_eq_true rfl⟩ ⟨Nat.le_of_ble_eq_true rfl, Nat.le_of_ble_eq_true rfl⟩ rfl (Nat.le_of_ble_eq_true rfl) d_Model_placeOf_70 hP hD hS hA 1 12 rfl rfl rfl [1, 2] [0] rfl rfl rfl rfl (by decide) (fun v w1 H locs hw_78 hP hD hS => ?_)
      obtain ⟨x_79, rfl, rfl, hx_79, hfx_80⟩ := hw_78
      have hP : va_P G.1 classes [(b29, .inl (G.2 0, 2, .inl b58)), (b0, .inr (12, [.int b4, .ref b5, .ref b6, .ref b7, .ref b8, .int b9, .ref b10, .int b11, .int b12, .int b13, .int b14, .ref b15, .ref b16, .ref b17, .int b18, .ref b19, .ref b20, .ref b21, .ref b22, .ref b23, .ref b24, .ref b25, .ref b26, .ref b27, .ref b28, .ref b29, .ref b30, .int b31, .ref b32, .ref b33, .int b34, .int b35, .int b36, .int b37, .ref b38, .ref b39, .ref b40, .ref b41, .ref b42, .ref b43, .ref b44, .int b45, .ref b46, .ref b47, .int b48, .ref b49, .ref b50, .ref b51, .ref b52, .ref b53, .int b54, .ref b55, .ref b56, .ref b57])), (b30, .inl (G.2 0, 2880, .inl b59))] H := hP
      have hD := z_tie hP hD rfl
      refine W.widen (k := 0) (n := 0) (Nat.le_of_ble_eq_true rfl) (Nat.le_of_ble_eq_true rfl) ?_
      refine lv_iadd hx hb d_Model_placeOf_73 ?_
      refine lv_topi (fun v_81 ev_81 => ?_)
      obtain ⟨qv_81, hv_81⟩ := zI_add (l := 0) (h := 580809) hv_77 hx_79 ev_81 (by decide)
      refine lv_istore (lv' := [(7, .int v_81), (6, .int y_59), (5, .int v_4), (0, .ref b0), (1, .int 0), (2, .int b1), (3, .int b2), (4, .int b3)]) hx hb d_Model_placeOf_74 hl (by decide) rfl (fun ls hl => ?_)
      refine lv_iload hx hb d_Model_placeOf_76 (lv_at hl 1 rfl) ?_
      refine lv_iload hx hb d_Model_placeOf_78 (lv_at hl 0 rfl) ?_
      refine lv_iload hx hb d_Model_placeOf_80 (lv_at hl 2 rfl) ?_
      refine lv_icmp_ge (tgt := 89) hx hb d_Model_placeOf_82 (by decide) (fun hc_82 => ?_) (fun hc_82 => ?_)
      · have _nhc_82 := hc_82
        have ni_83 := (fa_le _ _).mp hc_82
        refine lv_iconst (v := 0) hx hb d_Model_placeOf_89 (by decide) ?_
        refine lv_iadd hx hb d_Model_placeOf_90 ?_
        refine lv_topi (fun v_84 ev_84 => ?_)
        obtain ⟨qv_84, hv_84⟩ := zI_add (l := 0) (h := 239) hv_67 zc_0 ev_84 (by decide)
        rw [li_0] at qv_84
        refine lv_istore (lv' := [(6, .int v_84), (7, .int v_81), (5, .int v_4), (0, .ref b0), (1, .int 0), (2, .int b1), (3, .int b2), (4, .int b3)]) hx hb d_Model_placeOf_91 hl (by decide) rfl (fun ls hl => ?_)
        refine lv_goto (tgt := 22) hx hb d_Model_placeOf_93 (by decide) ?_
        refine lv_iload hx hb d_Model_placeOf_22 (lv_at hl 0 rfl) ?_
        refine lv_aload_n hx hb d_Model_placeOf_24 rfl (lv_at hl 3 rfl) ?_
        refine va_get (D := G.1) (ci := 12) (v := .ref b29) (C := R_Model) (T := F_Model) (N := 54) hx hb hts i_Model hown hK hP 1 rfl rfl 25 (by decide) (hts _ q1134) (fun _ h9 => h9) rfl d_Model_placeOf_25 ?_
        refine lv_iload_n hx hb d_Model_placeOf_28 rfl (lv_at hl 4 rfl) ?_
        refine va_iald hx hb hK hP 0 0 rfl rfl (i := 0) (z_in rfl) d_Model_placeOf_29 ?_
        refine lv_topi (fun v_85 ev_85 => ?_)
        obtain rfl : v_62 = v_85 := ev_62.trans ev_85.symm
        refine lv_icmp_ge (tgt := 96) hx hb d_Model_placeOf_30 (by decide) (fun hc_86 => ?_) (fun hc_86 => ?_)
        · have _nhc_86 := hc_86
          have ni_87 := (fa_le _ _).mp hc_86
          have hv_88 : zI v_62 1 239 := zI.le_l hv_68 hv_84 hc_86 (by decide)
          have hv_89 : zI v_84 1 239 := zI.le_r hv_68 hv_84 hc_86 (by decide)
          have hv_90 : zI y_59 1 239 := by have _a := hv_89; have _b := qv_84; have _c := zc_0; have _d := hv_67; exact ⟨by omega, by omega⟩
          refine lv_aload_n hx hb d_Model_placeOf_96 rfl (lv_at hl 3 rfl) ?_
          refine lv_iload hx hb d_Model_placeOf_97 (lv_at hl 0 rfl) ?_
          refine lv_aload_n hx hb d_Model_placeOf_99 rfl (lv_at hl 3 rfl) ?_
          refine va_get (D := G.1) (ci := 12) (v := .ref b29) (C := R_Model) (T := F_Model) (N := 54) hx hb hts i_Model hown hK hP 1 rfl rfl 25 (by decide) (hts _ q1134) (fun _ h9 => h9) rfl d_Model_placeOf_100 ?_
          refine lv_iload_n hx hb d_Model_placeOf_103 rfl (lv_at hl 4 rfl) ?_
          refine va_iald hx hb hK hP 0 0 rfl rfl (i := 0) (z_in rfl) d_Model_placeOf_104 ?_
          refine lv_topi (fun v_91 ev_91 => ?_)
          obtain rfl : v_62 = v_91 := ev_62.trans ev_91.symm
          refine lv_icmp_ge (tgt := 119) hx hb d_Model_placeOf_105 (by decide) (fun hc => (by exfalso; have h9 := (fa_le _ _).mp hc; omega)) (fun _ => ?_)
          refine lv_iload hx hb d_Model_placeOf_108 (lv_at hl 1 rfl) ?_
          refine lv_iload hx hb d_Model_placeOf_110 (lv_at hl 2 rfl) ?_
          refine lv_icmp_ne (tgt := 119) hx hb d_Model_placeOf_112 (by decide) (fun hc_92 => ?_) (fun hc_92 => ?_)
          · have _nhc_92 := hc_92
            have ni_93 : ¬ (v_81 : Int32).toInt = (v_4 : Int32).toInt := fun z => hc_92 ((fa_eq _ _).mpr z)
            refine lv_iconst (v := 0) hx hb d_Model_placeOf_119 (by decide) ?_
            refine va_put (D := G.1) (ci := 12) (v := .int 0) (ty := .boolean) (C := R_Model) (T := F_Model) (N := 54) hx hb hts i_Model t_Model t_Model_ok n_Model hown hK hP hD hS 1 rfl rfl 27 (by decide) (hts _ q1136) (fun _ h9 => h9) rfl (by decide +kernel) rfl rfl (Nat.le_of_ble_eq_true rfl) d_Model_placeOf_120 (fun H locs hP hD hS => ?_)
            have hP : va_P G.1 classes [(b29, .inl (G.2 0, 2, .inl b58)), (b0, .inr (12, [.int b4, .ref b5, .ref b6, .ref b7, .ref b8, .int b9, .ref b10, .int b11, .int b12, .int b13, .int b14, .ref b15, .ref b16, .ref b17, .int b18, .ref b19, .ref b20, .ref b21, .ref b22, .ref b23, .ref b24, .ref b25, .ref b26, .ref b27, .ref b28, .ref b29, .ref b30, .int 0, .ref b32, .ref b33, .int b34, .int b35, .int b36, .int b37, .ref b38, .ref b39, .ref b40, .ref b41, .ref b42, .ref b43, .ref b44, .int b45, .ref b46, .ref b47, .int b48, .ref b49, .ref b50, .ref b51, .ref b52, .ref b53, .int b54, .ref b55, .ref b56, .ref b57])), (b30, .inl (G.2 0, 2880, .inl b59))] H := hP
            have hD := z_tie hP hD rfl
            refine lv_iload hx hb d_Model_placeOf_123 (lv_at hl 0 rfl) ?_
            exact z_iret hx hb hr hlocks (hP.sub [1, 0, 2] rfl) (hD.sub [1, 0, 2] (by decide) rfl) hS (Nat.le_of_ble_eq_true rfl) (Nat.le_of_ble_eq_true rfl) d_Model_placeOf_125 ⟨v_84, 0, rfl, rfl, (zI.wk (l' := 0) (h' := 240) hv_89 (by decide)), (zI.wk (l' := 0) (h' := 1) zc_0 (by decide)), (by omega), (Or.inl li_0)⟩
          · have _nhc_92 := hc_92
            have ni_94 := (fa_eq _ _).mp hc_92
            refine lv_iconst (v := 1) hx hb d_Model_placeOf_115 (by decide) ?_
            refine lv_goto (tgt := 120) hx hb d_Model_placeOf_116 (by decide) ?_
            refine va_put (D := G.1) (ci := 12) (v := .int 1) (ty := .boolean) (C := R_Model) (T := F_Model) (N := 54) hx hb hts i_Model t_Model t_Model_ok n_Model hown hK hP hD hS 1 rfl rfl 27 (by decide) (hts _ q1136) (fun _ h9 => h9) rfl (by decide +kernel) rfl rfl (Nat.le_of_ble_eq_true rfl) d_Model_placeOf_120 (fun H locs hP hD hS => ?_)
            have hP : va_P G.1 classes [(b29, .inl (G.2 0, 2, .inl b58)), (b0, .inr (12, [.int b4, .ref b5, .ref b6, .ref b7, .ref b8, .int b9, .ref b10, .int b11, .int b12, .int b13, .int b14, .ref b15, .ref b16, .ref b17, .int b18, .ref b19, .ref b20, .ref b21, .ref b22, .ref b23, .ref b24, .ref b25, .ref b26, .ref b27, .ref b28, .ref b29, .ref b30, .int 1, .ref b32, .ref b33, .int b34, .int b35, .int b36, .int b37, .ref b38, .ref b39, .ref b40, .ref b41, .ref b42, .ref b43, .ref b44, .int b45, .ref b46, .ref b47, .int b48, .ref b49, .ref b50, .ref b51, .ref b52, .ref b53, .int b54, .ref b55, .ref b56, .ref b57])), (b30, .inl (G.2 0, 2880, .inl b59))] H := hP
            have hD := z_tie hP hD rfl
            refine lv_iload hx hb d_Model_placeOf_123 (lv_at hl 0 rfl) ?_
            exact z_iret hx hb hr hlocks (hP.sub [1, 0, 2] rfl) (hD.sub [1, 0, 2] (by decide) rfl) hS (Nat.le_of_ble_eq_true rfl) (Nat.le_of_ble_eq_true rfl) d_Model_placeOf_125 ⟨v_84, 1, rfl, rfl, (zI.wk (l' := 0) (h' := 240) hv_89 (by decide)), (zI.wk (l' := 0) (h' := 1) zc_1 (by decide)), (by omega), (Or.inr (by have h8 : v_84.toInt.toNat = y_59.toInt.toNat := (by omega); have h6 := congrArg Int32.toInt hfx_71; have h5 := congrArg Int32.toInt hfx_80; rw [h8]; exact ⟨by omega, h6.symm.trans (by omega), h5.symm.trans (by omega)⟩))⟩
        · have _nhc_86 := hc_86
          have ni_95 := (fa_lt _ _).mp (zi_nle hc_86)
          refine lv_iload hx hb d_Model_placeOf_33 (lv_at hl 1 rfl) ?_
          refine lv_iload hx hb d_Model_placeOf_35 (lv_at hl 2 rfl) ?_
          refine lv_icmp_ge (tgt := 96) hx hb d_Model_placeOf_37 (by decide) (fun _ => ?_) (fun hc => (by exfalso; exact hc ((fa_le _ _).mpr (by omega))))
          refine lv_aload_n hx hb d_Model_placeOf_96 rfl (lv_at hl 3 rfl) ?_
          refine lv_iload hx hb d_Model_placeOf_97 (lv_at hl 0 rfl) ?_
          refine lv_aload_n hx hb d_Model_placeOf_99 rfl (lv_at hl 3 rfl) ?_
          refine va_get (D := G.1) (ci := 12) (v := .ref b29) (C := R_Model) (T := F_Model) (N := 54) hx hb hts i_Model hown hK hP 1 rfl rfl 25 (by decide) (hts _ q1134) (fun _ h9 => h9) rfl d_Model_placeOf_100 ?_
          refine lv_iload_n hx hb d_Model_placeOf_103 rfl (lv_at hl 4 rfl) ?_
          refine va_iald hx hb hK hP 0 0 rfl rfl (i := 0) (z_in rfl) d_Model_placeOf_104 ?_
          refine lv_topi (fun v_96 ev_96 => ?_)
          obtain rfl : v_62 = v_96 := ev_62.trans ev_96.symm
          refine lv_icmp_ge (tgt := 119) hx hb d_Model_placeOf_105 (by decide) (fun hc => (by exfalso; have h9 := (fa_le _ _).mp hc; omega)) (fun _ => ?_)
          refine lv_iload hx hb d_Model_placeOf_108 (lv_at hl 1 rfl) ?_
          refine lv_iload hx hb d_Model_placeOf_110 (lv_at hl 2 rfl) ?_
          refine lv_icmp_ne (tgt := 119) hx hb d_Model_placeOf_112 (by decide) (fun hc_97 => ?_) (fun hc_97 => ?_)
          · have _nhc_97 := hc_97
            have ni_98 : ¬ (v_81 : Int32).toInt = (v_4 : Int32).toInt := fun z => hc_97 ((fa_eq _ _).mpr z)
            refine lv_iconst (v := 0) hx hb d_Model_placeOf_119 (by decide) ?_
            refine va_put (D := G.1) (ci := 12) (v := .int 0) (ty := .boolean) (C := R_Model) (T := F_Model) (N := 54) hx hb hts i_Model t_Model t_Model_ok n_Model hown hK hP hD hS 1 rfl rfl 27 (by decide) (hts _ q1136) (fun _ h9 => h9) rfl (by decide +kernel) rfl rfl (Nat.le_of_ble_eq_true rfl) d_Model_placeOf_120 (fun H locs hP hD hS => ?_)
            have hP : va_P G.1 classes [(b29, .inl (G.2 0, 2, .inl b58)), (b0, .inr (12, [.int b4, .ref b5, .ref b6, .ref b7, .ref b8, .int b9, .ref b10, .int b11, .int b12, .int b13, .int b14, .ref b15, .ref b16, .ref b17, .int b18, .ref b19, .ref b20, .ref b21, .ref b22, .ref b23, .ref b24, .ref b25, .ref b26, .ref b27, .ref b28, .ref b29, .ref b30, .int 0, .ref b32, .ref b33, .int b34, .int b35, .int b36, .int b37, .ref b38, .ref b39, .ref b40, .ref b41, .ref b42, .ref b43, .ref b44, .int b45, .ref b46, .ref b47, .int b48, .ref b49, .ref b50, .ref b51, .ref b52, .ref b53, .int b54, .ref b55, .ref b56, .ref b57])), (b30, .inl (G.2 0, 2880, .inl b59))] H := hP
            have hD := z_tie hP hD rfl
            refine lv_iload hx hb d_Model_placeOf_123 (lv_at hl 0 rfl) ?_
            exact z_iret hx hb hr hlocks (hP.sub [1, 0, 2] rfl) (hD.sub [1, 0, 2] (by decide) rfl) hS (Nat.le_of_ble_eq_true rfl) (Nat.le_of_ble_eq_true rfl) d_Model_placeOf_125 ⟨v_84, 0, rfl, rfl, (zI.wk (l' := 0) (h' := 240) hv_84 (by decide)), (zI.wk (l' := 0) (h' := 1) zc_0 (by decide)), (by omega), (Or.inl li_0)⟩
          · have _nhc_97 := hc_97
            have ni_99 := (fa_eq _ _).mp hc_97
            refine lv_iconst (v := 1) hx hb d_Model_placeOf_115 (by decide) ?_
            refine lv_goto (tgt := 120) hx hb d_Model_placeOf_116 (by decide) ?_
            refine va_put (D := G.1) (ci := 12) (v := .int 1) (ty := .boolean) (C := R_Model) (T := F_Model) (N := 54) hx hb hts i_Model t_Model t_Model_ok n_Model hown hK hP hD hS 1 rfl rfl 27 (by decide) (hts _ q1136) (fun _ h9 => h9) rfl (by decide +kernel) rfl rfl (Nat.le_of_ble_eq_true rfl) d_Model_placeOf_120 (fun H locs hP hD hS => ?_)
            have hP : va_P G.1 classes [(b29, .inl (G.2 0, 2, .inl b58)), (b0, .inr (12, [.int b4, .ref b5, .ref b6, .ref b7, .ref b8, .int b9, .ref b10, .int b11, .int b12, .int b13, .int b14, .ref b15, .ref b16, .ref b17, .int b18, .ref b19, .ref b20, .ref b21, .ref b22, .ref b23, .ref b24, .ref b25, .ref b26, .ref b27, .ref b28, .ref b29, .ref b30, .int 1, .ref b32, .ref b33, .int b34, .int b35, .int b36, .int b37, .ref b38, .ref b39, .ref b40, .ref b41, .ref b42, .ref b43, .ref b44, .int b45, .ref b46, .ref b47, .int b48, .ref b49, .ref b50, .ref b51, .ref b52, .ref b53, .int b54, .ref b55, .ref b56, .ref b57])), (b30, .inl (G.2 0, 2880, .inl b59))] H := hP
            have hD := z_tie hP hD rfl
            refine lv_iload hx hb d_Model_placeOf_123 (lv_at hl 0 rfl) ?_
            exact z_iret hx hb hr hlocks (hP.sub [1, 0, 2] rfl) (hD.sub [1, 0, 2] (by decide) rfl) hS (Nat.le_of_ble_eq_true rfl) (Nat.le_of_ble_eq_true rfl) d_Model_placeOf_125 ⟨v_84, 1, rfl, rfl, (zI.wk (l' := 0) (h' := 240) hv_84 (by decide)), (zI.wk (l' := 0) (h' := 1) zc_1 (by decide)), (by omega), (Or.inr (by have h8 : v_84.toInt.toNat = y_59.toInt.toNat := (by omega); have h6 := congrArg Int32.toInt hfx_71; have h5 := congrArg Int32.toInt hfx_80; rw [h8]; exact ⟨by omega, h6.symm.trans (by omega), h5.symm.trans (by omega)⟩))⟩
      · have _nhc_82 := hc_82
        have ni_100 := (fa_lt _ _).mp (zi_nle hc_82)
        have hv_101 : zI v_81 0 580808 := zI.lt_l hv_81 hv_4 (zi_nle hc_82) (by decide)
        have hv_102 : zI v_4 1 580809 := zI.lt_r hv_81 hv_4 (zi_nle hc_82) (by decide)
        refine lv_iconst (v := 1) hx hb d_Model_placeOf_85 (by decide) ?_
        refine lv_goto (tgt := 90) hx hb d_Model_placeOf_86 (by decide) ?_
        refine lv_iadd hx hb d_Model_placeOf_90 ?_
        refine lv_topi (fun v_103 ev_103 => ?_)
        obtain ⟨qv_103, hv_103⟩ := zI_add (l := 1) (h := 240) hv_67 zc_1 ev_103 (by decide)
        rw [li_1] at qv_103
        refine lv_istore (lv' := [(6, .int v_103), (7, .int v_81), (5, .int v_4), (0, .ref b0), (1, .int 0), (2, .int b1), (3, .int b2), (4, .int b3)]) hx hb d_Model_placeOf_91 hl (by decide) rfl (fun ls hl => ?_)
        refine lv_goto (tgt := 22) hx hb d_Model_placeOf_93 (by decide) ?_
        exact ihk_57 (v_81) (v_103) _ _ _ (zI.wk (l' := (-1)) (h' := 580809) hv_101 (by decide)) (zI.wk (l' := 0) (h' := 240) hv_103 (by decide)) (by omega) (by omega) (by omega) (hP.sub [1, 0, 2] rfl) (hD.sub [1, 0, 2] (by decide) rfl) hS (lv_sub hl [1, 0, 2, 3, 4, 5, 6, 7] rfl)
theorem d_Model_addEdge_0 : decode prog_14_method_34_code 0 = .ok (.aload_n 0, 1) := by decide +kernel
theorem d_Model_addEdge_1 : decode prog_14_method_34_code 1 = .ok (.iload_n 1, 1) := by decide +kernel
theorem d_Model_addEdge_2 : decode prog_14_method_34_code 2 = .ok (.iload_n 2, 1) := by decide +kernel
theorem d_Model_addEdge_3 : decode prog_14_method_34_code 3 = .ok (.iload_n 3, 1) := by decide +kernel
theorem d_Model_addEdge_4 : decode prog_14_method_34_code 4 = .ok (.invokevirtual 231, 3) := by decide +kernel
theorem d_Model_addEdge_7 : decode prog_14_method_34_code 7 = .ok (.istore 4, 2) := by decide +kernel
theorem d_Model_addEdge_9 : decode prog_14_method_34_code 9 = .ok (.aload_n 0, 1) := by decide +kernel
theorem d_Model_addEdge_10 : decode prog_14_method_34_code 10 = .ok (.iload_n 1, 1) := by decide +kernel
theorem d_Model_addEdge_11 : decode prog_14_method_34_code 11 = .ok (.iload_n 2, 1) := by decide +kernel
theorem d_Model_addEdge_12 : decode prog_14_method_34_code 12 = .ok (.iload_n 3, 1) := by decide +kernel
theorem d_Model_addEdge_13 : decode prog_14_method_34_code 13 = .ok (.iconst 1, 1) := by decide +kernel
theorem d_Model_addEdge_14 : decode prog_14_method_34_code 14 = .ok (.iadd, 1) := by decide +kernel
theorem d_Model_addEdge_15 : decode prog_14_method_34_code 15 = .ok (.invokevirtual 231, 3) := by decide +kernel
theorem d_Model_addEdge_18 : decode prog_14_method_34_code 18 = .ok (.istore 5, 2) := by decide +kernel
theorem d_Model_addEdge_20 : decode prog_14_method_34_code 20 = .ok (.aload_n 0, 1) := by decide +kernel
theorem d_Model_addEdge_21 : decode prog_14_method_34_code 21 = .ok (.iload_n 1, 1) := by decide +kernel
theorem d_Model_addEdge_22 : decode prog_14_method_34_code 22 = .ok (.iload 4, 2) := by decide +kernel
theorem d_Model_addEdge_24 : decode prog_14_method_34_code 24 = .ok (.aload_n 0, 1) := by decide +kernel
theorem d_Model_addEdge_25 : decode prog_14_method_34_code 25 = .ok (.iload_n 2, 1) := by decide +kernel
theorem d_Model_addEdge_26 : decode prog_14_method_34_code 26 = .ok (.iload_n 3, 1) := by decide +kernel
theorem d_Model_addEdge_27 : decode prog_14_method_34_code 27 = .ok (.invokevirtual 207, 3) := by decide +kernel
theorem d_Model_addEdge_30 : decode prog_14_method_34_code 30 = .ok (.iload 5, 2) := by decide +kernel
theorem d_Model_addEdge_32 : decode prog_14_method_34_code 32 = .ok (.invokevirtual 234, 3) := by decide +kernel
theorem d_Model_addEdge_35 : decode prog_14_method_34_code 35 = .ok (.istore 6, 2) := by decide +kernel
theorem d_Model_addEdge_37 : decode prog_14_method_34_code 37 = .ok (.aload_n 0, 1) := by decide +kernel
theorem d_Model_addEdge_38 : decode prog_14_method_34_code 38 = .ok (.iload_n 2, 1) := by decide +kernel
theorem d_Model_addEdge_39 : decode prog_14_method_34_code 39 = .ok (.iload_n 3, 1) := by decide +kernel
theorem d_Model_addEdge_40 : decode prog_14_method_34_code 40 = .ok (.invokevirtual 238, 3) := by decide +kernel
theorem d_Model_addEdge_43 : decode prog_14_method_34_code 43 = .ok (.istore 7, 2) := by decide +kernel
theorem d_Model_addEdge_45 : decode prog_14_method_34_code 45 = .ok (.bipush 6, 2) := by decide +kernel
theorem d_Model_addEdge_47 : decode prog_14_method_34_code 47 = .ok (.sipush 240, 3) := by decide +kernel
theorem d_Model_addEdge_50 : decode prog_14_method_34_code 50 = .ok (.iload_n 1, 1) := by decide +kernel
theorem d_Model_addEdge_51 : decode prog_14_method_34_code 51 = .ok (.imul, 1) := by decide +kernel
theorem d_Model_addEdge_52 : decode prog_14_method_34_code 52 = .ok (.iload 6, 2) := by decide +kernel
theorem d_Model_addEdge_54 : decode prog_14_method_34_code 54 = .ok (.iadd, 1) := by decide +kernel
theorem d_Model_addEdge_55 : decode prog_14_method_34_code 55 = .ok (.imul, 1) := by decide +kernel
theorem d_Model_addEdge_56 : decode prog_14_method_34_code 56 = .ok (.istore 8, 2) := by decide +kernel
theorem d_Model_addEdge_58 : decode prog_14_method_34_code 58 = .ok (.aload_n 0, 1) := by decide +kernel
theorem d_Model_addEdge_59 : decode prog_14_method_34_code 59 = .ok (.getfield 228, 3) := by decide +kernel
theorem d_Model_addEdge_62 : decode prog_14_method_34_code 62 = .ok (.ifCond .ne 129, 3) := by decide +kernel
theorem d_Model_addEdge_65 : decode prog_14_method_34_code 65 = .ok (.bipush 6, 2) := by decide +kernel
theorem d_Model_addEdge_67 : decode prog_14_method_34_code 67 = .ok (.sipush 240, 3) := by decide +kernel
theorem d_Model_addEdge_70 : decode prog_14_method_34_code 70 = .ok (.iload_n 1, 1) := by decide +kernel
theorem d_Model_addEdge_71 : decode prog_14_method_34_code 71 = .ok (.imul, 1) := by decide +kernel
theorem d_Model_addEdge_72 : decode prog_14_method_34_code 72 = .ok (.aload_n 0, 1) := by decide +kernel
theorem d_Model_addEdge_73 : decode prog_14_method_34_code 73 = .ok (.getfield 70, 3) := by decide +kernel
theorem d_Model_addEdge_76 : decode prog_14_method_34_code 76 = .ok (.iload_n 1, 1) := by decide +kernel
theorem d_Model_addEdge_77 : decode prog_14_method_34_code 77 = .ok (.iaload, 1) := by decide +kernel
theorem d_Model_addEdge_78 : decode prog_14_method_34_code 78 = .ok (.iadd, 1) := by decide +kernel
theorem d_Model_addEdge_79 : decode prog_14_method_34_code 79 = .ok (.imul, 1) := by decide +kernel
theorem d_Model_addEdge_80 : decode prog_14_method_34_code 80 = .ok (.iconst 1, 1) := by decide +kernel
theorem d_Model_addEdge_81 : decode prog_14_method_34_code 81 = .ok (.isub, 1) := by decide +kernel
theorem d_Model_addEdge_82 : decode prog_14_method_34_code 82 = .ok (.istore 9, 2) := by decide +kernel
theorem d_Model_addEdge_84 : decode prog_14_method_34_code 84 = .ok (.iload 9, 2) := by decide +kernel
theorem d_Model_addEdge_86 : decode prog_14_method_34_code 86 = .ok (.iload 8, 2) := by decide +kernel
theorem d_Model_addEdge_88 : decode prog_14_method_34_code 88 = .ok (.if_icmp .lt 26, 3) := by decide +kernel
theorem d_Model_addEdge_91 : decode prog_14_method_34_code 91 = .ok (.aload_n 0, 1) := by decide +kernel
theorem d_Model_addEdge_92 : decode prog_14_method_34_code 92 = .ok (.getfield 73, 3) := by decide +kernel
theorem d_Model_addEdge_95 : decode prog_14_method_34_code 95 = .ok (.iload 9, 2) := by decide +kernel
theorem d_Model_addEdge_97 : decode prog_14_method_34_code 97 = .ok (.bipush 6, 2) := by decide +kernel
theorem d_Model_addEdge_99 : decode prog_14_method_34_code 99 = .ok (.iadd, 1) := by decide +kernel
theorem d_Model_addEdge_100 : decode prog_14_method_34_code 100 = .ok (.aload_n 0, 1) := by decide +kernel
theorem d_Model_addEdge_101 : decode prog_14_method_34_code 101 = .ok (.getfield 73, 3) := by decide +kernel
theorem d_Model_addEdge_104 : decode prog_14_method_34_code 104 = .ok (.iload 9, 2) := by decide +kernel
theorem d_Model_addEdge_106 : decode prog_14_method_34_code 106 = .ok (.iaload, 1) := by decide +kernel
theorem d_Model_addEdge_107 : decode prog_14_method_34_code 107 = .ok (.iastore, 1) := by decide +kernel
theorem d_Model_addEdge_108 : decode prog_14_method_34_code 108 = .ok (.iinc 9 (-1), 3) := by decide +kernel
theorem d_Model_addEdge_111 : decode prog_14_method_34_code 111 = .ok (.goto (-27), 3) := by decide +kernel
theorem d_Model_addEdge_114 : decode prog_14_method_34_code 114 = .ok (.aload_n 0, 1) := by decide +kernel
theorem d_Model_addEdge_115 : decode prog_14_method_34_code 115 = .ok (.getfield 70, 3) := by decide +kernel
theorem d_Model_addEdge_118 : decode prog_14_method_34_code 118 = .ok (.iload_n 1, 1) := by decide +kernel
theorem d_Model_addEdge_119 : decode prog_14_method_34_code 119 = .ok (.dup2, 1) := by decide +kernel
theorem d_Model_addEdge_120 : decode prog_14_method_34_code 120 = .ok (.iaload, 1) := by decide +kernel
theorem d_Model_addEdge_121 : decode prog_14_method_34_code 121 = .ok (.iconst 1, 1) := by decide +kernel
theorem d_Model_addEdge_122 : decode prog_14_method_34_code 122 = .ok (.iadd, 1) := by decide +kernel
theorem d_Model_addEdge_123 : decode prog_14_method_34_code 123 = .ok (.iastore, 1) := by decide +kernel
theorem d_Model_addEdge_124 : decode prog_14_method_34_code 124 = .ok (.aload_n 0, 1) := by decide +kernel
theorem d_Model_addEdge_125 : decode prog_14_method_34_code 125 = .ok (.getfield 73, 3) := by decide +kernel
theorem d_Model_addEdge_128 : decode prog_14_method_34_code 128 = .ok (.iload 8, 2) := by decide +kernel
theorem d_Model_addEdge_130 : decode prog_14_method_34_code 130 = .ok (.iload 4, 2) := by decide +kernel
theorem d_Model_addEdge_132 : decode prog_14_method_34_code 132 = .ok (.iastore, 1) := by decide +kernel
theorem d_Model_addEdge_133 : decode prog_14_method_34_code 133 = .ok (.aload_n 0, 1) := by decide +kernel
theorem d_Model_addEdge_134 : decode prog_14_method_34_code 134 = .ok (.getfield 73, 3) := by decide +kernel
theorem d_Model_addEdge_137 : decode prog_14_method_34_code 137 = .ok (.iload 8, 2) := by decide +kernel
theorem d_Model_addEdge_139 : decode prog_14_method_34_code 139 = .ok (.iconst 1, 1) := by decide +kernel
theorem d_Model_addEdge_140 : decode prog_14_method_34_code 140 = .ok (.iadd, 1) := by decide +kernel
theorem d_Model_addEdge_141 : decode prog_14_method_34_code 141 = .ok (.aload_n 0, 1) := by decide +kernel
theorem d_Model_addEdge_142 : decode prog_14_method_34_code 142 = .ok (.iload_n 2, 1) := by decide +kernel
theorem d_Model_addEdge_143 : decode prog_14_method_34_code 143 = .ok (.iload_n 3, 1) := by decide +kernel
theorem d_Model_addEdge_144 : decode prog_14_method_34_code 144 = .ok (.invokevirtual 207, 3) := by decide +kernel
theorem d_Model_addEdge_147 : decode prog_14_method_34_code 147 = .ok (.iastore, 1) := by decide +kernel
theorem d_Model_addEdge_148 : decode prog_14_method_34_code 148 = .ok (.aload_n 0, 1) := by decide +kernel
theorem d_Model_addEdge_149 : decode prog_14_method_34_code 149 = .ok (.getfield 73, 3) := by decide +kernel
theorem d_Model_addEdge_152 : decode prog_14_method_34_code 152 = .ok (.iload 8, 2) := by decide +kernel
theorem d_Model_addEdge_154 : decode prog_14_method_34_code 154 = .ok (.iconst 2, 1) := by decide +kernel
theorem d_Model_addEdge_155 : decode prog_14_method_34_code 155 = .ok (.iadd, 1) := by decide +kernel
theorem d_Model_addEdge_156 : decode prog_14_method_34_code 156 = .ok (.iload 5, 2) := by decide +kernel
theorem d_Model_addEdge_158 : decode prog_14_method_34_code 158 = .ok (.iastore, 1) := by decide +kernel
theorem d_Model_addEdge_159 : decode prog_14_method_34_code 159 = .ok (.aload_n 0, 1) := by decide +kernel
theorem d_Model_addEdge_160 : decode prog_14_method_34_code 160 = .ok (.getfield 73, 3) := by decide +kernel
theorem d_Model_addEdge_163 : decode prog_14_method_34_code 163 = .ok (.iload 8, 2) := by decide +kernel
theorem d_Model_addEdge_165 : decode prog_14_method_34_code 165 = .ok (.iconst 3, 1) := by decide +kernel
theorem d_Model_addEdge_166 : decode prog_14_method_34_code 166 = .ok (.iadd, 1) := by decide +kernel
theorem d_Model_addEdge_167 : decode prog_14_method_34_code 167 = .ok (.iconst 0, 1) := by decide +kernel
theorem d_Model_addEdge_168 : decode prog_14_method_34_code 168 = .ok (.iastore, 1) := by decide +kernel
theorem d_Model_addEdge_169 : decode prog_14_method_34_code 169 = .ok (.aload_n 0, 1) := by decide +kernel
theorem d_Model_addEdge_170 : decode prog_14_method_34_code 170 = .ok (.getfield 73, 3) := by decide +kernel
theorem d_Model_addEdge_173 : decode prog_14_method_34_code 173 = .ok (.iload 8, 2) := by decide +kernel
theorem d_Model_addEdge_175 : decode prog_14_method_34_code 175 = .ok (.iconst 4, 1) := by decide +kernel
theorem d_Model_addEdge_176 : decode prog_14_method_34_code 176 = .ok (.iadd, 1) := by decide +kernel
theorem d_Model_addEdge_177 : decode prog_14_method_34_code 177 = .ok (.iload 7, 2) := by decide +kernel
theorem d_Model_addEdge_179 : decode prog_14_method_34_code 179 = .ok (.iastore, 1) := by decide +kernel
theorem d_Model_addEdge_180 : decode prog_14_method_34_code 180 = .ok (.aload_n 0, 1) := by decide +kernel
theorem d_Model_addEdge_181 : decode prog_14_method_34_code 181 = .ok (.getfield 73, 3) := by decide +kernel
theorem d_Model_addEdge_184 : decode prog_14_method_34_code 184 = .ok (.iload 8, 2) := by decide +kernel
theorem d_Model_addEdge_186 : decode prog_14_method_34_code 186 = .ok (.iconst 5, 1) := by decide +kernel
theorem d_Model_addEdge_187 : decode prog_14_method_34_code 187 = .ok (.iadd, 1) := by decide +kernel
theorem d_Model_addEdge_188 : decode prog_14_method_34_code 188 = .ok (.iload 7, 2) := by decide +kernel
theorem d_Model_addEdge_190 : decode prog_14_method_34_code 190 = .ok (.iastore, 1) := by decide +kernel
theorem d_Model_addEdge_191 : decode prog_14_method_34_code 191 = .ok (.aload_n 0, 1) := by decide +kernel
theorem d_Model_addEdge_192 : decode prog_14_method_34_code 192 = .ok (.getfield 73, 3) := by decide +kernel
theorem d_Model_addEdge_195 : decode prog_14_method_34_code 195 = .ok (.iload 8, 2) := by decide +kernel
theorem d_Model_addEdge_197 : decode prog_14_method_34_code 197 = .ok (.iconst 3, 1) := by decide +kernel
theorem d_Model_addEdge_198 : decode prog_14_method_34_code 198 = .ok (.iadd, 1) := by decide +kernel
theorem d_Model_addEdge_199 : decode prog_14_method_34_code 199 = .ok (.dup2, 1) := by decide +kernel
theorem d_Model_addEdge_200 : decode prog_14_method_34_code 200 = .ok (.iaload, 1) := by decide +kernel
theorem d_Model_addEdge_201 : decode prog_14_method_34_code 201 = .ok (.iconst 1, 1) := by decide +kernel
theorem d_Model_addEdge_202 : decode prog_14_method_34_code 202 = .ok (.iadd, 1) := by decide +kernel
theorem d_Model_addEdge_203 : decode prog_14_method_34_code 203 = .ok (.iastore, 1) := by decide +kernel
theorem d_Model_addEdge_204 : decode prog_14_method_34_code 204 = .ok (.aload_n 0, 1) := by decide +kernel
theorem d_Model_addEdge_205 : decode prog_14_method_34_code 205 = .ok (.getfield 73, 3) := by decide +kernel
theorem d_Model_addEdge_208 : decode prog_14_method_34_code 208 = .ok (.iload 8, 2) := by decide +kernel
theorem d_Model_addEdge_210 : decode prog_14_method_34_code 210 = .ok (.iconst 4, 1) := by decide +kernel
theorem d_Model_addEdge_211 : decode prog_14_method_34_code 211 = .ok (.iadd, 1) := by decide +kernel
theorem d_Model_addEdge_212 : decode prog_14_method_34_code 212 = .ok (.iload 7, 2) := by decide +kernel
theorem d_Model_addEdge_214 : decode prog_14_method_34_code 214 = .ok (.aload_n 0, 1) := by decide +kernel
theorem d_Model_addEdge_215 : decode prog_14_method_34_code 215 = .ok (.getfield 73, 3) := by decide +kernel
theorem d_Model_addEdge_218 : decode prog_14_method_34_code 218 = .ok (.iload 8, 2) := by decide +kernel
theorem d_Model_addEdge_220 : decode prog_14_method_34_code 220 = .ok (.iconst 4, 1) := by decide +kernel
theorem d_Model_addEdge_221 : decode prog_14_method_34_code 221 = .ok (.iadd, 1) := by decide +kernel
theorem d_Model_addEdge_222 : decode prog_14_method_34_code 222 = .ok (.iaload, 1) := by decide +kernel
theorem d_Model_addEdge_223 : decode prog_14_method_34_code 223 = .ok (.if_icmp .ge 8, 3) := by decide +kernel
theorem d_Model_addEdge_226 : decode prog_14_method_34_code 226 = .ok (.iload 7, 2) := by decide +kernel
theorem d_Model_addEdge_228 : decode prog_14_method_34_code 228 = .ok (.goto 12, 3) := by decide +kernel
theorem d_Model_addEdge_231 : decode prog_14_method_34_code 231 = .ok (.aload_n 0, 1) := by decide +kernel
theorem d_Model_addEdge_232 : decode prog_14_method_34_code 232 = .ok (.getfield 73, 3) := by decide +kernel
theorem d_Model_addEdge_235 : decode prog_14_method_34_code 235 = .ok (.iload 8, 2) := by decide +kernel
theorem d_Model_addEdge_237 : decode prog_14_method_34_code 237 = .ok (.iconst 4, 1) := by decide +kernel
theorem d_Model_addEdge_238 : decode prog_14_method_34_code 238 = .ok (.iadd, 1) := by decide +kernel
theorem d_Model_addEdge_239 : decode prog_14_method_34_code 239 = .ok (.iaload, 1) := by decide +kernel
theorem d_Model_addEdge_240 : decode prog_14_method_34_code 240 = .ok (.iastore, 1) := by decide +kernel
theorem d_Model_addEdge_241 : decode prog_14_method_34_code 241 = .ok (.aload_n 0, 1) := by decide +kernel
theorem d_Model_addEdge_242 : decode prog_14_method_34_code 242 = .ok (.getfield 73, 3) := by decide +kernel
theorem d_Model_addEdge_245 : decode prog_14_method_34_code 245 = .ok (.iload 8, 2) := by decide +kernel
theorem d_Model_addEdge_247 : decode prog_14_method_34_code 247 = .ok (.iconst 5, 1) := by decide +kernel
theorem d_Model_addEdge_248 : decode prog_14_method_34_code 248 = .ok (.iadd, 1) := by decide +kernel
theorem d_Model_addEdge_249 : decode prog_14_method_34_code 249 = .ok (.iload 7, 2) := by decide +kernel
theorem d_Model_addEdge_251 : decode prog_14_method_34_code 251 = .ok (.aload_n 0, 1) := by decide +kernel
theorem d_Model_addEdge_252 : decode prog_14_method_34_code 252 = .ok (.getfield 73, 3) := by decide +kernel
theorem d_Model_addEdge_255 : decode prog_14_method_34_code 255 = .ok (.iload 8, 2) := by decide +kernel
theorem d_Model_addEdge_257 : decode prog_14_method_34_code 257 = .ok (.iconst 5, 1) := by decide +kernel
theorem d_Model_addEdge_258 : decode prog_14_method_34_code 258 = .ok (.iadd, 1) := by decide +kernel
theorem d_Model_addEdge_259 : decode prog_14_method_34_code 259 = .ok (.iaload, 1) := by decide +kernel
theorem d_Model_addEdge_260 : decode prog_14_method_34_code 260 = .ok (.if_icmp .le 8, 3) := by decide +kernel
theorem d_Model_addEdge_263 : decode prog_14_method_34_code 263 = .ok (.iload 7, 2) := by decide +kernel
theorem d_Model_addEdge_265 : decode prog_14_method_34_code 265 = .ok (.goto 12, 3) := by decide +kernel
theorem d_Model_addEdge_268 : decode prog_14_method_34_code 268 = .ok (.aload_n 0, 1) := by decide +kernel
theorem d_Model_addEdge_269 : decode prog_14_method_34_code 269 = .ok (.getfield 73, 3) := by decide +kernel
theorem d_Model_addEdge_272 : decode prog_14_method_34_code 272 = .ok (.iload 8, 2) := by decide +kernel
theorem d_Model_addEdge_274 : decode prog_14_method_34_code 274 = .ok (.iconst 5, 1) := by decide +kernel
theorem d_Model_addEdge_275 : decode prog_14_method_34_code 275 = .ok (.iadd, 1) := by decide +kernel
theorem d_Model_addEdge_276 : decode prog_14_method_34_code 276 = .ok (.iaload, 1) := by decide +kernel
theorem d_Model_addEdge_277 : decode prog_14_method_34_code 277 = .ok (.iastore, 1) := by decide +kernel
theorem d_Model_addEdge_278 : decode prog_14_method_34_code 278 = .ok (.return_, 1) := by decide +kernel
abbrev m_s1_Model_addEdge : Room := { frames := 2, cells := 0, slots := 0, locals := 50 }
set_option maxHeartbeats 4000000 in
set_option maxRecDepth 100000 in
theorem s1_Model_addEdge (l : Launch) (G : zG) (b0 : Nat) (b1 : Int32) (b2 : Int32) (b3 : Int32) (b4 : Nat) (b5 : Nat) (b6 : Nat) (b7 : Nat) (b8 : Int32) (b9 : Nat) (b10 : Int32) (b11 : Int32) (b12 : Int32) (b13 : Int32) (b14 : Nat) (b15 : Nat) (b16 : Nat) (b17 : Int32) (b18 : Nat) (b19 : Nat) (b20 : Nat) (b21 : Nat) (b22 : Nat) (b23 : Nat) (b24 : Nat) (b25 : Nat) (b26 : Nat) (b27 : Nat) (b28 : Nat) (b29 : Nat) (b30 : Int32) (b31 : Nat) (b32 : Nat) (b33 : Int32) (b34 : Int32) (b35 : Int32) (b36 : Int32) (b37 : Nat) (b38 : Nat) (b39 : Nat) (b40 : Nat) (b41 : Nat) (b42 : Nat) (b43 : Nat) (b44 : Int32) (b45 : Nat) (b46 : Nat) (b47 : Int32) (b48 : Nat) (b49 : Nat) (b50 : Nat) (b51 : Nat) (b52 : Nat) (b53 : Int32) (b54 : Nat) (b55 : Nat) (b56 : Nat) (b57 : Nat → Int32) (b58 : Nat → Int32) (b59 : Nat → Int32) (b60 : Nat → Int32) (b61 : Nat → Int32) (hb1 : zI b1 0 19) (hb2 : zI b2 0 11) (hb8 : zI b8 0 8) (hb10 : zI b10 0 240) (hb11 : zI b11 0 240) (hb13 : zI b13 0 1) (hb17 : zI b17 0 12) (hb30 : zI b30 0 1) (hb33 : zI b33 0 1) (hb44 : zI b44 0 1000) (hb47 : zI b47 0 1000) (hb53 : zI b53 0 400) (hb57 : zW5 b57) (hb58 : zqa qP b58) (hb59 : zR b59 0 240) (hb60 : zR b60 0 240) (hb61 : zqa qE b61) (hem : (b60 (0 : Int32).toNatClampNeg).toInt ≤ 239) : zM l G y_Model_addEdge prog_14_method_34_code 10 (Option.none : Option Jvm.ClassFile.FieldType) m_s1_Model_addEdge [.ref b0, .int 0, .int b1, .int b2] [(b0, .inr (12, [.int b3, .ref b4, .ref b5, .ref b6, .ref b7, .int b8, .ref b9, .int b10, .int b11, .int b12, .int b13, .ref b14, .ref b15, .ref b16, .int b17, .ref b18, .ref b19, .ref b20, .ref b21, .ref b22, .ref b23, .ref b24, .ref b25, .ref b26, .ref b27, .ref b28, .ref b29, .int b30, .ref b31, .ref b32, .int b33, .int b34, .int b35, .int b36, .ref b37, .ref b38, .ref b39, .ref b40, .ref b41, .ref b42, .ref b43, .int b44, .ref b45, .ref b46, .int b47, .ref b48, .ref b49, .ref b50, .ref b51, .ref b52, .int b53, .ref b54, .ref b55, .ref b56])), (b4, .inl (G.2 0, 503, .inl b57)), (b20, .inl (G.2 0, 520, .inl b58)), (b23, .inl (G.2 0, 482, .inl b59)), (b28, .inl (G.2 0, 2, .inl b60)), (b29, .inl (G.2 0, 2880, .inl b61))] (fun v w => ∃ (e0 : Int32), ∃ (e1 : Nat → Int32), ∃ (e2 : Nat → Int32), v = none ∧ w = [(b0, .inr (12, [.int b3, .ref b4, .ref b5, .ref b6, .ref b7, .int b8, .ref b9, .int b10, .int b11, .int b12, .int b13, .ref b14, .ref b15, .ref b16, .int b17, .ref b18, .ref b19, .ref b20, .ref b21, .ref b22, .ref b23, .ref b24, .ref b25, .ref b26, .ref b27, .ref b28, .ref b29, .int e0, .ref b31, .ref b32, .int b33, .int b34, .int b35, .int b36, .ref b37, .ref b38, .ref b39, .ref b40, .ref b41, .ref b42, .ref b43, .int b44, .ref b45, .ref b46, .int b47, .ref b48, .ref b49, .ref b50, .ref b51, .ref b52, .int b53, .ref b54, .ref b55, .ref b56])), (b4, .inl (G.2 0, 503, .inl b57)), (b20, .inl (G.2 0, 520, .inl b58)), (b23, .inl (G.2 0, 482, .inl b59)), (b28, .inl (G.2 0, 2, .inl e1)), (b29, .inl (G.2 0, 2880, .inl e2))] ∧ (zI e0 0 1) ∧ (zR e1 0 240) ∧ (zqa qE e2) ∧ ((e1 (0 : Int32).toNatClampNeg).toInt ≤ (b60 (0 : Int32).toNatClampNeg).toInt + 1) ∧ ((∀ j : Nat, j < ((b60 (0 : Int32).toNatClampNeg).toInt).toNat → 0 ≤ zeU b61 j ∧ zeU b61 j ≤ 1000) → zAdd b61 ((b60 (0 : Int32).toNatClampNeg).toInt).toNat e2 ((e1 (0 : Int32).toNatClampNeg).toInt).toNat (zst b59 b58 b1.toInt.toNat b2.toInt.toNat) (zst b59 b58 b1.toInt.toNat (b2.toInt + 1).toNat))) := by
  refine z_start (by decide +kernel) (Nat.le_of_ble_eq_true rfl) ?_
  intro p e s m below meth c A Z hr hnm hA hP hD hS ls hl
  have Z : zC p s m _ meth c prog_14_method_34_code 10 "TraceMachinesModel" G := Z
  obtain ⟨hx, hb, hml, hown, hts, hK, hN, hlocks⟩ := id Z
  have hl : lv_has ls 10 [(0, .ref b0), (1, .int 0), (2, .int b1), (3, .int b2)] := hl
  refine lv_aload_n hx hb d_Model_addEdge_0 rfl (lv_at hl 0 rfl) ?_
  refine lv_iload_n hx hb d_Model_addEdge_1 rfl (lv_at hl 1 rfl) ?_
  refine lv_iload_n hx hb d_Model_addEdge_2 rfl (lv_at hl 2 rfl) ?_
  refine lv_iload_n hx hb d_Model_addEdge_3 rfl (lv_at hl 3 rfl) ?_
  refine z_callV (index := 231) (As := [.int 0, .int b1, .int b2]) (rest := []) (wr := [(b4, .inl (G.2 0, 503, .inl b57)), (b28, .inl (G.2 0, 2, .inl b60)), (b29, .inl (G.2 0, 2880, .inl b61))]) Z (s1_Model_stateAt l G (b0) (b1) (b2) (b3) (b4) (b5) (b6) (b7) (b8) (b9) (b10) (b11) (b12) (b13) (b14) (b15) (b16) (b17) (b18) (b19) (b20) (b21) (b22) (b23) (b24) (b25) (b26) (b27) (b28) (b29) (b30) (b31) (b32) (b33) (b34) (b35) (b36) (b37) (b38) (b39) (b40) (b41) (b42) (b43) (b44) (b45) (b46) (b47) (b48) (b49) (b50) (b51) (b52) (b53) (b54) (b55) (b56) (b58) (b59) hb1 (zI.wk (l' := 0) (h' := 12) hb2 (by decide)) hb8 hb10 hb11 hb13 hb17 hb30 hb33 hb44 hb47 hb53 hb58 hb59) hl.1 q1400 q1402 qs66 q14 q1403 ⟨by decide, by decide, by show _ = some 3; decide +kernel⟩ ⟨Nat.le_of_ble_eq_true rfl, Nat.le_of_ble_eq_true rfl⟩ ⟨Nat.le_of_ble_eq_true rfl, Nat.le_of_ble_eq_true rfl⟩ rfl (Nat.le_of_ble_eq_true rfl) d_Model_addEdge_4 hP hD hS hA 0 12 rfl rfl rfl [0, 2, 3] [1, 4, 5] rfl rfl rfl rfl (by decide) (fun v w1 H locs hw_1 hP hD hS => ?_)
  obtain ⟨x_2, rfl, rfl, hx_2, hfx_3⟩ := hw_1
  have hP : va_P G.1 classes [(b4, .inl (G.2 0, 503, .inl b57)), (b28, .inl (G.2 0, 2, .inl b60)), (b29, .inl (G.2 0, 2880, .inl b61)), (b0, .inr (12, [.int b3, .ref b4, .ref b5, .ref b6, .ref b7, .int b8, .ref b9, .int b10, .int b11, .int b12, .int b13, .ref b14, .ref b15, .ref b16, .int b17, .ref b18, .ref b19, .ref b20, .ref b21, .ref b22, .ref b23, .ref b24, .ref b25, .ref b26, .ref b27, .ref b28, .ref b29, .int b30, .ref b31, .ref b32, .int b33, .int b34, .int b35, .int b36, .ref b37, .ref b38, .ref b39, .ref b40, .ref b41, .ref b42, .ref b43, .int b44, .ref b45, .ref b46, .int b47, .ref b48, .ref b49, .ref b50, .ref b51, .ref b52, .int b53, .ref b54, .ref b55, .ref b56])), (b20, .inl (G.2 0, 520, .inl b58)), (b23, .inl (G.2 0, 482, .inl b59))] H := hP
  have hD := z_tie hP hD rfl
  refine W.widen (k := 0) (n := 0) (Nat.le_of_ble_eq_true rfl) (Nat.le_of_ble_eq_true rfl) ?_
  refine lv_istore (lv' := [(4, .int x_2), (0, .ref b0), (1, .int 0), (2, .int b1), (3, .int b2)]) hx hb d_Model_addEdge_7 hl (by decide) rfl (fun ls hl => ?_)
  refine lv_aload_n hx hb d_Model_addEdge_9 rfl (lv_at hl 1 rfl) ?_
  refine lv_iload_n hx hb d_Model_addEdge_10 rfl (lv_at hl 2 rfl) ?_
  refine lv_iload_n hx hb d_Model_addEdge_11 rfl (lv_at hl 3 rfl) ?_
  refine lv_iload_n hx hb d_Model_addEdge_12 rfl (lv_at hl 4 rfl) ?_
  refine lv_iconst (v := 1) hx hb d_Model_addEdge_13 (by decide) ?_
  refine lv_iadd hx hb d_Model_addEdge_14 ?_
  refine lv_topi (fun v_4 ev_4 => ?_)
  obtain ⟨qv_4, hv_4⟩ := zI_add (l := 1) (h := 12) hb2 zc_1 ev_4 (by decide)
  rw [li_1] at qv_4
  refine z_callV (index := 231) (As := [.int 0, .int b1, .int v_4]) (rest := []) (wr := [(b4, .inl (G.2 0, 503, .inl b57)), (b28, .inl (G.2 0, 2, .inl b60)), (b29, .inl (G.2 0, 2880, .inl b61))]) Z (s1_Model_stateAt l G (b0) (b1) (v_4) (b3) (b4) (b5) (b6) (b7) (b8) (b9) (b10) (b11) (b12) (b13) (b14) (b15) (b16) (b17) (b18) (b19) (b20) (b21) (b22) (b23) (b24) (b25) (b26) (b27) (b28) (b29) (b30) (b31) (b32) (b33) (b34) (b35) (b36) (b37) (b38) (b39) (b40) (b41) (b42) (b43) (b44) (b45) (b46) (b47) (b48) (b49) (b50) (b51) (b52) (b53) (b54) (b55) (b56) (b58) (b59) hb1 (zI.wk (l' := 0) (h' := 12) hv_4 (by decide)) hb8 hb10 hb11 hb13 hb17 hb30 hb33 hb44 hb47 hb53 hb58 hb59) hl.1 q1400 q1402 qs66 q14 q1403 ⟨by decide, by decide, by show _ = some 3; decide +kernel⟩ ⟨Nat.le_of_ble_eq_true rfl, Nat.le_of_ble_eq_true rfl⟩ ⟨Nat.le_of_ble_eq_true rfl, Nat.le_of_ble_eq_true rfl⟩ rfl (Nat.le_of_ble_eq_true rfl) d_Model_addEdge_15 hP hD hS hA 3 12 rfl rfl rfl [3, 4, 5] [0, 1, 2] rfl rfl rfl rfl (by decide) (fun v w1 H locs hw_5 hP hD hS => ?_)
  obtain ⟨x_6, rfl, rfl, hx_6, hfx_7⟩ := hw_5
  have hP : va_P G.1 classes [(b4, .inl (G.2 0, 503, .inl b57)), (b28, .inl (G.2 0, 2, .inl b60)), (b29, .inl (G.2 0, 2880, .inl b61)), (b0, .inr (12, [.int b3, .ref b4, .ref b5, .ref b6, .ref b7, .int b8, .ref b9, .int b10, .int b11, .int b12, .int b13, .ref b14, .ref b15, .ref b16, .int b17, .ref b18, .ref b19, .ref b20, .ref b21, .ref b22, .ref b23, .ref b24, .ref b25, .ref b26, .ref b27, .ref b28, .ref b29, .int b30, .ref b31, .ref b32, .int b33, .int b34, .int b35, .int b36, .ref b37, .ref b38, .ref b39, .ref b40, .ref b41, .ref b42, .ref b43, .int b44, .ref b45, .ref b46, .int b47, .ref b48, .ref b49, .ref b50, .ref b51, .ref b52, .int b53, .ref b54, .ref b55, .ref b56])), (b20, .inl (G.2 0, 520, .inl b58)), (b23, .inl (G.2 0, 482, .inl b59))] H := hP
  have hD := z_tie hP hD rfl
  refine W.widen (k := 0) (n := 0) (Nat.le_of_ble_eq_true rfl) (Nat.le_of_ble_eq_true rfl) ?_
  refine lv_istore (lv' := [(5, .int x_6), (4, .int x_2), (0, .ref b0), (1, .int 0), (2, .int b1), (3, .int b2)]) hx hb d_Model_addEdge_18 hl (by decide) rfl (fun ls hl => ?_)
  refine lv_aload_n hx hb d_Model_addEdge_20 rfl (lv_at hl 2 rfl) ?_
  refine lv_iload_n hx hb d_Model_addEdge_21 rfl (lv_at hl 3 rfl) ?_
  refine lv_iload hx hb d_Model_addEdge_22 (lv_at hl 1 rfl) ?_
  refine lv_aload_n hx hb d_Model_addEdge_24 rfl (lv_at hl 2 rfl) ?_
  refine lv_iload_n hx hb d_Model_addEdge_25 rfl (lv_at hl 4 rfl) ?_
  refine lv_iload_n hx hb d_Model_addEdge_26 rfl (lv_at hl 5 rfl) ?_
  refine z_callV (index := 207) (As := [.int b1, .int b2]) (rest := [.int x_2, .int 0, .ref b0]) (wr := [(b28, .inl (G.2 0, 2, .inl b60)), (b29, .inl (G.2 0, 2880, .inl b61)), (b20, .inl (G.2 0, 520, .inl b58)), (b23, .inl (G.2 0, 482, .inl b59))]) Z (s1_Model_letterAt l G (b0) (b1) (b2) (b3) (b4) (b5) (b6) (b7) (b8) (b9) (b10) (b11) (b12) (b13) (b14) (b15) (b16) (b17) (b18) (b19) (b20) (b21) (b22) (b23) (b24) (b25) (b26) (b27) (b28) (b29) (b30) (b31) (b32) (b33) (b34) (b35) (b36) (b37) (b38) (b39) (b40) (b41) (b42) (b43) (b44) (b45) (b46) (b47) (b48) (b49) (b50) (b51) (b52) (b53) (b54) (b55) (b56) (b57) hb1 hb2 hb8 hb10 hb11 hb13 hb17 hb30 hb33 hb44 hb47 hb53 hb57) hl.1 q1372 q1374 qs59 q14 q1375 ⟨by decide, by decide, by show _ = some 2; decide +kernel⟩ ⟨Nat.le_of_ble_eq_true rfl, Nat.le_of_ble_eq_true rfl⟩ ⟨Nat.le_of_ble_eq_true rfl, Nat.le_of_ble_eq_true rfl⟩ rfl (Nat.le_of_ble_eq_true rfl) d_Model_addEdge_27 hP hD hS hA 3 12 rfl rfl rfl [3, 0] [1, 2, 4, 5] rfl rfl rfl rfl (by decide) (fun v w1 H locs hw_8 hP hD hS => ?_)
  obtain ⟨x_9, rfl, rfl, hx_9⟩ := hw_8
  have hP : va_P G.1 classes [(b28, .inl (G.2 0, 2, .inl b60)), (b29, .inl (G.2 0, 2880, .inl b61)), (b20, .inl (G.2 0, 520, .inl b58)), (b23, .inl (G.2 0, 482, .inl b59)), (b0, .inr (12, [.int b3, .ref b4, .ref b5, .ref b6, .ref b7, .int b8, .ref b9, .int b10, .int b11, .int b12, .int b13, .ref b14, .ref b15, .ref b16, .int b17, .ref b18, .ref b19, .ref b20, .ref b21, .ref b22, .ref b23, .ref b24, .ref b25, .ref b26, .ref b27, .ref b28, .ref b29, .int b30, .ref b31, .ref b32, .int b33, .int b34, .int b35, .int b36, .ref b37, .ref b38, .ref b39, .ref b40, .ref b41, .ref b42, .ref b43, .int b44, .ref b45, .ref b46, .int b47, .ref b48, .ref b49, .ref b50, .ref b51, .ref b52, .int b53, .ref b54, .ref b55, .ref b56])), (b4, .inl (G.2 0, 503, .inl b57))] H := hP
  have hD := z_tie hP hD rfl
  refine W.widen (k := 0) (n := 0) (Nat.le_of_ble_eq_true rfl) (Nat.le_of_ble_eq_true rfl) ?_
  refine lv_iload hx hb d_Model_addEdge_30 (lv_at hl 0 rfl) ?_
  refine z_callV (index := 234) (As := [.int 0, .int x_2, .int x_9, .int x_6]) (rest := []) (wr := [(b20, .inl (G.2 0, 520, .inl b58)), (b23, .inl (G.2 0, 482, .inl b59)), (b4, .inl (G.2 0, 503, .inl b57))]) Z (s1_Model_placeOf l G (b0) (x_2) (x_9) (x_6) (b3) (b4) (b5) (b6) (b7) (b8) (b9) (b10) (b11) (b12) (b13) (b14) (b15) (b16) (b17) (b18) (b19) (b20) (b21) (b22) (b23) (b24) (b25) (b26) (b27) (b28) (b29) (b30) (b31) (b32) (b33) (b34) (b35) (b36) (b37) (b38) (b39) (b40) (b41) (b42) (b43) (b44) (b45) (b46) (b47) (b48) (b49) (b50) (b51) (b52) (b53) (b54) (b55) (b56) (b60) (b61) hx_2 hx_9 hx_6 hb8 hb10 hb11 hb13 hb17 hb30 hb33 hb44 hb47 hb53 hb60 hb61) hl.1 q1404 q1406 qs67 q14 q1407 ⟨by decide, by decide, by show _ = some 4; decide +kernel⟩ ⟨Nat.le_of_ble_eq_true rfl, Nat.le_of_ble_eq_true rfl⟩ ⟨Nat.le_of_ble_eq_true rfl, Nat.le_of_ble_eq_true rfl⟩ rfl (Nat.le_of_ble_eq_true rfl) d_Model_addEdge_32 hP hD hS hA 4 12 rfl rfl rfl [4, 0, 1] [2, 3, 5] rfl rfl rfl rfl (by decide) (fun v w1 H locs hw_10 hP hD hS => ?_)
  obtain ⟨x_11, x_12, rfl, rfl, hx_11, hx_12, hfx_13, hfx_14⟩ := hw_10
  have hP : va_P G.1 classes [(b20, .inl (G.2 0, 520, .inl b58)), (b23, .inl (G.2 0, 482, .inl b59)), (b4, .inl (G.2 0, 503, .inl b57)), (b0, .inr (12, [.int b3, .ref b4, .ref b5, .ref b6, .ref b7, .int b8, .ref b9, .int b10, .int b11, .int b12, .int b13, .ref b14, .ref b15, .ref b16, .int b17, .ref b18, .ref b19, .ref b20, .ref b21, .ref b22, .ref b23, .ref b24, .ref b25, .ref b26, .ref b27, .ref b28, .ref b29, .int x_12, .ref b31, .ref b32, .int b33, .int b34, .int b35, .int b36, .ref b37, .ref b38, .ref b39, .ref b40, .ref b41, .ref b42, .ref b43, .int b44, .ref b45, .ref b46, .int b47, .ref b48, .ref b49, .ref b50, .ref b51, .ref b52, .int b53, .ref b54, .ref b55, .ref b56])), (b28, .inl (G.2 0, 2, .inl b60)), (b29, .inl (G.2 0, 2880, .inl b61))] H := hP
  have hD := z_tie hP hD rfl
  refine W.widen (k := 0) (n := 0) (Nat.le_of_ble_eq_true rfl) (Nat.le_of_ble_eq_true rfl) ?_
  have hv_15 : zI x_11 0 239 := ⟨(hx_11).1, by have := hfx_13; omega⟩
  refine lv_istore (lv' := [(6, .int x_11), (5, .int x_6), (4, .int x_2), (0, .ref b0), (1, .int 0), (2, .int b1), (3, .int b2)]) hx hb d_Model_addEdge_35 hl (by decide) rfl (fun ls hl => ?_)
  refine lv_aload_n hx hb d_Model_addEdge_37 rfl (lv_at hl 3 rfl) ?_
  refine lv_iload_n hx hb d_Model_addEdge_38 rfl (lv_at hl 5 rfl) ?_
  refine lv_iload_n hx hb d_Model_addEdge_39 rfl (lv_at hl 6 rfl) ?_
  refine z_callV (index := 238) (As := [.int b1, .int b2]) (rest := []) (wr := [(b20, .inl (G.2 0, 520, .inl b58)), (b23, .inl (G.2 0, 482, .inl b59)), (b28, .inl (G.2 0, 2, .inl b60)), (b29, .inl (G.2 0, 2880, .inl b61))]) Z (s1_Model_valueAt l G (b0) (b1) (b2) (b3) (b4) (b5) (b6) (b7) (b8) (b9) (b10) (b11) (b12) (b13) (b14) (b15) (b16) (b17) (b18) (b19) (b20) (b21) (b22) (b23) (b24) (b25) (b26) (b27) (b28) (b29) (x_12) (b31) (b32) (b33) (b34) (b35) (b36) (b37) (b38) (b39) (b40) (b41) (b42) (b43) (b44) (b45) (b46) (b47) (b48) (b49) (b50) (b51) (b52) (b53) (b54) (b55) (b56) (b57) hb1 hb2 hb8 hb10 hb11 hb13 hb17 hx_12 hb33 hb44 hb47 hb53 hb57) hl.1 q1412 q1414 qs69 q14 q1415 ⟨by decide, by decide, by show _ = some 2; decide +kernel⟩ ⟨Nat.le_of_ble_eq_true rfl, Nat.le_of_ble_eq_true rfl⟩ ⟨Nat.le_of_ble_eq_true rfl, Nat.le_of_ble_eq_true rfl⟩ rfl (Nat.le_of_ble_eq_true rfl) d_Model_addEdge_40 hP hD hS hA 3 12 rfl rfl rfl [3, 2] [0, 1, 4, 5] rfl rfl rfl rfl (by decide) (fun v w1 H locs hw_16 hP hD hS => ?_)
  obtain ⟨x_17, rfl, rfl⟩ := hw_16
  have hP : va_P G.1 classes [(b20, .inl (G.2 0, 520, .inl b58)), (b23, .inl (G.2 0, 482, .inl b59)), (b28, .inl (G.2 0, 2, .inl b60)), (b29, .inl (G.2 0, 2880, .inl b61)), (b0, .inr (12, [.int b3, .ref b4, .ref b5, .ref b6, .ref b7, .int b8, .ref b9, .int b10, .int b11, .int b12, .int b13, .ref b14, .ref b15, .ref b16, .int b17, .ref b18, .ref b19, .ref b20, .ref b21, .ref b22, .ref b23, .ref b24, .ref b25, .ref b26, .ref b27, .ref b28, .ref b29, .int x_12, .ref b31, .ref b32, .int b33, .int b34, .int b35, .int b36, .ref b37, .ref b38, .ref b39, .ref b40, .ref b41, .ref b42, .ref b43, .int b44, .ref b45, .ref b46, .int b47, .ref b48, .ref b49, .ref b50, .ref b51, .ref b52, .int b53, .ref b54, .ref b55, .ref b56])), (b4, .inl (G.2 0, 503, .inl b57))] H := hP
  have hD := z_tie hP hD rfl
  refine W.widen (k := 0) (n := 0) (Nat.le_of_ble_eq_true rfl) (Nat.le_of_ble_eq_true rfl) ?_
  refine lv_istore (lv' := [(7, .int x_17), (6, .int x_11), (5, .int x_6), (4, .int x_2), (0, .ref b0), (1, .int 0), (2, .int b1), (3, .int b2)]) hx hb d_Model_addEdge_43 hl (by decide) rfl (fun ls hl => ?_)
  refine lv_bipush (v := 6) hx hb d_Model_addEdge_45 (by decide) ?_
  refine lv_sipush (v := 240) hx hb d_Model_addEdge_47 (by decide) ?_
  refine lv_iload_n hx hb d_Model_addEdge_50 rfl (lv_at hl 5 rfl) ?_
  refine lv_imul hx hb d_Model_addEdge_51 ?_
  refine z_topi (y := 0) (by decide +kernel) ?_
  refine lv_iload hx hb d_Model_addEdge_52 (lv_at hl 1 rfl) ?_
  refine lv_iadd hx hb d_Model_addEdge_54 ?_
  refine lv_topi (fun v_18 ev_18 => ?_)
  obtain ⟨qv_18, hv_18⟩ := zI_add (l := 0) (h := 239) zc_0 hv_15 ev_18 (by decide)
  rw [li_0] at qv_18
  refine lv_imul hx hb d_Model_addEdge_55 ?_
  refine lv_topi (fun v_19 ev_19 => ?_)
  obtain ⟨qv_19, hv_19⟩ := zI_mul (l := 0) (h := 1434) zc_6 hv_18 ev_19 (by decide)
  rw [li_6] at qv_19
  refine lv_istore (lv' := [(8, .int v_19), (7, .int x_17), (6, .int x_11), (5, .int x_6), (4, .int x_2), (0, .ref b0), (1, .int 0), (2, .int b1), (3, .int b2)]) hx hb d_Model_addEdge_56 hl (by decide) rfl (fun ls hl => ?_)
  refine lv_aload_n hx hb d_Model_addEdge_58 rfl (lv_at hl 5 rfl) ?_
  refine va_get (D := G.1) (ci := 12) (v := .int x_12) (C := R_Model) (T := F_Model) (N := 54) hx hb hts i_Model hown hK hP 4 rfl rfl 27 (by decide) (hts _ q1136) (fun _ h9 => h9) rfl d_Model_addEdge_59 ?_
  refine lv_if_ne (tgt := 191) hx hb d_Model_addEdge_62 (by decide) (fun hc_20 => ?_) (fun hc_20 => ?_)
  · have _nhc_20 := hc_20
    have ni_21 : ¬ (x_12 : Int32).toInt = (0 : Int32).toInt := fun z => hc_20 ((fa_eq _ _).mpr z)
    simp only [li_0] at ni_21
    have hv_22 : zI x_12 1 1 := zI.ne_lo hx_12 zc_0 hc_20 (by decide)
    refine lv_aload_n hx hb d_Model_addEdge_191 rfl (lv_at hl 5 rfl) ?_
    refine va_get (D := G.1) (ci := 12) (v := .ref b29) (C := R_Model) (T := F_Model) (N := 54) hx hb hts i_Model hown hK hP 4 rfl rfl 26 (by decide) (hts _ q1135) (fun _ h9 => h9) rfl d_Model_addEdge_192 ?_
    refine lv_iload hx hb d_Model_addEdge_195 (lv_at hl 0 rfl) ?_
    refine lv_iconst (v := 3) hx hb d_Model_addEdge_197 (by decide) ?_
    refine lv_iadd hx hb d_Model_addEdge_198 ?_
    refine lv_topi (fun v_23 ev_23 => ?_)
    obtain ⟨qv_23, hv_23⟩ := zI_add (l := 3) (h := 1437) hv_19 zc_3 ev_23 (by decide)
    rw [li_3] at qv_23
    refine lv_dup2_11 hx hb d_Model_addEdge_199 rfl rfl ?_
    refine va_iald hx hb hK hP 3 0 rfl rfl (zI.inn hv_23 (by decide)) d_Model_addEdge_200 ?_
    refine lv_topi (fun v_24 ev_24 => ?_)
    have kv_24 := zQE.ld hb61 hv_23 ev_24 (by decide)
    refine lv_iconst (v := 1) hx hb d_Model_addEdge_201 (by decide) ?_
    refine lv_iadd hx hb d_Model_addEdge_202 ?_
    refine lv_topi (fun v_25 ev_25 => ?_)
    refine va_iast hx hb hK hP hD hS 3 0 rfl rfl (zI.inn hv_23 (by decide)) d_Model_addEdge_203 (fun H locs hP hD hS => ?_)
    obtain ⟨f_26, hf_26, gf_26, uf_26, hP, hD⟩ := z_newq_ (Q := qE) 3 hP hD rfl hb61 (qE_v hv_23 (by decide) ⟨fun _ => ⟨by have _w := (zI_all v_25); omega, by have _w := (zI_all v_25); omega⟩, fun _ => ⟨by have _w := (zI_all v_25); omega, by have _w := (zI_all v_25); omega⟩, fun _ => ⟨by have _w := (zI_all v_25); omega, by have _w := (zI_all v_25); omega⟩⟩)
    have hP : va_P G.1 classes [(b20, .inl (G.2 0, 520, .inl b58)), (b23, .inl (G.2 0, 482, .inl b59)), (b28, .inl (G.2 0, 2, .inl b60)), (b29, .inl (G.2 0, 2880, .inl f_26)), (b0, .inr (12, [.int b3, .ref b4, .ref b5, .ref b6, .ref b7, .int b8, .ref b9, .int b10, .int b11, .int b12, .int b13, .ref b14, .ref b15, .ref b16, .int b17, .ref b18, .ref b19, .ref b20, .ref b21, .ref b22, .ref b23, .ref b24, .ref b25, .ref b26, .ref b27, .ref b28, .ref b29, .int x_12, .ref b31, .ref b32, .int b33, .int b34, .int b35, .int b36, .ref b37, .ref b38, .ref b39, .ref b40, .ref b41, .ref b42, .ref b43, .int b44, .ref b45, .ref b46, .int b47, .ref b48, .ref b49, .ref b50, .ref b51, .ref b52, .int b53, .ref b54, .ref b55, .ref b56])), (b4, .inl (G.2 0, 503, .inl b57))] H := hP
    have hD := z_tie hP hD rfl
    refine lv_aload_n hx hb d_Model_addEdge_204 rfl (lv_at hl 5 rfl) ?_
    refine va_get (D := G.1) (ci := 12) (v := .ref b29) (C := R_Model) (T := F_Model) (N := 54) hx hb hts i_Model hown hK hP 4 rfl rfl 26 (by decide) (hts _ q1135) (fun _ h9 => h9) rfl d_Model_addEdge_205 ?_
    refine lv_iload hx hb d_Model_addEdge_208 (lv_at hl 0 rfl) ?_
    refine lv_iconst (v := 4) hx hb d_Model_addEdge_210 (by decide) ?_
    refine lv_iadd hx hb d_Model_addEdge_211 ?_
    refine lv_topi (fun v_27 ev_27 => ?_)
    obtain ⟨qv_27, hv_27⟩ := zI_add (l := 4) (h := 1438) hv_19 zc_4 ev_27 (by decide)
    rw [li_4] at qv_27
    refine lv_iload hx hb d_Model_addEdge_212 (lv_at hl 1 rfl) ?_
    refine lv_aload_n hx hb d_Model_addEdge_214 rfl (lv_at hl 5 rfl) ?_
    refine va_get (D := G.1) (ci := 12) (v := .ref b29) (C := R_Model) (T := F_Model) (N := 54) hx hb hts i_Model hown hK hP 4 rfl rfl 26 (by decide) (hts _ q1135) (fun _ h9 => h9) rfl d_Model_addEdge_215 ?_
    refine lv_iload hx hb d_Model_addEdge_218 (lv_at hl 0 rfl) ?_
    refine lv_iconst (v := 4) hx hb d_Model_addEdge_220 (by decide) ?_
    refine lv_iadd hx hb d_Model_addEdge_221 ?_
    refine lv_topi (fun v_28 ev_28 => ?_)
    obtain rfl : v_27 = v_28 := ev_27.trans ev_28.symm
    refine va_iald hx hb hK hP 3 0 rfl rfl (zI.inn hv_27 (by decide)) d_Model_addEdge_222 ?_
    refine lv_topi (fun v_29 ev_29 => ?_)
    have kv_29 := zQE.ld hf_26 hv_27 ev_29 (by decide)
    refine lv_icmp_ge (tgt := 231) hx hb d_Model_addEdge_223 (by decide) (fun hc_30 => ?_) (fun hc_30 => ?_)
    · have _nhc_30 := hc_30
      have ni_31 := (fa_le _ _).mp hc_30
      refine lv_aload_n hx hb d_Model_addEdge_231 rfl (lv_at hl 5 rfl) ?_
      refine va_get (D := G.1) (ci := 12) (v := .ref b29) (C := R_Model) (T := F_Model) (N := 54) hx hb hts i_Model hown hK hP 4 rfl rfl 26 (by decide) (hts _ q1135) (fun _ h9 => h9) rfl d_Model_addEdge_232 ?_
      refine lv_iload hx hb d_Model_addEdge_235 (lv_at hl 0 rfl) ?_
      refine lv_iconst (v := 4) hx hb d_Model_addEdge_237 (by decide) ?_
      refine lv_iadd hx hb d_Model_addEdge_238 ?_
      refine lv_topi (fun v_32 ev_32 => ?_)
      obtain rfl : v_27 = v_32 := ev_27.trans ev_32.symm
      refine va_iald hx hb hK hP 3 0 rfl rfl (zI.inn hv_27 (by decide)) d_Model_addEdge_239 ?_
      refine lv_topi (fun v_33 ev_33 => ?_)
      obtain rfl : v_29 = v_33 := ev_29.trans ev_33.symm
      refine va_iast hx hb hK hP hD hS 3 0 rfl rfl (zI.inn hv_27 (by decide)) d_Model_addEdge_240 (fun H locs hP hD hS => ?_)
      obtain ⟨f_34, hf_34, gf_34, uf_34, hP, hD⟩ := z_newq_ (Q := qE) 3 hP hD rfl hf_26 (qE_s kv_29 hv_27 hv_27 (by decide) (by omega))
      have hP : va_P G.1 classes [(b20, .inl (G.2 0, 520, .inl b58)), (b23, .inl (G.2 0, 482, .inl b59)), (b28, .inl (G.2 0, 2, .inl b60)), (b29, .inl (G.2 0, 2880, .inl f_34)), (b0, .inr (12, [.int b3, .ref b4, .ref b5, .ref b6, .ref b7, .int b8, .ref b9, .int b10, .int b11, .int b12, .int b13, .ref b14, .ref b15, .ref b16, .int b17, .ref b18, .ref b19, .ref b20, .ref b21, .ref b22, .ref b23, .ref b24, .ref b25, .ref b26, .ref b27, .ref b28, .ref b29, .int x_12, .ref b31, .ref b32, .int b33, .int b34, .int b35, .int b36, .ref b37, .ref b38, .ref b39, .ref b40, .ref b41, .ref b42, .ref b43, .int b44, .ref b45, .ref b46, .int b47, .ref b48, .ref b49, .ref b50, .ref b51, .ref b52, .int b53, .ref b54, .ref b55, .ref b56])), (b4, .inl (G.2 0, 503, .inl b57))] H := hP
      have hD := z_tie hP hD rfl
      refine lv_aload_n hx hb d_Model_addEdge_241 rfl (lv_at hl 5 rfl) ?_
      refine va_get (D := G.1) (ci := 12) (v := .ref b29) (C := R_Model) (T := F_Model) (N := 54) hx hb hts i_Model hown hK hP 4 rfl rfl 26 (by decide) (hts _ q1135) (fun _ h9 => h9) rfl d_Model_addEdge_242 ?_
      refine lv_iload hx hb d_Model_addEdge_245 (lv_at hl 0 rfl) ?_
      refine lv_iconst (v := 5) hx hb d_Model_addEdge_247 (by decide) ?_
      refine lv_iadd hx hb d_Model_addEdge_248 ?_
      refine lv_topi (fun v_35 ev_35 => ?_)
      obtain ⟨qv_35, hv_35⟩ := zI_add (l := 5) (h := 1439) hv_19 zc_5 ev_35 (by decide)
      rw [li_5] at qv_35
      refine lv_iload hx hb d_Model_addEdge_249 (lv_at hl 1 rfl) ?_
      refine lv_aload_n hx hb d_Model_addEdge_251 rfl (lv_at hl 5 rfl) ?_
      refine va_get (D := G.1) (ci := 12) (v := .ref b29) (C := R_Model) (T := F_Model) (N := 54) hx hb hts i_Model hown hK hP 4 rfl rfl 26 (by decide) (hts _ q1135) (fun _ h9 => h9) rfl d_Model_addEdge_252 ?_
      refine lv_iload hx hb d_Model_addEdge_255 (lv_at hl 0 rfl) ?_
      refine lv_iconst (v := 5) hx hb d_Model_addEdge_257 (by decide) ?_
      refine lv_iadd hx hb d_Model_addEdge_258 ?_
      refine lv_topi (fun v_36 ev_36 => ?_)
      obtain rfl : v_35 = v_36 := ev_35.trans ev_36.symm
      refine va_iald hx hb hK hP 3 0 rfl rfl (zI.inn hv_35 (by decide)) d_Model_addEdge_259 ?_
      refine lv_topi (fun v_37 ev_37 => ?_)
      have kv_37 := zQE.ld hf_34 hv_35 ev_37 (by decide)
      refine lv_icmp_le (tgt := 268) hx hb d_Model_addEdge_260 (by decide) (fun hc_38 => ?_) (fun hc_38 => ?_)
      · have _nhc_38 := hc_38
        have ni_39 := (fa_le _ _).mp hc_38
        refine lv_aload_n hx hb d_Model_addEdge_268 rfl (lv_at hl 5 rfl) ?_
        refine va_get (D := G.1) (ci := 12) (v := .ref b29) (C := R_Model) (T := F_Model) (N := 54) hx hb hts i_Model hown hK hP 4 rfl rfl 26 (by decide) (hts _ q1135) (fun _ h9 => h9) rfl d_Model_addEdge_269 ?_
        refine lv_iload hx hb d_Model_addEdge_272 (lv_at hl 0 rfl) ?_
        refine lv_iconst (v := 5) hx hb d_Model_addEdge_274 (by decide) ?_
        refine lv_iadd hx hb d_Model_addEdge_275 ?_
        refine lv_topi (fun v_40 ev_40 => ?_)
        obtain rfl : v_35 = v_40 := ev_35.trans ev_40.symm
        refine va_iald hx hb hK hP 3 0 rfl rfl (zI.inn hv_35 (by decide)) d_Model_addEdge_276 ?_
        refine lv_topi (fun v_41 ev_41 => ?_)
        obtain rfl : v_37 = v_41 := ev_37.trans ev_41.symm
        refine va_iast hx hb hK hP hD hS 3 0 rfl rfl (zI.inn hv_35 (by decide)) d_Model_addEdge_277 (fun H locs hP hD hS => ?_)
        obtain ⟨f_42, hf_42, gf_42, uf_42, hP, hD⟩ := z_newq_ (Q := qE) 3 hP hD rfl hf_34 (qE_s kv_37 hv_35 hv_35 (by decide) (by omega))
        have hP : va_P G.1 classes [(b20, .inl (G.2 0, 520, .inl b58)), (b23, .inl (G.2 0, 482, .inl b59)), (b28, .inl (G.2 0, 2, .inl b60)), (b29, .inl (G.2 0, 2880, .inl f_42)), (b0, .inr (12, [.int b3, .ref b4, .ref b5, .ref b6, .ref b7, .int b8, .ref b9, .int b10, .int b11, .int b12, .int b13, .ref b14, .ref b15, .ref b16, .int b17, .ref b18, .ref b19, .ref b20, .ref b21, .ref b22, .ref b23, .ref b24, .ref b25, .ref b26, .ref b27, .ref b28, .ref b29, .int x_12, .ref b31, .ref b32, .int b33, .int b34, .int b35, .int b36, .ref b37, .ref b38, .ref b39, .ref b40, .ref b41, .ref b42, .ref b43, .int b44, .ref b45, .ref b46, .int b47, .ref b48, .ref b49, .ref b50, .ref b51, .ref b52, .int b53, .ref b54, .ref b55, .ref b56])), (b4, .inl (G.2 0, 503, .inl b57))] H := hP
        have hD := z_tie hP hD rfl
        exact z_vret hx hb hr hlocks (hP.sub [4, 5, 0, 1, 2, 3] rfl) (hD.sub [4, 5, 0, 1, 2, 3] (by decide) rfl) hS (Nat.le_of_ble_eq_true rfl) (Nat.le_of_ble_eq_true rfl) d_Model_addEdge_278 ⟨x_12, b60, f_42, rfl, rfl, (zI.wk (l' := 0) (h' := 1) hv_22 (by decide)), hb60, hf_42, (by omega), (fun hub => by have hfr9 : zst b59 b58 b1.toInt.toNat b2.toInt.toNat = x_2.toInt := (by unfold zst; rw [← hfx_3]); have hto9 : zst b59 b58 b1.toInt.toNat (b2.toInt + 1).toNat = x_6.toInt := (by unfold zst; have h8 := hfx_7; rw [h8]; congr 4; omega); rw [hfr9, hto9]; rcases hfx_14 with h5 | ⟨h5, h6⟩; exfalso; omega; have hj : v_23.toNatClampNeg = 6 * x_11.toInt.toNat + 3 := (by have p9 := z_pl hv_23 (by decide); omega); have hb := hub x_11.toInt.toNat (by omega); have e9 : zeU b61 x_11.toInt.toNat = v_24.toInt := (by rw [ev_24, hj]); exact zadd_bump (e := x_11.toInt.toNat) (v := v_24) (by omega) (by rw [uf_42, uf_34, uf_26]) (by have p9 := z_pl hv_23 (by decide); omega) (by have p9 := z_pl hv_27 (by decide); omega) (by have p9 := z_pl hv_35 (by decide); omega) (by rw [ev_24, hj]) (by have h7 := z_addq ev_25 (by have _l := li_1; omega); rw [h7, li_1]) h6.1 h6.2)⟩
      · have _nhc_38 := hc_38
        have ni_43 := (fa_lt _ _).mp (zi_nle hc_38)
        have hv_44 : zI v_37 (-2147483648) 2147483646 := zI.lt_l (zI_all v_37) (zI_all x_17) (zi_nle hc_38) (by decide)
        have hv_45 : zI x_17 (-2147483647) 2147483647 := zI.lt_r (zI_all v_37) (zI_all x_17) (zi_nle hc_38) (by decide)
        refine lv_iload hx hb d_Model_addEdge_263 (lv_at hl 1 rfl) ?_
        refine lv_goto (tgt := 277) hx hb d_Model_addEdge_265 (by decide) ?_
        refine va_iast hx hb hK hP hD hS 3 0 rfl rfl (zI.inn hv_35 (by decide)) d_Model_addEdge_277 (fun H locs hP hD hS => ?_)
        obtain ⟨f_46, hf_46, gf_46, uf_46, hP, hD⟩ := z_newq_ (Q := qE) 3 hP hD rfl hf_34 (qE_v hv_35 (by decide) ⟨fun _ => ⟨by have _w := hv_45; omega, by have _w := hv_45; omega⟩, fun _ => ⟨by have _w := hv_45; omega, by have _w := hv_45; omega⟩, fun _ => ⟨by have _w := hv_45; omega, by have _w := hv_45; omega⟩⟩)
        have hP : va_P G.1 classes [(b20, .inl (G.2 0, 520, .inl b58)), (b23, .inl (G.2 0, 482, .inl b59)), (b28, .inl (G.2 0, 2, .inl b60)), (b29, .inl (G.2 0, 2880, .inl f_46)), (b0, .inr (12, [.int b3, .ref b4, .ref b5, .ref b6, .ref b7, .int b8, .ref b9, .int b10, .int b11, .int b12, .int b13, .ref b14, .ref b15, .ref b16, .int b17, .ref b18, .ref b19, .ref b20, .ref b21, .ref b22, .ref b23, .ref b24, .ref b25, .ref b26, .ref b27, .ref b28, .ref b29, .int x_12, .ref b31, .ref b32, .int b33, .int b34, .int b35, .int b36, .ref b37, .ref b38, .ref b39, .ref b40, .ref b41, .ref b42, .ref b43, .int b44, .ref b45, .ref b46, .int b47, .ref b48, .ref b49, .ref b50, .ref b51, .ref b52, .int b53, .ref b54, .ref b55, .ref b56])), (b4, .inl (G.2 0, 503, .inl b57))] H := hP
        have hD := z_tie hP hD rfl
        exact z_vret hx hb hr hlocks (hP.sub [4, 5, 0, 1, 2, 3] rfl) (hD.sub [4, 5, 0, 1, 2, 3] (by decide) rfl) hS (Nat.le_of_ble_eq_true rfl) (Nat.le_of_ble_eq_true rfl) d_Model_addEdge_278 ⟨x_12, b60, f_46, rfl, rfl, (zI.wk (l' := 0) (h' := 1) hv_22 (by decide)), hb60, hf_46, (by omega), (fun hub => by have hfr9 : zst b59 b58 b1.toInt.toNat b2.toInt.toNat = x_2.toInt := (by unfold zst; rw [← hfx_3]); have hto9 : zst b59 b58 b1.toInt.toNat (b2.toInt + 1).toNat = x_6.toInt := (by unfold zst; have h8 := hfx_7; rw [h8]; congr 4; omega); rw [hfr9, hto9]; rcases hfx_14 with h5 | ⟨h5, h6⟩; exfalso; omega; have hj : v_23.toNatClampNeg = 6 * x_11.toInt.toNat + 3 := (by have p9 := z_pl hv_23 (by decide); omega); have hb := hub x_11.toInt.toNat (by omega); have e9 : zeU b61 x_11.toInt.toNat = v_24.toInt := (by rw [ev_24, hj]); exact zadd_bump (e := x_11.toInt.toNat) (v := v_24) (by omega) (by rw [uf_46, uf_34, uf_26]) (by have p9 := z_pl hv_23 (by decide); omega) (by have p9 := z_pl hv_27 (by decide); omega) (by have p9 := z_pl hv_35 (by decide); omega) (by rw [ev_24, hj]) (by have h7 := z_addq ev_25 (by have _l := li_1; omega); rw [h7, li_1]) h6.1 h6.2)⟩
    · have _nhc_30 := hc_30
      have ni_47 := (fa_lt _ _).mp (zi_nle hc_30)
      have hv_48 : zI x_17 (-2147483648) 2147483646 := zI.lt_l (zI_all x_17) (zI_all v_29) (zi_nle hc_30) (by decide)
      have hv_49 : zI v_29 (-2147483647) 2147483647 := zI.lt_r (zI_all x_17) (zI_all v_29) (zi_nle hc_30) (by decide)
      refine lv_iload hx hb d_Model_addEdge_226 (lv_at hl 1 rfl) ?_
      refine lv_goto (tgt := 240) hx hb d_Model_addEdge_228 (by decide) ?_
      refine va_iast hx hb hK hP hD hS 3 0 rfl rfl (zI.inn hv_27 (by decide)) d_Model_addEdge_240 (fun H locs hP hD hS => ?_)
      obtain ⟨f_50, hf_50, gf_50, uf_50, hP, hD⟩ := z_newq_ (Q := qE) 3 hP hD rfl hf_26 (qE_v hv_27 (by decide) ⟨fun _ => ⟨by have _w := hv_48; omega, by have _w := hv_48; omega⟩, fun _ => ⟨by have _w := hv_48; omega, by have _w := hv_48; omega⟩, fun _ => ⟨by have _w := hv_48; omega, by have _w := hv_48; omega⟩⟩)
      have hP : va_P G.1 classes [(b20, .inl (G.2 0, 520, .inl b58)), (b23, .inl (G.2 0, 482, .inl b59)), (b28, .inl (G.2 0, 2, .inl b60)), (b29, .inl (G.2 0, 2880, .inl f_50)), (b0, .inr (12, [.int b3, .ref b4, .ref b5, .ref b6, .ref b7, .int b8, .ref b9, .int b10, .int b11, .int b12, .int b13, .ref b14, .ref b15, .ref b16, .int b17, .ref b18, .ref b19, .ref b20, .ref b21, .ref b22, .ref b23, .ref b24, .ref b25, .ref b26, .ref b27, .ref b28, .ref b29, .int x_12, .ref b31, .ref b32, .int b33, .int b34, .int b35, .int b36, .ref b37, .ref b38, .ref b39, .ref b40, .ref b41, .ref b42, .ref b43, .int b44, .ref b45, .ref b46, .int b47, .ref b48, .ref b49, .ref b50, .ref b51, .ref b52, .int b53, .ref b54, .ref b55, .ref b56])), (b4, .inl (G.2 0, 503, .inl b57))] H := hP
      have hD := z_tie hP hD rfl
      refine lv_aload_n hx hb d_Model_addEdge_241 rfl (lv_at hl 5 rfl) ?_
      refine va_get (D := G.1) (ci := 12) (v := .ref b29) (C := R_Model) (T := F_Model) (N := 54) hx hb hts i_Model hown hK hP 4 rfl rfl 26 (by decide) (hts _ q1135) (fun _ h9 => h9) rfl d_Model_addEdge_242 ?_
      refine lv_iload hx hb d_Model_addEdge_245 (lv_at hl 0 rfl) ?_
      refine lv_iconst (v := 5) hx hb d_Model_addEdge_247 (by decide) ?_
      refine lv_iadd hx hb d_Model_addEdge_248 ?_
      refine lv_topi (fun v_51 ev_51 => ?_)
      obtain ⟨qv_51, hv_51⟩ := zI_add (l := 5) (h := 1439) hv_19 zc_5 ev_51 (by decide)
      rw [li_5] at qv_51
      refine lv_iload hx hb d_Model_addEdge_249 (lv_at hl 1 rfl) ?_
      refine lv_aload_n hx hb d_Model_addEdge_251 rfl (lv_at hl 5 rfl) ?_
      refine va_get (D := G.1) (ci := 12) (v := .ref b29) (C := R_Model) (T := F_Model) (N := 54) hx hb hts i_Model hown hK hP 4 rfl rfl 26 (by decide) (hts _ q1135) (fun _ h9 => h9) rfl d_Model_addEdge_252 ?_
      refine lv_iload hx hb d_Model_addEdge_255 (lv_at hl 0 rfl) ?_
      refine lv_iconst (v := 5) hx hb d_Model_addEdge_257 (by decide) ?_
      refine lv_iadd hx hb d_Model_addEdge_258 ?_
      refine lv_topi (fun v_52 ev_52 => ?_)
      obtain rfl : v_51 = v_52 := ev_51.trans ev_52.symm
      refine va_iald hx hb hK hP 3 0 rfl rfl (zI.inn hv_51 (by decide)) d_Model_addEdge_259 ?_
      refine lv_topi (fun v_53 ev_53 => ?_)
      have kv_53 := zQE.ld hf_50 hv_51 ev_53 (by decide)
      refine lv_icmp_le (tgt := 268) hx hb d_Model_addEdge_260 (by decide) (fun hc_54 => ?_) (fun hc_54 => ?_)
      · have _nhc_54 := hc_54
        have ni_55 := (fa_le _ _).mp hc_54
        refine lv_aload_n hx hb d_Model_addEdge_268 rfl (lv_at hl 5 rfl) ?_
        refine va_get (D := G.1) (ci := 12) (v := .ref b29) (C := R_Model) (T := F_Model) (N := 54) hx hb hts i_Model hown hK hP 4 rfl rfl 26 (by decide) (hts _ q1135) (fun _ h9 => h9) rfl d_Model_addEdge_269 ?_
        refine lv_iload hx hb d_Model_addEdge_272 (lv_at hl 0 rfl) ?_
        refine lv_iconst (v := 5) hx hb d_Model_addEdge_274 (by decide) ?_
        refine lv_iadd hx hb d_Model_addEdge_275 ?_
        refine lv_topi (fun v_56 ev_56 => ?_)
        obtain rfl : v_51 = v_56 := ev_51.trans ev_56.symm
        refine va_iald hx hb hK hP 3 0 rfl rfl (zI.inn hv_51 (by decide)) d_Model_addEdge_276 ?_
        refine lv_topi (fun v_57 ev_57 => ?_)
        obtain rfl : v_53 = v_57 := ev_53.trans ev_57.symm
        refine va_iast hx hb hK hP hD hS 3 0 rfl rfl (zI.inn hv_51 (by decide)) d_Model_addEdge_277 (fun H locs hP hD hS => ?_)
        obtain ⟨f_58, hf_58, gf_58, uf_58, hP, hD⟩ := z_newq_ (Q := qE) 3 hP hD rfl hf_50 (qE_s kv_53 hv_51 hv_51 (by decide) (by omega))
        have hP : va_P G.1 classes [(b20, .inl (G.2 0, 520, .inl b58)), (b23, .inl (G.2 0, 482, .inl b59)), (b28, .inl (G.2 0, 2, .inl b60)), (b29, .inl (G.2 0, 2880, .inl f_58)), (b0, .inr (12, [.int b3, .ref b4, .ref b5, .ref b6, .ref b7, .int b8, .ref b9, .int b10, .int b11, .int b12, .int b13, .ref b14, .ref b15, .ref b16, .int b17, .ref b18, .ref b19, .ref b20, .ref b21, .ref b22, .ref b23, .ref b24, .ref b25, .ref b26, .ref b27, .ref b28, .ref b29, .int x_12, .ref b31, .ref b32, .int b33, .int b34, .int b35, .int b36, .ref b37, .ref b38, .ref b39, .ref b40, .ref b41, .ref b42, .ref b43, .int b44, .ref b45, .ref b46, .int b47, .ref b48, .ref b49, .ref b50, .ref b51, .ref b52, .int b53, .ref b54, .ref b55, .ref b56])), (b4, .inl (G.2 0, 503, .inl b57))] H := hP
        have hD := z_tie hP hD rfl
        exact z_vret hx hb hr hlocks (hP.sub [4, 5, 0, 1, 2, 3] rfl) (hD.sub [4, 5, 0, 1, 2, 3] (by decide) rfl) hS (Nat.le_of_ble_eq_true rfl) (Nat.le_of_ble_eq_true rfl) d_Model_addEdge_278 ⟨x_12, b60, f_58, rfl, rfl, (zI.wk (l' := 0) (h' := 1) hv_22 (by decide)), hb60, hf_58, (by omega), (fun hub => by have hfr9 : zst b59 b58 b1.toInt.toNat b2.toInt.toNat = x_2.toInt := (by unfold zst; rw [← hfx_3]); have hto9 : zst b59 b58 b1.toInt.toNat (b2.toInt + 1).toNat = x_6.toInt := (by unfold zst; have h8 := hfx_7; rw [h8]; congr 4; omega); rw [hfr9, hto9]; rcases hfx_14 with h5 | ⟨h5, h6⟩; exfalso; omega; have hj : v_23.toNatClampNeg = 6 * x_11.toInt.toNat + 3 := (by have p9 := z_pl hv_23 (by decide); omega); have hb := hub x_11.toInt.toNat (by omega); have e9 : zeU b61 x_11.toInt.toNat = v_24.toInt := (by rw [ev_24, hj]); exact zadd_bump (e := x_11.toInt.toNat) (v := v_24) (by omega) (by rw [uf_58, uf_50, uf_26]) (by have p9 := z_pl hv_23 (by decide); omega) (by have p9 := z_pl hv_27 (by decide); omega) (by have p9 := z_pl hv_51 (by decide); omega) (by rw [ev_24, hj]) (by have h7 := z_addq ev_25 (by have _l := li_1; omega); rw [h7, li_1]) h6.1 h6.2)⟩
      · have _nhc_54 := hc_54
        have ni_59 := (fa_lt _ _).mp (zi_nle hc_54)
        have hv_60 : zI v_53 (-2147483648) 2147483645 := zI.lt_l (zI_all v_53) hv_48 (zi_nle hc_54) (by decide)
        have hv_61 : zI x_17 (-2147483647) 2147483646 := zI.lt_r (zI_all v_53) hv_48 (zi_nle hc_54) (by decide)
        refine lv_iload hx hb d_Model_addEdge_263 (lv_at hl 1 rfl) ?_
        refine lv_goto (tgt := 277) hx hb d_Model_addEdge_265 (by decide) ?_
        refine va_iast hx hb hK hP hD hS 3 0 rfl rfl (zI.inn hv_51 (by decide)) d_Model_addEdge_277 (fun H locs hP hD hS => ?_)
        obtain ⟨f_62, hf_62, gf_62, uf_62, hP, hD⟩ := z_newq_ (Q := qE) 3 hP hD rfl hf_50 (qE_v hv_51 (by decide) ⟨fun _ => ⟨by have _w := hv_61; omega, by have _w := hv_61; omega⟩, fun _ => ⟨by have _w := hv_61; omega, by have _w := hv_61; omega⟩, fun _ => ⟨by have _w := hv_61; omega, by have _w := hv_61; omega⟩⟩)
        have hP : va_P G.1 classes [(b20, .inl (G.2 0, 520, .inl b58)), (b23, .inl (G.2 0, 482, .inl b59)), (b28, .inl (G.2 0, 2, .inl b60)), (b29, .inl (G.2 0, 2880, .inl f_62)), (b0, .inr (12, [.int b3, .ref b4, .ref b5, .ref b6, .ref b7, .int b8, .ref b9, .int b10, .int b11, .int b12, .int b13, .ref b14, .ref b15, .ref b16, .int b17, .ref b18, .ref b19, .ref b20, .ref b21, .ref b22, .ref b23, .ref b24, .ref b25, .ref b26, .ref b27, .ref b28, .ref b29, .int x_12, .ref b31, .ref b32, .int b33, .int b34, .int b35, .int b36, .ref b37, .ref b38, .ref b39, .ref b40, .ref b41, .ref b42, .ref b43, .int b44, .ref b45, .ref b46, .int b47, .ref b48, .ref b49, .ref b50, .ref b51, .ref b52, .int b53, .ref b54, .ref b55, .ref b56])), (b4, .inl (G.2 0, 503, .inl b57))] H := hP
        have hD := z_tie hP hD rfl
        exact z_vret hx hb hr hlocks (hP.sub [4, 5, 0, 1, 2, 3] rfl) (hD.sub [4, 5, 0, 1, 2, 3] (by decide) rfl) hS (Nat.le_of_ble_eq_true rfl) (Nat.le_of_ble_eq_true rfl) d_Model_addEdge_278 ⟨x_12, b60, f_62, rfl, rfl, (zI.wk (l' := 0) (h' := 1) hv_22 (by decide)), hb60, hf_62, (by omega), (fun hub => by have hfr9 : zst b59 b58 b1.toInt.toNat b2.toInt.toNat = x_2.toInt := (by unfold zst; rw [← hfx_3]); have hto9 : zst b59 b58 b1.toInt.toNat (b2.toInt + 1).toNat = x_6.toInt := (by unfold zst; have h8 := hfx_7; rw [h8]; congr 4; omega); rw [hfr9, hto9]; rcases hfx_14 with h5 | ⟨h5, h6⟩; exfalso; omega; have hj : v_23.toNatClampNeg = 6 * x_11.toInt.toNat + 3 := (by have p9 := z_pl hv_23 (by decide); omega); have hb := hub x_11.toInt.toNat (by omega); have e9 : zeU b61 x_11.toInt.toNat = v_24.toInt := (by rw [ev_24, hj]); exact zadd_bump (e := x_11.toInt.toNat) (v := v_24) (by omega) (by rw [uf_62, uf_50, uf_26]) (by have p9 := z_pl hv_23 (by decide); omega) (by have p9 := z_pl hv_27 (by decide); omega) (by have p9 := z_pl hv_51 (by decide); omega) (by rw [ev_24, hj]) (by have h7 := z_addq ev_25 (by have _l := li_1; omega); rw [h7, li_1]) h6.1 h6.2)⟩
  · have _nhc_20 := hc_20
    have ni_63 := (fa_eq _ _).mp hc_20
    rw [li_0] at ni_63
    have hv_64 : zI x_12 0 0 := zI.eq_l hx_12 zc_0 hc_20
    refine lv_bipush (v := 6) hx hb d_Model_addEdge_65 (by decide) ?_
    refine lv_sipush (v := 240) hx hb d_Model_addEdge_67 (by decide) ?_
    refine lv_iload_n hx hb d_Model_addEdge_70 rfl (lv_at hl 6 rfl) ?_
    refine lv_imul hx hb d_Model_addEdge_71 ?_
    refine z_topi (y := 0) (by decide +kernel) ?_
    refine lv_aload_n hx hb d_Model_addEdge_72 rfl (lv_at hl 5 rfl) ?_
    refine va_get (D := G.1) (ci := 12) (v := .ref b28) (C := R_Model) (T := F_Model) (N := 54) hx hb hts i_Model hown hK hP 4 rfl rfl 25 (by decide) (hts _ q1134) (fun _ h9 => h9) rfl d_Model_addEdge_73 ?_
    refine lv_iload_n hx hb d_Model_addEdge_76 rfl (lv_at hl 6 rfl) ?_
    refine va_iald hx hb hK hP 2 0 rfl rfl (i := 0) (z_in rfl) d_Model_addEdge_77 ?_
    refine lv_topi (fun v_65 ev_65 => ?_)
    have hv_65 : zI v_65 0 240 := (hb60 _).eq ev_65
    have hv_66 : zI v_65 0 239 := ⟨hv_65.1, by rw [ev_65]; exact hem⟩
    refine lv_iadd hx hb d_Model_addEdge_78 ?_
    refine lv_topi (fun v_67 ev_67 => ?_)
    obtain ⟨qv_67, hv_67⟩ := zI_add (l := 0) (h := 239) zc_0 hv_66 ev_67 (by decide)
    rw [li_0] at qv_67
    refine lv_imul hx hb d_Model_addEdge_79 ?_
    refine lv_topi (fun v_68 ev_68 => ?_)
    obtain ⟨qv_68, hv_68⟩ := zI_mul (l := 0) (h := 1434) zc_6 hv_67 ev_68 (by decide)
    rw [li_6] at qv_68
    refine lv_iconst (v := 1) hx hb d_Model_addEdge_80 (by decide) ?_
    refine lv_isub hx hb d_Model_addEdge_81 ?_
    refine lv_topi (fun v_69 ev_69 => ?_)
    obtain ⟨qv_69, hv_69⟩ := zI_sub (l := -1) (h := 1433) hv_68 zc_1 ev_69 (by decide)
    rw [li_1] at qv_69
    refine lv_istore (lv' := [(9, .int v_69), (8, .int v_19), (7, .int x_17), (6, .int x_11), (5, .int x_6), (4, .int x_2), (0, .ref b0), (1, .int 0), (2, .int b1), (3, .int b2)]) hx hb d_Model_addEdge_82 hl (by decide) rfl (fun ls hl => ?_)
    suffices key : ∀ (k_137 : Nat) (y_138 : Int32) (y_139 : Nat → Int32) (H : Heap) (locs : List Loc) (ls : Array Slot), (zI y_138 (-1) 1433) → (zqa qE y_139) → (∀ q : Nat, y_139 q = if (y_138 : Int32).toInt + 6 < (q : Int) ∧ (q : Int) < 6 * (b60 (0 : Int32).toNatClampNeg).toInt + 6 then b61 (q - 6) else b61 q) → ((v_19 : Int32).toInt - 1 ≤ (y_138 : Int32).toInt) → ((y_138 : Int32).toInt + 6 < 6 * (b60 (0 : Int32).toNatClampNeg).toInt + 6) → y_138.toInt - ((-1)) < (k_137 : Int) → va_P G.1 classes [(b20, .inl (G.2 0, 520, .inl b58)), (b23, .inl (G.2 0, 482, .inl b59)), (b28, .inl (G.2 0, 2, .inl b60)), (b29, .inl (G.2 0, 2880, .inl y_139)), (b0, .inr (12, [.int b3, .ref b4, .ref b5, .ref b6, .ref b7, .int b8, .ref b9, .int b10, .int b11, .int b12, .int b13, .ref b14, .ref b15, .ref b16, .int b17, .ref b18, .ref b19, .ref b20, .ref b21, .ref b22, .ref b23, .ref b24, .ref b25, .ref b26, .ref b27, .ref b28, .ref b29, .int x_12, .ref b31, .ref b32, .int b33, .int b34, .int b35, .int b36, .ref b37, .ref b38, .ref b39, .ref b40, .ref b41, .ref b42, .ref b43, .int b44, .ref b45, .ref b46, .int b47, .ref b48, .ref b49, .ref b50, .ref b51, .ref b52, .int b53, .ref b54, .ref b55, .ref b56])), (b4, .inl (G.2 0, 503, .inl b57))] H → va_D A [(b20, .inl (G.2 0, 520, .inl b58)), (b23, .inl (G.2 0, 482, .inl b59)), (b28, .inl (G.2 0, 2, .inl b60)), (b29, .inl (G.2 0, 2880, .inl y_139)), (b0, .inr (12, [.int b3, .ref b4, .ref b5, .ref b6, .ref b7, .int b8, .ref b9, .int b10, .int b11, .int b12, .int b13, .ref b14, .ref b15, .ref b16, .int b17, .ref b18, .ref b19, .ref b20, .ref b21, .ref b22, .ref b23, .ref b24, .ref b25, .ref b26, .ref b27, .ref b28, .ref b29, .int x_12, .ref b31, .ref b32, .int b33, .int b34, .int b35, .int b36, .ref b37, .ref b38, .ref b39, .ref b40, .ref b41, .ref b42, .ref b43, .int b44, .ref b45, .ref b46, .int b47, .ref b48, .ref b49, .ref b50, .ref b51, .ref b52, .int b53, .ref b54, .ref b55, .ref b56])), (b4, .inl (G.2 0, 503, .inl b57))] → va_S A s.heap H locs → lv_has ls 10 [(9, .int y_138), (8, .int v_19), (7, .int x_17), (6, .int x_11), (5, .int x_6), (4, .int x_2), (0, .ref b0), (1, .int 0), (2, .int b1), (3, .int b2)] → W p l e m_s1_Model_addEdge s m ([.ref b0, .int 0, .int b1, .int b2] : List Value).toArray below meth c H locs 0 0 (MQ below (zQ G (fun v w => ∃ (e0 : Int32), ∃ (e1 : Nat → Int32), ∃ (e2 : Nat → Int32), v = none ∧ w = [(b0, .inr (12, [.int b3, .ref b4, .ref b5, .ref b6, .ref b7, .int b8, .ref b9, .int b10, .int b11, .int b12, .int b13, .ref b14, .ref b15, .ref b16, .int b17, .ref b18, .ref b19, .ref b20, .ref b21, .ref b22, .ref b23, .ref b24, .ref b25, .ref b26, .ref b27, .ref b28, .ref b29, .int e0, .ref b31, .ref b32, .int b33, .int b34, .int b35, .int b36, .ref b37, .ref b38, .ref b39, .ref b40, .ref b41, .ref b42, .ref b43, .int b44, .ref b45, .ref b46, .int b47, .ref b48, .ref b49, .ref b50, .ref b51, .ref b52, .int b53, .ref b54, .ref b55, .ref b56])), (b4, .inl (G.2 0, 503, .inl b57)), (b20, .inl (G.2 0, 520, .inl b58)), (b23, .inl (G.2 0, 482, .inl b59)), (b28, .inl (G.2 0, 2, .inl e1)), (b29, .inl (G.2 0, 2880, .inl e2))] ∧ (zI e0 0 1) ∧ (zR e1 0 240) ∧ (zqa qE e2) ∧ ((e1 (0 : Int32).toNatClampNeg).toInt ≤ (b60 (0 : Int32).toNatClampNeg).toInt + 1) ∧ ((∀ j : Nat, j < ((b60 (0 : Int32).toNatClampNeg).toInt).toNat → 0 ≤ zeU b61 j ∧ zeU b61 j ≤ 1000) → zAdd b61 ((b60 (0 : Int32).toNatClampNeg).toInt).toNat e2 ((e1 (0 : Int32).toNatClampNeg).toInt).toNat (zst b59 b58 b1.toInt.toNat b2.toInt.toNat) (zst b59 b58 b1.toInt.toNat (b2.toInt + 1).toNat))) A) ([.ref b0, .int 0, .int b1, .int b2] : List Value).toArray s m_s1_Model_addEdge.cells m_s1_Model_addEdge.slots A) (F0 m 84 ls []) by
      exact key 1435 (v_69) (b61) _ _ _ hv_69 hb61 (by intro q; rw [if_neg (by have h9 := ev_65; have h8 : v_65.toInt = (b60 (0 : Int32).toNatClampNeg).toInt := (by rw [h9]); omega)]) (by have h9 := ev_65; have h8 : v_65.toInt = (b60 (0 : Int32).toNatClampNeg).toInt := (by rw [h9]); omega) (by have h9 := ev_65; have h8 : v_65.toInt = (b60 (0 : Int32).toNatClampNeg).toInt := (by rw [h9]); omega) (zm_dni hv_69 (by decide)) hP hD hS (lv_sub hl [0, 1, 2, 3, 4, 5, 6, 7, 8, 9] rfl)
    intro k_137
    induction k_137 with
    | zero =>
      intro y_138 y_139 H locs ls hy_138 hy_139 hli_140 hli_141 hli_142 hmk_137 hP hD hS hl
      exact (zm_dn0 hy_138 hmk_137).elim
    | succ k_137 ihk_137 =>
      intro y_138 y_139 H locs ls hy_138 hy_139 hli_140 hli_141 hli_142 hmk_137 hP hD hS hl
      refine lv_iload hx hb d_Model_addEdge_84 (lv_at hl 0 rfl) ?_
      refine lv_iload hx hb d_Model_addEdge_86 (lv_at hl 1 rfl) ?_
      refine lv_icmp_lt (tgt := 114) hx hb d_Model_addEdge_88 (by decide) (fun hc_143 => ?_) (fun hc_143 => ?_)
      · have _nhc_143 := hc_143
        have ni_144 := (fa_lt _ _).mp hc_143
        refine lv_aload_n hx hb d_Model_addEdge_114 rfl (lv_at hl 6 rfl) ?_
        refine va_get (D := G.1) (ci := 12) (v := .ref b28) (C := R_Model) (T := F_Model) (N := 54) hx hb hts i_Model hown hK hP 4 rfl rfl 25 (by decide) (hts _ q1134) (fun _ h9 => h9) rfl d_Model_addEdge_115 ?_
        refine lv_iload_n hx hb d_Model_addEdge_118 rfl (lv_at hl 7 rfl) ?_
        refine lv_dup2_11 hx hb d_Model_addEdge_119 rfl rfl ?_
        refine va_iald hx hb hK hP 2 0 rfl rfl (i := 0) (z_in rfl) d_Model_addEdge_120 ?_
        refine lv_topi (fun v_145 ev_145 => ?_)
        obtain rfl : v_65 = v_145 := ev_65.trans ev_145.symm
        refine lv_iconst (v := 1) hx hb d_Model_addEdge_121 (by decide) ?_
        refine lv_iadd hx hb d_Model_addEdge_122 ?_
        refine lv_topi (fun v_146 ev_146 => ?_)
        obtain ⟨qv_146, hv_146⟩ := zI_add (l := 1) (h := 240) hv_66 zc_1 ev_146 (by decide)
        rw [li_1] at qv_146
        refine va_iast hx hb hK hP hD hS 2 0 rfl rfl (i := 0) (z_in rfl) d_Model_addEdge_123 (fun H locs hP hD hS => ?_)
        obtain ⟨f_147, hf_147, gf_147, uf_147, hP, hD⟩ := z_newfu 2 hP hD rfl hb60 (zI.wk (l' := 0) (h' := 240) hv_146 (by decide))
        have hP : va_P G.1 classes [(b20, .inl (G.2 0, 520, .inl b58)), (b23, .inl (G.2 0, 482, .inl b59)), (b28, .inl (G.2 0, 2, .inl f_147)), (b29, .inl (G.2 0, 2880, .inl y_139)), (b0, .inr (12, [.int b3, .ref b4, .ref b5, .ref b6, .ref b7, .int b8, .ref b9, .int b10, .int b11, .int b12, .int b13, .ref b14, .ref b15, .ref b16, .int b17, .ref b18, .ref b19, .ref b20, .ref b21, .ref b22, .ref b23, .ref b24, .ref b25, .ref b26, .ref b27, .ref b28, .ref b29, .int x_12, .ref b31, .ref b32, .int b33, .int b34, .int b35, .int b36, .ref b37, .ref b38, .ref b39, .ref b40, .ref b41, .ref b42, .ref b43, .int b44, .ref b45, .ref b46, .int b47, .ref b48, .ref b49, .ref b50, .ref b51, .ref b52, .int b53, .ref b54, .ref b55, .ref b56])), (b4, .inl (G.2 0, 503, .inl b57))] H := hP
        have hD := z_tie hP hD rfl
        refine lv_aload_n hx hb d_Model_addEdge_124 rfl (lv_at hl 6 rfl) ?_
        refine va_get (D := G.1) (ci := 12) (v := .ref b29) (C := R_Model) (T := F_Model) (N := 54) hx hb hts i_Model hown hK hP 4 rfl rfl 26 (by decide) (hts _ q1135) (fun _ h9 => h9) rfl d_Model_addEdge_125 ?_
        refine lv_iload hx hb d_Model_addEdge_128 (lv_at hl 1 rfl) ?_
        refine lv_iload hx hb d_Model_addEdge_130 (lv_at hl 5 rfl) ?_
        refine va_iast hx hb hK hP hD hS 3 0 rfl rfl (zI.inn hv_19 (by decide)) d_Model_addEdge_132 (fun H locs hP hD hS => ?_)
        obtain ⟨f_148, hf_148, gf_148, uf_148, hP, hD⟩ := z_newq_ (Q := qE) 3 hP hD rfl hy_139 (qE_v hv_19 (by decide) ⟨fun _ => ⟨by have _w := hx_2; omega, by have _w := hx_2; omega⟩, fun _ => ⟨by have _w := hx_2; omega, by have _w := hx_2; omega⟩, fun _ => ⟨by have _w := hx_2; omega, by have _w := hx_2; omega⟩⟩)
        have hP : va_P G.1 classes [(b20, .inl (G.2 0, 520, .inl b58)), (b23, .inl (G.2 0, 482, .inl b59)), (b28, .inl (G.2 0, 2, .inl f_147)), (b29, .inl (G.2 0, 2880, .inl f_148)), (b0, .inr (12, [.int b3, .ref b4, .ref b5, .ref b6, .ref b7, .int b8, .ref b9, .int b10, .int b11, .int b12, .int b13, .ref b14, .ref b15, .ref b16, .int b17, .ref b18, .ref b19, .ref b20, .ref b21, .ref b22, .ref b23, .ref b24, .ref b25, .ref b26, .ref b27, .ref b28, .ref b29, .int x_12, .ref b31, .ref b32, .int b33, .int b34, .int b35, .int b36, .ref b37, .ref b38, .ref b39, .ref b40, .ref b41, .ref b42, .ref b43, .int b44, .ref b45, .ref b46, .int b47, .ref b48, .ref b49, .ref b50, .ref b51, .ref b52, .int b53, .ref b54, .ref b55, .ref b56])), (b4, .inl (G.2 0, 503, .inl b57))] H := hP
        have hD := z_tie hP hD rfl
        refine lv_aload_n hx hb d_Model_addEdge_133 rfl (lv_at hl 6 rfl) ?_
        refine va_get (D := G.1) (ci := 12) (v := .ref b29) (C := R_Model) (T := F_Model) (N := 54) hx hb hts i_Model hown hK hP 4 rfl rfl 26 (by decide) (hts _ q1135) (fun _ h9 => h9) rfl d_Model_addEdge_134 ?_
        refine lv_iload hx hb d_Model_addEdge_137 (lv_at hl 1 rfl) ?_
        refine lv_iconst (v := 1) hx hb d_Model_addEdge_139 (by decide) ?_
        refine lv_iadd hx hb d_Model_addEdge_140 ?_
        refine lv_topi (fun v_149 ev_149 => ?_)
        obtain ⟨qv_149, hv_149⟩ := zI_add (l := 1) (h := 1435) hv_19 zc_1 ev_149 (by decide)
        rw [li_1] at qv_149
        refine lv_aload_n hx hb d_Model_addEdge_141 rfl (lv_at hl 6 rfl) ?_
        refine lv_iload_n hx hb d_Model_addEdge_142 rfl (lv_at hl 8 rfl) ?_
        refine lv_iload_n hx hb d_Model_addEdge_143 rfl (lv_at hl 9 rfl) ?_
        refine z_callV (index := 207) (As := [.int b1, .int b2]) (rest := [.int v_149, .ref b29]) (wr := [(b20, .inl (G.2 0, 520, .inl b58)), (b23, .inl (G.2 0, 482, .inl b59)), (b28, .inl (G.2 0, 2, .inl f_147)), (b29, .inl (G.2 0, 2880, .inl f_148))]) Z (s1_Model_letterAt l G (b0) (b1) (b2) (b3) (b4) (b5) (b6) (b7) (b8) (b9) (b10) (b11) (b12) (b13) (b14) (b15) (b16) (b17) (b18) (b19) (b20) (b21) (b22) (b23) (b24) (b25) (b26) (b27) (b28) (b29) (x_12) (b31) (b32) (b33) (b34) (b35) (b36) (b37) (b38) (b39) (b40) (b41) (b42) (b43) (b44) (b45) (b46) (b47) (b48) (b49) (b50) (b51) (b52) (b53) (b54) (b55) (b56) (b57) hb1 hb2 hb8 hb10 hb11 hb13 hb17 (zI.wk (l' := 0) (h' := 1) hv_64 (by decide)) hb33 hb44 hb47 hb53 hb57) hl.1 q1372 q1374 qs59 q14 q1375 ⟨by decide, by decide, by show _ = some 2; decide +kernel⟩ ⟨Nat.le_of_ble_eq_true rfl, Nat.le_of_ble_eq_true rfl⟩ ⟨Nat.le_of_ble_eq_true rfl, Nat.le_of_ble_eq_true rfl⟩ rfl (Nat.le_of_ble_eq_true rfl) d_Model_addEdge_144 hP hD hS hA 4 12 rfl rfl rfl [4, 5] [0, 1, 2, 3] rfl rfl rfl rfl (by decide) (fun v w1 H locs hw_150 hP hD hS => ?_)
        obtain ⟨x_151, rfl, rfl, hx_151⟩ := hw_150
        have hP : va_P G.1 classes [(b20, .inl (G.2 0, 520, .inl b58)), (b23, .inl (G.2 0, 482, .inl b59)), (b28, .inl (G.2 0, 2, .inl f_147)), (b29, .inl (G.2 0, 2880, .inl f_148)), (b0, .inr (12, [.int b3, .ref b4, .ref b5, .ref b6, .ref b7, .int b8, .ref b9, .int b10, .int b11, .int b12, .int b13, .ref b14, .ref b15, .ref b16, .int b17, .ref b18, .ref b19, .ref b20, .ref b21, .ref b22, .ref b23, .ref b24, .ref b25, .ref b26, .ref b27, .ref b28, .ref b29, .int x_12, .ref b31, .ref b32, .int b33, .int b34, .int b35, .int b36, .ref b37, .ref b38, .ref b39, .ref b40, .ref b41, .ref b42, .ref b43, .int b44, .ref b45, .ref b46, .int b47, .ref b48, .ref b49, .ref b50, .ref b51, .ref b52, .int b53, .ref b54, .ref b55, .ref b56])), (b4, .inl (G.2 0, 503, .inl b57))] H := hP
        have hD := z_tie hP hD rfl
        refine W.widen (k := 0) (n := 0) (Nat.le_of_ble_eq_true rfl) (Nat.le_of_ble_eq_true rfl) ?_
        refine va_iast hx hb hK hP hD hS 3 0 rfl rfl (zI.inn hv_149 (by decide)) d_Model_addEdge_147 (fun H locs hP hD hS => ?_)
        obtain ⟨f_152, hf_152, gf_152, uf_152, hP, hD⟩ := z_newq_ (Q := qE) 3 hP hD rfl hf_148 (qE_v hv_149 (by decide) ⟨fun _ => ⟨by have _w := hx_151; omega, by have _w := hx_151; omega⟩, fun _ => ⟨by have _w := hx_151; omega, by have _w := hx_151; omega⟩, fun _ => ⟨by have _w := hx_151; omega, by have _w := hx_151; omega⟩⟩)
        have hP : va_P G.1 classes [(b20, .inl (G.2 0, 520, .inl b58)), (b23, .inl (G.2 0, 482, .inl b59)), (b28, .inl (G.2 0, 2, .inl f_147)), (b29, .inl (G.2 0, 2880, .inl f_152)), (b0, .inr (12, [.int b3, .ref b4, .ref b5, .ref b6, .ref b7, .int b8, .ref b9, .int b10, .int b11, .int b12, .int b13, .ref b14, .ref b15, .ref b16, .int b17, .ref b18, .ref b19, .ref b20, .ref b21, .ref b22, .ref b23, .ref b24, .ref b25, .ref b26, .ref b27, .ref b28, .ref b29, .int x_12, .ref b31, .ref b32, .int b33, .int b34, .int b35, .int b36, .ref b37, .ref b38, .ref b39, .ref b40, .ref b41, .ref b42, .ref b43, .int b44, .ref b45, .ref b46, .int b47, .ref b48, .ref b49, .ref b50, .ref b51, .ref b52, .int b53, .ref b54, .ref b55, .ref b56])), (b4, .inl (G.2 0, 503, .inl b57))] H := hP
        have hD := z_tie hP hD rfl
        refine lv_aload_n hx hb d_Model_addEdge_148 rfl (lv_at hl 6 rfl) ?_
        refine va_get (D := G.1) (ci := 12) (v := .ref b29) (C := R_Model) (T := F_Model) (N := 54) hx hb hts i_Model hown hK hP 4 rfl rfl 26 (by decide) (hts _ q1135) (fun _ h9 => h9) rfl d_Model_addEdge_149 ?_
        refine lv_iload hx hb d_Model_addEdge_152 (lv_at hl 1 rfl) ?_
        refine lv_iconst (v := 2) hx hb d_Model_addEdge_154 (by decide) ?_
        refine lv_iadd hx hb d_Model_addEdge_155 ?_
        refine lv_topi (fun v_153 ev_153 => ?_)
        obtain ⟨qv_153, hv_153⟩ := zI_add (l := 2) (h := 1436) hv_19 zc_2 ev_153 (by decide)
        rw [li_2] at qv_153
        refine lv_iload hx hb d_Model_addEdge_156 (lv_at hl 4 rfl) ?_
        refine va_iast hx hb hK hP hD hS 3 0 rfl rfl (zI.inn hv_153 (by decide)) d_Model_addEdge_158 (fun H locs hP hD hS => ?_)
        obtain ⟨f_154, hf_154, gf_154, uf_154, hP, hD⟩ := z_newq_ (Q := qE) 3 hP hD rfl hf_152 (qE_v hv_153 (by decide) ⟨fun _ => ⟨by have _w := hx_6; omega, by have _w := hx_6; omega⟩, fun _ => ⟨by have _w := hx_6; omega, by have _w := hx_6; omega⟩, fun _ => ⟨by have _w := hx_6; omega, by have _w := hx_6; omega⟩⟩)
        have hP : va_P G.1 classes [(b20, .inl (G.2 0, 520, .inl b58)), (b23, .inl (G.2 0, 482, .inl b59)), (b28, .inl (G.2 0, 2, .inl f_147)), (b29, .inl (G.2 0, 2880, .inl f_154)), (b0, .inr (12, [.int b3, .ref b4, .ref b5, .ref b6, .ref b7, .int b8, .ref b9, .int b10, .int b11, .int b12, .int b13, .ref b14, .ref b15, .ref b16, .int b17, .ref b18, .ref b19, .ref b20, .ref b21, .ref b22, .ref b23, .ref b24, .ref b25, .ref b26, .ref b27, .ref b28, .ref b29, .int x_12, .ref b31, .ref b32, .int b33, .int b34, .int b35, .int b36, .ref b37, .ref b38, .ref b39, .ref b40, .ref b41, .ref b42, .ref b43, .int b44, .ref b45, .ref b46, .int b47, .ref b48, .ref b49, .ref b50, .ref b51, .ref b52, .int b53, .ref b54, .ref b55, .ref b56])), (b4, .inl (G.2 0, 503, .inl b57))] H := hP
        have hD := z_tie hP hD rfl
        refine lv_aload_n hx hb d_Model_addEdge_159 rfl (lv_at hl 6 rfl) ?_
        refine va_get (D := G.1) (ci := 12) (v := .ref b29) (C := R_Model) (T := F_Model) (N := 54) hx hb hts i_Model hown hK hP 4 rfl rfl 26 (by decide) (hts _ q1135) (fun _ h9 => h9) rfl d_Model_addEdge_160 ?_
        refine lv_iload hx hb d_Model_addEdge_163 (lv_at hl 1 rfl) ?_
        refine lv_iconst (v := 3) hx hb d_Model_addEdge_165 (by decide) ?_
        refine lv_iadd hx hb d_Model_addEdge_166 ?_
        refine lv_topi (fun v_155 ev_155 => ?_)
        obtain ⟨qv_155, hv_155⟩ := zI_add (l := 3) (h := 1437) hv_19 zc_3 ev_155 (by decide)
        rw [li_3] at qv_155
        refine lv_iconst (v := 0) hx hb d_Model_addEdge_167 (by decide) ?_
        refine va_iast hx hb hK hP hD hS 3 0 rfl rfl (zI.inn hv_155 (by decide)) d_Model_addEdge_168 (fun H locs hP hD hS => ?_)
        obtain ⟨f_156, hf_156, gf_156, uf_156, hP, hD⟩ := z_newq_ (Q := qE) 3 hP hD rfl hf_154 (qE_v hv_155 (by decide) ⟨fun _ => ⟨by have _w := li_0; omega, by have _w := li_0; omega⟩, fun _ => ⟨by have _w := li_0; omega, by have _w := li_0; omega⟩, fun _ => ⟨by have _w := li_0; omega, by have _w := li_0; omega⟩⟩)
        have hP : va_P G.1 classes [(b20, .inl (G.2 0, 520, .inl b58)), (b23, .inl (G.2 0, 482, .inl b59)), (b28, .inl (G.2 0, 2, .inl f_147)), (b29, .inl (G.2 0, 2880, .inl f_156)), (b0, .inr (12, [.int b3, .ref b4, .ref b5, .ref b6, .ref b7, .int b8, .ref b9, .int b10, .int b11, .int b12, .int b13, .ref b14, .ref b15, .ref b16, .int b17, .ref b18, .ref b19, .ref b20, .ref b21, .ref b22, .ref b23, .ref b24, .ref b25, .ref b26, .ref b27, .ref b28, .ref b29, .int x_12, .ref b31, .ref b32, .int b33, .int b34, .int b35, .int b36, .ref b37, .ref b38, .ref b39, .ref b40, .ref b41, .ref b42, .ref b43, .int b44, .ref b45, .ref b46, .int b47, .ref b48, .ref b49, .ref b50, .ref b51, .ref b52, .int b53, .ref b54, .ref b55, .ref b56])), (b4, .inl (G.2 0, 503, .inl b57))] H := hP
        have hD := z_tie hP hD rfl
        refine lv_aload_n hx hb d_Model_addEdge_169 rfl (lv_at hl 6 rfl) ?_
        refine va_get (D := G.1) (ci := 12) (v := .ref b29) (C := R_Model) (T := F_Model) (N := 54) hx hb hts i_Model hown hK hP 4 rfl rfl 26 (by decide) (hts _ q1135) (fun _ h9 => h9) rfl d_Model_addEdge_170 ?_
        refine lv_iload hx hb d_Model_addEdge_173 (lv_at hl 1 rfl) ?_
        refine lv_iconst (v := 4) hx hb d_Model_addEdge_175 (by decide) ?_
        refine lv_iadd hx hb d_Model_addEdge_176 ?_
        refine lv_topi (fun v_157 ev_157 => ?_)
        obtain ⟨qv_157, hv_157⟩ := zI_add (l := 4) (h := 1438) hv_19 zc_4 ev_157 (by decide)
        rw [li_4] at qv_157
        refine lv_iload hx hb d_Model_addEdge_177 (lv_at hl 2 rfl) ?_
        refine va_iast hx hb hK hP hD hS 3 0 rfl rfl (zI.inn hv_157 (by decide)) d_Model_addEdge_179 (fun H locs hP hD hS => ?_)
        obtain ⟨f_158, hf_158, gf_158, uf_158, hP, hD⟩ := z_newq_ (Q := qE) 3 hP hD rfl hf_156 (qE_v hv_157 (by decide) ⟨fun _ => ⟨by have _w := (zI_all x_17); omega, by have _w := (zI_all x_17); omega⟩, fun _ => ⟨by have _w := (zI_all x_17); omega, by have _w := (zI_all x_17); omega⟩, fun _ => ⟨by have _w := (zI_all x_17); omega, by have _w := (zI_all x_17); omega⟩⟩)
        have hP : va_P G.1 classes [(b20, .inl (G.2 0, 520, .inl b58)), (b23, .inl (G.2 0, 482, .inl b59)), (b28, .inl (G.2 0, 2, .inl f_147)), (b29, .inl (G.2 0, 2880, .inl f_158)), (b0, .inr (12, [.int b3, .ref b4, .ref b5, .ref b6, .ref b7, .int b8, .ref b9, .int b10, .int b11, .int b12, .int b13, .ref b14, .ref b15, .ref b16, .int b17, .ref b18, .ref b19, .ref b20, .ref b21, .ref b22, .ref b23, .ref b24, .ref b25, .ref b26, .ref b27, .ref b28, .ref b29, .int x_12, .ref b31, .ref b32, .int b33, .int b34, .int b35, .int b36, .ref b37, .ref b38, .ref b39, .ref b40, .ref b41, .ref b42, .ref b43, .int b44, .ref b45, .ref b46, .int b47, .ref b48, .ref b49, .ref b50, .ref b51, .ref b52, .int b53, .ref b54, .ref b55, .ref b56])), (b4, .inl (G.2 0, 503, .inl b57))] H := hP
        have hD := z_tie hP hD rfl
        refine lv_aload_n hx hb d_Model_addEdge_180 rfl (lv_at hl 6 rfl) ?_
        refine va_get (D := G.1) (ci := 12) (v := .ref b29) (C := R_Model) (T := F_Model) (N := 54) hx hb hts i_Model hown hK hP 4 rfl rfl 26 (by decide) (hts _ q1135) (fun _ h9 => h9) rfl d_Model_addEdge_181 ?_
        refine lv_iload hx hb d_Model_addEdge_184 (lv_at hl 1 rfl) ?_
        refine lv_iconst (v := 5) hx hb d_Model_addEdge_186 (by decide) ?_
        refine lv_iadd hx hb d_Model_addEdge_187 ?_
        refine lv_topi (fun v_159 ev_159 => ?_)
        obtain ⟨qv_159, hv_159⟩ := zI_add (l := 5) (h := 1439) hv_19 zc_5 ev_159 (by decide)
        rw [li_5] at qv_159
        refine lv_iload hx hb d_Model_addEdge_188 (lv_at hl 2 rfl) ?_
        refine va_iast hx hb hK hP hD hS 3 0 rfl rfl (zI.inn hv_159 (by decide)) d_Model_addEdge_190 (fun H locs hP hD hS => ?_)
        obtain ⟨f_160, hf_160, gf_160, uf_160, hP, hD⟩ := z_newq_ (Q := qE) 3 hP hD rfl hf_158 (qE_v hv_159 (by decide) ⟨fun _ => ⟨by have _w := (zI_all x_17); omega, by have _w := (zI_all x_17); omega⟩, fun _ => ⟨by have _w := (zI_all x_17); omega, by have _w := (zI_all x_17); omega⟩, fun _ => ⟨by have _w := (zI_all x_17); omega, by have _w := (zI_all x_17); omega⟩⟩)
        have hP : va_P G.1 classes [(b20, .inl (G.2 0, 520, .inl b58)), (b23, .inl (G.2 0, 482, .inl b59)), (b28, .inl (G.2 0, 2, .inl f_147)), (b29, .inl (G.2 0, 2880, .inl f_160)), (b0, .inr (12, [.int b3, .ref b4, .ref b5, .ref b6, .ref b7, .int b8, .ref b9, .int b10, .int b11, .int b12, .int b13, .ref b14, .ref b15, .ref b16, .int b17, .ref b18, .ref b19, .ref b20, .ref b21, .ref b22, .ref b23, .ref b24, .ref b25, .ref b26, .ref b27, .ref b28, .ref b29, .int x_12, .ref b31, .ref b32, .int b33, .int b34, .int b35, .int b36, .ref b37, .ref b38, .ref b39, .ref b40, .ref b41, .ref b42, .ref b43, .int b44, .ref b45, .ref b46, .int b47, .ref b48, .ref b49, .ref b50, .ref b51, .ref b52, .int b53, .ref b54, .ref b55, .ref b56])), (b4, .inl (G.2 0, 503, .inl b57))] H := hP
        have hD := z_tie hP hD rfl
        refine lv_aload_n hx hb d_Model_addEdge_191 rfl (lv_at hl 6 rfl) ?_
        refine va_get (D := G.1) (ci := 12) (v := .ref b29) (C := R_Model) (T := F_Model) (N := 54) hx hb hts i_Model hown hK hP 4 rfl rfl 26 (by decide) (hts _ q1135) (fun _ h9 => h9) rfl d_Model_addEdge_192 ?_
        refine lv_iload hx hb d_Model_addEdge_195 (lv_at hl 1 rfl) ?_
        refine lv_iconst (v := 3) hx hb d_Model_addEdge_197 (by decide) ?_
        refine lv_iadd hx hb d_Model_addEdge_198 ?_
        refine lv_topi (fun v_161 ev_161 => ?_)
        obtain rfl : v_155 = v_161 := ev_155.trans ev_161.symm
        refine lv_dup2_11 hx hb d_Model_addEdge_199 rfl rfl ?_
        refine va_iald hx hb hK hP 3 0 rfl rfl (zI.inn hv_155 (by decide)) d_Model_addEdge_200 ?_
        refine lv_topi (fun v_162 ev_162 => ?_)
        have kv_162 := zQE.ld hf_160 hv_155 ev_162 (by decide)
        refine lv_iconst (v := 1) hx hb d_Model_addEdge_201 (by decide) ?_
        refine lv_iadd hx hb d_Model_addEdge_202 ?_
        refine lv_topi (fun v_163 ev_163 => ?_)
        refine va_iast hx hb hK hP hD hS 3 0 rfl rfl (zI.inn hv_155 (by decide)) d_Model_addEdge_203 (fun H locs hP hD hS => ?_)
        obtain ⟨f_164, hf_164, gf_164, uf_164, hP, hD⟩ := z_newq_ (Q := qE) 3 hP hD rfl hf_160 (qE_v hv_155 (by decide) ⟨fun _ => ⟨by have _w := (zI_all v_163); omega, by have _w := (zI_all v_163); omega⟩, fun _ => ⟨by have _w := (zI_all v_163); omega, by have _w := (zI_all v_163); omega⟩, fun _ => ⟨by have _w := (zI_all v_163); omega, by have _w := (zI_all v_163); omega⟩⟩)
        have hP : va_P G.1 classes [(b20, .inl (G.2 0, 520, .inl b58)), (b23, .inl (G.2 0, 482, .inl b59)), (b28, .inl (G.2 0, 2, .inl f_147)), (b29, .inl (G.2 0, 2880, .inl f_164)), (b0, .inr (12, [.int b3, .ref b4, .ref b5, .ref b6, .ref b7, .int b8, .ref b9, .int b10, .int b11, .int b12, .int b13, .ref b14, .ref b15, .ref b16, .int b17, .ref b18, .ref b19, .ref b20, .ref b21, .ref b22, .ref b23, .ref b24, .ref b25, .ref b26, .ref b27, .ref b28, .ref b29, .int x_12, .ref b31, .ref b32, .int b33, .int b34, .int b35, .int b36, .ref b37, .ref b38, .ref b39, .ref b40, .ref b41, .ref b42, .ref b43, .int b44, .ref b45, .ref b46, .int b47, .ref b48, .ref b49, .ref b50, .ref b51, .ref b52, .int b53, .ref b54, .ref b55, .ref b56])), (b4, .inl (G.2 0, 503, .inl b57))] H := hP
        have hD := z_tie hP hD rfl
        refine lv_aload_n hx hb d_Model_addEdge_204 rfl (lv_at hl 6 rfl) ?_
        refine va_get (D := G.1) (ci := 12) (v := .ref b29) (C := R_Model) (T := F_Model) (N := 54) hx hb hts i_Model hown hK hP 4 rfl rfl 26 (by decide) (hts _ q1135) (fun _ h9 => h9) rfl d_Model_addEdge_205 ?_
        refine lv_iload hx hb d_Model_addEdge_208 (lv_at hl 1 rfl) ?_
        refine lv_iconst (v := 4) hx hb d_Model_addEdge_210 (by decide) ?_
        refine lv_iadd hx hb d_Model_addEdge_211 ?_
        refine lv_topi (fun v_165 ev_165 => ?_)
        obtain rfl : v_157 = v_165 := ev_157.trans ev_165.symm
        refine lv_iload hx hb d_Model_addEdge_212 (lv_at hl 2 rfl) ?_
        refine lv_aload_n hx hb d_Model_addEdge_214 rfl (lv_at hl 6 rfl) ?_
        refine va_get (D := G.1) (ci := 12) (v := .ref b29) (C := R_Model) (T := F_Model) (N := 54) hx hb hts i_Model hown hK hP 4 rfl rfl 26 (by decide) (hts _ q1135) (fun _ h9 => h9) rfl d_Model_addEdge_215 ?_
        refine lv_iload hx hb d_Model_addEdge_218 (lv_at hl 1 rfl) ?_
        refine lv_iconst (v := 4) hx hb d_Model_addEdge_220 (by decide) ?_
        refine lv_iadd hx hb d_Model_addEdge_221 ?_
        refine lv_topi (fun v_166 ev_166 => ?_)
        obtain rfl : v_157 = v_166 := ev_157.trans ev_166.symm
        refine va_iald hx hb hK hP 3 0 rfl rfl (zI.inn hv_157 (by decide)) d_Model_addEdge_222 ?_
        refine lv_topi (fun v_167 ev_167 => ?_)
        have kv_167 := zQE.ld hf_164 hv_157 ev_167 (by decide)
        refine lv_icmp_ge (tgt := 231) hx hb d_Model_addEdge_223 (by decide) (fun hc_168 => ?_) (fun hc_168 => ?_)
        · have _nhc_168 := hc_168
          have ni_169 := (fa_le _ _).mp hc_168
          refine lv_aload_n hx hb d_Model_addEdge_231 rfl (lv_at hl 6 rfl) ?_
          refine va_get (D := G.1) (ci := 12) (v := .ref b29) (C := R_Model) (T := F_Model) (N := 54) hx hb hts i_Model hown hK hP 4 rfl rfl 26 (by decide) (hts _ q1135) (fun _ h9 => h9) rfl d_Model_addEdge_232 ?_
          refine lv_iload hx hb d_Model_addEdge_235 (lv_at hl 1 rfl) ?_
          refine lv_iconst (v := 4) hx hb d_Model_addEdge_237 (by decide) ?_
          refine lv_iadd hx hb d_Model_addEdge_238 ?_
          refine lv_topi (fun v_170 ev_170 => ?_)
          obtain rfl : v_157 = v_170 := ev_157.trans ev_170.symm
          refine va_iald hx hb hK hP 3 0 rfl rfl (zI.inn hv_157 (by decide)) d_Model_addEdge_239 ?_
          refine lv_topi (fun v_171 ev_171 => ?_)
          obtain rfl : v_167 = v_171 := ev_167.trans ev_171.symm
          refine va_iast hx hb hK hP hD hS 3 0 rfl rfl (zI.inn hv_157 (by decide)) d_Model_addEdge_240 (fun H locs hP hD hS => ?_)
          obtain ⟨f_172, hf_172, gf_172, uf_172, hP, hD⟩ := z_newq_ (Q := qE) 3 hP hD rfl hf_164 (qE_s kv_167 hv_157 hv_157 (by decide) (by omega))
          have hP : va_P G.1 classes [(b20, .inl (G.2 0, 520, .inl b58)), (b23, .inl (G.2 0, 482, .inl b59)), (b28, .inl (G.2 0, 2, .inl f_147)), (b29, .inl (G.2 0, 2880, .inl f_172)), (b0, .inr (12, [.int b3, .ref b4, .ref b5, .ref b6, .ref b7, .int b8, .ref b9, .int b10, .int b11, .int b12, .int b13, .ref b14, .ref b15, .ref b16, .int b17, .ref b18, .ref b19, .ref b20, .ref b21, .ref b22, .ref b23, .ref b24, .ref b25, .ref b26, .ref b27, .ref b28, .ref b29, .int x_12, .ref b31, .ref b32, .int b33, .int b34, .int b35, .int b36, .ref b37, .ref b38, .ref b39, .ref b40, .ref b41, .ref b42, .ref b43, .int b44, .ref b45, .ref b46, .int b47, .ref b48, .ref b49, .ref b50, .ref b51, .ref b52, .int b53, .ref b54, .ref b55, .ref b56])), (b4, .inl (G.2 0, 503, .inl b57))] H := hP
          have hD := z_tie hP hD rfl
          refine lv_aload_n hx hb d_Model_addEdge_241 rfl (lv_at hl 6 rfl) ?_
          refine va_get (D := G.1) (ci := 12) (v := .ref b29) (C := R_Model) (T := F_Model) (N := 54) hx hb hts i_Model hown hK hP 4 rfl rfl 26 (by decide) (hts _ q1135) (fun _ h9 => h9) rfl d_Model_addEdge_242 ?_
          refine lv_iload hx hb d_Model_addEdge_245 (lv_at hl 1 rfl) ?_
          refine lv_iconst (v := 5) hx hb d_Model_addEdge_247 (by decide) ?_
          refine lv_iadd hx hb d_Model_addEdge_248 ?_
          refine lv_topi (fun v_173 ev_173 => ?_)
          obtain rfl : v_159 = v_173 := ev_159.trans ev_173.symm
          refine lv_iload hx hb d_Model_addEdge_249 (lv_at hl 2 rfl) ?_
          refine lv_aload_n hx hb d_Model_addEdge_251 rfl (lv_at hl 6 rfl) ?_
          refine va_get (D := G.1) (ci := 12) (v := .ref b29) (C := R_Model) (T := F_Model) (N := 54) hx hb hts i_Model hown hK hP 4 rfl rfl 26 (by decide) (hts _ q1135) (fun _ h9 => h9) rfl d_Model_addEdge_252 ?_
          refine lv_iload hx hb d_Model_addEdge_255 (lv_at hl 1 rfl) ?_
          refine lv_iconst (v := 5) hx hb d_Model_addEdge_257 (by decide) ?_
          refine lv_iadd hx hb d_Model_addEdge_258 ?_
          refine lv_topi (fun v_174 ev_174 => ?_)
          obtain rfl : v_159 = v_174 := ev_159.trans ev_174.symm
          refine va_iald hx hb hK hP 3 0 rfl rfl (zI.inn hv_159 (by decide)) d_Model_addEdge_259 ?_
          refine lv_topi (fun v_175 ev_175 => ?_)
          have kv_175 := zQE.ld hf_172 hv_159 ev_175 (by decide)
          refine lv_icmp_le (tgt := 268) hx hb d_Model_addEdge_260 (by decide) (fun hc_176 => ?_) (fun hc_176 => ?_)
          · have _nhc_176 := hc_176
            have ni_177 := (fa_le _ _).mp hc_176
            refine lv_aload_n hx hb d_Model_addEdge_268 rfl (lv_at hl 6 rfl) ?_
            refine va_get (D := G.1) (ci := 12) (v := .ref b29) (C := R_Model) (T := F_Model) (N := 54) hx hb hts i_Model hown hK hP 4 rfl rfl 26 (by decide) (hts _ q1135) (fun _ h9 => h9) rfl d_Model_addEdge_269 ?_
            refine lv_iload hx hb d_Model_addEdge_272 (lv_at hl 1 rfl) ?_
            refine lv_iconst (v := 5) hx hb d_Model_addEdge_274 (by decide) ?_
            refine lv_iadd hx hb d_Model_addEdge_275 ?_
            refine lv_topi (fun v_178 ev_178 => ?_)
            obtain rfl : v_159 = v_178 := ev_159.trans ev_178.symm
            refine va_iald hx hb hK hP 3 0 rfl rfl (zI.inn hv_159 (by decide)) d_Model_addEdge_276 ?_
            refine lv_topi (fun v_179 ev_179 => ?_)
            obtain rfl : v_175 = v_179 := ev_175.trans ev_179.symm
            refine va_iast hx hb hK hP hD hS 3 0 rfl rfl (zI.inn hv_159 (by decide)) d_Model_addEdge_277 (fun H locs hP hD hS => ?_)
            obtain ⟨f_180, hf_180, gf_180, uf_180, hP, hD⟩ := z_newq_ (Q := qE) 3 hP hD rfl hf_172 (qE_s kv_175 hv_159 hv_159 (by decide) (by omega))
            have hP : va_P G.1 classes [(b20, .inl (G.2 0, 520, .inl b58)), (b23, .inl (G.2 0, 482, .inl b59)), (b28, .inl (G.2 0, 2, .inl f_147)), (b29, .inl (G.2 0, 2880, .inl f_180)), (b0, .inr (12, [.int b3, .ref b4, .ref b5, .ref b6, .ref b7, .int b8, .ref b9, .int b10, .int b11, .int b12, .int b13, .ref b14, .ref b15, .ref b16, .int b17, .ref b18, .ref b19, .ref b20, .ref b21, .ref b22, .ref b23, .ref b24, .ref b25, .ref b26, .ref b27, .ref b28, .ref b29, .int x_12, .ref b31, .ref b32, .int b33, .int b34, .int b35, .int b36, .ref b37, .ref b38, .ref b39, .ref b40, .ref b41, .ref b42, .ref b43, .int b44, .ref b45, .ref b46, .int b47, .ref b48, .ref b49, .ref b50, .ref b51, .ref b52, .int b53, .ref b54, .ref b55, .ref b56])), (b4, .inl (G.2 0, 503, .inl b57))] H := hP
            have hD := z_tie hP hD rfl
            exact z_vret hx hb hr hlocks (hP.sub [4, 5, 0, 1, 2, 3] rfl) (hD.sub [4, 5, 0, 1, 2, 3] (by decide) rfl) hS (Nat.le_of_ble_eq_true rfl) (Nat.le_of_ble_eq_true rfl) d_Model_addEdge_278 ⟨x_12, f_147, f_180, rfl, rfl, (zI.wk (l' := 0) (h' := 1) hv_64 (by decide)), hf_147, hf_180, (by rw [gf_147, ← ev_65]; omega), (fun hub => by have hfr9 : zst b59 b58 b1.toInt.toNat b2.toInt.toNat = x_2.toInt := (by unfold zst; rw [← hfx_3]); have hto9 : zst b59 b58 b1.toInt.toNat (b2.toInt + 1).toNat = x_6.toInt := (by unfold zst; have h8 := hfx_7; rw [h8]; congr 4; omega); have hv9 : v_162.toInt = 0 := (by rw [ev_162, uf_160, z_at, if_neg (by have p9 := z_pl hv_155 (by decide); have p8 := z_pl hv_159 (by decide); omega), uf_158, z_at, if_neg (by have p9 := z_pl hv_155 (by decide); have p8 := z_pl hv_157 (by decide); omega), gf_156]; exact li_0); rw [hfr9, hto9, gf_147, (by have h8 := ev_65; have h7 : v_65.toInt = (b60 (0 : Int32).toNatClampNeg).toInt := (by rw [h8]); omega : (v_146.toInt).toNat = (b60 (0 : Int32).toNatClampNeg).toInt.toNat + 1)]; exact zadd_ins (e := x_11.toInt.toNat) (n := (b60 (0 : Int32).toNatClampNeg).toInt.toNat) (y := y_139) (f6 := f_160) (v := v_162) (by omega) (fun q => by rw [hli_140 q]; by_cases h7 : 6 * x_11.toInt.toNat + 5 < q ∧ q < 6 * (b60 (0 : Int32).toNatClampNeg).toInt.toNat + 6; rw [if_pos h7, if_pos (by omega)]; rw [if_neg h7, if_neg (by omega)]) (by rw [uf_160, uf_158, uf_156, uf_154, uf_152, uf_148]) (by rw [uf_180, uf_172, uf_164]) (by have p9 := z_pl hv_19 (by decide); omega) (by have p9 := z_pl hv_149 (by decide); omega) (by have p9 := z_pl hv_153 (by decide); omega) (by have p9 := z_pl hv_155 (by decide); omega) (by have p9 := z_pl hv_157 (by decide); omega) (by have p9 := z_pl hv_159 (by decide); omega) (by have p9 := z_pl hv_155 (by decide); omega) (by have p9 := z_pl hv_157 (by decide); omega) (by have p9 := z_pl hv_159 (by decide); omega) li_0 ev_162 (by have h7 := z_addq ev_163 (by have := hv9; have _l := li_1; omega); rw [h7, li_1]))⟩
          · have _nhc_176 := hc_176
            have ni_181 := (fa_lt _ _).mp (zi_nle hc_176)
            have hv_182 : zI v_175 (-2147483648) 2147483646 := zI.lt_l (zI_all v_175) (zI_all x_17) (zi_nle hc_176) (by decide)
            have hv_183 : zI x_17 (-2147483647) 2147483647 := zI.lt_r (zI_all v_175) (zI_all x_17) (zi_nle hc_176) (by decide)
            refine lv_iload hx hb d_Model_addEdge_263 (lv_at hl 2 rfl) ?_
            refine lv_goto (tgt := 277) hx hb d_Model_addEdge_265 (by decide) ?_
            refine va_iast hx hb hK hP hD hS 3 0 rfl rfl (zI.inn hv_159 (by decide)) d_Model_addEdge_277 (fun H locs hP hD hS => ?_)
            obtain ⟨f_184, hf_184, gf_184, uf_184, hP, hD⟩ := z_newq_ (Q := qE) 3 hP hD rfl hf_172 (qE_v hv_159 (by decide) ⟨fun _ => ⟨by have _w := hv_183; omega, by have _w := hv_183; omega⟩, fun _ => ⟨by have _w := hv_183; omega, by have _w := hv_183; omega⟩, fun _ => ⟨by have _w := hv_183; omega, by have _w := hv_183; omega⟩⟩)
            have hP : va_P G.1 classes [(b20, .inl (G.2 0, 520, .inl b58)), (b23, .inl (G.2 0, 482, .inl b59)), (b28, .inl (G.2 0, 2, .inl f_147)), (b29, .inl (G.2 0, 2880, .inl f_184)), (b0, .inr (12, [.int b3, .ref b4, .ref b5, .ref b6, .ref b7, .int b8, .ref b9, .int b10, .int b11, .int b12, .int b13, .ref b14, .ref b15, .ref b16, .int b17, .ref b18, .ref b19, .ref b20, .ref b21, .ref b22, .ref b23, .ref b24, .ref b25, .ref b26, .ref b27, .ref b28, .ref b29, .int x_12, .ref b31, .ref b32, .int b33, .int b34, .int b35, .int b36, .ref b37, .ref b38, .ref b39, .ref b40, .ref b41, .ref b42, .ref b43, .int b44, .ref b45, .ref b46, .int b47, .ref b48, .ref b49, .ref b50, .ref b51, .ref b52, .int b53, .ref b54, .ref b55, .ref b56])), (b4, .inl (G.2 0, 503, .inl b57))] H := hP
            have hD := z_tie hP hD rfl
            exact z_vret hx hb hr hlocks (hP.sub [4, 5, 0, 1, 2, 3] rfl) (hD.sub [4, 5, 0, 1, 2, 3] (by decide) rfl) hS (Nat.le_of_ble_eq_true rfl) (Nat.le_of_ble_eq_true rfl) d_Model_addEdge_278 ⟨x_12, f_147, f_184, rfl, rfl, (zI.wk (l' := 0) (h' := 1) hv_64 (by decide)), hf_147, hf_184, (by rw [gf_147, ← ev_65]; omega), (fun hub => by have hfr9 : zst b59 b58 b1.toInt.toNat b2.toInt.toNat = x_2.toInt := (by unfold zst; rw [← hfx_3]); have hto9 : zst b59 b58 b1.toInt.toNat (b2.toInt + 1).toNat = x_6.toInt := (by unfold zst; have h8 := hfx_7; rw [h8]; congr 4; omega); have hv9 : v_162.toInt = 0 := (by rw [ev_162, uf_160, z_at, if_neg (by have p9 := z_pl hv_155 (by decide); have p8 := z_pl hv_159 (by decide); omega), uf_158, z_at, if_neg (by have p9 := z_pl hv_155 (by decide); have p8 := z_pl hv_157 (by decide); omega), gf_156]; exact li_0); rw [hfr9, hto9, gf_147, (by have h8 := ev_65; have h7 : v_65.toInt = (b60 (0 : Int32).toNatClampNeg).toInt := (by rw [h8]); omega : (v_146.toInt).toNat = (b60 (0 : Int32).toNatClampNeg).toInt.toNat + 1)]; exact zadd_ins (e := x_11.toInt.toNat) (n := (b60 (0 : Int32).toNatClampNeg).toInt.toNat) (y := y_139) (f6 := f_160) (v := v_162) (by omega) (fun q => by rw [hli_140 q]; by_cases h7 : 6 * x_11.toInt.toNat + 5 < q ∧ q < 6 * (b60 (0 : Int32).toNatClampNeg).toInt.toNat + 6; rw [if_pos h7, if_pos (by omega)]; rw [if_neg h7, if_neg (by omega)]) (by rw [uf_160, uf_158, uf_156, uf_154, uf_152, uf_148]) (by rw [uf_184, uf_172, uf_164]) (by have p9 := z_pl hv_19 (by decide); omega) (by have p9 := z_pl hv_149 (by decide); omega) (by have p9 := z_pl hv_153 (by decide); omega) (by have p9 := z_pl hv_155 (by decide); omega) (by have p9 := z_pl hv_157 (by decide); omega) (by have p9 := z_pl hv_159 (by decide); omega) (by have p9 := z_pl hv_155 (by decide); omega) (by have p9 := z_pl hv_157 (by decide); omega) (by have p9 := z_pl hv_159 (by decide); omega) li_0 ev_162 (by have h7 := z_addq ev_163 (by have := hv9; have _l := li_1; omega); rw [h7, li_1]))⟩
        · have _nhc_168 := hc_168
          have ni_185 := (fa_lt _ _).mp (zi_nle hc_168)
          have hv_186 : zI x_17 (-2147483648) 2147483646 := zI.lt_l (zI_all x_17) (zI_all v_167) (zi_nle hc_168) (by decide)
          have hv_187 : zI v_167 (-2147483647) 2147483647 := zI.lt_r (zI_all x_17) (zI_all v_167) (zi_nle hc_168) (by decide)
          refine lv_iload hx hb d_Model_addEdge_226 (lv_at hl 2 rfl) ?_
          refine lv_goto (tgt := 240) hx hb d_Model_addEdge_228 (by decide) ?_
          refine va_iast hx hb hK hP hD hS 3 0 rfl rfl (zI.inn hv_157 (by decide)) d_Model_addEdge_240 (fun H locs hP hD hS => ?_)
          obtain ⟨f_188, hf_188, gf_188, uf_188, hP, hD⟩ := z_newq_ (Q := qE) 3 hP hD rfl hf_164 (qE_v hv_157 (by decide) ⟨fun _ => ⟨by have _w := hv_186; omega, by have _w := hv_186; omega⟩, fun _ => ⟨by have _w := hv_186; omega, by have _w := hv_186; omega⟩, fun _ => ⟨by have _w := hv_186; omega, by have _w := hv_186; omega⟩⟩)
          have hP : va_P G.1 classes [(b20, .inl (G.2 0, 520, .inl b58)), (b23, .inl (G.2 0, 482, .inl b59)), (b28, .inl (G.2 0, 2, .inl f_147)), (b29, .inl (G.2 0, 2880, .inl f_188)), (b0, .inr (12, [.int b3, .ref b4, .ref b5, .ref b6, .ref b7, .int b8, .ref b9, .int b10, .int b11, .int b12, .int b13, .ref b14, .ref b15, .ref b16, .int b17, .ref b18, .ref b19, .ref b20, .ref b21, .ref b22, .ref b23, .ref b24, .ref b25, .ref b26, .ref b27, .ref b28, .ref b29, .int x_12, .ref b31, .ref b32, .int b33, .int b34, .int b35, .int b36, .ref b37, .ref b38, .ref b39, .ref b40, .ref b41, .ref b42, .ref b43, .int b44, .ref b45, .ref b46, .int b47, .ref b48, .ref b49, .ref b50, .ref b51, .ref b52, .int b53, .ref b54, .ref b55, .ref b56])), (b4, .inl (G.2 0, 503, .inl b57))] H := hP
          have hD := z_tie hP hD rfl
          refine lv_aload_n hx hb d_Model_addEdge_241 rfl (lv_at hl 6 rfl) ?_
          refine va_get (D := G.1) (ci := 12) (v := .ref b29) (C := R_Model) (T := F_Model) (N := 54) hx hb hts i_Model hown hK hP 4 rfl rfl 26 (by decide) (hts _ q1135) (fun _ h9 => h9) rfl d_Model_addEdge_242 ?_
          refine lv_iload hx hb d_Model_addEdge_245 (lv_at hl 1 rfl) ?_
          refine lv_iconst (v := 5) hx hb d_Model_addEdge_247 (by decide) ?_
          refine lv_iadd hx hb d_Model_addEdge_248 ?_
          refine lv_topi (fun v_189 ev_189 => ?_)
          obtain rfl : v_159 = v_189 := ev_159.trans ev_189.symm
          refine lv_iload hx hb d_Model_addEdge_249 (lv_at hl 2 rfl) ?_
          refine lv_aload_n hx hb d_Model_addEdge_251 rfl (lv_at hl 6 rfl) ?_
          refine va_get (D := G.1) (ci := 12) (v := .ref b29) (C := R_Model) (T := F_Model) (N := 54) hx hb hts i_Model hown hK hP 4 rfl rfl 26 (by decide) (hts _ q1135) (fun _ h9 => h9) rfl d_Model_addEdge_252 ?_
          refine lv_iload hx hb d_Model_addEdge_255 (lv_at hl 1 rfl) ?_
          refine lv_iconst (v := 5) hx hb d_Model_addEdge_257 (by decide) ?_
          refine lv_iadd hx hb d_Model_addEdge_258 ?_
          refine lv_topi (fun v_190 ev_190 => ?_)
          obtain rfl : v_159 = v_190 := ev_159.trans ev_190.symm
          refine va_iald hx hb hK hP 3 0 rfl rfl (zI.inn hv_159 (by decide)) d_Model_addEdge_259 ?_
          refine lv_topi (fun v_191 ev_191 => ?_)
          have kv_191 := zQE.ld hf_188 hv_159 ev_191 (by decide)
          refine lv_icmp_le (tgt := 268) hx hb d_Model_addEdge_260 (by decide) (fun hc_192 => ?_) (fun hc_192 => ?_)
          · have _nhc_192 := hc_192
            have ni_193 := (fa_le _ _).mp hc_192
            refine lv_aload_n hx hb d_Model_addEdge_268 rfl (lv_at hl 6 rfl) ?_
            refine va_get (D := G.1) (ci := 12) (v := .ref b29) (C := R_Model) (T := F_Model) (N := 54) hx hb hts i_Model hown hK hP 4 rfl rfl 26 (by decide) (hts _ q1135) (fun _ h9 => h9) rfl d_Model_addEdge_269 ?_
            refine lv_iload hx hb d_Model_addEdge_272 (lv_at hl 1 rfl) ?_
            refine lv_iconst (v := 5) hx hb d_Model_addEdge_274 (by decide) ?_
            refine lv_iadd hx hb d_Model_addEdge_275 ?_
            refine lv_topi (fun v_194 ev_194 => ?_)
            obtain rfl : v_159 = v_194 := ev_159.trans ev_194.symm
            refine va_iald hx hb hK hP 3 0 rfl rfl (zI.inn hv_159 (by decide)) d_Model_addEdge_276 ?_
            refine lv_topi (fun v_195 ev_195 => ?_)
            obtain rfl : v_191 = v_195 := ev_191.trans ev_195.symm
            refine va_iast hx hb hK hP hD hS 3 0 rfl rfl (zI.inn hv_159 (by decide)) d_Model_addEdge_277 (fun H locs hP hD hS => ?_)
            obtain ⟨f_196, hf_196, gf_196, uf_196, hP, hD⟩ := z_newq_ (Q := qE) 3 hP hD rfl hf_188 (qE_s kv_191 hv_159 hv_159 (by decide) (by omega))
            have hP : va_P G.1 classes [(b20, .inl (G.2 0, 520, .inl b58)), (b23, .inl (G.2 0, 482, .inl b59)), (b28, .inl (G.2 0, 2, .inl f_147)), (b29, .inl (G.2 0, 2880, .inl f_196)), (b0, .inr (12, [.int b3, .ref b4, .ref b5, .ref b6, .ref b7, .int b8, .ref b9, .int b10, .int b11, .int b12, .int b13, .ref b14, .ref b15, .ref b16, .int b17, .ref b18, .ref b19, .ref b20, .ref b21, .ref b22, .ref b23, .ref b24, .ref b25, .ref b26, .ref b27, .ref b28, .ref b29, .int x_12, .ref b31, .ref b32, .int b33, .int b34, .int b35, .int b36, .ref b37, .ref b38, .ref b39, .ref b40, .ref b41, .ref b42, .ref b43, .int b44, .ref b45, .ref b46, .int b47, .ref b48, .ref b49, .ref b50, .ref b51, .ref b52, .int b53, .ref b54, .ref b55, .ref b56])), (b4, .inl (G.2 0, 503, .inl b57))] H := hP
            have hD := z_tie hP hD rfl
            exact z_vret hx hb hr hlocks (hP.sub [4, 5, 0, 1, 2, 3] rfl) (hD.sub [4, 5, 0, 1, 2, 3] (by decide) rfl) hS (Nat.le_of_ble_eq_true rfl) (Nat.le_of_ble_eq_true rfl) d_Model_addEdge_278 ⟨x_12, f_147, f_196, rfl, rfl, (zI.wk (l' := 0) (h' := 1) hv_64 (by decide)), hf_147, hf_196, (by rw [gf_147, ← ev_65]; omega), (fun hub => by have hfr9 : zst b59 b58 b1.toInt.toNat b2.toInt.toNat = x_2.toInt := (by unfold zst; rw [← hfx_3]); have hto9 : zst b59 b58 b1.toInt.toNat (b2.toInt + 1).toNat = x_6.toInt := (by unfold zst; have h8 := hfx_7; rw [h8]; congr 4; omega); have hv9 : v_162.toInt = 0 := (by rw [ev_162, uf_160, z_at, if_neg (by have p9 := z_pl hv_155 (by decide); have p8 := z_pl hv_159 (by decide); omega), uf_158, z_at, if_neg (by have p9 := z_pl hv_155 (by decide); have p8 := z_pl hv_157 (by decide); omega), gf_156]; exact li_0); rw [hfr9, hto9, gf_147, (by have h8 := ev_65; have h7 : v_65.toInt = (b60 (0 : Int32).toNatClampNeg).toInt := (by rw [h8]); omega : (v_146.toInt).toNat = (b60 (0 : Int32).toNatClampNeg).toInt.toNat + 1)]; exact zadd_ins (e := x_11.toInt.toNat) (n := (b60 (0 : Int32).toNatClampNeg).toInt.toNat) (y := y_139) (f6 := f_160) (v := v_162) (by omega) (fun q => by rw [hli_140 q]; by_cases h7 : 6 * x_11.toInt.toNat + 5 < q ∧ q < 6 * (b60 (0 : Int32).toNatClampNeg).toInt.toNat + 6; rw [if_pos h7, if_pos (by omega)]; rw [if_neg h7, if_neg (by omega)]) (by rw [uf_160, uf_158, uf_156, uf_154, uf_152, uf_148]) (by rw [uf_196, uf_188, uf_164]) (by have p9 := z_pl hv_19 (by decide); omega) (by have p9 := z_pl hv_149 (by decide); omega) (by have p9 := z_pl hv_153 (by decide); omega) (by have p9 := z_pl hv_155 (by decide); omega) (by have p9 := z_pl hv_157 (by decide); omega) (by have p9 := z_pl hv_159 (by decide); omega) (by have p9 := z_pl hv_155 (by decide); omega) (by have p9 := z_pl hv_157 (by decide); omega) (by have p9 := z_pl hv_159 (by decide); omega) li_0 ev_162 (by have h7 := z_addq ev_163 (by have := hv9; have _l := li_1; omega); rw [h7, li_1]))⟩
          · have _nhc_192 := hc_192
            have ni_197 := (fa_lt _ _).mp (zi_nle hc_192)
            have hv_198 : zI v_191 (-2147483648) 2147483645 := zI.lt_l (zI_all v_191) hv_186 (zi_nle hc_192) (by decide)
            have hv_199 : zI x_17 (-2147483647) 2147483646 := zI.lt_r (zI_all v_191) hv_186 (zi_nle hc_192) (by decide)
            refine lv_iload hx hb d_Model_addEdge_263 (lv_at hl 2 rfl) ?_
            refine lv_goto (tgt := 277) hx hb d_Model_addEdge_265 (by decide) ?_
            refine va_iast hx hb hK hP hD hS 3 0 rfl rfl (zI.inn hv_159 (by decide)) d_Model_addEdge_277 (fun H locs hP hD hS => ?_)
            obtain ⟨f_200, hf_200, gf_200, uf_200, hP, hD⟩ := z_newq_ (Q := qE) 3 hP hD rfl hf_188 (qE_v hv_159 (by decide) ⟨fun _ => ⟨by have _w := hv_199; omega, by have _w := hv_199; omega⟩, fun _ => ⟨by have _w := hv_199; omega, by have _w := hv_199; omega⟩, fun _ => ⟨by have _w := hv_199; omega, by have _w := hv_199; omega⟩⟩)
            have hP : va_P G.1 classes [(b20, .inl (G.2 0, 520, .inl b58)), (b23, .inl (G.2 0, 482, .inl b59)), (b28, .inl (G.2 0, 2, .inl f_147)), (b29, .inl (G.2 0, 2880, .inl f_200)), (b0, .inr (12, [.int b3, .ref b4, .ref b5, .ref b6, .ref b7, .int b8, .ref b9, .int b10, .int b11, .int b12, .int b13, .ref b14, .ref b15, .ref b16, .int b17, .ref b18, .ref b19, .ref b20, .ref b21, .ref b22, .ref b23, .ref b24, .ref b25, .ref b26, .ref b27, .ref b28, .ref b29, .int x_12, .ref b31, .ref b32, .int b33, .int b34, .int b35, .int b36, .ref b37, .ref b38, .ref b39, .ref b40, .ref b41, .ref b42, .ref b43, .int b44, .ref b45, .ref b46, .int b47, .ref b48, .ref b49, .ref b50, .ref b51, .ref b52, .int b53, .ref b54, .ref b55, .ref b56])), (b4, .inl (G.2 0, 503, .inl b57))] H := hP
            have hD := z_tie hP hD rfl
            exact z_vret hx hb hr hlocks (hP.sub [4, 5, 0, 1, 2, 3] rfl) (hD.sub [4, 5, 0, 1, 2, 3] (by decide) rfl) hS (Nat.le_of_ble_eq_true rfl) (Nat.le_of_ble_eq_true rfl) d_Model_addEdge_278 ⟨x_12, f_147, f_200, rfl, rfl, (zI.wk (l' := 0) (h' := 1) hv_64 (by decide)), hf_147, hf_200, (by rw [gf_147, ← ev_65]; omega), (fun hub => by have hfr9 : zst b59 b58 b1.toInt.toNat b2.toInt.toNat = x_2.toInt := (by unfold zst; rw [← hfx_3]); have hto9 : zst b59 b58 b1.toInt.toNat (b2.toInt + 1).toNat = x_6.toInt := (by unfold zst; have h8 := hfx_7; rw [h8]; congr 4; omega); have hv9 : v_162.toInt = 0 := (by rw [ev_162, uf_160, z_at, if_neg (by have p9 := z_pl hv_155 (by decide); have p8 := z_pl hv_159 (by decide); omega), uf_158, z_at, if_neg (by have p9 := z_pl hv_155 (by decide); have p8 := z_pl hv_157 (by decide); omega), gf_156]; exact li_0); rw [hfr9, hto9, gf_147, (by have h8 := ev_65; have h7 : v_65.toInt = (b60 (0 : Int32).toNatClampNeg).toInt := (by rw [h8]); omega : (v_146.toInt).toNat = (b60 (0 : Int32).toNatClampNeg).toInt.toNat + 1)]; exact zadd_ins (e := x_11.toInt.toNat) (n := (b60 (0 : Int32).toNatClampNeg).toInt.toNat) (y := y_139) (f6 := f_160) (v := v_162) (by omega) (fun q => by rw [hli_140 q]; by_cases h7 : 6 * x_11.toInt.toNat + 5 < q ∧ q < 6 * (b60 (0 : Int32).toNatClampNeg).toInt.toNat + 6; rw [if_pos h7, if_pos (by omega)]; rw [if_neg h7, if_neg (by omega)]) (by rw [uf_160, uf_158, uf_156, uf_154, uf_152, uf_148]) (by rw [uf_200, uf_188, uf_164]) (by have p9 := z_pl hv_19 (by decide); omega) (by have p9 := z_pl hv_149 (by decide); omega) (by have p9 := z_pl hv_153 (by decide); omega) (by have p9 := z_pl hv_155 (by decide); omega) (by have p9 := z_pl hv_157 (by decide); omega) (by have p9 := z_pl hv_159 (by decide); omega) (by have p9 := z_pl hv_155 (by decide); omega) (by have p9 := z_pl hv_157 (by decide); omega) (by have p9 := z_pl hv_159 (by decide); omega) li_0 ev_162 (by have h7 := z_addq ev_163 (by have := hv9; have _l := li_1; omega); rw [h7, li_1]))⟩
      · have _nhc_143 := hc_143
        have ni_201 := (fa_le _ _).mp (zi_nlt hc_143)
        have hv_202 : zI v_19 0 1433 := zI.le_l hv_19 hy_138 (zi_nlt hc_143) (by decide)
        have hv_203 : zI y_138 0 1433 := zI.le_r hv_19 hy_138 (zi_nlt hc_143) (by decide)
        refine lv_aload_n hx hb d_Model_addEdge_91 rfl (lv_at hl 6 rfl) ?_
        refine va_get (D := G.1) (ci := 12) (v := .ref b29) (C := R_Model) (T := F_Model) (N := 54) hx hb hts i_Model hown hK hP 4 rfl rfl 26 (by decide) (hts _ q1135) (fun _ h9 => h9) rfl d_Model_addEdge_92 ?_
        refine lv_iload hx hb d_Model_addEdge_95 (lv_at hl 0 rfl) ?_
        refine lv_bipush (v := 6) hx hb d_Model_addEdge_97 (by decide) ?_
        refine lv_iadd hx hb d_Model_addEdge_99 ?_
        refine lv_topi (fun v_204 ev_204 => ?_)
        obtain ⟨qv_204, hv_204⟩ := zI_add (l := 6) (h := 1439) hv_203 zc_6 ev_204 (by decide)
        rw [li_6] at qv_204
        refine lv_aload_n hx hb d_Model_addEdge_100 rfl (lv_at hl 6 rfl) ?_
        refine va_get (D := G.1) (ci := 12) (v := .ref b29) (C := R_Model) (T := F_Model) (N := 54) hx hb hts i_Model hown hK hP 4 rfl rfl 26 (by decide) (hts _ q1135) (fun _ h9 => h9) rfl d_Model_addEdge_101 ?_
        refine lv_iload hx hb d_Model_addEdge_104 (lv_at hl 0 rfl) ?_
        refine va_iald hx hb hK hP 3 0 rfl rfl (zI.inn hv_203 (by decide)) d_Model_addEdge_106 ?_
        refine lv_topi (fun v_205 ev_205 => ?_)
        have kv_205 := zQE.ld hy_139 hv_203 ev_205 (by decide)
        refine va_iast hx hb hK hP hD hS 3 0 rfl rfl (zI.inn hv_204 (by decide)) d_Model_addEdge_107 (fun H locs hP hD hS => ?_)
        obtain ⟨f_206, hf_206, gf_206, uf_206, hP, hD⟩ := z_newq_ (Q := qE) 3 hP hD rfl hy_139 (qE_s kv_205 hv_203 hv_204 (by decide) (by omega))
        have hP : va_P G.1 classes [(b20, .inl (G.2 0, 520, .inl b58)), (b23, .inl (G.2 0, 482, .inl b59)), (b28, .inl (G.2 0, 2, .inl b60)), (b29, .inl (G.2 0, 2880, .inl f_206)), (b0, .inr (12, [.int b3, .ref b4, .ref b5, .ref b6, .ref b7, .int b8, .ref b9, .int b10, .int b11, .int b12, .int b13, .ref b14, .ref b15, .ref b16, .int b17, .ref b18, .ref b19, .ref b20, .ref b21, .ref b22, .ref b23, .ref b24, .ref b25, .ref b26, .ref b27, .ref b28, .ref b29, .int x_12, .ref b31, .ref b32, .int b33, .int b34, .int b35, .int b36, .ref b37, .ref b38, .ref b39, .ref b40, .ref b41, .ref b42, .ref b43, .int b44, .ref b45, .ref b46, .int b47, .ref b48, .ref b49, .ref b50, .ref b51, .ref b52, .int b53, .ref b54, .ref b55, .ref b56])), (b4, .inl (G.2 0, 503, .inl b57))] H := hP
        have hD := z_tie hP hD rfl
        obtain ⟨v_207, ev_207⟩ : ∃ z : Int32, z = y_138 + (-1) := ⟨_, rfl⟩
        obtain ⟨qv_207, hv_207⟩ := zI_add (l := -1) (h := 1432) hv_203 zc_m1 ev_207 (by decide)
        rw [li_m1] at qv_207
        refine lv_iinc (v := v_207) (lv' := [(9, .int v_207), (8, .int v_19), (7, .int x_17), (6, .int x_11), (5, .int x_6), (4, .int x_2), (0, .ref b0), (1, .int 0), (2, .int b1), (3, .int b2)]) hx hb d_Model_addEdge_108 hl (k := 0) rfl (by rw [ev_207]; rfl) (by decide) rfl (fun ls hl => ?_)
        refine lv_goto (tgt := 84) hx hb d_Model_addEdge_111 (by decide) ?_
        exact ihk_137 (v_207) (f_206) _ _ _ (zI.wk (l' := (-1)) (h' := 1433) hv_207 (by decide)) hf_206 (by have p9 := z_pl hv_204 (by decide); have p8 := z_pl hv_203 (by decide); intro q; rw [uf_206, z_at]; by_cases h9 : q = v_204.toNatClampNeg; rw [if_pos h9, ev_205, hli_140, if_neg (by omega), if_pos (by omega)]; congr 1; omega; rw [if_neg h9, hli_140]; by_cases h8 : (y_138.toInt + 6 < (q : Int) ∧ (q : Int) < 6 * (b60 (0 : Int32).toNatClampNeg).toInt + 6); rw [if_pos h8, if_pos (by omega)]; rw [if_neg h8, if_neg (by omega)]) (by omega) (by have h9 := hli_142; omega) (zm_dn qv_207 hmk_137 (by decide)) hP hD hS (lv_sub hl [0, 1, 2, 3, 4, 5, 6, 7, 8, 9] rfl)
theorem d_Model_lay2_0 : decode prog_14_method_35_code 0 = .ok (.aload_n 0, 1) := by decide +kernel
theorem d_Model_lay2_1 : decode prog_14_method_35_code 1 = .ok (.iload_n 1, 1) := by decide +kernel
theorem d_Model_lay2_2 : decode prog_14_method_35_code 2 = .ok (.iload_n 3, 1) := by decide +kernel
theorem d_Model_lay2_3 : decode prog_14_method_35_code 3 = .ok (.invokevirtual 241, 3) := by decide +kernel
theorem d_Model_lay2_6 : decode prog_14_method_35_code 6 = .ok (.iconst 0, 1) := by decide +kernel
theorem d_Model_lay2_7 : decode prog_14_method_35_code 7 = .ok (.istore 4, 2) := by decide +kernel
theorem d_Model_lay2_9 : decode prog_14_method_35_code 9 = .ok (.iload 4, 2) := by decide +kernel
theorem d_Model_lay2_11 : decode prog_14_method_35_code 11 = .ok (.aload_n 0, 1) := by decide +kernel
theorem d_Model_lay2_12 : decode prog_14_method_35_code 12 = .ok (.getfield 40, 3) := by decide +kernel
theorem d_Model_lay2_15 : decode prog_14_method_35_code 15 = .ok (.iload_n 1, 1) := by decide +kernel
theorem d_Model_lay2_16 : decode prog_14_method_35_code 16 = .ok (.iaload, 1) := by decide +kernel
theorem d_Model_lay2_17 : decode prog_14_method_35_code 17 = .ok (.if_icmp .ge 23, 3) := by decide +kernel
theorem d_Model_lay2_20 : decode prog_14_method_35_code 20 = .ok (.aload_n 0, 1) := by decide +kernel
theorem d_Model_lay2_21 : decode prog_14_method_35_code 21 = .ok (.getfield 52, 3) := by decide +kernel
theorem d_Model_lay2_24 : decode prog_14_method_35_code 24 = .ok (.sipush 241, 3) := by decide +kernel
theorem d_Model_lay2_27 : decode prog_14_method_35_code 27 = .ok (.iload_n 1, 1) := by decide +kernel
theorem d_Model_lay2_28 : decode prog_14_method_35_code 28 = .ok (.imul, 1) := by decide +kernel
theorem d_Model_lay2_29 : decode prog_14_method_35_code 29 = .ok (.iload 4, 2) := by decide +kernel
theorem d_Model_lay2_31 : decode prog_14_method_35_code 31 = .ok (.iadd, 1) := by decide +kernel
theorem d_Model_lay2_32 : decode prog_14_method_35_code 32 = .ok (.iconst 0, 1) := by decide +kernel
theorem d_Model_lay2_33 : decode prog_14_method_35_code 33 = .ok (.iastore, 1) := by decide +kernel
theorem d_Model_lay2_34 : decode prog_14_method_35_code 34 = .ok (.iinc 4 1, 3) := by decide +kernel
theorem d_Model_lay2_37 : decode prog_14_method_35_code 37 = .ok (.goto (-28), 3) := by decide +kernel
theorem d_Model_lay2_40 : decode prog_14_method_35_code 40 = .ok (.aload_n 0, 1) := by decide +kernel
theorem d_Model_lay2_41 : decode prog_14_method_35_code 41 = .ok (.iload_n 1, 1) := by decide +kernel
theorem d_Model_lay2_42 : decode prog_14_method_35_code 42 = .ok (.iload_n 2, 1) := by decide +kernel
theorem d_Model_lay2_43 : decode prog_14_method_35_code 43 = .ok (.iload_n 3, 1) := by decide +kernel
theorem d_Model_lay2_44 : decode prog_14_method_35_code 44 = .ok (.invokevirtual 244, 3) := by decide +kernel
theorem d_Model_lay2_47 : decode prog_14_method_35_code 47 = .ok (.aload_n 0, 1) := by decide +kernel
theorem d_Model_lay2_48 : decode prog_14_method_35_code 48 = .ok (.getfield 70, 3) := by decide +kernel
theorem d_Model_lay2_51 : decode prog_14_method_35_code 51 = .ok (.iload_n 1, 1) := by decide +kernel
theorem d_Model_lay2_52 : decode prog_14_method_35_code 52 = .ok (.iconst 0, 1) := by decide +kernel
theorem d_Model_lay2_53 : decode prog_14_method_35_code 53 = .ok (.iastore, 1) := by decide +kernel
theorem d_Model_lay2_54 : decode prog_14_method_35_code 54 = .ok (.iconst 0, 1) := by decide +kernel
theorem d_Model_lay2_55 : decode prog_14_method_35_code 55 = .ok (.istore 4, 2) := by decide +kernel
theorem d_Model_lay2_57 : decode prog_14_method_35_code 57 = .ok (.iload 4, 2) := by decide +kernel
theorem d_Model_lay2_59 : decode prog_14_method_35_code 59 = .ok (.aload_n 0, 1) := by decide +kernel
theorem d_Model_lay2_60 : decode prog_14_method_35_code 60 = .ok (.invokevirtual 134, 3) := by decide +kernel
theorem d_Model_lay2_63 : decode prog_14_method_35_code 63 = .ok (.if_icmp .ge 72, 3) := by decide +kernel
theorem d_Model_lay2_66 : decode prog_14_method_35_code 66 = .ok (.iload 4, 2) := by decide +kernel
theorem d_Model_lay2_68 : decode prog_14_method_35_code 68 = .ok (.iload_n 3, 1) := by decide +kernel
theorem d_Model_lay2_69 : decode prog_14_method_35_code 69 = .ok (.if_icmp .eq 60, 3) := by decide +kernel
theorem d_Model_lay2_72 : decode prog_14_method_35_code 72 = .ok (.iconst 0, 1) := by decide +kernel
theorem d_Model_lay2_73 : decode prog_14_method_35_code 73 = .ok (.istore 5, 2) := by decide +kernel
theorem d_Model_lay2_75 : decode prog_14_method_35_code 75 = .ok (.iload 5, 2) := by decide +kernel
theorem d_Model_lay2_77 : decode prog_14_method_35_code 77 = .ok (.aload_n 0, 1) := by decide +kernel
theorem d_Model_lay2_78 : decode prog_14_method_35_code 78 = .ok (.iload 4, 2) := by decide +kernel
theorem d_Model_lay2_80 : decode prog_14_method_35_code 80 = .ok (.invokevirtual 203, 3) := by decide +kernel
theorem d_Model_lay2_83 : decode prog_14_method_35_code 83 = .ok (.if_icmp .ge 18, 3) := by decide +kernel
theorem d_Model_lay2_86 : decode prog_14_method_35_code 86 = .ok (.aload_n 0, 1) := by decide +kernel
theorem d_Model_lay2_87 : decode prog_14_method_35_code 87 = .ok (.iload_n 1, 1) := by decide +kernel
theorem d_Model_lay2_88 : decode prog_14_method_35_code 88 = .ok (.iload 4, 2) := by decide +kernel
theorem d_Model_lay2_90 : decode prog_14_method_35_code 90 = .ok (.iload 5, 2) := by decide +kernel
theorem d_Model_lay2_92 : decode prog_14_method_35_code 92 = .ok (.invokevirtual 248, 3) := by decide +kernel
theorem d_Model_lay2_95 : decode prog_14_method_35_code 95 = .ok (.iinc 5 1, 3) := by decide +kernel
theorem d_Model_lay2_98 : decode prog_14_method_35_code 98 = .ok (.goto (-23), 3) := by decide +kernel
theorem d_Model_lay2_101 : decode prog_14_method_35_code 101 = .ok (.aload_n 0, 1) := by decide +kernel
theorem d_Model_lay2_102 : decode prog_14_method_35_code 102 = .ok (.getfield 67, 3) := by decide +kernel
theorem d_Model_lay2_105 : decode prog_14_method_35_code 105 = .ok (.sipush 241, 3) := by decide +kernel
theorem d_Model_lay2_108 : decode prog_14_method_35_code 108 = .ok (.iload_n 1, 1) := by decide +kernel
theorem d_Model_lay2_109 : decode prog_14_method_35_code 109 = .ok (.imul, 1) := by decide +kernel
theorem d_Model_lay2_110 : decode prog_14_method_35_code 110 = .ok (.aload_n 0, 1) := by decide +kernel
theorem d_Model_lay2_111 : decode prog_14_method_35_code 111 = .ok (.iload_n 1, 1) := by decide +kernel
theorem d_Model_lay2_112 : decode prog_14_method_35_code 112 = .ok (.iload 4, 2) := by decide +kernel
theorem d_Model_lay2_114 : decode prog_14_method_35_code 114 = .ok (.aload_n 0, 1) := by decide +kernel
theorem d_Model_lay2_115 : decode prog_14_method_35_code 115 = .ok (.iload 4, 2) := by decide +kernel
theorem d_Model_lay2_117 : decode prog_14_method_35_code 117 = .ok (.invokevirtual 203, 3) := by decide +kernel
theorem d_Model_lay2_120 : decode prog_14_method_35_code 120 = .ok (.invokevirtual 231, 3) := by decide +kernel
theorem d_Model_lay2_123 : decode prog_14_method_35_code 123 = .ok (.iadd, 1) := by decide +kernel
theorem d_Model_lay2_124 : decode prog_14_method_35_code 124 = .ok (.dup2, 1) := by decide +kernel
theorem d_Model_lay2_125 : decode prog_14_method_35_code 125 = .ok (.iaload, 1) := by decide +kernel
theorem d_Model_lay2_126 : decode prog_14_method_35_code 126 = .ok (.iconst 1, 1) := by decide +kernel
theorem d_Model_lay2_127 : decode prog_14_method_35_code 127 = .ok (.iadd, 1) := by decide +kernel
theorem d_Model_lay2_128 : decode prog_14_method_35_code 128 = .ok (.iastore, 1) := by decide +kernel
theorem d_Model_lay2_129 : decode prog_14_method_35_code 129 = .ok (.iinc 4 1, 3) := by decide +kernel
theorem d_Model_lay2_132 : decode prog_14_method_35_code 132 = .ok (.goto (-75), 3) := by decide +kernel
theorem d_Model_lay2_135 : decode prog_14_method_35_code 135 = .ok (.return_, 1) := by decide +kernel
abbrev m_s1_Model_lay2 : Room := { frames := 3, cells := 0, slots := 0, locals := 79 }
set_option maxHeartbeats 4000000 in
set_option maxRecDepth 100000 in
theorem s1_Model_lay2 (l : Launch) (G : zG) (b0 : Nat) (b1 : Int32) (b2 : Int32) (b3 : Int32) (b4 : Nat) (b5 : Nat) (b6 : Nat) (b7 : Nat) (b8 : Int32) (b9 : Nat) (b10 : Int32) (b11 : Int32) (b12 : Int32) (b13 : Int32) (b14 : Nat) (b15 : Nat) (b16 : Nat) (b17 : Int32) (b18 : Nat) (b19 : Nat) (b20 : Nat) (b21 : Nat) (b22 : Nat) (b23 : Nat) (b24 : Nat) (b25 : Nat) (b26 : Nat) (b27 : Nat) (b28 : Nat) (b29 : Nat) (b30 : Int32) (b31 : Nat) (b32 : Nat) (b33 : Int32) (b34 : Int32) (b35 : Int32) (b36 : Int32) (b37 : Nat) (b38 : Nat) (b39 : Nat) (b40 : Nat) (b41 : Nat) (b42 : Nat) (b43 : Nat) (b44 : Int32) (b45 : Nat) (b46 : Nat) (b47 : Int32) (b48 : Nat) (b49 : Nat) (b50 : Nat) (b51 : Nat) (b52 : Nat) (b53 : Int32) (b54 : Nat) (b55 : Nat) (b56 : Nat) (b57 : Nat → Int32) (b58 : Nat → Int32) (b59 : Nat → Int32) (b60 : Nat → Int32) (b61 : Nat → Int32) (b62 : Nat → Int32) (b63 : Nat → Int32) (b64 : Nat → Int32) (b65 : Nat → Int32) (b66 : Nat → Int32) (b67 : Nat → Int32) (b68 : Nat → Int32) (b69 : Nat → Int32) (hb1 : zI b1 0 3) (hb2 : zI b2 (-1) 19) (hb8 : zI b8 0 8) (hb10 : zI b10 0 240) (hb11 : zI b11 0 240) (hb13 : zI b13 0 1) (hb17 : zI b17 0 12) (hb30 : zI b30 0 1) (hb33 : zI b33 0 1) (hb44 : zI b44 0 1000) (hb47 : zI b47 0 1000) (hb53 : zI b53 0 400) (hb57 : zW5 b57) (hb58 : zR b58 0 241) (hb59 : zR b59 (-1) 240) (hb60 : zqa qP b60) (hb62 : zqa qC b62) (hb63 : zR b63 0 240) (hb64 : zR b64 0 241) (hb65 : zR b65 0 240) (hb68 : zR b68 0 240) (hb69 : zqa qE b69) : zM l G y_Model_lay2 prog_14_method_35_code 6 (Option.none : Option Jvm.ClassFile.FieldType) m_s1_Model_lay2 [.ref b0, .int 0, .int b1, .int b2] [(b0, .inr (12, [.int b3, .ref b4, .ref b5, .ref b6, .ref b7, .int b8, .ref b9, .int b10, .int b11, .int b12, .int b13, .ref b14, .ref b15, .ref b16, .int b17, .ref b18, .ref b19, .ref b20, .ref b21, .ref b22, .ref b23, .ref b24, .ref b25, .ref b26, .ref b27, .ref b28, .ref b29, .int b30, .ref b31, .ref b32, .int b33, .int b34, .int b35, .int b36, .ref b37, .ref b38, .ref b39, .ref b40, .ref b41, .ref b42, .ref b43, .int b44, .ref b45, .ref b46, .int b47, .ref b48, .ref b49, .ref b50, .ref b51, .ref b52, .int b53, .ref b54, .ref b55, .ref b56])), (b4, .inl (G.2 0, 503, .inl b57)), (b18, .inl (G.2 0, 2, .inl b58)), (b19, .inl (G.2 0, 4820, .inl b59)), (b20, .inl (G.2 0, 520, .inl b60)), (b21, .inl (G.2 0, 9640, .inl b61)), (b22, .inl (G.2 0, 482, .inl b62)), (b23, .inl (G.2 0, 482, .inl b63)), (b24, .inl (G.2 0, 2, .inl b64)), (b25, .inl (G.2 0, 482, .inl b65)), (b26, .inl (G.2 0, 482, .inl b66)), (b27, .inl (G.2 0, 482, .inl b67)), (b28, .inl (G.2 0, 2, .inl b68)), (b29, .inl (G.2 0, 2880, .inl b69))] (fun v w => ∃ (e0 : Int32), ∃ (e1 : Nat → Int32), ∃ (e2 : Nat → Int32), ∃ (e3 : Nat → Int32), ∃ (e4 : Nat → Int32), ∃ (e5 : Nat → Int32), ∃ (e6 : Nat → Int32), ∃ (e7 : Nat → Int32), ∃ (e8 : Nat → Int32), ∃ (e9 : Nat → Int32), ∃ (e10 : Nat → Int32), ∃ (e11 : Nat → Int32), ∃ (e12 : Nat → Int32), v = none ∧ w = [(b0, .inr (12, [.int b3, .ref b4, .ref b5, .ref b6, .ref b7, .int b8, .ref b9, .int b10, .int b11, .int b12, .int b13, .ref b14, .ref b15, .ref b16, .int b17, .ref b18, .ref b19, .ref b20, .ref b21, .ref b22, .ref b23, .ref b24, .ref b25, .ref b26, .ref b27, .ref b28, .ref b29, .int e0, .ref b31, .ref b32, .int b33, .int b34, .int b35, .int b36, .ref b37, .ref b38, .ref b39, .ref b40, .ref b41, .ref b42, .ref b43, .int b44, .ref b45, .ref b46, .int b47, .ref b48, .ref b49, .ref b50, .ref b51, .ref b52, .int b53, .ref b54, .ref b55, .ref b56])), (b4, .inl (G.2 0, 503, .inl b57)), (b18, .inl (G.2 0, 2, .inl e1)), (b19, .inl (G.2 0, 4820, .inl e2)), (b20, .inl (G.2 0, 520, .inl e3)), (b21, .inl (G.2 0, 9640, .inl e4)), (b22, .inl (G.2 0, 482, .inl e5)), (b23, .inl (G.2 0, 482, .inl e6)), (b24, .inl (G.2 0, 2, .inl e7)), (b25, .inl (G.2 0, 482, .inl e8)), (b26, .inl (G.2 0, 482, .inl e9)), (b27, .inl (G.2 0, 482, .inl e10)), (b28, .inl (G.2 0, 2, .inl e11)), (b29, .inl (G.2 0, 2880, .inl e12))] ∧ (zI e0 0 1) ∧ (zR e1 0 241) ∧ (zR e2 (-1) 240) ∧ (zqa qP e3) ∧ (zqa qC e5) ∧ (zR e6 0 240) ∧ (zR e7 0 241) ∧ (zR e8 0 240) ∧ (zR e11 0 240) ∧ (zqa qE e12) ∧ ((b2 : Int32).toInt = -1 → zWF e12 ((e11 (0 : Int32).toNatClampNeg).toInt).toNat e10 ((e7 (0 : Int32).toNatClampNeg).toInt) ((b57 (0 : Int32).toNatClampNeg).toInt))) := by
  refine z_start (by decide +kernel) (Nat.le_of_ble_eq_true rfl) ?_
  intro p e s m below meth c A Z hr hnm hA hP hD hS ls hl
  have Z : zC p s m _ meth c prog_14_method_35_code 6 "TraceMachinesModel" G := Z
  obtain ⟨hx, hb, hml, hown, hts, hK, hN, hlocks⟩ := id Z
  have hl : lv_has ls 6 [(0, .ref b0), (1, .int 0), (2, .int b1), (3, .int b2)] := hl
  refine lv_aload_n hx hb d_Model_lay2_0 rfl (lv_at hl 0 rfl) ?_
  refine lv_iload_n hx hb d_Model_lay2_1 rfl (lv_at hl 1 rfl) ?_
  refine lv_iload_n hx hb d_Model_lay2_2 rfl (lv_at hl 3 rfl) ?_
  refine z_callV (index := 241) (As := [.int 0, .int b2]) (rest := []) (wr := [(b21, .inl (G.2 0, 9640, .inl b61)), (b23, .inl (G.2 0, 482, .inl b63)), (b24, .inl (G.2 0, 2, .inl b64)), (b25, .inl (G.2 0, 482, .inl b65)), (b26, .inl (G.2 0, 482, .inl b66)), (b27, .inl (G.2 0, 482, .inl b67)), (b28, .inl (G.2 0, 2, .inl b68)), (b29, .inl (G.2 0, 2880, .inl b69))]) Z (s1_Model_layPrefixes l G (b0) (b2) (b3) (b4) (b5) (b6) (b7) (b8) (b9) (b10) (b11) (b12) (b13) (b14) (b15) (b16) (b17) (b18) (b19) (b20) (b21) (b22) (b23) (b24) (b25) (b26) (b27) (b28) (b29) (b30) (b31) (b32) (b33) (b34) (b35) (b36) (b37) (b38) (b39) (b40) (b41) (b42) (b43) (b44) (b45) (b46) (b47) (b48) (b49) (b50) (b51) (b52) (b53) (b54) (b55) (b56) (b57) (b58) (b59) (b60) (b62) hb2 hb8 hb10 hb11 hb13 hb17 hb30 hb33 hb44 hb47 hb53 hb57 hb58 hb59 hb60 hb62) hl.1 q1364 q1366 qs57 q14 q1367 ⟨by decide, by decide, by show _ = some 2; decide +kernel⟩ ⟨Nat.le_of_ble_eq_true rfl, Nat.le_of_ble_eq_true rfl⟩ ⟨Nat.le_of_ble_eq_true rfl, Nat.le_of_ble_eq_true rfl⟩ rfl (Nat.le_of_ble_eq_true rfl) d_Model_lay2_3 hP hD hS hA 0 12 rfl rfl rfl [0, 1, 2, 3, 4, 6] [5, 7, 8, 9, 10, 11, 12, 13] rfl rfl rfl rfl (by decide) (fun v w1 H locs hw_1 hP hD hS => ?_)
  obtain ⟨f_2, f_3, f_4, f_5, rfl, rfl, hf_2, hf_3, hf_4, hf_5, hfx_6, hfx_7, hfx_8⟩ := hw_1
  have hP : va_P G.1 classes [(b21, .inl (G.2 0, 9640, .inl b61)), (b23, .inl (G.2 0, 482, .inl b63)), (b24, .inl (G.2 0, 2, .inl b64)), (b25, .inl (G.2 0, 482, .inl b65)), (b26, .inl (G.2 0, 482, .inl b66)), (b27, .inl (G.2 0, 482, .inl b67)), (b28, .inl (G.2 0, 2, .inl b68)), (b29, .inl (G.2 0, 2880, .inl b69)), (b0, .inr (12, [.int b3, .ref b4, .ref b5, .ref b6, .ref b7, .int b8, .ref b9, .int b10, .int b11, .int b12, .int b13, .ref b14, .ref b15, .ref b16, .int b17, .ref b18, .ref b19, .ref b20, .ref b21, .ref b22, .ref b23, .ref b24, .ref b25, .ref b26, .ref b27, .ref b28, .ref b29, .int b30, .ref b31, .ref b32, .int b33, .int b34, .int b35, .int b36, .ref b37, .ref b38, .ref b39, .ref b40, .ref b41, .ref b42, .ref b43, .int b44, .ref b45, .ref b46, .int b47, .ref b48, .ref b49, .ref b50, .ref b51, .ref b52, .int b53, .ref b54, .ref b55, .ref b56])), (b4, .inl (G.2 0, 503, .inl b57)), (b18, .inl (G.2 0, 2, .inl f_2)), (b19, .inl (G.2 0, 4820, .inl f_3)), (b20, .inl (G.2 0, 520, .inl f_4)), (b22, .inl (G.2 0, 482, .inl f_5))] H := hP
  have hD := z_tie hP hD rfl
  refine W.widen (k := 0) (n := 0) (Nat.le_of_ble_eq_true rfl) (Nat.le_of_ble_eq_true rfl) ?_
  refine lv_iconst (v := 0) hx hb d_Model_lay2_6 (by decide) ?_
  refine lv_istore (lv' := [(4, .int 0), (0, .ref b0), (1, .int 0), (2, .int b1), (3, .int b2)]) hx hb d_Model_lay2_7 hl (by decide) rfl (fun ls hl => ?_)
  suffices key : ∀ (k_188 : Nat) (y_189 : Int32) (y_190 : Nat → Int32) (H : Heap) (locs : List Loc) (ls : Array Slot), (zI y_189 0 241) → (zqa qC y_190) → (∀ q : Nat, (q : Int) < (y_189 : Int32).toInt → (y_190 (0 + q)).toInt = 0) → (241 : Int) - y_189.toInt < (k_188 : Int) → va_P G.1 classes [(b21, .inl (G.2 0, 9640, .inl b61)), (b23, .inl (G.2 0, 482, .inl b63)), (b24, .inl (G.2 0, 2, .inl b64)), (b25, .inl (G.2 0, 482, .inl b65)), (b26, .inl (G.2 0, 482, .inl b66)), (b27, .inl (G.2 0, 482, .inl b67)), (b28, .inl (G.2 0, 2, .inl b68)), (b29, .inl (G.2 0, 2880, .inl b69)), (b0, .inr (12, [.int b3, .ref b4, .ref b5, .ref b6, .ref b7, .int b8, .ref b9, .int b10, .int b11, .int b12, .int b13, .ref b14, .ref b15, .ref b16, .int b17, .ref b18, .ref b19, .ref b20, .ref b21, .ref b22, .ref b23, .ref b24, .ref b25, .ref b26, .ref b27, .ref b28, .ref b29, .int b30, .ref b31, .ref b32, .int b33, .int b34, .int b35, .int b36, .ref b37, .ref b38, .ref b39, .ref b40, .ref b41, .ref b42, .ref b43, .int b44, .ref b45, .ref b46, .int b47, .ref b48, .ref b49, .ref b50, .ref b51, .ref b52, .int b53, .ref b54, .ref b55, .ref b56])), (b4, .inl (G.2 0, 503, .inl b57)), (b18, .inl (G.2 0, 2, .inl f_2)), (b19, .inl (G.2 0, 4820, .inl f_3)), (b20, .inl (G.2 0, 520, .inl f_4)), (b22, .inl (G.2 0, 482, .inl y_190))] H → va_D A [(b21, .inl (G.2 0, 9640, .inl b61)), (b23, .inl (G.2 0, 482, .inl b63)), (b24, .inl (G.2 0, 2, .inl b64)), (b25, .inl (G.2 0, 482, .inl b65)), (b26, .inl (G.2 0, 482, .inl b66)), (b27, .inl (G.2 0, 482, .inl b67)), (b28, .inl (G.2 0, 2, .inl b68)), (b29, .inl (G.2 0, 2880, .inl b69)), (b0, .inr (12, [.int b3, .ref b4, .ref b5, .ref b6, .ref b7, .int b8, .ref b9, .int b10, .int b11, .int b12, .int b13, .ref b14, .ref b15, .ref b16, .int b17, .ref b18, .ref b19, .ref b20, .ref b21, .ref b22, .ref b23, .ref b24, .ref b25, .ref b26, .ref b27, .ref b28, .ref b29, .int b30, .ref b31, .ref b32, .int b33, .int b34, .int b35, .int b36, .ref b37, .ref b38, .ref b39, .ref b40, .ref b41, .ref b42, .ref b43, .int b44, .ref b45, .ref b46, .int b47, .ref b48, .ref b49, .ref b50, .ref b51, .ref b52, .int b53, .ref b54, .ref b55, .ref b56])), (b4, .inl (G.2 0, 503, .inl b57)), (b18, .inl (G.2 0, 2, .inl f_2)), (b19, .inl (G.2 0, 4820, .inl f_3)), (b20, .inl (G.2 0, 520, .inl f_4)), (b22, .inl (G.2 0, 482, .inl y_190))] → va_S A s.heap H locs → lv_has ls 6 [(4, .int y_189), (0, .ref b0), (1, .int 0), (2, .int b1), (3, .int b2)] → W p l e m_s1_Model_lay2 s m ([.ref b0, .int 0, .int b1, .int b2] : List Value).toArray below meth c H locs 0 0 (MQ below (zQ G (fun v w => ∃ (e0 : Int32), ∃ (e1 : Nat → Int32), ∃ (e2 : Nat → Int32), ∃ (e3 : Nat → Int32), ∃ (e4 : Nat → Int32), ∃ (e5 : Nat → Int32), ∃ (e6 : Nat → Int32), ∃ (e7 : Nat → Int32), ∃ (e8 : Nat → Int32), ∃ (e9 : Nat → Int32), ∃ (e10 : Nat → Int32), ∃ (e11 : Nat → Int32), ∃ (e12 : Nat → Int32), v = none ∧ w = [(b0, .inr (12, [.int b3, .ref b4, .ref b5, .ref b6, .ref b7, .int b8, .ref b9, .int b10, .int b11, .int b12, .int b13, .ref b14, .ref b15, .ref b16, .int b17, .ref b18, .ref b19, .ref b20, .ref b21, .ref b22, .ref b23, .ref b24, .ref b25, .ref b26, .ref b27, .ref b28, .ref b29, .int e0, .ref b31, .ref b32, .int b33, .int b34, .int b35, .int b36, .ref b37, .ref b38, .ref b39, .ref b40, .ref b41, .ref b42, .ref b43, .int b44, .ref b45, .ref b46, .int b47, .ref b48, .ref b49, .ref b50, .ref b51, .ref b52, .int b53, .ref b54, .ref b55, .ref b56])), (b4, .inl (G.2 0, 503, .inl b57)), (b18, .inl (G.2 0, 2, .inl e1)), (b19, .inl (G.2 0, 4820, .inl e2)), (b20, .inl (G.2 0, 520, .inl e3)), (b21, .inl (G.2 0, 9640, .inl e4)), (b22, .inl (G.2 0, 482, .inl e5)), (b23, .inl (G.2 0, 482, .inl e6)), (b24, .inl (G.2 0, 2, .inl e7)), (b25, .inl (G.2 0, 482, .inl e8)), (b26, .inl (G.2 0, 482, .inl e9)), (b27, .inl (G.2 0, 482, .inl e10)), (b28, .inl (G.2 0, 2, .inl e11)), (b29, .inl (G.2 0, 2880, .inl e12))] ∧ (zI e0 0 1) ∧ (zR e1 0 241) ∧ (zR e2 (-1) 240) ∧ (zqa qP e3) ∧ (zqa qC e5) ∧ (zR e6 0 240) ∧ (zR e7 0 241) ∧ (zR e8 0 240) ∧ (zR e11 0 240) ∧ (zqa qE e12) ∧ ((b2 : Int32).toInt = -1 → zWF e12 ((e11 (0 : Int32).toNatClampNeg).toInt).toNat e10 ((e7 (0 : Int32).toNatClampNeg).toInt) ((b57 (0 : Int32).toNatClampNeg).toInt))) A) ([.ref b0, .int 0, .int b1, .int b2] : List Value).toArray s m_s1_Model_lay2.cells m_s1_Model_lay2.slots A) (F0 m 9 ls []) by
    exact key 242 (0) (f_5) _ _ _ (zI.wk (l' := 0) (h' := 241) zc_0 (by decide)) hf_5 (by have _l0 := li_0; intro q hq; omega) (zm_upi (zI.wk (l' := 0) (h' := 241) zc_0 (by decide)) (by decide)) hP hD hS (lv_sub hl [0, 1, 2, 3, 4] rfl)
  intro k_188
  induction k_188 with
  | zero =>
    intro y_189 y_190 H locs ls hy_189 hy_190 hli_191 hmk_188 hP hD hS hl
    exact (zm_up0 hy_189 hmk_188).elim
  | succ k_188 ihk_188 =>
    intro y_189 y_190 H locs ls hy_189 hy_190 hli_191 hmk_188 hP hD hS hl
    refine lv_iload hx hb d_Model_lay2_9 (lv_at hl 0 rfl) ?_
    refine lv_aload_n hx hb d_Model_lay2_11 rfl (lv_at hl 1 rfl) ?_
    refine va_get (D := G.1) (ci := 12) (v := .ref b18) (C := R_Model) (T := F_Model) (N := 54) hx hb hts i_Model hown hK hP 8 rfl rfl 15 (by decide) (hts _ q1124) (fun _ h9 => h9) rfl d_Model_lay2_12 ?_
    refine lv_iload_n hx hb d_Model_lay2_15 rfl (lv_at hl 2 rfl) ?_
    refine va_iald hx hb hK hP 10 0 rfl rfl (i := 0) (z_in rfl) d_Model_lay2_16 ?_
    refine lv_topi (fun v_192 ev_192 => ?_)
    have hv_192 : zI v_192 0 241 := (hf_2 _).eq ev_192
    refine lv_icmp_ge (tgt := 40) hx hb d_Model_lay2_17 (by decide) (fun hc_193 => ?_) (fun hc_193 => ?_)
    · have _nhc_193 := hc_193
      have ni_194 := (fa_le _ _).mp hc_193
      refine lv_aload_n hx hb d_Model_lay2_40 rfl (lv_at hl 1 rfl) ?_
      refine lv_iload_n hx hb d_Model_lay2_41 rfl (lv_at hl 2 rfl) ?_
      refine lv_iload_n hx hb d_Model_lay2_42 rfl (lv_at hl 3 rfl) ?_
      refine lv_iload_n hx hb d_Model_lay2_43 rfl (lv_at hl 4 rfl) ?_
      refine z_callV (index := 244) (As := [.int 0, .int b1, .int b2]) (rest := []) (wr := [(b28, .inl (G.2 0, 2, .inl b68)), (b29, .inl (G.2 0, 2880, .inl b69)), (b19, .inl (G.2 0, 4820, .inl f_3))]) Z (s1_Model_layStates l G (b0) (b1) (b2) (b3) (b4) (b5) (b6) (b7) (b8) (b9) (b10) (b11) (b12) (b13) (b14) (b15) (b16) (b17) (b18) (b19) (b20) (b21) (b22) (b23) (b24) (b25) (b26) (b27) (b28) (b29) (b30) (b31) (b32) (b33) (b34) (b35) (b36) (b37) (b38) (b39) (b40) (b41) (b42) (b43) (b44) (b45) (b46) (b47) (b48) (b49) (b50) (b51) (b52) (b53) (b54) (b55) (b56) (b57) (f_2) (f_4) (b61) (y_190) (b63) (b64) (b65) (b66) (b67) hb1 hb2 hb8 hb10 hb11 hb13 hb17 hb30 hb33 hb44 hb47 hb53 hb57 hf_2 hf_4 hy_190 hb63 hb64 hb65 hfx_6 (by intro q hq; rw [← ev_192] at hq; exact hli_191 q (by omega))) hl.1 q1376 q1378 qs60 q14 q1379 ⟨by decide, by decide, by show _ = some 3; decide +kernel⟩ ⟨Nat.le_of_ble_eq_true rfl, Nat.le_of_ble_eq_true rfl⟩ ⟨Nat.le_of_ble_eq_true rfl, Nat.le_of_ble_eq_true rfl⟩ rfl (Nat.le_of_ble_eq_true rfl) d_Model_lay2_44 hP hD hS hA 8 12 rfl rfl rfl [8, 9, 10, 12, 0, 13, 1, 2, 3, 4, 5] [6, 7, 11] rfl rfl rfl rfl (by decide) (fun v w1 H locs hw_195 hP hD hS => ?_)
      obtain ⟨f_196, f_197, f_198, f_199, f_200, f_201, f_202, rfl, rfl, hf_197, hf_198, hf_199, hf_200, hfx_203, hfx_204, hfx_205⟩ := hw_195
      have hP : va_P G.1 classes [(b28, .inl (G.2 0, 2, .inl b68)), (b29, .inl (G.2 0, 2880, .inl b69)), (b19, .inl (G.2 0, 4820, .inl f_3)), (b0, .inr (12, [.int b3, .ref b4, .ref b5, .ref b6, .ref b7, .int b8, .ref b9, .int b10, .int b11, .int b12, .int b13, .ref b14, .ref b15, .ref b16, .int b17, .ref b18, .ref b19, .ref b20, .ref b21, .ref b22, .ref b23, .ref b24, .ref b25, .ref b26, .ref b27, .ref b28, .ref b29, .int b30, .ref b31, .ref b32, .int b33, .int b34, .int b35, .int b36, .ref b37, .ref b38, .ref b39, .ref b40, .ref b41, .ref b42, .ref b43, .int b44, .ref b45, .ref b46, .int b47, .ref b48, .ref b49, .ref b50, .ref b51, .ref b52, .int b53, .ref b54, .ref b55, .ref b56])), (b4, .inl (G.2 0, 503, .inl b57)), (b18, .inl (G.2 0, 2, .inl f_2)), (b20, .inl (G.2 0, 520, .inl f_4)), (b21, .inl (G.2 0, 9640, .inl f_196)), (b22, .inl (G.2 0, 482, .inl f_197)), (b23, .inl (G.2 0, 482, .inl f_198)), (b24, .inl (G.2 0, 2, .inl f_199)), (b25, .inl (G.2 0, 482, .inl f_200)), (b26, .inl (G.2 0, 482, .inl f_201)), (b27, .inl (G.2 0, 482, .inl f_202))] H := hP
      have hD := z_tie hP hD rfl
      refine W.widen (k := 0) (n := 0) (Nat.le_of_ble_eq_true rfl) (Nat.le_of_ble_eq_true rfl) ?_
      refine lv_aload_n hx hb d_Model_lay2_47 rfl (lv_at hl 1 rfl) ?_
      refine va_get (D := G.1) (ci := 12) (v := .ref b28) (C := R_Model) (T := F_Model) (N := 54) hx hb hts i_Model hown hK hP 3 rfl rfl 25 (by decide) (hts _ q1134) (fun _ h9 => h9) rfl d_Model_lay2_48 ?_
      refine lv_iload_n hx hb d_Model_lay2_51 rfl (lv_at hl 2 rfl) ?_
      refine lv_iconst (v := 0) hx hb d_Model_lay2_52 (by decide) ?_
      refine va_iast hx hb hK hP hD hS 0 0 rfl rfl (i := 0) (z_in rfl) d_Model_lay2_53 (fun H locs hP hD hS => ?_)
      obtain ⟨f_206, hf_206, gf_206, uf_206, hP, hD⟩ := z_newfu 0 hP hD rfl hb68 (zI.wk (l' := 0) (h' := 240) zc_0 (by decide))
      have hP : va_P G.1 classes [(b28, .inl (G.2 0, 2, .inl f_206)), (b29, .inl (G.2 0, 2880, .inl b69)), (b19, .inl (G.2 0, 4820, .inl f_3)), (b0, .inr (12, [.int b3, .ref b4, .ref b5, .ref b6, .ref b7, .int b8, .ref b9, .int b10, .int b11, .int b12, .int b13, .ref b14, .ref b15, .ref b16, .int b17, .ref b18, .ref b19, .ref b20, .ref b21, .ref b22, .ref b23, .ref b24, .ref b25, .ref b26, .ref b27, .ref b28, .ref b29, .int b30, .ref b31, .ref b32, .int b33, .int b34, .int b35, .int b36, .ref b37, .ref b38, .ref b39, .ref b40, .ref b41, .ref b42, .ref b43, .int b44, .ref b45, .ref b46, .int b47, .ref b48, .ref b49, .ref b50, .ref b51, .ref b52, .int b53, .ref b54, .ref b55, .ref b56])), (b4, .inl (G.2 0, 503, .inl b57)), (b18, .inl (G.2 0, 2, .inl f_2)), (b20, .inl (G.2 0, 520, .inl f_4)), (b21, .inl (G.2 0, 9640, .inl f_196)), (b22, .inl (G.2 0, 482, .inl f_197)), (b23, .inl (G.2 0, 482, .inl f_198)), (b24, .inl (G.2 0, 2, .inl f_199)), (b25, .inl (G.2 0, 482, .inl f_200)), (b26, .inl (G.2 0, 482, .inl f_201)), (b27, .inl (G.2 0, 482, .inl f_202))] H := hP
      have hD := z_tie hP hD rfl
      refine lv_iconst (v := 0) hx hb d_Model_lay2_54 (by decide) ?_
      refine lv_istore (lv' := [(4, .int 0), (0, .ref b0), (1, .int 0), (2, .int b1), (3, .int b2)]) hx hb d_Model_lay2_55 hl (by decide) rfl (fun ls hl => ?_)
      suffices key : ∀ (k_285 : Nat) (y_286 : Int32) (y_287 : Int32) (y_288 : Nat → Int32) (y_289 : Nat → Int32) (y_290 : Nat → Int32) (H : Heap) (locs : List Loc) (ls : Array Slot), (zI y_286 0 20) → (zI y_287 0 1) → (zR y_289 0 240) → (zqa qE y_290) → ((y_289 (0 : Int32).toNatClampNeg).toInt ≤ 12 * (y_286 : Int32).toInt) → ((b2 : Int32).toInt = -1 → zWF y_290 ((y_289 (0 : Int32).toNatClampNeg).toInt).toNat y_288 ((f_199 (0 : Int32).toNatClampNeg).toInt) ((y_286 : Int32).toInt)) → ((y_286 : Int32).toInt ≤ (b57 (0 : Int32).toNatClampNeg).toInt) → (20 : Int) - y_286.toInt < (k_285 : Int) → va_P G.1 classes [(b28, .inl (G.2 0, 2, .inl y_289)), (b29, .inl (G.2 0, 2880, .inl y_290)), (b19, .inl (G.2 0, 4820, .inl f_3)), (b0, .inr (12, [.int b3, .ref b4, .ref b5, .ref b6, .ref b7, .int b8, .ref b9, .int b10, .int b11, .int b12, .int b13, .ref b14, .ref b15, .ref b16, .int b17, .ref b18, .ref b19, .ref b20, .ref b21, .ref b22, .ref b23, .ref b24, .ref b25, .ref b26, .ref b27, .ref b28, .ref b29, .int y_287, .ref b31, .ref b32, .int b33, .int b34, .int b35, .int b36, .ref b37, .ref b38, .ref b39, .ref b40, .ref b41, .ref b42, .ref b43, .int b44, .ref b45, .ref b46, .int b47, .ref b48, .ref b49, .ref b50, .ref b51, .ref b52, .int b53, .ref b54, .ref b55, .ref b56])), (b4, .inl (G.2 0, 503, .inl b57)), (b18, .inl (G.2 0, 2, .inl f_2)), (b20, .inl (G.2 0, 520, .inl f_4)), (b21, .inl (G.2 0, 9640, .inl f_196)), (b22, .inl (G.2 0, 482, .inl f_197)), (b23, .inl (G.2 0, 482, .inl f_198)), (b24, .inl (G.2 0, 2, .inl f_199)), (b25, .inl (G.2 0, 482, .inl f_200)), (b26, .inl (G.2 0, 482, .inl f_201)), (b27, .inl (G.2 0, 482, .inl y_288))] H → va_D A [(b28, .inl (G.2 0, 2, .inl y_289)), (b29, .inl (G.2 0, 2880, .inl y_290)), (b19, .inl (G.2 0, 4820, .inl f_3)), (b0, .inr (12, [.int b3, .ref b4, .ref b5, .ref b6, .ref b7, .int b8, .ref b9, .int b10, .int b11, .int b12, .int b13, .ref b14, .ref b15, .ref b16, .int b17, .ref b18, .ref b19, .ref b20, .ref b21, .ref b22, .ref b23, .ref b24, .ref b25, .ref b26, .ref b27, .ref b28, .ref b29, .int y_287, .ref b31, .ref b32, .int b33, .int b34, .int b35, .int b36, .ref b37, .ref b38, .ref b39, .ref b40, .ref b41, .ref b42, .ref b43, .int b44, .ref b45, .ref b46, .int b47, .ref b48, .ref b49, .ref b50, .ref b51, .ref b52, .int b53, .ref b54, .ref b55, .ref b56])), (b4, .inl (G.2 0, 503, .inl b57)), (b18, .inl (G.2 0, 2, .inl f_2)), (b20, .inl (G.2 0, 520, .inl f_4)), (b21, .inl (G.2 0, 9640, .inl f_196)), (b22, .inl (G.2 0, 482, .inl f_197)), (b23, .inl (G.2 0, 482, .inl f_198)), (b24, .inl (G.2 0, 2, .inl f_199)), (b25, .inl (G.2 0, 482, .inl f_200)), (b26, .inl (G.2 0, 482, .inl f_201)), (b27, .inl (G.2 0, 482, .inl y_288))] → va_S A s.heap H locs → lv_has ls 6 [(4, .int y_286), (0, .ref b0), (1, .int 0), (2, .int b1), (3, .int b2)] → W p l e m_s1_Model_lay2 s m ([.ref b0, .int 0, .int b1, .int b2] : List Value).toArray below meth c H locs 0 0 (MQ below (zQ G (fun v w => ∃ (e0 : Int32), ∃ (e1 : Nat → Int32), ∃ (e2 : Nat → Int32), ∃ (e3 : Nat → Int32), ∃ (e4 : Nat → Int32), ∃ (e5 : Nat → Int32), ∃ (e6 : Nat → Int32), ∃ (e7 : Nat → Int32), ∃ (e8 : Nat → Int32), ∃ (e9 : Nat → Int32), ∃ (e10 : Nat → Int32), ∃ (e11 : Nat → Int32), ∃ (e12 : Nat → Int32), v = none ∧ w = [(b0, .inr (12, [.int b3, .ref b4, .ref b5, .ref b6, .ref b7, .int b8, .ref b9, .int b10, .int b11, .int b12, .int b13, .ref b14, .ref b15, .ref b16, .int b17, .ref b18, .ref b19, .ref b20, .ref b21, .ref b22, .ref b23, .ref b24, .ref b25, .ref b26, .ref b27, .ref b28, .ref b29, .int e0, .ref b31, .ref b32, .int b33, .int b34, .int b35, .int b36, .ref b37, .ref b38, .ref b39, .ref b40, .ref b41, .ref b42, .ref b43, .int b44, .ref b45, .ref b46, .int b47, .ref b48, .ref b49, .ref b50, .ref b51, .ref b52, .int b53, .ref b54, .ref b55, .ref b56])), (b4, .inl (G.2 0, 503, .inl b57)), (b18, .inl (G.2 0, 2, .inl e1)), (b19, .inl (G.2 0, 4820, .inl e2)), (b20, .inl (G.2 0, 520, .inl e3)), (b21, .inl (G.2 0, 9640, .inl e4)), (b22, .inl (G.2 0, 482, .inl e5)), (b23, .inl (G.2 0, 482, .inl e6)), (b24, .inl (G.2 0, 2, .inl e7)), (b25, .inl (G.2 0, 482, .inl e8)), (b26, .inl (G.2 0, 482, .inl e9)), (b27, .inl (G.2 0, 482, .inl e10)), (b28, .inl (G.2 0, 2, .inl e11)), (b29, .inl (G.2 0, 2880, .inl e12))] ∧ (zI e0 0 1) ∧ (zR e1 0 241) ∧ (zR e2 (-1) 240) ∧ (zqa qP e3) ∧ (zqa qC e5) ∧ (zR e6 0 240) ∧ (zR e7 0 241) ∧ (zR e8 0 240) ∧ (zR e11 0 240) ∧ (zqa qE e12) ∧ ((b2 : Int32).toInt = -1 → zWF e12 ((e11 (0 : Int32).toNatClampNeg).toInt).toNat e10 ((e7 (0 : Int32).toNatClampNeg).toInt) ((b57 (0 : Int32).toNatClampNeg).toInt))) A) ([.ref b0, .int 0, .int b1, .int b2] : List Value).toArray s m_s1_Model_lay2.cells m_s1_Model_lay2.slots A) (F0 m 57 ls []) by
        exact key 21 (0) (b30) (f_202) (f_206) (b69) _ _ _ (zI.wk (l' := 0) (h' := 20) zc_0 (by decide)) hb30 hf_206 hb69 (by rw [gf_206]; have _l0 := li_0; omega) (fun h3 => zWF_0 (by rw [gf_206]; decide +kernel) li_0 hfx_205) (by have h9 := ((zW5.ld (i := 0) (v := b57 (0 : Int32).toNatClampNeg) (a := 0) (b := 20) hb57 zc_0 rfl (by decide))).1; have _l := li_0; omega) (zm_upi (zI.wk (l' := 0) (h' := 20) zc_0 (by decide)) (by decide)) hP hD hS (lv_sub hl [0, 1, 2, 3, 4] rfl)
      intro k_285
      induction k_285 with
      | zero =>
        intro y_286 y_287 y_288 y_289 y_290 H locs ls hy_286 hy_287 hy_289 hy_290 hli_291 hli_292 hli_293 hmk_285 hP hD hS hl
        exact (zm_up0 hy_286 hmk_285).elim
      | succ k_285 ihk_285 =>
        intro y_286 y_287 y_288 y_289 y_290 H locs ls hy_286 hy_287 hy_289 hy_290 hli_291 hli_292 hli_293 hmk_285 hP hD hS hl
        refine lv_iload hx hb d_Model_lay2_57 (lv_at hl 0 rfl) ?_
        refine lv_aload_n hx hb d_Model_lay2_59 rfl (lv_at hl 1 rfl) ?_
        refine z_callV (index := 134) (As := []) (rest := [.int y_286]) (wr := [(b28, .inl (G.2 0, 2, .inl y_289)), (b29, .inl (G.2 0, 2880, .inl y_290)), (b19, .inl (G.2 0, 4820, .inl f_3)), (b18, .inl (G.2 0, 2, .inl f_2)), (b20, .inl (G.2 0, 520, .inl f_4)), (b21, .inl (G.2 0, 9640, .inl f_196)), (b22, .inl (G.2 0, 482, .inl f_197)), (b23, .inl (G.2 0, 482, .inl f_198)), (b24, .inl (G.2 0, 2, .inl f_199)), (b25, .inl (G.2 0, 482, .inl f_200)), (b26, .inl (G.2 0, 482, .inl f_201)), (b27, .inl (G.2 0, 482, .inl y_288))]) Z (s1_Model_many l G (b0) (b3) (b4) (b5) (b6) (b7) (b8) (b9) (b10) (b11) (b12) (b13) (b14) (b15) (b16) (b17) (b18) (b19) (b20) (b21) (b22) (b23) (b24) (b25) (b26) (b27) (b28) (b29) (y_287) (b31) (b32) (b33) (b34) (b35) (b36) (b37) (b38) (b39) (b40) (b41) (b42) (b43) (b44) (b45) (b46) (b47) (b48) (b49) (b50) (b51) (b52) (b53) (b54) (b55) (b56) (b57) hb8 hb10 hb11 hb13 hb17 hy_287 hb33 hb44 hb47 hb53 hb57) hl.1 q1320 q1322 qs51 q14 q1323 ⟨by decide, by decide, by show _ = some 0; decide +kernel⟩ ⟨Nat.le_of_ble_eq_true rfl, Nat.le_of_ble_eq_true rfl⟩ ⟨Nat.le_of_ble_eq_true rfl, Nat.le_of_ble_eq_true rfl⟩ rfl (Nat.le_of_ble_eq_true rfl) d_Model_lay2_60 hP hD hS hA 3 12 rfl rfl rfl [3, 4] [0, 1, 2, 5, 6, 7, 8, 9, 10, 11, 12, 13] rfl rfl rfl rfl (by decide) (fun v w1 H locs hw_294 hP hD hS => ?_)
        obtain ⟨x_295, rfl, rfl, hx_295, hfx_296⟩ := hw_294
        have hP : va_P G.1 classes [(b28, .inl (G.2 0, 2, .inl y_289)), (b29, .inl (G.2 0, 2880, .inl y_290)), (b19, .inl (G.2 0, 4820, .inl f_3)), (b18, .inl (G.2 0, 2, .inl f_2)), (b20, .inl (G.2 0, 520, .inl f_4)), (b21, .inl (G.2 0, 9640, .inl f_196)), (b22, .inl (G.2 0, 482, .inl f_197)), (b23, .inl (G.2 0, 482, .inl f_198)), (b24, .inl (G.2 0, 2, .inl f_199)), (b25, .inl (G.2 0, 482, .inl f_200)), (b26, .inl (G.2 0, 482, .inl f_201)), (b27, .inl (G.2 0, 482, .inl y_288)), (b0, .inr (12, [.int b3, .ref b4, .ref b5, .ref b6, .ref b7, .int b8, .ref b9, .int b10, .int b11, .int b12, .int b13, .ref b14, .ref b15, .ref b16, .int b17, .ref b18, .ref b19, .ref b20, .ref b21, .ref b22, .ref b23, .ref b24, .ref b25, .ref b26, .ref b27, .ref b28, .ref b29, .int y_287, .ref b31, .ref b32, .int b33, .int b34, .int b35, .int b36, .ref b37, .ref b38, .ref b39, .ref b40, .ref b41, .ref b42, .ref b43, .int b44, .ref b45, .ref b46, .int b47, .ref b48, .ref b49, .ref b50, .ref b51, .ref b52, .int b53, .ref b54, .ref b55, .ref b56])), (b4, .inl (G.2 0, 503, .inl b57))] H := hP
        have hD := z_tie hP hD rfl
        refine W.widen (k := 0) (n := 0) (Nat.le_of_ble_eq_true rfl) (Nat.le_of_ble_eq_true rfl) ?_
        refine lv_icmp_ge (tgt := 135) hx hb d_Model_lay2_63 (by decide) (fun hc_297 => ?_) (fun hc_297 => ?_)
        · have _nhc_297 := hc_297
          have ni_298 := (fa_le _ _).mp hc_297
          exact z_vret hx hb hr hlocks (hP.sub [12, 13, 3, 2, 4, 5, 6, 7, 8, 9, 10, 11, 0, 1] rfl) (hD.sub [12, 13, 3, 2, 4, 5, 6, 7, 8, 9, 10, 11, 0, 1] (by decide) rfl) hS (Nat.le_of_ble_eq_true rfl) (Nat.le_of_ble_eq_true rfl) d_Model_lay2_135 ⟨y_287, f_2, f_3, f_4, f_196, f_197, f_198, f_199, f_200, f_201, y_288, y_289, y_290, rfl, rfl, hy_287, hf_2, hf_3, hf_4, hf_197, hf_198, hf_199, hf_200, hy_289, hy_290, (fun h3 => zWF.cg (hli_292 h3) (by have h2 := congrArg Int32.toInt hfx_296; have h1 := hli_293; omega))⟩
        · have _nhc_297 := hc_297
          have ni_299 := (fa_lt _ _).mp (zi_nle hc_297)
          have hv_300 : zI y_286 0 19 := zI.lt_l hy_286 hx_295 (zi_nle hc_297) (by decide)
          have hv_301 : zI x_295 1 20 := zI.lt_r hy_286 hx_295 (zi_nle hc_297) (by decide)
          refine lv_iload hx hb d_Model_lay2_66 (lv_at hl 0 rfl) ?_
          refine lv_iload_n hx hb d_Model_lay2_68 rfl (lv_at hl 4 rfl) ?_
          refine lv_icmp_eq (tgt := 129) hx hb d_Model_lay2_69 (by decide) (fun hc_302 => ?_) (fun hc_302 => ?_)
          · have _nhc_302 := hc_302
            have ni_303 := (fa_eq _ _).mp hc_302
            have hv_304 : zI b2 0 19 := zI.eq_l hb2 hv_300 hc_302.symm
            obtain ⟨v_305, ev_305⟩ : ∃ z : Int32, z = y_286 + 1 := ⟨_, rfl⟩
            obtain ⟨qv_305, hv_305⟩ := zI_add (l := 1) (h := 20) hv_300 zc_1 ev_305 (by decide)
            rw [li_1] at qv_305
            refine lv_iinc (v := v_305) (lv' := [(4, .int v_305), (0, .ref b0), (1, .int 0), (2, .int b1), (3, .int b2)]) hx hb d_Model_lay2_129 hl (k := 0) rfl (by rw [ev_305]; rfl) (by decide) rfl (fun ls hl => ?_)
            refine lv_goto (tgt := 57) hx hb d_Model_lay2_132 (by decide) ?_
            exact ihk_285 (v_305) (y_287) (y_288) (y_289) (y_290) _ _ _ (zI.wk (l' := 0) (h' := 20) hv_305 (by decide)) hy_287 hy_289 hy_290 (by omega) (fun h3 => by exfalso; omega) (by have h2 := congrArg Int32.toInt hfx_296; omega) (zm_up qv_305 hmk_285 (by decide)) (hP.sub [0, 1, 2, 12, 13, 3, 4, 5, 6, 7, 8, 9, 10, 11] rfl) (hD.sub [0, 1, 2, 12, 13, 3, 4, 5, 6, 7, 8, 9, 10, 11] (by decide) rfl) hS (lv_sub hl [0, 1, 2, 3, 4] rfl)
          · have _nhc_302 := hc_302
            have ni_306 : ¬ (y_286 : Int32).toInt = (b2 : Int32).toInt := fun z => hc_302 ((fa_eq _ _).mpr z)
            refine lv_iconst (v := 0) hx hb d_Model_lay2_72 (by decide) ?_
            refine lv_istore (lv' := [(5, .int 0), (4, .int y_286), (0, .ref b0), (1, .int 0), (2, .int b1), (3, .int b2)]) hx hb d_Model_lay2_73 hl (by decide) rfl (fun ls hl => ?_)
            suffices key : ∀ (k_337 : Nat) (y_338 : Int32) (y_339 : Int32) (y_340 : Nat → Int32) (y_341 : Nat → Int32) (H : Heap) (locs : List Loc) (ls : Array Slot), (zI y_338 0 12) → (zI y_339 0 1) → (zR y_340 0 240) → (zqa qE y_341) → ((y_340 (0 : Int32).toNatClampNeg).toInt ≤ 12 * (y_286 : Int32).toInt + (y_338 : Int32).toInt) → ((b2 : Int32).toInt = -1 → zWK y_341 ((y_340 (0 : Int32).toNatClampNeg).toInt).toNat y_288 f_198 f_4 ((f_199 (0 : Int32).toNatClampNeg).toInt) ((y_286 : Int32).toInt) ((y_338 : Int32).toInt)) → ((y_338 : Int32).toInt ≤ (b57 (1 + (y_286 : Int32).toInt.toNat)).toInt) → (12 : Int) - y_338.toInt < (k_337 : Int) → va_P G.1 classes [(b28, .inl (G.2 0, 2, .inl y_340)), (b29, .inl (G.2 0, 2880, .inl y_341)), (b19, .inl (G.2 0, 4820, .inl f_3)), (b18, .inl (G.2 0, 2, .inl f_2)), (b20, .inl (G.2 0, 520, .inl f_4)), (b21, .inl (G.2 0, 9640, .inl f_196)), (b22, .inl (G.2 0, 482, .inl f_197)), (b23, .inl (G.2 0, 482, .inl f_198)), (b24, .inl (G.2 0, 2, .inl f_199)), (b25, .inl (G.2 0, 482, .inl f_200)), (b26, .inl (G.2 0, 482, .inl f_201)), (b27, .inl (G.2 0, 482, .inl y_288)), (b0, .inr (12, [.int b3, .ref b4, .ref b5, .ref b6, .ref b7, .int b8, .ref b9, .int b10, .int b11, .int b12, .int b13, .ref b14, .ref b15, .ref b16, .int b17, .ref b18, .ref b19, .ref b20, .ref b21, .ref b22, .ref b23, .ref b24, .ref b25, .ref b26, .ref b27, .ref b28, .ref b29, .int y_339, .ref b31, .ref b32, .int b33, .int b34, .int b35, .int b36, .ref b37, .ref b38, .ref b39, .ref b40, .ref b41, .ref b42, .ref b43, .int b44, .ref b45, .ref b46, .int b47, .ref b48, .ref b49, .ref b50, .ref b51, .ref b52, .int b53, .ref b54, .ref b55, .ref b56])), (b4, .inl (G.2 0, 503, .inl b57))] H → va_D A [(b28, .inl (G.2 0, 2, .inl y_340)), (b29, .inl (G.2 0, 2880, .inl y_341)), (b19, .inl (G.2 0, 4820, .inl f_3)), (b18, .inl (G.2 0, 2, .inl f_2)), (b20, .inl (G.2 0, 520, .inl f_4)), (b21, .inl (G.2 0, 9640, .inl f_196)), (b22, .inl (G.2 0, 482, .inl f_197)), (b23, .inl (G.2 0, 482, .inl f_198)), (b24, .inl (G.2 0, 2, .inl f_199)), (b25, .inl (G.2 0, 482, .inl f_200)), (b26, .inl (G.2 0, 482, .inl f_201)), (b27, .inl (G.2 0, 482, .inl y_288)), (b0, .inr (12, [.int b3, .ref b4, .ref b5, .ref b6, .ref b7, .int b8, .ref b9, .int b10, .int b11, .int b12, .int b13, .ref b14, .ref b15, .ref b16, .int b17, .ref b18, .ref b19, .ref b20, .ref b21, .ref b22, .ref b23, .ref b24, .ref b25, .ref b26, .ref b27, .ref b28, .ref b29, .int y_339, .ref b31, .ref b32, .int b33, .int b34, .int b35, .int b36, .ref b37, .ref b38, .ref b39, .ref b40, .ref b41, .ref b42, .ref b43, .int b44, .ref b45, .ref b46, .int b47, .ref b48, .ref b49, .ref b50, .ref b51, .ref b52, .int b53, .ref b54, .ref b55, .ref b56])), (b4, .inl (G.2 0, 503, .inl b57))] → va_S A s.heap H locs → lv_has ls 6 [(5, .int y_338), (4, .int y_286), (0, .ref b0), (1, .int 0), (2, .int b1), (3, .int b2)] → W p l e m_s1_Model_lay2 s m ([.ref b0, .int 0, .int b1, .int b2] : List Value).toArray below meth c H locs 0 0 (MQ below (zQ G (fun v w => ∃ (e0 : Int32), ∃ (e1 : Nat → Int32), ∃ (e2 : Nat → Int32), ∃ (e3 : Nat → Int32), ∃ (e4 : Nat → Int32), ∃ (e5 : Nat → Int32), ∃ (e6 : Nat → Int32), ∃ (e7 : Nat → Int32), ∃ (e8 : Nat → Int32), ∃ (e9 : Nat → Int32), ∃ (e10 : Nat → Int32), ∃ (e11 : Nat → Int32), ∃ (e12 : Nat → Int32), v = none ∧ w = [(b0, .inr (12, [.int b3, .ref b4, .ref b5, .ref b6, .ref b7, .int b8, .ref b9, .int b10, .int b11, .int b12, .int b13, .ref b14, .ref b15, .ref b16, .int b17, .ref b18, .ref b19, .ref b20, .ref b21, .ref b22, .ref b23, .ref b24, .ref b25, .ref b26, .ref b27, .ref b28, .ref b29, .int e0, .ref b31, .ref b32, .int b33, .int b34, .int b35, .int b36, .ref b37, .ref b38, .ref b39, .ref b40, .ref b41, .ref b42, .ref b43, .int b44, .ref b45, .ref b46, .int b47, .ref b48, .ref b49, .ref b50, .ref b51, .ref b52, .int b53, .ref b54, .ref b55, .ref b56])), (b4, .inl (G.2 0, 503, .inl b57)), (b18, .inl (G.2 0, 2, .inl e1)), (b19, .inl (G.2 0, 4820, .inl e2)), (b20, .inl (G.2 0, 520, .inl e3)), (b21, .inl (G.2 0, 9640, .inl e4)), (b22, .inl (G.2 0, 482, .inl e5)), (b23, .inl (G.2 0, 482, .inl e6)), (b24, .inl (G.2 0, 2, .inl e7)), (b25, .inl (G.2 0, 482, .inl e8)), (b26, .inl (G.2 0, 482, .inl e9)), (b27, .inl (G.2 0, 482, .inl e10)), (b28, .inl (G.2 0, 2, .inl e11)), (b29, .inl (G.2 0, 2880, .inl e12))] ∧ (zI e0 0 1) ∧ (zR e1 0 241) ∧ (zR e2 (-1) 240) ∧ (zqa qP e3) ∧ (zqa qC e5) ∧ (zR e6 0 240) ∧ (zR e7 0 241) ∧ (zR e8 0 240) ∧ (zR e11 0 240) ∧ (zqa qE e12) ∧ ((b2 : Int32).toInt = -1 → zWF e12 ((e11 (0 : Int32).toNatClampNeg).toInt).toNat e10 ((e7 (0 : Int32).toNatClampNeg).toInt) ((b57 (0 : Int32).toNatClampNeg).toInt))) A) ([.ref b0, .int 0, .int b1, .int b2] : List Value).toArray s m_s1_Model_lay2.cells m_s1_Model_lay2.slots A) (F0 m 75 ls []) by
              exact key 13 (0) (y_287) (y_289) (y_290) _ _ _ (zI.wk (l' := 0) (h' := 12) zc_0 (by decide)) hy_287 hy_289 hy_290 (by have _l0 := li_0; omega) (fun h3 => zWF.wk (hli_292 h3) rfl li_0) (by have _l0 := li_0; have h9 := (zW5.len hb57 y_286.toInt.toNat (by omega)).1; omega) (zm_upi (zI.wk (l' := 0) (h' := 12) zc_0 (by decide)) (by decide)) hP hD hS (lv_sub hl [0, 1, 2, 3, 4, 5] rfl)
            intro k_337
            induction k_337 with
            | zero =>
              intro y_338 y_339 y_340 y_341 H locs ls hy_338 hy_339 hy_340 hy_341 hli_342 hli_343 hli_344 hmk_337 hP hD hS hl
              exact (zm_up0 hy_338 hmk_337).elim
            | succ k_337 ihk_337 =>
              intro y_338 y_339 y_340 y_341 H locs ls hy_338 hy_339 hy_340 hy_341 hli_342 hli_343 hli_344 hmk_337 hP hD hS hl
              refine lv_iload hx hb d_Model_lay2_75 (lv_at hl 0 rfl) ?_
              refine lv_aload_n hx hb d_Model_lay2_77 rfl (lv_at hl 2 rfl) ?_
              refine lv_iload hx hb d_Model_lay2_78 (lv_at hl 1 rfl) ?_
              refine z_callV (index := 203) (As := [.int y_286]) (rest := [.int y_338]) (wr := [(b28, .inl (G.2 0, 2, .inl y_340)), (b29, .inl (G.2 0, 2880, .inl y_341)), (b19, .inl (G.2 0, 4820, .inl f_3)), (b18, .inl (G.2 0, 2, .inl f_2)), (b20, .inl (G.2 0, 520, .inl f_4)), (b21, .inl (G.2 0, 9640, .inl f_196)), (b22, .inl (G.2 0, 482, .inl f_197)), (b23, .inl (G.2 0, 482, .inl f_198)), (b24, .inl (G.2 0, 2, .inl f_199)), (b25, .inl (G.2 0, 482, .inl f_200)), (b26, .inl (G.2 0, 482, .inl f_201)), (b27, .inl (G.2 0, 482, .inl y_288))]) Z (s1_Model_calls l G (b0) (y_286) (b3) (b4) (b5) (b6) (b7) (b8) (b9) (b10) (b11) (b12) (b13) (b14) (b15) (b16) (b17) (b18) (b19) (b20) (b21) (b22) (b23) (b24) (b25) (b26) (b27) (b28) (b29) (y_339) (b31) (b32) (b33) (b34) (b35) (b36) (b37) (b38) (b39) (b40) (b41) (b42) (b43) (b44) (b45) (b46) (b47) (b48) (b49) (b50) (b51) (b52) (b53) (b54) (b55) (b56) (b57) hv_300 hb8 hb10 hb11 hb13 hb17 hy_339 hb33 hb44 hb47 hb53 hb57) hl.1 q1352 q1354 qs54 q14 q1355 ⟨by decide, by decide, by show _ = some 1; decide +kernel⟩ ⟨Nat.le_of_ble_eq_true rfl, Nat.le_of_ble_eq_true rfl⟩ ⟨Nat.le_of_ble_eq_true rfl, Nat.le_of_ble_eq_true rfl⟩ rfl (Nat.le_of_ble_eq_true rfl) d_Model_lay2_80 hP hD hS hA 12 12 rfl rfl rfl [12, 13] [0, 1, 2, 3, 4, 5, 6, 7, 8, 9, 10, 11] rfl rfl rfl rfl (by decide) (fun v w1 H locs hw_345 hP hD hS => ?_)
              obtain ⟨x_346, rfl, rfl, hx_346, hfx_347⟩ := hw_345
              have hP : va_P G.1 classes [(b28, .inl (G.2 0, 2, .inl y_340)), (b29, .inl (G.2 0, 2880, .inl y_341)), (b19, .inl (G.2 0, 4820, .inl f_3)), (b18, .inl (G.2 0, 2, .inl f_2)), (b20, .inl (G.2 0, 520, .inl f_4)), (b21, .inl (G.2 0, 9640, .inl f_196)), (b22, .inl (G.2 0, 482, .inl f_197)), (b23, .inl (G.2 0, 482, .inl f_198)), (b24, .inl (G.2 0, 2, .inl f_199)), (b25, .inl (G.2 0, 482, .inl f_200)), (b26, .inl (G.2 0, 482, .inl f_201)), (b27, .inl (G.2 0, 482, .inl y_288)), (b0, .inr (12, [.int b3, .ref b4, .ref b5, .ref b6, .ref b7, .int b8, .ref b9, .int b10, .int b11, .int b12, .int b13, .ref b14, .ref b15, .ref b16, .int b17, .ref b18, .ref b19, .ref b20, .ref b21, .ref b22, .ref b23, .ref b24, .ref b25, .ref b26, .ref b27, .ref b28, .ref b29, .int y_339, .ref b31, .ref b32, .int b33, .int b34, .int b35, .int b36, .ref b37, .ref b38, .ref b39, .ref b40, .ref b41, .ref b42, .ref b43, .int b44, .ref b45, .ref b46, .int b47, .ref b48, .ref b49, .ref b50, .ref b51, .ref b52, .int b53, .ref b54, .ref b55, .ref b56])), (b4, .inl (G.2 0, 503, .inl b57))] H := hP
              have hD := z_tie hP hD rfl
              refine W.widen (k := 0) (n := 0) (Nat.le_of_ble_eq_true rfl) (Nat.le_of_ble_eq_true rfl) ?_
              refine lv_icmp_ge (tgt := 101) hx hb d_Model_lay2_83 (by decide) (fun hc_348 => ?_) (fun hc_348 => ?_)
              · have _nhc_348 := hc_348
                have ni_349 := (fa_le _ _).mp hc_348
                refine lv_aload_n hx hb d_Model_lay2_101 rfl (lv_at hl 2 rfl) ?_
                refine va_get (D := G.1) (ci := 12) (v := .ref b27) (C := R_Model) (T := F_Model) (N := 54) hx hb hts i_Model hown hK hP 12 rfl rfl 24 (by decide) (hts _ q1133) (fun _ h9 => h9) rfl d_Model_lay2_102 ?_
                refine lv_sipush (v := 241) hx hb d_Model_lay2_105 (by decide) ?_
                refine lv_iload_n hx hb d_Model_lay2_108 rfl (lv_at hl 3 rfl) ?_
                refine lv_imul hx hb d_Model_lay2_109 ?_
                refine z_topi (y := 0) (by decide +kernel) ?_
                refine lv_aload_n hx hb d_Model_lay2_110 rfl (lv_at hl 2 rfl) ?_
                refine lv_iload_n hx hb d_Model_lay2_111 rfl (lv_at hl 3 rfl) ?_
                refine lv_iload hx hb d_Model_lay2_112 (lv_at hl 1 rfl) ?_
                refine lv_aload_n hx hb d_Model_lay2_114 rfl (lv_at hl 2 rfl) ?_
                refine lv_iload hx hb d_Model_lay2_115 (lv_at hl 1 rfl) ?_
                refine z_callV (index := 203) (As := [.int y_286]) (rest := [.int y_286, .int 0, .ref b0, .int 0, .ref b27]) (wr := [(b28, .inl (G.2 0, 2, .inl y_340)), (b29, .inl (G.2 0, 2880, .inl y_341)), (b19, .inl (G.2 0, 4820, .inl f_3)), (b18, .inl (G.2 0, 2, .inl f_2)), (b20, .inl (G.2 0, 520, .inl f_4)), (b21, .inl (G.2 0, 9640, .inl f_196)), (b22, .inl (G.2 0, 482, .inl f_197)), (b23, .inl (G.2 0, 482, .inl f_198)), (b24, .inl (G.2 0, 2, .inl f_199)), (b25, .inl (G.2 0, 482, .inl f_200)), (b26, .inl (G.2 0, 482, .inl f_201)), (b27, .inl (G.2 0, 482, .inl y_288))]) Z (s1_Model_calls l G (b0) (y_286) (b3) (b4) (b5) (b6) (b7) (b8) (b9) (b10) (b11) (b12) (b13) (b14) (b15) (b16) (b17) (b18) (b19) (b20) (b21) (b22) (b23) (b24) (b25) (b26) (b27) (b28) (b29) (y_339) (b31) (b32) (b33) (b34) (b35) (b36) (b37) (b38) (b39) (b40) (b41) (b42) (b43) (b44) (b45) (b46) (b47) (b48) (b49) (b50) (b51) (b52) (b53) (b54) (b55) (b56) (b57) hv_300 hb8 hb10 hb11 hb13 hb17 hy_339 hb33 hb44 hb47 hb53 hb57) hl.1 q1352 q1354 qs54 q14 q1355 ⟨by decide, by decide, by show _ = some 1; decide +kernel⟩ ⟨Nat.le_of_ble_eq_true rfl, Nat.le_of_ble_eq_true rfl⟩ ⟨Nat.le_of_ble_eq_true rfl, Nat.le_of_ble_eq_true rfl⟩ rfl (Nat.le_of_ble_eq_true rfl) d_Model_lay2_117 hP hD hS hA 12 12 rfl rfl rfl [12, 13] [0, 1, 2, 3, 4, 5, 6, 7, 8, 9, 10, 11] rfl rfl rfl rfl (by decide) (fun v w1 H locs hw_350 hP hD hS => ?_)
                obtain ⟨x_351, rfl, rfl, hx_351, hfx_352⟩ := hw_350
                have hP : va_P G.1 classes [(b28, .inl (G.2 0, 2, .inl y_340)), (b29, .inl (G.2 0, 2880, .inl y_341)), (b19, .inl (G.2 0, 4820, .inl f_3)), (b18, .inl (G.2 0, 2, .inl f_2)), (b20, .inl (G.2 0, 520, .inl f_4)), (b21, .inl (G.2 0, 9640, .inl f_196)), (b22, .inl (G.2 0, 482, .inl f_197)), (b23, .inl (G.2 0, 482, .inl f_198)), (b24, .inl (G.2 0, 2, .inl f_199)), (b25, .inl (G.2 0, 482, .inl f_200)), (b26, .inl (G.2 0, 482, .inl f_201)), (b27, .inl (G.2 0, 482, .inl y_288)), (b0, .inr (12, [.int b3, .ref b4, .ref b5, .ref b6, .ref b7, .int b8, .ref b9, .int b10, .int b11, .int b12, .int b13, .ref b14, .ref b15, .ref b16, .int b17, .ref b18, .ref b19, .ref b20, .ref b21, .ref b22, .ref b23, .ref b24, .ref b25, .ref b26, .ref b27, .ref b28, .ref b29, .int y_339, .ref b31, .ref b32, .int b33, .int b34, .int b35, .int b36, .ref b37, .ref b38, .ref b39, .ref b40, .ref b41, .ref b42, .ref b43, .int b44, .ref b45, .ref b46, .int b47, .ref b48, .ref b49, .ref b50, .ref b51, .ref b52, .int b53, .ref b54, .ref b55, .ref b56])), (b4, .inl (G.2 0, 503, .inl b57))] H := hP
                have hD := z_tie hP hD rfl
                refine W.widen (k := 0) (n := 0) (Nat.le_of_ble_eq_true rfl) (Nat.le_of_ble_eq_true rfl) ?_
                refine z_callV (index := 231) (As := [.int 0, .int y_286, .int x_351]) (rest := [.int 0, .ref b27]) (wr := [(b28, .inl (G.2 0, 2, .inl y_340)), (b29, .inl (G.2 0, 2880, .inl y_341)), (b19, .inl (G.2 0, 4820, .inl f_3)), (b18, .inl (G.2 0, 2, .inl f_2)), (b21, .inl (G.2 0, 9640, .inl f_196)), (b22, .inl (G.2 0, 482, .inl f_197)), (b24, .inl (G.2 0, 2, .inl f_199)), (b25, .inl (G.2 0, 482, .inl f_200)), (b26, .inl (G.2 0, 482, .inl f_201)), (b27, .inl (G.2 0, 482, .inl y_288)), (b4, .inl (G.2 0, 503, .inl b57))]) Z (s1_Model_stateAt l G (b0) (y_286) (x_351) (b3) (b4) (b5) (b6) (b7) (b8) (b9) (b10) (b11) (b12) (b13) (b14) (b15) (b16) (b17) (b18) (b19) (b20) (b21) (b22) (b23) (b24) (b25) (b26) (b27) (b28) (b29) (y_339) (b31) (b32) (b33) (b34) (b35) (b36) (b37) (b38) (b39) (b40) (b41) (b42) (b43) (b44) (b45) (b46) (b47) (b48) (b49) (b50) (b51) (b52) (b53) (b54) (b55) (b56) (f_4) (f_198) hv_300 hx_351 hb8 hb10 hb11 hb13 hb17 hy_339 hb33 hb44 hb47 hb53 hf_4 hf_198) hl.1 q1400 q1402 qs66 q14 q1403 ⟨by decide, by decide, by show _ = some 3; decide +kernel⟩ ⟨Nat.le_of_ble_eq_true rfl, Nat.le_of_ble_eq_true rfl⟩ ⟨Nat.le_of_ble_eq_true rfl, Nat.le_of_ble_eq_true rfl⟩ rfl (Nat.le_of_ble_eq_true rfl) d_Model_lay2_120 hP hD hS hA 12 12 rfl rfl rfl [12, 4, 7] [0, 1, 2, 3, 5, 6, 8, 9, 10, 11, 13] rfl rfl rfl rfl (by decide) (fun v w1 H locs hw_353 hP hD hS => ?_)
                obtain ⟨x_354, rfl, rfl, hx_354, hfx_355⟩ := hw_353
                have hP : va_P G.1 classes [(b28, .inl (G.2 0, 2, .inl y_340)), (b29, .inl (G.2 0, 2880, .inl y_341)), (b19, .inl (G.2 0, 4820, .inl f_3)), (b18, .inl (G.2 0, 2, .inl f_2)), (b21, .inl (G.2 0, 9640, .inl f_196)), (b22, .inl (G.2 0, 482, .inl f_197)), (b24, .inl (G.2 0, 2, .inl f_199)), (b25, .inl (G.2 0, 482, .inl f_200)), (b26, .inl (G.2 0, 482, .inl f_201)), (b27, .inl (G.2 0, 482, .inl y_288)), (b4, .inl (G.2 0, 503, .inl b57)), (b0, .inr (12, [.int b3, .ref b4, .ref b5, .ref b6, .ref b7, .int b8, .ref b9, .int b10, .int b11, .int b12, .int b13, .ref b14, .ref b15, .ref b16, .int b17, .ref b18, .ref b19, .ref b20, .ref b21, .ref b22, .ref b23, .ref b24, .ref b25, .ref b26, .ref b27, .ref b28, .ref b29, .int y_339, .ref b31, .ref b32, .int b33, .int b34, .int b35, .int b36, .ref b37, .ref b38, .ref b39, .ref b40, .ref b41, .ref b42, .ref b43, .int b44, .ref b45, .ref b46, .int b47, .ref b48, .ref b49, .ref b50, .ref b51, .ref b52, .int b53, .ref b54, .ref b55, .ref b56])), (b20, .inl (G.2 0, 520, .inl f_4)), (b23, .inl (G.2 0, 482, .inl f_198))] H := hP
                have hD := z_tie hP hD rfl
                refine W.widen (k := 0) (n := 0) (Nat.le_of_ble_eq_true rfl) (Nat.le_of_ble_eq_true rfl) ?_
                refine lv_iadd hx hb d_Model_lay2_123 ?_
                refine lv_topi (fun v_356 ev_356 => ?_)
                obtain ⟨qv_356, hv_356⟩ := zI_add (l := 0) (h := 240) zc_0 hx_354 ev_356 (by decide)
                rw [li_0] at qv_356
                refine lv_dup2_11 hx hb d_Model_lay2_124 rfl rfl ?_
                refine va_iald hx hb hK hP 9 0 rfl rfl (zI.inn hv_356 (by decide)) d_Model_lay2_125 ?_
                refine lv_topi (fun v_357 ev_357 => ?_)
                refine lv_iconst (v := 1) hx hb d_Model_lay2_126 (by decide) ?_
                refine lv_iadd hx hb d_Model_lay2_127 ?_
                refine lv_topi (fun v_358 ev_358 => ?_)
                refine va_iast hx hb hK hP hD hS 9 0 rfl rfl (zI.inn hv_356 (by decide)) d_Model_lay2_128 (fun H locs hP hD hS => ?_)
                obtain ⟨f_359, gf_359, uf_359, hP, hD⟩ := z_newFu 9 hP hD rfl
                have hP : va_P G.1 classes [(b28, .inl (G.2 0, 2, .inl y_340)), (b29, .inl (G.2 0, 2880, .inl y_341)), (b19, .inl (G.2 0, 4820, .inl f_3)), (b18, .inl (G.2 0, 2, .inl f_2)), (b21, .inl (G.2 0, 9640, .inl f_196)), (b22, .inl (G.2 0, 482, .inl f_197)), (b24, .inl (G.2 0, 2, .inl f_199)), (b25, .inl (G.2 0, 482, .inl f_200)), (b26, .inl (G.2 0, 482, .inl f_201)), (b27, .inl (G.2 0, 482, .inl f_359)), (b4, .inl (G.2 0, 503, .inl b57)), (b0, .inr (12, [.int b3, .ref b4, .ref b5, .ref b6, .ref b7, .int b8, .ref b9, .int b10, .int b11, .int b12, .int b13, .ref b14, .ref b15, .ref b16, .int b17, .ref b18, .ref b19, .ref b20, .ref b21, .ref b22, .ref b23, .ref b24, .ref b25, .ref b26, .ref b27, .ref b28, .ref b29, .int y_339, .ref b31, .ref b32, .int b33, .int b34, .int b35, .int b36, .ref b37, .ref b38, .ref b39, .ref b40, .ref b41, .ref b42, .ref b43, .int b44, .ref b45, .ref b46, .int b47, .ref b48, .ref b49, .ref b50, .ref b51, .ref b52, .int b53, .ref b54, .ref b55, .ref b56])), (b20, .inl (G.2 0, 520, .inl f_4)), (b23, .inl (G.2 0, 482, .inl f_198))] H := hP
                have hD := z_tie hP hD rfl
                obtain ⟨v_360, ev_360⟩ : ∃ z : Int32, z = y_286 + 1 := ⟨_, rfl⟩
                obtain ⟨qv_360, hv_360⟩ := zI_add (l := 1) (h := 20) hv_300 zc_1 ev_360 (by decide)
                rw [li_1] at qv_360
                refine lv_iinc (v := v_360) (lv' := [(4, .int v_360), (5, .int y_338), (0, .ref b0), (1, .int 0), (2, .int b1), (3, .int b2)]) hx hb d_Model_lay2_129 hl (k := 1) rfl (by rw [ev_360]; rfl) (by decide) rfl (fun ls hl => ?_)
                refine lv_goto (tgt := 57) hx hb d_Model_lay2_132 (by decide) ?_
                exact ihk_285 (v_360) (y_339) (f_359) (y_340) (y_341) _ _ _ (zI.wk (l' := 0) (h' := 20) hv_360 (by decide)) hy_339 hy_340 hy_341 (by omega) (fun h3 => by have hs9 := (zst_r hfx_6 (hfx_203 h3 (by have h2 := congrArg Int32.toInt hfx_296; omega) hfx_7) hf_198 hf_4 y_286.toInt.toNat y_338.toInt.toNat (by have h2 := congrArg Int32.toInt hfx_296; omega) (by omega) (by have h1 := hli_344; omega)); have _l0 := li_0; have _l1 := li_1; have p9 := z_pl hv_356 (by decide); have hz : x_354.toInt = zst f_198 f_4 y_286.toInt.toNat y_338.toInt.toNat := (by have h4 := congrArg Int32.toInt hfx_355; have h5 := congrArg Int32.toInt hfx_352; have h7 := congrArg Int32.toInt hfx_347; have h6 : x_351.toInt.toNat = y_338.toInt.toNat := (by have h8 := hli_344; omega); rw [h6] at h4; exact h4); have hen := (hli_343 h3).2.2.1 v_356.toNatClampNeg (by omega); rw [← ev_357] at hen; have hv := z_addq ev_358 (by omega); exact zWK.fin (t := y_286.toInt) (i := y_338.toInt) (hli_343 h3) ⟨by omega, by omega, by omega⟩ (by omega) hs9 (by intro q; rw [uf_359, z_at]; by_cases hq : q = v_356.toNatClampNeg; rw [if_pos hq, if_pos (by omega), hq, ← ev_357]; omega; rw [if_neg hq, if_neg (by omega)]; omega) (fun _ => (zst_0 (hfx_8 _ (by have h2 := congrArg Int32.toInt hfx_296; omega)) (hfx_204 h3 (by have h2 := congrArg Int32.toInt hfx_296; omega) hfx_7)))) (by have h2 := congrArg Int32.toInt hfx_296; omega) (zm_up qv_360 hmk_285 (by decide)) (hP.sub [0, 1, 2, 11, 10, 3, 12, 4, 5, 13, 6, 7, 8, 9] rfl) (hD.sub [0, 1, 2, 11, 10, 3, 12, 4, 5, 13, 6, 7, 8, 9] (by decide) rfl) hS (lv_sub hl [0, 2, 3, 4, 5] rfl)
              · have _nhc_348 := hc_348
                have ni_361 := (fa_lt _ _).mp (zi_nle hc_348)
                have hv_362 : zI y_338 0 11 := zI.lt_l hy_338 hx_346 (zi_nle hc_348) (by decide)
                have hv_363 : zI x_346 1 12 := zI.lt_r hy_338 hx_346 (zi_nle hc_348) (by decide)
                refine lv_aload_n hx hb d_Model_lay2_86 rfl (lv_at hl 2 rfl) ?_
                refine lv_iload_n hx hb d_Model_lay2_87 rfl (lv_at hl 3 rfl) ?_
                refine lv_iload hx hb d_Model_lay2_88 (lv_at hl 1 rfl) ?_
                refine lv_iload hx hb d_Model_lay2_90 (lv_at hl 0 rfl) ?_
                refine z_callV (index := 248) (As := [.int 0, .int y_286, .int y_338]) (rest := []) (wr := [(b19, .inl (G.2 0, 4820, .inl f_3)), (b18, .inl (G.2 0, 2, .inl f_2)), (b21, .inl (G.2 0, 9640, .inl f_196)), (b22, .inl (G.2 0, 482, .inl f_197)), (b24, .inl (G.2 0, 2, .inl f_199)), (b25, .inl (G.2 0, 482, .inl f_200)), (b26, .inl (G.2 0, 482, .inl f_201)), (b27, .inl (G.2 0, 482, .inl y_288))]) Z (s1_Model_addEdge l G (b0) (y_286) (y_338) (b3) (b4) (b5) (b6) (b7) (b8) (b9) (b10) (b11) (b12) (b13) (b14) (b15) (b16) (b17) (b18) (b19) (b20) (b21) (b22) (b23) (b24) (b25) (b26) (b27) (b28) (b29) (y_339) (b31) (b32) (b33) (b34) (b35) (b36) (b37) (b38) (b39) (b40) (b41) (b42) (b43) (b44) (b45) (b46) (b47) (b48) (b49) (b50) (b51) (b52) (b53) (b54) (b55) (b56) (b57) (f_4) (f_198) (y_340) (y_341) hv_300 hv_362 hb8 hb10 hb11 hb13 hb17 hy_339 hb33 hb44 hb47 hb53 hb57 hf_4 hf_198 hy_340 hy_341 (by omega)) hl.1 q1396 q1398 qs65 q14 q1399 ⟨by decide, by decide, by show _ = some 3; decide +kernel⟩ ⟨Nat.le_of_ble_eq_true rfl, Nat.le_of_ble_eq_true rfl⟩ ⟨Nat.le_of_ble_eq_true rfl, Nat.le_of_ble_eq_true rfl⟩ rfl (Nat.le_of_ble_eq_true rfl) d_Model_lay2_92 hP hD hS hA 12 12 rfl rfl rfl [12, 13, 4, 7, 0, 1] [2, 3, 5, 6, 8, 9, 10, 11] rfl rfl rfl rfl (by decide) (fun v w1 H locs hw_364 hP hD hS => ?_)
                obtain ⟨x_365, f_366, f_367, rfl, rfl, hx_365, hf_366, hf_367, hfx_368, hfx_369⟩ := hw_364
                have hP : va_P G.1 classes [(b19, .inl (G.2 0, 4820, .inl f_3)), (b18, .inl (G.2 0, 2, .inl f_2)), (b21, .inl (G.2 0, 9640, .inl f_196)), (b22, .inl (G.2 0, 482, .inl f_197)), (b24, .inl (G.2 0, 2, .inl f_199)), (b25, .inl (G.2 0, 482, .inl f_200)), (b26, .inl (G.2 0, 482, .inl f_201)), (b27, .inl (G.2 0, 482, .inl y_288)), (b0, .inr (12, [.int b3, .ref b4, .ref b5, .ref b6, .ref b7, .int b8, .ref b9, .int b10, .int b11, .int b12, .int b13, .ref b14, .ref b15, .ref b16, .int b17, .ref b18, .ref b19, .ref b20, .ref b21, .ref b22, .ref b23, .ref b24, .ref b25, .ref b26, .ref b27, .ref b28, .ref b29, .int x_365, .ref b31, .ref b32, .int b33, .int b34, .int b35, .int b36, .ref b37, .ref b38, .ref b39, .ref b40, .ref b41, .ref b42, .ref b43, .int b44, .ref b45, .ref b46, .int b47, .ref b48, .ref b49, .ref b50, .ref b51, .ref b52, .int b53, .ref b54, .ref b55, .ref b56])), (b4, .inl (G.2 0, 503, .inl b57)), (b20, .inl (G.2 0, 520, .inl f_4)), (b23, .inl (G.2 0, 482, .inl f_198)), (b28, .inl (G.2 0, 2, .inl f_366)), (b29, .inl (G.2 0, 2880, .inl f_367))] H := hP
                have hD := z_tie hP hD rfl
                refine W.widen (k := 0) (n := 0) (Nat.le_of_ble_eq_true rfl) (Nat.le_of_ble_eq_true rfl) ?_
                obtain ⟨v_370, ev_370⟩ : ∃ z : Int32, z = y_338 + 1 := ⟨_, rfl⟩
                obtain ⟨qv_370, hv_370⟩ := zI_add (l := 1) (h := 12) hv_362 zc_1 ev_370 (by decide)
                rw [li_1] at qv_370
                refine lv_iinc (v := v_370) (lv' := [(5, .int v_370), (4, .int y_286), (0, .ref b0), (1, .int 0), (2, .int b1), (3, .int b2)]) hx hb d_Model_lay2_95 hl (k := 0) rfl (by rw [ev_370]; rfl) (by decide) rfl (fun ls hl => ?_)
                refine lv_goto (tgt := 75) hx hb d_Model_lay2_98 (by decide) ?_
                exact ihk_337 (v_370) (x_365) (f_366) (f_367) _ _ _ (zI.wk (l' := 0) (h' := 12) hv_370 (by decide)) hx_365 hf_366 hf_367 (by omega) (fun h3 => zWK.cg (zWK.add (hli_343 h3) (hfx_369 (zWK.ub (hli_343 h3) ⟨by omega, by omega⟩)) ⟨by omega, by omega⟩ (zst_r hfx_6 (hfx_203 h3 (by have h2 := congrArg Int32.toInt hfx_296; omega) hfx_7) hf_198 hf_4 y_286.toInt.toNat y_338.toInt.toNat (by have h2 := congrArg Int32.toInt hfx_296; omega) (by omega) (by have h1 := hli_344; omega)) (zst_r hfx_6 (hfx_203 h3 (by have h2 := congrArg Int32.toInt hfx_296; omega) hfx_7) hf_198 hf_4 _ _ (by have h2 := congrArg Int32.toInt hfx_296; omega) (by omega) (by have h1 := hli_344; have h9 := congrArg Int32.toInt hfx_347; omega)) (fun _ => (zst_0 (hfx_8 _ (by have h2 := congrArg Int32.toInt hfx_296; omega)) (hfx_204 h3 (by have h2 := congrArg Int32.toInt hfx_296; omega) hfx_7)))) rfl (by omega)) (by have h9 := congrArg Int32.toInt hfx_347; omega) (zm_up qv_370 hmk_337 (by decide)) (hP.sub [12, 13, 0, 1, 10, 2, 3, 11, 4, 5, 6, 7, 8, 9] rfl) (hD.sub [12, 13, 0, 1, 10, 2, 3, 11, 4, 5, 6, 7, 8, 9] (by decide) rfl) hS (lv_sub hl [0, 1, 2, 3, 4, 5] rfl)
    · have _nhc_193 := hc_193
      have ni_371 := (fa_lt _ _).mp (zi_nle hc_193)
      have hv_372 : zI y_189 0 240 := zI.lt_l hy_189 hv_192 (zi_nle hc_193) (by decide)
      have hv_373 : zI v_192 1 241 := zI.lt_r hy_189 hv_192 (zi_nle hc_193) (by decide)
      refine lv_aload_n hx hb d_Model_lay2_20 rfl (lv_at hl 1 rfl) ?_
      refine va_get (D := G.1) (ci := 12) (v := .ref b22) (C := R_Model) (T := F_Model) (N := 54) hx hb hts i_Model hown hK hP 8 rfl rfl 19 (by decide) (hts _ q1128) (fun _ h9 => h9) rfl d_Model_lay2_21 ?_
      refine lv_sipush (v := 241) hx hb d_Model_lay2_24 (by decide) ?_
      refine lv_iload_n hx hb d_Model_lay2_27 rfl (lv_at hl 2 rfl) ?_
      refine lv_imul hx hb d_Model_lay2_28 ?_
      refine z_topi (y := 0) (by decide +kernel) ?_
      refine lv_iload hx hb d_Model_lay2_29 (lv_at hl 0 rfl) ?_
      refine lv_iadd hx hb d_Model_lay2_31 ?_
      refine lv_topi (fun v_374 ev_374 => ?_)
      obtain ⟨qv_374, hv_374⟩ := zI_add (l := 0) (h := 240) zc_0 hv_372 ev_374 (by decide)
      rw [li_0] at qv_374
      refine lv_iconst (v := 0) hx hb d_Model_lay2_32 (by decide) ?_
      refine va_iast hx hb hK hP hD hS 13 0 rfl rfl (zI.inn hv_374 (by decide)) d_Model_lay2_33 (fun H locs hP hD hS => ?_)
      obtain ⟨f_375, hf_375, gf_375, uf_375, hP, hD⟩ := z_newq_ (Q := qC) 13 hP hD rfl hy_190 (qC_v hv_374 (by decide) ⟨⟨by have _w := li_0; have _x := hv_374; omega, by have _w := li_0; have _x := hv_374; omega⟩, by have _w := li_0; have _x := hv_374; omega⟩)
      have hP : va_P G.1 classes [(b21, .inl (G.2 0, 9640, .inl b61)), (b23, .inl (G.2 0, 482, .inl b63)), (b24, .inl (G.2 0, 2, .inl b64)), (b25, .inl (G.2 0, 482, .inl b65)), (b26, .inl (G.2 0, 482, .inl b66)), (b27, .inl (G.2 0, 482, .inl b67)), (b28, .inl (G.2 0, 2, .inl b68)), (b29, .inl (G.2 0, 2880, .inl b69)), (b0, .inr (12, [.int b3, .ref b4, .ref b5, .ref b6, .ref b7, .int b8, .ref b9, .int b10, .int b11, .int b12, .int b13, .ref b14, .ref b15, .ref b16, .int b17, .ref b18, .ref b19, .ref b20, .ref b21, .ref b22, .ref b23, .ref b24, .ref b25, .ref b26, .ref b27, .ref b28, .ref b29, .int b30, .ref b31, .ref b32, .int b33, .int b34, .int b35, .int b36, .ref b37, .ref b38, .ref b39, .ref b40, .ref b41, .ref b42, .ref b43, .int b44, .ref b45, .ref b46, .int b47, .ref b48, .ref b49, .ref b50, .ref b51, .ref b52, .int b53, .ref b54, .ref b55, .ref b56])), (b4, .inl (G.2 0, 503, .inl b57)), (b18, .inl (G.2 0, 2, .inl f_2)), (b19, .inl (G.2 0, 4820, .inl f_3)), (b20, .inl (G.2 0, 520, .inl f_4)), (b22, .inl (G.2 0, 482, .inl f_375))] H := hP
      have hD := z_tie hP hD rfl
      obtain ⟨v_376, ev_376⟩ : ∃ z : Int32, z = y_189 + 1 := ⟨_, rfl⟩
      obtain ⟨qv_376, hv_376⟩ := zI_add (l := 1) (h := 241) hv_372 zc_1 ev_376 (by decide)
      rw [li_1] at qv_376
      refine lv_iinc (v := v_376) (lv' := [(4, .int v_376), (0, .ref b0), (1, .int 0), (2, .int b1), (3, .int b2)]) hx hb d_Model_lay2_34 hl (k := 0) rfl (by rw [ev_376]; rfl) (by decide) rfl (fun ls hl => ?_)
      refine lv_goto (tgt := 9) hx hb d_Model_lay2_37 (by decide) ?_
      exact ihk_188 (v_376) (f_375) _ _ _ (zI.wk (l' := 0) (h' := 241) hv_376 (by decide)) hf_375 (by have _l0 := li_0; have p9 := z_pl hv_374 (by decide); intro q hq; rw [uf_375, z_at]; split; omega; exact hli_191 q (by omega)) (zm_up qv_376 hmk_188 (by decide)) hP hD hS (lv_sub hl [0, 1, 2, 3, 4] rfl)
abbrev m_s10_Model_edgeAt : Room := { frames := 0, cells := 0, slots := 0, locals := 0 }
set_option maxHeartbeats 4000000 in
set_option maxRecDepth 100000 in
theorem s10_Model_edgeAt (l : Launch) (G : zG) (b0 : Nat) (b1 : Int32) (b2 : Int32) (b3 : Nat) (b4 : Nat) (b5 : Nat) (b6 : Nat) (b7 : Int32) (b8 : Nat) (b9 : Int32) (b10 : Int32) (b11 : Int32) (b12 : Int32) (b13 : Nat) (b14 : Nat) (b15 : Nat) (b16 : Int32) (b17 : Nat) (b18 : Nat) (b19 : Nat) (b20 : Nat) (b21 : Nat) (b22 : Nat) (b23 : Nat) (b24 : Nat) (b25 : Nat) (b26 : Nat) (b27 : Nat) (b28 : Nat) (b29 : Int32) (b30 : Nat) (b31 : Nat) (b32 : Int32) (b33 : Int32) (b34 : Int32) (b35 : Int32) (b36 : Nat) (b37 : Nat) (b38 : Nat) (b39 : Nat) (b40 : Nat) (b41 : Nat) (b42 : Nat) (b43 : Int32) (b44 : Nat) (b45 : Nat) (b46 : Int32) (b47 : Nat) (b48 : Nat) (b49 : Nat) (b50 : Nat) (b51 : Nat) (b52 : Int32) (b53 : Nat) (b54 : Nat) (b55 : Nat) (b56 : Nat → Int32) (hb1 : zI b1 0 239) (hb7 : zI b7 0 8) (hb9 : zI b9 0 240) (hb10 : zI b10 0 240) (hb12 : zI b12 0 1) (hb16 : zI b16 0 12) (hb29 : zI b29 0 1) (hb32 : zI b32 0 1) (hb43 : zI b43 0 1000) (hb46 : zI b46 0 1000) (hb52 : zI b52 0 400) (hb56 : zqa qE b56) : zM l G y_Model_edgeAt prog_14_method_25_code 4 (Option.some Jvm.ClassFile.FieldType.int) m_s10_Model_edgeAt [.ref b0, .int 1, .int b1, .int 0] [(b0, .inr (12, [.int b2, .ref b3, .ref b4, .ref b5, .ref b6, .int b7, .ref b8, .int b9, .int b10, .int b11, .int b12, .ref b13, .ref b14, .ref b15, .int b16, .ref b17, .ref b18, .ref b19, .ref b20, .ref b21, .ref b22, .ref b23, .ref b24, .ref b25, .ref b26, .ref b27, .ref b28, .int b29, .ref b30, .ref b31, .int b32, .int b33, .int b34, .int b35, .ref b36, .ref b37, .ref b38, .ref b39, .ref b40, .ref b41, .ref b42, .int b43, .ref b44, .ref b45, .int b46, .ref b47, .ref b48, .ref b49, .ref b50, .ref b51, .int b52, .ref b53, .ref b54, .ref b55])), (b28, .inl (G.2 0, 2880, .inl b56))] (fun v w => ∃ (e0 : Int32), v = some (.int e0) ∧ w = [(b0, .inr (12, [.int b2, .ref b3, .ref b4, .ref b5, .ref b6, .int b7, .ref b8, .int b9, .int b10, .int b11, .int b12, .ref b13, .ref b14, .ref b15, .int b16, .ref b17, .ref b18, .ref b19, .ref b20, .ref b21, .ref b22, .ref b23, .ref b24, .ref b25, .ref b26, .ref b27, .ref b28, .int b29, .ref b30, .ref b31, .int b32, .int b33, .int b34, .int b35, .ref b36, .ref b37, .ref b38, .ref b39, .ref b40, .ref b41, .ref b42, .int b43, .ref b44, .ref b45, .int b46, .ref b47, .ref b48, .ref b49, .ref b50, .ref b51, .int b52, .ref b53, .ref b54, .ref b55])), (b28, .inl (G.2 0, 2880, .inl b56))] ∧ (zI e0 0 240)) := by
  refine z_start (by decide +kernel) (Nat.le_of_ble_eq_true rfl) ?_
  intro p e s m below meth c A Z hr hnm hA hP hD hS ls hl
  have Z : zC p s m _ meth c prog_14_method_25_code 4 "TraceMachinesModel" G := Z
  obtain ⟨hx, hb, hml, hown, hts, hK, hN, hlocks⟩ := id Z
  have hl : lv_has ls 4 [(0, .ref b0), (1, .int 1), (2, .int b1), (3, .int 0)] := hl
  refine lv_aload_n hx hb d_Model_edgeAt_0 rfl (lv_at hl 0 rfl) ?_
  refine va_get (D := G.1) (ci := 12) (v := .ref b28) (C := R_Model) (T := F_Model) (N := 54) hx hb hts i_Model hown hK hP 0 rfl rfl 26 (by decide) (hts _ q1135) (fun _ h9 => h9) rfl d_Model_edgeAt_1 ?_
  refine lv_bipush (v := 6) hx hb d_Model_edgeAt_4 (by decide) ?_
  refine lv_sipush (v := 240) hx hb d_Model_edgeAt_6 (by decide) ?_
  refine lv_iload_n hx hb d_Model_edgeAt_9 rfl (lv_at hl 1 rfl) ?_
  refine lv_imul hx hb d_Model_edgeAt_10 ?_
  refine z_topi (y := 240) (by decide +kernel) ?_
  refine lv_iload_n hx hb d_Model_edgeAt_11 rfl (lv_at hl 2 rfl) ?_
  refine lv_iadd hx hb d_Model_edgeAt_12 ?_
  refine lv_topi (fun v_1 ev_1 => ?_)
  obtain ⟨qv_1, hv_1⟩ := zI_add (l := 240) (h := 479) zc_240 hb1 ev_1 (by decide)
  rw [li_240] at qv_1
  refine lv_imul hx hb d_Model_edgeAt_13 ?_
  refine lv_topi (fun v_2 ev_2 => ?_)
  obtain ⟨qv_2, hv_2⟩ := zI_mul (l := 1440) (h := 2874) zc_6 hv_1 ev_2 (by decide)
  rw [li_6] at qv_2
  refine lv_iload_n hx hb d_Model_edgeAt_14 rfl (lv_at hl 3 rfl) ?_
  refine lv_iadd hx hb d_Model_edgeAt_15 ?_
  refine lv_topi (fun v_3 ev_3 => ?_)
  obtain ⟨qv_3, hv_3⟩ := zI_add (l := 1440) (h := 2874) hv_2 zc_0 ev_3 (by decide)
  rw [li_0] at qv_3
  refine va_iald hx hb hK hP 1 0 rfl rfl (zI.inn hv_3 (by decide)) d_Model_edgeAt_16 ?_
  refine lv_topi (fun v_4 ev_4 => ?_)
  have kv_4 := zQE.ld hb56 hv_3 ev_4 (by decide)
  have hv_4 : zI v_4 0 240 := kv_4.1 (by omega)
  exact z_iret hx hb hr hlocks hP hD hS (Nat.le_of_ble_eq_true rfl) (Nat.le_of_ble_eq_true rfl) d_Model_edgeAt_17 ⟨v_4, rfl, rfl, hv_4⟩
abbrev m_s11_Model_edgeAt : Room := { frames := 0, cells := 0, slots := 0, locals := 0 }
set_option maxHeartbeats 4000000 in
set_option maxRecDepth 100000 in
theorem s11_Model_edgeAt (l : Launch) (G : zG) (b0 : Nat) (b1 : Int32) (b2 : Int32) (b3 : Nat) (b4 : Nat) (b5 : Nat) (b6 : Nat) (b7 : Int32) (b8 : Nat) (b9 : Int32) (b10 : Int32) (b11 : Int32) (b12 : Int32) (b13 : Nat) (b14 : Nat) (b15 : Nat) (b16 : Int32) (b17 : Nat) (b18 : Nat) (b19 : Nat) (b20 : Nat) (b21 : Nat) (b22 : Nat) (b23 : Nat) (b24 : Nat) (b25 : Nat) (b26 : Nat) (b27 : Nat) (b28 : Nat) (b29 : Int32) (b30 : Nat) (b31 : Nat) (b32 : Int32) (b33 : Int32) (b34 : Int32) (b35 : Int32) (b36 : Nat) (b37 : Nat) (b38 : Nat) (b39 : Nat) (b40 : Nat) (b41 : Nat) (b42 : Nat) (b43 : Int32) (b44 : Nat) (b45 : Nat) (b46 : Int32) (b47 : Nat) (b48 : Nat) (b49 : Nat) (b50 : Nat) (b51 : Nat) (b52 : Int32) (b53 : Nat) (b54 : Nat) (b55 : Nat) (b56 : Nat → Int32) (hb1 : zI b1 0 239) (hb7 : zI b7 0 8) (hb9 : zI b9 0 240) (hb10 : zI b10 0 240) (hb12 : zI b12 0 1) (hb16 : zI b16 0 12) (hb29 : zI b29 0 1) (hb32 : zI b32 0 1) (hb43 : zI b43 0 1000) (hb46 : zI b46 0 1000) (hb52 : zI b52 0 400) (hb56 : zqa qE b56) : zM l G y_Model_edgeAt prog_14_method_25_code 4 (Option.some Jvm.ClassFile.FieldType.int) m_s11_Model_edgeAt [.ref b0, .int 1, .int b1, .int 1] [(b0, .inr (12, [.int b2, .ref b3, .ref b4, .ref b5, .ref b6, .int b7, .ref b8, .int b9, .int b10, .int b11, .int b12, .ref b13, .ref b14, .ref b15, .int b16, .ref b17, .ref b18, .ref b19, .ref b20, .ref b21, .ref b22, .ref b23, .ref b24, .ref b25, .ref b26, .ref b27, .ref b28, .int b29, .ref b30, .ref b31, .int b32, .int b33, .int b34, .int b35, .ref b36, .ref b37, .ref b38, .ref b39, .ref b40, .ref b41, .ref b42, .int b43, .ref b44, .ref b45, .int b46, .ref b47, .ref b48, .ref b49, .ref b50, .ref b51, .int b52, .ref b53, .ref b54, .ref b55])), (b28, .inl (G.2 0, 2880, .inl b56))] (fun v w => ∃ (e0 : Int32), v = some (.int e0) ∧ w = [(b0, .inr (12, [.int b2, .ref b3, .ref b4, .ref b5, .ref b6, .int b7, .ref b8, .int b9, .int b10, .int b11, .int b12, .ref b13, .ref b14, .ref b15, .int b16, .ref b17, .ref b18, .ref b19, .ref b20, .ref b21, .ref b22, .ref b23, .ref b24, .ref b25, .ref b26, .ref b27, .ref b28, .int b29, .ref b30, .ref b31, .int b32, .int b33, .int b34, .int b35, .ref b36, .ref b37, .ref b38, .ref b39, .ref b40, .ref b41, .ref b42, .int b43, .ref b44, .ref b45, .int b46, .ref b47, .ref b48, .ref b49, .ref b50, .ref b51, .int b52, .ref b53, .ref b54, .ref b55])), (b28, .inl (G.2 0, 2880, .inl b56))] ∧ (zI e0 0 9)) := by
  refine z_start (by decide +kernel) (Nat.le_of_ble_eq_true rfl) ?_
  intro p e s m below meth c A Z hr hnm hA hP hD hS ls hl
  have Z : zC p s m _ meth c prog_14_method_25_code 4 "TraceMachinesModel" G := Z
  obtain ⟨hx, hb, hml, hown, hts, hK, hN, hlocks⟩ := id Z
  have hl : lv_has ls 4 [(0, .ref b0), (1, .int 1), (2, .int b1), (3, .int 1)] := hl
  refine lv_aload_n hx hb d_Model_edgeAt_0 rfl (lv_at hl 0 rfl) ?_
  refine va_get (D := G.1) (ci := 12) (v := .ref b28) (C := R_Model) (T := F_Model) (N := 54) hx hb hts i_Model hown hK hP 0 rfl rfl 26 (by decide) (hts _ q1135) (fun _ h9 => h9) rfl d_Model_edgeAt_1 ?_
  refine lv_bipush (v := 6) hx hb d_Model_edgeAt_4 (by decide) ?_
  refine lv_sipush (v := 240) hx hb d_Model_edgeAt_6 (by decide) ?_
  refine lv_iload_n hx hb d_Model_edgeAt_9 rfl (lv_at hl 1 rfl) ?_
  refine lv_imul hx hb d_Model_edgeAt_10 ?_
  refine z_topi (y := 240) (by decide +kernel) ?_
  refine lv_iload_n hx hb d_Model_edgeAt_11 rfl (lv_at hl 2 rfl) ?_
  refine lv_iadd hx hb d_Model_edgeAt_12 ?_
  refine lv_topi (fun v_1 ev_1 => ?_)
  obtain ⟨qv_1, hv_1⟩ := zI_add (l := 240) (h := 479) zc_240 hb1 ev_1 (by decide)
  rw [li_240] at qv_1
  refine lv_imul hx hb d_Model_edgeAt_13 ?_
  refine lv_topi (fun v_2 ev_2 => ?_)
  obtain ⟨qv_2, hv_2⟩ := zI_mul (l := 1440) (h := 2874) zc_6 hv_1 ev_2 (by decide)
  rw [li_6] at qv_2
  refine lv_iload_n hx hb d_Model_edgeAt_14 rfl (lv_at hl 3 rfl) ?_
  refine lv_iadd hx hb d_Model_edgeAt_15 ?_
  refine lv_topi (fun v_3 ev_3 => ?_)
  obtain ⟨qv_3, hv_3⟩ := zI_add (l := 1441) (h := 2875) hv_2 zc_1 ev_3 (by decide)
  rw [li_1] at qv_3
  refine va_iald hx hb hK hP 1 0 rfl rfl (zI.inn hv_3 (by decide)) d_Model_edgeAt_16 ?_
  refine lv_topi (fun v_4 ev_4 => ?_)
  have kv_4 := zQE.ld hb56 hv_3 ev_4 (by decide)
  have hv_4 : zI v_4 0 9 := kv_4.2.1 (by omega)
  exact z_iret hx hb hr hlocks hP hD hS (Nat.le_of_ble_eq_true rfl) (Nat.le_of_ble_eq_true rfl) d_Model_edgeAt_17 ⟨v_4, rfl, rfl, hv_4⟩
abbrev m_s12_Model_edgeAt : Room := { frames := 0, cells := 0, slots := 0, locals := 0 }
set_option maxHeartbeats 4000000 in
set_option maxRecDepth 100000 in
theorem s12_Model_edgeAt (l : Launch) (G : zG) (b0 : Nat) (b1 : Int32) (b2 : Int32) (b3 : Nat) (b4 : Nat) (b5 : Nat) (b6 : Nat) (b7 : Int32) (b8 : Nat) (b9 : Int32) (b10 : Int32) (b11 : Int32) (b12 : Int32) (b13 : Nat) (b14 : Nat) (b15 : Nat) (b16 : Int32) (b17 : Nat) (b18 : Nat) (b19 : Nat) (b20 : Nat) (b21 : Nat) (b22 : Nat) (b23 : Nat) (b24 : Nat) (b25 : Nat) (b26 : Nat) (b27 : Nat) (b28 : Nat) (b29 : Int32) (b30 : Nat) (b31 : Nat) (b32 : Int32) (b33 : Int32) (b34 : Int32) (b35 : Int32) (b36 : Nat) (b37 : Nat) (b38 : Nat) (b39 : Nat) (b40 : Nat) (b41 : Nat) (b42 : Nat) (b43 : Int32) (b44 : Nat) (b45 : Nat) (b46 : Int32) (b47 : Nat) (b48 : Nat) (b49 : Nat) (b50 : Nat) (b51 : Nat) (b52 : Int32) (b53 : Nat) (b54 : Nat) (b55 : Nat) (b56 : Nat → Int32) (hb1 : zI b1 0 239) (hb7 : zI b7 0 8) (hb9 : zI b9 0 240) (hb10 : zI b10 0 240) (hb12 : zI b12 0 1) (hb16 : zI b16 0 12) (hb29 : zI b29 0 1) (hb32 : zI b32 0 1) (hb43 : zI b43 0 1000) (hb46 : zI b46 0 1000) (hb52 : zI b52 0 400) (hb56 : zqa qE b56) : zM l G y_Model_edgeAt prog_14_method_25_code 4 (Option.some Jvm.ClassFile.FieldType.int) m_s12_Model_edgeAt [.ref b0, .int 1, .int b1, .int 2] [(b0, .inr (12, [.int b2, .ref b3, .ref b4, .ref b5, .ref b6, .int b7, .ref b8, .int b9, .int b10, .int b11, .int b12, .ref b13, .ref b14, .ref b15, .int b16, .ref b17, .ref b18, .ref b19, .ref b20, .ref b21, .ref b22, .ref b23, .ref b24, .ref b25, .ref b26, .ref b27, .ref b28, .int b29, .ref b30, .ref b31, .int b32, .int b33, .int b34, .int b35, .ref b36, .ref b37, .ref b38, .ref b39, .ref b40, .ref b41, .ref b42, .int b43, .ref b44, .ref b45, .int b46, .ref b47, .ref b48, .ref b49, .ref b50, .ref b51, .int b52, .ref b53, .ref b54, .ref b55])), (b28, .inl (G.2 0, 2880, .inl b56))] (fun v w => ∃ (e0 : Int32), v = some (.int e0) ∧ w = [(b0, .inr (12, [.int b2, .ref b3, .ref b4, .ref b5, .ref b6, .int b7, .ref b8, .int b9, .int b10, .int b11, .int b12, .ref b13, .ref b14, .ref b15, .int b16, .ref b17, .ref b18, .ref b19, .ref b20, .ref b21, .ref b22, .ref b23, .ref b24, .ref b25, .ref b26, .ref b27, .ref b28, .int b29, .ref b30, .ref b31, .int b32, .int b33, .int b34, .int b35, .ref b36, .ref b37, .ref b38, .ref b39, .ref b40, .ref b41, .ref b42, .int b43, .ref b44, .ref b45, .int b46, .ref b47, .ref b48, .ref b49, .ref b50, .ref b51, .int b52, .ref b53, .ref b54, .ref b55])), (b28, .inl (G.2 0, 2880, .inl b56))] ∧ (zI e0 0 240)) := by
  refine z_start (by decide +kernel) (Nat.le_of_ble_eq_true rfl) ?_
  intro p e s m below meth c A Z hr hnm hA hP hD hS ls hl
  have Z : zC p s m _ meth c prog_14_method_25_code 4 "TraceMachinesModel" G := Z
  obtain ⟨hx, hb, hml, hown, hts, hK, hN, hlocks⟩ := id Z
  have hl : lv_has ls 4 [(0, .ref b0), (1, .int 1), (2, .int b1), (3, .int 2)] := hl
  refine lv_aload_n hx hb d_Model_edgeAt_0 rfl (lv_at hl 0 rfl) ?_
  refine va_get (D := G.1) (ci := 12) (v := .ref b28) (C := R_Model) (T := F_Model) (N := 54) hx hb hts i_Model hown hK hP 0 rfl rfl 26 (by decide) (hts _ q1135) (fun _ h9 => h9) rfl d_Model_edgeAt_1 ?_
  refine lv_bipush (v := 6) hx hb d_Model_edgeAt_4 (by decide) ?_
  refine lv_sipush (v := 240) hx hb d_Model_edgeAt_6 (by decide) ?_
  refine lv_iload_n hx hb d_Model_edgeAt_9 rfl (lv_at hl 1 rfl) ?_
  refine lv_imul hx hb d_Model_edgeAt_10 ?_
  refine z_topi (y := 240) (by decide +kernel) ?_
  refine lv_iload_n hx hb d_Model_edgeAt_11 rfl (lv_at hl 2 rfl) ?_
  refine lv_iadd hx hb d_Model_edgeAt_12 ?_
  refine lv_topi (fun v_1 ev_1 => ?_)
  obtain ⟨qv_1, hv_1⟩ := zI_add (l := 240) (h := 479) zc_240 hb1 ev_1 (by decide)
  rw [li_240] at qv_1
  refine lv_imul hx hb d_Model_edgeAt_13 ?_
  refine lv_topi (fun v_2 ev_2 => ?_)
  obtain ⟨qv_2, hv_2⟩ := zI_mul (l := 1440) (h := 2874) zc_6 hv_1 ev_2 (by decide)
  rw [li_6] at qv_2
  refine lv_iload_n hx hb d_Model_edgeAt_14 rfl (lv_at hl 3 rfl) ?_
  refine lv_iadd hx hb d_Model_edgeAt_15 ?_
  refine lv_topi (fun v_3 ev_3 => ?_)
  obtain ⟨qv_3, hv_3⟩ := zI_add (l := 1442) (h := 2876) hv_2 zc_2 ev_3 (by decide)
  rw [li_2] at qv_3
  refine va_iald hx hb hK hP 1 0 rfl rfl (zI.inn hv_3 (by decide)) d_Model_edgeAt_16 ?_
  refine lv_topi (fun v_4 ev_4 => ?_)
  have kv_4 := zQE.ld hb56 hv_3 ev_4 (by decide)
  have hv_4 : zI v_4 0 240 := kv_4.2.2 (by omega)
  exact z_iret hx hb hr hlocks hP hD hS (Nat.le_of_ble_eq_true rfl) (Nat.le_of_ble_eq_true rfl) d_Model_edgeAt_17 ⟨v_4, rfl, rfl, hv_4⟩
abbrev m_s2_Model_placeOf : Room := { frames := 1, cells := 0, slots := 0, locals := 23 }
set_option maxHeartbeats 4000000 in
set_option maxRecDepth 100000 in
theorem s2_Model_placeOf (l : Launch) (G : zG) (b0 : Nat) (b1 : Int32) (b2 : Int32) (b3 : Int32) (b4 : Int32) (b5 : Nat) (b6 : Nat) (b7 : Nat) (b8 : Nat) (b9 : Int32) (b10 : Nat) (b11 : Int32) (b12 : Int32) (b13 : Int32) (b14 : Int32) (b15 : Nat) (b16 : Nat) (b17 : Nat) (b18 : Int32) (b19 : Nat) (b20 : Nat) (b21 : Nat) (b22 : Nat) (b23 : Nat) (b24 : Nat) (b25 : Nat) (b26 : Nat) (b27 : Nat) (b28 : Nat) (b29 : Nat) (b30 : Nat) (b31 : Int32) (b32 : Nat) (b33 : Nat) (b34 : Int32) (b35 : Int32) (b36 : Int32) (b37 : Int32) (b38 : Nat) (b39 : Nat) (b40 : Nat) (b41 : Nat) (b42 : Nat) (b43 : Nat) (b44 : Nat) (b45 : Int32) (b46 : Nat) (b47 : Nat) (b48 : Int32) (b49 : Nat) (b50 : Nat) (b51 : Nat) (b52 : Nat) (b53 : Nat) (b54 : Int32) (b55 : Nat) (b56 : Nat) (b57 : Nat) (b58 : Nat → Int32) (b59 : Nat → Int32) (hb1 : zI b1 0 240) (hb2 : zI b2 0 9) (hb3 : zI b3 0 240) (hb9 : zI b9 0 8) (hb11 : zI b11 0 240) (hb12 : zI b12 0 240) (hb14 : zI b14 0 1) (hb18 : zI b18 0 12) (hb31 : zI b31 0 1) (hb34 : zI b34 0 1) (hb45 : zI b45 0 1000) (hb48 : zI b48 0 1000) (hb54 : zI b54 0 400) (hb58 : zR b58 0 240) (hb59 : zqa qE b59) : zM l G y_Model_placeOf prog_14_method_33_code 8 (Option.some Jvm.ClassFile.FieldType.int) m_s2_Model_placeOf [.ref b0, .int 1, .int b1, .int b2, .int b3] [(b0, .inr (12, [.int b4, .ref b5, .ref b6, .ref b7, .ref b8, .int b9, .ref b10, .int b11, .int b12, .int b13, .int b14, .ref b15, .ref b16, .ref b17, .int b18, .ref b19, .ref b20, .ref b21, .ref b22, .ref b23, .ref b24, .ref b25, .ref b26, .ref b27, .ref b28, .ref b29, .ref b30, .int b31, .ref b32, .ref b33, .int b34, .int b35, .int b36, .int b37, .ref b38, .ref b39, .ref b40, .ref b41, .ref b42, .ref b43, .ref b44, .int b45, .ref b46, .ref b47, .int b48, .ref b49, .ref b50, .ref b51, .ref b52, .ref b53, .int b54, .ref b55, .ref b56, .ref b57])), (b29, .inl (G.2 0, 2, .inl b58)), (b30, .inl (G.2 0, 2880, .inl b59))] (fun v w => ∃ (e0 : Int32), ∃ (e1 : Int32), v = some (.int e0) ∧ w = [(b0, .inr (12, [.int b4, .ref b5, .ref b6, .ref b7, .ref b8, .int b9, .ref b10, .int b11, .int b12, .int b13, .int b14, .ref b15, .ref b16, .ref b17, .int b18, .ref b19, .ref b20, .ref b21, .ref b22, .ref b23, .ref b24, .ref b25, .ref b26, .ref b27, .ref b28, .ref b29, .ref b30, .int e1, .ref b32, .ref b33, .int b34, .int b35, .int b36, .int b37, .ref b38, .ref b39, .ref b40, .ref b41, .ref b42, .ref b43, .ref b44, .int b45, .ref b46, .ref b47, .int b48, .ref b49, .ref b50, .ref b51, .ref b52, .ref b53, .int b54, .ref b55, .ref b56, .ref b57])), (b29, .inl (G.2 0, 2, .inl b58)), (b30, .inl (G.2 0, 2880, .inl b59))] ∧ (zI e0 0 240) ∧ (zI e1 0 1) ∧ ((e0 : Int32).toInt ≤ (b58 (1 : Int32).toNatClampNeg).toInt)) := by
  refine z_start (by decide +kernel) (Nat.le_of_ble_eq_true rfl) ?_
  intro p e s m below meth c A Z hr hnm hA hP hD hS ls hl
  have Z : zC p s m _ meth c prog_14_method_33_code 8 "TraceMachinesModel" G := Z
  obtain ⟨hx, hb, hml, hown, hts, hK, hN, hlocks⟩ := id Z
  have hl : lv_has ls 8 [(0, .ref b0), (1, .int 1), (2, .int b1), (3, .int b2), (4, .int b3)] := hl
  refine lv_sipush (v := 2410) hx hb d_Model_placeOf_0 (by decide) ?_
  refine lv_iload_n hx hb d_Model_placeOf_3 rfl (lv_at hl 2 rfl) ?_
  refine lv_imul hx hb d_Model_placeOf_4 ?_
  refine lv_topi (fun v_1 ev_1 => ?_)
  obtain ⟨qv_1, hv_1⟩ := zI_mul (l := 0) (h := 578400) zc_2410 hb1 ev_1 (by decide)
  rw [li_2410] at qv_1
  refine lv_sipush (v := 241) hx hb d_Model_placeOf_5 (by decide) ?_
  refine lv_iload_n hx hb d_Model_placeOf_8 rfl (lv_at hl 3 rfl) ?_
  refine lv_imul hx hb d_Model_placeOf_9 ?_
  refine lv_topi (fun v_2 ev_2 => ?_)
  obtain ⟨qv_2, hv_2⟩ := zI_mul (l := 0) (h := 2169) zc_241 hb2 ev_2 (by decide)
  rw [li_241] at qv_2
  refine lv_iadd hx hb d_Model_placeOf_10 ?_
  refine lv_topi (fun v_3 ev_3 => ?_)
  obtain ⟨qv_3, hv_3⟩ := zI_add (l := 0) (h := 580569) hv_1 hv_2 ev_3 (by decide)
  refine lv_iload hx hb d_Model_placeOf_11 (lv_at hl 4 rfl) ?_
  refine lv_iadd hx hb d_Model_placeOf_13 ?_
  refine lv_topi (fun v_4 ev_4 => ?_)
  obtain ⟨qv_4, hv_4⟩ := zI_add (l := 0) (h := 580809) hv_3 hb3 ev_4 (by decide)
  refine lv_istore (lv' := [(5, .int v_4), (0, .ref b0), (1, .int 1), (2, .int b1), (3, .int b2), (4, .int b3)]) hx hb d_Model_placeOf_14 hl (by decide) rfl (fun ls hl => ?_)
  refine lv_iconst (v := 0) hx hb d_Model_placeOf_16 (by decide) ?_
  refine lv_istore (lv' := [(6, .int 0), (5, .int v_4), (0, .ref b0), (1, .int 1), (2, .int b1), (3, .int b2), (4, .int b3)]) hx hb d_Model_placeOf_17 hl (by decide) rfl (fun ls hl => ?_)
  refine lv_iconst (v := (-1)) hx hb d_Model_placeOf_19 (by decide) ?_
  refine lv_istore (lv' := [(7, .int (-1)), (6, .int 0), (5, .int v_4), (0, .ref b0), (1, .int 1), (2, .int b1), (3, .int b2), (4, .int b3)]) hx hb d_Model_placeOf_20 hl (by decide) rfl (fun ls hl => ?_)
  suffices key : ∀ (k_54 : Nat) (y_55 : Int32) (y_56 : Int32) (H : Heap) (locs : List Loc) (ls : Array Slot), (zI y_55 (-1) 580809) → (zI y_56 0 240) → ((y_56 : Int32).toInt ≤ (b58 (1 : Int32).toNatClampNeg).toInt) → ((y_55 : Int32).toInt < (v_4 : Int32).toInt) → (240 : Int) - y_56.toInt < (k_54 : Int) → va_P G.1 classes [(b0, .inr (12, [.int b4, .ref b5, .ref b6, .ref b7, .ref b8, .int b9, .ref b10, .int b11, .int b12, .int b13, .int b14, .ref b15, .ref b16, .ref b17, .int b18, .ref b19, .ref b20, .ref b21, .ref b22, .ref b23, .ref b24, .ref b25, .ref b26, .ref b27, .ref b28, .ref b29, .ref b30, .int b31, .ref b32, .ref b33, .int b34, .int b35, .int b36, .int b37, .ref b38, .ref b39, .ref b40, .ref b41, .ref b42, .ref b43, .ref b44, .int b45, .ref b46, .ref b47, .int b48, .ref b49, .ref b50, .ref b51, .ref b52, .ref b53, .int b54, .ref b55, .ref b56, .ref b57])), (b29, .inl (G.2 0, 2, .inl b58)), (b30, .inl (G.2 0, 2880, .inl b59))] H → va_D A [(b0, .inr (12, [.int b4, .ref b5, .ref b6, .ref b7, .ref b8, .int b9, .ref b10, .int b11, .int b12, .int b13, .int b14, .ref b15, .ref b16, .ref b17, .int b18, .ref b19, .ref b20, .ref b21, .ref b22, .ref b23, .ref b24, .ref b25, .ref b26, .ref b27, .ref b28, .ref b29, .ref b30, .int b31, .ref b32, .ref b33, .int b34, .int b35, .int b36, .int b37, .ref b38, .ref b39, .ref b40, .ref b41, .ref b42, .ref b43, .ref b44, .int b45, .ref b46, .ref b47, .int b48, .ref b49, .ref b50, .ref b51, .ref b52, .ref b53, .int b54, .ref b55, .ref b56, .ref b57])), (b29, .inl (G.2 0, 2, .inl b58)), (b30, .inl (G.2 0, 2880, .inl b59))] → va_S A s.heap H locs → lv_has ls 8 [(7, .int y_55), (6, .int y_56), (5, .int v_4), (0, .ref b0), (1, .int 1), (2, .int b1), (3, .int b2), (4, .int b3)] → W p l e m_s2_Model_placeOf s m ([.ref b0, .int 1, .int b1, .int b2, .int b3] : List Value).toArray below meth c H locs 0 0 (MQ below (zQ G (fun v w => ∃ (e0 : Int32), ∃ (e1 : Int32), v = some (.int e0) ∧ w = [(b0, .inr (12, [.int b4, .ref b5, .ref b6, .ref b7, .ref b8, .int b9, .ref b10, .int b11, .int b12, .int b13, .int b14, .ref b15, .ref b16, .ref b17, .int b18, .ref b19, .ref b20, .ref b21, .ref b22, .ref b23, .ref b24, .ref b25, .ref b26, .ref b27, .ref b28, .ref b29, .ref b30, .int e1, .ref b32, .ref b33, .int b34, .int b35, .int b36, .int b37, .ref b38, .ref b39, .ref b40, .ref b41, .ref b42, .ref b43, .ref b44, .int b45, .ref b46, .ref b47, .int b48, .ref b49, .ref b50, .ref b51, .ref b52, .ref b53, .int b54, .ref b55, .ref b56, .ref b57])), (b29, .inl (G.2 0, 2, .inl b58)), (b30, .inl (G.2 0, 2880, .inl b59))] ∧ (zI e0 0 240) ∧ (zI e1 0 1) ∧ ((e0 : Int32).toInt ≤ (b58 (1 : Int32).toNatClampNeg).toInt)) A) ([.ref b0, .int 1, .int b1, .int b2, .int b3] : List Value).toArray s m_s2_Model_placeOf.cells m_s2_Model_placeOf.slots A) (F0 m 22 ls []) by
    exact key 242 ((-1)) (0) _ _ _ (zI.wk (l' := (-1)) (h' := 580809) zc_m1 (by decide)) (zI.wk (l' := 0) (h' := 240) zc_0 (by decide)) (by have _l0 := li_0; have h9 := hb58 (1 : Int32).toNatClampNeg; omega) (by have _l0 := li_m1; omega) (by have _l0 := li_0; omega) hP hD hS (lv_sub hl [0, 1, 2, 3, 4, 5, 6, 7] rfl)
  intro k_54
  induction k_54 with
  | zero =>
    intro y_55 y_56 H locs ls hy_55 hy_56 hli_57 hli_58 hmk_54 hP hD hS hl
    exfalso; omega
  | succ k_54 ihk_54 =>
    intro y_55 y_56 H locs ls hy_55 hy_56 hli_57 hli_58 hmk_54 hP hD hS hl
    refine lv_iload hx hb d_Model_placeOf_22 (lv_at hl 1 rfl) ?_
    refine lv_aload_n hx hb d_Model_placeOf_24 rfl (lv_at hl 3 rfl) ?_
    refine va_get (D := G.1) (ci := 12) (v := .ref b29) (C := R_Model) (T := F_Model) (N := 54) hx hb hts i_Model hown hK hP 0 rfl rfl 25 (by decide) (hts _ q1134) (fun _ h9 => h9) rfl d_Model_placeOf_25 ?_
    refine lv_iload_n hx hb d_Model_placeOf_28 rfl (lv_at hl 4 rfl) ?_
    refine va_iald hx hb hK hP 1 0 rfl rfl (i := 1) (z_in rfl) d_Model_placeOf_29 ?_
    refine lv_topi (fun v_59 ev_59 => ?_)
    have hv_59 : zI v_59 0 240 := (hb58 _).eq ev_59
    have hemv_59 : v_59.toInt ≤ 240 ∧ v_59.toInt = (b58 (1 : Int32).toNatClampNeg).toInt := ⟨hv_59.2, by rw [ev_59]⟩
    refine lv_icmp_ge (tgt := 96) hx hb d_Model_placeOf_30 (by decide) (fun hc_60 => ?_) (fun hc_60 => ?_)
    · have _nhc_60 := hc_60
      have ni_61 := (fa_le _ _).mp hc_60
      refine lv_aload_n hx hb d_Model_placeOf_96 rfl (lv_at hl 3 rfl) ?_
      refine lv_iload hx hb d_Model_placeOf_97 (lv_at hl 1 rfl) ?_
      refine lv_aload_n hx hb d_Model_placeOf_99 rfl (lv_at hl 3 rfl) ?_
      refine va_get (D := G.1) (ci := 12) (v := .ref b29) (C := R_Model) (T := F_Model) (N := 54) hx hb hts i_Model hown hK hP 0 rfl rfl 25 (by decide) (hts _ q1134) (fun _ h9 => h9) rfl d_Model_placeOf_100 ?_
      refine lv_iload_n hx hb d_Model_placeOf_103 rfl (lv_at hl 4 rfl) ?_
      refine va_iald hx hb hK hP 1 0 rfl rfl (i := 1) (z_in rfl) d_Model_placeOf_104 ?_
      refine lv_topi (fun v_62 ev_62 => ?_)
      obtain rfl : v_59 = v_62 := ev_59.trans ev_62.symm
      refine lv_icmp_ge (tgt := 119) hx hb d_Model_placeOf_105 (by decide) (fun _ => ?_) (fun hc => (by exfalso; exact hc ((fa_le _ _).mpr (by omega))))
      refine lv_iconst (v := 0) hx hb d_Model_placeOf_119 (by decide) ?_
      refine va_put (D := G.1) (ci := 12) (v := .int 0) (ty := .boolean) (C := R_Model) (T := F_Model) (N := 54) hx hb hts i_Model t_Model t_Model_ok n_Model hown hK hP hD hS 0 rfl rfl 27 (by decide) (hts _ q1136) (fun _ h9 => h9) rfl (by decide +kernel) rfl rfl (Nat.le_of_ble_eq_true rfl) d_Model_placeOf_120 (fun H locs hP hD hS => ?_)
      have hP : va_P G.1 classes [(b0, .inr (12, [.int b4, .ref b5, .ref b6, .ref b7, .ref b8, .int b9, .ref b10, .int b11, .int b12, .int b13, .int b14, .ref b15, .ref b16, .ref b17, .int b18, .ref b19, .ref b20, .ref b21, .ref b22, .ref b23, .ref b24, .ref b25, .ref b26, .ref b27, .ref b28, .ref b29, .ref b30, .int 0, .ref b32, .ref b33, .int b34, .int b35, .int b36, .int b37, .ref b38, .ref b39, .ref b40, .ref b41, .ref b42, .ref b43, .ref b44, .int b45, .ref b46, .ref b47, .int b48, .ref b49, .ref b50, .ref b51, .ref b52, .ref b53, .int b54, .ref b55, .ref b56, .ref b57])), (b29, .inl (G.2 0, 2, .inl b58)), (b30, .inl (G.2 0, 2880, .inl b59))] H := hP
      have hD := z_tie hP hD rfl
      refine lv_iload hx hb d_Model_placeOf_123 (lv_at hl 1 rfl) ?_
      exact z_iret hx hb hr hlocks hP hD hS (Nat.le_of_ble_eq_true rfl) (Nat.le_of_ble_eq_true rfl) d_Model_placeOf_125 ⟨y_56, 0, rfl, rfl, hy_56, (zI.wk (l' := 0) (h' := 1) zc_0 (by decide)), (by omega)⟩
    · have _nhc_60 := hc_60
      have ni_63 := (fa_lt _ _).mp (zi_nle hc_60)
      have hv_64 : zI y_56 0 239 := zI.lt_l hy_56 hv_59 (zi_nle hc_60) (by decide)
      have hv_65 : zI v_59 1 240 := zI.lt_r hy_56 hv_59 (zi_nle hc_60) (by decide)
      refine lv_iload hx hb d_Model_placeOf_33 (lv_at hl 0 rfl) ?_
      refine lv_iload hx hb d_Model_placeOf_35 (lv_at hl 2 rfl) ?_
      refine lv_icmp_ge (tgt := 96) hx hb d_Model_placeOf_37 (by decide) (fun hc => (by exfalso; have h9 := (fa_le _ _).mp hc; omega)) (fun _ => ?_)
      refine lv_sipush (v := 2410) hx hb d_Model_placeOf_40 (by decide) ?_
      refine lv_aload_n hx hb d_Model_placeOf_43 rfl (lv_at hl 3 rfl) ?_
      refine lv_iload_n hx hb d_Model_placeOf_44 rfl (lv_at hl 4 rfl) ?_
      refine lv_iload hx hb d_Model_placeOf_45 (lv_at hl 1 rfl) ?_
      refine lv_iconst (v := 0) hx hb d_Model_placeOf_47 (by decide) ?_
      refine z_callV (index := 225) (As := [.int 1, .int y_56, .int 0]) (rest := [.int 2410]) (wr := [(b29, .inl (G.2 0, 2, .inl b58))]) Z (s10_Model_edgeAt l G (b0) (y_56) (b4) (b5) (b6) (b7) (b8) (b9) (b10) (b11) (b12) (b13) (b14) (b15) (b16) (b17) (b18) (b19) (b20) (b21) (b22) (b23) (b24) (b25) (b26) (b27) (b28) (b29) (b30) (b31) (b32) (b33) (b34) (b35) (b36) (b37) (b38) (b39) (b40) (b41) (b42) (b43) (b44) (b45) (b46) (b47) (b48) (b49) (b50) (b51) (b52) (b53) (b54) (b55) (b56) (b57) (b59) hv_64 hb9 hb11 hb12 hb14 hb18 hb31 hb34 hb45 hb48 hb54 hb59) hl.1 q1408 q1410 qs68 q14 q1411 ⟨by decide, by decide, by show _ = some 3; decide +kernel⟩ ⟨Nat.le_of_ble_eq_true rfl, Nat.le_of_ble_eq_true rfl⟩ ⟨Nat.le_of_ble_eq_true rfl, Nat.le_of_ble_eq_true rfl⟩ rfl (Nat.le_of_ble_eq_true rfl) d_Model_placeOf_48 hP hD hS hA 0 12 rfl rfl rfl [0, 2] [1] rfl rfl rfl rfl (by decide) (fun v w1 H locs hw_66 hP hD hS => ?_)
      obtain ⟨x_67, rfl, rfl, hx_67⟩ := hw_66
      have hP : va_P G.1 classes [(b29, .inl (G.2 0, 2, .inl b58)), (b0, .inr (12, [.int b4, .ref b5, .ref b6, .ref b7, .ref b8, .int b9, .ref b10, .int b11, .int b12, .int b13, .int b14, .ref b15, .ref b16, .ref b17, .int b18, .ref b19, .ref b20, .ref b21, .ref b22, .ref b23, .ref b24, .ref b25, .ref b26, .ref b27, .ref b28, .ref b29, .ref b30, .int b31, .ref b32, .ref b33, .int b34, .int b35, .int b36, .int b37, .ref b38, .ref b39, .ref b40, .ref b41, .ref b42, .ref b43, .ref b44, .int b45, .ref b46, .ref b47, .int b48, .ref b49, .ref b50, .ref b51, .ref b52, .ref b53, .int b54, .ref b55, .ref b56, .ref b57])), (b30, .inl (G.2 0, 2880, .inl b59))] H := hP
      have hD := z_tie hP hD rfl
      refine W.widen (k := 0) (n := 0) (Nat.le_of_ble_eq_true rfl) (Nat.le_of_ble_eq_true rfl) ?_
      refine lv_imul hx hb d_Model_placeOf_51 ?_
      refine lv_topi (fun v_68 ev_68 => ?_)
      obtain ⟨qv_68, hv_68⟩ := zI_mul (l := 0) (h := 578400) zc_2410 hx_67 ev_68 (by decide)
      rw [li_2410] at qv_68
      refine lv_sipush (v := 241) hx hb d_Model_placeOf_52 (by decide) ?_
      refine lv_aload_n hx hb d_Model_placeOf_55 rfl (lv_at hl 3 rfl) ?_
      refine lv_iload_n hx hb d_Model_placeOf_56 rfl (lv_at hl 4 rfl) ?_
      refine lv_iload hx hb d_Model_placeOf_57 (lv_at hl 1 rfl) ?_
      refine lv_iconst (v := 1) hx hb d_Model_placeOf_59 (by decide) ?_
      refine z_callV (index := 225) (As := [.int 1, .int y_56, .int 1]) (rest := [.int 241, .int v_68]) (wr := [(b29, .inl (G.2 0, 2, .inl b58))]) Z (s11_Model_edgeAt l G (b0) (y_56) (b4) (b5) (b6) (b7) (b8) (b9) (b10) (b11) (b12) (b13) (b14) (b15) (b16) (b17) (b18) (b19) (b20) (b21) (b22) (b23) (b24) (b25) (b26) (b27) (b28) (b29) (b30) (b31) (b32) (b33) (b34) (b35) (b36) (b37) (b38) (b39) (b40) (b41) (b42) (b43) (b44) (b45) (b46) (b47) (b48) (b49) (b50) (b51) (b52) (b53) (b54) (b55) (b56) (b57) (b59) hv_64 hb9 hb11 hb12 hb14 hb18 hb31 hb34 hb45 hb48 hb54 hb59) hl.1 q1408 q1410 qs68 q14 q1411 ⟨by decide, by decide, by show _ = some 3; decide +kernel⟩ ⟨Nat.le_of_ble_eq_true rfl, Nat.le_of_ble_eq_true rfl⟩ ⟨Nat.le_of_ble_eq_true rfl, Nat.le_of_ble_eq_true rfl⟩ rfl (Nat.le_of_ble_eq_true rfl) d_Model_placeOf_60 hP hD hS hA 1 12 rfl rfl rfl [1, 2] [0] rfl rfl rfl rfl (by decide) (fun v w1 H locs hw_69 hP hD hS => ?_)
      obtain ⟨x_70, rfl, rfl, hx_70⟩ := hw_69
      have hP : va_P G.1 classes [(b29, .inl (G.2 0, 2, .inl b58)), (b0, .inr (12, [.int b4, .ref b5, .ref b6, .ref b7, .ref b8, .int b9, .ref b10, .int b11, .int b12, .int b13, .int b14, .ref b15, .ref b16, .ref b17, .int b18, .ref b19, .ref b20, .ref b21, .ref b22, .ref b23, .ref b24, .ref b25, .ref b26, .ref b27, .ref b28, .ref b29, .ref b30, .int b31, .ref b32, .ref b33, .int b34, .int b35, .int b36, .int b37, .ref b38, .ref b39, .ref b40, .ref b41, .ref b42, .ref b43, .ref b44, .int b45, .ref b46, .ref b47, .int b48, .ref b49, .ref b50, .ref b51, .ref b52, .ref b53, .int b54, .ref b55, .ref b56, .ref b57])), (b30, .inl (G.2 0, 2880, .inl b59))] H := hP
      have hD := z_tie hP hD rfl
      refine W.widen (k := 0) (n := 0) (Nat.le_of_ble_eq_true rfl) (Nat.le_of_ble_eq_true rfl) ?_
      refine lv_imul hx hb d_Model_placeOf_63 ?_
      refine lv_topi (fun v_71 ev_71 => ?_)
      obtain ⟨qv_71, hv_71⟩ := zI_mul (l := 0) (h := 2169) zc_241 hx_70 ev_71 (by decide)
      rw [li_241] at qv_71
      refine lv_iadd hx hb d_Model_placeOf_64 ?_
      refine lv_topi (fun v_72 ev_72 => ?_)
      obtain ⟨qv_72, hv_72⟩ := zI_add (l := 0) (h := 580569) hv_68 hv_71 ev_72 (by decide)
      refine lv_aload_n hx hb d_Model_placeOf_65 rfl (lv_at hl 3 rfl) ?_
      refine lv_iload_n hx hb d_Model_placeOf_66 rfl (lv_at hl 4 rfl) ?_
      refine lv_iload hx hb d_Model_placeOf_67 (lv_at hl 1 rfl) ?_
      refine lv_iconst (v := 2) hx hb d_Model_placeOf_69 (by decide) ?_
      refine z_callV (index := 225) (As := [.int 1, .int y_56, .int 2]) (rest := [.int v_72]) (wr := [(b29, .inl (G.2 0, 2, .inl b58))]) Z (s12_Model_edgeAt l G (b0) (y_56) (b4) (b5) (b6) (b7) (b8) (b9) (b10) (b11) (b12) (b13) (b14) (b15) (b16) (b17) (b18) (b19) (b20) (b21) (b22) (b23) (b24) (b25) (b26) (b27) (b28) (b29) (b30) (b31) (b32) (b33) (b34) (b35) (b36) (b37) (b38) (b39) (b40) (b41) (b42) (b43) (b44) (b45) (b46) (b47) (b48) (b49) (b50) (b51) (b52) (b53) (b54) (b55) (b56) (b57) (b59) hv_64 hb9 hb11 hb12 hb14 hb18 hb31 hb34 hb45 hb48 hb54 hb59) hl.1 q1408 q1410 qs68 q14 q1411 ⟨by decide, by decide, by show _ = some 3; decide +kernel⟩ ⟨Nat.le_of_ble_eq_true rfl, Nat.le_of_ble_eq_true rfl⟩ ⟨Nat.le_of_ble_eq_true rfl, Nat.le_of_ble_eq_true rfl⟩ rfl (Nat.le_of_ble_eq_true rfl) d_Model_placeOf_70 hP hD hS hA 1 12 rfl rfl rfl [1, 2] [0] rfl rfl rfl rfl (by decide) (fun v w1 H locs hw_73 hP hD hS => ?_)
      obtain ⟨x_74, rfl, rfl, hx_74⟩ := hw_73
      have hP : va_P G.1 classes [(b29, .inl (G.2 0, 2, .inl b58)), (b0, .inr (12, [.int b4, .ref b5, .ref b6, .ref b7, .ref b8, .int b9, .ref b10, .int b11, .int b12, .int b13, .int b14, .ref b15, .ref b16, .ref b17, .int b18, .ref b19, .ref b20, .ref b21, .ref b22, .ref b23, .ref b24, .ref b25, .ref b26, .ref b27, .ref b28, .ref b29, .ref b30, .int b31, .ref b32, .ref b33, .int b34, .int b35, .int b36, .int b37, .ref b38, .ref b39, .ref b40, .ref b41, .ref b42, .ref b43, .ref b44, .int b45, .ref b46, .ref b47, .int b48, .ref b49, .ref b50, .ref b51, .ref b52, .ref b53, .int b54, .ref b55, .ref b56, .ref b57])), (b30, .inl (G.2 0, 2880, .inl b59))] H := hP
      have hD := z_tie hP hD rfl
      refine W.widen (k := 0) (n := 0) (Nat.le_of_ble_eq_true rfl) (Nat.le_of_ble_eq_true rfl) ?_
      refine lv_iadd hx hb d_Model_placeOf_73 ?_
      refine lv_topi (fun v_75 ev_75 => ?_)
      obtain ⟨qv_75, hv_75⟩ := zI_add (l := 0) (h := 580809) hv_72 hx_74 ev_75 (by decide)
      refine lv_istore (lv' := [(7, .int v_75), (6, .int y_56), (5, .int v_4), (0, .ref b0), (1, .int 1), (2, .int b1), (3, .int b2), (4, .int b3)]) hx hb d_Model_placeOf_74 hl (by decide) rfl (fun ls hl => ?_)
      refine lv_iload hx hb d_Model_placeOf_76 (lv_at hl 1 rfl) ?_
      refine lv_iload hx hb d_Model_placeOf_78 (lv_at hl 0 rfl) ?_
      refine lv_iload hx hb d_Model_placeOf_80 (lv_at hl 2 rfl) ?_
      refine lv_icmp_ge (tgt := 89) hx hb d_Model_placeOf_82 (by decide) (fun hc_76 => ?_) (fun hc_76 => ?_)
      · have _nhc_76 := hc_76
        have ni_77 := (fa_le _ _).mp hc_76
        refine lv_iconst (v := 0) hx hb d_Model_placeOf_89 (by decide) ?_
        refine lv_iadd hx hb d_Model_placeOf_90 ?_
        refine lv_topi (fun v_78 ev_78 => ?_)
        obtain ⟨qv_78, hv_78⟩ := zI_add (l := 0) (h := 239) hv_64 zc_0 ev_78 (by decide)
        rw [li_0] at qv_78
        refine lv_istore (lv' := [(6, .int v_78), (7, .int v_75), (5, .int v_4), (0, .ref b0), (1, .int 1), (2, .int b1), (3, .int b2), (4, .int b3)]) hx hb d_Model_placeOf_91 hl (by decide) rfl (fun ls hl => ?_)
        refine lv_goto (tgt := 22) hx hb d_Model_placeOf_93 (by decide) ?_
        refine lv_iload hx hb d_Model_placeOf_22 (lv_at hl 0 rfl) ?_
        refine lv_aload_n hx hb d_Model_placeOf_24 rfl (lv_at hl 3 rfl) ?_
        refine va_get (D := G.1) (ci := 12) (v := .ref b29) (C := R_Model) (T := F_Model) (N := 54) hx hb hts i_Model hown hK hP 1 rfl rfl 25 (by decide) (hts _ q1134) (fun _ h9 => h9) rfl d_Model_placeOf_25 ?_
        refine lv_iload_n hx hb d_Model_placeOf_28 rfl (lv_at hl 4 rfl) ?_
        refine va_iald hx hb hK hP 0 0 rfl rfl (i := 1) (z_in rfl) d_Model_placeOf_29 ?_
        refine lv_topi (fun v_79 ev_79 => ?_)
        obtain rfl : v_59 = v_79 := ev_59.trans ev_79.symm
        refine lv_icmp_ge (tgt := 96) hx hb d_Model_placeOf_30 (by decide) (fun hc_80 => ?_) (fun hc_80 => ?_)
        · have _nhc_80 := hc_80
          have ni_81 := (fa_le _ _).mp hc_80
          have hv_82 : zI v_59 1 239 := zI.le_l hv_65 hv_78 hc_80 (by decide)
          have hv_83 : zI v_78 1 239 := zI.le_r hv_65 hv_78 hc_80 (by decide)
          have hv_84 : zI y_56 1 239 := by have _a := hv_83; have _b := qv_78; have _c := zc_0; have _d := hv_64; exact ⟨by omega, by omega⟩
          refine lv_aload_n hx hb d_Model_placeOf_96 rfl (lv_at hl 3 rfl) ?_
          refine lv_iload hx hb d_Model_placeOf_97 (lv_at hl 0 rfl) ?_
          refine lv_aload_n hx hb d_Model_placeOf_99 rfl (lv_at hl 3 rfl) ?_
          refine va_get (D := G.1) (ci := 12) (v := .ref b29) (C := R_Model) (T := F_Model) (N := 54) hx hb hts i_Model hown hK hP 1 rfl rfl 25 (by decide) (hts _ q1134) (fun _ h9 => h9) rfl d_Model_placeOf_100 ?_
          refine lv_iload_n hx hb d_Model_placeOf_103 rfl (lv_at hl 4 rfl) ?_
          refine va_iald hx hb hK hP 0 0 rfl rfl (i := 1) (z_in rfl) d_Model_placeOf_104 ?_
          refine lv_topi (fun v_85 ev_85 => ?_)
          obtain rfl : v_59 = v_85 := ev_59.trans ev_85.symm
          refine lv_icmp_ge (tgt := 119) hx hb d_Model_placeOf_105 (by decide) (fun hc => (by exfalso; have h9 := (fa_le _ _).mp hc; omega)) (fun _ => ?_)
          refine lv_iload hx hb d_Model_placeOf_108 (lv_at hl 1 rfl) ?_
          refine lv_iload hx hb d_Model_placeOf_110 (lv_at hl 2 rfl) ?_
          refine lv_icmp_ne (tgt := 119) hx hb d_Model_placeOf_112 (by decide) (fun hc_86 => ?_) (fun hc_86 => ?_)
          · have _nhc_86 := hc_86
            have ni_87 : ¬ (v_75 : Int32).toInt = (v_4 : Int32).toInt := fun z => hc_86 ((fa_eq _ _).mpr z)
            refine lv_iconst (v := 0) hx hb d_Model_placeOf_119 (by decide) ?_
            refine va_put (D := G.1) (ci := 12) (v := .int 0) (ty := .boolean) (C := R_Model) (T := F_Model) (N := 54) hx hb hts i_Model t_Model t_Model_ok n_Model hown hK hP hD hS 1 rfl rfl 27 (by decide) (hts _ q1136) (fun _ h9 => h9) rfl (by decide +kernel) rfl rfl (Nat.le_of_ble_eq_true rfl) d_Model_placeOf_120 (fun H locs hP hD hS => ?_)
            have hP : va_P G.1 classes [(b29, .inl (G.2 0, 2, .inl b58)), (b0, .inr (12, [.int b4, .ref b5, .ref b6, .ref b7, .ref b8, .int b9, .ref b10, .int b11, .int b12, .int b13, .int b14, .ref b15, .ref b16, .ref b17, .int b18, .ref b19, .ref b20, .ref b21, .ref b22, .ref b23, .ref b24, .ref b25, .ref b26, .ref b27, .ref b28, .ref b29, .ref b30, .int 0, .ref b32, .ref b33, .int b34, .int b35, .int b36, .int b37, .ref b38, .ref b39, .ref b40, .ref b41, .ref b42, .ref b43, .ref b44, .int b45, .ref b46, .ref b47, .int b48, .ref b49, .ref b50, .ref b51, .ref b52, .ref b53, .int b54, .ref b55, .ref b56, .ref b57])), (b30, .inl (G.2 0, 2880, .inl b59))] H := hP
            have hD := z_tie hP hD rfl
            refine lv_iload hx hb d_Model_placeOf_123 (lv_at hl 0 rfl) ?_
            exact z_iret hx hb hr hlocks (hP.sub [1, 0, 2] rfl) (hD.sub [1, 0, 2] (by decide) rfl) hS (Nat.le_of_ble_eq_true rfl) (Nat.le_of_ble_eq_true rfl) d_Model_placeOf_125 ⟨v_78, 0, rfl, rfl, (zI.wk (l' := 0) (h' := 240) hv_83 (by decide)), (zI.wk (l' := 0) (h' := 1) zc_0 (by decide)), (by omega)⟩
          · have _nhc_86 := hc_86
            have ni_88 := (fa_eq _ _).mp hc_86
            refine lv_iconst (v := 1) hx hb d_Model_placeOf_115 (by decide) ?_
            refine lv_goto (tgt := 120) hx hb d_Model_placeOf_116 (by decide) ?_
            refine va_put (D := G.1) (ci := 12) (v := .int 1) (ty := .boolean) (C := R_Model) (T := F_Model) (N := 54) hx hb hts i_Model t_Model t_Model_ok n_Model hown hK hP hD hS 1 rfl rfl 27 (by decide) (hts _ q1136) (fun _ h9 => h9) rfl (by decide +kernel) rfl rfl (Nat.le_of_ble_eq_true rfl) d_Model_placeOf_120 (fun H locs hP hD hS => ?_)
            have hP : va_P G.1 classes [(b29, .inl (G.2 0, 2, .inl b58)), (b0, .inr (12, [.int b4, .ref b5, .ref b6, .ref b7, .ref b8, .int b9, .ref b10, .int b11, .int b12, .int b13, .int b14, .ref b15, .ref b16, .ref b17, .int b18, .ref b19, .ref b20, .ref b21, .ref b22, .ref b23, .ref b24, .ref b25, .ref b26, .ref b27, .ref b28, .ref b29, .ref b30, .int 1, .ref b32, .ref b33, .int b34, .int b35, .int b36, .int b37, .ref b38, .ref b39, .ref b40, .ref b41, .ref b42, .ref b43, .ref b44, .int b45, .ref b46, .ref b47, .int b48, .ref b49, .ref b50, .ref b51, .ref b52, .ref b53, .int b54, .ref b55, .ref b56, .ref b57])), (b30, .inl (G.2 0, 2880, .inl b59))] H := hP
            have hD := z_tie hP hD rfl
            refine lv_iload hx hb d_Model_placeOf_123 (lv_at hl 0 rfl) ?_
            exact z_iret hx hb hr hlocks (hP.sub [1, 0, 2] rfl) (hD.sub [1, 0, 2] (by decide) rfl) hS (Nat.le_of_ble_eq_true rfl) (Nat.le_of_ble_eq_true rfl) d_Model_placeOf_125 ⟨v_78, 1, rfl, rfl, (zI.wk (l' := 0) (h' := 240) hv_83 (by decide)), (zI.wk (l' := 0) (h' := 1) zc_1 (by decide)), (by omega)⟩
        · have _nhc_80 := hc_80
          have ni_89 := (fa_lt _ _).mp (zi_nle hc_80)
          refine lv_iload hx hb d_Model_placeOf_33 (lv_at hl 1 rfl) ?_
          refine lv_iload hx hb d_Model_placeOf_35 (lv_at hl 2 rfl) ?_
          refine lv_icmp_ge (tgt := 96) hx hb d_Model_placeOf_37 (by decide) (fun _ => ?_) (fun hc => (by exfalso; exact hc ((fa_le _ _).mpr (by omega))))
          refine lv_aload_n hx hb d_Model_placeOf_96 rfl (lv_at hl 3 rfl) ?_
          refine lv_iload hx hb d_Model_placeOf_97 (lv_at hl 0 rfl) ?_
          refine lv_aload_n hx hb d_Model_placeOf_99 rfl (lv_at hl 3 rfl) ?_
          refine va_get (D := G.1) (ci := 12) (v := .ref b29) (C := R_Model) (T := F_Model) (N := 54) hx hb hts i_Model hown hK hP 1 rfl rfl 25 (by decide) (hts _ q1134) (fun _ h9 => h9) rfl d_Model_placeOf_100 ?_
          refine lv_iload_n hx hb d_Model_placeOf_103 rfl (lv_at hl 4 rfl) ?_
          refine va_iald hx hb hK hP 0 0 rfl rfl (i := 1) (z_in rfl) d_Model_placeOf_104 ?_
          refine lv_topi (fun v_90 ev_90 => ?_)
          obtain rfl : v_59 = v_90 := ev_59.trans ev_90.symm
          refine lv_icmp_ge (tgt := 119) hx hb d_Model_placeOf_105 (by decide) (fun hc => (by exfalso; have h9 := (fa_le _ _).mp hc; omega)) (fun _ => ?_)
          refine lv_iload hx hb d_Model_placeOf_108 (lv_at hl 1 rfl) ?_
          refine lv_iload hx hb d_Model_placeOf_110 (lv_at hl 2 rfl) ?_
          refine lv_icmp_ne (tgt := 119) hx hb d_Model_placeOf_112 (by decide) (fun hc_91 => ?_) (fun hc_91 => ?_)
          · have _nhc_91 := hc_91
            have ni_92 : ¬ (v_75 : Int32).toInt = (v_4 : Int32).toInt := fun z => hc_91 ((fa_eq _ _).mpr z)
            refine lv_iconst (v := 0) hx hb d_Model_placeOf_119 (by decide) ?_
            refine va_put (D := G.1) (ci := 12) (v := .int 0) (ty := .boolean) (C := R_Model) (T := F_Model) (N := 54) hx hb hts i_Model t_Model t_Model_ok n_Model hown hK hP hD hS 1 rfl rfl 27 (by decide) (hts _ q1136) (fun _ h9 => h9) rfl (by decide +kernel) rfl rfl (Nat.le_of_ble_eq_true rfl) d_Model_placeOf_120 (fun H locs hP hD hS => ?_)
            have hP : va_P G.1 classes [(b29, .inl (G.2 0, 2, .inl b58)), (b0, .inr (12, [.int b4, .ref b5, .ref b6, .ref b7, .ref b8, .int b9, .ref b10, .int b11, .int b12, .int b13, .int b14, .ref b15, .ref b16, .ref b17, .int b18, .ref b19, .ref b20, .ref b21, .ref b22, .ref b23, .ref b24, .ref b25, .ref b26, .ref b27, .ref b28, .ref b29, .ref b30, .int 0, .ref b32, .ref b33, .int b34, .int b35, .int b36, .int b37, .ref b38, .ref b39, .ref b40, .ref b41, .ref b42, .ref b43, .ref b44, .int b45, .ref b46, .ref b47, .int b48, .ref b49, .ref b50, .ref b51, .ref b52, .ref b53, .int b54, .ref b55, .ref b56, .ref b57])), (b30, .inl (G.2 0, 2880, .inl b59))] H := hP
            have hD := z_tie hP hD rfl
            refine lv_iload hx hb d_Model_placeOf_123 (lv_at hl 0 rfl) ?_
            exact z_iret hx hb hr hlocks (hP.sub [1, 0, 2] rfl) (hD.sub [1, 0, 2] (by decide) rfl) hS (Nat.le_of_ble_eq_true rfl) (Nat.le_of_ble_eq_true rfl) d_Model_placeOf_125 ⟨v_78, 0, rfl, rfl, (zI.wk (l' := 0) (h' := 240) hv_78 (by decide)), (zI.wk (l' := 0) (h' := 1) zc_0 (by decide)), (by omega)⟩
          · have _nhc_91 := hc_91
            have ni_93 := (fa_eq _ _).mp hc_91
            refine lv_iconst (v := 1) hx hb d_Model_placeOf_115 (by decide) ?_
            refine lv_goto (tgt := 120) hx hb d_Model_placeOf_116 (by decide) ?_
            refine va_put (D := G.1) (ci := 12) (v := .int 1) (ty := .boolean) (C := R_Model) (T := F_Model) (N := 54) hx hb hts i_Model t_Model t_Model_ok n_Model hown hK hP hD hS 1 rfl rfl 27 (by decide) (hts _ q1136) (fun _ h9 => h9) rfl (by decide +kernel) rfl rfl (Nat.le_of_ble_eq_true rfl) d_Model_placeOf_120 (fun H locs hP hD hS => ?_)
            have hP : va_P G.1 classes [(b29, .inl (G.2 0, 2, .inl b58)), (b0, .inr (12, [.int b4, .ref b5, .ref b6, .ref b7, .ref b8, .int b9, .ref b10, .int b11, .int b12, .int b13, .int b14, .ref b15, .ref b16, .ref b17, .int b18, .ref b19, .ref b20, .ref b21, .ref b22, .ref b23, .ref b24, .ref b25, .ref b26, .ref b27, .ref b28, .ref b29, .ref b30, .int 1, .ref b32, .ref b33, .int b34, .int b35, .int b36, .int b37, .ref b38, .ref b39, .ref b40, .ref b41, .ref b42, .ref b43, .ref b44, .int b45, .ref b46, .ref b47, .int b48, .ref b49, .ref b50, .ref b51, .ref b52, .ref b53, .int b54, .ref b55, .ref b56, .ref b57])), (b30, .inl (G.2 0, 2880, .inl b59))] H := hP
            have hD := z_tie hP hD rfl
            refine lv_iload hx hb d_Model_placeOf_123 (lv_at hl 0 rfl) ?_
            exact z_iret hx hb hr hlocks (hP.sub [1, 0, 2] rfl) (hD.sub [1, 0, 2] (by decide) rfl) hS (Nat.le_of_ble_eq_true rfl) (Nat.le_of_ble_eq_true rfl) d_Model_placeOf_125 ⟨v_78, 1, rfl, rfl, (zI.wk (l' := 0) (h' := 240) hv_78 (by decide)), (zI.wk (l' := 0) (h' := 1) zc_1 (by decide)), (by omega)⟩
      · have _nhc_76 := hc_76
        have ni_94 := (fa_lt _ _).mp (zi_nle hc_76)
        have hv_95 : zI v_75 0 580808 := zI.lt_l hv_75 hv_4 (zi_nle hc_76) (by decide)
        have hv_96 : zI v_4 1 580809 := zI.lt_r hv_75 hv_4 (zi_nle hc_76) (by decide)
        refine lv_iconst (v := 1) hx hb d_Model_placeOf_85 (by decide) ?_
        refine lv_goto (tgt := 90) hx hb d_Model_placeOf_86 (by decide) ?_
        refine lv_iadd hx hb d_Model_placeOf_90 ?_
        refine lv_topi (fun v_97 ev_97 => ?_)
        obtain ⟨qv_97, hv_97⟩ := zI_add (l := 1) (h := 240) hv_64 zc_1 ev_97 (by decide)
        rw [li_1] at qv_97
        refine lv_istore (lv' := [(6, .int v_97), (7, .int v_75), (5, .int v_4), (0, .ref b0), (1, .int 1), (2, .int b1), (3, .int b2), (4, .int b3)]) hx hb d_Model_placeOf_91 hl (by decide) rfl (fun ls hl => ?_)
        refine lv_goto (tgt := 22) hx hb d_Model_placeOf_93 (by decide) ?_
        exact ihk_54 (v_75) (v_97) _ _ _ (zI.wk (l' := (-1)) (h' := 580809) hv_95 (by decide)) (zI.wk (l' := 0) (h' := 240) hv_97 (by decide)) (by omega) (by omega) (by omega) (hP.sub [1, 0, 2] rfl) (hD.sub [1, 0, 2] (by decide) rfl) hS (lv_sub hl [1, 0, 2, 3, 4, 5, 6, 7] rfl)
abbrev m_s2_Model_addEdge : Room := { frames := 2, cells := 0, slots := 0, locals := 50 }
set_option maxHeartbeats 4000000 in
set_option maxRecDepth 100000 in
theorem s2_Model_addEdge (l : Launch) (G : zG) (b0 : Nat) (b1 : Int32) (b2 : Int32) (b3 : Int32) (b4 : Nat) (b5 : Nat) (b6 : Nat) (b7 : Nat) (b8 : Int32) (b9 : Nat) (b10 : Int32) (b11 : Int32) (b12 : Int32) (b13 : Int32) (b14 : Nat) (b15 : Nat) (b16 : Nat) (b17 : Int32) (b18 : Nat) (b19 : Nat) (b20 : Nat) (b21 : Nat) (b22 : Nat) (b23 : Nat) (b24 : Nat) (b25 : Nat) (b26 : Nat) (b27 : Nat) (b28 : Nat) (b29 : Nat) (b30 : Int32) (b31 : Nat) (b32 : Nat) (b33 : Int32) (b34 : Int32) (b35 : Int32) (b36 : Int32) (b37 : Nat) (b38 : Nat) (b39 : Nat) (b40 : Nat) (b41 : Nat) (b42 : Nat) (b43 : Nat) (b44 : Int32) (b45 : Nat) (b46 : Nat) (b47 : Int32) (b48 : Nat) (b49 : Nat) (b50 : Nat) (b51 : Nat) (b52 : Nat) (b53 : Int32) (b54 : Nat) (b55 : Nat) (b56 : Nat) (b57 : Nat → Int32) (b58 : Nat → Int32) (b59 : Nat → Int32) (b60 : Nat → Int32) (b61 : Nat → Int32) (hb1 : zI b1 0 19) (hb2 : zI b2 0 11) (hb8 : zI b8 0 8) (hb10 : zI b10 0 240) (hb11 : zI b11 0 240) (hb13 : zI b13 0 1) (hb17 : zI b17 0 12) (hb30 : zI b30 0 1) (hb33 : zI b33 0 1) (hb44 : zI b44 0 1000) (hb47 : zI b47 0 1000) (hb53 : zI b53 0 400) (hb57 : zW5 b57) (hb58 : zqa qP b58) (hb59 : zR b59 0 240) (hb60 : zR b60 0 240) (hb61 : zqa qE b61) (hem : (b60 (1 : Int32).toNatClampNeg).toInt ≤ 239) : zM l G y_Model_addEdge prog_14_method_34_code 10 (Option.none : Option Jvm.ClassFile.FieldType) m_s2_Model_addEdge [.ref b0, .int 1, .int b1, .int b2] [(b0, .inr (12, [.int b3, .ref b4, .ref b5, .ref b6, .ref b7, .int b8, .ref b9, .int b10, .int b11, .int b12, .int b13, .ref b14, .ref b15, .ref b16, .int b17, .ref b18, .ref b19, .ref b20, .ref b21, .ref b22, .ref b23, .ref b24, .ref b25, .ref b26, .ref b27, .ref b28, .ref b29, .int b30, .ref b31, .ref b32, .int b33, .int b34, .int b35, .int b36, .ref b37, .ref b38, .ref b39, .ref b40, .ref b41, .ref b42, .ref b43, .int b44, .ref b45, .ref b46, .int b47, .ref b48, .ref b49, .ref b50, .ref b51, .ref b52, .int b53, .ref b54, .ref b55, .ref b56])), (b4, .inl (G.2 0, 503, .inl b57)), (b20, .inl (G.2 0, 520, .inl b58)), (b23, .inl (G.2 0, 482, .inl b59)), (b28, .inl (G.2 0, 2, .inl b60)), (b29, .inl (G.2 0, 2880, .inl b61))] (fun v w => ∃ (e0 : Int32), ∃ (e1 : Nat → Int32), ∃ (e2 : Nat → Int32), v = none ∧ w = [(b0, .inr (12, [.int b3, .ref b4, .ref b5, .ref b6, .ref b7, .int b8, .ref b9, .int b10, .int b11, .int b12, .int b13, .ref b14, .ref b15, .ref b16, .int b17, .ref b18, .ref b19, .ref b20, .ref b21, .ref b22, .ref b23, .ref b24, .ref b25, .ref b26, .ref b27, .ref b28, .ref b29, .int e0, .ref b31, .ref b32, .int b33, .int b34, .int b35, .int b36, .ref b37, .ref b38, .ref b39, .ref b40, .ref b41, .ref b42, .ref b43, .int b44, .ref b45, .ref b46, .int b47, .ref b48, .ref b49, .ref b50, .ref b51, .ref b52, .int b53, .ref b54, .ref b55, .ref b56])), (b4, .inl (G.2 0, 503, .inl b57)), (b20, .inl (G.2 0, 520, .inl b58)), (b23, .inl (G.2 0, 482, .inl b59)), (b28, .inl (G.2 0, 2, .inl e1)), (b29, .inl (G.2 0, 2880, .inl e2))] ∧ (zI e0 0 1) ∧ (zR e1 0 240) ∧ (zqa qE e2) ∧ ((e1 (1 : Int32).toNatClampNeg).toInt ≤ (b60 (1 : Int32).toNatClampNeg).toInt + 1)) := by
  refine z_start (by decide +kernel) (Nat.le_of_ble_eq_true rfl) ?_
  intro p e s m below meth c A Z hr hnm hA hP hD hS ls hl
  have Z : zC p s m _ meth c prog_14_method_34_code 10 "TraceMachinesModel" G := Z
  obtain ⟨hx, hb, hml, hown, hts, hK, hN, hlocks⟩ := id Z
  have hl : lv_has ls 10 [(0, .ref b0), (1, .int 1), (2, .int b1), (3, .int b2)] := hl
  refine lv_aload_n hx hb d_Model_addEdge_0 rfl (lv_at hl 0 rfl) ?_
  refine lv_iload_n hx hb d_Model_addEdge_1 rfl (lv_at hl 1 rfl) ?_
  refine lv_iload_n hx hb d_Model_addEdge_2 rfl (lv_at hl 2 rfl) ?_
  refine lv_iload_n hx hb d_Model_addEdge_3 rfl (lv_at hl 3 rfl) ?_
  refine z_callV (index := 231) (As := [.int 1, .int b1, .int b2]) (rest := []) (wr := [(b4, .inl (G.2 0, 503, .inl b57)), (b28, .inl (G.2 0, 2, .inl b60)), (b29, .inl (G.2 0, 2880, .inl b61))]) Z (s2_Model_stateAt l G (b0) (b1) (b2) (b3) (b4) (b5) (b6) (b7) (b8) (b9) (b10) (b11) (b12) (b13) (b14) (b15) (b16) (b17) (b18) (b19) (b20) (b21) (b22) (b23) (b24) (b25) (b26) (b27) (b28) (b29) (b30) (b31) (b32) (b33) (b34) (b35) (b36) (b37) (b38) (b39) (b40) (b41) (b42) (b43) (b44) (b45) (b46) (b47) (b48) (b49) (b50) (b51) (b52) (b53) (b54) (b55) (b56) (b58) (b59) hb1 (zI.wk (l' := 0) (h' := 12) hb2 (by decide)) hb8 hb10 hb11 hb13 hb17 hb30 hb33 hb44 hb47 hb53 hb58 hb59) hl.1 q1400 q1402 qs66 q14 q1403 ⟨by decide, by decide, by show _ = some 3; decide +kernel⟩ ⟨Nat.le_of_ble_eq_true rfl, Nat.le_of_ble_eq_true rfl⟩ ⟨Nat.le_of_ble_eq_true rfl, Nat.le_of_ble_eq_true rfl⟩ rfl (Nat.le_of_ble_eq_true rfl) d_Model_addEdge_4 hP hD hS hA 0 12 rfl rfl rfl [0, 2, 3] [1, 4, 5] rfl rfl rfl rfl (by decide) (fun v w1 H locs hw_1 hP hD hS => ?_)
  obtain ⟨x_2, rfl, rfl, hx_2⟩ := hw_1
  have hP : va_P G.1 classes [(b4, .inl (G.2 0, 503, .inl b57)), (b28, .inl (G.2 0, 2, .inl b60)), (b29, .inl (G.2 0, 2880, .inl b61)), (b0, .inr (12, [.int b3, .ref b4, .ref b5, .ref b6, .ref b7, .int b8, .ref b9, .int b10, .int b11, .int b12, .int b13, .ref b14, .ref b15, .ref b16, .int b17, .ref b18, .ref b19, .ref b20, .ref b21, .ref b22, .ref b23, .ref b24, .ref b25, .ref b26, .ref b27, .ref b28, .ref b29, .int b30, .ref b31, .ref b32, .int b33, .int b34, .int b35, .int b36, .ref b37, .ref b38, .ref b39, .ref b40, .ref b41, .ref b42, .ref b43, .int b44, .ref b45, .ref b46, .int b47, .ref b48, .ref b49, .ref b50, .ref b51, .ref b52, .int b53, .ref b54, .ref b55, .ref b56])), (b20, .inl (G.2 0, 520, .inl b58)), (b23, .inl (G.2 0, 482, .inl b59))] H := hP
  have hD := z_tie hP hD rfl
  refine W.widen (k := 0) (n := 0) (Nat.le_of_ble_eq_true rfl) (Nat.le_of_ble_eq_true rfl) ?_
  refine lv_istore (lv' := [(4, .int x_2), (0, .ref b0), (1, .int 1), (2, .int b1), (3, .int b2)]) hx hb d_Model_addEdge_7 hl (by decide) rfl (fun ls hl => ?_)
  refine lv_aload_n hx hb d_Model_addEdge_9 rfl (lv_at hl 1 rfl) ?_
  refine lv_iload_n hx hb d_Model_addEdge_10 rfl (lv_at hl 2 rfl) ?_
  refine lv_iload_n hx hb d_Model_addEdge_11 rfl (lv_at hl 3 rfl) ?_
  refine lv_iload_n hx hb d_Model_addEdge_12 rfl (lv_at hl 4 rfl) ?_
  refine lv_iconst (v := 1) hx hb d_Model_addEdge_13 (by decide) ?_
  refine lv_iadd hx hb d_Model_addEdge_14 ?_
  refine lv_topi (fun v_3 ev_3 => ?_)
  obtain ⟨qv_3, hv_3⟩ := zI_add (l := 1) (h := 12) hb2 zc_1 ev_3 (by decide)
  rw [li_1] at qv_3
  refine z_callV (index := 231) (As := [.int 1, .int b1, .int v_3]) (rest := []) (wr := [(b4, .inl (G.2 0, 503, .inl b57)), (b28, .inl (G.2 0, 2, .inl b60)), (b29, .inl (G.2 0, 2880, .inl b61))]) Z (s2_Model_stateAt l G (b0) (b1) (v_3) (b3) (b4) (b5) (b6) (b7) (b8) (b9) (b10) (b11) (b12) (b13) (b14) (b15) (b16) (b17) (b18) (b19) (b20) (b21) (b22) (b23) (b24) (b25) (b26) (b27) (b28) (b29) (b30) (b31) (b32) (b33) (b34) (b35) (b36) (b37) (b38) (b39) (b40) (b41) (b42) (b43) (b44) (b45) (b46) (b47) (b48) (b49) (b50) (b51) (b52) (b53) (b54) (b55) (b56) (b58) (b59) hb1 (zI.wk (l' := 0) (h' := 12) hv_3 (by decide)) hb8 hb10 hb11 hb13 hb17 hb30 hb33 hb44 hb47 hb53 hb58 hb59) hl.1 q1400 q1402 qs66 q14 q1403 ⟨by decide, by decide, by show _ = some 3; decide +kernel⟩ ⟨Nat.le_of_ble_eq_true rfl, Nat.le_of_ble_eq_true rfl⟩ ⟨Nat.le_of_ble_eq_true rfl, Nat.le_of_ble_eq_true rfl⟩ rfl (Nat.le_of_ble_eq_true rfl) d_Model_addEdge_15 hP hD hS hA 3 12 rfl rfl rfl [3, 4, 5] [0, 1, 2] rfl rfl rfl rfl (by decide) (fun v w1 H locs hw_4 hP hD hS => ?_)
  obtain ⟨x_5, rfl, rfl, hx_5⟩ := hw_4
  have hP : va_P G.1 classes [(b4, .inl (G.2 0, 503, .inl b57)), (b28, .inl (G.2 0, 2, .inl b60)), (b29, .inl (G.2 0, 2880, .inl b61)), (b0, .inr (12, [.int b3, .ref b4, .ref b5, .ref b6, .ref b7, .int b8, .ref b9, .int b10, .int b11, .int b12, .int b13, .ref b14, .ref b15, .ref b16, .int b17, .ref b18, .ref b19, .ref b20, .ref b21, .ref b22, .ref b23, .ref b24, .ref b25, .ref b26, .ref b27, .ref b28, .ref b29, .int b30, .ref b31, .ref b32, .int b33, .int b34, .int b35, .int b36, .ref b37, .ref b38, .ref b39, .ref b40, .ref b41, .ref b42, .ref b43, .int b44, .ref b45, .ref b46, .int b47, .ref b48, .ref b49, .ref b50, .ref b51, .ref b52, .int b53, .ref b54, .ref b55, .ref b56])), (b20, .inl (G.2 0, 520, .inl b58)), (b23, .inl (G.2 0, 482, .inl b59))] H := hP
  have hD := z_tie hP hD rfl
  refine W.widen (k := 0) (n := 0) (Nat.le_of_ble_eq_true rfl) (Nat.le_of_ble_eq_true rfl) ?_
  refine lv_istore (lv' := [(5, .int x_5), (4, .int x_2), (0, .ref b0), (1, .int 1), (2, .int b1), (3, .int b2)]) hx hb d_Model_addEdge_18 hl (by decide) rfl (fun ls hl => ?_)
  refine lv_aload_n hx hb d_Model_addEdge_20 rfl (lv_at hl 2 rfl) ?_
  refine lv_iload_n hx hb d_Model_addEdge_21 rfl (lv_at hl 3 rfl) ?_
  refine lv_iload hx hb d_Model_addEdge_22 (lv_at hl 1 rfl) ?_
  refine lv_aload_n hx hb d_Model_addEdge_24 rfl (lv_at hl 2 rfl) ?_
  refine lv_iload_n hx hb d_Model_addEdge_25 rfl (lv_at hl 4 rfl) ?_
  refine lv_iload_n hx hb d_Model_addEdge_26 rfl (lv_at hl 5 rfl) ?_
  refine z_callV (index := 207) (As := [.int b1, .int b2]) (rest := [.int x_2, .int 1, .ref b0]) (wr := [(b28, .inl (G.2 0, 2, .inl b60)), (b29, .inl (G.2 0, 2880, .inl b61)), (b20, .inl (G.2 0, 520, .inl b58)), (b23, .inl (G.2 0, 482, .inl b59))]) Z (s1_Model_letterAt l G (b0) (b1) (b2) (b3) (b4) (b5) (b6) (b7) (b8) (b9) (b10) (b11) (b12) (b13) (b14) (b15) (b16) (b17) (b18) (b19) (b20) (b21) (b22) (b23) (b24) (b25) (b26) (b27) (b28) (b29) (b30) (b31) (b32) (b33) (b34) (b35) (b36) (b37) (b38) (b39) (b40) (b41) (b42) (b43) (b44) (b45) (b46) (b47) (b48) (b49) (b50) (b51) (b52) (b53) (b54) (b55) (b56) (b57) hb1 hb2 hb8 hb10 hb11 hb13 hb17 hb30 hb33 hb44 hb47 hb53 hb57) hl.1 q1372 q1374 qs59 q14 q1375 ⟨by decide, by decide, by show _ = some 2; decide +kernel⟩ ⟨Nat.le_of_ble_eq_true rfl, Nat.le_of_ble_eq_true rfl⟩ ⟨Nat.le_of_ble_eq_true rfl, Nat.le_of_ble_eq_true rfl⟩ rfl (Nat.le_of_ble_eq_true rfl) d_Model_addEdge_27 hP hD hS hA 3 12 rfl rfl rfl [3, 0] [1, 2, 4, 5] rfl rfl rfl rfl (by decide) (fun v w1 H locs hw_6 hP hD hS => ?_)
  obtain ⟨x_7, rfl, rfl, hx_7⟩ := hw_6
  have hP : va_P G.1 classes [(b28, .inl (G.2 0, 2, .inl b60)), (b29, .inl (G.2 0, 2880, .inl b61)), (b20, .inl (G.2 0, 520, .inl b58)), (b23, .inl (G.2 0, 482, .inl b59)), (b0, .inr (12, [.int b3, .ref b4, .ref b5, .ref b6, .ref b7, .int b8, .ref b9, .int b10, .int b11, .int b12, .int b13, .ref b14, .ref b15, .ref b16, .int b17, .ref b18, .ref b19, .ref b20, .ref b21, .ref b22, .ref b23, .ref b24, .ref b25, .ref b26, .ref b27, .ref b28, .ref b29, .int b30, .ref b31, .ref b32, .int b33, .int b34, .int b35, .int b36, .ref b37, .ref b38, .ref b39, .ref b40, .ref b41, .ref b42, .ref b43, .int b44, .ref b45, .ref b46, .int b47, .ref b48, .ref b49, .ref b50, .ref b51, .ref b52, .int b53, .ref b54, .ref b55, .ref b56])), (b4, .inl (G.2 0, 503, .inl b57))] H := hP
  have hD := z_tie hP hD rfl
  refine W.widen (k := 0) (n := 0) (Nat.le_of_ble_eq_true rfl) (Nat.le_of_ble_eq_true rfl) ?_
  refine lv_iload hx hb d_Model_addEdge_30 (lv_at hl 0 rfl) ?_
  refine z_callV (index := 234) (As := [.int 1, .int x_2, .int x_7, .int x_5]) (rest := []) (wr := [(b20, .inl (G.2 0, 520, .inl b58)), (b23, .inl (G.2 0, 482, .inl b59)), (b4, .inl (G.2 0, 503, .inl b57))]) Z (s2_Model_placeOf l G (b0) (x_2) (x_7) (x_5) (b3) (b4) (b5) (b6) (b7) (b8) (b9) (b10) (b11) (b12) (b13) (b14) (b15) (b16) (b17) (b18) (b19) (b20) (b21) (b22) (b23) (b24) (b25) (b26) (b27) (b28) (b29) (b30) (b31) (b32) (b33) (b34) (b35) (b36) (b37) (b38) (b39) (b40) (b41) (b42) (b43) (b44) (b45) (b46) (b47) (b48) (b49) (b50) (b51) (b52) (b53) (b54) (b55) (b56) (b60) (b61) hx_2 hx_7 hx_5 hb8 hb10 hb11 hb13 hb17 hb30 hb33 hb44 hb47 hb53 hb60 hb61) hl.1 q1404 q1406 qs67 q14 q1407 ⟨by decide, by decide, by show _ = some 4; decide +kernel⟩ ⟨Nat.le_of_ble_eq_true rfl, Nat.le_of_ble_eq_true rfl⟩ ⟨Nat.le_of_ble_eq_true rfl, Nat.le_of_ble_eq_true rfl⟩ rfl (Nat.le_of_ble_eq_true rfl) d_Model_addEdge_32 hP hD hS hA 4 12 rfl rfl rfl [4, 0, 1] [2, 3, 5] rfl rfl rfl rfl (by decide) (fun v w1 H locs hw_8 hP hD hS => ?_)
  obtain ⟨x_9, x_10, rfl, rfl, hx_9, hx_10, hfx_11⟩ := hw_8
  have hP : va_P G.1 classes [(b20, .inl (G.2 0, 520, .inl b58)), (b23, .inl (G.2 0, 482, .inl b59)), (b4, .inl (G.2 0, 503, .inl b57)), (b0, .inr (12, [.int b3, .ref b4, .ref b5, .ref b6, .ref b7, .int b8, .ref b9, .int b10, .int b11, .int b12, .int b13, .ref b14, .ref b15, .ref b16, .int b17, .ref b18, .ref b19, .ref b20, .ref b21, .ref b22, .ref b23, .ref b24, .ref b25, .ref b26, .ref b27, .ref b28, .ref b29, .int x_10, .ref b31, .ref b32, .int b33, .int b34, .int b35, .int b36, .ref b37, .ref b38, .ref b39, .ref b40, .ref b41, .ref b42, .ref b43, .int b44, .ref b45, .ref b46, .int b47, .ref b48, .ref b49, .ref b50, .ref b51, .ref b52, .int b53, .ref b54, .ref b55, .ref b56])), (b28, .inl (G.2 0, 2, .inl b60)), (b29, .inl (G.2 0, 2880, .inl b61))] H := hP
  have hD := z_tie hP hD rfl
  refine W.widen (k := 0) (n := 0) (Nat.le_of_ble_eq_true rfl) (Nat.le_of_ble_eq_true rfl) ?_
  have hv_12 : zI x_9 0 239 := ⟨(hx_9).1, by have := hfx_11; omega⟩
  refine lv_istore (lv' := [(6, .int x_9), (5, .int x_5), (4, .int x_2), (0, .ref b0), (1, .int 1), (2, .int b1), (3, .int b2)]) hx hb d_Model_addEdge_35 hl (by decide) rfl (fun ls hl => ?_)
  refine lv_aload_n hx hb d_Model_addEdge_37 rfl (lv_at hl 3 rfl) ?_
  refine lv_iload_n hx hb d_Model_addEdge_38 rfl (lv_at hl 5 rfl) ?_
  refine lv_iload_n hx hb d_Model_addEdge_39 rfl (lv_at hl 6 rfl) ?_
  refine z_callV (index := 238) (As := [.int b1, .int b2]) (rest := []) (wr := [(b20, .inl (G.2 0, 520, .inl b58)), (b23, .inl (G.2 0, 482, .inl b59)), (b28, .inl (G.2 0, 2, .inl b60)), (b29, .inl (G.2 0, 2880, .inl b61))]) Z (s1_Model_valueAt l G (b0) (b1) (b2) (b3) (b4) (b5) (b6) (b7) (b8) (b9) (b10) (b11) (b12) (b13) (b14) (b15) (b16) (b17) (b18) (b19) (b20) (b21) (b22) (b23) (b24) (b25) (b26) (b27) (b28) (b29) (x_10) (b31) (b32) (b33) (b34) (b35) (b36) (b37) (b38) (b39) (b40) (b41) (b42) (b43) (b44) (b45) (b46) (b47) (b48) (b49) (b50) (b51) (b52) (b53) (b54) (b55) (b56) (b57) hb1 hb2 hb8 hb10 hb11 hb13 hb17 hx_10 hb33 hb44 hb47 hb53 hb57) hl.1 q1412 q1414 qs69 q14 q1415 ⟨by decide, by decide, by show _ = some 2; decide +kernel⟩ ⟨Nat.le_of_ble_eq_true rfl, Nat.le_of_ble_eq_true rfl⟩ ⟨Nat.le_of_ble_eq_true rfl, Nat.le_of_ble_eq_true rfl⟩ rfl (Nat.le_of_ble_eq_true rfl) d_Model_addEdge_40 hP hD hS hA 3 12 rfl rfl rfl [3, 2] [0, 1, 4, 5] rfl rfl rfl rfl (by decide) (fun v w1 H locs hw_13 hP hD hS => ?_)
  obtain ⟨x_14, rfl, rfl⟩ := hw_13
  have hP : va_P G.1 classes [(b20, .inl (G.2 0, 520, .inl b58)), (b23, .inl (G.2 0, 482, .inl b59)), (b28, .inl (G.2 0, 2, .inl b60)), (b29, .inl (G.2 0, 2880, .inl b61)), (b0, .inr (12, [.int b3, .ref b4, .ref b5, .ref b6, .ref b7, .int b8, .ref b9, .int b10, .int b11, .int b12, .int b13, .ref b14, .ref b15, .ref b16, .int b17, .ref b18, .ref b19, .ref b20, .ref b21, .ref b22, .ref b23, .ref b24, .ref b25, .ref b26, .ref b27, .ref b28, .ref b29, .int x_10, .ref b31, .ref b32, .int b33, .int b34, .int b35, .int b36, .ref b37, .ref b38, .ref b39, .ref b40, .ref b41, .ref b42, .ref b43, .int b44, .ref b45, .ref b46, .int b47, .ref b48, .ref b49, .ref b50, .ref b51, .ref b52, .int b53, .ref b54, .ref b55, .ref b56])), (b4, .inl (G.2 0, 503, .inl b57))] H := hP
  have hD := z_tie hP hD rfl
  refine W.widen (k := 0) (n := 0) (Nat.le_of_ble_eq_true rfl) (Nat.le_of_ble_eq_true rfl) ?_
  refine lv_istore (lv' := [(7, .int x_14), (6, .int x_9), (5, .int x_5), (4, .int x_2), (0, .ref b0), (1, .int 1), (2, .int b1), (3, .int b2)]) hx hb d_Model_addEdge_43 hl (by decide) rfl (fun ls hl => ?_)
  refine lv_bipush (v := 6) hx hb d_Model_addEdge_45 (by decide) ?_
  refine lv_sipush (v := 240) hx hb d_Model_addEdge_47 (by decide) ?_
  refine lv_iload_n hx hb d_Model_addEdge_50 rfl (lv_at hl 5 rfl) ?_
  refine lv_imul hx hb d_Model_addEdge_51 ?_
  refine z_topi (y := 240) (by decide +kernel) ?_
  refine lv_iload hx hb d_Model_addEdge_52 (lv_at hl 1 rfl) ?_
  refine lv_iadd hx hb d_Model_addEdge_54 ?_
  refine lv_topi (fun v_15 ev_15 => ?_)
  obtain ⟨qv_15, hv_15⟩ := zI_add (l := 240) (h := 479) zc_240 hv_12 ev_15 (by decide)
  rw [li_240] at qv_15
  refine lv_imul hx hb d_Model_addEdge_55 ?_
  refine lv_topi (fun v_16 ev_16 => ?_)
  obtain ⟨qv_16, hv_16⟩ := zI_mul (l := 1440) (h := 2874) zc_6 hv_15 ev_16 (by decide)
  rw [li_6] at qv_16
  refine lv_istore (lv' := [(8, .int v_16), (7, .int x_14), (6, .int x_9), (5, .int x_5), (4, .int x_2), (0, .ref b0), (1, .int 1), (2, .int b1), (3, .int b2)]) hx hb d_Model_addEdge_56 hl (by decide) rfl (fun ls hl => ?_)
  refine lv_aload_n hx hb d_Model_addEdge_58 rfl (lv_at hl 5 rfl) ?_
  refine va_get (D := G.1) (ci := 12) (v := .int x_10) (C := R_Model) (T := F_Model) (N := 54) hx hb hts i_Model hown hK hP 4 rfl rfl 27 (by decide) (hts _ q1136) (fun _ h9 => h9) rfl d_Model_addEdge_59 ?_
  refine lv_if_ne (tgt := 191) hx hb d_Model_addEdge_62 (by decide) (fun hc_17 => ?_) (fun hc_17 => ?_)
  · have _nhc_17 := hc_17
    have ni_18 : ¬ (x_10 : Int32).toInt = (0 : Int32).toInt := fun z => hc_17 ((fa_eq _ _).mpr z)
    simp only [li_0] at ni_18
    have hv_19 : zI x_10 1 1 := zI.ne_lo hx_10 zc_0 hc_17 (by decide)
    refine lv_aload_n hx hb d_Model_addEdge_191 rfl (lv_at hl 5 rfl) ?_
    refine va_get (D := G.1) (ci := 12) (v := .ref b29) (C := R_Model) (T := F_Model) (N := 54) hx hb hts i_Model hown hK hP 4 rfl rfl 26 (by decide) (hts _ q1135) (fun _ h9 => h9) rfl d_Model_addEdge_192 ?_
    refine lv_iload hx hb d_Model_addEdge_195 (lv_at hl 0 rfl) ?_
    refine lv_iconst (v := 3) hx hb d_Model_addEdge_197 (by decide) ?_
    refine lv_iadd hx hb d_Model_addEdge_198 ?_
    refine lv_topi (fun v_20 ev_20 => ?_)
    obtain ⟨qv_20, hv_20⟩ := zI_add (l := 1443) (h := 2877) hv_16 zc_3 ev_20 (by decide)
    rw [li_3] at qv_20
    refine lv_dup2_11 hx hb d_Model_addEdge_199 rfl rfl ?_
    refine va_iald hx hb hK hP 3 0 rfl rfl (zI.inn hv_20 (by decide)) d_Model_addEdge_200 ?_
    refine lv_topi (fun v_21 ev_21 => ?_)
    have kv_21 := zQE.ld hb61 hv_20 ev_21 (by decide)
    refine lv_iconst (v := 1) hx hb d_Model_addEdge_201 (by decide) ?_
    refine lv_iadd hx hb d_Model_addEdge_202 ?_
    refine lv_topi (fun v_22 ev_22 => ?_)
    refine va_iast hx hb hK hP hD hS 3 0 rfl rfl (zI.inn hv_20 (by decide)) d_Model_addEdge_203 (fun H locs hP hD hS => ?_)
    obtain ⟨f_23, hf_23, gf_23, uf_23, hP, hD⟩ := z_newq_ (Q := qE) 3 hP hD rfl hb61 (qE_v hv_20 (by decide) ⟨fun _ => ⟨by have _w := (zI_all v_22); omega, by have _w := (zI_all v_22); omega⟩, fun _ => ⟨by have _w := (zI_all v_22); omega, by have _w := (zI_all v_22); omega⟩, fun _ => ⟨by have _w := (zI_all v_22); omega, by have _w := (zI_all v_22); omega⟩⟩)
    have hP : va_P G.1 classes [(b20, .inl (G.2 0, 520, .inl b58)), (b23, .inl (G.2 0, 482, .inl b59)), (b28, .inl (G.2 0, 2, .inl b60)), (b29, .inl (G.2 0, 2880, .inl f_23)), (b0, .inr (12, [.int b3, .ref b4, .ref b5, .ref b6, .ref b7, .int b8, .ref b9, .int b10, .int b11, .int b12, .int b13, .ref b14, .ref b15, .ref b16, .int b17, .ref b18, .ref b19, .ref b20, .ref b21, .ref b22, .ref b23, .ref b24, .ref b25, .ref b26, .ref b27, .ref b28, .ref b29, .int x_10, .ref b31, .ref b32, .int b33, .int b34, .int b35, .int b36, .ref b37, .ref b38, .ref b39, .ref b40, .ref b41, .ref b42, .ref b43, .int b44, .ref b45, .ref b46, .int b47, .ref b48, .ref b49, .ref b50, .ref b51, .ref b52, .int b53, .ref b54, .ref b55, .ref b56])), (b4, .inl (G.2 0, 503, .inl b57))] H := hP
    have hD := z_tie hP hD rfl
    refine lv_aload_n hx hb d_Model_addEdge_204 rfl (lv_at hl 5 rfl) ?_
    refine va_get (D := G.1) (ci := 12) (v := .ref b29) (C := R_Model) (T := F_Model) (N := 54) hx hb hts i_Model hown hK hP 4 rfl rfl 26 (by decide) (hts _ q1135) (fun _ h9 => h9) rfl d_Model_addEdge_205 ?_
    refine lv_iload hx hb d_Model_addEdge_208 (lv_at hl 0 rfl) ?_
    refine lv_iconst (v := 4) hx hb d_Model_addEdge_210 (by decide) ?_
    refine lv_iadd hx hb d_Model_addEdge_211 ?_
    refine lv_topi (fun v_24 ev_24 => ?_)
    obtain ⟨qv_24, hv_24⟩ := zI_add (l := 1444) (h := 2878) hv_16 zc_4 ev_24 (by decide)
    rw [li_4] at qv_24
    refine lv_iload hx hb d_Model_addEdge_212 (lv_at hl 1 rfl) ?_
    refine lv_aload_n hx hb d_Model_addEdge_214 rfl (lv_at hl 5 rfl) ?_
    refine va_get (D := G.1) (ci := 12) (v := .ref b29) (C := R_Model) (T := F_Model) (N := 54) hx hb hts i_Model hown hK hP 4 rfl rfl 26 (by decide) (hts _ q1135) (fun _ h9 => h9) rfl d_Model_addEdge_215 ?_
    refine lv_iload hx hb d_Model_addEdge_218 (lv_at hl 0 rfl) ?_
    refine lv_iconst (v := 4) hx hb d_Model_addEdge_220 (by decide) ?_
    refine lv_iadd hx hb d_Model_addEdge_221 ?_
    refine lv_topi (fun v_25 ev_25 => ?_)
    obtain rfl : v_24 = v_25 := ev_24.trans ev_25.symm
    refine va_iald hx hb hK hP 3 0 rfl rfl (zI.inn hv_24 (by decide)) d_Model_addEdge_222 ?_
    refine lv_topi (fun v_26 ev_26 => ?_)
    have kv_26 := zQE.ld hf_23 hv_24 ev_26 (by decide)
    refine lv_icmp_ge (tgt := 231) hx hb d_Model_addEdge_223 (by decide) (fun hc_27 => ?_) (fun hc_27 => ?_)
    · have _nhc_27 := hc_27
      have ni_28 := (fa_le _ _).mp hc_27
      refine lv_aload_n hx hb d_Model_addEdge_231 rfl (lv_at hl 5 rfl) ?_
      refine va_get (D := G.1) (ci := 12) (v := .ref b29) (C := R_Model) (T := F_Model) (N := 54) hx hb hts i_Model hown hK hP 4 rfl rfl 26 (by decide) (hts _ q1135) (fun _ h9 => h9) rfl d_Model_addEdge_232 ?_
      refine lv_iload hx hb d_Model_addEdge_235 (lv_at hl 0 rfl) ?_
      refine lv_iconst (v := 4) hx hb d_Model_addEdge_237 (by decide) ?_
      refine lv_iadd hx hb d_Model_addEdge_238 ?_
      refine lv_topi (fun v_29 ev_29 => ?_)
      obtain rfl : v_24 = v_29 := ev_24.trans ev_29.symm
      refine va_iald hx hb hK hP 3 0 rfl rfl (zI.inn hv_24 (by decide)) d_Model_addEdge_239 ?_
      refine lv_topi (fun v_30 ev_30 => ?_)
      obtain rfl : v_26 = v_30 := ev_26.trans ev_30.symm
      refine va_iast hx hb hK hP hD hS 3 0 rfl rfl (zI.inn hv_24 (by decide)) d_Model_addEdge_240 (fun H locs hP hD hS => ?_)
      obtain ⟨f_31, hf_31, gf_31, uf_31, hP, hD⟩ := z_newq_ (Q := qE) 3 hP hD rfl hf_23 (qE_s kv_26 hv_24 hv_24 (by decide) (by omega))
      have hP : va_P G.1 classes [(b20, .inl (G.2 0, 520, .inl b58)), (b23, .inl (G.2 0, 482, .inl b59)), (b28, .inl (G.2 0, 2, .inl b60)), (b29, .inl (G.2 0, 2880, .inl f_31)), (b0, .inr (12, [.int b3, .ref b4, .ref b5, .ref b6, .ref b7, .int b8, .ref b9, .int b10, .int b11, .int b12, .int b13, .ref b14, .ref b15, .ref b16, .int b17, .ref b18, .ref b19, .ref b20, .ref b21, .ref b22, .ref b23, .ref b24, .ref b25, .ref b26, .ref b27, .ref b28, .ref b29, .int x_10, .ref b31, .ref b32, .int b33, .int b34, .int b35, .int b36, .ref b37, .ref b38, .ref b39, .ref b40, .ref b41, .ref b42, .ref b43, .int b44, .ref b45, .ref b46, .int b47, .ref b48, .ref b49, .ref b50, .ref b51, .ref b52, .int b53, .ref b54, .ref b55, .ref b56])), (b4, .inl (G.2 0, 503, .inl b57))] H := hP
      have hD := z_tie hP hD rfl
      refine lv_aload_n hx hb d_Model_addEdge_241 rfl (lv_at hl 5 rfl) ?_
      refine va_get (D := G.1) (ci := 12) (v := .ref b29) (C := R_Model) (T := F_Model) (N := 54) hx hb hts i_Model hown hK hP 4 rfl rfl 26 (by decide) (hts _ q1135) (fun _ h9 => h9) rfl d_Model_addEdge_242 ?_
      refine lv_iload hx hb d_Model_addEdge_245 (lv_at hl 0 rfl) ?_
      refine lv_iconst (v := 5) hx hb d_Model_addEdge_247 (by decide) ?_
      refine lv_iadd hx hb d_Model_addEdge_248 ?_
      refine lv_topi (fun v_32 ev_32 => ?_)
      obtain ⟨qv_32, hv_32⟩ := zI_add (l := 1445) (h := 2879) hv_16 zc_5 ev_32 (by decide)
      rw [li_5] at qv_32
      refine lv_iload hx hb d_Model_addEdge_249 (lv_at hl 1 rfl) ?_
      refine lv_aload_n hx hb d_Model_addEdge_251 rfl (lv_at hl 5 rfl) ?_
      refine va_get (D := G.1) (ci := 12) (v := .ref b29) (C := R_Model) (T := F_Model) (N := 54) hx hb hts i_Model hown hK hP 4 rfl rfl 26 (by decide) (hts _ q1135) (fun _ h9 => h9) rfl d_Model_addEdge_252 ?_
      refine lv_iload hx hb d_Model_addEdge_255 (lv_at hl 0 rfl) ?_
      refine lv_iconst (v := 5) hx hb d_Model_addEdge_257 (by decide) ?_
      refine lv_iadd hx hb d_Model_addEdge_258 ?_
      refine lv_topi (fun v_33 ev_33 => ?_)
      obtain rfl : v_32 = v_33 := ev_32.trans ev_33.symm
      refine va_iald hx hb hK hP 3 0 rfl rfl (zI.inn hv_32 (by decide)) d_Model_addEdge_259 ?_
      refine lv_topi (fun v_34 ev_34 => ?_)
      have kv_34 := zQE.ld hf_31 hv_32 ev_34 (by decide)
      refine lv_icmp_le (tgt := 268) hx hb d_Model_addEdge_260 (by decide) (fun hc_35 => ?_) (fun hc_35 => ?_)
      · have _nhc_35 := hc_35
        have ni_36 := (fa_le _ _).mp hc_35
        refine lv_aload_n hx hb d_Model_addEdge_268 rfl (lv_at hl 5 rfl) ?_
        refine va_get (D := G.1) (ci := 12) (v := .ref b29) (C := R_Model) (T := F_Model) (N := 54) hx hb hts i_Model hown hK hP 4 rfl rfl 26 (by decide) (hts _ q1135) (fun _ h9 => h9) rfl d_Model_addEdge_269 ?_
        refine lv_iload hx hb d_Model_addEdge_272 (lv_at hl 0 rfl) ?_
        refine lv_iconst (v := 5) hx hb d_Model_addEdge_274 (by decide) ?_
        refine lv_iadd hx hb d_Model_addEdge_275 ?_
        refine lv_topi (fun v_37 ev_37 => ?_)
        obtain rfl : v_32 = v_37 := ev_32.trans ev_37.symm
        refine va_iald hx hb hK hP 3 0 rfl rfl (zI.inn hv_32 (by decide)) d_Model_addEdge_276 ?_
        refine lv_topi (fun v_38 ev_38 => ?_)
        obtain rfl : v_34 = v_38 := ev_34.trans ev_38.symm
        refine va_iast hx hb hK hP hD hS 3 0 rfl rfl (zI.inn hv_32 (by decide)) d_Model_addEdge_277 (fun H locs hP hD hS => ?_)
        obtain ⟨f_39, hf_39, gf_39, uf_39, hP, hD⟩ := z_newq_ (Q := qE) 3 hP hD rfl hf_31 (qE_s kv_34 hv_32 hv_32 (by decide) (by omega))
        have hP : va_P G.1 classes [(b20, .inl (G.2 0, 520, .inl b58)), (b23, .inl (G.2 0, 482, .inl b59)), (b28, .inl (G.2 0, 2, .inl b60)), (b29, .inl (G.2 0, 2880, .inl f_39)), (b0, .inr (12, [.int b3, .ref b4, .ref b5, .ref b6, .ref b7, .int b8, .ref b9, .int b10, .int b11, .int b12, .int b13, .ref b14, .ref b15, .ref b16, .int b17, .ref b18, .ref b19, .ref b20, .ref b21, .ref b22, .ref b23, .ref b24, .ref b25, .ref b26, .ref b27, .ref b28, .ref b29, .int x_10, .ref b31, .ref b32, .int b33, .int b34, .int b35, .int b36, .ref b37, .ref b38, .ref b39, .ref b40, .ref b41, .ref b42, .ref b43, .int b44, .ref b45, .ref b46, .int b47, .ref b48, .ref b49, .ref b50, .ref b51, .ref b52, .int b53, .ref b54, .ref b55, .ref b56])), (b4, .inl (G.2 0, 503, .inl b57))] H := hP
        have hD := z_tie hP hD rfl
        exact z_vret hx hb hr hlocks (hP.sub [4, 5, 0, 1, 2, 3] rfl) (hD.sub [4, 5, 0, 1, 2, 3] (by decide) rfl) hS (Nat.le_of_ble_eq_true rfl) (Nat.le_of_ble_eq_true rfl) d_Model_addEdge_278 ⟨x_10, b60, f_39, rfl, rfl, (zI.wk (l' := 0) (h' := 1) hv_19 (by decide)), hb60, hf_39, (by omega)⟩
      · have _nhc_35 := hc_35
        have ni_40 := (fa_lt _ _).mp (zi_nle hc_35)
        have hv_41 : zI v_34 (-2147483648) 2147483646 := zI.lt_l (zI_all v_34) (zI_all x_14) (zi_nle hc_35) (by decide)
        have hv_42 : zI x_14 (-2147483647) 2147483647 := zI.lt_r (zI_all v_34) (zI_all x_14) (zi_nle hc_35) (by decide)
        refine lv_iload hx hb d_Model_addEdge_263 (lv_at hl 1 rfl) ?_
        refine lv_goto (tgt := 277) hx hb d_Model_addEdge_265 (by decide) ?_
        refine va_iast hx hb hK hP hD hS 3 0 rfl rfl (zI.inn hv_32 (by decide)) d_Model_addEdge_277 (fun H locs hP hD hS => ?_)
        obtain ⟨f_43, hf_43, gf_43, uf_43, hP, hD⟩ := z_newq_ (Q := qE) 3 hP hD rfl hf_31 (qE_v hv_32 (by decide) ⟨fun _ => ⟨by have _w := hv_42; omega, by have _w := hv_42; omega⟩, fun _ => ⟨by have _w := hv_42; omega, by have _w := hv_42; omega⟩, fun _ => ⟨by have _w := hv_42; omega, by have _w := hv_42; omega⟩⟩)
        have hP : va_P G.1 classes [(b20, .inl (G.2 0, 520, .inl b58)), (b23, .inl (G.2 0, 482, .inl b59)), (b28, .inl (G.2 0, 2, .inl b60)), (b29, .inl (G.2 0, 2880, .inl f_43)), (b0, .inr (12, [.int b3, .ref b4, .ref b5, .ref b6, .ref b7, .int b8, .ref b9, .int b10, .int b11, .int b12, .int b13, .ref b14, .ref b15, .ref b16, .int b17, .ref b18, .ref b19, .ref b20, .ref b21, .ref b22, .ref b23, .ref b24, .ref b25, .ref b26, .ref b27, .ref b28, .ref b29, .int x_10, .ref b31, .ref b32, .int b33, .int b34, .int b35, .int b36, .ref b37, .ref b38, .ref b39, .ref b40, .ref b41, .ref b42, .ref b43, .int b44, .ref b45, .ref b46, .int b47, .ref b48, .ref b49, .ref b50, .ref b51, .ref b52, .int b53, .ref b54, .ref b55, .ref b56])), (b4, .inl (G.2 0, 503, .inl b57))] H := hP
        have hD := z_tie hP hD rfl
        exact z_vret hx hb hr hlocks (hP.sub [4, 5, 0, 1, 2, 3] rfl) (hD.sub [4, 5, 0, 1, 2, 3] (by decide) rfl) hS (Nat.le_of_ble_eq_true rfl) (Nat.le_of_ble_eq_true rfl) d_Model_addEdge_278 ⟨x_10, b60, f_43, rfl, rfl, (zI.wk (l' := 0) (h' := 1) hv_19 (by decide)), hb60, hf_43, (by omega)⟩
    · have _nhc_27 := hc_27
      have ni_44 := (fa_lt _ _).mp (zi_nle hc_27)
      have hv_45 : zI x_14 (-2147483648) 2147483646 := zI.lt_l (zI_all x_14) (zI_all v_26) (zi_nle hc_27) (by decide)
      have hv_46 : zI v_26 (-2147483647) 2147483647 := zI.lt_r (zI_all x_14) (zI_all v_26) (zi_nle hc_27) (by decide)
      refine lv_iload hx hb d_Model_addEdge_226 (lv_at hl 1 rfl) ?_
      refine lv_goto (tgt := 240) hx hb d_Model_addEdge_228 (by decide) ?_
      refine va_iast hx hb hK hP hD hS 3 0 rfl rfl (zI.inn hv_24 (by decide)) d_Model_addEdge_240 (fun H locs hP hD hS => ?_)
      obtain ⟨f_47, hf_47, gf_47, uf_47, hP, hD⟩ := z_newq_ (Q := qE) 3 hP hD rfl hf_23 (qE_v hv_24 (by decide) ⟨fun _ => ⟨by have _w := hv_45; omega, by have _w := hv_45; omega⟩, fun _ => ⟨by have _w := hv_45; omega, by have _w := hv_45; omega⟩, fun _ => ⟨by have _w := hv_45; omega, by have _w := hv_45; omega⟩⟩)
      have hP : va_P G.1 classes [(b20, .inl (G.2 0, 520, .inl b58)), (b23, .inl (G.2 0, 482, .inl b59)), (b28, .inl (G.2 0, 2, .inl b60)), (b29, .inl (G.2 0, 2880, .inl f_47)), (b0, .inr (12, [.int b3, .ref b4, .ref b5, .ref b6, .ref b7, .int b8, .ref b9, .int b10, .int b11, .int b12, .int b13, .ref b14, .ref b15, .ref b16, .int b17, .ref b18, .ref b19, .ref b20, .ref b21, .ref b22, .ref b23, .ref b24, .ref b25, .ref b26, .ref b27, .ref b28, .ref b29, .int x_10, .ref b31, .ref b32, .int b33, .int b34, .int b35, .int b36, .ref b37, .ref b38, .ref b39, .ref b40, .ref b41, .ref b42, .ref b43, .int b44, .ref b45, .ref b46, .int b47, .ref b48, .ref b49, .ref b50, .ref b51, .ref b52, .int b53, .ref b54, .ref b55, .ref b56])), (b4, .inl (G.2 0, 503, .inl b57))] H := hP
      have hD := z_tie hP hD rfl
      refine lv_aload_n hx hb d_Model_addEdge_241 rfl (lv_at hl 5 rfl) ?_
      refine va_get (D := G.1) (ci := 12) (v := .ref b29) (C := R_Model) (T := F_Model) (N := 54) hx hb hts i_Model hown hK hP 4 rfl rfl 26 (by decide) (hts _ q1135) (fun _ h9 => h9) rfl d_Model_addEdge_242 ?_
      refine lv_iload hx hb d_Model_addEdge_245 (lv_at hl 0 rfl) ?_
      refine lv_iconst (v := 5) hx hb d_Model_addEdge_247 (by decide) ?_
      refine lv_iadd hx hb d_Model_addEdge_248 ?_
      refine lv_topi (fun v_48 ev_48 => ?_)
      obtain ⟨qv_48, hv_48⟩ := zI_add (l := 1445) (h := 2879) hv_16 zc_5 ev_48 (by decide)
      rw [li_5] at qv_48
      refine lv_iload hx hb d_Model_addEdge_249 (lv_at hl 1 rfl) ?_
      refine lv_aload_n hx hb d_Model_addEdge_251 rfl (lv_at hl 5 rfl) ?_
      refine va_get (D := G.1) (ci := 12) (v := .ref b29) (C := R_Model) (T := F_Model) (N := 54) hx hb hts i_Model hown hK hP 4 rfl rfl 26 (by decide) (hts _ q1135) (fun _ h9 => h9) rfl d_Model_addEdge_252 ?_
      refine lv_iload hx hb d_Model_addEdge_255 (lv_at hl 0 rfl) ?_
      refine lv_iconst (v := 5) hx hb d_Model_addEdge_257 (by decide) ?_
      refine lv_iadd hx hb d_Model_addEdge_258 ?_
      refine lv_topi (fun v_49 ev_49 => ?_)
      obtain rfl : v_48 = v_49 := ev_48.trans ev_49.symm
      refine va_iald hx hb hK hP 3 0 rfl rfl (zI.inn hv_48 (by decide)) d_Model_addEdge_259 ?_
      refine lv_topi (fun v_50 ev_50 => ?_)
      have kv_50 := zQE.ld hf_47 hv_48 ev_50 (by decide)
      refine lv_icmp_le (tgt := 268) hx hb d_Model_addEdge_260 (by decide) (fun hc_51 => ?_) (fun hc_51 => ?_)
      · have _nhc_51 := hc_51
        have ni_52 := (fa_le _ _).mp hc_51
        refine lv_aload_n hx hb d_Model_addEdge_268 rfl (lv_at hl 5 rfl) ?_
        refine va_get (D := G.1) (ci := 12) (v := .ref b29) (C := R_Model) (T := F_Model) (N := 54) hx hb hts i_Model hown hK hP 4 rfl rfl 26 (by decide) (hts _ q1135) (fun _ h9 => h9) rfl d_Model_addEdge_269 ?_
        refine lv_iload hx hb d_Model_addEdge_272 (lv_at hl 0 rfl) ?_
        refine lv_iconst (v := 5) hx hb d_Model_addEdge_274 (by decide) ?_
        refine lv_iadd hx hb d_Model_addEdge_275 ?_
        refine lv_topi (fun v_53 ev_53 => ?_)
        obtain rfl : v_48 = v_53 := ev_48.trans ev_53.symm
        refine va_iald hx hb hK hP 3 0 rfl rfl (zI.inn hv_48 (by decide)) d_Model_addEdge_276 ?_
        refine lv_topi (fun v_54 ev_54 => ?_)
        obtain rfl : v_50 = v_54 := ev_50.trans ev_54.symm
        refine va_iast hx hb hK hP hD hS 3 0 rfl rfl (zI.inn hv_48 (by decide)) d_Model_addEdge_277 (fun H locs hP hD hS => ?_)
        obtain ⟨f_55, hf_55, gf_55, uf_55, hP, hD⟩ := z_newq_ (Q := qE) 3 hP hD rfl hf_47 (qE_s kv_50 hv_48 hv_48 (by decide) (by omega))
        have hP : va_P G.1 classes [(b20, .inl (G.2 0, 520, .inl b58)), (b23, .inl (G.2 0, 482, .inl b59)), (b28, .inl (G.2 0, 2, .inl b60)), (b29, .inl (G.2 0, 2880, .inl f_55)), (b0, .inr (12, [.int b3, .ref b4, .ref b5, .ref b6, .ref b7, .int b8, .ref b9, .int b10, .int b11, .int b12, .int b13, .ref b14, .ref b15, .ref b16, .int b17, .ref b18, .ref b19, .ref b20, .ref b21, .ref b22, .ref b23, .ref b24, .ref b25, .ref b26, .ref b27, .ref b28, .ref b29, .int x_10, .ref b31, .ref b32, .int b33, .int b34, .int b35, .int b36, .ref b37, .ref b38, .ref b39, .ref b40, .ref b41, .ref b42, .ref b43, .int b44, .ref b45, .ref b46, .int b47, .ref b48, .ref b49, .ref b50, .ref b51, .ref b52, .int b53, .ref b54, .ref b55, .ref b56])), (b4, .inl (G.2 0, 503, .inl b57))] H := hP
        have hD := z_tie hP hD rfl
        exact z_vret hx hb hr hlocks (hP.sub [4, 5, 0, 1, 2, 3] rfl) (hD.sub [4, 5, 0, 1, 2, 3] (by decide) rfl) hS (Nat.le_of_ble_eq_true rfl) (Nat.le_of_ble_eq_true rfl) d_Model_addEdge_278 ⟨x_10, b60, f_55, rfl, rfl, (zI.wk (l' := 0) (h' := 1) hv_19 (by decide)), hb60, hf_55, (by omega)⟩
      · have _nhc_51 := hc_51
        have ni_56 := (fa_lt _ _).mp (zi_nle hc_51)
        have hv_57 : zI v_50 (-2147483648) 2147483645 := zI.lt_l (zI_all v_50) hv_45 (zi_nle hc_51) (by decide)
        have hv_58 : zI x_14 (-2147483647) 2147483646 := zI.lt_r (zI_all v_50) hv_45 (zi_nle hc_51) (by decide)
        refine lv_iload hx hb d_Model_addEdge_263 (lv_at hl 1 rfl) ?_
        refine lv_goto (tgt := 277) hx hb d_Model_addEdge_265 (by decide) ?_
        refine va_iast hx hb hK hP hD hS 3 0 rfl rfl (zI.inn hv_48 (by decide)) d_Model_addEdge_277 (fun H locs hP hD hS => ?_)
        obtain ⟨f_59, hf_59, gf_59, uf_59, hP, hD⟩ := z_newq_ (Q := qE) 3 hP hD rfl hf_47 (qE_v hv_48 (by decide) ⟨fun _ => ⟨by have _w := hv_58; omega, by have _w := hv_58; omega⟩, fun _ => ⟨by have _w := hv_58; omega, by have _w := hv_58; omega⟩, fun _ => ⟨by have _w := hv_58; omega, by have _w := hv_58; omega⟩⟩)
        have hP : va_P G.1 classes [(b20, .inl (G.2 0, 520, .inl b58)), (b23, .inl (G.2 0, 482, .inl b59)), (b28, .inl (G.2 0, 2, .inl b60)), (b29, .inl (G.2 0, 2880, .inl f_59)), (b0, .inr (12, [.int b3, .ref b4, .ref b5, .ref b6, .ref b7, .int b8, .ref b9, .int b10, .int b11, .int b12, .int b13, .ref b14, .ref b15, .ref b16, .int b17, .ref b18, .ref b19, .ref b20, .ref b21, .ref b22, .ref b23, .ref b24, .ref b25, .ref b26, .ref b27, .ref b28, .ref b29, .int x_10, .ref b31, .ref b32, .int b33, .int b34, .int b35, .int b36, .ref b37, .ref b38, .ref b39, .ref b40, .ref b41, .ref b42, .ref b43, .int b44, .ref b45, .ref b46, .int b47, .ref b48, .ref b49, .ref b50, .ref b51, .ref b52, .int b53, .ref b54, .ref b55, .ref b56])), (b4, .inl (G.2 0, 503, .inl b57))] H := hP
        have hD := z_tie hP hD rfl
        exact z_vret hx hb hr hlocks (hP.sub [4, 5, 0, 1, 2, 3] rfl) (hD.sub [4, 5, 0, 1, 2, 3] (by decide) rfl) hS (Nat.le_of_ble_eq_true rfl) (Nat.le_of_ble_eq_true rfl) d_Model_addEdge_278 ⟨x_10, b60, f_59, rfl, rfl, (zI.wk (l' := 0) (h' := 1) hv_19 (by decide)), hb60, hf_59, (by omega)⟩
  · have _nhc_17 := hc_17
    have ni_60 := (fa_eq _ _).mp hc_17
    rw [li_0] at ni_60
    have hv_61 : zI x_10 0 0 := zI.eq_l hx_10 zc_0 hc_17
    refine lv_bipush (v := 6) hx hb d_Model_addEdge_65 (by decide) ?_
    refine lv_sipush (v := 240) hx hb d_Model_addEdge_67 (by decide) ?_
    refine lv_iload_n hx hb d_Model_addEdge_70 rfl (lv_at hl 6 rfl) ?_
    refine lv_imul hx hb d_Model_addEdge_71 ?_
    refine z_topi (y := 240) (by decide +kernel) ?_
    refine lv_aload_n hx hb d_Model_addEdge_72 rfl (lv_at hl 5 rfl) ?_
    refine va_get (D := G.1) (ci := 12) (v := .ref b28) (C := R_Model) (T := F_Model) (N := 54) hx hb hts i_Model hown hK hP 4 rfl rfl 25 (by decide) (hts _ q1134) (fun _ h9 => h9) rfl d_Model_addEdge_73 ?_
    refine lv_iload_n hx hb d_Model_addEdge_76 rfl (lv_at hl 6 rfl) ?_
    refine va_iald hx hb hK hP 2 0 rfl rfl (i := 1) (z_in rfl) d_Model_addEdge_77 ?_
    refine lv_topi (fun v_62 ev_62 => ?_)
    have hv_62 : zI v_62 0 240 := (hb60 _).eq ev_62
    have hv_63 : zI v_62 0 239 := ⟨hv_62.1, by rw [ev_62]; exact hem⟩
    refine lv_iadd hx hb d_Model_addEdge_78 ?_
    refine lv_topi (fun v_64 ev_64 => ?_)
    obtain ⟨qv_64, hv_64⟩ := zI_add (l := 240) (h := 479) zc_240 hv_63 ev_64 (by decide)
    rw [li_240] at qv_64
    refine lv_imul hx hb d_Model_addEdge_79 ?_
    refine lv_topi (fun v_65 ev_65 => ?_)
    obtain ⟨qv_65, hv_65⟩ := zI_mul (l := 1440) (h := 2874) zc_6 hv_64 ev_65 (by decide)
    rw [li_6] at qv_65
    refine lv_iconst (v := 1) hx hb d_Model_addEdge_80 (by decide) ?_
    refine lv_isub hx hb d_Model_addEdge_81 ?_
    refine lv_topi (fun v_66 ev_66 => ?_)
    obtain ⟨qv_66, hv_66⟩ := zI_sub (l := 1439) (h := 2873) hv_65 zc_1 ev_66 (by decide)
    rw [li_1] at qv_66
    refine lv_istore (lv' := [(9, .int v_66), (8, .int v_16), (7, .int x_14), (6, .int x_9), (5, .int x_5), (4, .int x_2), (0, .ref b0), (1, .int 1), (2, .int b1), (3, .int b2)]) hx hb d_Model_addEdge_82 hl (by decide) rfl (fun ls hl => ?_)
    suffices key : ∀ (k_134 : Nat) (y_135 : Int32) (y_136 : Nat → Int32) (H : Heap) (locs : List Loc) (ls : Array Slot), (zI y_135 1439 2873) → (zqa qE y_136) → (∀ q : Nat, y_136 q = if (y_135 : Int32).toInt + 6 < (q : Int) ∧ (q : Int) < 6 * (b60 (1 : Int32).toNatClampNeg).toInt + 1446 then b61 (q - 6) else b61 q) → ((v_16 : Int32).toInt - 1 ≤ (y_135 : Int32).toInt) → ((y_135 : Int32).toInt + 6 < 6 * (b60 (1 : Int32).toNatClampNeg).toInt + 1446) → y_135.toInt - (1439) < (k_134 : Int) → va_P G.1 classes [(b20, .inl (G.2 0, 520, .inl b58)), (b23, .inl (G.2 0, 482, .inl b59)), (b28, .inl (G.2 0, 2, .inl b60)), (b29, .inl (G.2 0, 2880, .inl y_136)), (b0, .inr (12, [.int b3, .ref b4, .ref b5, .ref b6, .ref b7, .int b8, .ref b9, .int b10, .int b11, .int b12, .int b13, .ref b14, .ref b15, .ref b16, .int b17, .ref b18, .ref b19, .ref b20, .ref b21, .ref b22, .ref b23, .ref b24, .ref b25, .ref b26, .ref b27, .ref b28, .ref b29, .int x_10, .ref b31, .ref b32, .int b33, .int b34, .int b35, .int b36, .ref b37, .ref b38, .ref b39, .ref b40, .ref b41, .ref b42, .ref b43, .int b44, .ref b45, .ref b46, .int b47, .ref b48, .ref b49, .ref b50, .ref b51, .ref b52, .int b53, .ref b54, .ref b55, .ref b56])), (b4, .inl (G.2 0, 503, .inl b57))] H → va_D A [(b20, .inl (G.2 0, 520, .inl b58)), (b23, .inl (G.2 0, 482, .inl b59)), (b28, .inl (G.2 0, 2, .inl b60)), (b29, .inl (G.2 0, 2880, .inl y_136)), (b0, .inr (12, [.int b3, .ref b4, .ref b5, .ref b6, .ref b7, .int b8, .ref b9, .int b10, .int b11, .int b12, .int b13, .ref b14, .ref b15, .ref b16, .int b17, .ref b18, .ref b19, .ref b20, .ref b21, .ref b22, .ref b23, .ref b24, .ref b25, .ref b26, .ref b27, .ref b28, .ref b29, .int x_10, .ref b31, .ref b32, .int b33, .int b34, .int b35, .int b36, .ref b37, .ref b38, .ref b39, .ref b40, .ref b41, .ref b42, .ref b43, .int b44, .ref b45, .ref b46, .int b47, .ref b48, .ref b49, .ref b50, .ref b51, .ref b52, .int b53, .ref b54, .ref b55, .ref b56])), (b4, .inl (G.2 0, 503, .inl b57))] → va_S A s.heap H locs → lv_has ls 10 [(9, .int y_135), (8, .int v_16), (7, .int x_14), (6, .int x_9), (5, .int x_5), (4, .int x_2), (0, .ref b0), (1, .int 1), (2, .int b1), (3, .int b2)] → W p l e m_s2_Model_addEdge s m ([.ref b0, .int 1, .int b1, .int b2] : List Value).toArray below meth c H locs 0 0 (MQ below (zQ G (fun v w => ∃ (e0 : Int32), ∃ (e1 : Nat → Int32), ∃ (e2 : Nat → Int32), v = none ∧ w = [(b0, .inr (12, [.int b3, .ref b4, .ref b5, .ref b6, .ref b7, .int b8, .ref b9, .int b10, .int b11, .int b12, .int b13, .ref b14, .ref b15, .ref b16, .int b17, .ref b18, .ref b19, .ref b20, .ref b21, .ref b22, .ref b23, .ref b24, .ref b25, .ref b26, .ref b27, .ref b28, .ref b29, .int e0, .ref b31, .ref b32, .int b33, .int b34, .int b35, .int b36, .ref b37, .ref b38, .ref b39, .ref b40, .ref b41, .ref b42, .ref b43, .int b44, .ref b45, .ref b46, .int b47, .ref b48, .ref b49, .ref b50, .ref b51, .ref b52, .int b53, .ref b54, .ref b55, .ref b56])), (b4, .inl (G.2 0, 503, .inl b57)), (b20, .inl (G.2 0, 520, .inl b58)), (b23, .inl (G.2 0, 482, .inl b59)), (b28, .inl (G.2 0, 2, .inl e1)), (b29, .inl (G.2 0, 2880, .inl e2))] ∧ (zI e0 0 1) ∧ (zR e1 0 240) ∧ (zqa qE e2) ∧ ((e1 (1 : Int32).toNatClampNeg).toInt ≤ (b60 (1 : Int32).toNatClampNeg).toInt + 1)) A) ([.ref b0, .int 1, .int b1, .int b2] : List Value).toArray s m_s2_Model_addEdge.cells m_s2_Model_addEdge.slots A) (F0 m 84 ls []) by
      exact key 1435 (v_66) (b61) _ _ _ hv_66 hb61 (by intro q; rw [if_neg (by have h9 := ev_62; have h8 : v_62.toInt = (b60 (1 : Int32).toNatClampNeg).toInt := (by rw [h9]); omega)]) (by have h9 := ev_62; have h8 : v_62.toInt = (b60 (1 : Int32).toNatClampNeg).toInt := (by rw [h9]); omega) (by have h9 := ev_62; have h8 : v_62.toInt = (b60 (1 : Int32).toNatClampNeg).toInt := (by rw [h9]); omega) (zm_dni hv_66 (by decide)) hP hD hS (lv_sub hl [0, 1, 2, 3, 4, 5, 6, 7, 8, 9] rfl)
    intro k_134
    induction k_134 with
    | zero =>
      intro y_135 y_136 H locs ls hy_135 hy_136 hli_137 hli_138 hli_139 hmk_134 hP hD hS hl
      exact (zm_dn0 hy_135 hmk_134).elim
    | succ k_134 ihk_134 =>
      intro y_135 y_136 H locs ls hy_135 hy_136 hli_137 hli_138 hli_139 hmk_134 hP hD hS hl
      refine lv_iload hx hb d_Model_addEdge_84 (lv_at hl 0 rfl) ?_
      refine lv_iload hx hb d_Model_addEdge_86 (lv_at hl 1 rfl) ?_
      refine lv_icmp_lt (tgt := 114) hx hb d_Model_addEdge_88 (by decide) (fun hc_140 => ?_) (fun hc_140 => ?_)
      · have _nhc_140 := hc_140
        have ni_141 := (fa_lt _ _).mp hc_140
        refine lv_aload_n hx hb d_Model_addEdge_114 rfl (lv_at hl 6 rfl) ?_
        refine va_get (D := G.1) (ci := 12) (v := .ref b28) (C := R_Model) (T := F_Model) (N := 54) hx hb hts i_Model hown hK hP 4 rfl rfl 25 (by decide) (hts _ q1134) (fun _ h9 => h9) rfl d_Model_addEdge_115 ?_
        refine lv_iload_n hx hb d_Model_addEdge_118 rfl (lv_at hl 7 rfl) ?_
        refine lv_dup2_11 hx hb d_Model_addEdge_119 rfl rfl ?_
        refine va_iald hx hb hK hP 2 0 rfl rfl (i := 1) (z_in rfl) d_Model_addEdge_120 ?_
        refine lv_topi (fun v_142 ev_142 => ?_)
        obtain rfl : v_62 = v_142 := ev_62.trans ev_142.symm
        refine lv_iconst (v := 1) hx hb d_Model_addEdge_121 (by decide) ?_
        refine lv_iadd hx hb d_Model_addEdge_122 ?_
        refine lv_topi (fun v_143 ev_143 => ?_)
        obtain ⟨qv_143, hv_143⟩ := zI_add (l := 1) (h := 240) hv_63 zc_1 ev_143 (by decide)
        rw [li_1] at qv_143
        refine va_iast hx hb hK hP hD hS 2 0 rfl rfl (i := 1) (z_in rfl) d_Model_addEdge_123 (fun H locs hP hD hS => ?_)
        obtain ⟨f_144, hf_144, gf_144, uf_144, hP, hD⟩ := z_newfu 2 hP hD rfl hb60 (zI.wk (l' := 0) (h' := 240) hv_143 (by decide))
        have hP : va_P G.1 classes [(b20, .inl (G.2 0, 520, .inl b58)), (b23, .inl (G.2 0, 482, .inl b59)), (b28, .inl (G.2 0, 2, .inl f_144)), (b29, .inl (G.2 0, 2880, .inl y_136)), (b0, .inr (12, [.int b3, .ref b4, .ref b5, .ref b6, .ref b7, .int b8, .ref b9, .int b10, .int b11, .int b12, .int b13, .ref b14, .ref b15, .ref b16, .int b17, .ref b18, .ref b19, .ref b20, .ref b21, .ref b22, .ref b23, .ref b24, .ref b25, .ref b26, .ref b27, .ref b28, .ref b29, .int x_10, .ref b31, .ref b32, .int b33, .int b34, .int b35, .int b36, .ref b37, .ref b38, .ref b39, .ref b40, .ref b41, .ref b42, .ref b43, .int b44, .ref b45, .ref b46, .int b47, .ref b48, .ref b49, .ref b50, .ref b51, .ref b52, .int b53, .ref b54, .ref b55, .ref b56])), (b4, .inl (G.2 0, 503, .inl b57))] H := hP
        have hD := z_tie hP hD rfl
        refine lv_aload_n hx hb d_Model_addEdge_124 rfl (lv_at hl 6 rfl) ?_
        refine va_get (D := G.1) (ci := 12) (v := .ref b29) (C := R_Model) (T := F_Model) (N := 54) hx hb hts i_Model hown hK hP 4 rfl rfl 26 (by decide) (hts _ q1135) (fun _ h9 => h9) rfl d_Model_addEdge_125 ?_
        refine lv_iload hx hb d_Model_addEdge_128 (lv_at hl 1 rfl) ?_
        refine lv_iload hx hb d_Model_addEdge_130 (lv_at hl 5 rfl) ?_
        refine va_iast hx hb hK hP hD hS 3 0 rfl rfl (zI.inn hv_16 (by decide)) d_Model_addEdge_132 (fun H locs hP hD hS => ?_)
        obtain ⟨f_145, hf_145, gf_145, uf_145, hP, hD⟩ := z_newq_ (Q := qE) 3 hP hD rfl hy_136 (qE_v hv_16 (by decide) ⟨fun _ => ⟨by have _w := hx_2; omega, by have _w := hx_2; omega⟩, fun _ => ⟨by have _w := hx_2; omega, by have _w := hx_2; omega⟩, fun _ => ⟨by have _w := hx_2; omega, by have _w := hx_2; omega⟩⟩)
        have hP : va_P G.1 classes [(b20, .inl (G.2 0, 520, .inl b58)), (b23, .inl (G.2 0, 482, .inl b59)), (b28, .inl (G.2 0, 2, .inl f_144)), (b29, .inl (G.2 0, 2880, .inl f_145)), (b0, .inr (12, [.int b3, .ref b4, .ref b5, .ref b6, .ref b7, .int b8, .ref b9, .int b10, .int b11, .int b12, .int b13, .ref b14, .ref b15, .ref b16, .int b17, .ref b18, .ref b19, .ref b20, .ref b21, .ref b22, .ref b23, .ref b24, .ref b25, .ref b26, .ref b27, .ref b28, .ref b29, .int x_10, .ref b31, .ref b32, .int b33, .int b34, .int b35, .int b36, .ref b37, .ref b38, .ref b39, .ref b40, .ref b41, .ref b42, .ref b43, .int b44, .ref b45, .ref b46, .int b47, .ref b48, .ref b49, .ref b50, .ref b51, .ref b52, .int b53, .ref b54, .ref b55, .ref b56])), (b4, .inl (G.2 0, 503, .inl b57))] H := hP
        have hD := z_tie hP hD rfl
        refine lv_aload_n hx hb d_Model_addEdge_133 rfl (lv_at hl 6 rfl) ?_
        refine va_get (D := G.1) (ci := 12) (v := .ref b29) (C := R_Model) (T := F_Model) (N := 54) hx hb hts i_Model hown hK hP 4 rfl rfl 26 (by decide) (hts _ q1135) (fun _ h9 => h9) rfl d_Model_addEdge_134 ?_
        refine lv_iload hx hb d_Model_addEdge_137 (lv_at hl 1 rfl) ?_
        refine lv_iconst (v := 1) hx hb d_Model_addEdge_139 (by decide) ?_
        refine lv_iadd hx hb d_Model_addEdge_140 ?_
        refine lv_topi (fun v_146 ev_146 => ?_)
        obtain ⟨qv_146, hv_146⟩ := zI_add (l := 1441) (h := 2875) hv_16 zc_1 ev_146 (by decide)
        rw [li_1] at qv_146
        refine lv_aload_n hx hb d_Model_addEdge_141 rfl (lv_at hl 6 rfl) ?_
        refine lv_iload_n hx hb d_Model_addEdge_142 rfl (lv_at hl 8 rfl) ?_
        refine lv_iload_n hx hb d_Model_addEdge_143 rfl (lv_at hl 9 rfl) ?_
        refine z_callV (index := 207) (As := [.int b1, .int b2]) (rest := [.int v_146, .ref b29]) (wr := [(b20, .inl (G.2 0, 520, .inl b58)), (b23, .inl (G.2 0, 482, .inl b59)), (b28, .inl (G.2 0, 2, .inl f_144)), (b29, .inl (G.2 0, 2880, .inl f_145))]) Z (s1_Model_letterAt l G (b0) (b1) (b2) (b3) (b4) (b5) (b6) (b7) (b8) (b9) (b10) (b11) (b12) (b13) (b14) (b15) (b16) (b17) (b18) (b19) (b20) (b21) (b22) (b23) (b24) (b25) (b26) (b27) (b28) (b29) (x_10) (b31) (b32) (b33) (b34) (b35) (b36) (b37) (b38) (b39) (b40) (b41) (b42) (b43) (b44) (b45) (b46) (b47) (b48) (b49) (b50) (b51) (b52) (b53) (b54) (b55) (b56) (b57) hb1 hb2 hb8 hb10 hb11 hb13 hb17 (zI.wk (l' := 0) (h' := 1) hv_61 (by decide)) hb33 hb44 hb47 hb53 hb57) hl.1 q1372 q1374 qs59 q14 q1375 ⟨by decide, by decide, by show _ = some 2; decide +kernel⟩ ⟨Nat.le_of_ble_eq_true rfl, Nat.le_of_ble_eq_true rfl⟩ ⟨Nat.le_of_ble_eq_true rfl, Nat.le_of_ble_eq_true rfl⟩ rfl (Nat.le_of_ble_eq_true rfl) d_Model_addEdge_144 hP hD hS hA 4 12 rfl rfl rfl [4, 5] [0, 1, 2, 3] rfl rfl rfl rfl (by decide) (fun v w1 H locs hw_147 hP hD hS => ?_)
        obtain ⟨x_148, rfl, rfl, hx_148⟩ := hw_147
        have hP : va_P G.1 classes [(b20, .inl (G.2 0, 520, .inl b58)), (b23, .inl (G.2 0, 482, .inl b59)), (b28, .inl (G.2 0, 2, .inl f_144)), (b29, .inl (G.2 0, 2880, .inl f_145)), (b0, .inr (12, [.int b3, .ref b4, .ref b5, .ref b6, .ref b7, .int b8, .ref b9, .int b10, .int b11, .int b12, .int b13, .ref b14, .ref b15, .ref b16, .int b17, .ref b18, .ref b19, .ref b20, .ref b21, .ref b22, .ref b23, .ref b24, .ref b25, .ref b26, .ref b27, .ref b28, .ref b29, .int x_10, .ref b31, .ref b32, .int b33, .int b34, .int b35, .int b36, .ref b37, .ref b38, .ref b39, .ref b40, .ref b41, .ref b42, .ref b43, .int b44, .ref b45, .ref b46, .int b47, .ref b48, .ref b49, .ref b50, .ref b51, .ref b52, .int b53, .ref b54, .ref b55, .ref b56])), (b4, .inl (G.2 0, 503, .inl b57))] H := hP
        have hD := z_tie hP hD rfl
        refine W.widen (k := 0) (n := 0) (Nat.le_of_ble_eq_true rfl) (Nat.le_of_ble_eq_true rfl) ?_
        refine va_iast hx hb hK hP hD hS 3 0 rfl rfl (zI.inn hv_146 (by decide)) d_Model_addEdge_147 (fun H locs hP hD hS => ?_)
        obtain ⟨f_149, hf_149, gf_149, uf_149, hP, hD⟩ := z_newq_ (Q := qE) 3 hP hD rfl hf_145 (qE_v hv_146 (by decide) ⟨fun _ => ⟨by have _w := hx_148; omega, by have _w := hx_148; omega⟩, fun _ => ⟨by have _w := hx_148; omega, by have _w := hx_148; omega⟩, fun _ => ⟨by have _w := hx_148; omega, by have _w := hx_148; omega⟩⟩)
        have hP : va_P G.1 classes [(b20, .inl (G.2 0, 520, .inl b58)), (b23, .inl (G.2 0, 482, .inl b59)), (b28, .inl (G.2 0, 2, .inl f_144)), (b29, .inl (G.2 0, 2880, .inl f_149)), (b0, .inr (12, [.int b3, .ref b4, .ref b5, .ref b6, .ref b7, .int b8, .ref b9, .int b10, .int b11, .int b12, .int b13, .ref b14, .ref b15, .ref b16, .int b17, .ref b18, .ref b19, .ref b20, .ref b21, .ref b22, .ref b23, .ref b24, .ref b25, .ref b26, .ref b27, .ref b28, .ref b29, .int x_10, .ref b31, .ref b32, .int b33, .int b34, .int b35, .int b36, .ref b37, .ref b38, .ref b39, .ref b40, .ref b41, .ref b42, .ref b43, .int b44, .ref b45, .ref b46, .int b47, .ref b48, .ref b49, .ref b50, .ref b51, .ref b52, .int b53, .ref b54, .ref b55, .ref b56])), (b4, .inl (G.2 0, 503, .inl b57))] H := hP
        have hD := z_tie hP hD rfl
        refine lv_aload_n hx hb d_Model_addEdge_148 rfl (lv_at hl 6 rfl) ?_
        refine va_get (D := G.1) (ci := 12) (v := .ref b29) (C := R_Model) (T := F_Model) (N := 54) hx hb hts i_Model hown hK hP 4 rfl rfl 26 (by decide) (hts _ q1135) (fun _ h9 => h9) rfl d_Model_addEdge_149 ?_
        refine lv_iload hx hb d_Model_addEdge_152 (lv_at hl 1 rfl) ?_
        refine lv_iconst (v := 2) hx hb d_Model_addEdge_154 (by decide) ?_
        refine lv_iadd hx hb d_Model_addEdge_155 ?_
        refine lv_topi (fun v_150 ev_150 => ?_)
        obtain ⟨qv_150, hv_150⟩ := zI_add (l := 1442) (h := 2876) hv_16 zc_2 ev_150 (by decide)
        rw [li_2] at qv_150
        refine lv_iload hx hb d_Model_addEdge_156 (lv_at hl 4 rfl) ?_
        refine va_iast hx hb hK hP hD hS 3 0 rfl rfl (zI.inn hv_150 (by decide)) d_Model_addEdge_158 (fun H locs hP hD hS => ?_)
        obtain ⟨f_151, hf_151, gf_151, uf_151, hP, hD⟩ := z_newq_ (Q := qE) 3 hP hD rfl hf_149 (qE_v hv_150 (by decide) ⟨fun _ => ⟨by have _w := hx_5; omega, by have _w := hx_5; omega⟩, fun _ => ⟨by have _w := hx_5; omega, by have _w := hx_5; omega⟩, fun _ => ⟨by have _w := hx_5; omega, by have _w := hx_5; omega⟩⟩)
        have hP : va_P G.1 classes [(b20, .inl (G.2 0, 520, .inl b58)), (b23, .inl (G.2 0, 482, .inl b59)), (b28, .inl (G.2 0, 2, .inl f_144)), (b29, .inl (G.2 0, 2880, .inl f_151)), (b0, .inr (12, [.int b3, .ref b4, .ref b5, .ref b6, .ref b7, .int b8, .ref b9, .int b10, .int b11, .int b12, .int b13, .ref b14, .ref b15, .ref b16, .int b17, .ref b18, .ref b19, .ref b20, .ref b21, .ref b22, .ref b23, .ref b24, .ref b25, .ref b26, .ref b27, .ref b28, .ref b29, .int x_10, .ref b31, .ref b32, .int b33, .int b34, .int b35, .int b36, .ref b37, .ref b38, .ref b39, .ref b40, .ref b41, .ref b42, .ref b43, .int b44, .ref b45, .ref b46, .int b47, .ref b48, .ref b49, .ref b50, .ref b51, .ref b52, .int b53, .ref b54, .ref b55, .ref b56])), (b4, .inl (G.2 0, 503, .inl b57))] H := hP
        have hD := z_tie hP hD rfl
        refine lv_aload_n hx hb d_Model_addEdge_159 rfl (lv_at hl 6 rfl) ?_
        refine va_get (D := G.1) (ci := 12) (v := .ref b29) (C := R_Model) (T := F_Model) (N := 54) hx hb hts i_Model hown hK hP 4 rfl rfl 26 (by decide) (hts _ q1135) (fun _ h9 => h9) rfl d_Model_addEdge_160 ?_
        refine lv_iload hx hb d_Model_addEdge_163 (lv_at hl 1 rfl) ?_
        refine lv_iconst (v := 3) hx hb d_Model_addEdge_165 (by decide) ?_
        refine lv_iadd hx hb d_Model_addEdge_166 ?_
        refine lv_topi (fun v_152 ev_152 => ?_)
        obtain ⟨qv_152, hv_152⟩ := zI_add (l := 1443) (h := 2877) hv_16 zc_3 ev_152 (by decide)
        rw [li_3] at qv_152
        refine lv_iconst (v := 0) hx hb d_Model_addEdge_167 (by decide) ?_
        refine va_iast hx hb hK hP hD hS 3 0 rfl rfl (zI.inn hv_152 (by decide)) d_Model_addEdge_168 (fun H locs hP hD hS => ?_)
        obtain ⟨f_153, hf_153, gf_153, uf_153, hP, hD⟩ := z_newq_ (Q := qE) 3 hP hD rfl hf_151 (qE_v hv_152 (by decide) ⟨fun _ => ⟨by have _w := li_0; omega, by have _w := li_0; omega⟩, fun _ => ⟨by have _w := li_0; omega, by have _w := li_0; omega⟩, fun _ => ⟨by have _w := li_0; omega, by have _w := li_0; omega⟩⟩)
        have hP : va_P G.1 classes [(b20, .inl (G.2 0, 520, .inl b58)), (b23, .inl (G.2 0, 482, .inl b59)), (b28, .inl (G.2 0, 2, .inl f_144)), (b29, .inl (G.2 0, 2880, .inl f_153)), (b0, .inr (12, [.int b3, .ref b4, .ref b5, .ref b6, .ref b7, .int b8, .ref b9, .int b10, .int b11, .int b12, .int b13, .ref b14, .ref b15, .ref b16, .int b17, .ref b18, .ref b19, .ref b20, .ref b21, .ref b22, .ref b23, .ref b24, .ref b25, .ref b26, .ref b27, .ref b28, .ref b29, .int x_10, .ref b31, .ref b32, .int b33, .int b34, .int b35, .int b36, .ref b37, .ref b38, .ref b39, .ref b40, .ref b41, .ref b42, .ref b43, .int b44, .ref b45, .ref b46, .int b47, .ref b48, .ref b49, .ref b50, .ref b51, .ref b52, .int b53, .ref b54, .ref b55, .ref b56])), (b4, .inl (G.2 0, 503, .inl b57))] H := hP
        have hD := z_tie hP hD rfl
        refine lv_aload_n hx hb d_Model_addEdge_169 rfl (lv_at hl 6 rfl) ?_
        refine va_get (D := G.1) (ci := 12) (v := .ref b29) (C := R_Model) (T := F_Model) (N := 54) hx hb hts i_Model hown hK hP 4 rfl rfl 26 (by decide) (hts _ q1135) (fun _ h9 => h9) rfl d_Model_addEdge_170 ?_
        refine lv_iload hx hb d_Model_addEdge_173 (lv_at hl 1 rfl) ?_
        refine lv_iconst (v := 4) hx hb d_Model_addEdge_175 (by decide) ?_
        refine lv_iadd hx hb d_Model_addEdge_176 ?_
        refine lv_topi (fun v_154 ev_154 => ?_)
        obtain ⟨qv_154, hv_154⟩ := zI_add (l := 1444) (h := 2878) hv_16 zc_4 ev_154 (by decide)
        rw [li_4] at qv_154
        refine lv_iload hx hb d_Model_addEdge_177 (lv_at hl 2 rfl) ?_
        refine va_iast hx hb hK hP hD hS 3 0 rfl rfl (zI.inn hv_154 (by decide)) d_Model_addEdge_179 (fun H locs hP hD hS => ?_)
        obtain ⟨f_155, hf_155, gf_155, uf_155, hP, hD⟩ := z_newq_ (Q := qE) 3 hP hD rfl hf_153 (qE_v hv_154 (by decide) ⟨fun _ => ⟨by have _w := (zI_all x_14); omega, by have _w := (zI_all x_14); omega⟩, fun _ => ⟨by have _w := (zI_all x_14); omega, by have _w := (zI_all x_14); omega⟩, fun _ => ⟨by have _w := (zI_all x_14); omega, by have _w := (zI_all x_14); omega⟩⟩)
        have hP : va_P G.1 classes [(b20, .inl (G.2 0, 520, .inl b58)), (b23, .inl (G.2 0, 482, .inl b59)), (b28, .inl (G.2 0, 2, .inl f_144)), (b29, .inl (G.2 0, 2880, .inl f_155)), (b0, .inr (12, [.int b3, .ref b4, .ref b5, .ref b6, .ref b7, .int b8, .ref b9, .int b10, .int b11, .int b12, .int b13, .ref b14, .ref b15, .ref b16, .int b17, .ref b18, .ref b19, .ref b20, .ref b21, .ref b22, .ref b23, .ref b24, .ref b25, .ref b26, .ref b27, .ref b28, .ref b29, .int x_10, .ref b31, .ref b32, .int b33, .int b34, .int b35, .int b36, .ref b37, .ref b38, .ref b39, .ref b40, .ref b41, .ref b42, .ref b43, .int b44, .ref b45, .ref b46, .int b47, .ref b48, .ref b49, .ref b50, .ref b51, .ref b52, .int b53, .ref b54, .ref b55, .ref b56])), (b4, .inl (G.2 0, 503, .inl b57))] H := hP
        have hD := z_tie hP hD rfl
        refine lv_aload_n hx hb d_Model_addEdge_180 rfl (lv_at hl 6 rfl) ?_
        refine va_get (D := G.1) (ci := 12) (v := .ref b29) (C := R_Model) (T := F_Model) (N := 54) hx hb hts i_Model hown hK hP 4 rfl rfl 26 (by decide) (hts _ q1135) (fun _ h9 => h9) rfl d_Model_addEdge_181 ?_
        refine lv_iload hx hb d_Model_addEdge_184 (lv_at hl 1 rfl) ?_
        refine lv_iconst (v := 5) hx hb d_Model_addEdge_186 (by decide) ?_
        refine lv_iadd hx hb d_Model_addEdge_187 ?_
        refine lv_topi (fun v_156 ev_156 => ?_)
        obtain ⟨qv_156, hv_156⟩ := zI_add (l := 1445) (h := 2879) hv_16 zc_5 ev_156 (by decide)
        rw [li_5] at qv_156
        refine lv_iload hx hb d_Model_addEdge_188 (lv_at hl 2 rfl) ?_
        refine va_iast hx hb hK hP hD hS 3 0 rfl rfl (zI.inn hv_156 (by decide)) d_Model_addEdge_190 (fun H locs hP hD hS => ?_)
        obtain ⟨f_157, hf_157, gf_157, uf_157, hP, hD⟩ := z_newq_ (Q := qE) 3 hP hD rfl hf_155 (qE_v hv_156 (by decide) ⟨fun _ => ⟨by have _w := (zI_all x_14); omega, by have _w := (zI_all x_14); omega⟩, fun _ => ⟨by have _w := (zI_all x_14); omega, by have _w := (zI_all x_14); omega⟩, fun _ => ⟨by have _w := (zI_all x_14); omega, by have _w := (zI_all x_14); omega⟩⟩)
        have hP : va_P G.1 classes [(b20, .inl (G.2 0, 520, .inl b58)), (b23, .inl (G.2 0, 482, .inl b59)), (b28, .inl (G.2 0, 2, .inl f_144)), (b29, .inl (G.2 0, 2880, .inl f_157)), (b0, .inr (12, [.int b3, .ref b4, .ref b5, .ref b6, .ref b7, .int b8, .ref b9, .int b10, .int b11, .int b12, .int b13, .ref b14, .ref b15, .ref b16, .int b17, .ref b18, .ref b19, .ref b20, .ref b21, .ref b22, .ref b23, .ref b24, .ref b25, .ref b26, .ref b27, .ref b28, .ref b29, .int x_10, .ref b31, .ref b32, .int b33, .int b34, .int b35, .int b36, .ref b37, .ref b38, .ref b39, .ref b40, .ref b41, .ref b42, .ref b43, .int b44, .ref b45, .ref b46, .int b47, .ref b48, .ref b49, .ref b50, .ref b51, .ref b52, .int b53, .ref b54, .ref b55, .ref b56])), (b4, .inl (G.2 0, 503, .inl b57))] H := hP
        have hD := z_tie hP hD rfl
        refine lv_aload_n hx hb d_Model_addEdge_191 rfl (lv_at hl 6 rfl) ?_
        refine va_get (D := G.1) (ci := 12) (v := .ref b29) (C := R_Model) (T := F_Model) (N := 54) hx hb hts i_Model hown hK hP 4 rfl rfl 26 (by decide) (hts _ q1135) (fun _ h9 => h9) rfl d_Model_addEdge_192 ?_
        refine lv_iload hx hb d_Model_addEdge_195 (lv_at hl 1 rfl) ?_
        refine lv_iconst (v := 3) hx hb d_Model_addEdge_197 (by decide) ?_
        refine lv_iadd hx hb d_Model_addEdge_198 ?_
        refine lv_topi (fun v_158 ev_158 => ?_)
        obtain rfl : v_152 = v_158 := ev_152.trans ev_158.symm
        refine lv_dup2_11 hx hb d_Model_addEdge_199 rfl rfl ?_
        refine va_iald hx hb hK hP 3 0 rfl rfl (zI.inn hv_152 (by decide)) d_Model_addEdge_200 ?_
        refine lv_topi (fun v_159 ev_159 => ?_)
        have kv_159 := zQE.ld hf_157 hv_152 ev_159 (by decide)
        refine lv_iconst (v := 1) hx hb d_Model_addEdge_201 (by decide) ?_
        refine lv_iadd hx hb d_Model_addEdge_202 ?_
        refine lv_topi (fun v_160 ev_160 => ?_)
        refine va_iast hx hb hK hP hD hS 3 0 rfl rfl (zI.inn hv_152 (by decide)) d_Model_addEdge_203 (fun H locs hP hD hS => ?_)
        obtain ⟨f_161, hf_161, gf_161, uf_161, hP, hD⟩ := z_newq_ (Q := qE) 3 hP hD rfl hf_157 (qE_v hv_152 (by decide) ⟨fun _ => ⟨by have _w := (zI_all v_160); omega, by have _w := (zI_all v_160); omega⟩, fun _ => ⟨by have _w := (zI_all v_160); omega, by have _w := (zI_all v_160); omega⟩, fun _ => ⟨by have _w := (zI_all v_160); omega, by have _w := (zI_all v_160); omega⟩⟩)
        have hP : va_P G.1 classes [(b20, .inl (G.2 0, 520, .inl b58)), (b23, .inl (G.2 0, 482, .inl b59)), (b28, .inl (G.2 0, 2, .inl f_144)), (b29, .inl (G.2 0, 2880, .inl f_161)), (b0, .inr (12, [.int b3, .ref b4, .ref b5, .ref b6, .ref b7, .int b8, .ref b9, .int b10, .int b11, .int b12, .int b13, .ref b14, .ref b15, .ref b16, .int b17, .ref b18, .ref b19, .ref b20, .ref b21, .ref b22, .ref b23, .ref b24, .ref b25, .ref b26, .ref b27, .ref b28, .ref b29, .int x_10, .ref b31, .ref b32, .int b33, .int b34, .int b35, .int b36, .ref b37, .ref b38, .ref b39, .ref b40, .ref b41, .ref b42, .ref b43, .int b44, .ref b45, .ref b46, .int b47, .ref b48, .ref b49, .ref b50, .ref b51, .ref b52, .int b53, .ref b54, .ref b55, .ref b56])), (b4, .inl (G.2 0, 503, .inl b57))] H := hP
        have hD := z_tie hP hD rfl
        refine lv_aload_n hx hb d_Model_addEdge_204 rfl (lv_at hl 6 rfl) ?_
        refine va_get (D := G.1) (ci := 12) (v := .ref b29) (C := R_Model) (T := F_Model) (N := 54) hx hb hts i_Model hown hK hP 4 rfl rfl 26 (by decide) (hts _ q1135) (fun _ h9 => h9) rfl d_Model_addEdge_205 ?_
        refine lv_iload hx hb d_Model_addEdge_208 (lv_at hl 1 rfl) ?_
        refine lv_iconst (v := 4) hx hb d_Model_addEdge_210 (by decide) ?_
        refine lv_iadd hx hb d_Model_addEdge_211 ?_
        refine lv_topi (fun v_162 ev_162 => ?_)
        obtain rfl : v_154 = v_162 := ev_154.trans ev_162.symm
        refine lv_iload hx hb d_Model_addEdge_212 (lv_at hl 2 rfl) ?_
        refine lv_aload_n hx hb d_Model_addEdge_214 rfl (lv_at hl 6 rfl) ?_
        refine va_get (D := G.1) (ci := 12) (v := .ref b29) (C := R_Model) (T := F_Model) (N := 54) hx hb hts i_Model hown hK hP 4 rfl rfl 26 (by decide) (hts _ q1135) (fun _ h9 => h9) rfl d_Model_addEdge_215 ?_
        refine lv_iload hx hb d_Model_addEdge_218 (lv_at hl 1 rfl) ?_
        refine lv_iconst (v := 4) hx hb d_Model_addEdge_220 (by decide) ?_
        refine lv_iadd hx hb d_Model_addEdge_221 ?_
        refine lv_topi (fun v_163 ev_163 => ?_)
        obtain rfl : v_154 = v_163 := ev_154.trans ev_163.symm
        refine va_iald hx hb hK hP 3 0 rfl rfl (zI.inn hv_154 (by decide)) d_Model_addEdge_222 ?_
        refine lv_topi (fun v_164 ev_164 => ?_)
        have kv_164 := zQE.ld hf_161 hv_154 ev_164 (by decide)
        refine lv_icmp_ge (tgt := 231) hx hb d_Model_addEdge_223 (by decide) (fun hc_165 => ?_) (fun hc_165 => ?_)
        · have _nhc_165 := hc_165
          have ni_166 := (fa_le _ _).mp hc_165
          refine lv_aload_n hx hb d_Model_addEdge_231 rfl (lv_at hl 6 rfl) ?_
          refine va_get (D := G.1) (ci := 12) (v := .ref b29) (C := R_Model) (T := F_Model) (N := 54) hx hb hts i_Model hown hK hP 4 rfl rfl 26 (by decide) (hts _ q1135) (fun _ h9 => h9) rfl d_Model_addEdge_232 ?_
          refine lv_iload hx hb d_Model_addEdge_235 (lv_at hl 1 rfl) ?_
          refine lv_iconst (v := 4) hx hb d_Model_addEdge_237 (by decide) ?_
          refine lv_iadd hx hb d_Model_addEdge_238 ?_
          refine lv_topi (fun v_167 ev_167 => ?_)
          obtain rfl : v_154 = v_167 := ev_154.trans ev_167.symm
          refine va_iald hx hb hK hP 3 0 rfl rfl (zI.inn hv_154 (by decide)) d_Model_addEdge_239 ?_
          refine lv_topi (fun v_168 ev_168 => ?_)
          obtain rfl : v_164 = v_168 := ev_164.trans ev_168.symm
          refine va_iast hx hb hK hP hD hS 3 0 rfl rfl (zI.inn hv_154 (by decide)) d_Model_addEdge_240 (fun H locs hP hD hS => ?_)
          obtain ⟨f_169, hf_169, gf_169, uf_169, hP, hD⟩ := z_newq_ (Q := qE) 3 hP hD rfl hf_161 (qE_s kv_164 hv_154 hv_154 (by decide) (by omega))
          have hP : va_P G.1 classes [(b20, .inl (G.2 0, 520, .inl b58)), (b23, .inl (G.2 0, 482, .inl b59)), (b28, .inl (G.2 0, 2, .inl f_144)), (b29, .inl (G.2 0, 2880, .inl f_169)), (b0, .inr (12, [.int b3, .ref b4, .ref b5, .ref b6, .ref b7, .int b8, .ref b9, .int b10, .int b11, .int b12, .int b13, .ref b14, .ref b15, .ref b16, .int b17, .ref b18, .ref b19, .ref b20, .ref b21, .ref b22, .ref b23, .ref b24, .ref b25, .ref b26, .ref b27, .ref b28, .ref b29, .int x_10, .ref b31, .ref b32, .int b33, .int b34, .int b35, .int b36, .ref b37, .ref b38, .ref b39, .ref b40, .ref b41, .ref b42, .ref b43, .int b44, .ref b45, .ref b46, .int b47, .ref b48, .ref b49, .ref b50, .ref b51, .ref b52, .int b53, .ref b54, .ref b55, .ref b56])), (b4, .inl (G.2 0, 503, .inl b57))] H := hP
          have hD := z_tie hP hD rfl
          refine lv_aload_n hx hb d_Model_addEdge_241 rfl (lv_at hl 6 rfl) ?_
          refine va_get (D := G.1) (ci := 12) (v := .ref b29) (C := R_Model) (T := F_Model) (N := 54) hx hb hts i_Model hown hK hP 4 rfl rfl 26 (by decide) (hts _ q1135) (fun _ h9 => h9) rfl d_Model_addEdge_242 ?_
          refine lv_iload hx hb d_Model_addEdge_245 (lv_at hl 1 rfl) ?_
          refine lv_iconst (v := 5) hx hb d_Model_addEdge_247 (by decide) ?_
          refine lv_iadd hx hb d_Model_addEdge_248 ?_
          refine lv_topi (fun v_170 ev_170 => ?_)
          obtain rfl : v_156 = v_170 := ev_156.trans ev_170.symm
          refine lv_iload hx hb d_Model_addEdge_249 (lv_at hl 2 rfl) ?_
          refine lv_aload_n hx hb d_Model_addEdge_251 rfl (lv_at hl 6 rfl) ?_
          refine va_get (D := G.1) (ci := 12) (v := .ref b29) (C := R_Model) (T := F_Model) (N := 54) hx hb hts i_Model hown hK hP 4 rfl rfl 26 (by decide) (hts _ q1135) (fun _ h9 => h9) rfl d_Model_addEdge_252 ?_
          refine lv_iload hx hb d_Model_addEdge_255 (lv_at hl 1 rfl) ?_
          refine lv_iconst (v := 5) hx hb d_Model_addEdge_257 (by decide) ?_
          refine lv_iadd hx hb d_Model_addEdge_258 ?_
          refine lv_topi (fun v_171 ev_171 => ?_)
          obtain rfl : v_156 = v_171 := ev_156.trans ev_171.symm
          refine va_iald hx hb hK hP 3 0 rfl rfl (zI.inn hv_156 (by decide)) d_Model_addEdge_259 ?_
          refine lv_topi (fun v_172 ev_172 => ?_)
          have kv_172 := zQE.ld hf_169 hv_156 ev_172 (by decide)
          refine lv_icmp_le (tgt := 268) hx hb d_Model_addEdge_260 (by decide) (fun hc_173 => ?_) (fun hc_173 => ?_)
          · have _nhc_173 := hc_173
            have ni_174 := (fa_le _ _).mp hc_173
            refine lv_aload_n hx hb d_Model_addEdge_268 rfl (lv_at hl 6 rfl) ?_
            refine va_get (D := G.1) (ci := 12) (v := .ref b29) (C := R_Model) (T := F_Model) (N := 54) hx hb hts i_Model hown hK hP 4 rfl rfl 26 (by decide) (hts _ q1135) (fun _ h9 => h9) rfl d_Model_addEdge_269 ?_
            refine lv_iload hx hb d_Model_addEdge_272 (lv_at hl 1 rfl) ?_
            refine lv_iconst (v := 5) hx hb d_Model_addEdge_274 (by decide) ?_
            refine lv_iadd hx hb d_Model_addEdge_275 ?_
            refine lv_topi (fun v_175 ev_175 => ?_)
            obtain rfl : v_156 = v_175 := ev_156.trans ev_175.symm
            refine va_iald hx hb hK hP 3 0 rfl rfl (zI.inn hv_156 (by decide)) d_Model_addEdge_276 ?_
            refine lv_topi (fun v_176 ev_176 => ?_)
            obtain rfl : v_172 = v_176 := ev_172.trans ev_176.symm
            refine va_iast hx hb hK hP hD hS 3 0 rfl rfl (zI.inn hv_156 (by decide)) d_Model_addEdge_277 (fun H locs hP hD hS => ?_)
            obtain ⟨f_177, hf_177, gf_177, uf_177, hP, hD⟩ := z_newq_ (Q := qE) 3 hP hD rfl hf_169 (qE_s kv_172 hv_156 hv_156 (by decide) (by omega))
            have hP : va_P G.1 classes [(b20, .inl (G.2 0, 520, .inl b58)), (b23, .inl (G.2 0, 482, .inl b59)), (b28, .inl (G.2 0, 2, .inl f_144)), (b29, .inl (G.2 0, 2880, .inl f_177)), (b0, .inr (12, [.int b3, .ref b4, .ref b5, .ref b6, .ref b7, .int b8, .ref b9, .int b10, .int b11, .int b12, .int b13, .ref b14, .ref b15, .ref b16, .int b17, .ref b18, .ref b19, .ref b20, .ref b21, .ref b22, .ref b23, .ref b24, .ref b25, .ref b26, .ref b27, .ref b28, .ref b29, .int x_10, .ref b31, .ref b32, .int b33, .int b34, .int b35, .int b36, .ref b37, .ref b38, .ref b39, .ref b40, .ref b41, .ref b42, .ref b43, .int b44, .ref b45, .ref b46, .int b47, .ref b48, .ref b49, .ref b50, .ref b51, .ref b52, .int b53, .ref b54, .ref b55, .ref b56])), (b4, .inl (G.2 0, 503, .inl b57))] H := hP
            have hD := z_tie hP hD rfl
            exact z_vret hx hb hr hlocks (hP.sub [4, 5, 0, 1, 2, 3] rfl) (hD.sub [4, 5, 0, 1, 2, 3] (by decide) rfl) hS (Nat.le_of_ble_eq_true rfl) (Nat.le_of_ble_eq_true rfl) d_Model_addEdge_278 ⟨x_10, f_144, f_177, rfl, rfl, (zI.wk (l' := 0) (h' := 1) hv_61 (by decide)), hf_144, hf_177, (by rw [gf_144, ← ev_62]; omega)⟩
          · have _nhc_173 := hc_173
            have ni_178 := (fa_lt _ _).mp (zi_nle hc_173)
            have hv_179 : zI v_172 (-2147483648) 2147483646 := zI.lt_l (zI_all v_172) (zI_all x_14) (zi_nle hc_173) (by decide)
            have hv_180 : zI x_14 (-2147483647) 2147483647 := zI.lt_r (zI_all v_172) (zI_all x_14) (zi_nle hc_173) (by decide)
            refine lv_iload hx hb d_Model_addEdge_263 (lv_at hl 2 rfl) ?_
            refine lv_goto (tgt := 277) hx hb d_Model_addEdge_265 (by decide) ?_
            refine va_iast hx hb hK hP hD hS 3 0 rfl rfl (zI.inn hv_156 (by decide)) d_Model_addEdge_277 (fun H locs hP hD hS => ?_)
            obtain ⟨f_181, hf_181, gf_181, uf_181, hP, hD⟩ := z_newq_ (Q := qE) 3 hP hD rfl hf_169 (qE_v hv_156 (by decide) ⟨fun _ => ⟨by have _w := hv_180; omega, by have _w := hv_180; omega⟩, fun _ => ⟨by have _w := hv_180; omega, by have _w := hv_180; omega⟩, fun _ => ⟨by have _w := hv_180; omega, by have _w := hv_180; omega⟩⟩)
            have hP : va_P G.1 classes [(b20, .inl (G.2 0, 520, .inl b58)), (b23, .inl (G.2 0, 482, .inl b59)), (b28, .inl (G.2 0, 2, .inl f_144)), (b29, .inl (G.2 0, 2880, .inl f_181)), (b0, .inr (12, [.int b3, .ref b4, .ref b5, .ref b6, .ref b7, .int b8, .ref b9, .int b10, .int b11, .int b12, .int b13, .ref b14, .ref b15, .ref b16, .int b17, .ref b18, .ref b19, .ref b20, .ref b21, .ref b22, .ref b23, .ref b24, .ref b25, .ref b26, .ref b27, .ref b28, .ref b29, .int x_10, .ref b31, .ref b32, .int b33, .int b34, .int b35, .int b36, .ref b37, .ref b38, .ref b39, .ref b40, .ref b41, .ref b42, .ref b43, .int b44, .ref b45, .ref b46, .int b47, .ref b48, .ref b49, .ref b50, .ref b51, .ref b52, .int b53, .ref b54, .ref b55, .ref b56])), (b4, .inl (G.2 0, 503, .inl b57))] H := hP
            have hD := z_tie hP hD rfl
            exact z_vret hx hb hr hlocks (hP.sub [4, 5, 0, 1, 2, 3] rfl) (hD.sub [4, 5, 0, 1, 2, 3] (by decide) rfl) hS (Nat.le_of_ble_eq_true rfl) (Nat.le_of_ble_eq_true rfl) d_Model_addEdge_278 ⟨x_10, f_144, f_181, rfl, rfl, (zI.wk (l' := 0) (h' := 1) hv_61 (by decide)), hf_144, hf_181, (by rw [gf_144, ← ev_62]; omega)⟩
        · have _nhc_165 := hc_165
          have ni_182 := (fa_lt _ _).mp (zi_nle hc_165)
          have hv_183 : zI x_14 (-2147483648) 2147483646 := zI.lt_l (zI_all x_14) (zI_all v_164) (zi_nle hc_165) (by decide)
          have hv_184 : zI v_164 (-2147483647) 2147483647 := zI.lt_r (zI_all x_14) (zI_all v_164) (zi_nle hc_165) (by decide)
          refine lv_iload hx hb d_Model_addEdge_226 (lv_at hl 2 rfl) ?_
          refine lv_goto (tgt := 240) hx hb d_Model_addEdge_228 (by decide) ?_
          refine va_iast hx hb hK hP hD hS 3 0 rfl rfl (zI.inn hv_154 (by decide)) d_Model_addEdge_240 (fun H locs hP hD hS => ?_)
          obtain ⟨f_185, hf_185, gf_185, uf_185, hP, hD⟩ := z_newq_ (Q := qE) 3 hP hD rfl hf_161 (qE_v hv_154 (by decide) ⟨fun _ => ⟨by have _w := hv_183; omega, by have _w := hv_183; omega⟩, fun _ => ⟨by have _w := hv_183; omega, by have _w := hv_183; omega⟩, fun _ => ⟨by have _w := hv_183; omega, by have _w := hv_183; omega⟩⟩)
          have hP : va_P G.1 classes [(b20, .inl (G.2 0, 520, .inl b58)), (b23, .inl (G.2 0, 482, .inl b59)), (b28, .inl (G.2 0, 2, .inl f_144)), (b29, .inl (G.2 0, 2880, .inl f_185)), (b0, .inr (12, [.int b3, .ref b4, .ref b5, .ref b6, .ref b7, .int b8, .ref b9, .int b10, .int b11, .int b12, .int b13, .ref b14, .ref b15, .ref b16, .int b17, .ref b18, .ref b19, .ref b20, .ref b21, .ref b22, .ref b23, .ref b24, .ref b25, .ref b26, .ref b27, .ref b28, .ref b29, .int x_10, .ref b31, .ref b32, .int b33, .int b34, .int b35, .int b36, .ref b37, .ref b38, .ref b39, .ref b40, .ref b41, .ref b42, .ref b43, .int b44, .ref b45, .ref b46, .int b47, .ref b48, .ref b49, .ref b50, .ref b51, .ref b52, .int b53, .ref b54, .ref b55, .ref b56])), (b4, .inl (G.2 0, 503, .inl b57))] H := hP
          have hD := z_tie hP hD rfl
          refine lv_aload_n hx hb d_Model_addEdge_241 rfl (lv_at hl 6 rfl) ?_
          refine va_get (D := G.1) (ci := 12) (v := .ref b29) (C := R_Model) (T := F_Model) (N := 54) hx hb hts i_Model hown hK hP 4 rfl rfl 26 (by decide) (hts _ q1135) (fun _ h9 => h9) rfl d_Model_addEdge_242 ?_
          refine lv_iload hx hb d_Model_addEdge_245 (lv_at hl 1 rfl) ?_
          refine lv_iconst (v := 5) hx hb d_Model_addEdge_247 (by decide) ?_
          refine lv_iadd hx hb d_Model_addEdge_248 ?_
          refine lv_topi (fun v_186 ev_186 => ?_)
          obtain rfl : v_156 = v_186 := ev_156.trans ev_186.symm
          refine lv_iload hx hb d_Model_addEdge_249 (lv_at hl 2 rfl) ?_
          refine lv_aload_n hx hb d_Model_addEdge_251 rfl (lv_at hl 6 rfl) ?_
          refine va_get (D := G.1) (ci := 12) (v := .ref b29) (C := R_Model) (T := F_Model) (N := 54) hx hb hts i_Model hown hK hP 4 rfl rfl 26 (by decide) (hts _ q1135) (fun _ h9 => h9) rfl d_Model_addEdge_252 ?_
          refine lv_iload hx hb d_Model_addEdge_255 (lv_at hl 1 rfl) ?_
          refine lv_iconst (v := 5) hx hb d_Model_addEdge_257 (by decide) ?_
          refine lv_iadd hx hb d_Model_addEdge_258 ?_
          refine lv_topi (fun v_187 ev_187 => ?_)
          obtain rfl : v_156 = v_187 := ev_156.trans ev_187.symm
          refine va_iald hx hb hK hP 3 0 rfl rfl (zI.inn hv_156 (by decide)) d_Model_addEdge_259 ?_
          refine lv_topi (fun v_188 ev_188 => ?_)
          have kv_188 := zQE.ld hf_185 hv_156 ev_188 (by decide)
          refine lv_icmp_le (tgt := 268) hx hb d_Model_addEdge_260 (by decide) (fun hc_189 => ?_) (fun hc_189 => ?_)
          · have _nhc_189 := hc_189
            have ni_190 := (fa_le _ _).mp hc_189
            refine lv_aload_n hx hb d_Model_addEdge_268 rfl (lv_at hl 6 rfl) ?_
            refine va_get (D := G.1) (ci := 12) (v := .ref b29) (C := R_Model) (T := F_Model) (N := 54) hx hb hts i_Model hown hK hP 4 rfl rfl 26 (by decide) (hts _ q1135) (fun _ h9 => h9) rfl d_Model_addEdge_269 ?_
            refine lv_iload hx hb d_Model_addEdge_272 (lv_at hl 1 rfl) ?_
            refine lv_iconst (v := 5) hx hb d_Model_addEdge_274 (by decide) ?_
            refine lv_iadd hx hb d_Model_addEdge_275 ?_
            refine lv_topi (fun v_191 ev_191 => ?_)
            obtain rfl : v_156 = v_191 := ev_156.trans ev_191.symm
            refine va_iald hx hb hK hP 3 0 rfl rfl (zI.inn hv_156 (by decide)) d_Model_addEdge_276 ?_
            refine lv_topi (fun v_192 ev_192 => ?_)
            obtain rfl : v_188 = v_192 := ev_188.trans ev_192.symm
            refine va_iast hx hb hK hP hD hS 3 0 rfl rfl (zI.inn hv_156 (by decide)) d_Model_addEdge_277 (fun H locs hP hD hS => ?_)
            obtain ⟨f_193, hf_193, gf_193, uf_193, hP, hD⟩ := z_newq_ (Q := qE) 3 hP hD rfl hf_185 (qE_s kv_188 hv_156 hv_156 (by decide) (by omega))
            have hP : va_P G.1 classes [(b20, .inl (G.2 0, 520, .inl b58)), (b23, .inl (G.2 0, 482, .inl b59)), (b28, .inl (G.2 0, 2, .inl f_144)), (b29, .inl (G.2 0, 2880, .inl f_193)), (b0, .inr (12, [.int b3, .ref b4, .ref b5, .ref b6, .ref b7, .int b8, .ref b9, .int b10, .int b11, .int b12, .int b13, .ref b14, .ref b15, .ref b16, .int b17, .ref b18, .ref b19, .ref b20, .ref b21, .ref b22, .ref b23, .ref b24, .ref b25, .ref b26, .ref b27, .ref b28, .ref b29, .int x_10, .ref b31, .ref b32, .int b33, .int b34, .int b35, .int b36, .ref b37, .ref b38, .ref b39, .ref b40, .ref b41, .ref b42, .ref b43, .int b44, .ref b45, .ref b46, .int b47, .ref b48, .ref b49, .ref b50, .ref b51, .ref b52, .int b53, .ref b54, .ref b55, .ref b56])), (b4, .inl (G.2 0, 503, .inl b57))] H := hP
            have hD := z_tie hP hD rfl
            exact z_vret hx hb hr hlocks (hP.sub [4, 5, 0, 1, 2, 3] rfl) (hD.sub [4, 5, 0, 1, 2, 3] (by decide) rfl) hS (Nat.le_of_ble_eq_true rfl) (Nat.le_of_ble_eq_true rfl) d_Model_addEdge_278 ⟨x_10, f_144, f_193, rfl, rfl, (zI.wk (l' := 0) (h' := 1) hv_61 (by decide)), hf_144, hf_193, (by rw [gf_144, ← ev_62]; omega)⟩
          · have _nhc_189 := hc_189
            have ni_194 := (fa_lt _ _).mp (zi_nle hc_189)
            have hv_195 : zI v_188 (-2147483648) 2147483645 := zI.lt_l (zI_all v_188) hv_183 (zi_nle hc_189) (by decide)
            have hv_196 : zI x_14 (-2147483647) 2147483646 := zI.lt_r (zI_all v_188) hv_183 (zi_nle hc_189) (by decide)
            refine lv_iload hx hb d_Model_addEdge_263 (lv_at hl 2 rfl) ?_
            refine lv_goto (tgt := 277) hx hb d_Model_addEdge_265 (by decide) ?_
            refine va_iast hx hb hK hP hD hS 3 0 rfl rfl (zI.inn hv_156 (by decide)) d_Model_addEdge_277 (fun H locs hP hD hS => ?_)
            obtain ⟨f_197, hf_197, gf_197, uf_197, hP, hD⟩ := z_newq_ (Q := qE) 3 hP hD rfl hf_185 (qE_v hv_156 (by decide) ⟨fun _ => ⟨by have _w := hv_196; omega, by have _w := hv_196; omega⟩, fun _ => ⟨by have _w := hv_196; omega, by have _w := hv_196; omega⟩, fun _ => ⟨by have _w := hv_196; omega, by have _w := hv_196; omega⟩⟩)
            have hP : va_P G.1 classes [(b20, .inl (G.2 0, 520, .inl b58)), (b23, .inl (G.2 0, 482, .inl b59)), (b28, .inl (G.2 0, 2, .inl f_144)), (b29, .inl (G.2 0, 2880, .inl f_197)), (b0, .inr (12, [.int b3, .ref b4, .ref b5, .ref b6, .ref b7, .int b8, .ref b9, .int b10, .int b11, .int b12, .int b13, .ref b14, .ref b15, .ref b16, .int b17, .ref b18, .ref b19, .ref b20, .ref b21, .ref b22, .ref b23, .ref b24, .ref b25, .ref b26, .ref b27, .ref b28, .ref b29, .int x_10, .ref b31, .ref b32, .int b33, .int b34, .int b35, .int b36, .ref b37, .ref b38, .ref b39, .ref b40, .ref b41, .ref b42, .ref b43, .int b44, .ref b45, .ref b46, .int b47, .ref b48, .ref b49, .ref b50, .ref b51, .ref b52, .int b53, .ref b54, .ref b55, .ref b56])), (b4, .inl (G.2 0, 503, .inl b57))] H := hP
            have hD := z_tie hP hD rfl
            exact z_vret hx hb hr hlocks (hP.sub [4, 5, 0, 1, 2, 3] rfl) (hD.sub [4, 5, 0, 1, 2, 3] (by decide) rfl) hS (Nat.le_of_ble_eq_true rfl) (Nat.le_of_ble_eq_true rfl) d_Model_addEdge_278 ⟨x_10, f_144, f_197, rfl, rfl, (zI.wk (l' := 0) (h' := 1) hv_61 (by decide)), hf_144, hf_197, (by rw [gf_144, ← ev_62]; omega)⟩
      · have _nhc_140 := hc_140
        have ni_198 := (fa_le _ _).mp (zi_nlt hc_140)
        have hv_199 : zI v_16 1440 2873 := zI.le_l hv_16 hy_135 (zi_nlt hc_140) (by decide)
        have hv_200 : zI y_135 1440 2873 := zI.le_r hv_16 hy_135 (zi_nlt hc_140) (by decide)
        refine lv_aload_n hx hb d_Model_addEdge_91 rfl (lv_at hl 6 rfl) ?_
        refine va_get (D := G.1) (ci := 12) (v := .ref b29) (C := R_Model) (T := F_Model) (N := 54) hx hb hts i_Model hown hK hP 4 rfl rfl 26 (by decide) (hts _ q1135) (fun _ h9 => h9) rfl d_Model_addEdge_92 ?_
        refine lv_iload hx hb d_Model_addEdge_95 (lv_at hl 0 rfl) ?_
        refine lv_bipush (v := 6) hx hb d_Model_addEdge_97 (by decide) ?_
        refine lv_iadd hx hb d_Model_addEdge_99 ?_
        refine lv_topi (fun v_201 ev_201 => ?_)
        obtain ⟨qv_201, hv_201⟩ := zI_add (l := 1446) (h := 2879) hv_200 zc_6 ev_201 (by decide)
        rw [li_6] at qv_201
        refine lv_aload_n hx hb d_Model_addEdge_100 rfl (lv_at hl 6 rfl) ?_
        refine va_get (D := G.1) (ci := 12) (v := .ref b29) (C := R_Model) (T := F_Model) (N := 54) hx hb hts i_Model hown hK hP 4 rfl rfl 26 (by decide) (hts _ q1135) (fun _ h9 => h9) rfl d_Model_addEdge_101 ?_
        refine lv_iload hx hb d_Model_addEdge_104 (lv_at hl 0 rfl) ?_
        refine va_iald hx hb hK hP 3 0 rfl rfl (zI.inn hv_200 (by decide)) d_Model_addEdge_106 ?_
        refine lv_topi (fun v_202 ev_202 => ?_)
        have kv_202 := zQE.ld hy_136 hv_200 ev_202 (by decide)
        refine va_iast hx hb hK hP hD hS 3 0 rfl rfl (zI.inn hv_201 (by decide)) d_Model_addEdge_107 (fun H locs hP hD hS => ?_)
        obtain ⟨f_203, hf_203, gf_203, uf_203, hP, hD⟩ := z_newq_ (Q := qE) 3 hP hD rfl hy_136 (qE_s kv_202 hv_200 hv_201 (by decide) (by omega))
        have hP : va_P G.1 classes [(b20, .inl (G.2 0, 520, .inl b58)), (b23, .inl (G.2 0, 482, .inl b59)), (b28, .inl (G.2 0, 2, .inl b60)), (b29, .inl (G.2 0, 2880, .inl f_203)), (b0, .inr (12, [.int b3, .ref b4, .ref b5, .ref b6, .ref b7, .int b8, .ref b9, .int b10, .int b11, .int b12, .int b13, .ref b14, .ref b15, .ref b16, .int b17, .ref b18, .ref b19, .ref b20, .ref b21, .ref b22, .ref b23, .ref b24, .ref b25, .ref b26, .ref b27, .ref b28, .ref b29, .int x_10, .ref b31, .ref b32, .int b33, .int b34, .int b35, .int b36, .ref b37, .ref b38, .ref b39, .ref b40, .ref b41, .ref b42, .ref b43, .int b44, .ref b45, .ref b46, .int b47, .ref b48, .ref b49, .ref b50, .ref b51, .ref b52, .int b53, .ref b54, .ref b55, .ref b56])), (b4, .inl (G.2 0, 503, .inl b57))] H := hP
        have hD := z_tie hP hD rfl
        obtain ⟨v_204, ev_204⟩ : ∃ z : Int32, z = y_135 + (-1) := ⟨_, rfl⟩
        obtain ⟨qv_204, hv_204⟩ := zI_add (l := 1439) (h := 2872) hv_200 zc_m1 ev_204 (by decide)
        rw [li_m1] at qv_204
        refine lv_iinc (v := v_204) (lv' := [(9, .int v_204), (8, .int v_16), (7, .int x_14), (6, .int x_9), (5, .int x_5), (4, .int x_2), (0, .ref b0), (1, .int 1), (2, .int b1), (3, .int b2)]) hx hb d_Model_addEdge_108 hl (k := 0) rfl (by rw [ev_204]; rfl) (by decide) rfl (fun ls hl => ?_)
        refine lv_goto (tgt := 84) hx hb d_Model_addEdge_111 (by decide) ?_
        exact ihk_134 (v_204) (f_203) _ _ _ (zI.wk (l' := 1439) (h' := 2873) hv_204 (by decide)) hf_203 (by have p9 := z_pl hv_201 (by decide); have p8 := z_pl hv_200 (by decide); intro q; rw [uf_203, z_at]; by_cases h9 : q = v_201.toNatClampNeg; rw [if_pos h9, ev_202, hli_137, if_neg (by omega), if_pos (by omega)]; congr 1; omega; rw [if_neg h9, hli_137]; by_cases h8 : (y_135.toInt + 6 < (q : Int) ∧ (q : Int) < 6 * (b60 (1 : Int32).toNatClampNeg).toInt + 1446); rw [if_pos h8, if_pos (by omega)]; rw [if_neg h8, if_neg (by omega)]) (by omega) (by have h9 := hli_139; omega) (zm_dn qv_204 hmk_134 (by decide)) hP hD hS (lv_sub hl [0, 1, 2, 3, 4, 5, 6, 7, 8, 9] rfl)
abbrev m_s2_Model_lay2 : Room := { frames := 3, cells := 0, slots := 0, locals := 79 }
set_option maxHeartbeats 4000000 in
set_option maxRecDepth 100000 in
theorem s2_Model_lay2 (l : Launch) (G : zG) (b0 : Nat) (b1 : Int32) (b2 : Int32) (b3 : Int32) (b4 : Nat) (b5 : Nat) (b6 : Nat) (b7 : Nat) (b8 : Int32) (b9 : Nat) (b10 : Int32) (b11 : Int32) (b12 : Int32) (b13 : Int32) (b14 : Nat) (b15 : Nat) (b16 : Nat) (b17 : Int32) (b18 : Nat) (b19 : Nat) (b20 : Nat) (b21 : Nat) (b22 : Nat) (b23 : Nat) (b24 : Nat) (b25 : Nat) (b26 : Nat) (b27 : Nat) (b28 : Nat) (b29 : Nat) (b30 : Int32) (b31 : Nat) (b32 : Nat) (b33 : Int32) (b34 : Int32) (b35 : Int32) (b36 : Int32) (b37 : Nat) (b38 : Nat) (b39 : Nat) (b40 : Nat) (b41 : Nat) (b42 : Nat) (b43 : Nat) (b44 : Int32) (b45 : Nat) (b46 : Nat) (b47 : Int32) (b48 : Nat) (b49 : Nat) (b50 : Nat) (b51 : Nat) (b52 : Nat) (b53 : Int32) (b54 : Nat) (b55 : Nat) (b56 : Nat) (b57 : Nat → Int32) (b58 : Nat → Int32) (b59 : Nat → Int32) (b60 : Nat → Int32) (b61 : Nat → Int32) (b62 : Nat → Int32) (b63 : Nat → Int32) (b64 : Nat → Int32) (b65 : Nat → Int32) (b66 : Nat → Int32) (b67 : Nat → Int32) (b68 : Nat → Int32) (b69 : Nat → Int32) (hb1 : zI b1 0 3) (hb2 : zI b2 (-1) 19) (hb8 : zI b8 0 8) (hb10 : zI b10 0 240) (hb11 : zI b11 0 240) (hb13 : zI b13 0 1) (hb17 : zI b17 0 12) (hb30 : zI b30 0 1) (hb33 : zI b33 0 1) (hb44 : zI b44 0 1000) (hb47 : zI b47 0 1000) (hb53 : zI b53 0 400) (hb57 : zW5 b57) (hb58 : zR b58 0 241) (hb59 : zR b59 (-1) 240) (hb60 : zqa qP b60) (hb62 : zqa qC b62) (hb63 : zR b63 0 240) (hb64 : zR b64 0 241) (hb65 : zR b65 0 240) (hb68 : zR b68 0 240) (hb69 : zqa qE b69) : zM l G y_Model_lay2 prog_14_method_35_code 6 (Option.none : Option Jvm.ClassFile.FieldType) m_s2_Model_lay2 [.ref b0, .int 1, .int b1, .int b2] [(b0, .inr (12, [.int b3, .ref b4, .ref b5, .ref b6, .ref b7, .int b8, .ref b9, .int b10, .int b11, .int b12, .int b13, .ref b14, .ref b15, .ref b16, .int b17, .ref b18, .ref b19, .ref b20, .ref b21, .ref b22, .ref b23, .ref b24, .ref b25, .ref b26, .ref b27, .ref b28, .ref b29, .int b30, .ref b31, .ref b32, .int b33, .int b34, .int b35, .int b36, .ref b37, .ref b38, .ref b39, .ref b40, .ref b41, .ref b42, .ref b43, .int b44, .ref b45, .ref b46, .int b47, .ref b48, .ref b49, .ref b50, .ref b51, .ref b52, .int b53, .ref b54, .ref b55, .ref b56])), (b4, .inl (G.2 0, 503, .inl b57)), (b18, .inl (G.2 0, 2, .inl b58)), (b19, .inl (G.2 0, 4820, .inl b59)), (b20, .inl (G.2 0, 520, .inl b60)), (b21, .inl (G.2 0, 9640, .inl b61)), (b22, .inl (G.2 0, 482, .inl b62)), (b23, .inl (G.2 0, 482, .inl b63)), (b24, .inl (G.2 0, 2, .inl b64)), (b25, .inl (G.2 0, 482, .inl b65)), (b26, .inl (G.2 0, 482, .inl b66)), (b27, .inl (G.2 0, 482, .inl b67)), (b28, .inl (G.2 0, 2, .inl b68)), (b29, .inl (G.2 0, 2880, .inl b69))] (fun v w => ∃ (e0 : Int32), ∃ (e1 : Nat → Int32), ∃ (e2 : Nat → Int32), ∃ (e3 : Nat → Int32), ∃ (e4 : Nat → Int32), ∃ (e5 : Nat → Int32), ∃ (e6 : Nat → Int32), ∃ (e7 : Nat → Int32), ∃ (e8 : Nat → Int32), ∃ (e9 : Nat → Int32), ∃ (e10 : Nat → Int32), ∃ (e11 : Nat → Int32), ∃ (e12 : Nat → Int32), v = none ∧ w = [(b0, .inr (12, [.int b3, .ref b4, .ref b5, .ref b6, .ref b7, .int b8, .ref b9, .int b10, .int b11, .int b12, .int b13, .ref b14, .ref b15, .ref b16, .int b17, .ref b18, .ref b19, .ref b20, .ref b21, .ref b22, .ref b23, .ref b24, .ref b25, .ref b26, .ref b27, .ref b28, .ref b29, .int e0, .ref b31, .ref b32, .int b33, .int b34, .int b35, .int b36, .ref b37, .ref b38, .ref b39, .ref b40, .ref b41, .ref b42, .ref b43, .int b44, .ref b45, .ref b46, .int b47, .ref b48, .ref b49, .ref b50, .ref b51, .ref b52, .int b53, .ref b54, .ref b55, .ref b56])), (b4, .inl (G.2 0, 503, .inl b57)), (b18, .inl (G.2 0, 2, .inl e1)), (b19, .inl (G.2 0, 4820, .inl e2)), (b20, .inl (G.2 0, 520, .inl e3)), (b21, .inl (G.2 0, 9640, .inl e4)), (b22, .inl (G.2 0, 482, .inl e5)), (b23, .inl (G.2 0, 482, .inl e6)), (b24, .inl (G.2 0, 2, .inl e7)), (b25, .inl (G.2 0, 482, .inl e8)), (b26, .inl (G.2 0, 482, .inl e9)), (b27, .inl (G.2 0, 482, .inl e10)), (b28, .inl (G.2 0, 2, .inl e11)), (b29, .inl (G.2 0, 2880, .inl e12))] ∧ (zI e0 0 1) ∧ (zR e1 0 241) ∧ (zR e2 (-1) 240) ∧ (zqa qP e3) ∧ (zqa qC e5) ∧ (zR e6 0 240) ∧ (zR e7 0 241) ∧ (zR e8 0 240) ∧ (zR e11 0 240) ∧ (zqa qE e12)) := by
  refine z_start (by decide +kernel) (Nat.le_of_ble_eq_true rfl) ?_
  intro p e s m below meth c A Z hr hnm hA hP hD hS ls hl
  have Z : zC p s m _ meth c prog_14_method_35_code 6 "TraceMachinesModel" G := Z
  obtain ⟨hx, hb, hml, hown, hts, hK, hN, hlocks⟩ := id Z
  have hl : lv_has ls 6 [(0, .ref b0), (1, .int 1), (2, .int b1), (3, .int b2)] := hl
  refine lv_aload_n hx hb d_Model_lay2_0 rfl (lv_at hl 0 rfl) ?_
  refine lv_iload_n hx hb d_Model_lay2_1 rfl (lv_at hl 1 rfl) ?_
  refine lv_iload_n hx hb d_Model_lay2_2 rfl (lv_at hl 3 rfl) ?_
  refine z_callV (index := 241) (As := [.int 1, .int b2]) (rest := []) (wr := [(b21, .inl (G.2 0, 9640, .inl b61)), (b23, .inl (G.2 0, 482, .inl b63)), (b24, .inl (G.2 0, 2, .inl b64)), (b25, .inl (G.2 0, 482, .inl b65)), (b26, .inl (G.2 0, 482, .inl b66)), (b27, .inl (G.2 0, 482, .inl b67)), (b28, .inl (G.2 0, 2, .inl b68)), (b29, .inl (G.2 0, 2880, .inl b69))]) Z (s2_Model_layPrefixes l G (b0) (b2) (b3) (b4) (b5) (b6) (b7) (b8) (b9) (b10) (b11) (b12) (b13) (b14) (b15) (b16) (b17) (b18) (b19) (b20) (b21) (b22) (b23) (b24) (b25) (b26) (b27) (b28) (b29) (b30) (b31) (b32) (b33) (b34) (b35) (b36) (b37) (b38) (b39) (b40) (b41) (b42) (b43) (b44) (b45) (b46) (b47) (b48) (b49) (b50) (b51) (b52) (b53) (b54) (b55) (b56) (b57) (b58) (b59) (b60) (b62) hb2 hb8 hb10 hb11 hb13 hb17 hb30 hb33 hb44 hb47 hb53 hb57 hb58 hb59 hb60 hb62) hl.1 q1364 q1366 qs57 q14 q1367 ⟨by decide, by decide, by show _ = some 2; decide +kernel⟩ ⟨Nat.le_of_ble_eq_true rfl, Nat.le_of_ble_eq_true rfl⟩ ⟨Nat.le_of_ble_eq_true rfl, Nat.le_of_ble_eq_true rfl⟩ rfl (Nat.le_of_ble_eq_true rfl) d_Model_lay2_3 hP hD hS hA 0 12 rfl rfl rfl [0, 1, 2, 3, 4, 6] [5, 7, 8, 9, 10, 11, 12, 13] rfl rfl rfl rfl (by decide) (fun v w1 H locs hw_1 hP hD hS => ?_)
  obtain ⟨f_2, f_3, f_4, f_5, rfl, rfl, hf_2, hf_3, hf_4, hf_5, hfx_6, hfx_7⟩ := hw_1
  have hP : va_P G.1 classes [(b21, .inl (G.2 0, 9640, .inl b61)), (b23, .inl (G.2 0, 482, .inl b63)), (b24, .inl (G.2 0, 2, .inl b64)), (b25, .inl (G.2 0, 482, .inl b65)), (b26, .inl (G.2 0, 482, .inl b66)), (b27, .inl (G.2 0, 482, .inl b67)), (b28, .inl (G.2 0, 2, .inl b68)), (b29, .inl (G.2 0, 2880, .inl b69)), (b0, .inr (12, [.int b3, .ref b4, .ref b5, .ref b6, .ref b7, .int b8, .ref b9, .int b10, .int b11, .int b12, .int b13, .ref b14, .ref b15, .ref b16, .int b17, .ref b18, .ref b19, .ref b20, .ref b21, .ref b22, .ref b23, .ref b24, .ref b25, .ref b26, .ref b27, .ref b28, .ref b29, .int b30, .ref b31, .ref b32, .int b33, .int b34, .int b35, .int b36, .ref b37, .ref b38, .ref b39, .ref b40, .ref b41, .ref b42, .ref b43, .int b44, .ref b45, .ref b46, .int b47, .ref b48, .ref b49, .ref b50, .ref b51, .ref b52, .int b53, .ref b54, .ref b55, .ref b56])), (b4, .inl (G.2 0, 503, .inl b57)), (b18, .inl (G.2 0, 2, .inl f_2)), (b19, .inl (G.2 0, 4820, .inl f_3)), (b20, .inl (G.2 0, 520, .inl f_4)), (b22, .inl (G.2 0, 482, .inl f_5))] H := hP
  have hD := z_tie hP hD rfl
  refine W.widen (k := 0) (n := 0) (Nat.le_of_ble_eq_true rfl) (Nat.le_of_ble_eq_true rfl) ?_
  refine lv_iconst (v := 0) hx hb d_Model_lay2_6 (by decide) ?_
  refine lv_istore (lv' := [(4, .int 0), (0, .ref b0), (1, .int 1), (2, .int b1), (3, .int b2)]) hx hb d_Model_lay2_7 hl (by decide) rfl (fun ls hl => ?_)
  suffices key : ∀ (k_176 : Nat) (y_177 : Int32) (y_178 : Nat → Int32) (H : Heap) (locs : List Loc) (ls : Array Slot), (zI y_177 0 241) → (zqa qC y_178) → (∀ q : Nat, (q : Int) < (y_177 : Int32).toInt → (y_178 (241 + q)).toInt = 0) → (241 : Int) - y_177.toInt < (k_176 : Int) → va_P G.1 classes [(b21, .inl (G.2 0, 9640, .inl b61)), (b23, .inl (G.2 0, 482, .inl b63)), (b24, .inl (G.2 0, 2, .inl b64)), (b25, .inl (G.2 0, 482, .inl b65)), (b26, .inl (G.2 0, 482, .inl b66)), (b27, .inl (G.2 0, 482, .inl b67)), (b28, .inl (G.2 0, 2, .inl b68)), (b29, .inl (G.2 0, 2880, .inl b69)), (b0, .inr (12, [.int b3, .ref b4, .ref b5, .ref b6, .ref b7, .int b8, .ref b9, .int b10, .int b11, .int b12, .int b13, .ref b14, .ref b15, .ref b16, .int b17, .ref b18, .ref b19, .ref b20, .ref b21, .ref b22, .ref b23, .ref b24, .ref b25, .ref b26, .ref b27, .ref b28, .ref b29, .int b30, .ref b31, .ref b32, .int b33, .int b34, .int b35, .int b36, .ref b37, .ref b38, .ref b39, .ref b40, .ref b41, .ref b42, .ref b43, .int b44, .ref b45, .ref b46, .int b47, .ref b48, .ref b49, .ref b50, .ref b51, .ref b52, .int b53, .ref b54, .ref b55, .ref b56])), (b4, .inl (G.2 0, 503, .inl b57)), (b18, .inl (G.2 0, 2, .inl f_2)), (b19, .inl (G.2 0, 4820, .inl f_3)), (b20, .inl (G.2 0, 520, .inl f_4)), (b22, .inl (G.2 0, 482, .inl y_178))] H → va_D A [(b21, .inl (G.2 0, 9640, .inl b61)), (b23, .inl (G.2 0, 482, .inl b63)), (b24, .inl (G.2 0, 2, .inl b64)), (b25, .inl (G.2 0, 482, .inl b65)), (b26, .inl (G.2 0, 482, .inl b66)), (b27, .inl (G.2 0, 482, .inl b67)), (b28, .inl (G.2 0, 2, .inl b68)), (b29, .inl (G.2 0, 2880, .inl b69)), (b0, .inr (12, [.int b3, .ref b4, .ref b5, .ref b6, .ref b7, .int b8, .ref b9, .int b10, .int b11, .int b12, .int b13, .ref b14, .ref b15, .ref b16, .int b17, .ref b18, .ref b19, .ref b20, .ref b21, .ref b22, .ref b23, .ref b24, .ref b25, .ref b26, .ref b27, .ref b28, .ref b29, .int b30, .ref b31, .ref b32, .int b33, .int b34, .int b35, .int b36, .ref b37, .ref b38, .ref b39, .ref b40, .ref b41, .ref b42, .ref b43, .int b44, .ref b45, .ref b46, .int b47, .ref b48, .ref b49, .ref b50, .ref b51, .ref b52, .int b53, .ref b54, .ref b55, .ref b56])), (b4, .inl (G.2 0, 503, .inl b57)), (b18, .inl (G.2 0, 2, .inl f_2)), (b19, .inl (G.2 0, 4820, .inl f_3)), (b20, .inl (G.2 0, 520, .inl f_4)), (b22, .inl (G.2 0, 482, .inl y_178))] → va_S A s.heap H locs → lv_has ls 6 [(4, .int y_177), (0, .ref b0), (1, .int 1), (2, .int b1), (3, .int b2)] → W p l e m_s2_Model_lay2 s m ([.ref b0, .int 1, .int b1, .int b2] : List Value).toArray below meth c H locs 0 0 (MQ below (zQ G (fun v w => ∃ (e0 : Int32), ∃ (e1 : Nat → Int32), ∃ (e2 : Nat → Int32), ∃ (e3 : Nat → Int32), ∃ (e4 : Nat → Int32), ∃ (e5 : Nat → Int32), ∃ (e6 : Nat → Int32), ∃ (e7 : Nat → Int32), ∃ (e8 : Nat → Int32), ∃ (e9 : Nat → Int32), ∃ (e10 : Nat → Int32), ∃ (e11 : Nat → Int32), ∃ (e12 : Nat → Int32), v = none ∧ w = [(b0, .inr (12, [.int b3, .ref b4, .ref b5, .ref b6, .ref b7, .int b8, .ref b9, .int b10, .int b11, .int b12, .int b13, .ref b14, .ref b15, .ref b16, .int b17, .ref b18, .ref b19, .ref b20, .ref b21, .ref b22, .ref b23, .ref b24, .ref b25, .ref b26, .ref b27, .ref b28, .ref b29, .int e0, .ref b31, .ref b32, .int b33, .int b34, .int b35, .int b36, .ref b37, .ref b38, .ref b39, .ref b40, .ref b41, .ref b42, .ref b43, .int b44, .ref b45, .ref b46, .int b47, .ref b48, .ref b49, .ref b50, .ref b51, .ref b52, .int b53, .ref b54, .ref b55, .ref b56])), (b4, .inl (G.2 0, 503, .inl b57)), (b18, .inl (G.2 0, 2, .inl e1)), (b19, .inl (G.2 0, 4820, .inl e2)), (b20, .inl (G.2 0, 520, .inl e3)), (b21, .inl (G.2 0, 9640, .inl e4)), (b22, .inl (G.2 0, 482, .inl e5)), (b23, .inl (G.2 0, 482, .inl e6)), (b24, .inl (G.2 0, 2, .inl e7)), (b25, .inl (G.2 0, 482, .inl e8)), (b26, .inl (G.2 0, 482, .inl e9)), (b27, .inl (G.2 0, 482, .inl e10)), (b28, .inl (G.2 0, 2, .inl e11)), (b29, .inl (G.2 0, 2880, .inl e12))] ∧ (zI e0 0 1) ∧ (zR e1 0 241) ∧ (zR e2 (-1) 240) ∧ (zqa qP e3) ∧ (zqa qC e5) ∧ (zR e6 0 240) ∧ (zR e7 0 241) ∧ (zR e8 0 240) ∧ (zR e11 0 240) ∧ (zqa qE e12)) A) ([.ref b0, .int 1, .int b1, .int b2] : List Value).toArray s m_s2_Model_lay2.cells m_s2_Model_lay2.slots A) (F0 m 9 ls []) by
    exact key 242 (0) (f_5) _ _ _ (zI.wk (l' := 0) (h' := 241) zc_0 (by decide)) hf_5 (by have _l0 := li_0; intro q hq; omega) (zm_upi (zI.wk (l' := 0) (h' := 241) zc_0 (by decide)) (by decide)) hP hD hS (lv_sub hl [0, 1, 2, 3, 4] rfl)
  intro k_176
  induction k_176 with
  | zero =>
    intro y_177 y_178 H locs ls hy_177 hy_178 hli_179 hmk_176 hP hD hS hl
    exact (zm_up0 hy_177 hmk_176).elim
  | succ k_176 ihk_176 =>
    intro y_177 y_178 H locs ls hy_177 hy_178 hli_179 hmk_176 hP hD hS hl
    refine lv_iload hx hb d_Model_lay2_9 (lv_at hl 0 rfl) ?_
    refine lv_aload_n hx hb d_Model_lay2_11 rfl (lv_at hl 1 rfl) ?_
    refine va_get (D := G.1) (ci := 12) (v := .ref b18) (C := R_Model) (T := F_Model) (N := 54) hx hb hts i_Model hown hK hP 8 rfl rfl 15 (by decide) (hts _ q1124) (fun _ h9 => h9) rfl d_Model_lay2_12 ?_
    refine lv_iload_n hx hb d_Model_lay2_15 rfl (lv_at hl 2 rfl) ?_
    refine va_iald hx hb hK hP 10 0 rfl rfl (i := 1) (z_in rfl) d_Model_lay2_16 ?_
    refine lv_topi (fun v_180 ev_180 => ?_)
    have hv_180 : zI v_180 0 241 := (hf_2 _).eq ev_180
    refine lv_icmp_ge (tgt := 40) hx hb d_Model_lay2_17 (by decide) (fun hc_181 => ?_) (fun hc_181 => ?_)
    · have _nhc_181 := hc_181
      have ni_182 := (fa_le _ _).mp hc_181
      refine lv_aload_n hx hb d_Model_lay2_40 rfl (lv_at hl 1 rfl) ?_
      refine lv_iload_n hx hb d_Model_lay2_41 rfl (lv_at hl 2 rfl) ?_
      refine lv_iload_n hx hb d_Model_lay2_42 rfl (lv_at hl 3 rfl) ?_
      refine lv_iload_n hx hb d_Model_lay2_43 rfl (lv_at hl 4 rfl) ?_
      refine z_callV (index := 244) (As := [.int 1, .int b1, .int b2]) (rest := []) (wr := [(b28, .inl (G.2 0, 2, .inl b68)), (b29, .inl (G.2 0, 2880, .inl b69)), (b19, .inl (G.2 0, 4820, .inl f_3))]) Z (s2_Model_layStates l G (b0) (b1) (b2) (b3) (b4) (b5) (b6) (b7) (b8) (b9) (b10) (b11) (b12) (b13) (b14) (b15) (b16) (b17) (b18) (b19) (b20) (b21) (b22) (b23) (b24) (b25) (b26) (b27) (b28) (b29) (b30) (b31) (b32) (b33) (b34) (b35) (b36) (b37) (b38) (b39) (b40) (b41) (b42) (b43) (b44) (b45) (b46) (b47) (b48) (b49) (b50) (b51) (b52) (b53) (b54) (b55) (b56) (b57) (f_2) (f_4) (b61) (y_178) (b63) (b64) (b65) (b66) (b67) hb1 hb2 hb8 hb10 hb11 hb13 hb17 hb30 hb33 hb44 hb47 hb53 hb57 hf_2 hf_4 hy_178 hb63 hb64 hb65 hfx_6 (by intro q hq; rw [← ev_180] at hq; exact hli_179 q (by omega))) hl.1 q1376 q1378 qs60 q14 q1379 ⟨by decide, by decide, by show _ = some 3; decide +kernel⟩ ⟨Nat.le_of_ble_eq_true rfl, Nat.le_of_ble_eq_true rfl⟩ ⟨Nat.le_of_ble_eq_true rfl, Nat.le_of_ble_eq_true rfl⟩ rfl (Nat.le_of_ble_eq_true rfl) d_Model_lay2_44 hP hD hS hA 8 12 rfl rfl rfl [8, 9, 10, 12, 0, 13, 1, 2, 3, 4, 5] [6, 7, 11] rfl rfl rfl rfl (by decide) (fun v w1 H locs hw_183 hP hD hS => ?_)
      obtain ⟨f_184, f_185, f_186, f_187, f_188, f_189, f_190, rfl, rfl, hf_185, hf_186, hf_187, hf_188⟩ := hw_183
      have hP : va_P G.1 classes [(b28, .inl (G.2 0, 2, .inl b68)), (b29, .inl (G.2 0, 2880, .inl b69)), (b19, .inl (G.2 0, 4820, .inl f_3)), (b0, .inr (12, [.int b3, .ref b4, .ref b5, .ref b6, .ref b7, .int b8, .ref b9, .int b10, .int b11, .int b12, .int b13, .ref b14, .ref b15, .ref b16, .int b17, .ref b18, .ref b19, .ref b20, .ref b21, .ref b22, .ref b23, .ref b24, .ref b25, .ref b26, .ref b27, .ref b28, .ref b29, .int b30, .ref b31, .ref b32, .int b33, .int b34, .int b35, .int b36, .ref b37, .ref b38, .ref b39, .ref b40, .ref b41, .ref b42, .ref b43, .int b44, .ref b45, .ref b46, .int b47, .ref b48, .ref b49, .ref b50, .ref b51, .ref b52, .int b53, .ref b54, .ref b55, .ref b56])), (b4, .inl (G.2 0, 503, .inl b57)), (b18, .inl (G.2 0, 2, .inl f_2)), (b20, .inl (G.2 0, 520, .inl f_4)), (b21, .inl (G.2 0, 9640, .inl f_184)), (b22, .inl (G.2 0, 482, .inl f_185)), (b23, .inl (G.2 0, 482, .inl f_186)), (b24, .inl (G.2 0, 2, .inl f_187)), (b25, .inl (G.2 0, 482, .inl f_188)), (b26, .inl (G.2 0, 482, .inl f_189)), (b27, .inl (G.2 0, 482, .inl f_190))] H := hP
      have hD := z_tie hP hD rfl
      refine W.widen (k := 0) (n := 0) (Nat.le_of_ble_eq_true rfl) (Nat.le_of_ble_eq_true rfl) ?_
      refine lv_aload_n hx hb d_Model_lay2_47 rfl (lv_at hl 1 rfl) ?_
      refine va_get (D := G.1) (ci := 12) (v := .ref b28) (C := R_Model) (T := F_Model) (N := 54) hx hb hts i_Model hown hK hP 3 rfl rfl 25 (by decide) (hts _ q1134) (fun _ h9 => h9) rfl d_Model_lay2_48 ?_
      refine lv_iload_n hx hb d_Model_lay2_51 rfl (lv_at hl 2 rfl) ?_
      refine lv_iconst (v := 0) hx hb d_Model_lay2_52 (by decide) ?_
      refine va_iast hx hb hK hP hD hS 0 0 rfl rfl (i := 1) (z_in rfl) d_Model_lay2_53 (fun H locs hP hD hS => ?_)
      obtain ⟨f_191, hf_191, gf_191, uf_191, hP, hD⟩ := z_newfu 0 hP hD rfl hb68 (zI.wk (l' := 0) (h' := 240) zc_0 (by decide))
      have hP : va_P G.1 classes [(b28, .inl (G.2 0, 2, .inl f_191)), (b29, .inl (G.2 0, 2880, .inl b69)), (b19, .inl (G.2 0, 4820, .inl f_3)), (b0, .inr (12, [.int b3, .ref b4, .ref b5, .ref b6, .ref b7, .int b8, .ref b9, .int b10, .int b11, .int b12, .int b13, .ref b14, .ref b15, .ref b16, .int b17, .ref b18, .ref b19, .ref b20, .ref b21, .ref b22, .ref b23, .ref b24, .ref b25, .ref b26, .ref b27, .ref b28, .ref b29, .int b30, .ref b31, .ref b32, .int b33, .int b34, .int b35, .int b36, .ref b37, .ref b38, .ref b39, .ref b40, .ref b41, .ref b42, .ref b43, .int b44, .ref b45, .ref b46, .int b47, .ref b48, .ref b49, .ref b50, .ref b51, .ref b52, .int b53, .ref b54, .ref b55, .ref b56])), (b4, .inl (G.2 0, 503, .inl b57)), (b18, .inl (G.2 0, 2, .inl f_2)), (b20, .inl (G.2 0, 520, .inl f_4)), (b21, .inl (G.2 0, 9640, .inl f_184)), (b22, .inl (G.2 0, 482, .inl f_185)), (b23, .inl (G.2 0, 482, .inl f_186)), (b24, .inl (G.2 0, 2, .inl f_187)), (b25, .inl (G.2 0, 482, .inl f_188)), (b26, .inl (G.2 0, 482, .inl f_189)), (b27, .inl (G.2 0, 482, .inl f_190))] H := hP
      have hD := z_tie hP hD rfl
      refine lv_iconst (v := 0) hx hb d_Model_lay2_54 (by decide) ?_
      refine lv_istore (lv' := [(4, .int 0), (0, .ref b0), (1, .int 1), (2, .int b1), (3, .int b2)]) hx hb d_Model_lay2_55 hl (by decide) rfl (fun ls hl => ?_)
      suffices key : ∀ (k_266 : Nat) (y_267 : Int32) (y_268 : Int32) (y_269 : Nat → Int32) (y_270 : Nat → Int32) (y_271 : Nat → Int32) (H : Heap) (locs : List Loc) (ls : Array Slot), (zI y_267 0 20) → (zI y_268 0 1) → (zR y_270 0 240) → (zqa qE y_271) → ((y_270 (1 : Int32).toNatClampNeg).toInt ≤ 12 * (y_267 : Int32).toInt) → (True) → (True) → (20 : Int) - y_267.toInt < (k_266 : Int) → va_P G.1 classes [(b28, .inl (G.2 0, 2, .inl y_270)), (b29, .inl (G.2 0, 2880, .inl y_271)), (b19, .inl (G.2 0, 4820, .inl f_3)), (b0, .inr (12, [.int b3, .ref b4, .ref b5, .ref b6, .ref b7, .int b8, .ref b9, .int b10, .int b11, .int b12, .int b13, .ref b14, .ref b15, .ref b16, .int b17, .ref b18, .ref b19, .ref b20, .ref b21, .ref b22, .ref b23, .ref b24, .ref b25, .ref b26, .ref b27, .ref b28, .ref b29, .int y_268, .ref b31, .ref b32, .int b33, .int b34, .int b35, .int b36, .ref b37, .ref b38, .ref b39, .ref b40, .ref b41, .ref b42, .ref b43, .int b44, .ref b45, .ref b46, .int b47, .ref b48, .ref b49, .ref b50, .ref b51, .ref b52, .int b53, .ref b54, .ref b55, .ref b56])), (b4, .inl (G.2 0, 503, .inl b57)), (b18, .inl (G.2 0, 2, .inl f_2)), (b20, .inl (G.2 0, 520, .inl f_4)), (b21, .inl (G.2 0, 9640, .inl f_184)), (b22, .inl (G.2 0, 482, .inl f_185)), (b23, .inl (G.2 0, 482, .inl f_186)), (b24, .inl (G.2 0, 2, .inl f_187)), (b25, .inl (G.2 0, 482, .inl f_188)), (b26, .inl (G.2 0, 482, .inl f_189)), (b27, .inl (G.2 0, 482, .inl y_269))] H → va_D A [(b28, .inl (G.2 0, 2, .inl y_270)), (b29, .inl (G.2 0, 2880, .inl y_271)), (b19, .inl (G.2 0, 4820, .inl f_3)), (b0, .inr (12, [.int b3, .ref b4, .ref b5, .ref b6, .ref b7, .int b8, .ref b9, .int b10, .int b11, .int b12, .int b13, .ref b14, .ref b15, .ref b16, .int b17, .ref b18, .ref b19, .ref b20, .ref b21, .ref b22, .ref b23, .ref b24, .ref b25, .ref b26, .ref b27, .ref b28, .ref b29, .int y_268, .ref b31, .ref b32, .int b33, .int b34, .int b35, .int b36, .ref b37, .ref b38, .ref b39, .ref b40, .ref b41, .ref b42, .ref b43, .int b44, .ref b45, .ref b46, .int b47, .ref b48, .ref b49, .ref b50, .ref b51, .ref b52, .int b53, .ref b54, .ref b55, .ref b56])), (b4, .inl (G.2 0, 503, .inl b57)), (b18, .inl (G.2 0, 2, .inl f_2)), (b20, .inl (G.2 0, 520, .inl f_4)), (b21, .inl (G.2 0, 9640, .inl f_184)), (b22, .inl (G.2 0, 482, .inl f_185)), (b23, .inl (G.2 0, 482, .inl f_186)), (b24, .inl (G.2 0, 2, .inl f_187)), (b25, .inl (G.2 0, 482, .inl f_188)), (b26, .inl (G.2 0, 482, .inl f_189)), (b27, .inl (G.2 0, 482, .inl y_269))] → va_S A s.heap H locs → lv_has ls 6 [(4, .int y_267), (0, .ref b0), (1, .int 1), (2, .int b1), (3, .int b2)] → W p l e m_s2_Model_lay2 s m ([.ref b0, .int 1, .int b1, .int b2] : List Value).toArray below meth c H locs 0 0 (MQ below (zQ G (fun v w => ∃ (e0 : Int32), ∃ (e1 : Nat → Int32), ∃ (e2 : Nat → Int32), ∃ (e3 : Nat → Int32), ∃ (e4 : Nat → Int32), ∃ (e5 : Nat → Int32), ∃ (e6 : Nat → Int32), ∃ (e7 : Nat → Int32), ∃ (e8 : Nat → Int32), ∃ (e9 : Nat → Int32), ∃ (e10 : Nat → Int32), ∃ (e11 : Nat → Int32), ∃ (e12 : Nat → Int32), v = none ∧ w = [(b0, .inr (12, [.int b3, .ref b4, .ref b5, .ref b6, .ref b7, .int b8, .ref b9, .int b10, .int b11, .int b12, .int b13, .ref b14, .ref b15, .ref b16, .int b17, .ref b18, .ref b19, .ref b20, .ref b21, .ref b22, .ref b23, .ref b24, .ref b25, .ref b26, .ref b27, .ref b28, .ref b29, .int e0, .ref b31, .ref b32, .int b33, .int b34, .int b35, .int b36, .ref b37, .ref b38, .ref b39, .ref b40, .ref b41, .ref b42, .ref b43, .int b44, .ref b45, .ref b46, .int b47, .ref b48, .ref b49, .ref b50, .ref b51, .ref b52, .int b53, .ref b54, .ref b55, .ref b56])), (b4, .inl (G.2 0, 503, .inl b57)), (b18, .inl (G.2 0, 2, .inl e1)), (b19, .inl (G.2 0, 4820, .inl e2)), (b20, .inl (G.2 0, 520, .inl e3)), (b21, .inl (G.2 0, 9640, .inl e4)), (b22, .inl (G.2 0, 482, .inl e5)), (b23, .inl (G.2 0, 482, .inl e6)), (b24, .inl (G.2 0, 2, .inl e7)), (b25, .inl (G.2 0, 482, .inl e8)), (b26, .inl (G.2 0, 482, .inl e9)), (b27, .inl (G.2 0, 482, .inl e10)), (b28, .inl (G.2 0, 2, .inl e11)), (b29, .inl (G.2 0, 2880, .inl e12))] ∧ (zI e0 0 1) ∧ (zR e1 0 241) ∧ (zR e2 (-1) 240) ∧ (zqa qP e3) ∧ (zqa qC e5) ∧ (zR e6 0 240) ∧ (zR e7 0 241) ∧ (zR e8 0 240) ∧ (zR e11 0 240) ∧ (zqa qE e12)) A) ([.ref b0, .int 1, .int b1, .int b2] : List Value).toArray s m_s2_Model_lay2.cells m_s2_Model_lay2.slots A) (F0 m 57 ls []) by
        exact key 21 (0) (b30) (f_190) (f_191) (b69) _ _ _ (zI.wk (l' := 0) (h' := 20) zc_0 (by decide)) hb30 hf_191 hb69 (by rw [gf_191]; have _l0 := li_0; omega) trivial trivial (zm_upi (zI.wk (l' := 0) (h' := 20) zc_0 (by decide)) (by decide)) hP hD hS (lv_sub hl [0, 1, 2, 3, 4] rfl)
      intro k_266
      induction k_266 with
      | zero =>
        intro y_267 y_268 y_269 y_270 y_271 H locs ls hy_267 hy_268 hy_270 hy_271 hli_272 hli_273 hli_274 hmk_266 hP hD hS hl
        exact (zm_up0 hy_267 hmk_266).elim
      | succ k_266 ihk_266 =>
        intro y_267 y_268 y_269 y_270 y_271 H locs ls hy_267 hy_268 hy_270 hy_271 hli_272 hli_273 hli_274 hmk_266 hP hD hS hl
        refine lv_iload hx hb d_Model_lay2_57 (lv_at hl 0 rfl) ?_
        refine lv_aload_n hx hb d_Model_lay2_59 rfl (lv_at hl 1 rfl) ?_
        refine z_callV (index := 134) (As := []) (rest := [.int y_267]) (wr := [(b28, .inl (G.2 0, 2, .inl y_270)), (b29, .inl (G.2 0, 2880, .inl y_271)), (b19, .inl (G.2 0, 4820, .inl f_3)), (b18, .inl (G.2 0, 2, .inl f_2)), (b20, .inl (G.2 0, 520, .inl f_4)), (b21, .inl (G.2 0, 9640, .inl f_184)), (b22, .inl (G.2 0, 482, .inl f_185)), (b23, .inl (G.2 0, 482, .inl f_186)), (b24, .inl (G.2 0, 2, .inl f_187)), (b25, .inl (G.2 0, 482, .inl f_188)), (b26, .inl (G.2 0, 482, .inl f_189)), (b27, .inl (G.2 0, 482, .inl y_269))]) Z (s1_Model_many l G (b0) (b3) (b4) (b5) (b6) (b7) (b8) (b9) (b10) (b11) (b12) (b13) (b14) (b15) (b16) (b17) (b18) (b19) (b20) (b21) (b22) (b23) (b24) (b25) (b26) (b27) (b28) (b29) (y_268) (b31) (b32) (b33) (b34) (b35) (b36) (b37) (b38) (b39) (b40) (b41) (b42) (b43) (b44) (b45) (b46) (b47) (b48) (b49) (b50) (b51) (b52) (b53) (b54) (b55) (b56) (b57) hb8 hb10 hb11 hb13 hb17 hy_268 hb33 hb44 hb47 hb53 hb57) hl.1 q1320 q1322 qs51 q14 q1323 ⟨by decide, by decide, by show _ = some 0; decide +kernel⟩ ⟨Nat.le_of_ble_eq_true rfl, Nat.le_of_ble_eq_true rfl⟩ ⟨Nat.le_of_ble_eq_true rfl, Nat.le_of_ble_eq_true rfl⟩ rfl (Nat.le_of_ble_eq_true rfl) d_Model_lay2_60 hP hD hS hA 3 12 rfl rfl rfl [3, 4] [0, 1, 2, 5, 6, 7, 8, 9, 10, 11, 12, 13] rfl rfl rfl rfl (by decide) (fun v w1 H locs hw_275 hP hD hS => ?_)
        obtain ⟨x_276, rfl, rfl, hx_276, hfx_277⟩ := hw_275
        have hP : va_P G.1 classes [(b28, .inl (G.2 0, 2, .inl y_270)), (b29, .inl (G.2 0, 2880, .inl y_271)), (b19, .inl (G.2 0, 4820, .inl f_3)), (b18, .inl (G.2 0, 2, .inl f_2)), (b20, .inl (G.2 0, 520, .inl f_4)), (b21, .inl (G.2 0, 9640, .inl f_184)), (b22, .inl (G.2 0, 482, .inl f_185)), (b23, .inl (G.2 0, 482, .inl f_186)), (b24, .inl (G.2 0, 2, .inl f_187)), (b25, .inl (G.2 0, 482, .inl f_188)), (b26, .inl (G.2 0, 482, .inl f_189)), (b27, .inl (G.2 0, 482, .inl y_269)), (b0, .inr (12, [.int b3, .ref b4, .ref b5, .ref b6, .ref b7, .int b8, .ref b9, .int b10, .int b11, .int b12, .int b13, .ref b14, .ref b15, .ref b16, .int b17, .ref b18, .ref b19, .ref b20, .ref b21, .ref b22, .ref b23, .ref b24, .ref b25, .ref b26, .ref b27, .ref b28, .ref b29, .int y_268, .ref b31, .ref b32, .int b33, .int b34, .int b35, .int b36, .ref b37, .ref b38, .ref b39, .ref b40, .ref b41, .ref b42, .ref b43, .int b44, .ref b45, .ref b46, .int b47, .ref b48, .ref b49, .ref b50, .ref b51, .ref b52, .int b53, .ref b54, .ref b55, .ref b56])), (b4, .inl (G.2 0, 503, .inl b57))] H := hP
        have hD := z_tie hP hD rfl
        refine W.widen (k := 0) (n := 0) (Nat.le_of_ble_eq_true rfl) (Nat.le_of_ble_eq_true rfl) ?_
        refine lv_icmp_ge (tgt := 135) hx hb d_Model_lay2_63 (by decide) (fun hc_278 => ?_) (fun hc_278 => ?_)
        · have _nhc_278 := hc_278
          have ni_279 := (fa_le _ _).mp hc_278
          exact z_vret hx hb hr hlocks (hP.sub [12, 13, 3, 2, 4, 5, 6, 7, 8, 9, 10, 11, 0, 1] rfl) (hD.sub [12, 13, 3, 2, 4, 5, 6, 7, 8, 9, 10, 11, 0, 1] (by decide) rfl) hS (Nat.le_of_ble_eq_true rfl) (Nat.le_of_ble_eq_true rfl) d_Model_lay2_135 ⟨y_268, f_2, f_3, f_4, f_184, f_185, f_186, f_187, f_188, f_189, y_269, y_270, y_271, rfl, rfl, hy_268, hf_2, hf_3, hf_4, hf_185, hf_186, hf_187, hf_188, hy_270, hy_271⟩
        · have _nhc_278 := hc_278
          have ni_280 := (fa_lt _ _).mp (zi_nle hc_278)
          have hv_281 : zI y_267 0 19 := zI.lt_l hy_267 hx_276 (zi_nle hc_278) (by decide)
          have hv_282 : zI x_276 1 20 := zI.lt_r hy_267 hx_276 (zi_nle hc_278) (by decide)
          refine lv_iload hx hb d_Model_lay2_66 (lv_at hl 0 rfl) ?_
          refine lv_iload_n hx hb d_Model_lay2_68 rfl (lv_at hl 4 rfl) ?_
          refine lv_icmp_eq (tgt := 129) hx hb d_Model_lay2_69 (by decide) (fun hc_283 => ?_) (fun hc_283 => ?_)
          · have _nhc_283 := hc_283
            have ni_284 := (fa_eq _ _).mp hc_283
            have hv_285 : zI b2 0 19 := zI.eq_l hb2 hv_281 hc_283.symm
            obtain ⟨v_286, ev_286⟩ : ∃ z : Int32, z = y_267 + 1 := ⟨_, rfl⟩
            obtain ⟨qv_286, hv_286⟩ := zI_add (l := 1) (h := 20) hv_281 zc_1 ev_286 (by decide)
            rw [li_1] at qv_286
            refine lv_iinc (v := v_286) (lv' := [(4, .int v_286), (0, .ref b0), (1, .int 1), (2, .int b1), (3, .int b2)]) hx hb d_Model_lay2_129 hl (k := 0) rfl (by rw [ev_286]; rfl) (by decide) rfl (fun ls hl => ?_)
            refine lv_goto (tgt := 57) hx hb d_Model_lay2_132 (by decide) ?_
            exact ihk_266 (v_286) (y_268) (y_269) (y_270) (y_271) _ _ _ (zI.wk (l' := 0) (h' := 20) hv_286 (by decide)) hy_268 hy_270 hy_271 (by omega) trivial trivial (zm_up qv_286 hmk_266 (by decide)) (hP.sub [0, 1, 2, 12, 13, 3, 4, 5, 6, 7, 8, 9, 10, 11] rfl) (hD.sub [0, 1, 2, 12, 13, 3, 4, 5, 6, 7, 8, 9, 10, 11] (by decide) rfl) hS (lv_sub hl [0, 1, 2, 3, 4] rfl)
          · have _nhc_283 := hc_283
            have ni_287 : ¬ (y_267 : Int32).toInt = (b2 : Int32).toInt := fun z => hc_283 ((fa_eq _ _).mpr z)
            refine lv_iconst (v := 0) hx hb d_Model_lay2_72 (by decide) ?_
            refine lv_istore (lv' := [(5, .int 0), (4, .int y_267), (0, .ref b0), (1, .int 1), (2, .int b1), (3, .int b2)]) hx hb d_Model_lay2_73 hl (by decide) rfl (fun ls hl => ?_)
            suffices key : ∀ (k_316 : Nat) (y_317 : Int32) (y_318 : Int32) (y_319 : Nat → Int32) (y_320 : Nat → Int32) (H : Heap) (locs : List Loc) (ls : Array Slot), (zI y_317 0 12) → (zI y_318 0 1) → (zR y_319 0 240) → (zqa qE y_320) → ((y_319 (1 : Int32).toNatClampNeg).toInt ≤ 12 * (y_267 : Int32).toInt + (y_317 : Int32).toInt) → (True) → (True) → (12 : Int) - y_317.toInt < (k_316 : Int) → va_P G.1 classes [(b28, .inl (G.2 0, 2, .inl y_319)), (b29, .inl (G.2 0, 2880, .inl y_320)), (b19, .inl (G.2 0, 4820, .inl f_3)), (b18, .inl (G.2 0, 2, .inl f_2)), (b20, .inl (G.2 0, 520, .inl f_4)), (b21, .inl (G.2 0, 9640, .inl f_184)), (b22, .inl (G.2 0, 482, .inl f_185)), (b23, .inl (G.2 0, 482, .inl f_186)), (b24, .inl (G.2 0, 2, .inl f_187)), (b25, .inl (G.2 0, 482, .inl f_188)), (b26, .inl (G.2 0, 482, .inl f_189)), (b27, .inl (G.2 0, 482, .inl y_269)), (b0, .inr (12, [.int b3, .ref b4, .ref b5, .ref b6, .ref b7, .int b8, .ref b9, .int b10, .int b11, .int b12, .int b13, .ref b14, .ref b15, .ref b16, .int b17, .ref b18, .ref b19, .ref b20, .ref b21, .ref b22, .ref b23, .ref b24, .ref b25, .ref b26, .ref b27, .ref b28, .ref b29, .int y_318, .ref b31, .ref b32, .int b33, .int b34, .int b35, .int b36, .ref b37, .ref b38, .ref b39, .ref b40, .ref b41, .ref b42, .ref b43, .int b44, .ref b45, .ref b46, .int b47, .ref b48, .ref b49, .ref b50, .ref b51, .ref b52, .int b53, .ref b54, .ref b55, .ref b56])), (b4, .inl (G.2 0, 503, .inl b57))] H → va_D A [(b28, .inl (G.2 0, 2, .inl y_319)), (b29, .inl (G.2 0, 2880, .inl y_320)), (b19, .inl (G.2 0, 4820, .inl f_3)), (b18, .inl (G.2 0, 2, .inl f_2)), (b20, .inl (G.2 0, 520, .inl f_4)), (b21, .inl (G.2 0, 9640, .inl f_184)), (b22, .inl (G.2 0, 482, .inl f_185)), (b23, .inl (G.2 0, 482, .inl f_186)), (b24, .inl (G.2 0, 2, .inl f_187)), (b25, .inl (G.2 0, 482, .inl f_188)), (b26, .inl (G.2 0, 482, .inl f_189)), (b27, .inl (G.2 0, 482, .inl y_269)), (b0, .inr (12, [.int b3, .ref b4, .ref b5, .ref b6, .ref b7, .int b8, .ref b9, .int b10, .int b11, .int b12, .int b13, .ref b14, .ref b15, .ref b16, .int b17, .ref b18, .ref b19, .ref b20, .ref b21, .ref b22, .ref b23, .ref b24, .ref b25, .ref b26, .ref b27, .ref b28, .ref b29, .int y_318, .ref b31, .ref b32, .int b33, .int b34, .int b35, .int b36, .ref b37, .ref b38, .ref b39, .ref b40, .ref b41, .ref b42, .ref b43, .int b44, .ref b45, .ref b46, .int b47, .ref b48, .ref b49, .ref b50, .ref b51, .ref b52, .int b53, .ref b54, .ref b55, .ref b56])), (b4, .inl (G.2 0, 503, .inl b57))] → va_S A s.heap H locs → lv_has ls 6 [(5, .int y_317), (4, .int y_267), (0, .ref b0), (1, .int 1), (2, .int b1), (3, .int b2)] → W p l e m_s2_Model_lay2 s m ([.ref b0, .int 1, .int b1, .int b2] : List Value).toArray below meth c H locs 0 0 (MQ below (zQ G (fun v w => ∃ (e0 : Int32), ∃ (e1 : Nat → Int32), ∃ (e2 : Nat → Int32), ∃ (e3 : Nat → Int32), ∃ (e4 : Nat → Int32), ∃ (e5 : Nat → Int32), ∃ (e6 : Nat → Int32), ∃ (e7 : Nat → Int32), ∃ (e8 : Nat → Int32), ∃ (e9 : Nat → Int32), ∃ (e10 : Nat → Int32), ∃ (e11 : Nat → Int32), ∃ (e12 : Nat → Int32), v = none ∧ w = [(b0, .inr (12, [.int b3, .ref b4, .ref b5, .ref b6, .ref b7, .int b8, .ref b9, .int b10, .int b11, .int b12, .int b13, .ref b14, .ref b15, .ref b16, .int b17, .ref b18, .ref b19, .ref b20, .ref b21, .ref b22, .ref b23, .ref b24, .ref b25, .ref b26, .ref b27, .ref b28, .ref b29, .int e0, .ref b31, .ref b32, .int b33, .int b34, .int b35, .int b36, .ref b37, .ref b38, .ref b39, .ref b40, .ref b41, .ref b42, .ref b43, .int b44, .ref b45, .ref b46, .int b47, .ref b48, .ref b49, .ref b50, .ref b51, .ref b52, .int b53, .ref b54, .ref b55, .ref b56])), (b4, .inl (G.2 0, 503, .inl b57)), (b18, .inl (G.2 0, 2, .inl e1)), (b19, .inl (G.2 0, 4820, .inl e2)), (b20, .inl (G.2 0, 520, .inl e3)), (b21, .inl (G.2 0, 9640, .inl e4)), (b22, .inl (G.2 0, 482, .inl e5)), (b23, .inl (G.2 0, 482, .inl e6)), (b24, .inl (G.2 0, 2, .inl e7)), (b25, .inl (G.2 0, 482, .inl e8)), (b26, .inl (G.2 0, 482, .inl e9)), (b27, .inl (G.2 0, 482, .inl e10)), (b28, .inl (G.2 0, 2, .inl e11)), (b29, .inl (G.2 0, 2880, .inl e12))] ∧ (zI e0 0 1) ∧ (zR e1 0 241) ∧ (zR e2 (-1) 240) ∧ (zqa qP e3) ∧ (zqa qC e5) ∧ (zR e6 0 240) ∧ (zR e7 0 241) ∧ (zR e8 0 240) ∧ (zR e11 0 240) ∧ (zqa qE e12)) A) ([.ref b0, .int 1, .int b1, .int b2] : List Value).toArray s m_s2_Model_lay2.cells m_s2_Model_lay2.slots A) (F0 m 75 ls []) by
              exact key 13 (0) (y_268) (y_270) (y_271) _ _ _ (zI.wk (l' := 0) (h' := 12) zc_0 (by decide)) hy_268 hy_270 hy_271 (by have _l0 := li_0; omega) trivial trivial (zm_upi (zI.wk (l' := 0) (h' := 12) zc_0 (by decide)) (by decide)) hP hD hS (lv_sub hl [0, 1, 2, 3, 4, 5] rfl)
            intro k_316
            induction k_316 with
            | zero =>
              intro y_317 y_318 y_319 y_320 H locs ls hy_317 hy_318 hy_319 hy_320 hli_321 hli_322 hli_323 hmk_316 hP hD hS hl
              exact (zm_up0 hy_317 hmk_316).elim
            | succ k_316 ihk_316 =>
              intro y_317 y_318 y_319 y_320 H locs ls hy_317 hy_318 hy_319 hy_320 hli_321 hli_322 hli_323 hmk_316 hP hD hS hl
              refine lv_iload hx hb d_Model_lay2_75 (lv_at hl 0 rfl) ?_
              refine lv_aload_n hx hb d_Model_lay2_77 rfl (lv_at hl 2 rfl) ?_
              refine lv_iload hx hb d_Model_lay2_78 (lv_at hl 1 rfl) ?_
              refine z_callV (index := 203) (As := [.int y_267]) (rest := [.int y_317]) (wr := [(b28, .inl (G.2 0, 2, .inl y_319)), (b29, .inl (G.2 0, 2880, .inl y_320)), (b19, .inl (G.2 0, 4820, .inl f_3)), (b18, .inl (G.2 0, 2, .inl f_2)), (b20, .inl (G.2 0, 520, .inl f_4)), (b21, .inl (G.2 0, 9640, .inl f_184)), (b22, .inl (G.2 0, 482, .inl f_185)), (b23, .inl (G.2 0, 482, .inl f_186)), (b24, .inl (G.2 0, 2, .inl f_187)), (b25, .inl (G.2 0, 482, .inl f_188)), (b26, .inl (G.2 0, 482, .inl f_189)), (b27, .inl (G.2 0, 482, .inl y_269))]) Z (s1_Model_calls l G (b0) (y_267) (b3) (b4) (b5) (b6) (b7) (b8) (b9) (b10) (b11) (b12) (b13) (b14) (b15) (b16) (b17) (b18) (b19) (b20) (b21) (b22) (b23) (b24) (b25) (b26) (b27) (b28) (b29) (y_318) (b31) (b32) (b33) (b34) (b35) (b36) (b37) (b38) (b39) (b40) (b41) (b42) (b43) (b44) (b45) (b46) (b47) (b48) (b49) (b50) (b51) (b52) (b53) (b54) (b55) (b56) (b57) hv_281 hb8 hb10 hb11 hb13 hb17 hy_318 hb33 hb44 hb47 hb53 hb57) hl.1 q1352 q1354 qs54 q14 q1355 ⟨by decide, by decide, by show _ = some 1; decide +kernel⟩ ⟨Nat.le_of_ble_eq_true rfl, Nat.le_of_ble_eq_true rfl⟩ ⟨Nat.le_of_ble_eq_true rfl, Nat.le_of_ble_eq_true rfl⟩ rfl (Nat.le_of_ble_eq_true rfl) d_Model_lay2_80 hP hD hS hA 12 12 rfl rfl rfl [12, 13] [0, 1, 2, 3, 4, 5, 6, 7, 8, 9, 10, 11] rfl rfl rfl rfl (by decide) (fun v w1 H locs hw_324 hP hD hS => ?_)
              obtain ⟨x_325, rfl, rfl, hx_325, hfx_326⟩ := hw_324
              have hP : va_P G.1 classes [(b28, .inl (G.2 0, 2, .inl y_319)), (b29, .inl (G.2 0, 2880, .inl y_320)), (b19, .inl (G.2 0, 4820, .inl f_3)), (b18, .inl (G.2 0, 2, .inl f_2)), (b20, .inl (G.2 0, 520, .inl f_4)), (b21, .inl (G.2 0, 9640, .inl f_184)), (b22, .inl (G.2 0, 482, .inl f_185)), (b23, .inl (G.2 0, 482, .inl f_186)), (b24, .inl (G.2 0, 2, .inl f_187)), (b25, .inl (G.2 0, 482, .inl f_188)), (b26, .inl (G.2 0, 482, .inl f_189)), (b27, .inl (G.2 0, 482, .inl y_269)), (b0, .inr (12, [.int b3, .ref b4, .ref b5, .ref b6, .ref b7, .int b8, .ref b9, .int b10, .int b11, .int b12, .int b13, .ref b14, .ref b15, .ref b16, .int b17, .ref b18, .ref b19, .ref b20, .ref b21, .ref b22, .ref b23, .ref b24, .ref b25, .ref b26, .ref b27, .ref b28, .ref b29, .int y_318, .ref b31, .ref b32, .int b33, .int b34, .int b35, .int b36, .ref b37, .ref b38, .ref b39, .ref b40, .ref b41, .ref b42, .ref b43, .int b44, .ref b45, .ref b46, .int b47, .ref b48, .ref b49, .ref b50, .ref b51, .ref b52, .int b53, .ref b54, .ref b55, .ref b56])), (b4, .inl (G.2 0, 503, .inl b57))] H := hP
              have hD := z_tie hP hD rfl
              refine W.widen (k := 0) (n := 0) (Nat.le_of_ble_eq_true rfl) (Nat.le_of_ble_eq_true rfl) ?_
              refine lv_icmp_ge (tgt := 101) hx hb d_Model_lay2_83 (by decide) (fun hc_327 => ?_) (fun hc_327 => ?_)
              · have _nhc_327 := hc_327
                have ni_328 := (fa_le _ _).mp hc_327
                refine lv_aload_n hx hb d_Model_lay2_101 rfl (lv_at hl 2 rfl) ?_
                refine va_get (D := G.1) (ci := 12) (v := .ref b27) (C := R_Model) (T := F_Model) (N := 54) hx hb hts i_Model hown hK hP 12 rfl rfl 24 (by decide) (hts _ q1133) (fun _ h9 => h9) rfl d_Model_lay2_102 ?_
                refine lv_sipush (v := 241) hx hb d_Model_lay2_105 (by decide) ?_
                refine lv_iload_n hx hb d_Model_lay2_108 rfl (lv_at hl 3 rfl) ?_
                refine lv_imul hx hb d_Model_lay2_109 ?_
                refine z_topi (y := 241) (by decide +kernel) ?_
                refine lv_aload_n hx hb d_Model_lay2_110 rfl (lv_at hl 2 rfl) ?_
                refine lv_iload_n hx hb d_Model_lay2_111 rfl (lv_at hl 3 rfl) ?_
                refine lv_iload hx hb d_Model_lay2_112 (lv_at hl 1 rfl) ?_
                refine lv_aload_n hx hb d_Model_lay2_114 rfl (lv_at hl 2 rfl) ?_
                refine lv_iload hx hb d_Model_lay2_115 (lv_at hl 1 rfl) ?_
                refine z_callV (index := 203) (As := [.int y_267]) (rest := [.int y_267, .int 1, .ref b0, .int 241, .ref b27]) (wr := [(b28, .inl (G.2 0, 2, .inl y_319)), (b29, .inl (G.2 0, 2880, .inl y_320)), (b19, .inl (G.2 0, 4820, .inl f_3)), (b18, .inl (G.2 0, 2, .inl f_2)), (b20, .inl (G.2 0, 520, .inl f_4)), (b21, .inl (G.2 0, 9640, .inl f_184)), (b22, .inl (G.2 0, 482, .inl f_185)), (b23, .inl (G.2 0, 482, .inl f_186)), (b24, .inl (G.2 0, 2, .inl f_187)), (b25, .inl (G.2 0, 482, .inl f_188)), (b26, .inl (G.2 0, 482, .inl f_189)), (b27, .inl (G.2 0, 482, .inl y_269))]) Z (s1_Model_calls l G (b0) (y_267) (b3) (b4) (b5) (b6) (b7) (b8) (b9) (b10) (b11) (b12) (b13) (b14) (b15) (b16) (b17) (b18) (b19) (b20) (b21) (b22) (b23) (b24) (b25) (b26) (b27) (b28) (b29) (y_318) (b31) (b32) (b33) (b34) (b35) (b36) (b37) (b38) (b39) (b40) (b41) (b42) (b43) (b44) (b45) (b46) (b47) (b48) (b49) (b50) (b51) (b52) (b53) (b54) (b55) (b56) (b57) hv_281 hb8 hb10 hb11 hb13 hb17 hy_318 hb33 hb44 hb47 hb53 hb57) hl.1 q1352 q1354 qs54 q14 q1355 ⟨by decide, by decide, by show _ = some 1; decide +kernel⟩ ⟨Nat.le_of_ble_eq_true rfl, Nat.le_of_ble_eq_true rfl⟩ ⟨Nat.le_of_ble_eq_true rfl, Nat.le_of_ble_eq_true rfl⟩ rfl (Nat.le_of_ble_eq_true rfl) d_Model_lay2_117 hP hD hS hA 12 12 rfl rfl rfl [12, 13] [0, 1, 2, 3, 4, 5, 6, 7, 8, 9, 10, 11] rfl rfl rfl rfl (by decide) (fun v w1 H locs hw_329 hP hD hS => ?_)
                obtain ⟨x_330, rfl, rfl, hx_330, hfx_331⟩ := hw_329
                have hP : va_P G.1 classes [(b28, .inl (G.2 0, 2, .inl y_319)), (b29, .inl (G.2 0, 2880, .inl y_320)), (b19, .inl (G.2 0, 4820, .inl f_3)), (b18, .inl (G.2 0, 2, .inl f_2)), (b20, .inl (G.2 0, 520, .inl f_4)), (b21, .inl (G.2 0, 9640, .inl f_184)), (b22, .inl (G.2 0, 482, .inl f_185)), (b23, .inl (G.2 0, 482, .inl f_186)), (b24, .inl (G.2 0, 2, .inl f_187)), (b25, .inl (G.2 0, 482, .inl f_188)), (b26, .inl (G.2 0, 482, .inl f_189)), (b27, .inl (G.2 0, 482, .inl y_269)), (b0, .inr (12, [.int b3, .ref b4, .ref b5, .ref b6, .ref b7, .int b8, .ref b9, .int b10, .int b11, .int b12, .int b13, .ref b14, .ref b15, .ref b16, .int b17, .ref b18, .ref b19, .ref b20, .ref b21, .ref b22, .ref b23, .ref b24, .ref b25, .ref b26, .ref b27, .ref b28, .ref b29, .int y_318, .ref b31, .ref b32, .int b33, .int b34, .int b35, .int b36, .ref b37, .ref b38, .ref b39, .ref b40, .ref b41, .ref b42, .ref b43, .int b44, .ref b45, .ref b46, .int b47, .ref b48, .ref b49, .ref b50, .ref b51, .ref b52, .int b53, .ref b54, .ref b55, .ref b56])), (b4, .inl (G.2 0, 503, .inl b57))] H := hP
                have hD := z_tie hP hD rfl
                refine W.widen (k := 0) (n := 0) (Nat.le_of_ble_eq_true rfl) (Nat.le_of_ble_eq_true rfl) ?_
                refine z_callV (index := 231) (As := [.int 1, .int y_267, .int x_330]) (rest := [.int 241, .ref b27]) (wr := [(b28, .inl (G.2 0, 2, .inl y_319)), (b29, .inl (G.2 0, 2880, .inl y_320)), (b19, .inl (G.2 0, 4820, .inl f_3)), (b18, .inl (G.2 0, 2, .inl f_2)), (b21, .inl (G.2 0, 9640, .inl f_184)), (b22, .inl (G.2 0, 482, .inl f_185)), (b24, .inl (G.2 0, 2, .inl f_187)), (b25, .inl (G.2 0, 482, .inl f_188)), (b26, .inl (G.2 0, 482, .inl f_189)), (b27, .inl (G.2 0, 482, .inl y_269)), (b4, .inl (G.2 0, 503, .inl b57))]) Z (s2_Model_stateAt l G (b0) (y_267) (x_330) (b3) (b4) (b5) (b6) (b7) (b8) (b9) (b10) (b11) (b12) (b13) (b14) (b15) (b16) (b17) (b18) (b19) (b20) (b21) (b22) (b23) (b24) (b25) (b26) (b27) (b28) (b29) (y_318) (b31) (b32) (b33) (b34) (b35) (b36) (b37) (b38) (b39) (b40) (b41) (b42) (b43) (b44) (b45) (b46) (b47) (b48) (b49) (b50) (b51) (b52) (b53) (b54) (b55) (b56) (f_4) (f_186) hv_281 hx_330 hb8 hb10 hb11 hb13 hb17 hy_318 hb33 hb44 hb47 hb53 hf_4 hf_186) hl.1 q1400 q1402 qs66 q14 q1403 ⟨by decide, by decide, by show _ = some 3; decide +kernel⟩ ⟨Nat.le_of_ble_eq_true rfl, Nat.le_of_ble_eq_true rfl⟩ ⟨Nat.le_of_ble_eq_true rfl, Nat.le_of_ble_eq_true rfl⟩ rfl (Nat.le_of_ble_eq_true rfl) d_Model_lay2_120 hP hD hS hA 12 12 rfl rfl rfl [12, 4, 7] [0, 1, 2, 3, 5, 6, 8, 9, 10, 11, 13] rfl rfl rfl rfl (by decide) (fun v w1 H locs hw_332 hP hD hS => ?_)
                obtain ⟨x_333, rfl, rfl, hx_333⟩ := hw_332
                have hP : va_P G.1 classes [(b28, .inl (G.2 0, 2, .inl y_319)), (b29, .inl (G.2 0, 2880, .inl y_320)), (b19, .inl (G.2 0, 4820, .inl f_3)), (b18, .inl (G.2 0, 2, .inl f_2)), (b21, .inl (G.2 0, 9640, .inl f_184)), (b22, .inl (G.2 0, 482, .inl f_185)), (b24, .inl (G.2 0, 2, .inl f_187)), (b25, .inl (G.2 0, 482, .inl f_188)), (b26, .inl (G.2 0, 482, .inl f_189)), (b27, .inl (G.2 0, 482, .inl y_269)), (b4, .inl (G.2 0, 503, .inl b57)), (b0, .inr (12, [.int b3, .ref b4, .ref b5, .ref b6, .ref b7, .int b8, .ref b9, .int b10, .int b11, .int b12, .int b13, .ref b14, .ref b15, .ref b16, .int b17, .ref b18, .ref b19, .ref b20, .ref b21, .ref b22, .ref b23, .ref b24, .ref b25, .ref b26, .ref b27, .ref b28, .ref b29, .int y_318, .ref b31, .ref b32, .int b33, .int b34, .int b35, .int b36, .ref b37, .ref b38, .ref b39, .ref b40, .ref b41, .ref b42, .ref b43, .int b44, .ref b45, .ref b46, .int b47, .ref b48, .ref b49, .ref b50, .ref b51, .ref b52, .int b53, .ref b54, .ref b55, .ref b56])), (b20, .inl (G.2 0, 520, .inl f_4)), (b23, .inl (G.2 0, 482, .inl f_186))] H := hP
                have hD := z_tie hP hD rfl
                refine W.widen (k := 0) (n := 0) (Nat.le_of_ble_eq_true rfl) (Nat.le_of_ble_eq_true rfl) ?_
                refine lv_iadd hx hb d_Model_lay2_123 ?_
                refine lv_topi (fun v_334 ev_334 => ?_)
                obtain ⟨qv_334, hv_334⟩ := zI_add (l := 241) (h := 481) zc_241 hx_333 ev_334 (by decide)
                rw [li_241] at qv_334
                refine lv_dup2_11 hx hb d_Model_lay2_124 rfl rfl ?_
                refine va_iald hx hb hK hP 9 0 rfl rfl (zI.inn hv_334 (by decide)) d_Model_lay2_125 ?_
                refine lv_topi (fun v_335 ev_335 => ?_)
                refine lv_iconst (v := 1) hx hb d_Model_lay2_126 (by decide) ?_
                refine lv_iadd hx hb d_Model_lay2_127 ?_
                refine lv_topi (fun v_336 ev_336 => ?_)
                refine va_iast hx hb hK hP hD hS 9 0 rfl rfl (zI.inn hv_334 (by decide)) d_Model_lay2_128 (fun H locs hP hD hS => ?_)
                obtain ⟨f_337, gf_337, uf_337, hP, hD⟩ := z_newFu 9 hP hD rfl
                have hP : va_P G.1 classes [(b28, .inl (G.2 0, 2, .inl y_319)), (b29, .inl (G.2 0, 2880, .inl y_320)), (b19, .inl (G.2 0, 4820, .inl f_3)), (b18, .inl (G.2 0, 2, .inl f_2)), (b21, .inl (G.2 0, 9640, .inl f_184)), (b22, .inl (G.2 0, 482, .inl f_185)), (b24, .inl (G.2 0, 2, .inl f_187)), (b25, .inl (G.2 0, 482, .inl f_188)), (b26, .inl (G.2 0, 482, .inl f_189)), (b27, .inl (G.2 0, 482, .inl f_337)), (b4, .inl (G.2 0, 503, .inl b57)), (b0, .inr (12, [.int b3, .ref b4, .ref b5, .ref b6, .ref b7, .int b8, .ref b9, .int b10, .int b11, .int b12, .int b13, .ref b14, .ref b15, .ref b16, .int b17, .ref b18, .ref b19, .ref b20, .ref b21, .ref b22, .ref b23, .ref b24, .ref b25, .ref b26, .ref b27, .ref b28, .ref b29, .int y_318, .ref b31, .ref b32, .int b33, .int b34, .int b35, .int b36, .ref b37, .ref b38, .ref b39, .ref b40, .ref b41, .ref b42, .ref b43, .int b44, .ref b45, .ref b46, .int b47, .ref b48, .ref b49, .ref b50, .ref b51, .ref b52, .int b53, .ref b54, .ref b55, .ref b56])), (b20, .inl (G.2 0, 520, .inl f_4)), (b23, .inl (G.2 0, 482, .inl f_186))] H := hP
                have hD := z_tie hP hD rfl
                obtain ⟨v_338, ev_338⟩ : ∃ z : Int32, z = y_267 + 1 := ⟨_, rfl⟩
                obtain ⟨qv_338, hv_338⟩ := zI_add (l := 1) (h := 20) hv_281 zc_1 ev_338 (by decide)
                rw [li_1] at qv_338
                refine lv_iinc (v := v_338) (lv' := [(4, .int v_338), (5, .int y_317), (0, .ref b0), (1, .int 1), (2, .int b1), (3, .int b2)]) hx hb d_Model_lay2_129 hl (k := 1) rfl (by rw [ev_338]; rfl) (by decide) rfl (fun ls hl => ?_)
                refine lv_goto (tgt := 57) hx hb d_Model_lay2_132 (by decide) ?_
                exact ihk_266 (v_338) (y_318) (f_337) (y_319) (y_320) _ _ _ (zI.wk (l' := 0) (h' := 20) hv_338 (by decide)) hy_318 hy_319 hy_320 (by omega) trivial trivial (zm_up qv_338 hmk_266 (by decide)) (hP.sub [0, 1, 2, 11, 10, 3, 12, 4, 5, 13, 6, 7, 8, 9] rfl) (hD.sub [0, 1, 2, 11, 10, 3, 12, 4, 5, 13, 6, 7, 8, 9] (by decide) rfl) hS (lv_sub hl [0, 2, 3, 4, 5] rfl)
              · have _nhc_327 := hc_327
                have ni_339 := (fa_lt _ _).mp (zi_nle hc_327)
                have hv_340 : zI y_317 0 11 := zI.lt_l hy_317 hx_325 (zi_nle hc_327) (by decide)
                have hv_341 : zI x_325 1 12 := zI.lt_r hy_317 hx_325 (zi_nle hc_327) (by decide)
                refine lv_aload_n hx hb d_Model_lay2_86 rfl (lv_at hl 2 rfl) ?_
                refine lv_iload_n hx hb d_Model_lay2_87 rfl (lv_at hl 3 rfl) ?_
                refine lv_iload hx hb d_Model_lay2_88 (lv_at hl 1 rfl) ?_
                refine lv_iload hx hb d_Model_lay2_90 (lv_at hl 0 rfl) ?_
                refine z_callV (index := 248) (As := [.int 1, .int y_267, .int y_317]) (rest := []) (wr := [(b19, .inl (G.2 0, 4820, .inl f_3)), (b18, .inl (G.2 0, 2, .inl f_2)), (b21, .inl (G.2 0, 9640, .inl f_184)), (b22, .inl (G.2 0, 482, .inl f_185)), (b24, .inl (G.2 0, 2, .inl f_187)), (b25, .inl (G.2 0, 482, .inl f_188)), (b26, .inl (G.2 0, 482, .inl f_189)), (b27, .inl (G.2 0, 482, .inl y_269))]) Z (s2_Model_addEdge l G (b0) (y_267) (y_317) (b3) (b4) (b5) (b6) (b7) (b8) (b9) (b10) (b11) (b12) (b13) (b14) (b15) (b16) (b17) (b18) (b19) (b20) (b21) (b22) (b23) (b24) (b25) (b26) (b27) (b28) (b29) (y_318) (b31) (b32) (b33) (b34) (b35) (b36) (b37) (b38) (b39) (b40) (b41) (b42) (b43) (b44) (b45) (b46) (b47) (b48) (b49) (b50) (b51) (b52) (b53) (b54) (b55) (b56) (b57) (f_4) (f_186) (y_319) (y_320) hv_281 hv_340 hb8 hb10 hb11 hb13 hb17 hy_318 hb33 hb44 hb47 hb53 hb57 hf_4 hf_186 hy_319 hy_320 (by omega)) hl.1 q1396 q1398 qs65 q14 q1399 ⟨by decide, by decide, by show _ = some 3; decide +kernel⟩ ⟨Nat.le_of_ble_eq_true rfl, Nat.le_of_ble_eq_true rfl⟩ ⟨Nat.le_of_ble_eq_true rfl, Nat.le_of_ble_eq_true rfl⟩ rfl (Nat.le_of_ble_eq_true rfl) d_Model_lay2_92 hP hD hS hA 12 12 rfl rfl rfl [12, 13, 4, 7, 0, 1] [2, 3, 5, 6, 8, 9, 10, 11] rfl rfl rfl rfl (by decide) (fun v w1 H locs hw_342 hP hD hS => ?_)
                obtain ⟨x_343, f_344, f_345, rfl, rfl, hx_343, hf_344, hf_345, hfx_346⟩ := hw_342
                have hP : va_P G.1 classes [(b19, .inl (G.2 0, 4820, .inl f_3)), (b18, .inl (G.2 0, 2, .inl f_2)), (b21, .inl (G.2 0, 9640, .inl f_184)), (b22, .inl (G.2 0, 482, .inl f_185)), (b24, .inl (G.2 0, 2, .inl f_187)), (b25, .inl (G.2 0, 482, .inl f_188)), (b26, .inl (G.2 0, 482, .inl f_189)), (b27, .inl (G.2 0, 482, .inl y_269)), (b0, .inr (12, [.int b3, .ref b4, .ref b5, .ref b6, .ref b7, .int b8, .ref b9, .int b10, .int b11, .int b12, .int b13, .ref b14, .ref b15, .ref b16, .int b17, .ref b18, .ref b19, .ref b20, .ref b21, .ref b22, .ref b23, .ref b24, .ref b25, .ref b26, .ref b27, .ref b28, .ref b29, .int x_343, .ref b31, .ref b32, .int b33, .int b34, .int b35, .int b36, .ref b37, .ref b38, .ref b39, .ref b40, .ref b41, .ref b42, .ref b43, .int b44, .ref b45, .ref b46, .int b47, .ref b48, .ref b49, .ref b50, .ref b51, .ref b52, .int b53, .ref b54, .ref b55, .ref b56])), (b4, .inl (G.2 0, 503, .inl b57)), (b20, .inl (G.2 0, 520, .inl f_4)), (b23, .inl (G.2 0, 482, .inl f_186)), (b28, .inl (G.2 0, 2, .inl f_344)), (b29, .inl (G.2 0, 2880, .inl f_345))] H := hP
                have hD := z_tie hP hD rfl
                refine W.widen (k := 0) (n := 0) (Nat.le_of_ble_eq_true rfl) (Nat.le_of_ble_eq_true rfl) ?_
                obtain ⟨v_347, ev_347⟩ : ∃ z : Int32, z = y_317 + 1 := ⟨_, rfl⟩
                obtain ⟨qv_347, hv_347⟩ := zI_add (l := 1) (h := 12) hv_340 zc_1 ev_347 (by decide)
                rw [li_1] at qv_347
                refine lv_iinc (v := v_347) (lv' := [(5, .int v_347), (4, .int y_267), (0, .ref b0), (1, .int 1), (2, .int b1), (3, .int b2)]) hx hb d_Model_lay2_95 hl (k := 0) rfl (by rw [ev_347]; rfl) (by decide) rfl (fun ls hl => ?_)
                refine lv_goto (tgt := 75) hx hb d_Model_lay2_98 (by decide) ?_
                exact ihk_316 (v_347) (x_343) (f_344) (f_345) _ _ _ (zI.wk (l' := 0) (h' := 12) hv_347 (by decide)) hx_343 hf_344 hf_345 (by omega) trivial trivial (zm_up qv_347 hmk_316 (by decide)) (hP.sub [12, 13, 0, 1, 10, 2, 3, 11, 4, 5, 6, 7, 8, 9] rfl) (hD.sub [12, 13, 0, 1, 10, 2, 3, 11, 4, 5, 6, 7, 8, 9] (by decide) rfl) hS (lv_sub hl [0, 1, 2, 3, 4, 5] rfl)
    · have _nhc_181 := hc_181
      have ni_348 := (fa_lt _ _).mp (zi_nle hc_181)
      have hv_349 : zI y_177 0 240 := zI.lt_l hy_177 hv_180 (zi_nle hc_181) (by decide)
      have hv_350 : zI v_180 1 241 := zI.lt_r hy_177 hv_180 (zi_nle hc_181) (by decide)
      refine lv_aload_n hx hb d_Model_lay2_20 rfl (lv_at hl 1 rfl) ?_
      refine va_get (D := G.1) (ci := 12) (v := .ref b22) (C := R_Model) (T := F_Model) (N := 54) hx hb hts i_Model hown hK hP 8 rfl rfl 19 (by decide) (hts _ q1128) (fun _ h9 => h9) rfl d_Model_lay2_21 ?_
      refine lv_sipush (v := 241) hx hb d_Model_lay2_24 (by decide) ?_
      refine lv_iload_n hx hb d_Model_lay2_27 rfl (lv_at hl 2 rfl) ?_
      refine lv_imul hx hb d_Model_lay2_28 ?_
      refine z_topi (y := 241) (by decide +kernel) ?_
      refine lv_iload hx hb d_Model_lay2_29 (lv_at hl 0 rfl) ?_
      refine lv_iadd hx hb d_Model_lay2_31 ?_
      refine lv_topi (fun v_351 ev_351 => ?_)
      obtain ⟨qv_351, hv_351⟩ := zI_add (l := 241) (h := 481) zc_241 hv_349 ev_351 (by decide)
      rw [li_241] at qv_351
      refine lv_iconst (v := 0) hx hb d_Model_lay2_32 (by decide) ?_
      refine va_iast hx hb hK hP hD hS 13 0 rfl rfl (zI.inn hv_351 (by decide)) d_Model_lay2_33 (fun H locs hP hD hS => ?_)
      obtain ⟨f_352, hf_352, gf_352, uf_352, hP, hD⟩ := z_newq_ (Q := qC) 13 hP hD rfl hy_178 (qC_v hv_351 (by decide) ⟨⟨by have _w := li_0; have _x := hv_351; omega, by have _w := li_0; have _x := hv_351; omega⟩, by have _w := li_0; have _x := hv_351; omega⟩)
      have hP : va_P G.1 classes [(b21, .inl (G.2 0, 9640, .inl b61)), (b23, .inl (G.2 0, 482, .inl b63)), (b24, .inl (G.2 0, 2, .inl b64)), (b25, .inl (G.2 0, 482, .inl b65)), (b26, .inl (G.2 0, 482, .inl b66)), (b27, .inl (G.2 0, 482, .inl b67)), (b28, .inl (G.2 0, 2, .inl b68)), (b29, .inl (G.2 0, 2880, .inl b69)), (b0, .inr (12, [.int b3, .ref b4, .ref b5, .ref b6, .ref b7, .int b8, .ref b9, .int b10, .int b11, .int b12, .int b13, .ref b14, .ref b15, .ref b16, .int b17, .ref b18, .ref b19, .ref b20, .ref b21, .ref b22, .ref b23, .ref b24, .ref b25, .ref b26, .ref b27, .ref b28, .ref b29, .int b30, .ref b31, .ref b32, .int b33, .int b34, .int b35, .int b36, .ref b37, .ref b38, .ref b39, .ref b40, .ref b41, .ref b42, .ref b43, .int b44, .ref b45, .ref b46, .int b47, .ref b48, .ref b49, .ref b50, .ref b51, .ref b52, .int b53, .ref b54, .ref b55, .ref b56])), (b4, .inl (G.2 0, 503, .inl b57)), (b18, .inl (G.2 0, 2, .inl f_2)), (b19, .inl (G.2 0, 4820, .inl f_3)), (b20, .inl (G.2 0, 520, .inl f_4)), (b22, .inl (G.2 0, 482, .inl f_352))] H := hP
      have hD := z_tie hP hD rfl
      obtain ⟨v_353, ev_353⟩ : ∃ z : Int32, z = y_177 + 1 := ⟨_, rfl⟩
      obtain ⟨qv_353, hv_353⟩ := zI_add (l := 1) (h := 241) hv_349 zc_1 ev_353 (by decide)
      rw [li_1] at qv_353
      refine lv_iinc (v := v_353) (lv' := [(4, .int v_353), (0, .ref b0), (1, .int 1), (2, .int b1), (3, .int b2)]) hx hb d_Model_lay2_34 hl (k := 0) rfl (by rw [ev_353]; rfl) (by decide) rfl (fun ls hl => ?_)
      refine lv_goto (tgt := 9) hx hb d_Model_lay2_37 (by decide) ?_
      exact ihk_176 (v_353) (f_352) _ _ _ (zI.wk (l' := 0) (h' := 241) hv_353 (by decide)) hf_352 (by have _l0 := li_0; have p9 := z_pl hv_351 (by decide); intro q hq; rw [uf_352, z_at]; split; omega; exact hli_179 q (by omega)) (zm_up qv_353 hmk_176 (by decide)) hP hD hS (lv_sub hl [0, 1, 2, 3, 4] rfl)
theorem d_Model_lay1_0 : decode prog_14_method_36_code 0 = .ok (.aload_n 0, 1) := by decide +kernel
theorem d_Model_lay1_1 : decode prog_14_method_36_code 1 = .ok (.iconst 0, 1) := by decide +kernel
theorem d_Model_lay1_2 : decode prog_14_method_36_code 2 = .ok (.aload_n 0, 1) := by decide +kernel
theorem d_Model_lay1_3 : decode prog_14_method_36_code 3 = .ok (.getfield 13, 3) := by decide +kernel
theorem d_Model_lay1_6 : decode prog_14_method_36_code 6 = .ok (.sipush 501, 3) := by decide +kernel
theorem d_Model_lay1_9 : decode prog_14_method_36_code 9 = .ok (.iaload, 1) := by decide +kernel
theorem d_Model_lay1_10 : decode prog_14_method_36_code 10 = .ok (.iconst (-1), 1) := by decide +kernel
theorem d_Model_lay1_11 : decode prog_14_method_36_code 11 = .ok (.invokevirtual 251, 3) := by decide +kernel
theorem d_Model_lay1_14 : decode prog_14_method_36_code 14 = .ok (.return_, 1) := by decide +kernel
abbrev m_s1_Model_lay1 : Room := { frames := 4, cells := 0, slots := 0, locals := 104 }
set_option maxHeartbeats 4000000 in
set_option maxRecDepth 100000 in
theorem s1_Model_lay1 (l : Launch) (G : zG) (b0 : Nat) (b1 : Int32) (b2 : Nat) (b3 : Nat) (b4 : Nat) (b5 : Nat) (b6 : Int32) (b7 : Nat) (b8 : Int32) (b9 : Int32) (b10 : Int32) (b11 : Int32) (b12 : Nat) (b13 : Nat) (b14 : Nat) (b15 : Int32) (b16 : Nat) (b17 : Nat) (b18 : Nat) (b19 : Nat) (b20 : Nat) (b21 : Nat) (b22 : Nat) (b23 : Nat) (b24 : Nat) (b25 : Nat) (b26 : Nat) (b27 : Nat) (b28 : Int32) (b29 : Nat) (b30 : Nat) (b31 : Int32) (b32 : Int32) (b33 : Int32) (b34 : Int32) (b35 : Nat) (b36 : Nat) (b37 : Nat) (b38 : Nat) (b39 : Nat) (b40 : Nat) (b41 : Nat) (b42 : Int32) (b43 : Nat) (b44 : Nat) (b45 : Int32) (b46 : Nat) (b47 : Nat) (b48 : Nat) (b49 : Nat) (b50 : Nat) (b51 : Int32) (b52 : Nat) (b53 : Nat) (b54 : Nat) (b55 : Nat → Int32) (b56 : Nat → Int32) (b57 : Nat → Int32) (b58 : Nat → Int32) (b59 : Nat → Int32) (b60 : Nat → Int32) (b61 : Nat → Int32) (b62 : Nat → Int32) (b63 : Nat → Int32) (b64 : Nat → Int32) (b65 : Nat → Int32) (b66 : Nat → Int32) (b67 : Nat → Int32) (hb6 : zI b6 0 8) (hb8 : zI b8 0 240) (hb9 : zI b9 0 240) (hb11 : zI b11 0 1) (hb15 : zI b15 0 12) (hb28 : zI b28 0 1) (hb31 : zI b31 0 1) (hb42 : zI b42 0 1000) (hb45 : zI b45 0 1000) (hb51 : zI b51 0 400) (hb55 : zW5 b55) (hb56 : zR b56 0 241) (hb57 : zR b57 (-1) 240) (hb58 : zqa qP b58) (hb60 : zqa qC b60) (hb61 : zR b61 0 240) (hb62 : zR b62 0 241) (hb63 : zR b63 0 240) (hb66 : zR b66 0 240) (hb67 : zqa qE b67) : zM l G y_Model_lay1 prog_14_method_36_code 1 (Option.none : Option Jvm.ClassFile.FieldType) m_s1_Model_lay1 [.ref b0] [(b0, .inr (12, [.int b1, .ref b2, .ref b3, .ref b4, .ref b5, .int b6, .ref b7, .int b8, .int b9, .int b10, .int b11, .ref b12, .ref b13, .ref b14, .int b15, .ref b16, .ref b17, .ref b18, .ref b19, .ref b20, .ref b21, .ref b22, .ref b23, .ref b24, .ref b25, .ref b26, .ref b27, .int b28, .ref b29, .ref b30, .int b31, .int b32, .int b33, .int b34, .ref b35, .ref b36, .ref b37, .ref b38, .ref b39, .ref b40, .ref b41, .int b42, .ref b43, .ref b44, .int b45, .ref b46, .ref b47, .ref b48, .ref b49, .ref b50, .int b51, .ref b52, .ref b53, .ref b54])), (b2, .inl (G.2 0, 503, .inl b55)), (b16, .inl (G.2 0, 2, .inl b56)), (b17, .inl (G.2 0, 4820, .inl b57)), (b18, .inl (G.2 0, 520, .inl b58)), (b19, .inl (G.2 0, 9640, .inl b59)), (b20, .inl (G.2 0, 482, .inl b60)), (b21, .inl (G.2 0, 482, .inl b61)), (b22, .inl (G.2 0, 2, .inl b62)), (b23, .inl (G.2 0, 482, .inl b63)), (b24, .inl (G.2 0, 482, .inl b64)), (b25, .inl (G.2 0, 482, .inl b65)), (b26, .inl (G.2 0, 2, .inl b66)), (b27, .inl (G.2 0, 2880, .inl b67))] (fun v w => ∃ (e0 : Int32), ∃ (e1 : Nat → Int32), ∃ (e2 : Nat → Int32), ∃ (e3 : Nat → Int32), ∃ (e4 : Nat → Int32), ∃ (e5 : Nat → Int32), ∃ (e6 : Nat → Int32), ∃ (e7 : Nat → Int32), ∃ (e8 : Nat → Int32), ∃ (e9 : Nat → Int32), ∃ (e10 : Nat → Int32), ∃ (e11 : Nat → Int32), ∃ (e12 : Nat → Int32), v = none ∧ w = [(b0, .inr (12, [.int b1, .ref b2, .ref b3, .ref b4, .ref b5, .int b6, .ref b7, .int b8, .int b9, .int b10, .int b11, .ref b12, .ref b13, .ref b14, .int b15, .ref b16, .ref b17, .ref b18, .ref b19, .ref b20, .ref b21, .ref b22, .ref b23, .ref b24, .ref b25, .ref b26, .ref b27, .int e0, .ref b29, .ref b30, .int b31, .int b32, .int b33, .int b34, .ref b35, .ref b36, .ref b37, .ref b38, .ref b39, .ref b40, .ref b41, .int b42, .ref b43, .ref b44, .int b45, .ref b46, .ref b47, .ref b48, .ref b49, .ref b50, .int b51, .ref b52, .ref b53, .ref b54])), (b2, .inl (G.2 0, 503, .inl b55)), (b16, .inl (G.2 0, 2, .inl e1)), (b17, .inl (G.2 0, 4820, .inl e2)), (b18, .inl (G.2 0, 520, .inl e3)), (b19, .inl (G.2 0, 9640, .inl e4)), (b20, .inl (G.2 0, 482, .inl e5)), (b21, .inl (G.2 0, 482, .inl e6)), (b22, .inl (G.2 0, 2, .inl e7)), (b23, .inl (G.2 0, 482, .inl e8)), (b24, .inl (G.2 0, 482, .inl e9)), (b25, .inl (G.2 0, 482, .inl e10)), (b26, .inl (G.2 0, 2, .inl e11)), (b27, .inl (G.2 0, 2880, .inl e12))] ∧ (zI e0 0 1) ∧ (zR e1 0 241) ∧ (zR e2 (-1) 240) ∧ (zqa qP e3) ∧ (zqa qC e5) ∧ (zR e6 0 240) ∧ (zR e7 0 241) ∧ (zR e8 0 240) ∧ (zR e11 0 240) ∧ (zqa qE e12) ∧ (zWF e12 ((e11 (0 : Int32).toNatClampNeg).toInt).toNat e10 ((e7 (0 : Int32).toNatClampNeg).toInt) ((b55 (0 : Int32).toNatClampNeg).toInt))) := by
  refine z_start (by decide +kernel) (Nat.le_of_ble_eq_true rfl) ?_
  intro p e s m below meth c A Z hr hnm hA hP hD hS ls hl
  have Z : zC p s m _ meth c prog_14_method_36_code 1 "TraceMachinesModel" G := Z
  obtain ⟨hx, hb, hml, hown, hts, hK, hN, hlocks⟩ := id Z
  have hl : lv_has ls 1 [(0, .ref b0)] := hl
  refine lv_aload_n hx hb d_Model_lay1_0 rfl (lv_at hl 0 rfl) ?_
  refine lv_iconst (v := 0) hx hb d_Model_lay1_1 (by decide) ?_
  refine lv_aload_n hx hb d_Model_lay1_2 rfl (lv_at hl 0 rfl) ?_
  refine va_get (D := G.1) (ci := 12) (v := .ref b2) (C := R_Model) (T := F_Model) (N := 54) hx hb hts i_Model hown hK hP 0 rfl rfl 1 (by decide) (hts _ q1110) (fun _ h9 => h9) rfl d_Model_lay1_3 ?_
  refine lv_sipush (v := 501) hx hb d_Model_lay1_6 (by decide) ?_
  refine va_iald hx hb hK hP 1 0 rfl rfl (i := 501) (z_in rfl) d_Model_lay1_9 ?_
  refine lv_topi (fun v_1 ev_1 => ?_)
  have hv_1 : zI v_1 0 3 := zW5.ld hb55 zc_501 ev_1 (by decide)
  refine lv_iconst (v := (-1)) hx hb d_Model_lay1_10 (by decide) ?_
  refine z_callV (index := 251) (As := [.int 0, .int v_1, .int (-1)]) (rest := []) (wr := []) Z (s1_Model_lay2 l G (b0) (v_1) ((-1)) (b1) (b2) (b3) (b4) (b5) (b6) (b7) (b8) (b9) (b10) (b11) (b12) (b13) (b14) (b15) (b16) (b17) (b18) (b19) (b20) (b21) (b22) (b23) (b24) (b25) (b26) (b27) (b28) (b29) (b30) (b31) (b32) (b33) (b34) (b35) (b36) (b37) (b38) (b39) (b40) (b41) (b42) (b43) (b44) (b45) (b46) (b47) (b48) (b49) (b50) (b51) (b52) (b53) (b54) (b55) (b56) (b57) (b58) (b59) (b60) (b61) (b62) (b63) (b64) (b65) (b66) (b67) hv_1 (zI.wk (l' := (-1)) (h' := 19) zc_m1 (by decide)) hb6 hb8 hb9 hb11 hb15 hb28 hb31 hb42 hb45 hb51 hb55 hb56 hb57 hb58 hb60 hb61 hb62 hb63 hb66 hb67) hl.1 q1360 q1362 qs56 q14 q1363 ⟨by decide, by decide, by show _ = some 3; decide +kernel⟩ ⟨Nat.le_of_ble_eq_true rfl, Nat.le_of_ble_eq_true rfl⟩ ⟨Nat.le_of_ble_eq_true rfl, Nat.le_of_ble_eq_true rfl⟩ rfl (Nat.le_of_ble_eq_true rfl) d_Model_lay1_11 hP hD hS hA 0 12 rfl rfl rfl [0, 1, 2, 3, 4, 5, 6, 7, 8, 9, 10, 11, 12, 13] [] rfl rfl rfl rfl (by decide) (fun v w1 H locs hw_2 hP hD hS => ?_)
  refine Exists.elim hw_2 (fun x_3 hz_17 => Exists.elim hz_17 (fun f_4 hz_18 => Exists.elim hz_18 (fun f_5 hz_19 => Exists.elim hz_19 (fun f_6 hz_20 => Exists.elim hz_20 (fun f_7 hz_21 => Exists.elim hz_21 (fun f_8 hz_22 => Exists.elim hz_22 (fun f_9 hz_23 => Exists.elim hz_23 (fun f_10 hz_24 => Exists.elim hz_24 (fun f_11 hz_25 => Exists.elim hz_25 (fun f_12 hz_26 => Exists.elim hz_26 (fun f_13 hz_27 => Exists.elim hz_27 (fun f_14 hz_28 => Exists.elim hz_28 (fun f_15 hz_29 => ?_)))))))))))))
  clear hw_2 hz_17 hz_18 hz_19 hz_20 hz_21 hz_22 hz_23 hz_24 hz_25 hz_26 hz_27 hz_28
  obtain ⟨rfl, rfl, hx_3, hf_4, hf_5, hf_6, hf_8, hf_9, hf_10, hf_11, hf_14, hf_15, hfx_16⟩ := hz_29
  have hP : va_P G.1 classes [(b0, .inr (12, [.int b1, .ref b2, .ref b3, .ref b4, .ref b5, .int b6, .ref b7, .int b8, .int b9, .int b10, .int b11, .ref b12, .ref b13, .ref b14, .int b15, .ref b16, .ref b17, .ref b18, .ref b19, .ref b20, .ref b21, .ref b22, .ref b23, .ref b24, .ref b25, .ref b26, .ref b27, .int x_3, .ref b29, .ref b30, .int b31, .int b32, .int b33, .int b34, .ref b35, .ref b36, .ref b37, .ref b38, .ref b39, .ref b40, .ref b41, .int b42, .ref b43, .ref b44, .int b45, .ref b46, .ref b47, .ref b48, .ref b49, .ref b50, .int b51, .ref b52, .ref b53, .ref b54])), (b2, .inl (G.2 0, 503, .inl b55)), (b16, .inl (G.2 0, 2, .inl f_4)), (b17, .inl (G.2 0, 4820, .inl f_5)), (b18, .inl (G.2 0, 520, .inl f_6)), (b19, .inl (G.2 0, 9640, .inl f_7)), (b20, .inl (G.2 0, 482, .inl f_8)), (b21, .inl (G.2 0, 482, .inl f_9)), (b22, .inl (G.2 0, 2, .inl f_10)), (b23, .inl (G.2 0, 482, .inl f_11)), (b24, .inl (G.2 0, 482, .inl f_12)), (b25, .inl (G.2 0, 482, .inl f_13)), (b26, .inl (G.2 0, 2, .inl f_14)), (b27, .inl (G.2 0, 2880, .inl f_15))] H := hP
  have hD := z_tie hP hD rfl
  refine W.widen (k := 0) (n := 0) (Nat.le_of_ble_eq_true rfl) (Nat.le_of_ble_eq_true rfl) ?_
  exact z_vret hx hb hr hlocks hP hD hS (Nat.le_of_ble_eq_true rfl) (Nat.le_of_ble_eq_true rfl) d_Model_lay1_14 ⟨x_3, f_4, f_5, f_6, f_7, f_8, f_9, f_10, f_11, f_12, f_13, f_14, f_15, rfl, rfl, hx_3, hf_4, hf_5, hf_6, hf_8, hf_9, hf_10, hf_11, hf_14, hf_15, (hfx_16 li_m1)⟩
