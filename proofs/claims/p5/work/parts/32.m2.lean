theorem d_Model_readCalls_0 : decode prog_14_method_14_code 0 = .ok (.aload_n 0, 1) := by decide +kernel
theorem d_Model_readCalls_1 : decode prog_14_method_14_code 1 = .ok (.iconst 0, 1) := by decide +kernel
theorem d_Model_readCalls_2 : decode prog_14_method_14_code 2 = .ok (.putfield 159, 3) := by decide +kernel
theorem d_Model_readCalls_5 : decode prog_14_method_14_code 5 = .ok (.aload_n 0, 1) := by decide +kernel
theorem d_Model_readCalls_6 : decode prog_14_method_14_code 6 = .ok (.getfield 145, 3) := by decide +kernel
theorem d_Model_readCalls_9 : decode prog_14_method_14_code 9 = .ok (.ifCond .eq 149, 3) := by decide +kernel
theorem d_Model_readCalls_12 : decode prog_14_method_14_code 12 = .ok (.aload_n 0, 1) := by decide +kernel
theorem d_Model_readCalls_13 : decode prog_14_method_14_code 13 = .ok (.invokevirtual 162, 3) := by decide +kernel
theorem d_Model_readCalls_16 : decode prog_14_method_14_code 16 = .ok (.i2l, 1) := by decide +kernel
theorem d_Model_readCalls_17 : decode prog_14_method_14_code 17 = .ok (.ldc2_w 165, 3) := by decide +kernel
theorem d_Model_readCalls_20 : decode prog_14_method_14_code 20 = .ok (.ldc2_w 167, 3) := by decide +kernel
theorem d_Model_readCalls_23 : decode prog_14_method_14_code 23 = .ok (.invokestatic 138, 3) := by decide +kernel
theorem d_Model_readCalls_26 : decode prog_14_method_14_code 26 = .ok (.ifCond .eq 132, 3) := by decide +kernel
theorem d_Model_readCalls_29 : decode prog_14_method_14_code 29 = .ok (.aload_n 0, 1) := by decide +kernel
theorem d_Model_readCalls_30 : decode prog_14_method_14_code 30 = .ok (.getfield 159, 3) := by decide +kernel
theorem d_Model_readCalls_33 : decode prog_14_method_14_code 33 = .ok (.bipush 12, 2) := by decide +kernel
theorem d_Model_readCalls_35 : decode prog_14_method_14_code 35 = .ok (.if_icmp .ne 8, 3) := by decide +kernel
theorem d_Model_readCalls_38 : decode prog_14_method_14_code 38 = .ok (.aload_n 0, 1) := by decide +kernel
theorem d_Model_readCalls_39 : decode prog_14_method_14_code 39 = .ok (.invokevirtual 169, 3) := by decide +kernel
theorem d_Model_readCalls_42 : decode prog_14_method_14_code 42 = .ok (.return_, 1) := by decide +kernel
theorem d_Model_readCalls_43 : decode prog_14_method_14_code 43 = .ok (.aload_n 0, 1) := by decide +kernel
theorem d_Model_readCalls_44 : decode prog_14_method_14_code 44 = .ok (.getfield 34, 3) := by decide +kernel
theorem d_Model_readCalls_47 : decode prog_14_method_14_code 47 = .ok (.aload_n 0, 1) := by decide +kernel
theorem d_Model_readCalls_48 : decode prog_14_method_14_code 48 = .ok (.getfield 159, 3) := by decide +kernel
theorem d_Model_readCalls_51 : decode prog_14_method_14_code 51 = .ok (.aload_n 0, 1) := by decide +kernel
theorem d_Model_readCalls_52 : decode prog_14_method_14_code 52 = .ok (.getfield 27, 3) := by decide +kernel
theorem d_Model_readCalls_55 : decode prog_14_method_14_code 55 = .ok (.aload_n 0, 1) := by decide +kernel
theorem d_Model_readCalls_56 : decode prog_14_method_14_code 56 = .ok (.getfield 149, 3) := by decide +kernel
theorem d_Model_readCalls_59 : decode prog_14_method_14_code 59 = .ok (.baload, 1) := by decide +kernel
theorem d_Model_readCalls_60 : decode prog_14_method_14_code 60 = .ok (.bipush 97, 2) := by decide +kernel
theorem d_Model_readCalls_62 : decode prog_14_method_14_code 62 = .ok (.isub, 1) := by decide +kernel
theorem d_Model_readCalls_63 : decode prog_14_method_14_code 63 = .ok (.iastore, 1) := by decide +kernel
theorem d_Model_readCalls_64 : decode prog_14_method_14_code 64 = .ok (.aload_n 0, 1) := by decide +kernel
theorem d_Model_readCalls_65 : decode prog_14_method_14_code 65 = .ok (.dup, 1) := by decide +kernel
theorem d_Model_readCalls_66 : decode prog_14_method_14_code 66 = .ok (.getfield 149, 3) := by decide +kernel
theorem d_Model_readCalls_69 : decode prog_14_method_14_code 69 = .ok (.iconst 1, 1) := by decide +kernel
theorem d_Model_readCalls_70 : decode prog_14_method_14_code 70 = .ok (.iadd, 1) := by decide +kernel
theorem d_Model_readCalls_71 : decode prog_14_method_14_code 71 = .ok (.putfield 149, 3) := by decide +kernel
theorem d_Model_readCalls_74 : decode prog_14_method_14_code 74 = .ok (.iconst 0, 1) := by decide +kernel
theorem d_Model_readCalls_75 : decode prog_14_method_14_code 75 = .ok (.istore_n 1, 1) := by decide +kernel
theorem d_Model_readCalls_76 : decode prog_14_method_14_code 76 = .ok (.iconst 0, 1) := by decide +kernel
theorem d_Model_readCalls_77 : decode prog_14_method_14_code 77 = .ok (.istore_n 2, 1) := by decide +kernel
theorem d_Model_readCalls_78 : decode prog_14_method_14_code 78 = .ok (.iload_n 2, 1) := by decide +kernel
theorem d_Model_readCalls_79 : decode prog_14_method_14_code 79 = .ok (.iconst 2, 1) := by decide +kernel
theorem d_Model_readCalls_80 : decode prog_14_method_14_code 80 = .ok (.if_icmp .ge 44, 3) := by decide +kernel
theorem d_Model_readCalls_83 : decode prog_14_method_14_code 83 = .ok (.aload_n 0, 1) := by decide +kernel
theorem d_Model_readCalls_84 : decode prog_14_method_14_code 84 = .ok (.invokevirtual 172, 3) := by decide +kernel
theorem d_Model_readCalls_87 : decode prog_14_method_14_code 87 = .ok (.ifCond .eq 37, 3) := by decide +kernel
theorem d_Model_readCalls_90 : decode prog_14_method_14_code 90 = .ok (.bipush 10, 2) := by decide +kernel
theorem d_Model_readCalls_92 : decode prog_14_method_14_code 92 = .ok (.iload_n 1, 1) := by decide +kernel
theorem d_Model_readCalls_93 : decode prog_14_method_14_code 93 = .ok (.imul, 1) := by decide +kernel
theorem d_Model_readCalls_94 : decode prog_14_method_14_code 94 = .ok (.aload_n 0, 1) := by decide +kernel
theorem d_Model_readCalls_95 : decode prog_14_method_14_code 95 = .ok (.getfield 27, 3) := by decide +kernel
theorem d_Model_readCalls_98 : decode prog_14_method_14_code 98 = .ok (.aload_n 0, 1) := by decide +kernel
theorem d_Model_readCalls_99 : decode prog_14_method_14_code 99 = .ok (.getfield 149, 3) := by decide +kernel
theorem d_Model_readCalls_102 : decode prog_14_method_14_code 102 = .ok (.baload, 1) := by decide +kernel
theorem d_Model_readCalls_103 : decode prog_14_method_14_code 103 = .ok (.iadd, 1) := by decide +kernel
theorem d_Model_readCalls_104 : decode prog_14_method_14_code 104 = .ok (.bipush 48, 2) := by decide +kernel
theorem d_Model_readCalls_106 : decode prog_14_method_14_code 106 = .ok (.isub, 1) := by decide +kernel
theorem d_Model_readCalls_107 : decode prog_14_method_14_code 107 = .ok (.istore_n 1, 1) := by decide +kernel
theorem d_Model_readCalls_108 : decode prog_14_method_14_code 108 = .ok (.aload_n 0, 1) := by decide +kernel
theorem d_Model_readCalls_109 : decode prog_14_method_14_code 109 = .ok (.dup, 1) := by decide +kernel
theorem d_Model_readCalls_110 : decode prog_14_method_14_code 110 = .ok (.getfield 149, 3) := by decide +kernel
theorem d_Model_readCalls_113 : decode prog_14_method_14_code 113 = .ok (.iconst 1, 1) := by decide +kernel
theorem d_Model_readCalls_114 : decode prog_14_method_14_code 114 = .ok (.iadd, 1) := by decide +kernel
theorem d_Model_readCalls_115 : decode prog_14_method_14_code 115 = .ok (.putfield 149, 3) := by decide +kernel
theorem d_Model_readCalls_118 : decode prog_14_method_14_code 118 = .ok (.iinc 2 1, 3) := by decide +kernel
theorem d_Model_readCalls_121 : decode prog_14_method_14_code 121 = .ok (.goto (-43), 3) := by decide +kernel
theorem d_Model_readCalls_124 : decode prog_14_method_14_code 124 = .ok (.aload_n 0, 1) := by decide +kernel
theorem d_Model_readCalls_125 : decode prog_14_method_14_code 125 = .ok (.getfield 37, 3) := by decide +kernel
theorem d_Model_readCalls_128 : decode prog_14_method_14_code 128 = .ok (.aload_n 0, 1) := by decide +kernel
theorem d_Model_readCalls_129 : decode prog_14_method_14_code 129 = .ok (.getfield 159, 3) := by decide +kernel
theorem d_Model_readCalls_132 : decode prog_14_method_14_code 132 = .ok (.iload_n 1, 1) := by decide +kernel
theorem d_Model_readCalls_133 : decode prog_14_method_14_code 133 = .ok (.iastore, 1) := by decide +kernel
theorem d_Model_readCalls_134 : decode prog_14_method_14_code 134 = .ok (.aload_n 0, 1) := by decide +kernel
theorem d_Model_readCalls_135 : decode prog_14_method_14_code 135 = .ok (.dup, 1) := by decide +kernel
theorem d_Model_readCalls_136 : decode prog_14_method_14_code 136 = .ok (.getfield 159, 3) := by decide +kernel
theorem d_Model_readCalls_139 : decode prog_14_method_14_code 139 = .ok (.iconst 1, 1) := by decide +kernel
theorem d_Model_readCalls_140 : decode prog_14_method_14_code 140 = .ok (.iadd, 1) := by decide +kernel
theorem d_Model_readCalls_141 : decode prog_14_method_14_code 141 = .ok (.putfield 159, 3) := by decide +kernel
theorem d_Model_readCalls_144 : decode prog_14_method_14_code 144 = .ok (.aload_n 0, 1) := by decide +kernel
theorem d_Model_readCalls_145 : decode prog_14_method_14_code 145 = .ok (.invokevirtual 172, 3) := by decide +kernel
theorem d_Model_readCalls_148 : decode prog_14_method_14_code 148 = .ok (.ifCond .eq 7, 3) := by decide +kernel
theorem d_Model_readCalls_151 : decode prog_14_method_14_code 151 = .ok (.aload_n 0, 1) := by decide +kernel
theorem d_Model_readCalls_152 : decode prog_14_method_14_code 152 = .ok (.invokevirtual 169, 3) := by decide +kernel
theorem d_Model_readCalls_155 : decode prog_14_method_14_code 155 = .ok (.goto (-150), 3) := by decide +kernel
theorem d_Model_readCalls_158 : decode prog_14_method_14_code 158 = .ok (.return_, 1) := by decide +kernel
theorem ll_97 : (97 : Int64).toInt = 97 := by decide +kernel
theorem zcl_97 : zJ 97 97 97 := ⟨by decide +kernel, by decide +kernel⟩
theorem ll_106 : (106 : Int64).toInt = 106 := by decide +kernel
theorem zcl_106 : zJ 106 106 106 := ⟨by decide +kernel, by decide +kernel⟩
abbrev m_s1_Model_readCalls : Room := { frames := 2, cells := 0, slots := 0, locals := 45 }
set_option maxHeartbeats 4000000 in
set_option maxRecDepth 100000 in
theorem s1_Model_readCalls (l : Launch) (G : zG) (b0 : Nat) (b1 : Int32) (b2 : Nat) (b3 : Nat) (b4 : Nat) (b5 : Nat) (b6 : Int32) (b7 : Nat) (b8 : Int32) (b9 : Int32) (b10 : Int32) (b11 : Int32) (b12 : Nat) (b13 : Nat) (b14 : Nat) (b15 : Int32) (b16 : Nat) (b17 : Nat) (b18 : Nat) (b19 : Nat) (b20 : Nat) (b21 : Nat) (b22 : Nat) (b23 : Nat) (b24 : Nat) (b25 : Nat) (b26 : Nat) (b27 : Nat) (b28 : Int32) (b29 : Nat) (b30 : Nat) (b31 : Int32) (b32 : Int32) (b33 : Int32) (b34 : Int32) (b35 : Nat) (b36 : Nat) (b37 : Nat) (b38 : Nat) (b39 : Nat) (b40 : Nat) (b41 : Nat) (b42 : Int32) (b43 : Nat) (b44 : Nat) (b45 : Int32) (b46 : Nat) (b47 : Nat) (b48 : Nat) (b49 : Nat) (b50 : Nat) (b51 : Int32) (b52 : Nat) (b53 : Nat) (b54 : Nat) (b55 : Nat → Int32) (b56 : Nat → Int32) (b57 : Nat → Int32) (hb6 : zI b6 0 8) (hb8 : zI b8 0 240) (hb9 : zI b9 0 240) (hb11 : zI b11 0 1) (hb15 : zI b15 0 12) (hb28 : zI b28 0 1) (hb31 : zI b31 0 1) (hb42 : zI b42 0 1000) (hb45 : zI b45 0 1000) (hb51 : zI b51 0 400) (hb56 : zR b56 0 9) : zM l G y_Model_readCalls prog_14_method_14_code 3 (Option.none : Option Jvm.ClassFile.FieldType) m_s1_Model_readCalls [.ref b0] [(b0, .inr (12, [.int b1, .ref b2, .ref b3, .ref b4, .ref b5, .int b6, .ref b7, .int b8, .int b9, .int b10, .int b11, .ref b12, .ref b13, .ref b14, .int b15, .ref b16, .ref b17, .ref b18, .ref b19, .ref b20, .ref b21, .ref b22, .ref b23, .ref b24, .ref b25, .ref b26, .ref b27, .int b28, .ref b29, .ref b30, .int b31, .int b32, .int b33, .int b34, .ref b35, .ref b36, .ref b37, .ref b38, .ref b39, .ref b40, .ref b41, .int b42, .ref b43, .ref b44, .int b45, .ref b46, .ref b47, .ref b48, .ref b49, .ref b50, .int b51, .ref b52, .ref b53, .ref b54])), (b7, .inl (G.2 3, 240, .inl b55)), (b13, .inl (G.2 0, 12, .inl b56)), (b14, .inl (G.2 0, 12, .inl b57))] (fun v w => ∃ (e0 : Int32), ∃ (e1 : Int32), ∃ (e2 : Int32), ∃ (e3 : Int32), ∃ (e4 : Nat → Int32), ∃ (e5 : Nat → Int32), v = none ∧ w = [(b0, .inr (12, [.int b1, .ref b2, .ref b3, .ref b4, .ref b5, .int b6, .ref b7, .int b8, .int e0, .int e1, .int e2, .ref b12, .ref b13, .ref b14, .int e3, .ref b16, .ref b17, .ref b18, .ref b19, .ref b20, .ref b21, .ref b22, .ref b23, .ref b24, .ref b25, .ref b26, .ref b27, .int b28, .ref b29, .ref b30, .int b31, .int b32, .int b33, .int b34, .ref b35, .ref b36, .ref b37, .ref b38, .ref b39, .ref b40, .ref b41, .int b42, .ref b43, .ref b44, .int b45, .ref b46, .ref b47, .ref b48, .ref b49, .ref b50, .int b51, .ref b52, .ref b53, .ref b54])), (b7, .inl (G.2 3, 240, .inl b55)), (b13, .inl (G.2 0, 12, .inl e4)), (b14, .inl (G.2 0, 12, .inl e5))] ∧ (zI e0 0 240) ∧ (zI e2 0 1) ∧ (zI e3 0 12) ∧ (zR e4 0 9) ∧ (b9.toInt ≤ e0.toInt)) := by
  refine z_start (by decide +kernel) (Nat.le_of_ble_eq_true rfl) ?_
  intro p e s m below meth c A Z hr hnm hA hP hD hS ls hl
  have Z : zC p s m _ meth c prog_14_method_14_code 3 "TraceMachinesModel" G := Z
  obtain ⟨hx, hb, hml, hown, hts, hK, hN, hlocks⟩ := id Z
  have hl : lv_has ls 3 [(0, .ref b0)] := hl
  refine lv_aload_n hx hb d_Model_readCalls_0 rfl (lv_at hl 0 rfl) ?_
  refine lv_iconst (v := 0) hx hb d_Model_readCalls_1 (by decide) ?_
  refine va_put (D := G.1) (ci := 12) (v := .int 0) (ty := .int) (C := R_Model) (T := F_Model) (N := 54) hx hb hts i_Model t_Model t_Model_ok n_Model hown hK hP hD hS 0 rfl rfl 14 (by decide) (hts _ q1123) (fun _ h9 => h9) rfl (by decide +kernel) rfl rfl (Nat.le_of_ble_eq_true rfl) d_Model_readCalls_2 (fun H locs hP hD hS => ?_)
  have hP : va_P G.1 classes [(b0, .inr (12, [.int b1, .ref b2, .ref b3, .ref b4, .ref b5, .int b6, .ref b7, .int b8, .int b9, .int b10, .int b11, .ref b12, .ref b13, .ref b14, .int 0, .ref b16, .ref b17, .ref b18, .ref b19, .ref b20, .ref b21, .ref b22, .ref b23, .ref b24, .ref b25, .ref b26, .ref b27, .int b28, .ref b29, .ref b30, .int b31, .int b32, .int b33, .int b34, .ref b35, .ref b36, .ref b37, .ref b38, .ref b39, .ref b40, .ref b41, .int b42, .ref b43, .ref b44, .int b45, .ref b46, .ref b47, .ref b48, .ref b49, .ref b50, .int b51, .ref b52, .ref b53, .ref b54])), (b7, .inl (G.2 3, 240, .inl b55)), (b13, .inl (G.2 0, 12, .inl b56)), (b14, .inl (G.2 0, 12, .inl b57))] H := hP
  have hD := z_tie hP hD rfl
  suffices key : ∀ (k_195 : Nat) (y_196 : Int32) (y_197 : Int32) (y_198 : Int32) (y_199 : Int32) (y_200 : Nat → Int32) (y_201 : Nat → Int32) (H : Heap) (locs : List Loc) (ls : Array Slot), (zI y_196 0 240) → (zI y_197 0 12) → (zI y_199 0 1) → (zR y_200 0 9) → (b9.toInt ≤ y_196.toInt) → (13 : Int) - (y_197).toInt < (k_195 : Int) → va_P G.1 classes [(b0, .inr (12, [.int b1, .ref b2, .ref b3, .ref b4, .ref b5, .int b6, .ref b7, .int b8, .int y_196, .int y_198, .int y_199, .ref b12, .ref b13, .ref b14, .int y_197, .ref b16, .ref b17, .ref b18, .ref b19, .ref b20, .ref b21, .ref b22, .ref b23, .ref b24, .ref b25, .ref b26, .ref b27, .int b28, .ref b29, .ref b30, .int b31, .int b32, .int b33, .int b34, .ref b35, .ref b36, .ref b37, .ref b38, .ref b39, .ref b40, .ref b41, .int b42, .ref b43, .ref b44, .int b45, .ref b46, .ref b47, .ref b48, .ref b49, .ref b50, .int b51, .ref b52, .ref b53, .ref b54])), (b7, .inl (G.2 3, 240, .inl b55)), (b13, .inl (G.2 0, 12, .inl y_200)), (b14, .inl (G.2 0, 12, .inl y_201))] H → va_D A [(b0, .inr (12, [.int b1, .ref b2, .ref b3, .ref b4, .ref b5, .int b6, .ref b7, .int b8, .int y_196, .int y_198, .int y_199, .ref b12, .ref b13, .ref b14, .int y_197, .ref b16, .ref b17, .ref b18, .ref b19, .ref b20, .ref b21, .ref b22, .ref b23, .ref b24, .ref b25, .ref b26, .ref b27, .int b28, .ref b29, .ref b30, .int b31, .int b32, .int b33, .int b34, .ref b35, .ref b36, .ref b37, .ref b38, .ref b39, .ref b40, .ref b41, .int b42, .ref b43, .ref b44, .int b45, .ref b46, .ref b47, .ref b48, .ref b49, .ref b50, .int b51, .ref b52, .ref b53, .ref b54])), (b7, .inl (G.2 3, 240, .inl b55)), (b13, .inl (G.2 0, 12, .inl y_200)), (b14, .inl (G.2 0, 12, .inl y_201))] → va_S A s.heap H locs → lv_has ls 3 [(0, .ref b0)] → W p l e m_s1_Model_readCalls s m ([.ref b0] : List Value).toArray below meth c H locs 0 0 (MQ below (zQ G (fun v w => ∃ (e0 : Int32), ∃ (e1 : Int32), ∃ (e2 : Int32), ∃ (e3 : Int32), ∃ (e4 : Nat → Int32), ∃ (e5 : Nat → Int32), v = none ∧ w = [(b0, .inr (12, [.int b1, .ref b2, .ref b3, .ref b4, .ref b5, .int b6, .ref b7, .int b8, .int e0, .int e1, .int e2, .ref b12, .ref b13, .ref b14, .int e3, .ref b16, .ref b17, .ref b18, .ref b19, .ref b20, .ref b21, .ref b22, .ref b23, .ref b24, .ref b25, .ref b26, .ref b27, .int b28, .ref b29, .ref b30, .int b31, .int b32, .int b33, .int b34, .ref b35, .ref b36, .ref b37, .ref b38, .ref b39, .ref b40, .ref b41, .int b42, .ref b43, .ref b44, .int b45, .ref b46, .ref b47, .ref b48, .ref b49, .ref b50, .int b51, .ref b52, .ref b53, .ref b54])), (b7, .inl (G.2 3, 240, .inl b55)), (b13, .inl (G.2 0, 12, .inl e4)), (b14, .inl (G.2 0, 12, .inl e5))] ∧ (zI e0 0 240) ∧ (zI e2 0 1) ∧ (zI e3 0 12) ∧ (zR e4 0 9) ∧ (b9.toInt ≤ e0.toInt)) A) ([.ref b0] : List Value).toArray s m_s1_Model_readCalls.cells m_s1_Model_readCalls.slots A) (F0 m 5 ls []) by
    exact key 15 (b9) (0) (b10) (b11) (b56) (b57) _ _ _ hb9 (zI.wk (l' := 0) (h' := 12) zc_0 (by decide)) hb11 hb56 (by omega) (by have _l0 := li_0; omega) hP hD hS (lv_sub hl [0] rfl)
  intro k_195
  induction k_195 with
  | zero =>
    intro y_196 y_197 y_198 y_199 y_200 y_201 H locs ls hy_196 hy_197 hy_199 hy_200 hli_202 hmk_195 hP hD hS hl
    exfalso; omega
  | succ k_195 ihk_195 =>
    intro y_196 y_197 y_198 y_199 y_200 y_201 H locs ls hy_196 hy_197 hy_199 hy_200 hli_202 hmk_195 hP hD hS hl
    refine lv_aload_n hx hb d_Model_readCalls_5 rfl (lv_at hl 0 rfl) ?_
    refine va_get (D := G.1) (ci := 12) (v := .int y_199) (C := R_Model) (T := F_Model) (N := 54) hx hb hts i_Model hown hK hP 0 rfl rfl 10 (by decide) (hts _ q1119) (fun _ h9 => h9) rfl d_Model_readCalls_6 ?_
    refine lv_if_eq (tgt := 158) hx hb d_Model_readCalls_9 (by decide) (fun hc_203 => ?_) (fun hc_203 => ?_)
    · have _nhc_203 := hc_203
      have ni_204 := (fa_eq _ _).mp hc_203
      rw [li_0] at ni_204
      have hv_205 : zI y_199 0 0 := zI.eq_l hy_199 zc_0 hc_203
      exact z_vret hx hb hr hlocks hP hD hS (Nat.le_of_ble_eq_true rfl) (Nat.le_of_ble_eq_true rfl) d_Model_readCalls_158 ⟨y_196, y_198, y_199, y_197, y_200, y_201, rfl, rfl, hy_196, (zI.wk (l' := 0) (h' := 1) hv_205 (by decide)), hy_197, hy_200, (by omega)⟩
    · have _nhc_203 := hc_203
      have ni_206 : ¬ (y_199 : Int32).toInt = (0 : Int32).toInt := fun z => hc_203 ((fa_eq _ _).mpr z)
      simp only [li_0] at ni_206
      have hv_207 : zI y_199 1 1 := zI.ne_lo hy_199 zc_0 hc_203 (by decide)
      refine lv_aload_n hx hb d_Model_readCalls_12 rfl (lv_at hl 0 rfl) ?_
      refine z_callV (index := 162) (As := []) (rest := []) (wr := [(b13, .inl (G.2 0, 12, .inl y_200)), (b14, .inl (G.2 0, 12, .inl y_201))]) Z (s1_Model_next l G (b0) (b1) (b2) (b3) (b4) (b5) (b6) (b7) (b8) (y_196) (y_198) (y_199) (b12) (b13) (b14) (y_197) (b16) (b17) (b18) (b19) (b20) (b21) (b22) (b23) (b24) (b25) (b26) (b27) (b28) (b29) (b30) (b31) (b32) (b33) (b34) (b35) (b36) (b37) (b38) (b39) (b40) (b41) (b42) (b43) (b44) (b45) (b46) (b47) (b48) (b49) (b50) (b51) (b52) (b53) (b54) (b55) hb6 hb8 hy_196 (zI.wk (l' := 0) (h' := 1) hv_207 (by decide)) hy_197 hb28 hb31 hb42 hb45 hb51) hl.1 q1292 q1294 qs45 q14 q1295 ⟨by decide, by decide, by show _ = some 0; decide +kernel⟩ ⟨Nat.le_of_ble_eq_true rfl, Nat.le_of_ble_eq_true rfl⟩ ⟨Nat.le_of_ble_eq_true rfl, Nat.le_of_ble_eq_true rfl⟩ rfl (Nat.le_of_ble_eq_true rfl) d_Model_readCalls_13 hP hD hS hA 0 12 rfl rfl rfl [0, 1] [2, 3] rfl rfl rfl rfl (by decide) (fun v w1 H locs hw_208 hP hD hS => ?_)
      obtain ⟨x_209, x_210, rfl, rfl, hx_210, hfx_211, hfx_212⟩ := hw_208
      have hP : va_P G.1 classes [(b13, .inl (G.2 0, 12, .inl y_200)), (b14, .inl (G.2 0, 12, .inl y_201)), (b0, .inr (12, [.int b1, .ref b2, .ref b3, .ref b4, .ref b5, .int b6, .ref b7, .int b8, .int x_210, .int y_198, .int y_199, .ref b12, .ref b13, .ref b14, .int y_197, .ref b16, .ref b17, .ref b18, .ref b19, .ref b20, .ref b21, .ref b22, .ref b23, .ref b24, .ref b25, .ref b26, .ref b27, .int b28, .ref b29, .ref b30, .int b31, .int b32, .int b33, .int b34, .ref b35, .ref b36, .ref b37, .ref b38, .ref b39, .ref b40, .ref b41, .int b42, .ref b43, .ref b44, .int b45, .ref b46, .ref b47, .ref b48, .ref b49, .ref b50, .int b51, .ref b52, .ref b53, .ref b54])), (b7, .inl (G.2 3, 240, .inl b55))] H := hP
      have hD := z_tie hP hD rfl
      refine W.widen (k := 0) (n := 0) (Nat.le_of_ble_eq_true rfl) (Nat.le_of_ble_eq_true rfl) ?_
      refine lv_i2l (v := x_209.toInt64) hx hb d_Model_readCalls_16 rfl ?_
      refine lv_ldc2 hx hb hown (hts _ q1304) d_Model_readCalls_17 ?_
      refine lv_ldc2 hx hb hown (hts _ q1305) d_Model_readCalls_20 ?_
      refine z_callS (index := 138) (As := [.long x_209.toInt64, .long 97, .long 106]) (rest := []) (wr := [(b13, .inl (G.2 0, 12, .inl y_200)), (b14, .inl (G.2 0, 12, .inl y_201)), (b0, .inr (12, [.int b1, .ref b2, .ref b3, .ref b4, .ref b5, .int b6, .ref b7, .int b8, .int x_210, .int y_198, .int y_199, .ref b12, .ref b13, .ref b14, .int y_197, .ref b16, .ref b17, .ref b18, .ref b19, .ref b20, .ref b21, .ref b22, .ref b23, .ref b24, .ref b25, .ref b26, .ref b27, .int b28, .ref b29, .ref b30, .int b31, .int b32, .int b33, .int b34, .ref b35, .ref b36, .ref b37, .ref b38, .ref b39, .ref b40, .ref b41, .int b42, .ref b43, .ref b44, .int b45, .ref b46, .ref b47, .ref b48, .ref b49, .ref b50, .int b51, .ref b52, .ref b53, .ref b54])), (b7, .inl (G.2 3, 240, .inl b55))]) Z (s2_Model_in l G (x_209.toInt64) (97) (106)) hl.1 q1281 q1282 q14 q1283 ⟨by decide, by decide, by show _ = some 3; decide +kernel⟩ ⟨Nat.le_of_ble_eq_true rfl, Nat.le_of_ble_eq_true rfl⟩ ⟨Nat.le_of_ble_eq_true rfl, Nat.le_of_ble_eq_true rfl⟩ rfl (Nat.le_of_ble_eq_true rfl) d_Model_readCalls_23 hP hD hS hA [] [0, 1, 2, 3] rfl rfl rfl rfl (by decide) (fun v w1 H locs hw_213 hP hD hS => ?_)
      rcases hw_213 with ⟨rfl, rfl, hq_214⟩ | ⟨rfl, rfl, hq_215, hq_216⟩ | ⟨rfl, rfl, hq_217, hq_218⟩
      · have hP : va_P G.1 classes [(b13, .inl (G.2 0, 12, .inl y_200)), (b14, .inl (G.2 0, 12, .inl y_201)), (b0, .inr (12, [.int b1, .ref b2, .ref b3, .ref b4, .ref b5, .int b6, .ref b7, .int b8, .int x_210, .int y_198, .int y_199, .ref b12, .ref b13, .ref b14, .int y_197, .ref b16, .ref b17, .ref b18, .ref b19, .ref b20, .ref b21, .ref b22, .ref b23, .ref b24, .ref b25, .ref b26, .ref b27, .int b28, .ref b29, .ref b30, .int b31, .int b32, .int b33, .int b34, .ref b35, .ref b36, .ref b37, .ref b38, .ref b39, .ref b40, .ref b41, .int b42, .ref b43, .ref b44, .int b45, .ref b46, .ref b47, .ref b48, .ref b49, .ref b50, .int b51, .ref b52, .ref b53, .ref b54])), (b7, .inl (G.2 3, 240, .inl b55))] H := hP
        have hD := z_tie hP hD rfl
        try simp only [Int32.toInt_toInt64, ll_97] at hq_214
        have hv_219 : zI x_209 (-2147483648) 96 := by have _a := hq_214; have _b := (zI_all x_209); have _c := zcl_97; simp only [Int32.toInt_toInt64] at *; exact ⟨by omega, by omega⟩
        refine W.widen (k := 0) (n := 0) (Nat.le_of_ble_eq_true rfl) (Nat.le_of_ble_eq_true rfl) ?_
        refine lv_if_eq (tgt := 158) hx hb d_Model_readCalls_26 (by decide) (fun _ => ?_) (fun hc => absurd hc (by decide +kernel))
        exact z_vret hx hb hr hlocks (hP.sub [2, 3, 0, 1] rfl) (hD.sub [2, 3, 0, 1] (by decide) rfl) hS (Nat.le_of_ble_eq_true rfl) (Nat.le_of_ble_eq_true rfl) d_Model_readCalls_158 ⟨x_210, y_198, y_199, y_197, y_200, y_201, rfl, rfl, hx_210, (zI.wk (l' := 0) (h' := 1) hv_207 (by decide)), hy_197, hy_200, (by omega)⟩
      · have hP : va_P G.1 classes [(b13, .inl (G.2 0, 12, .inl y_200)), (b14, .inl (G.2 0, 12, .inl y_201)), (b0, .inr (12, [.int b1, .ref b2, .ref b3, .ref b4, .ref b5, .int b6, .ref b7, .int b8, .int x_210, .int y_198, .int y_199, .ref b12, .ref b13, .ref b14, .int y_197, .ref b16, .ref b17, .ref b18, .ref b19, .ref b20, .ref b21, .ref b22, .ref b23, .ref b24, .ref b25, .ref b26, .ref b27, .int b28, .ref b29, .ref b30, .int b31, .int b32, .int b33, .int b34, .ref b35, .ref b36, .ref b37, .ref b38, .ref b39, .ref b40, .ref b41, .int b42, .ref b43, .ref b44, .int b45, .ref b46, .ref b47, .ref b48, .ref b49, .ref b50, .int b51, .ref b52, .ref b53, .ref b54])), (b7, .inl (G.2 3, 240, .inl b55))] H := hP
        have hD := z_tie hP hD rfl
        try simp only [Int32.toInt_toInt64, ll_97] at hq_215
        have hv_220 : zI x_209 97 2147483647 := by have _a := hq_215; have _b := (zI_all x_209); have _c := zcl_97; simp only [Int32.toInt_toInt64] at *; exact ⟨by omega, by omega⟩
        try simp only [Int32.toInt_toInt64, ll_106] at hq_216
        have hv_221 : zI x_209 107 2147483647 := by have _a := hq_216; have _b := hv_220; have _c := zcl_106; simp only [Int32.toInt_toInt64] at *; exact ⟨by omega, by omega⟩
        refine W.widen (k := 0) (n := 0) (Nat.le_of_ble_eq_true rfl) (Nat.le_of_ble_eq_true rfl) ?_
        refine lv_if_eq (tgt := 158) hx hb d_Model_readCalls_26 (by decide) (fun _ => ?_) (fun hc => absurd hc (by decide +kernel))
        exact z_vret hx hb hr hlocks (hP.sub [2, 3, 0, 1] rfl) (hD.sub [2, 3, 0, 1] (by decide) rfl) hS (Nat.le_of_ble_eq_true rfl) (Nat.le_of_ble_eq_true rfl) d_Model_readCalls_158 ⟨x_210, y_198, y_199, y_197, y_200, y_201, rfl, rfl, hx_210, (zI.wk (l' := 0) (h' := 1) hv_207 (by decide)), hy_197, hy_200, (by omega)⟩
      · have hP : va_P G.1 classes [(b13, .inl (G.2 0, 12, .inl y_200)), (b14, .inl (G.2 0, 12, .inl y_201)), (b0, .inr (12, [.int b1, .ref b2, .ref b3, .ref b4, .ref b5, .int b6, .ref b7, .int b8, .int x_210, .int y_198, .int y_199, .ref b12, .ref b13, .ref b14, .int y_197, .ref b16, .ref b17, .ref b18, .ref b19, .ref b20, .ref b21, .ref b22, .ref b23, .ref b24, .ref b25, .ref b26, .ref b27, .int b28, .ref b29, .ref b30, .int b31, .int b32, .int b33, .int b34, .ref b35, .ref b36, .ref b37, .ref b38, .ref b39, .ref b40, .ref b41, .int b42, .ref b43, .ref b44, .int b45, .ref b46, .ref b47, .ref b48, .ref b49, .ref b50, .int b51, .ref b52, .ref b53, .ref b54])), (b7, .inl (G.2 3, 240, .inl b55))] H := hP
        have hD := z_tie hP hD rfl
        try simp only [Int32.toInt_toInt64, ll_97] at hq_217
        have hv_222 : zI x_209 97 2147483647 := by have _a := hq_217; have _b := (zI_all x_209); have _c := zcl_97; simp only [Int32.toInt_toInt64] at *; exact ⟨by omega, by omega⟩
        try simp only [Int32.toInt_toInt64, ll_106] at hq_218
        have hv_223 : zI x_209 97 106 := by have _a := hq_218; have _b := hv_222; have _c := zcl_106; simp only [Int32.toInt_toInt64] at *; exact ⟨by omega, by omega⟩
        refine W.widen (k := 0) (n := 0) (Nat.le_of_ble_eq_true rfl) (Nat.le_of_ble_eq_true rfl) ?_
        refine lv_if_eq (tgt := 158) hx hb d_Model_readCalls_26 (by decide) (fun hc => absurd hc (by decide +kernel)) (fun _ => ?_)
        refine lv_aload_n hx hb d_Model_readCalls_29 rfl (lv_at hl 0 rfl) ?_
        refine va_get (D := G.1) (ci := 12) (v := .int y_197) (C := R_Model) (T := F_Model) (N := 54) hx hb hts i_Model hown hK hP 2 rfl rfl 14 (by decide) (hts _ q1123) (fun _ h9 => h9) rfl d_Model_readCalls_30 ?_
        refine lv_bipush (v := 12) hx hb d_Model_readCalls_33 (by decide) ?_
        refine lv_icmp_ne (tgt := 43) hx hb d_Model_readCalls_35 (by decide) (fun hc_224 => ?_) (fun hc_224 => ?_)
        · have _nhc_224 := hc_224
          have ni_225 : ¬ (y_197 : Int32).toInt = (12 : Int32).toInt := fun z => hc_224 ((fa_eq _ _).mpr z)
          simp only [li_12] at ni_225
          have hv_226 : zI y_197 0 11 := zI.ne_hi hy_197 zc_12 hc_224 (by decide)
          refine lv_aload_n hx hb d_Model_readCalls_43 rfl (lv_at hl 0 rfl) ?_
          refine va_get (D := G.1) (ci := 12) (v := .ref b13) (C := R_Model) (T := F_Model) (N := 54) hx hb hts i_Model hown hK hP 2 rfl rfl 12 (by decide) (hts _ q1121) (fun _ h9 => h9) rfl d_Model_readCalls_44 ?_
          refine lv_aload_n hx hb d_Model_readCalls_47 rfl (lv_at hl 0 rfl) ?_
          refine va_get (D := G.1) (ci := 12) (v := .int y_197) (C := R_Model) (T := F_Model) (N := 54) hx hb hts i_Model hown hK hP 2 rfl rfl 14 (by decide) (hts _ q1123) (fun _ h9 => h9) rfl d_Model_readCalls_48 ?_
          refine lv_aload_n hx hb d_Model_readCalls_51 rfl (lv_at hl 0 rfl) ?_
          refine va_get (D := G.1) (ci := 12) (v := .ref b7) (C := R_Model) (T := F_Model) (N := 54) hx hb hts i_Model hown hK hP 2 rfl rfl 6 (by decide) (hts _ q1115) (fun _ h9 => h9) rfl d_Model_readCalls_52 ?_
          refine lv_aload_n hx hb d_Model_readCalls_55 rfl (lv_at hl 0 rfl) ?_
          refine va_get (D := G.1) (ci := 12) (v := .int x_210) (C := R_Model) (T := F_Model) (N := 54) hx hb hts i_Model hown hK hP 2 rfl rfl 8 (by decide) (hts _ q1117) (fun _ h9 => h9) rfl d_Model_readCalls_56 ?_
          have hv_227 : zI x_210 0 239 := ⟨by omega, by omega⟩
          refine va_bald hx hb hK hP 3 3 rfl rfl (zI.inn hv_227 (by decide)) d_Model_readCalls_59 ?_
          refine lv_topi (fun v_228 ev_228 => ?_)
          have hv_229 : zI v_228 97 106 := by rcases hfx_211 with h9 | h9; exact absurd h9 (by omega); rw [ev_228, ← h9.2]; exact hv_223
          refine lv_bipush (v := 97) hx hb d_Model_readCalls_60 (by decide) ?_
          refine lv_isub hx hb d_Model_readCalls_62 ?_
          refine lv_topi (fun v_230 ev_230 => ?_)
          obtain ⟨qv_230, hv_230⟩ := zI_sub (l := 0) (h := 9) hv_229 zc_97 ev_230 (by decide)
          rw [li_97] at qv_230
          refine va_iast hx hb hK hP hD hS 0 0 rfl rfl (zI.inn hv_226 (by decide)) d_Model_readCalls_63 (fun H locs hP hD hS => ?_)
          obtain ⟨f_231, hf_231, gf_231, uf_231, hP, hD⟩ := z_newfu 0 hP hD rfl hy_200 hv_230
          have hP : va_P G.1 classes [(b13, .inl (G.2 0, 12, .inl f_231)), (b14, .inl (G.2 0, 12, .inl y_201)), (b0, .inr (12, [.int b1, .ref b2, .ref b3, .ref b4, .ref b5, .int b6, .ref b7, .int b8, .int x_210, .int y_198, .int y_199, .ref b12, .ref b13, .ref b14, .int y_197, .ref b16, .ref b17, .ref b18, .ref b19, .ref b20, .ref b21, .ref b22, .ref b23, .ref b24, .ref b25, .ref b26, .ref b27, .int b28, .ref b29, .ref b30, .int b31, .int b32, .int b33, .int b34, .ref b35, .ref b36, .ref b37, .ref b38, .ref b39, .ref b40, .ref b41, .int b42, .ref b43, .ref b44, .int b45, .ref b46, .ref b47, .ref b48, .ref b49, .ref b50, .int b51, .ref b52, .ref b53, .ref b54])), (b7, .inl (G.2 3, 240, .inl b55))] H := hP
          have hD := z_tie hP hD rfl
          refine lv_aload_n hx hb d_Model_readCalls_64 rfl (lv_at hl 0 rfl) ?_
          refine lv_dup hx hb d_Model_readCalls_65 rfl ?_
          refine va_get (D := G.1) (ci := 12) (v := .int x_210) (C := R_Model) (T := F_Model) (N := 54) hx hb hts i_Model hown hK hP 2 rfl rfl 8 (by decide) (hts _ q1117) (fun _ h9 => h9) rfl d_Model_readCalls_66 ?_
          refine lv_iconst (v := 1) hx hb d_Model_readCalls_69 (by decide) ?_
          refine lv_iadd hx hb d_Model_readCalls_70 ?_
          refine lv_topi (fun v_232 ev_232 => ?_)
          obtain ⟨qv_232, hv_232⟩ := zI_add (l := 1) (h := 240) hv_227 zc_1 ev_232 (by decide)
          rw [li_1] at qv_232
          refine va_put (D := G.1) (ci := 12) (v := .int v_232) (ty := .int) (C := R_Model) (T := F_Model) (N := 54) hx hb hts i_Model t_Model t_Model_ok n_Model hown hK hP hD hS 2 rfl rfl 8 (by decide) (hts _ q1117) (fun _ h9 => h9) rfl (by decide +kernel) rfl rfl (Nat.le_of_ble_eq_true rfl) d_Model_readCalls_71 (fun H locs hP hD hS => ?_)
          have hP : va_P G.1 classes [(b13, .inl (G.2 0, 12, .inl f_231)), (b14, .inl (G.2 0, 12, .inl y_201)), (b0, .inr (12, [.int b1, .ref b2, .ref b3, .ref b4, .ref b5, .int b6, .ref b7, .int b8, .int v_232, .int y_198, .int y_199, .ref b12, .ref b13, .ref b14, .int y_197, .ref b16, .ref b17, .ref b18, .ref b19, .ref b20, .ref b21, .ref b22, .ref b23, .ref b24, .ref b25, .ref b26, .ref b27, .int b28, .ref b29, .ref b30, .int b31, .int b32, .int b33, .int b34, .ref b35, .ref b36, .ref b37, .ref b38, .ref b39, .ref b40, .ref b41, .int b42, .ref b43, .ref b44, .int b45, .ref b46, .ref b47, .ref b48, .ref b49, .ref b50, .int b51, .ref b52, .ref b53, .ref b54])), (b7, .inl (G.2 3, 240, .inl b55))] H := hP
          have hD := z_tie hP hD rfl
          refine lv_iconst (v := 0) hx hb d_Model_readCalls_74 (by decide) ?_
          refine lv_istore_n (lv' := [(1, .int 0), (0, .ref b0)]) hx hb d_Model_readCalls_75 rfl hl (by decide) rfl (fun ls hl => ?_)
          refine lv_iconst (v := 0) hx hb d_Model_readCalls_76 (by decide) ?_
          refine lv_istore_n (lv' := [(2, .int 0), (1, .int 0), (0, .ref b0)]) hx hb d_Model_readCalls_77 rfl hl (by decide) rfl (fun ls hl => ?_)
          suffices key : ∀ (k_310 : Nat) (y_311 : Int32) (y_312 : Int32) (y_313 : Int32) (H : Heap) (locs : List Loc) (ls : Array Slot), (zI y_311 0 2) → (zI y_313 0 240) → (b9.toInt ≤ y_313.toInt) → (2 : Int) - y_311.toInt < (k_310 : Int) → va_P G.1 classes [(b13, .inl (G.2 0, 12, .inl f_231)), (b14, .inl (G.2 0, 12, .inl y_201)), (b0, .inr (12, [.int b1, .ref b2, .ref b3, .ref b4, .ref b5, .int b6, .ref b7, .int b8, .int y_313, .int y_198, .int y_199, .ref b12, .ref b13, .ref b14, .int y_197, .ref b16, .ref b17, .ref b18, .ref b19, .ref b20, .ref b21, .ref b22, .ref b23, .ref b24, .ref b25, .ref b26, .ref b27, .int b28, .ref b29, .ref b30, .int b31, .int b32, .int b33, .int b34, .ref b35, .ref b36, .ref b37, .ref b38, .ref b39, .ref b40, .ref b41, .int b42, .ref b43, .ref b44, .int b45, .ref b46, .ref b47, .ref b48, .ref b49, .ref b50, .int b51, .ref b52, .ref b53, .ref b54])), (b7, .inl (G.2 3, 240, .inl b55))] H → va_D A [(b13, .inl (G.2 0, 12, .inl f_231)), (b14, .inl (G.2 0, 12, .inl y_201)), (b0, .inr (12, [.int b1, .ref b2, .ref b3, .ref b4, .ref b5, .int b6, .ref b7, .int b8, .int y_313, .int y_198, .int y_199, .ref b12, .ref b13, .ref b14, .int y_197, .ref b16, .ref b17, .ref b18, .ref b19, .ref b20, .ref b21, .ref b22, .ref b23, .ref b24, .ref b25, .ref b26, .ref b27, .int b28, .ref b29, .ref b30, .int b31, .int b32, .int b33, .int b34, .ref b35, .ref b36, .ref b37, .ref b38, .ref b39, .ref b40, .ref b41, .int b42, .ref b43, .ref b44, .int b45, .ref b46, .ref b47, .ref b48, .ref b49, .ref b50, .int b51, .ref b52, .ref b53, .ref b54])), (b7, .inl (G.2 3, 240, .inl b55))] → va_S A s.heap H locs → lv_has ls 3 [(2, .int y_311), (1, .int y_312), (0, .ref b0)] → W p l e m_s1_Model_readCalls s m ([.ref b0] : List Value).toArray below meth c H locs 0 0 (MQ below (zQ G (fun v w => ∃ (e0 : Int32), ∃ (e1 : Int32), ∃ (e2 : Int32), ∃ (e3 : Int32), ∃ (e4 : Nat → Int32), ∃ (e5 : Nat → Int32), v = none ∧ w = [(b0, .inr (12, [.int b1, .ref b2, .ref b3, .ref b4, .ref b5, .int b6, .ref b7, .int b8, .int e0, .int e1, .int e2, .ref b12, .ref b13, .ref b14, .int e3, .ref b16, .ref b17, .ref b18, .ref b19, .ref b20, .ref b21, .ref b22, .ref b23, .ref b24, .ref b25, .ref b26, .ref b27, .int b28, .ref b29, .ref b30, .int b31, .int b32, .int b33, .int b34, .ref b35, .ref b36, .ref b37, .ref b38, .ref b39, .ref b40, .ref b41, .int b42, .ref b43, .ref b44, .int b45, .ref b46, .ref b47, .ref b48, .ref b49, .ref b50, .int b51, .ref b52, .ref b53, .ref b54])), (b7, .inl (G.2 3, 240, .inl b55)), (b13, .inl (G.2 0, 12, .inl e4)), (b14, .inl (G.2 0, 12, .inl e5))] ∧ (zI e0 0 240) ∧ (zI e2 0 1) ∧ (zI e3 0 12) ∧ (zR e4 0 9) ∧ (b9.toInt ≤ e0.toInt)) A) ([.ref b0] : List Value).toArray s m_s1_Model_readCalls.cells m_s1_Model_readCalls.slots A) (F0 m 78 ls []) by
            exact key 3 (0) (0) (v_232) _ _ _ (zI.wk (l' := 0) (h' := 2) zc_0 (by decide)) (zI.wk (l' := 0) (h' := 240) hv_232 (by decide)) (by omega) (zm_upi (zI.wk (l' := 0) (h' := 2) zc_0 (by decide)) (by decide)) hP hD hS (lv_sub hl [0, 1, 2] rfl)
          intro k_310
          induction k_310 with
          | zero =>
            intro y_311 y_312 y_313 H locs ls hy_311 hy_313 hli_314 hmk_310 hP hD hS hl
            exact (zm_up0 hy_311 hmk_310).elim
          | succ k_310 ihk_310 =>
            intro y_311 y_312 y_313 H locs ls hy_311 hy_313 hli_314 hmk_310 hP hD hS hl
            refine lv_iload_n hx hb d_Model_readCalls_78 rfl (lv_at hl 0 rfl) ?_
            refine lv_iconst (v := 2) hx hb d_Model_readCalls_79 (by decide) ?_
            refine lv_icmp_ge (tgt := 124) hx hb d_Model_readCalls_80 (by decide) (fun hc_315 => ?_) (fun hc_315 => ?_)
            · have _nhc_315 := hc_315
              have ni_316 := (fa_le _ _).mp hc_315
              rw [li_2] at ni_316
              have hv_317 : zI y_311 2 2 := zI.le_r zc_2 hy_311 hc_315 (by decide)
              refine lv_aload_n hx hb d_Model_readCalls_124 rfl (lv_at hl 2 rfl) ?_
              refine va_get (D := G.1) (ci := 12) (v := .ref b14) (C := R_Model) (T := F_Model) (N := 54) hx hb hts i_Model hown hK hP 2 rfl rfl 13 (by decide) (hts _ q1122) (fun _ h9 => h9) rfl d_Model_readCalls_125 ?_
              refine lv_aload_n hx hb d_Model_readCalls_128 rfl (lv_at hl 2 rfl) ?_
              refine va_get (D := G.1) (ci := 12) (v := .int y_197) (C := R_Model) (T := F_Model) (N := 54) hx hb hts i_Model hown hK hP 2 rfl rfl 14 (by decide) (hts _ q1123) (fun _ h9 => h9) rfl d_Model_readCalls_129 ?_
              refine lv_iload_n hx hb d_Model_readCalls_132 rfl (lv_at hl 1 rfl) ?_
              refine va_iast hx hb hK hP hD hS 1 0 rfl rfl (zI.inn hv_226 (by decide)) d_Model_readCalls_133 (fun H locs hP hD hS => ?_)
              obtain ⟨f_318, gf_318, uf_318, hP, hD⟩ := z_newFu 1 hP hD rfl
              have hP : va_P G.1 classes [(b13, .inl (G.2 0, 12, .inl f_231)), (b14, .inl (G.2 0, 12, .inl f_318)), (b0, .inr (12, [.int b1, .ref b2, .ref b3, .ref b4, .ref b5, .int b6, .ref b7, .int b8, .int y_313, .int y_198, .int y_199, .ref b12, .ref b13, .ref b14, .int y_197, .ref b16, .ref b17, .ref b18, .ref b19, .ref b20, .ref b21, .ref b22, .ref b23, .ref b24, .ref b25, .ref b26, .ref b27, .int b28, .ref b29, .ref b30, .int b31, .int b32, .int b33, .int b34, .ref b35, .ref b36, .ref b37, .ref b38, .ref b39, .ref b40, .ref b41, .int b42, .ref b43, .ref b44, .int b45, .ref b46, .ref b47, .ref b48, .ref b49, .ref b50, .int b51, .ref b52, .ref b53, .ref b54])), (b7, .inl (G.2 3, 240, .inl b55))] H := hP
              have hD := z_tie hP hD rfl
              refine lv_aload_n hx hb d_Model_readCalls_134 rfl (lv_at hl 2 rfl) ?_
              refine lv_dup hx hb d_Model_readCalls_135 rfl ?_
              refine va_get (D := G.1) (ci := 12) (v := .int y_197) (C := R_Model) (T := F_Model) (N := 54) hx hb hts i_Model hown hK hP 2 rfl rfl 14 (by decide) (hts _ q1123) (fun _ h9 => h9) rfl d_Model_readCalls_136 ?_
              refine lv_iconst (v := 1) hx hb d_Model_readCalls_139 (by decide) ?_
              refine lv_iadd hx hb d_Model_readCalls_140 ?_
              refine lv_topi (fun v_319 ev_319 => ?_)
              obtain ⟨qv_319, hv_319⟩ := zI_add (l := 1) (h := 12) hv_226 zc_1 ev_319 (by decide)
              rw [li_1] at qv_319
              refine va_put (D := G.1) (ci := 12) (v := .int v_319) (ty := .int) (C := R_Model) (T := F_Model) (N := 54) hx hb hts i_Model t_Model t_Model_ok n_Model hown hK hP hD hS 2 rfl rfl 14 (by decide) (hts _ q1123) (fun _ h9 => h9) rfl (by decide +kernel) rfl rfl (Nat.le_of_ble_eq_true rfl) d_Model_readCalls_141 (fun H locs hP hD hS => ?_)
              have hP : va_P G.1 classes [(b13, .inl (G.2 0, 12, .inl f_231)), (b14, .inl (G.2 0, 12, .inl f_318)), (b0, .inr (12, [.int b1, .ref b2, .ref b3, .ref b4, .ref b5, .int b6, .ref b7, .int b8, .int y_313, .int y_198, .int y_199, .ref b12, .ref b13, .ref b14, .int v_319, .ref b16, .ref b17, .ref b18, .ref b19, .ref b20, .ref b21, .ref b22, .ref b23, .ref b24, .ref b25, .ref b26, .ref b27, .int b28, .ref b29, .ref b30, .int b31, .int b32, .int b33, .int b34, .ref b35, .ref b36, .ref b37, .ref b38, .ref b39, .ref b40, .ref b41, .int b42, .ref b43, .ref b44, .int b45, .ref b46, .ref b47, .ref b48, .ref b49, .ref b50, .int b51, .ref b52, .ref b53, .ref b54])), (b7, .inl (G.2 3, 240, .inl b55))] H := hP
              have hD := z_tie hP hD rfl
              refine lv_aload_n hx hb d_Model_readCalls_144 rfl (lv_at hl 2 rfl) ?_
              refine z_callV (index := 172) (As := []) (rest := []) (wr := [(b13, .inl (G.2 0, 12, .inl f_231)), (b14, .inl (G.2 0, 12, .inl f_318))]) Z (s1_Model_isDigitHere l G (b0) (b1) (b2) (b3) (b4) (b5) (b6) (b7) (b8) (y_313) (y_198) (y_199) (b12) (b13) (b14) (v_319) (b16) (b17) (b18) (b19) (b20) (b21) (b22) (b23) (b24) (b25) (b26) (b27) (b28) (b29) (b30) (b31) (b32) (b33) (b34) (b35) (b36) (b37) (b38) (b39) (b40) (b41) (b42) (b43) (b44) (b45) (b46) (b47) (b48) (b49) (b50) (b51) (b52) (b53) (b54) (b55) hb6 hb8 hy_313 (zI.wk (l' := 0) (h' := 1) hv_207 (by decide)) (zI.wk (l' := 0) (h' := 12) hv_319 (by decide)) hb28 hb31 hb42 hb45 hb51) hl.1 q1306 q1308 qs48 q14 q1309 ⟨by decide, by decide, by show _ = some 0; decide +kernel⟩ ⟨Nat.le_of_ble_eq_true rfl, Nat.le_of_ble_eq_true rfl⟩ ⟨Nat.le_of_ble_eq_true rfl, Nat.le_of_ble_eq_true rfl⟩ rfl (Nat.le_of_ble_eq_true rfl) d_Model_readCalls_145 hP hD hS hA 2 12 rfl rfl rfl [2, 3] [0, 1] rfl rfl rfl rfl (by decide) (fun v w1 H locs hw_320 hP hD hS => ?_)
              rcases hw_320 with ⟨rfl, rfl, hq_321⟩ | ⟨rfl, rfl, hq_322⟩ | ⟨rfl, rfl, hq_323⟩ | ⟨rfl, rfl, hq_324⟩
              · have hP : va_P G.1 classes [(b13, .inl (G.2 0, 12, .inl f_231)), (b14, .inl (G.2 0, 12, .inl f_318)), (b0, .inr (12, [.int b1, .ref b2, .ref b3, .ref b4, .ref b5, .int b6, .ref b7, .int b8, .int y_313, .int y_198, .int y_199, .ref b12, .ref b13, .ref b14, .int v_319, .ref b16, .ref b17, .ref b18, .ref b19, .ref b20, .ref b21, .ref b22, .ref b23, .ref b24, .ref b25, .ref b26, .ref b27, .int b28, .ref b29, .ref b30, .int b31, .int b32, .int b33, .int b34, .ref b35, .ref b36, .ref b37, .ref b38, .ref b39, .ref b40, .ref b41, .int b42, .ref b43, .ref b44, .int b45, .ref b46, .ref b47, .ref b48, .ref b49, .ref b50, .int b51, .ref b52, .ref b53, .ref b54])), (b7, .inl (G.2 3, 240, .inl b55))] H := hP
                have hD := z_tie hP hD rfl
                refine W.widen (k := 0) (n := 0) (Nat.le_of_ble_eq_true rfl) (Nat.le_of_ble_eq_true rfl) ?_
                refine lv_if_eq (tgt := 155) hx hb d_Model_readCalls_148 (by decide) (fun _ => ?_) (fun hc => absurd hc (by decide +kernel))
                refine lv_goto (tgt := 5) hx hb d_Model_readCalls_155 (by decide) ?_
                exact ihk_195 (y_313) (v_319) (y_198) (y_199) (f_231) (f_318) _ _ _ hy_313 (zI.wk (l' := 0) (h' := 12) hv_319 (by decide)) (zI.wk (l' := 0) (h' := 1) hv_207 (by decide)) hf_231 (by omega) (by omega) (hP.sub [2, 3, 0, 1] rfl) (hD.sub [2, 3, 0, 1] (by decide) rfl) hS (lv_sub hl [2] rfl)
              · have hP : va_P G.1 classes [(b13, .inl (G.2 0, 12, .inl f_231)), (b14, .inl (G.2 0, 12, .inl f_318)), (b0, .inr (12, [.int b1, .ref b2, .ref b3, .ref b4, .ref b5, .int b6, .ref b7, .int b8, .int y_313, .int y_198, .int y_199, .ref b12, .ref b13, .ref b14, .int v_319, .ref b16, .ref b17, .ref b18, .ref b19, .ref b20, .ref b21, .ref b22, .ref b23, .ref b24, .ref b25, .ref b26, .ref b27, .int b28, .ref b29, .ref b30, .int b31, .int b32, .int b33, .int b34, .ref b35, .ref b36, .ref b37, .ref b38, .ref b39, .ref b40, .ref b41, .int b42, .ref b43, .ref b44, .int b45, .ref b46, .ref b47, .ref b48, .ref b49, .ref b50, .int b51, .ref b52, .ref b53, .ref b54])), (b7, .inl (G.2 3, 240, .inl b55))] H := hP
                have hD := z_tie hP hD rfl
                have hv_325 : zI y_313 0 239 := by have _a := hq_322; have _b := hy_313; have _c := hb8; exact ⟨by omega, by omega⟩
                have hv_326 : zI b8 1 240 := by have _a := hq_322; have _b := hb8; have _c := hv_325; exact ⟨by omega, by omega⟩
                refine W.widen (k := 0) (n := 0) (Nat.le_of_ble_eq_true rfl) (Nat.le_of_ble_eq_true rfl) ?_
                refine lv_if_eq (tgt := 155) hx hb d_Model_readCalls_148 (by decide) (fun _ => ?_) (fun hc => absurd hc (by decide +kernel))
                refine lv_goto (tgt := 5) hx hb d_Model_readCalls_155 (by decide) ?_
                exact ihk_195 (y_313) (v_319) (y_198) (y_199) (f_231) (f_318) _ _ _ (zI.wk (l' := 0) (h' := 240) hv_325 (by decide)) (zI.wk (l' := 0) (h' := 12) hv_319 (by decide)) (zI.wk (l' := 0) (h' := 1) hv_207 (by decide)) hf_231 (by omega) (by omega) (hP.sub [2, 3, 0, 1] rfl) (hD.sub [2, 3, 0, 1] (by decide) rfl) hS (lv_sub hl [2] rfl)
              · have hP : va_P G.1 classes [(b13, .inl (G.2 0, 12, .inl f_231)), (b14, .inl (G.2 0, 12, .inl f_318)), (b0, .inr (12, [.int b1, .ref b2, .ref b3, .ref b4, .ref b5, .int b6, .ref b7, .int b8, .int y_313, .int y_198, .int y_199, .ref b12, .ref b13, .ref b14, .int v_319, .ref b16, .ref b17, .ref b18, .ref b19, .ref b20, .ref b21, .ref b22, .ref b23, .ref b24, .ref b25, .ref b26, .ref b27, .int b28, .ref b29, .ref b30, .int b31, .int b32, .int b33, .int b34, .ref b35, .ref b36, .ref b37, .ref b38, .ref b39, .ref b40, .ref b41, .int b42, .ref b43, .ref b44, .int b45, .ref b46, .ref b47, .ref b48, .ref b49, .ref b50, .int b51, .ref b52, .ref b53, .ref b54])), (b7, .inl (G.2 3, 240, .inl b55))] H := hP
                have hD := z_tie hP hD rfl
                have hv_327 : zI y_313 0 239 := by have _a := hq_323; have _b := hy_313; have _c := hb8; exact ⟨by omega, by omega⟩
                have hv_328 : zI b8 1 240 := by have _a := hq_323; have _b := hb8; have _c := hv_327; exact ⟨by omega, by omega⟩
                refine W.widen (k := 0) (n := 0) (Nat.le_of_ble_eq_true rfl) (Nat.le_of_ble_eq_true rfl) ?_
                refine lv_if_eq (tgt := 155) hx hb d_Model_readCalls_148 (by decide) (fun _ => ?_) (fun hc => absurd hc (by decide +kernel))
                refine lv_goto (tgt := 5) hx hb d_Model_readCalls_155 (by decide) ?_
                exact ihk_195 (y_313) (v_319) (y_198) (y_199) (f_231) (f_318) _ _ _ (zI.wk (l' := 0) (h' := 240) hv_327 (by decide)) (zI.wk (l' := 0) (h' := 12) hv_319 (by decide)) (zI.wk (l' := 0) (h' := 1) hv_207 (by decide)) hf_231 (by omega) (by omega) (hP.sub [2, 3, 0, 1] rfl) (hD.sub [2, 3, 0, 1] (by decide) rfl) hS (lv_sub hl [2] rfl)
              · have hP : va_P G.1 classes [(b13, .inl (G.2 0, 12, .inl f_231)), (b14, .inl (G.2 0, 12, .inl f_318)), (b0, .inr (12, [.int b1, .ref b2, .ref b3, .ref b4, .ref b5, .int b6, .ref b7, .int b8, .int y_313, .int y_198, .int y_199, .ref b12, .ref b13, .ref b14, .int v_319, .ref b16, .ref b17, .ref b18, .ref b19, .ref b20, .ref b21, .ref b22, .ref b23, .ref b24, .ref b25, .ref b26, .ref b27, .int b28, .ref b29, .ref b30, .int b31, .int b32, .int b33, .int b34, .ref b35, .ref b36, .ref b37, .ref b38, .ref b39, .ref b40, .ref b41, .int b42, .ref b43, .ref b44, .int b45, .ref b46, .ref b47, .ref b48, .ref b49, .ref b50, .int b51, .ref b52, .ref b53, .ref b54])), (b7, .inl (G.2 3, 240, .inl b55))] H := hP
                have hD := z_tie hP hD rfl
                have hv_329 : zI y_313 0 239 := by have _a := hq_324; have _b := hy_313; have _c := hb8; exact ⟨by omega, by omega⟩
                have hv_330 : zI b8 1 240 := by have _a := hq_324; have _b := hb8; have _c := hv_329; exact ⟨by omega, by omega⟩
                refine W.widen (k := 0) (n := 0) (Nat.le_of_ble_eq_true rfl) (Nat.le_of_ble_eq_true rfl) ?_
                refine lv_if_eq (tgt := 155) hx hb d_Model_readCalls_148 (by decide) (fun hc => absurd hc (by decide +kernel)) (fun _ => ?_)
                refine lv_aload_n hx hb d_Model_readCalls_151 rfl (lv_at hl 2 rfl) ?_
                refine z_callV (index := 169) (As := []) (rest := []) (wr := [(b13, .inl (G.2 0, 12, .inl f_231)), (b14, .inl (G.2 0, 12, .inl f_318)), (b7, .inl (G.2 3, 240, .inl b55))]) Z (s1_Model_wrong l G (b0) (b1) (b2) (b3) (b4) (b5) (b6) (b7) (b8) (y_313) (y_198) (y_199) (b12) (b13) (b14) (v_319) (b16) (b17) (b18) (b19) (b20) (b21) (b22) (b23) (b24) (b25) (b26) (b27) (b28) (b29) (b30) (b31) (b32) (b33) (b34) (b35) (b36) (b37) (b38) (b39) (b40) (b41) (b42) (b43) (b44) (b45) (b46) (b47) (b48) (b49) (b50) (b51) (b52) (b53) (b54) hb6 (zI.wk (l' := 0) (h' := 240) hv_330 (by decide)) (zI.wk (l' := 0) (h' := 240) hv_329 (by decide)) (zI.wk (l' := 0) (h' := 1) hv_207 (by decide)) (zI.wk (l' := 0) (h' := 12) hv_319 (by decide)) hb28 hb31 hb42 hb45 hb51) hl.1 q1296 q1298 qs46 q14 q1299 ⟨by decide, by decide, by show _ = some 0; decide +kernel⟩ ⟨Nat.le_of_ble_eq_true rfl, Nat.le_of_ble_eq_true rfl⟩ ⟨Nat.le_of_ble_eq_true rfl, Nat.le_of_ble_eq_true rfl⟩ rfl (Nat.le_of_ble_eq_true rfl) d_Model_readCalls_152 hP hD hS hA 2 12 rfl rfl rfl [2] [0, 1, 3] rfl rfl rfl rfl (by decide) (fun v w1 H locs hw_331 hP hD hS => ?_)
                obtain ⟨x_332, rfl, rfl⟩ := hw_331
                have hP : va_P G.1 classes [(b13, .inl (G.2 0, 12, .inl f_231)), (b14, .inl (G.2 0, 12, .inl f_318)), (b7, .inl (G.2 3, 240, .inl b55)), (b0, .inr (12, [.int b1, .ref b2, .ref b3, .ref b4, .ref b5, .int b6, .ref b7, .int b8, .int y_313, .int x_332, .int 0, .ref b12, .ref b13, .ref b14, .int v_319, .ref b16, .ref b17, .ref b18, .ref b19, .ref b20, .ref b21, .ref b22, .ref b23, .ref b24, .ref b25, .ref b26, .ref b27, .int b28, .ref b29, .ref b30, .int b31, .int b32, .int b33, .int b34, .ref b35, .ref b36, .ref b37, .ref b38, .ref b39, .ref b40, .ref b41, .int b42, .ref b43, .ref b44, .int b45, .ref b46, .ref b47, .ref b48, .ref b49, .ref b50, .int b51, .ref b52, .ref b53, .ref b54]))] H := hP
                have hD := z_tie hP hD rfl
                refine W.widen (k := 0) (n := 0) (Nat.le_of_ble_eq_true rfl) (Nat.le_of_ble_eq_true rfl) ?_
                refine lv_goto (tgt := 5) hx hb d_Model_readCalls_155 (by decide) ?_
                exact ihk_195 (y_313) (v_319) (x_332) (0) (f_231) (f_318) _ _ _ (zI.wk (l' := 0) (h' := 240) hv_329 (by decide)) (zI.wk (l' := 0) (h' := 12) hv_319 (by decide)) (zI.wk (l' := 0) (h' := 1) zc_0 (by decide)) hf_231 (by omega) (by omega) (hP.sub [3, 2, 0, 1] rfl) (hD.sub [3, 2, 0, 1] (by decide) rfl) hS (lv_sub hl [2] rfl)
            · have _nhc_315 := hc_315
              have ni_333 := (fa_lt _ _).mp (zi_nle hc_315)
              rw [li_2] at ni_333
              have hv_334 : zI y_311 0 1 := zI.lt_l hy_311 zc_2 (zi_nle hc_315) (by decide)
              refine lv_aload_n hx hb d_Model_readCalls_83 rfl (lv_at hl 2 rfl) ?_
              refine z_callV (index := 172) (As := []) (rest := []) (wr := [(b13, .inl (G.2 0, 12, .inl f_231)), (b14, .inl (G.2 0, 12, .inl y_201))]) Z (s1_Model_isDigitHere l G (b0) (b1) (b2) (b3) (b4) (b5) (b6) (b7) (b8) (y_313) (y_198) (y_199) (b12) (b13) (b14) (y_197) (b16) (b17) (b18) (b19) (b20) (b21) (b22) (b23) (b24) (b25) (b26) (b27) (b28) (b29) (b30) (b31) (b32) (b33) (b34) (b35) (b36) (b37) (b38) (b39) (b40) (b41) (b42) (b43) (b44) (b45) (b46) (b47) (b48) (b49) (b50) (b51) (b52) (b53) (b54) (b55) hb6 hb8 hy_313 (zI.wk (l' := 0) (h' := 1) hv_207 (by decide)) (zI.wk (l' := 0) (h' := 12) hv_226 (by decide)) hb28 hb31 hb42 hb45 hb51) hl.1 q1306 q1308 qs48 q14 q1309 ⟨by decide, by decide, by show _ = some 0; decide +kernel⟩ ⟨Nat.le_of_ble_eq_true rfl, Nat.le_of_ble_eq_true rfl⟩ ⟨Nat.le_of_ble_eq_true rfl, Nat.le_of_ble_eq_true rfl⟩ rfl (Nat.le_of_ble_eq_true rfl) d_Model_readCalls_84 hP hD hS hA 2 12 rfl rfl rfl [2, 3] [0, 1] rfl rfl rfl rfl (by decide) (fun v w1 H locs hw_335 hP hD hS => ?_)
              rcases hw_335 with ⟨rfl, rfl, hq_336⟩ | ⟨rfl, rfl, hq_337⟩ | ⟨rfl, rfl, hq_338⟩ | ⟨rfl, rfl, hq_339⟩
              · have hP : va_P G.1 classes [(b13, .inl (G.2 0, 12, .inl f_231)), (b14, .inl (G.2 0, 12, .inl y_201)), (b0, .inr (12, [.int b1, .ref b2, .ref b3, .ref b4, .ref b5, .int b6, .ref b7, .int b8, .int y_313, .int y_198, .int y_199, .ref b12, .ref b13, .ref b14, .int y_197, .ref b16, .ref b17, .ref b18, .ref b19, .ref b20, .ref b21, .ref b22, .ref b23, .ref b24, .ref b25, .ref b26, .ref b27, .int b28, .ref b29, .ref b30, .int b31, .int b32, .int b33, .int b34, .ref b35, .ref b36, .ref b37, .ref b38, .ref b39, .ref b40, .ref b41, .int b42, .ref b43, .ref b44, .int b45, .ref b46, .ref b47, .ref b48, .ref b49, .ref b50, .int b51, .ref b52, .ref b53, .ref b54])), (b7, .inl (G.2 3, 240, .inl b55))] H := hP
                have hD := z_tie hP hD rfl
                refine W.widen (k := 0) (n := 0) (Nat.le_of_ble_eq_true rfl) (Nat.le_of_ble_eq_true rfl) ?_
                refine lv_if_eq (tgt := 124) hx hb d_Model_readCalls_87 (by decide) (fun _ => ?_) (fun hc => absurd hc (by decide +kernel))
                refine lv_aload_n hx hb d_Model_readCalls_124 rfl (lv_at hl 2 rfl) ?_
                refine va_get (D := G.1) (ci := 12) (v := .ref b14) (C := R_Model) (T := F_Model) (N := 54) hx hb hts i_Model hown hK hP 2 rfl rfl 13 (by decide) (hts _ q1122) (fun _ h9 => h9) rfl d_Model_readCalls_125 ?_
                refine lv_aload_n hx hb d_Model_readCalls_128 rfl (lv_at hl 2 rfl) ?_
                refine va_get (D := G.1) (ci := 12) (v := .int y_197) (C := R_Model) (T := F_Model) (N := 54) hx hb hts i_Model hown hK hP 2 rfl rfl 14 (by decide) (hts _ q1123) (fun _ h9 => h9) rfl d_Model_readCalls_129 ?_
                refine lv_iload_n hx hb d_Model_readCalls_132 rfl (lv_at hl 1 rfl) ?_
                refine va_iast hx hb hK hP hD hS 1 0 rfl rfl (zI.inn hv_226 (by decide)) d_Model_readCalls_133 (fun H locs hP hD hS => ?_)
                obtain ⟨f_340, gf_340, uf_340, hP, hD⟩ := z_newFu 1 hP hD rfl
                have hP : va_P G.1 classes [(b13, .inl (G.2 0, 12, .inl f_231)), (b14, .inl (G.2 0, 12, .inl f_340)), (b0, .inr (12, [.int b1, .ref b2, .ref b3, .ref b4, .ref b5, .int b6, .ref b7, .int b8, .int y_313, .int y_198, .int y_199, .ref b12, .ref b13, .ref b14, .int y_197, .ref b16, .ref b17, .ref b18, .ref b19, .ref b20, .ref b21, .ref b22, .ref b23, .ref b24, .ref b25, .ref b26, .ref b27, .int b28, .ref b29, .ref b30, .int b31, .int b32, .int b33, .int b34, .ref b35, .ref b36, .ref b37, .ref b38, .ref b39, .ref b40, .ref b41, .int b42, .ref b43, .ref b44, .int b45, .ref b46, .ref b47, .ref b48, .ref b49, .ref b50, .int b51, .ref b52, .ref b53, .ref b54])), (b7, .inl (G.2 3, 240, .inl b55))] H := hP
                have hD := z_tie hP hD rfl
                refine lv_aload_n hx hb d_Model_readCalls_134 rfl (lv_at hl 2 rfl) ?_
                refine lv_dup hx hb d_Model_readCalls_135 rfl ?_
                refine va_get (D := G.1) (ci := 12) (v := .int y_197) (C := R_Model) (T := F_Model) (N := 54) hx hb hts i_Model hown hK hP 2 rfl rfl 14 (by decide) (hts _ q1123) (fun _ h9 => h9) rfl d_Model_readCalls_136 ?_
                refine lv_iconst (v := 1) hx hb d_Model_readCalls_139 (by decide) ?_
                refine lv_iadd hx hb d_Model_readCalls_140 ?_
                refine lv_topi (fun v_341 ev_341 => ?_)
                obtain ⟨qv_341, hv_341⟩ := zI_add (l := 1) (h := 12) hv_226 zc_1 ev_341 (by decide)
                rw [li_1] at qv_341
                refine va_put (D := G.1) (ci := 12) (v := .int v_341) (ty := .int) (C := R_Model) (T := F_Model) (N := 54) hx hb hts i_Model t_Model t_Model_ok n_Model hown hK hP hD hS 2 rfl rfl 14 (by decide) (hts _ q1123) (fun _ h9 => h9) rfl (by decide +kernel) rfl rfl (Nat.le_of_ble_eq_true rfl) d_Model_readCalls_141 (fun H locs hP hD hS => ?_)
                have hP : va_P G.1 classes [(b13, .inl (G.2 0, 12, .inl f_231)), (b14, .inl (G.2 0, 12, .inl f_340)), (b0, .inr (12, [.int b1, .ref b2, .ref b3, .ref b4, .ref b5, .int b6, .ref b7, .int b8, .int y_313, .int y_198, .int y_199, .ref b12, .ref b13, .ref b14, .int v_341, .ref b16, .ref b17, .ref b18, .ref b19, .ref b20, .ref b21, .ref b22, .ref b23, .ref b24, .ref b25, .ref b26, .ref b27, .int b28, .ref b29, .ref b30, .int b31, .int b32, .int b33, .int b34, .ref b35, .ref b36, .ref b37, .ref b38, .ref b39, .ref b40, .ref b41, .int b42, .ref b43, .ref b44, .int b45, .ref b46, .ref b47, .ref b48, .ref b49, .ref b50, .int b51, .ref b52, .ref b53, .ref b54])), (b7, .inl (G.2 3, 240, .inl b55))] H := hP
                have hD := z_tie hP hD rfl
                refine lv_aload_n hx hb d_Model_readCalls_144 rfl (lv_at hl 2 rfl) ?_
                refine z_callV (index := 172) (As := []) (rest := []) (wr := [(b13, .inl (G.2 0, 12, .inl f_231)), (b14, .inl (G.2 0, 12, .inl f_340))]) Z (s1_Model_isDigitHere l G (b0) (b1) (b2) (b3) (b4) (b5) (b6) (b7) (b8) (y_313) (y_198) (y_199) (b12) (b13) (b14) (v_341) (b16) (b17) (b18) (b19) (b20) (b21) (b22) (b23) (b24) (b25) (b26) (b27) (b28) (b29) (b30) (b31) (b32) (b33) (b34) (b35) (b36) (b37) (b38) (b39) (b40) (b41) (b42) (b43) (b44) (b45) (b46) (b47) (b48) (b49) (b50) (b51) (b52) (b53) (b54) (b55) hb6 hb8 hy_313 (zI.wk (l' := 0) (h' := 1) hv_207 (by decide)) (zI.wk (l' := 0) (h' := 12) hv_341 (by decide)) hb28 hb31 hb42 hb45 hb51) hl.1 q1306 q1308 qs48 q14 q1309 ⟨by decide, by decide, by show _ = some 0; decide +kernel⟩ ⟨Nat.le_of_ble_eq_true rfl, Nat.le_of_ble_eq_true rfl⟩ ⟨Nat.le_of_ble_eq_true rfl, Nat.le_of_ble_eq_true rfl⟩ rfl (Nat.le_of_ble_eq_true rfl) d_Model_readCalls_145 hP hD hS hA 2 12 rfl rfl rfl [2, 3] [0, 1] rfl rfl rfl rfl (by decide) (fun v w1 H locs hw_342 hP hD hS => ?_)
                rcases hw_342 with ⟨rfl, rfl, hq_343⟩ | ⟨rfl, rfl, hq_344⟩ | ⟨rfl, rfl, hq_345⟩ | ⟨rfl, rfl, hq_346⟩
                · have hP : va_P G.1 classes [(b13, .inl (G.2 0, 12, .inl f_231)), (b14, .inl (G.2 0, 12, .inl f_340)), (b0, .inr (12, [.int b1, .ref b2, .ref b3, .ref b4, .ref b5, .int b6, .ref b7, .int b8, .int y_313, .int y_198, .int y_199, .ref b12, .ref b13, .ref b14, .int v_341, .ref b16, .ref b17, .ref b18, .ref b19, .ref b20, .ref b21, .ref b22, .ref b23, .ref b24, .ref b25, .ref b26, .ref b27, .int b28, .ref b29, .ref b30, .int b31, .int b32, .int b33, .int b34, .ref b35, .ref b36, .ref b37, .ref b38, .ref b39, .ref b40, .ref b41, .int b42, .ref b43, .ref b44, .int b45, .ref b46, .ref b47, .ref b48, .ref b49, .ref b50, .int b51, .ref b52, .ref b53, .ref b54])), (b7, .inl (G.2 3, 240, .inl b55))] H := hP
                  have hD := z_tie hP hD rfl
                  refine W.widen (k := 0) (n := 0) (Nat.le_of_ble_eq_true rfl) (Nat.le_of_ble_eq_true rfl) ?_
                  refine lv_if_eq (tgt := 155) hx hb d_Model_readCalls_148 (by decide) (fun _ => ?_) (fun hc => absurd hc (by decide +kernel))
                  refine lv_goto (tgt := 5) hx hb d_Model_readCalls_155 (by decide) ?_
                  exact ihk_195 (y_313) (v_341) (y_198) (y_199) (f_231) (f_340) _ _ _ hy_313 (zI.wk (l' := 0) (h' := 12) hv_341 (by decide)) (zI.wk (l' := 0) (h' := 1) hv_207 (by decide)) hf_231 (by omega) (by omega) (hP.sub [2, 3, 0, 1] rfl) (hD.sub [2, 3, 0, 1] (by decide) rfl) hS (lv_sub hl [2] rfl)
                · have hP : va_P G.1 classes [(b13, .inl (G.2 0, 12, .inl f_231)), (b14, .inl (G.2 0, 12, .inl f_340)), (b0, .inr (12, [.int b1, .ref b2, .ref b3, .ref b4, .ref b5, .int b6, .ref b7, .int b8, .int y_313, .int y_198, .int y_199, .ref b12, .ref b13, .ref b14, .int v_341, .ref b16, .ref b17, .ref b18, .ref b19, .ref b20, .ref b21, .ref b22, .ref b23, .ref b24, .ref b25, .ref b26, .ref b27, .int b28, .ref b29, .ref b30, .int b31, .int b32, .int b33, .int b34, .ref b35, .ref b36, .ref b37, .ref b38, .ref b39, .ref b40, .ref b41, .int b42, .ref b43, .ref b44, .int b45, .ref b46, .ref b47, .ref b48, .ref b49, .ref b50, .int b51, .ref b52, .ref b53, .ref b54])), (b7, .inl (G.2 3, 240, .inl b55))] H := hP
                  have hD := z_tie hP hD rfl
                  have hv_347 : zI y_313 0 239 := by have _a := hq_344; have _b := hy_313; have _c := hb8; exact ⟨by omega, by omega⟩
                  have hv_348 : zI b8 1 240 := by have _a := hq_344; have _b := hb8; have _c := hv_347; exact ⟨by omega, by omega⟩
                  refine W.widen (k := 0) (n := 0) (Nat.le_of_ble_eq_true rfl) (Nat.le_of_ble_eq_true rfl) ?_
                  refine lv_if_eq (tgt := 155) hx hb d_Model_readCalls_148 (by decide) (fun _ => ?_) (fun hc => absurd hc (by decide +kernel))
                  refine lv_goto (tgt := 5) hx hb d_Model_readCalls_155 (by decide) ?_
                  exact ihk_195 (y_313) (v_341) (y_198) (y_199) (f_231) (f_340) _ _ _ (zI.wk (l' := 0) (h' := 240) hv_347 (by decide)) (zI.wk (l' := 0) (h' := 12) hv_341 (by decide)) (zI.wk (l' := 0) (h' := 1) hv_207 (by decide)) hf_231 (by omega) (by omega) (hP.sub [2, 3, 0, 1] rfl) (hD.sub [2, 3, 0, 1] (by decide) rfl) hS (lv_sub hl [2] rfl)
                · have hP : va_P G.1 classes [(b13, .inl (G.2 0, 12, .inl f_231)), (b14, .inl (G.2 0, 12, .inl f_340)), (b0, .inr (12, [.int b1, .ref b2, .ref b3, .ref b4, .ref b5, .int b6, .ref b7, .int b8, .int y_313, .int y_198, .int y_199, .ref b12, .ref b13, .ref b14, .int v_341, .ref b16, .ref b17, .ref b18, .ref b19, .ref b20, .ref b21, .ref b22, .ref b23, .ref b24, .ref b25, .ref b26, .ref b27, .int b28, .ref b29, .ref b30, .int b31, .int b32, .int b33, .int b34, .ref b35, .ref b36, .ref b37, .ref b38, .ref b39, .ref b40, .ref b41, .int b42, .ref b43, .ref b44, .int b45, .ref b46, .ref b47, .ref b48, .ref b49, .ref b50, .int b51, .ref b52, .ref b53, .ref b54])), (b7, .inl (G.2 3, 240, .inl b55))] H := hP
                  have hD := z_tie hP hD rfl
                  have hv_349 : zI y_313 0 239 := by have _a := hq_345; have _b := hy_313; have _c := hb8; exact ⟨by omega, by omega⟩
                  have hv_350 : zI b8 1 240 := by have _a := hq_345; have _b := hb8; have _c := hv_349; exact ⟨by omega, by omega⟩
                  refine W.widen (k := 0) (n := 0) (Nat.le_of_ble_eq_true rfl) (Nat.le_of_ble_eq_true rfl) ?_
                  refine lv_if_eq (tgt := 155) hx hb d_Model_readCalls_148 (by decide) (fun _ => ?_) (fun hc => absurd hc (by decide +kernel))
                  refine lv_goto (tgt := 5) hx hb d_Model_readCalls_155 (by decide) ?_
                  exact ihk_195 (y_313) (v_341) (y_198) (y_199) (f_231) (f_340) _ _ _ (zI.wk (l' := 0) (h' := 240) hv_349 (by decide)) (zI.wk (l' := 0) (h' := 12) hv_341 (by decide)) (zI.wk (l' := 0) (h' := 1) hv_207 (by decide)) hf_231 (by omega) (by omega) (hP.sub [2, 3, 0, 1] rfl) (hD.sub [2, 3, 0, 1] (by decide) rfl) hS (lv_sub hl [2] rfl)
                · have hP : va_P G.1 classes [(b13, .inl (G.2 0, 12, .inl f_231)), (b14, .inl (G.2 0, 12, .inl f_340)), (b0, .inr (12, [.int b1, .ref b2, .ref b3, .ref b4, .ref b5, .int b6, .ref b7, .int b8, .int y_313, .int y_198, .int y_199, .ref b12, .ref b13, .ref b14, .int v_341, .ref b16, .ref b17, .ref b18, .ref b19, .ref b20, .ref b21, .ref b22, .ref b23, .ref b24, .ref b25, .ref b26, .ref b27, .int b28, .ref b29, .ref b30, .int b31, .int b32, .int b33, .int b34, .ref b35, .ref b36, .ref b37, .ref b38, .ref b39, .ref b40, .ref b41, .int b42, .ref b43, .ref b44, .int b45, .ref b46, .ref b47, .ref b48, .ref b49, .ref b50, .int b51, .ref b52, .ref b53, .ref b54])), (b7, .inl (G.2 3, 240, .inl b55))] H := hP
                  have hD := z_tie hP hD rfl
                  have hv_351 : zI y_313 0 239 := by have _a := hq_346; have _b := hy_313; have _c := hb8; exact ⟨by omega, by omega⟩
                  have hv_352 : zI b8 1 240 := by have _a := hq_346; have _b := hb8; have _c := hv_351; exact ⟨by omega, by omega⟩
                  refine W.widen (k := 0) (n := 0) (Nat.le_of_ble_eq_true rfl) (Nat.le_of_ble_eq_true rfl) ?_
                  refine lv_if_eq (tgt := 155) hx hb d_Model_readCalls_148 (by decide) (fun hc => absurd hc (by decide +kernel)) (fun _ => ?_)
                  refine lv_aload_n hx hb d_Model_readCalls_151 rfl (lv_at hl 2 rfl) ?_
                  refine z_callV (index := 169) (As := []) (rest := []) (wr := [(b13, .inl (G.2 0, 12, .inl f_231)), (b14, .inl (G.2 0, 12, .inl f_340)), (b7, .inl (G.2 3, 240, .inl b55))]) Z (s1_Model_wrong l G (b0) (b1) (b2) (b3) (b4) (b5) (b6) (b7) (b8) (y_313) (y_198) (y_199) (b12) (b13) (b14) (v_341) (b16) (b17) (b18) (b19) (b20) (b21) (b22) (b23) (b24) (b25) (b26) (b27) (b28) (b29) (b30) (b31) (b32) (b33) (b34) (b35) (b36) (b37) (b38) (b39) (b40) (b41) (b42) (b43) (b44) (b45) (b46) (b47) (b48) (b49) (b50) (b51) (b52) (b53) (b54) hb6 (zI.wk (l' := 0) (h' := 240) hv_352 (by decide)) (zI.wk (l' := 0) (h' := 240) hv_351 (by decide)) (zI.wk (l' := 0) (h' := 1) hv_207 (by decide)) (zI.wk (l' := 0) (h' := 12) hv_341 (by decide)) hb28 hb31 hb42 hb45 hb51) hl.1 q1296 q1298 qs46 q14 q1299 ⟨by decide, by decide, by show _ = some 0; decide +kernel⟩ ⟨Nat.le_of_ble_eq_true rfl, Nat.le_of_ble_eq_true rfl⟩ ⟨Nat.le_of_ble_eq_true rfl, Nat.le_of_ble_eq_true rfl⟩ rfl (Nat.le_of_ble_eq_true rfl) d_Model_readCalls_152 hP hD hS hA 2 12 rfl rfl rfl [2] [0, 1, 3] rfl rfl rfl rfl (by decide) (fun v w1 H locs hw_353 hP hD hS => ?_)
                  obtain ⟨x_354, rfl, rfl⟩ := hw_353
                  have hP : va_P G.1 classes [(b13, .inl (G.2 0, 12, .inl f_231)), (b14, .inl (G.2 0, 12, .inl f_340)), (b7, .inl (G.2 3, 240, .inl b55)), (b0, .inr (12, [.int b1, .ref b2, .ref b3, .ref b4, .ref b5, .int b6, .ref b7, .int b8, .int y_313, .int x_354, .int 0, .ref b12, .ref b13, .ref b14, .int v_341, .ref b16, .ref b17, .ref b18, .ref b19, .ref b20, .ref b21, .ref b22, .ref b23, .ref b24, .ref b25, .ref b26, .ref b27, .int b28, .ref b29, .ref b30, .int b31, .int b32, .int b33, .int b34, .ref b35, .ref b36, .ref b37, .ref b38, .ref b39, .ref b40, .ref b41, .int b42, .ref b43, .ref b44, .int b45, .ref b46, .ref b47, .ref b48, .ref b49, .ref b50, .int b51, .ref b52, .ref b53, .ref b54]))] H := hP
                  have hD := z_tie hP hD rfl
                  refine W.widen (k := 0) (n := 0) (Nat.le_of_ble_eq_true rfl) (Nat.le_of_ble_eq_true rfl) ?_
                  refine lv_goto (tgt := 5) hx hb d_Model_readCalls_155 (by decide) ?_
                  exact ihk_195 (y_313) (v_341) (x_354) (0) (f_231) (f_340) _ _ _ (zI.wk (l' := 0) (h' := 240) hv_351 (by decide)) (zI.wk (l' := 0) (h' := 12) hv_341 (by decide)) (zI.wk (l' := 0) (h' := 1) zc_0 (by decide)) hf_231 (by omega) (by omega) (hP.sub [3, 2, 0, 1] rfl) (hD.sub [3, 2, 0, 1] (by decide) rfl) hS (lv_sub hl [2] rfl)
              · have hP : va_P G.1 classes [(b13, .inl (G.2 0, 12, .inl f_231)), (b14, .inl (G.2 0, 12, .inl y_201)), (b0, .inr (12, [.int b1, .ref b2, .ref b3, .ref b4, .ref b5, .int b6, .ref b7, .int b8, .int y_313, .int y_198, .int y_199, .ref b12, .ref b13, .ref b14, .int y_197, .ref b16, .ref b17, .ref b18, .ref b19, .ref b20, .ref b21, .ref b22, .ref b23, .ref b24, .ref b25, .ref b26, .ref b27, .int b28, .ref b29, .ref b30, .int b31, .int b32, .int b33, .int b34, .ref b35, .ref b36, .ref b37, .ref b38, .ref b39, .ref b40, .ref b41, .int b42, .ref b43, .ref b44, .int b45, .ref b46, .ref b47, .ref b48, .ref b49, .ref b50, .int b51, .ref b52, .ref b53, .ref b54])), (b7, .inl (G.2 3, 240, .inl b55))] H := hP
                have hD := z_tie hP hD rfl
                have hv_355 : zI y_313 0 239 := by have _a := hq_337; have _b := hy_313; have _c := hb8; exact ⟨by omega, by omega⟩
                have hv_356 : zI b8 1 240 := by have _a := hq_337; have _b := hb8; have _c := hv_355; exact ⟨by omega, by omega⟩
                refine W.widen (k := 0) (n := 0) (Nat.le_of_ble_eq_true rfl) (Nat.le_of_ble_eq_true rfl) ?_
                refine lv_if_eq (tgt := 124) hx hb d_Model_readCalls_87 (by decide) (fun _ => ?_) (fun hc => absurd hc (by decide +kernel))
                refine lv_aload_n hx hb d_Model_readCalls_124 rfl (lv_at hl 2 rfl) ?_
                refine va_get (D := G.1) (ci := 12) (v := .ref b14) (C := R_Model) (T := F_Model) (N := 54) hx hb hts i_Model hown hK hP 2 rfl rfl 13 (by decide) (hts _ q1122) (fun _ h9 => h9) rfl d_Model_readCalls_125 ?_
                refine lv_aload_n hx hb d_Model_readCalls_128 rfl (lv_at hl 2 rfl) ?_
                refine va_get (D := G.1) (ci := 12) (v := .int y_197) (C := R_Model) (T := F_Model) (N := 54) hx hb hts i_Model hown hK hP 2 rfl rfl 14 (by decide) (hts _ q1123) (fun _ h9 => h9) rfl d_Model_readCalls_129 ?_
                refine lv_iload_n hx hb d_Model_readCalls_132 rfl (lv_at hl 1 rfl) ?_
                refine va_iast hx hb hK hP hD hS 1 0 rfl rfl (zI.inn hv_226 (by decide)) d_Model_readCalls_133 (fun H locs hP hD hS => ?_)
                obtain ⟨f_357, gf_357, uf_357, hP, hD⟩ := z_newFu 1 hP hD rfl
                have hP : va_P G.1 classes [(b13, .inl (G.2 0, 12, .inl f_231)), (b14, .inl (G.2 0, 12, .inl f_357)), (b0, .inr (12, [.int b1, .ref b2, .ref b3, .ref b4, .ref b5, .int b6, .ref b7, .int b8, .int y_313, .int y_198, .int y_199, .ref b12, .ref b13, .ref b14, .int y_197, .ref b16, .ref b17, .ref b18, .ref b19, .ref b20, .ref b21, .ref b22, .ref b23, .ref b24, .ref b25, .ref b26, .ref b27, .int b28, .ref b29, .ref b30, .int b31, .int b32, .int b33, .int b34, .ref b35, .ref b36, .ref b37, .ref b38, .ref b39, .ref b40, .ref b41, .int b42, .ref b43, .ref b44, .int b45, .ref b46, .ref b47, .ref b48, .ref b49, .ref b50, .int b51, .ref b52, .ref b53, .ref b54])), (b7, .inl (G.2 3, 240, .inl b55))] H := hP
                have hD := z_tie hP hD rfl
                refine lv_aload_n hx hb d_Model_readCalls_134 rfl (lv_at hl 2 rfl) ?_
                refine lv_dup hx hb d_Model_readCalls_135 rfl ?_
                refine va_get (D := G.1) (ci := 12) (v := .int y_197) (C := R_Model) (T := F_Model) (N := 54) hx hb hts i_Model hown hK hP 2 rfl rfl 14 (by decide) (hts _ q1123) (fun _ h9 => h9) rfl d_Model_readCalls_136 ?_
                refine lv_iconst (v := 1) hx hb d_Model_readCalls_139 (by decide) ?_
                refine lv_iadd hx hb d_Model_readCalls_140 ?_
                refine lv_topi (fun v_358 ev_358 => ?_)
                obtain ⟨qv_358, hv_358⟩ := zI_add (l := 1) (h := 12) hv_226 zc_1 ev_358 (by decide)
                rw [li_1] at qv_358
                refine va_put (D := G.1) (ci := 12) (v := .int v_358) (ty := .int) (C := R_Model) (T := F_Model) (N := 54) hx hb hts i_Model t_Model t_Model_ok n_Model hown hK hP hD hS 2 rfl rfl 14 (by decide) (hts _ q1123) (fun _ h9 => h9) rfl (by decide +kernel) rfl rfl (Nat.le_of_ble_eq_true rfl) d_Model_readCalls_141 (fun H locs hP hD hS => ?_)
                have hP : va_P G.1 classes [(b13, .inl (G.2 0, 12, .inl f_231)), (b14, .inl (G.2 0, 12, .inl f_357)), (b0, .inr (12, [.int b1, .ref b2, .ref b3, .ref b4, .ref b5, .int b6, .ref b7, .int b8, .int y_313, .int y_198, .int y_199, .ref b12, .ref b13, .ref b14, .int v_358, .ref b16, .ref b17, .ref b18, .ref b19, .ref b20, .ref b21, .ref b22, .ref b23, .ref b24, .ref b25, .ref b26, .ref b27, .int b28, .ref b29, .ref b30, .int b31, .int b32, .int b33, .int b34, .ref b35, .ref b36, .ref b37, .ref b38, .ref b39, .ref b40, .ref b41, .int b42, .ref b43, .ref b44, .int b45, .ref b46, .ref b47, .ref b48, .ref b49, .ref b50, .int b51, .ref b52, .ref b53, .ref b54])), (b7, .inl (G.2 3, 240, .inl b55))] H := hP
                have hD := z_tie hP hD rfl
                refine lv_aload_n hx hb d_Model_readCalls_144 rfl (lv_at hl 2 rfl) ?_
                refine z_callV (index := 172) (As := []) (rest := []) (wr := [(b13, .inl (G.2 0, 12, .inl f_231)), (b14, .inl (G.2 0, 12, .inl f_357))]) Z (s1_Model_isDigitHere l G (b0) (b1) (b2) (b3) (b4) (b5) (b6) (b7) (b8) (y_313) (y_198) (y_199) (b12) (b13) (b14) (v_358) (b16) (b17) (b18) (b19) (b20) (b21) (b22) (b23) (b24) (b25) (b26) (b27) (b28) (b29) (b30) (b31) (b32) (b33) (b34) (b35) (b36) (b37) (b38) (b39) (b40) (b41) (b42) (b43) (b44) (b45) (b46) (b47) (b48) (b49) (b50) (b51) (b52) (b53) (b54) (b55) hb6 (zI.wk (l' := 0) (h' := 240) hv_356 (by decide)) (zI.wk (l' := 0) (h' := 240) hv_355 (by decide)) (zI.wk (l' := 0) (h' := 1) hv_207 (by decide)) (zI.wk (l' := 0) (h' := 12) hv_358 (by decide)) hb28 hb31 hb42 hb45 hb51) hl.1 q1306 q1308 qs48 q14 q1309 ⟨by decide, by decide, by show _ = some 0; decide +kernel⟩ ⟨Nat.le_of_ble_eq_true rfl, Nat.le_of_ble_eq_true rfl⟩ ⟨Nat.le_of_ble_eq_true rfl, Nat.le_of_ble_eq_true rfl⟩ rfl (Nat.le_of_ble_eq_true rfl) d_Model_readCalls_145 hP hD hS hA 2 12 rfl rfl rfl [2, 3] [0, 1] rfl rfl rfl rfl (by decide) (fun v w1 H locs hw_359 hP hD hS => ?_)
                rcases hw_359 with ⟨rfl, rfl, hq_360⟩ | ⟨rfl, rfl, hq_361⟩ | ⟨rfl, rfl, hq_362⟩ | ⟨rfl, rfl, hq_363⟩
                · have hP : va_P G.1 classes [(b13, .inl (G.2 0, 12, .inl f_231)), (b14, .inl (G.2 0, 12, .inl f_357)), (b0, .inr (12, [.int b1, .ref b2, .ref b3, .ref b4, .ref b5, .int b6, .ref b7, .int b8, .int y_313, .int y_198, .int y_199, .ref b12, .ref b13, .ref b14, .int v_358, .ref b16, .ref b17, .ref b18, .ref b19, .ref b20, .ref b21, .ref b22, .ref b23, .ref b24, .ref b25, .ref b26, .ref b27, .int b28, .ref b29, .ref b30, .int b31, .int b32, .int b33, .int b34, .ref b35, .ref b36, .ref b37, .ref b38, .ref b39, .ref b40, .ref b41, .int b42, .ref b43, .ref b44, .int b45, .ref b46, .ref b47, .ref b48, .ref b49, .ref b50, .int b51, .ref b52, .ref b53, .ref b54])), (b7, .inl (G.2 3, 240, .inl b55))] H := hP
                  have hD := z_tie hP hD rfl
                  have hv_364 : zI y_313 1 239 := by have _a := hq_360; have _b := hv_355; have _c := hv_356; exact ⟨by omega, by omega⟩
                  have hv_365 : zI b8 1 239 := by have _a := hq_360; have _b := hv_356; have _c := hv_364; exact ⟨by omega, by omega⟩
                  refine W.widen (k := 0) (n := 0) (Nat.le_of_ble_eq_true rfl) (Nat.le_of_ble_eq_true rfl) ?_
                  refine lv_if_eq (tgt := 155) hx hb d_Model_readCalls_148 (by decide) (fun _ => ?_) (fun hc => absurd hc (by decide +kernel))
                  refine lv_goto (tgt := 5) hx hb d_Model_readCalls_155 (by decide) ?_
                  exact ihk_195 (y_313) (v_358) (y_198) (y_199) (f_231) (f_357) _ _ _ (zI.wk (l' := 0) (h' := 240) hv_364 (by decide)) (zI.wk (l' := 0) (h' := 12) hv_358 (by decide)) (zI.wk (l' := 0) (h' := 1) hv_207 (by decide)) hf_231 (by omega) (by omega) (hP.sub [2, 3, 0, 1] rfl) (hD.sub [2, 3, 0, 1] (by decide) rfl) hS (lv_sub hl [2] rfl)
                · have hP : va_P G.1 classes [(b13, .inl (G.2 0, 12, .inl f_231)), (b14, .inl (G.2 0, 12, .inl f_357)), (b0, .inr (12, [.int b1, .ref b2, .ref b3, .ref b4, .ref b5, .int b6, .ref b7, .int b8, .int y_313, .int y_198, .int y_199, .ref b12, .ref b13, .ref b14, .int v_358, .ref b16, .ref b17, .ref b18, .ref b19, .ref b20, .ref b21, .ref b22, .ref b23, .ref b24, .ref b25, .ref b26, .ref b27, .int b28, .ref b29, .ref b30, .int b31, .int b32, .int b33, .int b34, .ref b35, .ref b36, .ref b37, .ref b38, .ref b39, .ref b40, .ref b41, .int b42, .ref b43, .ref b44, .int b45, .ref b46, .ref b47, .ref b48, .ref b49, .ref b50, .int b51, .ref b52, .ref b53, .ref b54])), (b7, .inl (G.2 3, 240, .inl b55))] H := hP
                  have hD := z_tie hP hD rfl
                  refine W.widen (k := 0) (n := 0) (Nat.le_of_ble_eq_true rfl) (Nat.le_of_ble_eq_true rfl) ?_
                  refine lv_if_eq (tgt := 155) hx hb d_Model_readCalls_148 (by decide) (fun _ => ?_) (fun hc => absurd hc (by decide +kernel))
                  refine lv_goto (tgt := 5) hx hb d_Model_readCalls_155 (by decide) ?_
                  exact ihk_195 (y_313) (v_358) (y_198) (y_199) (f_231) (f_357) _ _ _ (zI.wk (l' := 0) (h' := 240) hv_355 (by decide)) (zI.wk (l' := 0) (h' := 12) hv_358 (by decide)) (zI.wk (l' := 0) (h' := 1) hv_207 (by decide)) hf_231 (by omega) (by omega) (hP.sub [2, 3, 0, 1] rfl) (hD.sub [2, 3, 0, 1] (by decide) rfl) hS (lv_sub hl [2] rfl)
                · have hP : va_P G.1 classes [(b13, .inl (G.2 0, 12, .inl f_231)), (b14, .inl (G.2 0, 12, .inl f_357)), (b0, .inr (12, [.int b1, .ref b2, .ref b3, .ref b4, .ref b5, .int b6, .ref b7, .int b8, .int y_313, .int y_198, .int y_199, .ref b12, .ref b13, .ref b14, .int v_358, .ref b16, .ref b17, .ref b18, .ref b19, .ref b20, .ref b21, .ref b22, .ref b23, .ref b24, .ref b25, .ref b26, .ref b27, .int b28, .ref b29, .ref b30, .int b31, .int b32, .int b33, .int b34, .ref b35, .ref b36, .ref b37, .ref b38, .ref b39, .ref b40, .ref b41, .int b42, .ref b43, .ref b44, .int b45, .ref b46, .ref b47, .ref b48, .ref b49, .ref b50, .int b51, .ref b52, .ref b53, .ref b54])), (b7, .inl (G.2 3, 240, .inl b55))] H := hP
                  have hD := z_tie hP hD rfl
                  refine W.widen (k := 0) (n := 0) (Nat.le_of_ble_eq_true rfl) (Nat.le_of_ble_eq_true rfl) ?_
                  refine lv_if_eq (tgt := 155) hx hb d_Model_readCalls_148 (by decide) (fun _ => ?_) (fun hc => absurd hc (by decide +kernel))
                  refine lv_goto (tgt := 5) hx hb d_Model_readCalls_155 (by decide) ?_
                  exact ihk_195 (y_313) (v_358) (y_198) (y_199) (f_231) (f_357) _ _ _ (zI.wk (l' := 0) (h' := 240) hv_355 (by decide)) (zI.wk (l' := 0) (h' := 12) hv_358 (by decide)) (zI.wk (l' := 0) (h' := 1) hv_207 (by decide)) hf_231 (by omega) (by omega) (hP.sub [2, 3, 0, 1] rfl) (hD.sub [2, 3, 0, 1] (by decide) rfl) hS (lv_sub hl [2] rfl)
                · have hP : va_P G.1 classes [(b13, .inl (G.2 0, 12, .inl f_231)), (b14, .inl (G.2 0, 12, .inl f_357)), (b0, .inr (12, [.int b1, .ref b2, .ref b3, .ref b4, .ref b5, .int b6, .ref b7, .int b8, .int y_313, .int y_198, .int y_199, .ref b12, .ref b13, .ref b14, .int v_358, .ref b16, .ref b17, .ref b18, .ref b19, .ref b20, .ref b21, .ref b22, .ref b23, .ref b24, .ref b25, .ref b26, .ref b27, .int b28, .ref b29, .ref b30, .int b31, .int b32, .int b33, .int b34, .ref b35, .ref b36, .ref b37, .ref b38, .ref b39, .ref b40, .ref b41, .int b42, .ref b43, .ref b44, .int b45, .ref b46, .ref b47, .ref b48, .ref b49, .ref b50, .int b51, .ref b52, .ref b53, .ref b54])), (b7, .inl (G.2 3, 240, .inl b55))] H := hP
                  have hD := z_tie hP hD rfl
                  refine W.widen (k := 0) (n := 0) (Nat.le_of_ble_eq_true rfl) (Nat.le_of_ble_eq_true rfl) ?_
                  refine lv_if_eq (tgt := 155) hx hb d_Model_readCalls_148 (by decide) (fun hc => absurd hc (by decide +kernel)) (fun _ => ?_)
                  refine lv_aload_n hx hb d_Model_readCalls_151 rfl (lv_at hl 2 rfl) ?_
                  refine z_callV (index := 169) (As := []) (rest := []) (wr := [(b13, .inl (G.2 0, 12, .inl f_231)), (b14, .inl (G.2 0, 12, .inl f_357)), (b7, .inl (G.2 3, 240, .inl b55))]) Z (s1_Model_wrong l G (b0) (b1) (b2) (b3) (b4) (b5) (b6) (b7) (b8) (y_313) (y_198) (y_199) (b12) (b13) (b14) (v_358) (b16) (b17) (b18) (b19) (b20) (b21) (b22) (b23) (b24) (b25) (b26) (b27) (b28) (b29) (b30) (b31) (b32) (b33) (b34) (b35) (b36) (b37) (b38) (b39) (b40) (b41) (b42) (b43) (b44) (b45) (b46) (b47) (b48) (b49) (b50) (b51) (b52) (b53) (b54) hb6 (zI.wk (l' := 0) (h' := 240) hv_356 (by decide)) (zI.wk (l' := 0) (h' := 240) hv_355 (by decide)) (zI.wk (l' := 0) (h' := 1) hv_207 (by decide)) (zI.wk (l' := 0) (h' := 12) hv_358 (by decide)) hb28 hb31 hb42 hb45 hb51) hl.1 q1296 q1298 qs46 q14 q1299 ⟨by decide, by decide, by show _ = some 0; decide +kernel⟩ ⟨Nat.le_of_ble_eq_true rfl, Nat.le_of_ble_eq_true rfl⟩ ⟨Nat.le_of_ble_eq_true rfl, Nat.le_of_ble_eq_true rfl⟩ rfl (Nat.le_of_ble_eq_true rfl) d_Model_readCalls_152 hP hD hS hA 2 12 rfl rfl rfl [2] [0, 1, 3] rfl rfl rfl rfl (by decide) (fun v w1 H locs hw_366 hP hD hS => ?_)
                  obtain ⟨x_367, rfl, rfl⟩ := hw_366
                  have hP : va_P G.1 classes [(b13, .inl (G.2 0, 12, .inl f_231)), (b14, .inl (G.2 0, 12, .inl f_357)), (b7, .inl (G.2 3, 240, .inl b55)), (b0, .inr (12, [.int b1, .ref b2, .ref b3, .ref b4, .ref b5, .int b6, .ref b7, .int b8, .int y_313, .int x_367, .int 0, .ref b12, .ref b13, .ref b14, .int v_358, .ref b16, .ref b17, .ref b18, .ref b19, .ref b20, .ref b21, .ref b22, .ref b23, .ref b24, .ref b25, .ref b26, .ref b27, .int b28, .ref b29, .ref b30, .int b31, .int b32, .int b33, .int b34, .ref b35, .ref b36, .ref b37, .ref b38, .ref b39, .ref b40, .ref b41, .int b42, .ref b43, .ref b44, .int b45, .ref b46, .ref b47, .ref b48, .ref b49, .ref b50, .int b51, .ref b52, .ref b53, .ref b54]))] H := hP
                  have hD := z_tie hP hD rfl
                  refine W.widen (k := 0) (n := 0) (Nat.le_of_ble_eq_true rfl) (Nat.le_of_ble_eq_true rfl) ?_
                  refine lv_goto (tgt := 5) hx hb d_Model_readCalls_155 (by decide) ?_
                  exact ihk_195 (y_313) (v_358) (x_367) (0) (f_231) (f_357) _ _ _ (zI.wk (l' := 0) (h' := 240) hv_355 (by decide)) (zI.wk (l' := 0) (h' := 12) hv_358 (by decide)) (zI.wk (l' := 0) (h' := 1) zc_0 (by decide)) hf_231 (by omega) (by omega) (hP.sub [3, 2, 0, 1] rfl) (hD.sub [3, 2, 0, 1] (by decide) rfl) hS (lv_sub hl [2] rfl)
              · have hP : va_P G.1 classes [(b13, .inl (G.2 0, 12, .inl f_231)), (b14, .inl (G.2 0, 12, .inl y_201)), (b0, .inr (12, [.int b1, .ref b2, .ref b3, .ref b4, .ref b5, .int b6, .ref b7, .int b8, .int y_313, .int y_198, .int y_199, .ref b12, .ref b13, .ref b14, .int y_197, .ref b16, .ref b17, .ref b18, .ref b19, .ref b20, .ref b21, .ref b22, .ref b23, .ref b24, .ref b25, .ref b26, .ref b27, .int b28, .ref b29, .ref b30, .int b31, .int b32, .int b33, .int b34, .ref b35, .ref b36, .ref b37, .ref b38, .ref b39, .ref b40, .ref b41, .int b42, .ref b43, .ref b44, .int b45, .ref b46, .ref b47, .ref b48, .ref b49, .ref b50, .int b51, .ref b52, .ref b53, .ref b54])), (b7, .inl (G.2 3, 240, .inl b55))] H := hP
                have hD := z_tie hP hD rfl
                have hv_368 : zI y_313 0 239 := by have _a := hq_338; have _b := hy_313; have _c := hb8; exact ⟨by omega, by omega⟩
                have hv_369 : zI b8 1 240 := by have _a := hq_338; have _b := hb8; have _c := hv_368; exact ⟨by omega, by omega⟩
                refine W.widen (k := 0) (n := 0) (Nat.le_of_ble_eq_true rfl) (Nat.le_of_ble_eq_true rfl) ?_
                refine lv_if_eq (tgt := 124) hx hb d_Model_readCalls_87 (by decide) (fun _ => ?_) (fun hc => absurd hc (by decide +kernel))
                refine lv_aload_n hx hb d_Model_readCalls_124 rfl (lv_at hl 2 rfl) ?_
                refine va_get (D := G.1) (ci := 12) (v := .ref b14) (C := R_Model) (T := F_Model) (N := 54) hx hb hts i_Model hown hK hP 2 rfl rfl 13 (by decide) (hts _ q1122) (fun _ h9 => h9) rfl d_Model_readCalls_125 ?_
                refine lv_aload_n hx hb d_Model_readCalls_128 rfl (lv_at hl 2 rfl) ?_
                refine va_get (D := G.1) (ci := 12) (v := .int y_197) (C := R_Model) (T := F_Model) (N := 54) hx hb hts i_Model hown hK hP 2 rfl rfl 14 (by decide) (hts _ q1123) (fun _ h9 => h9) rfl d_Model_readCalls_129 ?_
                refine lv_iload_n hx hb d_Model_readCalls_132 rfl (lv_at hl 1 rfl) ?_
                refine va_iast hx hb hK hP hD hS 1 0 rfl rfl (zI.inn hv_226 (by decide)) d_Model_readCalls_133 (fun H locs hP hD hS => ?_)
                obtain ⟨f_370, gf_370, uf_370, hP, hD⟩ := z_newFu 1 hP hD rfl
                have hP : va_P G.1 classes [(b13, .inl (G.2 0, 12, .inl f_231)), (b14, .inl (G.2 0, 12, .inl f_370)), (b0, .inr (12, [.int b1, .ref b2, .ref b3, .ref b4, .ref b5, .int b6, .ref b7, .int b8, .int y_313, .int y_198, .int y_199, .ref b12, .ref b13, .ref b14, .int y_197, .ref b16, .ref b17, .ref b18, .ref b19, .ref b20, .ref b21, .ref b22, .ref b23, .ref b24, .ref b25, .ref b26, .ref b27, .int b28, .ref b29, .ref b30, .int b31, .int b32, .int b33, .int b34, .ref b35, .ref b36, .ref b37, .ref b38, .ref b39, .ref b40, .ref b41, .int b42, .ref b43, .ref b44, .int b45, .ref b46, .ref b47, .ref b48, .ref b49, .ref b50, .int b51, .ref b52, .ref b53, .ref b54])), (b7, .inl (G.2 3, 240, .inl b55))] H := hP
                have hD := z_tie hP hD rfl
                refine lv_aload_n hx hb d_Model_readCalls_134 rfl (lv_at hl 2 rfl) ?_
                refine lv_dup hx hb d_Model_readCalls_135 rfl ?_
                refine va_get (D := G.1) (ci := 12) (v := .int y_197) (C := R_Model) (T := F_Model) (N := 54) hx hb hts i_Model hown hK hP 2 rfl rfl 14 (by decide) (hts _ q1123) (fun _ h9 => h9) rfl d_Model_readCalls_136 ?_
                refine lv_iconst (v := 1) hx hb d_Model_readCalls_139 (by decide) ?_
                refine lv_iadd hx hb d_Model_readCalls_140 ?_
                refine lv_topi (fun v_371 ev_371 => ?_)
                obtain ⟨qv_371, hv_371⟩ := zI_add (l := 1) (h := 12) hv_226 zc_1 ev_371 (by decide)
                rw [li_1] at qv_371
                refine va_put (D := G.1) (ci := 12) (v := .int v_371) (ty := .int) (C := R_Model) (T := F_Model) (N := 54) hx hb hts i_Model t_Model t_Model_ok n_Model hown hK hP hD hS 2 rfl rfl 14 (by decide) (hts _ q1123) (fun _ h9 => h9) rfl (by decide +kernel) rfl rfl (Nat.le_of_ble_eq_true rfl) d_Model_readCalls_141 (fun H locs hP hD hS => ?_)
                have hP : va_P G.1 classes [(b13, .inl (G.2 0, 12, .inl f_231)), (b14, .inl (G.2 0, 12, .inl f_370)), (b0, .inr (12, [.int b1, .ref b2, .ref b3, .ref b4, .ref b5, .int b6, .ref b7, .int b8, .int y_313, .int y_198, .int y_199, .ref b12, .ref b13, .ref b14, .int v_371, .ref b16, .ref b17, .ref b18, .ref b19, .ref b20, .ref b21, .ref b22, .ref b23, .ref b24, .ref b25, .ref b26, .ref b27, .int b28, .ref b29, .ref b30, .int b31, .int b32, .int b33, .int b34, .ref b35, .ref b36, .ref b37, .ref b38, .ref b39, .ref b40, .ref b41, .int b42, .ref b43, .ref b44, .int b45, .ref b46, .ref b47, .ref b48, .ref b49, .ref b50, .int b51, .ref b52, .ref b53, .ref b54])), (b7, .inl (G.2 3, 240, .inl b55))] H := hP
                have hD := z_tie hP hD rfl
                refine lv_aload_n hx hb d_Model_readCalls_144 rfl (lv_at hl 2 rfl) ?_
                refine z_callV (index := 172) (As := []) (rest := []) (wr := [(b13, .inl (G.2 0, 12, .inl f_231)), (b14, .inl (G.2 0, 12, .inl f_370))]) Z (s1_Model_isDigitHere l G (b0) (b1) (b2) (b3) (b4) (b5) (b6) (b7) (b8) (y_313) (y_198) (y_199) (b12) (b13) (b14) (v_371) (b16) (b17) (b18) (b19) (b20) (b21) (b22) (b23) (b24) (b25) (b26) (b27) (b28) (b29) (b30) (b31) (b32) (b33) (b34) (b35) (b36) (b37) (b38) (b39) (b40) (b41) (b42) (b43) (b44) (b45) (b46) (b47) (b48) (b49) (b50) (b51) (b52) (b53) (b54) (b55) hb6 (zI.wk (l' := 0) (h' := 240) hv_369 (by decide)) (zI.wk (l' := 0) (h' := 240) hv_368 (by decide)) (zI.wk (l' := 0) (h' := 1) hv_207 (by decide)) (zI.wk (l' := 0) (h' := 12) hv_371 (by decide)) hb28 hb31 hb42 hb45 hb51) hl.1 q1306 q1308 qs48 q14 q1309 ⟨by decide, by decide, by show _ = some 0; decide +kernel⟩ ⟨Nat.le_of_ble_eq_true rfl, Nat.le_of_ble_eq_true rfl⟩ ⟨Nat.le_of_ble_eq_true rfl, Nat.le_of_ble_eq_true rfl⟩ rfl (Nat.le_of_ble_eq_true rfl) d_Model_readCalls_145 hP hD hS hA 2 12 rfl rfl rfl [2, 3] [0, 1] rfl rfl rfl rfl (by decide) (fun v w1 H locs hw_372 hP hD hS => ?_)
                rcases hw_372 with ⟨rfl, rfl, hq_373⟩ | ⟨rfl, rfl, hq_374⟩ | ⟨rfl, rfl, hq_375⟩ | ⟨rfl, rfl, hq_376⟩
                · have hP : va_P G.1 classes [(b13, .inl (G.2 0, 12, .inl f_231)), (b14, .inl (G.2 0, 12, .inl f_370)), (b0, .inr (12, [.int b1, .ref b2, .ref b3, .ref b4, .ref b5, .int b6, .ref b7, .int b8, .int y_313, .int y_198, .int y_199, .ref b12, .ref b13, .ref b14, .int v_371, .ref b16, .ref b17, .ref b18, .ref b19, .ref b20, .ref b21, .ref b22, .ref b23, .ref b24, .ref b25, .ref b26, .ref b27, .int b28, .ref b29, .ref b30, .int b31, .int b32, .int b33, .int b34, .ref b35, .ref b36, .ref b37, .ref b38, .ref b39, .ref b40, .ref b41, .int b42, .ref b43, .ref b44, .int b45, .ref b46, .ref b47, .ref b48, .ref b49, .ref b50, .int b51, .ref b52, .ref b53, .ref b54])), (b7, .inl (G.2 3, 240, .inl b55))] H := hP
                  have hD := z_tie hP hD rfl
                  have hv_377 : zI y_313 1 239 := by have _a := hq_373; have _b := hv_368; have _c := hv_369; exact ⟨by omega, by omega⟩
                  have hv_378 : zI b8 1 239 := by have _a := hq_373; have _b := hv_369; have _c := hv_377; exact ⟨by omega, by omega⟩
                  refine W.widen (k := 0) (n := 0) (Nat.le_of_ble_eq_true rfl) (Nat.le_of_ble_eq_true rfl) ?_
                  refine lv_if_eq (tgt := 155) hx hb d_Model_readCalls_148 (by decide) (fun _ => ?_) (fun hc => absurd hc (by decide +kernel))
                  refine lv_goto (tgt := 5) hx hb d_Model_readCalls_155 (by decide) ?_
                  exact ihk_195 (y_313) (v_371) (y_198) (y_199) (f_231) (f_370) _ _ _ (zI.wk (l' := 0) (h' := 240) hv_377 (by decide)) (zI.wk (l' := 0) (h' := 12) hv_371 (by decide)) (zI.wk (l' := 0) (h' := 1) hv_207 (by decide)) hf_231 (by omega) (by omega) (hP.sub [2, 3, 0, 1] rfl) (hD.sub [2, 3, 0, 1] (by decide) rfl) hS (lv_sub hl [2] rfl)
                · have hP : va_P G.1 classes [(b13, .inl (G.2 0, 12, .inl f_231)), (b14, .inl (G.2 0, 12, .inl f_370)), (b0, .inr (12, [.int b1, .ref b2, .ref b3, .ref b4, .ref b5, .int b6, .ref b7, .int b8, .int y_313, .int y_198, .int y_199, .ref b12, .ref b13, .ref b14, .int v_371, .ref b16, .ref b17, .ref b18, .ref b19, .ref b20, .ref b21, .ref b22, .ref b23, .ref b24, .ref b25, .ref b26, .ref b27, .int b28, .ref b29, .ref b30, .int b31, .int b32, .int b33, .int b34, .ref b35, .ref b36, .ref b37, .ref b38, .ref b39, .ref b40, .ref b41, .int b42, .ref b43, .ref b44, .int b45, .ref b46, .ref b47, .ref b48, .ref b49, .ref b50, .int b51, .ref b52, .ref b53, .ref b54])), (b7, .inl (G.2 3, 240, .inl b55))] H := hP
                  have hD := z_tie hP hD rfl
                  refine W.widen (k := 0) (n := 0) (Nat.le_of_ble_eq_true rfl) (Nat.le_of_ble_eq_true rfl) ?_
                  refine lv_if_eq (tgt := 155) hx hb d_Model_readCalls_148 (by decide) (fun _ => ?_) (fun hc => absurd hc (by decide +kernel))
                  refine lv_goto (tgt := 5) hx hb d_Model_readCalls_155 (by decide) ?_
                  exact ihk_195 (y_313) (v_371) (y_198) (y_199) (f_231) (f_370) _ _ _ (zI.wk (l' := 0) (h' := 240) hv_368 (by decide)) (zI.wk (l' := 0) (h' := 12) hv_371 (by decide)) (zI.wk (l' := 0) (h' := 1) hv_207 (by decide)) hf_231 (by omega) (by omega) (hP.sub [2, 3, 0, 1] rfl) (hD.sub [2, 3, 0, 1] (by decide) rfl) hS (lv_sub hl [2] rfl)
                · have hP : va_P G.1 classes [(b13, .inl (G.2 0, 12, .inl f_231)), (b14, .inl (G.2 0, 12, .inl f_370)), (b0, .inr (12, [.int b1, .ref b2, .ref b3, .ref b4, .ref b5, .int b6, .ref b7, .int b8, .int y_313, .int y_198, .int y_199, .ref b12, .ref b13, .ref b14, .int v_371, .ref b16, .ref b17, .ref b18, .ref b19, .ref b20, .ref b21, .ref b22, .ref b23, .ref b24, .ref b25, .ref b26, .ref b27, .int b28, .ref b29, .ref b30, .int b31, .int b32, .int b33, .int b34, .ref b35, .ref b36, .ref b37, .ref b38, .ref b39, .ref b40, .ref b41, .int b42, .ref b43, .ref b44, .int b45, .ref b46, .ref b47, .ref b48, .ref b49, .ref b50, .int b51, .ref b52, .ref b53, .ref b54])), (b7, .inl (G.2 3, 240, .inl b55))] H := hP
                  have hD := z_tie hP hD rfl
                  refine W.widen (k := 0) (n := 0) (Nat.le_of_ble_eq_true rfl) (Nat.le_of_ble_eq_true rfl) ?_
                  refine lv_if_eq (tgt := 155) hx hb d_Model_readCalls_148 (by decide) (fun _ => ?_) (fun hc => absurd hc (by decide +kernel))
                  refine lv_goto (tgt := 5) hx hb d_Model_readCalls_155 (by decide) ?_
                  exact ihk_195 (y_313) (v_371) (y_198) (y_199) (f_231) (f_370) _ _ _ (zI.wk (l' := 0) (h' := 240) hv_368 (by decide)) (zI.wk (l' := 0) (h' := 12) hv_371 (by decide)) (zI.wk (l' := 0) (h' := 1) hv_207 (by decide)) hf_231 (by omega) (by omega) (hP.sub [2, 3, 0, 1] rfl) (hD.sub [2, 3, 0, 1] (by decide) rfl) hS (lv_sub hl [2] rfl)
                · have hP : va_P G.1 classes [(b13, .inl (G.2 0, 12, .inl f_231)), (b14, .inl (G.2 0, 12, .inl f_370)), (b0, .inr (12, [.int b1, .ref b2, .ref b3, .ref b4, .ref b5, .int b6, .ref b7, .int b8, .int y_313, .int y_198, .int y_199, .ref b12, .ref b13, .ref b14, .int v_371, .ref b16, .ref b17, .ref b18, .ref b19, .ref b20, .ref b21, .ref b22, .ref b23, .ref b24, .ref b25, .ref b26, .ref b27, .int b28, .ref b29, .ref b30, .int b31, .int b32, .int b33, .int b34, .ref b35, .ref b36, .ref b37, .ref b38, .ref b39, .ref b40, .ref b41, .int b42, .ref b43, .ref b44, .int b45, .ref b46, .ref b47, .ref b48, .ref b49, .ref b50, .int b51, .ref b52, .ref b53, .ref b54])), (b7, .inl (G.2 3, 240, .inl b55))] H := hP
                  have hD := z_tie hP hD rfl
                  refine W.widen (k := 0) (n := 0) (Nat.le_of_ble_eq_true rfl) (Nat.le_of_ble_eq_true rfl) ?_
                  refine lv_if_eq (tgt := 155) hx hb d_Model_readCalls_148 (by decide) (fun hc => absurd hc (by decide +kernel)) (fun _ => ?_)
                  refine lv_aload_n hx hb d_Model_readCalls_151 rfl (lv_at hl 2 rfl) ?_
                  refine z_callV (index := 169) (As := []) (rest := []) (wr := [(b13, .inl (G.2 0, 12, .inl f_231)), (b14, .inl (G.2 0, 12, .inl f_370)), (b7, .inl (G.2 3, 240, .inl b55))]) Z (s1_Model_wrong l G (b0) (b1) (b2) (b3) (b4) (b5) (b6) (b7) (b8) (y_313) (y_198) (y_199) (b12) (b13) (b14) (v_371) (b16) (b17) (b18) (b19) (b20) (b21) (b22) (b23) (b24) (b25) (b26) (b27) (b28) (b29) (b30) (b31) (b32) (b33) (b34) (b35) (b36) (b37) (b38) (b39) (b40) (b41) (b42) (b43) (b44) (b45) (b46) (b47) (b48) (b49) (b50) (b51) (b52) (b53) (b54) hb6 (zI.wk (l' := 0) (h' := 240) hv_369 (by decide)) (zI.wk (l' := 0) (h' := 240) hv_368 (by decide)) (zI.wk (l' := 0) (h' := 1) hv_207 (by decide)) (zI.wk (l' := 0) (h' := 12) hv_371 (by decide)) hb28 hb31 hb42 hb45 hb51) hl.1 q1296 q1298 qs46 q14 q1299 ⟨by decide, by decide, by show _ = some 0; decide +kernel⟩ ⟨Nat.le_of_ble_eq_true rfl, Nat.le_of_ble_eq_true rfl⟩ ⟨Nat.le_of_ble_eq_true rfl, Nat.le_of_ble_eq_true rfl⟩ rfl (Nat.le_of_ble_eq_true rfl) d_Model_readCalls_152 hP hD hS hA 2 12 rfl rfl rfl [2] [0, 1, 3] rfl rfl rfl rfl (by decide) (fun v w1 H locs hw_379 hP hD hS => ?_)
                  obtain ⟨x_380, rfl, rfl⟩ := hw_379
                  have hP : va_P G.1 classes [(b13, .inl (G.2 0, 12, .inl f_231)), (b14, .inl (G.2 0, 12, .inl f_370)), (b7, .inl (G.2 3, 240, .inl b55)), (b0, .inr (12, [.int b1, .ref b2, .ref b3, .ref b4, .ref b5, .int b6, .ref b7, .int b8, .int y_313, .int x_380, .int 0, .ref b12, .ref b13, .ref b14, .int v_371, .ref b16, .ref b17, .ref b18, .ref b19, .ref b20, .ref b21, .ref b22, .ref b23, .ref b24, .ref b25, .ref b26, .ref b27, .int b28, .ref b29, .ref b30, .int b31, .int b32, .int b33, .int b34, .ref b35, .ref b36, .ref b37, .ref b38, .ref b39, .ref b40, .ref b41, .int b42, .ref b43, .ref b44, .int b45, .ref b46, .ref b47, .ref b48, .ref b49, .ref b50, .int b51, .ref b52, .ref b53, .ref b54]))] H := hP
                  have hD := z_tie hP hD rfl
                  refine W.widen (k := 0) (n := 0) (Nat.le_of_ble_eq_true rfl) (Nat.le_of_ble_eq_true rfl) ?_
                  refine lv_goto (tgt := 5) hx hb d_Model_readCalls_155 (by decide) ?_
                  exact ihk_195 (y_313) (v_371) (x_380) (0) (f_231) (f_370) _ _ _ (zI.wk (l' := 0) (h' := 240) hv_368 (by decide)) (zI.wk (l' := 0) (h' := 12) hv_371 (by decide)) (zI.wk (l' := 0) (h' := 1) zc_0 (by decide)) hf_231 (by omega) (by omega) (hP.sub [3, 2, 0, 1] rfl) (hD.sub [3, 2, 0, 1] (by decide) rfl) hS (lv_sub hl [2] rfl)
              · have hP : va_P G.1 classes [(b13, .inl (G.2 0, 12, .inl f_231)), (b14, .inl (G.2 0, 12, .inl y_201)), (b0, .inr (12, [.int b1, .ref b2, .ref b3, .ref b4, .ref b5, .int b6, .ref b7, .int b8, .int y_313, .int y_198, .int y_199, .ref b12, .ref b13, .ref b14, .int y_197, .ref b16, .ref b17, .ref b18, .ref b19, .ref b20, .ref b21, .ref b22, .ref b23, .ref b24, .ref b25, .ref b26, .ref b27, .int b28, .ref b29, .ref b30, .int b31, .int b32, .int b33, .int b34, .ref b35, .ref b36, .ref b37, .ref b38, .ref b39, .ref b40, .ref b41, .int b42, .ref b43, .ref b44, .int b45, .ref b46, .ref b47, .ref b48, .ref b49, .ref b50, .int b51, .ref b52, .ref b53, .ref b54])), (b7, .inl (G.2 3, 240, .inl b55))] H := hP
                have hD := z_tie hP hD rfl
                have hv_381 : zI y_313 0 239 := by have _a := hq_339; have _b := hy_313; have _c := hb8; exact ⟨by omega, by omega⟩
                have hv_382 : zI b8 1 240 := by have _a := hq_339; have _b := hb8; have _c := hv_381; exact ⟨by omega, by omega⟩
                refine W.widen (k := 0) (n := 0) (Nat.le_of_ble_eq_true rfl) (Nat.le_of_ble_eq_true rfl) ?_
                refine lv_if_eq (tgt := 124) hx hb d_Model_readCalls_87 (by decide) (fun hc => absurd hc (by decide +kernel)) (fun _ => ?_)
                refine lv_bipush (v := 10) hx hb d_Model_readCalls_90 (by decide) ?_
                refine lv_iload_n hx hb d_Model_readCalls_92 rfl (lv_at hl 1 rfl) ?_
                refine lv_imul hx hb d_Model_readCalls_93 ?_
                refine lv_topi (fun v_383 ev_383 => ?_)
                refine lv_aload_n hx hb d_Model_readCalls_94 rfl (lv_at hl 2 rfl) ?_
                refine va_get (D := G.1) (ci := 12) (v := .ref b7) (C := R_Model) (T := F_Model) (N := 54) hx hb hts i_Model hown hK hP 2 rfl rfl 6 (by decide) (hts _ q1115) (fun _ h9 => h9) rfl d_Model_readCalls_95 ?_
                refine lv_aload_n hx hb d_Model_readCalls_98 rfl (lv_at hl 2 rfl) ?_
                refine va_get (D := G.1) (ci := 12) (v := .int y_313) (C := R_Model) (T := F_Model) (N := 54) hx hb hts i_Model hown hK hP 2 rfl rfl 8 (by decide) (hts _ q1117) (fun _ h9 => h9) rfl d_Model_readCalls_99 ?_
                refine va_bald hx hb hK hP 3 3 rfl rfl (zI.inn hv_381 (by decide)) d_Model_readCalls_102 ?_
                refine lv_topi (fun v_384 ev_384 => ?_)
                refine lv_iadd hx hb d_Model_readCalls_103 ?_
                refine lv_topi (fun v_385 ev_385 => ?_)
                refine lv_bipush (v := 48) hx hb d_Model_readCalls_104 (by decide) ?_
                refine lv_isub hx hb d_Model_readCalls_106 ?_
                refine lv_topi (fun v_386 ev_386 => ?_)
                refine lv_istore_n (lv' := [(1, .int v_386), (2, .int y_311), (0, .ref b0)]) hx hb d_Model_readCalls_107 rfl hl (by decide) rfl (fun ls hl => ?_)
                refine lv_aload_n hx hb d_Model_readCalls_108 rfl (lv_at hl 2 rfl) ?_
                refine lv_dup hx hb d_Model_readCalls_109 rfl ?_
                refine va_get (D := G.1) (ci := 12) (v := .int y_313) (C := R_Model) (T := F_Model) (N := 54) hx hb hts i_Model hown hK hP 2 rfl rfl 8 (by decide) (hts _ q1117) (fun _ h9 => h9) rfl d_Model_readCalls_110 ?_
                refine lv_iconst (v := 1) hx hb d_Model_readCalls_113 (by decide) ?_
                refine lv_iadd hx hb d_Model_readCalls_114 ?_
                refine lv_topi (fun v_387 ev_387 => ?_)
                obtain ⟨qv_387, hv_387⟩ := zI_add (l := 1) (h := 240) hv_381 zc_1 ev_387 (by decide)
                rw [li_1] at qv_387
                refine va_put (D := G.1) (ci := 12) (v := .int v_387) (ty := .int) (C := R_Model) (T := F_Model) (N := 54) hx hb hts i_Model t_Model t_Model_ok n_Model hown hK hP hD hS 2 rfl rfl 8 (by decide) (hts _ q1117) (fun _ h9 => h9) rfl (by decide +kernel) rfl rfl (Nat.le_of_ble_eq_true rfl) d_Model_readCalls_115 (fun H locs hP hD hS => ?_)
                have hP : va_P G.1 classes [(b13, .inl (G.2 0, 12, .inl f_231)), (b14, .inl (G.2 0, 12, .inl y_201)), (b0, .inr (12, [.int b1, .ref b2, .ref b3, .ref b4, .ref b5, .int b6, .ref b7, .int b8, .int v_387, .int y_198, .int y_199, .ref b12, .ref b13, .ref b14, .int y_197, .ref b16, .ref b17, .ref b18, .ref b19, .ref b20, .ref b21, .ref b22, .ref b23, .ref b24, .ref b25, .ref b26, .ref b27, .int b28, .ref b29, .ref b30, .int b31, .int b32, .int b33, .int b34, .ref b35, .ref b36, .ref b37, .ref b38, .ref b39, .ref b40, .ref b41, .int b42, .ref b43, .ref b44, .int b45, .ref b46, .ref b47, .ref b48, .ref b49, .ref b50, .int b51, .ref b52, .ref b53, .ref b54])), (b7, .inl (G.2 3, 240, .inl b55))] H := hP
                have hD := z_tie hP hD rfl
                obtain ⟨v_388, ev_388⟩ : ∃ z : Int32, z = y_311 + 1 := ⟨_, rfl⟩
                obtain ⟨qv_388, hv_388⟩ := zI_add (l := 1) (h := 2) hv_334 zc_1 ev_388 (by decide)
                rw [li_1] at qv_388
                refine lv_iinc (v := v_388) (lv' := [(2, .int v_388), (1, .int v_386), (0, .ref b0)]) hx hb d_Model_readCalls_118 hl (k := 1) rfl (by rw [ev_388]; rfl) (by decide) rfl (fun ls hl => ?_)
                refine lv_goto (tgt := 78) hx hb d_Model_readCalls_121 (by decide) ?_
                exact ihk_310 (v_388) (v_386) (v_387) _ _ _ (zI.wk (l' := 0) (h' := 2) hv_388 (by decide)) (zI.wk (l' := 0) (h' := 240) hv_387 (by decide)) (by omega) (zm_up qv_388 hmk_310 (by decide)) hP hD hS (lv_sub hl [0, 1, 2] rfl)
        · have _nhc_224 := hc_224
          have ni_389 := (fa_eq _ _).mp hc_224
          rw [li_12] at ni_389
          have hv_390 : zI y_197 12 12 := zI.eq_l hy_197 zc_12 hc_224
          refine lv_aload_n hx hb d_Model_readCalls_38 rfl (lv_at hl 0 rfl) ?_
          refine z_callV (index := 169) (As := []) (rest := []) (wr := [(b13, .inl (G.2 0, 12, .inl y_200)), (b14, .inl (G.2 0, 12, .inl y_201)), (b7, .inl (G.2 3, 240, .inl b55))]) Z (s1_Model_wrong l G (b0) (b1) (b2) (b3) (b4) (b5) (b6) (b7) (b8) (x_210) (y_198) (y_199) (b12) (b13) (b14) (y_197) (b16) (b17) (b18) (b19) (b20) (b21) (b22) (b23) (b24) (b25) (b26) (b27) (b28) (b29) (b30) (b31) (b32) (b33) (b34) (b35) (b36) (b37) (b38) (b39) (b40) (b41) (b42) (b43) (b44) (b45) (b46) (b47) (b48) (b49) (b50) (b51) (b52) (b53) (b54) hb6 hb8 hx_210 (zI.wk (l' := 0) (h' := 1) hv_207 (by decide)) (zI.wk (l' := 0) (h' := 12) hv_390 (by decide)) hb28 hb31 hb42 hb45 hb51) hl.1 q1296 q1298 qs46 q14 q1299 ⟨by decide, by decide, by show _ = some 0; decide +kernel⟩ ⟨Nat.le_of_ble_eq_true rfl, Nat.le_of_ble_eq_true rfl⟩ ⟨Nat.le_of_ble_eq_true rfl, Nat.le_of_ble_eq_true rfl⟩ rfl (Nat.le_of_ble_eq_true rfl) d_Model_readCalls_39 hP hD hS hA 2 12 rfl rfl rfl [2] [0, 1, 3] rfl rfl rfl rfl (by decide) (fun v w1 H locs hw_391 hP hD hS => ?_)
          obtain ⟨x_392, rfl, rfl⟩ := hw_391
          have hP : va_P G.1 classes [(b13, .inl (G.2 0, 12, .inl y_200)), (b14, .inl (G.2 0, 12, .inl y_201)), (b7, .inl (G.2 3, 240, .inl b55)), (b0, .inr (12, [.int b1, .ref b2, .ref b3, .ref b4, .ref b5, .int b6, .ref b7, .int b8, .int x_210, .int x_392, .int 0, .ref b12, .ref b13, .ref b14, .int y_197, .ref b16, .ref b17, .ref b18, .ref b19, .ref b20, .ref b21, .ref b22, .ref b23, .ref b24, .ref b25, .ref b26, .ref b27, .int b28, .ref b29, .ref b30, .int b31, .int b32, .int b33, .int b34, .ref b35, .ref b36, .ref b37, .ref b38, .ref b39, .ref b40, .ref b41, .int b42, .ref b43, .ref b44, .int b45, .ref b46, .ref b47, .ref b48, .ref b49, .ref b50, .int b51, .ref b52, .ref b53, .ref b54]))] H := hP
          have hD := z_tie hP hD rfl
          refine W.widen (k := 0) (n := 0) (Nat.le_of_ble_eq_true rfl) (Nat.le_of_ble_eq_true rfl) ?_
          exact z_vret hx hb hr hlocks (hP.sub [3, 2, 0, 1] rfl) (hD.sub [3, 2, 0, 1] (by decide) rfl) hS (Nat.le_of_ble_eq_true rfl) (Nat.le_of_ble_eq_true rfl) d_Model_readCalls_42 ⟨x_210, x_392, 0, y_197, y_200, y_201, rfl, rfl, hx_210, (zI.wk (l' := 0) (h' := 1) zc_0 (by decide)), (zI.wk (l' := 0) (h' := 12) hv_390 (by decide)), hy_200, (by omega)⟩
theorem d_Model_readTrace_0 : decode prog_14_method_15_code 0 = .ok (.aload_n 0, 1) := by decide +kernel
theorem d_Model_readTrace_1 : decode prog_14_method_15_code 1 = .ok (.invokevirtual 162, 3) := by decide +kernel
theorem d_Model_readTrace_4 : decode prog_14_method_15_code 4 = .ok (.pop, 1) := by decide +kernel
theorem d_Model_readTrace_5 : decode prog_14_method_15_code 5 = .ok (.aload_n 0, 1) := by decide +kernel
theorem d_Model_readTrace_6 : decode prog_14_method_15_code 6 = .ok (.getfield 31, 3) := by decide +kernel
theorem d_Model_readTrace_9 : decode prog_14_method_15_code 9 = .ok (.iconst 0, 1) := by decide +kernel
theorem d_Model_readTrace_10 : decode prog_14_method_15_code 10 = .ok (.iaload, 1) := by decide +kernel
theorem d_Model_readTrace_11 : decode prog_14_method_15_code 11 = .ok (.bipush 20, 2) := by decide +kernel
theorem d_Model_readTrace_13 : decode prog_14_method_15_code 13 = .ok (.if_icmp .ne 8, 3) := by decide +kernel
theorem d_Model_readTrace_16 : decode prog_14_method_15_code 16 = .ok (.aload_n 0, 1) := by decide +kernel
theorem d_Model_readTrace_17 : decode prog_14_method_15_code 17 = .ok (.invokevirtual 169, 3) := by decide +kernel
theorem d_Model_readTrace_20 : decode prog_14_method_15_code 20 = .ok (.return_, 1) := by decide +kernel
theorem d_Model_readTrace_21 : decode prog_14_method_15_code 21 = .ok (.aload_n 0, 1) := by decide +kernel
theorem d_Model_readTrace_22 : decode prog_14_method_15_code 22 = .ok (.invokevirtual 176, 3) := by decide +kernel
theorem d_Model_readTrace_25 : decode prog_14_method_15_code 25 = .ok (.aload_n 0, 1) := by decide +kernel
theorem d_Model_readTrace_26 : decode prog_14_method_15_code 26 = .ok (.getfield 145, 3) := by decide +kernel
theorem d_Model_readTrace_29 : decode prog_14_method_15_code 29 = .ok (.ifCond .eq 111, 3) := by decide +kernel
theorem d_Model_readTrace_32 : decode prog_14_method_15_code 32 = .ok (.aload_n 0, 1) := by decide +kernel
theorem d_Model_readTrace_33 : decode prog_14_method_15_code 33 = .ok (.getfield 31, 3) := by decide +kernel
theorem d_Model_readTrace_36 : decode prog_14_method_15_code 36 = .ok (.iconst 0, 1) := by decide +kernel
theorem d_Model_readTrace_37 : decode prog_14_method_15_code 37 = .ok (.iaload, 1) := by decide +kernel
theorem d_Model_readTrace_38 : decode prog_14_method_15_code 38 = .ok (.istore_n 1, 1) := by decide +kernel
theorem d_Model_readTrace_39 : decode prog_14_method_15_code 39 = .ok (.aload_n 0, 1) := by decide +kernel
theorem d_Model_readTrace_40 : decode prog_14_method_15_code 40 = .ok (.getfield 31, 3) := by decide +kernel
theorem d_Model_readTrace_43 : decode prog_14_method_15_code 43 = .ok (.iconst 1, 1) := by decide +kernel
theorem d_Model_readTrace_44 : decode prog_14_method_15_code 44 = .ok (.iload_n 1, 1) := by decide +kernel
theorem d_Model_readTrace_45 : decode prog_14_method_15_code 45 = .ok (.iadd, 1) := by decide +kernel
theorem d_Model_readTrace_46 : decode prog_14_method_15_code 46 = .ok (.aload_n 0, 1) := by decide +kernel
theorem d_Model_readTrace_47 : decode prog_14_method_15_code 47 = .ok (.getfield 159, 3) := by decide +kernel
theorem d_Model_readTrace_50 : decode prog_14_method_15_code 50 = .ok (.iastore, 1) := by decide +kernel
theorem d_Model_readTrace_51 : decode prog_14_method_15_code 51 = .ok (.iconst 0, 1) := by decide +kernel
theorem d_Model_readTrace_52 : decode prog_14_method_15_code 52 = .ok (.istore_n 2, 1) := by decide +kernel
theorem d_Model_readTrace_53 : decode prog_14_method_15_code 53 = .ok (.iload_n 2, 1) := by decide +kernel
theorem d_Model_readTrace_54 : decode prog_14_method_15_code 54 = .ok (.bipush 12, 2) := by decide +kernel
theorem d_Model_readTrace_56 : decode prog_14_method_15_code 56 = .ok (.if_icmp .ge 74, 3) := by decide +kernel
theorem d_Model_readTrace_59 : decode prog_14_method_15_code 59 = .ok (.aload_n 0, 1) := by decide +kernel
theorem d_Model_readTrace_60 : decode prog_14_method_15_code 60 = .ok (.getfield 31, 3) := by decide +kernel
theorem d_Model_readTrace_63 : decode prog_14_method_15_code 63 = .ok (.bipush 21, 2) := by decide +kernel
theorem d_Model_readTrace_65 : decode prog_14_method_15_code 65 = .ok (.bipush 12, 2) := by decide +kernel
theorem d_Model_readTrace_67 : decode prog_14_method_15_code 67 = .ok (.iload_n 1, 1) := by decide +kernel
theorem d_Model_readTrace_68 : decode prog_14_method_15_code 68 = .ok (.imul, 1) := by decide +kernel
theorem d_Model_readTrace_69 : decode prog_14_method_15_code 69 = .ok (.iadd, 1) := by decide +kernel
theorem d_Model_readTrace_70 : decode prog_14_method_15_code 70 = .ok (.iload_n 2, 1) := by decide +kernel
theorem d_Model_readTrace_71 : decode prog_14_method_15_code 71 = .ok (.iadd, 1) := by decide +kernel
theorem d_Model_readTrace_72 : decode prog_14_method_15_code 72 = .ok (.iload_n 2, 1) := by decide +kernel
theorem d_Model_readTrace_73 : decode prog_14_method_15_code 73 = .ok (.aload_n 0, 1) := by decide +kernel
theorem d_Model_readTrace_74 : decode prog_14_method_15_code 74 = .ok (.getfield 159, 3) := by decide +kernel
theorem d_Model_readTrace_77 : decode prog_14_method_15_code 77 = .ok (.if_icmp .ge 12, 3) := by decide +kernel
theorem d_Model_readTrace_80 : decode prog_14_method_15_code 80 = .ok (.aload_n 0, 1) := by decide +kernel
theorem d_Model_readTrace_81 : decode prog_14_method_15_code 81 = .ok (.getfield 34, 3) := by decide +kernel
theorem d_Model_readTrace_84 : decode prog_14_method_15_code 84 = .ok (.iload_n 2, 1) := by decide +kernel
theorem d_Model_readTrace_85 : decode prog_14_method_15_code 85 = .ok (.iaload, 1) := by decide +kernel
theorem d_Model_readTrace_86 : decode prog_14_method_15_code 86 = .ok (.goto 4, 3) := by decide +kernel
theorem d_Model_readTrace_89 : decode prog_14_method_15_code 89 = .ok (.iconst 0, 1) := by decide +kernel
theorem d_Model_readTrace_90 : decode prog_14_method_15_code 90 = .ok (.iastore, 1) := by decide +kernel
theorem d_Model_readTrace_91 : decode prog_14_method_15_code 91 = .ok (.aload_n 0, 1) := by decide +kernel
theorem d_Model_readTrace_92 : decode prog_14_method_15_code 92 = .ok (.getfield 31, 3) := by decide +kernel
theorem d_Model_readTrace_95 : decode prog_14_method_15_code 95 = .ok (.sipush 261, 3) := by decide +kernel
theorem d_Model_readTrace_98 : decode prog_14_method_15_code 98 = .ok (.bipush 12, 2) := by decide +kernel
theorem d_Model_readTrace_100 : decode prog_14_method_15_code 100 = .ok (.iload_n 1, 1) := by decide +kernel
theorem d_Model_readTrace_101 : decode prog_14_method_15_code 101 = .ok (.imul, 1) := by decide +kernel
theorem d_Model_readTrace_102 : decode prog_14_method_15_code 102 = .ok (.iadd, 1) := by decide +kernel
theorem d_Model_readTrace_103 : decode prog_14_method_15_code 103 = .ok (.iload_n 2, 1) := by decide +kernel
theorem d_Model_readTrace_104 : decode prog_14_method_15_code 104 = .ok (.iadd, 1) := by decide +kernel
theorem d_Model_readTrace_105 : decode prog_14_method_15_code 105 = .ok (.iload_n 2, 1) := by decide +kernel
theorem d_Model_readTrace_106 : decode prog_14_method_15_code 106 = .ok (.aload_n 0, 1) := by decide +kernel
theorem d_Model_readTrace_107 : decode prog_14_method_15_code 107 = .ok (.getfield 159, 3) := by decide +kernel
theorem d_Model_readTrace_110 : decode prog_14_method_15_code 110 = .ok (.if_icmp .ge 12, 3) := by decide +kernel
theorem d_Model_readTrace_113 : decode prog_14_method_15_code 113 = .ok (.aload_n 0, 1) := by decide +kernel
theorem d_Model_readTrace_114 : decode prog_14_method_15_code 114 = .ok (.getfield 37, 3) := by decide +kernel
theorem d_Model_readTrace_117 : decode prog_14_method_15_code 117 = .ok (.iload_n 2, 1) := by decide +kernel
theorem d_Model_readTrace_118 : decode prog_14_method_15_code 118 = .ok (.iaload, 1) := by decide +kernel
theorem d_Model_readTrace_119 : decode prog_14_method_15_code 119 = .ok (.goto 4, 3) := by decide +kernel
theorem d_Model_readTrace_122 : decode prog_14_method_15_code 122 = .ok (.iconst 0, 1) := by decide +kernel
theorem d_Model_readTrace_123 : decode prog_14_method_15_code 123 = .ok (.iastore, 1) := by decide +kernel
theorem d_Model_readTrace_124 : decode prog_14_method_15_code 124 = .ok (.iinc 2 1, 3) := by decide +kernel
theorem d_Model_readTrace_127 : decode prog_14_method_15_code 127 = .ok (.goto (-74), 3) := by decide +kernel
theorem d_Model_readTrace_130 : decode prog_14_method_15_code 130 = .ok (.aload_n 0, 1) := by decide +kernel
theorem d_Model_readTrace_131 : decode prog_14_method_15_code 131 = .ok (.getfield 31, 3) := by decide +kernel
theorem d_Model_readTrace_134 : decode prog_14_method_15_code 134 = .ok (.iconst 0, 1) := by decide +kernel
theorem d_Model_readTrace_135 : decode prog_14_method_15_code 135 = .ok (.dup2, 1) := by decide +kernel
theorem d_Model_readTrace_136 : decode prog_14_method_15_code 136 = .ok (.iaload, 1) := by decide +kernel
theorem d_Model_readTrace_137 : decode prog_14_method_15_code 137 = .ok (.iconst 1, 1) := by decide +kernel
theorem d_Model_readTrace_138 : decode prog_14_method_15_code 138 = .ok (.iadd, 1) := by decide +kernel
theorem d_Model_readTrace_139 : decode prog_14_method_15_code 139 = .ok (.iastore, 1) := by decide +kernel
theorem d_Model_readTrace_140 : decode prog_14_method_15_code 140 = .ok (.return_, 1) := by decide +kernel
abbrev m_s1_Model_readTrace : Room := { frames := 3, cells := 0, slots := 0, locals := 67 }
set_option maxHeartbeats 4000000 in
set_option maxRecDepth 100000 in
theorem s1_Model_readTrace (l : Launch) (G : zG) (b0 : Nat) (b1 : Int32) (b2 : Nat) (b3 : Nat) (b4 : Nat) (b5 : Nat) (b6 : Int32) (b7 : Nat) (b8 : Int32) (b9 : Int32) (b10 : Int32) (b11 : Int32) (b12 : Nat) (b13 : Nat) (b14 : Nat) (b15 : Int32) (b16 : Nat) (b17 : Nat) (b18 : Nat) (b19 : Nat) (b20 : Nat) (b21 : Nat) (b22 : Nat) (b23 : Nat) (b24 : Nat) (b25 : Nat) (b26 : Nat) (b27 : Nat) (b28 : Int32) (b29 : Nat) (b30 : Nat) (b31 : Int32) (b32 : Int32) (b33 : Int32) (b34 : Int32) (b35 : Nat) (b36 : Nat) (b37 : Nat) (b38 : Nat) (b39 : Nat) (b40 : Nat) (b41 : Nat) (b42 : Int32) (b43 : Nat) (b44 : Nat) (b45 : Int32) (b46 : Nat) (b47 : Nat) (b48 : Nat) (b49 : Nat) (b50 : Nat) (b51 : Int32) (b52 : Nat) (b53 : Nat) (b54 : Nat) (b55 : Nat → Int32) (b56 : Nat → Int32) (b57 : Nat → Int32) (b58 : Nat → Int32) (hb6 : zI b6 0 8) (hb8 : zI b8 0 240) (hb9 : zI b9 0 240) (hb11 : zI b11 0 1) (hb15 : zI b15 0 12) (hb28 : zI b28 0 1) (hb31 : zI b31 0 1) (hb42 : zI b42 0 1000) (hb45 : zI b45 0 1000) (hb51 : zI b51 0 400) (hb56 : zW5 b56) (hb57 : zR b57 0 9) : zM l G y_Model_readTrace prog_14_method_15_code 3 (Option.none : Option Jvm.ClassFile.FieldType) m_s1_Model_readTrace [.ref b0] [(b0, .inr (12, [.int b1, .ref b2, .ref b3, .ref b4, .ref b5, .int b6, .ref b7, .int b8, .int b9, .int b10, .int b11, .ref b12, .ref b13, .ref b14, .int b15, .ref b16, .ref b17, .ref b18, .ref b19, .ref b20, .ref b21, .ref b22, .ref b23, .ref b24, .ref b25, .ref b26, .ref b27, .int b28, .ref b29, .ref b30, .int b31, .int b32, .int b33, .int b34, .ref b35, .ref b36, .ref b37, .ref b38, .ref b39, .ref b40, .ref b41, .int b42, .ref b43, .ref b44, .int b45, .ref b46, .ref b47, .ref b48, .ref b49, .ref b50, .int b51, .ref b52, .ref b53, .ref b54])), (b7, .inl (G.2 3, 240, .inl b55)), (b12, .inl (G.2 0, 503, .inl b56)), (b13, .inl (G.2 0, 12, .inl b57)), (b14, .inl (G.2 0, 12, .inl b58))] (fun v w => ∃ (e0 : Int32), ∃ (e1 : Int32), ∃ (e2 : Int32), ∃ (e3 : Int32), ∃ (e4 : Nat → Int32), ∃ (e5 : Nat → Int32), ∃ (e6 : Nat → Int32), v = none ∧ w = [(b0, .inr (12, [.int b1, .ref b2, .ref b3, .ref b4, .ref b5, .int b6, .ref b7, .int b8, .int e0, .int e1, .int e2, .ref b12, .ref b13, .ref b14, .int e3, .ref b16, .ref b17, .ref b18, .ref b19, .ref b20, .ref b21, .ref b22, .ref b23, .ref b24, .ref b25, .ref b26, .ref b27, .int b28, .ref b29, .ref b30, .int b31, .int b32, .int b33, .int b34, .ref b35, .ref b36, .ref b37, .ref b38, .ref b39, .ref b40, .ref b41, .int b42, .ref b43, .ref b44, .int b45, .ref b46, .ref b47, .ref b48, .ref b49, .ref b50, .int b51, .ref b52, .ref b53, .ref b54])), (b7, .inl (G.2 3, 240, .inl b55)), (b12, .inl (G.2 0, 503, .inl e4)), (b13, .inl (G.2 0, 12, .inl e5)), (b14, .inl (G.2 0, 12, .inl e6))] ∧ (zI e0 0 240) ∧ (zI e2 0 1) ∧ (zI e3 0 12) ∧ (zW5 e4) ∧ (zR e5 0 9) ∧ (b9.toInt ≤ e0.toInt)) := by
  refine z_start (by decide +kernel) (Nat.le_of_ble_eq_true rfl) ?_
  intro p e s m below meth c A Z hr hnm hA hP hD hS ls hl
  have Z : zC p s m _ meth c prog_14_method_15_code 3 "TraceMachinesModel" G := Z
  obtain ⟨hx, hb, hml, hown, hts, hK, hN, hlocks⟩ := id Z
  have hl : lv_has ls 3 [(0, .ref b0)] := hl
  refine lv_aload_n hx hb d_Model_readTrace_0 rfl (lv_at hl 0 rfl) ?_
  refine z_callV (index := 162) (As := []) (rest := []) (wr := [(b12, .inl (G.2 0, 503, .inl b56)), (b13, .inl (G.2 0, 12, .inl b57)), (b14, .inl (G.2 0, 12, .inl b58))]) Z (s1_Model_next l G (b0) (b1) (b2) (b3) (b4) (b5) (b6) (b7) (b8) (b9) (b10) (b11) (b12) (b13) (b14) (b15) (b16) (b17) (b18) (b19) (b20) (b21) (b22) (b23) (b24) (b25) (b26) (b27) (b28) (b29) (b30) (b31) (b32) (b33) (b34) (b35) (b36) (b37) (b38) (b39) (b40) (b41) (b42) (b43) (b44) (b45) (b46) (b47) (b48) (b49) (b50) (b51) (b52) (b53) (b54) (b55) hb6 hb8 hb9 hb11 hb15 hb28 hb31 hb42 hb45 hb51) hl.1 q1292 q1294 qs45 q14 q1295 ⟨by decide, by decide, by show _ = some 0; decide +kernel⟩ ⟨Nat.le_of_ble_eq_true rfl, Nat.le_of_ble_eq_true rfl⟩ ⟨Nat.le_of_ble_eq_true rfl, Nat.le_of_ble_eq_true rfl⟩ rfl (Nat.le_of_ble_eq_true rfl) d_Model_readTrace_1 hP hD hS hA 0 12 rfl rfl rfl [0, 1] [2, 3, 4] rfl rfl rfl rfl (by decide) (fun v w1 H locs hw_1 hP hD hS => ?_)
  obtain ⟨x_2, x_3, rfl, rfl, hx_3, hfx_4, hfx_5⟩ := hw_1
  have hP : va_P G.1 classes [(b12, .inl (G.2 0, 503, .inl b56)), (b13, .inl (G.2 0, 12, .inl b57)), (b14, .inl (G.2 0, 12, .inl b58)), (b0, .inr (12, [.int b1, .ref b2, .ref b3, .ref b4, .ref b5, .int b6, .ref b7, .int b8, .int x_3, .int b10, .int b11, .ref b12, .ref b13, .ref b14, .int b15, .ref b16, .ref b17, .ref b18, .ref b19, .ref b20, .ref b21, .ref b22, .ref b23, .ref b24, .ref b25, .ref b26, .ref b27, .int b28, .ref b29, .ref b30, .int b31, .int b32, .int b33, .int b34, .ref b35, .ref b36, .ref b37, .ref b38, .ref b39, .ref b40, .ref b41, .int b42, .ref b43, .ref b44, .int b45, .ref b46, .ref b47, .ref b48, .ref b49, .ref b50, .int b51, .ref b52, .ref b53, .ref b54])), (b7, .inl (G.2 3, 240, .inl b55))] H := hP
  have hD := z_tie hP hD rfl
  refine W.widen (k := 0) (n := 0) (Nat.le_of_ble_eq_true rfl) (Nat.le_of_ble_eq_true rfl) ?_
  refine lv_pop hx hb d_Model_readTrace_4 rfl ?_
  refine lv_aload_n hx hb d_Model_readTrace_5 rfl (lv_at hl 0 rfl) ?_
  refine va_get (D := G.1) (ci := 12) (v := .ref b12) (C := R_Model) (T := F_Model) (N := 54) hx hb hts i_Model hown hK hP 3 rfl rfl 11 (by decide) (hts _ q1120) (fun _ h9 => h9) rfl d_Model_readTrace_6 ?_
  refine lv_iconst (v := 0) hx hb d_Model_readTrace_9 (by decide) ?_
  refine va_iald hx hb hK hP 0 0 rfl rfl (i := 0) (z_in rfl) d_Model_readTrace_10 ?_
  refine lv_topi (fun v_6 ev_6 => ?_)
  have hv_6 : zI v_6 0 20 := zW5.ld hb56 zc_0 ev_6 (by decide)
  refine lv_bipush (v := 20) hx hb d_Model_readTrace_11 (by decide) ?_
  refine lv_icmp_ne (tgt := 21) hx hb d_Model_readTrace_13 (by decide) (fun hc_7 => ?_) (fun hc_7 => ?_)
  · have _nhc_7 := hc_7
    have ni_8 : ¬ (v_6 : Int32).toInt = (20 : Int32).toInt := fun z => hc_7 ((fa_eq _ _).mpr z)
    simp only [li_20] at ni_8
    have hv_9 : zI v_6 0 19 := zI.ne_hi hv_6 zc_20 hc_7 (by decide)
    refine lv_aload_n hx hb d_Model_readTrace_21 rfl (lv_at hl 0 rfl) ?_
    refine z_callV (index := 176) (As := []) (rest := []) (wr := [(b12, .inl (G.2 0, 503, .inl b56))]) Z (s1_Model_readCalls l G (b0) (b1) (b2) (b3) (b4) (b5) (b6) (b7) (b8) (x_3) (b10) (b11) (b12) (b13) (b14) (b15) (b16) (b17) (b18) (b19) (b20) (b21) (b22) (b23) (b24) (b25) (b26) (b27) (b28) (b29) (b30) (b31) (b32) (b33) (b34) (b35) (b36) (b37) (b38) (b39) (b40) (b41) (b42) (b43) (b44) (b45) (b46) (b47) (b48) (b49) (b50) (b51) (b52) (b53) (b54) (b55) (b57) (b58) hb6 hb8 hx_3 hb11 hb15 hb28 hb31 hb42 hb45 hb51 hb57) hl.1 q1300 q1302 qs47 q14 q1303 ⟨by decide, by decide, by show _ = some 0; decide +kernel⟩ ⟨Nat.le_of_ble_eq_true rfl, Nat.le_of_ble_eq_true rfl⟩ ⟨Nat.le_of_ble_eq_true rfl, Nat.le_of_ble_eq_true rfl⟩ rfl (Nat.le_of_ble_eq_true rfl) d_Model_readTrace_22 hP hD hS hA 3 12 rfl rfl rfl [3, 4, 1, 2] [0] rfl rfl rfl rfl (by decide) (fun v w1 H locs hw_10 hP hD hS => ?_)
    obtain ⟨x_11, x_12, x_13, x_14, f_15, f_16, rfl, rfl, hx_11, hx_13, hx_14, hf_15, hfx_17⟩ := hw_10
    have hP : va_P G.1 classes [(b12, .inl (G.2 0, 503, .inl b56)), (b0, .inr (12, [.int b1, .ref b2, .ref b3, .ref b4, .ref b5, .int b6, .ref b7, .int b8, .int x_11, .int x_12, .int x_13, .ref b12, .ref b13, .ref b14, .int x_14, .ref b16, .ref b17, .ref b18, .ref b19, .ref b20, .ref b21, .ref b22, .ref b23, .ref b24, .ref b25, .ref b26, .ref b27, .int b28, .ref b29, .ref b30, .int b31, .int b32, .int b33, .int b34, .ref b35, .ref b36, .ref b37, .ref b38, .ref b39, .ref b40, .ref b41, .int b42, .ref b43, .ref b44, .int b45, .ref b46, .ref b47, .ref b48, .ref b49, .ref b50, .int b51, .ref b52, .ref b53, .ref b54])), (b7, .inl (G.2 3, 240, .inl b55)), (b13, .inl (G.2 0, 12, .inl f_15)), (b14, .inl (G.2 0, 12, .inl f_16))] H := hP
    have hD := z_tie hP hD rfl
    refine W.widen (k := 0) (n := 0) (Nat.le_of_ble_eq_true rfl) (Nat.le_of_ble_eq_true rfl) ?_
    refine lv_aload_n hx hb d_Model_readTrace_25 rfl (lv_at hl 0 rfl) ?_
    refine va_get (D := G.1) (ci := 12) (v := .int x_13) (C := R_Model) (T := F_Model) (N := 54) hx hb hts i_Model hown hK hP 1 rfl rfl 10 (by decide) (hts _ q1119) (fun _ h9 => h9) rfl d_Model_readTrace_26 ?_
    refine lv_if_eq (tgt := 140) hx hb d_Model_readTrace_29 (by decide) (fun hc_18 => ?_) (fun hc_18 => ?_)
    · have _nhc_18 := hc_18
      have ni_19 := (fa_eq _ _).mp hc_18
      rw [li_0] at ni_19
      have hv_20 : zI x_13 0 0 := zI.eq_l hx_13 zc_0 hc_18
      exact z_vret hx hb hr hlocks (hP.sub [1, 2, 0, 3, 4] rfl) (hD.sub [1, 2, 0, 3, 4] (by decide) rfl) hS (Nat.le_of_ble_eq_true rfl) (Nat.le_of_ble_eq_true rfl) d_Model_readTrace_140 ⟨x_11, x_12, x_13, x_14, b56, f_15, f_16, rfl, rfl, hx_11, (zI.wk (l' := 0) (h' := 1) hv_20 (by decide)), hx_14, hb56, hf_15, (by omega)⟩
    · have _nhc_18 := hc_18
      have ni_21 : ¬ (x_13 : Int32).toInt = (0 : Int32).toInt := fun z => hc_18 ((fa_eq _ _).mpr z)
      simp only [li_0] at ni_21
      have hv_22 : zI x_13 1 1 := zI.ne_lo hx_13 zc_0 hc_18 (by decide)
      refine lv_aload_n hx hb d_Model_readTrace_32 rfl (lv_at hl 0 rfl) ?_
      refine va_get (D := G.1) (ci := 12) (v := .ref b12) (C := R_Model) (T := F_Model) (N := 54) hx hb hts i_Model hown hK hP 1 rfl rfl 11 (by decide) (hts _ q1120) (fun _ h9 => h9) rfl d_Model_readTrace_33 ?_
      refine lv_iconst (v := 0) hx hb d_Model_readTrace_36 (by decide) ?_
      refine va_iald hx hb hK hP 0 0 rfl rfl (i := 0) (z_in rfl) d_Model_readTrace_37 ?_
      refine lv_topi (fun v_23 ev_23 => ?_)
      obtain rfl : v_6 = v_23 := ev_6.trans ev_23.symm
      refine lv_istore_n (lv' := [(1, .int v_6), (0, .ref b0)]) hx hb d_Model_readTrace_38 rfl hl (by decide) rfl (fun ls hl => ?_)
      refine lv_aload_n hx hb d_Model_readTrace_39 rfl (lv_at hl 1 rfl) ?_
      refine va_get (D := G.1) (ci := 12) (v := .ref b12) (C := R_Model) (T := F_Model) (N := 54) hx hb hts i_Model hown hK hP 1 rfl rfl 11 (by decide) (hts _ q1120) (fun _ h9 => h9) rfl d_Model_readTrace_40 ?_
      refine lv_iconst (v := 1) hx hb d_Model_readTrace_43 (by decide) ?_
      refine lv_iload_n hx hb d_Model_readTrace_44 rfl (lv_at hl 0 rfl) ?_
      refine lv_iadd hx hb d_Model_readTrace_45 ?_
      refine lv_topi (fun v_24 ev_24 => ?_)
      obtain ⟨qv_24, hv_24⟩ := zI_add (l := 1) (h := 20) zc_1 hv_9 ev_24 (by decide)
      rw [li_1] at qv_24
      refine lv_aload_n hx hb d_Model_readTrace_46 rfl (lv_at hl 1 rfl) ?_
      refine va_get (D := G.1) (ci := 12) (v := .int x_14) (C := R_Model) (T := F_Model) (N := 54) hx hb hts i_Model hown hK hP 1 rfl rfl 14 (by decide) (hts _ q1123) (fun _ h9 => h9) rfl d_Model_readTrace_47 ?_
      refine va_iast hx hb hK hP hD hS 0 0 rfl rfl (zI.inn hv_24 (by decide)) d_Model_readTrace_50 (fun H locs hP hD hS => ?_)
      obtain ⟨f_25, hf_25, gf_25, uf_25, hP, hD⟩ := z_newfw 0 hP hD rfl hb56 (zRk_v hv_24 hx_14 (by decide))
      have hP : va_P G.1 classes [(b12, .inl (G.2 0, 503, .inl f_25)), (b0, .inr (12, [.int b1, .ref b2, .ref b3, .ref b4, .ref b5, .int b6, .ref b7, .int b8, .int x_11, .int x_12, .int x_13, .ref b12, .ref b13, .ref b14, .int x_14, .ref b16, .ref b17, .ref b18, .ref b19, .ref b20, .ref b21, .ref b22, .ref b23, .ref b24, .ref b25, .ref b26, .ref b27, .int b28, .ref b29, .ref b30, .int b31, .int b32, .int b33, .int b34, .ref b35, .ref b36, .ref b37, .ref b38, .ref b39, .ref b40, .ref b41, .int b42, .ref b43, .ref b44, .int b45, .ref b46, .ref b47, .ref b48, .ref b49, .ref b50, .int b51, .ref b52, .ref b53, .ref b54])), (b7, .inl (G.2 3, 240, .inl b55)), (b13, .inl (G.2 0, 12, .inl f_15)), (b14, .inl (G.2 0, 12, .inl f_16))] H := hP
      have hD := z_tie hP hD rfl
      refine lv_iconst (v := 0) hx hb d_Model_readTrace_51 (by decide) ?_
      refine lv_istore_n (lv' := [(2, .int 0), (1, .int v_6), (0, .ref b0)]) hx hb d_Model_readTrace_52 rfl hl (by decide) rfl (fun ls hl => ?_)
      suffices key : ∀ (k_74 : Nat) (y_75 : Int32) (y_76 : Nat → Int32) (H : Heap) (locs : List Loc) (ls : Array Slot), (zI y_75 0 12) → (zW5 y_76) → ((y_76 (0 : Int32).toNatClampNeg).toInt ≤ 19) → (12 : Int) - y_75.toInt < (k_74 : Int) → va_P G.1 classes [(b12, .inl (G.2 0, 503, .inl y_76)), (b0, .inr (12, [.int b1, .ref b2, .ref b3, .ref b4, .ref b5, .int b6, .ref b7, .int b8, .int x_11, .int x_12, .int x_13, .ref b12, .ref b13, .ref b14, .int x_14, .ref b16, .ref b17, .ref b18, .ref b19, .ref b20, .ref b21, .ref b22, .ref b23, .ref b24, .ref b25, .ref b26, .ref b27, .int b28, .ref b29, .ref b30, .int b31, .int b32, .int b33, .int b34, .ref b35, .ref b36, .ref b37, .ref b38, .ref b39, .ref b40, .ref b41, .int b42, .ref b43, .ref b44, .int b45, .ref b46, .ref b47, .ref b48, .ref b49, .ref b50, .int b51, .ref b52, .ref b53, .ref b54])), (b7, .inl (G.2 3, 240, .inl b55)), (b13, .inl (G.2 0, 12, .inl f_15)), (b14, .inl (G.2 0, 12, .inl f_16))] H → va_D A [(b12, .inl (G.2 0, 503, .inl y_76)), (b0, .inr (12, [.int b1, .ref b2, .ref b3, .ref b4, .ref b5, .int b6, .ref b7, .int b8, .int x_11, .int x_12, .int x_13, .ref b12, .ref b13, .ref b14, .int x_14, .ref b16, .ref b17, .ref b18, .ref b19, .ref b20, .ref b21, .ref b22, .ref b23, .ref b24, .ref b25, .ref b26, .ref b27, .int b28, .ref b29, .ref b30, .int b31, .int b32, .int b33, .int b34, .ref b35, .ref b36, .ref b37, .ref b38, .ref b39, .ref b40, .ref b41, .int b42, .ref b43, .ref b44, .int b45, .ref b46, .ref b47, .ref b48, .ref b49, .ref b50, .int b51, .ref b52, .ref b53, .ref b54])), (b7, .inl (G.2 3, 240, .inl b55)), (b13, .inl (G.2 0, 12, .inl f_15)), (b14, .inl (G.2 0, 12, .inl f_16))] → va_S A s.heap H locs → lv_has ls 3 [(2, .int y_75), (1, .int v_6), (0, .ref b0)] → W p l e m_s1_Model_readTrace s m ([.ref b0] : List Value).toArray below meth c H locs 0 0 (MQ below (zQ G (fun v w => ∃ (e0 : Int32), ∃ (e1 : Int32), ∃ (e2 : Int32), ∃ (e3 : Int32), ∃ (e4 : Nat → Int32), ∃ (e5 : Nat → Int32), ∃ (e6 : Nat → Int32), v = none ∧ w = [(b0, .inr (12, [.int b1, .ref b2, .ref b3, .ref b4, .ref b5, .int b6, .ref b7, .int b8, .int e0, .int e1, .int e2, .ref b12, .ref b13, .ref b14, .int e3, .ref b16, .ref b17, .ref b18, .ref b19, .ref b20, .ref b21, .ref b22, .ref b23, .ref b24, .ref b25, .ref b26, .ref b27, .int b28, .ref b29, .ref b30, .int b31, .int b32, .int b33, .int b34, .ref b35, .ref b36, .ref b37, .ref b38, .ref b39, .ref b40, .ref b41, .int b42, .ref b43, .ref b44, .int b45, .ref b46, .ref b47, .ref b48, .ref b49, .ref b50, .int b51, .ref b52, .ref b53, .ref b54])), (b7, .inl (G.2 3, 240, .inl b55)), (b12, .inl (G.2 0, 503, .inl e4)), (b13, .inl (G.2 0, 12, .inl e5)), (b14, .inl (G.2 0, 12, .inl e6))] ∧ (zI e0 0 240) ∧ (zI e2 0 1) ∧ (zI e3 0 12) ∧ (zW5 e4) ∧ (zR e5 0 9) ∧ (b9.toInt ≤ e0.toInt)) A) ([.ref b0] : List Value).toArray s m_s1_Model_readTrace.cells m_s1_Model_readTrace.slots A) (F0 m 53 ls []) by
        exact key 13 (0) (f_25) _ _ _ (zI.wk (l' := 0) (h' := 12) zc_0 (by decide)) hf_25 (by have p0_ := z_pl zc_0 (by decide); have _l0 := li_0; have p1_ := z_pl hv_24 (by decide); rw [uf_25, z_at, if_neg (by omega)]; rw [← ev_6]; omega) (zm_upi (zI.wk (l' := 0) (h' := 12) zc_0 (by decide)) (by decide)) hP hD hS (lv_sub hl [0, 1, 2] rfl)
      intro k_74
      induction k_74 with
      | zero =>
        intro y_75 y_76 H locs ls hy_75 hy_76 hli_77 hmk_74 hP hD hS hl
        exact (zm_up0 hy_75 hmk_74).elim
      | succ k_74 ihk_74 =>
        intro y_75 y_76 H locs ls hy_75 hy_76 hli_77 hmk_74 hP hD hS hl
        refine lv_iload_n hx hb d_Model_readTrace_53 rfl (lv_at hl 0 rfl) ?_
        refine lv_bipush (v := 12) hx hb d_Model_readTrace_54 (by decide) ?_
        refine lv_icmp_ge (tgt := 130) hx hb d_Model_readTrace_56 (by decide) (fun hc_78 => ?_) (fun hc_78 => ?_)
        · have _nhc_78 := hc_78
          have ni_79 := (fa_le _ _).mp hc_78
          rw [li_12] at ni_79
          have hv_80 : zI y_75 12 12 := zI.le_r zc_12 hy_75 hc_78 (by decide)
          refine lv_aload_n hx hb d_Model_readTrace_130 rfl (lv_at hl 2 rfl) ?_
          refine va_get (D := G.1) (ci := 12) (v := .ref b12) (C := R_Model) (T := F_Model) (N := 54) hx hb hts i_Model hown hK hP 1 rfl rfl 11 (by decide) (hts _ q1120) (fun _ h9 => h9) rfl d_Model_readTrace_131 ?_
          refine lv_iconst (v := 0) hx hb d_Model_readTrace_134 (by decide) ?_
          refine lv_dup2_11 hx hb d_Model_readTrace_135 rfl rfl ?_
          refine va_iald hx hb hK hP 0 0 rfl rfl (i := 0) (z_in rfl) d_Model_readTrace_136 ?_
          refine lv_topi (fun v_81 ev_81 => ?_)
          have hv_81 : zI v_81 0 20 := zW5.ld hy_76 zc_0 ev_81 (by decide)
          have hv_82 : zI v_81 0 19 := ⟨hv_81.1, by rw [ev_81]; exact hli_77⟩
          refine lv_iconst (v := 1) hx hb d_Model_readTrace_137 (by decide) ?_
          refine lv_iadd hx hb d_Model_readTrace_138 ?_
          refine lv_topi (fun v_83 ev_83 => ?_)
          obtain ⟨qv_83, hv_83⟩ := zI_add (l := 1) (h := 20) hv_82 zc_1 ev_83 (by decide)
          rw [li_1] at qv_83
          refine va_iast hx hb hK hP hD hS 0 0 rfl rfl (i := 0) (z_in rfl) d_Model_readTrace_139 (fun H locs hP hD hS => ?_)
          obtain ⟨f_84, hf_84, gf_84, uf_84, hP, hD⟩ := z_newfw 0 hP hD rfl hy_76 (zRk_v zc_0 hv_83 (by decide))
          have hP : va_P G.1 classes [(b12, .inl (G.2 0, 503, .inl f_84)), (b0, .inr (12, [.int b1, .ref b2, .ref b3, .ref b4, .ref b5, .int b6, .ref b7, .int b8, .int x_11, .int x_12, .int x_13, .ref b12, .ref b13, .ref b14, .int x_14, .ref b16, .ref b17, .ref b18, .ref b19, .ref b20, .ref b21, .ref b22, .ref b23, .ref b24, .ref b25, .ref b26, .ref b27, .int b28, .ref b29, .ref b30, .int b31, .int b32, .int b33, .int b34, .ref b35, .ref b36, .ref b37, .ref b38, .ref b39, .ref b40, .ref b41, .int b42, .ref b43, .ref b44, .int b45, .ref b46, .ref b47, .ref b48, .ref b49, .ref b50, .int b51, .ref b52, .ref b53, .ref b54])), (b7, .inl (G.2 3, 240, .inl b55)), (b13, .inl (G.2 0, 12, .inl f_15)), (b14, .inl (G.2 0, 12, .inl f_16))] H := hP
          have hD := z_tie hP hD rfl
          exact z_vret hx hb hr hlocks (hP.sub [1, 2, 0, 3, 4] rfl) (hD.sub [1, 2, 0, 3, 4] (by decide) rfl) hS (Nat.le_of_ble_eq_true rfl) (Nat.le_of_ble_eq_true rfl) d_Model_readTrace_140 ⟨x_11, x_12, x_13, x_14, f_84, f_15, f_16, rfl, rfl, hx_11, (zI.wk (l' := 0) (h' := 1) hv_22 (by decide)), hx_14, hf_84, hf_15, (by omega)⟩
        · have _nhc_78 := hc_78
          have ni_85 := (fa_lt _ _).mp (zi_nle hc_78)
          rw [li_12] at ni_85
          have hv_86 : zI y_75 0 11 := zI.lt_l hy_75 zc_12 (zi_nle hc_78) (by decide)
          refine lv_aload_n hx hb d_Model_readTrace_59 rfl (lv_at hl 2 rfl) ?_
          refine va_get (D := G.1) (ci := 12) (v := .ref b12) (C := R_Model) (T := F_Model) (N := 54) hx hb hts i_Model hown hK hP 1 rfl rfl 11 (by decide) (hts _ q1120) (fun _ h9 => h9) rfl d_Model_readTrace_60 ?_
          refine lv_bipush (v := 21) hx hb d_Model_readTrace_63 (by decide) ?_
          refine lv_bipush (v := 12) hx hb d_Model_readTrace_65 (by decide) ?_
          refine lv_iload_n hx hb d_Model_readTrace_67 rfl (lv_at hl 1 rfl) ?_
          refine lv_imul hx hb d_Model_readTrace_68 ?_
          refine lv_topi (fun v_87 ev_87 => ?_)
          obtain ⟨qv_87, hv_87⟩ := zI_mul (l := 0) (h := 228) zc_12 hv_9 ev_87 (by decide)
          rw [li_12] at qv_87
          refine lv_iadd hx hb d_Model_readTrace_69 ?_
          refine lv_topi (fun v_88 ev_88 => ?_)
          obtain ⟨qv_88, hv_88⟩ := zI_add (l := 21) (h := 249) zc_21 hv_87 ev_88 (by decide)
          rw [li_21] at qv_88
          refine lv_iload_n hx hb d_Model_readTrace_70 rfl (lv_at hl 0 rfl) ?_
          refine lv_iadd hx hb d_Model_readTrace_71 ?_
          refine lv_topi (fun v_89 ev_89 => ?_)
          obtain ⟨qv_89, hv_89⟩ := zI_add (l := 21) (h := 260) hv_88 hv_86 ev_89 (by decide)
          refine lv_iload_n hx hb d_Model_readTrace_72 rfl (lv_at hl 0 rfl) ?_
          refine lv_aload_n hx hb d_Model_readTrace_73 rfl (lv_at hl 2 rfl) ?_
          refine va_get (D := G.1) (ci := 12) (v := .int x_14) (C := R_Model) (T := F_Model) (N := 54) hx hb hts i_Model hown hK hP 1 rfl rfl 14 (by decide) (hts _ q1123) (fun _ h9 => h9) rfl d_Model_readTrace_74 ?_
          refine lv_icmp_ge (tgt := 89) hx hb d_Model_readTrace_77 (by decide) (fun hc_90 => ?_) (fun hc_90 => ?_)
          · have _nhc_90 := hc_90
            have ni_91 := (fa_le _ _).mp hc_90
            have hv_92 : zI x_14 0 11 := zI.le_l hx_14 hv_86 hc_90 (by decide)
            refine lv_iconst (v := 0) hx hb d_Model_readTrace_89 (by decide) ?_
            refine va_iast hx hb hK hP hD hS 0 0 rfl rfl (zI.inn hv_89 (by decide)) d_Model_readTrace_90 (fun H locs hP hD hS => ?_)
            obtain ⟨f_93, hf_93, gf_93, uf_93, hP, hD⟩ := z_newfw 0 hP hD rfl hy_76 (zRk_v hv_89 zc_0 (by decide))
            have hP : va_P G.1 classes [(b12, .inl (G.2 0, 503, .inl f_93)), (b0, .inr (12, [.int b1, .ref b2, .ref b3, .ref b4, .ref b5, .int b6, .ref b7, .int b8, .int x_11, .int x_12, .int x_13, .ref b12, .ref b13, .ref b14, .int x_14, .ref b16, .ref b17, .ref b18, .ref b19, .ref b20, .ref b21, .ref b22, .ref b23, .ref b24, .ref b25, .ref b26, .ref b27, .int b28, .ref b29, .ref b30, .int b31, .int b32, .int b33, .int b34, .ref b35, .ref b36, .ref b37, .ref b38, .ref b39, .ref b40, .ref b41, .int b42, .ref b43, .ref b44, .int b45, .ref b46, .ref b47, .ref b48, .ref b49, .ref b50, .int b51, .ref b52, .ref b53, .ref b54])), (b7, .inl (G.2 3, 240, .inl b55)), (b13, .inl (G.2 0, 12, .inl f_15)), (b14, .inl (G.2 0, 12, .inl f_16))] H := hP
            have hD := z_tie hP hD rfl
            refine lv_aload_n hx hb d_Model_readTrace_91 rfl (lv_at hl 2 rfl) ?_
            refine va_get (D := G.1) (ci := 12) (v := .ref b12) (C := R_Model) (T := F_Model) (N := 54) hx hb hts i_Model hown hK hP 1 rfl rfl 11 (by decide) (hts _ q1120) (fun _ h9 => h9) rfl d_Model_readTrace_92 ?_
            refine lv_sipush (v := 261) hx hb d_Model_readTrace_95 (by decide) ?_
            refine lv_bipush (v := 12) hx hb d_Model_readTrace_98 (by decide) ?_
            refine lv_iload_n hx hb d_Model_readTrace_100 rfl (lv_at hl 1 rfl) ?_
            refine lv_imul hx hb d_Model_readTrace_101 ?_
            refine lv_topi (fun v_94 ev_94 => ?_)
            obtain rfl : v_87 = v_94 := ev_87.trans ev_94.symm
            refine lv_iadd hx hb d_Model_readTrace_102 ?_
            refine lv_topi (fun v_95 ev_95 => ?_)
            obtain ⟨qv_95, hv_95⟩ := zI_add (l := 261) (h := 489) zc_261 hv_87 ev_95 (by decide)
            rw [li_261] at qv_95
            refine lv_iload_n hx hb d_Model_readTrace_103 rfl (lv_at hl 0 rfl) ?_
            refine lv_iadd hx hb d_Model_readTrace_104 ?_
            refine lv_topi (fun v_96 ev_96 => ?_)
            obtain ⟨qv_96, hv_96⟩ := zI_add (l := 261) (h := 500) hv_95 hv_86 ev_96 (by decide)
            refine lv_iload_n hx hb d_Model_readTrace_105 rfl (lv_at hl 0 rfl) ?_
            refine lv_aload_n hx hb d_Model_readTrace_106 rfl (lv_at hl 2 rfl) ?_
            refine va_get (D := G.1) (ci := 12) (v := .int x_14) (C := R_Model) (T := F_Model) (N := 54) hx hb hts i_Model hown hK hP 1 rfl rfl 14 (by decide) (hts _ q1123) (fun _ h9 => h9) rfl d_Model_readTrace_107 ?_
            refine lv_icmp_ge (tgt := 122) hx hb d_Model_readTrace_110 (by decide) (fun hc_97 => ?_) (fun hc_97 => ?_)
            · have _nhc_97 := hc_97
              have ni_98 := (fa_le _ _).mp hc_97
              refine lv_iconst (v := 0) hx hb d_Model_readTrace_122 (by decide) ?_
              refine va_iast hx hb hK hP hD hS 0 0 rfl rfl (zI.inn hv_96 (by decide)) d_Model_readTrace_123 (fun H locs hP hD hS => ?_)
              obtain ⟨f_99, hf_99, gf_99, uf_99, hP, hD⟩ := z_newfw 0 hP hD rfl hf_93 (zRk_v hv_96 zc_0 (by decide))
              have hP : va_P G.1 classes [(b12, .inl (G.2 0, 503, .inl f_99)), (b0, .inr (12, [.int b1, .ref b2, .ref b3, .ref b4, .ref b5, .int b6, .ref b7, .int b8, .int x_11, .int x_12, .int x_13, .ref b12, .ref b13, .ref b14, .int x_14, .ref b16, .ref b17, .ref b18, .ref b19, .ref b20, .ref b21, .ref b22, .ref b23, .ref b24, .ref b25, .ref b26, .ref b27, .int b28, .ref b29, .ref b30, .int b31, .int b32, .int b33, .int b34, .ref b35, .ref b36, .ref b37, .ref b38, .ref b39, .ref b40, .ref b41, .int b42, .ref b43, .ref b44, .int b45, .ref b46, .ref b47, .ref b48, .ref b49, .ref b50, .int b51, .ref b52, .ref b53, .ref b54])), (b7, .inl (G.2 3, 240, .inl b55)), (b13, .inl (G.2 0, 12, .inl f_15)), (b14, .inl (G.2 0, 12, .inl f_16))] H := hP
              have hD := z_tie hP hD rfl
              obtain ⟨v_100, ev_100⟩ : ∃ z : Int32, z = y_75 + 1 := ⟨_, rfl⟩
              obtain ⟨qv_100, hv_100⟩ := zI_add (l := 1) (h := 12) hv_86 zc_1 ev_100 (by decide)
              rw [li_1] at qv_100
              refine lv_iinc (v := v_100) (lv' := [(2, .int v_100), (1, .int v_6), (0, .ref b0)]) hx hb d_Model_readTrace_124 hl (k := 0) rfl (by rw [ev_100]; rfl) (by decide) rfl (fun ls hl => ?_)
              refine lv_goto (tgt := 53) hx hb d_Model_readTrace_127 (by decide) ?_
              exact ihk_74 (v_100) (f_99) _ _ _ (zI.wk (l' := 0) (h' := 12) hv_100 (by decide)) hf_99 (by have p0_ := z_pl zc_0 (by decide); have _l0 := li_0; have p1_ := z_pl hv_96 (by decide); have p2_ := z_pl hv_89 (by decide); rw [uf_99, z_at, if_neg (by omega)]; rw [uf_93, z_at, if_neg (by omega)]; exact hli_77) (zm_up qv_100 hmk_74 (by decide)) hP hD hS (lv_sub hl [0, 1, 2] rfl)
            · have _nhc_97 := hc_97
              have ni_101 := (fa_lt _ _).mp (zi_nle hc_97)
              have hv_102 : zI y_75 0 10 := zI.lt_l hv_86 hv_92 (zi_nle hc_97) (by decide)
              have hv_103 : zI x_14 1 11 := zI.lt_r hv_86 hv_92 (zi_nle hc_97) (by decide)
              refine lv_aload_n hx hb d_Model_readTrace_113 rfl (lv_at hl 2 rfl) ?_
              refine va_get (D := G.1) (ci := 12) (v := .ref b14) (C := R_Model) (T := F_Model) (N := 54) hx hb hts i_Model hown hK hP 1 rfl rfl 13 (by decide) (hts _ q1122) (fun _ h9 => h9) rfl d_Model_readTrace_114 ?_
              refine lv_iload_n hx hb d_Model_readTrace_117 rfl (lv_at hl 0 rfl) ?_
              refine va_iald hx hb hK hP 4 0 rfl rfl (zI.inn hv_102 (by decide)) d_Model_readTrace_118 ?_
              refine lv_topi (fun v_104 ev_104 => ?_)
              refine lv_goto (tgt := 123) hx hb d_Model_readTrace_119 (by decide) ?_
              refine va_iast hx hb hK hP hD hS 0 0 rfl rfl (zI.inn hv_96 (by decide)) d_Model_readTrace_123 (fun H locs hP hD hS => ?_)
              obtain ⟨f_105, hf_105, gf_105, uf_105, hP, hD⟩ := z_newfw 0 hP hD rfl hf_93 (zRk_v hv_96 (zI_all v_104) (by decide))
              have hP : va_P G.1 classes [(b12, .inl (G.2 0, 503, .inl f_105)), (b0, .inr (12, [.int b1, .ref b2, .ref b3, .ref b4, .ref b5, .int b6, .ref b7, .int b8, .int x_11, .int x_12, .int x_13, .ref b12, .ref b13, .ref b14, .int x_14, .ref b16, .ref b17, .ref b18, .ref b19, .ref b20, .ref b21, .ref b22, .ref b23, .ref b24, .ref b25, .ref b26, .ref b27, .int b28, .ref b29, .ref b30, .int b31, .int b32, .int b33, .int b34, .ref b35, .ref b36, .ref b37, .ref b38, .ref b39, .ref b40, .ref b41, .int b42, .ref b43, .ref b44, .int b45, .ref b46, .ref b47, .ref b48, .ref b49, .ref b50, .int b51, .ref b52, .ref b53, .ref b54])), (b7, .inl (G.2 3, 240, .inl b55)), (b13, .inl (G.2 0, 12, .inl f_15)), (b14, .inl (G.2 0, 12, .inl f_16))] H := hP
              have hD := z_tie hP hD rfl
              obtain ⟨v_106, ev_106⟩ : ∃ z : Int32, z = y_75 + 1 := ⟨_, rfl⟩
              obtain ⟨qv_106, hv_106⟩ := zI_add (l := 1) (h := 11) hv_102 zc_1 ev_106 (by decide)
              rw [li_1] at qv_106
              refine lv_iinc (v := v_106) (lv' := [(2, .int v_106), (1, .int v_6), (0, .ref b0)]) hx hb d_Model_readTrace_124 hl (k := 0) rfl (by rw [ev_106]; rfl) (by decide) rfl (fun ls hl => ?_)
              refine lv_goto (tgt := 53) hx hb d_Model_readTrace_127 (by decide) ?_
              exact ihk_74 (v_106) (f_105) _ _ _ (zI.wk (l' := 0) (h' := 12) hv_106 (by decide)) hf_105 (by have p0_ := z_pl zc_0 (by decide); have _l0 := li_0; have p1_ := z_pl hv_96 (by decide); have p2_ := z_pl hv_89 (by decide); rw [uf_105, z_at, if_neg (by omega)]; rw [uf_93, z_at, if_neg (by omega)]; exact hli_77) (zm_up qv_106 hmk_74 (by decide)) hP hD hS (lv_sub hl [0, 1, 2] rfl)
          · have _nhc_90 := hc_90
            have ni_107 := (fa_lt _ _).mp (zi_nle hc_90)
            have hv_108 : zI x_14 1 12 := zI.lt_r hv_86 hx_14 (zi_nle hc_90) (by decide)
            refine lv_aload_n hx hb d_Model_readTrace_80 rfl (lv_at hl 2 rfl) ?_
            refine va_get (D := G.1) (ci := 12) (v := .ref b13) (C := R_Model) (T := F_Model) (N := 54) hx hb hts i_Model hown hK hP 1 rfl rfl 12 (by decide) (hts _ q1121) (fun _ h9 => h9) rfl d_Model_readTrace_81 ?_
            refine lv_iload_n hx hb d_Model_readTrace_84 rfl (lv_at hl 0 rfl) ?_
            refine va_iald hx hb hK hP 3 0 rfl rfl (zI.inn hv_86 (by decide)) d_Model_readTrace_85 ?_
            refine lv_topi (fun v_109 ev_109 => ?_)
            have hv_109 : zI v_109 0 9 := (hf_15 _).eq ev_109
            refine lv_goto (tgt := 90) hx hb d_Model_readTrace_86 (by decide) ?_
            refine va_iast hx hb hK hP hD hS 0 0 rfl rfl (zI.inn hv_89 (by decide)) d_Model_readTrace_90 (fun H locs hP hD hS => ?_)
            obtain ⟨f_110, hf_110, gf_110, uf_110, hP, hD⟩ := z_newfw 0 hP hD rfl hy_76 (zRk_v hv_89 hv_109 (by decide))
            have hP : va_P G.1 classes [(b12, .inl (G.2 0, 503, .inl f_110)), (b0, .inr (12, [.int b1, .ref b2, .ref b3, .ref b4, .ref b5, .int b6, .ref b7, .int b8, .int x_11, .int x_12, .int x_13, .ref b12, .ref b13, .ref b14, .int x_14, .ref b16, .ref b17, .ref b18, .ref b19, .ref b20, .ref b21, .ref b22, .ref b23, .ref b24, .ref b25, .ref b26, .ref b27, .int b28, .ref b29, .ref b30, .int b31, .int b32, .int b33, .int b34, .ref b35, .ref b36, .ref b37, .ref b38, .ref b39, .ref b40, .ref b41, .int b42, .ref b43, .ref b44, .int b45, .ref b46, .ref b47, .ref b48, .ref b49, .ref b50, .int b51, .ref b52, .ref b53, .ref b54])), (b7, .inl (G.2 3, 240, .inl b55)), (b13, .inl (G.2 0, 12, .inl f_15)), (b14, .inl (G.2 0, 12, .inl f_16))] H := hP
            have hD := z_tie hP hD rfl
            refine lv_aload_n hx hb d_Model_readTrace_91 rfl (lv_at hl 2 rfl) ?_
            refine va_get (D := G.1) (ci := 12) (v := .ref b12) (C := R_Model) (T := F_Model) (N := 54) hx hb hts i_Model hown hK hP 1 rfl rfl 11 (by decide) (hts _ q1120) (fun _ h9 => h9) rfl d_Model_readTrace_92 ?_
            refine lv_sipush (v := 261) hx hb d_Model_readTrace_95 (by decide) ?_
            refine lv_bipush (v := 12) hx hb d_Model_readTrace_98 (by decide) ?_
            refine lv_iload_n hx hb d_Model_readTrace_100 rfl (lv_at hl 1 rfl) ?_
            refine lv_imul hx hb d_Model_readTrace_101 ?_
            refine lv_topi (fun v_111 ev_111 => ?_)
            obtain rfl : v_87 = v_111 := ev_87.trans ev_111.symm
            refine lv_iadd hx hb d_Model_readTrace_102 ?_
            refine lv_topi (fun v_112 ev_112 => ?_)
            obtain ⟨qv_112, hv_112⟩ := zI_add (l := 261) (h := 489) zc_261 hv_87 ev_112 (by decide)
            rw [li_261] at qv_112
            refine lv_iload_n hx hb d_Model_readTrace_103 rfl (lv_at hl 0 rfl) ?_
            refine lv_iadd hx hb d_Model_readTrace_104 ?_
            refine lv_topi (fun v_113 ev_113 => ?_)
            obtain ⟨qv_113, hv_113⟩ := zI_add (l := 261) (h := 500) hv_112 hv_86 ev_113 (by decide)
            refine lv_iload_n hx hb d_Model_readTrace_105 rfl (lv_at hl 0 rfl) ?_
            refine lv_aload_n hx hb d_Model_readTrace_106 rfl (lv_at hl 2 rfl) ?_
            refine va_get (D := G.1) (ci := 12) (v := .int x_14) (C := R_Model) (T := F_Model) (N := 54) hx hb hts i_Model hown hK hP 1 rfl rfl 14 (by decide) (hts _ q1123) (fun _ h9 => h9) rfl d_Model_readTrace_107 ?_
            refine lv_icmp_ge (tgt := 122) hx hb d_Model_readTrace_110 (by decide) (fun hc_114 => ?_) (fun hc_114 => ?_)
            · have _nhc_114 := hc_114
              have ni_115 := (fa_le _ _).mp hc_114
              have hv_116 : zI x_14 1 11 := zI.le_l hv_108 hv_86 hc_114 (by decide)
              have hv_117 : zI y_75 1 11 := zI.le_r hv_108 hv_86 hc_114 (by decide)
              refine lv_iconst (v := 0) hx hb d_Model_readTrace_122 (by decide) ?_
              refine va_iast hx hb hK hP hD hS 0 0 rfl rfl (zI.inn hv_113 (by decide)) d_Model_readTrace_123 (fun H locs hP hD hS => ?_)
              obtain ⟨f_118, hf_118, gf_118, uf_118, hP, hD⟩ := z_newfw 0 hP hD rfl hf_110 (zRk_v hv_113 zc_0 (by decide))
              have hP : va_P G.1 classes [(b12, .inl (G.2 0, 503, .inl f_118)), (b0, .inr (12, [.int b1, .ref b2, .ref b3, .ref b4, .ref b5, .int b6, .ref b7, .int b8, .int x_11, .int x_12, .int x_13, .ref b12, .ref b13, .ref b14, .int x_14, .ref b16, .ref b17, .ref b18, .ref b19, .ref b20, .ref b21, .ref b22, .ref b23, .ref b24, .ref b25, .ref b26, .ref b27, .int b28, .ref b29, .ref b30, .int b31, .int b32, .int b33, .int b34, .ref b35, .ref b36, .ref b37, .ref b38, .ref b39, .ref b40, .ref b41, .int b42, .ref b43, .ref b44, .int b45, .ref b46, .ref b47, .ref b48, .ref b49, .ref b50, .int b51, .ref b52, .ref b53, .ref b54])), (b7, .inl (G.2 3, 240, .inl b55)), (b13, .inl (G.2 0, 12, .inl f_15)), (b14, .inl (G.2 0, 12, .inl f_16))] H := hP
              have hD := z_tie hP hD rfl
              obtain ⟨v_119, ev_119⟩ : ∃ z : Int32, z = y_75 + 1 := ⟨_, rfl⟩
              obtain ⟨qv_119, hv_119⟩ := zI_add (l := 2) (h := 12) hv_117 zc_1 ev_119 (by decide)
              rw [li_1] at qv_119
              refine lv_iinc (v := v_119) (lv' := [(2, .int v_119), (1, .int v_6), (0, .ref b0)]) hx hb d_Model_readTrace_124 hl (k := 0) rfl (by rw [ev_119]; rfl) (by decide) rfl (fun ls hl => ?_)
              refine lv_goto (tgt := 53) hx hb d_Model_readTrace_127 (by decide) ?_
              exact ihk_74 (v_119) (f_118) _ _ _ (zI.wk (l' := 0) (h' := 12) hv_119 (by decide)) hf_118 (by have p0_ := z_pl zc_0 (by decide); have _l0 := li_0; have p1_ := z_pl hv_113 (by decide); have p2_ := z_pl hv_89 (by decide); rw [uf_118, z_at, if_neg (by omega)]; rw [uf_110, z_at, if_neg (by omega)]; exact hli_77) (zm_up qv_119 hmk_74 (by decide)) hP hD hS (lv_sub hl [0, 1, 2] rfl)
            · have _nhc_114 := hc_114
              have ni_120 := (fa_lt _ _).mp (zi_nle hc_114)
              refine lv_aload_n hx hb d_Model_readTrace_113 rfl (lv_at hl 2 rfl) ?_
              refine va_get (D := G.1) (ci := 12) (v := .ref b14) (C := R_Model) (T := F_Model) (N := 54) hx hb hts i_Model hown hK hP 1 rfl rfl 13 (by decide) (hts _ q1122) (fun _ h9 => h9) rfl d_Model_readTrace_114 ?_
              refine lv_iload_n hx hb d_Model_readTrace_117 rfl (lv_at hl 0 rfl) ?_
              refine va_iald hx hb hK hP 4 0 rfl rfl (zI.inn hv_86 (by decide)) d_Model_readTrace_118 ?_
              refine lv_topi (fun v_121 ev_121 => ?_)
              refine lv_goto (tgt := 123) hx hb d_Model_readTrace_119 (by decide) ?_
              refine va_iast hx hb hK hP hD hS 0 0 rfl rfl (zI.inn hv_113 (by decide)) d_Model_readTrace_123 (fun H locs hP hD hS => ?_)
              obtain ⟨f_122, hf_122, gf_122, uf_122, hP, hD⟩ := z_newfw 0 hP hD rfl hf_110 (zRk_v hv_113 (zI_all v_121) (by decide))
              have hP : va_P G.1 classes [(b12, .inl (G.2 0, 503, .inl f_122)), (b0, .inr (12, [.int b1, .ref b2, .ref b3, .ref b4, .ref b5, .int b6, .ref b7, .int b8, .int x_11, .int x_12, .int x_13, .ref b12, .ref b13, .ref b14, .int x_14, .ref b16, .ref b17, .ref b18, .ref b19, .ref b20, .ref b21, .ref b22, .ref b23, .ref b24, .ref b25, .ref b26, .ref b27, .int b28, .ref b29, .ref b30, .int b31, .int b32, .int b33, .int b34, .ref b35, .ref b36, .ref b37, .ref b38, .ref b39, .ref b40, .ref b41, .int b42, .ref b43, .ref b44, .int b45, .ref b46, .ref b47, .ref b48, .ref b49, .ref b50, .int b51, .ref b52, .ref b53, .ref b54])), (b7, .inl (G.2 3, 240, .inl b55)), (b13, .inl (G.2 0, 12, .inl f_15)), (b14, .inl (G.2 0, 12, .inl f_16))] H := hP
              have hD := z_tie hP hD rfl
              obtain ⟨v_123, ev_123⟩ : ∃ z : Int32, z = y_75 + 1 := ⟨_, rfl⟩
              obtain ⟨qv_123, hv_123⟩ := zI_add (l := 1) (h := 12) hv_86 zc_1 ev_123 (by decide)
              rw [li_1] at qv_123
              refine lv_iinc (v := v_123) (lv' := [(2, .int v_123), (1, .int v_6), (0, .ref b0)]) hx hb d_Model_readTrace_124 hl (k := 0) rfl (by rw [ev_123]; rfl) (by decide) rfl (fun ls hl => ?_)
              refine lv_goto (tgt := 53) hx hb d_Model_readTrace_127 (by decide) ?_
              exact ihk_74 (v_123) (f_122) _ _ _ (zI.wk (l' := 0) (h' := 12) hv_123 (by decide)) hf_122 (by have p0_ := z_pl zc_0 (by decide); have _l0 := li_0; have p1_ := z_pl hv_113 (by decide); have p2_ := z_pl hv_89 (by decide); rw [uf_122, z_at, if_neg (by omega)]; rw [uf_110, z_at, if_neg (by omega)]; exact hli_77) (zm_up qv_123 hmk_74 (by decide)) hP hD hS (lv_sub hl [0, 1, 2] rfl)
  · have _nhc_7 := hc_7
    have ni_124 := (fa_eq _ _).mp hc_7
    rw [li_20] at ni_124
    have hv_125 : zI v_6 20 20 := zI.eq_l hv_6 zc_20 hc_7
    refine lv_aload_n hx hb d_Model_readTrace_16 rfl (lv_at hl 0 rfl) ?_
    refine z_callV (index := 169) (As := []) (rest := []) (wr := [(b12, .inl (G.2 0, 503, .inl b56)), (b13, .inl (G.2 0, 12, .inl b57)), (b14, .inl (G.2 0, 12, .inl b58)), (b7, .inl (G.2 3, 240, .inl b55))]) Z (s1_Model_wrong l G (b0) (b1) (b2) (b3) (b4) (b5) (b6) (b7) (b8) (x_3) (b10) (b11) (b12) (b13) (b14) (b15) (b16) (b17) (b18) (b19) (b20) (b21) (b22) (b23) (b24) (b25) (b26) (b27) (b28) (b29) (b30) (b31) (b32) (b33) (b34) (b35) (b36) (b37) (b38) (b39) (b40) (b41) (b42) (b43) (b44) (b45) (b46) (b47) (b48) (b49) (b50) (b51) (b52) (b53) (b54) hb6 hb8 hx_3 hb11 hb15 hb28 hb31 hb42 hb45 hb51) hl.1 q1296 q1298 qs46 q14 q1299 ⟨by decide, by decide, by show _ = some 0; decide +kernel⟩ ⟨Nat.le_of_ble_eq_true rfl, Nat.le_of_ble_eq_true rfl⟩ ⟨Nat.le_of_ble_eq_true rfl, Nat.le_of_ble_eq_true rfl⟩ rfl (Nat.le_of_ble_eq_true rfl) d_Model_readTrace_17 hP hD hS hA 3 12 rfl rfl rfl [3] [0, 1, 2, 4] rfl rfl rfl rfl (by decide) (fun v w1 H locs hw_126 hP hD hS => ?_)
    obtain ⟨x_127, rfl, rfl⟩ := hw_126
    have hP : va_P G.1 classes [(b12, .inl (G.2 0, 503, .inl b56)), (b13, .inl (G.2 0, 12, .inl b57)), (b14, .inl (G.2 0, 12, .inl b58)), (b7, .inl (G.2 3, 240, .inl b55)), (b0, .inr (12, [.int b1, .ref b2, .ref b3, .ref b4, .ref b5, .int b6, .ref b7, .int b8, .int x_3, .int x_127, .int 0, .ref b12, .ref b13, .ref b14, .int b15, .ref b16, .ref b17, .ref b18, .ref b19, .ref b20, .ref b21, .ref b22, .ref b23, .ref b24, .ref b25, .ref b26, .ref b27, .int b28, .ref b29, .ref b30, .int b31, .int b32, .int b33, .int b34, .ref b35, .ref b36, .ref b37, .ref b38, .ref b39, .ref b40, .ref b41, .int b42, .ref b43, .ref b44, .int b45, .ref b46, .ref b47, .ref b48, .ref b49, .ref b50, .int b51, .ref b52, .ref b53, .ref b54]))] H := hP
    have hD := z_tie hP hD rfl
    refine W.widen (k := 0) (n := 0) (Nat.le_of_ble_eq_true rfl) (Nat.le_of_ble_eq_true rfl) ?_
    exact z_vret hx hb hr hlocks (hP.sub [4, 3, 0, 1, 2] rfl) (hD.sub [4, 3, 0, 1, 2] (by decide) rfl) hS (Nat.le_of_ble_eq_true rfl) (Nat.le_of_ble_eq_true rfl) d_Model_readTrace_20 ⟨x_3, x_127, 0, b15, b56, b57, b58, rfl, rfl, hx_3, (zI.wk (l' := 0) (h' := 1) zc_0 (by decide)), hb15, hb56, hb57, (by omega)⟩
theorem d_Model_traces_0 : decode prog_14_method_18_code 0 = .ok (.aload_n 0, 1) := by decide +kernel
theorem d_Model_traces_1 : decode prog_14_method_18_code 1 = .ok (.iconst 0, 1) := by decide +kernel
theorem d_Model_traces_2 : decode prog_14_method_18_code 2 = .ok (.putfield 1, 3) := by decide +kernel
theorem d_Model_traces_5 : decode prog_14_method_18_code 5 = .ok (.iconst 0, 1) := by decide +kernel
theorem d_Model_traces_6 : decode prog_14_method_18_code 6 = .ok (.istore_n 1, 1) := by decide +kernel
theorem d_Model_traces_7 : decode prog_14_method_18_code 7 = .ok (.iload_n 1, 1) := by decide +kernel
theorem d_Model_traces_8 : decode prog_14_method_18_code 8 = .ok (.sipush 503, 3) := by decide +kernel
theorem d_Model_traces_11 : decode prog_14_method_18_code 11 = .ok (.if_icmp .ge 21, 3) := by decide +kernel
theorem d_Model_traces_14 : decode prog_14_method_18_code 14 = .ok (.aload_n 0, 1) := by decide +kernel
theorem d_Model_traces_15 : decode prog_14_method_18_code 15 = .ok (.getfield 31, 3) := by decide +kernel
theorem d_Model_traces_18 : decode prog_14_method_18_code 18 = .ok (.iload_n 1, 1) := by decide +kernel
theorem d_Model_traces_19 : decode prog_14_method_18_code 19 = .ok (.aload_n 0, 1) := by decide +kernel
theorem d_Model_traces_20 : decode prog_14_method_18_code 20 = .ok (.getfield 13, 3) := by decide +kernel
theorem d_Model_traces_23 : decode prog_14_method_18_code 23 = .ok (.iload_n 1, 1) := by decide +kernel
theorem d_Model_traces_24 : decode prog_14_method_18_code 24 = .ok (.iaload, 1) := by decide +kernel
theorem d_Model_traces_25 : decode prog_14_method_18_code 25 = .ok (.iastore, 1) := by decide +kernel
theorem d_Model_traces_26 : decode prog_14_method_18_code 26 = .ok (.iinc 1 1, 3) := by decide +kernel
theorem d_Model_traces_29 : decode prog_14_method_18_code 29 = .ok (.goto (-22), 3) := by decide +kernel
theorem d_Model_traces_32 : decode prog_14_method_18_code 32 = .ok (.aload_n 0, 1) := by decide +kernel
theorem d_Model_traces_33 : decode prog_14_method_18_code 33 = .ok (.iconst 0, 1) := by decide +kernel
theorem d_Model_traces_34 : decode prog_14_method_18_code 34 = .ok (.putfield 149, 3) := by decide +kernel
theorem d_Model_traces_37 : decode prog_14_method_18_code 37 = .ok (.aload_n 0, 1) := by decide +kernel
theorem d_Model_traces_38 : decode prog_14_method_18_code 38 = .ok (.iconst 1, 1) := by decide +kernel
theorem d_Model_traces_39 : decode prog_14_method_18_code 39 = .ok (.putfield 145, 3) := by decide +kernel
theorem d_Model_traces_42 : decode prog_14_method_18_code 42 = .ok (.aload_n 0, 1) := by decide +kernel
theorem d_Model_traces_43 : decode prog_14_method_18_code 43 = .ok (.invokevirtual 182, 3) := by decide +kernel
theorem d_Model_traces_46 : decode prog_14_method_18_code 46 = .ok (.aload_n 0, 1) := by decide +kernel
theorem d_Model_traces_47 : decode prog_14_method_18_code 47 = .ok (.getfield 145, 3) := by decide +kernel
theorem d_Model_traces_50 : decode prog_14_method_18_code 50 = .ok (.ifCond .eq 29, 3) := by decide +kernel
theorem d_Model_traces_53 : decode prog_14_method_18_code 53 = .ok (.aload_n 0, 1) := by decide +kernel
theorem d_Model_traces_54 : decode prog_14_method_18_code 54 = .ok (.invokevirtual 162, 3) := by decide +kernel
theorem d_Model_traces_57 : decode prog_14_method_18_code 57 = .ok (.bipush 59, 2) := by decide +kernel
theorem d_Model_traces_59 : decode prog_14_method_18_code 59 = .ok (.if_icmp .ne 20, 3) := by decide +kernel
theorem d_Model_traces_62 : decode prog_14_method_18_code 62 = .ok (.aload_n 0, 1) := by decide +kernel
theorem d_Model_traces_63 : decode prog_14_method_18_code 63 = .ok (.dup, 1) := by decide +kernel
theorem d_Model_traces_64 : decode prog_14_method_18_code 64 = .ok (.getfield 149, 3) := by decide +kernel
theorem d_Model_traces_67 : decode prog_14_method_18_code 67 = .ok (.iconst 1, 1) := by decide +kernel
theorem d_Model_traces_68 : decode prog_14_method_18_code 68 = .ok (.iadd, 1) := by decide +kernel
theorem d_Model_traces_69 : decode prog_14_method_18_code 69 = .ok (.putfield 149, 3) := by decide +kernel
theorem d_Model_traces_72 : decode prog_14_method_18_code 72 = .ok (.aload_n 0, 1) := by decide +kernel
theorem d_Model_traces_73 : decode prog_14_method_18_code 73 = .ok (.invokevirtual 182, 3) := by decide +kernel
theorem d_Model_traces_76 : decode prog_14_method_18_code 76 = .ok (.goto (-30), 3) := by decide +kernel
theorem d_Model_traces_79 : decode prog_14_method_18_code 79 = .ok (.aload_n 0, 1) := by decide +kernel
theorem d_Model_traces_80 : decode prog_14_method_18_code 80 = .ok (.invokevirtual 185, 3) := by decide +kernel
theorem d_Model_traces_83 : decode prog_14_method_18_code 83 = .ok (.aload_n 0, 1) := by decide +kernel
theorem d_Model_traces_84 : decode prog_14_method_18_code 84 = .ok (.getfield 145, 3) := by decide +kernel
theorem d_Model_traces_87 : decode prog_14_method_18_code 87 = .ok (.ifCond .ne 12, 3) := by decide +kernel
theorem d_Model_traces_90 : decode prog_14_method_18_code 90 = .ok (.sipush (-1000), 3) := by decide +kernel
theorem d_Model_traces_93 : decode prog_14_method_18_code 93 = .ok (.aload_n 0, 1) := by decide +kernel
theorem d_Model_traces_94 : decode prog_14_method_18_code 94 = .ok (.getfield 152, 3) := by decide +kernel
theorem d_Model_traces_97 : decode prog_14_method_18_code 97 = .ok (.isub, 1) := by decide +kernel
theorem d_Model_traces_98 : decode prog_14_method_18_code 98 = .ok (.ireturn, 1) := by decide +kernel
theorem d_Model_traces_99 : decode prog_14_method_18_code 99 = .ok (.aload_n 0, 1) := by decide +kernel
theorem d_Model_traces_100 : decode prog_14_method_18_code 100 = .ok (.invokevirtual 188, 3) := by decide +kernel
theorem d_Model_traces_103 : decode prog_14_method_18_code 103 = .ok (.iconst 0, 1) := by decide +kernel
theorem d_Model_traces_104 : decode prog_14_method_18_code 104 = .ok (.istore_n 1, 1) := by decide +kernel
theorem d_Model_traces_105 : decode prog_14_method_18_code 105 = .ok (.iload_n 1, 1) := by decide +kernel
theorem d_Model_traces_106 : decode prog_14_method_18_code 106 = .ok (.sipush 503, 3) := by decide +kernel
theorem d_Model_traces_109 : decode prog_14_method_18_code 109 = .ok (.if_icmp .ge 21, 3) := by decide +kernel
theorem d_Model_traces_112 : decode prog_14_method_18_code 112 = .ok (.aload_n 0, 1) := by decide +kernel
theorem d_Model_traces_113 : decode prog_14_method_18_code 113 = .ok (.getfield 13, 3) := by decide +kernel
theorem d_Model_traces_116 : decode prog_14_method_18_code 116 = .ok (.iload_n 1, 1) := by decide +kernel
theorem d_Model_traces_117 : decode prog_14_method_18_code 117 = .ok (.aload_n 0, 1) := by decide +kernel
theorem d_Model_traces_118 : decode prog_14_method_18_code 118 = .ok (.getfield 31, 3) := by decide +kernel
theorem d_Model_traces_121 : decode prog_14_method_18_code 121 = .ok (.iload_n 1, 1) := by decide +kernel
theorem d_Model_traces_122 : decode prog_14_method_18_code 122 = .ok (.iaload, 1) := by decide +kernel
theorem d_Model_traces_123 : decode prog_14_method_18_code 123 = .ok (.iastore, 1) := by decide +kernel
theorem d_Model_traces_124 : decode prog_14_method_18_code 124 = .ok (.iinc 1 1, 3) := by decide +kernel
theorem d_Model_traces_127 : decode prog_14_method_18_code 127 = .ok (.goto (-22), 3) := by decide +kernel
theorem d_Model_traces_130 : decode prog_14_method_18_code 130 = .ok (.aload_n 0, 1) := by decide +kernel
theorem d_Model_traces_131 : decode prog_14_method_18_code 131 = .ok (.invokevirtual 134, 3) := by decide +kernel
theorem d_Model_traces_134 : decode prog_14_method_18_code 134 = .ok (.ireturn, 1) := by decide +kernel
abbrev m_s1_Model_traces : Room := { frames := 4, cells := 0, slots := 0, locals := 89 }
set_option maxHeartbeats 4000000 in
set_option maxRecDepth 100000 in
theorem s1_Model_traces (l : Launch) (G : zG) (b0 : Nat) (b1 : Int32) (b2 : Nat) (b3 : Nat) (b4 : Nat) (b5 : Nat) (b6 : Int32) (b7 : Nat) (b8 : Int32) (b9 : Int32) (b10 : Int32) (b11 : Int32) (b12 : Nat) (b13 : Nat) (b14 : Nat) (b15 : Int32) (b16 : Nat) (b17 : Nat) (b18 : Nat) (b19 : Nat) (b20 : Nat) (b21 : Nat) (b22 : Nat) (b23 : Nat) (b24 : Nat) (b25 : Nat) (b26 : Nat) (b27 : Nat) (b28 : Int32) (b29 : Nat) (b30 : Nat) (b31 : Int32) (b32 : Int32) (b33 : Int32) (b34 : Int32) (b35 : Nat) (b36 : Nat) (b37 : Nat) (b38 : Nat) (b39 : Nat) (b40 : Nat) (b41 : Nat) (b42 : Int32) (b43 : Nat) (b44 : Nat) (b45 : Int32) (b46 : Nat) (b47 : Nat) (b48 : Nat) (b49 : Nat) (b50 : Nat) (b51 : Int32) (b52 : Nat) (b53 : Nat) (b54 : Nat) (b55 : Nat → Int32) (b56 : Nat → Int32) (b57 : Nat → Int32) (b58 : Nat → Int32) (b59 : Nat → Int32) (b60 : Nat → Int32) (hb6 : zI b6 0 8) (hb8 : zI b8 0 240) (hb9 : zI b9 0 240) (hb11 : zI b11 0 1) (hb15 : zI b15 0 12) (hb28 : zI b28 0 1) (hb31 : zI b31 0 1) (hb42 : zI b42 0 1000) (hb45 : zI b45 0 1000) (hb51 : zI b51 0 400) (hb55 : zW5 b55) (hb56 : zW5 b56) (hb58 : zW5 b58) (hb59 : zR b59 0 9) : zM l G y_Model_traces prog_14_method_18_code 2 (Option.some Jvm.ClassFile.FieldType.int) m_s1_Model_traces [.ref b0] [(b0, .inr (12, [.int b1, .ref b2, .ref b3, .ref b4, .ref b5, .int b6, .ref b7, .int b8, .int b9, .int b10, .int b11, .ref b12, .ref b13, .ref b14, .int b15, .ref b16, .ref b17, .ref b18, .ref b19, .ref b20, .ref b21, .ref b22, .ref b23, .ref b24, .ref b25, .ref b26, .ref b27, .int b28, .ref b29, .ref b30, .int b31, .int b32, .int b33, .int b34, .ref b35, .ref b36, .ref b37, .ref b38, .ref b39, .ref b40, .ref b41, .int b42, .ref b43, .ref b44, .int b45, .ref b46, .ref b47, .ref b48, .ref b49, .ref b50, .int b51, .ref b52, .ref b53, .ref b54])), (b2, .inl (G.2 0, 503, .inl b55)), (b5, .inl (G.2 0, 4024, .inl b56)), (b7, .inl (G.2 3, 240, .inl b57)), (b12, .inl (G.2 0, 503, .inl b58)), (b13, .inl (G.2 0, 12, .inl b59)), (b14, .inl (G.2 0, 12, .inl b60))] (fun v w => ∃ (e0 : Int32), ∃ (e1 : Int32), ∃ (e2 : Int32), ∃ (e3 : Int32), ∃ (e4 : Int32), ∃ (e5 : Int32), ∃ (e6 : Nat → Int32), ∃ (e7 : Nat → Int32), ∃ (e8 : Nat → Int32), ∃ (e9 : Nat → Int32), ∃ (e10 : Nat → Int32), v = some (.int e0) ∧ w = [(b0, .inr (12, [.int 0, .ref b2, .ref b3, .ref b4, .ref b5, .int e1, .ref b7, .int 0, .int e2, .int e3, .int e4, .ref b12, .ref b13, .ref b14, .int e5, .ref b16, .ref b17, .ref b18, .ref b19, .ref b20, .ref b21, .ref b22, .ref b23, .ref b24, .ref b25, .ref b26, .ref b27, .int b28, .ref b29, .ref b30, .int b31, .int b32, .int b33, .int b34, .ref b35, .ref b36, .ref b37, .ref b38, .ref b39, .ref b40, .ref b41, .int b42, .ref b43, .ref b44, .int b45, .ref b46, .ref b47, .ref b48, .ref b49, .ref b50, .int b51, .ref b52, .ref b53, .ref b54])), (b2, .inl (G.2 0, 503, .inl e6)), (b5, .inl (G.2 0, 4024, .inl e7)), (b7, .inl (G.2 3, 240, .inl b57)), (b12, .inl (G.2 0, 503, .inl e8)), (b13, .inl (G.2 0, 12, .inl e9)), (b14, .inl (G.2 0, 12, .inl e10))] ∧ (zI e1 0 8) ∧ (zI e2 0 240) ∧ (zI e4 0 1) ∧ (zI e5 0 12) ∧ (zW5 e6) ∧ (zW5 e7) ∧ (zW5 e8) ∧ (zR e9 0 9)) := by
  refine z_start (by decide +kernel) (Nat.le_of_ble_eq_true rfl) ?_
  intro p e s m below meth c A Z hr hnm hA hP hD hS ls hl
  have Z : zC p s m _ meth c prog_14_method_18_code 2 "TraceMachinesModel" G := Z
  obtain ⟨hx, hb, hml, hown, hts, hK, hN, hlocks⟩ := id Z
  have hl : lv_has ls 2 [(0, .ref b0)] := hl
  refine lv_aload_n hx hb d_Model_traces_0 rfl (lv_at hl 0 rfl) ?_
  refine lv_iconst (v := 0) hx hb d_Model_traces_1 (by decide) ?_
  refine va_put (D := G.1) (ci := 12) (v := .int 0) (ty := .int) (C := R_Model) (T := F_Model) (N := 54) hx hb hts i_Model t_Model t_Model_ok n_Model hown hK hP hD hS 0 rfl rfl 0 (by decide) (hts _ q1109) (fun _ h9 => h9) rfl (by decide +kernel) rfl rfl (Nat.le_of_ble_eq_true rfl) d_Model_traces_2 (fun H locs hP hD hS => ?_)
  have hP : va_P G.1 classes [(b0, .inr (12, [.int 0, .ref b2, .ref b3, .ref b4, .ref b5, .int b6, .ref b7, .int b8, .int b9, .int b10, .int b11, .ref b12, .ref b13, .ref b14, .int b15, .ref b16, .ref b17, .ref b18, .ref b19, .ref b20, .ref b21, .ref b22, .ref b23, .ref b24, .ref b25, .ref b26, .ref b27, .int b28, .ref b29, .ref b30, .int b31, .int b32, .int b33, .int b34, .ref b35, .ref b36, .ref b37, .ref b38, .ref b39, .ref b40, .ref b41, .int b42, .ref b43, .ref b44, .int b45, .ref b46, .ref b47, .ref b48, .ref b49, .ref b50, .int b51, .ref b52, .ref b53, .ref b54])), (b2, .inl (G.2 0, 503, .inl b55)), (b5, .inl (G.2 0, 4024, .inl b56)), (b7, .inl (G.2 3, 240, .inl b57)), (b12, .inl (G.2 0, 503, .inl b58)), (b13, .inl (G.2 0, 12, .inl b59)), (b14, .inl (G.2 0, 12, .inl b60))] H := hP
  have hD := z_tie hP hD rfl
  refine lv_iconst (v := 0) hx hb d_Model_traces_5 (by decide) ?_
  refine lv_istore_n (lv' := [(1, .int 0), (0, .ref b0)]) hx hb d_Model_traces_6 rfl hl (by decide) rfl (fun ls hl => ?_)
  suffices key : ∀ (k_240 : Nat) (y_241 : Int32) (y_242 : Nat → Int32) (H : Heap) (locs : List Loc) (ls : Array Slot), (zI y_241 0 503) → (zW5 y_242) → (503 : Int) - y_241.toInt < (k_240 : Int) → va_P G.1 classes [(b0, .inr (12, [.int 0, .ref b2, .ref b3, .ref b4, .ref b5, .int b6, .ref b7, .int b8, .int b9, .int b10, .int b11, .ref b12, .ref b13, .ref b14, .int b15, .ref b16, .ref b17, .ref b18, .ref b19, .ref b20, .ref b21, .ref b22, .ref b23, .ref b24, .ref b25, .ref b26, .ref b27, .int b28, .ref b29, .ref b30, .int b31, .int b32, .int b33, .int b34, .ref b35, .ref b36, .ref b37, .ref b38, .ref b39, .ref b40, .ref b41, .int b42, .ref b43, .ref b44, .int b45, .ref b46, .ref b47, .ref b48, .ref b49, .ref b50, .int b51, .ref b52, .ref b53, .ref b54])), (b2, .inl (G.2 0, 503, .inl b55)), (b5, .inl (G.2 0, 4024, .inl b56)), (b7, .inl (G.2 3, 240, .inl b57)), (b12, .inl (G.2 0, 503, .inl y_242)), (b13, .inl (G.2 0, 12, .inl b59)), (b14, .inl (G.2 0, 12, .inl b60))] H → va_D A [(b0, .inr (12, [.int 0, .ref b2, .ref b3, .ref b4, .ref b5, .int b6, .ref b7, .int b8, .int b9, .int b10, .int b11, .ref b12, .ref b13, .ref b14, .int b15, .ref b16, .ref b17, .ref b18, .ref b19, .ref b20, .ref b21, .ref b22, .ref b23, .ref b24, .ref b25, .ref b26, .ref b27, .int b28, .ref b29, .ref b30, .int b31, .int b32, .int b33, .int b34, .ref b35, .ref b36, .ref b37, .ref b38, .ref b39, .ref b40, .ref b41, .int b42, .ref b43, .ref b44, .int b45, .ref b46, .ref b47, .ref b48, .ref b49, .ref b50, .int b51, .ref b52, .ref b53, .ref b54])), (b2, .inl (G.2 0, 503, .inl b55)), (b5, .inl (G.2 0, 4024, .inl b56)), (b7, .inl (G.2 3, 240, .inl b57)), (b12, .inl (G.2 0, 503, .inl y_242)), (b13, .inl (G.2 0, 12, .inl b59)), (b14, .inl (G.2 0, 12, .inl b60))] → va_S A s.heap H locs → lv_has ls 2 [(1, .int y_241), (0, .ref b0)] → W p l e m_s1_Model_traces s m ([.ref b0] : List Value).toArray below meth c H locs 0 0 (MQ below (zQ G (fun v w => ∃ (e0 : Int32), ∃ (e1 : Int32), ∃ (e2 : Int32), ∃ (e3 : Int32), ∃ (e4 : Int32), ∃ (e5 : Int32), ∃ (e6 : Nat → Int32), ∃ (e7 : Nat → Int32), ∃ (e8 : Nat → Int32), ∃ (e9 : Nat → Int32), ∃ (e10 : Nat → Int32), v = some (.int e0) ∧ w = [(b0, .inr (12, [.int 0, .ref b2, .ref b3, .ref b4, .ref b5, .int e1, .ref b7, .int 0, .int e2, .int e3, .int e4, .ref b12, .ref b13, .ref b14, .int e5, .ref b16, .ref b17, .ref b18, .ref b19, .ref b20, .ref b21, .ref b22, .ref b23, .ref b24, .ref b25, .ref b26, .ref b27, .int b28, .ref b29, .ref b30, .int b31, .int b32, .int b33, .int b34, .ref b35, .ref b36, .ref b37, .ref b38, .ref b39, .ref b40, .ref b41, .int b42, .ref b43, .ref b44, .int b45, .ref b46, .ref b47, .ref b48, .ref b49, .ref b50, .int b51, .ref b52, .ref b53, .ref b54])), (b2, .inl (G.2 0, 503, .inl e6)), (b5, .inl (G.2 0, 4024, .inl e7)), (b7, .inl (G.2 3, 240, .inl b57)), (b12, .inl (G.2 0, 503, .inl e8)), (b13, .inl (G.2 0, 12, .inl e9)), (b14, .inl (G.2 0, 12, .inl e10))] ∧ (zI e1 0 8) ∧ (zI e2 0 240) ∧ (zI e4 0 1) ∧ (zI e5 0 12) ∧ (zW5 e6) ∧ (zW5 e7) ∧ (zW5 e8) ∧ (zR e9 0 9)) A) ([.ref b0] : List Value).toArray s m_s1_Model_traces.cells m_s1_Model_traces.slots A) (F0 m 7 ls []) by
    exact key 504 (0) (b58) _ _ _ (zI.wk (l' := 0) (h' := 503) zc_0 (by decide)) hb58 (zm_upi (zI.wk (l' := 0) (h' := 503) zc_0 (by decide)) (by decide)) hP hD hS (lv_sub hl [0, 1] rfl)
  intro k_240
  induction k_240 with
  | zero =>
    intro y_241 y_242 H locs ls hy_241 hy_242 hmk_240 hP hD hS hl
    exact (zm_up0 hy_241 hmk_240).elim
  | succ k_240 ihk_240 =>
    intro y_241 y_242 H locs ls hy_241 hy_242 hmk_240 hP hD hS hl
    refine lv_iload_n hx hb d_Model_traces_7 rfl (lv_at hl 0 rfl) ?_
    refine lv_sipush (v := 503) hx hb d_Model_traces_8 (by decide) ?_
    refine lv_icmp_ge (tgt := 32) hx hb d_Model_traces_11 (by decide) (fun hc_243 => ?_) (fun hc_243 => ?_)
    · have _nhc_243 := hc_243
      have ni_244 := (fa_le _ _).mp hc_243
      rw [li_503] at ni_244
      have hv_245 : zI y_241 503 503 := zI.le_r zc_503 hy_241 hc_243 (by decide)
      refine lv_aload_n hx hb d_Model_traces_32 rfl (lv_at hl 1 rfl) ?_
      refine lv_iconst (v := 0) hx hb d_Model_traces_33 (by decide) ?_
      refine va_put (D := G.1) (ci := 12) (v := .int 0) (ty := .int) (C := R_Model) (T := F_Model) (N := 54) hx hb hts i_Model t_Model t_Model_ok n_Model hown hK hP hD hS 0 rfl rfl 8 (by decide) (hts _ q1117) (fun _ h9 => h9) rfl (by decide +kernel) rfl rfl (Nat.le_of_ble_eq_true rfl) d_Model_traces_34 (fun H locs hP hD hS => ?_)
      have hP : va_P G.1 classes [(b0, .inr (12, [.int 0, .ref b2, .ref b3, .ref b4, .ref b5, .int b6, .ref b7, .int b8, .int 0, .int b10, .int b11, .ref b12, .ref b13, .ref b14, .int b15, .ref b16, .ref b17, .ref b18, .ref b19, .ref b20, .ref b21, .ref b22, .ref b23, .ref b24, .ref b25, .ref b26, .ref b27, .int b28, .ref b29, .ref b30, .int b31, .int b32, .int b33, .int b34, .ref b35, .ref b36, .ref b37, .ref b38, .ref b39, .ref b40, .ref b41, .int b42, .ref b43, .ref b44, .int b45, .ref b46, .ref b47, .ref b48, .ref b49, .ref b50, .int b51, .ref b52, .ref b53, .ref b54])), (b2, .inl (G.2 0, 503, .inl b55)), (b5, .inl (G.2 0, 4024, .inl b56)), (b7, .inl (G.2 3, 240, .inl b57)), (b12, .inl (G.2 0, 503, .inl y_242)), (b13, .inl (G.2 0, 12, .inl b59)), (b14, .inl (G.2 0, 12, .inl b60))] H := hP
      have hD := z_tie hP hD rfl
      refine lv_aload_n hx hb d_Model_traces_37 rfl (lv_at hl 1 rfl) ?_
      refine lv_iconst (v := 1) hx hb d_Model_traces_38 (by decide) ?_
      refine va_put (D := G.1) (ci := 12) (v := .int 1) (ty := .boolean) (C := R_Model) (T := F_Model) (N := 54) hx hb hts i_Model t_Model t_Model_ok n_Model hown hK hP hD hS 0 rfl rfl 10 (by decide) (hts _ q1119) (fun _ h9 => h9) rfl (by decide +kernel) rfl rfl (Nat.le_of_ble_eq_true rfl) d_Model_traces_39 (fun H locs hP hD hS => ?_)
      have hP : va_P G.1 classes [(b0, .inr (12, [.int 0, .ref b2, .ref b3, .ref b4, .ref b5, .int b6, .ref b7, .int b8, .int 0, .int b10, .int 1, .ref b12, .ref b13, .ref b14, .int b15, .ref b16, .ref b17, .ref b18, .ref b19, .ref b20, .ref b21, .ref b22, .ref b23, .ref b24, .ref b25, .ref b26, .ref b27, .int b28, .ref b29, .ref b30, .int b31, .int b32, .int b33, .int b34, .ref b35, .ref b36, .ref b37, .ref b38, .ref b39, .ref b40, .ref b41, .int b42, .ref b43, .ref b44, .int b45, .ref b46, .ref b47, .ref b48, .ref b49, .ref b50, .int b51, .ref b52, .ref b53, .ref b54])), (b2, .inl (G.2 0, 503, .inl b55)), (b5, .inl (G.2 0, 4024, .inl b56)), (b7, .inl (G.2 3, 240, .inl b57)), (b12, .inl (G.2 0, 503, .inl y_242)), (b13, .inl (G.2 0, 12, .inl b59)), (b14, .inl (G.2 0, 12, .inl b60))] H := hP
      have hD := z_tie hP hD rfl
      refine lv_aload_n hx hb d_Model_traces_42 rfl (lv_at hl 1 rfl) ?_
      refine z_callV (index := 182) (As := []) (rest := []) (wr := [(b2, .inl (G.2 0, 503, .inl b55)), (b5, .inl (G.2 0, 4024, .inl b56))]) Z (s1_Model_readTrace l G (b0) (0) (b2) (b3) (b4) (b5) (b6) (b7) (b8) (0) (b10) (1) (b12) (b13) (b14) (b15) (b16) (b17) (b18) (b19) (b20) (b21) (b22) (b23) (b24) (b25) (b26) (b27) (b28) (b29) (b30) (b31) (b32) (b33) (b34) (b35) (b36) (b37) (b38) (b39) (b40) (b41) (b42) (b43) (b44) (b45) (b46) (b47) (b48) (b49) (b50) (b51) (b52) (b53) (b54) (b57) (y_242) (b59) (b60) hb6 hb8 (zI.wk (l' := 0) (h' := 240) zc_0 (by decide)) (zI.wk (l' := 0) (h' := 1) zc_1 (by decide)) hb15 hb28 hb31 hb42 hb45 hb51 hy_242 hb59) hl.1 q1288 q1290 qs44 q14 q1291 ⟨by decide, by decide, by show _ = some 0; decide +kernel⟩ ⟨Nat.le_of_ble_eq_true rfl, Nat.le_of_ble_eq_true rfl⟩ ⟨Nat.le_of_ble_eq_true rfl, Nat.le_of_ble_eq_true rfl⟩ rfl (Nat.le_of_ble_eq_true rfl) d_Model_traces_43 hP hD hS hA 0 12 rfl rfl rfl [0, 3, 4, 5, 6] [1, 2] rfl rfl rfl rfl (by decide) (fun v w1 H locs hw_246 hP hD hS => ?_)
      obtain ⟨x_247, x_248, x_249, x_250, f_251, f_252, f_253, rfl, rfl, hx_247, hx_249, hx_250, hf_251, hf_252, hfx_254⟩ := hw_246
      have hP : va_P G.1 classes [(b2, .inl (G.2 0, 503, .inl b55)), (b5, .inl (G.2 0, 4024, .inl b56)), (b0, .inr (12, [.int 0, .ref b2, .ref b3, .ref b4, .ref b5, .int b6, .ref b7, .int b8, .int x_247, .int x_248, .int x_249, .ref b12, .ref b13, .ref b14, .int x_250, .ref b16, .ref b17, .ref b18, .ref b19, .ref b20, .ref b21, .ref b22, .ref b23, .ref b24, .ref b25, .ref b26, .ref b27, .int b28, .ref b29, .ref b30, .int b31, .int b32, .int b33, .int b34, .ref b35, .ref b36, .ref b37, .ref b38, .ref b39, .ref b40, .ref b41, .int b42, .ref b43, .ref b44, .int b45, .ref b46, .ref b47, .ref b48, .ref b49, .ref b50, .int b51, .ref b52, .ref b53, .ref b54])), (b7, .inl (G.2 3, 240, .inl b57)), (b12, .inl (G.2 0, 503, .inl f_251)), (b13, .inl (G.2 0, 12, .inl f_252)), (b14, .inl (G.2 0, 12, .inl f_253))] H := hP
      have hD := z_tie hP hD rfl
      refine W.widen (k := 0) (n := 0) (Nat.le_of_ble_eq_true rfl) (Nat.le_of_ble_eq_true rfl) ?_
      suffices key : ∀ (k_365 : Nat) (y_366 : Int32) (y_367 : Int32) (y_368 : Int32) (y_369 : Int32) (y_370 : Nat → Int32) (y_371 : Nat → Int32) (y_372 : Nat → Int32) (H : Heap) (locs : List Loc) (ls : Array Slot), (zI y_366 0 240) → (zI y_368 0 1) → (zI y_369 0 12) → (zW5 y_370) → (zR y_371 0 9) → (241 : Int) - (y_366).toInt < (k_365 : Int) → va_P G.1 classes [(b2, .inl (G.2 0, 503, .inl b55)), (b5, .inl (G.2 0, 4024, .inl b56)), (b0, .inr (12, [.int 0, .ref b2, .ref b3, .ref b4, .ref b5, .int b6, .ref b7, .int b8, .int y_366, .int y_367, .int y_368, .ref b12, .ref b13, .ref b14, .int y_369, .ref b16, .ref b17, .ref b18, .ref b19, .ref b20, .ref b21, .ref b22, .ref b23, .ref b24, .ref b25, .ref b26, .ref b27, .int b28, .ref b29, .ref b30, .int b31, .int b32, .int b33, .int b34, .ref b35, .ref b36, .ref b37, .ref b38, .ref b39, .ref b40, .ref b41, .int b42, .ref b43, .ref b44, .int b45, .ref b46, .ref b47, .ref b48, .ref b49, .ref b50, .int b51, .ref b52, .ref b53, .ref b54])), (b7, .inl (G.2 3, 240, .inl b57)), (b12, .inl (G.2 0, 503, .inl y_370)), (b13, .inl (G.2 0, 12, .inl y_371)), (b14, .inl (G.2 0, 12, .inl y_372))] H → va_D A [(b2, .inl (G.2 0, 503, .inl b55)), (b5, .inl (G.2 0, 4024, .inl b56)), (b0, .inr (12, [.int 0, .ref b2, .ref b3, .ref b4, .ref b5, .int b6, .ref b7, .int b8, .int y_366, .int y_367, .int y_368, .ref b12, .ref b13, .ref b14, .int y_369, .ref b16, .ref b17, .ref b18, .ref b19, .ref b20, .ref b21, .ref b22, .ref b23, .ref b24, .ref b25, .ref b26, .ref b27, .int b28, .ref b29, .ref b30, .int b31, .int b32, .int b33, .int b34, .ref b35, .ref b36, .ref b37, .ref b38, .ref b39, .ref b40, .ref b41, .int b42, .ref b43, .ref b44, .int b45, .ref b46, .ref b47, .ref b48, .ref b49, .ref b50, .int b51, .ref b52, .ref b53, .ref b54])), (b7, .inl (G.2 3, 240, .inl b57)), (b12, .inl (G.2 0, 503, .inl y_370)), (b13, .inl (G.2 0, 12, .inl y_371)), (b14, .inl (G.2 0, 12, .inl y_372))] → va_S A s.heap H locs → lv_has ls 2 [(1, .int y_241), (0, .ref b0)] → W p l e m_s1_Model_traces s m ([.ref b0] : List Value).toArray below meth c H locs 0 0 (MQ below (zQ G (fun v w => ∃ (e0 : Int32), ∃ (e1 : Int32), ∃ (e2 : Int32), ∃ (e3 : Int32), ∃ (e4 : Int32), ∃ (e5 : Int32), ∃ (e6 : Nat → Int32), ∃ (e7 : Nat → Int32), ∃ (e8 : Nat → Int32), ∃ (e9 : Nat → Int32), ∃ (e10 : Nat → Int32), v = some (.int e0) ∧ w = [(b0, .inr (12, [.int 0, .ref b2, .ref b3, .ref b4, .ref b5, .int e1, .ref b7, .int 0, .int e2, .int e3, .int e4, .ref b12, .ref b13, .ref b14, .int e5, .ref b16, .ref b17, .ref b18, .ref b19, .ref b20, .ref b21, .ref b22, .ref b23, .ref b24, .ref b25, .ref b26, .ref b27, .int b28, .ref b29, .ref b30, .int b31, .int b32, .int b33, .int b34, .ref b35, .ref b36, .ref b37, .ref b38, .ref b39, .ref b40, .ref b41, .int b42, .ref b43, .ref b44, .int b45, .ref b46, .ref b47, .ref b48, .ref b49, .ref b50, .int b51, .ref b52, .ref b53, .ref b54])), (b2, .inl (G.2 0, 503, .inl e6)), (b5, .inl (G.2 0, 4024, .inl e7)), (b7, .inl (G.2 3, 240, .inl b57)), (b12, .inl (G.2 0, 503, .inl e8)), (b13, .inl (G.2 0, 12, .inl e9)), (b14, .inl (G.2 0, 12, .inl e10))] ∧ (zI e1 0 8) ∧ (zI e2 0 240) ∧ (zI e4 0 1) ∧ (zI e5 0 12) ∧ (zW5 e6) ∧ (zW5 e7) ∧ (zW5 e8) ∧ (zR e9 0 9)) A) ([.ref b0] : List Value).toArray s m_s1_Model_traces.cells m_s1_Model_traces.slots A) (F0 m 46 ls []) by
        exact key 243 (x_247) (x_248) (x_249) (x_250) (f_251) (f_252) (f_253) _ _ _ hx_247 hx_249 hx_250 hf_251 hf_252 (by omega) hP hD hS (lv_sub hl [0, 1] rfl)
      intro k_365
      induction k_365 with
      | zero =>
        intro y_366 y_367 y_368 y_369 y_370 y_371 y_372 H locs ls hy_366 hy_368 hy_369 hy_370 hy_371 hmk_365 hP hD hS hl
        exfalso; omega
      | succ k_365 ihk_365 =>
        intro y_366 y_367 y_368 y_369 y_370 y_371 y_372 H locs ls hy_366 hy_368 hy_369 hy_370 hy_371 hmk_365 hP hD hS hl
        refine lv_aload_n hx hb d_Model_traces_46 rfl (lv_at hl 1 rfl) ?_
        refine va_get (D := G.1) (ci := 12) (v := .int y_368) (C := R_Model) (T := F_Model) (N := 54) hx hb hts i_Model hown hK hP 2 rfl rfl 10 (by decide) (hts _ q1119) (fun _ h9 => h9) rfl d_Model_traces_47 ?_
        refine lv_if_eq (tgt := 79) hx hb d_Model_traces_50 (by decide) (fun hc_373 => ?_) (fun hc_373 => ?_)
        · have _nhc_373 := hc_373
          have ni_374 := (fa_eq _ _).mp hc_373
          rw [li_0] at ni_374
          have hv_375 : zI y_368 0 0 := zI.eq_l hy_368 zc_0 hc_373
          refine lv_aload_n hx hb d_Model_traces_79 rfl (lv_at hl 1 rfl) ?_
          refine z_callV (index := 185) (As := []) (rest := []) (wr := [(b2, .inl (G.2 0, 503, .inl b55)), (b5, .inl (G.2 0, 4024, .inl b56)), (b12, .inl (G.2 0, 503, .inl y_370)), (b13, .inl (G.2 0, 12, .inl y_371)), (b14, .inl (G.2 0, 12, .inl y_372))]) Z (s1_Model_endsReading l G (b0) (0) (b2) (b3) (b4) (b5) (b6) (b7) (b8) (y_366) (y_367) (y_368) (b12) (b13) (b14) (y_369) (b16) (b17) (b18) (b19) (b20) (b21) (b22) (b23) (b24) (b25) (b26) (b27) (b28) (b29) (b30) (b31) (b32) (b33) (b34) (b35) (b36) (b37) (b38) (b39) (b40) (b41) (b42) (b43) (b44) (b45) (b46) (b47) (b48) (b49) (b50) (b51) (b52) (b53) (b54) (b57) hb6 hb8 hy_366 (zI.wk (l' := 0) (h' := 1) hv_375 (by decide)) hy_369 hb28 hb31 hb42 hb45 hb51) hl.1 q1312 q1314 qs49 q14 q1315 ⟨by decide, by decide, by show _ = some 0; decide +kernel⟩ ⟨Nat.le_of_ble_eq_true rfl, Nat.le_of_ble_eq_true rfl⟩ ⟨Nat.le_of_ble_eq_true rfl, Nat.le_of_ble_eq_true rfl⟩ rfl (Nat.le_of_ble_eq_true rfl) d_Model_traces_80 hP hD hS hA 2 12 rfl rfl rfl [2, 3] [0, 1, 4, 5, 6] rfl rfl rfl rfl (by decide) (fun v w1 H locs hw_376 hP hD hS => ?_)
          obtain ⟨x_377, x_378, x_379, rfl, rfl, hx_377, hx_379⟩ := hw_376
          have hP : va_P G.1 classes [(b2, .inl (G.2 0, 503, .inl b55)), (b5, .inl (G.2 0, 4024, .inl b56)), (b12, .inl (G.2 0, 503, .inl y_370)), (b13, .inl (G.2 0, 12, .inl y_371)), (b14, .inl (G.2 0, 12, .inl y_372)), (b0, .inr (12, [.int 0, .ref b2, .ref b3, .ref b4, .ref b5, .int b6, .ref b7, .int 0, .int x_377, .int x_378, .int x_379, .ref b12, .ref b13, .ref b14, .int y_369, .ref b16, .ref b17, .ref b18, .ref b19, .ref b20, .ref b21, .ref b22, .ref b23, .ref b24, .ref b25, .ref b26, .ref b27, .int b28, .ref b29, .ref b30, .int b31, .int b32, .int b33, .int b34, .ref b35, .ref b36, .ref b37, .ref b38, .ref b39, .ref b40, .ref b41, .int b42, .ref b43, .ref b44, .int b45, .ref b46, .ref b47, .ref b48, .ref b49, .ref b50, .int b51, .ref b52, .ref b53, .ref b54])), (b7, .inl (G.2 3, 240, .inl b57))] H := hP
          have hD := z_tie hP hD rfl
          refine W.widen (k := 0) (n := 0) (Nat.le_of_ble_eq_true rfl) (Nat.le_of_ble_eq_true rfl) ?_
          refine lv_aload_n hx hb d_Model_traces_83 rfl (lv_at hl 1 rfl) ?_
          refine va_get (D := G.1) (ci := 12) (v := .int x_379) (C := R_Model) (T := F_Model) (N := 54) hx hb hts i_Model hown hK hP 5 rfl rfl 10 (by decide) (hts _ q1119) (fun _ h9 => h9) rfl d_Model_traces_84 ?_
          refine lv_if_ne (tgt := 99) hx hb d_Model_traces_87 (by decide) (fun hc_380 => ?_) (fun hc_380 => ?_)
          · have _nhc_380 := hc_380
            have ni_381 : ¬ (x_379 : Int32).toInt = (0 : Int32).toInt := fun z => hc_380 ((fa_eq _ _).mpr z)
            simp only [li_0] at ni_381
            have hv_382 : zI x_379 1 1 := zI.ne_lo hx_379 zc_0 hc_380 (by decide)
            refine lv_aload_n hx hb d_Model_traces_99 rfl (lv_at hl 1 rfl) ?_
            refine z_callV (index := 188) (As := []) (rest := []) (wr := [(b12, .inl (G.2 0, 503, .inl y_370)), (b13, .inl (G.2 0, 12, .inl y_371)), (b14, .inl (G.2 0, 12, .inl y_372)), (b7, .inl (G.2 3, 240, .inl b57))]) Z (s1_Model_remember l G (b0) (0) (b2) (b3) (b4) (b5) (b6) (b7) (0) (x_377) (x_378) (x_379) (b12) (b13) (b14) (y_369) (b16) (b17) (b18) (b19) (b20) (b21) (b22) (b23) (b24) (b25) (b26) (b27) (b28) (b29) (b30) (b31) (b32) (b33) (b34) (b35) (b36) (b37) (b38) (b39) (b40) (b41) (b42) (b43) (b44) (b45) (b46) (b47) (b48) (b49) (b50) (b51) (b52) (b53) (b54) (b55) (b56) hb6 (zI.wk (l' := 0) (h' := 240) zc_0 (by decide)) hx_377 (zI.wk (l' := 0) (h' := 1) hv_382 (by decide)) hy_369 hb28 hb31 hb42 hb45 hb51 hb55 hb56) hl.1 q1316 q1318 qs50 q14 q1319 ⟨by decide, by decide, by show _ = some 0; decide +kernel⟩ ⟨Nat.le_of_ble_eq_true rfl, Nat.le_of_ble_eq_true rfl⟩ ⟨Nat.le_of_ble_eq_true rfl, Nat.le_of_ble_eq_true rfl⟩ rfl (Nat.le_of_ble_eq_true rfl) d_Model_traces_100 hP hD hS hA 5 12 rfl rfl rfl [5, 0, 1] [2, 3, 4, 6] rfl rfl rfl rfl (by decide) (fun v w1 H locs hw_383 hP hD hS => ?_)
            obtain ⟨x_384, f_385, rfl, rfl, hx_384, hf_385⟩ := hw_383
            have hP : va_P G.1 classes [(b12, .inl (G.2 0, 503, .inl y_370)), (b13, .inl (G.2 0, 12, .inl y_371)), (b14, .inl (G.2 0, 12, .inl y_372)), (b7, .inl (G.2 3, 240, .inl b57)), (b0, .inr (12, [.int 0, .ref b2, .ref b3, .ref b4, .ref b5, .int x_384, .ref b7, .int 0, .int x_377, .int x_378, .int x_379, .ref b12, .ref b13, .ref b14, .int y_369, .ref b16, .ref b17, .ref b18, .ref b19, .ref b20, .ref b21, .ref b22, .ref b23, .ref b24, .ref b25, .ref b26, .ref b27, .int b28, .ref b29, .ref b30, .int b31, .int b32, .int b33, .int b34, .ref b35, .ref b36, .ref b37, .ref b38, .ref b39, .ref b40, .ref b41, .int b42, .ref b43, .ref b44, .int b45, .ref b46, .ref b47, .ref b48, .ref b49, .ref b50, .int b51, .ref b52, .ref b53, .ref b54])), (b2, .inl (G.2 0, 503, .inl b55)), (b5, .inl (G.2 0, 4024, .inl f_385))] H := hP
            have hD := z_tie hP hD rfl
            refine W.widen (k := 0) (n := 0) (Nat.le_of_ble_eq_true rfl) (Nat.le_of_ble_eq_true rfl) ?_
            refine lv_iconst (v := 0) hx hb d_Model_traces_103 (by decide) ?_
            refine lv_istore_n (lv' := [(1, .int 0), (0, .ref b0)]) hx hb d_Model_traces_104 rfl hl (by decide) rfl (fun ls hl => ?_)
            suffices key : ∀ (k_399 : Nat) (y_400 : Int32) (y_401 : Nat → Int32) (H : Heap) (locs : List Loc) (ls : Array Slot), (zI y_400 0 503) → (zW5 y_401) → (503 : Int) - y_400.toInt < (k_399 : Int) → va_P G.1 classes [(b12, .inl (G.2 0, 503, .inl y_370)), (b13, .inl (G.2 0, 12, .inl y_371)), (b14, .inl (G.2 0, 12, .inl y_372)), (b7, .inl (G.2 3, 240, .inl b57)), (b0, .inr (12, [.int 0, .ref b2, .ref b3, .ref b4, .ref b5, .int x_384, .ref b7, .int 0, .int x_377, .int x_378, .int x_379, .ref b12, .ref b13, .ref b14, .int y_369, .ref b16, .ref b17, .ref b18, .ref b19, .ref b20, .ref b21, .ref b22, .ref b23, .ref b24, .ref b25, .ref b26, .ref b27, .int b28, .ref b29, .ref b30, .int b31, .int b32, .int b33, .int b34, .ref b35, .ref b36, .ref b37, .ref b38, .ref b39, .ref b40, .ref b41, .int b42, .ref b43, .ref b44, .int b45, .ref b46, .ref b47, .ref b48, .ref b49, .ref b50, .int b51, .ref b52, .ref b53, .ref b54])), (b2, .inl (G.2 0, 503, .inl y_401)), (b5, .inl (G.2 0, 4024, .inl f_385))] H → va_D A [(b12, .inl (G.2 0, 503, .inl y_370)), (b13, .inl (G.2 0, 12, .inl y_371)), (b14, .inl (G.2 0, 12, .inl y_372)), (b7, .inl (G.2 3, 240, .inl b57)), (b0, .inr (12, [.int 0, .ref b2, .ref b3, .ref b4, .ref b5, .int x_384, .ref b7, .int 0, .int x_377, .int x_378, .int x_379, .ref b12, .ref b13, .ref b14, .int y_369, .ref b16, .ref b17, .ref b18, .ref b19, .ref b20, .ref b21, .ref b22, .ref b23, .ref b24, .ref b25, .ref b26, .ref b27, .int b28, .ref b29, .ref b30, .int b31, .int b32, .int b33, .int b34, .ref b35, .ref b36, .ref b37, .ref b38, .ref b39, .ref b40, .ref b41, .int b42, .ref b43, .ref b44, .int b45, .ref b46, .ref b47, .ref b48, .ref b49, .ref b50, .int b51, .ref b52, .ref b53, .ref b54])), (b2, .inl (G.2 0, 503, .inl y_401)), (b5, .inl (G.2 0, 4024, .inl f_385))] → va_S A s.heap H locs → lv_has ls 2 [(1, .int y_400), (0, .ref b0)] → W p l e m_s1_Model_traces s m ([.ref b0] : List Value).toArray below meth c H locs 0 0 (MQ below (zQ G (fun v w => ∃ (e0 : Int32), ∃ (e1 : Int32), ∃ (e2 : Int32), ∃ (e3 : Int32), ∃ (e4 : Int32), ∃ (e5 : Int32), ∃ (e6 : Nat → Int32), ∃ (e7 : Nat → Int32), ∃ (e8 : Nat → Int32), ∃ (e9 : Nat → Int32), ∃ (e10 : Nat → Int32), v = some (.int e0) ∧ w = [(b0, .inr (12, [.int 0, .ref b2, .ref b3, .ref b4, .ref b5, .int e1, .ref b7, .int 0, .int e2, .int e3, .int e4, .ref b12, .ref b13, .ref b14, .int e5, .ref b16, .ref b17, .ref b18, .ref b19, .ref b20, .ref b21, .ref b22, .ref b23, .ref b24, .ref b25, .ref b26, .ref b27, .int b28, .ref b29, .ref b30, .int b31, .int b32, .int b33, .int b34, .ref b35, .ref b36, .ref b37, .ref b38, .ref b39, .ref b40, .ref b41, .int b42, .ref b43, .ref b44, .int b45, .ref b46, .ref b47, .ref b48, .ref b49, .ref b50, .int b51, .ref b52, .ref b53, .ref b54])), (b2, .inl (G.2 0, 503, .inl e6)), (b5, .inl (G.2 0, 4024, .inl e7)), (b7, .inl (G.2 3, 240, .inl b57)), (b12, .inl (G.2 0, 503, .inl e8)), (b13, .inl (G.2 0, 12, .inl e9)), (b14, .inl (G.2 0, 12, .inl e10))] ∧ (zI e1 0 8) ∧ (zI e2 0 240) ∧ (zI e4 0 1) ∧ (zI e5 0 12) ∧ (zW5 e6) ∧ (zW5 e7) ∧ (zW5 e8) ∧ (zR e9 0 9)) A) ([.ref b0] : List Value).toArray s m_s1_Model_traces.cells m_s1_Model_traces.slots A) (F0 m 105 ls []) by
              exact key 504 (0) (b55) _ _ _ (zI.wk (l' := 0) (h' := 503) zc_0 (by decide)) hb55 (zm_upi (zI.wk (l' := 0) (h' := 503) zc_0 (by decide)) (by decide)) hP hD hS (lv_sub hl [0, 1] rfl)
            intro k_399
            induction k_399 with
            | zero =>
              intro y_400 y_401 H locs ls hy_400 hy_401 hmk_399 hP hD hS hl
              exact (zm_up0 hy_400 hmk_399).elim
            | succ k_399 ihk_399 =>
              intro y_400 y_401 H locs ls hy_400 hy_401 hmk_399 hP hD hS hl
              refine lv_iload_n hx hb d_Model_traces_105 rfl (lv_at hl 0 rfl) ?_
              refine lv_sipush (v := 503) hx hb d_Model_traces_106 (by decide) ?_
              refine lv_icmp_ge (tgt := 130) hx hb d_Model_traces_109 (by decide) (fun hc_402 => ?_) (fun hc_402 => ?_)
              · have _nhc_402 := hc_402
                have ni_403 := (fa_le _ _).mp hc_402
                rw [li_503] at ni_403
                have hv_404 : zI y_400 503 503 := zI.le_r zc_503 hy_400 hc_402 (by decide)
                refine lv_aload_n hx hb d_Model_traces_130 rfl (lv_at hl 1 rfl) ?_
                refine z_callV (index := 134) (As := []) (rest := []) (wr := [(b12, .inl (G.2 0, 503, .inl y_370)), (b13, .inl (G.2 0, 12, .inl y_371)), (b14, .inl (G.2 0, 12, .inl y_372)), (b7, .inl (G.2 3, 240, .inl b57)), (b5, .inl (G.2 0, 4024, .inl f_385))]) Z (s1_Model_many l G (b0) (0) (b2) (b3) (b4) (b5) (x_384) (b7) (0) (x_377) (x_378) (x_379) (b12) (b13) (b14) (y_369) (b16) (b17) (b18) (b19) (b20) (b21) (b22) (b23) (b24) (b25) (b26) (b27) (b28) (b29) (b30) (b31) (b32) (b33) (b34) (b35) (b36) (b37) (b38) (b39) (b40) (b41) (b42) (b43) (b44) (b45) (b46) (b47) (b48) (b49) (b50) (b51) (b52) (b53) (b54) (y_401) hx_384 (zI.wk (l' := 0) (h' := 240) zc_0 (by decide)) hx_377 (zI.wk (l' := 0) (h' := 1) hv_382 (by decide)) hy_369 hb28 hb31 hb42 hb45 hb51 hy_401) hl.1 q1320 q1322 qs51 q14 q1323 ⟨by decide, by decide, by show _ = some 0; decide +kernel⟩ ⟨Nat.le_of_ble_eq_true rfl, Nat.le_of_ble_eq_true rfl⟩ ⟨Nat.le_of_ble_eq_true rfl, Nat.le_of_ble_eq_true rfl⟩ rfl (Nat.le_of_ble_eq_true rfl) d_Model_traces_131 hP hD hS hA 4 12 rfl rfl rfl [4, 5] [0, 1, 2, 3, 6] rfl rfl rfl rfl (by decide) (fun v w1 H locs hw_405 hP hD hS => ?_)
                obtain ⟨x_406, rfl, rfl, hx_406, hfx_407⟩ := hw_405
                have hP : va_P G.1 classes [(b12, .inl (G.2 0, 503, .inl y_370)), (b13, .inl (G.2 0, 12, .inl y_371)), (b14, .inl (G.2 0, 12, .inl y_372)), (b7, .inl (G.2 3, 240, .inl b57)), (b5, .inl (G.2 0, 4024, .inl f_385)), (b0, .inr (12, [.int 0, .ref b2, .ref b3, .ref b4, .ref b5, .int x_384, .ref b7, .int 0, .int x_377, .int x_378, .int x_379, .ref b12, .ref b13, .ref b14, .int y_369, .ref b16, .ref b17, .ref b18, .ref b19, .ref b20, .ref b21, .ref b22, .ref b23, .ref b24, .ref b25, .ref b26, .ref b27, .int b28, .ref b29, .ref b30, .int b31, .int b32, .int b33, .int b34, .ref b35, .ref b36, .ref b37, .ref b38, .ref b39, .ref b40, .ref b41, .int b42, .ref b43, .ref b44, .int b45, .ref b46, .ref b47, .ref b48, .ref b49, .ref b50, .int b51, .ref b52, .ref b53, .ref b54])), (b2, .inl (G.2 0, 503, .inl y_401))] H := hP
                have hD := z_tie hP hD rfl
                refine W.widen (k := 0) (n := 0) (Nat.le_of_ble_eq_true rfl) (Nat.le_of_ble_eq_true rfl) ?_
                exact z_iret hx hb hr hlocks (hP.sub [5, 6, 4, 3, 0, 1, 2] rfl) (hD.sub [5, 6, 4, 3, 0, 1, 2] (by decide) rfl) hS (Nat.le_of_ble_eq_true rfl) (Nat.le_of_ble_eq_true rfl) d_Model_traces_134 ⟨x_406, x_384, x_377, x_378, x_379, y_369, y_401, f_385, y_370, y_371, y_372, rfl, rfl, hx_384, hx_377, (zI.wk (l' := 0) (h' := 1) hv_382 (by decide)), hy_369, hy_401, hf_385, hy_370, hy_371⟩
              · have _nhc_402 := hc_402
                have ni_408 := (fa_lt _ _).mp (zi_nle hc_402)
                rw [li_503] at ni_408
                have hv_409 : zI y_400 0 502 := zI.lt_l hy_400 zc_503 (zi_nle hc_402) (by decide)
                refine lv_aload_n hx hb d_Model_traces_112 rfl (lv_at hl 1 rfl) ?_
                refine va_get (D := G.1) (ci := 12) (v := .ref b2) (C := R_Model) (T := F_Model) (N := 54) hx hb hts i_Model hown hK hP 4 rfl rfl 1 (by decide) (hts _ q1110) (fun _ h9 => h9) rfl d_Model_traces_113 ?_
                refine lv_iload_n hx hb d_Model_traces_116 rfl (lv_at hl 0 rfl) ?_
                refine lv_aload_n hx hb d_Model_traces_117 rfl (lv_at hl 1 rfl) ?_
                refine va_get (D := G.1) (ci := 12) (v := .ref b12) (C := R_Model) (T := F_Model) (N := 54) hx hb hts i_Model hown hK hP 4 rfl rfl 11 (by decide) (hts _ q1120) (fun _ h9 => h9) rfl d_Model_traces_118 ?_
                refine lv_iload_n hx hb d_Model_traces_121 rfl (lv_at hl 0 rfl) ?_
                refine va_iald hx hb hK hP 0 0 rfl rfl (zI.inn hv_409 (by decide)) d_Model_traces_122 ?_
                refine lv_topi (fun v_410 ev_410 => ?_)
                refine va_iast hx hb hK hP hD hS 5 0 rfl rfl (zI.inn hv_409 (by decide)) d_Model_traces_123 (fun H locs hP hD hS => ?_)
                obtain ⟨f_411, hf_411, gf_411, uf_411, hP, hD⟩ := z_newfw 5 hP hD rfl hy_401 (zRk_s hy_370 ev_410 hv_409 hv_409 (by decide) (by omega))
                have hP : va_P G.1 classes [(b12, .inl (G.2 0, 503, .inl y_370)), (b13, .inl (G.2 0, 12, .inl y_371)), (b14, .inl (G.2 0, 12, .inl y_372)), (b7, .inl (G.2 3, 240, .inl b57)), (b0, .inr (12, [.int 0, .ref b2, .ref b3, .ref b4, .ref b5, .int x_384, .ref b7, .int 0, .int x_377, .int x_378, .int x_379, .ref b12, .ref b13, .ref b14, .int y_369, .ref b16, .ref b17, .ref b18, .ref b19, .ref b20, .ref b21, .ref b22, .ref b23, .ref b24, .ref b25, .ref b26, .ref b27, .int b28, .ref b29, .ref b30, .int b31, .int b32, .int b33, .int b34, .ref b35, .ref b36, .ref b37, .ref b38, .ref b39, .ref b40, .ref b41, .int b42, .ref b43, .ref b44, .int b45, .ref b46, .ref b47, .ref b48, .ref b49, .ref b50, .int b51, .ref b52, .ref b53, .ref b54])), (b2, .inl (G.2 0, 503, .inl f_411)), (b5, .inl (G.2 0, 4024, .inl f_385))] H := hP
                have hD := z_tie hP hD rfl
                obtain ⟨v_412, ev_412⟩ : ∃ z : Int32, z = y_400 + 1 := ⟨_, rfl⟩
                obtain ⟨qv_412, hv_412⟩ := zI_add (l := 1) (h := 503) hv_409 zc_1 ev_412 (by decide)
                rw [li_1] at qv_412
                refine lv_iinc (v := v_412) (lv' := [(1, .int v_412), (0, .ref b0)]) hx hb d_Model_traces_124 hl (k := 0) rfl (by rw [ev_412]; rfl) (by decide) rfl (fun ls hl => ?_)
                refine lv_goto (tgt := 105) hx hb d_Model_traces_127 (by decide) ?_
                exact ihk_399 (v_412) (f_411) _ _ _ (zI.wk (l' := 0) (h' := 503) hv_412 (by decide)) hf_411 (zm_up qv_412 hmk_399 (by decide)) hP hD hS (lv_sub hl [0, 1] rfl)
          · have _nhc_380 := hc_380
            have ni_413 := (fa_eq _ _).mp hc_380
            rw [li_0] at ni_413
            have hv_414 : zI x_379 0 0 := zI.eq_l hx_379 zc_0 hc_380
            refine lv_sipush (v := (-1000)) hx hb d_Model_traces_90 (by decide) ?_
            refine lv_aload_n hx hb d_Model_traces_93 rfl (lv_at hl 1 rfl) ?_
            refine va_get (D := G.1) (ci := 12) (v := .int x_378) (C := R_Model) (T := F_Model) (N := 54) hx hb hts i_Model hown hK hP 5 rfl rfl 9 (by decide) (hts _ q1118) (fun _ h9 => h9) rfl d_Model_traces_94 ?_
            refine lv_isub hx hb d_Model_traces_97 ?_
            refine lv_topi (fun v_415 ev_415 => ?_)
            exact z_iret hx hb hr hlocks (hP.sub [5, 0, 1, 6, 2, 3, 4] rfl) (hD.sub [5, 0, 1, 6, 2, 3, 4] (by decide) rfl) hS (Nat.le_of_ble_eq_true rfl) (Nat.le_of_ble_eq_true rfl) d_Model_traces_98 ⟨v_415, b6, x_377, x_378, x_379, y_369, b55, b56, y_370, y_371, y_372, rfl, rfl, hb6, hx_377, (zI.wk (l' := 0) (h' := 1) hv_414 (by decide)), hy_369, hb55, hb56, hy_370, hy_371⟩
        · have _nhc_373 := hc_373
          have ni_416 : ¬ (y_368 : Int32).toInt = (0 : Int32).toInt := fun z => hc_373 ((fa_eq _ _).mpr z)
          simp only [li_0] at ni_416
          have hv_417 : zI y_368 1 1 := zI.ne_lo hy_368 zc_0 hc_373 (by decide)
          refine lv_aload_n hx hb d_Model_traces_53 rfl (lv_at hl 1 rfl) ?_
          refine z_callV (index := 162) (As := []) (rest := []) (wr := [(b2, .inl (G.2 0, 503, .inl b55)), (b5, .inl (G.2 0, 4024, .inl b56)), (b12, .inl (G.2 0, 503, .inl y_370)), (b13, .inl (G.2 0, 12, .inl y_371)), (b14, .inl (G.2 0, 12, .inl y_372))]) Z (s1_Model_next l G (b0) (0) (b2) (b3) (b4) (b5) (b6) (b7) (b8) (y_366) (y_367) (y_368) (b12) (b13) (b14) (y_369) (b16) (b17) (b18) (b19) (b20) (b21) (b22) (b23) (b24) (b25) (b26) (b27) (b28) (b29) (b30) (b31) (b32) (b33) (b34) (b35) (b36) (b37) (b38) (b39) (b40) (b41) (b42) (b43) (b44) (b45) (b46) (b47) (b48) (b49) (b50) (b51) (b52) (b53) (b54) (b57) hb6 hb8 hy_366 (zI.wk (l' := 0) (h' := 1) hv_417 (by decide)) hy_369 hb28 hb31 hb42 hb45 hb51) hl.1 q1292 q1294 qs45 q14 q1295 ⟨by decide, by decide, by show _ = some 0; decide +kernel⟩ ⟨Nat.le_of_ble_eq_true rfl, Nat.le_of_ble_eq_true rfl⟩ ⟨Nat.le_of_ble_eq_true rfl, Nat.le_of_ble_eq_true rfl⟩ rfl (Nat.le_of_ble_eq_true rfl) d_Model_traces_54 hP hD hS hA 2 12 rfl rfl rfl [2, 3] [0, 1, 4, 5, 6] rfl rfl rfl rfl (by decide) (fun v w1 H locs hw_418 hP hD hS => ?_)
          obtain ⟨x_419, x_420, rfl, rfl, hx_420, hfx_421, hfx_422⟩ := hw_418
          have hP : va_P G.1 classes [(b2, .inl (G.2 0, 503, .inl b55)), (b5, .inl (G.2 0, 4024, .inl b56)), (b12, .inl (G.2 0, 503, .inl y_370)), (b13, .inl (G.2 0, 12, .inl y_371)), (b14, .inl (G.2 0, 12, .inl y_372)), (b0, .inr (12, [.int 0, .ref b2, .ref b3, .ref b4, .ref b5, .int b6, .ref b7, .int b8, .int x_420, .int y_367, .int y_368, .ref b12, .ref b13, .ref b14, .int y_369, .ref b16, .ref b17, .ref b18, .ref b19, .ref b20, .ref b21, .ref b22, .ref b23, .ref b24, .ref b25, .ref b26, .ref b27, .int b28, .ref b29, .ref b30, .int b31, .int b32, .int b33, .int b34, .ref b35, .ref b36, .ref b37, .ref b38, .ref b39, .ref b40, .ref b41, .int b42, .ref b43, .ref b44, .int b45, .ref b46, .ref b47, .ref b48, .ref b49, .ref b50, .int b51, .ref b52, .ref b53, .ref b54])), (b7, .inl (G.2 3, 240, .inl b57))] H := hP
          have hD := z_tie hP hD rfl
          refine W.widen (k := 0) (n := 0) (Nat.le_of_ble_eq_true rfl) (Nat.le_of_ble_eq_true rfl) ?_
          refine lv_bipush (v := 59) hx hb d_Model_traces_57 (by decide) ?_
          refine lv_icmp_ne (tgt := 79) hx hb d_Model_traces_59 (by decide) (fun hc_423 => ?_) (fun hc_423 => ?_)
          · have _nhc_423 := hc_423
            have ni_424 : ¬ (x_419 : Int32).toInt = (59 : Int32).toInt := fun z => hc_423 ((fa_eq _ _).mpr z)
            simp only [li_59] at ni_424
            refine lv_aload_n hx hb d_Model_traces_79 rfl (lv_at hl 1 rfl) ?_
            refine z_callV (index := 185) (As := []) (rest := []) (wr := [(b2, .inl (G.2 0, 503, .inl b55)), (b5, .inl (G.2 0, 4024, .inl b56)), (b12, .inl (G.2 0, 503, .inl y_370)), (b13, .inl (G.2 0, 12, .inl y_371)), (b14, .inl (G.2 0, 12, .inl y_372))]) Z (s1_Model_endsReading l G (b0) (0) (b2) (b3) (b4) (b5) (b6) (b7) (b8) (x_420) (y_367) (y_368) (b12) (b13) (b14) (y_369) (b16) (b17) (b18) (b19) (b20) (b21) (b22) (b23) (b24) (b25) (b26) (b27) (b28) (b29) (b30) (b31) (b32) (b33) (b34) (b35) (b36) (b37) (b38) (b39) (b40) (b41) (b42) (b43) (b44) (b45) (b46) (b47) (b48) (b49) (b50) (b51) (b52) (b53) (b54) (b57) hb6 hb8 hx_420 (zI.wk (l' := 0) (h' := 1) hv_417 (by decide)) hy_369 hb28 hb31 hb42 hb45 hb51) hl.1 q1312 q1314 qs49 q14 q1315 ⟨by decide, by decide, by show _ = some 0; decide +kernel⟩ ⟨Nat.le_of_ble_eq_true rfl, Nat.le_of_ble_eq_true rfl⟩ ⟨Nat.le_of_ble_eq_true rfl, Nat.le_of_ble_eq_true rfl⟩ rfl (Nat.le_of_ble_eq_true rfl) d_Model_traces_80 hP hD hS hA 5 12 rfl rfl rfl [5, 6] [0, 1, 2, 3, 4] rfl rfl rfl rfl (by decide) (fun v w1 H locs hw_425 hP hD hS => ?_)
            obtain ⟨x_426, x_427, x_428, rfl, rfl, hx_426, hx_428⟩ := hw_425
            have hP : va_P G.1 classes [(b2, .inl (G.2 0, 503, .inl b55)), (b5, .inl (G.2 0, 4024, .inl b56)), (b12, .inl (G.2 0, 503, .inl y_370)), (b13, .inl (G.2 0, 12, .inl y_371)), (b14, .inl (G.2 0, 12, .inl y_372)), (b0, .inr (12, [.int 0, .ref b2, .ref b3, .ref b4, .ref b5, .int b6, .ref b7, .int 0, .int x_426, .int x_427, .int x_428, .ref b12, .ref b13, .ref b14, .int y_369, .ref b16, .ref b17, .ref b18, .ref b19, .ref b20, .ref b21, .ref b22, .ref b23, .ref b24, .ref b25, .ref b26, .ref b27, .int b28, .ref b29, .ref b30, .int b31, .int b32, .int b33, .int b34, .ref b35, .ref b36, .ref b37, .ref b38, .ref b39, .ref b40, .ref b41, .int b42, .ref b43, .ref b44, .int b45, .ref b46, .ref b47, .ref b48, .ref b49, .ref b50, .int b51, .ref b52, .ref b53, .ref b54])), (b7, .inl (G.2 3, 240, .inl b57))] H := hP
            have hD := z_tie hP hD rfl
            refine W.widen (k := 0) (n := 0) (Nat.le_of_ble_eq_true rfl) (Nat.le_of_ble_eq_true rfl) ?_
            refine lv_aload_n hx hb d_Model_traces_83 rfl (lv_at hl 1 rfl) ?_
            refine va_get (D := G.1) (ci := 12) (v := .int x_428) (C := R_Model) (T := F_Model) (N := 54) hx hb hts i_Model hown hK hP 5 rfl rfl 10 (by decide) (hts _ q1119) (fun _ h9 => h9) rfl d_Model_traces_84 ?_
            refine lv_if_ne (tgt := 99) hx hb d_Model_traces_87 (by decide) (fun hc_429 => ?_) (fun hc_429 => ?_)
            · have _nhc_429 := hc_429
              have ni_430 : ¬ (x_428 : Int32).toInt = (0 : Int32).toInt := fun z => hc_429 ((fa_eq _ _).mpr z)
              simp only [li_0] at ni_430
              have hv_431 : zI x_428 1 1 := zI.ne_lo hx_428 zc_0 hc_429 (by decide)
              refine lv_aload_n hx hb d_Model_traces_99 rfl (lv_at hl 1 rfl) ?_
              refine z_callV (index := 188) (As := []) (rest := []) (wr := [(b12, .inl (G.2 0, 503, .inl y_370)), (b13, .inl (G.2 0, 12, .inl y_371)), (b14, .inl (G.2 0, 12, .inl y_372)), (b7, .inl (G.2 3, 240, .inl b57))]) Z (s1_Model_remember l G (b0) (0) (b2) (b3) (b4) (b5) (b6) (b7) (0) (x_426) (x_427) (x_428) (b12) (b13) (b14) (y_369) (b16) (b17) (b18) (b19) (b20) (b21) (b22) (b23) (b24) (b25) (b26) (b27) (b28) (b29) (b30) (b31) (b32) (b33) (b34) (b35) (b36) (b37) (b38) (b39) (b40) (b41) (b42) (b43) (b44) (b45) (b46) (b47) (b48) (b49) (b50) (b51) (b52) (b53) (b54) (b55) (b56) hb6 (zI.wk (l' := 0) (h' := 240) zc_0 (by decide)) hx_426 (zI.wk (l' := 0) (h' := 1) hv_431 (by decide)) hy_369 hb28 hb31 hb42 hb45 hb51 hb55 hb56) hl.1 q1316 q1318 qs50 q14 q1319 ⟨by decide, by decide, by show _ = some 0; decide +kernel⟩ ⟨Nat.le_of_ble_eq_true rfl, Nat.le_of_ble_eq_true rfl⟩ ⟨Nat.le_of_ble_eq_true rfl, Nat.le_of_ble_eq_true rfl⟩ rfl (Nat.le_of_ble_eq_true rfl) d_Model_traces_100 hP hD hS hA 5 12 rfl rfl rfl [5, 0, 1] [2, 3, 4, 6] rfl rfl rfl rfl (by decide) (fun v w1 H locs hw_432 hP hD hS => ?_)
              obtain ⟨x_433, f_434, rfl, rfl, hx_433, hf_434⟩ := hw_432
              have hP : va_P G.1 classes [(b12, .inl (G.2 0, 503, .inl y_370)), (b13, .inl (G.2 0, 12, .inl y_371)), (b14, .inl (G.2 0, 12, .inl y_372)), (b7, .inl (G.2 3, 240, .inl b57)), (b0, .inr (12, [.int 0, .ref b2, .ref b3, .ref b4, .ref b5, .int x_433, .ref b7, .int 0, .int x_426, .int x_427, .int x_428, .ref b12, .ref b13, .ref b14, .int y_369, .ref b16, .ref b17, .ref b18, .ref b19, .ref b20, .ref b21, .ref b22, .ref b23, .ref b24, .ref b25, .ref b26, .ref b27, .int b28, .ref b29, .ref b30, .int b31, .int b32, .int b33, .int b34, .ref b35, .ref b36, .ref b37, .ref b38, .ref b39, .ref b40, .ref b41, .int b42, .ref b43, .ref b44, .int b45, .ref b46, .ref b47, .ref b48, .ref b49, .ref b50, .int b51, .ref b52, .ref b53, .ref b54])), (b2, .inl (G.2 0, 503, .inl b55)), (b5, .inl (G.2 0, 4024, .inl f_434))] H := hP
              have hD := z_tie hP hD rfl
              refine W.widen (k := 0) (n := 0) (Nat.le_of_ble_eq_true rfl) (Nat.le_of_ble_eq_true rfl) ?_
              refine lv_iconst (v := 0) hx hb d_Model_traces_103 (by decide) ?_
              refine lv_istore_n (lv' := [(1, .int 0), (0, .ref b0)]) hx hb d_Model_traces_104 rfl hl (by decide) rfl (fun ls hl => ?_)
              suffices key : ∀ (k_448 : Nat) (y_449 : Int32) (y_450 : Nat → Int32) (H : Heap) (locs : List Loc) (ls : Array Slot), (zI y_449 0 503) → (zW5 y_450) → (503 : Int) - y_449.toInt < (k_448 : Int) → va_P G.1 classes [(b12, .inl (G.2 0, 503, .inl y_370)), (b13, .inl (G.2 0, 12, .inl y_371)), (b14, .inl (G.2 0, 12, .inl y_372)), (b7, .inl (G.2 3, 240, .inl b57)), (b0, .inr (12, [.int 0, .ref b2, .ref b3, .ref b4, .ref b5, .int x_433, .ref b7, .int 0, .int x_426, .int x_427, .int x_428, .ref b12, .ref b13, .ref b14, .int y_369, .ref b16, .ref b17, .ref b18, .ref b19, .ref b20, .ref b21, .ref b22, .ref b23, .ref b24, .ref b25, .ref b26, .ref b27, .int b28, .ref b29, .ref b30, .int b31, .int b32, .int b33, .int b34, .ref b35, .ref b36, .ref b37, .ref b38, .ref b39, .ref b40, .ref b41, .int b42, .ref b43, .ref b44, .int b45, .ref b46, .ref b47, .ref b48, .ref b49, .ref b50, .int b51, .ref b52, .ref b53, .ref b54])), (b2, .inl (G.2 0, 503, .inl y_450)), (b5, .inl (G.2 0, 4024, .inl f_434))] H → va_D A [(b12, .inl (G.2 0, 503, .inl y_370)), (b13, .inl (G.2 0, 12, .inl y_371)), (b14, .inl (G.2 0, 12, .inl y_372)), (b7, .inl (G.2 3, 240, .inl b57)), (b0, .inr (12, [.int 0, .ref b2, .ref b3, .ref b4, .ref b5, .int x_433, .ref b7, .int 0, .int x_426, .int x_427, .int x_428, .ref b12, .ref b13, .ref b14, .int y_369, .ref b16, .ref b17, .ref b18, .ref b19, .ref b20, .ref b21, .ref b22, .ref b23, .ref b24, .ref b25, .ref b26, .ref b27, .int b28, .ref b29, .ref b30, .int b31, .int b32, .int b33, .int b34, .ref b35, .ref b36, .ref b37, .ref b38, .ref b39, .ref b40, .ref b41, .int b42, .ref b43, .ref b44, .int b45, .ref b46, .ref b47, .ref b48, .ref b49, .ref b50, .int b51, .ref b52, .ref b53, .ref b54])), (b2, .inl (G.2 0, 503, .inl y_450)), (b5, .inl (G.2 0, 4024, .inl f_434))] → va_S A s.heap H locs → lv_has ls 2 [(1, .int y_449), (0, .ref b0)] → W p l e m_s1_Model_traces s m ([.ref b0] : List Value).toArray below meth c H locs 0 0 (MQ below (zQ G (fun v w => ∃ (e0 : Int32), ∃ (e1 : Int32), ∃ (e2 : Int32), ∃ (e3 : Int32), ∃ (e4 : Int32), ∃ (e5 : Int32), ∃ (e6 : Nat → Int32), ∃ (e7 : Nat → Int32), ∃ (e8 : Nat → Int32), ∃ (e9 : Nat → Int32), ∃ (e10 : Nat → Int32), v = some (.int e0) ∧ w = [(b0, .inr (12, [.int 0, .ref b2, .ref b3, .ref b4, .ref b5, .int e1, .ref b7, .int 0, .int e2, .int e3, .int e4, .ref b12, .ref b13, .ref b14, .int e5, .ref b16, .ref b17, .ref b18, .ref b19, .ref b20, .ref b21, .ref b22, .ref b23, .ref b24, .ref b25, .ref b26, .ref b27, .int b28, .ref b29, .ref b30, .int b31, .int b32, .int b33, .int b34, .ref b35, .ref b36, .ref b37, .ref b38, .ref b39, .ref b40, .ref b41, .int b42, .ref b43, .ref b44, .int b45, .ref b46, .ref b47, .ref b48, .ref b49, .ref b50, .int b51, .ref b52, .ref b53, .ref b54])), (b2, .inl (G.2 0, 503, .inl e6)), (b5, .inl (G.2 0, 4024, .inl e7)), (b7, .inl (G.2 3, 240, .inl b57)), (b12, .inl (G.2 0, 503, .inl e8)), (b13, .inl (G.2 0, 12, .inl e9)), (b14, .inl (G.2 0, 12, .inl e10))] ∧ (zI e1 0 8) ∧ (zI e2 0 240) ∧ (zI e4 0 1) ∧ (zI e5 0 12) ∧ (zW5 e6) ∧ (zW5 e7) ∧ (zW5 e8) ∧ (zR e9 0 9)) A) ([.ref b0] : List Value).toArray s m_s1_Model_traces.cells m_s1_Model_traces.slots A) (F0 m 105 ls []) by
                exact key 504 (0) (b55) _ _ _ (zI.wk (l' := 0) (h' := 503) zc_0 (by decide)) hb55 (zm_upi (zI.wk (l' := 0) (h' := 503) zc_0 (by decide)) (by decide)) hP hD hS (lv_sub hl [0, 1] rfl)
              intro k_448
              induction k_448 with
              | zero =>
                intro y_449 y_450 H locs ls hy_449 hy_450 hmk_448 hP hD hS hl
                exact (zm_up0 hy_449 hmk_448).elim
              | succ k_448 ihk_448 =>
                intro y_449 y_450 H locs ls hy_449 hy_450 hmk_448 hP hD hS hl
                refine lv_iload_n hx hb d_Model_traces_105 rfl (lv_at hl 0 rfl) ?_
                refine lv_sipush (v := 503) hx hb d_Model_traces_106 (by decide) ?_
                refine lv_icmp_ge (tgt := 130) hx hb d_Model_traces_109 (by decide) (fun hc_451 => ?_) (fun hc_451 => ?_)
                · have _nhc_451 := hc_451
                  have ni_452 := (fa_le _ _).mp hc_451
                  rw [li_503] at ni_452
                  have hv_453 : zI y_449 503 503 := zI.le_r zc_503 hy_449 hc_451 (by decide)
                  refine lv_aload_n hx hb d_Model_traces_130 rfl (lv_at hl 1 rfl) ?_
                  refine z_callV (index := 134) (As := []) (rest := []) (wr := [(b12, .inl (G.2 0, 503, .inl y_370)), (b13, .inl (G.2 0, 12, .inl y_371)), (b14, .inl (G.2 0, 12, .inl y_372)), (b7, .inl (G.2 3, 240, .inl b57)), (b5, .inl (G.2 0, 4024, .inl f_434))]) Z (s1_Model_many l G (b0) (0) (b2) (b3) (b4) (b5) (x_433) (b7) (0) (x_426) (x_427) (x_428) (b12) (b13) (b14) (y_369) (b16) (b17) (b18) (b19) (b20) (b21) (b22) (b23) (b24) (b25) (b26) (b27) (b28) (b29) (b30) (b31) (b32) (b33) (b34) (b35) (b36) (b37) (b38) (b39) (b40) (b41) (b42) (b43) (b44) (b45) (b46) (b47) (b48) (b49) (b50) (b51) (b52) (b53) (b54) (y_450) hx_433 (zI.wk (l' := 0) (h' := 240) zc_0 (by decide)) hx_426 (zI.wk (l' := 0) (h' := 1) hv_431 (by decide)) hy_369 hb28 hb31 hb42 hb45 hb51 hy_450) hl.1 q1320 q1322 qs51 q14 q1323 ⟨by decide, by decide, by show _ = some 0; decide +kernel⟩ ⟨Nat.le_of_ble_eq_true rfl, Nat.le_of_ble_eq_true rfl⟩ ⟨Nat.le_of_ble_eq_true rfl, Nat.le_of_ble_eq_true rfl⟩ rfl (Nat.le_of_ble_eq_true rfl) d_Model_traces_131 hP hD hS hA 4 12 rfl rfl rfl [4, 5] [0, 1, 2, 3, 6] rfl rfl rfl rfl (by decide) (fun v w1 H locs hw_454 hP hD hS => ?_)
                  obtain ⟨x_455, rfl, rfl, hx_455, hfx_456⟩ := hw_454
                  have hP : va_P G.1 classes [(b12, .inl (G.2 0, 503, .inl y_370)), (b13, .inl (G.2 0, 12, .inl y_371)), (b14, .inl (G.2 0, 12, .inl y_372)), (b7, .inl (G.2 3, 240, .inl b57)), (b5, .inl (G.2 0, 4024, .inl f_434)), (b0, .inr (12, [.int 0, .ref b2, .ref b3, .ref b4, .ref b5, .int x_433, .ref b7, .int 0, .int x_426, .int x_427, .int x_428, .ref b12, .ref b13, .ref b14, .int y_369, .ref b16, .ref b17, .ref b18, .ref b19, .ref b20, .ref b21, .ref b22, .ref b23, .ref b24, .ref b25, .ref b26, .ref b27, .int b28, .ref b29, .ref b30, .int b31, .int b32, .int b33, .int b34, .ref b35, .ref b36, .ref b37, .ref b38, .ref b39, .ref b40, .ref b41, .int b42, .ref b43, .ref b44, .int b45, .ref b46, .ref b47, .ref b48, .ref b49, .ref b50, .int b51, .ref b52, .ref b53, .ref b54])), (b2, .inl (G.2 0, 503, .inl y_450))] H := hP
                  have hD := z_tie hP hD rfl
                  refine W.widen (k := 0) (n := 0) (Nat.le_of_ble_eq_true rfl) (Nat.le_of_ble_eq_true rfl) ?_
                  exact z_iret hx hb hr hlocks (hP.sub [5, 6, 4, 3, 0, 1, 2] rfl) (hD.sub [5, 6, 4, 3, 0, 1, 2] (by decide) rfl) hS (Nat.le_of_ble_eq_true rfl) (Nat.le_of_ble_eq_true rfl) d_Model_traces_134 ⟨x_455, x_433, x_426, x_427, x_428, y_369, y_450, f_434, y_370, y_371, y_372, rfl, rfl, hx_433, hx_426, (zI.wk (l' := 0) (h' := 1) hv_431 (by decide)), hy_369, hy_450, hf_434, hy_370, hy_371⟩
                · have _nhc_451 := hc_451
                  have ni_457 := (fa_lt _ _).mp (zi_nle hc_451)
                  rw [li_503] at ni_457
                  have hv_458 : zI y_449 0 502 := zI.lt_l hy_449 zc_503 (zi_nle hc_451) (by decide)
                  refine lv_aload_n hx hb d_Model_traces_112 rfl (lv_at hl 1 rfl) ?_
                  refine va_get (D := G.1) (ci := 12) (v := .ref b2) (C := R_Model) (T := F_Model) (N := 54) hx hb hts i_Model hown hK hP 4 rfl rfl 1 (by decide) (hts _ q1110) (fun _ h9 => h9) rfl d_Model_traces_113 ?_
                  refine lv_iload_n hx hb d_Model_traces_116 rfl (lv_at hl 0 rfl) ?_
                  refine lv_aload_n hx hb d_Model_traces_117 rfl (lv_at hl 1 rfl) ?_
                  refine va_get (D := G.1) (ci := 12) (v := .ref b12) (C := R_Model) (T := F_Model) (N := 54) hx hb hts i_Model hown hK hP 4 rfl rfl 11 (by decide) (hts _ q1120) (fun _ h9 => h9) rfl d_Model_traces_118 ?_
                  refine lv_iload_n hx hb d_Model_traces_121 rfl (lv_at hl 0 rfl) ?_
                  refine va_iald hx hb hK hP 0 0 rfl rfl (zI.inn hv_458 (by decide)) d_Model_traces_122 ?_
                  refine lv_topi (fun v_459 ev_459 => ?_)
                  refine va_iast hx hb hK hP hD hS 5 0 rfl rfl (zI.inn hv_458 (by decide)) d_Model_traces_123 (fun H locs hP hD hS => ?_)
                  obtain ⟨f_460, hf_460, gf_460, uf_460, hP, hD⟩ := z_newfw 5 hP hD rfl hy_450 (zRk_s hy_370 ev_459 hv_458 hv_458 (by decide) (by omega))
                  have hP : va_P G.1 classes [(b12, .inl (G.2 0, 503, .inl y_370)), (b13, .inl (G.2 0, 12, .inl y_371)), (b14, .inl (G.2 0, 12, .inl y_372)), (b7, .inl (G.2 3, 240, .inl b57)), (b0, .inr (12, [.int 0, .ref b2, .ref b3, .ref b4, .ref b5, .int x_433, .ref b7, .int 0, .int x_426, .int x_427, .int x_428, .ref b12, .ref b13, .ref b14, .int y_369, .ref b16, .ref b17, .ref b18, .ref b19, .ref b20, .ref b21, .ref b22, .ref b23, .ref b24, .ref b25, .ref b26, .ref b27, .int b28, .ref b29, .ref b30, .int b31, .int b32, .int b33, .int b34, .ref b35, .ref b36, .ref b37, .ref b38, .ref b39, .ref b40, .ref b41, .int b42, .ref b43, .ref b44, .int b45, .ref b46, .ref b47, .ref b48, .ref b49, .ref b50, .int b51, .ref b52, .ref b53, .ref b54])), (b2, .inl (G.2 0, 503, .inl f_460)), (b5, .inl (G.2 0, 4024, .inl f_434))] H := hP
                  have hD := z_tie hP hD rfl
                  obtain ⟨v_461, ev_461⟩ : ∃ z : Int32, z = y_449 + 1 := ⟨_, rfl⟩
                  obtain ⟨qv_461, hv_461⟩ := zI_add (l := 1) (h := 503) hv_458 zc_1 ev_461 (by decide)
                  rw [li_1] at qv_461
                  refine lv_iinc (v := v_461) (lv' := [(1, .int v_461), (0, .ref b0)]) hx hb d_Model_traces_124 hl (k := 0) rfl (by rw [ev_461]; rfl) (by decide) rfl (fun ls hl => ?_)
                  refine lv_goto (tgt := 105) hx hb d_Model_traces_127 (by decide) ?_
                  exact ihk_448 (v_461) (f_460) _ _ _ (zI.wk (l' := 0) (h' := 503) hv_461 (by decide)) hf_460 (zm_up qv_461 hmk_448 (by decide)) hP hD hS (lv_sub hl [0, 1] rfl)
            · have _nhc_429 := hc_429
              have ni_462 := (fa_eq _ _).mp hc_429
              rw [li_0] at ni_462
              have hv_463 : zI x_428 0 0 := zI.eq_l hx_428 zc_0 hc_429
              refine lv_sipush (v := (-1000)) hx hb d_Model_traces_90 (by decide) ?_
              refine lv_aload_n hx hb d_Model_traces_93 rfl (lv_at hl 1 rfl) ?_
              refine va_get (D := G.1) (ci := 12) (v := .int x_427) (C := R_Model) (T := F_Model) (N := 54) hx hb hts i_Model hown hK hP 5 rfl rfl 9 (by decide) (hts _ q1118) (fun _ h9 => h9) rfl d_Model_traces_94 ?_
              refine lv_isub hx hb d_Model_traces_97 ?_
              refine lv_topi (fun v_464 ev_464 => ?_)
              exact z_iret hx hb hr hlocks (hP.sub [5, 0, 1, 6, 2, 3, 4] rfl) (hD.sub [5, 0, 1, 6, 2, 3, 4] (by decide) rfl) hS (Nat.le_of_ble_eq_true rfl) (Nat.le_of_ble_eq_true rfl) d_Model_traces_98 ⟨v_464, b6, x_426, x_427, x_428, y_369, b55, b56, y_370, y_371, y_372, rfl, rfl, hb6, hx_426, (zI.wk (l' := 0) (h' := 1) hv_463 (by decide)), hy_369, hb55, hb56, hy_370, hy_371⟩
          · have _nhc_423 := hc_423
            have ni_465 := (fa_eq _ _).mp hc_423
            rw [li_59] at ni_465
            have hv_466 : zI x_419 59 59 := zI.eq_l (zI_all x_419) zc_59 hc_423
            refine lv_aload_n hx hb d_Model_traces_62 rfl (lv_at hl 1 rfl) ?_
            refine lv_dup hx hb d_Model_traces_63 rfl ?_
            refine va_get (D := G.1) (ci := 12) (v := .int x_420) (C := R_Model) (T := F_Model) (N := 54) hx hb hts i_Model hown hK hP 5 rfl rfl 8 (by decide) (hts _ q1117) (fun _ h9 => h9) rfl d_Model_traces_64 ?_
            refine lv_iconst (v := 1) hx hb d_Model_traces_67 (by decide) ?_
            have hv_467 : zI x_420 0 239 := ⟨by omega, by omega⟩
            refine lv_iadd hx hb d_Model_traces_68 ?_
            refine lv_topi (fun v_468 ev_468 => ?_)
            obtain ⟨qv_468, hv_468⟩ := zI_add (l := 1) (h := 240) hv_467 zc_1 ev_468 (by decide)
            rw [li_1] at qv_468
            refine va_put (D := G.1) (ci := 12) (v := .int v_468) (ty := .int) (C := R_Model) (T := F_Model) (N := 54) hx hb hts i_Model t_Model t_Model_ok n_Model hown hK hP hD hS 5 rfl rfl 8 (by decide) (hts _ q1117) (fun _ h9 => h9) rfl (by decide +kernel) rfl rfl (Nat.le_of_ble_eq_true rfl) d_Model_traces_69 (fun H locs hP hD hS => ?_)
            have hP : va_P G.1 classes [(b2, .inl (G.2 0, 503, .inl b55)), (b5, .inl (G.2 0, 4024, .inl b56)), (b12, .inl (G.2 0, 503, .inl y_370)), (b13, .inl (G.2 0, 12, .inl y_371)), (b14, .inl (G.2 0, 12, .inl y_372)), (b0, .inr (12, [.int 0, .ref b2, .ref b3, .ref b4, .ref b5, .int b6, .ref b7, .int b8, .int v_468, .int y_367, .int y_368, .ref b12, .ref b13, .ref b14, .int y_369, .ref b16, .ref b17, .ref b18, .ref b19, .ref b20, .ref b21, .ref b22, .ref b23, .ref b24, .ref b25, .ref b26, .ref b27, .int b28, .ref b29, .ref b30, .int b31, .int b32, .int b33, .int b34, .ref b35, .ref b36, .ref b37, .ref b38, .ref b39, .ref b40, .ref b41, .int b42, .ref b43, .ref b44, .int b45, .ref b46, .ref b47, .ref b48, .ref b49, .ref b50, .int b51, .ref b52, .ref b53, .ref b54])), (b7, .inl (G.2 3, 240, .inl b57))] H := hP
            have hD := z_tie hP hD rfl
            refine lv_aload_n hx hb d_Model_traces_72 rfl (lv_at hl 1 rfl) ?_
            refine z_callV (index := 182) (As := []) (rest := []) (wr := [(b2, .inl (G.2 0, 503, .inl b55)), (b5, .inl (G.2 0, 4024, .inl b56))]) Z (s1_Model_readTrace l G (b0) (0) (b2) (b3) (b4) (b5) (b6) (b7) (b8) (v_468) (y_367) (y_368) (b12) (b13) (b14) (y_369) (b16) (b17) (b18) (b19) (b20) (b21) (b22) (b23) (b24) (b25) (b26) (b27) (b28) (b29) (b30) (b31) (b32) (b33) (b34) (b35) (b36) (b37) (b38) (b39) (b40) (b41) (b42) (b43) (b44) (b45) (b46) (b47) (b48) (b49) (b50) (b51) (b52) (b53) (b54) (b57) (y_370) (y_371) (y_372) hb6 hb8 (zI.wk (l' := 0) (h' := 240) hv_468 (by decide)) (zI.wk (l' := 0) (h' := 1) hv_417 (by decide)) hy_369 hb28 hb31 hb42 hb45 hb51 hy_370 hy_371) hl.1 q1288 q1290 qs44 q14 q1291 ⟨by decide, by decide, by show _ = some 0; decide +kernel⟩ ⟨Nat.le_of_ble_eq_true rfl, Nat.le_of_ble_eq_true rfl⟩ ⟨Nat.le_of_ble_eq_true rfl, Nat.le_of_ble_eq_true rfl⟩ rfl (Nat.le_of_ble_eq_true rfl) d_Model_traces_73 hP hD hS hA 5 12 rfl rfl rfl [5, 6, 2, 3, 4] [0, 1] rfl rfl rfl rfl (by decide) (fun v w1 H locs hw_469 hP hD hS => ?_)
            obtain ⟨x_470, x_471, x_472, x_473, f_474, f_475, f_476, rfl, rfl, hx_470, hx_472, hx_473, hf_474, hf_475, hfx_477⟩ := hw_469
            have hP : va_P G.1 classes [(b2, .inl (G.2 0, 503, .inl b55)), (b5, .inl (G.2 0, 4024, .inl b56)), (b0, .inr (12, [.int 0, .ref b2, .ref b3, .ref b4, .ref b5, .int b6, .ref b7, .int b8, .int x_470, .int x_471, .int x_472, .ref b12, .ref b13, .ref b14, .int x_473, .ref b16, .ref b17, .ref b18, .ref b19, .ref b20, .ref b21, .ref b22, .ref b23, .ref b24, .ref b25, .ref b26, .ref b27, .int b28, .ref b29, .ref b30, .int b31, .int b32, .int b33, .int b34, .ref b35, .ref b36, .ref b37, .ref b38, .ref b39, .ref b40, .ref b41, .int b42, .ref b43, .ref b44, .int b45, .ref b46, .ref b47, .ref b48, .ref b49, .ref b50, .int b51, .ref b52, .ref b53, .ref b54])), (b7, .inl (G.2 3, 240, .inl b57)), (b12, .inl (G.2 0, 503, .inl f_474)), (b13, .inl (G.2 0, 12, .inl f_475)), (b14, .inl (G.2 0, 12, .inl f_476))] H := hP
            have hD := z_tie hP hD rfl
            refine W.widen (k := 0) (n := 0) (Nat.le_of_ble_eq_true rfl) (Nat.le_of_ble_eq_true rfl) ?_
            refine lv_goto (tgt := 46) hx hb d_Model_traces_76 (by decide) ?_
            exact ihk_365 (x_470) (x_471) (x_472) (x_473) (f_474) (f_475) (f_476) _ _ _ hx_470 hx_472 hx_473 hf_474 hf_475 (by omega) hP hD hS (lv_sub hl [0, 1] rfl)
    · have _nhc_243 := hc_243
      have ni_478 := (fa_lt _ _).mp (zi_nle hc_243)
      rw [li_503] at ni_478
      have hv_479 : zI y_241 0 502 := zI.lt_l hy_241 zc_503 (zi_nle hc_243) (by decide)
      refine lv_aload_n hx hb d_Model_traces_14 rfl (lv_at hl 1 rfl) ?_
      refine va_get (D := G.1) (ci := 12) (v := .ref b12) (C := R_Model) (T := F_Model) (N := 54) hx hb hts i_Model hown hK hP 0 rfl rfl 11 (by decide) (hts _ q1120) (fun _ h9 => h9) rfl d_Model_traces_15 ?_
      refine lv_iload_n hx hb d_Model_traces_18 rfl (lv_at hl 0 rfl) ?_
      refine lv_aload_n hx hb d_Model_traces_19 rfl (lv_at hl 1 rfl) ?_
      refine va_get (D := G.1) (ci := 12) (v := .ref b2) (C := R_Model) (T := F_Model) (N := 54) hx hb hts i_Model hown hK hP 0 rfl rfl 1 (by decide) (hts _ q1110) (fun _ h9 => h9) rfl d_Model_traces_20 ?_
      refine lv_iload_n hx hb d_Model_traces_23 rfl (lv_at hl 0 rfl) ?_
      refine va_iald hx hb hK hP 1 0 rfl rfl (zI.inn hv_479 (by decide)) d_Model_traces_24 ?_
      refine lv_topi (fun v_480 ev_480 => ?_)
      refine va_iast hx hb hK hP hD hS 4 0 rfl rfl (zI.inn hv_479 (by decide)) d_Model_traces_25 (fun H locs hP hD hS => ?_)
      obtain ⟨f_481, hf_481, gf_481, uf_481, hP, hD⟩ := z_newfw 4 hP hD rfl hy_242 (zRk_s hb55 ev_480 hv_479 hv_479 (by decide) (by omega))
      have hP : va_P G.1 classes [(b0, .inr (12, [.int 0, .ref b2, .ref b3, .ref b4, .ref b5, .int b6, .ref b7, .int b8, .int b9, .int b10, .int b11, .ref b12, .ref b13, .ref b14, .int b15, .ref b16, .ref b17, .ref b18, .ref b19, .ref b20, .ref b21, .ref b22, .ref b23, .ref b24, .ref b25, .ref b26, .ref b27, .int b28, .ref b29, .ref b30, .int b31, .int b32, .int b33, .int b34, .ref b35, .ref b36, .ref b37, .ref b38, .ref b39, .ref b40, .ref b41, .int b42, .ref b43, .ref b44, .int b45, .ref b46, .ref b47, .ref b48, .ref b49, .ref b50, .int b51, .ref b52, .ref b53, .ref b54])), (b2, .inl (G.2 0, 503, .inl b55)), (b5, .inl (G.2 0, 4024, .inl b56)), (b7, .inl (G.2 3, 240, .inl b57)), (b12, .inl (G.2 0, 503, .inl f_481)), (b13, .inl (G.2 0, 12, .inl b59)), (b14, .inl (G.2 0, 12, .inl b60))] H := hP
      have hD := z_tie hP hD rfl
      obtain ⟨v_482, ev_482⟩ : ∃ z : Int32, z = y_241 + 1 := ⟨_, rfl⟩
      obtain ⟨qv_482, hv_482⟩ := zI_add (l := 1) (h := 503) hv_479 zc_1 ev_482 (by decide)
      rw [li_1] at qv_482
      refine lv_iinc (v := v_482) (lv' := [(1, .int v_482), (0, .ref b0)]) hx hb d_Model_traces_26 hl (k := 0) rfl (by rw [ev_482]; rfl) (by decide) rfl (fun ls hl => ?_)
      refine lv_goto (tgt := 7) hx hb d_Model_traces_29 (by decide) ?_
      exact ihk_240 (v_482) (f_481) _ _ _ (zI.wk (l' := 0) (h' := 503) hv_482 (by decide)) hf_481 (zm_up qv_482 hmk_240 (by decide)) hP hD hS (lv_sub hl [0, 1] rfl)
theorem d_Model_drop_0 : decode prog_14_method_19_code 0 = .ok (.aload_n 0, 1) := by decide +kernel
theorem d_Model_drop_1 : decode prog_14_method_19_code 1 = .ok (.iconst 0, 1) := by decide +kernel
theorem d_Model_drop_2 : decode prog_14_method_19_code 2 = .ok (.putfield 1, 3) := by decide +kernel
theorem d_Model_drop_5 : decode prog_14_method_19_code 5 = .ok (.aload_n 0, 1) := by decide +kernel
theorem d_Model_drop_6 : decode prog_14_method_19_code 6 = .ok (.iload_n 1, 1) := by decide +kernel
theorem d_Model_drop_7 : decode prog_14_method_19_code 7 = .ok (.invokevirtual 191, 3) := by decide +kernel
theorem d_Model_drop_10 : decode prog_14_method_19_code 10 = .ok (.ifCond .ne 6, 3) := by decide +kernel
theorem d_Model_drop_13 : decode prog_14_method_19_code 13 = .ok (.bipush (-2), 2) := by decide +kernel
theorem d_Model_drop_15 : decode prog_14_method_19_code 15 = .ok (.ireturn, 1) := by decide +kernel
theorem d_Model_drop_16 : decode prog_14_method_19_code 16 = .ok (.aload_n 0, 1) := by decide +kernel
theorem d_Model_drop_17 : decode prog_14_method_19_code 17 = .ok (.invokevirtual 188, 3) := by decide +kernel
theorem d_Model_drop_20 : decode prog_14_method_19_code 20 = .ok (.aload_n 0, 1) := by decide +kernel
theorem d_Model_drop_21 : decode prog_14_method_19_code 21 = .ok (.getfield 13, 3) := by decide +kernel
theorem d_Model_drop_24 : decode prog_14_method_19_code 24 = .ok (.iconst 0, 1) := by decide +kernel
theorem d_Model_drop_25 : decode prog_14_method_19_code 25 = .ok (.dup2, 1) := by decide +kernel
theorem d_Model_drop_26 : decode prog_14_method_19_code 26 = .ok (.iaload, 1) := by decide +kernel
theorem d_Model_drop_27 : decode prog_14_method_19_code 27 = .ok (.iconst 1, 1) := by decide +kernel
theorem d_Model_drop_28 : decode prog_14_method_19_code 28 = .ok (.isub, 1) := by decide +kernel
theorem d_Model_drop_29 : decode prog_14_method_19_code 29 = .ok (.iastore, 1) := by decide +kernel
theorem d_Model_drop_30 : decode prog_14_method_19_code 30 = .ok (.iload_n 1, 1) := by decide +kernel
theorem d_Model_drop_31 : decode prog_14_method_19_code 31 = .ok (.istore_n 2, 1) := by decide +kernel
theorem d_Model_drop_32 : decode prog_14_method_19_code 32 = .ok (.iload_n 2, 1) := by decide +kernel
theorem d_Model_drop_33 : decode prog_14_method_19_code 33 = .ok (.aload_n 0, 1) := by decide +kernel
theorem d_Model_drop_34 : decode prog_14_method_19_code 34 = .ok (.invokevirtual 134, 3) := by decide +kernel
theorem d_Model_drop_37 : decode prog_14_method_19_code 37 = .ok (.if_icmp .ge 103, 3) := by decide +kernel
theorem d_Model_drop_40 : decode prog_14_method_19_code 40 = .ok (.aload_n 0, 1) := by decide +kernel
theorem d_Model_drop_41 : decode prog_14_method_19_code 41 = .ok (.getfield 13, 3) := by decide +kernel
theorem d_Model_drop_44 : decode prog_14_method_19_code 44 = .ok (.iconst 1, 1) := by decide +kernel
theorem d_Model_drop_45 : decode prog_14_method_19_code 45 = .ok (.iload_n 2, 1) := by decide +kernel
theorem d_Model_drop_46 : decode prog_14_method_19_code 46 = .ok (.iadd, 1) := by decide +kernel
theorem d_Model_drop_47 : decode prog_14_method_19_code 47 = .ok (.aload_n 0, 1) := by decide +kernel
theorem d_Model_drop_48 : decode prog_14_method_19_code 48 = .ok (.getfield 13, 3) := by decide +kernel
theorem d_Model_drop_51 : decode prog_14_method_19_code 51 = .ok (.iconst 1, 1) := by decide +kernel
theorem d_Model_drop_52 : decode prog_14_method_19_code 52 = .ok (.iload_n 2, 1) := by decide +kernel
theorem d_Model_drop_53 : decode prog_14_method_19_code 53 = .ok (.iadd, 1) := by decide +kernel
theorem d_Model_drop_54 : decode prog_14_method_19_code 54 = .ok (.iconst 1, 1) := by decide +kernel
theorem d_Model_drop_55 : decode prog_14_method_19_code 55 = .ok (.iadd, 1) := by decide +kernel
theorem d_Model_drop_56 : decode prog_14_method_19_code 56 = .ok (.iaload, 1) := by decide +kernel
theorem d_Model_drop_57 : decode prog_14_method_19_code 57 = .ok (.iastore, 1) := by decide +kernel
theorem d_Model_drop_58 : decode prog_14_method_19_code 58 = .ok (.iconst 0, 1) := by decide +kernel
theorem d_Model_drop_59 : decode prog_14_method_19_code 59 = .ok (.istore_n 3, 1) := by decide +kernel
theorem d_Model_drop_60 : decode prog_14_method_19_code 60 = .ok (.iload_n 3, 1) := by decide +kernel
theorem d_Model_drop_61 : decode prog_14_method_19_code 61 = .ok (.bipush 12, 2) := by decide +kernel
theorem d_Model_drop_63 : decode prog_14_method_19_code 63 = .ok (.if_icmp .ge 71, 3) := by decide +kernel
theorem d_Model_drop_66 : decode prog_14_method_19_code 66 = .ok (.aload_n 0, 1) := by decide +kernel
theorem d_Model_drop_67 : decode prog_14_method_19_code 67 = .ok (.getfield 13, 3) := by decide +kernel
theorem d_Model_drop_70 : decode prog_14_method_19_code 70 = .ok (.bipush 21, 2) := by decide +kernel
theorem d_Model_drop_72 : decode prog_14_method_19_code 72 = .ok (.bipush 12, 2) := by decide +kernel
theorem d_Model_drop_74 : decode prog_14_method_19_code 74 = .ok (.iload_n 2, 1) := by decide +kernel
theorem d_Model_drop_75 : decode prog_14_method_19_code 75 = .ok (.imul, 1) := by decide +kernel
theorem d_Model_drop_76 : decode prog_14_method_19_code 76 = .ok (.iadd, 1) := by decide +kernel
theorem d_Model_drop_77 : decode prog_14_method_19_code 77 = .ok (.iload_n 3, 1) := by decide +kernel
theorem d_Model_drop_78 : decode prog_14_method_19_code 78 = .ok (.iadd, 1) := by decide +kernel
theorem d_Model_drop_79 : decode prog_14_method_19_code 79 = .ok (.aload_n 0, 1) := by decide +kernel
theorem d_Model_drop_80 : decode prog_14_method_19_code 80 = .ok (.getfield 13, 3) := by decide +kernel
theorem d_Model_drop_83 : decode prog_14_method_19_code 83 = .ok (.bipush 21, 2) := by decide +kernel
theorem d_Model_drop_85 : decode prog_14_method_19_code 85 = .ok (.bipush 12, 2) := by decide +kernel
theorem d_Model_drop_87 : decode prog_14_method_19_code 87 = .ok (.iload_n 2, 1) := by decide +kernel
theorem d_Model_drop_88 : decode prog_14_method_19_code 88 = .ok (.iconst 1, 1) := by decide +kernel
theorem d_Model_drop_89 : decode prog_14_method_19_code 89 = .ok (.iadd, 1) := by decide +kernel
theorem d_Model_drop_90 : decode prog_14_method_19_code 90 = .ok (.imul, 1) := by decide +kernel
theorem d_Model_drop_91 : decode prog_14_method_19_code 91 = .ok (.iadd, 1) := by decide +kernel
theorem d_Model_drop_92 : decode prog_14_method_19_code 92 = .ok (.iload_n 3, 1) := by decide +kernel
theorem d_Model_drop_93 : decode prog_14_method_19_code 93 = .ok (.iadd, 1) := by decide +kernel
theorem d_Model_drop_94 : decode prog_14_method_19_code 94 = .ok (.iaload, 1) := by decide +kernel
theorem d_Model_drop_95 : decode prog_14_method_19_code 95 = .ok (.iastore, 1) := by decide +kernel
theorem d_Model_drop_96 : decode prog_14_method_19_code 96 = .ok (.aload_n 0, 1) := by decide +kernel
theorem d_Model_drop_97 : decode prog_14_method_19_code 97 = .ok (.getfield 13, 3) := by decide +kernel
theorem d_Model_drop_100 : decode prog_14_method_19_code 100 = .ok (.sipush 261, 3) := by decide +kernel
theorem d_Model_drop_103 : decode prog_14_method_19_code 103 = .ok (.bipush 12, 2) := by decide +kernel
theorem d_Model_drop_105 : decode prog_14_method_19_code 105 = .ok (.iload_n 2, 1) := by decide +kernel
theorem d_Model_drop_106 : decode prog_14_method_19_code 106 = .ok (.imul, 1) := by decide +kernel
theorem d_Model_drop_107 : decode prog_14_method_19_code 107 = .ok (.iadd, 1) := by decide +kernel
theorem d_Model_drop_108 : decode prog_14_method_19_code 108 = .ok (.iload_n 3, 1) := by decide +kernel
theorem d_Model_drop_109 : decode prog_14_method_19_code 109 = .ok (.iadd, 1) := by decide +kernel
theorem d_Model_drop_110 : decode prog_14_method_19_code 110 = .ok (.aload_n 0, 1) := by decide +kernel
theorem d_Model_drop_111 : decode prog_14_method_19_code 111 = .ok (.getfield 13, 3) := by decide +kernel
theorem d_Model_drop_114 : decode prog_14_method_19_code 114 = .ok (.sipush 261, 3) := by decide +kernel
theorem d_Model_drop_117 : decode prog_14_method_19_code 117 = .ok (.bipush 12, 2) := by decide +kernel
theorem d_Model_drop_119 : decode prog_14_method_19_code 119 = .ok (.iload_n 2, 1) := by decide +kernel
theorem d_Model_drop_120 : decode prog_14_method_19_code 120 = .ok (.iconst 1, 1) := by decide +kernel
theorem d_Model_drop_121 : decode prog_14_method_19_code 121 = .ok (.iadd, 1) := by decide +kernel
theorem d_Model_drop_122 : decode prog_14_method_19_code 122 = .ok (.imul, 1) := by decide +kernel
theorem d_Model_drop_123 : decode prog_14_method_19_code 123 = .ok (.iadd, 1) := by decide +kernel
theorem d_Model_drop_124 : decode prog_14_method_19_code 124 = .ok (.iload_n 3, 1) := by decide +kernel
theorem d_Model_drop_125 : decode prog_14_method_19_code 125 = .ok (.iadd, 1) := by decide +kernel
theorem d_Model_drop_126 : decode prog_14_method_19_code 126 = .ok (.iaload, 1) := by decide +kernel
theorem d_Model_drop_127 : decode prog_14_method_19_code 127 = .ok (.iastore, 1) := by decide +kernel
theorem d_Model_drop_128 : decode prog_14_method_19_code 128 = .ok (.iinc 3 1, 3) := by decide +kernel
theorem d_Model_drop_131 : decode prog_14_method_19_code 131 = .ok (.goto (-71), 3) := by decide +kernel
theorem d_Model_drop_134 : decode prog_14_method_19_code 134 = .ok (.iinc 2 1, 3) := by decide +kernel
theorem d_Model_drop_137 : decode prog_14_method_19_code 137 = .ok (.goto (-105), 3) := by decide +kernel
theorem d_Model_drop_140 : decode prog_14_method_19_code 140 = .ok (.aload_n 0, 1) := by decide +kernel
theorem d_Model_drop_141 : decode prog_14_method_19_code 141 = .ok (.invokevirtual 134, 3) := by decide +kernel
theorem d_Model_drop_144 : decode prog_14_method_19_code 144 = .ok (.ireturn, 1) := by decide +kernel
abbrev m_s1_Model_drop : Room := { frames := 2, cells := 0, slots := 0, locals := 46 }
set_option maxHeartbeats 4000000 in
set_option maxRecDepth 100000 in
theorem s1_Model_drop (l : Launch) (G : zG) (b0 : Nat) (b1 : Int32) (b2 : Int32) (b3 : Nat) (b4 : Nat) (b5 : Nat) (b6 : Nat) (b7 : Int32) (b8 : Nat) (b9 : Int32) (b10 : Int32) (b11 : Int32) (b12 : Int32) (b13 : Nat) (b14 : Nat) (b15 : Nat) (b16 : Int32) (b17 : Nat) (b18 : Nat) (b19 : Nat) (b20 : Nat) (b21 : Nat) (b22 : Nat) (b23 : Nat) (b24 : Nat) (b25 : Nat) (b26 : Nat) (b27 : Nat) (b28 : Nat) (b29 : Int32) (b30 : Nat) (b31 : Nat) (b32 : Int32) (b33 : Int32) (b34 : Int32) (b35 : Int32) (b36 : Nat) (b37 : Nat) (b38 : Nat) (b39 : Nat) (b40 : Nat) (b41 : Nat) (b42 : Nat) (b43 : Int32) (b44 : Nat) (b45 : Nat) (b46 : Int32) (b47 : Nat) (b48 : Nat) (b49 : Nat) (b50 : Nat) (b51 : Nat) (b52 : Int32) (b53 : Nat) (b54 : Nat) (b55 : Nat) (b56 : Nat → Int32) (b57 : Nat → Int32) (hb7 : zI b7 0 8) (hb9 : zI b9 0 240) (hb10 : zI b10 0 240) (hb12 : zI b12 0 1) (hb16 : zI b16 0 12) (hb29 : zI b29 0 1) (hb32 : zI b32 0 1) (hb43 : zI b43 0 1000) (hb46 : zI b46 0 1000) (hb52 : zI b52 0 400) (hb56 : zW5 b56) (hb57 : zW5 b57) : zM l G y_Model_drop prog_14_method_19_code 4 (Option.some Jvm.ClassFile.FieldType.int) m_s1_Model_drop [.ref b0, .int b1] [(b0, .inr (12, [.int b2, .ref b3, .ref b4, .ref b5, .ref b6, .int b7, .ref b8, .int b9, .int b10, .int b11, .int b12, .ref b13, .ref b14, .ref b15, .int b16, .ref b17, .ref b18, .ref b19, .ref b20, .ref b21, .ref b22, .ref b23, .ref b24, .ref b25, .ref b26, .ref b27, .ref b28, .int b29, .ref b30, .ref b31, .int b32, .int b33, .int b34, .int b35, .ref b36, .ref b37, .ref b38, .ref b39, .ref b40, .ref b41, .ref b42, .int b43, .ref b44, .ref b45, .int b46, .ref b47, .ref b48, .ref b49, .ref b50, .ref b51, .int b52, .ref b53, .ref b54, .ref b55])), (b3, .inl (G.2 0, 503, .inl b56)), (b6, .inl (G.2 0, 4024, .inl b57))] (fun v w => ∃ (e0 : Int32), ∃ (e1 : Int32), ∃ (e2 : Nat → Int32), ∃ (e3 : Nat → Int32), v = some (.int e0) ∧ w = [(b0, .inr (12, [.int 0, .ref b3, .ref b4, .ref b5, .ref b6, .int e1, .ref b8, .int b9, .int b10, .int b11, .int b12, .ref b13, .ref b14, .ref b15, .int b16, .ref b17, .ref b18, .ref b19, .ref b20, .ref b21, .ref b22, .ref b23, .ref b24, .ref b25, .ref b26, .ref b27, .ref b28, .int b29, .ref b30, .ref b31, .int b32, .int b33, .int b34, .int b35, .ref b36, .ref b37, .ref b38, .ref b39, .ref b40, .ref b41, .ref b42, .int b43, .ref b44, .ref b45, .int b46, .ref b47, .ref b48, .ref b49, .ref b50, .ref b51, .int b52, .ref b53, .ref b54, .ref b55])), (b3, .inl (G.2 0, 503, .inl e2)), (b6, .inl (G.2 0, 4024, .inl e3))] ∧ (zI e0 (-2) 20) ∧ (zI e1 0 8) ∧ (zW5 e2) ∧ (zW5 e3)) := by
  refine z_start (by decide +kernel) (Nat.le_of_ble_eq_true rfl) ?_
  intro p e s m below meth c A Z hr hnm hA hP hD hS ls hl
  have Z : zC p s m _ meth c prog_14_method_19_code 4 "TraceMachinesModel" G := Z
  obtain ⟨hx, hb, hml, hown, hts, hK, hN, hlocks⟩ := id Z
  have hl : lv_has ls 4 [(0, .ref b0), (1, .int b1)] := hl
  refine lv_aload_n hx hb d_Model_drop_0 rfl (lv_at hl 0 rfl) ?_
  refine lv_iconst (v := 0) hx hb d_Model_drop_1 (by decide) ?_
  refine va_put (D := G.1) (ci := 12) (v := .int 0) (ty := .int) (C := R_Model) (T := F_Model) (N := 54) hx hb hts i_Model t_Model t_Model_ok n_Model hown hK hP hD hS 0 rfl rfl 0 (by decide) (hts _ q1109) (fun _ h9 => h9) rfl (by decide +kernel) rfl rfl (Nat.le_of_ble_eq_true rfl) d_Model_drop_2 (fun H locs hP hD hS => ?_)
  have hP : va_P G.1 classes [(b0, .inr (12, [.int 0, .ref b3, .ref b4, .ref b5, .ref b6, .int b7, .ref b8, .int b9, .int b10, .int b11, .int b12, .ref b13, .ref b14, .ref b15, .int b16, .ref b17, .ref b18, .ref b19, .ref b20, .ref b21, .ref b22, .ref b23, .ref b24, .ref b25, .ref b26, .ref b27, .ref b28, .int b29, .ref b30, .ref b31, .int b32, .int b33, .int b34, .int b35, .ref b36, .ref b37, .ref b38, .ref b39, .ref b40, .ref b41, .ref b42, .int b43, .ref b44, .ref b45, .int b46, .ref b47, .ref b48, .ref b49, .ref b50, .ref b51, .int b52, .ref b53, .ref b54, .ref b55])), (b3, .inl (G.2 0, 503, .inl b56)), (b6, .inl (G.2 0, 4024, .inl b57))] H := hP
  have hD := z_tie hP hD rfl
  refine lv_aload_n hx hb d_Model_drop_5 rfl (lv_at hl 0 rfl) ?_
  refine lv_iload_n hx hb d_Model_drop_6 rfl (lv_at hl 1 rfl) ?_
  refine z_callV (index := 191) (As := [.int b1]) (rest := []) (wr := [(b6, .inl (G.2 0, 4024, .inl b57))]) Z (s1_Model_isTrace l G (b0) (b1) (0) (b3) (b4) (b5) (b6) (b7) (b8) (b9) (b10) (b11) (b12) (b13) (b14) (b15) (b16) (b17) (b18) (b19) (b20) (b21) (b22) (b23) (b24) (b25) (b26) (b27) (b28) (b29) (b30) (b31) (b32) (b33) (b34) (b35) (b36) (b37) (b38) (b39) (b40) (b41) (b42) (b43) (b44) (b45) (b46) (b47) (b48) (b49) (b50) (b51) (b52) (b53) (b54) (b55) (b56) hb7 hb9 hb10 hb12 hb16 hb29 hb32 hb43 hb46 hb52 hb56) hl.1 q1328 q1330 qs52 q14 q1331 ⟨by decide, by decide, by show _ = some 1; decide +kernel⟩ ⟨Nat.le_of_ble_eq_true rfl, Nat.le_of_ble_eq_true rfl⟩ ⟨Nat.le_of_ble_eq_true rfl, Nat.le_of_ble_eq_true rfl⟩ rfl (Nat.le_of_ble_eq_true rfl) d_Model_drop_7 hP hD hS hA 0 12 rfl rfl rfl [0, 1] [2] rfl rfl rfl rfl (by decide) (fun v w1 H locs hw_1 hP hD hS => ?_)
  obtain ⟨x_2, rfl, rfl, hx_2, hfx_3⟩ := hw_1
  have hP : va_P G.1 classes [(b6, .inl (G.2 0, 4024, .inl b57)), (b0, .inr (12, [.int 0, .ref b3, .ref b4, .ref b5, .ref b6, .int b7, .ref b8, .int b9, .int b10, .int b11, .int b12, .ref b13, .ref b14, .ref b15, .int b16, .ref b17, .ref b18, .ref b19, .ref b20, .ref b21, .ref b22, .ref b23, .ref b24, .ref b25, .ref b26, .ref b27, .ref b28, .int b29, .ref b30, .ref b31, .int b32, .int b33, .int b34, .int b35, .ref b36, .ref b37, .ref b38, .ref b39, .ref b40, .ref b41, .ref b42, .int b43, .ref b44, .ref b45, .int b46, .ref b47, .ref b48, .ref b49, .ref b50, .ref b51, .int b52, .ref b53, .ref b54, .ref b55])), (b3, .inl (G.2 0, 503, .inl b56))] H := hP
  have hD := z_tie hP hD rfl
  refine W.widen (k := 0) (n := 0) (Nat.le_of_ble_eq_true rfl) (Nat.le_of_ble_eq_true rfl) ?_
  refine lv_if_ne (tgt := 16) hx hb d_Model_drop_10 (by decide) (fun hc_4 => ?_) (fun hc_4 => ?_)
  · have _nhc_4 := hc_4
    have ni_5 : ¬ (x_2 : Int32).toInt = (0 : Int32).toInt := fun z => hc_4 ((fa_eq _ _).mpr z)
    simp only [li_0] at ni_5
    have hv_6 : zI x_2 1 1 := zI.ne_lo hx_2 zc_0 hc_4 (by decide)
    have hv_7 : zI b1 0 19 := by rcases hfx_3 with h9 | h9; exact absurd h9 (by omega); exact ⟨h9.1, by have h8 := (zW5.ld (i := 0) (v := b56 (0 : Int32).toNatClampNeg) (a := 0) (b := 20) hb56 zc_0 rfl (by decide)); omega⟩
    refine lv_aload_n hx hb d_Model_drop_16 rfl (lv_at hl 0 rfl) ?_
    refine z_callV (index := 188) (As := []) (rest := []) (wr := []) Z (s1_Model_remember l G (b0) (0) (b3) (b4) (b5) (b6) (b7) (b8) (b9) (b10) (b11) (b12) (b13) (b14) (b15) (b16) (b17) (b18) (b19) (b20) (b21) (b22) (b23) (b24) (b25) (b26) (b27) (b28) (b29) (b30) (b31) (b32) (b33) (b34) (b35) (b36) (b37) (b38) (b39) (b40) (b41) (b42) (b43) (b44) (b45) (b46) (b47) (b48) (b49) (b50) (b51) (b52) (b53) (b54) (b55) (b56) (b57) hb7 hb9 hb10 hb12 hb16 hb29 hb32 hb43 hb46 hb52 hb56 hb57) hl.1 q1316 q1318 qs50 q14 q1319 ⟨by decide, by decide, by show _ = some 0; decide +kernel⟩ ⟨Nat.le_of_ble_eq_true rfl, Nat.le_of_ble_eq_true rfl⟩ ⟨Nat.le_of_ble_eq_true rfl, Nat.le_of_ble_eq_true rfl⟩ rfl (Nat.le_of_ble_eq_true rfl) d_Model_drop_17 hP hD hS hA 1 12 rfl rfl rfl [1, 2, 0] [] rfl rfl rfl rfl (by decide) (fun v w1 H locs hw_8 hP hD hS => ?_)
    obtain ⟨x_9, f_10, rfl, rfl, hx_9, hf_10⟩ := hw_8
    have hP : va_P G.1 classes [(b0, .inr (12, [.int 0, .ref b3, .ref b4, .ref b5, .ref b6, .int x_9, .ref b8, .int b9, .int b10, .int b11, .int b12, .ref b13, .ref b14, .ref b15, .int b16, .ref b17, .ref b18, .ref b19, .ref b20, .ref b21, .ref b22, .ref b23, .ref b24, .ref b25, .ref b26, .ref b27, .ref b28, .int b29, .ref b30, .ref b31, .int b32, .int b33, .int b34, .int b35, .ref b36, .ref b37, .ref b38, .ref b39, .ref b40, .ref b41, .ref b42, .int b43, .ref b44, .ref b45, .int b46, .ref b47, .ref b48, .ref b49, .ref b50, .ref b51, .int b52, .ref b53, .ref b54, .ref b55])), (b3, .inl (G.2 0, 503, .inl b56)), (b6, .inl (G.2 0, 4024, .inl f_10))] H := hP
    have hD := z_tie hP hD rfl
    refine W.widen (k := 0) (n := 0) (Nat.le_of_ble_eq_true rfl) (Nat.le_of_ble_eq_true rfl) ?_
    refine lv_aload_n hx hb d_Model_drop_20 rfl (lv_at hl 0 rfl) ?_
    refine va_get (D := G.1) (ci := 12) (v := .ref b3) (C := R_Model) (T := F_Model) (N := 54) hx hb hts i_Model hown hK hP 0 rfl rfl 1 (by decide) (hts _ q1110) (fun _ h9 => h9) rfl d_Model_drop_21 ?_
    refine lv_iconst (v := 0) hx hb d_Model_drop_24 (by decide) ?_
    refine lv_dup2_11 hx hb d_Model_drop_25 rfl rfl ?_
    refine va_iald hx hb hK hP 1 0 rfl rfl (i := 0) (z_in rfl) d_Model_drop_26 ?_
    refine lv_topi (fun v_11 ev_11 => ?_)
    have hv_11 : zI v_11 0 20 := zW5.ld hb56 zc_0 ev_11 (by decide)
    have hv_12 : zI v_11 1 20 := ⟨by rcases hfx_3 with h9 | h9; exact absurd h9 (by omega); rw [← ev_11] at h9; omega, hv_11.2⟩
    refine lv_iconst (v := 1) hx hb d_Model_drop_27 (by decide) ?_
    refine lv_isub hx hb d_Model_drop_28 ?_
    refine lv_topi (fun v_13 ev_13 => ?_)
    obtain ⟨qv_13, hv_13⟩ := zI_sub (l := 0) (h := 19) hv_12 zc_1 ev_13 (by decide)
    rw [li_1] at qv_13
    refine va_iast hx hb hK hP hD hS 1 0 rfl rfl (i := 0) (z_in rfl) d_Model_drop_29 (fun H locs hP hD hS => ?_)
    obtain ⟨f_14, hf_14, gf_14, uf_14, hP, hD⟩ := z_newfw 1 hP hD rfl hb56 (zRk_v zc_0 hv_13 (by decide))
    have hP : va_P G.1 classes [(b0, .inr (12, [.int 0, .ref b3, .ref b4, .ref b5, .ref b6, .int x_9, .ref b8, .int b9, .int b10, .int b11, .int b12, .ref b13, .ref b14, .ref b15, .int b16, .ref b17, .ref b18, .ref b19, .ref b20, .ref b21, .ref b22, .ref b23, .ref b24, .ref b25, .ref b26, .ref b27, .ref b28, .int b29, .ref b30, .ref b31, .int b32, .int b33, .int b34, .int b35, .ref b36, .ref b37, .ref b38, .ref b39, .ref b40, .ref b41, .ref b42, .int b43, .ref b44, .ref b45, .int b46, .ref b47, .ref b48, .ref b49, .ref b50, .ref b51, .int b52, .ref b53, .ref b54, .ref b55])), (b3, .inl (G.2 0, 503, .inl f_14)), (b6, .inl (G.2 0, 4024, .inl f_10))] H := hP
    have hD := z_tie hP hD rfl
    refine lv_iload_n hx hb d_Model_drop_30 rfl (lv_at hl 1 rfl) ?_
    refine lv_istore_n (lv' := [(2, .int b1), (0, .ref b0), (1, .int b1)]) hx hb d_Model_drop_31 rfl hl (by decide) rfl (fun ls hl => ?_)
    suffices key : ∀ (k_88 : Nat) (y_89 : Int32) (y_90 : Nat → Int32) (H : Heap) (locs : List Loc) (ls : Array Slot), (zI y_89 0 19) → (zW5 y_90) → ((y_90 (0 : Int32).toNatClampNeg).toInt ≤ 19) → (19 : Int) - y_89.toInt < (k_88 : Int) → va_P G.1 classes [(b0, .inr (12, [.int 0, .ref b3, .ref b4, .ref b5, .ref b6, .int x_9, .ref b8, .int b9, .int b10, .int b11, .int b12, .ref b13, .ref b14, .ref b15, .int b16, .ref b17, .ref b18, .ref b19, .ref b20, .ref b21, .ref b22, .ref b23, .ref b24, .ref b25, .ref b26, .ref b27, .ref b28, .int b29, .ref b30, .ref b31, .int b32, .int b33, .int b34, .int b35, .ref b36, .ref b37, .ref b38, .ref b39, .ref b40, .ref b41, .ref b42, .int b43, .ref b44, .ref b45, .int b46, .ref b47, .ref b48, .ref b49, .ref b50, .ref b51, .int b52, .ref b53, .ref b54, .ref b55])), (b3, .inl (G.2 0, 503, .inl y_90)), (b6, .inl (G.2 0, 4024, .inl f_10))] H → va_D A [(b0, .inr (12, [.int 0, .ref b3, .ref b4, .ref b5, .ref b6, .int x_9, .ref b8, .int b9, .int b10, .int b11, .int b12, .ref b13, .ref b14, .ref b15, .int b16, .ref b17, .ref b18, .ref b19, .ref b20, .ref b21, .ref b22, .ref b23, .ref b24, .ref b25, .ref b26, .ref b27, .ref b28, .int b29, .ref b30, .ref b31, .int b32, .int b33, .int b34, .int b35, .ref b36, .ref b37, .ref b38, .ref b39, .ref b40, .ref b41, .ref b42, .int b43, .ref b44, .ref b45, .int b46, .ref b47, .ref b48, .ref b49, .ref b50, .ref b51, .int b52, .ref b53, .ref b54, .ref b55])), (b3, .inl (G.2 0, 503, .inl y_90)), (b6, .inl (G.2 0, 4024, .inl f_10))] → va_S A s.heap H locs → lv_has ls 4 [(2, .int y_89), (0, .ref b0), (1, .int b1)] → W p l e m_s1_Model_drop s m ([.ref b0, .int b1] : List Value).toArray below meth c H locs 0 0 (MQ below (zQ G (fun v w => ∃ (e0 : Int32), ∃ (e1 : Int32), ∃ (e2 : Nat → Int32), ∃ (e3 : Nat → Int32), v = some (.int e0) ∧ w = [(b0, .inr (12, [.int 0, .ref b3, .ref b4, .ref b5, .ref b6, .int e1, .ref b8, .int b9, .int b10, .int b11, .int b12, .ref b13, .ref b14, .ref b15, .int b16, .ref b17, .ref b18, .ref b19, .ref b20, .ref b21, .ref b22, .ref b23, .ref b24, .ref b25, .ref b26, .ref b27, .ref b28, .int b29, .ref b30, .ref b31, .int b32, .int b33, .int b34, .int b35, .ref b36, .ref b37, .ref b38, .ref b39, .ref b40, .ref b41, .ref b42, .int b43, .ref b44, .ref b45, .int b46, .ref b47, .ref b48, .ref b49, .ref b50, .ref b51, .int b52, .ref b53, .ref b54, .ref b55])), (b3, .inl (G.2 0, 503, .inl e2)), (b6, .inl (G.2 0, 4024, .inl e3))] ∧ (zI e0 (-2) 20) ∧ (zI e1 0 8) ∧ (zW5 e2) ∧ (zW5 e3)) A) ([.ref b0, .int b1] : List Value).toArray s m_s1_Model_drop.cells m_s1_Model_drop.slots A) (F0 m 32 ls []) by
      exact key 20 (b1) (f_14) _ _ _ hv_7 hf_14 (by rw [gf_14]; omega) (zm_upi hv_7 (by decide)) hP hD hS (lv_sub hl [0, 1, 2] rfl)
    intro k_88
    induction k_88 with
    | zero =>
      intro y_89 y_90 H locs ls hy_89 hy_90 hli_91 hmk_88 hP hD hS hl
      exact (zm_up0 hy_89 hmk_88).elim
    | succ k_88 ihk_88 =>
      intro y_89 y_90 H locs ls hy_89 hy_90 hli_91 hmk_88 hP hD hS hl
      refine lv_iload_n hx hb d_Model_drop_32 rfl (lv_at hl 0 rfl) ?_
      refine lv_aload_n hx hb d_Model_drop_33 rfl (lv_at hl 1 rfl) ?_
      refine z_callV (index := 134) (As := []) (rest := [.int y_89]) (wr := [(b6, .inl (G.2 0, 4024, .inl f_10))]) Z (s1_Model_many l G (b0) (0) (b3) (b4) (b5) (b6) (x_9) (b8) (b9) (b10) (b11) (b12) (b13) (b14) (b15) (b16) (b17) (b18) (b19) (b20) (b21) (b22) (b23) (b24) (b25) (b26) (b27) (b28) (b29) (b30) (b31) (b32) (b33) (b34) (b35) (b36) (b37) (b38) (b39) (b40) (b41) (b42) (b43) (b44) (b45) (b46) (b47) (b48) (b49) (b50) (b51) (b52) (b53) (b54) (b55) (y_90) hx_9 hb9 hb10 hb12 hb16 hb29 hb32 hb43 hb46 hb52 hy_90) hl.1 q1320 q1322 qs51 q14 q1323 ⟨by decide, by decide, by show _ = some 0; decide +kernel⟩ ⟨Nat.le_of_ble_eq_true rfl, Nat.le_of_ble_eq_true rfl⟩ ⟨Nat.le_of_ble_eq_true rfl, Nat.le_of_ble_eq_true rfl⟩ rfl (Nat.le_of_ble_eq_true rfl) d_Model_drop_34 hP hD hS hA 0 12 rfl rfl rfl [0, 1] [2] rfl rfl rfl rfl (by decide) (fun v w1 H locs hw_92 hP hD hS => ?_)
      obtain ⟨x_93, rfl, rfl, hx_93, hfx_94⟩ := hw_92
      have hP : va_P G.1 classes [(b6, .inl (G.2 0, 4024, .inl f_10)), (b0, .inr (12, [.int 0, .ref b3, .ref b4, .ref b5, .ref b6, .int x_9, .ref b8, .int b9, .int b10, .int b11, .int b12, .ref b13, .ref b14, .ref b15, .int b16, .ref b17, .ref b18, .ref b19, .ref b20, .ref b21, .ref b22, .ref b23, .ref b24, .ref b25, .ref b26, .ref b27, .ref b28, .int b29, .ref b30, .ref b31, .int b32, .int b33, .int b34, .int b35, .ref b36, .ref b37, .ref b38, .ref b39, .ref b40, .ref b41, .ref b42, .int b43, .ref b44, .ref b45, .int b46, .ref b47, .ref b48, .ref b49, .ref b50, .ref b51, .int b52, .ref b53, .ref b54, .ref b55])), (b3, .inl (G.2 0, 503, .inl y_90))] H := hP
      have hD := z_tie hP hD rfl
      refine W.widen (k := 0) (n := 0) (Nat.le_of_ble_eq_true rfl) (Nat.le_of_ble_eq_true rfl) ?_
      have hv_95 : zI x_93 0 19 := ⟨(hx_93).1, by rw [hfx_94]; exact hli_91⟩
      refine lv_icmp_ge (tgt := 140) hx hb d_Model_drop_37 (by decide) (fun hc_96 => ?_) (fun hc_96 => ?_)
      · have _nhc_96 := hc_96
        have ni_97 := (fa_le _ _).mp hc_96
        refine lv_aload_n hx hb d_Model_drop_140 rfl (lv_at hl 1 rfl) ?_
        refine z_callV (index := 134) (As := []) (rest := []) (wr := [(b6, .inl (G.2 0, 4024, .inl f_10))]) Z (s1_Model_many l G (b0) (0) (b3) (b4) (b5) (b6) (x_9) (b8) (b9) (b10) (b11) (b12) (b13) (b14) (b15) (b16) (b17) (b18) (b19) (b20) (b21) (b22) (b23) (b24) (b25) (b26) (b27) (b28) (b29) (b30) (b31) (b32) (b33) (b34) (b35) (b36) (b37) (b38) (b39) (b40) (b41) (b42) (b43) (b44) (b45) (b46) (b47) (b48) (b49) (b50) (b51) (b52) (b53) (b54) (b55) (y_90) hx_9 hb9 hb10 hb12 hb16 hb29 hb32 hb43 hb46 hb52 hy_90) hl.1 q1320 q1322 qs51 q14 q1323 ⟨by decide, by decide, by show _ = some 0; decide +kernel⟩ ⟨Nat.le_of_ble_eq_true rfl, Nat.le_of_ble_eq_true rfl⟩ ⟨Nat.le_of_ble_eq_true rfl, Nat.le_of_ble_eq_true rfl⟩ rfl (Nat.le_of_ble_eq_true rfl) d_Model_drop_141 hP hD hS hA 1 12 rfl rfl rfl [1, 2] [0] rfl rfl rfl rfl (by decide) (fun v w1 H locs hw_98 hP hD hS => ?_)
        obtain ⟨x_99, rfl, rfl, hx_99, hfx_100⟩ := hw_98
        have hP : va_P G.1 classes [(b6, .inl (G.2 0, 4024, .inl f_10)), (b0, .inr (12, [.int 0, .ref b3, .ref b4, .ref b5, .ref b6, .int x_9, .ref b8, .int b9, .int b10, .int b11, .int b12, .ref b13, .ref b14, .ref b15, .int b16, .ref b17, .ref b18, .ref b19, .ref b20, .ref b21, .ref b22, .ref b23, .ref b24, .ref b25, .ref b26, .ref b27, .ref b28, .int b29, .ref b30, .ref b31, .int b32, .int b33, .int b34, .int b35, .ref b36, .ref b37, .ref b38, .ref b39, .ref b40, .ref b41, .ref b42, .int b43, .ref b44, .ref b45, .int b46, .ref b47, .ref b48, .ref b49, .ref b50, .ref b51, .int b52, .ref b53, .ref b54, .ref b55])), (b3, .inl (G.2 0, 503, .inl y_90))] H := hP
        have hD := z_tie hP hD rfl
        refine W.widen (k := 0) (n := 0) (Nat.le_of_ble_eq_true rfl) (Nat.le_of_ble_eq_true rfl) ?_
        exact z_iret hx hb hr hlocks (hP.sub [1, 2, 0] rfl) (hD.sub [1, 2, 0] (by decide) rfl) hS (Nat.le_of_ble_eq_true rfl) (Nat.le_of_ble_eq_true rfl) d_Model_drop_144 ⟨x_99, x_9, y_90, f_10, rfl, rfl, (zI.wk (l' := (-2)) (h' := 20) hx_99 (by decide)), hx_9, hy_90, hf_10⟩
      · have _nhc_96 := hc_96
        have ni_101 := (fa_lt _ _).mp (zi_nle hc_96)
        have hv_102 : zI y_89 0 18 := zI.lt_l hy_89 hv_95 (zi_nle hc_96) (by decide)
        have hv_103 : zI x_93 1 19 := zI.lt_r hy_89 hv_95 (zi_nle hc_96) (by decide)
        refine lv_aload_n hx hb d_Model_drop_40 rfl (lv_at hl 1 rfl) ?_
        refine va_get (D := G.1) (ci := 12) (v := .ref b3) (C := R_Model) (T := F_Model) (N := 54) hx hb hts i_Model hown hK hP 1 rfl rfl 1 (by decide) (hts _ q1110) (fun _ h9 => h9) rfl d_Model_drop_41 ?_
        refine lv_iconst (v := 1) hx hb d_Model_drop_44 (by decide) ?_
        refine lv_iload_n hx hb d_Model_drop_45 rfl (lv_at hl 0 rfl) ?_
        refine lv_iadd hx hb d_Model_drop_46 ?_
        refine lv_topi (fun v_104 ev_104 => ?_)
        obtain ⟨qv_104, hv_104⟩ := zI_add (l := 1) (h := 19) zc_1 hv_102 ev_104 (by decide)
        rw [li_1] at qv_104
        refine lv_aload_n hx hb d_Model_drop_47 rfl (lv_at hl 1 rfl) ?_
        refine va_get (D := G.1) (ci := 12) (v := .ref b3) (C := R_Model) (T := F_Model) (N := 54) hx hb hts i_Model hown hK hP 1 rfl rfl 1 (by decide) (hts _ q1110) (fun _ h9 => h9) rfl d_Model_drop_48 ?_
        refine lv_iconst (v := 1) hx hb d_Model_drop_51 (by decide) ?_
        refine lv_iload_n hx hb d_Model_drop_52 rfl (lv_at hl 0 rfl) ?_
        refine lv_iadd hx hb d_Model_drop_53 ?_
        refine lv_topi (fun v_105 ev_105 => ?_)
        obtain rfl : v_104 = v_105 := ev_104.trans ev_105.symm
        refine lv_iconst (v := 1) hx hb d_Model_drop_54 (by decide) ?_
        refine lv_iadd hx hb d_Model_drop_55 ?_
        refine lv_topi (fun v_106 ev_106 => ?_)
        obtain ⟨qv_106, hv_106⟩ := zI_add (l := 2) (h := 20) hv_104 zc_1 ev_106 (by decide)
        rw [li_1] at qv_106
        refine va_iald hx hb hK hP 2 0 rfl rfl (zI.inn hv_106 (by decide)) d_Model_drop_56 ?_
        refine lv_topi (fun v_107 ev_107 => ?_)
        have hv_107 : zI v_107 0 12 := zW5.ld hy_90 hv_106 ev_107 (by decide)
        refine va_iast hx hb hK hP hD hS 2 0 rfl rfl (zI.inn hv_104 (by decide)) d_Model_drop_57 (fun H locs hP hD hS => ?_)
        obtain ⟨f_108, hf_108, gf_108, uf_108, hP, hD⟩ := z_newfw 2 hP hD rfl hy_90 (zRk_v hv_104 hv_107 (by decide))
        have hP : va_P G.1 classes [(b6, .inl (G.2 0, 4024, .inl f_10)), (b0, .inr (12, [.int 0, .ref b3, .ref b4, .ref b5, .ref b6, .int x_9, .ref b8, .int b9, .int b10, .int b11, .int b12, .ref b13, .ref b14, .ref b15, .int b16, .ref b17, .ref b18, .ref b19, .ref b20, .ref b21, .ref b22, .ref b23, .ref b24, .ref b25, .ref b26, .ref b27, .ref b28, .int b29, .ref b30, .ref b31, .int b32, .int b33, .int b34, .int b35, .ref b36, .ref b37, .ref b38, .ref b39, .ref b40, .ref b41, .ref b42, .int b43, .ref b44, .ref b45, .int b46, .ref b47, .ref b48, .ref b49, .ref b50, .ref b51, .int b52, .ref b53, .ref b54, .ref b55])), (b3, .inl (G.2 0, 503, .inl f_108))] H := hP
        have hD := z_tie hP hD rfl
        refine lv_iconst (v := 0) hx hb d_Model_drop_58 (by decide) ?_
        refine lv_istore_n (lv' := [(3, .int 0), (2, .int y_89), (0, .ref b0), (1, .int b1)]) hx hb d_Model_drop_59 rfl hl (by decide) rfl (fun ls hl => ?_)
        suffices key : ∀ (k_136 : Nat) (y_137 : Int32) (y_138 : Nat → Int32) (H : Heap) (locs : List Loc) (ls : Array Slot), (zI y_137 0 12) → (zW5 y_138) → ((y_138 (0 : Int32).toNatClampNeg).toInt ≤ 19) → (12 : Int) - y_137.toInt < (k_136 : Int) → va_P G.1 classes [(b6, .inl (G.2 0, 4024, .inl f_10)), (b0, .inr (12, [.int 0, .ref b3, .ref b4, .ref b5, .ref b6, .int x_9, .ref b8, .int b9, .int b10, .int b11, .int b12, .ref b13, .ref b14, .ref b15, .int b16, .ref b17, .ref b18, .ref b19, .ref b20, .ref b21, .ref b22, .ref b23, .ref b24, .ref b25, .ref b26, .ref b27, .ref b28, .int b29, .ref b30, .ref b31, .int b32, .int b33, .int b34, .int b35, .ref b36, .ref b37, .ref b38, .ref b39, .ref b40, .ref b41, .ref b42, .int b43, .ref b44, .ref b45, .int b46, .ref b47, .ref b48, .ref b49, .ref b50, .ref b51, .int b52, .ref b53, .ref b54, .ref b55])), (b3, .inl (G.2 0, 503, .inl y_138))] H → va_D A [(b6, .inl (G.2 0, 4024, .inl f_10)), (b0, .inr (12, [.int 0, .ref b3, .ref b4, .ref b5, .ref b6, .int x_9, .ref b8, .int b9, .int b10, .int b11, .int b12, .ref b13, .ref b14, .ref b15, .int b16, .ref b17, .ref b18, .ref b19, .ref b20, .ref b21, .ref b22, .ref b23, .ref b24, .ref b25, .ref b26, .ref b27, .ref b28, .int b29, .ref b30, .ref b31, .int b32, .int b33, .int b34, .int b35, .ref b36, .ref b37, .ref b38, .ref b39, .ref b40, .ref b41, .ref b42, .int b43, .ref b44, .ref b45, .int b46, .ref b47, .ref b48, .ref b49, .ref b50, .ref b51, .int b52, .ref b53, .ref b54, .ref b55])), (b3, .inl (G.2 0, 503, .inl y_138))] → va_S A s.heap H locs → lv_has ls 4 [(3, .int y_137), (2, .int y_89), (0, .ref b0), (1, .int b1)] → W p l e m_s1_Model_drop s m ([.ref b0, .int b1] : List Value).toArray below meth c H locs 0 0 (MQ below (zQ G (fun v w => ∃ (e0 : Int32), ∃ (e1 : Int32), ∃ (e2 : Nat → Int32), ∃ (e3 : Nat → Int32), v = some (.int e0) ∧ w = [(b0, .inr (12, [.int 0, .ref b3, .ref b4, .ref b5, .ref b6, .int e1, .ref b8, .int b9, .int b10, .int b11, .int b12, .ref b13, .ref b14, .ref b15, .int b16, .ref b17, .ref b18, .ref b19, .ref b20, .ref b21, .ref b22, .ref b23, .ref b24, .ref b25, .ref b26, .ref b27, .ref b28, .int b29, .ref b30, .ref b31, .int b32, .int b33, .int b34, .int b35, .ref b36, .ref b37, .ref b38, .ref b39, .ref b40, .ref b41, .ref b42, .int b43, .ref b44, .ref b45, .int b46, .ref b47, .ref b48, .ref b49, .ref b50, .ref b51, .int b52, .ref b53, .ref b54, .ref b55])), (b3, .inl (G.2 0, 503, .inl e2)), (b6, .inl (G.2 0, 4024, .inl e3))] ∧ (zI e0 (-2) 20) ∧ (zI e1 0 8) ∧ (zW5 e2) ∧ (zW5 e3)) A) ([.ref b0, .int b1] : List Value).toArray s m_s1_Model_drop.cells m_s1_Model_drop.slots A) (F0 m 60 ls []) by
          exact key 13 (0) (f_108) _ _ _ (zI.wk (l' := 0) (h' := 12) zc_0 (by decide)) hf_108 (by have p0_ := z_pl zc_0 (by decide); have _l0 := li_0; have p1_ := z_pl hv_104 (by decide); rw [uf_108, z_at, if_neg (by omega)]; exact hli_91) (zm_upi (zI.wk (l' := 0) (h' := 12) zc_0 (by decide)) (by decide)) hP hD hS (lv_sub hl [0, 1, 2, 3] rfl)
        intro k_136
        induction k_136 with
        | zero =>
          intro y_137 y_138 H locs ls hy_137 hy_138 hli_139 hmk_136 hP hD hS hl
          exact (zm_up0 hy_137 hmk_136).elim
        | succ k_136 ihk_136 =>
          intro y_137 y_138 H locs ls hy_137 hy_138 hli_139 hmk_136 hP hD hS hl
          refine lv_iload_n hx hb d_Model_drop_60 rfl (lv_at hl 0 rfl) ?_
          refine lv_bipush (v := 12) hx hb d_Model_drop_61 (by decide) ?_
          refine lv_icmp_ge (tgt := 134) hx hb d_Model_drop_63 (by decide) (fun hc_140 => ?_) (fun hc_140 => ?_)
          · have _nhc_140 := hc_140
            have ni_141 := (fa_le _ _).mp hc_140
            rw [li_12] at ni_141
            have hv_142 : zI y_137 12 12 := zI.le_r zc_12 hy_137 hc_140 (by decide)
            obtain ⟨v_143, ev_143⟩ : ∃ z : Int32, z = y_89 + 1 := ⟨_, rfl⟩
            obtain ⟨qv_143, hv_143⟩ := zI_add (l := 1) (h := 19) hv_102 zc_1 ev_143 (by decide)
            rw [li_1] at qv_143
            refine lv_iinc (v := v_143) (lv' := [(2, .int v_143), (3, .int y_137), (0, .ref b0), (1, .int b1)]) hx hb d_Model_drop_134 hl (k := 1) rfl (by rw [ev_143]; rfl) (by decide) rfl (fun ls hl => ?_)
            refine lv_goto (tgt := 32) hx hb d_Model_drop_137 (by decide) ?_
            exact ihk_88 (v_143) (y_138) _ _ _ (zI.wk (l' := 0) (h' := 19) hv_143 (by decide)) hy_138 hli_139 (zm_up qv_143 hmk_88 (by decide)) (hP.sub [1, 2, 0] rfl) (hD.sub [1, 2, 0] (by decide) rfl) hS (lv_sub hl [0, 2, 3] rfl)
          · have _nhc_140 := hc_140
            have ni_144 := (fa_lt _ _).mp (zi_nle hc_140)
            rw [li_12] at ni_144
            have hv_145 : zI y_137 0 11 := zI.lt_l hy_137 zc_12 (zi_nle hc_140) (by decide)
            refine lv_aload_n hx hb d_Model_drop_66 rfl (lv_at hl 2 rfl) ?_
            refine va_get (D := G.1) (ci := 12) (v := .ref b3) (C := R_Model) (T := F_Model) (N := 54) hx hb hts i_Model hown hK hP 1 rfl rfl 1 (by decide) (hts _ q1110) (fun _ h9 => h9) rfl d_Model_drop_67 ?_
            refine lv_bipush (v := 21) hx hb d_Model_drop_70 (by decide) ?_
            refine lv_bipush (v := 12) hx hb d_Model_drop_72 (by decide) ?_
            refine lv_iload_n hx hb d_Model_drop_74 rfl (lv_at hl 1 rfl) ?_
            refine lv_imul hx hb d_Model_drop_75 ?_
            refine lv_topi (fun v_146 ev_146 => ?_)
            obtain ⟨qv_146, hv_146⟩ := zI_mul (l := 0) (h := 216) zc_12 hv_102 ev_146 (by decide)
            rw [li_12] at qv_146
            refine lv_iadd hx hb d_Model_drop_76 ?_
            refine lv_topi (fun v_147 ev_147 => ?_)
            obtain ⟨qv_147, hv_147⟩ := zI_add (l := 21) (h := 237) zc_21 hv_146 ev_147 (by decide)
            rw [li_21] at qv_147
            refine lv_iload_n hx hb d_Model_drop_77 rfl (lv_at hl 0 rfl) ?_
            refine lv_iadd hx hb d_Model_drop_78 ?_
            refine lv_topi (fun v_148 ev_148 => ?_)
            obtain ⟨qv_148, hv_148⟩ := zI_add (l := 21) (h := 248) hv_147 hv_145 ev_148 (by decide)
            refine lv_aload_n hx hb d_Model_drop_79 rfl (lv_at hl 2 rfl) ?_
            refine va_get (D := G.1) (ci := 12) (v := .ref b3) (C := R_Model) (T := F_Model) (N := 54) hx hb hts i_Model hown hK hP 1 rfl rfl 1 (by decide) (hts _ q1110) (fun _ h9 => h9) rfl d_Model_drop_80 ?_
            refine lv_bipush (v := 21) hx hb d_Model_drop_83 (by decide) ?_
            refine lv_bipush (v := 12) hx hb d_Model_drop_85 (by decide) ?_
            refine lv_iload_n hx hb d_Model_drop_87 rfl (lv_at hl 1 rfl) ?_
            refine lv_iconst (v := 1) hx hb d_Model_drop_88 (by decide) ?_
            refine lv_iadd hx hb d_Model_drop_89 ?_
            refine lv_topi (fun v_149 ev_149 => ?_)
            obtain ⟨qv_149, hv_149⟩ := zI_add (l := 1) (h := 19) hv_102 zc_1 ev_149 (by decide)
            rw [li_1] at qv_149
            refine lv_imul hx hb d_Model_drop_90 ?_
            refine lv_topi (fun v_150 ev_150 => ?_)
            obtain ⟨qv_150, hv_150⟩ := zI_mul (l := 12) (h := 228) zc_12 hv_149 ev_150 (by decide)
            rw [li_12] at qv_150
            refine lv_iadd hx hb d_Model_drop_91 ?_
            refine lv_topi (fun v_151 ev_151 => ?_)
            obtain ⟨qv_151, hv_151⟩ := zI_add (l := 33) (h := 249) zc_21 hv_150 ev_151 (by decide)
            rw [li_21] at qv_151
            refine lv_iload_n hx hb d_Model_drop_92 rfl (lv_at hl 0 rfl) ?_
            refine lv_iadd hx hb d_Model_drop_93 ?_
            refine lv_topi (fun v_152 ev_152 => ?_)
            obtain ⟨qv_152, hv_152⟩ := zI_add (l := 33) (h := 260) hv_151 hv_145 ev_152 (by decide)
            refine va_iald hx hb hK hP 2 0 rfl rfl (zI.inn hv_152 (by decide)) d_Model_drop_94 ?_
            refine lv_topi (fun v_153 ev_153 => ?_)
            have hv_153 : zI v_153 0 9 := zW5.ld hy_138 hv_152 ev_153 (by decide)
            refine va_iast hx hb hK hP hD hS 2 0 rfl rfl (zI.inn hv_148 (by decide)) d_Model_drop_95 (fun H locs hP hD hS => ?_)
            obtain ⟨f_154, hf_154, gf_154, uf_154, hP, hD⟩ := z_newfw 2 hP hD rfl hy_138 (zRk_v hv_148 hv_153 (by decide))
            have hP : va_P G.1 classes [(b6, .inl (G.2 0, 4024, .inl f_10)), (b0, .inr (12, [.int 0, .ref b3, .ref b4, .ref b5, .ref b6, .int x_9, .ref b8, .int b9, .int b10, .int b11, .int b12, .ref b13, .ref b14, .ref b15, .int b16, .ref b17, .ref b18, .ref b19, .ref b20, .ref b21, .ref b22, .ref b23, .ref b24, .ref b25, .ref b26, .ref b27, .ref b28, .int b29, .ref b30, .ref b31, .int b32, .int b33, .int b34, .int b35, .ref b36, .ref b37, .ref b38, .ref b39, .ref b40, .ref b41, .ref b42, .int b43, .ref b44, .ref b45, .int b46, .ref b47, .ref b48, .ref b49, .ref b50, .ref b51, .int b52, .ref b53, .ref b54, .ref b55])), (b3, .inl (G.2 0, 503, .inl f_154))] H := hP
            have hD := z_tie hP hD rfl
            refine lv_aload_n hx hb d_Model_drop_96 rfl (lv_at hl 2 rfl) ?_
            refine va_get (D := G.1) (ci := 12) (v := .ref b3) (C := R_Model) (T := F_Model) (N := 54) hx hb hts i_Model hown hK hP 1 rfl rfl 1 (by decide) (hts _ q1110) (fun _ h9 => h9) rfl d_Model_drop_97 ?_
            refine lv_sipush (v := 261) hx hb d_Model_drop_100 (by decide) ?_
            refine lv_bipush (v := 12) hx hb d_Model_drop_103 (by decide) ?_
            refine lv_iload_n hx hb d_Model_drop_105 rfl (lv_at hl 1 rfl) ?_
            refine lv_imul hx hb d_Model_drop_106 ?_
            refine lv_topi (fun v_155 ev_155 => ?_)
            obtain rfl : v_146 = v_155 := ev_146.trans ev_155.symm
            refine lv_iadd hx hb d_Model_drop_107 ?_
            refine lv_topi (fun v_156 ev_156 => ?_)
            obtain ⟨qv_156, hv_156⟩ := zI_add (l := 261) (h := 477) zc_261 hv_146 ev_156 (by decide)
            rw [li_261] at qv_156
            refine lv_iload_n hx hb d_Model_drop_108 rfl (lv_at hl 0 rfl) ?_
            refine lv_iadd hx hb d_Model_drop_109 ?_
            refine lv_topi (fun v_157 ev_157 => ?_)
            obtain ⟨qv_157, hv_157⟩ := zI_add (l := 261) (h := 488) hv_156 hv_145 ev_157 (by decide)
            refine lv_aload_n hx hb d_Model_drop_110 rfl (lv_at hl 2 rfl) ?_
            refine va_get (D := G.1) (ci := 12) (v := .ref b3) (C := R_Model) (T := F_Model) (N := 54) hx hb hts i_Model hown hK hP 1 rfl rfl 1 (by decide) (hts _ q1110) (fun _ h9 => h9) rfl d_Model_drop_111 ?_
            refine lv_sipush (v := 261) hx hb d_Model_drop_114 (by decide) ?_
            refine lv_bipush (v := 12) hx hb d_Model_drop_117 (by decide) ?_
            refine lv_iload_n hx hb d_Model_drop_119 rfl (lv_at hl 1 rfl) ?_
            refine lv_iconst (v := 1) hx hb d_Model_drop_120 (by decide) ?_
            refine lv_iadd hx hb d_Model_drop_121 ?_
            refine lv_topi (fun v_158 ev_158 => ?_)
            obtain rfl : v_149 = v_158 := ev_149.trans ev_158.symm
            refine lv_imul hx hb d_Model_drop_122 ?_
            refine lv_topi (fun v_159 ev_159 => ?_)
            obtain rfl : v_150 = v_159 := ev_150.trans ev_159.symm
            refine lv_iadd hx hb d_Model_drop_123 ?_
            refine lv_topi (fun v_160 ev_160 => ?_)
            obtain ⟨qv_160, hv_160⟩ := zI_add (l := 273) (h := 489) zc_261 hv_150 ev_160 (by decide)
            rw [li_261] at qv_160
            refine lv_iload_n hx hb d_Model_drop_124 rfl (lv_at hl 0 rfl) ?_
            refine lv_iadd hx hb d_Model_drop_125 ?_
            refine lv_topi (fun v_161 ev_161 => ?_)
            obtain ⟨qv_161, hv_161⟩ := zI_add (l := 273) (h := 500) hv_160 hv_145 ev_161 (by decide)
            refine va_iald hx hb hK hP 2 0 rfl rfl (zI.inn hv_161 (by decide)) d_Model_drop_126 ?_
            refine lv_topi (fun v_162 ev_162 => ?_)
            refine va_iast hx hb hK hP hD hS 2 0 rfl rfl (zI.inn hv_157 (by decide)) d_Model_drop_127 (fun H locs hP hD hS => ?_)
            obtain ⟨f_163, hf_163, gf_163, uf_163, hP, hD⟩ := z_newfw 2 hP hD rfl hf_154 (zRk_v hv_157 (zI_all v_162) (by decide))
            have hP : va_P G.1 classes [(b6, .inl (G.2 0, 4024, .inl f_10)), (b0, .inr (12, [.int 0, .ref b3, .ref b4, .ref b5, .ref b6, .int x_9, .ref b8, .int b9, .int b10, .int b11, .int b12, .ref b13, .ref b14, .ref b15, .int b16, .ref b17, .ref b18, .ref b19, .ref b20, .ref b21, .ref b22, .ref b23, .ref b24, .ref b25, .ref b26, .ref b27, .ref b28, .int b29, .ref b30, .ref b31, .int b32, .int b33, .int b34, .int b35, .ref b36, .ref b37, .ref b38, .ref b39, .ref b40, .ref b41, .ref b42, .int b43, .ref b44, .ref b45, .int b46, .ref b47, .ref b48, .ref b49, .ref b50, .ref b51, .int b52, .ref b53, .ref b54, .ref b55])), (b3, .inl (G.2 0, 503, .inl f_163))] H := hP
            have hD := z_tie hP hD rfl
            obtain ⟨v_164, ev_164⟩ : ∃ z : Int32, z = y_137 + 1 := ⟨_, rfl⟩
            obtain ⟨qv_164, hv_164⟩ := zI_add (l := 1) (h := 12) hv_145 zc_1 ev_164 (by decide)
            rw [li_1] at qv_164
            refine lv_iinc (v := v_164) (lv' := [(3, .int v_164), (2, .int y_89), (0, .ref b0), (1, .int b1)]) hx hb d_Model_drop_128 hl (k := 0) rfl (by rw [ev_164]; rfl) (by decide) rfl (fun ls hl => ?_)
            refine lv_goto (tgt := 60) hx hb d_Model_drop_131 (by decide) ?_
            exact ihk_136 (v_164) (f_163) _ _ _ (zI.wk (l' := 0) (h' := 12) hv_164 (by decide)) hf_163 (by have p0_ := z_pl zc_0 (by decide); have _l0 := li_0; have p1_ := z_pl hv_157 (by decide); have p2_ := z_pl hv_148 (by decide); rw [uf_163, z_at, if_neg (by omega)]; rw [uf_154, z_at, if_neg (by omega)]; exact hli_139) (zm_up qv_164 hmk_136 (by decide)) hP hD hS (lv_sub hl [0, 1, 2, 3] rfl)
  · have _nhc_4 := hc_4
    have ni_165 := (fa_eq _ _).mp hc_4
    rw [li_0] at ni_165
    have hv_166 : zI x_2 0 0 := zI.eq_l hx_2 zc_0 hc_4
    refine lv_bipush (v := (-2)) hx hb d_Model_drop_13 (by decide) ?_
    exact z_iret hx hb hr hlocks (hP.sub [1, 2, 0] rfl) (hD.sub [1, 2, 0] (by decide) rfl) hS (Nat.le_of_ble_eq_true rfl) (Nat.le_of_ble_eq_true rfl) d_Model_drop_15 ⟨(-2), b7, b56, b57, rfl, rfl, (zI.wk (l' := (-2)) (h' := 20) zc_m2 (by decide)), hb7, hb56, hb57⟩
