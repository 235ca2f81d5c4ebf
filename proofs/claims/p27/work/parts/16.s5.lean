theorem d_Model_newPrefix_0 : decode prog_14_method_26_code 0 = .ok (.sipush 241, 3) := by decide +kernel
theorem d_Model_newPrefix_3 : decode prog_14_method_26_code 3 = .ok (.iload_n 1, 1) := by decide +kernel
theorem d_Model_newPrefix_4 : decode prog_14_method_26_code 4 = .ok (.imul, 1) := by decide +kernel
theorem d_Model_newPrefix_5 : decode prog_14_method_26_code 5 = .ok (.aload_n 0, 1) := by decide +kernel
theorem d_Model_newPrefix_6 : decode prog_14_method_26_code 6 = .ok (.getfield 40, 3) := by decide +kernel
theorem d_Model_newPrefix_9 : decode prog_14_method_26_code 9 = .ok (.iload_n 1, 1) := by decide +kernel
theorem d_Model_newPrefix_10 : decode prog_14_method_26_code 10 = .ok (.iaload, 1) := by decide +kernel
theorem d_Model_newPrefix_11 : decode prog_14_method_26_code 11 = .ok (.iadd, 1) := by decide +kernel
theorem d_Model_newPrefix_12 : decode prog_14_method_26_code 12 = .ok (.istore_n 2, 1) := by decide +kernel
theorem d_Model_newPrefix_13 : decode prog_14_method_26_code 13 = .ok (.iconst 0, 1) := by decide +kernel
theorem d_Model_newPrefix_14 : decode prog_14_method_26_code 14 = .ok (.istore_n 3, 1) := by decide +kernel
theorem d_Model_newPrefix_15 : decode prog_14_method_26_code 15 = .ok (.iload_n 3, 1) := by decide +kernel
theorem d_Model_newPrefix_16 : decode prog_14_method_26_code 16 = .ok (.bipush 10, 2) := by decide +kernel
theorem d_Model_newPrefix_18 : decode prog_14_method_26_code 18 = .ok (.if_icmp .ge 21, 3) := by decide +kernel
theorem d_Model_newPrefix_21 : decode prog_14_method_26_code 21 = .ok (.aload_n 0, 1) := by decide +kernel
theorem d_Model_newPrefix_22 : decode prog_14_method_26_code 22 = .ok (.getfield 43, 3) := by decide +kernel
theorem d_Model_newPrefix_25 : decode prog_14_method_26_code 25 = .ok (.bipush 10, 2) := by decide +kernel
theorem d_Model_newPrefix_27 : decode prog_14_method_26_code 27 = .ok (.iload_n 2, 1) := by decide +kernel
theorem d_Model_newPrefix_28 : decode prog_14_method_26_code 28 = .ok (.imul, 1) := by decide +kernel
theorem d_Model_newPrefix_29 : decode prog_14_method_26_code 29 = .ok (.iload_n 3, 1) := by decide +kernel
theorem d_Model_newPrefix_30 : decode prog_14_method_26_code 30 = .ok (.iadd, 1) := by decide +kernel
theorem d_Model_newPrefix_31 : decode prog_14_method_26_code 31 = .ok (.iconst (-1), 1) := by decide +kernel
theorem d_Model_newPrefix_32 : decode prog_14_method_26_code 32 = .ok (.iastore, 1) := by decide +kernel
theorem d_Model_newPrefix_33 : decode prog_14_method_26_code 33 = .ok (.iinc 3 1, 3) := by decide +kernel
theorem d_Model_newPrefix_36 : decode prog_14_method_26_code 36 = .ok (.goto (-21), 3) := by decide +kernel
theorem d_Model_newPrefix_39 : decode prog_14_method_26_code 39 = .ok (.aload_n 0, 1) := by decide +kernel
theorem d_Model_newPrefix_40 : decode prog_14_method_26_code 40 = .ok (.getfield 52, 3) := by decide +kernel
theorem d_Model_newPrefix_43 : decode prog_14_method_26_code 43 = .ok (.iload_n 2, 1) := by decide +kernel
theorem d_Model_newPrefix_44 : decode prog_14_method_26_code 44 = .ok (.iconst 0, 1) := by decide +kernel
theorem d_Model_newPrefix_45 : decode prog_14_method_26_code 45 = .ok (.iastore, 1) := by decide +kernel
theorem d_Model_newPrefix_46 : decode prog_14_method_26_code 46 = .ok (.aload_n 0, 1) := by decide +kernel
theorem d_Model_newPrefix_47 : decode prog_14_method_26_code 47 = .ok (.getfield 40, 3) := by decide +kernel
theorem d_Model_newPrefix_50 : decode prog_14_method_26_code 50 = .ok (.iload_n 1, 1) := by decide +kernel
theorem d_Model_newPrefix_51 : decode prog_14_method_26_code 51 = .ok (.dup2, 1) := by decide +kernel
theorem d_Model_newPrefix_52 : decode prog_14_method_26_code 52 = .ok (.iaload, 1) := by decide +kernel
theorem d_Model_newPrefix_53 : decode prog_14_method_26_code 53 = .ok (.iconst 1, 1) := by decide +kernel
theorem d_Model_newPrefix_54 : decode prog_14_method_26_code 54 = .ok (.iadd, 1) := by decide +kernel
theorem d_Model_newPrefix_55 : decode prog_14_method_26_code 55 = .ok (.iastore, 1) := by decide +kernel
theorem d_Model_newPrefix_56 : decode prog_14_method_26_code 56 = .ok (.return_, 1) := by decide +kernel
abbrev m_s1_Model_newPrefix : Room := { frames := 0, cells := 0, slots := 0, locals := 0 }
set_option maxHeartbeats 4000000 in
set_option maxRecDepth 100000 in
theorem s1_Model_newPrefix (l : Launch) (G : zG) (b0 : Nat) (b1 : Int32) (b2 : Int32) (b3 : Nat) (b4 : Nat) (b5 : Nat) (b6 : Nat) (b7 : Int32) (b8 : Nat) (b9 : Int32) (b10 : Int32) (b11 : Int32) (b12 : Int32) (b13 : Nat) (b14 : Nat) (b15 : Nat) (b16 : Int32) (b17 : Nat) (b18 : Nat) (b19 : Nat) (b20 : Nat) (b21 : Nat) (b22 : Nat) (b23 : Nat) (b24 : Nat) (b25 : Nat) (b26 : Nat) (b27 : Nat) (b28 : Nat) (b29 : Int32) (b30 : Nat) (b31 : Nat) (b32 : Int32) (b33 : Int32) (b34 : Int32) (b35 : Int32) (b36 : Nat) (b37 : Nat) (b38 : Nat) (b39 : Nat) (b40 : Nat) (b41 : Nat) (b42 : Nat) (b43 : Int32) (b44 : Nat) (b45 : Nat) (b46 : Int32) (b47 : Nat) (b48 : Nat) (b49 : Nat) (b50 : Nat) (b51 : Nat) (b52 : Int32) (b53 : Nat) (b54 : Nat) (b55 : Nat) (b56 : Nat → Int32) (b57 : Nat → Int32) (b58 : Nat → Int32) (hb1 : zI b1 0 1) (hb7 : zI b7 0 8) (hb9 : zI b9 0 240) (hb10 : zI b10 0 240) (hb12 : zI b12 0 1) (hb16 : zI b16 0 12) (hb29 : zI b29 0 1) (hb32 : zI b32 0 1) (hb56 : zR b56 0 241) (hb57 : zR b57 (-1) 240) (hb58 : zR b58 0 20) (hnp : (b56 b1.toNatClampNeg).toInt ≤ 240) : zM l G y_Model_newPrefix prog_14_method_26_code 4 (Option.none : Option Jvm.ClassFile.FieldType) m_s1_Model_newPrefix [.ref b0, .int b1] [(b0, .inr (12, [.int b2, .ref b3, .ref b4, .ref b5, .ref b6, .int b7, .ref b8, .int b9, .int b10, .int b11, .int b12, .ref b13, .ref b14, .ref b15, .int b16, .ref b17, .ref b18, .ref b19, .ref b20, .ref b21, .ref b22, .ref b23, .ref b24, .ref b25, .ref b26, .ref b27, .ref b28, .int b29, .ref b30, .ref b31, .int b32, .int b33, .int b34, .int b35, .ref b36, .ref b37, .ref b38, .ref b39, .ref b40, .ref b41, .ref b42, .int b43, .ref b44, .ref b45, .int b46, .ref b47, .ref b48, .ref b49, .ref b50, .ref b51, .int b52, .ref b53, .ref b54, .ref b55])), (b17, .inl (G.2 0, 2, .inl b56)), (b18, .inl (G.2 0, 4820, .inl b57)), (b21, .inl (G.2 0, 482, .inl b58))] (fun v w => ∃ (e0 : Nat → Int32), ∃ (e1 : Nat → Int32), ∃ (e2 : Nat → Int32), v = none ∧ w = [(b0, .inr (12, [.int b2, .ref b3, .ref b4, .ref b5, .ref b6, .int b7, .ref b8, .int b9, .int b10, .int b11, .int b12, .ref b13, .ref b14, .ref b15, .int b16, .ref b17, .ref b18, .ref b19, .ref b20, .ref b21, .ref b22, .ref b23, .ref b24, .ref b25, .ref b26, .ref b27, .ref b28, .int b29, .ref b30, .ref b31, .int b32, .int b33, .int b34, .int b35, .ref b36, .ref b37, .ref b38, .ref b39, .ref b40, .ref b41, .ref b42, .int b43, .ref b44, .ref b45, .int b46, .ref b47, .ref b48, .ref b49, .ref b50, .ref b51, .int b52, .ref b53, .ref b54, .ref b55])), (b17, .inl (G.2 0, 2, .inl e0)), (b18, .inl (G.2 0, 4820, .inl e1)), (b21, .inl (G.2 0, 482, .inl e2))] ∧ (zR e0 0 241) ∧ (zR e1 (-1) 240) ∧ (zR e2 0 20) ∧ ((e0 b1.toNatClampNeg).toInt = (b56 b1.toNatClampNeg).toInt + 1)) := by
  refine z_start (by decide +kernel) (Nat.le_of_ble_eq_true rfl) ?_
  intro p e s m below meth c A Z hr hnm hA hP hD hS ls hl
  have Z : zC p s m _ meth c prog_14_method_26_code 4 "TraceMachinesModel" G := Z
  obtain ⟨hx, hb, hml, hown, hts, hK, hN, hlocks⟩ := id Z
  have hl : lv_has ls 4 [(0, .ref b0), (1, .int b1)] := hl
  refine lv_sipush (v := 241) hx hb d_Model_newPrefix_0 (by decide) ?_
  refine lv_iload_n hx hb d_Model_newPrefix_3 rfl (lv_at hl 1 rfl) ?_
  refine lv_imul hx hb d_Model_newPrefix_4 ?_
  refine lv_topi (fun v_1 ev_1 => ?_)
  obtain ⟨qv_1, hv_1⟩ := zI_mul (l := 0) (h := 241) zc_241 hb1 ev_1 (by decide)
  rw [li_241] at qv_1
  refine lv_aload_n hx hb d_Model_newPrefix_5 rfl (lv_at hl 0 rfl) ?_
  refine va_get (D := G.1) (ci := 12) (v := .ref b17) (C := R_Model) (T := F_Model) (N := 54) hx hb hts i_Model hown hK hP 0 rfl rfl 15 (by decide) (hts _ q1124) (fun _ h9 => h9) rfl d_Model_newPrefix_6 ?_
  refine lv_iload_n hx hb d_Model_newPrefix_9 rfl (lv_at hl 1 rfl) ?_
  refine va_iald hx hb hK hP 1 0 rfl rfl (zI.inn hb1 (by decide)) d_Model_newPrefix_10 ?_
  refine lv_topi (fun v_2 ev_2 => ?_)
  have hv_2 : zI v_2 0 241 := (hb56 _).eq ev_2
  have hv_3 : zI v_2 0 240 := ⟨hv_2.1, by rw [← ev_2] at hnp; exact hnp⟩
  refine lv_iadd hx hb d_Model_newPrefix_11 ?_
  refine lv_topi (fun v_4 ev_4 => ?_)
  obtain ⟨qv_4, hv_4⟩ := zI_add (l := 0) (h := 481) hv_1 hv_3 ev_4 (by decide)
  refine lv_istore_n (lv' := [(2, .int v_4), (0, .ref b0), (1, .int b1)]) hx hb d_Model_newPrefix_12 rfl hl (by decide) rfl (fun ls hl => ?_)
  refine lv_iconst (v := 0) hx hb d_Model_newPrefix_13 (by decide) ?_
  refine lv_istore_n (lv' := [(3, .int 0), (2, .int v_4), (0, .ref b0), (1, .int b1)]) hx hb d_Model_newPrefix_14 rfl hl (by decide) rfl (fun ls hl => ?_)
  suffices key : ∀ (k_58 : Nat) (y_59 : Int32) (y_60 : Nat → Int32) (H : Heap) (locs : List Loc) (ls : Array Slot), (zI y_59 0 10) → (zR y_60 (-1) 240) → (10 : Int) - y_59.toInt < (k_58 : Int) → va_P G.1 classes [(b0, .inr (12, [.int b2, .ref b3, .ref b4, .ref b5, .ref b6, .int b7, .ref b8, .int b9, .int b10, .int b11, .int b12, .ref b13, .ref b14, .ref b15, .int b16, .ref b17, .ref b18, .ref b19, .ref b20, .ref b21, .ref b22, .ref b23, .ref b24, .ref b25, .ref b26, .ref b27, .ref b28, .int b29, .ref b30, .ref b31, .int b32, .int b33, .int b34, .int b35, .ref b36, .ref b37, .ref b38, .ref b39, .ref b40, .ref b41, .ref b42, .int b43, .ref b44, .ref b45, .int b46, .ref b47, .ref b48, .ref b49, .ref b50, .ref b51, .int b52, .ref b53, .ref b54, .ref b55])), (b17, .inl (G.2 0, 2, .inl b56)), (b18, .inl (G.2 0, 4820, .inl y_60)), (b21, .inl (G.2 0, 482, .inl b58))] H → va_D A [(b0, .inr (12, [.int b2, .ref b3, .ref b4, .ref b5, .ref b6, .int b7, .ref b8, .int b9, .int b10, .int b11, .int b12, .ref b13, .ref b14, .ref b15, .int b16, .ref b17, .ref b18, .ref b19, .ref b20, .ref b21, .ref b22, .ref b23, .ref b24, .ref b25, .ref b26, .ref b27, .ref b28, .int b29, .ref b30, .ref b31, .int b32, .int b33, .int b34, .int b35, .ref b36, .ref b37, .ref b38, .ref b39, .ref b40, .ref b41, .ref b42, .int b43, .ref b44, .ref b45, .int b46, .ref b47, .ref b48, .ref b49, .ref b50, .ref b51, .int b52, .ref b53, .ref b54, .ref b55])), (b17, .inl (G.2 0, 2, .inl b56)), (b18, .inl (G.2 0, 4820, .inl y_60)), (b21, .inl (G.2 0, 482, .inl b58))] → va_S A s.heap H locs → lv_has ls 4 [(3, .int y_59), (2, .int v_4), (0, .ref b0), (1, .int b1)] → W p l e m_s1_Model_newPrefix s m ([.ref b0, .int b1] : List Value).toArray below meth c H locs 0 0 (MQ below (zQ G (fun v w => ∃ (e0 : Nat → Int32), ∃ (e1 : Nat → Int32), ∃ (e2 : Nat → Int32), v = none ∧ w = [(b0, .inr (12, [.int b2, .ref b3, .ref b4, .ref b5, .ref b6, .int b7, .ref b8, .int b9, .int b10, .int b11, .int b12, .ref b13, .ref b14, .ref b15, .int b16, .ref b17, .ref b18, .ref b19, .ref b20, .ref b21, .ref b22, .ref b23, .ref b24, .ref b25, .ref b26, .ref b27, .ref b28, .int b29, .ref b30, .ref b31, .int b32, .int b33, .int b34, .int b35, .ref b36, .ref b37, .ref b38, .ref b39, .ref b40, .ref b41, .ref b42, .int b43, .ref b44, .ref b45, .int b46, .ref b47, .ref b48, .ref b49, .ref b50, .ref b51, .int b52, .ref b53, .ref b54, .ref b55])), (b17, .inl (G.2 0, 2, .inl e0)), (b18, .inl (G.2 0, 4820, .inl e1)), (b21, .inl (G.2 0, 482, .inl e2))] ∧ (zR e0 0 241) ∧ (zR e1 (-1) 240) ∧ (zR e2 0 20) ∧ ((e0 b1.toNatClampNeg).toInt = (b56 b1.toNatClampNeg).toInt + 1)) A) ([.ref b0, .int b1] : List Value).toArray s m_s1_Model_newPrefix.cells m_s1_Model_newPrefix.slots A) (F0 m 15 ls []) by
    exact key 11 (0) (b57) _ _ _ (zI.wk (l' := 0) (h' := 10) zc_0 (by decide)) hb57 (zm_upi (zI.wk (l' := 0) (h' := 10) zc_0 (by decide)) (by decide)) hP hD hS (lv_sub hl [0, 1, 2, 3] rfl)
  intro k_58
  induction k_58 with
  | zero =>
    intro y_59 y_60 H locs ls hy_59 hy_60 hmk_58 hP hD hS hl
    exact (zm_up0 hy_59 hmk_58).elim
  | succ k_58 ihk_58 =>
    intro y_59 y_60 H locs ls hy_59 hy_60 hmk_58 hP hD hS hl
    refine lv_iload_n hx hb d_Model_newPrefix_15 rfl (lv_at hl 0 rfl) ?_
    refine lv_bipush (v := 10) hx hb d_Model_newPrefix_16 (by decide) ?_
    refine lv_icmp_ge (tgt := 39) hx hb d_Model_newPrefix_18 (by decide) (fun hc_61 => ?_) (fun hc_61 => ?_)
    · have _nhc_61 := hc_61
      have ni_62 := (fa_le _ _).mp hc_61
      rw [li_10] at ni_62
      have hv_63 : zI y_59 10 10 := zI.le_r zc_10 hy_59 hc_61 (by decide)
      refine lv_aload_n hx hb d_Model_newPrefix_39 rfl (lv_at hl 2 rfl) ?_
      refine va_get (D := G.1) (ci := 12) (v := .ref b21) (C := R_Model) (T := F_Model) (N := 54) hx hb hts i_Model hown hK hP 0 rfl rfl 19 (by decide) (hts _ q1128) (fun _ h9 => h9) rfl d_Model_newPrefix_40 ?_
      refine lv_iload_n hx hb d_Model_newPrefix_43 rfl (lv_at hl 1 rfl) ?_
      refine lv_iconst (v := 0) hx hb d_Model_newPrefix_44 (by decide) ?_
      refine va_iast hx hb hK hP hD hS 3 0 rfl rfl (zI.inn hv_4 (by decide)) d_Model_newPrefix_45 (fun H locs hP hD hS => ?_)
      obtain ⟨f_64, hf_64, gf_64, hP, hD⟩ := z_newfu 3 hP hD rfl hb58 (zI.wk (l' := 0) (h' := 20) zc_0 (by decide))
      have hP : va_P G.1 classes [(b0, .inr (12, [.int b2, .ref b3, .ref b4, .ref b5, .ref b6, .int b7, .ref b8, .int b9, .int b10, .int b11, .int b12, .ref b13, .ref b14, .ref b15, .int b16, .ref b17, .ref b18, .ref b19, .ref b20, .ref b21, .ref b22, .ref b23, .ref b24, .ref b25, .ref b26, .ref b27, .ref b28, .int b29, .ref b30, .ref b31, .int b32, .int b33, .int b34, .int b35, .ref b36, .ref b37, .ref b38, .ref b39, .ref b40, .ref b41, .ref b42, .int b43, .ref b44, .ref b45, .int b46, .ref b47, .ref b48, .ref b49, .ref b50, .ref b51, .int b52, .ref b53, .ref b54, .ref b55])), (b17, .inl (G.2 0, 2, .inl b56)), (b18, .inl (G.2 0, 4820, .inl y_60)), (b21, .inl (G.2 0, 482, .inl f_64))] H := hP
      have hD := z_tie hP hD rfl
      refine lv_aload_n hx hb d_Model_newPrefix_46 rfl (lv_at hl 2 rfl) ?_
      refine va_get (D := G.1) (ci := 12) (v := .ref b17) (C := R_Model) (T := F_Model) (N := 54) hx hb hts i_Model hown hK hP 0 rfl rfl 15 (by decide) (hts _ q1124) (fun _ h9 => h9) rfl d_Model_newPrefix_47 ?_
      refine lv_iload_n hx hb d_Model_newPrefix_50 rfl (lv_at hl 3 rfl) ?_
      refine lv_dup2_11 hx hb d_Model_newPrefix_51 rfl rfl ?_
      refine va_iald hx hb hK hP 1 0 rfl rfl (zI.inn hb1 (by decide)) d_Model_newPrefix_52 ?_
      refine lv_topi (fun v_65 ev_65 => ?_)
      have hv_65 : zI v_65 0 241 := (hb56 _).eq ev_65
      have hv_66 : zI v_65 0 240 := ⟨hv_65.1, by rw [← ev_65] at hnp; exact hnp⟩
      refine lv_iconst (v := 1) hx hb d_Model_newPrefix_53 (by decide) ?_
      refine lv_iadd hx hb d_Model_newPrefix_54 ?_
      refine lv_topi (fun v_67 ev_67 => ?_)
      obtain ⟨qv_67, hv_67⟩ := zI_add (l := 1) (h := 241) hv_66 zc_1 ev_67 (by decide)
      rw [li_1] at qv_67
      refine va_iast hx hb hK hP hD hS 1 0 rfl rfl (zI.inn hb1 (by decide)) d_Model_newPrefix_55 (fun H locs hP hD hS => ?_)
      obtain ⟨f_68, hf_68, gf_68, hP, hD⟩ := z_newfu 1 hP hD rfl hb56 (zI.wk (l' := 0) (h' := 241) hv_67 (by decide))
      have hP : va_P G.1 classes [(b0, .inr (12, [.int b2, .ref b3, .ref b4, .ref b5, .ref b6, .int b7, .ref b8, .int b9, .int b10, .int b11, .int b12, .ref b13, .ref b14, .ref b15, .int b16, .ref b17, .ref b18, .ref b19, .ref b20, .ref b21, .ref b22, .ref b23, .ref b24, .ref b25, .ref b26, .ref b27, .ref b28, .int b29, .ref b30, .ref b31, .int b32, .int b33, .int b34, .int b35, .ref b36, .ref b37, .ref b38, .ref b39, .ref b40, .ref b41, .ref b42, .int b43, .ref b44, .ref b45, .int b46, .ref b47, .ref b48, .ref b49, .ref b50, .ref b51, .int b52, .ref b53, .ref b54, .ref b55])), (b17, .inl (G.2 0, 2, .inl f_68)), (b18, .inl (G.2 0, 4820, .inl y_60)), (b21, .inl (G.2 0, 482, .inl f_64))] H := hP
      have hD := z_tie hP hD rfl
      exact z_vret hx hb hr hlocks hP hD hS (Nat.le_of_ble_eq_true rfl) (Nat.le_of_ble_eq_true rfl) d_Model_newPrefix_56 ⟨f_68, y_60, f_64, rfl, rfl, hf_68, hy_60, hf_64, (by rw [gf_68, qv_67, ev_65])⟩
    · have _nhc_61 := hc_61
      have ni_69 := (fa_lt _ _).mp (zi_nle hc_61)
      rw [li_10] at ni_69
      have hv_70 : zI y_59 0 9 := zI.lt_l hy_59 zc_10 (zi_nle hc_61) (by decide)
      refine lv_aload_n hx hb d_Model_newPrefix_21 rfl (lv_at hl 2 rfl) ?_
      refine va_get (D := G.1) (ci := 12) (v := .ref b18) (C := R_Model) (T := F_Model) (N := 54) hx hb hts i_Model hown hK hP 0 rfl rfl 16 (by decide) (hts _ q1125) (fun _ h9 => h9) rfl d_Model_newPrefix_22 ?_
      refine lv_bipush (v := 10) hx hb d_Model_newPrefix_25 (by decide) ?_
      refine lv_iload_n hx hb d_Model_newPrefix_27 rfl (lv_at hl 1 rfl) ?_
      refine lv_imul hx hb d_Model_newPrefix_28 ?_
      refine lv_topi (fun v_71 ev_71 => ?_)
      obtain ⟨qv_71, hv_71⟩ := zI_mul (l := 0) (h := 4810) zc_10 hv_4 ev_71 (by decide)
      rw [li_10] at qv_71
      refine lv_iload_n hx hb d_Model_newPrefix_29 rfl (lv_at hl 0 rfl) ?_
      refine lv_iadd hx hb d_Model_newPrefix_30 ?_
      refine lv_topi (fun v_72 ev_72 => ?_)
      obtain ⟨qv_72, hv_72⟩ := zI_add (l := 0) (h := 4819) hv_71 hv_70 ev_72 (by decide)
      refine lv_iconst (v := (-1)) hx hb d_Model_newPrefix_31 (by decide) ?_
      refine va_iast hx hb hK hP hD hS 2 0 rfl rfl (zI.inn hv_72 (by decide)) d_Model_newPrefix_32 (fun H locs hP hD hS => ?_)
      obtain ⟨f_73, hf_73, gf_73, hP, hD⟩ := z_newfu 2 hP hD rfl hy_60 (zI.wk (l' := (-1)) (h' := 240) zc_m1 (by decide))
      have hP : va_P G.1 classes [(b0, .inr (12, [.int b2, .ref b3, .ref b4, .ref b5, .ref b6, .int b7, .ref b8, .int b9, .int b10, .int b11, .int b12, .ref b13, .ref b14, .ref b15, .int b16, .ref b17, .ref b18, .ref b19, .ref b20, .ref b21, .ref b22, .ref b23, .ref b24, .ref b25, .ref b26, .ref b27, .ref b28, .int b29, .ref b30, .ref b31, .int b32, .int b33, .int b34, .int b35, .ref b36, .ref b37, .ref b38, .ref b39, .ref b40, .ref b41, .ref b42, .int b43, .ref b44, .ref b45, .int b46, .ref b47, .ref b48, .ref b49, .ref b50, .ref b51, .int b52, .ref b53, .ref b54, .ref b55])), (b17, .inl (G.2 0, 2, .inl b56)), (b18, .inl (G.2 0, 4820, .inl f_73)), (b21, .inl (G.2 0, 482, .inl b58))] H := hP
      have hD := z_tie hP hD rfl
      obtain ⟨v_74, ev_74⟩ : ∃ z : Int32, z = y_59 + 1 := ⟨_, rfl⟩
      obtain ⟨qv_74, hv_74⟩ := zI_add (l := 1) (h := 10) hv_70 zc_1 ev_74 (by decide)
      rw [li_1] at qv_74
      refine lv_iinc (v := v_74) (lv' := [(3, .int v_74), (2, .int v_4), (0, .ref b0), (1, .int b1)]) hx hb d_Model_newPrefix_33 hl (k := 0) rfl (by rw [ev_74]; rfl) (by decide) rfl (fun ls hl => ?_)
      refine lv_goto (tgt := 15) hx hb d_Model_newPrefix_36 (by decide) ?_
      exact ihk_58 (v_74) (f_73) _ _ _ (zI.wk (l' := 0) (h' := 10) hv_74 (by decide)) hf_73 (zm_up qv_74 hmk_58 (by decide)) hP hD hS (lv_sub hl [0, 1, 2, 3] rfl)
