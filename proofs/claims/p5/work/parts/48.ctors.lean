theorem d_Text_init_0 : decode prog_9_method_1_code 0 = .ok (.aload_n 0, 1) := by decide +kernel
theorem d_Text_init_1 : decode prog_9_method_1_code 1 = .ok (.invokespecial 3, 3) := by decide +kernel
theorem d_Text_init_4 : decode prog_9_method_1_code 4 = .ok (.aload_n 0, 1) := by decide +kernel
theorem d_Text_init_5 : decode prog_9_method_1_code 5 = .ok (.sipush 240, 3) := by decide +kernel
theorem d_Text_init_8 : decode prog_9_method_1_code 8 = .ok (.newarray .char, 2) := by decide +kernel
theorem d_Text_init_10 : decode prog_9_method_1_code 10 = .ok (.putfield 9, 3) := by decide +kernel
theorem d_Text_init_13 : decode prog_9_method_1_code 13 = .ok (.return_, 1) := by decide +kernel
abbrev m_c_Text_init : Room := { frames := 1, cells := 1, slots := 240, locals := 12 }
set_option maxHeartbeats 4000000 in
set_option maxRecDepth 100000 in
theorem c_Text_init (l : Launch) (G : zG) (h0 : Nat)  : zM l G y_Text_init prog_9_method_1_code 1 (Option.none : Option Jvm.ClassFile.FieldType) m_c_Text_init [.ref h0] [(h0, .inr (1, [.int 0, .null]))] (fun v w => (∃ (e0 : Nat), v = none ∧ w = [(h0, .inr (1, [.int 0, .ref e0])), (e0, .inl (G.2 2, 240, .inl (fun _ => 0)))])) := by
  refine z_start (by decide +kernel) (Nat.le_of_ble_eq_true rfl) ?_
  intro p e s m below meth c A Z hr hnm hA hP hD hS ls hl
  have Z : zC p s m _ meth c prog_9_method_1_code 1 "TraceMachines$Text" G := Z
  obtain ⟨hx, hb, hml, hown, hts, hK, hN, hlocks⟩ := id Z
  have hl : lv_has ls 1 [(0, .ref h0)] := hl
  refine lv_aload_n hx hb d_Text_init_0 rfl (lv_at hl 0 rfl) ?_
  refine W.objInit hx hb hown (hts _ q36) (hts _ q29) (hts _ q30) rfl (by rw [hml]; exact hl.1) rfl d_Text_init_1 (Nat.le_of_ble_eq_true rfl) (Nat.le_of_ble_eq_true rfl) ?_
  refine W.eq (g2 := F0 m 4 ls []) rfl ?_
  refine lv_aload_n hx hb d_Text_init_4 rfl (lv_at hl 0 rfl) ?_
  refine lv_sipush (v := 240) hx hb d_Text_init_5 (by decide) ?_
  refine z_newa (atype := .char) (ty := .char) (a0 := (240, .inl (fun _ => 0))) Z hP hD hS hA q45 rfl 2 rfl (fun _ h => by cases h) (fun _ => by rfl) (by decide +kernel) (N' := 240) (by decide +kernel) (by decide +kernel) (Nat.le_of_ble_eq_true rfl) (Nat.le_of_ble_eq_true rfl) d_Text_init_8 (fun q_1 H hP hD hS => ?_)
  have hP : va_P G.1 classes [(h0, .inr (1, [.int 0, .null])), (q_1, .inl (G.2 2, 240, .inl (fun _ => 0)))] H := hP
  have hD := z_tie hP hD rfl
  refine W.widen (k := 1) (n := 240) (Nat.le_of_ble_eq_true rfl) (Nat.le_of_ble_eq_true rfl) ?_
  refine va_putF (D := G.1) (ci := 1) (v := .ref q_1) (ty := .array .char) (C := R_Text) (T := F_Text) (N := 2) hx hb hts i_Text t_Text t_Text_ok n_Text hown hK hP hD hS 0 rfl rfl 1 (by decide) (hts _ q39) (fun _ h9 => h9) rfl hnm rfl (by decide +kernel) rfl rfl (Nat.le_of_ble_eq_true rfl) d_Text_init_10 (fun H locs hP hD hS => ?_)
  have hP : va_P G.1 classes [(h0, .inr (1, [.int 0, .ref q_1])), (q_1, .inl (G.2 2, 240, .inl (fun _ => 0)))] H := hP
  have hD := z_tie hP hD rfl
  exact z_vret hx hb hr hlocks hP hD hS (Nat.le_of_ble_eq_true rfl) (Nat.le_of_ble_eq_true rfl) d_Text_init_13 ⟨q_1, rfl, rfl⟩
theorem d_Traces_init_0 : decode prog_10_method_1_code 0 = .ok (.aload_n 0, 1) := by decide +kernel
theorem d_Traces_init_1 : decode prog_10_method_1_code 1 = .ok (.invokespecial 3, 3) := by decide +kernel
theorem d_Traces_init_4 : decode prog_10_method_1_code 4 = .ok (.aload_n 0, 1) := by decide +kernel
theorem d_Traces_init_5 : decode prog_10_method_1_code 5 = .ok (.iconst 1, 1) := by decide +kernel
theorem d_Traces_init_6 : decode prog_10_method_1_code 6 = .ok (.putfield 9, 3) := by decide +kernel
theorem d_Traces_init_9 : decode prog_10_method_1_code 9 = .ok (.aload_n 0, 1) := by decide +kernel
theorem d_Traces_init_10 : decode prog_10_method_1_code 10 = .ok (.bipush 20, 2) := by decide +kernel
theorem d_Traces_init_12 : decode prog_10_method_1_code 12 = .ok (.newarray .int, 2) := by decide +kernel
theorem d_Traces_init_14 : decode prog_10_method_1_code 14 = .ok (.putfield 15, 3) := by decide +kernel
theorem d_Traces_init_17 : decode prog_10_method_1_code 17 = .ok (.aload_n 0, 1) := by decide +kernel
theorem d_Traces_init_18 : decode prog_10_method_1_code 18 = .ok (.sipush 240, 3) := by decide +kernel
theorem d_Traces_init_21 : decode prog_10_method_1_code 21 = .ok (.newarray .int, 2) := by decide +kernel
theorem d_Traces_init_23 : decode prog_10_method_1_code 23 = .ok (.putfield 19, 3) := by decide +kernel
theorem d_Traces_init_26 : decode prog_10_method_1_code 26 = .ok (.aload_n 0, 1) := by decide +kernel
theorem d_Traces_init_27 : decode prog_10_method_1_code 27 = .ok (.sipush 240, 3) := by decide +kernel
theorem d_Traces_init_30 : decode prog_10_method_1_code 30 = .ok (.newarray .int, 2) := by decide +kernel
theorem d_Traces_init_32 : decode prog_10_method_1_code 32 = .ok (.putfield 22, 3) := by decide +kernel
theorem d_Traces_init_35 : decode prog_10_method_1_code 35 = .ok (.return_, 1) := by decide +kernel
abbrev m_c_Traces_init : Room := { frames := 1, cells := 3, slots := 500, locals := 12 }
set_option maxHeartbeats 4000000 in
set_option maxRecDepth 100000 in
theorem c_Traces_init (l : Launch) (G : zG) (h0 : Nat)  : zM l G y_Traces_init prog_10_method_1_code 1 (Option.none : Option Jvm.ClassFile.FieldType) m_c_Traces_init [.ref h0] [(h0, .inr (2, [.int 0, .int 0, .int 0, .null, .null, .null]))] (fun v w => (∃ (e0 : Nat), ∃ (e1 : Nat), ∃ (e2 : Nat), v = none ∧ w = [(h0, .inr (2, [.int 0, .int 1, .int 0, .ref e0, .ref e1, .ref e2])), (e0, .inl (G.2 0, 20, .inl (fun _ => 0))), (e1, .inl (G.2 0, 240, .inl (fun _ => 0))), (e2, .inl (G.2 0, 240, .inl (fun _ => 0)))])) := by
  refine z_start (by decide +kernel) (Nat.le_of_ble_eq_true rfl) ?_
  intro p e s m below meth c A Z hr hnm hA hP hD hS ls hl
  have Z : zC p s m _ meth c prog_10_method_1_code 1 "TraceMachines$Traces" G := Z
  obtain ⟨hx, hb, hml, hown, hts, hK, hN, hlocks⟩ := id Z
  have hl : lv_has ls 1 [(0, .ref h0)] := hl
  refine lv_aload_n hx hb d_Traces_init_0 rfl (lv_at hl 0 rfl) ?_
  refine W.objInit hx hb hown (hts _ q51) (hts _ q29) (hts _ q30) rfl (by rw [hml]; exact hl.1) rfl d_Traces_init_1 (Nat.le_of_ble_eq_true rfl) (Nat.le_of_ble_eq_true rfl) ?_
  refine W.eq (g2 := F0 m 4 ls []) rfl ?_
  refine lv_aload_n hx hb d_Traces_init_4 rfl (lv_at hl 0 rfl) ?_
  refine lv_iconst (v := 1) hx hb d_Traces_init_5 (by decide) ?_
  refine va_put (D := G.1) (ci := 2) (v := .int 1) (ty := .int) (C := R_Traces) (T := F_Traces) (N := 6) hx hb hts i_Traces t_Traces t_Traces_ok n_Traces hown hK hP hD hS 0 rfl rfl 1 (by decide) (hts _ q59) (fun _ h9 => h9) rfl (by decide +kernel) rfl rfl (Nat.le_of_ble_eq_true rfl) d_Traces_init_6 (fun H locs hP hD hS => ?_)
  have hP : va_P G.1 classes [(h0, .inr (2, [.int 0, .int 1, .int 0, .null, .null, .null]))] H := hP
  have hD := z_tie hP hD rfl
  refine lv_aload_n hx hb d_Traces_init_9 rfl (lv_at hl 0 rfl) ?_
  refine lv_bipush (v := 20) hx hb d_Traces_init_10 (by decide) ?_
  refine z_newa (atype := .int) (ty := .int) (a0 := (20, .inl (fun _ => 0))) Z hP hD hS hA q87 rfl 0 rfl (fun _ h => by cases h) (fun _ => by rfl) (by decide +kernel) (N' := 20) (by decide +kernel) (by decide +kernel) (Nat.le_of_ble_eq_true rfl) (Nat.le_of_ble_eq_true rfl) d_Traces_init_12 (fun q_1 H hP hD hS => ?_)
  have hP : va_P G.1 classes [(h0, .inr (2, [.int 0, .int 1, .int 0, .null, .null, .null])), (q_1, .inl (G.2 0, 20, .inl (fun _ => 0)))] H := hP
  have hD := z_tie hP hD rfl
  refine W.widen (k := 1) (n := 20) (Nat.le_of_ble_eq_true rfl) (Nat.le_of_ble_eq_true rfl) ?_
  refine va_putF (D := G.1) (ci := 2) (v := .ref q_1) (ty := .array .int) (C := R_Traces) (T := F_Traces) (N := 6) hx hb hts i_Traces t_Traces t_Traces_ok n_Traces hown hK hP hD hS 0 rfl rfl 3 (by decide) (hts _ q63) (fun _ h9 => h9) rfl hnm rfl (by decide +kernel) rfl rfl (Nat.le_of_ble_eq_true rfl) d_Traces_init_14 (fun H locs hP hD hS => ?_)
  have hP : va_P G.1 classes [(h0, .inr (2, [.int 0, .int 1, .int 0, .ref q_1, .null, .null])), (q_1, .inl (G.2 0, 20, .inl (fun _ => 0)))] H := hP
  have hD := z_tie hP hD rfl
  refine lv_aload_n hx hb d_Traces_init_17 rfl (lv_at hl 0 rfl) ?_
  refine lv_sipush (v := 240) hx hb d_Traces_init_18 (by decide) ?_
  refine z_newa (atype := .int) (ty := .int) (a0 := (240, .inl (fun _ => 0))) Z hP hD hS hA q87 rfl 0 rfl (fun _ h => by cases h) (fun _ => by rfl) (by decide +kernel) (N' := 240) (by decide +kernel) (by decide +kernel) (Nat.le_of_ble_eq_true rfl) (Nat.le_of_ble_eq_true rfl) d_Traces_init_21 (fun q_2 H hP hD hS => ?_)
  have hP : va_P G.1 classes [(h0, .inr (2, [.int 0, .int 1, .int 0, .ref q_1, .null, .null])), (q_1, .inl (G.2 0, 20, .inl (fun _ => 0))), (q_2, .inl (G.2 0, 240, .inl (fun _ => 0)))] H := hP
  have hD := z_tie hP hD rfl
  refine W.widen (k := 2) (n := 260) (Nat.le_of_ble_eq_true rfl) (Nat.le_of_ble_eq_true rfl) ?_
  refine va_putF (D := G.1) (ci := 2) (v := .ref q_2) (ty := .array .int) (C := R_Traces) (T := F_Traces) (N := 6) hx hb hts i_Traces t_Traces t_Traces_ok n_Traces hown hK hP hD hS 0 rfl rfl 4 (by decide) (hts _ q72) (fun _ h9 => h9) rfl hnm rfl (by decide +kernel) rfl rfl (Nat.le_of_ble_eq_true rfl) d_Traces_init_23 (fun H locs hP hD hS => ?_)
  have hP : va_P G.1 classes [(h0, .inr (2, [.int 0, .int 1, .int 0, .ref q_1, .ref q_2, .null])), (q_1, .inl (G.2 0, 20, .inl (fun _ => 0))), (q_2, .inl (G.2 0, 240, .inl (fun _ => 0)))] H := hP
  have hD := z_tie hP hD rfl
  refine lv_aload_n hx hb d_Traces_init_26 rfl (lv_at hl 0 rfl) ?_
  refine lv_sipush (v := 240) hx hb d_Traces_init_27 (by decide) ?_
  refine z_newa (atype := .int) (ty := .int) (a0 := (240, .inl (fun _ => 0))) Z hP hD hS hA q87 rfl 0 rfl (fun _ h => by cases h) (fun _ => by rfl) (by decide +kernel) (N' := 240) (by decide +kernel) (by decide +kernel) (Nat.le_of_ble_eq_true rfl) (Nat.le_of_ble_eq_true rfl) d_Traces_init_30 (fun q_3 H hP hD hS => ?_)
  have hP : va_P G.1 classes [(h0, .inr (2, [.int 0, .int 1, .int 0, .ref q_1, .ref q_2, .null])), (q_1, .inl (G.2 0, 20, .inl (fun _ => 0))), (q_2, .inl (G.2 0, 240, .inl (fun _ => 0))), (q_3, .inl (G.2 0, 240, .inl (fun _ => 0)))] H := hP
  have hD := z_tie hP hD rfl
  refine W.widen (k := 3) (n := 500) (Nat.le_of_ble_eq_true rfl) (Nat.le_of_ble_eq_true rfl) ?_
  refine va_putF (D := G.1) (ci := 2) (v := .ref q_3) (ty := .array .int) (C := R_Traces) (T := F_Traces) (N := 6) hx hb hts i_Traces t_Traces t_Traces_ok n_Traces hown hK hP hD hS 0 rfl rfl 5 (by decide) (hts _ q73) (fun _ h9 => h9) rfl hnm rfl (by decide +kernel) rfl rfl (Nat.le_of_ble_eq_true rfl) d_Traces_init_32 (fun H locs hP hD hS => ?_)
  have hP : va_P G.1 classes [(h0, .inr (2, [.int 0, .int 1, .int 0, .ref q_1, .ref q_2, .ref q_3])), (q_1, .inl (G.2 0, 20, .inl (fun _ => 0))), (q_2, .inl (G.2 0, 240, .inl (fun _ => 0))), (q_3, .inl (G.2 0, 240, .inl (fun _ => 0)))] H := hP
  have hD := z_tie hP hD rfl
  exact z_vret hx hb hr hlocks hP hD hS (Nat.le_of_ble_eq_true rfl) (Nat.le_of_ble_eq_true rfl) d_Traces_init_35 ⟨q_1, q_2, q_3, rfl, rfl⟩
theorem d_Tree_init_0 : decode prog_11_method_1_code 0 = .ok (.aload_n 0, 1) := by decide +kernel
theorem d_Tree_init_1 : decode prog_11_method_1_code 1 = .ok (.invokespecial 3, 3) := by decide +kernel
theorem d_Tree_init_4 : decode prog_11_method_1_code 4 = .ok (.aload_n 0, 1) := by decide +kernel
theorem d_Tree_init_5 : decode prog_11_method_1_code 5 = .ok (.sipush 241, 3) := by decide +kernel
theorem d_Tree_init_8 : decode prog_11_method_1_code 8 = .ok (.newarray .int, 2) := by decide +kernel
theorem d_Tree_init_10 : decode prog_11_method_1_code 10 = .ok (.putfield 9, 3) := by decide +kernel
theorem d_Tree_init_13 : decode prog_11_method_1_code 13 = .ok (.aload_n 0, 1) := by decide +kernel
theorem d_Tree_init_14 : decode prog_11_method_1_code 14 = .ok (.sipush 241, 3) := by decide +kernel
theorem d_Tree_init_17 : decode prog_11_method_1_code 17 = .ok (.newarray .int, 2) := by decide +kernel
theorem d_Tree_init_19 : decode prog_11_method_1_code 19 = .ok (.putfield 15, 3) := by decide +kernel
theorem d_Tree_init_22 : decode prog_11_method_1_code 22 = .ok (.aload_n 0, 1) := by decide +kernel
theorem d_Tree_init_23 : decode prog_11_method_1_code 23 = .ok (.sipush 241, 3) := by decide +kernel
theorem d_Tree_init_26 : decode prog_11_method_1_code 26 = .ok (.newarray .int, 2) := by decide +kernel
theorem d_Tree_init_28 : decode prog_11_method_1_code 28 = .ok (.putfield 18, 3) := by decide +kernel
theorem d_Tree_init_31 : decode prog_11_method_1_code 31 = .ok (.aload_n 0, 1) := by decide +kernel
theorem d_Tree_init_32 : decode prog_11_method_1_code 32 = .ok (.sipush 241, 3) := by decide +kernel
theorem d_Tree_init_35 : decode prog_11_method_1_code 35 = .ok (.newarray .int, 2) := by decide +kernel
theorem d_Tree_init_37 : decode prog_11_method_1_code 37 = .ok (.putfield 21, 3) := by decide +kernel
theorem d_Tree_init_40 : decode prog_11_method_1_code 40 = .ok (.aload_n 0, 1) := by decide +kernel
theorem d_Tree_init_41 : decode prog_11_method_1_code 41 = .ok (.sipush 241, 3) := by decide +kernel
theorem d_Tree_init_44 : decode prog_11_method_1_code 44 = .ok (.newarray .int, 2) := by decide +kernel
theorem d_Tree_init_46 : decode prog_11_method_1_code 46 = .ok (.putfield 24, 3) := by decide +kernel
theorem d_Tree_init_49 : decode prog_11_method_1_code 49 = .ok (.aload_n 0, 1) := by decide +kernel
theorem d_Tree_init_50 : decode prog_11_method_1_code 50 = .ok (.sipush 241, 3) := by decide +kernel
theorem d_Tree_init_53 : decode prog_11_method_1_code 53 = .ok (.newarray .int, 2) := by decide +kernel
theorem d_Tree_init_55 : decode prog_11_method_1_code 55 = .ok (.putfield 27, 3) := by decide +kernel
theorem d_Tree_init_58 : decode prog_11_method_1_code 58 = .ok (.aload_n 0, 1) := by decide +kernel
theorem d_Tree_init_59 : decode prog_11_method_1_code 59 = .ok (.sipush 2410, 3) := by decide +kernel
theorem d_Tree_init_62 : decode prog_11_method_1_code 62 = .ok (.newarray .int, 2) := by decide +kernel
theorem d_Tree_init_64 : decode prog_11_method_1_code 64 = .ok (.putfield 30, 3) := by decide +kernel
theorem d_Tree_init_67 : decode prog_11_method_1_code 67 = .ok (.aload_n 0, 1) := by decide +kernel
theorem d_Tree_init_68 : decode prog_11_method_1_code 68 = .ok (.sipush 260, 3) := by decide +kernel
theorem d_Tree_init_71 : decode prog_11_method_1_code 71 = .ok (.newarray .int, 2) := by decide +kernel
theorem d_Tree_init_73 : decode prog_11_method_1_code 73 = .ok (.putfield 33, 3) := by decide +kernel
theorem d_Tree_init_76 : decode prog_11_method_1_code 76 = .ok (.return_, 1) := by decide +kernel
abbrev m_c_Tree_init : Room := { frames := 1, cells := 8, slots := 4116, locals := 12 }
set_option maxHeartbeats 4000000 in
set_option maxRecDepth 100000 in
theorem c_Tree_init (l : Launch) (G : zG) (h0 : Nat)  : zM l G y_Tree_init prog_11_method_1_code 1 (Option.none : Option Jvm.ClassFile.FieldType) m_c_Tree_init [.ref h0] [(h0, .inr (3, [.int 0, .int 0, .int 0, .null, .null, .null, .null, .null, .null, .null, .null]))] (fun v w => (∃ (e0 : Nat), ∃ (e1 : Nat), ∃ (e2 : Nat), ∃ (e3 : Nat), ∃ (e4 : Nat), ∃ (e5 : Nat), ∃ (e6 : Nat), ∃ (e7 : Nat), v = none ∧ w = [(h0, .inr (3, [.int 0, .int 0, .int 0, .ref e0, .ref e1, .ref e2, .ref e3, .ref e4, .ref e5, .ref e6, .ref e7])), (e0, .inl (G.2 0, 241, .inl (fun _ => 0))), (e1, .inl (G.2 0, 241, .inl (fun _ => 0))), (e2, .inl (G.2 0, 241, .inl (fun _ => 0))), (e3, .inl (G.2 0, 241, .inl (fun _ => 0))), (e4, .inl (G.2 0, 241, .inl (fun _ => 0))), (e5, .inl (G.2 0, 241, .inl (fun _ => 0))), (e6, .inl (G.2 0, 2410, .inl (fun _ => 0))), (e7, .inl (G.2 0, 260, .inl (fun _ => 0)))])) := by
  refine z_start (by decide +kernel) (Nat.le_of_ble_eq_true rfl) ?_
  intro p e s m below meth c A Z hr hnm hA hP hD hS ls hl
  have Z : zC p s m _ meth c prog_11_method_1_code 1 "TraceMachines$Tree" G := Z
  obtain ⟨hx, hb, hml, hown, hts, hK, hN, hlocks⟩ := id Z
  have hl : lv_has ls 1 [(0, .ref h0)] := hl
  refine lv_aload_n hx hb d_Tree_init_0 rfl (lv_at hl 0 rfl) ?_
  refine W.objInit hx hb hown (hts _ q94) (hts _ q29) (hts _ q30) rfl (by rw [hml]; exact hl.1) rfl d_Tree_init_1 (Nat.le_of_ble_eq_true rfl) (Nat.le_of_ble_eq_true rfl) ?_
  refine W.eq (g2 := F0 m 4 ls []) rfl ?_
  refine lv_aload_n hx hb d_Tree_init_4 rfl (lv_at hl 0 rfl) ?_
  refine lv_sipush (v := 241) hx hb d_Tree_init_5 (by decide) ?_
  refine z_newa (atype := .int) (ty := .int) (a0 := (241, .inl (fun _ => 0))) Z hP hD hS hA q87 rfl 0 rfl (fun _ h => by cases h) (fun _ => by rfl) (by decide +kernel) (N' := 241) (by decide +kernel) (by decide +kernel) (Nat.le_of_ble_eq_true rfl) (Nat.le_of_ble_eq_true rfl) d_Tree_init_8 (fun q_1 H hP hD hS => ?_)
  have hP : va_P G.1 classes [(h0, .inr (3, [.int 0, .int 0, .int 0, .null, .null, .null, .null, .null, .null, .null, .null])), (q_1, .inl (G.2 0, 241, .inl (fun _ => 0)))] H := hP
  have hD := z_tie hP hD rfl
  refine W.widen (k := 1) (n := 241) (Nat.le_of_ble_eq_true rfl) (Nat.le_of_ble_eq_true rfl) ?_
  refine va_putF (D := G.1) (ci := 3) (v := .ref q_1) (ty := .array .int) (C := R_Tree) (T := F_Tree) (N := 11) hx hb hts i_Tree t_Tree t_Tree_ok n_Tree hown hK hP hD hS 0 rfl rfl 3 (by decide) (hts _ q103) (fun _ h9 => h9) rfl hnm rfl (by decide +kernel) rfl rfl (Nat.le_of_ble_eq_true rfl) d_Tree_init_10 (fun H locs hP hD hS => ?_)
  have hP : va_P G.1 classes [(h0, .inr (3, [.int 0, .int 0, .int 0, .ref q_1, .null, .null, .null, .null, .null, .null, .null])), (q_1, .inl (G.2 0, 241, .inl (fun _ => 0)))] H := hP
  have hD := z_tie hP hD rfl
  refine lv_aload_n hx hb d_Tree_init_13 rfl (lv_at hl 0 rfl) ?_
  refine lv_sipush (v := 241) hx hb d_Tree_init_14 (by decide) ?_
  refine z_newa (atype := .int) (ty := .int) (a0 := (241, .inl (fun _ => 0))) Z hP hD hS hA q87 rfl 0 rfl (fun _ h => by cases h) (fun _ => by rfl) (by decide +kernel) (N' := 241) (by decide +kernel) (by decide +kernel) (Nat.le_of_ble_eq_true rfl) (Nat.le_of_ble_eq_true rfl) d_Tree_init_17 (fun q_2 H hP hD hS => ?_)
  have hP : va_P G.1 classes [(h0, .inr (3, [.int 0, .int 0, .int 0, .ref q_1, .null, .null, .null, .null, .null, .null, .null])), (q_1, .inl (G.2 0, 241, .inl (fun _ => 0))), (q_2, .inl (G.2 0, 241, .inl (fun _ => 0)))] H := hP
  have hD := z_tie hP hD rfl
  refine W.widen (k := 2) (n := 482) (Nat.le_of_ble_eq_true rfl) (Nat.le_of_ble_eq_true rfl) ?_
  refine va_putF (D := G.1) (ci := 3) (v := .ref q_2) (ty := .array .int) (C := R_Tree) (T := F_Tree) (N := 11) hx hb hts i_Tree t_Tree t_Tree_ok n_Tree hown hK hP hD hS 0 rfl rfl 4 (by decide) (hts _ q105) (fun _ h9 => h9) rfl hnm rfl (by decide +kernel) rfl rfl (Nat.le_of_ble_eq_true rfl) d_Tree_init_19 (fun H locs hP hD hS => ?_)
  have hP : va_P G.1 classes [(h0, .inr (3, [.int 0, .int 0, .int 0, .ref q_1, .ref q_2, .null, .null, .null, .null, .null, .null])), (q_1, .inl (G.2 0, 241, .inl (fun _ => 0))), (q_2, .inl (G.2 0, 241, .inl (fun _ => 0)))] H := hP
  have hD := z_tie hP hD rfl
  refine lv_aload_n hx hb d_Tree_init_22 rfl (lv_at hl 0 rfl) ?_
  refine lv_sipush (v := 241) hx hb d_Tree_init_23 (by decide) ?_
  refine z_newa (atype := .int) (ty := .int) (a0 := (241, .inl (fun _ => 0))) Z hP hD hS hA q87 rfl 0 rfl (fun _ h => by cases h) (fun _ => by rfl) (by decide +kernel) (N' := 241) (by decide +kernel) (by decide +kernel) (Nat.le_of_ble_eq_true rfl) (Nat.le_of_ble_eq_true rfl) d_Tree_init_26 (fun q_3 H hP hD hS => ?_)
  have hP : va_P G.1 classes [(h0, .inr (3, [.int 0, .int 0, .int 0, .ref q_1, .ref q_2, .null, .null, .null, .null, .null, .null])), (q_1, .inl (G.2 0, 241, .inl (fun _ => 0))), (q_2, .inl (G.2 0, 241, .inl (fun _ => 0))), (q_3, .inl (G.2 0, 241, .inl (fun _ => 0)))] H := hP
  have hD := z_tie hP hD rfl
  refine W.widen (k := 3) (n := 723) (Nat.le_of_ble_eq_true rfl) (Nat.le_of_ble_eq_true rfl) ?_
  refine va_putF (D := G.1) (ci := 3) (v := .ref q_3) (ty := .array .int) (C := R_Tree) (T := F_Tree) (N := 11) hx hb hts i_Tree t_Tree t_Tree_ok n_Tree hown hK hP hD hS 0 rfl rfl 5 (by decide) (hts _ q107) (fun _ h9 => h9) rfl hnm rfl (by decide +kernel) rfl rfl (Nat.le_of_ble_eq_true rfl) d_Tree_init_28 (fun H locs hP hD hS => ?_)
  have hP : va_P G.1 classes [(h0, .inr (3, [.int 0, .int 0, .int 0, .ref q_1, .ref q_2, .ref q_3, .null, .null, .null, .null, .null])), (q_1, .inl (G.2 0, 241, .inl (fun _ => 0))), (q_2, .inl (G.2 0, 241, .inl (fun _ => 0))), (q_3, .inl (G.2 0, 241, .inl (fun _ => 0)))] H := hP
  have hD := z_tie hP hD rfl
  refine lv_aload_n hx hb d_Tree_init_31 rfl (lv_at hl 0 rfl) ?_
  refine lv_sipush (v := 241) hx hb d_Tree_init_32 (by decide) ?_
  refine z_newa (atype := .int) (ty := .int) (a0 := (241, .inl (fun _ => 0))) Z hP hD hS hA q87 rfl 0 rfl (fun _ h => by cases h) (fun _ => by rfl) (by decide +kernel) (N' := 241) (by decide +kernel) (by decide +kernel) (Nat.le_of_ble_eq_true rfl) (Nat.le_of_ble_eq_true rfl) d_Tree_init_35 (fun q_4 H hP hD hS => ?_)
  have hP : va_P G.1 classes [(h0, .inr (3, [.int 0, .int 0, .int 0, .ref q_1, .ref q_2, .ref q_3, .null, .null, .null, .null, .null])), (q_1, .inl (G.2 0, 241, .inl (fun _ => 0))), (q_2, .inl (G.2 0, 241, .inl (fun _ => 0))), (q_3, .inl (G.2 0, 241, .inl (fun _ => 0))), (q_4, .inl (G.2 0, 241, .inl (fun _ => 0)))] H := hP
  have hD := z_tie hP hD rfl
  refine W.widen (k := 4) (n := 964) (Nat.le_of_ble_eq_true rfl) (Nat.le_of_ble_eq_true rfl) ?_
  refine va_putF (D := G.1) (ci := 3) (v := .ref q_4) (ty := .array .int) (C := R_Tree) (T := F_Tree) (N := 11) hx hb hts i_Tree t_Tree t_Tree_ok n_Tree hown hK hP hD hS 0 rfl rfl 6 (by decide) (hts _ q109) (fun _ h9 => h9) rfl hnm rfl (by decide +kernel) rfl rfl (Nat.le_of_ble_eq_true rfl) d_Tree_init_37 (fun H locs hP hD hS => ?_)
  have hP : va_P G.1 classes [(h0, .inr (3, [.int 0, .int 0, .int 0, .ref q_1, .ref q_2, .ref q_3, .ref q_4, .null, .null, .null, .null])), (q_1, .inl (G.2 0, 241, .inl (fun _ => 0))), (q_2, .inl (G.2 0, 241, .inl (fun _ => 0))), (q_3, .inl (G.2 0, 241, .inl (fun _ => 0))), (q_4, .inl (G.2 0, 241, .inl (fun _ => 0)))] H := hP
  have hD := z_tie hP hD rfl
  refine lv_aload_n hx hb d_Tree_init_40 rfl (lv_at hl 0 rfl) ?_
  refine lv_sipush (v := 241) hx hb d_Tree_init_41 (by decide) ?_
  refine z_newa (atype := .int) (ty := .int) (a0 := (241, .inl (fun _ => 0))) Z hP hD hS hA q87 rfl 0 rfl (fun _ h => by cases h) (fun _ => by rfl) (by decide +kernel) (N' := 241) (by decide +kernel) (by decide +kernel) (Nat.le_of_ble_eq_true rfl) (Nat.le_of_ble_eq_true rfl) d_Tree_init_44 (fun q_5 H hP hD hS => ?_)
  have hP : va_P G.1 classes [(h0, .inr (3, [.int 0, .int 0, .int 0, .ref q_1, .ref q_2, .ref q_3, .ref q_4, .null, .null, .null, .null])), (q_1, .inl (G.2 0, 241, .inl (fun _ => 0))), (q_2, .inl (G.2 0, 241, .inl (fun _ => 0))), (q_3, .inl (G.2 0, 241, .inl (fun _ => 0))), (q_4, .inl (G.2 0, 241, .inl (fun _ => 0))), (q_5, .inl (G.2 0, 241, .inl (fun _ => 0)))] H := hP
  have hD := z_tie hP hD rfl
  refine W.widen (k := 5) (n := 1205) (Nat.le_of_ble_eq_true rfl) (Nat.le_of_ble_eq_true rfl) ?_
  refine va_putF (D := G.1) (ci := 3) (v := .ref q_5) (ty := .array .int) (C := R_Tree) (T := F_Tree) (N := 11) hx hb hts i_Tree t_Tree t_Tree_ok n_Tree hown hK hP hD hS 0 rfl rfl 7 (by decide) (hts _ q111) (fun _ h9 => h9) rfl hnm rfl (by decide +kernel) rfl rfl (Nat.le_of_ble_eq_true rfl) d_Tree_init_46 (fun H locs hP hD hS => ?_)
  have hP : va_P G.1 classes [(h0, .inr (3, [.int 0, .int 0, .int 0, .ref q_1, .ref q_2, .ref q_3, .ref q_4, .ref q_5, .null, .null, .null])), (q_1, .inl (G.2 0, 241, .inl (fun _ => 0))), (q_2, .inl (G.2 0, 241, .inl (fun _ => 0))), (q_3, .inl (G.2 0, 241, .inl (fun _ => 0))), (q_4, .inl (G.2 0, 241, .inl (fun _ => 0))), (q_5, .inl (G.2 0, 241, .inl (fun _ => 0)))] H := hP
  have hD := z_tie hP hD rfl
  refine lv_aload_n hx hb d_Tree_init_49 rfl (lv_at hl 0 rfl) ?_
  refine lv_sipush (v := 241) hx hb d_Tree_init_50 (by decide) ?_
  refine z_newa (atype := .int) (ty := .int) (a0 := (241, .inl (fun _ => 0))) Z hP hD hS hA q87 rfl 0 rfl (fun _ h => by cases h) (fun _ => by rfl) (by decide +kernel) (N' := 241) (by decide +kernel) (by decide +kernel) (Nat.le_of_ble_eq_true rfl) (Nat.le_of_ble_eq_true rfl) d_Tree_init_53 (fun q_6 H hP hD hS => ?_)
  have hP : va_P G.1 classes [(h0, .inr (3, [.int 0, .int 0, .int 0, .ref q_1, .ref q_2, .ref q_3, .ref q_4, .ref q_5, .null, .null, .null])), (q_1, .inl (G.2 0, 241, .inl (fun _ => 0))), (q_2, .inl (G.2 0, 241, .inl (fun _ => 0))), (q_3, .inl (G.2 0, 241, .inl (fun _ => 0))), (q_4, .inl (G.2 0, 241, .inl (fun _ => 0))), (q_5, .inl (G.2 0, 241, .inl (fun _ => 0))), (q_6, .inl (G.2 0, 241, .inl (fun _ => 0)))] H := hP
  have hD := z_tie hP hD rfl
  refine W.widen (k := 6) (n := 1446) (Nat.le_of_ble_eq_true rfl) (Nat.le_of_ble_eq_true rfl) ?_
  refine va_putF (D := G.1) (ci := 3) (v := .ref q_6) (ty := .array .int) (C := R_Tree) (T := F_Tree) (N := 11) hx hb hts i_Tree t_Tree t_Tree_ok n_Tree hown hK hP hD hS 0 rfl rfl 8 (by decide) (hts _ q113) (fun _ h9 => h9) rfl hnm rfl (by decide +kernel) rfl rfl (Nat.le_of_ble_eq_true rfl) d_Tree_init_55 (fun H locs hP hD hS => ?_)
  have hP : va_P G.1 classes [(h0, .inr (3, [.int 0, .int 0, .int 0, .ref q_1, .ref q_2, .ref q_3, .ref q_4, .ref q_5, .ref q_6, .null, .null])), (q_1, .inl (G.2 0, 241, .inl (fun _ => 0))), (q_2, .inl (G.2 0, 241, .inl (fun _ => 0))), (q_3, .inl (G.2 0, 241, .inl (fun _ => 0))), (q_4, .inl (G.2 0, 241, .inl (fun _ => 0))), (q_5, .inl (G.2 0, 241, .inl (fun _ => 0))), (q_6, .inl (G.2 0, 241, .inl (fun _ => 0)))] H := hP
  have hD := z_tie hP hD rfl
  refine lv_aload_n hx hb d_Tree_init_58 rfl (lv_at hl 0 rfl) ?_
  refine lv_sipush (v := 2410) hx hb d_Tree_init_59 (by decide) ?_
  refine z_newa (atype := .int) (ty := .int) (a0 := (2410, .inl (fun _ => 0))) Z hP hD hS hA q87 rfl 0 rfl (fun _ h => by cases h) (fun _ => by rfl) (by decide +kernel) (N' := 2410) (by decide +kernel) (by decide +kernel) (Nat.le_of_ble_eq_true rfl) (Nat.le_of_ble_eq_true rfl) d_Tree_init_62 (fun q_7 H hP hD hS => ?_)
  have hP : va_P G.1 classes [(h0, .inr (3, [.int 0, .int 0, .int 0, .ref q_1, .ref q_2, .ref q_3, .ref q_4, .ref q_5, .ref q_6, .null, .null])), (q_1, .inl (G.2 0, 241, .inl (fun _ => 0))), (q_2, .inl (G.2 0, 241, .inl (fun _ => 0))), (q_3, .inl (G.2 0, 241, .inl (fun _ => 0))), (q_4, .inl (G.2 0, 241, .inl (fun _ => 0))), (q_5, .inl (G.2 0, 241, .inl (fun _ => 0))), (q_6, .inl (G.2 0, 241, .inl (fun _ => 0))), (q_7, .inl (G.2 0, 2410, .inl (fun _ => 0)))] H := hP
  have hD := z_tie hP hD rfl
  refine W.widen (k := 7) (n := 3856) (Nat.le_of_ble_eq_true rfl) (Nat.le_of_ble_eq_true rfl) ?_
  refine va_putF (D := G.1) (ci := 3) (v := .ref q_7) (ty := .array .int) (C := R_Tree) (T := F_Tree) (N := 11) hx hb hts i_Tree t_Tree t_Tree_ok n_Tree hown hK hP hD hS 0 rfl rfl 9 (by decide) (hts _ q115) (fun _ h9 => h9) rfl hnm rfl (by decide +kernel) rfl rfl (Nat.le_of_ble_eq_true rfl) d_Tree_init_64 (fun H locs hP hD hS => ?_)
  have hP : va_P G.1 classes [(h0, .inr (3, [.int 0, .int 0, .int 0, .ref q_1, .ref q_2, .ref q_3, .ref q_4, .ref q_5, .ref q_6, .ref q_7, .null])), (q_1, .inl (G.2 0, 241, .inl (fun _ => 0))), (q_2, .inl (G.2 0, 241, .inl (fun _ => 0))), (q_3, .inl (G.2 0, 241, .inl (fun _ => 0))), (q_4, .inl (G.2 0, 241, .inl (fun _ => 0))), (q_5, .inl (G.2 0, 241, .inl (fun _ => 0))), (q_6, .inl (G.2 0, 241, .inl (fun _ => 0))), (q_7, .inl (G.2 0, 2410, .inl (fun _ => 0)))] H := hP
  have hD := z_tie hP hD rfl
  refine lv_aload_n hx hb d_Tree_init_67 rfl (lv_at hl 0 rfl) ?_
  refine lv_sipush (v := 260) hx hb d_Tree_init_68 (by decide) ?_
  refine z_newa (atype := .int) (ty := .int) (a0 := (260, .inl (fun _ => 0))) Z hP hD hS hA q87 rfl 0 rfl (fun _ h => by cases h) (fun _ => by rfl) (by decide +kernel) (N' := 260) (by decide +kernel) (by decide +kernel) (Nat.le_of_ble_eq_true rfl) (Nat.le_of_ble_eq_true rfl) d_Tree_init_71 (fun q_8 H hP hD hS => ?_)
  have hP : va_P G.1 classes [(h0, .inr (3, [.int 0, .int 0, .int 0, .ref q_1, .ref q_2, .ref q_3, .ref q_4, .ref q_5, .ref q_6, .ref q_7, .null])), (q_1, .inl (G.2 0, 241, .inl (fun _ => 0))), (q_2, .inl (G.2 0, 241, .inl (fun _ => 0))), (q_3, .inl (G.2 0, 241, .inl (fun _ => 0))), (q_4, .inl (G.2 0, 241, .inl (fun _ => 0))), (q_5, .inl (G.2 0, 241, .inl (fun _ => 0))), (q_6, .inl (G.2 0, 241, .inl (fun _ => 0))), (q_7, .inl (G.2 0, 2410, .inl (fun _ => 0))), (q_8, .inl (G.2 0, 260, .inl (fun _ => 0)))] H := hP
  have hD := z_tie hP hD rfl
  refine W.widen (k := 8) (n := 4116) (Nat.le_of_ble_eq_true rfl) (Nat.le_of_ble_eq_true rfl) ?_
  refine va_putF (D := G.1) (ci := 3) (v := .ref q_8) (ty := .array .int) (C := R_Tree) (T := F_Tree) (N := 11) hx hb hts i_Tree t_Tree t_Tree_ok n_Tree hown hK hP hD hS 0 rfl rfl 10 (by decide) (hts _ q116) (fun _ h9 => h9) rfl hnm rfl (by decide +kernel) rfl rfl (Nat.le_of_ble_eq_true rfl) d_Tree_init_73 (fun H locs hP hD hS => ?_)
  have hP : va_P G.1 classes [(h0, .inr (3, [.int 0, .int 0, .int 0, .ref q_1, .ref q_2, .ref q_3, .ref q_4, .ref q_5, .ref q_6, .ref q_7, .ref q_8])), (q_1, .inl (G.2 0, 241, .inl (fun _ => 0))), (q_2, .inl (G.2 0, 241, .inl (fun _ => 0))), (q_3, .inl (G.2 0, 241, .inl (fun _ => 0))), (q_4, .inl (G.2 0, 241, .inl (fun _ => 0))), (q_5, .inl (G.2 0, 241, .inl (fun _ => 0))), (q_6, .inl (G.2 0, 241, .inl (fun _ => 0))), (q_7, .inl (G.2 0, 2410, .inl (fun _ => 0))), (q_8, .inl (G.2 0, 260, .inl (fun _ => 0)))] H := hP
  have hD := z_tie hP hD rfl
  exact z_vret hx hb hr hlocks hP hD hS (Nat.le_of_ble_eq_true rfl) (Nat.le_of_ble_eq_true rfl) d_Tree_init_76 ⟨q_1, q_2, q_3, q_4, q_5, q_6, q_7, q_8, rfl, rfl⟩
theorem d_Follows_init_0 : decode prog_3_method_1_code 0 = .ok (.aload_n 0, 1) := by decide +kernel
theorem d_Follows_init_1 : decode prog_3_method_1_code 1 = .ok (.invokespecial 3, 3) := by decide +kernel
theorem d_Follows_init_4 : decode prog_3_method_1_code 4 = .ok (.aload_n 0, 1) := by decide +kernel
theorem d_Follows_init_5 : decode prog_3_method_1_code 5 = .ok (.sipush 241, 3) := by decide +kernel
theorem d_Follows_init_8 : decode prog_3_method_1_code 8 = .ok (.newarray .int, 2) := by decide +kernel
theorem d_Follows_init_10 : decode prog_3_method_1_code 10 = .ok (.putfield 9, 3) := by decide +kernel
theorem d_Follows_init_13 : decode prog_3_method_1_code 13 = .ok (.aload_n 0, 1) := by decide +kernel
theorem d_Follows_init_14 : decode prog_3_method_1_code 14 = .ok (.sipush 4820, 3) := by decide +kernel
theorem d_Follows_init_17 : decode prog_3_method_1_code 17 = .ok (.newarray .int, 2) := by decide +kernel
theorem d_Follows_init_19 : decode prog_3_method_1_code 19 = .ok (.putfield 15, 3) := by decide +kernel
theorem d_Follows_init_22 : decode prog_3_method_1_code 22 = .ok (.aload_n 0, 1) := by decide +kernel
theorem d_Follows_init_23 : decode prog_3_method_1_code 23 = .ok (.sipush 512, 3) := by decide +kernel
theorem d_Follows_init_26 : decode prog_3_method_1_code 26 = .ok (.newarray .int, 2) := by decide +kernel
theorem d_Follows_init_28 : decode prog_3_method_1_code 28 = .ok (.putfield 18, 3) := by decide +kernel
theorem d_Follows_init_31 : decode prog_3_method_1_code 31 = .ok (.return_, 1) := by decide +kernel
abbrev m_c_Follows_init : Room := { frames := 1, cells := 3, slots := 5573, locals := 12 }
set_option maxHeartbeats 4000000 in
set_option maxRecDepth 100000 in
theorem c_Follows_init (l : Launch) (G : zG) (h0 : Nat)  : zM l G y_Follows_init prog_3_method_1_code 1 (Option.none : Option Jvm.ClassFile.FieldType) m_c_Follows_init [.ref h0] [(h0, .inr (4, [.null, .null, .null]))] (fun v w => (∃ (e0 : Nat), ∃ (e1 : Nat), ∃ (e2 : Nat), v = none ∧ w = [(h0, .inr (4, [.ref e0, .ref e1, .ref e2])), (e0, .inl (G.2 0, 241, .inl (fun _ => 0))), (e1, .inl (G.2 0, 4820, .inl (fun _ => 0))), (e2, .inl (G.2 0, 512, .inl (fun _ => 0)))])) := by
  refine z_start (by decide +kernel) (Nat.le_of_ble_eq_true rfl) ?_
  intro p e s m below meth c A Z hr hnm hA hP hD hS ls hl
  have Z : zC p s m _ meth c prog_3_method_1_code 1 "TraceMachines$Follows" G := Z
  obtain ⟨hx, hb, hml, hown, hts, hK, hN, hlocks⟩ := id Z
  have hl : lv_has ls 1 [(0, .ref h0)] := hl
  refine lv_aload_n hx hb d_Follows_init_0 rfl (lv_at hl 0 rfl) ?_
  refine W.objInit hx hb hown (hts _ q145) (hts _ q29) (hts _ q30) rfl (by rw [hml]; exact hl.1) rfl d_Follows_init_1 (Nat.le_of_ble_eq_true rfl) (Nat.le_of_ble_eq_true rfl) ?_
  refine W.eq (g2 := F0 m 4 ls []) rfl ?_
  refine lv_aload_n hx hb d_Follows_init_4 rfl (lv_at hl 0 rfl) ?_
  refine lv_sipush (v := 241) hx hb d_Follows_init_5 (by decide) ?_
  refine z_newa (atype := .int) (ty := .int) (a0 := (241, .inl (fun _ => 0))) Z hP hD hS hA q87 rfl 0 rfl (fun _ h => by cases h) (fun _ => by rfl) (by decide +kernel) (N' := 241) (by decide +kernel) (by decide +kernel) (Nat.le_of_ble_eq_true rfl) (Nat.le_of_ble_eq_true rfl) d_Follows_init_8 (fun q_1 H hP hD hS => ?_)
  have hP : va_P G.1 classes [(h0, .inr (4, [.null, .null, .null])), (q_1, .inl (G.2 0, 241, .inl (fun _ => 0)))] H := hP
  have hD := z_tie hP hD rfl
  refine W.widen (k := 1) (n := 241) (Nat.le_of_ble_eq_true rfl) (Nat.le_of_ble_eq_true rfl) ?_
  refine va_putF (D := G.1) (ci := 4) (v := .ref q_1) (ty := .array .int) (C := R_Follows) (T := F_Follows) (N := 3) hx hb hts i_Follows t_Follows t_Follows_ok n_Follows hown hK hP hD hS 0 rfl rfl 0 (by decide) (hts _ q146) (fun _ h9 => h9) rfl hnm rfl (by decide +kernel) rfl rfl (Nat.le_of_ble_eq_true rfl) d_Follows_init_10 (fun H locs hP hD hS => ?_)
  have hP : va_P G.1 classes [(h0, .inr (4, [.ref q_1, .null, .null])), (q_1, .inl (G.2 0, 241, .inl (fun _ => 0)))] H := hP
  have hD := z_tie hP hD rfl
  refine lv_aload_n hx hb d_Follows_init_13 rfl (lv_at hl 0 rfl) ?_
  refine lv_sipush (v := 4820) hx hb d_Follows_init_14 (by decide) ?_
  refine z_newa (atype := .int) (ty := .int) (a0 := (4820, .inl (fun _ => 0))) Z hP hD hS hA q87 rfl 0 rfl (fun _ h => by cases h) (fun _ => by rfl) (by decide +kernel) (N' := 4820) (by decide +kernel) (by decide +kernel) (Nat.le_of_ble_eq_true rfl) (Nat.le_of_ble_eq_true rfl) d_Follows_init_17 (fun q_2 H hP hD hS => ?_)
  have hP : va_P G.1 classes [(h0, .inr (4, [.ref q_1, .null, .null])), (q_1, .inl (G.2 0, 241, .inl (fun _ => 0))), (q_2, .inl (G.2 0, 4820, .inl (fun _ => 0)))] H := hP
  have hD := z_tie hP hD rfl
  refine W.widen (k := 2) (n := 5061) (Nat.le_of_ble_eq_true rfl) (Nat.le_of_ble_eq_true rfl) ?_
  refine va_putF (D := G.1) (ci := 4) (v := .ref q_2) (ty := .array .int) (C := R_Follows) (T := F_Follows) (N := 3) hx hb hts i_Follows t_Follows t_Follows_ok n_Follows hown hK hP hD hS 0 rfl rfl 1 (by decide) (hts _ q148) (fun _ h9 => h9) rfl hnm rfl (by decide +kernel) rfl rfl (Nat.le_of_ble_eq_true rfl) d_Follows_init_19 (fun H locs hP hD hS => ?_)
  have hP : va_P G.1 classes [(h0, .inr (4, [.ref q_1, .ref q_2, .null])), (q_1, .inl (G.2 0, 241, .inl (fun _ => 0))), (q_2, .inl (G.2 0, 4820, .inl (fun _ => 0)))] H := hP
  have hD := z_tie hP hD rfl
  refine lv_aload_n hx hb d_Follows_init_22 rfl (lv_at hl 0 rfl) ?_
  refine lv_sipush (v := 512) hx hb d_Follows_init_23 (by decide) ?_
  refine z_newa (atype := .int) (ty := .int) (a0 := (512, .inl (fun _ => 0))) Z hP hD hS hA q87 rfl 0 rfl (fun _ h => by cases h) (fun _ => by rfl) (by decide +kernel) (N' := 512) (by decide +kernel) (by decide +kernel) (Nat.le_of_ble_eq_true rfl) (Nat.le_of_ble_eq_true rfl) d_Follows_init_26 (fun q_3 H hP hD hS => ?_)
  have hP : va_P G.1 classes [(h0, .inr (4, [.ref q_1, .ref q_2, .null])), (q_1, .inl (G.2 0, 241, .inl (fun _ => 0))), (q_2, .inl (G.2 0, 4820, .inl (fun _ => 0))), (q_3, .inl (G.2 0, 512, .inl (fun _ => 0)))] H := hP
  have hD := z_tie hP hD rfl
  refine W.widen (k := 3) (n := 5573) (Nat.le_of_ble_eq_true rfl) (Nat.le_of_ble_eq_true rfl) ?_
  refine va_putF (D := G.1) (ci := 4) (v := .ref q_3) (ty := .array .int) (C := R_Follows) (T := F_Follows) (N := 3) hx hb hts i_Follows t_Follows t_Follows_ok n_Follows hown hK hP hD hS 0 rfl rfl 2 (by decide) (hts _ q149) (fun _ h9 => h9) rfl hnm rfl (by decide +kernel) rfl rfl (Nat.le_of_ble_eq_true rfl) d_Follows_init_28 (fun H locs hP hD hS => ?_)
  have hP : va_P G.1 classes [(h0, .inr (4, [.ref q_1, .ref q_2, .ref q_3])), (q_1, .inl (G.2 0, 241, .inl (fun _ => 0))), (q_2, .inl (G.2 0, 4820, .inl (fun _ => 0))), (q_3, .inl (G.2 0, 512, .inl (fun _ => 0)))] H := hP
  have hD := z_tie hP hD rfl
  exact z_vret hx hb hr hlocks hP hD hS (Nat.le_of_ble_eq_true rfl) (Nat.le_of_ble_eq_true rfl) d_Follows_init_31 ⟨q_1, q_2, q_3, rfl, rfl⟩
theorem d_Machine_init_0 : decode prog_4_method_1_code 0 = .ok (.aload_n 0, 1) := by decide +kernel
theorem d_Machine_init_1 : decode prog_4_method_1_code 1 = .ok (.invokespecial 5, 3) := by decide +kernel
theorem d_Machine_init_4 : decode prog_4_method_1_code 4 = .ok (.aload_n 0, 1) := by decide +kernel
theorem d_Machine_init_5 : decode prog_4_method_1_code 5 = .ok (.sipush 241, 3) := by decide +kernel
theorem d_Machine_init_8 : decode prog_4_method_1_code 8 = .ok (.newarray .int, 2) := by decide +kernel
theorem d_Machine_init_10 : decode prog_4_method_1_code 10 = .ok (.putfield 11, 3) := by decide +kernel
theorem d_Machine_init_13 : decode prog_4_method_1_code 13 = .ok (.aload_n 0, 1) := by decide +kernel
theorem d_Machine_init_14 : decode prog_4_method_1_code 14 = .ok (.sipush 241, 3) := by decide +kernel
theorem d_Machine_init_17 : decode prog_4_method_1_code 17 = .ok (.newarray .int, 2) := by decide +kernel
theorem d_Machine_init_19 : decode prog_4_method_1_code 19 = .ok (.putfield 15, 3) := by decide +kernel
theorem d_Machine_init_22 : decode prog_4_method_1_code 22 = .ok (.aload_n 0, 1) := by decide +kernel
theorem d_Machine_init_23 : decode prog_4_method_1_code 23 = .ok (.sipush 241, 3) := by decide +kernel
theorem d_Machine_init_26 : decode prog_4_method_1_code 26 = .ok (.newarray .int, 2) := by decide +kernel
theorem d_Machine_init_28 : decode prog_4_method_1_code 28 = .ok (.putfield 18, 3) := by decide +kernel
theorem d_Machine_init_31 : decode prog_4_method_1_code 31 = .ok (.aload_n 0, 1) := by decide +kernel
theorem d_Machine_init_32 : decode prog_4_method_1_code 32 = .ok (.sipush 241, 3) := by decide +kernel
theorem d_Machine_init_35 : decode prog_4_method_1_code 35 = .ok (.newarray .int, 2) := by decide +kernel
theorem d_Machine_init_37 : decode prog_4_method_1_code 37 = .ok (.putfield 21, 3) := by decide +kernel
theorem d_Machine_init_40 : decode prog_4_method_1_code 40 = .ok (.aload_n 0, 1) := by decide +kernel
theorem d_Machine_init_41 : decode prog_4_method_1_code 41 = .ok (.sipush 241, 3) := by decide +kernel
theorem d_Machine_init_44 : decode prog_4_method_1_code 44 = .ok (.newarray .int, 2) := by decide +kernel
theorem d_Machine_init_46 : decode prog_4_method_1_code 46 = .ok (.putfield 24, 3) := by decide +kernel
theorem d_Machine_init_49 : decode prog_4_method_1_code 49 = .ok (.aload_n 0, 1) := by decide +kernel
theorem d_Machine_init_50 : decode prog_4_method_1_code 50 = .ok (.iconst 4, 1) := by decide +kernel
theorem d_Machine_init_51 : decode prog_4_method_1_code 51 = .ok (.newarray .long, 2) := by decide +kernel
theorem d_Machine_init_53 : decode prog_4_method_1_code 53 = .ok (.putfield 29, 3) := by decide +kernel
theorem d_Machine_init_56 : decode prog_4_method_1_code 56 = .ok (.aload_n 0, 1) := by decide +kernel
theorem d_Machine_init_57 : decode prog_4_method_1_code 57 = .ok (.sipush 240, 3) := by decide +kernel
theorem d_Machine_init_60 : decode prog_4_method_1_code 60 = .ok (.newarray .int, 2) := by decide +kernel
theorem d_Machine_init_62 : decode prog_4_method_1_code 62 = .ok (.putfield 33, 3) := by decide +kernel
theorem d_Machine_init_65 : decode prog_4_method_1_code 65 = .ok (.aload_n 0, 1) := by decide +kernel
theorem d_Machine_init_66 : decode prog_4_method_1_code 66 = .ok (.sipush 240, 3) := by decide +kernel
theorem d_Machine_init_69 : decode prog_4_method_1_code 69 = .ok (.newarray .int, 2) := by decide +kernel
theorem d_Machine_init_71 : decode prog_4_method_1_code 71 = .ok (.putfield 36, 3) := by decide +kernel
theorem d_Machine_init_74 : decode prog_4_method_1_code 74 = .ok (.aload_n 0, 1) := by decide +kernel
theorem d_Machine_init_75 : decode prog_4_method_1_code 75 = .ok (.sipush 240, 3) := by decide +kernel
theorem d_Machine_init_78 : decode prog_4_method_1_code 78 = .ok (.newarray .int, 2) := by decide +kernel
theorem d_Machine_init_80 : decode prog_4_method_1_code 80 = .ok (.putfield 39, 3) := by decide +kernel
theorem d_Machine_init_83 : decode prog_4_method_1_code 83 = .ok (.aload_n 0, 1) := by decide +kernel
theorem d_Machine_init_84 : decode prog_4_method_1_code 84 = .ok (.sipush 240, 3) := by decide +kernel
theorem d_Machine_init_87 : decode prog_4_method_1_code 87 = .ok (.newarray .int, 2) := by decide +kernel
theorem d_Machine_init_89 : decode prog_4_method_1_code 89 = .ok (.putfield 42, 3) := by decide +kernel
theorem d_Machine_init_92 : decode prog_4_method_1_code 92 = .ok (.aload_n 0, 1) := by decide +kernel
theorem d_Machine_init_93 : decode prog_4_method_1_code 93 = .ok (.sipush 242, 3) := by decide +kernel
theorem d_Machine_init_96 : decode prog_4_method_1_code 96 = .ok (.newarray .int, 2) := by decide +kernel
theorem d_Machine_init_98 : decode prog_4_method_1_code 98 = .ok (.putfield 45, 3) := by decide +kernel
theorem d_Machine_init_101 : decode prog_4_method_1_code 101 = .ok (.aload_n 0, 1) := by decide +kernel
theorem d_Machine_init_102 : decode prog_4_method_1_code 102 = .ok (.sipush 241, 3) := by decide +kernel
theorem d_Machine_init_105 : decode prog_4_method_1_code 105 = .ok (.newarray .int, 2) := by decide +kernel
theorem d_Machine_init_107 : decode prog_4_method_1_code 107 = .ok (.putfield 48, 3) := by decide +kernel
theorem d_Machine_init_110 : decode prog_4_method_1_code 110 = .ok (.return_, 1) := by decide +kernel
abbrev m_c_Machine_init : Room := { frames := 1, cells := 12, slots := 2652, locals := 12 }
set_option maxHeartbeats 4000000 in
set_option maxRecDepth 100000 in
theorem c_Machine_init (l : Launch) (G : zG) (h0 : Nat)  : zM l G y_Machine_init prog_4_method_1_code 1 (Option.none : Option Jvm.ClassFile.FieldType) m_c_Machine_init [.ref h0] [(h0, .inr (5, [.int 0, .int 0, .null, .null, .null, .null, .null, .null, .int 0, .null, .null, .null, .null, .null, .null]))] (fun v w => (∃ (e0 : Nat), ∃ (e1 : Nat), ∃ (e2 : Nat), ∃ (e3 : Nat), ∃ (e4 : Nat), ∃ (e5 : Nat), ∃ (e6 : Nat), ∃ (e7 : Nat), ∃ (e8 : Nat), ∃ (e9 : Nat), ∃ (e10 : Nat), ∃ (e11 : Nat), v = none ∧ w = [(h0, .inr (5, [.int 0, .int 0, .ref e0, .ref e1, .ref e2, .ref e3, .ref e4, .ref e5, .int 0, .ref e6, .ref e7, .ref e8, .ref e9, .ref e10, .ref e11])), (e0, .inl (G.2 0, 241, .inl (fun _ => 0))), (e1, .inl (G.2 0, 241, .inl (fun _ => 0))), (e2, .inl (G.2 0, 241, .inl (fun _ => 0))), (e3, .inl (G.2 0, 241, .inl (fun _ => 0))), (e4, .inl (G.2 0, 241, .inl (fun _ => 0))), (e5, .inl (G.2 1, 4, .inr (.inl (fun _ => 0)))), (e6, .inl (G.2 0, 240, .inl (fun _ => 0))), (e7, .inl (G.2 0, 240, .inl (fun _ => 0))), (e8, .inl (G.2 0, 240, .inl (fun _ => 0))), (e9, .inl (G.2 0, 240, .inl (fun _ => 0))), (e10, .inl (G.2 0, 242, .inl (fun _ => 0))), (e11, .inl (G.2 0, 241, .inl (fun _ => 0)))])) := by
  refine z_start (by decide +kernel) (Nat.le_of_ble_eq_true rfl) ?_
  intro p e s m below meth c A Z hr hnm hA hP hD hS ls hl
  have Z : zC p s m _ meth c prog_4_method_1_code 1 "TraceMachines$Machine" G := Z
  obtain ⟨hx, hb, hml, hown, hts, hK, hN, hlocks⟩ := id Z
  have hl : lv_has ls 1 [(0, .ref h0)] := hl
  refine lv_aload_n hx hb d_Machine_init_0 rfl (lv_at hl 0 rfl) ?_
  refine W.objInit hx hb hown (hts _ q163) (hts _ q29) (hts _ q30) rfl (by rw [hml]; exact hl.1) rfl d_Machine_init_1 (Nat.le_of_ble_eq_true rfl) (Nat.le_of_ble_eq_true rfl) ?_
  refine W.eq (g2 := F0 m 4 ls []) rfl ?_
  refine lv_aload_n hx hb d_Machine_init_4 rfl (lv_at hl 0 rfl) ?_
  refine lv_sipush (v := 241) hx hb d_Machine_init_5 (by decide) ?_
  refine z_newa (atype := .int) (ty := .int) (a0 := (241, .inl (fun _ => 0))) Z hP hD hS hA q87 rfl 0 rfl (fun _ h => by cases h) (fun _ => by rfl) (by decide +kernel) (N' := 241) (by decide +kernel) (by decide +kernel) (Nat.le_of_ble_eq_true rfl) (Nat.le_of_ble_eq_true rfl) d_Machine_init_8 (fun q_1 H hP hD hS => ?_)
  have hP : va_P G.1 classes [(h0, .inr (5, [.int 0, .int 0, .null, .null, .null, .null, .null, .null, .int 0, .null, .null, .null, .null, .null, .null])), (q_1, .inl (G.2 0, 241, .inl (fun _ => 0)))] H := hP
  have hD := z_tie hP hD rfl
  refine W.widen (k := 1) (n := 241) (Nat.le_of_ble_eq_true rfl) (Nat.le_of_ble_eq_true rfl) ?_
  refine va_putF (D := G.1) (ci := 5) (v := .ref q_1) (ty := .array .int) (C := R_Machine) (T := F_Machine) (N := 15) hx hb hts i_Machine t_Machine t_Machine_ok n_Machine hown hK hP hD hS 0 rfl rfl 2 (by decide) (hts _ q170) (fun _ h9 => h9) rfl hnm rfl (by decide +kernel) rfl rfl (Nat.le_of_ble_eq_true rfl) d_Machine_init_10 (fun H locs hP hD hS => ?_)
  have hP : va_P G.1 classes [(h0, .inr (5, [.int 0, .int 0, .ref q_1, .null, .null, .null, .null, .null, .int 0, .null, .null, .null, .null, .null, .null])), (q_1, .inl (G.2 0, 241, .inl (fun _ => 0)))] H := hP
  have hD := z_tie hP hD rfl
  refine lv_aload_n hx hb d_Machine_init_13 rfl (lv_at hl 0 rfl) ?_
  refine lv_sipush (v := 241) hx hb d_Machine_init_14 (by decide) ?_
  refine z_newa (atype := .int) (ty := .int) (a0 := (241, .inl (fun _ => 0))) Z hP hD hS hA q87 rfl 0 rfl (fun _ h => by cases h) (fun _ => by rfl) (by decide +kernel) (N' := 241) (by decide +kernel) (by decide +kernel) (Nat.le_of_ble_eq_true rfl) (Nat.le_of_ble_eq_true rfl) d_Machine_init_17 (fun q_2 H hP hD hS => ?_)
  have hP : va_P G.1 classes [(h0, .inr (5, [.int 0, .int 0, .ref q_1, .null, .null, .null, .null, .null, .int 0, .null, .null, .null, .null, .null, .null])), (q_1, .inl (G.2 0, 241, .inl (fun _ => 0))), (q_2, .inl (G.2 0, 241, .inl (fun _ => 0)))] H := hP
  have hD := z_tie hP hD rfl
  refine W.widen (k := 2) (n := 482) (Nat.le_of_ble_eq_true rfl) (Nat.le_of_ble_eq_true rfl) ?_
  refine va_putF (D := G.1) (ci := 5) (v := .ref q_2) (ty := .array .int) (C := R_Machine) (T := F_Machine) (N := 15) hx hb hts i_Machine t_Machine t_Machine_ok n_Machine hown hK hP hD hS 0 rfl rfl 3 (by decide) (hts _ q172) (fun _ h9 => h9) rfl hnm rfl (by decide +kernel) rfl rfl (Nat.le_of_ble_eq_true rfl) d_Machine_init_19 (fun H locs hP hD hS => ?_)
  have hP : va_P G.1 classes [(h0, .inr (5, [.int 0, .int 0, .ref q_1, .ref q_2, .null, .null, .null, .null, .int 0, .null, .null, .null, .null, .null, .null])), (q_1, .inl (G.2 0, 241, .inl (fun _ => 0))), (q_2, .inl (G.2 0, 241, .inl (fun _ => 0)))] H := hP
  have hD := z_tie hP hD rfl
  refine lv_aload_n hx hb d_Machine_init_22 rfl (lv_at hl 0 rfl) ?_
  refine lv_sipush (v := 241) hx hb d_Machine_init_23 (by decide) ?_
  refine z_newa (atype := .int) (ty := .int) (a0 := (241, .inl (fun _ => 0))) Z hP hD hS hA q87 rfl 0 rfl (fun _ h => by cases h) (fun _ => by rfl) (by decide +kernel) (N' := 241) (by decide +kernel) (by decide +kernel) (Nat.le_of_ble_eq_true rfl) (Nat.le_of_ble_eq_true rfl) d_Machine_init_26 (fun q_3 H hP hD hS => ?_)
  have hP : va_P G.1 classes [(h0, .inr (5, [.int 0, .int 0, .ref q_1, .ref q_2, .null, .null, .null, .null, .int 0, .null, .null, .null, .null, .null, .null])), (q_1, .inl (G.2 0, 241, .inl (fun _ => 0))), (q_2, .inl (G.2 0, 241, .inl (fun _ => 0))), (q_3, .inl (G.2 0, 241, .inl (fun _ => 0)))] H := hP
  have hD := z_tie hP hD rfl
  refine W.widen (k := 3) (n := 723) (Nat.le_of_ble_eq_true rfl) (Nat.le_of_ble_eq_true rfl) ?_
  refine va_putF (D := G.1) (ci := 5) (v := .ref q_3) (ty := .array .int) (C := R_Machine) (T := F_Machine) (N := 15) hx hb hts i_Machine t_Machine t_Machine_ok n_Machine hown hK hP hD hS 0 rfl rfl 4 (by decide) (hts _ q174) (fun _ h9 => h9) rfl hnm rfl (by decide +kernel) rfl rfl (Nat.le_of_ble_eq_true rfl) d_Machine_init_28 (fun H locs hP hD hS => ?_)
  have hP : va_P G.1 classes [(h0, .inr (5, [.int 0, .int 0, .ref q_1, .ref q_2, .ref q_3, .null, .null, .null, .int 0, .null, .null, .null, .null, .null, .null])), (q_1, .inl (G.2 0, 241, .inl (fun _ => 0))), (q_2, .inl (G.2 0, 241, .inl (fun _ => 0))), (q_3, .inl (G.2 0, 241, .inl (fun _ => 0)))] H := hP
  have hD := z_tie hP hD rfl
  refine lv_aload_n hx hb d_Machine_init_31 rfl (lv_at hl 0 rfl) ?_
  refine lv_sipush (v := 241) hx hb d_Machine_init_32 (by decide) ?_
  refine z_newa (atype := .int) (ty := .int) (a0 := (241, .inl (fun _ => 0))) Z hP hD hS hA q87 rfl 0 rfl (fun _ h => by cases h) (fun _ => by rfl) (by decide +kernel) (N' := 241) (by decide +kernel) (by decide +kernel) (Nat.le_of_ble_eq_true rfl) (Nat.le_of_ble_eq_true rfl) d_Machine_init_35 (fun q_4 H hP hD hS => ?_)
  have hP : va_P G.1 classes [(h0, .inr (5, [.int 0, .int 0, .ref q_1, .ref q_2, .ref q_3, .null, .null, .null, .int 0, .null, .null, .null, .null, .null, .null])), (q_1, .inl (G.2 0, 241, .inl (fun _ => 0))), (q_2, .inl (G.2 0, 241, .inl (fun _ => 0))), (q_3, .inl (G.2 0, 241, .inl (fun _ => 0))), (q_4, .inl (G.2 0, 241, .inl (fun _ => 0)))] H := hP
  have hD := z_tie hP hD rfl
  refine W.widen (k := 4) (n := 964) (Nat.le_of_ble_eq_true rfl) (Nat.le_of_ble_eq_true rfl) ?_
  refine va_putF (D := G.1) (ci := 5) (v := .ref q_4) (ty := .array .int) (C := R_Machine) (T := F_Machine) (N := 15) hx hb hts i_Machine t_Machine t_Machine_ok n_Machine hown hK hP hD hS 0 rfl rfl 5 (by decide) (hts _ q176) (fun _ h9 => h9) rfl hnm rfl (by decide +kernel) rfl rfl (Nat.le_of_ble_eq_true rfl) d_Machine_init_37 (fun H locs hP hD hS => ?_)
  have hP : va_P G.1 classes [(h0, .inr (5, [.int 0, .int 0, .ref q_1, .ref q_2, .ref q_3, .ref q_4, .null, .null, .int 0, .null, .null, .null, .null, .null, .null])), (q_1, .inl (G.2 0, 241, .inl (fun _ => 0))), (q_2, .inl (G.2 0, 241, .inl (fun _ => 0))), (q_3, .inl (G.2 0, 241, .inl (fun _ => 0))), (q_4, .inl (G.2 0, 241, .inl (fun _ => 0)))] H := hP
  have hD := z_tie hP hD rfl
  refine lv_aload_n hx hb d_Machine_init_40 rfl (lv_at hl 0 rfl) ?_
  refine lv_sipush (v := 241) hx hb d_Machine_init_41 (by decide) ?_
  refine z_newa (atype := .int) (ty := .int) (a0 := (241, .inl (fun _ => 0))) Z hP hD hS hA q87 rfl 0 rfl (fun _ h => by cases h) (fun _ => by rfl) (by decide +kernel) (N' := 241) (by decide +kernel) (by decide +kernel) (Nat.le_of_ble_eq_true rfl) (Nat.le_of_ble_eq_true rfl) d_Machine_init_44 (fun q_5 H hP hD hS => ?_)
  have hP : va_P G.1 classes [(h0, .inr (5, [.int 0, .int 0, .ref q_1, .ref q_2, .ref q_3, .ref q_4, .null, .null, .int 0, .null, .null, .null, .null, .null, .null])), (q_1, .inl (G.2 0, 241, .inl (fun _ => 0))), (q_2, .inl (G.2 0, 241, .inl (fun _ => 0))), (q_3, .inl (G.2 0, 241, .inl (fun _ => 0))), (q_4, .inl (G.2 0, 241, .inl (fun _ => 0))), (q_5, .inl (G.2 0, 241, .inl (fun _ => 0)))] H := hP
  have hD := z_tie hP hD rfl
  refine W.widen (k := 5) (n := 1205) (Nat.le_of_ble_eq_true rfl) (Nat.le_of_ble_eq_true rfl) ?_
  refine va_putF (D := G.1) (ci := 5) (v := .ref q_5) (ty := .array .int) (C := R_Machine) (T := F_Machine) (N := 15) hx hb hts i_Machine t_Machine t_Machine_ok n_Machine hown hK hP hD hS 0 rfl rfl 6 (by decide) (hts _ q179) (fun _ h9 => h9) rfl hnm rfl (by decide +kernel) rfl rfl (Nat.le_of_ble_eq_true rfl) d_Machine_init_46 (fun H locs hP hD hS => ?_)
  have hP : va_P G.1 classes [(h0, .inr (5, [.int 0, .int 0, .ref q_1, .ref q_2, .ref q_3, .ref q_4, .ref q_5, .null, .int 0, .null, .null, .null, .null, .null, .null])), (q_1, .inl (G.2 0, 241, .inl (fun _ => 0))), (q_2, .inl (G.2 0, 241, .inl (fun _ => 0))), (q_3, .inl (G.2 0, 241, .inl (fun _ => 0))), (q_4, .inl (G.2 0, 241, .inl (fun _ => 0))), (q_5, .inl (G.2 0, 241, .inl (fun _ => 0)))] H := hP
  have hD := z_tie hP hD rfl
  refine lv_aload_n hx hb d_Machine_init_49 rfl (lv_at hl 0 rfl) ?_
  refine lv_iconst (v := 4) hx hb d_Machine_init_50 (by decide) ?_
  refine z_newa (atype := .long) (ty := .long) (a0 := (4, .inr (.inl (fun _ => 0)))) Z hP hD hS hA q232 rfl 1 rfl (fun _ h => by cases h) (fun _ => by rfl) (by decide +kernel) (N' := 4) (by decide +kernel) (by decide +kernel) (Nat.le_of_ble_eq_true rfl) (Nat.le_of_ble_eq_true rfl) d_Machine_init_51 (fun q_6 H hP hD hS => ?_)
  have hP : va_P G.1 classes [(h0, .inr (5, [.int 0, .int 0, .ref q_1, .ref q_2, .ref q_3, .ref q_4, .ref q_5, .null, .int 0, .null, .null, .null, .null, .null, .null])), (q_1, .inl (G.2 0, 241, .inl (fun _ => 0))), (q_2, .inl (G.2 0, 241, .inl (fun _ => 0))), (q_3, .inl (G.2 0, 241, .inl (fun _ => 0))), (q_4, .inl (G.2 0, 241, .inl (fun _ => 0))), (q_5, .inl (G.2 0, 241, .inl (fun _ => 0))), (q_6, .inl (G.2 1, 4, .inr (.inl (fun _ => 0))))] H := hP
  have hD := z_tie hP hD rfl
  refine W.widen (k := 6) (n := 1209) (Nat.le_of_ble_eq_true rfl) (Nat.le_of_ble_eq_true rfl) ?_
  refine va_putF (D := G.1) (ci := 5) (v := .ref q_6) (ty := .array .long) (C := R_Machine) (T := F_Machine) (N := 15) hx hb hts i_Machine t_Machine t_Machine_ok n_Machine hown hK hP hD hS 0 rfl rfl 7 (by decide) (hts _ q181) (fun _ h9 => h9) rfl hnm rfl (by decide +kernel) rfl rfl (Nat.le_of_ble_eq_true rfl) d_Machine_init_53 (fun H locs hP hD hS => ?_)
  have hP : va_P G.1 classes [(h0, .inr (5, [.int 0, .int 0, .ref q_1, .ref q_2, .ref q_3, .ref q_4, .ref q_5, .ref q_6, .int 0, .null, .null, .null, .null, .null, .null])), (q_1, .inl (G.2 0, 241, .inl (fun _ => 0))), (q_2, .inl (G.2 0, 241, .inl (fun _ => 0))), (q_3, .inl (G.2 0, 241, .inl (fun _ => 0))), (q_4, .inl (G.2 0, 241, .inl (fun _ => 0))), (q_5, .inl (G.2 0, 241, .inl (fun _ => 0))), (q_6, .inl (G.2 1, 4, .inr (.inl (fun _ => 0))))] H := hP
  have hD := z_tie hP hD rfl
  refine lv_aload_n hx hb d_Machine_init_56 rfl (lv_at hl 0 rfl) ?_
  refine lv_sipush (v := 240) hx hb d_Machine_init_57 (by decide) ?_
  refine z_newa (atype := .int) (ty := .int) (a0 := (240, .inl (fun _ => 0))) Z hP hD hS hA q87 rfl 0 rfl (fun _ h => by cases h) (fun _ => by rfl) (by decide +kernel) (N' := 240) (by decide +kernel) (by decide +kernel) (Nat.le_of_ble_eq_true rfl) (Nat.le_of_ble_eq_true rfl) d_Machine_init_60 (fun q_7 H hP hD hS => ?_)
  have hP : va_P G.1 classes [(h0, .inr (5, [.int 0, .int 0, .ref q_1, .ref q_2, .ref q_3, .ref q_4, .ref q_5, .ref q_6, .int 0, .null, .null, .null, .null, .null, .null])), (q_1, .inl (G.2 0, 241, .inl (fun _ => 0))), (q_2, .inl (G.2 0, 241, .inl (fun _ => 0))), (q_3, .inl (G.2 0, 241, .inl (fun _ => 0))), (q_4, .inl (G.2 0, 241, .inl (fun _ => 0))), (q_5, .inl (G.2 0, 241, .inl (fun _ => 0))), (q_6, .inl (G.2 1, 4, .inr (.inl (fun _ => 0)))), (q_7, .inl (G.2 0, 240, .inl (fun _ => 0)))] H := hP
  have hD := z_tie hP hD rfl
  refine W.widen (k := 7) (n := 1449) (Nat.le_of_ble_eq_true rfl) (Nat.le_of_ble_eq_true rfl) ?_
  refine va_putF (D := G.1) (ci := 5) (v := .ref q_7) (ty := .array .int) (C := R_Machine) (T := F_Machine) (N := 15) hx hb hts i_Machine t_Machine t_Machine_ok n_Machine hown hK hP hD hS 0 rfl rfl 9 (by decide) (hts _ q186) (fun _ h9 => h9) rfl hnm rfl (by decide +kernel) rfl rfl (Nat.le_of_ble_eq_true rfl) d_Machine_init_62 (fun H locs hP hD hS => ?_)
  have hP : va_P G.1 classes [(h0, .inr (5, [.int 0, .int 0, .ref q_1, .ref q_2, .ref q_3, .ref q_4, .ref q_5, .ref q_6, .int 0, .ref q_7, .null, .null, .null, .null, .null])), (q_1, .inl (G.2 0, 241, .inl (fun _ => 0))), (q_2, .inl (G.2 0, 241, .inl (fun _ => 0))), (q_3, .inl (G.2 0, 241, .inl (fun _ => 0))), (q_4, .inl (G.2 0, 241, .inl (fun _ => 0))), (q_5, .inl (G.2 0, 241, .inl (fun _ => 0))), (q_6, .inl (G.2 1, 4, .inr (.inl (fun _ => 0)))), (q_7, .inl (G.2 0, 240, .inl (fun _ => 0)))] H := hP
  have hD := z_tie hP hD rfl
  refine lv_aload_n hx hb d_Machine_init_65 rfl (lv_at hl 0 rfl) ?_
  refine lv_sipush (v := 240) hx hb d_Machine_init_66 (by decide) ?_
  refine z_newa (atype := .int) (ty := .int) (a0 := (240, .inl (fun _ => 0))) Z hP hD hS hA q87 rfl 0 rfl (fun _ h => by cases h) (fun _ => by rfl) (by decide +kernel) (N' := 240) (by decide +kernel) (by decide +kernel) (Nat.le_of_ble_eq_true rfl) (Nat.le_of_ble_eq_true rfl) d_Machine_init_69 (fun q_8 H hP hD hS => ?_)
  have hP : va_P G.1 classes [(h0, .inr (5, [.int 0, .int 0, .ref q_1, .ref q_2, .ref q_3, .ref q_4, .ref q_5, .ref q_6, .int 0, .ref q_7, .null, .null, .null, .null, .null])), (q_1, .inl (G.2 0, 241, .inl (fun _ => 0))), (q_2, .inl (G.2 0, 241, .inl (fun _ => 0))), (q_3, .inl (G.2 0, 241, .inl (fun _ => 0))), (q_4, .inl (G.2 0, 241, .inl (fun _ => 0))), (q_5, .inl (G.2 0, 241, .inl (fun _ => 0))), (q_6, .inl (G.2 1, 4, .inr (.inl (fun _ => 0)))), (q_7, .inl (G.2 0, 240, .inl (fun _ => 0))), (q_8, .inl (G.2 0, 240, .inl (fun _ => 0)))] H := hP
  have hD := z_tie hP hD rfl
  refine W.widen (k := 8) (n := 1689) (Nat.le_of_ble_eq_true rfl) (Nat.le_of_ble_eq_true rfl) ?_
  refine va_putF (D := G.1) (ci := 5) (v := .ref q_8) (ty := .array .int) (C := R_Machine) (T := F_Machine) (N := 15) hx hb hts i_Machine t_Machine t_Machine_ok n_Machine hown hK hP hD hS 0 rfl rfl 10 (by decide) (hts _ q187) (fun _ h9 => h9) rfl hnm rfl (by decide +kernel) rfl rfl (Nat.le_of_ble_eq_true rfl) d_Machine_init_71 (fun H locs hP hD hS => ?_)
  have hP : va_P G.1 classes [(h0, .inr (5, [.int 0, .int 0, .ref q_1, .ref q_2, .ref q_3, .ref q_4, .ref q_5, .ref q_6, .int 0, .ref q_7, .ref q_8, .null, .null, .null, .null])), (q_1, .inl (G.2 0, 241, .inl (fun _ => 0))), (q_2, .inl (G.2 0, 241, .inl (fun _ => 0))), (q_3, .inl (G.2 0, 241, .inl (fun _ => 0))), (q_4, .inl (G.2 0, 241, .inl (fun _ => 0))), (q_5, .inl (G.2 0, 241, .inl (fun _ => 0))), (q_6, .inl (G.2 1, 4, .inr (.inl (fun _ => 0)))), (q_7, .inl (G.2 0, 240, .inl (fun _ => 0))), (q_8, .inl (G.2 0, 240, .inl (fun _ => 0)))] H := hP
  have hD := z_tie hP hD rfl
  refine lv_aload_n hx hb d_Machine_init_74 rfl (lv_at hl 0 rfl) ?_
  refine lv_sipush (v := 240) hx hb d_Machine_init_75 (by decide) ?_
  refine z_newa (atype := .int) (ty := .int) (a0 := (240, .inl (fun _ => 0))) Z hP hD hS hA q87 rfl 0 rfl (fun _ h => by cases h) (fun _ => by rfl) (by decide +kernel) (N' := 240) (by decide +kernel) (by decide +kernel) (Nat.le_of_ble_eq_true rfl) (Nat.le_of_ble_eq_true rfl) d_Machine_init_78 (fun q_9 H hP hD hS => ?_)
  have hP : va_P G.1 classes [(h0, .inr (5, [.int 0, .int 0, .ref q_1, .ref q_2, .ref q_3, .ref q_4, .ref q_5, .ref q_6, .int 0, .ref q_7, .ref q_8, .null, .null, .null, .null])), (q_1, .inl (G.2 0, 241, .inl (fun _ => 0))), (q_2, .inl (G.2 0, 241, .inl (fun _ => 0))), (q_3, .inl (G.2 0, 241, .inl (fun _ => 0))), (q_4, .inl (G.2 0, 241, .inl (fun _ => 0))), (q_5, .inl (G.2 0, 241, .inl (fun _ => 0))), (q_6, .inl (G.2 1, 4, .inr (.inl (fun _ => 0)))), (q_7, .inl (G.2 0, 240, .inl (fun _ => 0))), (q_8, .inl (G.2 0, 240, .inl (fun _ => 0))), (q_9, .inl (G.2 0, 240, .inl (fun _ => 0)))] H := hP
  have hD := z_tie hP hD rfl
  refine W.widen (k := 9) (n := 1929) (Nat.le_of_ble_eq_true rfl) (Nat.le_of_ble_eq_true rfl) ?_
  refine va_putF (D := G.1) (ci := 5) (v := .ref q_9) (ty := .array .int) (C := R_Machine) (T := F_Machine) (N := 15) hx hb hts i_Machine t_Machine t_Machine_ok n_Machine hown hK hP hD hS 0 rfl rfl 11 (by decide) (hts _ q191) (fun _ h9 => h9) rfl hnm rfl (by decide +kernel) rfl rfl (Nat.le_of_ble_eq_true rfl) d_Machine_init_80 (fun H locs hP hD hS => ?_)
  have hP : va_P G.1 classes [(h0, .inr (5, [.int 0, .int 0, .ref q_1, .ref q_2, .ref q_3, .ref q_4, .ref q_5, .ref q_6, .int 0, .ref q_7, .ref q_8, .ref q_9, .null, .null, .null])), (q_1, .inl (G.2 0, 241, .inl (fun _ => 0))), (q_2, .inl (G.2 0, 241, .inl (fun _ => 0))), (q_3, .inl (G.2 0, 241, .inl (fun _ => 0))), (q_4, .inl (G.2 0, 241, .inl (fun _ => 0))), (q_5, .inl (G.2 0, 241, .inl (fun _ => 0))), (q_6, .inl (G.2 1, 4, .inr (.inl (fun _ => 0)))), (q_7, .inl (G.2 0, 240, .inl (fun _ => 0))), (q_8, .inl (G.2 0, 240, .inl (fun _ => 0))), (q_9, .inl (G.2 0, 240, .inl (fun _ => 0)))] H := hP
  have hD := z_tie hP hD rfl
  refine lv_aload_n hx hb d_Machine_init_83 rfl (lv_at hl 0 rfl) ?_
  refine lv_sipush (v := 240) hx hb d_Machine_init_84 (by decide) ?_
  refine z_newa (atype := .int) (ty := .int) (a0 := (240, .inl (fun _ => 0))) Z hP hD hS hA q87 rfl 0 rfl (fun _ h => by cases h) (fun _ => by rfl) (by decide +kernel) (N' := 240) (by decide +kernel) (by decide +kernel) (Nat.le_of_ble_eq_true rfl) (Nat.le_of_ble_eq_true rfl) d_Machine_init_87 (fun q_10 H hP hD hS => ?_)
  have hP : va_P G.1 classes [(h0, .inr (5, [.int 0, .int 0, .ref q_1, .ref q_2, .ref q_3, .ref q_4, .ref q_5, .ref q_6, .int 0, .ref q_7, .ref q_8, .ref q_9, .null, .null, .null])), (q_1, .inl (G.2 0, 241, .inl (fun _ => 0))), (q_2, .inl (G.2 0, 241, .inl (fun _ => 0))), (q_3, .inl (G.2 0, 241, .inl (fun _ => 0))), (q_4, .inl (G.2 0, 241, .inl (fun _ => 0))), (q_5, .inl (G.2 0, 241, .inl (fun _ => 0))), (q_6, .inl (G.2 1, 4, .inr (.inl (fun _ => 0)))), (q_7, .inl (G.2 0, 240, .inl (fun _ => 0))), (q_8, .inl (G.2 0, 240, .inl (fun _ => 0))), (q_9, .inl (G.2 0, 240, .inl (fun _ => 0))), (q_10, .inl (G.2 0, 240, .inl (fun _ => 0)))] H := hP
  have hD := z_tie hP hD rfl
  refine W.widen (k := 10) (n := 2169) (Nat.le_of_ble_eq_true rfl) (Nat.le_of_ble_eq_true rfl) ?_
  refine va_putF (D := G.1) (ci := 5) (v := .ref q_10) (ty := .array .int) (C := R_Machine) (T := F_Machine) (N := 15) hx hb hts i_Machine t_Machine t_Machine_ok n_Machine hown hK hP hD hS 0 rfl rfl 12 (by decide) (hts _ q193) (fun _ h9 => h9) rfl hnm rfl (by decide +kernel) rfl rfl (Nat.le_of_ble_eq_true rfl) d_Machine_init_89 (fun H locs hP hD hS => ?_)
  have hP : va_P G.1 classes [(h0, .inr (5, [.int 0, .int 0, .ref q_1, .ref q_2, .ref q_3, .ref q_4, .ref q_5, .ref q_6, .int 0, .ref q_7, .ref q_8, .ref q_9, .ref q_10, .null, .null])), (q_1, .inl (G.2 0, 241, .inl (fun _ => 0))), (q_2, .inl (G.2 0, 241, .inl (fun _ => 0))), (q_3, .inl (G.2 0, 241, .inl (fun _ => 0))), (q_4, .inl (G.2 0, 241, .inl (fun _ => 0))), (q_5, .inl (G.2 0, 241, .inl (fun _ => 0))), (q_6, .inl (G.2 1, 4, .inr (.inl (fun _ => 0)))), (q_7, .inl (G.2 0, 240, .inl (fun _ => 0))), (q_8, .inl (G.2 0, 240, .inl (fun _ => 0))), (q_9, .inl (G.2 0, 240, .inl (fun _ => 0))), (q_10, .inl (G.2 0, 240, .inl (fun _ => 0)))] H := hP
  have hD := z_tie hP hD rfl
  refine lv_aload_n hx hb d_Machine_init_92 rfl (lv_at hl 0 rfl) ?_
  refine lv_sipush (v := 242) hx hb d_Machine_init_93 (by decide) ?_
  refine z_newa (atype := .int) (ty := .int) (a0 := (242, .inl (fun _ => 0))) Z hP hD hS hA q87 rfl 0 rfl (fun _ h => by cases h) (fun _ => by rfl) (by decide +kernel) (N' := 242) (by decide +kernel) (by decide +kernel) (Nat.le_of_ble_eq_true rfl) (Nat.le_of_ble_eq_true rfl) d_Machine_init_96 (fun q_11 H hP hD hS => ?_)
  have hP : va_P G.1 classes [(h0, .inr (5, [.int 0, .int 0, .ref q_1, .ref q_2, .ref q_3, .ref q_4, .ref q_5, .ref q_6, .int 0, .ref q_7, .ref q_8, .ref q_9, .ref q_10, .null, .null])), (q_1, .inl (G.2 0, 241, .inl (fun _ => 0))), (q_2, .inl (G.2 0, 241, .inl (fun _ => 0))), (q_3, .inl (G.2 0, 241, .inl (fun _ => 0))), (q_4, .inl (G.2 0, 241, .inl (fun _ => 0))), (q_5, .inl (G.2 0, 241, .inl (fun _ => 0))), (q_6, .inl (G.2 1, 4, .inr (.inl (fun _ => 0)))), (q_7, .inl (G.2 0, 240, .inl (fun _ => 0))), (q_8, .inl (G.2 0, 240, .inl (fun _ => 0))), (q_9, .inl (G.2 0, 240, .inl (fun _ => 0))), (q_10, .inl (G.2 0, 240, .inl (fun _ => 0))), (q_11, .inl (G.2 0, 242, .inl (fun _ => 0)))] H := hP
  have hD := z_tie hP hD rfl
  refine W.widen (k := 11) (n := 2411) (Nat.le_of_ble_eq_true rfl) (Nat.le_of_ble_eq_true rfl) ?_
  refine va_putF (D := G.1) (ci := 5) (v := .ref q_11) (ty := .array .int) (C := R_Machine) (T := F_Machine) (N := 15) hx hb hts i_Machine t_Machine t_Machine_ok n_Machine hown hK hP hD hS 0 rfl rfl 13 (by decide) (hts _ q195) (fun _ h9 => h9) rfl hnm rfl (by decide +kernel) rfl rfl (Nat.le_of_ble_eq_true rfl) d_Machine_init_98 (fun H locs hP hD hS => ?_)
  have hP : va_P G.1 classes [(h0, .inr (5, [.int 0, .int 0, .ref q_1, .ref q_2, .ref q_3, .ref q_4, .ref q_5, .ref q_6, .int 0, .ref q_7, .ref q_8, .ref q_9, .ref q_10, .ref q_11, .null])), (q_1, .inl (G.2 0, 241, .inl (fun _ => 0))), (q_2, .inl (G.2 0, 241, .inl (fun _ => 0))), (q_3, .inl (G.2 0, 241, .inl (fun _ => 0))), (q_4, .inl (G.2 0, 241, .inl (fun _ => 0))), (q_5, .inl (G.2 0, 241, .inl (fun _ => 0))), (q_6, .inl (G.2 1, 4, .inr (.inl (fun _ => 0)))), (q_7, .inl (G.2 0, 240, .inl (fun _ => 0))), (q_8, .inl (G.2 0, 240, .inl (fun _ => 0))), (q_9, .inl (G.2 0, 240, .inl (fun _ => 0))), (q_10, .inl (G.2 0, 240, .inl (fun _ => 0))), (q_11, .inl (G.2 0, 242, .inl (fun _ => 0)))] H := hP
  have hD := z_tie hP hD rfl
  refine lv_aload_n hx hb d_Machine_init_101 rfl (lv_at hl 0 rfl) ?_
  refine lv_sipush (v := 241) hx hb d_Machine_init_102 (by decide) ?_
  refine z_newa (atype := .int) (ty := .int) (a0 := (241, .inl (fun _ => 0))) Z hP hD hS hA q87 rfl 0 rfl (fun _ h => by cases h) (fun _ => by rfl) (by decide +kernel) (N' := 241) (by decide +kernel) (by decide +kernel) (Nat.le_of_ble_eq_true rfl) (Nat.le_of_ble_eq_true rfl) d_Machine_init_105 (fun q_12 H hP hD hS => ?_)
  have hP : va_P G.1 classes [(h0, .inr (5, [.int 0, .int 0, .ref q_1, .ref q_2, .ref q_3, .ref q_4, .ref q_5, .ref q_6, .int 0, .ref q_7, .ref q_8, .ref q_9, .ref q_10, .ref q_11, .null])), (q_1, .inl (G.2 0, 241, .inl (fun _ => 0))), (q_2, .inl (G.2 0, 241, .inl (fun _ => 0))), (q_3, .inl (G.2 0, 241, .inl (fun _ => 0))), (q_4, .inl (G.2 0, 241, .inl (fun _ => 0))), (q_5, .inl (G.2 0, 241, .inl (fun _ => 0))), (q_6, .inl (G.2 1, 4, .inr (.inl (fun _ => 0)))), (q_7, .inl (G.2 0, 240, .inl (fun _ => 0))), (q_8, .inl (G.2 0, 240, .inl (fun _ => 0))), (q_9, .inl (G.2 0, 240, .inl (fun _ => 0))), (q_10, .inl (G.2 0, 240, .inl (fun _ => 0))), (q_11, .inl (G.2 0, 242, .inl (fun _ => 0))), (q_12, .inl (G.2 0, 241, .inl (fun _ => 0)))] H := hP
  have hD := z_tie hP hD rfl
  refine W.widen (k := 12) (n := 2652) (Nat.le_of_ble_eq_true rfl) (Nat.le_of_ble_eq_true rfl) ?_
  refine va_putF (D := G.1) (ci := 5) (v := .ref q_12) (ty := .array .int) (C := R_Machine) (T := F_Machine) (N := 15) hx hb hts i_Machine t_Machine t_Machine_ok n_Machine hown hK hP hD hS 0 rfl rfl 14 (by decide) (hts _ q198) (fun _ h9 => h9) rfl hnm rfl (by decide +kernel) rfl rfl (Nat.le_of_ble_eq_true rfl) d_Machine_init_107 (fun H locs hP hD hS => ?_)
  have hP : va_P G.1 classes [(h0, .inr (5, [.int 0, .int 0, .ref q_1, .ref q_2, .ref q_3, .ref q_4, .ref q_5, .ref q_6, .int 0, .ref q_7, .ref q_8, .ref q_9, .ref q_10, .ref q_11, .ref q_12])), (q_1, .inl (G.2 0, 241, .inl (fun _ => 0))), (q_2, .inl (G.2 0, 241, .inl (fun _ => 0))), (q_3, .inl (G.2 0, 241, .inl (fun _ => 0))), (q_4, .inl (G.2 0, 241, .inl (fun _ => 0))), (q_5, .inl (G.2 0, 241, .inl (fun _ => 0))), (q_6, .inl (G.2 1, 4, .inr (.inl (fun _ => 0)))), (q_7, .inl (G.2 0, 240, .inl (fun _ => 0))), (q_8, .inl (G.2 0, 240, .inl (fun _ => 0))), (q_9, .inl (G.2 0, 240, .inl (fun _ => 0))), (q_10, .inl (G.2 0, 240, .inl (fun _ => 0))), (q_11, .inl (G.2 0, 242, .inl (fun _ => 0))), (q_12, .inl (G.2 0, 241, .inl (fun _ => 0)))] H := hP
  have hD := z_tie hP hD rfl
  exact z_vret hx hb hr hlocks hP hD hS (Nat.le_of_ble_eq_true rfl) (Nat.le_of_ble_eq_true rfl) d_Machine_init_110 ⟨q_1, q_2, q_3, q_4, q_5, q_6, q_7, q_8, q_9, q_10, q_11, q_12, rfl, rfl⟩
theorem d_Cover_init_0 : decode prog_2_method_1_code 0 = .ok (.aload_n 0, 1) := by decide +kernel
theorem d_Cover_init_1 : decode prog_2_method_1_code 1 = .ok (.invokespecial 3, 3) := by decide +kernel
theorem d_Cover_init_4 : decode prog_2_method_1_code 4 = .ok (.aload_n 0, 1) := by decide +kernel
theorem d_Cover_init_5 : decode prog_2_method_1_code 5 = .ok (.sipush 240, 3) := by decide +kernel
theorem d_Cover_init_8 : decode prog_2_method_1_code 8 = .ok (.newarray .int, 2) := by decide +kernel
theorem d_Cover_init_10 : decode prog_2_method_1_code 10 = .ok (.putfield 9, 3) := by decide +kernel
theorem d_Cover_init_13 : decode prog_2_method_1_code 13 = .ok (.return_, 1) := by decide +kernel
abbrev m_c_Cover_init : Room := { frames := 1, cells := 1, slots := 240, locals := 12 }
set_option maxHeartbeats 4000000 in
set_option maxRecDepth 100000 in
theorem c_Cover_init (l : Launch) (G : zG) (h0 : Nat)  : zM l G y_Cover_init prog_2_method_1_code 1 (Option.none : Option Jvm.ClassFile.FieldType) m_c_Cover_init [.ref h0] [(h0, .inr (9, [.int 0, .int 0, .int 0, .null, .int 0]))] (fun v w => (∃ (e0 : Nat), v = none ∧ w = [(h0, .inr (9, [.int 0, .int 0, .int 0, .ref e0, .int 0])), (e0, .inl (G.2 0, 240, .inl (fun _ => 0)))])) := by
  refine z_start (by decide +kernel) (Nat.le_of_ble_eq_true rfl) ?_
  intro p e s m below meth c A Z hr hnm hA hP hD hS ls hl
  have Z : zC p s m _ meth c prog_2_method_1_code 1 "TraceMachines$Cover" G := Z
  obtain ⟨hx, hb, hml, hown, hts, hK, hN, hlocks⟩ := id Z
  have hl : lv_has ls 1 [(0, .ref h0)] := hl
  refine lv_aload_n hx hb d_Cover_init_0 rfl (lv_at hl 0 rfl) ?_
  refine W.objInit hx hb hown (hts _ q338) (hts _ q29) (hts _ q30) rfl (by rw [hml]; exact hl.1) rfl d_Cover_init_1 (Nat.le_of_ble_eq_true rfl) (Nat.le_of_ble_eq_true rfl) ?_
  refine W.eq (g2 := F0 m 4 ls []) rfl ?_
  refine lv_aload_n hx hb d_Cover_init_4 rfl (lv_at hl 0 rfl) ?_
  refine lv_sipush (v := 240) hx hb d_Cover_init_5 (by decide) ?_
  refine z_newa (atype := .int) (ty := .int) (a0 := (240, .inl (fun _ => 0))) Z hP hD hS hA q87 rfl 0 rfl (fun _ h => by cases h) (fun _ => by rfl) (by decide +kernel) (N' := 240) (by decide +kernel) (by decide +kernel) (Nat.le_of_ble_eq_true rfl) (Nat.le_of_ble_eq_true rfl) d_Cover_init_8 (fun q_1 H hP hD hS => ?_)
  have hP : va_P G.1 classes [(h0, .inr (9, [.int 0, .int 0, .int 0, .null, .int 0])), (q_1, .inl (G.2 0, 240, .inl (fun _ => 0)))] H := hP
  have hD := z_tie hP hD rfl
  refine W.widen (k := 1) (n := 240) (Nat.le_of_ble_eq_true rfl) (Nat.le_of_ble_eq_true rfl) ?_
  refine va_putF (D := G.1) (ci := 9) (v := .ref q_1) (ty := .array .int) (C := R_Cover) (T := F_Cover) (N := 5) hx hb hts i_Cover t_Cover t_Cover_ok n_Cover hown hK hP hD hS 0 rfl rfl 3 (by decide) (hts _ q344) (fun _ h9 => h9) rfl hnm rfl (by decide +kernel) rfl rfl (Nat.le_of_ble_eq_true rfl) d_Cover_init_10 (fun H locs hP hD hS => ?_)
  have hP : va_P G.1 classes [(h0, .inr (9, [.int 0, .int 0, .int 0, .ref q_1, .int 0])), (q_1, .inl (G.2 0, 240, .inl (fun _ => 0)))] H := hP
  have hD := z_tie hP hD rfl
  exact z_vret hx hb hr hlocks hP hD hS (Nat.le_of_ble_eq_true rfl) (Nat.le_of_ble_eq_true rfl) d_Cover_init_13 ⟨q_1, rfl, rfl⟩
theorem d_Pair_init_0 : decode prog_6_method_1_code 0 = .ok (.aload_n 0, 1) := by decide +kernel
theorem d_Pair_init_1 : decode prog_6_method_1_code 1 = .ok (.invokespecial 3, 3) := by decide +kernel
theorem d_Pair_init_4 : decode prog_6_method_1_code 4 = .ok (.return_, 1) := by decide +kernel
abbrev m_c_Pair_init : Room := { frames := 1, cells := 0, slots := 0, locals := 12 }
set_option maxHeartbeats 4000000 in
set_option maxRecDepth 100000 in
theorem c_Pair_init (l : Launch) (G : zG) (h0 : Nat)  : zM l G y_Pair_init prog_6_method_1_code 1 (Option.none : Option Jvm.ClassFile.FieldType) m_c_Pair_init [.ref h0] [(h0, .inr (10, [.int 0, .int 0, .int 0, .int 0, .int 0, .int 0, .int 0, .int 0, .int 0, .int 0]))] (fun v w => (v = none ∧ w = [(h0, .inr (10, [.int 0, .int 0, .int 0, .int 0, .int 0, .int 0, .int 0, .int 0, .int 0, .int 0]))])) := by
  refine z_start (by decide +kernel) (Nat.le_of_ble_eq_true rfl) ?_
  intro p e s m below meth c A Z hr hnm hA hP hD hS ls hl
  have Z : zC p s m _ meth c prog_6_method_1_code 1 "TraceMachines$Pair" G := Z
  obtain ⟨hx, hb, hml, hown, hts, hK, hN, hlocks⟩ := id Z
  have hl : lv_has ls 1 [(0, .ref h0)] := hl
  refine lv_aload_n hx hb d_Pair_init_0 rfl (lv_at hl 0 rfl) ?_
  refine W.objInit hx hb hown (hts _ q362) (hts _ q29) (hts _ q30) rfl (by rw [hml]; exact hl.1) rfl d_Pair_init_1 (Nat.le_of_ble_eq_true rfl) (Nat.le_of_ble_eq_true rfl) ?_
  refine W.eq (g2 := F0 m 4 ls []) rfl ?_
  exact z_vret hx hb hr hlocks hP hD hS (Nat.le_of_ble_eq_true rfl) (Nat.le_of_ble_eq_true rfl) d_Pair_init_4 ⟨rfl, rfl⟩
theorem d_Odds_init_0 : decode prog_5_method_1_code 0 = .ok (.aload_n 0, 1) := by decide +kernel
theorem d_Odds_init_1 : decode prog_5_method_1_code 1 = .ok (.invokespecial 3, 3) := by decide +kernel
theorem d_Odds_init_4 : decode prog_5_method_1_code 4 = .ok (.aload_n 0, 1) := by decide +kernel
theorem d_Odds_init_5 : decode prog_5_method_1_code 5 = .ok (.bipush 20, 2) := by decide +kernel
theorem d_Odds_init_7 : decode prog_5_method_1_code 7 = .ok (.newarray .int, 2) := by decide +kernel
theorem d_Odds_init_9 : decode prog_5_method_1_code 9 = .ok (.putfield 9, 3) := by decide +kernel
theorem d_Odds_init_12 : decode prog_5_method_1_code 12 = .ok (.aload_n 0, 1) := by decide +kernel
theorem d_Odds_init_13 : decode prog_5_method_1_code 13 = .ok (.bipush 20, 2) := by decide +kernel
theorem d_Odds_init_15 : decode prog_5_method_1_code 15 = .ok (.newarray .int, 2) := by decide +kernel
theorem d_Odds_init_17 : decode prog_5_method_1_code 17 = .ok (.putfield 15, 3) := by decide +kernel
theorem d_Odds_init_20 : decode prog_5_method_1_code 20 = .ok (.return_, 1) := by decide +kernel
abbrev m_c_Odds_init : Room := { frames := 1, cells := 2, slots := 40, locals := 12 }
set_option maxHeartbeats 4000000 in
set_option maxRecDepth 100000 in
theorem c_Odds_init (l : Launch) (G : zG) (h0 : Nat)  : zM l G y_Odds_init prog_5_method_1_code 1 (Option.none : Option Jvm.ClassFile.FieldType) m_c_Odds_init [.ref h0] [(h0, .inr (11, [.null, .null, .int 0]))] (fun v w => (∃ (e0 : Nat), ∃ (e1 : Nat), v = none ∧ w = [(h0, .inr (11, [.ref e0, .ref e1, .int 0])), (e0, .inl (G.2 0, 20, .inl (fun _ => 0))), (e1, .inl (G.2 0, 20, .inl (fun _ => 0)))])) := by
  refine z_start (by decide +kernel) (Nat.le_of_ble_eq_true rfl) ?_
  intro p e s m below meth c A Z hr hnm hA hP hD hS ls hl
  have Z : zC p s m _ meth c prog_5_method_1_code 1 "TraceMachines$Odds" G := Z
  obtain ⟨hx, hb, hml, hown, hts, hK, hN, hlocks⟩ := id Z
  have hl : lv_has ls 1 [(0, .ref h0)] := hl
  refine lv_aload_n hx hb d_Odds_init_0 rfl (lv_at hl 0 rfl) ?_
  refine W.objInit hx hb hown (hts _ q401) (hts _ q29) (hts _ q30) rfl (by rw [hml]; exact hl.1) rfl d_Odds_init_1 (Nat.le_of_ble_eq_true rfl) (Nat.le_of_ble_eq_true rfl) ?_
  refine W.eq (g2 := F0 m 4 ls []) rfl ?_
  refine lv_aload_n hx hb d_Odds_init_4 rfl (lv_at hl 0 rfl) ?_
  refine lv_bipush (v := 20) hx hb d_Odds_init_5 (by decide) ?_
  refine z_newa (atype := .int) (ty := .int) (a0 := (20, .inl (fun _ => 0))) Z hP hD hS hA q87 rfl 0 rfl (fun _ h => by cases h) (fun _ => by rfl) (by decide +kernel) (N' := 20) (by decide +kernel) (by decide +kernel) (Nat.le_of_ble_eq_true rfl) (Nat.le_of_ble_eq_true rfl) d_Odds_init_7 (fun q_1 H hP hD hS => ?_)
  have hP : va_P G.1 classes [(h0, .inr (11, [.null, .null, .int 0])), (q_1, .inl (G.2 0, 20, .inl (fun _ => 0)))] H := hP
  have hD := z_tie hP hD rfl
  refine W.widen (k := 1) (n := 20) (Nat.le_of_ble_eq_true rfl) (Nat.le_of_ble_eq_true rfl) ?_
  refine va_putF (D := G.1) (ci := 11) (v := .ref q_1) (ty := .array .int) (C := R_Odds) (T := F_Odds) (N := 3) hx hb hts i_Odds t_Odds t_Odds_ok n_Odds hown hK hP hD hS 0 rfl rfl 0 (by decide) (hts _ q402) (fun _ h9 => h9) rfl hnm rfl (by decide +kernel) rfl rfl (Nat.le_of_ble_eq_true rfl) d_Odds_init_9 (fun H locs hP hD hS => ?_)
  have hP : va_P G.1 classes [(h0, .inr (11, [.ref q_1, .null, .int 0])), (q_1, .inl (G.2 0, 20, .inl (fun _ => 0)))] H := hP
  have hD := z_tie hP hD rfl
  refine lv_aload_n hx hb d_Odds_init_12 rfl (lv_at hl 0 rfl) ?_
  refine lv_bipush (v := 20) hx hb d_Odds_init_13 (by decide) ?_
  refine z_newa (atype := .int) (ty := .int) (a0 := (20, .inl (fun _ => 0))) Z hP hD hS hA q87 rfl 0 rfl (fun _ h => by cases h) (fun _ => by rfl) (by decide +kernel) (N' := 20) (by decide +kernel) (by decide +kernel) (Nat.le_of_ble_eq_true rfl) (Nat.le_of_ble_eq_true rfl) d_Odds_init_15 (fun q_2 H hP hD hS => ?_)
  have hP : va_P G.1 classes [(h0, .inr (11, [.ref q_1, .null, .int 0])), (q_1, .inl (G.2 0, 20, .inl (fun _ => 0))), (q_2, .inl (G.2 0, 20, .inl (fun _ => 0)))] H := hP
  have hD := z_tie hP hD rfl
  refine W.widen (k := 2) (n := 40) (Nat.le_of_ble_eq_true rfl) (Nat.le_of_ble_eq_true rfl) ?_
  refine va_putF (D := G.1) (ci := 11) (v := .ref q_2) (ty := .array .int) (C := R_Odds) (T := F_Odds) (N := 3) hx hb hts i_Odds t_Odds t_Odds_ok n_Odds hown hK hP hD hS 0 rfl rfl 1 (by decide) (hts _ q404) (fun _ h9 => h9) rfl hnm rfl (by decide +kernel) rfl rfl (Nat.le_of_ble_eq_true rfl) d_Odds_init_17 (fun H locs hP hD hS => ?_)
  have hP : va_P G.1 classes [(h0, .inr (11, [.ref q_1, .ref q_2, .int 0])), (q_1, .inl (G.2 0, 20, .inl (fun _ => 0))), (q_2, .inl (G.2 0, 20, .inl (fun _ => 0)))] H := hP
  have hD := z_tie hP hD rfl
  exact z_vret hx hb hr hlocks hP hD hS (Nat.le_of_ble_eq_true rfl) (Nat.le_of_ble_eq_true rfl) d_Odds_init_20 ⟨q_1, q_2, rfl, rfl⟩
theorem d_Words_init_0 : decode prog_12_method_1_code 0 = .ok (.aload_n 0, 1) := by decide +kernel
theorem d_Words_init_1 : decode prog_12_method_1_code 1 = .ok (.invokespecial 3, 3) := by decide +kernel
theorem d_Words_init_4 : decode prog_12_method_1_code 4 = .ok (.aload_n 0, 1) := by decide +kernel
theorem d_Words_init_5 : decode prog_12_method_1_code 5 = .ok (.bipush 12, 2) := by decide +kernel
theorem d_Words_init_7 : decode prog_12_method_1_code 7 = .ok (.newarray .int, 2) := by decide +kernel
theorem d_Words_init_9 : decode prog_12_method_1_code 9 = .ok (.putfield 9, 3) := by decide +kernel
theorem d_Words_init_12 : decode prog_12_method_1_code 12 = .ok (.aload_n 0, 1) := by decide +kernel
theorem d_Words_init_13 : decode prog_12_method_1_code 13 = .ok (.new 15, 3) := by decide +kernel
theorem d_Words_init_16 : decode prog_12_method_1_code 16 = .ok (.dup, 1) := by decide +kernel
theorem d_Words_init_17 : decode prog_12_method_1_code 17 = .ok (.bipush 10, 2) := by decide +kernel
theorem d_Words_init_19 : decode prog_12_method_1_code 19 = .ok (.iconst 1, 1) := by decide +kernel
theorem d_Words_init_20 : decode prog_12_method_1_code 20 = .ok (.invokespecial 17, 3) := by decide +kernel
theorem d_Sets_init_0 : decode prog_8_method_1_code 0 = .ok (.aload_n 0, 1) := by decide +kernel
theorem d_Sets_init_1 : decode prog_8_method_1_code 1 = .ok (.invokespecial 3, 3) := by decide +kernel
theorem d_Sets_init_4 : decode prog_8_method_1_code 4 = .ok (.aload_n 0, 1) := by decide +kernel
theorem d_Sets_init_5 : decode prog_8_method_1_code 5 = .ok (.iload_n 1, 1) := by decide +kernel
theorem d_Sets_init_6 : decode prog_8_method_1_code 6 = .ok (.putfield 9, 3) := by decide +kernel
theorem d_Sets_init_9 : decode prog_8_method_1_code 9 = .ok (.aload_n 0, 1) := by decide +kernel
theorem d_Sets_init_10 : decode prog_8_method_1_code 10 = .ok (.iload_n 2, 1) := by decide +kernel
theorem d_Sets_init_11 : decode prog_8_method_1_code 11 = .ok (.iconst 4, 1) := by decide +kernel
theorem d_Sets_init_12 : decode prog_8_method_1_code 12 = .ok (.imul, 1) := by decide +kernel
theorem d_Sets_init_13 : decode prog_8_method_1_code 13 = .ok (.putfield 15, 3) := by decide +kernel
theorem d_Sets_init_16 : decode prog_8_method_1_code 16 = .ok (.aload_n 0, 1) := by decide +kernel
theorem d_Sets_init_17 : decode prog_8_method_1_code 17 = .ok (.iload_n 1, 1) := by decide +kernel
theorem d_Sets_init_18 : decode prog_8_method_1_code 18 = .ok (.aload_n 0, 1) := by decide +kernel
theorem d_Sets_init_19 : decode prog_8_method_1_code 19 = .ok (.getfield 15, 3) := by decide +kernel
theorem d_Sets_init_22 : decode prog_8_method_1_code 22 = .ok (.imul, 1) := by decide +kernel
theorem d_Sets_init_23 : decode prog_8_method_1_code 23 = .ok (.newarray .long, 2) := by decide +kernel
theorem d_Sets_init_25 : decode prog_8_method_1_code 25 = .ok (.putfield 18, 3) := by decide +kernel
theorem d_Sets_init_28 : decode prog_8_method_1_code 28 = .ok (.iconst 2, 1) := by decide +kernel
theorem d_Sets_init_29 : decode prog_8_method_1_code 29 = .ok (.istore_n 3, 1) := by decide +kernel
theorem d_Sets_init_30 : decode prog_8_method_1_code 30 = .ok (.iload_n 3, 1) := by decide +kernel
theorem d_Sets_init_31 : decode prog_8_method_1_code 31 = .ok (.iconst 2, 1) := by decide +kernel
theorem d_Sets_init_32 : decode prog_8_method_1_code 32 = .ok (.iload_n 1, 1) := by decide +kernel
theorem d_Sets_init_33 : decode prog_8_method_1_code 33 = .ok (.imul, 1) := by decide +kernel
theorem d_Sets_init_34 : decode prog_8_method_1_code 34 = .ok (.if_icmp .ge 10, 3) := by decide +kernel
theorem d_Sets_init_37 : decode prog_8_method_1_code 37 = .ok (.iconst 2, 1) := by decide +kernel
theorem d_Sets_init_38 : decode prog_8_method_1_code 38 = .ok (.iload_n 3, 1) := by decide +kernel
theorem d_Sets_init_39 : decode prog_8_method_1_code 39 = .ok (.imul, 1) := by decide +kernel
theorem d_Sets_init_40 : decode prog_8_method_1_code 40 = .ok (.istore_n 3, 1) := by decide +kernel
theorem d_Sets_init_41 : decode prog_8_method_1_code 41 = .ok (.goto (-11), 3) := by decide +kernel
theorem d_Sets_init_44 : decode prog_8_method_1_code 44 = .ok (.aload_n 0, 1) := by decide +kernel
theorem d_Sets_init_45 : decode prog_8_method_1_code 45 = .ok (.iload_n 3, 1) := by decide +kernel
theorem d_Sets_init_46 : decode prog_8_method_1_code 46 = .ok (.newarray .int, 2) := by decide +kernel
theorem d_Sets_init_48 : decode prog_8_method_1_code 48 = .ok (.putfield 22, 3) := by decide +kernel
theorem d_Sets_init_51 : decode prog_8_method_1_code 51 = .ok (.return_, 1) := by decide +kernel
abbrev m_c1_Sets_init : Room := { frames := 1, cells := 2, slots := 72, locals := 12 }
set_option maxHeartbeats 4000000 in
set_option maxRecDepth 100000 in
theorem c1_Sets_init (l : Launch) (G : zG) (b0 : Nat)  : zM l G y_Sets_init prog_8_method_1_code 4 (Option.none : Option Jvm.ClassFile.FieldType) m_c1_Sets_init [.ref b0, .int 10, .int 1] [(b0, .inr (6, [.int 0, .int 0, .int 0, .null, .null]))] (fun v w => (∃ (e0 : Nat), ∃ (e1 : Nat), v = none ∧ w = [(b0, .inr (6, [.int 0, .int 4, .int 10, .ref e0, .ref e1])), (e0, .inl (G.2 1, 40, .inr (.inl (fun _ => 0)))), (e1, .inl (G.2 0, 32, .inl (fun _ => 0)))])) := by
  refine z_start (by decide +kernel) (Nat.le_of_ble_eq_true rfl) ?_
  intro p e s m below meth c A Z hr hnm hA hP hD hS ls hl
  have Z : zC p s m _ meth c prog_8_method_1_code 4 "TraceMachines$StateSets" G := Z
  obtain ⟨hx, hb, hml, hown, hts, hK, hN, hlocks⟩ := id Z
  have hl : lv_has ls 4 [(0, .ref b0), (1, .int 10), (2, .int 1)] := hl
  refine lv_aload_n hx hb d_Sets_init_0 rfl (lv_at hl 0 rfl) ?_
  refine W.objInit hx hb hown (hts _ q238) (hts _ q29) (hts _ q30) rfl (by rw [hml]; exact hl.1) rfl d_Sets_init_1 (Nat.le_of_ble_eq_true rfl) (Nat.le_of_ble_eq_true rfl) ?_
  refine W.eq (g2 := F0 m 4 ls []) rfl ?_
  refine lv_aload_n hx hb d_Sets_init_4 rfl (lv_at hl 0 rfl) ?_
  refine lv_iload_n hx hb d_Sets_init_5 rfl (lv_at hl 1 rfl) ?_
  refine va_putF (D := G.1) (ci := 6) (v := .int 10) (ty := .int) (C := R_Sets) (T := F_Sets) (N := 5) hx hb hts i_Sets t_Sets t_Sets_ok n_Sets hown hK hP hD hS 0 rfl rfl 2 (by decide) (hts _ q243) (fun _ h9 => h9) rfl hnm rfl (by decide +kernel) rfl rfl (Nat.le_of_ble_eq_true rfl) d_Sets_init_6 (fun H locs hP hD hS => ?_)
  have hP : va_P G.1 classes [(b0, .inr (6, [.int 0, .int 0, .int 10, .null, .null]))] H := hP
  have hD := z_tie hP hD rfl
  refine lv_aload_n hx hb d_Sets_init_9 rfl (lv_at hl 0 rfl) ?_
  refine lv_iload_n hx hb d_Sets_init_10 rfl (lv_at hl 2 rfl) ?_
  refine lv_iconst (v := 4) hx hb d_Sets_init_11 (by decide) ?_
  refine lv_imul hx hb d_Sets_init_12 ?_
  refine z_topi (y := 4) (by decide +kernel) ?_
  refine va_putF (D := G.1) (ci := 6) (v := .int 4) (ty := .int) (C := R_Sets) (T := F_Sets) (N := 5) hx hb hts i_Sets t_Sets t_Sets_ok n_Sets hown hK hP hD hS 0 rfl rfl 1 (by decide) (hts _ q242) (fun _ h9 => h9) rfl hnm rfl (by decide +kernel) rfl rfl (Nat.le_of_ble_eq_true rfl) d_Sets_init_13 (fun H locs hP hD hS => ?_)
  have hP : va_P G.1 classes [(b0, .inr (6, [.int 0, .int 4, .int 10, .null, .null]))] H := hP
  have hD := z_tie hP hD rfl
  refine lv_aload_n hx hb d_Sets_init_16 rfl (lv_at hl 0 rfl) ?_
  refine lv_iload_n hx hb d_Sets_init_17 rfl (lv_at hl 1 rfl) ?_
  refine lv_aload_n hx hb d_Sets_init_18 rfl (lv_at hl 0 rfl) ?_
  refine va_get (D := G.1) (ci := 6) (v := .int 4) (C := R_Sets) (T := F_Sets) (N := 5) hx hb hts i_Sets hown hK hP 0 rfl rfl 1 (by decide) (hts _ q242) (fun _ h9 => h9) rfl d_Sets_init_19 ?_
  refine lv_imul hx hb d_Sets_init_22 ?_
  refine z_topi (y := 40) (by decide +kernel) ?_
  refine z_newa (atype := .long) (ty := .long) (a0 := (40, .inr (.inl (fun _ => 0)))) Z hP hD hS hA q232 rfl 1 rfl (fun _ h => by cases h) (fun _ => by rfl) (by decide +kernel) (N' := 40) (by decide +kernel) (by decide +kernel) (Nat.le_of_ble_eq_true rfl) (Nat.le_of_ble_eq_true rfl) d_Sets_init_23 (fun q_1 H hP hD hS => ?_)
  have hP : va_P G.1 classes [(b0, .inr (6, [.int 0, .int 4, .int 10, .null, .null])), (q_1, .inl (G.2 1, 40, .inr (.inl (fun _ => 0))))] H := hP
  have hD := z_tie hP hD rfl
  refine W.widen (k := 1) (n := 40) (Nat.le_of_ble_eq_true rfl) (Nat.le_of_ble_eq_true rfl) ?_
  refine va_putF (D := G.1) (ci := 6) (v := .ref q_1) (ty := .array .long) (C := R_Sets) (T := F_Sets) (N := 5) hx hb hts i_Sets t_Sets t_Sets_ok n_Sets hown hK hP hD hS 0 rfl rfl 3 (by decide) (hts _ q244) (fun _ h9 => h9) rfl hnm rfl (by decide +kernel) rfl rfl (Nat.le_of_ble_eq_true rfl) d_Sets_init_25 (fun H locs hP hD hS => ?_)
  have hP : va_P G.1 classes [(b0, .inr (6, [.int 0, .int 4, .int 10, .ref q_1, .null])), (q_1, .inl (G.2 1, 40, .inr (.inl (fun _ => 0))))] H := hP
  have hD := z_tie hP hD rfl
  refine lv_iconst (v := 2) hx hb d_Sets_init_28 (by decide) ?_
  refine lv_istore_n (lv' := [(3, .int 2), (0, .ref b0), (1, .int 10), (2, .int 1)]) hx hb d_Sets_init_29 rfl hl (by decide) rfl (fun ls hl => ?_)
  refine lv_iload_n hx hb d_Sets_init_30 rfl (lv_at hl 0 rfl) ?_
  refine lv_iconst (v := 2) hx hb d_Sets_init_31 (by decide) ?_
  refine lv_iload_n hx hb d_Sets_init_32 rfl (lv_at hl 2 rfl) ?_
  refine lv_imul hx hb d_Sets_init_33 ?_
  refine z_topi (y := 20) (by decide +kernel) ?_
  refine lv_icmp_ge (tgt := 44) hx hb d_Sets_init_34 (by decide) (fun hc => absurd hc (by decide +kernel)) (fun _ => ?_)
  refine lv_iconst (v := 2) hx hb d_Sets_init_37 (by decide) ?_
  refine lv_iload_n hx hb d_Sets_init_38 rfl (lv_at hl 0 rfl) ?_
  refine lv_imul hx hb d_Sets_init_39 ?_
  refine z_topi (y := 4) (by decide +kernel) ?_
  refine lv_istore_n (lv' := [(3, .int 4), (0, .ref b0), (1, .int 10), (2, .int 1)]) hx hb d_Sets_init_40 rfl hl (by decide) rfl (fun ls hl => ?_)
  refine lv_goto (tgt := 30) hx hb d_Sets_init_41 (by decide) ?_
  refine lv_iload_n hx hb d_Sets_init_30 rfl (lv_at hl 0 rfl) ?_
  refine lv_iconst (v := 2) hx hb d_Sets_init_31 (by decide) ?_
  refine lv_iload_n hx hb d_Sets_init_32 rfl (lv_at hl 2 rfl) ?_
  refine lv_imul hx hb d_Sets_init_33 ?_
  refine z_topi (y := 20) (by decide +kernel) ?_
  refine lv_icmp_ge (tgt := 44) hx hb d_Sets_init_34 (by decide) (fun hc => absurd hc (by decide +kernel)) (fun _ => ?_)
  refine lv_iconst (v := 2) hx hb d_Sets_init_37 (by decide) ?_
  refine lv_iload_n hx hb d_Sets_init_38 rfl (lv_at hl 0 rfl) ?_
  refine lv_imul hx hb d_Sets_init_39 ?_
  refine z_topi (y := 8) (by decide +kernel) ?_
  refine lv_istore_n (lv' := [(3, .int 8), (0, .ref b0), (1, .int 10), (2, .int 1)]) hx hb d_Sets_init_40 rfl hl (by decide) rfl (fun ls hl => ?_)
  refine lv_goto (tgt := 30) hx hb d_Sets_init_41 (by decide) ?_
  refine lv_iload_n hx hb d_Sets_init_30 rfl (lv_at hl 0 rfl) ?_
  refine lv_iconst (v := 2) hx hb d_Sets_init_31 (by decide) ?_
  refine lv_iload_n hx hb d_Sets_init_32 rfl (lv_at hl 2 rfl) ?_
  refine lv_imul hx hb d_Sets_init_33 ?_
  refine z_topi (y := 20) (by decide +kernel) ?_
  refine lv_icmp_ge (tgt := 44) hx hb d_Sets_init_34 (by decide) (fun hc => absurd hc (by decide +kernel)) (fun _ => ?_)
  refine lv_iconst (v := 2) hx hb d_Sets_init_37 (by decide) ?_
  refine lv_iload_n hx hb d_Sets_init_38 rfl (lv_at hl 0 rfl) ?_
  refine lv_imul hx hb d_Sets_init_39 ?_
  refine z_topi (y := 16) (by decide +kernel) ?_
  refine lv_istore_n (lv' := [(3, .int 16), (0, .ref b0), (1, .int 10), (2, .int 1)]) hx hb d_Sets_init_40 rfl hl (by decide) rfl (fun ls hl => ?_)
  refine lv_goto (tgt := 30) hx hb d_Sets_init_41 (by decide) ?_
  refine lv_iload_n hx hb d_Sets_init_30 rfl (lv_at hl 0 rfl) ?_
  refine lv_iconst (v := 2) hx hb d_Sets_init_31 (by decide) ?_
  refine lv_iload_n hx hb d_Sets_init_32 rfl (lv_at hl 2 rfl) ?_
  refine lv_imul hx hb d_Sets_init_33 ?_
  refine z_topi (y := 20) (by decide +kernel) ?_
  refine lv_icmp_ge (tgt := 44) hx hb d_Sets_init_34 (by decide) (fun hc => absurd hc (by decide +kernel)) (fun _ => ?_)
  refine lv_iconst (v := 2) hx hb d_Sets_init_37 (by decide) ?_
  refine lv_iload_n hx hb d_Sets_init_38 rfl (lv_at hl 0 rfl) ?_
  refine lv_imul hx hb d_Sets_init_39 ?_
  refine z_topi (y := 32) (by decide +kernel) ?_
  refine lv_istore_n (lv' := [(3, .int 32), (0, .ref b0), (1, .int 10), (2, .int 1)]) hx hb d_Sets_init_40 rfl hl (by decide) rfl (fun ls hl => ?_)
  refine lv_goto (tgt := 30) hx hb d_Sets_init_41 (by decide) ?_
  refine lv_iload_n hx hb d_Sets_init_30 rfl (lv_at hl 0 rfl) ?_
  refine lv_iconst (v := 2) hx hb d_Sets_init_31 (by decide) ?_
  refine lv_iload_n hx hb d_Sets_init_32 rfl (lv_at hl 2 rfl) ?_
  refine lv_imul hx hb d_Sets_init_33 ?_
  refine z_topi (y := 20) (by decide +kernel) ?_
  refine lv_icmp_ge (tgt := 44) hx hb d_Sets_init_34 (by decide) (fun _ => ?_) (fun hc => absurd hc (by decide +kernel))
  refine lv_aload_n hx hb d_Sets_init_44 rfl (lv_at hl 1 rfl) ?_
  refine lv_iload_n hx hb d_Sets_init_45 rfl (lv_at hl 0 rfl) ?_
  refine z_newa (atype := .int) (ty := .int) (a0 := (32, .inl (fun _ => 0))) Z hP hD hS hA q87 rfl 0 rfl (fun _ h => by cases h) (fun _ => by rfl) (by decide +kernel) (N' := 32) (by decide +kernel) (by decide +kernel) (Nat.le_of_ble_eq_true rfl) (Nat.le_of_ble_eq_true rfl) d_Sets_init_46 (fun q_2 H hP hD hS => ?_)
  have hP : va_P G.1 classes [(b0, .inr (6, [.int 0, .int 4, .int 10, .ref q_1, .null])), (q_1, .inl (G.2 1, 40, .inr (.inl (fun _ => 0)))), (q_2, .inl (G.2 0, 32, .inl (fun _ => 0)))] H := hP
  have hD := z_tie hP hD rfl
  refine W.widen (k := 2) (n := 72) (Nat.le_of_ble_eq_true rfl) (Nat.le_of_ble_eq_true rfl) ?_
  refine va_putF (D := G.1) (ci := 6) (v := .ref q_2) (ty := .array .int) (C := R_Sets) (T := F_Sets) (N := 5) hx hb hts i_Sets t_Sets t_Sets_ok n_Sets hown hK hP hD hS 0 rfl rfl 4 (by decide) (hts _ q245) (fun _ h9 => h9) rfl hnm rfl (by decide +kernel) rfl rfl (Nat.le_of_ble_eq_true rfl) d_Sets_init_48 (fun H locs hP hD hS => ?_)
  have hP : va_P G.1 classes [(b0, .inr (6, [.int 0, .int 4, .int 10, .ref q_1, .ref q_2])), (q_1, .inl (G.2 1, 40, .inr (.inl (fun _ => 0)))), (q_2, .inl (G.2 0, 32, .inl (fun _ => 0)))] H := hP
  have hD := z_tie hP hD rfl
  exact z_vret hx hb hr hlocks hP hD hS (Nat.le_of_ble_eq_true rfl) (Nat.le_of_ble_eq_true rfl) d_Sets_init_51 ⟨q_1, q_2, rfl, rfl⟩
theorem d_Words_init_23 : decode prog_12_method_1_code 23 = .ok (.putfield 20, 3) := by decide +kernel
theorem d_Words_init_26 : decode prog_12_method_1_code 26 = .ok (.aload_n 0, 1) := by decide +kernel
theorem d_Words_init_27 : decode prog_12_method_1_code 27 = .ok (.new 15, 3) := by decide +kernel
theorem d_Words_init_30 : decode prog_12_method_1_code 30 = .ok (.dup, 1) := by decide +kernel
theorem d_Words_init_31 : decode prog_12_method_1_code 31 = .ok (.bipush 100, 2) := by decide +kernel
theorem d_Words_init_33 : decode prog_12_method_1_code 33 = .ok (.iconst 1, 1) := by decide +kernel
theorem d_Words_init_34 : decode prog_12_method_1_code 34 = .ok (.invokespecial 17, 3) := by decide +kernel
abbrev m_c2_Sets_init : Room := { frames := 1, cells := 2, slots := 656, locals := 12 }
set_option maxHeartbeats 4000000 in
set_option maxRecDepth 100000 in
theorem c2_Sets_init (l : Launch) (G : zG) (b0 : Nat)  : zM l G y_Sets_init prog_8_method_1_code 4 (Option.none : Option Jvm.ClassFile.FieldType) m_c2_Sets_init [.ref b0, .int 100, .int 1] [(b0, .inr (6, [.int 0, .int 0, .int 0, .null, .null]))] (fun v w => (∃ (e0 : Nat), ∃ (e1 : Nat), v = none ∧ w = [(b0, .inr (6, [.int 0, .int 4, .int 100, .ref e0, .ref e1])), (e0, .inl (G.2 1, 400, .inr (.inl (fun _ => 0)))), (e1, .inl (G.2 0, 256, .inl (fun _ => 0)))])) := by
  refine z_start (by decide +kernel) (Nat.le_of_ble_eq_true rfl) ?_
  intro p e s m below meth c A Z hr hnm hA hP hD hS ls hl
  have Z : zC p s m _ meth c prog_8_method_1_code 4 "TraceMachines$StateSets" G := Z
  obtain ⟨hx, hb, hml, hown, hts, hK, hN, hlocks⟩ := id Z
  have hl : lv_has ls 4 [(0, .ref b0), (1, .int 100), (2, .int 1)] := hl
  refine lv_aload_n hx hb d_Sets_init_0 rfl (lv_at hl 0 rfl) ?_
  refine W.objInit hx hb hown (hts _ q238) (hts _ q29) (hts _ q30) rfl (by rw [hml]; exact hl.1) rfl d_Sets_init_1 (Nat.le_of_ble_eq_true rfl) (Nat.le_of_ble_eq_true rfl) ?_
  refine W.eq (g2 := F0 m 4 ls []) rfl ?_
  refine lv_aload_n hx hb d_Sets_init_4 rfl (lv_at hl 0 rfl) ?_
  refine lv_iload_n hx hb d_Sets_init_5 rfl (lv_at hl 1 rfl) ?_
  refine va_putF (D := G.1) (ci := 6) (v := .int 100) (ty := .int) (C := R_Sets) (T := F_Sets) (N := 5) hx hb hts i_Sets t_Sets t_Sets_ok n_Sets hown hK hP hD hS 0 rfl rfl 2 (by decide) (hts _ q243) (fun _ h9 => h9) rfl hnm rfl (by decide +kernel) rfl rfl (Nat.le_of_ble_eq_true rfl) d_Sets_init_6 (fun H locs hP hD hS => ?_)
  have hP : va_P G.1 classes [(b0, .inr (6, [.int 0, .int 0, .int 100, .null, .null]))] H := hP
  have hD := z_tie hP hD rfl
  refine lv_aload_n hx hb d_Sets_init_9 rfl (lv_at hl 0 rfl) ?_
  refine lv_iload_n hx hb d_Sets_init_10 rfl (lv_at hl 2 rfl) ?_
  refine lv_iconst (v := 4) hx hb d_Sets_init_11 (by decide) ?_
  refine lv_imul hx hb d_Sets_init_12 ?_
  refine z_topi (y := 4) (by decide +kernel) ?_
  refine va_putF (D := G.1) (ci := 6) (v := .int 4) (ty := .int) (C := R_Sets) (T := F_Sets) (N := 5) hx hb hts i_Sets t_Sets t_Sets_ok n_Sets hown hK hP hD hS 0 rfl rfl 1 (by decide) (hts _ q242) (fun _ h9 => h9) rfl hnm rfl (by decide +kernel) rfl rfl (Nat.le_of_ble_eq_true rfl) d_Sets_init_13 (fun H locs hP hD hS => ?_)
  have hP : va_P G.1 classes [(b0, .inr (6, [.int 0, .int 4, .int 100, .null, .null]))] H := hP
  have hD := z_tie hP hD rfl
  refine lv_aload_n hx hb d_Sets_init_16 rfl (lv_at hl 0 rfl) ?_
  refine lv_iload_n hx hb d_Sets_init_17 rfl (lv_at hl 1 rfl) ?_
  refine lv_aload_n hx hb d_Sets_init_18 rfl (lv_at hl 0 rfl) ?_
  refine va_get (D := G.1) (ci := 6) (v := .int 4) (C := R_Sets) (T := F_Sets) (N := 5) hx hb hts i_Sets hown hK hP 0 rfl rfl 1 (by decide) (hts _ q242) (fun _ h9 => h9) rfl d_Sets_init_19 ?_
  refine lv_imul hx hb d_Sets_init_22 ?_
  refine z_topi (y := 400) (by decide +kernel) ?_
  refine z_newa (atype := .long) (ty := .long) (a0 := (400, .inr (.inl (fun _ => 0)))) Z hP hD hS hA q232 rfl 1 rfl (fun _ h => by cases h) (fun _ => by rfl) (by decide +kernel) (N' := 400) (by decide +kernel) (by decide +kernel) (Nat.le_of_ble_eq_true rfl) (Nat.le_of_ble_eq_true rfl) d_Sets_init_23 (fun q_1 H hP hD hS => ?_)
  have hP : va_P G.1 classes [(b0, .inr (6, [.int 0, .int 4, .int 100, .null, .null])), (q_1, .inl (G.2 1, 400, .inr (.inl (fun _ => 0))))] H := hP
  have hD := z_tie hP hD rfl
  refine W.widen (k := 1) (n := 400) (Nat.le_of_ble_eq_true rfl) (Nat.le_of_ble_eq_true rfl) ?_
  refine va_putF (D := G.1) (ci := 6) (v := .ref q_1) (ty := .array .long) (C := R_Sets) (T := F_Sets) (N := 5) hx hb hts i_Sets t_Sets t_Sets_ok n_Sets hown hK hP hD hS 0 rfl rfl 3 (by decide) (hts _ q244) (fun _ h9 => h9) rfl hnm rfl (by decide +kernel) rfl rfl (Nat.le_of_ble_eq_true rfl) d_Sets_init_25 (fun H locs hP hD hS => ?_)
  have hP : va_P G.1 classes [(b0, .inr (6, [.int 0, .int 4, .int 100, .ref q_1, .null])), (q_1, .inl (G.2 1, 400, .inr (.inl (fun _ => 0))))] H := hP
  have hD := z_tie hP hD rfl
  refine lv_iconst (v := 2) hx hb d_Sets_init_28 (by decide) ?_
  refine lv_istore_n (lv' := [(3, .int 2), (0, .ref b0), (1, .int 100), (2, .int 1)]) hx hb d_Sets_init_29 rfl hl (by decide) rfl (fun ls hl => ?_)
  refine lv_iload_n hx hb d_Sets_init_30 rfl (lv_at hl 0 rfl) ?_
  refine lv_iconst (v := 2) hx hb d_Sets_init_31 (by decide) ?_
  refine lv_iload_n hx hb d_Sets_init_32 rfl (lv_at hl 2 rfl) ?_
  refine lv_imul hx hb d_Sets_init_33 ?_
  refine z_topi (y := 200) (by decide +kernel) ?_
  refine lv_icmp_ge (tgt := 44) hx hb d_Sets_init_34 (by decide) (fun hc => absurd hc (by decide +kernel)) (fun _ => ?_)
  refine lv_iconst (v := 2) hx hb d_Sets_init_37 (by decide) ?_
  refine lv_iload_n hx hb d_Sets_init_38 rfl (lv_at hl 0 rfl) ?_
  refine lv_imul hx hb d_Sets_init_39 ?_
  refine z_topi (y := 4) (by decide +kernel) ?_
  refine lv_istore_n (lv' := [(3, .int 4), (0, .ref b0), (1, .int 100), (2, .int 1)]) hx hb d_Sets_init_40 rfl hl (by decide) rfl (fun ls hl => ?_)
  refine lv_goto (tgt := 30) hx hb d_Sets_init_41 (by decide) ?_
  refine lv_iload_n hx hb d_Sets_init_30 rfl (lv_at hl 0 rfl) ?_
  refine lv_iconst (v := 2) hx hb d_Sets_init_31 (by decide) ?_
  refine lv_iload_n hx hb d_Sets_init_32 rfl (lv_at hl 2 rfl) ?_
  refine lv_imul hx hb d_Sets_init_33 ?_
  refine z_topi (y := 200) (by decide +kernel) ?_
  refine lv_icmp_ge (tgt := 44) hx hb d_Sets_init_34 (by decide) (fun hc => absurd hc (by decide +kernel)) (fun _ => ?_)
  refine lv_iconst (v := 2) hx hb d_Sets_init_37 (by decide) ?_
  refine lv_iload_n hx hb d_Sets_init_38 rfl (lv_at hl 0 rfl) ?_
  refine lv_imul hx hb d_Sets_init_39 ?_
  refine z_topi (y := 8) (by decide +kernel) ?_
  refine lv_istore_n (lv' := [(3, .int 8), (0, .ref b0), (1, .int 100), (2, .int 1)]) hx hb d_Sets_init_40 rfl hl (by decide) rfl (fun ls hl => ?_)
  refine lv_goto (tgt := 30) hx hb d_Sets_init_41 (by decide) ?_
  refine lv_iload_n hx hb d_Sets_init_30 rfl (lv_at hl 0 rfl) ?_
  refine lv_iconst (v := 2) hx hb d_Sets_init_31 (by decide) ?_
  refine lv_iload_n hx hb d_Sets_init_32 rfl (lv_at hl 2 rfl) ?_
  refine lv_imul hx hb d_Sets_init_33 ?_
  refine z_topi (y := 200) (by decide +kernel) ?_
  refine lv_icmp_ge (tgt := 44) hx hb d_Sets_init_34 (by decide) (fun hc => absurd hc (by decide +kernel)) (fun _ => ?_)
  refine lv_iconst (v := 2) hx hb d_Sets_init_37 (by decide) ?_
  refine lv_iload_n hx hb d_Sets_init_38 rfl (lv_at hl 0 rfl) ?_
  refine lv_imul hx hb d_Sets_init_39 ?_
  refine z_topi (y := 16) (by decide +kernel) ?_
  refine lv_istore_n (lv' := [(3, .int 16), (0, .ref b0), (1, .int 100), (2, .int 1)]) hx hb d_Sets_init_40 rfl hl (by decide) rfl (fun ls hl => ?_)
  refine lv_goto (tgt := 30) hx hb d_Sets_init_41 (by decide) ?_
  refine lv_iload_n hx hb d_Sets_init_30 rfl (lv_at hl 0 rfl) ?_
  refine lv_iconst (v := 2) hx hb d_Sets_init_31 (by decide) ?_
  refine lv_iload_n hx hb d_Sets_init_32 rfl (lv_at hl 2 rfl) ?_
  refine lv_imul hx hb d_Sets_init_33 ?_
  refine z_topi (y := 200) (by decide +kernel) ?_
  refine lv_icmp_ge (tgt := 44) hx hb d_Sets_init_34 (by decide) (fun hc => absurd hc (by decide +kernel)) (fun _ => ?_)
  refine lv_iconst (v := 2) hx hb d_Sets_init_37 (by decide) ?_
  refine lv_iload_n hx hb d_Sets_init_38 rfl (lv_at hl 0 rfl) ?_
  refine lv_imul hx hb d_Sets_init_39 ?_
  refine z_topi (y := 32) (by decide +kernel) ?_
  refine lv_istore_n (lv' := [(3, .int 32), (0, .ref b0), (1, .int 100), (2, .int 1)]) hx hb d_Sets_init_40 rfl hl (by decide) rfl (fun ls hl => ?_)
  refine lv_goto (tgt := 30) hx hb d_Sets_init_41 (by decide) ?_
  refine lv_iload_n hx hb d_Sets_init_30 rfl (lv_at hl 0 rfl) ?_
  refine lv_iconst (v := 2) hx hb d_Sets_init_31 (by decide) ?_
  refine lv_iload_n hx hb d_Sets_init_32 rfl (lv_at hl 2 rfl) ?_
  refine lv_imul hx hb d_Sets_init_33 ?_
  refine z_topi (y := 200) (by decide +kernel) ?_
  refine lv_icmp_ge (tgt := 44) hx hb d_Sets_init_34 (by decide) (fun hc => absurd hc (by decide +kernel)) (fun _ => ?_)
  refine lv_iconst (v := 2) hx hb d_Sets_init_37 (by decide) ?_
  refine lv_iload_n hx hb d_Sets_init_38 rfl (lv_at hl 0 rfl) ?_
  refine lv_imul hx hb d_Sets_init_39 ?_
  refine z_topi (y := 64) (by decide +kernel) ?_
  refine lv_istore_n (lv' := [(3, .int 64), (0, .ref b0), (1, .int 100), (2, .int 1)]) hx hb d_Sets_init_40 rfl hl (by decide) rfl (fun ls hl => ?_)
  refine lv_goto (tgt := 30) hx hb d_Sets_init_41 (by decide) ?_
  refine lv_iload_n hx hb d_Sets_init_30 rfl (lv_at hl 0 rfl) ?_
  refine lv_iconst (v := 2) hx hb d_Sets_init_31 (by decide) ?_
  refine lv_iload_n hx hb d_Sets_init_32 rfl (lv_at hl 2 rfl) ?_
  refine lv_imul hx hb d_Sets_init_33 ?_
  refine z_topi (y := 200) (by decide +kernel) ?_
  refine lv_icmp_ge (tgt := 44) hx hb d_Sets_init_34 (by decide) (fun hc => absurd hc (by decide +kernel)) (fun _ => ?_)
  refine lv_iconst (v := 2) hx hb d_Sets_init_37 (by decide) ?_
  refine lv_iload_n hx hb d_Sets_init_38 rfl (lv_at hl 0 rfl) ?_
  refine lv_imul hx hb d_Sets_init_39 ?_
  refine z_topi (y := 128) (by decide +kernel) ?_
  refine lv_istore_n (lv' := [(3, .int 128), (0, .ref b0), (1, .int 100), (2, .int 1)]) hx hb d_Sets_init_40 rfl hl (by decide) rfl (fun ls hl => ?_)
  refine lv_goto (tgt := 30) hx hb d_Sets_init_41 (by decide) ?_
  refine lv_iload_n hx hb d_Sets_init_30 rfl (lv_at hl 0 rfl) ?_
  refine lv_iconst (v := 2) hx hb d_Sets_init_31 (by decide) ?_
  refine lv_iload_n hx hb d_Sets_init_32 rfl (lv_at hl 2 rfl) ?_
  refine lv_imul hx hb d_Sets_init_33 ?_
  refine z_topi (y := 200) (by decide +kernel) ?_
  refine lv_icmp_ge (tgt := 44) hx hb d_Sets_init_34 (by decide) (fun hc => absurd hc (by decide +kernel)) (fun _ => ?_)
  refine lv_iconst (v := 2) hx hb d_Sets_init_37 (by decide) ?_
  refine lv_iload_n hx hb d_Sets_init_38 rfl (lv_at hl 0 rfl) ?_
  refine lv_imul hx hb d_Sets_init_39 ?_
  refine z_topi (y := 256) (by decide +kernel) ?_
  refine lv_istore_n (lv' := [(3, .int 256), (0, .ref b0), (1, .int 100), (2, .int 1)]) hx hb d_Sets_init_40 rfl hl (by decide) rfl (fun ls hl => ?_)
  refine lv_goto (tgt := 30) hx hb d_Sets_init_41 (by decide) ?_
  refine lv_iload_n hx hb d_Sets_init_30 rfl (lv_at hl 0 rfl) ?_
  refine lv_iconst (v := 2) hx hb d_Sets_init_31 (by decide) ?_
  refine lv_iload_n hx hb d_Sets_init_32 rfl (lv_at hl 2 rfl) ?_
  refine lv_imul hx hb d_Sets_init_33 ?_
  refine z_topi (y := 200) (by decide +kernel) ?_
  refine lv_icmp_ge (tgt := 44) hx hb d_Sets_init_34 (by decide) (fun _ => ?_) (fun hc => absurd hc (by decide +kernel))
  refine lv_aload_n hx hb d_Sets_init_44 rfl (lv_at hl 1 rfl) ?_
  refine lv_iload_n hx hb d_Sets_init_45 rfl (lv_at hl 0 rfl) ?_
  refine z_newa (atype := .int) (ty := .int) (a0 := (256, .inl (fun _ => 0))) Z hP hD hS hA q87 rfl 0 rfl (fun _ h => by cases h) (fun _ => by rfl) (by decide +kernel) (N' := 256) (by decide +kernel) (by decide +kernel) (Nat.le_of_ble_eq_true rfl) (Nat.le_of_ble_eq_true rfl) d_Sets_init_46 (fun q_2 H hP hD hS => ?_)
  have hP : va_P G.1 classes [(b0, .inr (6, [.int 0, .int 4, .int 100, .ref q_1, .null])), (q_1, .inl (G.2 1, 400, .inr (.inl (fun _ => 0)))), (q_2, .inl (G.2 0, 256, .inl (fun _ => 0)))] H := hP
  have hD := z_tie hP hD rfl
  refine W.widen (k := 2) (n := 656) (Nat.le_of_ble_eq_true rfl) (Nat.le_of_ble_eq_true rfl) ?_
  refine va_putF (D := G.1) (ci := 6) (v := .ref q_2) (ty := .array .int) (C := R_Sets) (T := F_Sets) (N := 5) hx hb hts i_Sets t_Sets t_Sets_ok n_Sets hown hK hP hD hS 0 rfl rfl 4 (by decide) (hts _ q245) (fun _ h9 => h9) rfl hnm rfl (by decide +kernel) rfl rfl (Nat.le_of_ble_eq_true rfl) d_Sets_init_48 (fun H locs hP hD hS => ?_)
  have hP : va_P G.1 classes [(b0, .inr (6, [.int 0, .int 4, .int 100, .ref q_1, .ref q_2])), (q_1, .inl (G.2 1, 400, .inr (.inl (fun _ => 0)))), (q_2, .inl (G.2 0, 256, .inl (fun _ => 0)))] H := hP
  have hD := z_tie hP hD rfl
  exact z_vret hx hb hr hlocks hP hD hS (Nat.le_of_ble_eq_true rfl) (Nat.le_of_ble_eq_true rfl) d_Sets_init_51 ⟨q_1, q_2, rfl, rfl⟩
theorem d_Words_init_37 : decode prog_12_method_1_code 37 = .ok (.putfield 24, 3) := by decide +kernel
theorem d_Words_init_40 : decode prog_12_method_1_code 40 = .ok (.aload_n 0, 1) := by decide +kernel
theorem d_Words_init_41 : decode prog_12_method_1_code 41 = .ok (.new 15, 3) := by decide +kernel
theorem d_Words_init_44 : decode prog_12_method_1_code 44 = .ok (.dup, 1) := by decide +kernel
theorem d_Words_init_45 : decode prog_12_method_1_code 45 = .ok (.bipush 100, 2) := by decide +kernel
theorem d_Words_init_47 : decode prog_12_method_1_code 47 = .ok (.iconst 1, 1) := by decide +kernel
theorem d_Words_init_48 : decode prog_12_method_1_code 48 = .ok (.invokespecial 17, 3) := by decide +kernel
theorem d_Words_init_51 : decode prog_12_method_1_code 51 = .ok (.putfield 27, 3) := by decide +kernel
theorem d_Words_init_54 : decode prog_12_method_1_code 54 = .ok (.aload_n 0, 1) := by decide +kernel
theorem d_Words_init_55 : decode prog_12_method_1_code 55 = .ok (.bipush 100, 2) := by decide +kernel
theorem d_Words_init_57 : decode prog_12_method_1_code 57 = .ok (.newarray .int, 2) := by decide +kernel
theorem d_Words_init_59 : decode prog_12_method_1_code 59 = .ok (.putfield 30, 3) := by decide +kernel
theorem d_Words_init_62 : decode prog_12_method_1_code 62 = .ok (.aload_n 0, 1) := by decide +kernel
theorem d_Words_init_63 : decode prog_12_method_1_code 63 = .ok (.bipush 100, 2) := by decide +kernel
theorem d_Words_init_65 : decode prog_12_method_1_code 65 = .ok (.newarray .int, 2) := by decide +kernel
theorem d_Words_init_67 : decode prog_12_method_1_code 67 = .ok (.putfield 33, 3) := by decide +kernel
theorem d_Words_init_70 : decode prog_12_method_1_code 70 = .ok (.aload_n 0, 1) := by decide +kernel
theorem d_Words_init_71 : decode prog_12_method_1_code 71 = .ok (.sipush 241, 3) := by decide +kernel
theorem d_Words_init_74 : decode prog_12_method_1_code 74 = .ok (.newarray .int, 2) := by decide +kernel
theorem d_Words_init_76 : decode prog_12_method_1_code 76 = .ok (.putfield 36, 3) := by decide +kernel
theorem d_Words_init_79 : decode prog_12_method_1_code 79 = .ok (.aload_n 0, 1) := by decide +kernel
theorem d_Words_init_80 : decode prog_12_method_1_code 80 = .ok (.sipush 241, 3) := by decide +kernel
theorem d_Words_init_83 : decode prog_12_method_1_code 83 = .ok (.newarray .int, 2) := by decide +kernel
theorem d_Words_init_85 : decode prog_12_method_1_code 85 = .ok (.putfield 39, 3) := by decide +kernel
theorem d_Words_init_88 : decode prog_12_method_1_code 88 = .ok (.return_, 1) := by decide +kernel
abbrev m_c_Words_init : Room := { frames := 2, cells := 14, slots := 2093, locals := 35 }
set_option maxHeartbeats 4000000 in
set_option maxRecDepth 100000 in
theorem c_Words_init (l : Launch) (G : zG) (h0 : Nat)  : zM l G y_Words_init prog_12_method_1_code 1 (Option.none : Option Jvm.ClassFile.FieldType) m_c_Words_init [.ref h0] [(h0, .inr (7, [.null, .null, .null, .null, .null, .null, .null, .null]))] (fun v w => (∃ (e0 : Nat), ∃ (e1 : Nat), ∃ (e2 : Nat), ∃ (e3 : Nat), ∃ (e4 : Nat), ∃ (e5 : Nat), ∃ (e6 : Nat), ∃ (e7 : Nat), ∃ (e8 : Nat), ∃ (e9 : Nat), ∃ (e10 : Nat), ∃ (e11 : Nat), ∃ (e12 : Nat), ∃ (e13 : Nat), v = none ∧ w = [(h0, .inr (7, [.ref e0, .ref e1, .ref e2, .ref e3, .ref e4, .ref e5, .ref e6, .ref e7])), (e0, .inl (G.2 0, 12, .inl (fun _ => 0))), (e1, .inr (6, [.int 0, .int 4, .int 10, .ref e8, .ref e9])), (e8, .inl (G.2 1, 40, .inr (.inl (fun _ => 0)))), (e9, .inl (G.2 0, 32, .inl (fun _ => 0))), (e2, .inr (6, [.int 0, .int 4, .int 100, .ref e10, .ref e11])), (e10, .inl (G.2 1, 400, .inr (.inl (fun _ => 0)))), (e11, .inl (G.2 0, 256, .inl (fun _ => 0))), (e3, .inr (6, [.int 0, .int 4, .int 100, .ref e12, .ref e13])), (e12, .inl (G.2 1, 400, .inr (.inl (fun _ => 0)))), (e13, .inl (G.2 0, 256, .inl (fun _ => 0))), (e4, .inl (G.2 0, 100, .inl (fun _ => 0))), (e5, .inl (G.2 0, 100, .inl (fun _ => 0))), (e6, .inl (G.2 0, 241, .inl (fun _ => 0))), (e7, .inl (G.2 0, 241, .inl (fun _ => 0)))])) := by
  refine z_start (by decide +kernel) (Nat.le_of_ble_eq_true rfl) ?_
  intro p e s m below meth c A Z hr hnm hA hP hD hS ls hl
  have Z : zC p s m _ meth c prog_12_method_1_code 1 "TraceMachines$Words" G := Z
  obtain ⟨hx, hb, hml, hown, hts, hK, hN, hlocks⟩ := id Z
  have hl : lv_has ls 1 [(0, .ref h0)] := hl
  refine lv_aload_n hx hb d_Words_init_0 rfl (lv_at hl 0 rfl) ?_
  refine W.objInit hx hb hown (hts _ q262) (hts _ q29) (hts _ q30) rfl (by rw [hml]; exact hl.1) rfl d_Words_init_1 (Nat.le_of_ble_eq_true rfl) (Nat.le_of_ble_eq_true rfl) ?_
  refine W.eq (g2 := F0 m 4 ls []) rfl ?_
  refine lv_aload_n hx hb d_Words_init_4 rfl (lv_at hl 0 rfl) ?_
  refine lv_bipush (v := 12) hx hb d_Words_init_5 (by decide) ?_
  refine z_newa (atype := .int) (ty := .int) (a0 := (12, .inl (fun _ => 0))) Z hP hD hS hA q87 rfl 0 rfl (fun _ h => by cases h) (fun _ => by rfl) (by decide +kernel) (N' := 12) (by decide +kernel) (by decide +kernel) (Nat.le_of_ble_eq_true rfl) (Nat.le_of_ble_eq_true rfl) d_Words_init_7 (fun q_1 H hP hD hS => ?_)
  have hP : va_P G.1 classes [(h0, .inr (7, [.null, .null, .null, .null, .null, .null, .null, .null])), (q_1, .inl (G.2 0, 12, .inl (fun _ => 0)))] H := hP
  have hD := z_tie hP hD rfl
  refine W.widen (k := 1) (n := 12) (Nat.le_of_ble_eq_true rfl) (Nat.le_of_ble_eq_true rfl) ?_
  refine va_putF (D := G.1) (ci := 7) (v := .ref q_1) (ty := .array .int) (C := R_Words) (T := F_Words) (N := 8) hx hb hts i_Words t_Words t_Words_ok n_Words hown hK hP hD hS 0 rfl rfl 0 (by decide) (hts _ q265) (fun _ h9 => h9) rfl hnm rfl (by decide +kernel) rfl rfl (Nat.le_of_ble_eq_true rfl) d_Words_init_9 (fun H locs hP hD hS => ?_)
  have hP : va_P G.1 classes [(h0, .inr (7, [.ref q_1, .null, .null, .null, .null, .null, .null, .null])), (q_1, .inl (G.2 0, 12, .inl (fun _ => 0)))] H := hP
  have hD := z_tie hP hD rfl
  refine lv_aload_n hx hb d_Words_init_12 rfl (lv_at hl 0 rfl) ?_
  refine va_new (ci := 6) (fs := [.int 0, .int 0, .int 0, .null, .null]) (C := R_Sets) (T := F_Sets) (N := 5) hx hb hts i_Sets t_Sets t_Sets_ok hown (hts _ q263) (hts _ q234) (hts _ q7) hK hP hD hS hA rfl (by decide +kernel) (Nat.le_of_ble_eq_true rfl) (Nat.le_of_ble_eq_true rfl) d_Words_init_13 (fun q_2 H hP hD hS => ?_)
  have hP : va_P G.1 classes [(h0, .inr (7, [.ref q_1, .null, .null, .null, .null, .null, .null, .null])), (q_1, .inl (G.2 0, 12, .inl (fun _ => 0))), (q_2, .inr (6, [.int 0, .int 0, .int 0, .null, .null]))] H := hP
  have hD := z_tie hP hD rfl
  refine W.widen (k := 2) (n := 17) (Nat.le_of_ble_eq_true rfl) (Nat.le_of_ble_eq_true rfl) ?_
  refine lv_dup hx hb d_Words_init_16 rfl ?_
  refine lv_bipush (v := 10) hx hb d_Words_init_17 (by decide) ?_
  refine lv_iconst (v := 1) hx hb d_Words_init_19 (by decide) ?_
  refine z_callI (index := 17) (As := [.int 10, .int 1]) (rest := [.ref q_2, .ref h0]) (wr := [(h0, .inr (7, [.ref q_1, .null, .null, .null, .null, .null, .null, .null])), (q_1, .inl (G.2 0, 12, .inl (fun _ => 0)))]) Z (c1_Sets_init l G (q_2)) hl.1 q264 q236 q7 q237 rfl ⟨by decide, by decide, by show _ = some 2; decide +kernel⟩ ⟨Nat.le_of_ble_eq_true rfl, Nat.le_of_ble_eq_true rfl⟩ ⟨Nat.le_of_ble_eq_true rfl, Nat.le_of_ble_eq_true rfl⟩ rfl (Nat.le_of_ble_eq_true rfl) d_Words_init_20 hP hD hS hA [2] [0, 1] rfl rfl rfl rfl (by decide) (fun v w1 H locs hw_3 hP hD hS => ?_)
  obtain ⟨q_4, q_5, rfl, rfl⟩ := hw_3
  have hP : va_P G.1 classes [(h0, .inr (7, [.ref q_1, .null, .null, .null, .null, .null, .null, .null])), (q_1, .inl (G.2 0, 12, .inl (fun _ => 0))), (q_2, .inr (6, [.int 0, .int 4, .int 10, .ref q_4, .ref q_5])), (q_4, .inl (G.2 1, 40, .inr (.inl (fun _ => 0)))), (q_5, .inl (G.2 0, 32, .inl (fun _ => 0)))] H := hP
  have hD := z_tie hP hD rfl
  refine W.widen (k := 4) (n := 89) (Nat.le_of_ble_eq_true rfl) (Nat.le_of_ble_eq_true rfl) ?_
  refine va_putF (D := G.1) (ci := 7) (v := .ref q_2) (ty := .object "TraceMachines$StateSets") (C := R_Words) (T := F_Words) (N := 8) hx hb hts i_Words t_Words t_Words_ok n_Words hown hK hP hD hS 0 rfl rfl 1 (by decide) (hts _ q267) (fun _ h9 => h9) rfl hnm rfl (by decide +kernel) rfl rfl (Nat.le_of_ble_eq_true rfl) d_Words_init_23 (fun H locs hP hD hS => ?_)
  have hP : va_P G.1 classes [(h0, .inr (7, [.ref q_1, .ref q_2, .null, .null, .null, .null, .null, .null])), (q_1, .inl (G.2 0, 12, .inl (fun _ => 0))), (q_2, .inr (6, [.int 0, .int 4, .int 10, .ref q_4, .ref q_5])), (q_4, .inl (G.2 1, 40, .inr (.inl (fun _ => 0)))), (q_5, .inl (G.2 0, 32, .inl (fun _ => 0)))] H := hP
  have hD := z_tie hP hD rfl
  refine lv_aload_n hx hb d_Words_init_26 rfl (lv_at hl 0 rfl) ?_
  refine va_new (ci := 6) (fs := [.int 0, .int 0, .int 0, .null, .null]) (C := R_Sets) (T := F_Sets) (N := 5) hx hb hts i_Sets t_Sets t_Sets_ok hown (hts _ q263) (hts _ q234) (hts _ q7) hK hP hD hS hA rfl (by decide +kernel) (Nat.le_of_ble_eq_true rfl) (Nat.le_of_ble_eq_true rfl) d_Words_init_27 (fun q_6 H hP hD hS => ?_)
  have hP : va_P G.1 classes [(h0, .inr (7, [.ref q_1, .ref q_2, .null, .null, .null, .null, .null, .null])), (q_1, .inl (G.2 0, 12, .inl (fun _ => 0))), (q_2, .inr (6, [.int 0, .int 4, .int 10, .ref q_4, .ref q_5])), (q_4, .inl (G.2 1, 40, .inr (.inl (fun _ => 0)))), (q_5, .inl (G.2 0, 32, .inl (fun _ => 0))), (q_6, .inr (6, [.int 0, .int 0, .int 0, .null, .null]))] H := hP
  have hD := z_tie hP hD rfl
  refine W.widen (k := 5) (n := 94) (Nat.le_of_ble_eq_true rfl) (Nat.le_of_ble_eq_true rfl) ?_
  refine lv_dup hx hb d_Words_init_30 rfl ?_
  refine lv_bipush (v := 100) hx hb d_Words_init_31 (by decide) ?_
  refine lv_iconst (v := 1) hx hb d_Words_init_33 (by decide) ?_
  refine z_callI (index := 17) (As := [.int 100, .int 1]) (rest := [.ref q_6, .ref h0]) (wr := [(h0, .inr (7, [.ref q_1, .ref q_2, .null, .null, .null, .null, .null, .null])), (q_1, .inl (G.2 0, 12, .inl (fun _ => 0))), (q_2, .inr (6, [.int 0, .int 4, .int 10, .ref q_4, .ref q_5])), (q_4, .inl (G.2 1, 40, .inr (.inl (fun _ => 0)))), (q_5, .inl (G.2 0, 32, .inl (fun _ => 0)))]) Z (c2_Sets_init l G (q_6)) hl.1 q264 q236 q7 q237 rfl ⟨by decide, by decide, by show _ = some 2; decide +kernel⟩ ⟨Nat.le_of_ble_eq_true rfl, Nat.le_of_ble_eq_true rfl⟩ ⟨Nat.le_of_ble_eq_true rfl, Nat.le_of_ble_eq_true rfl⟩ rfl (Nat.le_of_ble_eq_true rfl) d_Words_init_34 hP hD hS hA [5] [0, 1, 2, 3, 4] rfl rfl rfl rfl (by decide) (fun v w1 H locs hw_7 hP hD hS => ?_)
  obtain ⟨q_8, q_9, rfl, rfl⟩ := hw_7
  have hP : va_P G.1 classes [(h0, .inr (7, [.ref q_1, .ref q_2, .null, .null, .null, .null, .null, .null])), (q_1, .inl (G.2 0, 12, .inl (fun _ => 0))), (q_2, .inr (6, [.int 0, .int 4, .int 10, .ref q_4, .ref q_5])), (q_4, .inl (G.2 1, 40, .inr (.inl (fun _ => 0)))), (q_5, .inl (G.2 0, 32, .inl (fun _ => 0))), (q_6, .inr (6, [.int 0, .int 4, .int 100, .ref q_8, .ref q_9])), (q_8, .inl (G.2 1, 400, .inr (.inl (fun _ => 0)))), (q_9, .inl (G.2 0, 256, .inl (fun _ => 0)))] H := hP
  have hD := z_tie hP hD rfl
  refine W.widen (k := 7) (n := 750) (Nat.le_of_ble_eq_true rfl) (Nat.le_of_ble_eq_true rfl) ?_
  refine va_put (D := G.1) (ci := 7) (v := .ref q_6) (ty := .object "TraceMachines$StateSets") (C := R_Words) (T := F_Words) (N := 8) hx hb hts i_Words t_Words t_Words_ok n_Words hown hK hP hD hS 0 rfl rfl 2 (by decide) (hts _ q268) (fun _ h9 => h9) rfl (by decide +kernel) rfl rfl (Nat.le_of_ble_eq_true rfl) d_Words_init_37 (fun H locs hP hD hS => ?_)
  have hP : va_P G.1 classes [(h0, .inr (7, [.ref q_1, .ref q_2, .ref q_6, .null, .null, .null, .null, .null])), (q_1, .inl (G.2 0, 12, .inl (fun _ => 0))), (q_2, .inr (6, [.int 0, .int 4, .int 10, .ref q_4, .ref q_5])), (q_4, .inl (G.2 1, 40, .inr (.inl (fun _ => 0)))), (q_5, .inl (G.2 0, 32, .inl (fun _ => 0))), (q_6, .inr (6, [.int 0, .int 4, .int 100, .ref q_8, .ref q_9])), (q_8, .inl (G.2 1, 400, .inr (.inl (fun _ => 0)))), (q_9, .inl (G.2 0, 256, .inl (fun _ => 0)))] H := hP
  have hD := z_tie hP hD rfl
  refine lv_aload_n hx hb d_Words_init_40 rfl (lv_at hl 0 rfl) ?_
  refine va_new (ci := 6) (fs := [.int 0, .int 0, .int 0, .null, .null]) (C := R_Sets) (T := F_Sets) (N := 5) hx hb hts i_Sets t_Sets t_Sets_ok hown (hts _ q263) (hts _ q234) (hts _ q7) hK hP hD hS hA rfl (by decide +kernel) (Nat.le_of_ble_eq_true rfl) (Nat.le_of_ble_eq_true rfl) d_Words_init_41 (fun q_10 H hP hD hS => ?_)
  have hP : va_P G.1 classes [(h0, .inr (7, [.ref q_1, .ref q_2, .ref q_6, .null, .null, .null, .null, .null])), (q_1, .inl (G.2 0, 12, .inl (fun _ => 0))), (q_2, .inr (6, [.int 0, .int 4, .int 10, .ref q_4, .ref q_5])), (q_4, .inl (G.2 1, 40, .inr (.inl (fun _ => 0)))), (q_5, .inl (G.2 0, 32, .inl (fun _ => 0))), (q_6, .inr (6, [.int 0, .int 4, .int 100, .ref q_8, .ref q_9])), (q_8, .inl (G.2 1, 400, .inr (.inl (fun _ => 0)))), (q_9, .inl (G.2 0, 256, .inl (fun _ => 0))), (q_10, .inr (6, [.int 0, .int 0, .int 0, .null, .null]))] H := hP
  have hD := z_tie hP hD rfl
  refine W.widen (k := 8) (n := 755) (Nat.le_of_ble_eq_true rfl) (Nat.le_of_ble_eq_true rfl) ?_
  refine lv_dup hx hb d_Words_init_44 rfl ?_
  refine lv_bipush (v := 100) hx hb d_Words_init_45 (by decide) ?_
  refine lv_iconst (v := 1) hx hb d_Words_init_47 (by decide) ?_
  refine z_callI (index := 17) (As := [.int 100, .int 1]) (rest := [.ref q_10, .ref h0]) (wr := [(h0, .inr (7, [.ref q_1, .ref q_2, .ref q_6, .null, .null, .null, .null, .null])), (q_1, .inl (G.2 0, 12, .inl (fun _ => 0))), (q_2, .inr (6, [.int 0, .int 4, .int 10, .ref q_4, .ref q_5])), (q_4, .inl (G.2 1, 40, .inr (.inl (fun _ => 0)))), (q_5, .inl (G.2 0, 32, .inl (fun _ => 0))), (q_6, .inr (6, [.int 0, .int 4, .int 100, .ref q_8, .ref q_9])), (q_8, .inl (G.2 1, 400, .inr (.inl (fun _ => 0)))), (q_9, .inl (G.2 0, 256, .inl (fun _ => 0)))]) Z (c2_Sets_init l G (q_10)) hl.1 q264 q236 q7 q237 rfl ⟨by decide, by decide, by show _ = some 2; decide +kernel⟩ ⟨Nat.le_of_ble_eq_true rfl, Nat.le_of_ble_eq_true rfl⟩ ⟨Nat.le_of_ble_eq_true rfl, Nat.le_of_ble_eq_true rfl⟩ rfl (Nat.le_of_ble_eq_true rfl) d_Words_init_48 hP hD hS hA [8] [0, 1, 2, 3, 4, 5, 6, 7] rfl rfl rfl rfl (by decide) (fun v w1 H locs hw_11 hP hD hS => ?_)
  obtain ⟨q_12, q_13, rfl, rfl⟩ := hw_11
  have hP : va_P G.1 classes [(h0, .inr (7, [.ref q_1, .ref q_2, .ref q_6, .null, .null, .null, .null, .null])), (q_1, .inl (G.2 0, 12, .inl (fun _ => 0))), (q_2, .inr (6, [.int 0, .int 4, .int 10, .ref q_4, .ref q_5])), (q_4, .inl (G.2 1, 40, .inr (.inl (fun _ => 0)))), (q_5, .inl (G.2 0, 32, .inl (fun _ => 0))), (q_6, .inr (6, [.int 0, .int 4, .int 100, .ref q_8, .ref q_9])), (q_8, .inl (G.2 1, 400, .inr (.inl (fun _ => 0)))), (q_9, .inl (G.2 0, 256, .inl (fun _ => 0))), (q_10, .inr (6, [.int 0, .int 4, .int 100, .ref q_12, .ref q_13])), (q_12, .inl (G.2 1, 400, .inr (.inl (fun _ => 0)))), (q_13, .inl (G.2 0, 256, .inl (fun _ => 0)))] H := hP
  have hD := z_tie hP hD rfl
  refine W.widen (k := 10) (n := 1411) (Nat.le_of_ble_eq_true rfl) (Nat.le_of_ble_eq_true rfl) ?_
  refine va_put (D := G.1) (ci := 7) (v := .ref q_10) (ty := .object "TraceMachines$StateSets") (C := R_Words) (T := F_Words) (N := 8) hx hb hts i_Words t_Words t_Words_ok n_Words hown hK hP hD hS 0 rfl rfl 3 (by decide) (hts _ q269) (fun _ h9 => h9) rfl (by decide +kernel) rfl rfl (Nat.le_of_ble_eq_true rfl) d_Words_init_51 (fun H locs hP hD hS => ?_)
  have hP : va_P G.1 classes [(h0, .inr (7, [.ref q_1, .ref q_2, .ref q_6, .ref q_10, .null, .null, .null, .null])), (q_1, .inl (G.2 0, 12, .inl (fun _ => 0))), (q_2, .inr (6, [.int 0, .int 4, .int 10, .ref q_4, .ref q_5])), (q_4, .inl (G.2 1, 40, .inr (.inl (fun _ => 0)))), (q_5, .inl (G.2 0, 32, .inl (fun _ => 0))), (q_6, .inr (6, [.int 0, .int 4, .int 100, .ref q_8, .ref q_9])), (q_8, .inl (G.2 1, 400, .inr (.inl (fun _ => 0)))), (q_9, .inl (G.2 0, 256, .inl (fun _ => 0))), (q_10, .inr (6, [.int 0, .int 4, .int 100, .ref q_12, .ref q_13])), (q_12, .inl (G.2 1, 400, .inr (.inl (fun _ => 0)))), (q_13, .inl (G.2 0, 256, .inl (fun _ => 0)))] H := hP
  have hD := z_tie hP hD rfl
  refine lv_aload_n hx hb d_Words_init_54 rfl (lv_at hl 0 rfl) ?_
  refine lv_bipush (v := 100) hx hb d_Words_init_55 (by decide) ?_
  refine z_newa (atype := .int) (ty := .int) (a0 := (100, .inl (fun _ => 0))) Z hP hD hS hA q87 rfl 0 rfl (fun _ h => by cases h) (fun _ => by rfl) (by decide +kernel) (N' := 100) (by decide +kernel) (by decide +kernel) (Nat.le_of_ble_eq_true rfl) (Nat.le_of_ble_eq_true rfl) d_Words_init_57 (fun q_14 H hP hD hS => ?_)
  have hP : va_P G.1 classes [(h0, .inr (7, [.ref q_1, .ref q_2, .ref q_6, .ref q_10, .null, .null, .null, .null])), (q_1, .inl (G.2 0, 12, .inl (fun _ => 0))), (q_2, .inr (6, [.int 0, .int 4, .int 10, .ref q_4, .ref q_5])), (q_4, .inl (G.2 1, 40, .inr (.inl (fun _ => 0)))), (q_5, .inl (G.2 0, 32, .inl (fun _ => 0))), (q_6, .inr (6, [.int 0, .int 4, .int 100, .ref q_8, .ref q_9])), (q_8, .inl (G.2 1, 400, .inr (.inl (fun _ => 0)))), (q_9, .inl (G.2 0, 256, .inl (fun _ => 0))), (q_10, .inr (6, [.int 0, .int 4, .int 100, .ref q_12, .ref q_13])), (q_12, .inl (G.2 1, 400, .inr (.inl (fun _ => 0)))), (q_13, .inl (G.2 0, 256, .inl (fun _ => 0))), (q_14, .inl (G.2 0, 100, .inl (fun _ => 0)))] H := hP
  have hD := z_tie hP hD rfl
  refine W.widen (k := 11) (n := 1511) (Nat.le_of_ble_eq_true rfl) (Nat.le_of_ble_eq_true rfl) ?_
  refine va_put (D := G.1) (ci := 7) (v := .ref q_14) (ty := .array .int) (C := R_Words) (T := F_Words) (N := 8) hx hb hts i_Words t_Words t_Words_ok n_Words hown hK hP hD hS 0 rfl rfl 4 (by decide) (hts _ q270) (fun _ h9 => h9) rfl (by decide +kernel) rfl rfl (Nat.le_of_ble_eq_true rfl) d_Words_init_59 (fun H locs hP hD hS => ?_)
  have hP : va_P G.1 classes [(h0, .inr (7, [.ref q_1, .ref q_2, .ref q_6, .ref q_10, .ref q_14, .null, .null, .null])), (q_1, .inl (G.2 0, 12, .inl (fun _ => 0))), (q_2, .inr (6, [.int 0, .int 4, .int 10, .ref q_4, .ref q_5])), (q_4, .inl (G.2 1, 40, .inr (.inl (fun _ => 0)))), (q_5, .inl (G.2 0, 32, .inl (fun _ => 0))), (q_6, .inr (6, [.int 0, .int 4, .int 100, .ref q_8, .ref q_9])), (q_8, .inl (G.2 1, 400, .inr (.inl (fun _ => 0)))), (q_9, .inl (G.2 0, 256, .inl (fun _ => 0))), (q_10, .inr (6, [.int 0, .int 4, .int 100, .ref q_12, .ref q_13])), (q_12, .inl (G.2 1, 400, .inr (.inl (fun _ => 0)))), (q_13, .inl (G.2 0, 256, .inl (fun _ => 0))), (q_14, .inl (G.2 0, 100, .inl (fun _ => 0)))] H := hP
  have hD := z_tie hP hD rfl
  refine lv_aload_n hx hb d_Words_init_62 rfl (lv_at hl 0 rfl) ?_
  refine lv_bipush (v := 100) hx hb d_Words_init_63 (by decide) ?_
  refine z_newa (atype := .int) (ty := .int) (a0 := (100, .inl (fun _ => 0))) Z hP hD hS hA q87 rfl 0 rfl (fun _ h => by cases h) (fun _ => by rfl) (by decide +kernel) (N' := 100) (by decide +kernel) (by decide +kernel) (Nat.le_of_ble_eq_true rfl) (Nat.le_of_ble_eq_true rfl) d_Words_init_65 (fun q_15 H hP hD hS => ?_)
  have hP : va_P G.1 classes [(h0, .inr (7, [.ref q_1, .ref q_2, .ref q_6, .ref q_10, .ref q_14, .null, .null, .null])), (q_1, .inl (G.2 0, 12, .inl (fun _ => 0))), (q_2, .inr (6, [.int 0, .int 4, .int 10, .ref q_4, .ref q_5])), (q_4, .inl (G.2 1, 40, .inr (.inl (fun _ => 0)))), (q_5, .inl (G.2 0, 32, .inl (fun _ => 0))), (q_6, .inr (6, [.int 0, .int 4, .int 100, .ref q_8, .ref q_9])), (q_8, .inl (G.2 1, 400, .inr (.inl (fun _ => 0)))), (q_9, .inl (G.2 0, 256, .inl (fun _ => 0))), (q_10, .inr (6, [.int 0, .int 4, .int 100, .ref q_12, .ref q_13])), (q_12, .inl (G.2 1, 400, .inr (.inl (fun _ => 0)))), (q_13, .inl (G.2 0, 256, .inl (fun _ => 0))), (q_14, .inl (G.2 0, 100, .inl (fun _ => 0))), (q_15, .inl (G.2 0, 100, .inl (fun _ => 0)))] H := hP
  have hD := z_tie hP hD rfl
  refine W.widen (k := 12) (n := 1611) (Nat.le_of_ble_eq_true rfl) (Nat.le_of_ble_eq_true rfl) ?_
  refine va_put (D := G.1) (ci := 7) (v := .ref q_15) (ty := .array .int) (C := R_Words) (T := F_Words) (N := 8) hx hb hts i_Words t_Words t_Words_ok n_Words hown hK hP hD hS 0 rfl rfl 5 (by decide) (hts _ q271) (fun _ h9 => h9) rfl (by decide +kernel) rfl rfl (Nat.le_of_ble_eq_true rfl) d_Words_init_67 (fun H locs hP hD hS => ?_)
  have hP : va_P G.1 classes [(h0, .inr (7, [.ref q_1, .ref q_2, .ref q_6, .ref q_10, .ref q_14, .ref q_15, .null, .null])), (q_1, .inl (G.2 0, 12, .inl (fun _ => 0))), (q_2, .inr (6, [.int 0, .int 4, .int 10, .ref q_4, .ref q_5])), (q_4, .inl (G.2 1, 40, .inr (.inl (fun _ => 0)))), (q_5, .inl (G.2 0, 32, .inl (fun _ => 0))), (q_6, .inr (6, [.int 0, .int 4, .int 100, .ref q_8, .ref q_9])), (q_8, .inl (G.2 1, 400, .inr (.inl (fun _ => 0)))), (q_9, .inl (G.2 0, 256, .inl (fun _ => 0))), (q_10, .inr (6, [.int 0, .int 4, .int 100, .ref q_12, .ref q_13])), (q_12, .inl (G.2 1, 400, .inr (.inl (fun _ => 0)))), (q_13, .inl (G.2 0, 256, .inl (fun _ => 0))), (q_14, .inl (G.2 0, 100, .inl (fun _ => 0))), (q_15, .inl (G.2 0, 100, .inl (fun _ => 0)))] H := hP
  have hD := z_tie hP hD rfl
  refine lv_aload_n hx hb d_Words_init_70 rfl (lv_at hl 0 rfl) ?_
  refine lv_sipush (v := 241) hx hb d_Words_init_71 (by decide) ?_
  refine z_newa (atype := .int) (ty := .int) (a0 := (241, .inl (fun _ => 0))) Z hP hD hS hA q87 rfl 0 rfl (fun _ h => by cases h) (fun _ => by rfl) (by decide +kernel) (N' := 241) (by decide +kernel) (by decide +kernel) (Nat.le_of_ble_eq_true rfl) (Nat.le_of_ble_eq_true rfl) d_Words_init_74 (fun q_16 H hP hD hS => ?_)
  have hP : va_P G.1 classes [(h0, .inr (7, [.ref q_1, .ref q_2, .ref q_6, .ref q_10, .ref q_14, .ref q_15, .null, .null])), (q_1, .inl (G.2 0, 12, .inl (fun _ => 0))), (q_2, .inr (6, [.int 0, .int 4, .int 10, .ref q_4, .ref q_5])), (q_4, .inl (G.2 1, 40, .inr (.inl (fun _ => 0)))), (q_5, .inl (G.2 0, 32, .inl (fun _ => 0))), (q_6, .inr (6, [.int 0, .int 4, .int 100, .ref q_8, .ref q_9])), (q_8, .inl (G.2 1, 400, .inr (.inl (fun _ => 0)))), (q_9, .inl (G.2 0, 256, .inl (fun _ => 0))), (q_10, .inr (6, [.int 0, .int 4, .int 100, .ref q_12, .ref q_13])), (q_12, .inl (G.2 1, 400, .inr (.inl (fun _ => 0)))), (q_13, .inl (G.2 0, 256, .inl (fun _ => 0))), (q_14, .inl (G.2 0, 100, .inl (fun _ => 0))), (q_15, .inl (G.2 0, 100, .inl (fun _ => 0))), (q_16, .inl (G.2 0, 241, .inl (fun _ => 0)))] H := hP
  have hD := z_tie hP hD rfl
  refine W.widen (k := 13) (n := 1852) (Nat.le_of_ble_eq_true rfl) (Nat.le_of_ble_eq_true rfl) ?_
  refine va_put (D := G.1) (ci := 7) (v := .ref q_16) (ty := .array .int) (C := R_Words) (T := F_Words) (N := 8) hx hb hts i_Words t_Words t_Words_ok n_Words hown hK hP hD hS 0 rfl rfl 6 (by decide) (hts _ q272) (fun _ h9 => h9) rfl (by decide +kernel) rfl rfl (Nat.le_of_ble_eq_true rfl) d_Words_init_76 (fun H locs hP hD hS => ?_)
  have hP : va_P G.1 classes [(h0, .inr (7, [.ref q_1, .ref q_2, .ref q_6, .ref q_10, .ref q_14, .ref q_15, .ref q_16, .null])), (q_1, .inl (G.2 0, 12, .inl (fun _ => 0))), (q_2, .inr (6, [.int 0, .int 4, .int 10, .ref q_4, .ref q_5])), (q_4, .inl (G.2 1, 40, .inr (.inl (fun _ => 0)))), (q_5, .inl (G.2 0, 32, .inl (fun _ => 0))), (q_6, .inr (6, [.int 0, .int 4, .int 100, .ref q_8, .ref q_9])), (q_8, .inl (G.2 1, 400, .inr (.inl (fun _ => 0)))), (q_9, .inl (G.2 0, 256, .inl (fun _ => 0))), (q_10, .inr (6, [.int 0, .int 4, .int 100, .ref q_12, .ref q_13])), (q_12, .inl (G.2 1, 400, .inr (.inl (fun _ => 0)))), (q_13, .inl (G.2 0, 256, .inl (fun _ => 0))), (q_14, .inl (G.2 0, 100, .inl (fun _ => 0))), (q_15, .inl (G.2 0, 100, .inl (fun _ => 0))), (q_16, .inl (G.2 0, 241, .inl (fun _ => 0)))] H := hP
  have hD := z_tie hP hD rfl
  refine lv_aload_n hx hb d_Words_init_79 rfl (lv_at hl 0 rfl) ?_
  refine lv_sipush (v := 241) hx hb d_Words_init_80 (by decide) ?_
  refine z_newa (atype := .int) (ty := .int) (a0 := (241, .inl (fun _ => 0))) Z hP hD hS hA q87 rfl 0 rfl (fun _ h => by cases h) (fun _ => by rfl) (by decide +kernel) (N' := 241) (by decide +kernel) (by decide +kernel) (Nat.le_of_ble_eq_true rfl) (Nat.le_of_ble_eq_true rfl) d_Words_init_83 (fun q_17 H hP hD hS => ?_)
  have hP : va_P G.1 classes [(h0, .inr (7, [.ref q_1, .ref q_2, .ref q_6, .ref q_10, .ref q_14, .ref q_15, .ref q_16, .null])), (q_1, .inl (G.2 0, 12, .inl (fun _ => 0))), (q_2, .inr (6, [.int 0, .int 4, .int 10, .ref q_4, .ref q_5])), (q_4, .inl (G.2 1, 40, .inr (.inl (fun _ => 0)))), (q_5, .inl (G.2 0, 32, .inl (fun _ => 0))), (q_6, .inr (6, [.int 0, .int 4, .int 100, .ref q_8, .ref q_9])), (q_8, .inl (G.2 1, 400, .inr (.inl (fun _ => 0)))), (q_9, .inl (G.2 0, 256, .inl (fun _ => 0))), (q_10, .inr (6, [.int 0, .int 4, .int 100, .ref q_12, .ref q_13])), (q_12, .inl (G.2 1, 400, .inr (.inl (fun _ => 0)))), (q_13, .inl (G.2 0, 256, .inl (fun _ => 0))), (q_14, .inl (G.2 0, 100, .inl (fun _ => 0))), (q_15, .inl (G.2 0, 100, .inl (fun _ => 0))), (q_16, .inl (G.2 0, 241, .inl (fun _ => 0))), (q_17, .inl (G.2 0, 241, .inl (fun _ => 0)))] H := hP
  have hD := z_tie hP hD rfl
  refine W.widen (k := 14) (n := 2093) (Nat.le_of_ble_eq_true rfl) (Nat.le_of_ble_eq_true rfl) ?_
  refine va_put (D := G.1) (ci := 7) (v := .ref q_17) (ty := .array .int) (C := R_Words) (T := F_Words) (N := 8) hx hb hts i_Words t_Words t_Words_ok n_Words hown hK hP hD hS 0 rfl rfl 7 (by decide) (hts _ q273) (fun _ h9 => h9) rfl (by decide +kernel) rfl rfl (Nat.le_of_ble_eq_true rfl) d_Words_init_85 (fun H locs hP hD hS => ?_)
  have hP : va_P G.1 classes [(h0, .inr (7, [.ref q_1, .ref q_2, .ref q_6, .ref q_10, .ref q_14, .ref q_15, .ref q_16, .ref q_17])), (q_1, .inl (G.2 0, 12, .inl (fun _ => 0))), (q_2, .inr (6, [.int 0, .int 4, .int 10, .ref q_4, .ref q_5])), (q_4, .inl (G.2 1, 40, .inr (.inl (fun _ => 0)))), (q_5, .inl (G.2 0, 32, .inl (fun _ => 0))), (q_6, .inr (6, [.int 0, .int 4, .int 100, .ref q_8, .ref q_9])), (q_8, .inl (G.2 1, 400, .inr (.inl (fun _ => 0)))), (q_9, .inl (G.2 0, 256, .inl (fun _ => 0))), (q_10, .inr (6, [.int 0, .int 4, .int 100, .ref q_12, .ref q_13])), (q_12, .inl (G.2 1, 400, .inr (.inl (fun _ => 0)))), (q_13, .inl (G.2 0, 256, .inl (fun _ => 0))), (q_14, .inl (G.2 0, 100, .inl (fun _ => 0))), (q_15, .inl (G.2 0, 100, .inl (fun _ => 0))), (q_16, .inl (G.2 0, 241, .inl (fun _ => 0))), (q_17, .inl (G.2 0, 241, .inl (fun _ => 0)))] H := hP
  have hD := z_tie hP hD rfl
  exact z_vret hx hb hr hlocks hP hD hS (Nat.le_of_ble_eq_true rfl) (Nat.le_of_ble_eq_true rfl) d_Words_init_88 ⟨q_1, q_2, q_6, q_10, q_14, q_15, q_16, q_17, q_4, q_5, q_8, q_9, q_12, q_13, rfl, rfl⟩
theorem d_Parting_init_0 : decode prog_7_method_1_code 0 = .ok (.aload_n 0, 1) := by decide +kernel
theorem d_Parting_init_1 : decode prog_7_method_1_code 1 = .ok (.invokespecial 3, 3) := by decide +kernel
theorem d_Parting_init_4 : decode prog_7_method_1_code 4 = .ok (.aload_n 0, 1) := by decide +kernel
theorem d_Parting_init_5 : decode prog_7_method_1_code 5 = .ok (.bipush 8, 2) := by decide +kernel
theorem d_Parting_init_7 : decode prog_7_method_1_code 7 = .ok (.newarray .int, 2) := by decide +kernel
theorem d_Parting_init_9 : decode prog_7_method_1_code 9 = .ok (.putfield 9, 3) := by decide +kernel
theorem d_Parting_init_12 : decode prog_7_method_1_code 12 = .ok (.aload_n 0, 1) := by decide +kernel
theorem d_Parting_init_13 : decode prog_7_method_1_code 13 = .ok (.new 15, 3) := by decide +kernel
theorem d_Parting_init_16 : decode prog_7_method_1_code 16 = .ok (.dup, 1) := by decide +kernel
theorem d_Parting_init_17 : decode prog_7_method_1_code 17 = .ok (.sipush 400, 3) := by decide +kernel
theorem d_Parting_init_20 : decode prog_7_method_1_code 20 = .ok (.iconst 2, 1) := by decide +kernel
theorem d_Parting_init_21 : decode prog_7_method_1_code 21 = .ok (.invokespecial 17, 3) := by decide +kernel
abbrev m_c3_Sets_init : Room := { frames := 1, cells := 2, slots := 4224, locals := 12 }
set_option maxHeartbeats 4000000 in
set_option maxRecDepth 100000 in
theorem c3_Sets_init (l : Launch) (G : zG) (b0 : Nat)  : zM l G y_Sets_init prog_8_method_1_code 4 (Option.none : Option Jvm.ClassFile.FieldType) m_c3_Sets_init [.ref b0, .int 400, .int 2] [(b0, .inr (6, [.int 0, .int 0, .int 0, .null, .null]))] (fun v w => (∃ (e0 : Nat), ∃ (e1 : Nat), v = none ∧ w = [(b0, .inr (6, [.int 0, .int 8, .int 400, .ref e0, .ref e1])), (e0, .inl (G.2 1, 3200, .inr (.inl (fun _ => 0)))), (e1, .inl (G.2 0, 1024, .inl (fun _ => 0)))])) := by
  refine z_start (by decide +kernel) (Nat.le_of_ble_eq_true rfl) ?_
  intro p e s m below meth c A Z hr hnm hA hP hD hS ls hl
  have Z : zC p s m _ meth c prog_8_method_1_code 4 "TraceMachines$StateSets" G := Z
  obtain ⟨hx, hb, hml, hown, hts, hK, hN, hlocks⟩ := id Z
  have hl : lv_has ls 4 [(0, .ref b0), (1, .int 400), (2, .int 2)] := hl
  refine lv_aload_n hx hb d_Sets_init_0 rfl (lv_at hl 0 rfl) ?_
  refine W.objInit hx hb hown (hts _ q238) (hts _ q29) (hts _ q30) rfl (by rw [hml]; exact hl.1) rfl d_Sets_init_1 (Nat.le_of_ble_eq_true rfl) (Nat.le_of_ble_eq_true rfl) ?_
  refine W.eq (g2 := F0 m 4 ls []) rfl ?_
  refine lv_aload_n hx hb d_Sets_init_4 rfl (lv_at hl 0 rfl) ?_
  refine lv_iload_n hx hb d_Sets_init_5 rfl (lv_at hl 1 rfl) ?_
  refine va_putF (D := G.1) (ci := 6) (v := .int 400) (ty := .int) (C := R_Sets) (T := F_Sets) (N := 5) hx hb hts i_Sets t_Sets t_Sets_ok n_Sets hown hK hP hD hS 0 rfl rfl 2 (by decide) (hts _ q243) (fun _ h9 => h9) rfl hnm rfl (by decide +kernel) rfl rfl (Nat.le_of_ble_eq_true rfl) d_Sets_init_6 (fun H locs hP hD hS => ?_)
  have hP : va_P G.1 classes [(b0, .inr (6, [.int 0, .int 0, .int 400, .null, .null]))] H := hP
  have hD := z_tie hP hD rfl
  refine lv_aload_n hx hb d_Sets_init_9 rfl (lv_at hl 0 rfl) ?_
  refine lv_iload_n hx hb d_Sets_init_10 rfl (lv_at hl 2 rfl) ?_
  refine lv_iconst (v := 4) hx hb d_Sets_init_11 (by decide) ?_
  refine lv_imul hx hb d_Sets_init_12 ?_
  refine z_topi (y := 8) (by decide +kernel) ?_
  refine va_putF (D := G.1) (ci := 6) (v := .int 8) (ty := .int) (C := R_Sets) (T := F_Sets) (N := 5) hx hb hts i_Sets t_Sets t_Sets_ok n_Sets hown hK hP hD hS 0 rfl rfl 1 (by decide) (hts _ q242) (fun _ h9 => h9) rfl hnm rfl (by decide +kernel) rfl rfl (Nat.le_of_ble_eq_true rfl) d_Sets_init_13 (fun H locs hP hD hS => ?_)
  have hP : va_P G.1 classes [(b0, .inr (6, [.int 0, .int 8, .int 400, .null, .null]))] H := hP
  have hD := z_tie hP hD rfl
  refine lv_aload_n hx hb d_Sets_init_16 rfl (lv_at hl 0 rfl) ?_
  refine lv_iload_n hx hb d_Sets_init_17 rfl (lv_at hl 1 rfl) ?_
  refine lv_aload_n hx hb d_Sets_init_18 rfl (lv_at hl 0 rfl) ?_
  refine va_get (D := G.1) (ci := 6) (v := .int 8) (C := R_Sets) (T := F_Sets) (N := 5) hx hb hts i_Sets hown hK hP 0 rfl rfl 1 (by decide) (hts _ q242) (fun _ h9 => h9) rfl d_Sets_init_19 ?_
  refine lv_imul hx hb d_Sets_init_22 ?_
  refine z_topi (y := 3200) (by decide +kernel) ?_
  refine z_newa (atype := .long) (ty := .long) (a0 := (3200, .inr (.inl (fun _ => 0)))) Z hP hD hS hA q232 rfl 1 rfl (fun _ h => by cases h) (fun _ => by rfl) (by decide +kernel) (N' := 3200) (by decide +kernel) (by decide +kernel) (Nat.le_of_ble_eq_true rfl) (Nat.le_of_ble_eq_true rfl) d_Sets_init_23 (fun q_1 H hP hD hS => ?_)
  have hP : va_P G.1 classes [(b0, .inr (6, [.int 0, .int 8, .int 400, .null, .null])), (q_1, .inl (G.2 1, 3200, .inr (.inl (fun _ => 0))))] H := hP
  have hD := z_tie hP hD rfl
  refine W.widen (k := 1) (n := 3200) (Nat.le_of_ble_eq_true rfl) (Nat.le_of_ble_eq_true rfl) ?_
  refine va_putF (D := G.1) (ci := 6) (v := .ref q_1) (ty := .array .long) (C := R_Sets) (T := F_Sets) (N := 5) hx hb hts i_Sets t_Sets t_Sets_ok n_Sets hown hK hP hD hS 0 rfl rfl 3 (by decide) (hts _ q244) (fun _ h9 => h9) rfl hnm rfl (by decide +kernel) rfl rfl (Nat.le_of_ble_eq_true rfl) d_Sets_init_25 (fun H locs hP hD hS => ?_)
  have hP : va_P G.1 classes [(b0, .inr (6, [.int 0, .int 8, .int 400, .ref q_1, .null])), (q_1, .inl (G.2 1, 3200, .inr (.inl (fun _ => 0))))] H := hP
  have hD := z_tie hP hD rfl
  refine lv_iconst (v := 2) hx hb d_Sets_init_28 (by decide) ?_
  refine lv_istore_n (lv' := [(3, .int 2), (0, .ref b0), (1, .int 400), (2, .int 2)]) hx hb d_Sets_init_29 rfl hl (by decide) rfl (fun ls hl => ?_)
  refine lv_iload_n hx hb d_Sets_init_30 rfl (lv_at hl 0 rfl) ?_
  refine lv_iconst (v := 2) hx hb d_Sets_init_31 (by decide) ?_
  refine lv_iload_n hx hb d_Sets_init_32 rfl (lv_at hl 2 rfl) ?_
  refine lv_imul hx hb d_Sets_init_33 ?_
  refine z_topi (y := 800) (by decide +kernel) ?_
  refine lv_icmp_ge (tgt := 44) hx hb d_Sets_init_34 (by decide) (fun hc => absurd hc (by decide +kernel)) (fun _ => ?_)
  refine lv_iconst (v := 2) hx hb d_Sets_init_37 (by decide) ?_
  refine lv_iload_n hx hb d_Sets_init_38 rfl (lv_at hl 0 rfl) ?_
  refine lv_imul hx hb d_Sets_init_39 ?_
  refine z_topi (y := 4) (by decide +kernel) ?_
  refine lv_istore_n (lv' := [(3, .int 4), (0, .ref b0), (1, .int 400), (2, .int 2)]) hx hb d_Sets_init_40 rfl hl (by decide) rfl (fun ls hl => ?_)
  refine lv_goto (tgt := 30) hx hb d_Sets_init_41 (by decide) ?_
  refine lv_iload_n hx hb d_Sets_init_30 rfl (lv_at hl 0 rfl) ?_
  refine lv_iconst (v := 2) hx hb d_Sets_init_31 (by decide) ?_
  refine lv_iload_n hx hb d_Sets_init_32 rfl (lv_at hl 2 rfl) ?_
  refine lv_imul hx hb d_Sets_init_33 ?_
  refine z_topi (y := 800) (by decide +kernel) ?_
  refine lv_icmp_ge (tgt := 44) hx hb d_Sets_init_34 (by decide) (fun hc => absurd hc (by decide +kernel)) (fun _ => ?_)
  refine lv_iconst (v := 2) hx hb d_Sets_init_37 (by decide) ?_
  refine lv_iload_n hx hb d_Sets_init_38 rfl (lv_at hl 0 rfl) ?_
  refine lv_imul hx hb d_Sets_init_39 ?_
  refine z_topi (y := 8) (by decide +kernel) ?_
  refine lv_istore_n (lv' := [(3, .int 8), (0, .ref b0), (1, .int 400), (2, .int 2)]) hx hb d_Sets_init_40 rfl hl (by decide) rfl (fun ls hl => ?_)
  refine lv_goto (tgt := 30) hx hb d_Sets_init_41 (by decide) ?_
  refine lv_iload_n hx hb d_Sets_init_30 rfl (lv_at hl 0 rfl) ?_
  refine lv_iconst (v := 2) hx hb d_Sets_init_31 (by decide) ?_
  refine lv_iload_n hx hb d_Sets_init_32 rfl (lv_at hl 2 rfl) ?_
  refine lv_imul hx hb d_Sets_init_33 ?_
  refine z_topi (y := 800) (by decide +kernel) ?_
  refine lv_icmp_ge (tgt := 44) hx hb d_Sets_init_34 (by decide) (fun hc => absurd hc (by decide +kernel)) (fun _ => ?_)
  refine lv_iconst (v := 2) hx hb d_Sets_init_37 (by decide) ?_
  refine lv_iload_n hx hb d_Sets_init_38 rfl (lv_at hl 0 rfl) ?_
  refine lv_imul hx hb d_Sets_init_39 ?_
  refine z_topi (y := 16) (by decide +kernel) ?_
  refine lv_istore_n (lv' := [(3, .int 16), (0, .ref b0), (1, .int 400), (2, .int 2)]) hx hb d_Sets_init_40 rfl hl (by decide) rfl (fun ls hl => ?_)
  refine lv_goto (tgt := 30) hx hb d_Sets_init_41 (by decide) ?_
  refine lv_iload_n hx hb d_Sets_init_30 rfl (lv_at hl 0 rfl) ?_
  refine lv_iconst (v := 2) hx hb d_Sets_init_31 (by decide) ?_
  refine lv_iload_n hx hb d_Sets_init_32 rfl (lv_at hl 2 rfl) ?_
  refine lv_imul hx hb d_Sets_init_33 ?_
  refine z_topi (y := 800) (by decide +kernel) ?_
  refine lv_icmp_ge (tgt := 44) hx hb d_Sets_init_34 (by decide) (fun hc => absurd hc (by decide +kernel)) (fun _ => ?_)
  refine lv_iconst (v := 2) hx hb d_Sets_init_37 (by decide) ?_
  refine lv_iload_n hx hb d_Sets_init_38 rfl (lv_at hl 0 rfl) ?_
  refine lv_imul hx hb d_Sets_init_39 ?_
  refine z_topi (y := 32) (by decide +kernel) ?_
  refine lv_istore_n (lv' := [(3, .int 32), (0, .ref b0), (1, .int 400), (2, .int 2)]) hx hb d_Sets_init_40 rfl hl (by decide) rfl (fun ls hl => ?_)
  refine lv_goto (tgt := 30) hx hb d_Sets_init_41 (by decide) ?_
  refine lv_iload_n hx hb d_Sets_init_30 rfl (lv_at hl 0 rfl) ?_
  refine lv_iconst (v := 2) hx hb d_Sets_init_31 (by decide) ?_
  refine lv_iload_n hx hb d_Sets_init_32 rfl (lv_at hl 2 rfl) ?_
  refine lv_imul hx hb d_Sets_init_33 ?_
  refine z_topi (y := 800) (by decide +kernel) ?_
  refine lv_icmp_ge (tgt := 44) hx hb d_Sets_init_34 (by decide) (fun hc => absurd hc (by decide +kernel)) (fun _ => ?_)
  refine lv_iconst (v := 2) hx hb d_Sets_init_37 (by decide) ?_
  refine lv_iload_n hx hb d_Sets_init_38 rfl (lv_at hl 0 rfl) ?_
  refine lv_imul hx hb d_Sets_init_39 ?_
  refine z_topi (y := 64) (by decide +kernel) ?_
  refine lv_istore_n (lv' := [(3, .int 64), (0, .ref b0), (1, .int 400), (2, .int 2)]) hx hb d_Sets_init_40 rfl hl (by decide) rfl (fun ls hl => ?_)
  refine lv_goto (tgt := 30) hx hb d_Sets_init_41 (by decide) ?_
  refine lv_iload_n hx hb d_Sets_init_30 rfl (lv_at hl 0 rfl) ?_
  refine lv_iconst (v := 2) hx hb d_Sets_init_31 (by decide) ?_
  refine lv_iload_n hx hb d_Sets_init_32 rfl (lv_at hl 2 rfl) ?_
  refine lv_imul hx hb d_Sets_init_33 ?_
  refine z_topi (y := 800) (by decide +kernel) ?_
  refine lv_icmp_ge (tgt := 44) hx hb d_Sets_init_34 (by decide) (fun hc => absurd hc (by decide +kernel)) (fun _ => ?_)
  refine lv_iconst (v := 2) hx hb d_Sets_init_37 (by decide) ?_
  refine lv_iload_n hx hb d_Sets_init_38 rfl (lv_at hl 0 rfl) ?_
  refine lv_imul hx hb d_Sets_init_39 ?_
  refine z_topi (y := 128) (by decide +kernel) ?_
  refine lv_istore_n (lv' := [(3, .int 128), (0, .ref b0), (1, .int 400), (2, .int 2)]) hx hb d_Sets_init_40 rfl hl (by decide) rfl (fun ls hl => ?_)
  refine lv_goto (tgt := 30) hx hb d_Sets_init_41 (by decide) ?_
  refine lv_iload_n hx hb d_Sets_init_30 rfl (lv_at hl 0 rfl) ?_
  refine lv_iconst (v := 2) hx hb d_Sets_init_31 (by decide) ?_
  refine lv_iload_n hx hb d_Sets_init_32 rfl (lv_at hl 2 rfl) ?_
  refine lv_imul hx hb d_Sets_init_33 ?_
  refine z_topi (y := 800) (by decide +kernel) ?_
  refine lv_icmp_ge (tgt := 44) hx hb d_Sets_init_34 (by decide) (fun hc => absurd hc (by decide +kernel)) (fun _ => ?_)
  refine lv_iconst (v := 2) hx hb d_Sets_init_37 (by decide) ?_
  refine lv_iload_n hx hb d_Sets_init_38 rfl (lv_at hl 0 rfl) ?_
  refine lv_imul hx hb d_Sets_init_39 ?_
  refine z_topi (y := 256) (by decide +kernel) ?_
  refine lv_istore_n (lv' := [(3, .int 256), (0, .ref b0), (1, .int 400), (2, .int 2)]) hx hb d_Sets_init_40 rfl hl (by decide) rfl (fun ls hl => ?_)
  refine lv_goto (tgt := 30) hx hb d_Sets_init_41 (by decide) ?_
  refine lv_iload_n hx hb d_Sets_init_30 rfl (lv_at hl 0 rfl) ?_
  refine lv_iconst (v := 2) hx hb d_Sets_init_31 (by decide) ?_
  refine lv_iload_n hx hb d_Sets_init_32 rfl (lv_at hl 2 rfl) ?_
  refine lv_imul hx hb d_Sets_init_33 ?_
  refine z_topi (y := 800) (by decide +kernel) ?_
  refine lv_icmp_ge (tgt := 44) hx hb d_Sets_init_34 (by decide) (fun hc => absurd hc (by decide +kernel)) (fun _ => ?_)
  refine lv_iconst (v := 2) hx hb d_Sets_init_37 (by decide) ?_
  refine lv_iload_n hx hb d_Sets_init_38 rfl (lv_at hl 0 rfl) ?_
  refine lv_imul hx hb d_Sets_init_39 ?_
  refine z_topi (y := 512) (by decide +kernel) ?_
  refine lv_istore_n (lv' := [(3, .int 512), (0, .ref b0), (1, .int 400), (2, .int 2)]) hx hb d_Sets_init_40 rfl hl (by decide) rfl (fun ls hl => ?_)
  refine lv_goto (tgt := 30) hx hb d_Sets_init_41 (by decide) ?_
  refine lv_iload_n hx hb d_Sets_init_30 rfl (lv_at hl 0 rfl) ?_
  refine lv_iconst (v := 2) hx hb d_Sets_init_31 (by decide) ?_
  refine lv_iload_n hx hb d_Sets_init_32 rfl (lv_at hl 2 rfl) ?_
  refine lv_imul hx hb d_Sets_init_33 ?_
  refine z_topi (y := 800) (by decide +kernel) ?_
  refine lv_icmp_ge (tgt := 44) hx hb d_Sets_init_34 (by decide) (fun hc => absurd hc (by decide +kernel)) (fun _ => ?_)
  refine lv_iconst (v := 2) hx hb d_Sets_init_37 (by decide) ?_
  refine lv_iload_n hx hb d_Sets_init_38 rfl (lv_at hl 0 rfl) ?_
  refine lv_imul hx hb d_Sets_init_39 ?_
  refine z_topi (y := 1024) (by decide +kernel) ?_
  refine lv_istore_n (lv' := [(3, .int 1024), (0, .ref b0), (1, .int 400), (2, .int 2)]) hx hb d_Sets_init_40 rfl hl (by decide) rfl (fun ls hl => ?_)
  refine lv_goto (tgt := 30) hx hb d_Sets_init_41 (by decide) ?_
  refine lv_iload_n hx hb d_Sets_init_30 rfl (lv_at hl 0 rfl) ?_
  refine lv_iconst (v := 2) hx hb d_Sets_init_31 (by decide) ?_
  refine lv_iload_n hx hb d_Sets_init_32 rfl (lv_at hl 2 rfl) ?_
  refine lv_imul hx hb d_Sets_init_33 ?_
  refine z_topi (y := 800) (by decide +kernel) ?_
  refine lv_icmp_ge (tgt := 44) hx hb d_Sets_init_34 (by decide) (fun _ => ?_) (fun hc => absurd hc (by decide +kernel))
  refine lv_aload_n hx hb d_Sets_init_44 rfl (lv_at hl 1 rfl) ?_
  refine lv_iload_n hx hb d_Sets_init_45 rfl (lv_at hl 0 rfl) ?_
  refine z_newa (atype := .int) (ty := .int) (a0 := (1024, .inl (fun _ => 0))) Z hP hD hS hA q87 rfl 0 rfl (fun _ h => by cases h) (fun _ => by rfl) (by decide +kernel) (N' := 1024) (by decide +kernel) (by decide +kernel) (Nat.le_of_ble_eq_true rfl) (Nat.le_of_ble_eq_true rfl) d_Sets_init_46 (fun q_2 H hP hD hS => ?_)
  have hP : va_P G.1 classes [(b0, .inr (6, [.int 0, .int 8, .int 400, .ref q_1, .null])), (q_1, .inl (G.2 1, 3200, .inr (.inl (fun _ => 0)))), (q_2, .inl (G.2 0, 1024, .inl (fun _ => 0)))] H := hP
  have hD := z_tie hP hD rfl
  refine W.widen (k := 2) (n := 4224) (Nat.le_of_ble_eq_true rfl) (Nat.le_of_ble_eq_true rfl) ?_
  refine va_putF (D := G.1) (ci := 6) (v := .ref q_2) (ty := .array .int) (C := R_Sets) (T := F_Sets) (N := 5) hx hb hts i_Sets t_Sets t_Sets_ok n_Sets hown hK hP hD hS 0 rfl rfl 4 (by decide) (hts _ q245) (fun _ h9 => h9) rfl hnm rfl (by decide +kernel) rfl rfl (Nat.le_of_ble_eq_true rfl) d_Sets_init_48 (fun H locs hP hD hS => ?_)
  have hP : va_P G.1 classes [(b0, .inr (6, [.int 0, .int 8, .int 400, .ref q_1, .ref q_2])), (q_1, .inl (G.2 1, 3200, .inr (.inl (fun _ => 0)))), (q_2, .inl (G.2 0, 1024, .inl (fun _ => 0)))] H := hP
  have hD := z_tie hP hD rfl
  exact z_vret hx hb hr hlocks hP hD hS (Nat.le_of_ble_eq_true rfl) (Nat.le_of_ble_eq_true rfl) d_Sets_init_51 ⟨q_1, q_2, rfl, rfl⟩
theorem d_Parting_init_24 : decode prog_7_method_1_code 24 = .ok (.putfield 20, 3) := by decide +kernel
theorem d_Parting_init_27 : decode prog_7_method_1_code 27 = .ok (.aload_n 0, 1) := by decide +kernel
theorem d_Parting_init_28 : decode prog_7_method_1_code 28 = .ok (.new 15, 3) := by decide +kernel
theorem d_Parting_init_31 : decode prog_7_method_1_code 31 = .ok (.dup, 1) := by decide +kernel
theorem d_Parting_init_32 : decode prog_7_method_1_code 32 = .ok (.bipush 10, 2) := by decide +kernel
theorem d_Parting_init_34 : decode prog_7_method_1_code 34 = .ok (.iconst 2, 1) := by decide +kernel
theorem d_Parting_init_35 : decode prog_7_method_1_code 35 = .ok (.invokespecial 17, 3) := by decide +kernel
abbrev m_c4_Sets_init : Room := { frames := 1, cells := 2, slots := 112, locals := 12 }
set_option maxHeartbeats 4000000 in
set_option maxRecDepth 100000 in
theorem c4_Sets_init (l : Launch) (G : zG) (b0 : Nat)  : zM l G y_Sets_init prog_8_method_1_code 4 (Option.none : Option Jvm.ClassFile.FieldType) m_c4_Sets_init [.ref b0, .int 10, .int 2] [(b0, .inr (6, [.int 0, .int 0, .int 0, .null, .null]))] (fun v w => (∃ (e0 : Nat), ∃ (e1 : Nat), v = none ∧ w = [(b0, .inr (6, [.int 0, .int 8, .int 10, .ref e0, .ref e1])), (e0, .inl (G.2 1, 80, .inr (.inl (fun _ => 0)))), (e1, .inl (G.2 0, 32, .inl (fun _ => 0)))])) := by
  refine z_start (by decide +kernel) (Nat.le_of_ble_eq_true rfl) ?_
  intro p e s m below meth c A Z hr hnm hA hP hD hS ls hl
  have Z : zC p s m _ meth c prog_8_method_1_code 4 "TraceMachines$StateSets" G := Z
  obtain ⟨hx, hb, hml, hown, hts, hK, hN, hlocks⟩ := id Z
  have hl : lv_has ls 4 [(0, .ref b0), (1, .int 10), (2, .int 2)] := hl
  refine lv_aload_n hx hb d_Sets_init_0 rfl (lv_at hl 0 rfl) ?_
  refine W.objInit hx hb hown (hts _ q238) (hts _ q29) (hts _ q30) rfl (by rw [hml]; exact hl.1) rfl d_Sets_init_1 (Nat.le_of_ble_eq_true rfl) (Nat.le_of_ble_eq_true rfl) ?_
  refine W.eq (g2 := F0 m 4 ls []) rfl ?_
  refine lv_aload_n hx hb d_Sets_init_4 rfl (lv_at hl 0 rfl) ?_
  refine lv_iload_n hx hb d_Sets_init_5 rfl (lv_at hl 1 rfl) ?_
  refine va_putF (D := G.1) (ci := 6) (v := .int 10) (ty := .int) (C := R_Sets) (T := F_Sets) (N := 5) hx hb hts i_Sets t_Sets t_Sets_ok n_Sets hown hK hP hD hS 0 rfl rfl 2 (by decide) (hts _ q243) (fun _ h9 => h9) rfl hnm rfl (by decide +kernel) rfl rfl (Nat.le_of_ble_eq_true rfl) d_Sets_init_6 (fun H locs hP hD hS => ?_)
  have hP : va_P G.1 classes [(b0, .inr (6, [.int 0, .int 0, .int 10, .null, .null]))] H := hP
  have hD := z_tie hP hD rfl
  refine lv_aload_n hx hb d_Sets_init_9 rfl (lv_at hl 0 rfl) ?_
  refine lv_iload_n hx hb d_Sets_init_10 rfl (lv_at hl 2 rfl) ?_
  refine lv_iconst (v := 4) hx hb d_Sets_init_11 (by decide) ?_
  refine lv_imul hx hb d_Sets_init_12 ?_
  refine z_topi (y := 8) (by decide +kernel) ?_
  refine va_putF (D := G.1) (ci := 6) (v := .int 8) (ty := .int) (C := R_Sets) (T := F_Sets) (N := 5) hx hb hts i_Sets t_Sets t_Sets_ok n_Sets hown hK hP hD hS 0 rfl rfl 1 (by decide) (hts _ q242) (fun _ h9 => h9) rfl hnm rfl (by decide +kernel) rfl rfl (Nat.le_of_ble_eq_true rfl) d_Sets_init_13 (fun H locs hP hD hS => ?_)
  have hP : va_P G.1 classes [(b0, .inr (6, [.int 0, .int 8, .int 10, .null, .null]))] H := hP
  have hD := z_tie hP hD rfl
  refine lv_aload_n hx hb d_Sets_init_16 rfl (lv_at hl 0 rfl) ?_
  refine lv_iload_n hx hb d_Sets_init_17 rfl (lv_at hl 1 rfl) ?_
  refine lv_aload_n hx hb d_Sets_init_18 rfl (lv_at hl 0 rfl) ?_
  refine va_get (D := G.1) (ci := 6) (v := .int 8) (C := R_Sets) (T := F_Sets) (N := 5) hx hb hts i_Sets hown hK hP 0 rfl rfl 1 (by decide) (hts _ q242) (fun _ h9 => h9) rfl d_Sets_init_19 ?_
  refine lv_imul hx hb d_Sets_init_22 ?_
  refine z_topi (y := 80) (by decide +kernel) ?_
  refine z_newa (atype := .long) (ty := .long) (a0 := (80, .inr (.inl (fun _ => 0)))) Z hP hD hS hA q232 rfl 1 rfl (fun _ h => by cases h) (fun _ => by rfl) (by decide +kernel) (N' := 80) (by decide +kernel) (by decide +kernel) (Nat.le_of_ble_eq_true rfl) (Nat.le_of_ble_eq_true rfl) d_Sets_init_23 (fun q_1 H hP hD hS => ?_)
  have hP : va_P G.1 classes [(b0, .inr (6, [.int 0, .int 8, .int 10, .null, .null])), (q_1, .inl (G.2 1, 80, .inr (.inl (fun _ => 0))))] H := hP
  have hD := z_tie hP hD rfl
  refine W.widen (k := 1) (n := 80) (Nat.le_of_ble_eq_true rfl) (Nat.le_of_ble_eq_true rfl) ?_
  refine va_putF (D := G.1) (ci := 6) (v := .ref q_1) (ty := .array .long) (C := R_Sets) (T := F_Sets) (N := 5) hx hb hts i_Sets t_Sets t_Sets_ok n_Sets hown hK hP hD hS 0 rfl rfl 3 (by decide) (hts _ q244) (fun _ h9 => h9) rfl hnm rfl (by decide +kernel) rfl rfl (Nat.le_of_ble_eq_true rfl) d_Sets_init_25 (fun H locs hP hD hS => ?_)
  have hP : va_P G.1 classes [(b0, .inr (6, [.int 0, .int 8, .int 10, .ref q_1, .null])), (q_1, .inl (G.2 1, 80, .inr (.inl (fun _ => 0))))] H := hP
  have hD := z_tie hP hD rfl
  refine lv_iconst (v := 2) hx hb d_Sets_init_28 (by decide) ?_
  refine lv_istore_n (lv' := [(3, .int 2), (0, .ref b0), (1, .int 10), (2, .int 2)]) hx hb d_Sets_init_29 rfl hl (by decide) rfl (fun ls hl => ?_)
  refine lv_iload_n hx hb d_Sets_init_30 rfl (lv_at hl 0 rfl) ?_
  refine lv_iconst (v := 2) hx hb d_Sets_init_31 (by decide) ?_
  refine lv_iload_n hx hb d_Sets_init_32 rfl (lv_at hl 2 rfl) ?_
  refine lv_imul hx hb d_Sets_init_33 ?_
  refine z_topi (y := 20) (by decide +kernel) ?_
  refine lv_icmp_ge (tgt := 44) hx hb d_Sets_init_34 (by decide) (fun hc => absurd hc (by decide +kernel)) (fun _ => ?_)
  refine lv_iconst (v := 2) hx hb d_Sets_init_37 (by decide) ?_
  refine lv_iload_n hx hb d_Sets_init_38 rfl (lv_at hl 0 rfl) ?_
  refine lv_imul hx hb d_Sets_init_39 ?_
  refine z_topi (y := 4) (by decide +kernel) ?_
  refine lv_istore_n (lv' := [(3, .int 4), (0, .ref b0), (1, .int 10), (2, .int 2)]) hx hb d_Sets_init_40 rfl hl (by decide) rfl (fun ls hl => ?_)
  refine lv_goto (tgt := 30) hx hb d_Sets_init_41 (by decide) ?_
  refine lv_iload_n hx hb d_Sets_init_30 rfl (lv_at hl 0 rfl) ?_
  refine lv_iconst (v := 2) hx hb d_Sets_init_31 (by decide) ?_
  refine lv_iload_n hx hb d_Sets_init_32 rfl (lv_at hl 2 rfl) ?_
  refine lv_imul hx hb d_Sets_init_33 ?_
  refine z_topi (y := 20) (by decide +kernel) ?_
  refine lv_icmp_ge (tgt := 44) hx hb d_Sets_init_34 (by decide) (fun hc => absurd hc (by decide +kernel)) (fun _ => ?_)
  refine lv_iconst (v := 2) hx hb d_Sets_init_37 (by decide) ?_
  refine lv_iload_n hx hb d_Sets_init_38 rfl (lv_at hl 0 rfl) ?_
  refine lv_imul hx hb d_Sets_init_39 ?_
  refine z_topi (y := 8) (by decide +kernel) ?_
  refine lv_istore_n (lv' := [(3, .int 8), (0, .ref b0), (1, .int 10), (2, .int 2)]) hx hb d_Sets_init_40 rfl hl (by decide) rfl (fun ls hl => ?_)
  refine lv_goto (tgt := 30) hx hb d_Sets_init_41 (by decide) ?_
  refine lv_iload_n hx hb d_Sets_init_30 rfl (lv_at hl 0 rfl) ?_
  refine lv_iconst (v := 2) hx hb d_Sets_init_31 (by decide) ?_
  refine lv_iload_n hx hb d_Sets_init_32 rfl (lv_at hl 2 rfl) ?_
  refine lv_imul hx hb d_Sets_init_33 ?_
  refine z_topi (y := 20) (by decide +kernel) ?_
  refine lv_icmp_ge (tgt := 44) hx hb d_Sets_init_34 (by decide) (fun hc => absurd hc (by decide +kernel)) (fun _ => ?_)
  refine lv_iconst (v := 2) hx hb d_Sets_init_37 (by decide) ?_
  refine lv_iload_n hx hb d_Sets_init_38 rfl (lv_at hl 0 rfl) ?_
  refine lv_imul hx hb d_Sets_init_39 ?_
  refine z_topi (y := 16) (by decide +kernel) ?_
  refine lv_istore_n (lv' := [(3, .int 16), (0, .ref b0), (1, .int 10), (2, .int 2)]) hx hb d_Sets_init_40 rfl hl (by decide) rfl (fun ls hl => ?_)
  refine lv_goto (tgt := 30) hx hb d_Sets_init_41 (by decide) ?_
  refine lv_iload_n hx hb d_Sets_init_30 rfl (lv_at hl 0 rfl) ?_
  refine lv_iconst (v := 2) hx hb d_Sets_init_31 (by decide) ?_
  refine lv_iload_n hx hb d_Sets_init_32 rfl (lv_at hl 2 rfl) ?_
  refine lv_imul hx hb d_Sets_init_33 ?_
  refine z_topi (y := 20) (by decide +kernel) ?_
  refine lv_icmp_ge (tgt := 44) hx hb d_Sets_init_34 (by decide) (fun hc => absurd hc (by decide +kernel)) (fun _ => ?_)
  refine lv_iconst (v := 2) hx hb d_Sets_init_37 (by decide) ?_
  refine lv_iload_n hx hb d_Sets_init_38 rfl (lv_at hl 0 rfl) ?_
  refine lv_imul hx hb d_Sets_init_39 ?_
  refine z_topi (y := 32) (by decide +kernel) ?_
  refine lv_istore_n (lv' := [(3, .int 32), (0, .ref b0), (1, .int 10), (2, .int 2)]) hx hb d_Sets_init_40 rfl hl (by decide) rfl (fun ls hl => ?_)
  refine lv_goto (tgt := 30) hx hb d_Sets_init_41 (by decide) ?_
  refine lv_iload_n hx hb d_Sets_init_30 rfl (lv_at hl 0 rfl) ?_
  refine lv_iconst (v := 2) hx hb d_Sets_init_31 (by decide) ?_
  refine lv_iload_n hx hb d_Sets_init_32 rfl (lv_at hl 2 rfl) ?_
  refine lv_imul hx hb d_Sets_init_33 ?_
  refine z_topi (y := 20) (by decide +kernel) ?_
  refine lv_icmp_ge (tgt := 44) hx hb d_Sets_init_34 (by decide) (fun _ => ?_) (fun hc => absurd hc (by decide +kernel))
  refine lv_aload_n hx hb d_Sets_init_44 rfl (lv_at hl 1 rfl) ?_
  refine lv_iload_n hx hb d_Sets_init_45 rfl (lv_at hl 0 rfl) ?_
  refine z_newa (atype := .int) (ty := .int) (a0 := (32, .inl (fun _ => 0))) Z hP hD hS hA q87 rfl 0 rfl (fun _ h => by cases h) (fun _ => by rfl) (by decide +kernel) (N' := 32) (by decide +kernel) (by decide +kernel) (Nat.le_of_ble_eq_true rfl) (Nat.le_of_ble_eq_true rfl) d_Sets_init_46 (fun q_2 H hP hD hS => ?_)
  have hP : va_P G.1 classes [(b0, .inr (6, [.int 0, .int 8, .int 10, .ref q_1, .null])), (q_1, .inl (G.2 1, 80, .inr (.inl (fun _ => 0)))), (q_2, .inl (G.2 0, 32, .inl (fun _ => 0)))] H := hP
  have hD := z_tie hP hD rfl
  refine W.widen (k := 2) (n := 112) (Nat.le_of_ble_eq_true rfl) (Nat.le_of_ble_eq_true rfl) ?_
  refine va_putF (D := G.1) (ci := 6) (v := .ref q_2) (ty := .array .int) (C := R_Sets) (T := F_Sets) (N := 5) hx hb hts i_Sets t_Sets t_Sets_ok n_Sets hown hK hP hD hS 0 rfl rfl 4 (by decide) (hts _ q245) (fun _ h9 => h9) rfl hnm rfl (by decide +kernel) rfl rfl (Nat.le_of_ble_eq_true rfl) d_Sets_init_48 (fun H locs hP hD hS => ?_)
  have hP : va_P G.1 classes [(b0, .inr (6, [.int 0, .int 8, .int 10, .ref q_1, .ref q_2])), (q_1, .inl (G.2 1, 80, .inr (.inl (fun _ => 0)))), (q_2, .inl (G.2 0, 32, .inl (fun _ => 0)))] H := hP
  have hD := z_tie hP hD rfl
  exact z_vret hx hb hr hlocks hP hD hS (Nat.le_of_ble_eq_true rfl) (Nat.le_of_ble_eq_true rfl) d_Sets_init_51 ⟨q_1, q_2, rfl, rfl⟩
theorem d_Parting_init_38 : decode prog_7_method_1_code 38 = .ok (.putfield 24, 3) := by decide +kernel
theorem d_Parting_init_41 : decode prog_7_method_1_code 41 = .ok (.aload_n 0, 1) := by decide +kernel
theorem d_Parting_init_42 : decode prog_7_method_1_code 42 = .ok (.sipush 400, 3) := by decide +kernel
theorem d_Parting_init_45 : decode prog_7_method_1_code 45 = .ok (.newarray .int, 2) := by decide +kernel
theorem d_Parting_init_47 : decode prog_7_method_1_code 47 = .ok (.putfield 27, 3) := by decide +kernel
theorem d_Parting_init_50 : decode prog_7_method_1_code 50 = .ok (.aload_n 0, 1) := by decide +kernel
theorem d_Parting_init_51 : decode prog_7_method_1_code 51 = .ok (.sipush 400, 3) := by decide +kernel
theorem d_Parting_init_54 : decode prog_7_method_1_code 54 = .ok (.newarray .int, 2) := by decide +kernel
theorem d_Parting_init_56 : decode prog_7_method_1_code 56 = .ok (.putfield 30, 3) := by decide +kernel
theorem d_Parting_init_59 : decode prog_7_method_1_code 59 = .ok (.aload_n 0, 1) := by decide +kernel
theorem d_Parting_init_60 : decode prog_7_method_1_code 60 = .ok (.sipush 400, 3) := by decide +kernel
theorem d_Parting_init_63 : decode prog_7_method_1_code 63 = .ok (.newarray .int, 2) := by decide +kernel
theorem d_Parting_init_65 : decode prog_7_method_1_code 65 = .ok (.putfield 33, 3) := by decide +kernel
theorem d_Parting_init_68 : decode prog_7_method_1_code 68 = .ok (.return_, 1) := by decide +kernel
abbrev m_c_Parting_init : Room := { frames := 2, cells := 10, slots := 5554, locals := 35 }
set_option maxHeartbeats 4000000 in
set_option maxRecDepth 100000 in
theorem c_Parting_init (l : Launch) (G : zG) (h0 : Nat)  : zM l G y_Parting_init prog_7_method_1_code 1 (Option.none : Option Jvm.ClassFile.FieldType) m_c_Parting_init [.ref h0] [(h0, .inr (8, [.int 0, .int 0, .null, .int 0, .int 0, .null, .null, .null, .null, .null]))] (fun v w => (∃ (e0 : Nat), ∃ (e1 : Nat), ∃ (e2 : Nat), ∃ (e3 : Nat), ∃ (e4 : Nat), ∃ (e5 : Nat), ∃ (e6 : Nat), ∃ (e7 : Nat), ∃ (e8 : Nat), ∃ (e9 : Nat), v = none ∧ w = [(h0, .inr (8, [.int 0, .int 0, .ref e0, .int 0, .int 0, .ref e1, .ref e2, .ref e3, .ref e4, .ref e5])), (e0, .inl (G.2 0, 8, .inl (fun _ => 0))), (e1, .inr (6, [.int 0, .int 8, .int 400, .ref e6, .ref e7])), (e6, .inl (G.2 1, 3200, .inr (.inl (fun _ => 0)))), (e7, .inl (G.2 0, 1024, .inl (fun _ => 0))), (e2, .inr (6, [.int 0, .int 8, .int 10, .ref e8, .ref e9])), (e8, .inl (G.2 1, 80, .inr (.inl (fun _ => 0)))), (e9, .inl (G.2 0, 32, .inl (fun _ => 0))), (e3, .inl (G.2 0, 400, .inl (fun _ => 0))), (e4, .inl (G.2 0, 400, .inl (fun _ => 0))), (e5, .inl (G.2 0, 400, .inl (fun _ => 0)))])) := by
  refine z_start (by decide +kernel) (Nat.le_of_ble_eq_true rfl) ?_
  intro p e s m below meth c A Z hr hnm hA hP hD hS ls hl
  have Z : zC p s m _ meth c prog_7_method_1_code 1 "TraceMachines$Parting" G := Z
  obtain ⟨hx, hb, hml, hown, hts, hK, hN, hlocks⟩ := id Z
  have hl : lv_has ls 1 [(0, .ref h0)] := hl
  refine lv_aload_n hx hb d_Parting_init_0 rfl (lv_at hl 0 rfl) ?_
  refine W.objInit hx hb hown (hts _ q296) (hts _ q29) (hts _ q30) rfl (by rw [hml]; exact hl.1) rfl d_Parting_init_1 (Nat.le_of_ble_eq_true rfl) (Nat.le_of_ble_eq_true rfl) ?_
  refine W.eq (g2 := F0 m 4 ls []) rfl ?_
  refine lv_aload_n hx hb d_Parting_init_4 rfl (lv_at hl 0 rfl) ?_
  refine lv_bipush (v := 8) hx hb d_Parting_init_5 (by decide) ?_
  refine z_newa (atype := .int) (ty := .int) (a0 := (8, .inl (fun _ => 0))) Z hP hD hS hA q87 rfl 0 rfl (fun _ h => by cases h) (fun _ => by rfl) (by decide +kernel) (N' := 8) (by decide +kernel) (by decide +kernel) (Nat.le_of_ble_eq_true rfl) (Nat.le_of_ble_eq_true rfl) d_Parting_init_7 (fun q_1 H hP hD hS => ?_)
  have hP : va_P G.1 classes [(h0, .inr (8, [.int 0, .int 0, .null, .int 0, .int 0, .null, .null, .null, .null, .null])), (q_1, .inl (G.2 0, 8, .inl (fun _ => 0)))] H := hP
  have hD := z_tie hP hD rfl
  refine W.widen (k := 1) (n := 8) (Nat.le_of_ble_eq_true rfl) (Nat.le_of_ble_eq_true rfl) ?_
  refine va_putF (D := G.1) (ci := 8) (v := .ref q_1) (ty := .array .int) (C := R_Parting) (T := F_Parting) (N := 10) hx hb hts i_Parting t_Parting t_Parting_ok n_Parting hown hK hP hD hS 0 rfl rfl 2 (by decide) (hts _ q303) (fun _ h9 => h9) rfl hnm rfl (by decide +kernel) rfl rfl (Nat.le_of_ble_eq_true rfl) d_Parting_init_9 (fun H locs hP hD hS => ?_)
  have hP : va_P G.1 classes [(h0, .inr (8, [.int 0, .int 0, .ref q_1, .int 0, .int 0, .null, .null, .null, .null, .null])), (q_1, .inl (G.2 0, 8, .inl (fun _ => 0)))] H := hP
  have hD := z_tie hP hD rfl
  refine lv_aload_n hx hb d_Parting_init_12 rfl (lv_at hl 0 rfl) ?_
  refine va_new (ci := 6) (fs := [.int 0, .int 0, .int 0, .null, .null]) (C := R_Sets) (T := F_Sets) (N := 5) hx hb hts i_Sets t_Sets t_Sets_ok hown (hts _ q297) (hts _ q234) (hts _ q7) hK hP hD hS hA rfl (by decide +kernel) (Nat.le_of_ble_eq_true rfl) (Nat.le_of_ble_eq_true rfl) d_Parting_init_13 (fun q_2 H hP hD hS => ?_)
  have hP : va_P G.1 classes [(h0, .inr (8, [.int 0, .int 0, .ref q_1, .int 0, .int 0, .null, .null, .null, .null, .null])), (q_1, .inl (G.2 0, 8, .inl (fun _ => 0))), (q_2, .inr (6, [.int 0, .int 0, .int 0, .null, .null]))] H := hP
  have hD := z_tie hP hD rfl
  refine W.widen (k := 2) (n := 13) (Nat.le_of_ble_eq_true rfl) (Nat.le_of_ble_eq_true rfl) ?_
  refine lv_dup hx hb d_Parting_init_16 rfl ?_
  refine lv_sipush (v := 400) hx hb d_Parting_init_17 (by decide) ?_
  refine lv_iconst (v := 2) hx hb d_Parting_init_20 (by decide) ?_
  refine z_callI (index := 17) (As := [.int 400, .int 2]) (rest := [.ref q_2, .ref h0]) (wr := [(h0, .inr (8, [.int 0, .int 0, .ref q_1, .int 0, .int 0, .null, .null, .null, .null, .null])), (q_1, .inl (G.2 0, 8, .inl (fun _ => 0)))]) Z (c3_Sets_init l G (q_2)) hl.1 q298 q236 q7 q237 rfl ⟨by decide, by decide, by show _ = some 2; decide +kernel⟩ ⟨Nat.le_of_ble_eq_true rfl, Nat.le_of_ble_eq_true rfl⟩ ⟨Nat.le_of_ble_eq_true rfl, Nat.le_of_ble_eq_true rfl⟩ rfl (Nat.le_of_ble_eq_true rfl) d_Parting_init_21 hP hD hS hA [2] [0, 1] rfl rfl rfl rfl (by decide) (fun v w1 H locs hw_3 hP hD hS => ?_)
  obtain ⟨q_4, q_5, rfl, rfl⟩ := hw_3
  have hP : va_P G.1 classes [(h0, .inr (8, [.int 0, .int 0, .ref q_1, .int 0, .int 0, .null, .null, .null, .null, .null])), (q_1, .inl (G.2 0, 8, .inl (fun _ => 0))), (q_2, .inr (6, [.int 0, .int 8, .int 400, .ref q_4, .ref q_5])), (q_4, .inl (G.2 1, 3200, .inr (.inl (fun _ => 0)))), (q_5, .inl (G.2 0, 1024, .inl (fun _ => 0)))] H := hP
  have hD := z_tie hP hD rfl
  refine W.widen (k := 4) (n := 4237) (Nat.le_of_ble_eq_true rfl) (Nat.le_of_ble_eq_true rfl) ?_
  refine va_putF (D := G.1) (ci := 8) (v := .ref q_2) (ty := .object "TraceMachines$StateSets") (C := R_Parting) (T := F_Parting) (N := 10) hx hb hts i_Parting t_Parting t_Parting_ok n_Parting hown hK hP hD hS 0 rfl rfl 5 (by decide) (hts _ q307) (fun _ h9 => h9) rfl hnm rfl (by decide +kernel) rfl rfl (Nat.le_of_ble_eq_true rfl) d_Parting_init_24 (fun H locs hP hD hS => ?_)
  have hP : va_P G.1 classes [(h0, .inr (8, [.int 0, .int 0, .ref q_1, .int 0, .int 0, .ref q_2, .null, .null, .null, .null])), (q_1, .inl (G.2 0, 8, .inl (fun _ => 0))), (q_2, .inr (6, [.int 0, .int 8, .int 400, .ref q_4, .ref q_5])), (q_4, .inl (G.2 1, 3200, .inr (.inl (fun _ => 0)))), (q_5, .inl (G.2 0, 1024, .inl (fun _ => 0)))] H := hP
  have hD := z_tie hP hD rfl
  refine lv_aload_n hx hb d_Parting_init_27 rfl (lv_at hl 0 rfl) ?_
  refine va_new (ci := 6) (fs := [.int 0, .int 0, .int 0, .null, .null]) (C := R_Sets) (T := F_Sets) (N := 5) hx hb hts i_Sets t_Sets t_Sets_ok hown (hts _ q297) (hts _ q234) (hts _ q7) hK hP hD hS hA rfl (by decide +kernel) (Nat.le_of_ble_eq_true rfl) (Nat.le_of_ble_eq_true rfl) d_Parting_init_28 (fun q_6 H hP hD hS => ?_)
  have hP : va_P G.1 classes [(h0, .inr (8, [.int 0, .int 0, .ref q_1, .int 0, .int 0, .ref q_2, .null, .null, .null, .null])), (q_1, .inl (G.2 0, 8, .inl (fun _ => 0))), (q_2, .inr (6, [.int 0, .int 8, .int 400, .ref q_4, .ref q_5])), (q_4, .inl (G.2 1, 3200, .inr (.inl (fun _ => 0)))), (q_5, .inl (G.2 0, 1024, .inl (fun _ => 0))), (q_6, .inr (6, [.int 0, .int 0, .int 0, .null, .null]))] H := hP
  have hD := z_tie hP hD rfl
  refine W.widen (k := 5) (n := 4242) (Nat.le_of_ble_eq_true rfl) (Nat.le_of_ble_eq_true rfl) ?_
  refine lv_dup hx hb d_Parting_init_31 rfl ?_
  refine lv_bipush (v := 10) hx hb d_Parting_init_32 (by decide) ?_
  refine lv_iconst (v := 2) hx hb d_Parting_init_34 (by decide) ?_
  refine z_callI (index := 17) (As := [.int 10, .int 2]) (rest := [.ref q_6, .ref h0]) (wr := [(h0, .inr (8, [.int 0, .int 0, .ref q_1, .int 0, .int 0, .ref q_2, .null, .null, .null, .null])), (q_1, .inl (G.2 0, 8, .inl (fun _ => 0))), (q_2, .inr (6, [.int 0, .int 8, .int 400, .ref q_4, .ref q_5])), (q_4, .inl (G.2 1, 3200, .inr (.inl (fun _ => 0)))), (q_5, .inl (G.2 0, 1024, .inl (fun _ => 0)))]) Z (c4_Sets_init l G (q_6)) hl.1 q298 q236 q7 q237 rfl ⟨by decide, by decide, by show _ = some 2; decide +kernel⟩ ⟨Nat.le_of_ble_eq_true rfl, Nat.le_of_ble_eq_true rfl⟩ ⟨Nat.le_of_ble_eq_true rfl, Nat.le_of_ble_eq_true rfl⟩ rfl (Nat.le_of_ble_eq_true rfl) d_Parting_init_35 hP hD hS hA [5] [0, 1, 2, 3, 4] rfl rfl rfl rfl (by decide) (fun v w1 H locs hw_7 hP hD hS => ?_)
  obtain ⟨q_8, q_9, rfl, rfl⟩ := hw_7
  have hP : va_P G.1 classes [(h0, .inr (8, [.int 0, .int 0, .ref q_1, .int 0, .int 0, .ref q_2, .null, .null, .null, .null])), (q_1, .inl (G.2 0, 8, .inl (fun _ => 0))), (q_2, .inr (6, [.int 0, .int 8, .int 400, .ref q_4, .ref q_5])), (q_4, .inl (G.2 1, 3200, .inr (.inl (fun _ => 0)))), (q_5, .inl (G.2 0, 1024, .inl (fun _ => 0))), (q_6, .inr (6, [.int 0, .int 8, .int 10, .ref q_8, .ref q_9])), (q_8, .inl (G.2 1, 80, .inr (.inl (fun _ => 0)))), (q_9, .inl (G.2 0, 32, .inl (fun _ => 0)))] H := hP
  have hD := z_tie hP hD rfl
  refine W.widen (k := 7) (n := 4354) (Nat.le_of_ble_eq_true rfl) (Nat.le_of_ble_eq_true rfl) ?_
  refine va_putF (D := G.1) (ci := 8) (v := .ref q_6) (ty := .object "TraceMachines$StateSets") (C := R_Parting) (T := F_Parting) (N := 10) hx hb hts i_Parting t_Parting t_Parting_ok n_Parting hown hK hP hD hS 0 rfl rfl 6 (by decide) (hts _ q308) (fun _ h9 => h9) rfl hnm rfl (by decide +kernel) rfl rfl (Nat.le_of_ble_eq_true rfl) d_Parting_init_38 (fun H locs hP hD hS => ?_)
  have hP : va_P G.1 classes [(h0, .inr (8, [.int 0, .int 0, .ref q_1, .int 0, .int 0, .ref q_2, .ref q_6, .null, .null, .null])), (q_1, .inl (G.2 0, 8, .inl (fun _ => 0))), (q_2, .inr (6, [.int 0, .int 8, .int 400, .ref q_4, .ref q_5])), (q_4, .inl (G.2 1, 3200, .inr (.inl (fun _ => 0)))), (q_5, .inl (G.2 0, 1024, .inl (fun _ => 0))), (q_6, .inr (6, [.int 0, .int 8, .int 10, .ref q_8, .ref q_9])), (q_8, .inl (G.2 1, 80, .inr (.inl (fun _ => 0)))), (q_9, .inl (G.2 0, 32, .inl (fun _ => 0)))] H := hP
  have hD := z_tie hP hD rfl
  refine lv_aload_n hx hb d_Parting_init_41 rfl (lv_at hl 0 rfl) ?_
  refine lv_sipush (v := 400) hx hb d_Parting_init_42 (by decide) ?_
  refine z_newa (atype := .int) (ty := .int) (a0 := (400, .inl (fun _ => 0))) Z hP hD hS hA q87 rfl 0 rfl (fun _ h => by cases h) (fun _ => by rfl) (by decide +kernel) (N' := 400) (by decide +kernel) (by decide +kernel) (Nat.le_of_ble_eq_true rfl) (Nat.le_of_ble_eq_true rfl) d_Parting_init_45 (fun q_10 H hP hD hS => ?_)
  have hP : va_P G.1 classes [(h0, .inr (8, [.int 0, .int 0, .ref q_1, .int 0, .int 0, .ref q_2, .ref q_6, .null, .null, .null])), (q_1, .inl (G.2 0, 8, .inl (fun _ => 0))), (q_2, .inr (6, [.int 0, .int 8, .int 400, .ref q_4, .ref q_5])), (q_4, .inl (G.2 1, 3200, .inr (.inl (fun _ => 0)))), (q_5, .inl (G.2 0, 1024, .inl (fun _ => 0))), (q_6, .inr (6, [.int 0, .int 8, .int 10, .ref q_8, .ref q_9])), (q_8, .inl (G.2 1, 80, .inr (.inl (fun _ => 0)))), (q_9, .inl (G.2 0, 32, .inl (fun _ => 0))), (q_10, .inl (G.2 0, 400, .inl (fun _ => 0)))] H := hP
  have hD := z_tie hP hD rfl
  refine W.widen (k := 8) (n := 4754) (Nat.le_of_ble_eq_true rfl) (Nat.le_of_ble_eq_true rfl) ?_
  refine va_putF (D := G.1) (ci := 8) (v := .ref q_10) (ty := .array .int) (C := R_Parting) (T := F_Parting) (N := 10) hx hb hts i_Parting t_Parting t_Parting_ok n_Parting hown hK hP hD hS 0 rfl rfl 7 (by decide) (hts _ q309) (fun _ h9 => h9) rfl hnm rfl (by decide +kernel) rfl rfl (Nat.le_of_ble_eq_true rfl) d_Parting_init_47 (fun H locs hP hD hS => ?_)
  have hP : va_P G.1 classes [(h0, .inr (8, [.int 0, .int 0, .ref q_1, .int 0, .int 0, .ref q_2, .ref q_6, .ref q_10, .null, .null])), (q_1, .inl (G.2 0, 8, .inl (fun _ => 0))), (q_2, .inr (6, [.int 0, .int 8, .int 400, .ref q_4, .ref q_5])), (q_4, .inl (G.2 1, 3200, .inr (.inl (fun _ => 0)))), (q_5, .inl (G.2 0, 1024, .inl (fun _ => 0))), (q_6, .inr (6, [.int 0, .int 8, .int 10, .ref q_8, .ref q_9])), (q_8, .inl (G.2 1, 80, .inr (.inl (fun _ => 0)))), (q_9, .inl (G.2 0, 32, .inl (fun _ => 0))), (q_10, .inl (G.2 0, 400, .inl (fun _ => 0)))] H := hP
  have hD := z_tie hP hD rfl
  refine lv_aload_n hx hb d_Parting_init_50 rfl (lv_at hl 0 rfl) ?_
  refine lv_sipush (v := 400) hx hb d_Parting_init_51 (by decide) ?_
  refine z_newa (atype := .int) (ty := .int) (a0 := (400, .inl (fun _ => 0))) Z hP hD hS hA q87 rfl 0 rfl (fun _ h => by cases h) (fun _ => by rfl) (by decide +kernel) (N' := 400) (by decide +kernel) (by decide +kernel) (Nat.le_of_ble_eq_true rfl) (Nat.le_of_ble_eq_true rfl) d_Parting_init_54 (fun q_11 H hP hD hS => ?_)
  have hP : va_P G.1 classes [(h0, .inr (8, [.int 0, .int 0, .ref q_1, .int 0, .int 0, .ref q_2, .ref q_6, .ref q_10, .null, .null])), (q_1, .inl (G.2 0, 8, .inl (fun _ => 0))), (q_2, .inr (6, [.int 0, .int 8, .int 400, .ref q_4, .ref q_5])), (q_4, .inl (G.2 1, 3200, .inr (.inl (fun _ => 0)))), (q_5, .inl (G.2 0, 1024, .inl (fun _ => 0))), (q_6, .inr (6, [.int 0, .int 8, .int 10, .ref q_8, .ref q_9])), (q_8, .inl (G.2 1, 80, .inr (.inl (fun _ => 0)))), (q_9, .inl (G.2 0, 32, .inl (fun _ => 0))), (q_10, .inl (G.2 0, 400, .inl (fun _ => 0))), (q_11, .inl (G.2 0, 400, .inl (fun _ => 0)))] H := hP
  have hD := z_tie hP hD rfl
  refine W.widen (k := 9) (n := 5154) (Nat.le_of_ble_eq_true rfl) (Nat.le_of_ble_eq_true rfl) ?_
  refine va_putF (D := G.1) (ci := 8) (v := .ref q_11) (ty := .array .int) (C := R_Parting) (T := F_Parting) (N := 10) hx hb hts i_Parting t_Parting t_Parting_ok n_Parting hown hK hP hD hS 0 rfl rfl 8 (by decide) (hts _ q310) (fun _ h9 => h9) rfl hnm rfl (by decide +kernel) rfl rfl (Nat.le_of_ble_eq_true rfl) d_Parting_init_56 (fun H locs hP hD hS => ?_)
  have hP : va_P G.1 classes [(h0, .inr (8, [.int 0, .int 0, .ref q_1, .int 0, .int 0, .ref q_2, .ref q_6, .ref q_10, .ref q_11, .null])), (q_1, .inl (G.2 0, 8, .inl (fun _ => 0))), (q_2, .inr (6, [.int 0, .int 8, .int 400, .ref q_4, .ref q_5])), (q_4, .inl (G.2 1, 3200, .inr (.inl (fun _ => 0)))), (q_5, .inl (G.2 0, 1024, .inl (fun _ => 0))), (q_6, .inr (6, [.int 0, .int 8, .int 10, .ref q_8, .ref q_9])), (q_8, .inl (G.2 1, 80, .inr (.inl (fun _ => 0)))), (q_9, .inl (G.2 0, 32, .inl (fun _ => 0))), (q_10, .inl (G.2 0, 400, .inl (fun _ => 0))), (q_11, .inl (G.2 0, 400, .inl (fun _ => 0)))] H := hP
  have hD := z_tie hP hD rfl
  refine lv_aload_n hx hb d_Parting_init_59 rfl (lv_at hl 0 rfl) ?_
  refine lv_sipush (v := 400) hx hb d_Parting_init_60 (by decide) ?_
  refine z_newa (atype := .int) (ty := .int) (a0 := (400, .inl (fun _ => 0))) Z hP hD hS hA q87 rfl 0 rfl (fun _ h => by cases h) (fun _ => by rfl) (by decide +kernel) (N' := 400) (by decide +kernel) (by decide +kernel) (Nat.le_of_ble_eq_true rfl) (Nat.le_of_ble_eq_true rfl) d_Parting_init_63 (fun q_12 H hP hD hS => ?_)
  have hP : va_P G.1 classes [(h0, .inr (8, [.int 0, .int 0, .ref q_1, .int 0, .int 0, .ref q_2, .ref q_6, .ref q_10, .ref q_11, .null])), (q_1, .inl (G.2 0, 8, .inl (fun _ => 0))), (q_2, .inr (6, [.int 0, .int 8, .int 400, .ref q_4, .ref q_5])), (q_4, .inl (G.2 1, 3200, .inr (.inl (fun _ => 0)))), (q_5, .inl (G.2 0, 1024, .inl (fun _ => 0))), (q_6, .inr (6, [.int 0, .int 8, .int 10, .ref q_8, .ref q_9])), (q_8, .inl (G.2 1, 80, .inr (.inl (fun _ => 0)))), (q_9, .inl (G.2 0, 32, .inl (fun _ => 0))), (q_10, .inl (G.2 0, 400, .inl (fun _ => 0))), (q_11, .inl (G.2 0, 400, .inl (fun _ => 0))), (q_12, .inl (G.2 0, 400, .inl (fun _ => 0)))] H := hP
  have hD := z_tie hP hD rfl
  refine W.widen (k := 10) (n := 5554) (Nat.le_of_ble_eq_true rfl) (Nat.le_of_ble_eq_true rfl) ?_
  refine va_putF (D := G.1) (ci := 8) (v := .ref q_12) (ty := .array .int) (C := R_Parting) (T := F_Parting) (N := 10) hx hb hts i_Parting t_Parting t_Parting_ok n_Parting hown hK hP hD hS 0 rfl rfl 9 (by decide) (hts _ q311) (fun _ h9 => h9) rfl hnm rfl (by decide +kernel) rfl rfl (Nat.le_of_ble_eq_true rfl) d_Parting_init_65 (fun H locs hP hD hS => ?_)
  have hP : va_P G.1 classes [(h0, .inr (8, [.int 0, .int 0, .ref q_1, .int 0, .int 0, .ref q_2, .ref q_6, .ref q_10, .ref q_11, .ref q_12])), (q_1, .inl (G.2 0, 8, .inl (fun _ => 0))), (q_2, .inr (6, [.int 0, .int 8, .int 400, .ref q_4, .ref q_5])), (q_4, .inl (G.2 1, 3200, .inr (.inl (fun _ => 0)))), (q_5, .inl (G.2 0, 1024, .inl (fun _ => 0))), (q_6, .inr (6, [.int 0, .int 8, .int 10, .ref q_8, .ref q_9])), (q_8, .inl (G.2 1, 80, .inr (.inl (fun _ => 0)))), (q_9, .inl (G.2 0, 32, .inl (fun _ => 0))), (q_10, .inl (G.2 0, 400, .inl (fun _ => 0))), (q_11, .inl (G.2 0, 400, .inl (fun _ => 0))), (q_12, .inl (G.2 0, 400, .inl (fun _ => 0)))] H := hP
  have hD := z_tie hP hD rfl
  exact z_vret hx hb hr hlocks hP hD hS (Nat.le_of_ble_eq_true rfl) (Nat.le_of_ble_eq_true rfl) d_Parting_init_68 ⟨q_1, q_2, q_6, q_10, q_11, q_12, q_4, q_5, q_8, q_9, rfl, rfl⟩
