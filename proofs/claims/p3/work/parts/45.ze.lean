abbrev m_s2_Traces_valueAt : Room := { frames := 0, cells := 0, slots := 0, locals := 0 }
set_option maxHeartbeats 4000000 in
set_option maxRecDepth 100000 in
theorem s2_Traces_valueAt (l : Launch) (G : zG) (b0 : Nat) (b1 : Int32) (b2 : Int32) (b3 : Int32) (b4 : Int32) (b5 : Int32) (b6 : Nat) (b7 : Nat) (b8 : Nat) (b9 : Nat → Int32) (hb1 : zI b1 0 19) (hb2 : zI b2 0 11) (hb3 : zI b3 0 20) (hb4 : zI b4 0 3) (hb5 : zI b5 0 20) : zM l G y_Traces_valueAt prog_10_method_5_code 3 (Option.some Jvm.ClassFile.FieldType.int) m_s2_Traces_valueAt [.ref b0, .int b1, .int b2] [(b0, .inr (2, [.int b3, .int b4, .int b5, .ref b6, .ref b7, .ref b8])), (b8, .inl (G.2 0, 240, .inl b9))] (fun v w => ∃ (e0 : Int32), v = some (.int e0) ∧ w = [(b0, .inr (2, [.int b3, .int b4, .int b5, .ref b6, .ref b7, .ref b8])), (b8, .inl (G.2 0, 240, .inl b9))] ∧ (e0 = b9 (0 + (12 * b1.toInt.toNat + b2.toInt.toNat))) ∧ (e0 = b9 (12 * b1.toInt.toNat + b2.toInt.toNat))) := by
  refine z_start (by decide +kernel) (Nat.le_of_ble_eq_true rfl) ?_
  intro p e s m below meth c A Z hr hnm hA hP hD hS ls hl
  have Z : zC p s m _ meth c prog_10_method_5_code 3 "TraceMachines$Traces" G := Z
  obtain ⟨hx, hb, hml, hown, hts, hK, hN, hlocks⟩ := id Z
  have hl : lv_has ls 3 [(0, .ref b0), (1, .int b1), (2, .int b2)] := hl
  refine lv_aload_n hx hb d_Traces_valueAt_0 rfl (lv_at hl 0 rfl) ?_
  refine va_get (D := G.1) (ci := 2) (v := .ref b8) (C := R_Traces) (T := F_Traces) (N := 6) hx hb hts i_Traces hown hK hP 0 rfl rfl 5 (by decide) (hts _ q73) (fun _ h9 => h9) rfl d_Traces_valueAt_1 ?_
  refine lv_iload_n hx hb d_Traces_valueAt_4 rfl (lv_at hl 1 rfl) ?_
  refine lv_bipush (v := 12) hx hb d_Traces_valueAt_5 (by decide) ?_
  refine lv_imul hx hb d_Traces_valueAt_7 ?_
  refine lv_topi (fun v_1 ev_1 => ?_)
  obtain ⟨qv_1, hv_1⟩ := zI_mul (l := 0) (h := 228) hb1 zc_12 ev_1 (by decide)
  rw [li_12] at qv_1
  refine lv_iload_n hx hb d_Traces_valueAt_8 rfl (lv_at hl 2 rfl) ?_
  refine lv_iadd hx hb d_Traces_valueAt_9 ?_
  refine lv_topi (fun v_2 ev_2 => ?_)
  obtain ⟨qv_2, hv_2⟩ := zI_add (l := 0) (h := 239) hv_1 hb2 ev_2 (by decide)
  refine va_iald hx hb hK hP 1 0 rfl rfl (zI.inn hv_2 (by decide)) d_Traces_valueAt_10 ?_
  refine lv_topi (fun v_3 ev_3 => ?_)
  exact z_iret hx hb hr hlocks hP hD hS (Nat.le_of_ble_eq_true rfl) (Nat.le_of_ble_eq_true rfl) d_Traces_valueAt_11 ⟨v_3, rfl, rfl, (by rw [ev_3, z_plf hv_2 (by decide)]; congr 1; omega), (by rw [ev_3, z_plf hv_2 (by decide)]; congr 1; omega)⟩
abbrev m_s5_Tree_addPrefix : Room := { frames := 0, cells := 0, slots := 0, locals := 0 }
set_option maxHeartbeats 4000000 in
set_option maxRecDepth 100000 in
theorem s5_Tree_addPrefix (l : Launch) (G : zG) (b0 : Nat) (b1 : Int32) (b2 : Int32) (b3 : Int32) (b4 : Nat) (b5 : Nat) (b6 : Nat) (b7 : Nat) (b8 : Nat) (b9 : Nat) (b10 : Nat) (b11 : Nat) (b12 : Nat → Int32) (b13 : Nat → Int32) (b14 : Nat → Int32) (b15 : Nat → Int32) (b16 : Nat → Int32) (b17 : Nat → Int32) (b18 : Nat → Int32) (hb1 : zI b1 0 1) (hb3 : zI b3 0 241) (hb12 : zR1 b12 0 240) (hb13 : zR1 b13 0 9) (hb18 : zR b18 (-1) 240) (hap : b3.toInt = 0) : zM l G y_Tree_addPrefix prog_11_method_6_code 5 (Option.some Jvm.ClassFile.FieldType.int) m_s5_Tree_addPrefix [.ref b0, .int (-1), .int (-1)] [(b0, .inr (3, [.int b1, .int b2, .int b3, .ref b4, .ref b5, .ref b6, .ref b7, .ref b8, .ref b9, .ref b10, .ref b11])), (b4, .inl (G.2 0, 241, .inl b12)), (b5, .inl (G.2 0, 241, .inl b13)), (b6, .inl (G.2 0, 241, .inl b14)), (b7, .inl (G.2 0, 241, .inl b15)), (b8, .inl (G.2 0, 241, .inl b16)), (b9, .inl (G.2 0, 241, .inl b17)), (b10, .inl (G.2 0, 2410, .inl b18))] (fun v w => ∃ (e0 : Nat → Int32), ∃ (e1 : Nat → Int32), ∃ (e2 : Nat → Int32), ∃ (e3 : Nat → Int32), ∃ (e4 : Nat → Int32), ∃ (e5 : Nat → Int32), ∃ (e6 : Nat → Int32), v = some (.int 0) ∧ w = [(b0, .inr (3, [.int b1, .int b2, .int 1, .ref b4, .ref b5, .ref b6, .ref b7, .ref b8, .ref b9, .ref b10, .ref b11])), (b4, .inl (G.2 0, 241, .inl e0)), (b5, .inl (G.2 0, 241, .inl e1)), (b6, .inl (G.2 0, 241, .inl e2)), (b7, .inl (G.2 0, 241, .inl e3)), (b8, .inl (G.2 0, 241, .inl e4)), (b9, .inl (G.2 0, 241, .inl e5)), (b10, .inl (G.2 0, 2410, .inl e6))] ∧ (zR1 e0 0 240) ∧ (zR1 e1 0 9) ∧ (zR e6 (-1) 240) ∧ (zLo e6 (10 * (1 : Int32).toInt) (1 : Int32).toInt) ∧ ((1 : Int32).toInt = 1) ∧ ((e3 0).toInt = 0) ∧ (∀ q : Nat, q < 10 → (e6 q).toInt = -1)) := by
  refine z_start (by decide +kernel) (Nat.le_of_ble_eq_true rfl) ?_
  intro p e s m below meth c A Z hr hnm hA hP hD hS ls hl
  have Z : zC p s m _ meth c prog_11_method_6_code 5 "TraceMachines$Tree" G := Z
  obtain ⟨hx, hb, hml, hown, hts, hK, hN, hlocks⟩ := id Z
  have hl : lv_has ls 5 [(0, .ref b0), (1, .int (-1)), (2, .int (-1))] := hl
  obtain rfl : b3 = 0 := by rw [fa_eq, li_0]; omega
  refine lv_aload_n hx hb d_Tree_addPrefix_0 rfl (lv_at hl 0 rfl) ?_
  refine va_get (D := G.1) (ci := 3) (v := .int 0) (C := R_Tree) (T := F_Tree) (N := 11) hx hb hts i_Tree hown hK hP 0 rfl rfl 2 (by decide) (hts _ q100) (fun _ h9 => h9) rfl d_Tree_addPrefix_1 ?_
  refine lv_istore_n (lv' := [(3, .int 0), (0, .ref b0), (1, .int (-1)), (2, .int (-1))]) hx hb d_Tree_addPrefix_4 rfl hl (by decide) rfl (fun ls hl => ?_)
  refine lv_aload_n hx hb d_Tree_addPrefix_5 rfl (lv_at hl 1 rfl) ?_
  refine lv_dup hx hb d_Tree_addPrefix_6 rfl ?_
  refine va_get (D := G.1) (ci := 3) (v := .int 0) (C := R_Tree) (T := F_Tree) (N := 11) hx hb hts i_Tree hown hK hP 0 rfl rfl 2 (by decide) (hts _ q100) (fun _ h9 => h9) rfl d_Tree_addPrefix_7 ?_
  refine lv_iconst (v := 1) hx hb d_Tree_addPrefix_10 (by decide) ?_
  refine lv_iadd hx hb d_Tree_addPrefix_11 ?_
  refine z_topi (y := 1) (by decide +kernel) ?_
  refine va_put (D := G.1) (ci := 3) (v := .int 1) (ty := .int) (C := R_Tree) (T := F_Tree) (N := 11) hx hb hts i_Tree t_Tree t_Tree_ok n_Tree hown hK hP hD hS 0 rfl rfl 2 (by decide) (hts _ q100) (fun _ h9 => h9) rfl (by decide +kernel) rfl rfl (Nat.le_of_ble_eq_true rfl) d_Tree_addPrefix_12 (fun H locs hP hD hS => ?_)
  have hP : va_P G.1 classes [(b0, .inr (3, [.int b1, .int b2, .int 1, .ref b4, .ref b5, .ref b6, .ref b7, .ref b8, .ref b9, .ref b10, .ref b11])), (b4, .inl (G.2 0, 241, .inl b12)), (b5, .inl (G.2 0, 241, .inl b13)), (b6, .inl (G.2 0, 241, .inl b14)), (b7, .inl (G.2 0, 241, .inl b15)), (b8, .inl (G.2 0, 241, .inl b16)), (b9, .inl (G.2 0, 241, .inl b17)), (b10, .inl (G.2 0, 2410, .inl b18))] H := hP
  have hD := z_tie hP hD rfl
  refine lv_aload_n hx hb d_Tree_addPrefix_15 rfl (lv_at hl 1 rfl) ?_
  refine va_get (D := G.1) (ci := 3) (v := .ref b4) (C := R_Tree) (T := F_Tree) (N := 11) hx hb hts i_Tree hown hK hP 0 rfl rfl 3 (by decide) (hts _ q103) (fun _ h9 => h9) rfl d_Tree_addPrefix_16 ?_
  refine lv_iload_n hx hb d_Tree_addPrefix_19 rfl (lv_at hl 0 rfl) ?_
  refine lv_iload_n hx hb d_Tree_addPrefix_20 rfl (lv_at hl 2 rfl) ?_
  refine va_iast hx hb hK hP hD hS 1 0 rfl rfl (i := 0) (z_in rfl) d_Tree_addPrefix_21 (fun H locs hP hD hS => ?_)
  obtain ⟨f_1, hf_1, gf_1, uf_1, hP, hD⟩ := z_newfo 1 hP hD rfl hb12 (Or.inl (by decide))
  have hP : va_P G.1 classes [(b0, .inr (3, [.int b1, .int b2, .int 1, .ref b4, .ref b5, .ref b6, .ref b7, .ref b8, .ref b9, .ref b10, .ref b11])), (b4, .inl (G.2 0, 241, .inl f_1)), (b5, .inl (G.2 0, 241, .inl b13)), (b6, .inl (G.2 0, 241, .inl b14)), (b7, .inl (G.2 0, 241, .inl b15)), (b8, .inl (G.2 0, 241, .inl b16)), (b9, .inl (G.2 0, 241, .inl b17)), (b10, .inl (G.2 0, 2410, .inl b18))] H := hP
  have hD := z_tie hP hD rfl
  refine lv_aload_n hx hb d_Tree_addPrefix_22 rfl (lv_at hl 1 rfl) ?_
  refine va_get (D := G.1) (ci := 3) (v := .ref b5) (C := R_Tree) (T := F_Tree) (N := 11) hx hb hts i_Tree hown hK hP 0 rfl rfl 4 (by decide) (hts _ q105) (fun _ h9 => h9) rfl d_Tree_addPrefix_23 ?_
  refine lv_iload_n hx hb d_Tree_addPrefix_26 rfl (lv_at hl 0 rfl) ?_
  refine lv_iload_n hx hb d_Tree_addPrefix_27 rfl (lv_at hl 3 rfl) ?_
  refine va_iast hx hb hK hP hD hS 2 0 rfl rfl (i := 0) (z_in rfl) d_Tree_addPrefix_28 (fun H locs hP hD hS => ?_)
  obtain ⟨f_2, hf_2, gf_2, uf_2, hP, hD⟩ := z_newfo 2 hP hD rfl hb13 (Or.inl (by decide))
  have hP : va_P G.1 classes [(b0, .inr (3, [.int b1, .int b2, .int 1, .ref b4, .ref b5, .ref b6, .ref b7, .ref b8, .ref b9, .ref b10, .ref b11])), (b4, .inl (G.2 0, 241, .inl f_1)), (b5, .inl (G.2 0, 241, .inl f_2)), (b6, .inl (G.2 0, 241, .inl b14)), (b7, .inl (G.2 0, 241, .inl b15)), (b8, .inl (G.2 0, 241, .inl b16)), (b9, .inl (G.2 0, 241, .inl b17)), (b10, .inl (G.2 0, 2410, .inl b18))] H := hP
  have hD := z_tie hP hD rfl
  refine lv_aload_n hx hb d_Tree_addPrefix_29 rfl (lv_at hl 1 rfl) ?_
  refine va_get (D := G.1) (ci := 3) (v := .ref b6) (C := R_Tree) (T := F_Tree) (N := 11) hx hb hts i_Tree hown hK hP 0 rfl rfl 5 (by decide) (hts _ q107) (fun _ h9 => h9) rfl d_Tree_addPrefix_30 ?_
  refine lv_iload_n hx hb d_Tree_addPrefix_33 rfl (lv_at hl 0 rfl) ?_
  refine lv_iconst (v := 0) hx hb d_Tree_addPrefix_34 (by decide) ?_
  refine va_iast hx hb hK hP hD hS 3 0 rfl rfl (i := 0) (z_in rfl) d_Tree_addPrefix_35 (fun H locs hP hD hS => ?_)
  obtain ⟨f_3, gf_3, uf_3, hP, hD⟩ := z_newFu 3 hP hD rfl
  have hP : va_P G.1 classes [(b0, .inr (3, [.int b1, .int b2, .int 1, .ref b4, .ref b5, .ref b6, .ref b7, .ref b8, .ref b9, .ref b10, .ref b11])), (b4, .inl (G.2 0, 241, .inl f_1)), (b5, .inl (G.2 0, 241, .inl f_2)), (b6, .inl (G.2 0, 241, .inl f_3)), (b7, .inl (G.2 0, 241, .inl b15)), (b8, .inl (G.2 0, 241, .inl b16)), (b9, .inl (G.2 0, 241, .inl b17)), (b10, .inl (G.2 0, 2410, .inl b18))] H := hP
  have hD := z_tie hP hD rfl
  refine lv_aload_n hx hb d_Tree_addPrefix_36 rfl (lv_at hl 1 rfl) ?_
  refine va_get (D := G.1) (ci := 3) (v := .ref b7) (C := R_Tree) (T := F_Tree) (N := 11) hx hb hts i_Tree hown hK hP 0 rfl rfl 6 (by decide) (hts _ q109) (fun _ h9 => h9) rfl d_Tree_addPrefix_37 ?_
  refine lv_iload_n hx hb d_Tree_addPrefix_40 rfl (lv_at hl 0 rfl) ?_
  refine lv_iconst (v := 0) hx hb d_Tree_addPrefix_41 (by decide) ?_
  refine va_iast hx hb hK hP hD hS 4 0 rfl rfl (i := 0) (z_in rfl) d_Tree_addPrefix_42 (fun H locs hP hD hS => ?_)
  obtain ⟨f_4, gf_4, uf_4, hP, hD⟩ := z_newFu 4 hP hD rfl
  have hP : va_P G.1 classes [(b0, .inr (3, [.int b1, .int b2, .int 1, .ref b4, .ref b5, .ref b6, .ref b7, .ref b8, .ref b9, .ref b10, .ref b11])), (b4, .inl (G.2 0, 241, .inl f_1)), (b5, .inl (G.2 0, 241, .inl f_2)), (b6, .inl (G.2 0, 241, .inl f_3)), (b7, .inl (G.2 0, 241, .inl f_4)), (b8, .inl (G.2 0, 241, .inl b16)), (b9, .inl (G.2 0, 241, .inl b17)), (b10, .inl (G.2 0, 2410, .inl b18))] H := hP
  have hD := z_tie hP hD rfl
  refine lv_aload_n hx hb d_Tree_addPrefix_43 rfl (lv_at hl 1 rfl) ?_
  refine va_get (D := G.1) (ci := 3) (v := .ref b8) (C := R_Tree) (T := F_Tree) (N := 11) hx hb hts i_Tree hown hK hP 0 rfl rfl 7 (by decide) (hts _ q111) (fun _ h9 => h9) rfl d_Tree_addPrefix_44 ?_
  refine lv_iload_n hx hb d_Tree_addPrefix_47 rfl (lv_at hl 0 rfl) ?_
  refine lv_bipush (v := 99) hx hb d_Tree_addPrefix_48 (by decide) ?_
  refine va_iast hx hb hK hP hD hS 5 0 rfl rfl (i := 0) (z_in rfl) d_Tree_addPrefix_50 (fun H locs hP hD hS => ?_)
  obtain ⟨f_5, gf_5, uf_5, hP, hD⟩ := z_newFu 5 hP hD rfl
  have hP : va_P G.1 classes [(b0, .inr (3, [.int b1, .int b2, .int 1, .ref b4, .ref b5, .ref b6, .ref b7, .ref b8, .ref b9, .ref b10, .ref b11])), (b4, .inl (G.2 0, 241, .inl f_1)), (b5, .inl (G.2 0, 241, .inl f_2)), (b6, .inl (G.2 0, 241, .inl f_3)), (b7, .inl (G.2 0, 241, .inl f_4)), (b8, .inl (G.2 0, 241, .inl f_5)), (b9, .inl (G.2 0, 241, .inl b17)), (b10, .inl (G.2 0, 2410, .inl b18))] H := hP
  have hD := z_tie hP hD rfl
  refine lv_aload_n hx hb d_Tree_addPrefix_51 rfl (lv_at hl 1 rfl) ?_
  refine va_get (D := G.1) (ci := 3) (v := .ref b9) (C := R_Tree) (T := F_Tree) (N := 11) hx hb hts i_Tree hown hK hP 0 rfl rfl 8 (by decide) (hts _ q113) (fun _ h9 => h9) rfl d_Tree_addPrefix_52 ?_
  refine lv_iload_n hx hb d_Tree_addPrefix_55 rfl (lv_at hl 0 rfl) ?_
  refine lv_iconst (v := 0) hx hb d_Tree_addPrefix_56 (by decide) ?_
  refine va_iast hx hb hK hP hD hS 6 0 rfl rfl (i := 0) (z_in rfl) d_Tree_addPrefix_57 (fun H locs hP hD hS => ?_)
  obtain ⟨f_6, gf_6, uf_6, hP, hD⟩ := z_newFu 6 hP hD rfl
  have hP : va_P G.1 classes [(b0, .inr (3, [.int b1, .int b2, .int 1, .ref b4, .ref b5, .ref b6, .ref b7, .ref b8, .ref b9, .ref b10, .ref b11])), (b4, .inl (G.2 0, 241, .inl f_1)), (b5, .inl (G.2 0, 241, .inl f_2)), (b6, .inl (G.2 0, 241, .inl f_3)), (b7, .inl (G.2 0, 241, .inl f_4)), (b8, .inl (G.2 0, 241, .inl f_5)), (b9, .inl (G.2 0, 241, .inl f_6)), (b10, .inl (G.2 0, 2410, .inl b18))] H := hP
  have hD := z_tie hP hD rfl
  refine lv_iconst (v := 0) hx hb d_Tree_addPrefix_58 (by decide) ?_
  refine lv_istore (lv' := [(4, .int 0), (3, .int 0), (0, .ref b0), (1, .int (-1)), (2, .int (-1))]) hx hb d_Tree_addPrefix_59 hl (by decide) rfl (fun ls hl => ?_)
  suffices key : ∀ (k_17 : Nat) (y_18 : Int32) (y_19 : Nat → Int32) (H : Heap) (locs : List Loc) (ls : Array Slot), (zI y_18 0 10) → (zR y_19 (-1) 240) → (zLo y_19 (10 * (0 : Int32).toInt + (y_18 : Int32).toInt) ((0 : Int32).toInt + 1)) → (∀ q : Nat, y_19 q = if 10 * (0 : Int32).toInt ≤ (q : Int) ∧ (q : Int) < 10 * (0 : Int32).toInt + (y_18 : Int32).toInt then -1 else b18 q) → (10 : Int) - y_18.toInt < (k_17 : Int) → va_P G.1 classes [(b0, .inr (3, [.int b1, .int b2, .int 1, .ref b4, .ref b5, .ref b6, .ref b7, .ref b8, .ref b9, .ref b10, .ref b11])), (b4, .inl (G.2 0, 241, .inl f_1)), (b5, .inl (G.2 0, 241, .inl f_2)), (b6, .inl (G.2 0, 241, .inl f_3)), (b7, .inl (G.2 0, 241, .inl f_4)), (b8, .inl (G.2 0, 241, .inl f_5)), (b9, .inl (G.2 0, 241, .inl f_6)), (b10, .inl (G.2 0, 2410, .inl y_19))] H → va_D A [(b0, .inr (3, [.int b1, .int b2, .int 1, .ref b4, .ref b5, .ref b6, .ref b7, .ref b8, .ref b9, .ref b10, .ref b11])), (b4, .inl (G.2 0, 241, .inl f_1)), (b5, .inl (G.2 0, 241, .inl f_2)), (b6, .inl (G.2 0, 241, .inl f_3)), (b7, .inl (G.2 0, 241, .inl f_4)), (b8, .inl (G.2 0, 241, .inl f_5)), (b9, .inl (G.2 0, 241, .inl f_6)), (b10, .inl (G.2 0, 2410, .inl y_19))] → va_S A s.heap H locs → lv_has ls 5 [(4, .int y_18), (3, .int 0), (0, .ref b0), (1, .int (-1)), (2, .int (-1))] → W p l e m_s5_Tree_addPrefix s m ([.ref b0, .int (-1), .int (-1)] : List Value).toArray below meth c H locs 0 0 (MQ below (zQ G (fun v w => ∃ (e0 : Nat → Int32), ∃ (e1 : Nat → Int32), ∃ (e2 : Nat → Int32), ∃ (e3 : Nat → Int32), ∃ (e4 : Nat → Int32), ∃ (e5 : Nat → Int32), ∃ (e6 : Nat → Int32), v = some (.int 0) ∧ w = [(b0, .inr (3, [.int b1, .int b2, .int 1, .ref b4, .ref b5, .ref b6, .ref b7, .ref b8, .ref b9, .ref b10, .ref b11])), (b4, .inl (G.2 0, 241, .inl e0)), (b5, .inl (G.2 0, 241, .inl e1)), (b6, .inl (G.2 0, 241, .inl e2)), (b7, .inl (G.2 0, 241, .inl e3)), (b8, .inl (G.2 0, 241, .inl e4)), (b9, .inl (G.2 0, 241, .inl e5)), (b10, .inl (G.2 0, 2410, .inl e6))] ∧ (zR1 e0 0 240) ∧ (zR1 e1 0 9) ∧ (zR e6 (-1) 240) ∧ (zLo e6 (10 * (1 : Int32).toInt) (1 : Int32).toInt) ∧ ((1 : Int32).toInt = 1) ∧ ((e3 0).toInt = 0) ∧ (∀ q : Nat, q < 10 → (e6 q).toInt = -1)) A) ([.ref b0, .int (-1), .int (-1)] : List Value).toArray s m_s5_Tree_addPrefix.cells m_s5_Tree_addPrefix.slots A) (F0 m 61 ls []) by
    exact key 11 (0) (b18) _ _ _ (zI.wk (l' := 0) (h' := 10) zc_0 (by decide)) hb18 (by have _l0 := li_0; intro q hq; omega) (by have _l := li_0; intro q; rw [if_neg (by omega)]) (zm_upi (zI.wk (l' := 0) (h' := 10) zc_0 (by decide)) (by decide)) hP hD hS (lv_sub hl [0, 1, 2, 3, 4] rfl)
  intro k_17
  induction k_17 with
  | zero =>
    intro y_18 y_19 H locs ls hy_18 hy_19 hli_20 hli_21 hmk_17 hP hD hS hl
    exact (zm_up0 hy_18 hmk_17).elim
  | succ k_17 ihk_17 =>
    intro y_18 y_19 H locs ls hy_18 hy_19 hli_20 hli_21 hmk_17 hP hD hS hl
    refine lv_iload hx hb d_Tree_addPrefix_61 (lv_at hl 0 rfl) ?_
    refine lv_bipush (v := 10) hx hb d_Tree_addPrefix_63 (by decide) ?_
    refine lv_icmp_ge (tgt := 87) hx hb d_Tree_addPrefix_65 (by decide) (fun hc_22 => ?_) (fun hc_22 => ?_)
    · have _nhc_22 := hc_22
      have ni_23 := (fa_le _ _).mp hc_22
      rw [li_10] at ni_23
      have hv_24 : zI y_18 10 10 := zI.le_r zc_10 hy_18 hc_22 (by decide)
      refine lv_iload_n hx hb d_Tree_addPrefix_87 rfl (lv_at hl 1 rfl) ?_
      exact z_iret hx hb hr hlocks hP hD hS (Nat.le_of_ble_eq_true rfl) (Nat.le_of_ble_eq_true rfl) d_Tree_addPrefix_88 ⟨f_1, f_2, f_3, f_4, f_5, f_6, y_19, rfl, rfl, hf_1, hf_2, hy_19, (by have _l0 := li_0; have _l1 := li_1; have _l2 := li_10; intro q hq; have := hli_20 q (by omega); omega), (by have _l0 := li_0; have _l1 := li_1; omega), (by rw [uf_4, z_at, if_pos (by decide)]; exact li_0), (by have _l0 := li_0; have _l1 := li_10; have _m := li_m1; intro q hq; rw [hli_21 q, if_pos (by omega)]; exact _m)⟩
    · have _nhc_22 := hc_22
      have ni_25 := (fa_lt _ _).mp (zi_nle hc_22)
      rw [li_10] at ni_25
      have hv_26 : zI y_18 0 9 := zI.lt_l hy_18 zc_10 (zi_nle hc_22) (by decide)
      refine lv_aload_n hx hb d_Tree_addPrefix_68 rfl (lv_at hl 2 rfl) ?_
      refine va_get (D := G.1) (ci := 3) (v := .ref b10) (C := R_Tree) (T := F_Tree) (N := 11) hx hb hts i_Tree hown hK hP 0 rfl rfl 9 (by decide) (hts _ q115) (fun _ h9 => h9) rfl d_Tree_addPrefix_69 ?_
      refine lv_iload_n hx hb d_Tree_addPrefix_72 rfl (lv_at hl 1 rfl) ?_
      refine lv_bipush (v := 10) hx hb d_Tree_addPrefix_73 (by decide) ?_
      refine lv_imul hx hb d_Tree_addPrefix_75 ?_
      refine z_topi (y := 0) (by decide +kernel) ?_
      refine lv_iload hx hb d_Tree_addPrefix_76 (lv_at hl 0 rfl) ?_
      refine lv_iadd hx hb d_Tree_addPrefix_78 ?_
      refine lv_topi (fun v_27 ev_27 => ?_)
      obtain ⟨qv_27, hv_27⟩ := zI_add (l := 0) (h := 9) zc_0 hv_26 ev_27 (by decide)
      rw [li_0] at qv_27
      refine lv_iconst (v := (-1)) hx hb d_Tree_addPrefix_79 (by decide) ?_
      refine va_iast hx hb hK hP hD hS 7 0 rfl rfl (zI.inn hv_27 (by decide)) d_Tree_addPrefix_80 (fun H locs hP hD hS => ?_)
      obtain ⟨f_28, hf_28, gf_28, uf_28, hP, hD⟩ := z_newfu 7 hP hD rfl hy_19 (zI.wk (l' := (-1)) (h' := 240) zc_m1 (by decide))
      have hP : va_P G.1 classes [(b0, .inr (3, [.int b1, .int b2, .int 1, .ref b4, .ref b5, .ref b6, .ref b7, .ref b8, .ref b9, .ref b10, .ref b11])), (b4, .inl (G.2 0, 241, .inl f_1)), (b5, .inl (G.2 0, 241, .inl f_2)), (b6, .inl (G.2 0, 241, .inl f_3)), (b7, .inl (G.2 0, 241, .inl f_4)), (b8, .inl (G.2 0, 241, .inl f_5)), (b9, .inl (G.2 0, 241, .inl f_6)), (b10, .inl (G.2 0, 2410, .inl f_28))] H := hP
      have hD := z_tie hP hD rfl
      obtain ⟨v_29, ev_29⟩ : ∃ z : Int32, z = y_18 + 1 := ⟨_, rfl⟩
      obtain ⟨qv_29, hv_29⟩ := zI_add (l := 1) (h := 10) hv_26 zc_1 ev_29 (by decide)
      rw [li_1] at qv_29
      refine lv_iinc (v := v_29) (lv' := [(4, .int v_29), (3, .int 0), (0, .ref b0), (1, .int (-1)), (2, .int (-1))]) hx hb d_Tree_addPrefix_81 hl (k := 0) rfl (by rw [ev_29]; rfl) (by decide) rfl (fun ls hl => ?_)
      refine lv_goto (tgt := 61) hx hb d_Tree_addPrefix_84 (by decide) ?_
      exact ihk_17 (v_29) (f_28) _ _ _ (zI.wk (l' := 0) (h' := 10) hv_29 (by decide)) hf_28 (by have _l0 := li_0; have _l1 := li_m1; have _l2 := li_10; have p9 := z_pl hv_27 (by decide); intro q hq; rw [uf_28, z_at]; split; omega; exact hli_20 q (by omega)) (by have _l0 := li_0; have p9 := z_pl hv_27 (by decide); intro q; rw [uf_28, z_at]; by_cases c : q = v_27.toNatClampNeg; (rw [if_pos c, if_pos (by omega)]); (rw [if_neg c, hli_21 q]; by_cases c2 : 10 * (0 : Int32).toInt ≤ (q : Int) ∧ (q : Int) < 10 * (0 : Int32).toInt + y_18.toInt; (rw [if_pos c2, if_pos (by omega)]); rw [if_neg c2, if_neg (by omega)])) (zm_up qv_29 hmk_17 (by decide)) hP hD hS (lv_sub hl [0, 1, 2, 3, 4] rfl)
abbrev m_s6_Tree_addPrefix : Room := { frames := 0, cells := 0, slots := 0, locals := 0 }
set_option maxHeartbeats 4000000 in
set_option maxRecDepth 100000 in
theorem s6_Tree_addPrefix (l : Launch) (G : zG) (b0 : Nat) (b1 : Int32) (b2 : Int32) (b3 : Int32) (b4 : Int32) (b5 : Int32) (b6 : Nat) (b7 : Nat) (b8 : Nat) (b9 : Nat) (b10 : Nat) (b11 : Nat) (b12 : Nat) (b13 : Nat) (b14 : Nat → Int32) (b15 : Nat → Int32) (b16 : Nat → Int32) (b17 : Nat → Int32) (b18 : Nat → Int32) (b19 : Nat → Int32) (b20 : Nat → Int32) (hb1 : zI b1 0 240) (hb2 : zI b2 0 9) (hb3 : zI b3 0 1) (hb5 : zI b5 0 241) (hb14 : zR1 b14 0 240) (hb15 : zR1 b15 0 9) (hb20 : zR b20 (-1) 240) (hap : 1 ≤ b5.toInt ∧ b5.toInt ≤ 240) (hlo : zLo b20 (10 * (b5 : Int32).toInt) (b5 : Int32).toInt) : zM l G y_Tree_addPrefix prog_11_method_6_code 5 (Option.some Jvm.ClassFile.FieldType.int) m_s6_Tree_addPrefix [.ref b0, .int b1, .int b2] [(b0, .inr (3, [.int b3, .int b4, .int b5, .ref b6, .ref b7, .ref b8, .ref b9, .ref b10, .ref b11, .ref b12, .ref b13])), (b6, .inl (G.2 0, 241, .inl b14)), (b7, .inl (G.2 0, 241, .inl b15)), (b8, .inl (G.2 0, 241, .inl b16)), (b9, .inl (G.2 0, 241, .inl b17)), (b10, .inl (G.2 0, 241, .inl b18)), (b11, .inl (G.2 0, 241, .inl b19)), (b12, .inl (G.2 0, 2410, .inl b20))] (fun v w => ∃ (e0 : Int32), ∃ (e1 : Nat → Int32), ∃ (e2 : Nat → Int32), ∃ (e3 : Nat → Int32), ∃ (e4 : Nat → Int32), ∃ (e5 : Nat → Int32), ∃ (e6 : Nat → Int32), ∃ (e7 : Nat → Int32), v = some (.int b5) ∧ w = [(b0, .inr (3, [.int b3, .int b4, .int e0, .ref b6, .ref b7, .ref b8, .ref b9, .ref b10, .ref b11, .ref b12, .ref b13])), (b6, .inl (G.2 0, 241, .inl e1)), (b7, .inl (G.2 0, 241, .inl e2)), (b8, .inl (G.2 0, 241, .inl e3)), (b9, .inl (G.2 0, 241, .inl e4)), (b10, .inl (G.2 0, 241, .inl e5)), (b11, .inl (G.2 0, 241, .inl e6)), (b12, .inl (G.2 0, 2410, .inl e7))] ∧ (zI e0 0 241) ∧ (zR1 e1 0 240) ∧ (zR1 e2 0 9) ∧ (zR e7 (-1) 240) ∧ (e0.toInt = b5.toInt + 1) ∧ (zLo e7 (10 * (e0 : Int32).toInt) (e0 : Int32).toInt) ∧ (e1 = upd b14 (b5 : Int32).toNatClampNeg b1) ∧ (e2 = upd b15 (b5 : Int32).toNatClampNeg b2) ∧ (e3 = upd b16 (b5 : Int32).toNatClampNeg 0) ∧ (e4 = upd b17 (b5 : Int32).toNatClampNeg 0) ∧ (e5 = upd b18 (b5 : Int32).toNatClampNeg 99) ∧ (e6 = upd b19 (b5 : Int32).toNatClampNeg 0) ∧ (∀ q : Nat, e7 q = if 10 * (b5 : Int32).toInt ≤ (q : Int) ∧ (q : Int) < 10 * (b5 : Int32).toInt + 10 then -1 else b20 q)) := by
  refine z_start (by decide +kernel) (Nat.le_of_ble_eq_true rfl) ?_
  intro p e s m below meth c A Z hr hnm hA hP hD hS ls hl
  have Z : zC p s m _ meth c prog_11_method_6_code 5 "TraceMachines$Tree" G := Z
  obtain ⟨hx, hb, hml, hown, hts, hK, hN, hlocks⟩ := id Z
  have hl : lv_has ls 5 [(0, .ref b0), (1, .int b1), (2, .int b2)] := hl
  have hv_1 : zI b5 1 240 := ⟨by omega, by omega⟩
  refine lv_aload_n hx hb d_Tree_addPrefix_0 rfl (lv_at hl 0 rfl) ?_
  refine va_get (D := G.1) (ci := 3) (v := .int b5) (C := R_Tree) (T := F_Tree) (N := 11) hx hb hts i_Tree hown hK hP 0 rfl rfl 2 (by decide) (hts _ q100) (fun _ h9 => h9) rfl d_Tree_addPrefix_1 ?_
  refine lv_istore_n (lv' := [(3, .int b5), (0, .ref b0), (1, .int b1), (2, .int b2)]) hx hb d_Tree_addPrefix_4 rfl hl (by decide) rfl (fun ls hl => ?_)
  refine lv_aload_n hx hb d_Tree_addPrefix_5 rfl (lv_at hl 1 rfl) ?_
  refine lv_dup hx hb d_Tree_addPrefix_6 rfl ?_
  refine va_get (D := G.1) (ci := 3) (v := .int b5) (C := R_Tree) (T := F_Tree) (N := 11) hx hb hts i_Tree hown hK hP 0 rfl rfl 2 (by decide) (hts _ q100) (fun _ h9 => h9) rfl d_Tree_addPrefix_7 ?_
  refine lv_iconst (v := 1) hx hb d_Tree_addPrefix_10 (by decide) ?_
  refine lv_iadd hx hb d_Tree_addPrefix_11 ?_
  refine lv_topi (fun v_2 ev_2 => ?_)
  obtain ⟨qv_2, hv_2⟩ := zI_add (l := 2) (h := 241) hv_1 zc_1 ev_2 (by decide)
  rw [li_1] at qv_2
  refine va_put (D := G.1) (ci := 3) (v := .int v_2) (ty := .int) (C := R_Tree) (T := F_Tree) (N := 11) hx hb hts i_Tree t_Tree t_Tree_ok n_Tree hown hK hP hD hS 0 rfl rfl 2 (by decide) (hts _ q100) (fun _ h9 => h9) rfl (by decide +kernel) rfl rfl (Nat.le_of_ble_eq_true rfl) d_Tree_addPrefix_12 (fun H locs hP hD hS => ?_)
  have hP : va_P G.1 classes [(b0, .inr (3, [.int b3, .int b4, .int v_2, .ref b6, .ref b7, .ref b8, .ref b9, .ref b10, .ref b11, .ref b12, .ref b13])), (b6, .inl (G.2 0, 241, .inl b14)), (b7, .inl (G.2 0, 241, .inl b15)), (b8, .inl (G.2 0, 241, .inl b16)), (b9, .inl (G.2 0, 241, .inl b17)), (b10, .inl (G.2 0, 241, .inl b18)), (b11, .inl (G.2 0, 241, .inl b19)), (b12, .inl (G.2 0, 2410, .inl b20))] H := hP
  have hD := z_tie hP hD rfl
  refine lv_aload_n hx hb d_Tree_addPrefix_15 rfl (lv_at hl 1 rfl) ?_
  refine va_get (D := G.1) (ci := 3) (v := .ref b6) (C := R_Tree) (T := F_Tree) (N := 11) hx hb hts i_Tree hown hK hP 0 rfl rfl 3 (by decide) (hts _ q103) (fun _ h9 => h9) rfl d_Tree_addPrefix_16 ?_
  refine lv_iload_n hx hb d_Tree_addPrefix_19 rfl (lv_at hl 0 rfl) ?_
  refine lv_iload_n hx hb d_Tree_addPrefix_20 rfl (lv_at hl 2 rfl) ?_
  refine va_iast hx hb hK hP hD hS 1 0 rfl rfl (zI.inn hv_1 (by decide)) d_Tree_addPrefix_21 (fun H locs hP hD hS => ?_)
  obtain ⟨f_3, hf_3, gf_3, uf_3, hP, hD⟩ := z_newfo 1 hP hD rfl hb14 (Or.inr hb1)
  have hP : va_P G.1 classes [(b0, .inr (3, [.int b3, .int b4, .int v_2, .ref b6, .ref b7, .ref b8, .ref b9, .ref b10, .ref b11, .ref b12, .ref b13])), (b6, .inl (G.2 0, 241, .inl f_3)), (b7, .inl (G.2 0, 241, .inl b15)), (b8, .inl (G.2 0, 241, .inl b16)), (b9, .inl (G.2 0, 241, .inl b17)), (b10, .inl (G.2 0, 241, .inl b18)), (b11, .inl (G.2 0, 241, .inl b19)), (b12, .inl (G.2 0, 2410, .inl b20))] H := hP
  have hD := z_tie hP hD rfl
  refine lv_aload_n hx hb d_Tree_addPrefix_22 rfl (lv_at hl 1 rfl) ?_
  refine va_get (D := G.1) (ci := 3) (v := .ref b7) (C := R_Tree) (T := F_Tree) (N := 11) hx hb hts i_Tree hown hK hP 0 rfl rfl 4 (by decide) (hts _ q105) (fun _ h9 => h9) rfl d_Tree_addPrefix_23 ?_
  refine lv_iload_n hx hb d_Tree_addPrefix_26 rfl (lv_at hl 0 rfl) ?_
  refine lv_iload_n hx hb d_Tree_addPrefix_27 rfl (lv_at hl 3 rfl) ?_
  refine va_iast hx hb hK hP hD hS 2 0 rfl rfl (zI.inn hv_1 (by decide)) d_Tree_addPrefix_28 (fun H locs hP hD hS => ?_)
  obtain ⟨f_4, hf_4, gf_4, uf_4, hP, hD⟩ := z_newfo 2 hP hD rfl hb15 (Or.inr hb2)
  have hP : va_P G.1 classes [(b0, .inr (3, [.int b3, .int b4, .int v_2, .ref b6, .ref b7, .ref b8, .ref b9, .ref b10, .ref b11, .ref b12, .ref b13])), (b6, .inl (G.2 0, 241, .inl f_3)), (b7, .inl (G.2 0, 241, .inl f_4)), (b8, .inl (G.2 0, 241, .inl b16)), (b9, .inl (G.2 0, 241, .inl b17)), (b10, .inl (G.2 0, 241, .inl b18)), (b11, .inl (G.2 0, 241, .inl b19)), (b12, .inl (G.2 0, 2410, .inl b20))] H := hP
  have hD := z_tie hP hD rfl
  refine lv_aload_n hx hb d_Tree_addPrefix_29 rfl (lv_at hl 1 rfl) ?_
  refine va_get (D := G.1) (ci := 3) (v := .ref b8) (C := R_Tree) (T := F_Tree) (N := 11) hx hb hts i_Tree hown hK hP 0 rfl rfl 5 (by decide) (hts _ q107) (fun _ h9 => h9) rfl d_Tree_addPrefix_30 ?_
  refine lv_iload_n hx hb d_Tree_addPrefix_33 rfl (lv_at hl 0 rfl) ?_
  refine lv_iconst (v := 0) hx hb d_Tree_addPrefix_34 (by decide) ?_
  refine va_iast hx hb hK hP hD hS 3 0 rfl rfl (zI.inn hv_1 (by decide)) d_Tree_addPrefix_35 (fun H locs hP hD hS => ?_)
  obtain ⟨f_5, gf_5, uf_5, hP, hD⟩ := z_newFu 3 hP hD rfl
  have hP : va_P G.1 classes [(b0, .inr (3, [.int b3, .int b4, .int v_2, .ref b6, .ref b7, .ref b8, .ref b9, .ref b10, .ref b11, .ref b12, .ref b13])), (b6, .inl (G.2 0, 241, .inl f_3)), (b7, .inl (G.2 0, 241, .inl f_4)), (b8, .inl (G.2 0, 241, .inl f_5)), (b9, .inl (G.2 0, 241, .inl b17)), (b10, .inl (G.2 0, 241, .inl b18)), (b11, .inl (G.2 0, 241, .inl b19)), (b12, .inl (G.2 0, 2410, .inl b20))] H := hP
  have hD := z_tie hP hD rfl
  refine lv_aload_n hx hb d_Tree_addPrefix_36 rfl (lv_at hl 1 rfl) ?_
  refine va_get (D := G.1) (ci := 3) (v := .ref b9) (C := R_Tree) (T := F_Tree) (N := 11) hx hb hts i_Tree hown hK hP 0 rfl rfl 6 (by decide) (hts _ q109) (fun _ h9 => h9) rfl d_Tree_addPrefix_37 ?_
  refine lv_iload_n hx hb d_Tree_addPrefix_40 rfl (lv_at hl 0 rfl) ?_
  refine lv_iconst (v := 0) hx hb d_Tree_addPrefix_41 (by decide) ?_
  refine va_iast hx hb hK hP hD hS 4 0 rfl rfl (zI.inn hv_1 (by decide)) d_Tree_addPrefix_42 (fun H locs hP hD hS => ?_)
  obtain ⟨f_6, gf_6, uf_6, hP, hD⟩ := z_newFu 4 hP hD rfl
  have hP : va_P G.1 classes [(b0, .inr (3, [.int b3, .int b4, .int v_2, .ref b6, .ref b7, .ref b8, .ref b9, .ref b10, .ref b11, .ref b12, .ref b13])), (b6, .inl (G.2 0, 241, .inl f_3)), (b7, .inl (G.2 0, 241, .inl f_4)), (b8, .inl (G.2 0, 241, .inl f_5)), (b9, .inl (G.2 0, 241, .inl f_6)), (b10, .inl (G.2 0, 241, .inl b18)), (b11, .inl (G.2 0, 241, .inl b19)), (b12, .inl (G.2 0, 2410, .inl b20))] H := hP
  have hD := z_tie hP hD rfl
  refine lv_aload_n hx hb d_Tree_addPrefix_43 rfl (lv_at hl 1 rfl) ?_
  refine va_get (D := G.1) (ci := 3) (v := .ref b10) (C := R_Tree) (T := F_Tree) (N := 11) hx hb hts i_Tree hown hK hP 0 rfl rfl 7 (by decide) (hts _ q111) (fun _ h9 => h9) rfl d_Tree_addPrefix_44 ?_
  refine lv_iload_n hx hb d_Tree_addPrefix_47 rfl (lv_at hl 0 rfl) ?_
  refine lv_bipush (v := 99) hx hb d_Tree_addPrefix_48 (by decide) ?_
  refine va_iast hx hb hK hP hD hS 5 0 rfl rfl (zI.inn hv_1 (by decide)) d_Tree_addPrefix_50 (fun H locs hP hD hS => ?_)
  obtain ⟨f_7, gf_7, uf_7, hP, hD⟩ := z_newFu 5 hP hD rfl
  have hP : va_P G.1 classes [(b0, .inr (3, [.int b3, .int b4, .int v_2, .ref b6, .ref b7, .ref b8, .ref b9, .ref b10, .ref b11, .ref b12, .ref b13])), (b6, .inl (G.2 0, 241, .inl f_3)), (b7, .inl (G.2 0, 241, .inl f_4)), (b8, .inl (G.2 0, 241, .inl f_5)), (b9, .inl (G.2 0, 241, .inl f_6)), (b10, .inl (G.2 0, 241, .inl f_7)), (b11, .inl (G.2 0, 241, .inl b19)), (b12, .inl (G.2 0, 2410, .inl b20))] H := hP
  have hD := z_tie hP hD rfl
  refine lv_aload_n hx hb d_Tree_addPrefix_51 rfl (lv_at hl 1 rfl) ?_
  refine va_get (D := G.1) (ci := 3) (v := .ref b11) (C := R_Tree) (T := F_Tree) (N := 11) hx hb hts i_Tree hown hK hP 0 rfl rfl 8 (by decide) (hts _ q113) (fun _ h9 => h9) rfl d_Tree_addPrefix_52 ?_
  refine lv_iload_n hx hb d_Tree_addPrefix_55 rfl (lv_at hl 0 rfl) ?_
  refine lv_iconst (v := 0) hx hb d_Tree_addPrefix_56 (by decide) ?_
  refine va_iast hx hb hK hP hD hS 6 0 rfl rfl (zI.inn hv_1 (by decide)) d_Tree_addPrefix_57 (fun H locs hP hD hS => ?_)
  obtain ⟨f_8, gf_8, uf_8, hP, hD⟩ := z_newFu 6 hP hD rfl
  have hP : va_P G.1 classes [(b0, .inr (3, [.int b3, .int b4, .int v_2, .ref b6, .ref b7, .ref b8, .ref b9, .ref b10, .ref b11, .ref b12, .ref b13])), (b6, .inl (G.2 0, 241, .inl f_3)), (b7, .inl (G.2 0, 241, .inl f_4)), (b8, .inl (G.2 0, 241, .inl f_5)), (b9, .inl (G.2 0, 241, .inl f_6)), (b10, .inl (G.2 0, 241, .inl f_7)), (b11, .inl (G.2 0, 241, .inl f_8)), (b12, .inl (G.2 0, 2410, .inl b20))] H := hP
  have hD := z_tie hP hD rfl
  refine lv_iconst (v := 0) hx hb d_Tree_addPrefix_58 (by decide) ?_
  refine lv_istore (lv' := [(4, .int 0), (3, .int b5), (0, .ref b0), (1, .int b1), (2, .int b2)]) hx hb d_Tree_addPrefix_59 hl (by decide) rfl (fun ls hl => ?_)
  suffices key : ∀ (k_20 : Nat) (y_21 : Int32) (y_22 : Nat → Int32) (H : Heap) (locs : List Loc) (ls : Array Slot), (zI y_21 0 10) → (zR y_22 (-1) 240) → (zLo y_22 (10 * (b5 : Int32).toInt + (y_21 : Int32).toInt) ((b5 : Int32).toInt + 1)) → (∀ q : Nat, y_22 q = if 10 * (b5 : Int32).toInt ≤ (q : Int) ∧ (q : Int) < 10 * (b5 : Int32).toInt + (y_21 : Int32).toInt then -1 else b20 q) → (10 : Int) - y_21.toInt < (k_20 : Int) → va_P G.1 classes [(b0, .inr (3, [.int b3, .int b4, .int v_2, .ref b6, .ref b7, .ref b8, .ref b9, .ref b10, .ref b11, .ref b12, .ref b13])), (b6, .inl (G.2 0, 241, .inl f_3)), (b7, .inl (G.2 0, 241, .inl f_4)), (b8, .inl (G.2 0, 241, .inl f_5)), (b9, .inl (G.2 0, 241, .inl f_6)), (b10, .inl (G.2 0, 241, .inl f_7)), (b11, .inl (G.2 0, 241, .inl f_8)), (b12, .inl (G.2 0, 2410, .inl y_22))] H → va_D A [(b0, .inr (3, [.int b3, .int b4, .int v_2, .ref b6, .ref b7, .ref b8, .ref b9, .ref b10, .ref b11, .ref b12, .ref b13])), (b6, .inl (G.2 0, 241, .inl f_3)), (b7, .inl (G.2 0, 241, .inl f_4)), (b8, .inl (G.2 0, 241, .inl f_5)), (b9, .inl (G.2 0, 241, .inl f_6)), (b10, .inl (G.2 0, 241, .inl f_7)), (b11, .inl (G.2 0, 241, .inl f_8)), (b12, .inl (G.2 0, 2410, .inl y_22))] → va_S A s.heap H locs → lv_has ls 5 [(4, .int y_21), (3, .int b5), (0, .ref b0), (1, .int b1), (2, .int b2)] → W p l e m_s6_Tree_addPrefix s m ([.ref b0, .int b1, .int b2] : List Value).toArray below meth c H locs 0 0 (MQ below (zQ G (fun v w => ∃ (e0 : Int32), ∃ (e1 : Nat → Int32), ∃ (e2 : Nat → Int32), ∃ (e3 : Nat → Int32), ∃ (e4 : Nat → Int32), ∃ (e5 : Nat → Int32), ∃ (e6 : Nat → Int32), ∃ (e7 : Nat → Int32), v = some (.int b5) ∧ w = [(b0, .inr (3, [.int b3, .int b4, .int e0, .ref b6, .ref b7, .ref b8, .ref b9, .ref b10, .ref b11, .ref b12, .ref b13])), (b6, .inl (G.2 0, 241, .inl e1)), (b7, .inl (G.2 0, 241, .inl e2)), (b8, .inl (G.2 0, 241, .inl e3)), (b9, .inl (G.2 0, 241, .inl e4)), (b10, .inl (G.2 0, 241, .inl e5)), (b11, .inl (G.2 0, 241, .inl e6)), (b12, .inl (G.2 0, 2410, .inl e7))] ∧ (zI e0 0 241) ∧ (zR1 e1 0 240) ∧ (zR1 e2 0 9) ∧ (zR e7 (-1) 240) ∧ (e0.toInt = b5.toInt + 1) ∧ (zLo e7 (10 * (e0 : Int32).toInt) (e0 : Int32).toInt) ∧ (e1 = upd b14 (b5 : Int32).toNatClampNeg b1) ∧ (e2 = upd b15 (b5 : Int32).toNatClampNeg b2) ∧ (e3 = upd b16 (b5 : Int32).toNatClampNeg 0) ∧ (e4 = upd b17 (b5 : Int32).toNatClampNeg 0) ∧ (e5 = upd b18 (b5 : Int32).toNatClampNeg 99) ∧ (e6 = upd b19 (b5 : Int32).toNatClampNeg 0) ∧ (∀ q : Nat, e7 q = if 10 * (b5 : Int32).toInt ≤ (q : Int) ∧ (q : Int) < 10 * (b5 : Int32).toInt + 10 then -1 else b20 q)) A) ([.ref b0, .int b1, .int b2] : List Value).toArray s m_s6_Tree_addPrefix.cells m_s6_Tree_addPrefix.slots A) (F0 m 61 ls []) by
    exact key 11 (0) (b20) _ _ _ (zI.wk (l' := 0) (h' := 10) zc_0 (by decide)) hb20 (by have _l0 := li_0; intro q hq; have := hlo q (by omega); omega) (by have _l := li_0; intro q; rw [if_neg (by omega)]) (zm_upi (zI.wk (l' := 0) (h' := 10) zc_0 (by decide)) (by decide)) hP hD hS (lv_sub hl [0, 1, 2, 3, 4] rfl)
  intro k_20
  induction k_20 with
  | zero =>
    intro y_21 y_22 H locs ls hy_21 hy_22 hli_23 hli_24 hmk_20 hP hD hS hl
    exact (zm_up0 hy_21 hmk_20).elim
  | succ k_20 ihk_20 =>
    intro y_21 y_22 H locs ls hy_21 hy_22 hli_23 hli_24 hmk_20 hP hD hS hl
    refine lv_iload hx hb d_Tree_addPrefix_61 (lv_at hl 0 rfl) ?_
    refine lv_bipush (v := 10) hx hb d_Tree_addPrefix_63 (by decide) ?_
    refine lv_icmp_ge (tgt := 87) hx hb d_Tree_addPrefix_65 (by decide) (fun hc_25 => ?_) (fun hc_25 => ?_)
    · have _nhc_25 := hc_25
      have ni_26 := (fa_le _ _).mp hc_25
      rw [li_10] at ni_26
      have hv_27 : zI y_21 10 10 := zI.le_r zc_10 hy_21 hc_25 (by decide)
      refine lv_iload_n hx hb d_Tree_addPrefix_87 rfl (lv_at hl 1 rfl) ?_
      exact z_iret hx hb hr hlocks hP hD hS (Nat.le_of_ble_eq_true rfl) (Nat.le_of_ble_eq_true rfl) d_Tree_addPrefix_88 ⟨v_2, f_3, f_4, f_5, f_6, f_7, f_8, y_22, rfl, rfl, (zI.wk (l' := 0) (h' := 241) hv_2 (by decide)), hf_3, hf_4, hy_22, (by omega), (by have _l0 := li_0; have _l1 := li_1; have _l2 := li_10; intro q hq; have := hli_23 q (by omega); omega), uf_3, uf_4, uf_5, uf_6, uf_7, uf_8, (by intro q; have j9 := hli_24 q; rw [show y_21.toInt = 10 by have _l0 := li_10; omega] at j9; exact j9)⟩
    · have _nhc_25 := hc_25
      have ni_28 := (fa_lt _ _).mp (zi_nle hc_25)
      rw [li_10] at ni_28
      have hv_29 : zI y_21 0 9 := zI.lt_l hy_21 zc_10 (zi_nle hc_25) (by decide)
      refine lv_aload_n hx hb d_Tree_addPrefix_68 rfl (lv_at hl 2 rfl) ?_
      refine va_get (D := G.1) (ci := 3) (v := .ref b12) (C := R_Tree) (T := F_Tree) (N := 11) hx hb hts i_Tree hown hK hP 0 rfl rfl 9 (by decide) (hts _ q115) (fun _ h9 => h9) rfl d_Tree_addPrefix_69 ?_
      refine lv_iload_n hx hb d_Tree_addPrefix_72 rfl (lv_at hl 1 rfl) ?_
      refine lv_bipush (v := 10) hx hb d_Tree_addPrefix_73 (by decide) ?_
      refine lv_imul hx hb d_Tree_addPrefix_75 ?_
      refine lv_topi (fun v_30 ev_30 => ?_)
      obtain ⟨qv_30, hv_30⟩ := zI_mul (l := 10) (h := 2400) hv_1 zc_10 ev_30 (by decide)
      rw [li_10] at qv_30
      refine lv_iload hx hb d_Tree_addPrefix_76 (lv_at hl 0 rfl) ?_
      refine lv_iadd hx hb d_Tree_addPrefix_78 ?_
      refine lv_topi (fun v_31 ev_31 => ?_)
      obtain ⟨qv_31, hv_31⟩ := zI_add (l := 10) (h := 2409) hv_30 hv_29 ev_31 (by decide)
      refine lv_iconst (v := (-1)) hx hb d_Tree_addPrefix_79 (by decide) ?_
      refine va_iast hx hb hK hP hD hS 7 0 rfl rfl (zI.inn hv_31 (by decide)) d_Tree_addPrefix_80 (fun H locs hP hD hS => ?_)
      obtain ⟨f_32, hf_32, gf_32, uf_32, hP, hD⟩ := z_newfu 7 hP hD rfl hy_22 (zI.wk (l' := (-1)) (h' := 240) zc_m1 (by decide))
      have hP : va_P G.1 classes [(b0, .inr (3, [.int b3, .int b4, .int v_2, .ref b6, .ref b7, .ref b8, .ref b9, .ref b10, .ref b11, .ref b12, .ref b13])), (b6, .inl (G.2 0, 241, .inl f_3)), (b7, .inl (G.2 0, 241, .inl f_4)), (b8, .inl (G.2 0, 241, .inl f_5)), (b9, .inl (G.2 0, 241, .inl f_6)), (b10, .inl (G.2 0, 241, .inl f_7)), (b11, .inl (G.2 0, 241, .inl f_8)), (b12, .inl (G.2 0, 2410, .inl f_32))] H := hP
      have hD := z_tie hP hD rfl
      obtain ⟨v_33, ev_33⟩ : ∃ z : Int32, z = y_21 + 1 := ⟨_, rfl⟩
      obtain ⟨qv_33, hv_33⟩ := zI_add (l := 1) (h := 10) hv_29 zc_1 ev_33 (by decide)
      rw [li_1] at qv_33
      refine lv_iinc (v := v_33) (lv' := [(4, .int v_33), (3, .int b5), (0, .ref b0), (1, .int b1), (2, .int b2)]) hx hb d_Tree_addPrefix_81 hl (k := 0) rfl (by rw [ev_33]; rfl) (by decide) rfl (fun ls hl => ?_)
      refine lv_goto (tgt := 61) hx hb d_Tree_addPrefix_84 (by decide) ?_
      exact ihk_20 (v_33) (f_32) _ _ _ (zI.wk (l' := 0) (h' := 10) hv_33 (by decide)) hf_32 (by have _l0 := li_0; have _l1 := li_m1; have _l2 := li_10; have p9 := z_pl hv_31 (by decide); intro q hq; rw [uf_32, z_at]; split; omega; exact hli_23 q (by omega)) (by have _l0 := li_0; have p9 := z_pl hv_31 (by decide); intro q; rw [uf_32, z_at]; by_cases c : q = v_31.toNatClampNeg; (rw [if_pos c, if_pos (by omega)]); (rw [if_neg c, hli_24 q]; by_cases c2 : 10 * (b5 : Int32).toInt ≤ (q : Int) ∧ (q : Int) < 10 * (b5 : Int32).toInt + y_21.toInt; (rw [if_pos c2, if_pos (by omega)]); rw [if_neg c2, if_neg (by omega)])) (zm_up qv_33 hmk_20 (by decide)) hP hD hS (lv_sub hl [0, 1, 2, 3, 4] rfl)
abbrev m_s2_Tree_stepFrom : Room := { frames := 1, cells := 0, slots := 0, locals := 24 }
set_option maxHeartbeats 4000000 in
set_option maxRecDepth 100000 in
theorem s2_Tree_stepFrom (l : Launch) (G : zG) (b0 : Nat) (b1 : Int32) (b2 : Int32) (b3 : Int32) (b4 : Int32) (b5 : Int32) (b6 : Nat) (b7 : Nat) (b8 : Nat) (b9 : Nat) (b10 : Nat) (b11 : Nat) (b12 : Nat) (b13 : Nat) (b14 : Nat → Int32) (b15 : Nat → Int32) (b16 : Nat → Int32) (b17 : Nat → Int32) (b18 : Nat → Int32) (b19 : Nat → Int32) (b20 : Nat → Int32) (hb1 : zI b1 0 240) (hb2 : zI b2 0 9) (hb3 : zI b3 0 1) (hb5 : zI b5 0 241) (hb14 : zR1 b14 0 240) (hb15 : zR1 b15 0 9) (hb20 : zR b20 (-1) 240) (hsf : 1 ≤ b5.toInt ∧ b5.toInt ≤ 240) (hlo : zLo b20 (10 * (b5 : Int32).toInt) (b5 : Int32).toInt) (hsp : b1.toInt < b5.toInt) : zM l G y_Tree_stepFrom prog_11_method_5_code 4 (Option.some Jvm.ClassFile.FieldType.int) m_s2_Tree_stepFrom [.ref b0, .int b1, .int b2] [(b0, .inr (3, [.int b3, .int b4, .int b5, .ref b6, .ref b7, .ref b8, .ref b9, .ref b10, .ref b11, .ref b12, .ref b13])), (b6, .inl (G.2 0, 241, .inl b14)), (b7, .inl (G.2 0, 241, .inl b15)), (b8, .inl (G.2 0, 241, .inl b16)), (b9, .inl (G.2 0, 241, .inl b17)), (b10, .inl (G.2 0, 241, .inl b18)), (b11, .inl (G.2 0, 241, .inl b19)), (b12, .inl (G.2 0, 2410, .inl b20))] (fun v w => ∃ (e0 : Int32), ∃ (e1 : Int32), ∃ (e2 : Nat → Int32), ∃ (e3 : Nat → Int32), ∃ (e4 : Nat → Int32), ∃ (e5 : Nat → Int32), ∃ (e6 : Nat → Int32), ∃ (e7 : Nat → Int32), ∃ (e8 : Nat → Int32), v = some (.int e0) ∧ w = [(b0, .inr (3, [.int b3, .int b4, .int e1, .ref b6, .ref b7, .ref b8, .ref b9, .ref b10, .ref b11, .ref b12, .ref b13])), (b6, .inl (G.2 0, 241, .inl e2)), (b7, .inl (G.2 0, 241, .inl e3)), (b8, .inl (G.2 0, 241, .inl e4)), (b9, .inl (G.2 0, 241, .inl e5)), (b10, .inl (G.2 0, 241, .inl e6)), (b11, .inl (G.2 0, 241, .inl e7)), (b12, .inl (G.2 0, 2410, .inl e8))] ∧ (zI e0 0 240) ∧ (zI e1 0 241) ∧ (zR1 e2 0 240) ∧ (zR1 e3 0 9) ∧ (zR e8 (-1) 240) ∧ (e1.toInt ≤ b5.toInt + 1) ∧ (b5.toInt ≤ e1.toInt) ∧ (zLo e8 (10 * (e1 : Int32).toInt) (e1 : Int32).toInt) ∧ (e0.toInt < (e1 : Int32).toInt) ∧ (ySF (10 * b1.toInt.toNat + b2.toInt.toNat) b1 b2 b5 e1 e0 b14 b15 b16 b17 b18 b19 b20 e2 e3 e4 e5 e6 e7 e8)) := by
  refine z_start (by decide +kernel) (Nat.le_of_ble_eq_true rfl) ?_
  intro p e s m below meth c A Z hr hnm hA hP hD hS ls hl
  have Z : zC p s m _ meth c prog_11_method_5_code 4 "TraceMachines$Tree" G := Z
  obtain ⟨hx, hb, hml, hown, hts, hK, hN, hlocks⟩ := id Z
  have hl : lv_has ls 4 [(0, .ref b0), (1, .int b1), (2, .int b2)] := hl
  have hv_1 : zI b5 1 240 := ⟨by omega, by omega⟩
  refine lv_iload_n hx hb d_Tree_stepFrom_0 rfl (lv_at hl 1 rfl) ?_
  refine lv_bipush (v := 10) hx hb d_Tree_stepFrom_1 (by decide) ?_
  refine lv_imul hx hb d_Tree_stepFrom_3 ?_
  refine lv_topi (fun v_2 ev_2 => ?_)
  obtain ⟨qv_2, hv_2⟩ := zI_mul (l := 0) (h := 2400) hb1 zc_10 ev_2 (by decide)
  rw [li_10] at qv_2
  refine lv_iload_n hx hb d_Tree_stepFrom_4 rfl (lv_at hl 2 rfl) ?_
  refine lv_iadd hx hb d_Tree_stepFrom_5 ?_
  refine lv_topi (fun v_3 ev_3 => ?_)
  obtain ⟨qv_3, hv_3⟩ := zI_add (l := 0) (h := 2409) hv_2 hb2 ev_3 (by decide)
  refine lv_istore_n (lv' := [(3, .int v_3), (0, .ref b0), (1, .int b1), (2, .int b2)]) hx hb d_Tree_stepFrom_6 rfl hl (by decide) rfl (fun ls hl => ?_)
  refine lv_aload_n hx hb d_Tree_stepFrom_7 rfl (lv_at hl 1 rfl) ?_
  refine va_get (D := G.1) (ci := 3) (v := .ref b12) (C := R_Tree) (T := F_Tree) (N := 11) hx hb hts i_Tree hown hK hP 0 rfl rfl 9 (by decide) (hts _ q115) (fun _ h9 => h9) rfl d_Tree_stepFrom_8 ?_
  refine lv_iload_n hx hb d_Tree_stepFrom_11 rfl (lv_at hl 0 rfl) ?_
  refine va_iald hx hb hK hP 7 0 rfl rfl (zI.inn hv_3 (by decide)) d_Tree_stepFrom_12 ?_
  refine lv_topi (fun v_4 ev_4 => ?_)
  have hv_4 : zI v_4 (-1) 240 := (hb20 _).eq ev_4
  refine lv_iconst (v := (-1)) hx hb d_Tree_stepFrom_13 (by decide) ?_
  refine lv_icmp_ne (tgt := 29) hx hb d_Tree_stepFrom_14 (by decide) (fun hc_5 => ?_) (fun hc_5 => ?_)
  · have _nhc_5 := hc_5
    have ni_6 : ¬ (v_4 : Int32).toInt = ((-1) : Int32).toInt := fun z => hc_5 ((fa_eq _ _).mpr z)
    simp only [li_m1] at ni_6
    have hv_7 : zI v_4 0 240 := zI.ne_lo hv_4 zc_m1 hc_5 (by decide)
    refine lv_aload_n hx hb d_Tree_stepFrom_29 rfl (lv_at hl 1 rfl) ?_
    refine va_get (D := G.1) (ci := 3) (v := .ref b12) (C := R_Tree) (T := F_Tree) (N := 11) hx hb hts i_Tree hown hK hP 0 rfl rfl 9 (by decide) (hts _ q115) (fun _ h9 => h9) rfl d_Tree_stepFrom_30 ?_
    refine lv_iload_n hx hb d_Tree_stepFrom_33 rfl (lv_at hl 0 rfl) ?_
    refine va_iald hx hb hK hP 7 0 rfl rfl (zI.inn hv_3 (by decide)) d_Tree_stepFrom_34 ?_
    refine lv_topi (fun v_8 ev_8 => ?_)
    obtain rfl : v_4 = v_8 := ev_4.trans ev_8.symm
    exact z_iret hx hb hr hlocks hP hD hS (Nat.le_of_ble_eq_true rfl) (Nat.le_of_ble_eq_true rfl) d_Tree_stepFrom_35 ⟨v_4, b5, b14, b15, b16, b17, b18, b19, b20, rfl, rfl, hv_7, (zI.wk (l' := 0) (h' := 241) hv_1 (by decide)), hb14, hb15, hb20, (by omega), (by omega), hlo, (by have p9 := z_pl hv_3 (by decide); rw [ev_4]; exact hlo _ (by omega)), (ySF_o (j := v_3) (by rw [z_plf hv_3 (by decide)]; omega) ev_4 (by omega))⟩
  · have _nhc_5 := hc_5
    have ni_9 := (fa_eq _ _).mp hc_5
    rw [li_m1] at ni_9
    have hv_10 : zI v_4 (-1) (-1) := zI.eq_l hv_4 zc_m1 hc_5
    refine lv_aload_n hx hb d_Tree_stepFrom_17 rfl (lv_at hl 1 rfl) ?_
    refine va_get (D := G.1) (ci := 3) (v := .ref b12) (C := R_Tree) (T := F_Tree) (N := 11) hx hb hts i_Tree hown hK hP 0 rfl rfl 9 (by decide) (hts _ q115) (fun _ h9 => h9) rfl d_Tree_stepFrom_18 ?_
    refine lv_iload_n hx hb d_Tree_stepFrom_21 rfl (lv_at hl 0 rfl) ?_
    refine lv_aload_n hx hb d_Tree_stepFrom_22 rfl (lv_at hl 1 rfl) ?_
    refine lv_iload_n hx hb d_Tree_stepFrom_23 rfl (lv_at hl 2 rfl) ?_
    refine lv_iload_n hx hb d_Tree_stepFrom_24 rfl (lv_at hl 3 rfl) ?_
    refine z_callV (index := 56) (As := [.int b1, .int b2]) (rest := [.int v_3, .ref b12]) (wr := []) Z (s6_Tree_addPrefix l G (b0) (b1) (b2) (b3) (b4) (b5) (b6) (b7) (b8) (b9) (b10) (b11) (b12) (b13) (b14) (b15) (b16) (b17) (b18) (b19) (b20) hb1 hb2 hb3 (zI.wk (l' := 0) (h' := 241) hv_1 (by decide)) hb14 hb15 hb20 (by omega) hlo) hl.1 q575 q577 qs4 q4 q578 ⟨by decide, by decide, by show _ = some 2; decide +kernel⟩ ⟨Nat.le_of_ble_eq_true rfl, Nat.le_of_ble_eq_true rfl⟩ ⟨Nat.le_of_ble_eq_true rfl, Nat.le_of_ble_eq_true rfl⟩ rfl (Nat.le_of_ble_eq_true rfl) d_Tree_stepFrom_25 hP hD hS hA 0 3 rfl rfl rfl [0, 1, 2, 3, 4, 5, 6, 7] [] rfl rfl rfl rfl (by decide) (fun v w1 H locs hw_11 hP hD hS => ?_)
    obtain ⟨x_12, f_13, f_14, f_15, f_16, f_17, f_18, f_19, rfl, rfl, hx_12, hf_13, hf_14, hf_19, hfx_20, hfx_21, hfx_22, hfx_23, hfx_24, hfx_25, hfx_26, hfx_27, hfx_28⟩ := hw_11
    have hP : va_P G.1 classes [(b0, .inr (3, [.int b3, .int b4, .int x_12, .ref b6, .ref b7, .ref b8, .ref b9, .ref b10, .ref b11, .ref b12, .ref b13])), (b6, .inl (G.2 0, 241, .inl f_13)), (b7, .inl (G.2 0, 241, .inl f_14)), (b8, .inl (G.2 0, 241, .inl f_15)), (b9, .inl (G.2 0, 241, .inl f_16)), (b10, .inl (G.2 0, 241, .inl f_17)), (b11, .inl (G.2 0, 241, .inl f_18)), (b12, .inl (G.2 0, 2410, .inl f_19))] H := hP
    have hD := z_tie hP hD rfl
    refine W.widen (k := 0) (n := 0) (Nat.le_of_ble_eq_true rfl) (Nat.le_of_ble_eq_true rfl) ?_
    refine va_iast hx hb hK hP hD hS 7 0 rfl rfl (zI.inn hv_3 (by decide)) d_Tree_stepFrom_28 (fun H locs hP hD hS => ?_)
    obtain ⟨f_29, hf_29, gf_29, uf_29, hP, hD⟩ := z_newfu 7 hP hD rfl hf_19 (zI.wk (l' := (-1)) (h' := 240) hv_1 (by decide))
    have hP : va_P G.1 classes [(b0, .inr (3, [.int b3, .int b4, .int x_12, .ref b6, .ref b7, .ref b8, .ref b9, .ref b10, .ref b11, .ref b12, .ref b13])), (b6, .inl (G.2 0, 241, .inl f_13)), (b7, .inl (G.2 0, 241, .inl f_14)), (b8, .inl (G.2 0, 241, .inl f_15)), (b9, .inl (G.2 0, 241, .inl f_16)), (b10, .inl (G.2 0, 241, .inl f_17)), (b11, .inl (G.2 0, 241, .inl f_18)), (b12, .inl (G.2 0, 2410, .inl f_29))] H := hP
    have hD := z_tie hP hD rfl
    refine lv_aload_n hx hb d_Tree_stepFrom_29 rfl (lv_at hl 1 rfl) ?_
    refine va_get (D := G.1) (ci := 3) (v := .ref b12) (C := R_Tree) (T := F_Tree) (N := 11) hx hb hts i_Tree hown hK hP 0 rfl rfl 9 (by decide) (hts _ q115) (fun _ h9 => h9) rfl d_Tree_stepFrom_30 ?_
    refine lv_iload_n hx hb d_Tree_stepFrom_33 rfl (lv_at hl 0 rfl) ?_
    refine va_iald hx hb hK hP 7 0 rfl rfl (zI.inn hv_3 (by decide)) d_Tree_stepFrom_34 ?_
    refine lv_topi (fun v_30 ev_30 => ?_)
    obtain rfl : b5 = v_30 := gf_29.symm.trans ev_30.symm
    exact z_iret hx hb hr hlocks hP hD hS (Nat.le_of_ble_eq_true rfl) (Nat.le_of_ble_eq_true rfl) d_Tree_stepFrom_35 ⟨b5, x_12, f_13, f_14, f_15, f_16, f_17, f_18, f_29, rfl, rfl, (zI.wk (l' := 0) (h' := 240) hv_1 (by decide)), hx_12, hf_13, hf_14, hf_29, (by omega), (by omega), (by have _l0 := li_0; have _l1 := li_m1; have _l2 := li_10; have p9 := z_pl hv_3 (by decide); intro q hq; rw [uf_29, z_at]; split; omega; have := hfx_21 q (by omega); omega), (by omega), (ySF_n (j := v_3) (by rw [z_plf hv_3 (by decide)]; omega) ev_4 (by omega) hfx_20 hfx_22 hfx_23 hfx_24 hfx_25 hfx_26 hfx_27 hfx_28 uf_29)⟩
abbrev m_s2_Tree_follow : Room := { frames := 2, cells := 0, slots := 0, locals := 47 }
set_option maxHeartbeats 4000000 in
set_option maxRecDepth 100000 in
theorem s2_Tree_follow (l : Launch) (G : zG) (b0 : Nat) (b1 : Nat) (b2 : Int32) (b3 : Int32) (b4 : Int32) (b5 : Int32) (b6 : Nat) (b7 : Nat) (b8 : Nat) (b9 : Nat) (b10 : Nat) (b11 : Nat) (b12 : Nat) (b13 : Nat) (b14 : Nat → Int32) (b15 : Nat → Int32) (b16 : Nat → Int32) (b17 : Nat → Int32) (b18 : Nat → Int32) (b19 : Nat → Int32) (b20 : Nat → Int32) (b21 : Nat → Int32) (b22 : Int32) (b23 : Int32) (b24 : Int32) (b25 : Nat) (b26 : Nat) (b27 : Nat) (b28 : Nat → Int32) (b29 : Nat → Int32) (b30 : Nat → Int32) (hb2 : zI b2 0 19) (hb3 : zI b3 0 1) (hb5 : zI b5 0 241) (hb22 : zI b22 0 20) (hb23 : zI b23 0 3) (hb24 : zI b24 0 20) (hb14 : zR1 b14 0 240) (hb15 : zR1 b15 0 9) (hb20 : zR b20 (-1) 240) (hb21 : zqa qP b21) (hb28 : zR b28 0 12) (hb29 : zR b29 0 9) (hfo : b5.toInt ≤ 12 * b2.toInt + 1) (hlo : zLo b20 (10 * (b5 : Int32).toInt) (b5 : Int32).toInt) (htr : zTr (b2.toInt) (b4 : Int32).toInt (b5 : Int32).toInt b28 b21) : zM l G y_Tree_follow prog_11_method_4_code 7 (Option.none : Option Jvm.ClassFile.FieldType) m_s2_Tree_follow [.ref b0, .ref b1, .int b2] [(b0, .inr (3, [.int b3, .int b4, .int b5, .ref b6, .ref b7, .ref b8, .ref b9, .ref b10, .ref b11, .ref b12, .ref b13])), (b6, .inl (G.2 0, 241, .inl b14)), (b7, .inl (G.2 0, 241, .inl b15)), (b8, .inl (G.2 0, 241, .inl b16)), (b9, .inl (G.2 0, 241, .inl b17)), (b10, .inl (G.2 0, 241, .inl b18)), (b11, .inl (G.2 0, 241, .inl b19)), (b12, .inl (G.2 0, 2410, .inl b20)), (b13, .inl (G.2 0, 260, .inl b21)), (b1, .inr (2, [.int b22, .int b23, .int b24, .ref b25, .ref b26, .ref b27])), (b25, .inl (G.2 0, 20, .inl b28)), (b26, .inl (G.2 0, 240, .inl b29)), (b27, .inl (G.2 0, 240, .inl b30))] (fun v w => ∃ (e0 : Int32), ∃ (e1 : Nat → Int32), ∃ (e2 : Nat → Int32), ∃ (e3 : Nat → Int32), ∃ (e4 : Nat → Int32), ∃ (e5 : Nat → Int32), ∃ (e6 : Nat → Int32), ∃ (e7 : Nat → Int32), ∃ (e8 : Nat → Int32), v = none ∧ w = [(b0, .inr (3, [.int b3, .int b4, .int e0, .ref b6, .ref b7, .ref b8, .ref b9, .ref b10, .ref b11, .ref b12, .ref b13])), (b6, .inl (G.2 0, 241, .inl e1)), (b7, .inl (G.2 0, 241, .inl e2)), (b8, .inl (G.2 0, 241, .inl e3)), (b9, .inl (G.2 0, 241, .inl e4)), (b10, .inl (G.2 0, 241, .inl e5)), (b11, .inl (G.2 0, 241, .inl e6)), (b12, .inl (G.2 0, 2410, .inl e7)), (b13, .inl (G.2 0, 260, .inl e8)), (b1, .inr (2, [.int b22, .int b23, .int b24, .ref b25, .ref b26, .ref b27])), (b25, .inl (G.2 0, 20, .inl b28)), (b26, .inl (G.2 0, 240, .inl b29)), (b27, .inl (G.2 0, 240, .inl b30))] ∧ (zI e0 0 241) ∧ (zR1 e1 0 240) ∧ (zR1 e2 0 9) ∧ (zR e7 (-1) 240) ∧ (zqa qP e8) ∧ (e0.toInt ≤ 12 * b2.toInt + 13) ∧ (zLo e7 (10 * (e0 : Int32).toInt) (e0 : Int32).toInt) ∧ (zTr (b2.toInt + 1) (b4 : Int32).toInt (e0 : Int32).toInt b28 e8) ∧ (∀ b : Int, ¬ (b2 : Int32).toInt = b → (b2 : Int32).toInt < (b22 : Int32).toInt → yCG (zgR (zrow b22 b23 b24 b28 b29 b30)) (zcR (zrow b22 b23 b24 b28 b29 b30)) (zvR (zrow b22 b23 b24 b28 b29 b30)) b (b2 : Int32).toInt.toNat (b5 : Int32).toInt b14 b15 b16 b17 b18 b19 b20 → yPL (zgR (zrow b22 b23 b24 b28 b29 b30)) (zcR (zrow b22 b23 b24 b28 b29 b30)) b (b2 : Int32).toInt.toNat 0 b21 → yCG (zgR (zrow b22 b23 b24 b28 b29 b30)) (zcR (zrow b22 b23 b24 b28 b29 b30)) (zvR (zrow b22 b23 b24 b28 b29 b30)) b ((b2 : Int32).toInt.toNat + 1) (e0 : Int32).toInt e1 e2 e3 e4 e5 e6 e7 ∧ yPL (zgR (zrow b22 b23 b24 b28 b29 b30)) (zcR (zrow b22 b23 b24 b28 b29 b30)) b ((b2 : Int32).toInt.toNat + 1) 0 e8)) := by
  refine z_start (by decide +kernel) (Nat.le_of_ble_eq_true rfl) ?_
  intro p e s m below meth c A Z hr hnm hA hP hD hS ls hl
  have Z : zC p s m _ meth c prog_11_method_4_code 7 "TraceMachines$Tree" G := Z
  obtain ⟨hx, hb, hml, hown, hts, hK, hN, hlocks⟩ := id Z
  have hl : lv_has ls 7 [(0, .ref b0), (1, .ref b1), (2, .int b2)] := hl
  refine lv_aload_n hx hb d_Tree_follow_0 rfl (lv_at hl 0 rfl) ?_
  refine va_get (D := G.1) (ci := 3) (v := .int b5) (C := R_Tree) (T := F_Tree) (N := 11) hx hb hts i_Tree hown hK hP 0 rfl rfl 2 (by decide) (hts _ q100) (fun _ h9 => h9) rfl d_Tree_follow_1 ?_
  refine lv_if_ne (tgt := 14) hx hb d_Tree_follow_4 (by decide) (fun hc_1 => ?_) (fun hc_1 => ?_)
  · have _nhc_1 := hc_1
    have ni_2 : ¬ (b5 : Int32).toInt = (0 : Int32).toInt := fun z => hc_1 ((fa_eq _ _).mpr z)
    simp only [li_0] at ni_2
    have hv_3 : zI b5 1 241 := zI.ne_lo hb5 zc_0 hc_1 (by decide)
    refine lv_iconst (v := 0) hx hb d_Tree_follow_14 (by decide) ?_
    refine lv_istore_n (lv' := [(3, .int 0), (0, .ref b0), (1, .ref b1), (2, .int b2)]) hx hb d_Tree_follow_15 rfl hl (by decide) rfl (fun ls hl => ?_)
    refine lv_aload_n hx hb d_Tree_follow_16 rfl (lv_at hl 2 rfl) ?_
    refine va_get (D := G.1) (ci := 2) (v := .ref b25) (C := R_Traces) (T := F_Traces) (N := 6) hx hb hts i_Traces hown hK hP 9 rfl rfl 3 (by decide) (hts _ q68) (fun _ h9 => h9) rfl d_Tree_follow_17 ?_
    refine lv_iload_n hx hb d_Tree_follow_20 rfl (lv_at hl 3 rfl) ?_
    refine va_iald hx hb hK hP 10 0 rfl rfl (zI.inn hb2 (by decide)) d_Tree_follow_21 ?_
    refine lv_topi (fun v_4 ev_4 => ?_)
    have hv_4 : zI v_4 0 12 := (hb28 _).eq ev_4
    refine lv_istore (lv' := [(4, .int v_4), (3, .int 0), (0, .ref b0), (1, .ref b1), (2, .int b2)]) hx hb d_Tree_follow_22 hl (by decide) rfl (fun ls hl => ?_)
    refine lv_aload_n hx hb d_Tree_follow_24 rfl (lv_at hl 2 rfl) ?_
    refine va_get (D := G.1) (ci := 3) (v := .ref b13) (C := R_Tree) (T := F_Tree) (N := 11) hx hb hts i_Tree hown hK hP 0 rfl rfl 10 (by decide) (hts _ q116) (fun _ h9 => h9) rfl d_Tree_follow_25 ?_
    refine lv_iload_n hx hb d_Tree_follow_28 rfl (lv_at hl 4 rfl) ?_
    refine lv_bipush (v := 13) hx hb d_Tree_follow_29 (by decide) ?_
    refine lv_imul hx hb d_Tree_follow_31 ?_
    refine lv_topi (fun v_5 ev_5 => ?_)
    obtain ⟨qv_5, hv_5⟩ := zI_mul (l := 0) (h := 247) hb2 zc_13 ev_5 (by decide)
    rw [li_13] at qv_5
    refine lv_iload_n hx hb d_Tree_follow_32 rfl (lv_at hl 1 rfl) ?_
    refine va_iast hx hb hK hP hD hS 8 0 rfl rfl (zI.inn hv_5 (by decide)) d_Tree_follow_33 (fun H locs hP hD hS => ?_)
    obtain ⟨f_6, hf_6, gf_6, uf_6, hP, hD⟩ := z_newq_ (Q := qP) 8 hP hD rfl hb21 (qP_v hv_5 (by decide) ⟨⟨by have _w := li_0; have _x := hv_5; omega, by have _w := li_0; have _x := hv_5; omega⟩, by have _w := li_0; have _x := hv_5; omega⟩)
    have hP : va_P G.1 classes [(b0, .inr (3, [.int b3, .int b4, .int b5, .ref b6, .ref b7, .ref b8, .ref b9, .ref b10, .ref b11, .ref b12, .ref b13])), (b6, .inl (G.2 0, 241, .inl b14)), (b7, .inl (G.2 0, 241, .inl b15)), (b8, .inl (G.2 0, 241, .inl b16)), (b9, .inl (G.2 0, 241, .inl b17)), (b10, .inl (G.2 0, 241, .inl b18)), (b11, .inl (G.2 0, 241, .inl b19)), (b12, .inl (G.2 0, 2410, .inl b20)), (b13, .inl (G.2 0, 260, .inl f_6)), (b1, .inr (2, [.int b22, .int b23, .int b24, .ref b25, .ref b26, .ref b27])), (b25, .inl (G.2 0, 20, .inl b28)), (b26, .inl (G.2 0, 240, .inl b29)), (b27, .inl (G.2 0, 240, .inl b30))] H := hP
    have hD := z_tie hP hD rfl
    refine lv_aload_n hx hb d_Tree_follow_34 rfl (lv_at hl 2 rfl) ?_
    refine va_get (D := G.1) (ci := 3) (v := .ref b8) (C := R_Tree) (T := F_Tree) (N := 11) hx hb hts i_Tree hown hK hP 0 rfl rfl 5 (by decide) (hts _ q107) (fun _ h9 => h9) rfl d_Tree_follow_35 ?_
    refine lv_iload_n hx hb d_Tree_follow_38 rfl (lv_at hl 1 rfl) ?_
    refine lv_dup2_11 hx hb d_Tree_follow_39 rfl rfl ?_
    refine va_iald hx hb hK hP 3 0 rfl rfl (i := 0) (z_in rfl) d_Tree_follow_40 ?_
    refine lv_topi (fun v_7 ev_7 => ?_)
    refine lv_iconst (v := 1) hx hb d_Tree_follow_41 (by decide) ?_
    refine lv_iadd hx hb d_Tree_follow_42 ?_
    refine lv_topi (fun v_8 ev_8 => ?_)
    refine va_iast hx hb hK hP hD hS 3 0 rfl rfl (i := 0) (z_in rfl) d_Tree_follow_43 (fun H locs hP hD hS => ?_)
    obtain ⟨f_9, gf_9, uf_9, hP, hD⟩ := z_newFu 3 hP hD rfl
    have hP : va_P G.1 classes [(b0, .inr (3, [.int b3, .int b4, .int b5, .ref b6, .ref b7, .ref b8, .ref b9, .ref b10, .ref b11, .ref b12, .ref b13])), (b6, .inl (G.2 0, 241, .inl b14)), (b7, .inl (G.2 0, 241, .inl b15)), (b8, .inl (G.2 0, 241, .inl f_9)), (b9, .inl (G.2 0, 241, .inl b17)), (b10, .inl (G.2 0, 241, .inl b18)), (b11, .inl (G.2 0, 241, .inl b19)), (b12, .inl (G.2 0, 2410, .inl b20)), (b13, .inl (G.2 0, 260, .inl f_6)), (b1, .inr (2, [.int b22, .int b23, .int b24, .ref b25, .ref b26, .ref b27])), (b25, .inl (G.2 0, 20, .inl b28)), (b26, .inl (G.2 0, 240, .inl b29)), (b27, .inl (G.2 0, 240, .inl b30))] H := hP
    have hD := z_tie hP hD rfl
    refine lv_iconst (v := 0) hx hb d_Tree_follow_44 (by decide) ?_
    refine lv_istore (lv' := [(5, .int 0), (4, .int v_4), (3, .int 0), (0, .ref b0), (1, .ref b1), (2, .int b2)]) hx hb d_Tree_follow_45 hl (by decide) rfl (fun ls hl => ?_)
    suffices key : ∀ (k_74 : Nat) (y_75 : Int32) (y_76 : Int32) (y_77 : Int32) (y_78 : Nat → Int32) (y_79 : Nat → Int32) (y_80 : Nat → Int32) (y_81 : Nat → Int32) (y_82 : Nat → Int32) (y_83 : Nat → Int32) (y_84 : Nat → Int32) (y_85 : Nat → Int32) (H : Heap) (locs : List Loc) (ls : Array Slot), (zI y_75 0 12) → (zI y_76 0 240) → (zI y_77 0 241) → (zR y_80 (-1) 240) → (zqa qP y_81) → (zR1 y_82 0 240) → (zR1 y_83 0 9) → (y_77.toInt ≤ 12 * b2.toInt + 1 + y_75.toInt) → (1 ≤ y_77.toInt) → ((y_76 : Int32).toInt < y_77.toInt) → (zLo y_80 (10 * (y_77 : Int32).toInt) (y_77 : Int32).toInt) → (zTr (b2.toInt) (b4 : Int32).toInt (y_77 : Int32).toInt b28 y_81) → (∀ i : Nat, (i : Int) ≤ (y_75 : Int32).toInt → (y_81 (13 * b2.toInt.toNat + i)).toInt < (y_77 : Int32).toInt) → ((y_75 : Int32).toInt ≤ (v_4 : Int32).toInt) → (∀ b : Int, ¬ (b2 : Int32).toInt = b → (b2 : Int32).toInt < (b22 : Int32).toInt → yCG (zgR (zrow b22 b23 b24 b28 b29 b30)) (zcR (zrow b22 b23 b24 b28 b29 b30)) (zvR (zrow b22 b23 b24 b28 b29 b30)) b (b2 : Int32).toInt.toNat (b5 : Int32).toInt b14 b15 b16 b17 b18 b19 b20 → yPL (zgR (zrow b22 b23 b24 b28 b29 b30)) (zcR (zrow b22 b23 b24 b28 b29 b30)) b (b2 : Int32).toInt.toNat 0 b21 → yFI (zgR (zrow b22 b23 b24 b28 b29 b30)) (zcR (zrow b22 b23 b24 b28 b29 b30)) (zvR (zrow b22 b23 b24 b28 b29 b30)) b (b2 : Int32).toInt.toNat (y_75 : Int32).toInt.toNat (y_77 : Int32).toInt y_82 y_83 y_84 y_85 y_78 y_79 y_80 y_81 (y_76 : Int32).toInt) → (12 : Int) - y_75.toInt < (k_74 : Int) → va_P G.1 classes [(b0, .inr (3, [.int b3, .int b4, .int y_77, .ref b6, .ref b7, .ref b8, .ref b9, .ref b10, .ref b11, .ref b12, .ref b13])), (b6, .inl (G.2 0, 241, .inl y_82)), (b7, .inl (G.2 0, 241, .inl y_83)), (b8, .inl (G.2 0, 241, .inl y_84)), (b9, .inl (G.2 0, 241, .inl y_85)), (b10, .inl (G.2 0, 241, .inl y_78)), (b11, .inl (G.2 0, 241, .inl y_79)), (b12, .inl (G.2 0, 2410, .inl y_80)), (b13, .inl (G.2 0, 260, .inl y_81)), (b1, .inr (2, [.int b22, .int b23, .int b24, .ref b25, .ref b26, .ref b27])), (b25, .inl (G.2 0, 20, .inl b28)), (b26, .inl (G.2 0, 240, .inl b29)), (b27, .inl (G.2 0, 240, .inl b30))] H → va_D A [(b0, .inr (3, [.int b3, .int b4, .int y_77, .ref b6, .ref b7, .ref b8, .ref b9, .ref b10, .ref b11, .ref b12, .ref b13])), (b6, .inl (G.2 0, 241, .inl y_82)), (b7, .inl (G.2 0, 241, .inl y_83)), (b8, .inl (G.2 0, 241, .inl y_84)), (b9, .inl (G.2 0, 241, .inl y_85)), (b10, .inl (G.2 0, 241, .inl y_78)), (b11, .inl (G.2 0, 241, .inl y_79)), (b12, .inl (G.2 0, 2410, .inl y_80)), (b13, .inl (G.2 0, 260, .inl y_81)), (b1, .inr (2, [.int b22, .int b23, .int b24, .ref b25, .ref b26, .ref b27])), (b25, .inl (G.2 0, 20, .inl b28)), (b26, .inl (G.2 0, 240, .inl b29)), (b27, .inl (G.2 0, 240, .inl b30))] → va_S A s.heap H locs → lv_has ls 7 [(5, .int y_75), (4, .int v_4), (3, .int y_76), (0, .ref b0), (1, .ref b1), (2, .int b2)] → W p l e m_s2_Tree_follow s m ([.ref b0, .ref b1, .int b2] : List Value).toArray below meth c H locs 0 0 (MQ below (zQ G (fun v w => ∃ (e0 : Int32), ∃ (e1 : Nat → Int32), ∃ (e2 : Nat → Int32), ∃ (e3 : Nat → Int32), ∃ (e4 : Nat → Int32), ∃ (e5 : Nat → Int32), ∃ (e6 : Nat → Int32), ∃ (e7 : Nat → Int32), ∃ (e8 : Nat → Int32), v = none ∧ w = [(b0, .inr (3, [.int b3, .int b4, .int e0, .ref b6, .ref b7, .ref b8, .ref b9, .ref b10, .ref b11, .ref b12, .ref b13])), (b6, .inl (G.2 0, 241, .inl e1)), (b7, .inl (G.2 0, 241, .inl e2)), (b8, .inl (G.2 0, 241, .inl e3)), (b9, .inl (G.2 0, 241, .inl e4)), (b10, .inl (G.2 0, 241, .inl e5)), (b11, .inl (G.2 0, 241, .inl e6)), (b12, .inl (G.2 0, 2410, .inl e7)), (b13, .inl (G.2 0, 260, .inl e8)), (b1, .inr (2, [.int b22, .int b23, .int b24, .ref b25, .ref b26, .ref b27])), (b25, .inl (G.2 0, 20, .inl b28)), (b26, .inl (G.2 0, 240, .inl b29)), (b27, .inl (G.2 0, 240, .inl b30))] ∧ (zI e0 0 241) ∧ (zR1 e1 0 240) ∧ (zR1 e2 0 9) ∧ (zR e7 (-1) 240) ∧ (zqa qP e8) ∧ (e0.toInt ≤ 12 * b2.toInt + 13) ∧ (zLo e7 (10 * (e0 : Int32).toInt) (e0 : Int32).toInt) ∧ (zTr (b2.toInt + 1) (b4 : Int32).toInt (e0 : Int32).toInt b28 e8) ∧ (∀ b : Int, ¬ (b2 : Int32).toInt = b → (b2 : Int32).toInt < (b22 : Int32).toInt → yCG (zgR (zrow b22 b23 b24 b28 b29 b30)) (zcR (zrow b22 b23 b24 b28 b29 b30)) (zvR (zrow b22 b23 b24 b28 b29 b30)) b (b2 : Int32).toInt.toNat (b5 : Int32).toInt b14 b15 b16 b17 b18 b19 b20 → yPL (zgR (zrow b22 b23 b24 b28 b29 b30)) (zcR (zrow b22 b23 b24 b28 b29 b30)) b (b2 : Int32).toInt.toNat 0 b21 → yCG (zgR (zrow b22 b23 b24 b28 b29 b30)) (zcR (zrow b22 b23 b24 b28 b29 b30)) (zvR (zrow b22 b23 b24 b28 b29 b30)) b ((b2 : Int32).toInt.toNat + 1) (e0 : Int32).toInt e1 e2 e3 e4 e5 e6 e7 ∧ yPL (zgR (zrow b22 b23 b24 b28 b29 b30)) (zcR (zrow b22 b23 b24 b28 b29 b30)) b ((b2 : Int32).toInt.toNat + 1) 0 e8)) A) ([.ref b0, .ref b1, .int b2] : List Value).toArray s m_s2_Tree_follow.cells m_s2_Tree_follow.slots A) (F0 m 47 ls []) by
      exact key 13 (0) (0) (b5) (b18) (b19) (b20) (f_6) (b14) (b15) (f_9) (b17) _ _ _ (zI.wk (l' := 0) (h' := 12) zc_0 (by decide)) (zI.wk (l' := 0) (h' := 240) zc_0 (by decide)) (zI.wk (l' := 0) (h' := 241) hv_3 (by decide)) hb20 hf_6 hb14 hb15 (by have _l2 := li_0; omega) (by omega) (by have _l0 := li_0; omega) hlo (by have _l0 := li_0; have _l1 := li_1; have _l2 := li_13; have p9 := z_pl hv_5 (by decide); intro t i h1 h2 h3; rw [uf_6, z_at]; split; omega; have := htr t i h1 h2 h3; omega) (by have _l0 := li_0; have _l1 := li_1; have _l2 := li_13; have p9 := z_pl hv_5 (by decide); intro i hi; rw [uf_6, z_at]; split; omega; omega) (by have _l0 := li_0; omega) (fun bu h1 h2 h3 h4 => (by have _l := li_0; rw [show (0 : Int32).toInt.toNat = 0 by omega, li_0]; exact yFI_1 h3 h4 (by omega) (yRw_c (yRw_row hb22 hb28 hb29)) uf_9 (by decide) uf_6 (by have p9 := z_pl hv_5 (by decide); omega) li_0)) (zm_upi (zI.wk (l' := 0) (h' := 12) zc_0 (by decide)) (by decide)) hP hD hS (lv_sub hl [0, 1, 2, 3, 4, 5] rfl)
    intro k_74
    induction k_74 with
    | zero =>
      intro y_75 y_76 y_77 y_78 y_79 y_80 y_81 y_82 y_83 y_84 y_85 H locs ls hy_75 hy_76 hy_77 hy_80 hy_81 hy_82 hy_83 hli_86 hli_87 hli_88 hli_89 hli_90 hli_91 hli_92 hli_93 hmk_74 hP hD hS hl
      exact (zm_up0 hy_75 hmk_74).elim
    | succ k_74 ihk_74 =>
      intro y_75 y_76 y_77 y_78 y_79 y_80 y_81 y_82 y_83 y_84 y_85 H locs ls hy_75 hy_76 hy_77 hy_80 hy_81 hy_82 hy_83 hli_86 hli_87 hli_88 hli_89 hli_90 hli_91 hli_92 hli_93 hmk_74 hP hD hS hl
      refine lv_iload hx hb d_Tree_follow_47 (lv_at hl 0 rfl) ?_
      refine lv_iload hx hb d_Tree_follow_49 (lv_at hl 1 rfl) ?_
      refine lv_icmp_ge (tgt := 141) hx hb d_Tree_follow_51 (by decide) (fun hc_94 => ?_) (fun hc_94 => ?_)
      · have _nhc_94 := hc_94
        have ni_95 := (fa_le _ _).mp hc_94
        refine lv_aload_n hx hb d_Tree_follow_141 rfl (lv_at hl 3 rfl) ?_
        refine va_get (D := G.1) (ci := 3) (v := .ref b9) (C := R_Tree) (T := F_Tree) (N := 11) hx hb hts i_Tree hown hK hP 0 rfl rfl 6 (by decide) (hts _ q109) (fun _ h9 => h9) rfl d_Tree_follow_142 ?_
        refine lv_iload_n hx hb d_Tree_follow_145 rfl (lv_at hl 2 rfl) ?_
        refine lv_dup2_11 hx hb d_Tree_follow_146 rfl rfl ?_
        refine va_iald hx hb hK hP 4 0 rfl rfl (zI.inn hy_76 (by decide)) d_Tree_follow_147 ?_
        refine lv_topi (fun v_96 ev_96 => ?_)
        refine lv_iconst (v := 1) hx hb d_Tree_follow_148 (by decide) ?_
        refine lv_iadd hx hb d_Tree_follow_149 ?_
        refine lv_topi (fun v_97 ev_97 => ?_)
        refine va_iast hx hb hK hP hD hS 4 0 rfl rfl (zI.inn hy_76 (by decide)) d_Tree_follow_150 (fun H locs hP hD hS => ?_)
        obtain ⟨f_98, gf_98, uf_98, hP, hD⟩ := z_newFu 4 hP hD rfl
        have hP : va_P G.1 classes [(b0, .inr (3, [.int b3, .int b4, .int y_77, .ref b6, .ref b7, .ref b8, .ref b9, .ref b10, .ref b11, .ref b12, .ref b13])), (b6, .inl (G.2 0, 241, .inl y_82)), (b7, .inl (G.2 0, 241, .inl y_83)), (b8, .inl (G.2 0, 241, .inl y_84)), (b9, .inl (G.2 0, 241, .inl f_98)), (b10, .inl (G.2 0, 241, .inl y_78)), (b11, .inl (G.2 0, 241, .inl y_79)), (b12, .inl (G.2 0, 2410, .inl y_80)), (b13, .inl (G.2 0, 260, .inl y_81)), (b1, .inr (2, [.int b22, .int b23, .int b24, .ref b25, .ref b26, .ref b27])), (b25, .inl (G.2 0, 20, .inl b28)), (b26, .inl (G.2 0, 240, .inl b29)), (b27, .inl (G.2 0, 240, .inl b30))] H := hP
        have hD := z_tie hP hD rfl
        exact z_vret hx hb hr hlocks hP hD hS (Nat.le_of_ble_eq_true rfl) (Nat.le_of_ble_eq_true rfl) d_Tree_follow_151 ⟨y_77, y_82, y_83, y_84, f_98, y_78, y_79, y_80, y_81, rfl, rfl, hy_77, hy_82, hy_83, hy_80, hy_81, (by omega), hli_89, (by intro t i h1 h2 h3; rcases Decidable.em ((t : Int) < b2.toInt) with h4 | h4; exact hli_90 t i h4 h2 h3; obtain rfl : t = b2.toInt.toNat := (by omega); exact hli_91 i (by rw [← z_plf hb2 (by decide), ← ev_4] at h3; omega)), (fun bu h1 h2 h3 h4 => yFI_e (hli_93 bu h1 h2 h3 h4) (by rw [zcR_row (by have a9 := (hb22).2; omega) (show (b2.toInt.toNat : Int) < b22.toInt by omega)]; have e9 := congrArg Int32.toInt ev_4; rw [z_plf hb2 (by decide)] at e9; have i9 := (Int.le_refl 0); omega) (by omega) (by omega) ev_96 ev_97 uf_98)⟩
      · have _nhc_94 := hc_94
        have ni_99 := (fa_lt _ _).mp (zi_nle hc_94)
        have hv_100 : zI y_75 0 11 := zI.lt_l hy_75 hv_4 (zi_nle hc_94) (by decide)
        have hv_101 : zI v_4 1 12 := zI.lt_r hy_75 hv_4 (zi_nle hc_94) (by decide)
        refine lv_aload_n hx hb d_Tree_follow_54 rfl (lv_at hl 3 rfl) ?_
        refine lv_iload_n hx hb d_Tree_follow_55 rfl (lv_at hl 2 rfl) ?_
        refine lv_aload_n hx hb d_Tree_follow_56 rfl (lv_at hl 4 rfl) ?_
        refine lv_iload_n hx hb d_Tree_follow_57 rfl (lv_at hl 5 rfl) ?_
        refine lv_iload hx hb d_Tree_follow_58 (lv_at hl 0 rfl) ?_
        refine z_callV (index := 63) (As := [.int b2, .int y_75]) (rest := [.int y_76, .ref b0]) (wr := [(b0, .inr (3, [.int b3, .int b4, .int y_77, .ref b6, .ref b7, .ref b8, .ref b9, .ref b10, .ref b11, .ref b12, .ref b13])), (b6, .inl (G.2 0, 241, .inl y_82)), (b7, .inl (G.2 0, 241, .inl y_83)), (b8, .inl (G.2 0, 241, .inl y_84)), (b9, .inl (G.2 0, 241, .inl y_85)), (b10, .inl (G.2 0, 241, .inl y_78)), (b11, .inl (G.2 0, 241, .inl y_79)), (b12, .inl (G.2 0, 2410, .inl y_80)), (b13, .inl (G.2 0, 260, .inl y_81)), (b25, .inl (G.2 0, 20, .inl b28)), (b27, .inl (G.2 0, 240, .inl b30))]) Z (s2_Traces_letterAt l G (b1) (b2) (y_75) (b22) (b23) (b24) (b25) (b26) (b27) (b29) hb2 hv_100 hb22 hb23 hb24 hb29) hl.1 q579 q580 q581 q3 q582 ⟨by decide, by decide, by show _ = some 2; decide +kernel⟩ ⟨Nat.le_of_ble_eq_true rfl, Nat.le_of_ble_eq_true rfl⟩ ⟨Nat.le_of_ble_eq_true rfl, Nat.le_of_ble_eq_true rfl⟩ rfl (Nat.le_of_ble_eq_true rfl) d_Tree_follow_60 hP hD hS hA 9 2 rfl rfl rfl [9, 11] [0, 1, 2, 3, 4, 5, 6, 7, 8, 10, 12] rfl rfl rfl rfl (by decide) (fun v w1 H locs hw_102 hP hD hS => ?_)
        obtain ⟨x_103, rfl, rfl, hx_103, hfx_104⟩ := hw_102
        have hP : va_P G.1 classes [(b0, .inr (3, [.int b3, .int b4, .int y_77, .ref b6, .ref b7, .ref b8, .ref b9, .ref b10, .ref b11, .ref b12, .ref b13])), (b6, .inl (G.2 0, 241, .inl y_82)), (b7, .inl (G.2 0, 241, .inl y_83)), (b8, .inl (G.2 0, 241, .inl y_84)), (b9, .inl (G.2 0, 241, .inl y_85)), (b10, .inl (G.2 0, 241, .inl y_78)), (b11, .inl (G.2 0, 241, .inl y_79)), (b12, .inl (G.2 0, 2410, .inl y_80)), (b13, .inl (G.2 0, 260, .inl y_81)), (b25, .inl (G.2 0, 20, .inl b28)), (b27, .inl (G.2 0, 240, .inl b30)), (b1, .inr (2, [.int b22, .int b23, .int b24, .ref b25, .ref b26, .ref b27])), (b26, .inl (G.2 0, 240, .inl b29))] H := hP
        have hD := z_tie hP hD rfl
        refine W.widen (k := 0) (n := 0) (Nat.le_of_ble_eq_true rfl) (Nat.le_of_ble_eq_true rfl) ?_
        refine z_callV (index := 66) (As := [.int y_76, .int x_103]) (rest := []) (wr := [(b13, .inl (G.2 0, 260, .inl y_81)), (b25, .inl (G.2 0, 20, .inl b28)), (b27, .inl (G.2 0, 240, .inl b30)), (b1, .inr (2, [.int b22, .int b23, .int b24, .ref b25, .ref b26, .ref b27])), (b26, .inl (G.2 0, 240, .inl b29))]) Z (s2_Tree_stepFrom l G (b0) (y_76) (x_103) (b3) (b4) (y_77) (b6) (b7) (b8) (b9) (b10) (b11) (b12) (b13) (y_82) (y_83) (y_84) (y_85) (y_78) (y_79) (y_80) hy_76 hx_103 hb3 hy_77 hy_82 hy_83 hy_80 (by omega) hli_89 (by omega)) hl.1 q583 q585 qs5 q4 q586 ⟨by decide, by decide, by show _ = some 2; decide +kernel⟩ ⟨Nat.le_of_ble_eq_true rfl, Nat.le_of_ble_eq_true rfl⟩ ⟨Nat.le_of_ble_eq_true rfl, Nat.le_of_ble_eq_true rfl⟩ rfl (Nat.le_of_ble_eq_true rfl) d_Tree_follow_63 hP hD hS hA 0 3 rfl rfl rfl [0, 1, 2, 3, 4, 5, 6, 7] [8, 9, 10, 11, 12] rfl rfl rfl rfl (by decide) (fun v w1 H locs hw_105 hP hD hS => ?_)
        refine Exists.elim hw_105 (fun x_106 hz_120 => Exists.elim hz_120 (fun x_107 hz_121 => Exists.elim hz_121 (fun f_108 hz_122 => Exists.elim hz_122 (fun f_109 hz_123 => Exists.elim hz_123 (fun f_110 hz_124 => Exists.elim hz_124 (fun f_111 hz_125 => Exists.elim hz_125 (fun f_112 hz_126 => Exists.elim hz_126 (fun f_113 hz_127 => Exists.elim hz_127 (fun f_114 hz_128 => ?_)))))))))
        clear hw_105 hz_120 hz_121 hz_122 hz_123 hz_124 hz_125 hz_126 hz_127
        obtain ⟨rfl, rfl, hx_106, hx_107, hf_108, hf_109, hf_114, hfx_115, hfx_116, hfx_117, hfx_118, hfx_119⟩ := hz_128
        have hP : va_P G.1 classes [(b13, .inl (G.2 0, 260, .inl y_81)), (b25, .inl (G.2 0, 20, .inl b28)), (b27, .inl (G.2 0, 240, .inl b30)), (b1, .inr (2, [.int b22, .int b23, .int b24, .ref b25, .ref b26, .ref b27])), (b26, .inl (G.2 0, 240, .inl b29)), (b0, .inr (3, [.int b3, .int b4, .int x_107, .ref b6, .ref b7, .ref b8, .ref b9, .ref b10, .ref b11, .ref b12, .ref b13])), (b6, .inl (G.2 0, 241, .inl f_108)), (b7, .inl (G.2 0, 241, .inl f_109)), (b8, .inl (G.2 0, 241, .inl f_110)), (b9, .inl (G.2 0, 241, .inl f_111)), (b10, .inl (G.2 0, 241, .inl f_112)), (b11, .inl (G.2 0, 241, .inl f_113)), (b12, .inl (G.2 0, 2410, .inl f_114))] H := hP
        have hD := z_tie hP hD rfl
        refine W.widen (k := 0) (n := 0) (Nat.le_of_ble_eq_true rfl) (Nat.le_of_ble_eq_true rfl) ?_
        refine lv_istore_n (lv' := [(3, .int x_106), (5, .int y_75), (4, .int v_4), (0, .ref b0), (1, .ref b1), (2, .int b2)]) hx hb d_Tree_follow_66 rfl hl (by decide) rfl (fun ls hl => ?_)
        refine lv_aload_n hx hb d_Tree_follow_67 rfl (lv_at hl 3 rfl) ?_
        refine va_get (D := G.1) (ci := 3) (v := .ref b13) (C := R_Tree) (T := F_Tree) (N := 11) hx hb hts i_Tree hown hK hP 5 rfl rfl 10 (by decide) (hts _ q116) (fun _ h9 => h9) rfl d_Tree_follow_68 ?_
        refine lv_iload_n hx hb d_Tree_follow_71 rfl (lv_at hl 5 rfl) ?_
        refine lv_bipush (v := 13) hx hb d_Tree_follow_72 (by decide) ?_
        refine lv_imul hx hb d_Tree_follow_74 ?_
        refine lv_topi (fun v_129 ev_129 => ?_)
        obtain rfl : v_5 = v_129 := ev_5.trans ev_129.symm
        refine lv_iload hx hb d_Tree_follow_75 (lv_at hl 1 rfl) ?_
        refine lv_iadd hx hb d_Tree_follow_77 ?_
        refine lv_topi (fun v_130 ev_130 => ?_)
        obtain ⟨qv_130, hv_130⟩ := zI_add (l := 0) (h := 258) hv_5 hv_100 ev_130 (by decide)
        refine lv_iconst (v := 1) hx hb d_Tree_follow_78 (by decide) ?_
        refine lv_iadd hx hb d_Tree_follow_79 ?_
        refine lv_topi (fun v_131 ev_131 => ?_)
        obtain ⟨qv_131, hv_131⟩ := zI_add (l := 1) (h := 259) hv_130 zc_1 ev_131 (by decide)
        rw [li_1] at qv_131
        refine lv_iload_n hx hb d_Tree_follow_80 rfl (lv_at hl 0 rfl) ?_
        refine va_iast hx hb hK hP hD hS 0 0 rfl rfl (zI.inn hv_131 (by decide)) d_Tree_follow_81 (fun H locs hP hD hS => ?_)
        obtain ⟨f_132, hf_132, gf_132, uf_132, hP, hD⟩ := z_newq_ (Q := qP) 0 hP hD rfl hy_81 (qP_v hv_131 (by decide) ⟨⟨by have _w := hx_106; have _x := hv_131; omega, by have _w := hx_106; have _x := hv_131; omega⟩, by have _w := hx_106; have _x := hv_131; omega⟩)
        have hP : va_P G.1 classes [(b13, .inl (G.2 0, 260, .inl f_132)), (b25, .inl (G.2 0, 20, .inl b28)), (b27, .inl (G.2 0, 240, .inl b30)), (b1, .inr (2, [.int b22, .int b23, .int b24, .ref b25, .ref b26, .ref b27])), (b26, .inl (G.2 0, 240, .inl b29)), (b0, .inr (3, [.int b3, .int b4, .int x_107, .ref b6, .ref b7, .ref b8, .ref b9, .ref b10, .ref b11, .ref b12, .ref b13])), (b6, .inl (G.2 0, 241, .inl f_108)), (b7, .inl (G.2 0, 241, .inl f_109)), (b8, .inl (G.2 0, 241, .inl f_110)), (b9, .inl (G.2 0, 241, .inl f_111)), (b10, .inl (G.2 0, 241, .inl f_112)), (b11, .inl (G.2 0, 241, .inl f_113)), (b12, .inl (G.2 0, 2410, .inl f_114))] H := hP
        have hD := z_tie hP hD rfl
        refine lv_aload_n hx hb d_Tree_follow_82 rfl (lv_at hl 3 rfl) ?_
        refine va_get (D := G.1) (ci := 3) (v := .ref b8) (C := R_Tree) (T := F_Tree) (N := 11) hx hb hts i_Tree hown hK hP 5 rfl rfl 5 (by decide) (hts _ q107) (fun _ h9 => h9) rfl d_Tree_follow_83 ?_
        refine lv_iload_n hx hb d_Tree_follow_86 rfl (lv_at hl 0 rfl) ?_
        refine lv_dup2_11 hx hb d_Tree_follow_87 rfl rfl ?_
        refine va_iald hx hb hK hP 8 0 rfl rfl (zI.inn hx_106 (by decide)) d_Tree_follow_88 ?_
        refine lv_topi (fun v_133 ev_133 => ?_)
        refine lv_iconst (v := 1) hx hb d_Tree_follow_89 (by decide) ?_
        refine lv_iadd hx hb d_Tree_follow_90 ?_
        refine lv_topi (fun v_134 ev_134 => ?_)
        refine va_iast hx hb hK hP hD hS 8 0 rfl rfl (zI.inn hx_106 (by decide)) d_Tree_follow_91 (fun H locs hP hD hS => ?_)
        obtain ⟨f_135, gf_135, uf_135, hP, hD⟩ := z_newFu 8 hP hD rfl
        have hP : va_P G.1 classes [(b13, .inl (G.2 0, 260, .inl f_132)), (b25, .inl (G.2 0, 20, .inl b28)), (b27, .inl (G.2 0, 240, .inl b30)), (b1, .inr (2, [.int b22, .int b23, .int b24, .ref b25, .ref b26, .ref b27])), (b26, .inl (G.2 0, 240, .inl b29)), (b0, .inr (3, [.int b3, .int b4, .int x_107, .ref b6, .ref b7, .ref b8, .ref b9, .ref b10, .ref b11, .ref b12, .ref b13])), (b6, .inl (G.2 0, 241, .inl f_108)), (b7, .inl (G.2 0, 241, .inl f_109)), (b8, .inl (G.2 0, 241, .inl f_135)), (b9, .inl (G.2 0, 241, .inl f_111)), (b10, .inl (G.2 0, 241, .inl f_112)), (b11, .inl (G.2 0, 241, .inl f_113)), (b12, .inl (G.2 0, 2410, .inl f_114))] H := hP
        have hD := z_tie hP hD rfl
        refine lv_aload_n hx hb d_Tree_follow_92 rfl (lv_at hl 4 rfl) ?_
        refine lv_iload_n hx hb d_Tree_follow_93 rfl (lv_at hl 5 rfl) ?_
        refine lv_iload hx hb d_Tree_follow_94 (lv_at hl 1 rfl) ?_
        refine z_callV (index := 69) (As := [.int b2, .int y_75]) (rest := []) (wr := [(b13, .inl (G.2 0, 260, .inl f_132)), (b25, .inl (G.2 0, 20, .inl b28)), (b26, .inl (G.2 0, 240, .inl b29)), (b0, .inr (3, [.int b3, .int b4, .int x_107, .ref b6, .ref b7, .ref b8, .ref b9, .ref b10, .ref b11, .ref b12, .ref b13])), (b6, .inl (G.2 0, 241, .inl f_108)), (b7, .inl (G.2 0, 241, .inl f_109)), (b8, .inl (G.2 0, 241, .inl f_135)), (b9, .inl (G.2 0, 241, .inl f_111)), (b10, .inl (G.2 0, 241, .inl f_112)), (b11, .inl (G.2 0, 241, .inl f_113)), (b12, .inl (G.2 0, 2410, .inl f_114))]) Z (s2_Traces_valueAt l G (b1) (b2) (y_75) (b22) (b23) (b24) (b25) (b26) (b27) (b30) hb2 hv_100 hb22 hb23 hb24) hl.1 q587 q588 q589 q3 q590 ⟨by decide, by decide, by show _ = some 2; decide +kernel⟩ ⟨Nat.le_of_ble_eq_true rfl, Nat.le_of_ble_eq_true rfl⟩ ⟨Nat.le_of_ble_eq_true rfl, Nat.le_of_ble_eq_true rfl⟩ rfl (Nat.le_of_ble_eq_true rfl) d_Tree_follow_96 hP hD hS hA 3 2 rfl rfl rfl [3, 2] [0, 1, 4, 5, 6, 7, 8, 9, 10, 11, 12] rfl rfl rfl rfl (by decide) (fun v w1 H locs hw_136 hP hD hS => ?_)
        obtain ⟨x_137, rfl, rfl, hfx_138, hfx_139⟩ := hw_136
        have hP : va_P G.1 classes [(b13, .inl (G.2 0, 260, .inl f_132)), (b25, .inl (G.2 0, 20, .inl b28)), (b26, .inl (G.2 0, 240, .inl b29)), (b0, .inr (3, [.int b3, .int b4, .int x_107, .ref b6, .ref b7, .ref b8, .ref b9, .ref b10, .ref b11, .ref b12, .ref b13])), (b6, .inl (G.2 0, 241, .inl f_108)), (b7, .inl (G.2 0, 241, .inl f_109)), (b8, .inl (G.2 0, 241, .inl f_135)), (b9, .inl (G.2 0, 241, .inl f_111)), (b10, .inl (G.2 0, 241, .inl f_112)), (b11, .inl (G.2 0, 241, .inl f_113)), (b12, .inl (G.2 0, 2410, .inl f_114)), (b1, .inr (2, [.int b22, .int b23, .int b24, .ref b25, .ref b26, .ref b27])), (b27, .inl (G.2 0, 240, .inl b30))] H := hP
        have hD := z_tie hP hD rfl
        refine W.widen (k := 0) (n := 0) (Nat.le_of_ble_eq_true rfl) (Nat.le_of_ble_eq_true rfl) ?_
        refine lv_istore (lv' := [(6, .int x_137), (3, .int x_106), (5, .int y_75), (4, .int v_4), (0, .ref b0), (1, .ref b1), (2, .int b2)]) hx hb d_Tree_follow_99 hl (by decide) rfl (fun ls hl => ?_)
        refine lv_aload_n hx hb d_Tree_follow_101 rfl (lv_at hl 4 rfl) ?_
        refine va_get (D := G.1) (ci := 3) (v := .ref b10) (C := R_Tree) (T := F_Tree) (N := 11) hx hb hts i_Tree hown hK hP 3 rfl rfl 7 (by decide) (hts _ q111) (fun _ h9 => h9) rfl d_Tree_follow_102 ?_
        refine lv_iload_n hx hb d_Tree_follow_105 rfl (lv_at hl 1 rfl) ?_
        refine lv_aload_n hx hb d_Tree_follow_106 rfl (lv_at hl 4 rfl) ?_
        refine va_get (D := G.1) (ci := 3) (v := .ref b10) (C := R_Tree) (T := F_Tree) (N := 11) hx hb hts i_Tree hown hK hP 3 rfl rfl 7 (by decide) (hts _ q111) (fun _ h9 => h9) rfl d_Tree_follow_107 ?_
        refine lv_iload_n hx hb d_Tree_follow_110 rfl (lv_at hl 1 rfl) ?_
        refine va_iald hx hb hK hP 8 0 rfl rfl (zI.inn hx_106 (by decide)) d_Tree_follow_111 ?_
        refine lv_topi (fun v_140 ev_140 => ?_)
        refine lv_iload hx hb d_Tree_follow_112 (lv_at hl 0 rfl) ?_
        refine va_mmin hx hb (hml.trans hl.1.symm) hown (hts _ q591) (hts _ q592) (hts _ q20) (hts _ q593) (Nat.le_of_ble_eq_true rfl) (Nat.le_of_ble_eq_true rfl) (Nat.le_of_ble_eq_true rfl) (Nat.le_of_ble_eq_true rfl) d_Tree_follow_114 ?_
        refine lv_topi (fun v_141 ev_141 => ?_)
        have hv_141 := zI_min (l := (-2147483648)) (h := 2147483647) (zI_all v_140) (zI_all x_137) ev_141 (by decide)
        refine va_iast hx hb hK hP hD hS 8 0 rfl rfl (zI.inn hx_106 (by decide)) d_Tree_follow_117 (fun H locs hP hD hS => ?_)
        obtain ⟨f_142, gf_142, uf_142, hP, hD⟩ := z_newFu 8 hP hD rfl
        have hP : va_P G.1 classes [(b13, .inl (G.2 0, 260, .inl f_132)), (b25, .inl (G.2 0, 20, .inl b28)), (b26, .inl (G.2 0, 240, .inl b29)), (b0, .inr (3, [.int b3, .int b4, .int x_107, .ref b6, .ref b7, .ref b8, .ref b9, .ref b10, .ref b11, .ref b12, .ref b13])), (b6, .inl (G.2 0, 241, .inl f_108)), (b7, .inl (G.2 0, 241, .inl f_109)), (b8, .inl (G.2 0, 241, .inl f_135)), (b9, .inl (G.2 0, 241, .inl f_111)), (b10, .inl (G.2 0, 241, .inl f_142)), (b11, .inl (G.2 0, 241, .inl f_113)), (b12, .inl (G.2 0, 2410, .inl f_114)), (b1, .inr (2, [.int b22, .int b23, .int b24, .ref b25, .ref b26, .ref b27])), (b27, .inl (G.2 0, 240, .inl b30))] H := hP
        have hD := z_tie hP hD rfl
        refine lv_aload_n hx hb d_Tree_follow_118 rfl (lv_at hl 4 rfl) ?_
        refine va_get (D := G.1) (ci := 3) (v := .ref b11) (C := R_Tree) (T := F_Tree) (N := 11) hx hb hts i_Tree hown hK hP 3 rfl rfl 8 (by decide) (hts _ q113) (fun _ h9 => h9) rfl d_Tree_follow_119 ?_
        refine lv_iload_n hx hb d_Tree_follow_122 rfl (lv_at hl 1 rfl) ?_
        refine lv_aload_n hx hb d_Tree_follow_123 rfl (lv_at hl 4 rfl) ?_
        refine va_get (D := G.1) (ci := 3) (v := .ref b11) (C := R_Tree) (T := F_Tree) (N := 11) hx hb hts i_Tree hown hK hP 3 rfl rfl 8 (by decide) (hts _ q113) (fun _ h9 => h9) rfl d_Tree_follow_124 ?_
        refine lv_iload_n hx hb d_Tree_follow_127 rfl (lv_at hl 1 rfl) ?_
        refine va_iald hx hb hK hP 9 0 rfl rfl (zI.inn hx_106 (by decide)) d_Tree_follow_128 ?_
        refine lv_topi (fun v_143 ev_143 => ?_)
        refine lv_iload hx hb d_Tree_follow_129 (lv_at hl 0 rfl) ?_
        refine va_mmax hx hb (hml.trans hl.1.symm) hown (hts _ q594) (hts _ q595) (hts _ q20) (hts _ q596) (Nat.le_of_ble_eq_true rfl) (Nat.le_of_ble_eq_true rfl) (Nat.le_of_ble_eq_true rfl) (Nat.le_of_ble_eq_true rfl) d_Tree_follow_131 ?_
        refine lv_topi (fun v_144 ev_144 => ?_)
        have hv_144 := zI_max (l := (-2147483648)) (h := 2147483647) (zI_all v_143) (zI_all x_137) ev_144 (by decide)
        refine va_iast hx hb hK hP hD hS 9 0 rfl rfl (zI.inn hx_106 (by decide)) d_Tree_follow_134 (fun H locs hP hD hS => ?_)
        obtain ⟨f_145, gf_145, uf_145, hP, hD⟩ := z_newFu 9 hP hD rfl
        have hP : va_P G.1 classes [(b13, .inl (G.2 0, 260, .inl f_132)), (b25, .inl (G.2 0, 20, .inl b28)), (b26, .inl (G.2 0, 240, .inl b29)), (b0, .inr (3, [.int b3, .int b4, .int x_107, .ref b6, .ref b7, .ref b8, .ref b9, .ref b10, .ref b11, .ref b12, .ref b13])), (b6, .inl (G.2 0, 241, .inl f_108)), (b7, .inl (G.2 0, 241, .inl f_109)), (b8, .inl (G.2 0, 241, .inl f_135)), (b9, .inl (G.2 0, 241, .inl f_111)), (b10, .inl (G.2 0, 241, .inl f_142)), (b11, .inl (G.2 0, 241, .inl f_145)), (b12, .inl (G.2 0, 2410, .inl f_114)), (b1, .inr (2, [.int b22, .int b23, .int b24, .ref b25, .ref b26, .ref b27])), (b27, .inl (G.2 0, 240, .inl b30))] H := hP
        have hD := z_tie hP hD rfl
        obtain ⟨v_146, ev_146⟩ : ∃ z : Int32, z = y_75 + 1 := ⟨_, rfl⟩
        obtain ⟨qv_146, hv_146⟩ := zI_add (l := 1) (h := 12) hv_100 zc_1 ev_146 (by decide)
        rw [li_1] at qv_146
        refine lv_iinc (v := v_146) (lv' := [(5, .int v_146), (6, .int x_137), (3, .int x_106), (4, .int v_4), (0, .ref b0), (1, .ref b1), (2, .int b2)]) hx hb d_Tree_follow_135 hl (k := 2) rfl (by rw [ev_146]; rfl) (by decide) rfl (fun ls hl => ?_)
        refine lv_goto (tgt := 47) hx hb d_Tree_follow_138 (by decide) ?_
        exact ihk_74 (v_146) (x_106) (x_107) (f_142) (f_145) (f_114) (f_132) (f_108) (f_109) (f_135) (f_111) _ _ _ (zI.wk (l' := 0) (h' := 12) hv_146 (by decide)) hx_106 hx_107 hf_114 hf_132 hf_108 hf_109 (by omega) (by omega) (by omega) hfx_117 (by have _l0 := li_0; have _l1 := li_1; have _l2 := li_13; have p9 := z_pl hv_131 (by decide); intro t i h1 h2 h3; rw [uf_132, z_at]; split; omega; have := hli_90 t i h1 h2 h3; omega) (by have _l0 := li_0; have _l1 := li_1; have _l2 := li_13; have p9 := z_pl hv_131 (by decide); intro i hi; rw [uf_132, z_at]; split; omega; have := hli_91 i (by omega); omega) (by omega) (fun bu h1 h2 h3 h4 => by rw [show v_146.toInt.toNat = y_75.toInt.toNat + 1 by omega]; exact yFI_s (T := 20) (hli_93 bu h1 h2 h3 h4) (yRw_g (yRw_row hb22 hb28 hb29) 20) (yRw_c (yRw_row hb22 hb28 hb29)) (by omega) (by rw [zcR_row (by have a9 := (hb22).2; omega) (show (b2.toInt.toNat : Int) < b22.toInt by omega)]; have e9 := congrArg Int32.toInt ev_4; rw [z_plf hb2 (by decide)] at e9; omega) (by have g9 := zgR_row (d := b23) (mg := b24) (F := b29) (V := b30) (by have a9 := (hb22).2; omega) (show (b2.toInt.toNat : Int) < b22.toInt by omega) (show (y_75.toInt.toNat : Int) < (b28 b2.toInt.toNat).toInt by have e9 := congrArg Int32.toInt ev_4; rw [z_plf hb2 (by decide)] at e9; omega) (by omega); have f9 := hfx_104; rw [show 0 + (12 * b2.toInt.toNat + y_75.toInt.toNat) = 12 * b2.toInt.toNat + y_75.toInt.toNat by omega] at f9; rw [g9, ← f9]; omega) (by omega) hfx_119 uf_132 (by have p9 := z_pl hv_131 (by decide); omega) (by have g9 := zvR_row (d := b23) (mg := b24) (F := b29) (V := b30) (by have a9 := (hb22).2; omega) (show (b2.toInt.toNat : Int) < b22.toInt by omega) (show (y_75.toInt.toNat : Int) < (b28 b2.toInt.toNat).toInt by have e9 := congrArg Int32.toInt ev_4; rw [z_plf hb2 (by decide)] at e9; omega) (by omega); have f9 := hfx_138; rw [show 0 + (12 * b2.toInt.toNat + y_75.toInt.toNat) = 12 * b2.toInt.toNat + y_75.toInt.toNat by omega] at f9; rw [g9, ← f9]) ev_133 ev_134 uf_135 ev_140 ev_141 uf_142 ev_143 ev_144 uf_145) (zm_up qv_146 hmk_74 (by decide)) (hP.sub [3, 4, 5, 6, 7, 8, 9, 10, 0, 11, 1, 2, 12] rfl) (hD.sub [3, 4, 5, 6, 7, 8, 9, 10, 0, 11, 1, 2, 12] (by decide) rfl) hS (lv_sub hl [0, 3, 2, 4, 5, 6] rfl)
  · have _nhc_1 := hc_1
    have ni_147 := (fa_eq _ _).mp hc_1
    rw [li_0] at ni_147
    have hv_148 : zI b5 0 0 := zI.eq_l hb5 zc_0 hc_1
    refine lv_aload_n hx hb d_Tree_follow_7 rfl (lv_at hl 0 rfl) ?_
    refine lv_iconst (v := (-1)) hx hb d_Tree_follow_8 (by decide) ?_
    refine lv_iconst (v := (-1)) hx hb d_Tree_follow_9 (by decide) ?_
    refine z_callV (index := 56) (As := [.int (-1), .int (-1)]) (rest := []) (wr := [(b13, .inl (G.2 0, 260, .inl b21)), (b1, .inr (2, [.int b22, .int b23, .int b24, .ref b25, .ref b26, .ref b27])), (b25, .inl (G.2 0, 20, .inl b28)), (b26, .inl (G.2 0, 240, .inl b29)), (b27, .inl (G.2 0, 240, .inl b30))]) Z (s5_Tree_addPrefix l G (b0) (b3) (b4) (b5) (b6) (b7) (b8) (b9) (b10) (b11) (b12) (b13) (b14) (b15) (b16) (b17) (b18) (b19) (b20) hb3 (zI.wk (l' := 0) (h' := 241) hv_148 (by decide)) hb14 hb15 hb20 (by omega)) hl.1 q575 q577 qs4 q4 q578 ⟨by decide, by decide, by show _ = some 2; decide +kernel⟩ ⟨Nat.le_of_ble_eq_true rfl, Nat.le_of_ble_eq_true rfl⟩ ⟨Nat.le_of_ble_eq_true rfl, Nat.le_of_ble_eq_true rfl⟩ rfl (Nat.le_of_ble_eq_true rfl) d_Tree_follow_10 hP hD hS hA 0 3 rfl rfl rfl [0, 1, 2, 3, 4, 5, 6, 7] [8, 9, 10, 11, 12] rfl rfl rfl rfl (by decide) (fun v w1 H locs hw_149 hP hD hS => ?_)
    obtain ⟨f_150, f_151, f_152, f_153, f_154, f_155, f_156, rfl, rfl, hf_150, hf_151, hf_156, hfx_157, hfx_158, hfx_159, hfx_160⟩ := hw_149
    have hP : va_P G.1 classes [(b13, .inl (G.2 0, 260, .inl b21)), (b1, .inr (2, [.int b22, .int b23, .int b24, .ref b25, .ref b26, .ref b27])), (b25, .inl (G.2 0, 20, .inl b28)), (b26, .inl (G.2 0, 240, .inl b29)), (b27, .inl (G.2 0, 240, .inl b30)), (b0, .inr (3, [.int b3, .int b4, .int 1, .ref b6, .ref b7, .ref b8, .ref b9, .ref b10, .ref b11, .ref b12, .ref b13])), (b6, .inl (G.2 0, 241, .inl f_150)), (b7, .inl (G.2 0, 241, .inl f_151)), (b8, .inl (G.2 0, 241, .inl f_152)), (b9, .inl (G.2 0, 241, .inl f_153)), (b10, .inl (G.2 0, 241, .inl f_154)), (b11, .inl (G.2 0, 241, .inl f_155)), (b12, .inl (G.2 0, 2410, .inl f_156))] H := hP
    have hD := z_tie hP hD rfl
    refine W.widen (k := 0) (n := 0) (Nat.le_of_ble_eq_true rfl) (Nat.le_of_ble_eq_true rfl) ?_
    refine lv_pop hx hb d_Tree_follow_13 rfl ?_
    refine lv_iconst (v := 0) hx hb d_Tree_follow_14 (by decide) ?_
    refine lv_istore_n (lv' := [(3, .int 0), (0, .ref b0), (1, .ref b1), (2, .int b2)]) hx hb d_Tree_follow_15 rfl hl (by decide) rfl (fun ls hl => ?_)
    refine lv_aload_n hx hb d_Tree_follow_16 rfl (lv_at hl 2 rfl) ?_
    refine va_get (D := G.1) (ci := 2) (v := .ref b25) (C := R_Traces) (T := F_Traces) (N := 6) hx hb hts i_Traces hown hK hP 1 rfl rfl 3 (by decide) (hts _ q68) (fun _ h9 => h9) rfl d_Tree_follow_17 ?_
    refine lv_iload_n hx hb d_Tree_follow_20 rfl (lv_at hl 3 rfl) ?_
    refine va_iald hx hb hK hP 2 0 rfl rfl (zI.inn hb2 (by decide)) d_Tree_follow_21 ?_
    refine lv_topi (fun v_161 ev_161 => ?_)
    have hv_161 : zI v_161 0 12 := (hb28 _).eq ev_161
    refine lv_istore (lv' := [(4, .int v_161), (3, .int 0), (0, .ref b0), (1, .ref b1), (2, .int b2)]) hx hb d_Tree_follow_22 hl (by decide) rfl (fun ls hl => ?_)
    refine lv_aload_n hx hb d_Tree_follow_24 rfl (lv_at hl 2 rfl) ?_
    refine va_get (D := G.1) (ci := 3) (v := .ref b13) (C := R_Tree) (T := F_Tree) (N := 11) hx hb hts i_Tree hown hK hP 5 rfl rfl 10 (by decide) (hts _ q116) (fun _ h9 => h9) rfl d_Tree_follow_25 ?_
    refine lv_iload_n hx hb d_Tree_follow_28 rfl (lv_at hl 4 rfl) ?_
    refine lv_bipush (v := 13) hx hb d_Tree_follow_29 (by decide) ?_
    refine lv_imul hx hb d_Tree_follow_31 ?_
    refine lv_topi (fun v_162 ev_162 => ?_)
    obtain ⟨qv_162, hv_162⟩ := zI_mul (l := 0) (h := 247) hb2 zc_13 ev_162 (by decide)
    rw [li_13] at qv_162
    refine lv_iload_n hx hb d_Tree_follow_32 rfl (lv_at hl 1 rfl) ?_
    refine va_iast hx hb hK hP hD hS 0 0 rfl rfl (zI.inn hv_162 (by decide)) d_Tree_follow_33 (fun H locs hP hD hS => ?_)
    obtain ⟨f_163, hf_163, gf_163, uf_163, hP, hD⟩ := z_newq_ (Q := qP) 0 hP hD rfl hb21 (qP_v hv_162 (by decide) ⟨⟨by have _w := li_0; have _x := hv_162; omega, by have _w := li_0; have _x := hv_162; omega⟩, by have _w := li_0; have _x := hv_162; omega⟩)
    have hP : va_P G.1 classes [(b13, .inl (G.2 0, 260, .inl f_163)), (b1, .inr (2, [.int b22, .int b23, .int b24, .ref b25, .ref b26, .ref b27])), (b25, .inl (G.2 0, 20, .inl b28)), (b26, .inl (G.2 0, 240, .inl b29)), (b27, .inl (G.2 0, 240, .inl b30)), (b0, .inr (3, [.int b3, .int b4, .int 1, .ref b6, .ref b7, .ref b8, .ref b9, .ref b10, .ref b11, .ref b12, .ref b13])), (b6, .inl (G.2 0, 241, .inl f_150)), (b7, .inl (G.2 0, 241, .inl f_151)), (b8, .inl (G.2 0, 241, .inl f_152)), (b9, .inl (G.2 0, 241, .inl f_153)), (b10, .inl (G.2 0, 241, .inl f_154)), (b11, .inl (G.2 0, 241, .inl f_155)), (b12, .inl (G.2 0, 2410, .inl f_156))] H := hP
    have hD := z_tie hP hD rfl
    refine lv_aload_n hx hb d_Tree_follow_34 rfl (lv_at hl 2 rfl) ?_
    refine va_get (D := G.1) (ci := 3) (v := .ref b8) (C := R_Tree) (T := F_Tree) (N := 11) hx hb hts i_Tree hown hK hP 5 rfl rfl 5 (by decide) (hts _ q107) (fun _ h9 => h9) rfl d_Tree_follow_35 ?_
    refine lv_iload_n hx hb d_Tree_follow_38 rfl (lv_at hl 1 rfl) ?_
    refine lv_dup2_11 hx hb d_Tree_follow_39 rfl rfl ?_
    refine va_iald hx hb hK hP 8 0 rfl rfl (i := 0) (z_in rfl) d_Tree_follow_40 ?_
    refine lv_topi (fun v_164 ev_164 => ?_)
    refine lv_iconst (v := 1) hx hb d_Tree_follow_41 (by decide) ?_
    refine lv_iadd hx hb d_Tree_follow_42 ?_
    refine lv_topi (fun v_165 ev_165 => ?_)
    refine va_iast hx hb hK hP hD hS 8 0 rfl rfl (i := 0) (z_in rfl) d_Tree_follow_43 (fun H locs hP hD hS => ?_)
    obtain ⟨f_166, gf_166, uf_166, hP, hD⟩ := z_newFu 8 hP hD rfl
    have hP : va_P G.1 classes [(b13, .inl (G.2 0, 260, .inl f_163)), (b1, .inr (2, [.int b22, .int b23, .int b24, .ref b25, .ref b26, .ref b27])), (b25, .inl (G.2 0, 20, .inl b28)), (b26, .inl (G.2 0, 240, .inl b29)), (b27, .inl (G.2 0, 240, .inl b30)), (b0, .inr (3, [.int b3, .int b4, .int 1, .ref b6, .ref b7, .ref b8, .ref b9, .ref b10, .ref b11, .ref b12, .ref b13])), (b6, .inl (G.2 0, 241, .inl f_150)), (b7, .inl (G.2 0, 241, .inl f_151)), (b8, .inl (G.2 0, 241, .inl f_166)), (b9, .inl (G.2 0, 241, .inl f_153)), (b10, .inl (G.2 0, 241, .inl f_154)), (b11, .inl (G.2 0, 241, .inl f_155)), (b12, .inl (G.2 0, 2410, .inl f_156))] H := hP
    have hD := z_tie hP hD rfl
    refine lv_iconst (v := 0) hx hb d_Tree_follow_44 (by decide) ?_
    refine lv_istore (lv' := [(5, .int 0), (4, .int v_161), (3, .int 0), (0, .ref b0), (1, .ref b1), (2, .int b2)]) hx hb d_Tree_follow_45 hl (by decide) rfl (fun ls hl => ?_)
    suffices key : ∀ (k_231 : Nat) (y_232 : Int32) (y_233 : Int32) (y_234 : Int32) (y_235 : Nat → Int32) (y_236 : Nat → Int32) (y_237 : Nat → Int32) (y_238 : Nat → Int32) (y_239 : Nat → Int32) (y_240 : Nat → Int32) (y_241 : Nat → Int32) (y_242 : Nat → Int32) (H : Heap) (locs : List Loc) (ls : Array Slot), (zI y_232 0 12) → (zI y_233 0 240) → (zI y_234 0 241) → (zR y_237 (-1) 240) → (zqa qP y_238) → (zR1 y_239 0 240) → (zR1 y_240 0 9) → (y_234.toInt ≤ 12 * b2.toInt + 1 + y_232.toInt) → (1 ≤ y_234.toInt) → ((y_233 : Int32).toInt < y_234.toInt) → (zLo y_237 (10 * (y_234 : Int32).toInt) (y_234 : Int32).toInt) → (zTr (b2.toInt) (b4 : Int32).toInt (y_234 : Int32).toInt b28 y_238) → (∀ i : Nat, (i : Int) ≤ (y_232 : Int32).toInt → (y_238 (13 * b2.toInt.toNat + i)).toInt < (y_234 : Int32).toInt) → ((y_232 : Int32).toInt ≤ (v_161 : Int32).toInt) → (∀ b : Int, ¬ (b2 : Int32).toInt = b → (b2 : Int32).toInt < (b22 : Int32).toInt → yCG (zgR (zrow b22 b23 b24 b28 b29 b30)) (zcR (zrow b22 b23 b24 b28 b29 b30)) (zvR (zrow b22 b23 b24 b28 b29 b30)) b (b2 : Int32).toInt.toNat (b5 : Int32).toInt b14 b15 b16 b17 b18 b19 b20 → yPL (zgR (zrow b22 b23 b24 b28 b29 b30)) (zcR (zrow b22 b23 b24 b28 b29 b30)) b (b2 : Int32).toInt.toNat 0 b21 → yFI (zgR (zrow b22 b23 b24 b28 b29 b30)) (zcR (zrow b22 b23 b24 b28 b29 b30)) (zvR (zrow b22 b23 b24 b28 b29 b30)) b (b2 : Int32).toInt.toNat (y_232 : Int32).toInt.toNat (y_234 : Int32).toInt y_239 y_240 y_241 y_242 y_235 y_236 y_237 y_238 (y_233 : Int32).toInt) → (12 : Int) - y_232.toInt < (k_231 : Int) → va_P G.1 classes [(b13, .inl (G.2 0, 260, .inl y_238)), (b1, .inr (2, [.int b22, .int b23, .int b24, .ref b25, .ref b26, .ref b27])), (b25, .inl (G.2 0, 20, .inl b28)), (b26, .inl (G.2 0, 240, .inl b29)), (b27, .inl (G.2 0, 240, .inl b30)), (b0, .inr (3, [.int b3, .int b4, .int y_234, .ref b6, .ref b7, .ref b8, .ref b9, .ref b10, .ref b11, .ref b12, .ref b13])), (b6, .inl (G.2 0, 241, .inl y_239)), (b7, .inl (G.2 0, 241, .inl y_240)), (b8, .inl (G.2 0, 241, .inl y_241)), (b9, .inl (G.2 0, 241, .inl y_242)), (b10, .inl (G.2 0, 241, .inl y_235)), (b11, .inl (G.2 0, 241, .inl y_236)), (b12, .inl (G.2 0, 2410, .inl y_237))] H → va_D A [(b13, .inl (G.2 0, 260, .inl y_238)), (b1, .inr (2, [.int b22, .int b23, .int b24, .ref b25, .ref b26, .ref b27])), (b25, .inl (G.2 0, 20, .inl b28)), (b26, .inl (G.2 0, 240, .inl b29)), (b27, .inl (G.2 0, 240, .inl b30)), (b0, .inr (3, [.int b3, .int b4, .int y_234, .ref b6, .ref b7, .ref b8, .ref b9, .ref b10, .ref b11, .ref b12, .ref b13])), (b6, .inl (G.2 0, 241, .inl y_239)), (b7, .inl (G.2 0, 241, .inl y_240)), (b8, .inl (G.2 0, 241, .inl y_241)), (b9, .inl (G.2 0, 241, .inl y_242)), (b10, .inl (G.2 0, 241, .inl y_235)), (b11, .inl (G.2 0, 241, .inl y_236)), (b12, .inl (G.2 0, 2410, .inl y_237))] → va_S A s.heap H locs → lv_has ls 7 [(5, .int y_232), (4, .int v_161), (3, .int y_233), (0, .ref b0), (1, .ref b1), (2, .int b2)] → W p l e m_s2_Tree_follow s m ([.ref b0, .ref b1, .int b2] : List Value).toArray below meth c H locs 0 0 (MQ below (zQ G (fun v w => ∃ (e0 : Int32), ∃ (e1 : Nat → Int32), ∃ (e2 : Nat → Int32), ∃ (e3 : Nat → Int32), ∃ (e4 : Nat → Int32), ∃ (e5 : Nat → Int32), ∃ (e6 : Nat → Int32), ∃ (e7 : Nat → Int32), ∃ (e8 : Nat → Int32), v = none ∧ w = [(b0, .inr (3, [.int b3, .int b4, .int e0, .ref b6, .ref b7, .ref b8, .ref b9, .ref b10, .ref b11, .ref b12, .ref b13])), (b6, .inl (G.2 0, 241, .inl e1)), (b7, .inl (G.2 0, 241, .inl e2)), (b8, .inl (G.2 0, 241, .inl e3)), (b9, .inl (G.2 0, 241, .inl e4)), (b10, .inl (G.2 0, 241, .inl e5)), (b11, .inl (G.2 0, 241, .inl e6)), (b12, .inl (G.2 0, 2410, .inl e7)), (b13, .inl (G.2 0, 260, .inl e8)), (b1, .inr (2, [.int b22, .int b23, .int b24, .ref b25, .ref b26, .ref b27])), (b25, .inl (G.2 0, 20, .inl b28)), (b26, .inl (G.2 0, 240, .inl b29)), (b27, .inl (G.2 0, 240, .inl b30))] ∧ (zI e0 0 241) ∧ (zR1 e1 0 240) ∧ (zR1 e2 0 9) ∧ (zR e7 (-1) 240) ∧ (zqa qP e8) ∧ (e0.toInt ≤ 12 * b2.toInt + 13) ∧ (zLo e7 (10 * (e0 : Int32).toInt) (e0 : Int32).toInt) ∧ (zTr (b2.toInt + 1) (b4 : Int32).toInt (e0 : Int32).toInt b28 e8) ∧ (∀ b : Int, ¬ (b2 : Int32).toInt = b → (b2 : Int32).toInt < (b22 : Int32).toInt → yCG (zgR (zrow b22 b23 b24 b28 b29 b30)) (zcR (zrow b22 b23 b24 b28 b29 b30)) (zvR (zrow b22 b23 b24 b28 b29 b30)) b (b2 : Int32).toInt.toNat (b5 : Int32).toInt b14 b15 b16 b17 b18 b19 b20 → yPL (zgR (zrow b22 b23 b24 b28 b29 b30)) (zcR (zrow b22 b23 b24 b28 b29 b30)) b (b2 : Int32).toInt.toNat 0 b21 → yCG (zgR (zrow b22 b23 b24 b28 b29 b30)) (zcR (zrow b22 b23 b24 b28 b29 b30)) (zvR (zrow b22 b23 b24 b28 b29 b30)) b ((b2 : Int32).toInt.toNat + 1) (e0 : Int32).toInt e1 e2 e3 e4 e5 e6 e7 ∧ yPL (zgR (zrow b22 b23 b24 b28 b29 b30)) (zcR (zrow b22 b23 b24 b28 b29 b30)) b ((b2 : Int32).toInt.toNat + 1) 0 e8)) A) ([.ref b0, .ref b1, .int b2] : List Value).toArray s m_s2_Tree_follow.cells m_s2_Tree_follow.slots A) (F0 m 47 ls []) by
      exact key 13 (0) (0) (1) (f_154) (f_155) (f_156) (f_163) (f_150) (f_151) (f_166) (f_153) _ _ _ (zI.wk (l' := 0) (h' := 12) zc_0 (by decide)) (zI.wk (l' := 0) (h' := 240) zc_0 (by decide)) (zI.wk (l' := 0) (h' := 241) zc_1 (by decide)) hf_156 hf_163 hf_150 hf_151 (by have _l0 := li_1; have _l2 := li_0; omega) (by have _l0 := li_1; omega) (by have _l0 := li_0; have _l1 := li_1; omega) hfx_157 (by have _l0 := li_0; have _l1 := li_1; have _l2 := li_13; have p9 := z_pl hv_162 (by decide); intro t i h1 h2 h3; rw [uf_163, z_at]; split; omega; have := htr t i h1 h2 h3; omega) (by have _l0 := li_0; have _l1 := li_1; have _l2 := li_13; have p9 := z_pl hv_162 (by decide); intro i hi; rw [uf_163, z_at]; split; omega; omega) (by have _l0 := li_0; omega) (fun bu h1 h2 h3 h4 => (by have _l := li_0; rw [show (0 : Int32).toInt.toNat = 0 by omega, li_0]; exact yFI_0 (T := 20) h3 (by omega) (yRw_g (yRw_row hb22 hb28 hb29) 20) (by omega) h4 (yRw_c (yRw_row hb22 hb28 hb29)) hfx_158 hfx_159 hfx_160 uf_166 (by decide) uf_163 (by have p9 := z_pl hv_162 (by decide); omega) li_0)) (zm_upi (zI.wk (l' := 0) (h' := 12) zc_0 (by decide)) (by decide)) hP hD hS (lv_sub hl [0, 1, 2, 3, 4, 5] rfl)
    intro k_231
    induction k_231 with
    | zero =>
      intro y_232 y_233 y_234 y_235 y_236 y_237 y_238 y_239 y_240 y_241 y_242 H locs ls hy_232 hy_233 hy_234 hy_237 hy_238 hy_239 hy_240 hli_243 hli_244 hli_245 hli_246 hli_247 hli_248 hli_249 hli_250 hmk_231 hP hD hS hl
      exact (zm_up0 hy_232 hmk_231).elim
    | succ k_231 ihk_231 =>
      intro y_232 y_233 y_234 y_235 y_236 y_237 y_238 y_239 y_240 y_241 y_242 H locs ls hy_232 hy_233 hy_234 hy_237 hy_238 hy_239 hy_240 hli_243 hli_244 hli_245 hli_246 hli_247 hli_248 hli_249 hli_250 hmk_231 hP hD hS hl
      refine lv_iload hx hb d_Tree_follow_47 (lv_at hl 0 rfl) ?_
      refine lv_iload hx hb d_Tree_follow_49 (lv_at hl 1 rfl) ?_
      refine lv_icmp_ge (tgt := 141) hx hb d_Tree_follow_51 (by decide) (fun hc_251 => ?_) (fun hc_251 => ?_)
      · have _nhc_251 := hc_251
        have ni_252 := (fa_le _ _).mp hc_251
        refine lv_aload_n hx hb d_Tree_follow_141 rfl (lv_at hl 3 rfl) ?_
        refine va_get (D := G.1) (ci := 3) (v := .ref b9) (C := R_Tree) (T := F_Tree) (N := 11) hx hb hts i_Tree hown hK hP 5 rfl rfl 6 (by decide) (hts _ q109) (fun _ h9 => h9) rfl d_Tree_follow_142 ?_
        refine lv_iload_n hx hb d_Tree_follow_145 rfl (lv_at hl 2 rfl) ?_
        refine lv_dup2_11 hx hb d_Tree_follow_146 rfl rfl ?_
        refine va_iald hx hb hK hP 9 0 rfl rfl (zI.inn hy_233 (by decide)) d_Tree_follow_147 ?_
        refine lv_topi (fun v_253 ev_253 => ?_)
        refine lv_iconst (v := 1) hx hb d_Tree_follow_148 (by decide) ?_
        refine lv_iadd hx hb d_Tree_follow_149 ?_
        refine lv_topi (fun v_254 ev_254 => ?_)
        refine va_iast hx hb hK hP hD hS 9 0 rfl rfl (zI.inn hy_233 (by decide)) d_Tree_follow_150 (fun H locs hP hD hS => ?_)
        obtain ⟨f_255, gf_255, uf_255, hP, hD⟩ := z_newFu 9 hP hD rfl
        have hP : va_P G.1 classes [(b13, .inl (G.2 0, 260, .inl y_238)), (b1, .inr (2, [.int b22, .int b23, .int b24, .ref b25, .ref b26, .ref b27])), (b25, .inl (G.2 0, 20, .inl b28)), (b26, .inl (G.2 0, 240, .inl b29)), (b27, .inl (G.2 0, 240, .inl b30)), (b0, .inr (3, [.int b3, .int b4, .int y_234, .ref b6, .ref b7, .ref b8, .ref b9, .ref b10, .ref b11, .ref b12, .ref b13])), (b6, .inl (G.2 0, 241, .inl y_239)), (b7, .inl (G.2 0, 241, .inl y_240)), (b8, .inl (G.2 0, 241, .inl y_241)), (b9, .inl (G.2 0, 241, .inl f_255)), (b10, .inl (G.2 0, 241, .inl y_235)), (b11, .inl (G.2 0, 241, .inl y_236)), (b12, .inl (G.2 0, 2410, .inl y_237))] H := hP
        have hD := z_tie hP hD rfl
        exact z_vret hx hb hr hlocks (hP.sub [5, 6, 7, 8, 9, 10, 11, 12, 0, 1, 2, 3, 4] rfl) (hD.sub [5, 6, 7, 8, 9, 10, 11, 12, 0, 1, 2, 3, 4] (by decide) rfl) hS (Nat.le_of_ble_eq_true rfl) (Nat.le_of_ble_eq_true rfl) d_Tree_follow_151 ⟨y_234, y_239, y_240, y_241, f_255, y_235, y_236, y_237, y_238, rfl, rfl, hy_234, hy_239, hy_240, hy_237, hy_238, (by omega), hli_246, (by intro t i h1 h2 h3; rcases Decidable.em ((t : Int) < b2.toInt) with h4 | h4; exact hli_247 t i h4 h2 h3; obtain rfl : t = b2.toInt.toNat := (by omega); exact hli_248 i (by rw [← z_plf hb2 (by decide), ← ev_161] at h3; omega)), (fun bu h1 h2 h3 h4 => yFI_e (hli_250 bu h1 h2 h3 h4) (by rw [zcR_row (by have a9 := (hb22).2; omega) (show (b2.toInt.toNat : Int) < b22.toInt by omega)]; have e9 := congrArg Int32.toInt ev_161; rw [z_plf hb2 (by decide)] at e9; have i9 := (Int.le_refl 0); omega) (by omega) (by omega) ev_253 ev_254 uf_255)⟩
      · have _nhc_251 := hc_251
        have ni_256 := (fa_lt _ _).mp (zi_nle hc_251)
        have hv_257 : zI y_232 0 11 := zI.lt_l hy_232 hv_161 (zi_nle hc_251) (by decide)
        have hv_258 : zI v_161 1 12 := zI.lt_r hy_232 hv_161 (zi_nle hc_251) (by decide)
        refine lv_aload_n hx hb d_Tree_follow_54 rfl (lv_at hl 3 rfl) ?_
        refine lv_iload_n hx hb d_Tree_follow_55 rfl (lv_at hl 2 rfl) ?_
        refine lv_aload_n hx hb d_Tree_follow_56 rfl (lv_at hl 4 rfl) ?_
        refine lv_iload_n hx hb d_Tree_follow_57 rfl (lv_at hl 5 rfl) ?_
        refine lv_iload hx hb d_Tree_follow_58 (lv_at hl 0 rfl) ?_
        refine z_callV (index := 63) (As := [.int b2, .int y_232]) (rest := [.int y_233, .ref b0]) (wr := [(b13, .inl (G.2 0, 260, .inl y_238)), (b25, .inl (G.2 0, 20, .inl b28)), (b27, .inl (G.2 0, 240, .inl b30)), (b0, .inr (3, [.int b3, .int b4, .int y_234, .ref b6, .ref b7, .ref b8, .ref b9, .ref b10, .ref b11, .ref b12, .ref b13])), (b6, .inl (G.2 0, 241, .inl y_239)), (b7, .inl (G.2 0, 241, .inl y_240)), (b8, .inl (G.2 0, 241, .inl y_241)), (b9, .inl (G.2 0, 241, .inl y_242)), (b10, .inl (G.2 0, 241, .inl y_235)), (b11, .inl (G.2 0, 241, .inl y_236)), (b12, .inl (G.2 0, 2410, .inl y_237))]) Z (s2_Traces_letterAt l G (b1) (b2) (y_232) (b22) (b23) (b24) (b25) (b26) (b27) (b29) hb2 hv_257 hb22 hb23 hb24 hb29) hl.1 q579 q580 q581 q3 q582 ⟨by decide, by decide, by show _ = some 2; decide +kernel⟩ ⟨Nat.le_of_ble_eq_true rfl, Nat.le_of_ble_eq_true rfl⟩ ⟨Nat.le_of_ble_eq_true rfl, Nat.le_of_ble_eq_true rfl⟩ rfl (Nat.le_of_ble_eq_true rfl) d_Tree_follow_60 hP hD hS hA 1 2 rfl rfl rfl [1, 3] [0, 2, 4, 5, 6, 7, 8, 9, 10, 11, 12] rfl rfl rfl rfl (by decide) (fun v w1 H locs hw_259 hP hD hS => ?_)
        obtain ⟨x_260, rfl, rfl, hx_260, hfx_261⟩ := hw_259
        have hP : va_P G.1 classes [(b13, .inl (G.2 0, 260, .inl y_238)), (b25, .inl (G.2 0, 20, .inl b28)), (b27, .inl (G.2 0, 240, .inl b30)), (b0, .inr (3, [.int b3, .int b4, .int y_234, .ref b6, .ref b7, .ref b8, .ref b9, .ref b10, .ref b11, .ref b12, .ref b13])), (b6, .inl (G.2 0, 241, .inl y_239)), (b7, .inl (G.2 0, 241, .inl y_240)), (b8, .inl (G.2 0, 241, .inl y_241)), (b9, .inl (G.2 0, 241, .inl y_242)), (b10, .inl (G.2 0, 241, .inl y_235)), (b11, .inl (G.2 0, 241, .inl y_236)), (b12, .inl (G.2 0, 2410, .inl y_237)), (b1, .inr (2, [.int b22, .int b23, .int b24, .ref b25, .ref b26, .ref b27])), (b26, .inl (G.2 0, 240, .inl b29))] H := hP
        have hD := z_tie hP hD rfl
        refine W.widen (k := 0) (n := 0) (Nat.le_of_ble_eq_true rfl) (Nat.le_of_ble_eq_true rfl) ?_
        refine z_callV (index := 66) (As := [.int y_233, .int x_260]) (rest := []) (wr := [(b13, .inl (G.2 0, 260, .inl y_238)), (b25, .inl (G.2 0, 20, .inl b28)), (b27, .inl (G.2 0, 240, .inl b30)), (b1, .inr (2, [.int b22, .int b23, .int b24, .ref b25, .ref b26, .ref b27])), (b26, .inl (G.2 0, 240, .inl b29))]) Z (s2_Tree_stepFrom l G (b0) (y_233) (x_260) (b3) (b4) (y_234) (b6) (b7) (b8) (b9) (b10) (b11) (b12) (b13) (y_239) (y_240) (y_241) (y_242) (y_235) (y_236) (y_237) hy_233 hx_260 hb3 hy_234 hy_239 hy_240 hy_237 (by omega) hli_246 (by omega)) hl.1 q583 q585 qs5 q4 q586 ⟨by decide, by decide, by show _ = some 2; decide +kernel⟩ ⟨Nat.le_of_ble_eq_true rfl, Nat.le_of_ble_eq_true rfl⟩ ⟨Nat.le_of_ble_eq_true rfl, Nat.le_of_ble_eq_true rfl⟩ rfl (Nat.le_of_ble_eq_true rfl) d_Tree_follow_63 hP hD hS hA 3 3 rfl rfl rfl [3, 4, 5, 6, 7, 8, 9, 10] [0, 1, 2, 11, 12] rfl rfl rfl rfl (by decide) (fun v w1 H locs hw_262 hP hD hS => ?_)
        refine Exists.elim hw_262 (fun x_263 hz_277 => Exists.elim hz_277 (fun x_264 hz_278 => Exists.elim hz_278 (fun f_265 hz_279 => Exists.elim hz_279 (fun f_266 hz_280 => Exists.elim hz_280 (fun f_267 hz_281 => Exists.elim hz_281 (fun f_268 hz_282 => Exists.elim hz_282 (fun f_269 hz_283 => Exists.elim hz_283 (fun f_270 hz_284 => Exists.elim hz_284 (fun f_271 hz_285 => ?_)))))))))
        clear hw_262 hz_277 hz_278 hz_279 hz_280 hz_281 hz_282 hz_283 hz_284
        obtain ⟨rfl, rfl, hx_263, hx_264, hf_265, hf_266, hf_271, hfx_272, hfx_273, hfx_274, hfx_275, hfx_276⟩ := hz_285
        have hP : va_P G.1 classes [(b13, .inl (G.2 0, 260, .inl y_238)), (b25, .inl (G.2 0, 20, .inl b28)), (b27, .inl (G.2 0, 240, .inl b30)), (b1, .inr (2, [.int b22, .int b23, .int b24, .ref b25, .ref b26, .ref b27])), (b26, .inl (G.2 0, 240, .inl b29)), (b0, .inr (3, [.int b3, .int b4, .int x_264, .ref b6, .ref b7, .ref b8, .ref b9, .ref b10, .ref b11, .ref b12, .ref b13])), (b6, .inl (G.2 0, 241, .inl f_265)), (b7, .inl (G.2 0, 241, .inl f_266)), (b8, .inl (G.2 0, 241, .inl f_267)), (b9, .inl (G.2 0, 241, .inl f_268)), (b10, .inl (G.2 0, 241, .inl f_269)), (b11, .inl (G.2 0, 241, .inl f_270)), (b12, .inl (G.2 0, 2410, .inl f_271))] H := hP
        have hD := z_tie hP hD rfl
        refine W.widen (k := 0) (n := 0) (Nat.le_of_ble_eq_true rfl) (Nat.le_of_ble_eq_true rfl) ?_
        refine lv_istore_n (lv' := [(3, .int x_263), (5, .int y_232), (4, .int v_161), (0, .ref b0), (1, .ref b1), (2, .int b2)]) hx hb d_Tree_follow_66 rfl hl (by decide) rfl (fun ls hl => ?_)
        refine lv_aload_n hx hb d_Tree_follow_67 rfl (lv_at hl 3 rfl) ?_
        refine va_get (D := G.1) (ci := 3) (v := .ref b13) (C := R_Tree) (T := F_Tree) (N := 11) hx hb hts i_Tree hown hK hP 5 rfl rfl 10 (by decide) (hts _ q116) (fun _ h9 => h9) rfl d_Tree_follow_68 ?_
        refine lv_iload_n hx hb d_Tree_follow_71 rfl (lv_at hl 5 rfl) ?_
        refine lv_bipush (v := 13) hx hb d_Tree_follow_72 (by decide) ?_
        refine lv_imul hx hb d_Tree_follow_74 ?_
        refine lv_topi (fun v_286 ev_286 => ?_)
        obtain rfl : v_162 = v_286 := ev_162.trans ev_286.symm
        refine lv_iload hx hb d_Tree_follow_75 (lv_at hl 1 rfl) ?_
        refine lv_iadd hx hb d_Tree_follow_77 ?_
        refine lv_topi (fun v_287 ev_287 => ?_)
        obtain ⟨qv_287, hv_287⟩ := zI_add (l := 0) (h := 258) hv_162 hv_257 ev_287 (by decide)
        refine lv_iconst (v := 1) hx hb d_Tree_follow_78 (by decide) ?_
        refine lv_iadd hx hb d_Tree_follow_79 ?_
        refine lv_topi (fun v_288 ev_288 => ?_)
        obtain ⟨qv_288, hv_288⟩ := zI_add (l := 1) (h := 259) hv_287 zc_1 ev_288 (by decide)
        rw [li_1] at qv_288
        refine lv_iload_n hx hb d_Tree_follow_80 rfl (lv_at hl 0 rfl) ?_
        refine va_iast hx hb hK hP hD hS 0 0 rfl rfl (zI.inn hv_288 (by decide)) d_Tree_follow_81 (fun H locs hP hD hS => ?_)
        obtain ⟨f_289, hf_289, gf_289, uf_289, hP, hD⟩ := z_newq_ (Q := qP) 0 hP hD rfl hy_238 (qP_v hv_288 (by decide) ⟨⟨by have _w := hx_263; have _x := hv_288; omega, by have _w := hx_263; have _x := hv_288; omega⟩, by have _w := hx_263; have _x := hv_288; omega⟩)
        have hP : va_P G.1 classes [(b13, .inl (G.2 0, 260, .inl f_289)), (b25, .inl (G.2 0, 20, .inl b28)), (b27, .inl (G.2 0, 240, .inl b30)), (b1, .inr (2, [.int b22, .int b23, .int b24, .ref b25, .ref b26, .ref b27])), (b26, .inl (G.2 0, 240, .inl b29)), (b0, .inr (3, [.int b3, .int b4, .int x_264, .ref b6, .ref b7, .ref b8, .ref b9, .ref b10, .ref b11, .ref b12, .ref b13])), (b6, .inl (G.2 0, 241, .inl f_265)), (b7, .inl (G.2 0, 241, .inl f_266)), (b8, .inl (G.2 0, 241, .inl f_267)), (b9, .inl (G.2 0, 241, .inl f_268)), (b10, .inl (G.2 0, 241, .inl f_269)), (b11, .inl (G.2 0, 241, .inl f_270)), (b12, .inl (G.2 0, 2410, .inl f_271))] H := hP
        have hD := z_tie hP hD rfl
        refine lv_aload_n hx hb d_Tree_follow_82 rfl (lv_at hl 3 rfl) ?_
        refine va_get (D := G.1) (ci := 3) (v := .ref b8) (C := R_Tree) (T := F_Tree) (N := 11) hx hb hts i_Tree hown hK hP 5 rfl rfl 5 (by decide) (hts _ q107) (fun _ h9 => h9) rfl d_Tree_follow_83 ?_
        refine lv_iload_n hx hb d_Tree_follow_86 rfl (lv_at hl 0 rfl) ?_
        refine lv_dup2_11 hx hb d_Tree_follow_87 rfl rfl ?_
        refine va_iald hx hb hK hP 8 0 rfl rfl (zI.inn hx_263 (by decide)) d_Tree_follow_88 ?_
        refine lv_topi (fun v_290 ev_290 => ?_)
        refine lv_iconst (v := 1) hx hb d_Tree_follow_89 (by decide) ?_
        refine lv_iadd hx hb d_Tree_follow_90 ?_
        refine lv_topi (fun v_291 ev_291 => ?_)
        refine va_iast hx hb hK hP hD hS 8 0 rfl rfl (zI.inn hx_263 (by decide)) d_Tree_follow_91 (fun H locs hP hD hS => ?_)
        obtain ⟨f_292, gf_292, uf_292, hP, hD⟩ := z_newFu 8 hP hD rfl
        have hP : va_P G.1 classes [(b13, .inl (G.2 0, 260, .inl f_289)), (b25, .inl (G.2 0, 20, .inl b28)), (b27, .inl (G.2 0, 240, .inl b30)), (b1, .inr (2, [.int b22, .int b23, .int b24, .ref b25, .ref b26, .ref b27])), (b26, .inl (G.2 0, 240, .inl b29)), (b0, .inr (3, [.int b3, .int b4, .int x_264, .ref b6, .ref b7, .ref b8, .ref b9, .ref b10, .ref b11, .ref b12, .ref b13])), (b6, .inl (G.2 0, 241, .inl f_265)), (b7, .inl (G.2 0, 241, .inl f_266)), (b8, .inl (G.2 0, 241, .inl f_292)), (b9, .inl (G.2 0, 241, .inl f_268)), (b10, .inl (G.2 0, 241, .inl f_269)), (b11, .inl (G.2 0, 241, .inl f_270)), (b12, .inl (G.2 0, 2410, .inl f_271))] H := hP
        have hD := z_tie hP hD rfl
        refine lv_aload_n hx hb d_Tree_follow_92 rfl (lv_at hl 4 rfl) ?_
        refine lv_iload_n hx hb d_Tree_follow_93 rfl (lv_at hl 5 rfl) ?_
        refine lv_iload hx hb d_Tree_follow_94 (lv_at hl 1 rfl) ?_
        refine z_callV (index := 69) (As := [.int b2, .int y_232]) (rest := []) (wr := [(b13, .inl (G.2 0, 260, .inl f_289)), (b25, .inl (G.2 0, 20, .inl b28)), (b26, .inl (G.2 0, 240, .inl b29)), (b0, .inr (3, [.int b3, .int b4, .int x_264, .ref b6, .ref b7, .ref b8, .ref b9, .ref b10, .ref b11, .ref b12, .ref b13])), (b6, .inl (G.2 0, 241, .inl f_265)), (b7, .inl (G.2 0, 241, .inl f_266)), (b8, .inl (G.2 0, 241, .inl f_292)), (b9, .inl (G.2 0, 241, .inl f_268)), (b10, .inl (G.2 0, 241, .inl f_269)), (b11, .inl (G.2 0, 241, .inl f_270)), (b12, .inl (G.2 0, 2410, .inl f_271))]) Z (s2_Traces_valueAt l G (b1) (b2) (y_232) (b22) (b23) (b24) (b25) (b26) (b27) (b30) hb2 hv_257 hb22 hb23 hb24) hl.1 q587 q588 q589 q3 q590 ⟨by decide, by decide, by show _ = some 2; decide +kernel⟩ ⟨Nat.le_of_ble_eq_true rfl, Nat.le_of_ble_eq_true rfl⟩ ⟨Nat.le_of_ble_eq_true rfl, Nat.le_of_ble_eq_true rfl⟩ rfl (Nat.le_of_ble_eq_true rfl) d_Tree_follow_96 hP hD hS hA 3 2 rfl rfl rfl [3, 2] [0, 1, 4, 5, 6, 7, 8, 9, 10, 11, 12] rfl rfl rfl rfl (by decide) (fun v w1 H locs hw_293 hP hD hS => ?_)
        obtain ⟨x_294, rfl, rfl, hfx_295, hfx_296⟩ := hw_293
        have hP : va_P G.1 classes [(b13, .inl (G.2 0, 260, .inl f_289)), (b25, .inl (G.2 0, 20, .inl b28)), (b26, .inl (G.2 0, 240, .inl b29)), (b0, .inr (3, [.int b3, .int b4, .int x_264, .ref b6, .ref b7, .ref b8, .ref b9, .ref b10, .ref b11, .ref b12, .ref b13])), (b6, .inl (G.2 0, 241, .inl f_265)), (b7, .inl (G.2 0, 241, .inl f_266)), (b8, .inl (G.2 0, 241, .inl f_292)), (b9, .inl (G.2 0, 241, .inl f_268)), (b10, .inl (G.2 0, 241, .inl f_269)), (b11, .inl (G.2 0, 241, .inl f_270)), (b12, .inl (G.2 0, 2410, .inl f_271)), (b1, .inr (2, [.int b22, .int b23, .int b24, .ref b25, .ref b26, .ref b27])), (b27, .inl (G.2 0, 240, .inl b30))] H := hP
        have hD := z_tie hP hD rfl
        refine W.widen (k := 0) (n := 0) (Nat.le_of_ble_eq_true rfl) (Nat.le_of_ble_eq_true rfl) ?_
        refine lv_istore (lv' := [(6, .int x_294), (3, .int x_263), (5, .int y_232), (4, .int v_161), (0, .ref b0), (1, .ref b1), (2, .int b2)]) hx hb d_Tree_follow_99 hl (by decide) rfl (fun ls hl => ?_)
        refine lv_aload_n hx hb d_Tree_follow_101 rfl (lv_at hl 4 rfl) ?_
        refine va_get (D := G.1) (ci := 3) (v := .ref b10) (C := R_Tree) (T := F_Tree) (N := 11) hx hb hts i_Tree hown hK hP 3 rfl rfl 7 (by decide) (hts _ q111) (fun _ h9 => h9) rfl d_Tree_follow_102 ?_
        refine lv_iload_n hx hb d_Tree_follow_105 rfl (lv_at hl 1 rfl) ?_
        refine lv_aload_n hx hb d_Tree_follow_106 rfl (lv_at hl 4 rfl) ?_
        refine va_get (D := G.1) (ci := 3) (v := .ref b10) (C := R_Tree) (T := F_Tree) (N := 11) hx hb hts i_Tree hown hK hP 3 rfl rfl 7 (by decide) (hts _ q111) (fun _ h9 => h9) rfl d_Tree_follow_107 ?_
        refine lv_iload_n hx hb d_Tree_follow_110 rfl (lv_at hl 1 rfl) ?_
        refine va_iald hx hb hK hP 8 0 rfl rfl (zI.inn hx_263 (by decide)) d_Tree_follow_111 ?_
        refine lv_topi (fun v_297 ev_297 => ?_)
        refine lv_iload hx hb d_Tree_follow_112 (lv_at hl 0 rfl) ?_
        refine va_mmin hx hb (hml.trans hl.1.symm) hown (hts _ q591) (hts _ q592) (hts _ q20) (hts _ q593) (Nat.le_of_ble_eq_true rfl) (Nat.le_of_ble_eq_true rfl) (Nat.le_of_ble_eq_true rfl) (Nat.le_of_ble_eq_true rfl) d_Tree_follow_114 ?_
        refine lv_topi (fun v_298 ev_298 => ?_)
        have hv_298 := zI_min (l := (-2147483648)) (h := 2147483647) (zI_all v_297) (zI_all x_294) ev_298 (by decide)
        refine va_iast hx hb hK hP hD hS 8 0 rfl rfl (zI.inn hx_263 (by decide)) d_Tree_follow_117 (fun H locs hP hD hS => ?_)
        obtain ⟨f_299, gf_299, uf_299, hP, hD⟩ := z_newFu 8 hP hD rfl
        have hP : va_P G.1 classes [(b13, .inl (G.2 0, 260, .inl f_289)), (b25, .inl (G.2 0, 20, .inl b28)), (b26, .inl (G.2 0, 240, .inl b29)), (b0, .inr (3, [.int b3, .int b4, .int x_264, .ref b6, .ref b7, .ref b8, .ref b9, .ref b10, .ref b11, .ref b12, .ref b13])), (b6, .inl (G.2 0, 241, .inl f_265)), (b7, .inl (G.2 0, 241, .inl f_266)), (b8, .inl (G.2 0, 241, .inl f_292)), (b9, .inl (G.2 0, 241, .inl f_268)), (b10, .inl (G.2 0, 241, .inl f_299)), (b11, .inl (G.2 0, 241, .inl f_270)), (b12, .inl (G.2 0, 2410, .inl f_271)), (b1, .inr (2, [.int b22, .int b23, .int b24, .ref b25, .ref b26, .ref b27])), (b27, .inl (G.2 0, 240, .inl b30))] H := hP
        have hD := z_tie hP hD rfl
        refine lv_aload_n hx hb d_Tree_follow_118 rfl (lv_at hl 4 rfl) ?_
        refine va_get (D := G.1) (ci := 3) (v := .ref b11) (C := R_Tree) (T := F_Tree) (N := 11) hx hb hts i_Tree hown hK hP 3 rfl rfl 8 (by decide) (hts _ q113) (fun _ h9 => h9) rfl d_Tree_follow_119 ?_
        refine lv_iload_n hx hb d_Tree_follow_122 rfl (lv_at hl 1 rfl) ?_
        refine lv_aload_n hx hb d_Tree_follow_123 rfl (lv_at hl 4 rfl) ?_
        refine va_get (D := G.1) (ci := 3) (v := .ref b11) (C := R_Tree) (T := F_Tree) (N := 11) hx hb hts i_Tree hown hK hP 3 rfl rfl 8 (by decide) (hts _ q113) (fun _ h9 => h9) rfl d_Tree_follow_124 ?_
        refine lv_iload_n hx hb d_Tree_follow_127 rfl (lv_at hl 1 rfl) ?_
        refine va_iald hx hb hK hP 9 0 rfl rfl (zI.inn hx_263 (by decide)) d_Tree_follow_128 ?_
        refine lv_topi (fun v_300 ev_300 => ?_)
        refine lv_iload hx hb d_Tree_follow_129 (lv_at hl 0 rfl) ?_
        refine va_mmax hx hb (hml.trans hl.1.symm) hown (hts _ q594) (hts _ q595) (hts _ q20) (hts _ q596) (Nat.le_of_ble_eq_true rfl) (Nat.le_of_ble_eq_true rfl) (Nat.le_of_ble_eq_true rfl) (Nat.le_of_ble_eq_true rfl) d_Tree_follow_131 ?_
        refine lv_topi (fun v_301 ev_301 => ?_)
        have hv_301 := zI_max (l := (-2147483648)) (h := 2147483647) (zI_all v_300) (zI_all x_294) ev_301 (by decide)
        refine va_iast hx hb hK hP hD hS 9 0 rfl rfl (zI.inn hx_263 (by decide)) d_Tree_follow_134 (fun H locs hP hD hS => ?_)
        obtain ⟨f_302, gf_302, uf_302, hP, hD⟩ := z_newFu 9 hP hD rfl
        have hP : va_P G.1 classes [(b13, .inl (G.2 0, 260, .inl f_289)), (b25, .inl (G.2 0, 20, .inl b28)), (b26, .inl (G.2 0, 240, .inl b29)), (b0, .inr (3, [.int b3, .int b4, .int x_264, .ref b6, .ref b7, .ref b8, .ref b9, .ref b10, .ref b11, .ref b12, .ref b13])), (b6, .inl (G.2 0, 241, .inl f_265)), (b7, .inl (G.2 0, 241, .inl f_266)), (b8, .inl (G.2 0, 241, .inl f_292)), (b9, .inl (G.2 0, 241, .inl f_268)), (b10, .inl (G.2 0, 241, .inl f_299)), (b11, .inl (G.2 0, 241, .inl f_302)), (b12, .inl (G.2 0, 2410, .inl f_271)), (b1, .inr (2, [.int b22, .int b23, .int b24, .ref b25, .ref b26, .ref b27])), (b27, .inl (G.2 0, 240, .inl b30))] H := hP
        have hD := z_tie hP hD rfl
        obtain ⟨v_303, ev_303⟩ : ∃ z : Int32, z = y_232 + 1 := ⟨_, rfl⟩
        obtain ⟨qv_303, hv_303⟩ := zI_add (l := 1) (h := 12) hv_257 zc_1 ev_303 (by decide)
        rw [li_1] at qv_303
        refine lv_iinc (v := v_303) (lv' := [(5, .int v_303), (6, .int x_294), (3, .int x_263), (4, .int v_161), (0, .ref b0), (1, .ref b1), (2, .int b2)]) hx hb d_Tree_follow_135 hl (k := 2) rfl (by rw [ev_303]; rfl) (by decide) rfl (fun ls hl => ?_)
        refine lv_goto (tgt := 47) hx hb d_Tree_follow_138 (by decide) ?_
        exact ihk_231 (v_303) (x_263) (x_264) (f_299) (f_302) (f_271) (f_289) (f_265) (f_266) (f_292) (f_268) _ _ _ (zI.wk (l' := 0) (h' := 12) hv_303 (by decide)) hx_263 hx_264 hf_271 hf_289 hf_265 hf_266 (by omega) (by omega) (by omega) hfx_274 (by have _l0 := li_0; have _l1 := li_1; have _l2 := li_13; have p9 := z_pl hv_288 (by decide); intro t i h1 h2 h3; rw [uf_289, z_at]; split; omega; have := hli_247 t i h1 h2 h3; omega) (by have _l0 := li_0; have _l1 := li_1; have _l2 := li_13; have p9 := z_pl hv_288 (by decide); intro i hi; rw [uf_289, z_at]; split; omega; have := hli_248 i (by omega); omega) (by omega) (fun bu h1 h2 h3 h4 => by rw [show v_303.toInt.toNat = y_232.toInt.toNat + 1 by omega]; exact yFI_s (T := 20) (hli_250 bu h1 h2 h3 h4) (yRw_g (yRw_row hb22 hb28 hb29) 20) (yRw_c (yRw_row hb22 hb28 hb29)) (by omega) (by rw [zcR_row (by have a9 := (hb22).2; omega) (show (b2.toInt.toNat : Int) < b22.toInt by omega)]; have e9 := congrArg Int32.toInt ev_161; rw [z_plf hb2 (by decide)] at e9; omega) (by have g9 := zgR_row (d := b23) (mg := b24) (F := b29) (V := b30) (by have a9 := (hb22).2; omega) (show (b2.toInt.toNat : Int) < b22.toInt by omega) (show (y_232.toInt.toNat : Int) < (b28 b2.toInt.toNat).toInt by have e9 := congrArg Int32.toInt ev_161; rw [z_plf hb2 (by decide)] at e9; omega) (by omega); have f9 := hfx_261; rw [show 0 + (12 * b2.toInt.toNat + y_232.toInt.toNat) = 12 * b2.toInt.toNat + y_232.toInt.toNat by omega] at f9; rw [g9, ← f9]; omega) (by omega) hfx_276 uf_289 (by have p9 := z_pl hv_288 (by decide); omega) (by have g9 := zvR_row (d := b23) (mg := b24) (F := b29) (V := b30) (by have a9 := (hb22).2; omega) (show (b2.toInt.toNat : Int) < b22.toInt by omega) (show (y_232.toInt.toNat : Int) < (b28 b2.toInt.toNat).toInt by have e9 := congrArg Int32.toInt ev_161; rw [z_plf hb2 (by decide)] at e9; omega) (by omega); have f9 := hfx_295; rw [show 0 + (12 * b2.toInt.toNat + y_232.toInt.toNat) = 12 * b2.toInt.toNat + y_232.toInt.toNat by omega] at f9; rw [g9, ← f9]) ev_290 ev_291 uf_292 ev_297 ev_298 uf_299 ev_300 ev_301 uf_302) (zm_up qv_303 hmk_231 (by decide)) (hP.sub [0, 11, 1, 2, 12, 3, 4, 5, 6, 7, 8, 9, 10] rfl) (hD.sub [0, 11, 1, 2, 12, 3, 4, 5, 6, 7, 8, 9, 10] (by decide) rfl) hS (lv_sub hl [0, 3, 2, 4, 5, 6] rfl)
abbrev m_s2_Tree_grow : Room := { frames := 3, cells := 0, slots := 0, locals := 73 }
set_option maxHeartbeats 4000000 in
set_option maxRecDepth 100000 in
theorem s2_Tree_grow (l : Launch) (G : zG) (b0 : Nat) (b1 : Nat) (b2 : Int32) (b3 : Int32) (b4 : Int32) (b5 : Int32) (b6 : Nat) (b7 : Nat) (b8 : Nat) (b9 : Nat) (b10 : Nat) (b11 : Nat) (b12 : Nat) (b13 : Nat) (b14 : Nat → Int32) (b15 : Nat → Int32) (b16 : Nat → Int32) (b17 : Nat → Int32) (b18 : Nat → Int32) (b19 : Nat → Int32) (b20 : Nat → Int32) (b21 : Nat → Int32) (b22 : Int32) (b23 : Int32) (b24 : Int32) (b25 : Nat) (b26 : Nat) (b27 : Nat) (b28 : Nat → Int32) (b29 : Nat → Int32) (b30 : Nat → Int32) (hb2 : zI b2 (-1) 19) (hb3 : zI b3 0 1) (hb5 : zI b5 0 241) (hb22 : zI b22 0 20) (hb23 : zI b23 0 3) (hb24 : zI b24 0 20) (hb14 : zR1 b14 0 240) (hb15 : zR1 b15 0 9) (hb20 : zR b20 (-1) 240) (hb21 : zqa qP b21) (hb28 : zR b28 0 12) (hb29 : zR b29 0 9) : zM l G y_Tree_grow prog_11_method_3_code 4 (Option.none : Option Jvm.ClassFile.FieldType) m_s2_Tree_grow [.ref b0, .ref b1, .int b2] [(b0, .inr (3, [.int b3, .int b4, .int b5, .ref b6, .ref b7, .ref b8, .ref b9, .ref b10, .ref b11, .ref b12, .ref b13])), (b6, .inl (G.2 0, 241, .inl b14)), (b7, .inl (G.2 0, 241, .inl b15)), (b8, .inl (G.2 0, 241, .inl b16)), (b9, .inl (G.2 0, 241, .inl b17)), (b10, .inl (G.2 0, 241, .inl b18)), (b11, .inl (G.2 0, 241, .inl b19)), (b12, .inl (G.2 0, 2410, .inl b20)), (b13, .inl (G.2 0, 260, .inl b21)), (b1, .inr (2, [.int b22, .int b23, .int b24, .ref b25, .ref b26, .ref b27])), (b25, .inl (G.2 0, 20, .inl b28)), (b26, .inl (G.2 0, 240, .inl b29)), (b27, .inl (G.2 0, 240, .inl b30))] (fun v w => ∃ (e0 : Int32), ∃ (e1 : Nat → Int32), ∃ (e2 : Nat → Int32), ∃ (e3 : Nat → Int32), ∃ (e4 : Nat → Int32), ∃ (e5 : Nat → Int32), ∃ (e6 : Nat → Int32), ∃ (e7 : Nat → Int32), ∃ (e8 : Nat → Int32), v = none ∧ w = [(b0, .inr (3, [.int 1, .int b2, .int e0, .ref b6, .ref b7, .ref b8, .ref b9, .ref b10, .ref b11, .ref b12, .ref b13])), (b6, .inl (G.2 0, 241, .inl e1)), (b7, .inl (G.2 0, 241, .inl e2)), (b8, .inl (G.2 0, 241, .inl e3)), (b9, .inl (G.2 0, 241, .inl e4)), (b10, .inl (G.2 0, 241, .inl e5)), (b11, .inl (G.2 0, 241, .inl e6)), (b12, .inl (G.2 0, 2410, .inl e7)), (b13, .inl (G.2 0, 260, .inl e8)), (b1, .inr (2, [.int b22, .int b23, .int b24, .ref b25, .ref b26, .ref b27])), (b25, .inl (G.2 0, 20, .inl b28)), (b26, .inl (G.2 0, 240, .inl b29)), (b27, .inl (G.2 0, 240, .inl b30))] ∧ (zI e0 0 241) ∧ (zR1 e1 0 240) ∧ (zR1 e2 0 9) ∧ (zR e7 (-1) 240) ∧ (zqa qP e8) ∧ (zTr (b22 : Int32).toInt (b2 : Int32).toInt (e0 : Int32).toInt b28 e8) ∧ ((b2 : Int32) = b2) ∧ (yCG (zgR (zrow b22 b23 b24 b28 b29 b30)) (zcR (zrow b22 b23 b24 b28 b29 b30)) (zvR (zrow b22 b23 b24 b28 b29 b30)) (b2 : Int32).toInt (b22 : Int32).toInt.toNat (e0 : Int32).toInt e1 e2 e3 e4 e5 e6 e7 ∧ yPL (zgR (zrow b22 b23 b24 b28 b29 b30)) (zcR (zrow b22 b23 b24 b28 b29 b30)) (b2 : Int32).toInt (b22 : Int32).toInt.toNat 0 e8)) := by
  refine z_start (by decide +kernel) (Nat.le_of_ble_eq_true rfl) ?_
  intro p e s m below meth c A Z hr hnm hA hP hD hS ls hl
  have Z : zC p s m _ meth c prog_11_method_3_code 4 "TraceMachines$Tree" G := Z
  obtain ⟨hx, hb, hml, hown, hts, hK, hN, hlocks⟩ := id Z
  have hl : lv_has ls 4 [(0, .ref b0), (1, .ref b1), (2, .int b2)] := hl
  refine lv_aload_n hx hb d_Tree_grow_0 rfl (lv_at hl 0 rfl) ?_
  refine lv_iconst (v := 1) hx hb d_Tree_grow_1 (by decide) ?_
  refine va_put (D := G.1) (ci := 3) (v := .int 1) (ty := .boolean) (C := R_Tree) (T := F_Tree) (N := 11) hx hb hts i_Tree t_Tree t_Tree_ok n_Tree hown hK hP hD hS 0 rfl rfl 0 (by decide) (hts _ q95) (fun _ h9 => h9) rfl (by decide +kernel) rfl rfl (Nat.le_of_ble_eq_true rfl) d_Tree_grow_2 (fun H locs hP hD hS => ?_)
  have hP : va_P G.1 classes [(b0, .inr (3, [.int 1, .int b4, .int b5, .ref b6, .ref b7, .ref b8, .ref b9, .ref b10, .ref b11, .ref b12, .ref b13])), (b6, .inl (G.2 0, 241, .inl b14)), (b7, .inl (G.2 0, 241, .inl b15)), (b8, .inl (G.2 0, 241, .inl b16)), (b9, .inl (G.2 0, 241, .inl b17)), (b10, .inl (G.2 0, 241, .inl b18)), (b11, .inl (G.2 0, 241, .inl b19)), (b12, .inl (G.2 0, 2410, .inl b20)), (b13, .inl (G.2 0, 260, .inl b21)), (b1, .inr (2, [.int b22, .int b23, .int b24, .ref b25, .ref b26, .ref b27])), (b25, .inl (G.2 0, 20, .inl b28)), (b26, .inl (G.2 0, 240, .inl b29)), (b27, .inl (G.2 0, 240, .inl b30))] H := hP
  have hD := z_tie hP hD rfl
  refine lv_aload_n hx hb d_Tree_grow_5 rfl (lv_at hl 0 rfl) ?_
  refine lv_iload_n hx hb d_Tree_grow_6 rfl (lv_at hl 2 rfl) ?_
  refine va_put (D := G.1) (ci := 3) (v := .int b2) (ty := .int) (C := R_Tree) (T := F_Tree) (N := 11) hx hb hts i_Tree t_Tree t_Tree_ok n_Tree hown hK hP hD hS 0 rfl rfl 1 (by decide) (hts _ q98) (fun _ h9 => h9) rfl (by decide +kernel) rfl rfl (Nat.le_of_ble_eq_true rfl) d_Tree_grow_7 (fun H locs hP hD hS => ?_)
  have hP : va_P G.1 classes [(b0, .inr (3, [.int 1, .int b2, .int b5, .ref b6, .ref b7, .ref b8, .ref b9, .ref b10, .ref b11, .ref b12, .ref b13])), (b6, .inl (G.2 0, 241, .inl b14)), (b7, .inl (G.2 0, 241, .inl b15)), (b8, .inl (G.2 0, 241, .inl b16)), (b9, .inl (G.2 0, 241, .inl b17)), (b10, .inl (G.2 0, 241, .inl b18)), (b11, .inl (G.2 0, 241, .inl b19)), (b12, .inl (G.2 0, 2410, .inl b20)), (b13, .inl (G.2 0, 260, .inl b21)), (b1, .inr (2, [.int b22, .int b23, .int b24, .ref b25, .ref b26, .ref b27])), (b25, .inl (G.2 0, 20, .inl b28)), (b26, .inl (G.2 0, 240, .inl b29)), (b27, .inl (G.2 0, 240, .inl b30))] H := hP
  have hD := z_tie hP hD rfl
  refine lv_aload_n hx hb d_Tree_grow_10 rfl (lv_at hl 0 rfl) ?_
  refine lv_iconst (v := 0) hx hb d_Tree_grow_11 (by decide) ?_
  refine va_put (D := G.1) (ci := 3) (v := .int 0) (ty := .int) (C := R_Tree) (T := F_Tree) (N := 11) hx hb hts i_Tree t_Tree t_Tree_ok n_Tree hown hK hP hD hS 0 rfl rfl 2 (by decide) (hts _ q100) (fun _ h9 => h9) rfl (by decide +kernel) rfl rfl (Nat.le_of_ble_eq_true rfl) d_Tree_grow_12 (fun H locs hP hD hS => ?_)
  have hP : va_P G.1 classes [(b0, .inr (3, [.int 1, .int b2, .int 0, .ref b6, .ref b7, .ref b8, .ref b9, .ref b10, .ref b11, .ref b12, .ref b13])), (b6, .inl (G.2 0, 241, .inl b14)), (b7, .inl (G.2 0, 241, .inl b15)), (b8, .inl (G.2 0, 241, .inl b16)), (b9, .inl (G.2 0, 241, .inl b17)), (b10, .inl (G.2 0, 241, .inl b18)), (b11, .inl (G.2 0, 241, .inl b19)), (b12, .inl (G.2 0, 2410, .inl b20)), (b13, .inl (G.2 0, 260, .inl b21)), (b1, .inr (2, [.int b22, .int b23, .int b24, .ref b25, .ref b26, .ref b27])), (b25, .inl (G.2 0, 20, .inl b28)), (b26, .inl (G.2 0, 240, .inl b29)), (b27, .inl (G.2 0, 240, .inl b30))] H := hP
  have hD := z_tie hP hD rfl
  refine lv_iconst (v := 0) hx hb d_Tree_grow_15 (by decide) ?_
  refine lv_istore_n (lv' := [(3, .int 0), (0, .ref b0), (1, .ref b1), (2, .int b2)]) hx hb d_Tree_grow_16 rfl hl (by decide) rfl (fun ls hl => ?_)
  suffices key : ∀ (k_45 : Nat) (y_46 : Int32) (y_47 : Int32) (y_48 : Nat → Int32) (y_49 : Nat → Int32) (y_50 : Nat → Int32) (y_51 : Nat → Int32) (y_52 : Nat → Int32) (y_53 : Nat → Int32) (y_54 : Nat → Int32) (y_55 : Nat → Int32) (H : Heap) (locs : List Loc) (ls : Array Slot), (zI y_46 0 20) → (zI y_47 0 241) → (zR y_50 (-1) 240) → (zqa qP y_51) → (zR1 y_52 0 240) → (zR1 y_53 0 9) → (y_47.toInt ≤ 12 * y_46.toInt + 1) → (zLo y_50 (10 * (y_47 : Int32).toInt) (y_47 : Int32).toInt) → (zTr ((y_46 : Int32).toInt) (b2 : Int32).toInt (y_47 : Int32).toInt b28 y_51) → ((y_46 : Int32).toInt ≤ (b22 : Int32).toInt) → (yCG (zgR (zrow b22 b23 b24 b28 b29 b30)) (zcR (zrow b22 b23 b24 b28 b29 b30)) (zvR (zrow b22 b23 b24 b28 b29 b30)) (b2 : Int32).toInt (y_46 : Int32).toInt.toNat (y_47 : Int32).toInt y_52 y_53 y_54 y_55 y_48 y_49 y_50 ∧ yPL (zgR (zrow b22 b23 b24 b28 b29 b30)) (zcR (zrow b22 b23 b24 b28 b29 b30)) (b2 : Int32).toInt (y_46 : Int32).toInt.toNat 0 y_51) → (20 : Int) - y_46.toInt < (k_45 : Int) → va_P G.1 classes [(b0, .inr (3, [.int 1, .int b2, .int y_47, .ref b6, .ref b7, .ref b8, .ref b9, .ref b10, .ref b11, .ref b12, .ref b13])), (b6, .inl (G.2 0, 241, .inl y_52)), (b7, .inl (G.2 0, 241, .inl y_53)), (b8, .inl (G.2 0, 241, .inl y_54)), (b9, .inl (G.2 0, 241, .inl y_55)), (b10, .inl (G.2 0, 241, .inl y_48)), (b11, .inl (G.2 0, 241, .inl y_49)), (b12, .inl (G.2 0, 2410, .inl y_50)), (b13, .inl (G.2 0, 260, .inl y_51)), (b1, .inr (2, [.int b22, .int b23, .int b24, .ref b25, .ref b26, .ref b27])), (b25, .inl (G.2 0, 20, .inl b28)), (b26, .inl (G.2 0, 240, .inl b29)), (b27, .inl (G.2 0, 240, .inl b30))] H → va_D A [(b0, .inr (3, [.int 1, .int b2, .int y_47, .ref b6, .ref b7, .ref b8, .ref b9, .ref b10, .ref b11, .ref b12, .ref b13])), (b6, .inl (G.2 0, 241, .inl y_52)), (b7, .inl (G.2 0, 241, .inl y_53)), (b8, .inl (G.2 0, 241, .inl y_54)), (b9, .inl (G.2 0, 241, .inl y_55)), (b10, .inl (G.2 0, 241, .inl y_48)), (b11, .inl (G.2 0, 241, .inl y_49)), (b12, .inl (G.2 0, 2410, .inl y_50)), (b13, .inl (G.2 0, 260, .inl y_51)), (b1, .inr (2, [.int b22, .int b23, .int b24, .ref b25, .ref b26, .ref b27])), (b25, .inl (G.2 0, 20, .inl b28)), (b26, .inl (G.2 0, 240, .inl b29)), (b27, .inl (G.2 0, 240, .inl b30))] → va_S A s.heap H locs → lv_has ls 4 [(3, .int y_46), (0, .ref b0), (1, .ref b1), (2, .int b2)] → W p l e m_s2_Tree_grow s m ([.ref b0, .ref b1, .int b2] : List Value).toArray below meth c H locs 0 0 (MQ below (zQ G (fun v w => ∃ (e0 : Int32), ∃ (e1 : Nat → Int32), ∃ (e2 : Nat → Int32), ∃ (e3 : Nat → Int32), ∃ (e4 : Nat → Int32), ∃ (e5 : Nat → Int32), ∃ (e6 : Nat → Int32), ∃ (e7 : Nat → Int32), ∃ (e8 : Nat → Int32), v = none ∧ w = [(b0, .inr (3, [.int 1, .int b2, .int e0, .ref b6, .ref b7, .ref b8, .ref b9, .ref b10, .ref b11, .ref b12, .ref b13])), (b6, .inl (G.2 0, 241, .inl e1)), (b7, .inl (G.2 0, 241, .inl e2)), (b8, .inl (G.2 0, 241, .inl e3)), (b9, .inl (G.2 0, 241, .inl e4)), (b10, .inl (G.2 0, 241, .inl e5)), (b11, .inl (G.2 0, 241, .inl e6)), (b12, .inl (G.2 0, 2410, .inl e7)), (b13, .inl (G.2 0, 260, .inl e8)), (b1, .inr (2, [.int b22, .int b23, .int b24, .ref b25, .ref b26, .ref b27])), (b25, .inl (G.2 0, 20, .inl b28)), (b26, .inl (G.2 0, 240, .inl b29)), (b27, .inl (G.2 0, 240, .inl b30))] ∧ (zI e0 0 241) ∧ (zR1 e1 0 240) ∧ (zR1 e2 0 9) ∧ (zR e7 (-1) 240) ∧ (zqa qP e8) ∧ (zTr (b22 : Int32).toInt (b2 : Int32).toInt (e0 : Int32).toInt b28 e8) ∧ ((b2 : Int32) = b2) ∧ (yCG (zgR (zrow b22 b23 b24 b28 b29 b30)) (zcR (zrow b22 b23 b24 b28 b29 b30)) (zvR (zrow b22 b23 b24 b28 b29 b30)) (b2 : Int32).toInt (b22 : Int32).toInt.toNat (e0 : Int32).toInt e1 e2 e3 e4 e5 e6 e7 ∧ yPL (zgR (zrow b22 b23 b24 b28 b29 b30)) (zcR (zrow b22 b23 b24 b28 b29 b30)) (b2 : Int32).toInt (b22 : Int32).toInt.toNat 0 e8)) A) ([.ref b0, .ref b1, .int b2] : List Value).toArray s m_s2_Tree_grow.cells m_s2_Tree_grow.slots A) (F0 m 17 ls []) by
    exact key 21 (0) (0) (b18) (b19) (b20) (b21) (b14) (b15) (b16) (b17) _ _ _ (zI.wk (l' := 0) (h' := 20) zc_0 (by decide)) (zI.wk (l' := 0) (h' := 241) zc_0 (by decide)) hb20 hb21 hb14 hb15 (by have _l0 := li_0; have _l1 := li_0; omega) (by have _l0 := li_0; intro q hq; omega) (by have _l0 := li_0; intro t i h1 h2 h3; omega) (by have _l0 := li_0; omega) (by rw [show (0 : Int32).toInt.toNat = 0 by rw [li_0]; rfl]; exact yCG_0 li_0) (zm_upi (zI.wk (l' := 0) (h' := 20) zc_0 (by decide)) (by decide)) hP hD hS (lv_sub hl [0, 1, 2, 3] rfl)
  intro k_45
  induction k_45 with
  | zero =>
    intro y_46 y_47 y_48 y_49 y_50 y_51 y_52 y_53 y_54 y_55 H locs ls hy_46 hy_47 hy_50 hy_51 hy_52 hy_53 hli_56 hli_57 hli_58 hli_59 hli_60 hmk_45 hP hD hS hl
    exact (zm_up0 hy_46 hmk_45).elim
  | succ k_45 ihk_45 =>
    intro y_46 y_47 y_48 y_49 y_50 y_51 y_52 y_53 y_54 y_55 H locs ls hy_46 hy_47 hy_50 hy_51 hy_52 hy_53 hli_56 hli_57 hli_58 hli_59 hli_60 hmk_45 hP hD hS hl
    refine lv_iload_n hx hb d_Tree_grow_17 rfl (lv_at hl 0 rfl) ?_
    refine lv_aload_n hx hb d_Tree_grow_18 rfl (lv_at hl 2 rfl) ?_
    refine va_get (D := G.1) (ci := 2) (v := .int b22) (C := R_Traces) (T := F_Traces) (N := 6) hx hb hts i_Traces hown hK hP 9 rfl rfl 0 (by decide) (hts _ q57) (fun _ h9 => h9) rfl d_Tree_grow_19 ?_
    refine lv_icmp_ge (tgt := 45) hx hb d_Tree_grow_22 (by decide) (fun hc_61 => ?_) (fun hc_61 => ?_)
    · have _nhc_61 := hc_61
      have ni_62 := (fa_le _ _).mp hc_61
      exact z_vret hx hb hr hlocks hP hD hS (Nat.le_of_ble_eq_true rfl) (Nat.le_of_ble_eq_true rfl) d_Tree_grow_45 ⟨y_47, y_52, y_53, y_54, y_55, y_48, y_49, y_50, y_51, rfl, rfl, hy_47, hy_52, hy_53, hy_50, hy_51, (by intro t i h1 h2 h3; exact hli_58 t i (by omega) h2 h3), rfl, (by have g9 := hli_60; rw [show y_46.toInt.toNat = b22.toInt.toNat by omega] at g9; exact g9)⟩
    · have _nhc_61 := hc_61
      have ni_63 := (fa_lt _ _).mp (zi_nle hc_61)
      have hv_64 : zI y_46 0 19 := zI.lt_l hy_46 hb22 (zi_nle hc_61) (by decide)
      have hv_65 : zI b22 1 20 := zI.lt_r hy_46 hb22 (zi_nle hc_61) (by decide)
      refine lv_iload_n hx hb d_Tree_grow_25 rfl (lv_at hl 0 rfl) ?_
      refine lv_aload_n hx hb d_Tree_grow_26 rfl (lv_at hl 1 rfl) ?_
      refine va_get (D := G.1) (ci := 3) (v := .int b2) (C := R_Tree) (T := F_Tree) (N := 11) hx hb hts i_Tree hown hK hP 0 rfl rfl 1 (by decide) (hts _ q98) (fun _ h9 => h9) rfl d_Tree_grow_27 ?_
      refine lv_icmp_eq (tgt := 39) hx hb d_Tree_grow_30 (by decide) (fun hc_66 => ?_) (fun hc_66 => ?_)
      · have _nhc_66 := hc_66
        have ni_67 := (fa_eq _ _).mp hc_66
        have hv_68 : zI b2 0 19 := zI.eq_l hb2 hv_64 hc_66.symm
        obtain ⟨v_69, ev_69⟩ : ∃ z : Int32, z = y_46 + 1 := ⟨_, rfl⟩
        obtain ⟨qv_69, hv_69⟩ := zI_add (l := 1) (h := 20) hv_64 zc_1 ev_69 (by decide)
        rw [li_1] at qv_69
        refine lv_iinc (v := v_69) (lv' := [(3, .int v_69), (0, .ref b0), (1, .ref b1), (2, .int b2)]) hx hb d_Tree_grow_39 hl (k := 0) rfl (by rw [ev_69]; rfl) (by decide) rfl (fun ls hl => ?_)
        refine lv_goto (tgt := 17) hx hb d_Tree_grow_42 (by decide) ?_
        exact ihk_45 (v_69) (y_47) (y_48) (y_49) (y_50) (y_51) (y_52) (y_53) (y_54) (y_55) _ _ _ (zI.wk (l' := 0) (h' := 20) hv_69 (by decide)) hy_47 hy_50 hy_51 hy_52 hy_53 (by omega) hli_57 (by intro t i h1 h2 h3; exact hli_58 t i (by omega) h2 h3) (by omega) (by have g9 := hli_60; rw [show v_69.toInt.toNat = y_46.toInt.toNat + 1 by omega]; exact yCG_b g9 (by omega)) (zm_up qv_69 hmk_45 (by decide)) hP hD hS (lv_sub hl [0, 1, 2, 3] rfl)
      · have _nhc_66 := hc_66
        have ni_70 : ¬ (y_46 : Int32).toInt = (b2 : Int32).toInt := fun z => hc_66 ((fa_eq _ _).mpr z)
        refine lv_aload_n hx hb d_Tree_grow_33 rfl (lv_at hl 1 rfl) ?_
        refine lv_aload_n hx hb d_Tree_grow_34 rfl (lv_at hl 2 rfl) ?_
        refine lv_iload_n hx hb d_Tree_grow_35 rfl (lv_at hl 0 rfl) ?_
        refine z_callV (index := 52) (As := [.ref b1, .int y_46]) (rest := []) (wr := []) Z (s2_Tree_follow l G (b0) (b1) (y_46) (1) (b2) (y_47) (b6) (b7) (b8) (b9) (b10) (b11) (b12) (b13) (y_52) (y_53) (y_54) (y_55) (y_48) (y_49) (y_50) (y_51) (b22) (b23) (b24) (b25) (b26) (b27) (b28) (b29) (b30) hv_64 (zI.wk (l' := 0) (h' := 1) zc_1 (by decide)) hy_47 (zI.wk (l' := 0) (h' := 20) hv_65 (by decide)) hb23 hb24 hy_52 hy_53 hy_50 hy_51 hb28 hb29 (by omega) hli_57 hli_58) hl.1 q571 q573 qs3 q4 q574 ⟨by decide, by decide, by show _ = some 2; decide +kernel⟩ ⟨Nat.le_of_ble_eq_true rfl, Nat.le_of_ble_eq_true rfl⟩ ⟨Nat.le_of_ble_eq_true rfl, Nat.le_of_ble_eq_true rfl⟩ rfl (Nat.le_of_ble_eq_true rfl) d_Tree_grow_36 hP hD hS hA 0 3 rfl rfl rfl [0, 1, 2, 3, 4, 5, 6, 7, 8, 9, 10, 11, 12] [] rfl rfl rfl rfl (by decide) (fun v w1 H locs hw_71 hP hD hS => ?_)
        refine Exists.elim hw_71 (fun x_72 hz_85 => Exists.elim hz_85 (fun f_73 hz_86 => Exists.elim hz_86 (fun f_74 hz_87 => Exists.elim hz_87 (fun f_75 hz_88 => Exists.elim hz_88 (fun f_76 hz_89 => Exists.elim hz_89 (fun f_77 hz_90 => Exists.elim hz_90 (fun f_78 hz_91 => Exists.elim hz_91 (fun f_79 hz_92 => Exists.elim hz_92 (fun f_80 hz_93 => ?_)))))))))
        clear hw_71 hz_85 hz_86 hz_87 hz_88 hz_89 hz_90 hz_91 hz_92
        obtain ⟨rfl, rfl, hx_72, hf_73, hf_74, hf_79, hf_80, hfx_81, hfx_82, hfx_83, hfx_84⟩ := hz_93
        have hP : va_P G.1 classes [(b0, .inr (3, [.int 1, .int b2, .int x_72, .ref b6, .ref b7, .ref b8, .ref b9, .ref b10, .ref b11, .ref b12, .ref b13])), (b6, .inl (G.2 0, 241, .inl f_73)), (b7, .inl (G.2 0, 241, .inl f_74)), (b8, .inl (G.2 0, 241, .inl f_75)), (b9, .inl (G.2 0, 241, .inl f_76)), (b10, .inl (G.2 0, 241, .inl f_77)), (b11, .inl (G.2 0, 241, .inl f_78)), (b12, .inl (G.2 0, 2410, .inl f_79)), (b13, .inl (G.2 0, 260, .inl f_80)), (b1, .inr (2, [.int b22, .int b23, .int b24, .ref b25, .ref b26, .ref b27])), (b25, .inl (G.2 0, 20, .inl b28)), (b26, .inl (G.2 0, 240, .inl b29)), (b27, .inl (G.2 0, 240, .inl b30))] H := hP
        have hD := z_tie hP hD rfl
        refine W.widen (k := 0) (n := 0) (Nat.le_of_ble_eq_true rfl) (Nat.le_of_ble_eq_true rfl) ?_
        obtain ⟨v_94, ev_94⟩ : ∃ z : Int32, z = y_46 + 1 := ⟨_, rfl⟩
        obtain ⟨qv_94, hv_94⟩ := zI_add (l := 1) (h := 20) hv_64 zc_1 ev_94 (by decide)
        rw [li_1] at qv_94
        refine lv_iinc (v := v_94) (lv' := [(3, .int v_94), (0, .ref b0), (1, .ref b1), (2, .int b2)]) hx hb d_Tree_grow_39 hl (k := 0) rfl (by rw [ev_94]; rfl) (by decide) rfl (fun ls hl => ?_)
        refine lv_goto (tgt := 17) hx hb d_Tree_grow_42 (by decide) ?_
        exact ihk_45 (v_94) (x_72) (f_77) (f_78) (f_79) (f_80) (f_73) (f_74) (f_75) (f_76) _ _ _ (zI.wk (l' := 0) (h' := 20) hv_94 (by decide)) hx_72 hf_79 hf_80 hf_73 hf_74 (by omega) hfx_82 (by intro t i h1 h2 h3; exact hfx_83 t i (by omega) h2 h3) (by omega) (by have g9 := hli_60; rw [show v_94.toInt.toNat = y_46.toInt.toNat + 1 by omega]; exact hfx_84 _ (by omega) (by omega) g9.1 g9.2) (zm_up qv_94 hmk_45 (by decide)) hP hD hS (lv_sub hl [0, 1, 2, 3] rfl)
