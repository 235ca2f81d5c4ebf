abbrev m_s3_Model_newPrefix : Room := { frames := 0, cells := 0, slots := 0, locals := 0 }
set_option maxHeartbeats 4000000 in
set_option maxRecDepth 100000 in
theorem s3_Model_newPrefix (l : Launch) (G : zG) (b0 : Nat) (b1 : Int32) (b2 : Nat) (b3 : Nat) (b4 : Nat) (b5 : Nat) (b6 : Int32) (b7 : Nat) (b8 : Int32) (b9 : Int32) (b10 : Int32) (b11 : Int32) (b12 : Nat) (b13 : Nat) (b14 : Nat) (b15 : Int32) (b16 : Nat) (b17 : Nat) (b18 : Nat) (b19 : Nat) (b20 : Nat) (b21 : Nat) (b22 : Nat) (b23 : Nat) (b24 : Nat) (b25 : Nat) (b26 : Nat) (b27 : Nat) (b28 : Int32) (b29 : Nat) (b30 : Nat) (b31 : Int32) (b32 : Int32) (b33 : Int32) (b34 : Int32) (b35 : Nat) (b36 : Nat) (b37 : Nat) (b38 : Nat) (b39 : Nat) (b40 : Nat) (b41 : Nat) (b42 : Int32) (b43 : Nat) (b44 : Nat) (b45 : Int32) (b46 : Nat) (b47 : Nat) (b48 : Nat) (b49 : Nat) (b50 : Nat) (b51 : Int32) (b52 : Nat) (b53 : Nat) (b54 : Nat) (b55 : Nat → Int32) (b56 : Nat → Int32) (b57 : Nat → Int32) (hb6 : zI b6 0 8) (hb8 : zI b8 0 240) (hb9 : zI b9 0 240) (hb11 : zI b11 0 1) (hb15 : zI b15 0 12) (hb28 : zI b28 0 1) (hb31 : zI b31 0 1) (hb42 : zI b42 0 1000) (hb45 : zI b45 0 1000) (hb51 : zI b51 0 400) (hb55 : zR b55 0 241) (hb56 : zR b56 (-1) 240) (hb57 : zqa qC b57) (hnp : (b55 (0 : Int32).toNatClampNeg).toInt ≤ 240) (hlm : zLm b56 0 (10 * (b55 (0 : Int32).toNatClampNeg).toInt) ((b55 (0 : Int32).toNatClampNeg).toInt + 1)) : zM l G y_Model_newPrefix prog_14_method_26_code 4 (Option.none : Option Jvm.ClassFile.FieldType) m_s3_Model_newPrefix [.ref b0, .int 0] [(b0, .inr (12, [.int b1, .ref b2, .ref b3, .ref b4, .ref b5, .int b6, .ref b7, .int b8, .int b9, .int b10, .int b11, .ref b12, .ref b13, .ref b14, .int b15, .ref b16, .ref b17, .ref b18, .ref b19, .ref b20, .ref b21, .ref b22, .ref b23, .ref b24, .ref b25, .ref b26, .ref b27, .int b28, .ref b29, .ref b30, .int b31, .int b32, .int b33, .int b34, .ref b35, .ref b36, .ref b37, .ref b38, .ref b39, .ref b40, .ref b41, .int b42, .ref b43, .ref b44, .int b45, .ref b46, .ref b47, .ref b48, .ref b49, .ref b50, .int b51, .ref b52, .ref b53, .ref b54])), (b16, .inl (G.2 0, 2, .inl b55)), (b17, .inl (G.2 0, 4820, .inl b56)), (b20, .inl (G.2 0, 482, .inl b57))] (fun v w => ∃ (e0 : Nat → Int32), ∃ (e1 : Nat → Int32), ∃ (e2 : Nat → Int32), v = none ∧ w = [(b0, .inr (12, [.int b1, .ref b2, .ref b3, .ref b4, .ref b5, .int b6, .ref b7, .int b8, .int b9, .int b10, .int b11, .ref b12, .ref b13, .ref b14, .int b15, .ref b16, .ref b17, .ref b18, .ref b19, .ref b20, .ref b21, .ref b22, .ref b23, .ref b24, .ref b25, .ref b26, .ref b27, .int b28, .ref b29, .ref b30, .int b31, .int b32, .int b33, .int b34, .ref b35, .ref b36, .ref b37, .ref b38, .ref b39, .ref b40, .ref b41, .int b42, .ref b43, .ref b44, .int b45, .ref b46, .ref b47, .ref b48, .ref b49, .ref b50, .int b51, .ref b52, .ref b53, .ref b54])), (b16, .inl (G.2 0, 2, .inl e0)), (b17, .inl (G.2 0, 4820, .inl e1)), (b20, .inl (G.2 0, 482, .inl e2))] ∧ (zR e0 0 241) ∧ (zR e1 (-1) 240) ∧ (zqa qC e2) ∧ ((e0 (0 : Int32).toNatClampNeg).toInt = (b55 (0 : Int32).toNatClampNeg).toInt + 1) ∧ (zLm e1 0 (10 * (e0 (0 : Int32).toNatClampNeg).toInt) (e0 (0 : Int32).toNatClampNeg).toInt) ∧ (∀ q : Nat, (q : Int) < 0 + 10 * (b55 (0 : Int32).toNatClampNeg).toInt → e1 q = b56 q) ∧ (∀ q : Nat, e1 q = if ((0 : Nat) : Int) + 10 * (b55 (0 : Int32).toNatClampNeg).toInt ≤ (q : Int) ∧ (q : Int) < ((0 : Nat) : Int) + 10 * (b55 (0 : Int32).toNatClampNeg).toInt + 10 then -1 else b56 q)) := by
  refine z_start (by decide +kernel) (Nat.le_of_ble_eq_true rfl) ?_
  intro p e s m below meth c A Z hr hnm hA hP hD hS ls hl
  have Z : zC p s m _ meth c prog_14_method_26_code 4 "TraceMachinesModel" G := Z
  obtain ⟨hx, hb, hml, hown, hts, hK, hN, hlocks⟩ := id Z
  have hl : lv_has ls 4 [(0, .ref b0), (1, .int 0)] := hl
  refine lv_sipush (v := 241) hx hb d_Model_newPrefix_0 (by decide) ?_
  refine lv_iload_n hx hb d_Model_newPrefix_3 rfl (lv_at hl 1 rfl) ?_
  refine lv_imul hx hb d_Model_newPrefix_4 ?_
  refine z_topi (y := 0) (by decide +kernel) ?_
  refine lv_aload_n hx hb d_Model_newPrefix_5 rfl (lv_at hl 0 rfl) ?_
  refine va_get (D := G.1) (ci := 12) (v := .ref b16) (C := R_Model) (T := F_Model) (N := 54) hx hb hts i_Model hown hK hP 0 rfl rfl 15 (by decide) (hts _ q1124) (fun _ h9 => h9) rfl d_Model_newPrefix_6 ?_
  refine lv_iload_n hx hb d_Model_newPrefix_9 rfl (lv_at hl 1 rfl) ?_
  refine va_iald hx hb hK hP 1 0 rfl rfl (i := 0) (z_in rfl) d_Model_newPrefix_10 ?_
  refine lv_topi (fun v_1 ev_1 => ?_)
  have hv_1 : zI v_1 0 241 := (hb55 _).eq ev_1
  have hv_2 : zI v_1 0 240 := ⟨hv_1.1, by rw [← ev_1] at hnp; exact hnp⟩
  have hlvv_1 : zLm b56 0 (10 * v_1.toInt) (v_1.toInt + 1) := by rw [ev_1]; exact hlm
  refine lv_iadd hx hb d_Model_newPrefix_11 ?_
  refine lv_topi (fun v_3 ev_3 => ?_)
  obtain ⟨qv_3, hv_3⟩ := zI_add (l := 0) (h := 240) zc_0 hv_2 ev_3 (by decide)
  rw [li_0] at qv_3
  refine lv_istore_n (lv' := [(2, .int v_3), (0, .ref b0), (1, .int 0)]) hx hb d_Model_newPrefix_12 rfl hl (by decide) rfl (fun ls hl => ?_)
  refine lv_iconst (v := 0) hx hb d_Model_newPrefix_13 (by decide) ?_
  refine lv_istore_n (lv' := [(3, .int 0), (2, .int v_3), (0, .ref b0), (1, .int 0)]) hx hb d_Model_newPrefix_14 rfl hl (by decide) rfl (fun ls hl => ?_)
  suffices key : ∀ (k_19 : Nat) (y_20 : Int32) (y_21 : Nat → Int32) (H : Heap) (locs : List Loc) (ls : Array Slot), (zI y_20 0 10) → (zR y_21 (-1) 240) → (∀ q : Nat, (q : Int) < 10 * (v_3 : Int32).toInt → y_21 q = b56 q) → (zLm y_21 0 (10 * (v_3 : Int32).toInt - 0 + (y_20 : Int32).toInt) ((v_3 : Int32).toInt - 0 + 1)) → (∀ q : Nat, y_21 q = if 10 * (v_3 : Int32).toInt ≤ (q : Int) ∧ (q : Int) < 10 * (v_3 : Int32).toInt + (y_20 : Int32).toInt then -1 else b56 q) → (10 : Int) - y_20.toInt < (k_19 : Int) → va_P G.1 classes [(b0, .inr (12, [.int b1, .ref b2, .ref b3, .ref b4, .ref b5, .int b6, .ref b7, .int b8, .int b9, .int b10, .int b11, .ref b12, .ref b13, .ref b14, .int b15, .ref b16, .ref b17, .ref b18, .ref b19, .ref b20, .ref b21, .ref b22, .ref b23, .ref b24, .ref b25, .ref b26, .ref b27, .int b28, .ref b29, .ref b30, .int b31, .int b32, .int b33, .int b34, .ref b35, .ref b36, .ref b37, .ref b38, .ref b39, .ref b40, .ref b41, .int b42, .ref b43, .ref b44, .int b45, .ref b46, .ref b47, .ref b48, .ref b49, .ref b50, .int b51, .ref b52, .ref b53, .ref b54])), (b16, .inl (G.2 0, 2, .inl b55)), (b17, .inl (G.2 0, 4820, .inl y_21)), (b20, .inl (G.2 0, 482, .inl b57))] H → va_D A [(b0, .inr (12, [.int b1, .ref b2, .ref b3, .ref b4, .ref b5, .int b6, .ref b7, .int b8, .int b9, .int b10, .int b11, .ref b12, .ref b13, .ref b14, .int b15, .ref b16, .ref b17, .ref b18, .ref b19, .ref b20, .ref b21, .ref b22, .ref b23, .ref b24, .ref b25, .ref b26, .ref b27, .int b28, .ref b29, .ref b30, .int b31, .int b32, .int b33, .int b34, .ref b35, .ref b36, .ref b37, .ref b38, .ref b39, .ref b40, .ref b41, .int b42, .ref b43, .ref b44, .int b45, .ref b46, .ref b47, .ref b48, .ref b49, .ref b50, .int b51, .ref b52, .ref b53, .ref b54])), (b16, .inl (G.2 0, 2, .inl b55)), (b17, .inl (G.2 0, 4820, .inl y_21)), (b20, .inl (G.2 0, 482, .inl b57))] → va_S A s.heap H locs → lv_has ls 4 [(3, .int y_20), (2, .int v_3), (0, .ref b0), (1, .int 0)] → W p l e m_s3_Model_newPrefix s m ([.ref b0, .int 0] : List Value).toArray below meth c H locs 0 0 (MQ below (zQ G (fun v w => ∃ (e0 : Nat → Int32), ∃ (e1 : Nat → Int32), ∃ (e2 : Nat → Int32), v = none ∧ w = [(b0, .inr (12, [.int b1, .ref b2, .ref b3, .ref b4, .ref b5, .int b6, .ref b7, .int b8, .int b9, .int b10, .int b11, .ref b12, .ref b13, .ref b14, .int b15, .ref b16, .ref b17, .ref b18, .ref b19, .ref b20, .ref b21, .ref b22, .ref b23, .ref b24, .ref b25, .ref b26, .ref b27, .int b28, .ref b29, .ref b30, .int b31, .int b32, .int b33, .int b34, .ref b35, .ref b36, .ref b37, .ref b38, .ref b39, .ref b40, .ref b41, .int b42, .ref b43, .ref b44, .int b45, .ref b46, .ref b47, .ref b48, .ref b49, .ref b50, .int b51, .ref b52, .ref b53, .ref b54])), (b16, .inl (G.2 0, 2, .inl e0)), (b17, .inl (G.2 0, 4820, .inl e1)), (b20, .inl (G.2 0, 482, .inl e2))] ∧ (zR e0 0 241) ∧ (zR e1 (-1) 240) ∧ (zqa qC e2) ∧ ((e0 (0 : Int32).toNatClampNeg).toInt = (b55 (0 : Int32).toNatClampNeg).toInt + 1) ∧ (zLm e1 0 (10 * (e0 (0 : Int32).toNatClampNeg).toInt) (e0 (0 : Int32).toNatClampNeg).toInt) ∧ (∀ q : Nat, (q : Int) < 0 + 10 * (b55 (0 : Int32).toNatClampNeg).toInt → e1 q = b56 q) ∧ (∀ q : Nat, e1 q = if ((0 : Nat) : Int) + 10 * (b55 (0 : Int32).toNatClampNeg).toInt ≤ (q : Int) ∧ (q : Int) < ((0 : Nat) : Int) + 10 * (b55 (0 : Int32).toNatClampNeg).toInt + 10 then -1 else b56 q)) A) ([.ref b0, .int 0] : List Value).toArray s m_s3_Model_newPrefix.cells m_s3_Model_newPrefix.slots A) (F0 m 15 ls []) by
    exact key 11 (0) (b56) _ _ _ (zI.wk (l' := 0) (h' := 10) zc_0 (by decide)) hb56 (fun _ _ => rfl) (by have _l0 := li_0; intro q h1 h2; have := hlvv_1 q h1 (by omega); omega) (by have _l0 := li_0; intro q; rw [if_neg (by omega)]) (zm_upi (zI.wk (l' := 0) (h' := 10) zc_0 (by decide)) (by decide)) hP hD hS (lv_sub hl [0, 1, 2, 3] rfl)
  intro k_19
  induction k_19 with
  | zero =>
    intro y_20 y_21 H locs ls hy_20 hy_21 hli_22 hli_23 hli_24 hmk_19 hP hD hS hl
    exact (zm_up0 hy_20 hmk_19).elim
  | succ k_19 ihk_19 =>
    intro y_20 y_21 H locs ls hy_20 hy_21 hli_22 hli_23 hli_24 hmk_19 hP hD hS hl
    refine lv_iload_n hx hb d_Model_newPrefix_15 rfl (lv_at hl 0 rfl) ?_
    refine lv_bipush (v := 10) hx hb d_Model_newPrefix_16 (by decide) ?_
    refine lv_icmp_ge (tgt := 39) hx hb d_Model_newPrefix_18 (by decide) (fun hc_25 => ?_) (fun hc_25 => ?_)
    · have _nhc_25 := hc_25
      have ni_26 := (fa_le _ _).mp hc_25
      rw [li_10] at ni_26
      have hv_27 : zI y_20 10 10 := zI.le_r zc_10 hy_20 hc_25 (by decide)
      refine lv_aload_n hx hb d_Model_newPrefix_39 rfl (lv_at hl 2 rfl) ?_
      refine va_get (D := G.1) (ci := 12) (v := .ref b20) (C := R_Model) (T := F_Model) (N := 54) hx hb hts i_Model hown hK hP 0 rfl rfl 19 (by decide) (hts _ q1128) (fun _ h9 => h9) rfl d_Model_newPrefix_40 ?_
      refine lv_iload_n hx hb d_Model_newPrefix_43 rfl (lv_at hl 1 rfl) ?_
      refine lv_iconst (v := 0) hx hb d_Model_newPrefix_44 (by decide) ?_
      refine va_iast hx hb hK hP hD hS 3 0 rfl rfl (zI.inn hv_3 (by decide)) d_Model_newPrefix_45 (fun H locs hP hD hS => ?_)
      obtain ⟨f_28, hf_28, gf_28, uf_28, hP, hD⟩ := z_newq_ (Q := qC) 3 hP hD rfl hb57 (qC_v hv_3 (by decide) ⟨⟨by have _w := li_0; have _x := hv_3; omega, by have _w := li_0; have _x := hv_3; omega⟩, by have _w := li_0; have _x := hv_3; omega⟩)
      have hP : va_P G.1 classes [(b0, .inr (12, [.int b1, .ref b2, .ref b3, .ref b4, .ref b5, .int b6, .ref b7, .int b8, .int b9, .int b10, .int b11, .ref b12, .ref b13, .ref b14, .int b15, .ref b16, .ref b17, .ref b18, .ref b19, .ref b20, .ref b21, .ref b22, .ref b23, .ref b24, .ref b25, .ref b26, .ref b27, .int b28, .ref b29, .ref b30, .int b31, .int b32, .int b33, .int b34, .ref b35, .ref b36, .ref b37, .ref b38, .ref b39, .ref b40, .ref b41, .int b42, .ref b43, .ref b44, .int b45, .ref b46, .ref b47, .ref b48, .ref b49, .ref b50, .int b51, .ref b52, .ref b53, .ref b54])), (b16, .inl (G.2 0, 2, .inl b55)), (b17, .inl (G.2 0, 4820, .inl y_21)), (b20, .inl (G.2 0, 482, .inl f_28))] H := hP
      have hD := z_tie hP hD rfl
      refine lv_aload_n hx hb d_Model_newPrefix_46 rfl (lv_at hl 2 rfl) ?_
      refine va_get (D := G.1) (ci := 12) (v := .ref b16) (C := R_Model) (T := F_Model) (N := 54) hx hb hts i_Model hown hK hP 0 rfl rfl 15 (by decide) (hts _ q1124) (fun _ h9 => h9) rfl d_Model_newPrefix_47 ?_
      refine lv_iload_n hx hb d_Model_newPrefix_50 rfl (lv_at hl 3 rfl) ?_
      refine lv_dup2_11 hx hb d_Model_newPrefix_51 rfl rfl ?_
      refine va_iald hx hb hK hP 1 0 rfl rfl (i := 0) (z_in rfl) d_Model_newPrefix_52 ?_
      refine lv_topi (fun v_29 ev_29 => ?_)
      obtain rfl : v_1 = v_29 := ev_1.trans ev_29.symm
      refine lv_iconst (v := 1) hx hb d_Model_newPrefix_53 (by decide) ?_
      refine lv_iadd hx hb d_Model_newPrefix_54 ?_
      refine lv_topi (fun v_30 ev_30 => ?_)
      obtain ⟨qv_30, hv_30⟩ := zI_add (l := 1) (h := 241) hv_2 zc_1 ev_30 (by decide)
      rw [li_1] at qv_30
      refine va_iast hx hb hK hP hD hS 1 0 rfl rfl (i := 0) (z_in rfl) d_Model_newPrefix_55 (fun H locs hP hD hS => ?_)
      obtain ⟨f_31, hf_31, gf_31, uf_31, hP, hD⟩ := z_newfu 1 hP hD rfl hb55 (zI.wk (l' := 0) (h' := 241) hv_30 (by decide))
      have hP : va_P G.1 classes [(b0, .inr (12, [.int b1, .ref b2, .ref b3, .ref b4, .ref b5, .int b6, .ref b7, .int b8, .int b9, .int b10, .int b11, .ref b12, .ref b13, .ref b14, .int b15, .ref b16, .ref b17, .ref b18, .ref b19, .ref b20, .ref b21, .ref b22, .ref b23, .ref b24, .ref b25, .ref b26, .ref b27, .int b28, .ref b29, .ref b30, .int b31, .int b32, .int b33, .int b34, .ref b35, .ref b36, .ref b37, .ref b38, .ref b39, .ref b40, .ref b41, .int b42, .ref b43, .ref b44, .int b45, .ref b46, .ref b47, .ref b48, .ref b49, .ref b50, .int b51, .ref b52, .ref b53, .ref b54])), (b16, .inl (G.2 0, 2, .inl f_31)), (b17, .inl (G.2 0, 4820, .inl y_21)), (b20, .inl (G.2 0, 482, .inl f_28))] H := hP
      have hD := z_tie hP hD rfl
      exact z_vret hx hb hr hlocks hP hD hS (Nat.le_of_ble_eq_true rfl) (Nat.le_of_ble_eq_true rfl) d_Model_newPrefix_56 ⟨f_31, y_21, f_28, rfl, rfl, hf_31, hy_21, hf_28, (by rw [gf_31, qv_30, ev_1]), (by intro q h1 h2; rw [gf_31] at h2 ⊢; have := hli_23 q h1 (by omega); omega), (by intro q hq; exact hli_22 q (by rw [← ev_1] at hq; omega)), (by have _l0 := li_10; intro q; have j9 := hli_24 q; have e9 := congrArg Int32.toInt ev_1; rw [show y_20.toInt = 10 by omega] at j9; rw [j9]; by_cases c : 10 * v_3.toInt ≤ (q : Int) ∧ (q : Int) < 10 * v_3.toInt + 10; (rw [if_pos c, if_pos (by omega)]); rw [if_neg c, if_neg (by omega)])⟩
    · have _nhc_25 := hc_25
      have ni_32 := (fa_lt _ _).mp (zi_nle hc_25)
      rw [li_10] at ni_32
      have hv_33 : zI y_20 0 9 := zI.lt_l hy_20 zc_10 (zi_nle hc_25) (by decide)
      refine lv_aload_n hx hb d_Model_newPrefix_21 rfl (lv_at hl 2 rfl) ?_
      refine va_get (D := G.1) (ci := 12) (v := .ref b17) (C := R_Model) (T := F_Model) (N := 54) hx hb hts i_Model hown hK hP 0 rfl rfl 16 (by decide) (hts _ q1125) (fun _ h9 => h9) rfl d_Model_newPrefix_22 ?_
      refine lv_bipush (v := 10) hx hb d_Model_newPrefix_25 (by decide) ?_
      refine lv_iload_n hx hb d_Model_newPrefix_27 rfl (lv_at hl 1 rfl) ?_
      refine lv_imul hx hb d_Model_newPrefix_28 ?_
      refine lv_topi (fun v_34 ev_34 => ?_)
      obtain ⟨qv_34, hv_34⟩ := zI_mul (l := 0) (h := 2400) zc_10 hv_3 ev_34 (by decide)
      rw [li_10] at qv_34
      refine lv_iload_n hx hb d_Model_newPrefix_29 rfl (lv_at hl 0 rfl) ?_
      refine lv_iadd hx hb d_Model_newPrefix_30 ?_
      refine lv_topi (fun v_35 ev_35 => ?_)
      obtain ⟨qv_35, hv_35⟩ := zI_add (l := 0) (h := 2409) hv_34 hv_33 ev_35 (by decide)
      refine lv_iconst (v := (-1)) hx hb d_Model_newPrefix_31 (by decide) ?_
      refine va_iast hx hb hK hP hD hS 2 0 rfl rfl (zI.inn hv_35 (by decide)) d_Model_newPrefix_32 (fun H locs hP hD hS => ?_)
      obtain ⟨f_36, hf_36, gf_36, uf_36, hP, hD⟩ := z_newfu 2 hP hD rfl hy_21 (zI.wk (l' := (-1)) (h' := 240) zc_m1 (by decide))
      have hP : va_P G.1 classes [(b0, .inr (12, [.int b1, .ref b2, .ref b3, .ref b4, .ref b5, .int b6, .ref b7, .int b8, .int b9, .int b10, .int b11, .ref b12, .ref b13, .ref b14, .int b15, .ref b16, .ref b17, .ref b18, .ref b19, .ref b20, .ref b21, .ref b22, .ref b23, .ref b24, .ref b25, .ref b26, .ref b27, .int b28, .ref b29, .ref b30, .int b31, .int b32, .int b33, .int b34, .ref b35, .ref b36, .ref b37, .ref b38, .ref b39, .ref b40, .ref b41, .int b42, .ref b43, .ref b44, .int b45, .ref b46, .ref b47, .ref b48, .ref b49, .ref b50, .int b51, .ref b52, .ref b53, .ref b54])), (b16, .inl (G.2 0, 2, .inl b55)), (b17, .inl (G.2 0, 4820, .inl f_36)), (b20, .inl (G.2 0, 482, .inl b57))] H := hP
      have hD := z_tie hP hD rfl
      obtain ⟨v_37, ev_37⟩ : ∃ z : Int32, z = y_20 + 1 := ⟨_, rfl⟩
      obtain ⟨qv_37, hv_37⟩ := zI_add (l := 1) (h := 10) hv_33 zc_1 ev_37 (by decide)
      rw [li_1] at qv_37
      refine lv_iinc (v := v_37) (lv' := [(3, .int v_37), (2, .int v_3), (0, .ref b0), (1, .int 0)]) hx hb d_Model_newPrefix_33 hl (k := 0) rfl (by rw [ev_37]; rfl) (by decide) rfl (fun ls hl => ?_)
      refine lv_goto (tgt := 15) hx hb d_Model_newPrefix_36 (by decide) ?_
      exact ihk_19 (v_37) (f_36) _ _ _ (zI.wk (l' := 0) (h' := 10) hv_37 (by decide)) hf_36 (by have p9 := z_pl hv_35 (by decide); intro q hq; rw [uf_36, z_at, if_neg (by omega)]; exact hli_22 q hq) (by have _l0 := li_m1; have p9 := z_pl hv_35 (by decide); intro q h1 h2; rw [uf_36, z_at]; split; omega; exact hli_23 q h1 (by omega)) (by have p9 := z_pl hv_35 (by decide); intro q; rw [uf_36, z_at]; by_cases c : q = v_35.toNatClampNeg; (rw [if_pos c, if_pos (by omega)]); (rw [if_neg c, hli_24 q]; by_cases c2 : 10 * v_3.toInt ≤ (q : Int) ∧ (q : Int) < 10 * v_3.toInt + y_20.toInt; (rw [if_pos c2, if_pos (by omega)]); rw [if_neg c2, if_neg (by omega)])) (zm_up qv_37 hmk_19 (by decide)) hP hD hS (lv_sub hl [0, 1, 2, 3] rfl)
abbrev m_s4_Model_newPrefix : Room := { frames := 0, cells := 0, slots := 0, locals := 0 }
set_option maxHeartbeats 4000000 in
set_option maxRecDepth 100000 in
theorem s4_Model_newPrefix (l : Launch) (G : zG) (b0 : Nat) (b1 : Int32) (b2 : Nat) (b3 : Nat) (b4 : Nat) (b5 : Nat) (b6 : Int32) (b7 : Nat) (b8 : Int32) (b9 : Int32) (b10 : Int32) (b11 : Int32) (b12 : Nat) (b13 : Nat) (b14 : Nat) (b15 : Int32) (b16 : Nat) (b17 : Nat) (b18 : Nat) (b19 : Nat) (b20 : Nat) (b21 : Nat) (b22 : Nat) (b23 : Nat) (b24 : Nat) (b25 : Nat) (b26 : Nat) (b27 : Nat) (b28 : Int32) (b29 : Nat) (b30 : Nat) (b31 : Int32) (b32 : Int32) (b33 : Int32) (b34 : Int32) (b35 : Nat) (b36 : Nat) (b37 : Nat) (b38 : Nat) (b39 : Nat) (b40 : Nat) (b41 : Nat) (b42 : Int32) (b43 : Nat) (b44 : Nat) (b45 : Int32) (b46 : Nat) (b47 : Nat) (b48 : Nat) (b49 : Nat) (b50 : Nat) (b51 : Int32) (b52 : Nat) (b53 : Nat) (b54 : Nat) (b55 : Nat → Int32) (b56 : Nat → Int32) (b57 : Nat → Int32) (hb6 : zI b6 0 8) (hb8 : zI b8 0 240) (hb9 : zI b9 0 240) (hb11 : zI b11 0 1) (hb15 : zI b15 0 12) (hb28 : zI b28 0 1) (hb31 : zI b31 0 1) (hb42 : zI b42 0 1000) (hb45 : zI b45 0 1000) (hb51 : zI b51 0 400) (hb55 : zR b55 0 241) (hb56 : zR b56 (-1) 240) (hb57 : zqa qC b57) (hnp : (b55 (1 : Int32).toNatClampNeg).toInt ≤ 240) (hlm : zLm b56 2410 (10 * (b55 (1 : Int32).toNatClampNeg).toInt) ((b55 (1 : Int32).toNatClampNeg).toInt + 1)) : zM l G y_Model_newPrefix prog_14_method_26_code 4 (Option.none : Option Jvm.ClassFile.FieldType) m_s4_Model_newPrefix [.ref b0, .int 1] [(b0, .inr (12, [.int b1, .ref b2, .ref b3, .ref b4, .ref b5, .int b6, .ref b7, .int b8, .int b9, .int b10, .int b11, .ref b12, .ref b13, .ref b14, .int b15, .ref b16, .ref b17, .ref b18, .ref b19, .ref b20, .ref b21, .ref b22, .ref b23, .ref b24, .ref b25, .ref b26, .ref b27, .int b28, .ref b29, .ref b30, .int b31, .int b32, .int b33, .int b34, .ref b35, .ref b36, .ref b37, .ref b38, .ref b39, .ref b40, .ref b41, .int b42, .ref b43, .ref b44, .int b45, .ref b46, .ref b47, .ref b48, .ref b49, .ref b50, .int b51, .ref b52, .ref b53, .ref b54])), (b16, .inl (G.2 0, 2, .inl b55)), (b17, .inl (G.2 0, 4820, .inl b56)), (b20, .inl (G.2 0, 482, .inl b57))] (fun v w => ∃ (e0 : Nat → Int32), ∃ (e1 : Nat → Int32), ∃ (e2 : Nat → Int32), v = none ∧ w = [(b0, .inr (12, [.int b1, .ref b2, .ref b3, .ref b4, .ref b5, .int b6, .ref b7, .int b8, .int b9, .int b10, .int b11, .ref b12, .ref b13, .ref b14, .int b15, .ref b16, .ref b17, .ref b18, .ref b19, .ref b20, .ref b21, .ref b22, .ref b23, .ref b24, .ref b25, .ref b26, .ref b27, .int b28, .ref b29, .ref b30, .int b31, .int b32, .int b33, .int b34, .ref b35, .ref b36, .ref b37, .ref b38, .ref b39, .ref b40, .ref b41, .int b42, .ref b43, .ref b44, .int b45, .ref b46, .ref b47, .ref b48, .ref b49, .ref b50, .int b51, .ref b52, .ref b53, .ref b54])), (b16, .inl (G.2 0, 2, .inl e0)), (b17, .inl (G.2 0, 4820, .inl e1)), (b20, .inl (G.2 0, 482, .inl e2))] ∧ (zR e0 0 241) ∧ (zR e1 (-1) 240) ∧ (zqa qC e2) ∧ ((e0 (1 : Int32).toNatClampNeg).toInt = (b55 (1 : Int32).toNatClampNeg).toInt + 1) ∧ (zLm e1 2410 (10 * (e0 (1 : Int32).toNatClampNeg).toInt) (e0 (1 : Int32).toNatClampNeg).toInt) ∧ (∀ q : Nat, (q : Int) < 2410 + 10 * (b55 (1 : Int32).toNatClampNeg).toInt → e1 q = b56 q) ∧ (∀ q : Nat, e1 q = if ((2410 : Nat) : Int) + 10 * (b55 (1 : Int32).toNatClampNeg).toInt ≤ (q : Int) ∧ (q : Int) < ((2410 : Nat) : Int) + 10 * (b55 (1 : Int32).toNatClampNeg).toInt + 10 then -1 else b56 q)) := by
  refine z_start (by decide +kernel) (Nat.le_of_ble_eq_true rfl) ?_
  intro p e s m below meth c A Z hr hnm hA hP hD hS ls hl
  have Z : zC p s m _ meth c prog_14_method_26_code 4 "TraceMachinesModel" G := Z
  obtain ⟨hx, hb, hml, hown, hts, hK, hN, hlocks⟩ := id Z
  have hl : lv_has ls 4 [(0, .ref b0), (1, .int 1)] := hl
  refine lv_sipush (v := 241) hx hb d_Model_newPrefix_0 (by decide) ?_
  refine lv_iload_n hx hb d_Model_newPrefix_3 rfl (lv_at hl 1 rfl) ?_
  refine lv_imul hx hb d_Model_newPrefix_4 ?_
  refine z_topi (y := 241) (by decide +kernel) ?_
  refine lv_aload_n hx hb d_Model_newPrefix_5 rfl (lv_at hl 0 rfl) ?_
  refine va_get (D := G.1) (ci := 12) (v := .ref b16) (C := R_Model) (T := F_Model) (N := 54) hx hb hts i_Model hown hK hP 0 rfl rfl 15 (by decide) (hts _ q1124) (fun _ h9 => h9) rfl d_Model_newPrefix_6 ?_
  refine lv_iload_n hx hb d_Model_newPrefix_9 rfl (lv_at hl 1 rfl) ?_
  refine va_iald hx hb hK hP 1 0 rfl rfl (i := 1) (z_in rfl) d_Model_newPrefix_10 ?_
  refine lv_topi (fun v_1 ev_1 => ?_)
  have hv_1 : zI v_1 0 241 := (hb55 _).eq ev_1
  have hv_2 : zI v_1 0 240 := ⟨hv_1.1, by rw [← ev_1] at hnp; exact hnp⟩
  have hlvv_1 : zLm b56 2410 (10 * v_1.toInt) (v_1.toInt + 1) := by rw [ev_1]; exact hlm
  refine lv_iadd hx hb d_Model_newPrefix_11 ?_
  refine lv_topi (fun v_3 ev_3 => ?_)
  obtain ⟨qv_3, hv_3⟩ := zI_add (l := 241) (h := 481) zc_241 hv_2 ev_3 (by decide)
  rw [li_241] at qv_3
  refine lv_istore_n (lv' := [(2, .int v_3), (0, .ref b0), (1, .int 1)]) hx hb d_Model_newPrefix_12 rfl hl (by decide) rfl (fun ls hl => ?_)
  refine lv_iconst (v := 0) hx hb d_Model_newPrefix_13 (by decide) ?_
  refine lv_istore_n (lv' := [(3, .int 0), (2, .int v_3), (0, .ref b0), (1, .int 1)]) hx hb d_Model_newPrefix_14 rfl hl (by decide) rfl (fun ls hl => ?_)
  suffices key : ∀ (k_19 : Nat) (y_20 : Int32) (y_21 : Nat → Int32) (H : Heap) (locs : List Loc) (ls : Array Slot), (zI y_20 0 10) → (zR y_21 (-1) 240) → (∀ q : Nat, (q : Int) < 10 * (v_3 : Int32).toInt → y_21 q = b56 q) → (zLm y_21 2410 (10 * (v_3 : Int32).toInt - 2410 + (y_20 : Int32).toInt) ((v_3 : Int32).toInt - 241 + 1)) → (∀ q : Nat, y_21 q = if 10 * (v_3 : Int32).toInt ≤ (q : Int) ∧ (q : Int) < 10 * (v_3 : Int32).toInt + (y_20 : Int32).toInt then -1 else b56 q) → (10 : Int) - y_20.toInt < (k_19 : Int) → va_P G.1 classes [(b0, .inr (12, [.int b1, .ref b2, .ref b3, .ref b4, .ref b5, .int b6, .ref b7, .int b8, .int b9, .int b10, .int b11, .ref b12, .ref b13, .ref b14, .int b15, .ref b16, .ref b17, .ref b18, .ref b19, .ref b20, .ref b21, .ref b22, .ref b23, .ref b24, .ref b25, .ref b26, .ref b27, .int b28, .ref b29, .ref b30, .int b31, .int b32, .int b33, .int b34, .ref b35, .ref b36, .ref b37, .ref b38, .ref b39, .ref b40, .ref b41, .int b42, .ref b43, .ref b44, .int b45, .ref b46, .ref b47, .ref b48, .ref b49, .ref b50, .int b51, .ref b52, .ref b53, .ref b54])), (b16, .inl (G.2 0, 2, .inl b55)), (b17, .inl (G.2 0, 4820, .inl y_21)), (b20, .inl (G.2 0, 482, .inl b57))] H → va_D A [(b0, .inr (12, [.int b1, .ref b2, .ref b3, .ref b4, .ref b5, .int b6, .ref b7, .int b8, .int b9, .int b10, .int b11, .ref b12, .ref b13, .ref b14, .int b15, .ref b16, .ref b17, .ref b18, .ref b19, .ref b20, .ref b21, .ref b22, .ref b23, .ref b24, .ref b25, .ref b26, .ref b27, .int b28, .ref b29, .ref b30, .int b31, .int b32, .int b33, .int b34, .ref b35, .ref b36, .ref b37, .ref b38, .ref b39, .ref b40, .ref b41, .int b42, .ref b43, .ref b44, .int b45, .ref b46, .ref b47, .ref b48, .ref b49, .ref b50, .int b51, .ref b52, .ref b53, .ref b54])), (b16, .inl (G.2 0, 2, .inl b55)), (b17, .inl (G.2 0, 4820, .inl y_21)), (b20, .inl (G.2 0, 482, .inl b57))] → va_S A s.heap H locs → lv_has ls 4 [(3, .int y_20), (2, .int v_3), (0, .ref b0), (1, .int 1)] → W p l e m_s4_Model_newPrefix s m ([.ref b0, .int 1] : List Value).toArray below meth c H locs 0 0 (MQ below (zQ G (fun v w => ∃ (e0 : Nat → Int32), ∃ (e1 : Nat → Int32), ∃ (e2 : Nat → Int32), v = none ∧ w = [(b0, .inr (12, [.int b1, .ref b2, .ref b3, .ref b4, .ref b5, .int b6, .ref b7, .int b8, .int b9, .int b10, .int b11, .ref b12, .ref b13, .ref b14, .int b15, .ref b16, .ref b17, .ref b18, .ref b19, .ref b20, .ref b21, .ref b22, .ref b23, .ref b24, .ref b25, .ref b26, .ref b27, .int b28, .ref b29, .ref b30, .int b31, .int b32, .int b33, .int b34, .ref b35, .ref b36, .ref b37, .ref b38, .ref b39, .ref b40, .ref b41, .int b42, .ref b43, .ref b44, .int b45, .ref b46, .ref b47, .ref b48, .ref b49, .ref b50, .int b51, .ref b52, .ref b53, .ref b54])), (b16, .inl (G.2 0, 2, .inl e0)), (b17, .inl (G.2 0, 4820, .inl e1)), (b20, .inl (G.2 0, 482, .inl e2))] ∧ (zR e0 0 241) ∧ (zR e1 (-1) 240) ∧ (zqa qC e2) ∧ ((e0 (1 : Int32).toNatClampNeg).toInt = (b55 (1 : Int32).toNatClampNeg).toInt + 1) ∧ (zLm e1 2410 (10 * (e0 (1 : Int32).toNatClampNeg).toInt) (e0 (1 : Int32).toNatClampNeg).toInt) ∧ (∀ q : Nat, (q : Int) < 2410 + 10 * (b55 (1 : Int32).toNatClampNeg).toInt → e1 q = b56 q) ∧ (∀ q : Nat, e1 q = if ((2410 : Nat) : Int) + 10 * (b55 (1 : Int32).toNatClampNeg).toInt ≤ (q : Int) ∧ (q : Int) < ((2410 : Nat) : Int) + 10 * (b55 (1 : Int32).toNatClampNeg).toInt + 10 then -1 else b56 q)) A) ([.ref b0, .int 1] : List Value).toArray s m_s4_Model_newPrefix.cells m_s4_Model_newPrefix.slots A) (F0 m 15 ls []) by
    exact key 11 (0) (b56) _ _ _ (zI.wk (l' := 0) (h' := 10) zc_0 (by decide)) hb56 (fun _ _ => rfl) (by have _l0 := li_0; intro q h1 h2; have := hlvv_1 q h1 (by omega); omega) (by have _l0 := li_0; intro q; rw [if_neg (by omega)]) (zm_upi (zI.wk (l' := 0) (h' := 10) zc_0 (by decide)) (by decide)) hP hD hS (lv_sub hl [0, 1, 2, 3] rfl)
  intro k_19
  induction k_19 with
  | zero =>
    intro y_20 y_21 H locs ls hy_20 hy_21 hli_22 hli_23 hli_24 hmk_19 hP hD hS hl
    exact (zm_up0 hy_20 hmk_19).elim
  | succ k_19 ihk_19 =>
    intro y_20 y_21 H locs ls hy_20 hy_21 hli_22 hli_23 hli_24 hmk_19 hP hD hS hl
    refine lv_iload_n hx hb d_Model_newPrefix_15 rfl (lv_at hl 0 rfl) ?_
    refine lv_bipush (v := 10) hx hb d_Model_newPrefix_16 (by decide) ?_
    refine lv_icmp_ge (tgt := 39) hx hb d_Model_newPrefix_18 (by decide) (fun hc_25 => ?_) (fun hc_25 => ?_)
    · have _nhc_25 := hc_25
      have ni_26 := (fa_le _ _).mp hc_25
      rw [li_10] at ni_26
      have hv_27 : zI y_20 10 10 := zI.le_r zc_10 hy_20 hc_25 (by decide)
      refine lv_aload_n hx hb d_Model_newPrefix_39 rfl (lv_at hl 2 rfl) ?_
      refine va_get (D := G.1) (ci := 12) (v := .ref b20) (C := R_Model) (T := F_Model) (N := 54) hx hb hts i_Model hown hK hP 0 rfl rfl 19 (by decide) (hts _ q1128) (fun _ h9 => h9) rfl d_Model_newPrefix_40 ?_
      refine lv_iload_n hx hb d_Model_newPrefix_43 rfl (lv_at hl 1 rfl) ?_
      refine lv_iconst (v := 0) hx hb d_Model_newPrefix_44 (by decide) ?_
      refine va_iast hx hb hK hP hD hS 3 0 rfl rfl (zI.inn hv_3 (by decide)) d_Model_newPrefix_45 (fun H locs hP hD hS => ?_)
      obtain ⟨f_28, hf_28, gf_28, uf_28, hP, hD⟩ := z_newq_ (Q := qC) 3 hP hD rfl hb57 (qC_v hv_3 (by decide) ⟨⟨by have _w := li_0; have _x := hv_3; omega, by have _w := li_0; have _x := hv_3; omega⟩, by have _w := li_0; have _x := hv_3; omega⟩)
      have hP : va_P G.1 classes [(b0, .inr (12, [.int b1, .ref b2, .ref b3, .ref b4, .ref b5, .int b6, .ref b7, .int b8, .int b9, .int b10, .int b11, .ref b12, .ref b13, .ref b14, .int b15, .ref b16, .ref b17, .ref b18, .ref b19, .ref b20, .ref b21, .ref b22, .ref b23, .ref b24, .ref b25, .ref b26, .ref b27, .int b28, .ref b29, .ref b30, .int b31, .int b32, .int b33, .int b34, .ref b35, .ref b36, .ref b37, .ref b38, .ref b39, .ref b40, .ref b41, .int b42, .ref b43, .ref b44, .int b45, .ref b46, .ref b47, .ref b48, .ref b49, .ref b50, .int b51, .ref b52, .ref b53, .ref b54])), (b16, .inl (G.2 0, 2, .inl b55)), (b17, .inl (G.2 0, 4820, .inl y_21)), (b20, .inl (G.2 0, 482, .inl f_28))] H := hP
      have hD := z_tie hP hD rfl
      refine lv_aload_n hx hb d_Model_newPrefix_46 rfl (lv_at hl 2 rfl) ?_
      refine va_get (D := G.1) (ci := 12) (v := .ref b16) (C := R_Model) (T := F_Model) (N := 54) hx hb hts i_Model hown hK hP 0 rfl rfl 15 (by decide) (hts _ q1124) (fun _ h9 => h9) rfl d_Model_newPrefix_47 ?_
      refine lv_iload_n hx hb d_Model_newPrefix_50 rfl (lv_at hl 3 rfl) ?_
      refine lv_dup2_11 hx hb d_Model_newPrefix_51 rfl rfl ?_
      refine va_iald hx hb hK hP 1 0 rfl rfl (i := 1) (z_in rfl) d_Model_newPrefix_52 ?_
      refine lv_topi (fun v_29 ev_29 => ?_)
      obtain rfl : v_1 = v_29 := ev_1.trans ev_29.symm
      refine lv_iconst (v := 1) hx hb d_Model_newPrefix_53 (by decide) ?_
      refine lv_iadd hx hb d_Model_newPrefix_54 ?_
      refine lv_topi (fun v_30 ev_30 => ?_)
      obtain ⟨qv_30, hv_30⟩ := zI_add (l := 1) (h := 241) hv_2 zc_1 ev_30 (by decide)
      rw [li_1] at qv_30
      refine va_iast hx hb hK hP hD hS 1 0 rfl rfl (i := 1) (z_in rfl) d_Model_newPrefix_55 (fun H locs hP hD hS => ?_)
      obtain ⟨f_31, hf_31, gf_31, uf_31, hP, hD⟩ := z_newfu 1 hP hD rfl hb55 (zI.wk (l' := 0) (h' := 241) hv_30 (by decide))
      have hP : va_P G.1 classes [(b0, .inr (12, [.int b1, .ref b2, .ref b3, .ref b4, .ref b5, .int b6, .ref b7, .int b8, .int b9, .int b10, .int b11, .ref b12, .ref b13, .ref b14, .int b15, .ref b16, .ref b17, .ref b18, .ref b19, .ref b20, .ref b21, .ref b22, .ref b23, .ref b24, .ref b25, .ref b26, .ref b27, .int b28, .ref b29, .ref b30, .int b31, .int b32, .int b33, .int b34, .ref b35, .ref b36, .ref b37, .ref b38, .ref b39, .ref b40, .ref b41, .int b42, .ref b43, .ref b44, .int b45, .ref b46, .ref b47, .ref b48, .ref b49, .ref b50, .int b51, .ref b52, .ref b53, .ref b54])), (b16, .inl (G.2 0, 2, .inl f_31)), (b17, .inl (G.2 0, 4820, .inl y_21)), (b20, .inl (G.2 0, 482, .inl f_28))] H := hP
      have hD := z_tie hP hD rfl
      exact z_vret hx hb hr hlocks hP hD hS (Nat.le_of_ble_eq_true rfl) (Nat.le_of_ble_eq_true rfl) d_Model_newPrefix_56 ⟨f_31, y_21, f_28, rfl, rfl, hf_31, hy_21, hf_28, (by rw [gf_31, qv_30, ev_1]), (by intro q h1 h2; rw [gf_31] at h2 ⊢; have := hli_23 q h1 (by omega); omega), (by intro q hq; exact hli_22 q (by rw [← ev_1] at hq; omega)), (by have _l0 := li_10; intro q; have j9 := hli_24 q; have e9 := congrArg Int32.toInt ev_1; rw [show y_20.toInt = 10 by omega] at j9; rw [j9]; by_cases c : 10 * v_3.toInt ≤ (q : Int) ∧ (q : Int) < 10 * v_3.toInt + 10; (rw [if_pos c, if_pos (by omega)]); rw [if_neg c, if_neg (by omega)])⟩
    · have _nhc_25 := hc_25
      have ni_32 := (fa_lt _ _).mp (zi_nle hc_25)
      rw [li_10] at ni_32
      have hv_33 : zI y_20 0 9 := zI.lt_l hy_20 zc_10 (zi_nle hc_25) (by decide)
      refine lv_aload_n hx hb d_Model_newPrefix_21 rfl (lv_at hl 2 rfl) ?_
      refine va_get (D := G.1) (ci := 12) (v := .ref b17) (C := R_Model) (T := F_Model) (N := 54) hx hb hts i_Model hown hK hP 0 rfl rfl 16 (by decide) (hts _ q1125) (fun _ h9 => h9) rfl d_Model_newPrefix_22 ?_
      refine lv_bipush (v := 10) hx hb d_Model_newPrefix_25 (by decide) ?_
      refine lv_iload_n hx hb d_Model_newPrefix_27 rfl (lv_at hl 1 rfl) ?_
      refine lv_imul hx hb d_Model_newPrefix_28 ?_
      refine lv_topi (fun v_34 ev_34 => ?_)
      obtain ⟨qv_34, hv_34⟩ := zI_mul (l := 2410) (h := 4810) zc_10 hv_3 ev_34 (by decide)
      rw [li_10] at qv_34
      refine lv_iload_n hx hb d_Model_newPrefix_29 rfl (lv_at hl 0 rfl) ?_
      refine lv_iadd hx hb d_Model_newPrefix_30 ?_
      refine lv_topi (fun v_35 ev_35 => ?_)
      obtain ⟨qv_35, hv_35⟩ := zI_add (l := 2410) (h := 4819) hv_34 hv_33 ev_35 (by decide)
      refine lv_iconst (v := (-1)) hx hb d_Model_newPrefix_31 (by decide) ?_
      refine va_iast hx hb hK hP hD hS 2 0 rfl rfl (zI.inn hv_35 (by decide)) d_Model_newPrefix_32 (fun H locs hP hD hS => ?_)
      obtain ⟨f_36, hf_36, gf_36, uf_36, hP, hD⟩ := z_newfu 2 hP hD rfl hy_21 (zI.wk (l' := (-1)) (h' := 240) zc_m1 (by decide))
      have hP : va_P G.1 classes [(b0, .inr (12, [.int b1, .ref b2, .ref b3, .ref b4, .ref b5, .int b6, .ref b7, .int b8, .int b9, .int b10, .int b11, .ref b12, .ref b13, .ref b14, .int b15, .ref b16, .ref b17, .ref b18, .ref b19, .ref b20, .ref b21, .ref b22, .ref b23, .ref b24, .ref b25, .ref b26, .ref b27, .int b28, .ref b29, .ref b30, .int b31, .int b32, .int b33, .int b34, .ref b35, .ref b36, .ref b37, .ref b38, .ref b39, .ref b40, .ref b41, .int b42, .ref b43, .ref b44, .int b45, .ref b46, .ref b47, .ref b48, .ref b49, .ref b50, .int b51, .ref b52, .ref b53, .ref b54])), (b16, .inl (G.2 0, 2, .inl b55)), (b17, .inl (G.2 0, 4820, .inl f_36)), (b20, .inl (G.2 0, 482, .inl b57))] H := hP
      have hD := z_tie hP hD rfl
      obtain ⟨v_37, ev_37⟩ : ∃ z : Int32, z = y_20 + 1 := ⟨_, rfl⟩
      obtain ⟨qv_37, hv_37⟩ := zI_add (l := 1) (h := 10) hv_33 zc_1 ev_37 (by decide)
      rw [li_1] at qv_37
      refine lv_iinc (v := v_37) (lv' := [(3, .int v_37), (2, .int v_3), (0, .ref b0), (1, .int 1)]) hx hb d_Model_newPrefix_33 hl (k := 0) rfl (by rw [ev_37]; rfl) (by decide) rfl (fun ls hl => ?_)
      refine lv_goto (tgt := 15) hx hb d_Model_newPrefix_36 (by decide) ?_
      exact ihk_19 (v_37) (f_36) _ _ _ (zI.wk (l' := 0) (h' := 10) hv_37 (by decide)) hf_36 (by have p9 := z_pl hv_35 (by decide); intro q hq; rw [uf_36, z_at, if_neg (by omega)]; exact hli_22 q hq) (by have _l0 := li_m1; have p9 := z_pl hv_35 (by decide); intro q h1 h2; rw [uf_36, z_at]; split; omega; exact hli_23 q h1 (by omega)) (by have p9 := z_pl hv_35 (by decide); intro q; rw [uf_36, z_at]; by_cases c : q = v_35.toNatClampNeg; (rw [if_pos c, if_pos (by omega)]); (rw [if_neg c, hli_24 q]; by_cases c2 : 10 * v_3.toInt ≤ (q : Int) ∧ (q : Int) < 10 * v_3.toInt + y_20.toInt; (rw [if_pos c2, if_pos (by omega)]); rw [if_neg c2, if_neg (by omega)])) (zm_up qv_37 hmk_19 (by decide)) hP hD hS (lv_sub hl [0, 1, 2, 3] rfl)
abbrev m_s3_Model_layPrefixes : Room := { frames := 1, cells := 0, slots := 0, locals := 23 }
set_option maxHeartbeats 4000000 in
set_option maxRecDepth 100000 in
theorem s3_Model_layPrefixes (l : Launch) (G : zG) (b0 : Nat) (b1 : Int32) (b2 : Int32) (b3 : Nat) (b4 : Nat) (b5 : Nat) (b6 : Nat) (b7 : Int32) (b8 : Nat) (b9 : Int32) (b10 : Int32) (b11 : Int32) (b12 : Int32) (b13 : Nat) (b14 : Nat) (b15 : Nat) (b16 : Int32) (b17 : Nat) (b18 : Nat) (b19 : Nat) (b20 : Nat) (b21 : Nat) (b22 : Nat) (b23 : Nat) (b24 : Nat) (b25 : Nat) (b26 : Nat) (b27 : Nat) (b28 : Nat) (b29 : Int32) (b30 : Nat) (b31 : Nat) (b32 : Int32) (b33 : Int32) (b34 : Int32) (b35 : Int32) (b36 : Nat) (b37 : Nat) (b38 : Nat) (b39 : Nat) (b40 : Nat) (b41 : Nat) (b42 : Nat) (b43 : Int32) (b44 : Nat) (b45 : Nat) (b46 : Int32) (b47 : Nat) (b48 : Nat) (b49 : Nat) (b50 : Nat) (b51 : Nat) (b52 : Int32) (b53 : Nat) (b54 : Nat) (b55 : Nat) (b56 : Nat → Int32) (b57 : Nat → Int32) (b58 : Nat → Int32) (b59 : Nat → Int32) (b60 : Nat → Int32) (hb1 : zI b1 (-1) 19) (hb7 : zI b7 0 8) (hb9 : zI b9 0 240) (hb10 : zI b10 0 240) (hb12 : zI b12 0 1) (hb16 : zI b16 0 12) (hb29 : zI b29 0 1) (hb32 : zI b32 0 1) (hb43 : zI b43 0 1000) (hb46 : zI b46 0 1000) (hb52 : zI b52 0 400) (hb56 : zW5 b56) (hb57 : zR b57 0 241) (hb58 : zR b58 (-1) 240) (hb59 : zqa qP b59) (hb60 : zqa qC b60) : zM l G y_Model_layPrefixes prog_14_method_27_code 7 (Option.none : Option Jvm.ClassFile.FieldType) m_s3_Model_layPrefixes [.ref b0, .int 0, .int b1] [(b0, .inr (12, [.int b2, .ref b3, .ref b4, .ref b5, .ref b6, .int b7, .ref b8, .int b9, .int b10, .int b11, .int b12, .ref b13, .ref b14, .ref b15, .int b16, .ref b17, .ref b18, .ref b19, .ref b20, .ref b21, .ref b22, .ref b23, .ref b24, .ref b25, .ref b26, .ref b27, .ref b28, .int b29, .ref b30, .ref b31, .int b32, .int b33, .int b34, .int b35, .ref b36, .ref b37, .ref b38, .ref b39, .ref b40, .ref b41, .ref b42, .int b43, .ref b44, .ref b45, .int b46, .ref b47, .ref b48, .ref b49, .ref b50, .ref b51, .int b52, .ref b53, .ref b54, .ref b55])), (b3, .inl (G.2 0, 503, .inl b56)), (b17, .inl (G.2 0, 2, .inl b57)), (b18, .inl (G.2 0, 4820, .inl b58)), (b19, .inl (G.2 0, 520, .inl b59)), (b21, .inl (G.2 0, 482, .inl b60))] (fun v w => ∃ (e0 : Nat → Int32), ∃ (e1 : Nat → Int32), ∃ (e2 : Nat → Int32), ∃ (e3 : Nat → Int32), v = none ∧ w = [(b0, .inr (12, [.int b2, .ref b3, .ref b4, .ref b5, .ref b6, .int b7, .ref b8, .int b9, .int b10, .int b11, .int b12, .ref b13, .ref b14, .ref b15, .int b16, .ref b17, .ref b18, .ref b19, .ref b20, .ref b21, .ref b22, .ref b23, .ref b24, .ref b25, .ref b26, .ref b27, .ref b28, .int b29, .ref b30, .ref b31, .int b32, .int b33, .int b34, .int b35, .ref b36, .ref b37, .ref b38, .ref b39, .ref b40, .ref b41, .ref b42, .int b43, .ref b44, .ref b45, .int b46, .ref b47, .ref b48, .ref b49, .ref b50, .ref b51, .int b52, .ref b53, .ref b54, .ref b55])), (b3, .inl (G.2 0, 503, .inl b56)), (b17, .inl (G.2 0, 2, .inl e0)), (b18, .inl (G.2 0, 4820, .inl e1)), (b19, .inl (G.2 0, 520, .inl e2)), (b21, .inl (G.2 0, 482, .inl e3))] ∧ (zR e0 0 241) ∧ (zR e1 (-1) 240) ∧ (zqa qP e2) ∧ (zqa qC e3) ∧ (zTm ((b56 (0 : Int32).toNatClampNeg).toInt) (b1 : Int32).toInt (e0 (0 : Int32).toNatClampNeg).toInt 0 b56 e2) ∧ (1 ≤ (e0 (0 : Int32).toNatClampNeg).toInt) ∧ (∀ t : Nat, (t : Int) < (b56 (0 : Int32).toNatClampNeg).toInt → (e2 (13 * t)).toInt = 0) ∧ ((e0 (0 : Int32).toNatClampNeg).toInt = ((ytr (zgR b56) (zcR b56) (b1 : Int32).toInt (b56 0).toInt.toNat).1 : Int) ∧ yPL (zgR b56) (zcR b56) (b1 : Int32).toInt (b56 0).toInt.toNat 0 e2)) := by
  refine z_start (by decide +kernel) (Nat.le_of_ble_eq_true rfl) ?_
  intro p e s m below meth c A Z hr hnm hA hP hD hS ls hl
  have Z : zC p s m _ meth c prog_14_method_27_code 7 "TraceMachinesModel" G := Z
  obtain ⟨hx, hb, hml, hown, hts, hK, hN, hlocks⟩ := id Z
  have hl : lv_has ls 7 [(0, .ref b0), (1, .int 0), (2, .int b1)] := hl
  refine lv_aload_n hx hb d_Model_layPrefixes_0 rfl (lv_at hl 0 rfl) ?_
  refine va_get (D := G.1) (ci := 12) (v := .ref b17) (C := R_Model) (T := F_Model) (N := 54) hx hb hts i_Model hown hK hP 0 rfl rfl 15 (by decide) (hts _ q1124) (fun _ h9 => h9) rfl d_Model_layPrefixes_1 ?_
  refine lv_iload_n hx hb d_Model_layPrefixes_4 rfl (lv_at hl 1 rfl) ?_
  refine lv_iconst (v := 0) hx hb d_Model_layPrefixes_5 (by decide) ?_
  refine va_iast hx hb hK hP hD hS 2 0 rfl rfl (i := 0) (z_in rfl) d_Model_layPrefixes_6 (fun H locs hP hD hS => ?_)
  obtain ⟨f_1, hf_1, gf_1, uf_1, hP, hD⟩ := z_newfu 2 hP hD rfl hb57 (zI.wk (l' := 0) (h' := 241) zc_0 (by decide))
  have hP : va_P G.1 classes [(b0, .inr (12, [.int b2, .ref b3, .ref b4, .ref b5, .ref b6, .int b7, .ref b8, .int b9, .int b10, .int b11, .int b12, .ref b13, .ref b14, .ref b15, .int b16, .ref b17, .ref b18, .ref b19, .ref b20, .ref b21, .ref b22, .ref b23, .ref b24, .ref b25, .ref b26, .ref b27, .ref b28, .int b29, .ref b30, .ref b31, .int b32, .int b33, .int b34, .int b35, .ref b36, .ref b37, .ref b38, .ref b39, .ref b40, .ref b41, .ref b42, .int b43, .ref b44, .ref b45, .int b46, .ref b47, .ref b48, .ref b49, .ref b50, .ref b51, .int b52, .ref b53, .ref b54, .ref b55])), (b3, .inl (G.2 0, 503, .inl b56)), (b17, .inl (G.2 0, 2, .inl f_1)), (b18, .inl (G.2 0, 4820, .inl b58)), (b19, .inl (G.2 0, 520, .inl b59)), (b21, .inl (G.2 0, 482, .inl b60))] H := hP
  have hD := z_tie hP hD rfl
  refine lv_aload_n hx hb d_Model_layPrefixes_7 rfl (lv_at hl 0 rfl) ?_
  refine lv_iload_n hx hb d_Model_layPrefixes_8 rfl (lv_at hl 1 rfl) ?_
  refine z_callV (index := 199) (As := [.int 0]) (rest := []) (wr := [(b3, .inl (G.2 0, 503, .inl b56)), (b19, .inl (G.2 0, 520, .inl b59))]) Z (s3_Model_newPrefix l G (b0) (b2) (b3) (b4) (b5) (b6) (b7) (b8) (b9) (b10) (b11) (b12) (b13) (b14) (b15) (b16) (b17) (b18) (b19) (b20) (b21) (b22) (b23) (b24) (b25) (b26) (b27) (b28) (b29) (b30) (b31) (b32) (b33) (b34) (b35) (b36) (b37) (b38) (b39) (b40) (b41) (b42) (b43) (b44) (b45) (b46) (b47) (b48) (b49) (b50) (b51) (b52) (b53) (b54) (b55) (f_1) (b58) (b60) hb7 hb9 hb10 hb12 hb16 hb29 hb32 hb43 hb46 hb52 hf_1 hb58 hb60 (by rw [gf_1]; have _l := li_0; omega) (by intro q h1 h2; rw [gf_1] at h2; have _l := li_0; omega)) hl.1 q1368 q1370 qs58 q14 q1371 ⟨by decide, by decide, by show _ = some 1; decide +kernel⟩ ⟨Nat.le_of_ble_eq_true rfl, Nat.le_of_ble_eq_true rfl⟩ ⟨Nat.le_of_ble_eq_true rfl, Nat.le_of_ble_eq_true rfl⟩ rfl (Nat.le_of_ble_eq_true rfl) d_Model_layPrefixes_9 hP hD hS hA 0 12 rfl rfl rfl [0, 2, 3, 5] [1, 4] rfl rfl rfl rfl (by decide) (fun v w1 H locs hw_2 hP hD hS => ?_)
  obtain ⟨f_3, f_4, f_5, rfl, rfl, hf_3, hf_4, hf_5, hfx_6, hfx_7, hfx_8, hfx_9⟩ := hw_2
  have hP : va_P G.1 classes [(b3, .inl (G.2 0, 503, .inl b56)), (b19, .inl (G.2 0, 520, .inl b59)), (b0, .inr (12, [.int b2, .ref b3, .ref b4, .ref b5, .ref b6, .int b7, .ref b8, .int b9, .int b10, .int b11, .int b12, .ref b13, .ref b14, .ref b15, .int b16, .ref b17, .ref b18, .ref b19, .ref b20, .ref b21, .ref b22, .ref b23, .ref b24, .ref b25, .ref b26, .ref b27, .ref b28, .int b29, .ref b30, .ref b31, .int b32, .int b33, .int b34, .int b35, .ref b36, .ref b37, .ref b38, .ref b39, .ref b40, .ref b41, .ref b42, .int b43, .ref b44, .ref b45, .int b46, .ref b47, .ref b48, .ref b49, .ref b50, .ref b51, .int b52, .ref b53, .ref b54, .ref b55])), (b17, .inl (G.2 0, 2, .inl f_3)), (b18, .inl (G.2 0, 4820, .inl f_4)), (b21, .inl (G.2 0, 482, .inl f_5))] H := hP
  have hD := z_tie hP hD rfl
  refine W.widen (k := 0) (n := 0) (Nat.le_of_ble_eq_true rfl) (Nat.le_of_ble_eq_true rfl) ?_
  refine lv_iconst (v := 0) hx hb d_Model_layPrefixes_12 (by decide) ?_
  refine lv_istore_n (lv' := [(3, .int 0), (0, .ref b0), (1, .int 0), (2, .int b1)]) hx hb d_Model_layPrefixes_13 rfl hl (by decide) rfl (fun ls hl => ?_)
  suffices key : ∀ (k_142 : Nat) (y_143 : Int32) (y_144 : Nat → Int32) (y_145 : Nat → Int32) (y_146 : Nat → Int32) (y_147 : Nat → Int32) (H : Heap) (locs : List Loc) (ls : Array Slot), (zI y_143 0 20) → (zR y_144 0 241) → (zR y_145 (-1) 240) → (zqa qP y_146) → (zqa qC y_147) → ((y_144 (0 : Int32).toNatClampNeg).toInt ≤ 12 * (y_143 : Int32).toInt + 1 ∧ 1 ≤ (y_144 (0 : Int32).toNatClampNeg).toInt) → (zLm y_145 0 (10 * (y_144 (0 : Int32).toNatClampNeg).toInt) (y_144 (0 : Int32).toNatClampNeg).toInt) → (zTm ((y_143 : Int32).toInt) (b1 : Int32).toInt (y_144 (0 : Int32).toNatClampNeg).toInt 0 b56 y_146) → (∀ t : Nat, (t : Int) < (y_143 : Int32).toInt → (y_146 (13 * t)).toInt = 0) → ((y_143 : Int32).toInt ≤ (b56 0).toInt) → (yRA (ytr (zgR b56) (zcR b56) (b1 : Int32).toInt (y_143 : Int32).toInt.toNat) 0 (y_144 (0 : Int32).toNatClampNeg).toInt y_145 ∧ yPL (zgR b56) (zcR b56) (b1 : Int32).toInt (y_143 : Int32).toInt.toNat 0 y_146) → (20 : Int) - y_143.toInt < (k_142 : Int) → va_P G.1 classes [(b3, .inl (G.2 0, 503, .inl b56)), (b19, .inl (G.2 0, 520, .inl y_146)), (b0, .inr (12, [.int b2, .ref b3, .ref b4, .ref b5, .ref b6, .int b7, .ref b8, .int b9, .int b10, .int b11, .int b12, .ref b13, .ref b14, .ref b15, .int b16, .ref b17, .ref b18, .ref b19, .ref b20, .ref b21, .ref b22, .ref b23, .ref b24, .ref b25, .ref b26, .ref b27, .ref b28, .int b29, .ref b30, .ref b31, .int b32, .int b33, .int b34, .int b35, .ref b36, .ref b37, .ref b38, .ref b39, .ref b40, .ref b41, .ref b42, .int b43, .ref b44, .ref b45, .int b46, .ref b47, .ref b48, .ref b49, .ref b50, .ref b51, .int b52, .ref b53, .ref b54, .ref b55])), (b17, .inl (G.2 0, 2, .inl y_144)), (b18, .inl (G.2 0, 4820, .inl y_145)), (b21, .inl (G.2 0, 482, .inl y_147))] H → va_D A [(b3, .inl (G.2 0, 503, .inl b56)), (b19, .inl (G.2 0, 520, .inl y_146)), (b0, .inr (12, [.int b2, .ref b3, .ref b4, .ref b5, .ref b6, .int b7, .ref b8, .int b9, .int b10, .int b11, .int b12, .ref b13, .ref b14, .ref b15, .int b16, .ref b17, .ref b18, .ref b19, .ref b20, .ref b21, .ref b22, .ref b23, .ref b24, .ref b25, .ref b26, .ref b27, .ref b28, .int b29, .ref b30, .ref b31, .int b32, .int b33, .int b34, .int b35, .ref b36, .ref b37, .ref b38, .ref b39, .ref b40, .ref b41, .ref b42, .int b43, .ref b44, .ref b45, .int b46, .ref b47, .ref b48, .ref b49, .ref b50, .ref b51, .int b52, .ref b53, .ref b54, .ref b55])), (b17, .inl (G.2 0, 2, .inl y_144)), (b18, .inl (G.2 0, 4820, .inl y_145)), (b21, .inl (G.2 0, 482, .inl y_147))] → va_S A s.heap H locs → lv_has ls 7 [(3, .int y_143), (0, .ref b0), (1, .int 0), (2, .int b1)] → W p l e m_s3_Model_layPrefixes s m ([.ref b0, .int 0, .int b1] : List Value).toArray below meth c H locs 0 0 (MQ below (zQ G (fun v w => ∃ (e0 : Nat → Int32), ∃ (e1 : Nat → Int32), ∃ (e2 : Nat → Int32), ∃ (e3 : Nat → Int32), v = none ∧ w = [(b0, .inr (12, [.int b2, .ref b3, .ref b4, .ref b5, .ref b6, .int b7, .ref b8, .int b9, .int b10, .int b11, .int b12, .ref b13, .ref b14, .ref b15, .int b16, .ref b17, .ref b18, .ref b19, .ref b20, .ref b21, .ref b22, .ref b23, .ref b24, .ref b25, .ref b26, .ref b27, .ref b28, .int b29, .ref b30, .ref b31, .int b32, .int b33, .int b34, .int b35, .ref b36, .ref b37, .ref b38, .ref b39, .ref b40, .ref b41, .ref b42, .int b43, .ref b44, .ref b45, .int b46, .ref b47, .ref b48, .ref b49, .ref b50, .ref b51, .int b52, .ref b53, .ref b54, .ref b55])), (b3, .inl (G.2 0, 503, .inl b56)), (b17, .inl (G.2 0, 2, .inl e0)), (b18, .inl (G.2 0, 4820, .inl e1)), (b19, .inl (G.2 0, 520, .inl e2)), (b21, .inl (G.2 0, 482, .inl e3))] ∧ (zR e0 0 241) ∧ (zR e1 (-1) 240) ∧ (zqa qP e2) ∧ (zqa qC e3) ∧ (zTm ((b56 (0 : Int32).toNatClampNeg).toInt) (b1 : Int32).toInt (e0 (0 : Int32).toNatClampNeg).toInt 0 b56 e2) ∧ (1 ≤ (e0 (0 : Int32).toNatClampNeg).toInt) ∧ (∀ t : Nat, (t : Int) < (b56 (0 : Int32).toNatClampNeg).toInt → (e2 (13 * t)).toInt = 0) ∧ ((e0 (0 : Int32).toNatClampNeg).toInt = ((ytr (zgR b56) (zcR b56) (b1 : Int32).toInt (b56 0).toInt.toNat).1 : Int) ∧ yPL (zgR b56) (zcR b56) (b1 : Int32).toInt (b56 0).toInt.toNat 0 e2)) A) ([.ref b0, .int 0, .int b1] : List Value).toArray s m_s3_Model_layPrefixes.cells m_s3_Model_layPrefixes.slots A) (F0 m 14 ls []) by
    exact key 21 (0) (f_3) (f_4) (b59) (f_5) _ _ _ (zI.wk (l' := 0) (h' := 20) zc_0 (by decide)) hf_3 hf_4 hb59 hf_5 (by have h9 := hfx_6; rw [gf_1] at h9; have _l0 := li_0; omega) hfx_7 (by have _l0 := li_0; intro t i h1 h2 h3; omega) (by have _l0 := li_0; intro t ht; omega) (by have a9 := (hb56 0).1 rfl; have a8 := a9.1; have _l0 := li_0; omega) (by rw [show (0 : Int32).toInt.toNat = 0 by rw [li_0]; rfl]; exact yRA_0 (by have h9 := hfx_6; rw [gf_1] at h9; have _l0 := li_0; omega) (fun j hj => by rw [hfx_9]; rw [if_pos (by rw [gf_1]; have _l0 := li_0; omega)]; exact li_m1)) (zm_upi (zI.wk (l' := 0) (h' := 20) zc_0 (by decide)) (by decide)) hP hD hS (lv_sub hl [0, 1, 2, 3] rfl)
  intro k_142
  induction k_142 with
  | zero =>
    intro y_143 y_144 y_145 y_146 y_147 H locs ls hy_143 hy_144 hy_145 hy_146 hy_147 hli_148 hli_149 hli_150 hli_151 hli_152 hli_153 hmk_142 hP hD hS hl
    exact (zm_up0 hy_143 hmk_142).elim
  | succ k_142 ihk_142 =>
    intro y_143 y_144 y_145 y_146 y_147 H locs ls hy_143 hy_144 hy_145 hy_146 hy_147 hli_148 hli_149 hli_150 hli_151 hli_152 hli_153 hmk_142 hP hD hS hl
    refine lv_iload_n hx hb d_Model_layPrefixes_14 rfl (lv_at hl 0 rfl) ?_
    refine lv_aload_n hx hb d_Model_layPrefixes_15 rfl (lv_at hl 1 rfl) ?_
    refine z_callV (index := 134) (As := []) (rest := [.int y_143]) (wr := [(b19, .inl (G.2 0, 520, .inl y_146)), (b17, .inl (G.2 0, 2, .inl y_144)), (b18, .inl (G.2 0, 4820, .inl y_145)), (b21, .inl (G.2 0, 482, .inl y_147))]) Z (s1_Model_many l G (b0) (b2) (b3) (b4) (b5) (b6) (b7) (b8) (b9) (b10) (b11) (b12) (b13) (b14) (b15) (b16) (b17) (b18) (b19) (b20) (b21) (b22) (b23) (b24) (b25) (b26) (b27) (b28) (b29) (b30) (b31) (b32) (b33) (b34) (b35) (b36) (b37) (b38) (b39) (b40) (b41) (b42) (b43) (b44) (b45) (b46) (b47) (b48) (b49) (b50) (b51) (b52) (b53) (b54) (b55) (b56) hb7 hb9 hb10 hb12 hb16 hb29 hb32 hb43 hb46 hb52 hb56) hl.1 q1320 q1322 qs51 q14 q1323 ⟨by decide, by decide, by show _ = some 0; decide +kernel⟩ ⟨Nat.le_of_ble_eq_true rfl, Nat.le_of_ble_eq_true rfl⟩ ⟨Nat.le_of_ble_eq_true rfl, Nat.le_of_ble_eq_true rfl⟩ rfl (Nat.le_of_ble_eq_true rfl) d_Model_layPrefixes_16 hP hD hS hA 2 12 rfl rfl rfl [2, 0] [1, 3, 4, 5] rfl rfl rfl rfl (by decide) (fun v w1 H locs hw_154 hP hD hS => ?_)
    obtain ⟨x_155, rfl, rfl, hx_155, hfx_156⟩ := hw_154
    have hP : va_P G.1 classes [(b19, .inl (G.2 0, 520, .inl y_146)), (b17, .inl (G.2 0, 2, .inl y_144)), (b18, .inl (G.2 0, 4820, .inl y_145)), (b21, .inl (G.2 0, 482, .inl y_147)), (b0, .inr (12, [.int b2, .ref b3, .ref b4, .ref b5, .ref b6, .int b7, .ref b8, .int b9, .int b10, .int b11, .int b12, .ref b13, .ref b14, .ref b15, .int b16, .ref b17, .ref b18, .ref b19, .ref b20, .ref b21, .ref b22, .ref b23, .ref b24, .ref b25, .ref b26, .ref b27, .ref b28, .int b29, .ref b30, .ref b31, .int b32, .int b33, .int b34, .int b35, .ref b36, .ref b37, .ref b38, .ref b39, .ref b40, .ref b41, .ref b42, .int b43, .ref b44, .ref b45, .int b46, .ref b47, .ref b48, .ref b49, .ref b50, .ref b51, .int b52, .ref b53, .ref b54, .ref b55])), (b3, .inl (G.2 0, 503, .inl b56))] H := hP
    have hD := z_tie hP hD rfl
    refine W.widen (k := 0) (n := 0) (Nat.le_of_ble_eq_true rfl) (Nat.le_of_ble_eq_true rfl) ?_
    refine lv_icmp_ge (tgt := 152) hx hb d_Model_layPrefixes_19 (by decide) (fun hc_157 => ?_) (fun hc_157 => ?_)
    · have _nhc_157 := hc_157
      have ni_158 := (fa_le _ _).mp hc_157
      exact z_vret hx hb hr hlocks (hP.sub [4, 5, 1, 2, 0, 3] rfl) (hD.sub [4, 5, 1, 2, 0, 3] (by decide) rfl) hS (Nat.le_of_ble_eq_true rfl) (Nat.le_of_ble_eq_true rfl) d_Model_layPrefixes_152 ⟨y_144, y_145, y_146, y_147, rfl, rfl, hy_144, hy_145, hy_146, hy_147, (by intro t i h1 h2 h3; exact hli_150 t i (by rw [← hfx_156] at h1; omega) h2 h3), (by omega), (by intro t ht; exact hli_151 t (by rw [← hfx_156] at ht; omega)), (by have m9 := congrArg Int32.toInt hfx_156; rw [z_n0] at m9; have j9 := hli_153; rw [show y_143.toInt.toNat = (b56 0).toInt.toNat by omega] at j9; exact ⟨j9.1.1, j9.2⟩)⟩
    · have _nhc_157 := hc_157
      have ni_159 := (fa_lt _ _).mp (zi_nle hc_157)
      have hv_160 : zI y_143 0 19 := zI.lt_l hy_143 hx_155 (zi_nle hc_157) (by decide)
      have hv_161 : zI x_155 1 20 := zI.lt_r hy_143 hx_155 (zi_nle hc_157) (by decide)
      refine lv_iconst (v := 0) hx hb d_Model_layPrefixes_22 (by decide) ?_
      refine lv_istore (lv' := [(4, .int 0), (3, .int y_143), (0, .ref b0), (1, .int 0), (2, .int b1)]) hx hb d_Model_layPrefixes_23 hl (by decide) rfl (fun ls hl => ?_)
      refine lv_aload_n hx hb d_Model_layPrefixes_25 rfl (lv_at hl 2 rfl) ?_
      refine va_get (D := G.1) (ci := 12) (v := .ref b19) (C := R_Model) (T := F_Model) (N := 54) hx hb hts i_Model hown hK hP 4 rfl rfl 17 (by decide) (hts _ q1126) (fun _ h9 => h9) rfl d_Model_layPrefixes_26 ?_
      refine lv_sipush (v := 260) hx hb d_Model_layPrefixes_29 (by decide) ?_
      refine lv_iload_n hx hb d_Model_layPrefixes_32 rfl (lv_at hl 3 rfl) ?_
      refine lv_imul hx hb d_Model_layPrefixes_33 ?_
      refine z_topi (y := 0) (by decide +kernel) ?_
      refine lv_bipush (v := 13) hx hb d_Model_layPrefixes_34 (by decide) ?_
      refine lv_iload_n hx hb d_Model_layPrefixes_36 rfl (lv_at hl 1 rfl) ?_
      refine lv_imul hx hb d_Model_layPrefixes_37 ?_
      refine lv_topi (fun v_162 ev_162 => ?_)
      obtain ⟨qv_162, hv_162⟩ := zI_mul (l := 0) (h := 247) zc_13 hv_160 ev_162 (by decide)
      rw [li_13] at qv_162
      refine lv_iadd hx hb d_Model_layPrefixes_38 ?_
      refine lv_topi (fun v_163 ev_163 => ?_)
      obtain ⟨qv_163, hv_163⟩ := zI_add (l := 0) (h := 247) zc_0 hv_162 ev_163 (by decide)
      rw [li_0] at qv_163
      refine lv_iconst (v := 0) hx hb d_Model_layPrefixes_39 (by decide) ?_
      refine va_iast hx hb hK hP hD hS 0 0 rfl rfl (zI.inn hv_163 (by decide)) d_Model_layPrefixes_40 (fun H locs hP hD hS => ?_)
      obtain ⟨f_164, hf_164, gf_164, uf_164, hP, hD⟩ := z_newq_ (Q := qP) 0 hP hD rfl hy_146 (qP_v hv_163 (by decide) ⟨⟨by have _w := li_0; have _x := hv_163; omega, by have _w := li_0; have _x := hv_163; omega⟩, by have _w := li_0; have _x := hv_163; omega⟩)
      have hP : va_P G.1 classes [(b19, .inl (G.2 0, 520, .inl f_164)), (b17, .inl (G.2 0, 2, .inl y_144)), (b18, .inl (G.2 0, 4820, .inl y_145)), (b21, .inl (G.2 0, 482, .inl y_147)), (b0, .inr (12, [.int b2, .ref b3, .ref b4, .ref b5, .ref b6, .int b7, .ref b8, .int b9, .int b10, .int b11, .int b12, .ref b13, .ref b14, .ref b15, .int b16, .ref b17, .ref b18, .ref b19, .ref b20, .ref b21, .ref b22, .ref b23, .ref b24, .ref b25, .ref b26, .ref b27, .ref b28, .int b29, .ref b30, .ref b31, .int b32, .int b33, .int b34, .int b35, .ref b36, .ref b37, .ref b38, .ref b39, .ref b40, .ref b41, .ref b42, .int b43, .ref b44, .ref b45, .int b46, .ref b47, .ref b48, .ref b49, .ref b50, .ref b51, .int b52, .ref b53, .ref b54, .ref b55])), (b3, .inl (G.2 0, 503, .inl b56))] H := hP
      have hD := z_tie hP hD rfl
      refine lv_iconst (v := 0) hx hb d_Model_layPrefixes_41 (by decide) ?_
      refine lv_istore (lv' := [(5, .int 0), (4, .int 0), (3, .int y_143), (0, .ref b0), (1, .int 0), (2, .int b1)]) hx hb d_Model_layPrefixes_42 hl (by decide) rfl (fun ls hl => ?_)
      suffices key : ∀ (k_223 : Nat) (y_224 : Int32) (y_225 : Int32) (y_226 : Nat → Int32) (y_227 : Nat → Int32) (y_228 : Nat → Int32) (y_229 : Nat → Int32) (H : Heap) (locs : List Loc) (ls : Array Slot), (zI y_224 0 12) → (zI y_225 0 240) → (zR y_226 0 241) → (zR y_227 (-1) 240) → (zqa qP y_228) → (zqa qC y_229) → ((y_226 (0 : Int32).toNatClampNeg).toInt ≤ 12 * (y_143 : Int32).toInt + 1 + (y_224 : Int32).toInt ∧ 1 ≤ (y_226 (0 : Int32).toNatClampNeg).toInt) → ((y_225 : Int32).toInt < (y_226 (0 : Int32).toNatClampNeg).toInt) → (zLm y_227 0 (10 * (y_226 (0 : Int32).toNatClampNeg).toInt) (y_226 (0 : Int32).toNatClampNeg).toInt) → (zTm ((y_143 : Int32).toInt) (b1 : Int32).toInt (y_226 (0 : Int32).toNatClampNeg).toInt 0 b56 y_228) → (∀ i : Nat, (i : Int) ≤ (y_224 : Int32).toInt → (y_228 (0 + 13 * (y_143 : Int32).toInt.toNat + i)).toInt < (y_226 (0 : Int32).toNatClampNeg).toInt) → (∀ t : Nat, (t : Int) ≤ (y_143 : Int32).toInt → (y_228 (13 * t)).toInt = 0) → ((y_224 : Int32).toInt ≤ ((b56 (1 + (y_143 : Int32).toInt.toNat))).toInt) → ((y_224 : Int32).toInt = 0 ∨ ¬ (y_143 : Int32).toInt = (b1 : Int32).toInt) → (yRP (zgR b56) (zcR b56) (b1 : Int32).toInt (y_143 : Int32).toInt.toNat (y_224 : Int32).toInt.toNat 0 0 (y_226 (0 : Int32).toNatClampNeg).toInt y_227 y_228 (y_225 : Int32).toInt) → (12 : Int) - y_224.toInt < (k_223 : Int) → va_P G.1 classes [(b19, .inl (G.2 0, 520, .inl y_228)), (b17, .inl (G.2 0, 2, .inl y_226)), (b18, .inl (G.2 0, 4820, .inl y_227)), (b21, .inl (G.2 0, 482, .inl y_229)), (b0, .inr (12, [.int b2, .ref b3, .ref b4, .ref b5, .ref b6, .int b7, .ref b8, .int b9, .int b10, .int b11, .int b12, .ref b13, .ref b14, .ref b15, .int b16, .ref b17, .ref b18, .ref b19, .ref b20, .ref b21, .ref b22, .ref b23, .ref b24, .ref b25, .ref b26, .ref b27, .ref b28, .int b29, .ref b30, .ref b31, .int b32, .int b33, .int b34, .int b35, .ref b36, .ref b37, .ref b38, .ref b39, .ref b40, .ref b41, .ref b42, .int b43, .ref b44, .ref b45, .int b46, .ref b47, .ref b48, .ref b49, .ref b50, .ref b51, .int b52, .ref b53, .ref b54, .ref b55])), (b3, .inl (G.2 0, 503, .inl b56))] H → va_D A [(b19, .inl (G.2 0, 520, .inl y_228)), (b17, .inl (G.2 0, 2, .inl y_226)), (b18, .inl (G.2 0, 4820, .inl y_227)), (b21, .inl (G.2 0, 482, .inl y_229)), (b0, .inr (12, [.int b2, .ref b3, .ref b4, .ref b5, .ref b6, .int b7, .ref b8, .int b9, .int b10, .int b11, .int b12, .ref b13, .ref b14, .ref b15, .int b16, .ref b17, .ref b18, .ref b19, .ref b20, .ref b21, .ref b22, .ref b23, .ref b24, .ref b25, .ref b26, .ref b27, .ref b28, .int b29, .ref b30, .ref b31, .int b32, .int b33, .int b34, .int b35, .ref b36, .ref b37, .ref b38, .ref b39, .ref b40, .ref b41, .ref b42, .int b43, .ref b44, .ref b45, .int b46, .ref b47, .ref b48, .ref b49, .ref b50, .ref b51, .int b52, .ref b53, .ref b54, .ref b55])), (b3, .inl (G.2 0, 503, .inl b56))] → va_S A s.heap H locs → lv_has ls 7 [(5, .int y_224), (4, .int y_225), (3, .int y_143), (0, .ref b0), (1, .int 0), (2, .int b1)] → W p l e m_s3_Model_layPrefixes s m ([.ref b0, .int 0, .int b1] : List Value).toArray below meth c H locs 0 0 (MQ below (zQ G (fun v w => ∃ (e0 : Nat → Int32), ∃ (e1 : Nat → Int32), ∃ (e2 : Nat → Int32), ∃ (e3 : Nat → Int32), v = none ∧ w = [(b0, .inr (12, [.int b2, .ref b3, .ref b4, .ref b5, .ref b6, .int b7, .ref b8, .int b9, .int b10, .int b11, .int b12, .ref b13, .ref b14, .ref b15, .int b16, .ref b17, .ref b18, .ref b19, .ref b20, .ref b21, .ref b22, .ref b23, .ref b24, .ref b25, .ref b26, .ref b27, .ref b28, .int b29, .ref b30, .ref b31, .int b32, .int b33, .int b34, .int b35, .ref b36, .ref b37, .ref b38, .ref b39, .ref b40, .ref b41, .ref b42, .int b43, .ref b44, .ref b45, .int b46, .ref b47, .ref b48, .ref b49, .ref b50, .ref b51, .int b52, .ref b53, .ref b54, .ref b55])), (b3, .inl (G.2 0, 503, .inl b56)), (b17, .inl (G.2 0, 2, .inl e0)), (b18, .inl (G.2 0, 4820, .inl e1)), (b19, .inl (G.2 0, 520, .inl e2)), (b21, .inl (G.2 0, 482, .inl e3))] ∧ (zR e0 0 241) ∧ (zR e1 (-1) 240) ∧ (zqa qP e2) ∧ (zqa qC e3) ∧ (zTm ((b56 (0 : Int32).toNatClampNeg).toInt) (b1 : Int32).toInt (e0 (0 : Int32).toNatClampNeg).toInt 0 b56 e2) ∧ (1 ≤ (e0 (0 : Int32).toNatClampNeg).toInt) ∧ (∀ t : Nat, (t : Int) < (b56 (0 : Int32).toNatClampNeg).toInt → (e2 (13 * t)).toInt = 0) ∧ ((e0 (0 : Int32).toNatClampNeg).toInt = ((ytr (zgR b56) (zcR b56) (b1 : Int32).toInt (b56 0).toInt.toNat).1 : Int) ∧ yPL (zgR b56) (zcR b56) (b1 : Int32).toInt (b56 0).toInt.toNat 0 e2)) A) ([.ref b0, .int 0, .int b1] : List Value).toArray s m_s3_Model_layPrefixes.cells m_s3_Model_layPrefixes.slots A) (F0 m 44 ls []) by
        exact key 13 (0) (0) (y_144) (y_145) (f_164) (y_147) _ _ _ (zI.wk (l' := 0) (h' := 12) zc_0 (by decide)) (zI.wk (l' := 0) (h' := 240) zc_0 (by decide)) hy_144 hy_145 hf_164 hy_147 (by have _l0 := li_0; omega) (by have _l0 := li_0; omega) hli_149 (by have _l0 := li_0; have _l1 := li_1; have p9 := z_pl hv_163 (by decide); intro t i h1 h2 h3; rw [uf_164, z_at]; split; omega; have := hli_150 t i h1 h2 h3; omega) (by have _l0 := li_0; have _l1 := li_1; have p9 := z_pl hv_163 (by decide); intro i hi; rw [uf_164, z_at]; split; omega; omega) (by have _l0 := li_0; have p9 := z_pl hv_163 (by decide); intro t ht; rw [uf_164, z_at]; split; exact li_0; exact hli_151 t (by omega)) (by have a9 := zW5.len hb56 y_143.toInt.toNat (by omega); have _l0 := li_0; omega) (Or.inl li_0) (by have _l0 := li_0; rw [show (0 : Int32).toInt.toNat = 0 by omega, li_0]; exact yRP_0 hli_153.1 hli_153.2 (yRw_c (yRw_W5 hb56)) uf_164 (by have p9 := z_pl hv_163 (by decide); omega) li_0) (zm_upi (zI.wk (l' := 0) (h' := 12) zc_0 (by decide)) (by decide)) hP hD hS (lv_sub hl [0, 1, 2, 3, 4, 5] rfl)
      intro k_223
      induction k_223 with
      | zero =>
        intro y_224 y_225 y_226 y_227 y_228 y_229 H locs ls hy_224 hy_225 hy_226 hy_227 hy_228 hy_229 hli_230 hli_231 hli_232 hli_233 hli_234 hli_235 hli_236 hli_237 hli_238 hmk_223 hP hD hS hl
        exact (zm_up0 hy_224 hmk_223).elim
      | succ k_223 ihk_223 =>
        intro y_224 y_225 y_226 y_227 y_228 y_229 H locs ls hy_224 hy_225 hy_226 hy_227 hy_228 hy_229 hli_230 hli_231 hli_232 hli_233 hli_234 hli_235 hli_236 hli_237 hli_238 hmk_223 hP hD hS hl
        refine lv_iload hx hb d_Model_layPrefixes_44 (lv_at hl 0 rfl) ?_
        refine lv_aload_n hx hb d_Model_layPrefixes_46 rfl (lv_at hl 3 rfl) ?_
        refine lv_iload_n hx hb d_Model_layPrefixes_47 rfl (lv_at hl 2 rfl) ?_
        refine z_callV (index := 203) (As := [.int y_143]) (rest := [.int y_224]) (wr := [(b19, .inl (G.2 0, 520, .inl y_228)), (b17, .inl (G.2 0, 2, .inl y_226)), (b18, .inl (G.2 0, 4820, .inl y_227)), (b21, .inl (G.2 0, 482, .inl y_229))]) Z (s1_Model_calls l G (b0) (y_143) (b2) (b3) (b4) (b5) (b6) (b7) (b8) (b9) (b10) (b11) (b12) (b13) (b14) (b15) (b16) (b17) (b18) (b19) (b20) (b21) (b22) (b23) (b24) (b25) (b26) (b27) (b28) (b29) (b30) (b31) (b32) (b33) (b34) (b35) (b36) (b37) (b38) (b39) (b40) (b41) (b42) (b43) (b44) (b45) (b46) (b47) (b48) (b49) (b50) (b51) (b52) (b53) (b54) (b55) (b56) hv_160 hb7 hb9 hb10 hb12 hb16 hb29 hb32 hb43 hb46 hb52 hb56) hl.1 q1352 q1354 qs54 q14 q1355 ⟨by decide, by decide, by show _ = some 1; decide +kernel⟩ ⟨Nat.le_of_ble_eq_true rfl, Nat.le_of_ble_eq_true rfl⟩ ⟨Nat.le_of_ble_eq_true rfl, Nat.le_of_ble_eq_true rfl⟩ rfl (Nat.le_of_ble_eq_true rfl) d_Model_layPrefixes_48 hP hD hS hA 4 12 rfl rfl rfl [4, 5] [0, 1, 2, 3] rfl rfl rfl rfl (by decide) (fun v w1 H locs hw_239 hP hD hS => ?_)
        obtain ⟨x_240, rfl, rfl, hx_240, hfx_241⟩ := hw_239
        have hP : va_P G.1 classes [(b19, .inl (G.2 0, 520, .inl y_228)), (b17, .inl (G.2 0, 2, .inl y_226)), (b18, .inl (G.2 0, 4820, .inl y_227)), (b21, .inl (G.2 0, 482, .inl y_229)), (b0, .inr (12, [.int b2, .ref b3, .ref b4, .ref b5, .ref b6, .int b7, .ref b8, .int b9, .int b10, .int b11, .int b12, .ref b13, .ref b14, .ref b15, .int b16, .ref b17, .ref b18, .ref b19, .ref b20, .ref b21, .ref b22, .ref b23, .ref b24, .ref b25, .ref b26, .ref b27, .ref b28, .int b29, .ref b30, .ref b31, .int b32, .int b33, .int b34, .int b35, .ref b36, .ref b37, .ref b38, .ref b39, .ref b40, .ref b41, .ref b42, .int b43, .ref b44, .ref b45, .int b46, .ref b47, .ref b48, .ref b49, .ref b50, .ref b51, .int b52, .ref b53, .ref b54, .ref b55])), (b3, .inl (G.2 0, 503, .inl b56))] H := hP
        have hD := z_tie hP hD rfl
        refine W.widen (k := 0) (n := 0) (Nat.le_of_ble_eq_true rfl) (Nat.le_of_ble_eq_true rfl) ?_
        refine lv_icmp_ge (tgt := 146) hx hb d_Model_layPrefixes_51 (by decide) (fun hc_242 => ?_) (fun hc_242 => ?_)
        · have _nhc_242 := hc_242
          have ni_243 := (fa_le _ _).mp hc_242
          obtain ⟨v_244, ev_244⟩ : ∃ z : Int32, z = y_143 + 1 := ⟨_, rfl⟩
          obtain ⟨qv_244, hv_244⟩ := zI_add (l := 1) (h := 20) hv_160 zc_1 ev_244 (by decide)
          rw [li_1] at qv_244
          refine lv_iinc (v := v_244) (lv' := [(3, .int v_244), (5, .int y_224), (4, .int y_225), (0, .ref b0), (1, .int 0), (2, .int b1)]) hx hb d_Model_layPrefixes_146 hl (k := 2) rfl (by rw [ev_244]; rfl) (by decide) rfl (fun ls hl => ?_)
          refine lv_goto (tgt := 14) hx hb d_Model_layPrefixes_149 (by decide) ?_
          exact ihk_142 (v_244) (y_226) (y_227) (y_228) (y_229) _ _ _ (zI.wk (l' := 0) (h' := 20) hv_244 (by decide)) hy_226 hy_227 hy_228 hy_229 (by have := hli_230; omega) hli_232 (by intro t i h1 h2 h3; rcases Decidable.em ((t : Int) < y_143.toInt) with h4 | h4; exact hli_233 t i h4 h2 h3; obtain rfl : t = y_143.toInt.toNat := (by omega); first | (exfalso; omega) | (rw [← hfx_241] at h3; exact hli_234 i (by omega))) (by intro t ht; exact hli_235 t (by omega)) (by have m9 := congrArg Int32.toInt hfx_156; rw [z_n0] at m9; omega) (by have m9 := congrArg Int32.toInt hfx_156; rw [z_n0] at m9; rw [show v_244.toInt.toNat = y_143.toInt.toNat + 1 by omega]; exact yRP_e hli_238 (by rcases hli_237 with h9 | h9; (by_cases c8 : y_143.toInt = b1.toInt; exact Or.inl ⟨by omega, by omega⟩; exact Or.inr ⟨by omega, by rw [zcR_at (show (y_143.toInt.toNat : Int) < (b56 0).toInt by omega)]; have m9 := congrArg Int32.toInt hfx_156; rw [z_n0] at m9; have c9 := congrArg Int32.toInt hfx_241; first | omega | (exfalso; omega)⟩); (exact Or.inr ⟨by omega, by rw [zcR_at (show (y_143.toInt.toNat : Int) < (b56 0).toInt by omega)]; have m9 := congrArg Int32.toInt hfx_156; rw [z_n0] at m9; have c9 := congrArg Int32.toInt hfx_241; omega⟩))) (zm_up qv_244 hmk_142 (by decide)) (hP.sub [5, 0, 4, 1, 2, 3] rfl) (hD.sub [5, 0, 4, 1, 2, 3] (by decide) rfl) hS (lv_sub hl [0, 3, 4, 5] rfl)
        · have _nhc_242 := hc_242
          have ni_245 := (fa_lt _ _).mp (zi_nle hc_242)
          have hv_246 : zI y_224 0 11 := zI.lt_l hy_224 hx_240 (zi_nle hc_242) (by decide)
          have hv_247 : zI x_240 1 12 := zI.lt_r hy_224 hx_240 (zi_nle hc_242) (by decide)
          refine lv_iload_n hx hb d_Model_layPrefixes_54 rfl (lv_at hl 2 rfl) ?_
          refine lv_iload_n hx hb d_Model_layPrefixes_55 rfl (lv_at hl 5 rfl) ?_
          refine lv_icmp_eq (tgt := 146) hx hb d_Model_layPrefixes_56 (by decide) (fun hc_248 => ?_) (fun hc_248 => ?_)
          · have _nhc_248 := hc_248
            have ni_249 := (fa_eq _ _).mp hc_248
            have hv_250 : zI b1 0 19 := zI.eq_l hb1 hv_160 hc_248.symm
            obtain ⟨v_251, ev_251⟩ : ∃ z : Int32, z = y_143 + 1 := ⟨_, rfl⟩
            obtain ⟨qv_251, hv_251⟩ := zI_add (l := 1) (h := 20) hv_160 zc_1 ev_251 (by decide)
            rw [li_1] at qv_251
            refine lv_iinc (v := v_251) (lv' := [(3, .int v_251), (5, .int y_224), (4, .int y_225), (0, .ref b0), (1, .int 0), (2, .int b1)]) hx hb d_Model_layPrefixes_146 hl (k := 2) rfl (by rw [ev_251]; rfl) (by decide) rfl (fun ls hl => ?_)
            refine lv_goto (tgt := 14) hx hb d_Model_layPrefixes_149 (by decide) ?_
            exact ihk_142 (v_251) (y_226) (y_227) (y_228) (y_229) _ _ _ (zI.wk (l' := 0) (h' := 20) hv_251 (by decide)) hy_226 hy_227 hy_228 hy_229 (by have := hli_230; omega) hli_232 (by intro t i h1 h2 h3; rcases Decidable.em ((t : Int) < y_143.toInt) with h4 | h4; exact hli_233 t i h4 h2 h3; obtain rfl : t = y_143.toInt.toNat := (by omega); first | (exfalso; omega) | (rw [← hfx_241] at h3; exact hli_234 i (by omega))) (by intro t ht; exact hli_235 t (by omega)) (by have m9 := congrArg Int32.toInt hfx_156; rw [z_n0] at m9; omega) (by have m9 := congrArg Int32.toInt hfx_156; rw [z_n0] at m9; rw [show v_251.toInt.toNat = y_143.toInt.toNat + 1 by omega]; exact yRP_e hli_238 (by rcases hli_237 with h9 | h9; (by_cases c8 : y_143.toInt = b1.toInt; exact Or.inl ⟨by omega, by omega⟩; exact Or.inr ⟨by omega, by rw [zcR_at (show (y_143.toInt.toNat : Int) < (b56 0).toInt by omega)]; have m9 := congrArg Int32.toInt hfx_156; rw [z_n0] at m9; have c9 := congrArg Int32.toInt hfx_241; first | omega | (exfalso; omega)⟩); (exact Or.inr ⟨by omega, by rw [zcR_at (show (y_143.toInt.toNat : Int) < (b56 0).toInt by omega)]; have m9 := congrArg Int32.toInt hfx_156; rw [z_n0] at m9; have c9 := congrArg Int32.toInt hfx_241; omega⟩))) (zm_up qv_251 hmk_142 (by decide)) (hP.sub [5, 0, 4, 1, 2, 3] rfl) (hD.sub [5, 0, 4, 1, 2, 3] (by decide) rfl) hS (lv_sub hl [0, 3, 4, 5] rfl)
          · have _nhc_248 := hc_248
            have ni_252 : ¬ (y_143 : Int32).toInt = (b1 : Int32).toInt := fun z => hc_248 ((fa_eq _ _).mpr z)
            refine lv_bipush (v := 10) hx hb d_Model_layPrefixes_59 (by decide) ?_
            refine lv_sipush (v := 241) hx hb d_Model_layPrefixes_61 (by decide) ?_
            refine lv_iload_n hx hb d_Model_layPrefixes_64 rfl (lv_at hl 4 rfl) ?_
            refine lv_imul hx hb d_Model_layPrefixes_65 ?_
            refine z_topi (y := 0) (by decide +kernel) ?_
            refine lv_iload hx hb d_Model_layPrefixes_66 (lv_at hl 1 rfl) ?_
            refine lv_iadd hx hb d_Model_layPrefixes_68 ?_
            refine lv_topi (fun v_253 ev_253 => ?_)
            obtain ⟨qv_253, hv_253⟩ := zI_add (l := 0) (h := 240) zc_0 hy_225 ev_253 (by decide)
            rw [li_0] at qv_253
            refine lv_imul hx hb d_Model_layPrefixes_69 ?_
            refine lv_topi (fun v_254 ev_254 => ?_)
            obtain ⟨qv_254, hv_254⟩ := zI_mul (l := 0) (h := 2400) zc_10 hv_253 ev_254 (by decide)
            rw [li_10] at qv_254
            refine lv_aload_n hx hb d_Model_layPrefixes_70 rfl (lv_at hl 3 rfl) ?_
            refine lv_iload_n hx hb d_Model_layPrefixes_71 rfl (lv_at hl 2 rfl) ?_
            refine lv_iload hx hb d_Model_layPrefixes_72 (lv_at hl 0 rfl) ?_
            refine z_callV (index := 207) (As := [.int y_143, .int y_224]) (rest := [.int v_254]) (wr := [(b19, .inl (G.2 0, 520, .inl y_228)), (b17, .inl (G.2 0, 2, .inl y_226)), (b18, .inl (G.2 0, 4820, .inl y_227)), (b21, .inl (G.2 0, 482, .inl y_229))]) Z (s2_Model_letterAt l G (b0) (y_143) (y_224) (b2) (b3) (b4) (b5) (b6) (b7) (b8) (b9) (b10) (b11) (b12) (b13) (b14) (b15) (b16) (b17) (b18) (b19) (b20) (b21) (b22) (b23) (b24) (b25) (b26) (b27) (b28) (b29) (b30) (b31) (b32) (b33) (b34) (b35) (b36) (b37) (b38) (b39) (b40) (b41) (b42) (b43) (b44) (b45) (b46) (b47) (b48) (b49) (b50) (b51) (b52) (b53) (b54) (b55) (b56) hv_160 hv_246 hb7 hb9 hb10 hb12 hb16 hb29 hb32 hb43 hb46 hb52 hb56) hl.1 q1372 q1374 qs59 q14 q1375 ⟨by decide, by decide, by show _ = some 2; decide +kernel⟩ ⟨Nat.le_of_ble_eq_true rfl, Nat.le_of_ble_eq_true rfl⟩ ⟨Nat.le_of_ble_eq_true rfl, Nat.le_of_ble_eq_true rfl⟩ rfl (Nat.le_of_ble_eq_true rfl) d_Model_layPrefixes_74 hP hD hS hA 4 12 rfl rfl rfl [4, 5] [0, 1, 2, 3] rfl rfl rfl rfl (by decide) (fun v w1 H locs hw_255 hP hD hS => ?_)
            obtain ⟨x_256, rfl, rfl, hx_256, hfx_257⟩ := hw_255
            have hP : va_P G.1 classes [(b19, .inl (G.2 0, 520, .inl y_228)), (b17, .inl (G.2 0, 2, .inl y_226)), (b18, .inl (G.2 0, 4820, .inl y_227)), (b21, .inl (G.2 0, 482, .inl y_229)), (b0, .inr (12, [.int b2, .ref b3, .ref b4, .ref b5, .ref b6, .int b7, .ref b8, .int b9, .int b10, .int b11, .int b12, .ref b13, .ref b14, .ref b15, .int b16, .ref b17, .ref b18, .ref b19, .ref b20, .ref b21, .ref b22, .ref b23, .ref b24, .ref b25, .ref b26, .ref b27, .ref b28, .int b29, .ref b30, .ref b31, .int b32, .int b33, .int b34, .int b35, .ref b36, .ref b37, .ref b38, .ref b39, .ref b40, .ref b41, .ref b42, .int b43, .ref b44, .ref b45, .int b46, .ref b47, .ref b48, .ref b49, .ref b50, .ref b51, .int b52, .ref b53, .ref b54, .ref b55])), (b3, .inl (G.2 0, 503, .inl b56))] H := hP
            have hD := z_tie hP hD rfl
            refine W.widen (k := 0) (n := 0) (Nat.le_of_ble_eq_true rfl) (Nat.le_of_ble_eq_true rfl) ?_
            refine lv_iadd hx hb d_Model_layPrefixes_77 ?_
            refine lv_topi (fun v_258 ev_258 => ?_)
            obtain ⟨qv_258, hv_258⟩ := zI_add (l := 0) (h := 2409) hv_254 hx_256 ev_258 (by decide)
            refine lv_istore (lv' := [(6, .int v_258), (5, .int y_224), (4, .int y_225), (3, .int y_143), (0, .ref b0), (1, .int 0), (2, .int b1)]) hx hb d_Model_layPrefixes_78 hl (by decide) rfl (fun ls hl => ?_)
            refine lv_aload_n hx hb d_Model_layPrefixes_80 rfl (lv_at hl 4 rfl) ?_
            refine va_get (D := G.1) (ci := 12) (v := .ref b18) (C := R_Model) (T := F_Model) (N := 54) hx hb hts i_Model hown hK hP 4 rfl rfl 16 (by decide) (hts _ q1125) (fun _ h9 => h9) rfl d_Model_layPrefixes_81 ?_
            refine lv_iload hx hb d_Model_layPrefixes_84 (lv_at hl 0 rfl) ?_
            refine va_iald hx hb hK hP 2 0 rfl rfl (zI.inn hv_258 (by decide)) d_Model_layPrefixes_86 ?_
            refine lv_topi (fun v_259 ev_259 => ?_)
            have hv_259 : zI v_259 (-1) 240 := (hy_227 _).eq ev_259
            refine lv_iconst (v := (-1)) hx hb d_Model_layPrefixes_87 (by decide) ?_
            refine lv_icmp_ne (tgt := 109) hx hb d_Model_layPrefixes_88 (by decide) (fun hc_260 => ?_) (fun hc_260 => ?_)
            · have _nhc_260 := hc_260
              have ni_261 : ¬ (v_259 : Int32).toInt = ((-1) : Int32).toInt := fun z => hc_260 ((fa_eq _ _).mpr z)
              simp only [li_m1] at ni_261
              have hv_262 : zI v_259 0 240 := zI.ne_lo hv_259 zc_m1 hc_260 (by decide)
              refine lv_aload_n hx hb d_Model_layPrefixes_109 rfl (lv_at hl 4 rfl) ?_
              refine va_get (D := G.1) (ci := 12) (v := .ref b18) (C := R_Model) (T := F_Model) (N := 54) hx hb hts i_Model hown hK hP 4 rfl rfl 16 (by decide) (hts _ q1125) (fun _ h9 => h9) rfl d_Model_layPrefixes_110 ?_
              refine lv_iload hx hb d_Model_layPrefixes_113 (lv_at hl 0 rfl) ?_
              refine va_iald hx hb hK hP 2 0 rfl rfl (zI.inn hv_258 (by decide)) d_Model_layPrefixes_115 ?_
              refine lv_topi (fun v_263 ev_263 => ?_)
              obtain rfl : v_259 = v_263 := ev_259.trans ev_263.symm
              have hp4v_259 : v_259.toInt < (y_226 (0 : Int32).toNatClampNeg).toInt := by have p9 := z_pl hv_258 (by decide); rw [ev_259]; exact hli_232 _ (by omega) (by omega)
              refine lv_istore (lv' := [(4, .int v_259), (6, .int v_258), (5, .int y_224), (3, .int y_143), (0, .ref b0), (1, .int 0), (2, .int b1)]) hx hb d_Model_layPrefixes_116 hl (by decide) rfl (fun ls hl => ?_)
              refine lv_aload_n hx hb d_Model_layPrefixes_118 rfl (lv_at hl 4 rfl) ?_
              refine va_get (D := G.1) (ci := 12) (v := .ref b19) (C := R_Model) (T := F_Model) (N := 54) hx hb hts i_Model hown hK hP 4 rfl rfl 17 (by decide) (hts _ q1126) (fun _ h9 => h9) rfl d_Model_layPrefixes_119 ?_
              refine lv_sipush (v := 260) hx hb d_Model_layPrefixes_122 (by decide) ?_
              refine lv_iload_n hx hb d_Model_layPrefixes_125 rfl (lv_at hl 5 rfl) ?_
              refine lv_imul hx hb d_Model_layPrefixes_126 ?_
              refine z_topi (y := 0) (by decide +kernel) ?_
              refine lv_bipush (v := 13) hx hb d_Model_layPrefixes_127 (by decide) ?_
              refine lv_iload_n hx hb d_Model_layPrefixes_129 rfl (lv_at hl 3 rfl) ?_
              refine lv_imul hx hb d_Model_layPrefixes_130 ?_
              refine lv_topi (fun v_264 ev_264 => ?_)
              obtain rfl : v_162 = v_264 := ev_162.trans ev_264.symm
              refine lv_iadd hx hb d_Model_layPrefixes_131 ?_
              refine lv_topi (fun v_265 ev_265 => ?_)
              obtain rfl : v_163 = v_265 := ev_163.trans ev_265.symm
              refine lv_iload hx hb d_Model_layPrefixes_132 (lv_at hl 2 rfl) ?_
              refine lv_iadd hx hb d_Model_layPrefixes_134 ?_
              refine lv_topi (fun v_266 ev_266 => ?_)
              obtain ⟨qv_266, hv_266⟩ := zI_add (l := 0) (h := 258) hv_163 hv_246 ev_266 (by decide)
              refine lv_iconst (v := 1) hx hb d_Model_layPrefixes_135 (by decide) ?_
              refine lv_iadd hx hb d_Model_layPrefixes_136 ?_
              refine lv_topi (fun v_267 ev_267 => ?_)
              obtain ⟨qv_267, hv_267⟩ := zI_add (l := 1) (h := 259) hv_266 zc_1 ev_267 (by decide)
              rw [li_1] at qv_267
              refine lv_iload hx hb d_Model_layPrefixes_137 (lv_at hl 0 rfl) ?_
              refine va_iast hx hb hK hP hD hS 0 0 rfl rfl (zI.inn hv_267 (by decide)) d_Model_layPrefixes_139 (fun H locs hP hD hS => ?_)
              obtain ⟨f_268, hf_268, gf_268, uf_268, hP, hD⟩ := z_newq_ (Q := qP) 0 hP hD rfl hy_228 (qP_v hv_267 (by decide) ⟨⟨by have _w := hv_262; have _x := hv_267; omega, by have _w := hv_262; have _x := hv_267; omega⟩, by have _w := hv_262; have _x := hv_267; omega⟩)
              have hP : va_P G.1 classes [(b19, .inl (G.2 0, 520, .inl f_268)), (b17, .inl (G.2 0, 2, .inl y_226)), (b18, .inl (G.2 0, 4820, .inl y_227)), (b21, .inl (G.2 0, 482, .inl y_229)), (b0, .inr (12, [.int b2, .ref b3, .ref b4, .ref b5, .ref b6, .int b7, .ref b8, .int b9, .int b10, .int b11, .int b12, .ref b13, .ref b14, .ref b15, .int b16, .ref b17, .ref b18, .ref b19, .ref b20, .ref b21, .ref b22, .ref b23, .ref b24, .ref b25, .ref b26, .ref b27, .ref b28, .int b29, .ref b30, .ref b31, .int b32, .int b33, .int b34, .int b35, .ref b36, .ref b37, .ref b38, .ref b39, .ref b40, .ref b41, .ref b42, .int b43, .ref b44, .ref b45, .int b46, .ref b47, .ref b48, .ref b49, .ref b50, .ref b51, .int b52, .ref b53, .ref b54, .ref b55])), (b3, .inl (G.2 0, 503, .inl b56))] H := hP
              have hD := z_tie hP hD rfl
              obtain ⟨v_269, ev_269⟩ : ∃ z : Int32, z = y_224 + 1 := ⟨_, rfl⟩
              obtain ⟨qv_269, hv_269⟩ := zI_add (l := 1) (h := 12) hv_246 zc_1 ev_269 (by decide)
              rw [li_1] at qv_269
              refine lv_iinc (v := v_269) (lv' := [(5, .int v_269), (4, .int v_259), (6, .int v_258), (3, .int y_143), (0, .ref b0), (1, .int 0), (2, .int b1)]) hx hb d_Model_layPrefixes_140 hl (k := 2) rfl (by rw [ev_269]; rfl) (by decide) rfl (fun ls hl => ?_)
              refine lv_goto (tgt := 44) hx hb d_Model_layPrefixes_143 (by decide) ?_
              exact ihk_223 (v_269) (v_259) (y_226) (y_227) (f_268) (y_229) _ _ _ (zI.wk (l' := 0) (h' := 12) hv_269 (by decide)) hv_262 hy_226 hy_227 hf_268 hy_229 (by omega) (by omega) hli_232 (by have _l0 := li_0; have _l1 := li_1; have p9 := z_pl hv_267 (by decide); intro t i h1 h2 h3; rw [uf_268, z_at]; split; omega; have := hli_233 t i h1 h2 h3; omega) (by have _l0 := li_0; have _l1 := li_1; have p9 := z_pl hv_267 (by decide); intro i hi; rw [uf_268, z_at]; split; omega; have := hli_234 i (by omega); omega) (by have _l0 := li_0; have _l1 := li_1; have p9 := z_pl hv_267 (by decide); intro t ht; rw [uf_268, z_at, if_neg (by omega)]; exact hli_235 t ht) (by have c9 := congrArg Int32.toInt hfx_241; omega) (Or.inr (by omega)) (by have m9 := congrArg Int32.toInt hfx_156; rw [z_n0] at m9; have c9 := congrArg Int32.toInt hfx_241; rw [show v_269.toInt.toNat = y_224.toInt.toNat + 1 by omega]; exact yRP_o (at_ := v_258) (x := x_256) hli_238 (yRw_g (yRw_W5 hb56) 20) (yRw_c (yRw_W5 hb56)) (by omega) (by rw [zcR_at (show (y_143.toInt.toNat : Int) < (b56 0).toInt by omega)]; omega) (by have f9 := hfx_257; rw [zgR_at (by rw [zcR_at (show (y_143.toInt.toNat : Int) < (b56 0).toInt by omega)]; omega), ← f9]; omega) (by omega) ev_259 (by omega) uf_268 (by have p9 := z_pl hv_267 (by decide); omega)) (zm_up qv_269 hmk_223 (by decide)) hP hD hS (lv_sub hl [0, 1, 3, 4, 5, 6] rfl)
            · have _nhc_260 := hc_260
              have ni_270 := (fa_eq _ _).mp hc_260
              rw [li_m1] at ni_270
              have hv_271 : zI v_259 (-1) (-1) := zI.eq_l hv_259 zc_m1 hc_260
              refine lv_aload_n hx hb d_Model_layPrefixes_91 rfl (lv_at hl 4 rfl) ?_
              refine va_get (D := G.1) (ci := 12) (v := .ref b18) (C := R_Model) (T := F_Model) (N := 54) hx hb hts i_Model hown hK hP 4 rfl rfl 16 (by decide) (hts _ q1125) (fun _ h9 => h9) rfl d_Model_layPrefixes_92 ?_
              refine lv_iload hx hb d_Model_layPrefixes_95 (lv_at hl 0 rfl) ?_
              refine lv_aload_n hx hb d_Model_layPrefixes_97 rfl (lv_at hl 4 rfl) ?_
              refine va_get (D := G.1) (ci := 12) (v := .ref b17) (C := R_Model) (T := F_Model) (N := 54) hx hb hts i_Model hown hK hP 4 rfl rfl 15 (by decide) (hts _ q1124) (fun _ h9 => h9) rfl d_Model_layPrefixes_98 ?_
              refine lv_iload_n hx hb d_Model_layPrefixes_101 rfl (lv_at hl 5 rfl) ?_
              refine va_iald hx hb hK hP 1 0 rfl rfl (i := 0) (z_in rfl) d_Model_layPrefixes_102 ?_
              refine lv_topi (fun v_272 ev_272 => ?_)
              have hv_272 : zI v_272 0 241 := (hy_226 _).eq ev_272
              have hv_273 : zI v_272 0 240 := ⟨hv_272.1, by rw [ev_272]; omega⟩
              refine va_iast hx hb hK hP hD hS 2 0 rfl rfl (zI.inn hv_258 (by decide)) d_Model_layPrefixes_103 (fun H locs hP hD hS => ?_)
              obtain ⟨f_274, hf_274, gf_274, uf_274, hP, hD⟩ := z_newfu 2 hP hD rfl hy_227 (zI.wk (l' := (-1)) (h' := 240) hv_273 (by decide))
              have hP : va_P G.1 classes [(b19, .inl (G.2 0, 520, .inl y_228)), (b17, .inl (G.2 0, 2, .inl y_226)), (b18, .inl (G.2 0, 4820, .inl f_274)), (b21, .inl (G.2 0, 482, .inl y_229)), (b0, .inr (12, [.int b2, .ref b3, .ref b4, .ref b5, .ref b6, .int b7, .ref b8, .int b9, .int b10, .int b11, .int b12, .ref b13, .ref b14, .ref b15, .int b16, .ref b17, .ref b18, .ref b19, .ref b20, .ref b21, .ref b22, .ref b23, .ref b24, .ref b25, .ref b26, .ref b27, .ref b28, .int b29, .ref b30, .ref b31, .int b32, .int b33, .int b34, .int b35, .ref b36, .ref b37, .ref b38, .ref b39, .ref b40, .ref b41, .ref b42, .int b43, .ref b44, .ref b45, .int b46, .ref b47, .ref b48, .ref b49, .ref b50, .ref b51, .int b52, .ref b53, .ref b54, .ref b55])), (b3, .inl (G.2 0, 503, .inl b56))] H := hP
              have hD := z_tie hP hD rfl
              refine lv_aload_n hx hb d_Model_layPrefixes_104 rfl (lv_at hl 4 rfl) ?_
              refine lv_iload_n hx hb d_Model_layPrefixes_105 rfl (lv_at hl 5 rfl) ?_
              refine z_callV (index := 199) (As := [.int 0]) (rest := []) (wr := [(b19, .inl (G.2 0, 520, .inl y_228)), (b3, .inl (G.2 0, 503, .inl b56))]) Z (s3_Model_newPrefix l G (b0) (b2) (b3) (b4) (b5) (b6) (b7) (b8) (b9) (b10) (b11) (b12) (b13) (b14) (b15) (b16) (b17) (b18) (b19) (b20) (b21) (b22) (b23) (b24) (b25) (b26) (b27) (b28) (b29) (b30) (b31) (b32) (b33) (b34) (b35) (b36) (b37) (b38) (b39) (b40) (b41) (b42) (b43) (b44) (b45) (b46) (b47) (b48) (b49) (b50) (b51) (b52) (b53) (b54) (b55) (y_226) (f_274) (y_229) hb7 hb9 hb10 hb12 hb16 hb29 hb32 hb43 hb46 hb52 hy_226 hf_274 hy_229 (by omega) (by intro q h1 h2; rw [uf_274, z_at]; split; (rw [ev_272]; omega); have := hli_232 q h1 h2; omega)) hl.1 q1368 q1370 qs58 q14 q1371 ⟨by decide, by decide, by show _ = some 1; decide +kernel⟩ ⟨Nat.le_of_ble_eq_true rfl, Nat.le_of_ble_eq_true rfl⟩ ⟨Nat.le_of_ble_eq_true rfl, Nat.le_of_ble_eq_true rfl⟩ rfl (Nat.le_of_ble_eq_true rfl) d_Model_layPrefixes_106 hP hD hS hA 4 12 rfl rfl rfl [4, 1, 2, 3] [0, 5] rfl rfl rfl rfl (by decide) (fun v w1 H locs hw_275 hP hD hS => ?_)
              obtain ⟨f_276, f_277, f_278, rfl, rfl, hf_276, hf_277, hf_278, hfx_279, hfx_280, hfx_281, hfx_282⟩ := hw_275
              have hP : va_P G.1 classes [(b19, .inl (G.2 0, 520, .inl y_228)), (b3, .inl (G.2 0, 503, .inl b56)), (b0, .inr (12, [.int b2, .ref b3, .ref b4, .ref b5, .ref b6, .int b7, .ref b8, .int b9, .int b10, .int b11, .int b12, .ref b13, .ref b14, .ref b15, .int b16, .ref b17, .ref b18, .ref b19, .ref b20, .ref b21, .ref b22, .ref b23, .ref b24, .ref b25, .ref b26, .ref b27, .ref b28, .int b29, .ref b30, .ref b31, .int b32, .int b33, .int b34, .int b35, .ref b36, .ref b37, .ref b38, .ref b39, .ref b40, .ref b41, .ref b42, .int b43, .ref b44, .ref b45, .int b46, .ref b47, .ref b48, .ref b49, .ref b50, .ref b51, .int b52, .ref b53, .ref b54, .ref b55])), (b17, .inl (G.2 0, 2, .inl f_276)), (b18, .inl (G.2 0, 4820, .inl f_277)), (b21, .inl (G.2 0, 482, .inl f_278))] H := hP
              have hD := z_tie hP hD rfl
              refine W.widen (k := 0) (n := 0) (Nat.le_of_ble_eq_true rfl) (Nat.le_of_ble_eq_true rfl) ?_
              refine lv_aload_n hx hb d_Model_layPrefixes_109 rfl (lv_at hl 4 rfl) ?_
              refine va_get (D := G.1) (ci := 12) (v := .ref b18) (C := R_Model) (T := F_Model) (N := 54) hx hb hts i_Model hown hK hP 2 rfl rfl 16 (by decide) (hts _ q1125) (fun _ h9 => h9) rfl d_Model_layPrefixes_110 ?_
              refine lv_iload hx hb d_Model_layPrefixes_113 (lv_at hl 0 rfl) ?_
              refine va_iald hx hb hK hP 4 0 rfl rfl (zI.inn hv_258 (by decide)) d_Model_layPrefixes_115 ?_
              refine lv_topi (fun v_283 ev_283 => ?_)
              have hv_283 : zI v_283 (-1) 240 := (hf_277 _).eq ev_283
              have hwv_283 : v_283 = v_272 := ev_283.trans ((hfx_281 _ (by have p9 := z_pl hv_258 (by decide); rw [← ev_272]; have := hli_231; rw [← ev_272] at this; omega)).trans gf_274)
              have hv_284 : zI v_283 0 240 := zI.eq hv_273 hwv_283
              have hp4v_283 : v_283.toInt < (f_276 (0 : Int32).toNatClampNeg).toInt := by rw [hwv_283, ev_272]; omega
              refine lv_istore (lv' := [(4, .int v_283), (6, .int v_258), (5, .int y_224), (3, .int y_143), (0, .ref b0), (1, .int 0), (2, .int b1)]) hx hb d_Model_layPrefixes_116 hl (by decide) rfl (fun ls hl => ?_)
              refine lv_aload_n hx hb d_Model_layPrefixes_118 rfl (lv_at hl 4 rfl) ?_
              refine va_get (D := G.1) (ci := 12) (v := .ref b19) (C := R_Model) (T := F_Model) (N := 54) hx hb hts i_Model hown hK hP 2 rfl rfl 17 (by decide) (hts _ q1126) (fun _ h9 => h9) rfl d_Model_layPrefixes_119 ?_
              refine lv_sipush (v := 260) hx hb d_Model_layPrefixes_122 (by decide) ?_
              refine lv_iload_n hx hb d_Model_layPrefixes_125 rfl (lv_at hl 5 rfl) ?_
              refine lv_imul hx hb d_Model_layPrefixes_126 ?_
              refine z_topi (y := 0) (by decide +kernel) ?_
              refine lv_bipush (v := 13) hx hb d_Model_layPrefixes_127 (by decide) ?_
              refine lv_iload_n hx hb d_Model_layPrefixes_129 rfl (lv_at hl 3 rfl) ?_
              refine lv_imul hx hb d_Model_layPrefixes_130 ?_
              refine lv_topi (fun v_285 ev_285 => ?_)
              obtain rfl : v_162 = v_285 := ev_162.trans ev_285.symm
              refine lv_iadd hx hb d_Model_layPrefixes_131 ?_
              refine lv_topi (fun v_286 ev_286 => ?_)
              obtain rfl : v_163 = v_286 := ev_163.trans ev_286.symm
              refine lv_iload hx hb d_Model_layPrefixes_132 (lv_at hl 2 rfl) ?_
              refine lv_iadd hx hb d_Model_layPrefixes_134 ?_
              refine lv_topi (fun v_287 ev_287 => ?_)
              obtain ⟨qv_287, hv_287⟩ := zI_add (l := 0) (h := 258) hv_163 hv_246 ev_287 (by decide)
              refine lv_iconst (v := 1) hx hb d_Model_layPrefixes_135 (by decide) ?_
              refine lv_iadd hx hb d_Model_layPrefixes_136 ?_
              refine lv_topi (fun v_288 ev_288 => ?_)
              obtain ⟨qv_288, hv_288⟩ := zI_add (l := 1) (h := 259) hv_287 zc_1 ev_288 (by decide)
              rw [li_1] at qv_288
              refine lv_iload hx hb d_Model_layPrefixes_137 (lv_at hl 0 rfl) ?_
              refine va_iast hx hb hK hP hD hS 0 0 rfl rfl (zI.inn hv_288 (by decide)) d_Model_layPrefixes_139 (fun H locs hP hD hS => ?_)
              obtain ⟨f_289, hf_289, gf_289, uf_289, hP, hD⟩ := z_newq_ (Q := qP) 0 hP hD rfl hy_228 (qP_v hv_288 (by decide) ⟨⟨by have _w := hv_284; have _x := hv_288; omega, by have _w := hv_284; have _x := hv_288; omega⟩, by have _w := hv_284; have _x := hv_288; omega⟩)
              have hP : va_P G.1 classes [(b19, .inl (G.2 0, 520, .inl f_289)), (b3, .inl (G.2 0, 503, .inl b56)), (b0, .inr (12, [.int b2, .ref b3, .ref b4, .ref b5, .ref b6, .int b7, .ref b8, .int b9, .int b10, .int b11, .int b12, .ref b13, .ref b14, .ref b15, .int b16, .ref b17, .ref b18, .ref b19, .ref b20, .ref b21, .ref b22, .ref b23, .ref b24, .ref b25, .ref b26, .ref b27, .ref b28, .int b29, .ref b30, .ref b31, .int b32, .int b33, .int b34, .int b35, .ref b36, .ref b37, .ref b38, .ref b39, .ref b40, .ref b41, .ref b42, .int b43, .ref b44, .ref b45, .int b46, .ref b47, .ref b48, .ref b49, .ref b50, .ref b51, .int b52, .ref b53, .ref b54, .ref b55])), (b17, .inl (G.2 0, 2, .inl f_276)), (b18, .inl (G.2 0, 4820, .inl f_277)), (b21, .inl (G.2 0, 482, .inl f_278))] H := hP
              have hD := z_tie hP hD rfl
              obtain ⟨v_290, ev_290⟩ : ∃ z : Int32, z = y_224 + 1 := ⟨_, rfl⟩
              obtain ⟨qv_290, hv_290⟩ := zI_add (l := 1) (h := 12) hv_246 zc_1 ev_290 (by decide)
              rw [li_1] at qv_290
              refine lv_iinc (v := v_290) (lv' := [(5, .int v_290), (4, .int v_283), (6, .int v_258), (3, .int y_143), (0, .ref b0), (1, .int 0), (2, .int b1)]) hx hb d_Model_layPrefixes_140 hl (k := 2) rfl (by rw [ev_290]; rfl) (by decide) rfl (fun ls hl => ?_)
              refine lv_goto (tgt := 44) hx hb d_Model_layPrefixes_143 (by decide) ?_
              exact ihk_223 (v_290) (v_283) (f_276) (f_277) (f_289) (f_278) _ _ _ (zI.wk (l' := 0) (h' := 12) hv_290 (by decide)) hv_284 hf_276 hf_277 hf_289 hf_278 (by omega) (by omega) hfx_280 (by have _l0 := li_0; have _l1 := li_1; have p9 := z_pl hv_288 (by decide); intro t i h1 h2 h3; rw [uf_289, z_at]; split; omega; have := hli_233 t i h1 h2 h3; omega) (by have _l0 := li_0; have _l1 := li_1; have p9 := z_pl hv_288 (by decide); intro i hi; rw [uf_289, z_at]; split; omega; have := hli_234 i (by omega); omega) (by have _l0 := li_0; have _l1 := li_1; have p9 := z_pl hv_288 (by decide); intro t ht; rw [uf_289, z_at, if_neg (by omega)]; exact hli_235 t ht) (by have c9 := congrArg Int32.toInt hfx_241; omega) (Or.inr (by omega)) (by have m9 := congrArg Int32.toInt hfx_156; rw [z_n0] at m9; have c9 := congrArg Int32.toInt hfx_241; rw [show v_290.toInt.toNat = y_224.toInt.toNat + 1 by omega]; exact yRP_n (at_ := v_258) (x := x_256) (r := v_272) hli_238 (yRw_g (yRw_W5 hb56) 20) (yRw_c (yRw_W5 hb56)) (by omega) (by rw [zcR_at (show (y_143.toInt.toNat : Int) < (b56 0).toInt by omega)]; omega) (by have f9 := hfx_257; rw [zgR_at (by rw [zcR_at (show (y_143.toInt.toNat : Int) < (b56 0).toInt by omega)]; omega), ← f9]; omega) (by omega) ev_259 (by omega) uf_274 (by rw [ev_272]) (fun q => by rw [hfx_282 q]) hfx_279 uf_289 hwv_283 (by have p9 := z_pl hv_288 (by decide); omega)) (zm_up qv_290 hmk_223 (by decide)) (hP.sub [0, 3, 4, 5, 2, 1] rfl) (hD.sub [0, 3, 4, 5, 2, 1] (by decide) rfl) hS (lv_sub hl [0, 1, 3, 4, 5, 6] rfl)
abbrev m_s4_Model_layPrefixes : Room := { frames := 1, cells := 0, slots := 0, locals := 23 }
set_option maxHeartbeats 4000000 in
set_option maxRecDepth 100000 in
theorem s4_Model_layPrefixes (l : Launch) (G : zG) (b0 : Nat) (b1 : Int32) (b2 : Int32) (b3 : Nat) (b4 : Nat) (b5 : Nat) (b6 : Nat) (b7 : Int32) (b8 : Nat) (b9 : Int32) (b10 : Int32) (b11 : Int32) (b12 : Int32) (b13 : Nat) (b14 : Nat) (b15 : Nat) (b16 : Int32) (b17 : Nat) (b18 : Nat) (b19 : Nat) (b20 : Nat) (b21 : Nat) (b22 : Nat) (b23 : Nat) (b24 : Nat) (b25 : Nat) (b26 : Nat) (b27 : Nat) (b28 : Nat) (b29 : Int32) (b30 : Nat) (b31 : Nat) (b32 : Int32) (b33 : Int32) (b34 : Int32) (b35 : Int32) (b36 : Nat) (b37 : Nat) (b38 : Nat) (b39 : Nat) (b40 : Nat) (b41 : Nat) (b42 : Nat) (b43 : Int32) (b44 : Nat) (b45 : Nat) (b46 : Int32) (b47 : Nat) (b48 : Nat) (b49 : Nat) (b50 : Nat) (b51 : Nat) (b52 : Int32) (b53 : Nat) (b54 : Nat) (b55 : Nat) (b56 : Nat → Int32) (b57 : Nat → Int32) (b58 : Nat → Int32) (b59 : Nat → Int32) (b60 : Nat → Int32) (hb1 : zI b1 (-1) 19) (hb7 : zI b7 0 8) (hb9 : zI b9 0 240) (hb10 : zI b10 0 240) (hb12 : zI b12 0 1) (hb16 : zI b16 0 12) (hb29 : zI b29 0 1) (hb32 : zI b32 0 1) (hb43 : zI b43 0 1000) (hb46 : zI b46 0 1000) (hb52 : zI b52 0 400) (hb56 : zW5 b56) (hb57 : zR b57 0 241) (hb58 : zR b58 (-1) 240) (hb59 : zqa qP b59) (hb60 : zqa qC b60) : zM l G y_Model_layPrefixes prog_14_method_27_code 7 (Option.none : Option Jvm.ClassFile.FieldType) m_s4_Model_layPrefixes [.ref b0, .int 1, .int b1] [(b0, .inr (12, [.int b2, .ref b3, .ref b4, .ref b5, .ref b6, .int b7, .ref b8, .int b9, .int b10, .int b11, .int b12, .ref b13, .ref b14, .ref b15, .int b16, .ref b17, .ref b18, .ref b19, .ref b20, .ref b21, .ref b22, .ref b23, .ref b24, .ref b25, .ref b26, .ref b27, .ref b28, .int b29, .ref b30, .ref b31, .int b32, .int b33, .int b34, .int b35, .ref b36, .ref b37, .ref b38, .ref b39, .ref b40, .ref b41, .ref b42, .int b43, .ref b44, .ref b45, .int b46, .ref b47, .ref b48, .ref b49, .ref b50, .ref b51, .int b52, .ref b53, .ref b54, .ref b55])), (b3, .inl (G.2 0, 503, .inl b56)), (b17, .inl (G.2 0, 2, .inl b57)), (b18, .inl (G.2 0, 4820, .inl b58)), (b19, .inl (G.2 0, 520, .inl b59)), (b21, .inl (G.2 0, 482, .inl b60))] (fun v w => ∃ (e0 : Nat → Int32), ∃ (e1 : Nat → Int32), ∃ (e2 : Nat → Int32), ∃ (e3 : Nat → Int32), v = none ∧ w = [(b0, .inr (12, [.int b2, .ref b3, .ref b4, .ref b5, .ref b6, .int b7, .ref b8, .int b9, .int b10, .int b11, .int b12, .ref b13, .ref b14, .ref b15, .int b16, .ref b17, .ref b18, .ref b19, .ref b20, .ref b21, .ref b22, .ref b23, .ref b24, .ref b25, .ref b26, .ref b27, .ref b28, .int b29, .ref b30, .ref b31, .int b32, .int b33, .int b34, .int b35, .ref b36, .ref b37, .ref b38, .ref b39, .ref b40, .ref b41, .ref b42, .int b43, .ref b44, .ref b45, .int b46, .ref b47, .ref b48, .ref b49, .ref b50, .ref b51, .int b52, .ref b53, .ref b54, .ref b55])), (b3, .inl (G.2 0, 503, .inl b56)), (b17, .inl (G.2 0, 2, .inl e0)), (b18, .inl (G.2 0, 4820, .inl e1)), (b19, .inl (G.2 0, 520, .inl e2)), (b21, .inl (G.2 0, 482, .inl e3))] ∧ (zR e0 0 241) ∧ (zR e1 (-1) 240) ∧ (zqa qP e2) ∧ (zqa qC e3) ∧ (zTm ((b56 (0 : Int32).toNatClampNeg).toInt) (b1 : Int32).toInt (e0 (1 : Int32).toNatClampNeg).toInt 260 b56 e2) ∧ (1 ≤ (e0 (1 : Int32).toNatClampNeg).toInt) ∧ ((e0 (1 : Int32).toNatClampNeg).toInt = ((ytr (zgR b56) (zcR b56) (b1 : Int32).toInt (b56 0).toInt.toNat).1 : Int) ∧ yPL (zgR b56) (zcR b56) (b1 : Int32).toInt (b56 0).toInt.toNat 260 e2)) := by
  refine z_start (by decide +kernel) (Nat.le_of_ble_eq_true rfl) ?_
  intro p e s m below meth c A Z hr hnm hA hP hD hS ls hl
  have Z : zC p s m _ meth c prog_14_method_27_code 7 "TraceMachinesModel" G := Z
  obtain ⟨hx, hb, hml, hown, hts, hK, hN, hlocks⟩ := id Z
  have hl : lv_has ls 7 [(0, .ref b0), (1, .int 1), (2, .int b1)] := hl
  refine lv_aload_n hx hb d_Model_layPrefixes_0 rfl (lv_at hl 0 rfl) ?_
  refine va_get (D := G.1) (ci := 12) (v := .ref b17) (C := R_Model) (T := F_Model) (N := 54) hx hb hts i_Model hown hK hP 0 rfl rfl 15 (by decide) (hts _ q1124) (fun _ h9 => h9) rfl d_Model_layPrefixes_1 ?_
  refine lv_iload_n hx hb d_Model_layPrefixes_4 rfl (lv_at hl 1 rfl) ?_
  refine lv_iconst (v := 0) hx hb d_Model_layPrefixes_5 (by decide) ?_
  refine va_iast hx hb hK hP hD hS 2 0 rfl rfl (i := 1) (z_in rfl) d_Model_layPrefixes_6 (fun H locs hP hD hS => ?_)
  obtain ⟨f_1, hf_1, gf_1, uf_1, hP, hD⟩ := z_newfu 2 hP hD rfl hb57 (zI.wk (l' := 0) (h' := 241) zc_0 (by decide))
  have hP : va_P G.1 classes [(b0, .inr (12, [.int b2, .ref b3, .ref b4, .ref b5, .ref b6, .int b7, .ref b8, .int b9, .int b10, .int b11, .int b12, .ref b13, .ref b14, .ref b15, .int b16, .ref b17, .ref b18, .ref b19, .ref b20, .ref b21, .ref b22, .ref b23, .ref b24, .ref b25, .ref b26, .ref b27, .ref b28, .int b29, .ref b30, .ref b31, .int b32, .int b33, .int b34, .int b35, .ref b36, .ref b37, .ref b38, .ref b39, .ref b40, .ref b41, .ref b42, .int b43, .ref b44, .ref b45, .int b46, .ref b47, .ref b48, .ref b49, .ref b50, .ref b51, .int b52, .ref b53, .ref b54, .ref b55])), (b3, .inl (G.2 0, 503, .inl b56)), (b17, .inl (G.2 0, 2, .inl f_1)), (b18, .inl (G.2 0, 4820, .inl b58)), (b19, .inl (G.2 0, 520, .inl b59)), (b21, .inl (G.2 0, 482, .inl b60))] H := hP
  have hD := z_tie hP hD rfl
  refine lv_aload_n hx hb d_Model_layPrefixes_7 rfl (lv_at hl 0 rfl) ?_
  refine lv_iload_n hx hb d_Model_layPrefixes_8 rfl (lv_at hl 1 rfl) ?_
  refine z_callV (index := 199) (As := [.int 1]) (rest := []) (wr := [(b3, .inl (G.2 0, 503, .inl b56)), (b19, .inl (G.2 0, 520, .inl b59))]) Z (s4_Model_newPrefix l G (b0) (b2) (b3) (b4) (b5) (b6) (b7) (b8) (b9) (b10) (b11) (b12) (b13) (b14) (b15) (b16) (b17) (b18) (b19) (b20) (b21) (b22) (b23) (b24) (b25) (b26) (b27) (b28) (b29) (b30) (b31) (b32) (b33) (b34) (b35) (b36) (b37) (b38) (b39) (b40) (b41) (b42) (b43) (b44) (b45) (b46) (b47) (b48) (b49) (b50) (b51) (b52) (b53) (b54) (b55) (f_1) (b58) (b60) hb7 hb9 hb10 hb12 hb16 hb29 hb32 hb43 hb46 hb52 hf_1 hb58 hb60 (by rw [gf_1]; have _l := li_0; omega) (by intro q h1 h2; rw [gf_1] at h2; have _l := li_0; omega)) hl.1 q1368 q1370 qs58 q14 q1371 ⟨by decide, by decide, by show _ = some 1; decide +kernel⟩ ⟨Nat.le_of_ble_eq_true rfl, Nat.le_of_ble_eq_true rfl⟩ ⟨Nat.le_of_ble_eq_true rfl, Nat.le_of_ble_eq_true rfl⟩ rfl (Nat.le_of_ble_eq_true rfl) d_Model_layPrefixes_9 hP hD hS hA 0 12 rfl rfl rfl [0, 2, 3, 5] [1, 4] rfl rfl rfl rfl (by decide) (fun v w1 H locs hw_2 hP hD hS => ?_)
  obtain ⟨f_3, f_4, f_5, rfl, rfl, hf_3, hf_4, hf_5, hfx_6, hfx_7, hfx_8, hfx_9⟩ := hw_2
  have hP : va_P G.1 classes [(b3, .inl (G.2 0, 503, .inl b56)), (b19, .inl (G.2 0, 520, .inl b59)), (b0, .inr (12, [.int b2, .ref b3, .ref b4, .ref b5, .ref b6, .int b7, .ref b8, .int b9, .int b10, .int b11, .int b12, .ref b13, .ref b14, .ref b15, .int b16, .ref b17, .ref b18, .ref b19, .ref b20, .ref b21, .ref b22, .ref b23, .ref b24, .ref b25, .ref b26, .ref b27, .ref b28, .int b29, .ref b30, .ref b31, .int b32, .int b33, .int b34, .int b35, .ref b36, .ref b37, .ref b38, .ref b39, .ref b40, .ref b41, .ref b42, .int b43, .ref b44, .ref b45, .int b46, .ref b47, .ref b48, .ref b49, .ref b50, .ref b51, .int b52, .ref b53, .ref b54, .ref b55])), (b17, .inl (G.2 0, 2, .inl f_3)), (b18, .inl (G.2 0, 4820, .inl f_4)), (b21, .inl (G.2 0, 482, .inl f_5))] H := hP
  have hD := z_tie hP hD rfl
  refine W.widen (k := 0) (n := 0) (Nat.le_of_ble_eq_true rfl) (Nat.le_of_ble_eq_true rfl) ?_
  refine lv_iconst (v := 0) hx hb d_Model_layPrefixes_12 (by decide) ?_
  refine lv_istore_n (lv' := [(3, .int 0), (0, .ref b0), (1, .int 1), (2, .int b1)]) hx hb d_Model_layPrefixes_13 rfl hl (by decide) rfl (fun ls hl => ?_)
  suffices key : ∀ (k_142 : Nat) (y_143 : Int32) (y_144 : Nat → Int32) (y_145 : Nat → Int32) (y_146 : Nat → Int32) (y_147 : Nat → Int32) (H : Heap) (locs : List Loc) (ls : Array Slot), (zI y_143 0 20) → (zR y_144 0 241) → (zR y_145 (-1) 240) → (zqa qP y_146) → (zqa qC y_147) → ((y_144 (1 : Int32).toNatClampNeg).toInt ≤ 12 * (y_143 : Int32).toInt + 1 ∧ 1 ≤ (y_144 (1 : Int32).toNatClampNeg).toInt) → (zLm y_145 2410 (10 * (y_144 (1 : Int32).toNatClampNeg).toInt) (y_144 (1 : Int32).toNatClampNeg).toInt) → (zTm ((y_143 : Int32).toInt) (b1 : Int32).toInt (y_144 (1 : Int32).toNatClampNeg).toInt 260 b56 y_146) → (True) → ((y_143 : Int32).toInt ≤ (b56 0).toInt) → (yRA (ytr (zgR b56) (zcR b56) (b1 : Int32).toInt (y_143 : Int32).toInt.toNat) 2410 (y_144 (1 : Int32).toNatClampNeg).toInt y_145 ∧ yPL (zgR b56) (zcR b56) (b1 : Int32).toInt (y_143 : Int32).toInt.toNat 260 y_146) → (20 : Int) - y_143.toInt < (k_142 : Int) → va_P G.1 classes [(b3, .inl (G.2 0, 503, .inl b56)), (b19, .inl (G.2 0, 520, .inl y_146)), (b0, .inr (12, [.int b2, .ref b3, .ref b4, .ref b5, .ref b6, .int b7, .ref b8, .int b9, .int b10, .int b11, .int b12, .ref b13, .ref b14, .ref b15, .int b16, .ref b17, .ref b18, .ref b19, .ref b20, .ref b21, .ref b22, .ref b23, .ref b24, .ref b25, .ref b26, .ref b27, .ref b28, .int b29, .ref b30, .ref b31, .int b32, .int b33, .int b34, .int b35, .ref b36, .ref b37, .ref b38, .ref b39, .ref b40, .ref b41, .ref b42, .int b43, .ref b44, .ref b45, .int b46, .ref b47, .ref b48, .ref b49, .ref b50, .ref b51, .int b52, .ref b53, .ref b54, .ref b55])), (b17, .inl (G.2 0, 2, .inl y_144)), (b18, .inl (G.2 0, 4820, .inl y_145)), (b21, .inl (G.2 0, 482, .inl y_147))] H → va_D A [(b3, .inl (G.2 0, 503, .inl b56)), (b19, .inl (G.2 0, 520, .inl y_146)), (b0, .inr (12, [.int b2, .ref b3, .ref b4, .ref b5, .ref b6, .int b7, .ref b8, .int b9, .int b10, .int b11, .int b12, .ref b13, .ref b14, .ref b15, .int b16, .ref b17, .ref b18, .ref b19, .ref b20, .ref b21, .ref b22, .ref b23, .ref b24, .ref b25, .ref b26, .ref b27, .ref b28, .int b29, .ref b30, .ref b31, .int b32, .int b33, .int b34, .int b35, .ref b36, .ref b37, .ref b38, .ref b39, .ref b40, .ref b41, .ref b42, .int b43, .ref b44, .ref b45, .int b46, .ref b47, .ref b48, .ref b49, .ref b50, .ref b51, .int b52, .ref b53, .ref b54, .ref b55])), (b17, .inl (G.2 0, 2, .inl y_144)), (b18, .inl (G.2 0, 4820, .inl y_145)), (b21, .inl (G.2 0, 482, .inl y_147))] → va_S A s.heap H locs → lv_has ls 7 [(3, .int y_143), (0, .ref b0), (1, .int 1), (2, .int b1)] → W p l e m_s4_Model_layPrefixes s m ([.ref b0, .int 1, .int b1] : List Value).toArray below meth c H locs 0 0 (MQ below (zQ G (fun v w => ∃ (e0 : Nat → Int32), ∃ (e1 : Nat → Int32), ∃ (e2 : Nat → Int32), ∃ (e3 : Nat → Int32), v = none ∧ w = [(b0, .inr (12, [.int b2, .ref b3, .ref b4, .ref b5, .ref b6, .int b7, .ref b8, .int b9, .int b10, .int b11, .int b12, .ref b13, .ref b14, .ref b15, .int b16, .ref b17, .ref b18, .ref b19, .ref b20, .ref b21, .ref b22, .ref b23, .ref b24, .ref b25, .ref b26, .ref b27, .ref b28, .int b29, .ref b30, .ref b31, .int b32, .int b33, .int b34, .int b35, .ref b36, .ref b37, .ref b38, .ref b39, .ref b40, .ref b41, .ref b42, .int b43, .ref b44, .ref b45, .int b46, .ref b47, .ref b48, .ref b49, .ref b50, .ref b51, .int b52, .ref b53, .ref b54, .ref b55])), (b3, .inl (G.2 0, 503, .inl b56)), (b17, .inl (G.2 0, 2, .inl e0)), (b18, .inl (G.2 0, 4820, .inl e1)), (b19, .inl (G.2 0, 520, .inl e2)), (b21, .inl (G.2 0, 482, .inl e3))] ∧ (zR e0 0 241) ∧ (zR e1 (-1) 240) ∧ (zqa qP e2) ∧ (zqa qC e3) ∧ (zTm ((b56 (0 : Int32).toNatClampNeg).toInt) (b1 : Int32).toInt (e0 (1 : Int32).toNatClampNeg).toInt 260 b56 e2) ∧ (1 ≤ (e0 (1 : Int32).toNatClampNeg).toInt) ∧ ((e0 (1 : Int32).toNatClampNeg).toInt = ((ytr (zgR b56) (zcR b56) (b1 : Int32).toInt (b56 0).toInt.toNat).1 : Int) ∧ yPL (zgR b56) (zcR b56) (b1 : Int32).toInt (b56 0).toInt.toNat 260 e2)) A) ([.ref b0, .int 1, .int b1] : List Value).toArray s m_s4_Model_layPrefixes.cells m_s4_Model_layPrefixes.slots A) (F0 m 14 ls []) by
    exact key 21 (0) (f_3) (f_4) (b59) (f_5) _ _ _ (zI.wk (l' := 0) (h' := 20) zc_0 (by decide)) hf_3 hf_4 hb59 hf_5 (by have h9 := hfx_6; rw [gf_1] at h9; have _l0 := li_0; omega) hfx_7 (by have _l0 := li_0; intro t i h1 h2 h3; omega) trivial (by have a9 := (hb56 0).1 rfl; have a8 := a9.1; have _l0 := li_0; omega) (by rw [show (0 : Int32).toInt.toNat = 0 by rw [li_0]; rfl]; exact yRA_0 (by have h9 := hfx_6; rw [gf_1] at h9; have _l0 := li_0; omega) (fun j hj => by rw [hfx_9]; rw [if_pos (by rw [gf_1]; have _l0 := li_0; omega)]; exact li_m1)) (zm_upi (zI.wk (l' := 0) (h' := 20) zc_0 (by decide)) (by decide)) hP hD hS (lv_sub hl [0, 1, 2, 3] rfl)
  intro k_142
  induction k_142 with
  | zero =>
    intro y_143 y_144 y_145 y_146 y_147 H locs ls hy_143 hy_144 hy_145 hy_146 hy_147 hli_148 hli_149 hli_150 hli_151 hli_152 hli_153 hmk_142 hP hD hS hl
    exact (zm_up0 hy_143 hmk_142).elim
  | succ k_142 ihk_142 =>
    intro y_143 y_144 y_145 y_146 y_147 H locs ls hy_143 hy_144 hy_145 hy_146 hy_147 hli_148 hli_149 hli_150 hli_151 hli_152 hli_153 hmk_142 hP hD hS hl
    refine lv_iload_n hx hb d_Model_layPrefixes_14 rfl (lv_at hl 0 rfl) ?_
    refine lv_aload_n hx hb d_Model_layPrefixes_15 rfl (lv_at hl 1 rfl) ?_
    refine z_callV (index := 134) (As := []) (rest := [.int y_143]) (wr := [(b19, .inl (G.2 0, 520, .inl y_146)), (b17, .inl (G.2 0, 2, .inl y_144)), (b18, .inl (G.2 0, 4820, .inl y_145)), (b21, .inl (G.2 0, 482, .inl y_147))]) Z (s1_Model_many l G (b0) (b2) (b3) (b4) (b5) (b6) (b7) (b8) (b9) (b10) (b11) (b12) (b13) (b14) (b15) (b16) (b17) (b18) (b19) (b20) (b21) (b22) (b23) (b24) (b25) (b26) (b27) (b28) (b29) (b30) (b31) (b32) (b33) (b34) (b35) (b36) (b37) (b38) (b39) (b40) (b41) (b42) (b43) (b44) (b45) (b46) (b47) (b48) (b49) (b50) (b51) (b52) (b53) (b54) (b55) (b56) hb7 hb9 hb10 hb12 hb16 hb29 hb32 hb43 hb46 hb52 hb56) hl.1 q1320 q1322 qs51 q14 q1323 ⟨by decide, by decide, by show _ = some 0; decide +kernel⟩ ⟨Nat.le_of_ble_eq_true rfl, Nat.le_of_ble_eq_true rfl⟩ ⟨Nat.le_of_ble_eq_true rfl, Nat.le_of_ble_eq_true rfl⟩ rfl (Nat.le_of_ble_eq_true rfl) d_Model_layPrefixes_16 hP hD hS hA 2 12 rfl rfl rfl [2, 0] [1, 3, 4, 5] rfl rfl rfl rfl (by decide) (fun v w1 H locs hw_154 hP hD hS => ?_)
    obtain ⟨x_155, rfl, rfl, hx_155, hfx_156⟩ := hw_154
    have hP : va_P G.1 classes [(b19, .inl (G.2 0, 520, .inl y_146)), (b17, .inl (G.2 0, 2, .inl y_144)), (b18, .inl (G.2 0, 4820, .inl y_145)), (b21, .inl (G.2 0, 482, .inl y_147)), (b0, .inr (12, [.int b2, .ref b3, .ref b4, .ref b5, .ref b6, .int b7, .ref b8, .int b9, .int b10, .int b11, .int b12, .ref b13, .ref b14, .ref b15, .int b16, .ref b17, .ref b18, .ref b19, .ref b20, .ref b21, .ref b22, .ref b23, .ref b24, .ref b25, .ref b26, .ref b27, .ref b28, .int b29, .ref b30, .ref b31, .int b32, .int b33, .int b34, .int b35, .ref b36, .ref b37, .ref b38, .ref b39, .ref b40, .ref b41, .ref b42, .int b43, .ref b44, .ref b45, .int b46, .ref b47, .ref b48, .ref b49, .ref b50, .ref b51, .int b52, .ref b53, .ref b54, .ref b55])), (b3, .inl (G.2 0, 503, .inl b56))] H := hP
    have hD := z_tie hP hD rfl
    refine W.widen (k := 0) (n := 0) (Nat.le_of_ble_eq_true rfl) (Nat.le_of_ble_eq_true rfl) ?_
    refine lv_icmp_ge (tgt := 152) hx hb d_Model_layPrefixes_19 (by decide) (fun hc_157 => ?_) (fun hc_157 => ?_)
    · have _nhc_157 := hc_157
      have ni_158 := (fa_le _ _).mp hc_157
      exact z_vret hx hb hr hlocks (hP.sub [4, 5, 1, 2, 0, 3] rfl) (hD.sub [4, 5, 1, 2, 0, 3] (by decide) rfl) hS (Nat.le_of_ble_eq_true rfl) (Nat.le_of_ble_eq_true rfl) d_Model_layPrefixes_152 ⟨y_144, y_145, y_146, y_147, rfl, rfl, hy_144, hy_145, hy_146, hy_147, (by intro t i h1 h2 h3; exact hli_150 t i (by rw [← hfx_156] at h1; omega) h2 h3), (by omega), (by have m9 := congrArg Int32.toInt hfx_156; rw [z_n0] at m9; have j9 := hli_153; rw [show y_143.toInt.toNat = (b56 0).toInt.toNat by omega] at j9; exact ⟨j9.1.1, j9.2⟩)⟩
    · have _nhc_157 := hc_157
      have ni_159 := (fa_lt _ _).mp (zi_nle hc_157)
      have hv_160 : zI y_143 0 19 := zI.lt_l hy_143 hx_155 (zi_nle hc_157) (by decide)
      have hv_161 : zI x_155 1 20 := zI.lt_r hy_143 hx_155 (zi_nle hc_157) (by decide)
      refine lv_iconst (v := 0) hx hb d_Model_layPrefixes_22 (by decide) ?_
      refine lv_istore (lv' := [(4, .int 0), (3, .int y_143), (0, .ref b0), (1, .int 1), (2, .int b1)]) hx hb d_Model_layPrefixes_23 hl (by decide) rfl (fun ls hl => ?_)
      refine lv_aload_n hx hb d_Model_layPrefixes_25 rfl (lv_at hl 2 rfl) ?_
      refine va_get (D := G.1) (ci := 12) (v := .ref b19) (C := R_Model) (T := F_Model) (N := 54) hx hb hts i_Model hown hK hP 4 rfl rfl 17 (by decide) (hts _ q1126) (fun _ h9 => h9) rfl d_Model_layPrefixes_26 ?_
      refine lv_sipush (v := 260) hx hb d_Model_layPrefixes_29 (by decide) ?_
      refine lv_iload_n hx hb d_Model_layPrefixes_32 rfl (lv_at hl 3 rfl) ?_
      refine lv_imul hx hb d_Model_layPrefixes_33 ?_
      refine z_topi (y := 260) (by decide +kernel) ?_
      refine lv_bipush (v := 13) hx hb d_Model_layPrefixes_34 (by decide) ?_
      refine lv_iload_n hx hb d_Model_layPrefixes_36 rfl (lv_at hl 1 rfl) ?_
      refine lv_imul hx hb d_Model_layPrefixes_37 ?_
      refine lv_topi (fun v_162 ev_162 => ?_)
      obtain ⟨qv_162, hv_162⟩ := zI_mul (l := 0) (h := 247) zc_13 hv_160 ev_162 (by decide)
      rw [li_13] at qv_162
      refine lv_iadd hx hb d_Model_layPrefixes_38 ?_
      refine lv_topi (fun v_163 ev_163 => ?_)
      obtain ⟨qv_163, hv_163⟩ := zI_add (l := 260) (h := 507) zc_260 hv_162 ev_163 (by decide)
      rw [li_260] at qv_163
      refine lv_iconst (v := 0) hx hb d_Model_layPrefixes_39 (by decide) ?_
      refine va_iast hx hb hK hP hD hS 0 0 rfl rfl (zI.inn hv_163 (by decide)) d_Model_layPrefixes_40 (fun H locs hP hD hS => ?_)
      obtain ⟨f_164, hf_164, gf_164, uf_164, hP, hD⟩ := z_newq_ (Q := qP) 0 hP hD rfl hy_146 (qP_v hv_163 (by decide) ⟨⟨by have _w := li_0; have _x := hv_163; omega, by have _w := li_0; have _x := hv_163; omega⟩, by have _w := li_0; have _x := hv_163; omega⟩)
      have hP : va_P G.1 classes [(b19, .inl (G.2 0, 520, .inl f_164)), (b17, .inl (G.2 0, 2, .inl y_144)), (b18, .inl (G.2 0, 4820, .inl y_145)), (b21, .inl (G.2 0, 482, .inl y_147)), (b0, .inr (12, [.int b2, .ref b3, .ref b4, .ref b5, .ref b6, .int b7, .ref b8, .int b9, .int b10, .int b11, .int b12, .ref b13, .ref b14, .ref b15, .int b16, .ref b17, .ref b18, .ref b19, .ref b20, .ref b21, .ref b22, .ref b23, .ref b24, .ref b25, .ref b26, .ref b27, .ref b28, .int b29, .ref b30, .ref b31, .int b32, .int b33, .int b34, .int b35, .ref b36, .ref b37, .ref b38, .ref b39, .ref b40, .ref b41, .ref b42, .int b43, .ref b44, .ref b45, .int b46, .ref b47, .ref b48, .ref b49, .ref b50, .ref b51, .int b52, .ref b53, .ref b54, .ref b55])), (b3, .inl (G.2 0, 503, .inl b56))] H := hP
      have hD := z_tie hP hD rfl
      refine lv_iconst (v := 0) hx hb d_Model_layPrefixes_41 (by decide) ?_
      refine lv_istore (lv' := [(5, .int 0), (4, .int 0), (3, .int y_143), (0, .ref b0), (1, .int 1), (2, .int b1)]) hx hb d_Model_layPrefixes_42 hl (by decide) rfl (fun ls hl => ?_)
      suffices key : ∀ (k_223 : Nat) (y_224 : Int32) (y_225 : Int32) (y_226 : Nat → Int32) (y_227 : Nat → Int32) (y_228 : Nat → Int32) (y_229 : Nat → Int32) (H : Heap) (locs : List Loc) (ls : Array Slot), (zI y_224 0 12) → (zI y_225 0 240) → (zR y_226 0 241) → (zR y_227 (-1) 240) → (zqa qP y_228) → (zqa qC y_229) → ((y_226 (1 : Int32).toNatClampNeg).toInt ≤ 12 * (y_143 : Int32).toInt + 1 + (y_224 : Int32).toInt ∧ 1 ≤ (y_226 (1 : Int32).toNatClampNeg).toInt) → ((y_225 : Int32).toInt < (y_226 (1 : Int32).toNatClampNeg).toInt) → (zLm y_227 2410 (10 * (y_226 (1 : Int32).toNatClampNeg).toInt) (y_226 (1 : Int32).toNatClampNeg).toInt) → (zTm ((y_143 : Int32).toInt) (b1 : Int32).toInt (y_226 (1 : Int32).toNatClampNeg).toInt 260 b56 y_228) → (∀ i : Nat, (i : Int) ≤ (y_224 : Int32).toInt → (y_228 (260 + 13 * (y_143 : Int32).toInt.toNat + i)).toInt < (y_226 (1 : Int32).toNatClampNeg).toInt) → (True) → ((y_224 : Int32).toInt ≤ ((b56 (1 + (y_143 : Int32).toInt.toNat))).toInt) → ((y_224 : Int32).toInt = 0 ∨ ¬ (y_143 : Int32).toInt = (b1 : Int32).toInt) → (yRP (zgR b56) (zcR b56) (b1 : Int32).toInt (y_143 : Int32).toInt.toNat (y_224 : Int32).toInt.toNat 2410 260 (y_226 (1 : Int32).toNatClampNeg).toInt y_227 y_228 (y_225 : Int32).toInt) → (12 : Int) - y_224.toInt < (k_223 : Int) → va_P G.1 classes [(b19, .inl (G.2 0, 520, .inl y_228)), (b17, .inl (G.2 0, 2, .inl y_226)), (b18, .inl (G.2 0, 4820, .inl y_227)), (b21, .inl (G.2 0, 482, .inl y_229)), (b0, .inr (12, [.int b2, .ref b3, .ref b4, .ref b5, .ref b6, .int b7, .ref b8, .int b9, .int b10, .int b11, .int b12, .ref b13, .ref b14, .ref b15, .int b16, .ref b17, .ref b18, .ref b19, .ref b20, .ref b21, .ref b22, .ref b23, .ref b24, .ref b25, .ref b26, .ref b27, .ref b28, .int b29, .ref b30, .ref b31, .int b32, .int b33, .int b34, .int b35, .ref b36, .ref b37, .ref b38, .ref b39, .ref b40, .ref b41, .ref b42, .int b43, .ref b44, .ref b45, .int b46, .ref b47, .ref b48, .ref b49, .ref b50, .ref b51, .int b52, .ref b53, .ref b54, .ref b55])), (b3, .inl (G.2 0, 503, .inl b56))] H → va_D A [(b19, .inl (G.2 0, 520, .inl y_228)), (b17, .inl (G.2 0, 2, .inl y_226)), (b18, .inl (G.2 0, 4820, .inl y_227)), (b21, .inl (G.2 0, 482, .inl y_229)), (b0, .inr (12, [.int b2, .ref b3, .ref b4, .ref b5, .ref b6, .int b7, .ref b8, .int b9, .int b10, .int b11, .int b12, .ref b13, .ref b14, .ref b15, .int b16, .ref b17, .ref b18, .ref b19, .ref b20, .ref b21, .ref b22, .ref b23, .ref b24, .ref b25, .ref b26, .ref b27, .ref b28, .int b29, .ref b30, .ref b31, .int b32, .int b33, .int b34, .int b35, .ref b36, .ref b37, .ref b38, .ref b39, .ref b40, .ref b41, .ref b42, .int b43, .ref b44, .ref b45, .int b46, .ref b47, .ref b48, .ref b49, .ref b50, .ref b51, .int b52, .ref b53, .ref b54, .ref b55])), (b3, .inl (G.2 0, 503, .inl b56))] → va_S A s.heap H locs → lv_has ls 7 [(5, .int y_224), (4, .int y_225), (3, .int y_143), (0, .ref b0), (1, .int 1), (2, .int b1)] → W p l e m_s4_Model_layPrefixes s m ([.ref b0, .int 1, .int b1] : List Value).toArray below meth c H locs 0 0 (MQ below (zQ G (fun v w => ∃ (e0 : Nat → Int32), ∃ (e1 : Nat → Int32), ∃ (e2 : Nat → Int32), ∃ (e3 : Nat → Int32), v = none ∧ w = [(b0, .inr (12, [.int b2, .ref b3, .ref b4, .ref b5, .ref b6, .int b7, .ref b8, .int b9, .int b10, .int b11, .int b12, .ref b13, .ref b14, .ref b15, .int b16, .ref b17, .ref b18, .ref b19, .ref b20, .ref b21, .ref b22, .ref b23, .ref b24, .ref b25, .ref b26, .ref b27, .ref b28, .int b29, .ref b30, .ref b31, .int b32, .int b33, .int b34, .int b35, .ref b36, .ref b37, .ref b38, .ref b39, .ref b40, .ref b41, .ref b42, .int b43, .ref b44, .ref b45, .int b46, .ref b47, .ref b48, .ref b49, .ref b50, .ref b51, .int b52, .ref b53, .ref b54, .ref b55])), (b3, .inl (G.2 0, 503, .inl b56)), (b17, .inl (G.2 0, 2, .inl e0)), (b18, .inl (G.2 0, 4820, .inl e1)), (b19, .inl (G.2 0, 520, .inl e2)), (b21, .inl (G.2 0, 482, .inl e3))] ∧ (zR e0 0 241) ∧ (zR e1 (-1) 240) ∧ (zqa qP e2) ∧ (zqa qC e3) ∧ (zTm ((b56 (0 : Int32).toNatClampNeg).toInt) (b1 : Int32).toInt (e0 (1 : Int32).toNatClampNeg).toInt 260 b56 e2) ∧ (1 ≤ (e0 (1 : Int32).toNatClampNeg).toInt) ∧ ((e0 (1 : Int32).toNatClampNeg).toInt = ((ytr (zgR b56) (zcR b56) (b1 : Int32).toInt (b56 0).toInt.toNat).1 : Int) ∧ yPL (zgR b56) (zcR b56) (b1 : Int32).toInt (b56 0).toInt.toNat 260 e2)) A) ([.ref b0, .int 1, .int b1] : List Value).toArray s m_s4_Model_layPrefixes.cells m_s4_Model_layPrefixes.slots A) (F0 m 44 ls []) by
        exact key 13 (0) (0) (y_144) (y_145) (f_164) (y_147) _ _ _ (zI.wk (l' := 0) (h' := 12) zc_0 (by decide)) (zI.wk (l' := 0) (h' := 240) zc_0 (by decide)) hy_144 hy_145 hf_164 hy_147 (by have _l0 := li_0; omega) (by have _l0 := li_0; omega) hli_149 (by have _l0 := li_0; have _l1 := li_1; have p9 := z_pl hv_163 (by decide); intro t i h1 h2 h3; rw [uf_164, z_at]; split; omega; have := hli_150 t i h1 h2 h3; omega) (by have _l0 := li_0; have _l1 := li_1; have p9 := z_pl hv_163 (by decide); intro i hi; rw [uf_164, z_at]; split; omega; omega) trivial (by have a9 := zW5.len hb56 y_143.toInt.toNat (by omega); have _l0 := li_0; omega) (Or.inl li_0) (by have _l0 := li_0; rw [show (0 : Int32).toInt.toNat = 0 by omega, li_0]; exact yRP_0 hli_153.1 hli_153.2 (yRw_c (yRw_W5 hb56)) uf_164 (by have p9 := z_pl hv_163 (by decide); omega) li_0) (zm_upi (zI.wk (l' := 0) (h' := 12) zc_0 (by decide)) (by decide)) hP hD hS (lv_sub hl [0, 1, 2, 3, 4, 5] rfl)
      intro k_223
      induction k_223 with
      | zero =>
        intro y_224 y_225 y_226 y_227 y_228 y_229 H locs ls hy_224 hy_225 hy_226 hy_227 hy_228 hy_229 hli_230 hli_231 hli_232 hli_233 hli_234 hli_235 hli_236 hli_237 hli_238 hmk_223 hP hD hS hl
        exact (zm_up0 hy_224 hmk_223).elim
      | succ k_223 ihk_223 =>
        intro y_224 y_225 y_226 y_227 y_228 y_229 H locs ls hy_224 hy_225 hy_226 hy_227 hy_228 hy_229 hli_230 hli_231 hli_232 hli_233 hli_234 hli_235 hli_236 hli_237 hli_238 hmk_223 hP hD hS hl
        refine lv_iload hx hb d_Model_layPrefixes_44 (lv_at hl 0 rfl) ?_
        refine lv_aload_n hx hb d_Model_layPrefixes_46 rfl (lv_at hl 3 rfl) ?_
        refine lv_iload_n hx hb d_Model_layPrefixes_47 rfl (lv_at hl 2 rfl) ?_
        refine z_callV (index := 203) (As := [.int y_143]) (rest := [.int y_224]) (wr := [(b19, .inl (G.2 0, 520, .inl y_228)), (b17, .inl (G.2 0, 2, .inl y_226)), (b18, .inl (G.2 0, 4820, .inl y_227)), (b21, .inl (G.2 0, 482, .inl y_229))]) Z (s1_Model_calls l G (b0) (y_143) (b2) (b3) (b4) (b5) (b6) (b7) (b8) (b9) (b10) (b11) (b12) (b13) (b14) (b15) (b16) (b17) (b18) (b19) (b20) (b21) (b22) (b23) (b24) (b25) (b26) (b27) (b28) (b29) (b30) (b31) (b32) (b33) (b34) (b35) (b36) (b37) (b38) (b39) (b40) (b41) (b42) (b43) (b44) (b45) (b46) (b47) (b48) (b49) (b50) (b51) (b52) (b53) (b54) (b55) (b56) hv_160 hb7 hb9 hb10 hb12 hb16 hb29 hb32 hb43 hb46 hb52 hb56) hl.1 q1352 q1354 qs54 q14 q1355 ⟨by decide, by decide, by show _ = some 1; decide +kernel⟩ ⟨Nat.le_of_ble_eq_true rfl, Nat.le_of_ble_eq_true rfl⟩ ⟨Nat.le_of_ble_eq_true rfl, Nat.le_of_ble_eq_true rfl⟩ rfl (Nat.le_of_ble_eq_true rfl) d_Model_layPrefixes_48 hP hD hS hA 4 12 rfl rfl rfl [4, 5] [0, 1, 2, 3] rfl rfl rfl rfl (by decide) (fun v w1 H locs hw_239 hP hD hS => ?_)
        obtain ⟨x_240, rfl, rfl, hx_240, hfx_241⟩ := hw_239
        have hP : va_P G.1 classes [(b19, .inl (G.2 0, 520, .inl y_228)), (b17, .inl (G.2 0, 2, .inl y_226)), (b18, .inl (G.2 0, 4820, .inl y_227)), (b21, .inl (G.2 0, 482, .inl y_229)), (b0, .inr (12, [.int b2, .ref b3, .ref b4, .ref b5, .ref b6, .int b7, .ref b8, .int b9, .int b10, .int b11, .int b12, .ref b13, .ref b14, .ref b15, .int b16, .ref b17, .ref b18, .ref b19, .ref b20, .ref b21, .ref b22, .ref b23, .ref b24, .ref b25, .ref b26, .ref b27, .ref b28, .int b29, .ref b30, .ref b31, .int b32, .int b33, .int b34, .int b35, .ref b36, .ref b37, .ref b38, .ref b39, .ref b40, .ref b41, .ref b42, .int b43, .ref b44, .ref b45, .int b46, .ref b47, .ref b48, .ref b49, .ref b50, .ref b51, .int b52, .ref b53, .ref b54, .ref b55])), (b3, .inl (G.2 0, 503, .inl b56))] H := hP
        have hD := z_tie hP hD rfl
        refine W.widen (k := 0) (n := 0) (Nat.le_of_ble_eq_true rfl) (Nat.le_of_ble_eq_true rfl) ?_
        refine lv_icmp_ge (tgt := 146) hx hb d_Model_layPrefixes_51 (by decide) (fun hc_242 => ?_) (fun hc_242 => ?_)
        · have _nhc_242 := hc_242
          have ni_243 := (fa_le _ _).mp hc_242
          obtain ⟨v_244, ev_244⟩ : ∃ z : Int32, z = y_143 + 1 := ⟨_, rfl⟩
          obtain ⟨qv_244, hv_244⟩ := zI_add (l := 1) (h := 20) hv_160 zc_1 ev_244 (by decide)
          rw [li_1] at qv_244
          refine lv_iinc (v := v_244) (lv' := [(3, .int v_244), (5, .int y_224), (4, .int y_225), (0, .ref b0), (1, .int 1), (2, .int b1)]) hx hb d_Model_layPrefixes_146 hl (k := 2) rfl (by rw [ev_244]; rfl) (by decide) rfl (fun ls hl => ?_)
          refine lv_goto (tgt := 14) hx hb d_Model_layPrefixes_149 (by decide) ?_
          exact ihk_142 (v_244) (y_226) (y_227) (y_228) (y_229) _ _ _ (zI.wk (l' := 0) (h' := 20) hv_244 (by decide)) hy_226 hy_227 hy_228 hy_229 (by have := hli_230; omega) hli_232 (by intro t i h1 h2 h3; rcases Decidable.em ((t : Int) < y_143.toInt) with h4 | h4; exact hli_233 t i h4 h2 h3; obtain rfl : t = y_143.toInt.toNat := (by omega); first | (exfalso; omega) | (rw [← hfx_241] at h3; exact hli_234 i (by omega))) trivial (by have m9 := congrArg Int32.toInt hfx_156; rw [z_n0] at m9; omega) (by have m9 := congrArg Int32.toInt hfx_156; rw [z_n0] at m9; rw [show v_244.toInt.toNat = y_143.toInt.toNat + 1 by omega]; exact yRP_e hli_238 (by rcases hli_237 with h9 | h9; (by_cases c8 : y_143.toInt = b1.toInt; exact Or.inl ⟨by omega, by omega⟩; exact Or.inr ⟨by omega, by rw [zcR_at (show (y_143.toInt.toNat : Int) < (b56 0).toInt by omega)]; have m9 := congrArg Int32.toInt hfx_156; rw [z_n0] at m9; have c9 := congrArg Int32.toInt hfx_241; first | omega | (exfalso; omega)⟩); (exact Or.inr ⟨by omega, by rw [zcR_at (show (y_143.toInt.toNat : Int) < (b56 0).toInt by omega)]; have m9 := congrArg Int32.toInt hfx_156; rw [z_n0] at m9; have c9 := congrArg Int32.toInt hfx_241; omega⟩))) (zm_up qv_244 hmk_142 (by decide)) (hP.sub [5, 0, 4, 1, 2, 3] rfl) (hD.sub [5, 0, 4, 1, 2, 3] (by decide) rfl) hS (lv_sub hl [0, 3, 4, 5] rfl)
        · have _nhc_242 := hc_242
          have ni_245 := (fa_lt _ _).mp (zi_nle hc_242)
          have hv_246 : zI y_224 0 11 := zI.lt_l hy_224 hx_240 (zi_nle hc_242) (by decide)
          have hv_247 : zI x_240 1 12 := zI.lt_r hy_224 hx_240 (zi_nle hc_242) (by decide)
          refine lv_iload_n hx hb d_Model_layPrefixes_54 rfl (lv_at hl 2 rfl) ?_
          refine lv_iload_n hx hb d_Model_layPrefixes_55 rfl (lv_at hl 5 rfl) ?_
          refine lv_icmp_eq (tgt := 146) hx hb d_Model_layPrefixes_56 (by decide) (fun hc_248 => ?_) (fun hc_248 => ?_)
          · have _nhc_248 := hc_248
            have ni_249 := (fa_eq _ _).mp hc_248
            have hv_250 : zI b1 0 19 := zI.eq_l hb1 hv_160 hc_248.symm
            obtain ⟨v_251, ev_251⟩ : ∃ z : Int32, z = y_143 + 1 := ⟨_, rfl⟩
            obtain ⟨qv_251, hv_251⟩ := zI_add (l := 1) (h := 20) hv_160 zc_1 ev_251 (by decide)
            rw [li_1] at qv_251
            refine lv_iinc (v := v_251) (lv' := [(3, .int v_251), (5, .int y_224), (4, .int y_225), (0, .ref b0), (1, .int 1), (2, .int b1)]) hx hb d_Model_layPrefixes_146 hl (k := 2) rfl (by rw [ev_251]; rfl) (by decide) rfl (fun ls hl => ?_)
            refine lv_goto (tgt := 14) hx hb d_Model_layPrefixes_149 (by decide) ?_
            exact ihk_142 (v_251) (y_226) (y_227) (y_228) (y_229) _ _ _ (zI.wk (l' := 0) (h' := 20) hv_251 (by decide)) hy_226 hy_227 hy_228 hy_229 (by have := hli_230; omega) hli_232 (by intro t i h1 h2 h3; rcases Decidable.em ((t : Int) < y_143.toInt) with h4 | h4; exact hli_233 t i h4 h2 h3; obtain rfl : t = y_143.toInt.toNat := (by omega); first | (exfalso; omega) | (rw [← hfx_241] at h3; exact hli_234 i (by omega))) trivial (by have m9 := congrArg Int32.toInt hfx_156; rw [z_n0] at m9; omega) (by have m9 := congrArg Int32.toInt hfx_156; rw [z_n0] at m9; rw [show v_251.toInt.toNat = y_143.toInt.toNat + 1 by omega]; exact yRP_e hli_238 (by rcases hli_237 with h9 | h9; (by_cases c8 : y_143.toInt = b1.toInt; exact Or.inl ⟨by omega, by omega⟩; exact Or.inr ⟨by omega, by rw [zcR_at (show (y_143.toInt.toNat : Int) < (b56 0).toInt by omega)]; have m9 := congrArg Int32.toInt hfx_156; rw [z_n0] at m9; have c9 := congrArg Int32.toInt hfx_241; first | omega | (exfalso; omega)⟩); (exact Or.inr ⟨by omega, by rw [zcR_at (show (y_143.toInt.toNat : Int) < (b56 0).toInt by omega)]; have m9 := congrArg Int32.toInt hfx_156; rw [z_n0] at m9; have c9 := congrArg Int32.toInt hfx_241; omega⟩))) (zm_up qv_251 hmk_142 (by decide)) (hP.sub [5, 0, 4, 1, 2, 3] rfl) (hD.sub [5, 0, 4, 1, 2, 3] (by decide) rfl) hS (lv_sub hl [0, 3, 4, 5] rfl)
          · have _nhc_248 := hc_248
            have ni_252 : ¬ (y_143 : Int32).toInt = (b1 : Int32).toInt := fun z => hc_248 ((fa_eq _ _).mpr z)
            refine lv_bipush (v := 10) hx hb d_Model_layPrefixes_59 (by decide) ?_
            refine lv_sipush (v := 241) hx hb d_Model_layPrefixes_61 (by decide) ?_
            refine lv_iload_n hx hb d_Model_layPrefixes_64 rfl (lv_at hl 4 rfl) ?_
            refine lv_imul hx hb d_Model_layPrefixes_65 ?_
            refine z_topi (y := 241) (by decide +kernel) ?_
            refine lv_iload hx hb d_Model_layPrefixes_66 (lv_at hl 1 rfl) ?_
            refine lv_iadd hx hb d_Model_layPrefixes_68 ?_
            refine lv_topi (fun v_253 ev_253 => ?_)
            obtain ⟨qv_253, hv_253⟩ := zI_add (l := 241) (h := 481) zc_241 hy_225 ev_253 (by decide)
            rw [li_241] at qv_253
            refine lv_imul hx hb d_Model_layPrefixes_69 ?_
            refine lv_topi (fun v_254 ev_254 => ?_)
            obtain ⟨qv_254, hv_254⟩ := zI_mul (l := 2410) (h := 4810) zc_10 hv_253 ev_254 (by decide)
            rw [li_10] at qv_254
            refine lv_aload_n hx hb d_Model_layPrefixes_70 rfl (lv_at hl 3 rfl) ?_
            refine lv_iload_n hx hb d_Model_layPrefixes_71 rfl (lv_at hl 2 rfl) ?_
            refine lv_iload hx hb d_Model_layPrefixes_72 (lv_at hl 0 rfl) ?_
            refine z_callV (index := 207) (As := [.int y_143, .int y_224]) (rest := [.int v_254]) (wr := [(b19, .inl (G.2 0, 520, .inl y_228)), (b17, .inl (G.2 0, 2, .inl y_226)), (b18, .inl (G.2 0, 4820, .inl y_227)), (b21, .inl (G.2 0, 482, .inl y_229))]) Z (s2_Model_letterAt l G (b0) (y_143) (y_224) (b2) (b3) (b4) (b5) (b6) (b7) (b8) (b9) (b10) (b11) (b12) (b13) (b14) (b15) (b16) (b17) (b18) (b19) (b20) (b21) (b22) (b23) (b24) (b25) (b26) (b27) (b28) (b29) (b30) (b31) (b32) (b33) (b34) (b35) (b36) (b37) (b38) (b39) (b40) (b41) (b42) (b43) (b44) (b45) (b46) (b47) (b48) (b49) (b50) (b51) (b52) (b53) (b54) (b55) (b56) hv_160 hv_246 hb7 hb9 hb10 hb12 hb16 hb29 hb32 hb43 hb46 hb52 hb56) hl.1 q1372 q1374 qs59 q14 q1375 ⟨by decide, by decide, by show _ = some 2; decide +kernel⟩ ⟨Nat.le_of_ble_eq_true rfl, Nat.le_of_ble_eq_true rfl⟩ ⟨Nat.le_of_ble_eq_true rfl, Nat.le_of_ble_eq_true rfl⟩ rfl (Nat.le_of_ble_eq_true rfl) d_Model_layPrefixes_74 hP hD hS hA 4 12 rfl rfl rfl [4, 5] [0, 1, 2, 3] rfl rfl rfl rfl (by decide) (fun v w1 H locs hw_255 hP hD hS => ?_)
            obtain ⟨x_256, rfl, rfl, hx_256, hfx_257⟩ := hw_255
            have hP : va_P G.1 classes [(b19, .inl (G.2 0, 520, .inl y_228)), (b17, .inl (G.2 0, 2, .inl y_226)), (b18, .inl (G.2 0, 4820, .inl y_227)), (b21, .inl (G.2 0, 482, .inl y_229)), (b0, .inr (12, [.int b2, .ref b3, .ref b4, .ref b5, .ref b6, .int b7, .ref b8, .int b9, .int b10, .int b11, .int b12, .ref b13, .ref b14, .ref b15, .int b16, .ref b17, .ref b18, .ref b19, .ref b20, .ref b21, .ref b22, .ref b23, .ref b24, .ref b25, .ref b26, .ref b27, .ref b28, .int b29, .ref b30, .ref b31, .int b32, .int b33, .int b34, .int b35, .ref b36, .ref b37, .ref b38, .ref b39, .ref b40, .ref b41, .ref b42, .int b43, .ref b44, .ref b45, .int b46, .ref b47, .ref b48, .ref b49, .ref b50, .ref b51, .int b52, .ref b53, .ref b54, .ref b55])), (b3, .inl (G.2 0, 503, .inl b56))] H := hP
            have hD := z_tie hP hD rfl
            refine W.widen (k := 0) (n := 0) (Nat.le_of_ble_eq_true rfl) (Nat.le_of_ble_eq_true rfl) ?_
            refine lv_iadd hx hb d_Model_layPrefixes_77 ?_
            refine lv_topi (fun v_258 ev_258 => ?_)
            obtain ⟨qv_258, hv_258⟩ := zI_add (l := 2410) (h := 4819) hv_254 hx_256 ev_258 (by decide)
            refine lv_istore (lv' := [(6, .int v_258), (5, .int y_224), (4, .int y_225), (3, .int y_143), (0, .ref b0), (1, .int 1), (2, .int b1)]) hx hb d_Model_layPrefixes_78 hl (by decide) rfl (fun ls hl => ?_)
            refine lv_aload_n hx hb d_Model_layPrefixes_80 rfl (lv_at hl 4 rfl) ?_
            refine va_get (D := G.1) (ci := 12) (v := .ref b18) (C := R_Model) (T := F_Model) (N := 54) hx hb hts i_Model hown hK hP 4 rfl rfl 16 (by decide) (hts _ q1125) (fun _ h9 => h9) rfl d_Model_layPrefixes_81 ?_
            refine lv_iload hx hb d_Model_layPrefixes_84 (lv_at hl 0 rfl) ?_
            refine va_iald hx hb hK hP 2 0 rfl rfl (zI.inn hv_258 (by decide)) d_Model_layPrefixes_86 ?_
            refine lv_topi (fun v_259 ev_259 => ?_)
            have hv_259 : zI v_259 (-1) 240 := (hy_227 _).eq ev_259
            refine lv_iconst (v := (-1)) hx hb d_Model_layPrefixes_87 (by decide) ?_
            refine lv_icmp_ne (tgt := 109) hx hb d_Model_layPrefixes_88 (by decide) (fun hc_260 => ?_) (fun hc_260 => ?_)
            · have _nhc_260 := hc_260
              have ni_261 : ¬ (v_259 : Int32).toInt = ((-1) : Int32).toInt := fun z => hc_260 ((fa_eq _ _).mpr z)
              simp only [li_m1] at ni_261
              have hv_262 : zI v_259 0 240 := zI.ne_lo hv_259 zc_m1 hc_260 (by decide)
              refine lv_aload_n hx hb d_Model_layPrefixes_109 rfl (lv_at hl 4 rfl) ?_
              refine va_get (D := G.1) (ci := 12) (v := .ref b18) (C := R_Model) (T := F_Model) (N := 54) hx hb hts i_Model hown hK hP 4 rfl rfl 16 (by decide) (hts _ q1125) (fun _ h9 => h9) rfl d_Model_layPrefixes_110 ?_
              refine lv_iload hx hb d_Model_layPrefixes_113 (lv_at hl 0 rfl) ?_
              refine va_iald hx hb hK hP 2 0 rfl rfl (zI.inn hv_258 (by decide)) d_Model_layPrefixes_115 ?_
              refine lv_topi (fun v_263 ev_263 => ?_)
              obtain rfl : v_259 = v_263 := ev_259.trans ev_263.symm
              have hp4v_259 : v_259.toInt < (y_226 (1 : Int32).toNatClampNeg).toInt := by have p9 := z_pl hv_258 (by decide); rw [ev_259]; exact hli_232 _ (by omega) (by omega)
              refine lv_istore (lv' := [(4, .int v_259), (6, .int v_258), (5, .int y_224), (3, .int y_143), (0, .ref b0), (1, .int 1), (2, .int b1)]) hx hb d_Model_layPrefixes_116 hl (by decide) rfl (fun ls hl => ?_)
              refine lv_aload_n hx hb d_Model_layPrefixes_118 rfl (lv_at hl 4 rfl) ?_
              refine va_get (D := G.1) (ci := 12) (v := .ref b19) (C := R_Model) (T := F_Model) (N := 54) hx hb hts i_Model hown hK hP 4 rfl rfl 17 (by decide) (hts _ q1126) (fun _ h9 => h9) rfl d_Model_layPrefixes_119 ?_
              refine lv_sipush (v := 260) hx hb d_Model_layPrefixes_122 (by decide) ?_
              refine lv_iload_n hx hb d_Model_layPrefixes_125 rfl (lv_at hl 5 rfl) ?_
              refine lv_imul hx hb d_Model_layPrefixes_126 ?_
              refine z_topi (y := 260) (by decide +kernel) ?_
              refine lv_bipush (v := 13) hx hb d_Model_layPrefixes_127 (by decide) ?_
              refine lv_iload_n hx hb d_Model_layPrefixes_129 rfl (lv_at hl 3 rfl) ?_
              refine lv_imul hx hb d_Model_layPrefixes_130 ?_
              refine lv_topi (fun v_264 ev_264 => ?_)
              obtain rfl : v_162 = v_264 := ev_162.trans ev_264.symm
              refine lv_iadd hx hb d_Model_layPrefixes_131 ?_
              refine lv_topi (fun v_265 ev_265 => ?_)
              obtain rfl : v_163 = v_265 := ev_163.trans ev_265.symm
              refine lv_iload hx hb d_Model_layPrefixes_132 (lv_at hl 2 rfl) ?_
              refine lv_iadd hx hb d_Model_layPrefixes_134 ?_
              refine lv_topi (fun v_266 ev_266 => ?_)
              obtain ⟨qv_266, hv_266⟩ := zI_add (l := 260) (h := 518) hv_163 hv_246 ev_266 (by decide)
              refine lv_iconst (v := 1) hx hb d_Model_layPrefixes_135 (by decide) ?_
              refine lv_iadd hx hb d_Model_layPrefixes_136 ?_
              refine lv_topi (fun v_267 ev_267 => ?_)
              obtain ⟨qv_267, hv_267⟩ := zI_add (l := 261) (h := 519) hv_266 zc_1 ev_267 (by decide)
              rw [li_1] at qv_267
              refine lv_iload hx hb d_Model_layPrefixes_137 (lv_at hl 0 rfl) ?_
              refine va_iast hx hb hK hP hD hS 0 0 rfl rfl (zI.inn hv_267 (by decide)) d_Model_layPrefixes_139 (fun H locs hP hD hS => ?_)
              obtain ⟨f_268, hf_268, gf_268, uf_268, hP, hD⟩ := z_newq_ (Q := qP) 0 hP hD rfl hy_228 (qP_v hv_267 (by decide) ⟨⟨by have _w := hv_262; have _x := hv_267; omega, by have _w := hv_262; have _x := hv_267; omega⟩, by have _w := hv_262; have _x := hv_267; omega⟩)
              have hP : va_P G.1 classes [(b19, .inl (G.2 0, 520, .inl f_268)), (b17, .inl (G.2 0, 2, .inl y_226)), (b18, .inl (G.2 0, 4820, .inl y_227)), (b21, .inl (G.2 0, 482, .inl y_229)), (b0, .inr (12, [.int b2, .ref b3, .ref b4, .ref b5, .ref b6, .int b7, .ref b8, .int b9, .int b10, .int b11, .int b12, .ref b13, .ref b14, .ref b15, .int b16, .ref b17, .ref b18, .ref b19, .ref b20, .ref b21, .ref b22, .ref b23, .ref b24, .ref b25, .ref b26, .ref b27, .ref b28, .int b29, .ref b30, .ref b31, .int b32, .int b33, .int b34, .int b35, .ref b36, .ref b37, .ref b38, .ref b39, .ref b40, .ref b41, .ref b42, .int b43, .ref b44, .ref b45, .int b46, .ref b47, .ref b48, .ref b49, .ref b50, .ref b51, .int b52, .ref b53, .ref b54, .ref b55])), (b3, .inl (G.2 0, 503, .inl b56))] H := hP
              have hD := z_tie hP hD rfl
              obtain ⟨v_269, ev_269⟩ : ∃ z : Int32, z = y_224 + 1 := ⟨_, rfl⟩
              obtain ⟨qv_269, hv_269⟩ := zI_add (l := 1) (h := 12) hv_246 zc_1 ev_269 (by decide)
              rw [li_1] at qv_269
              refine lv_iinc (v := v_269) (lv' := [(5, .int v_269), (4, .int v_259), (6, .int v_258), (3, .int y_143), (0, .ref b0), (1, .int 1), (2, .int b1)]) hx hb d_Model_layPrefixes_140 hl (k := 2) rfl (by rw [ev_269]; rfl) (by decide) rfl (fun ls hl => ?_)
              refine lv_goto (tgt := 44) hx hb d_Model_layPrefixes_143 (by decide) ?_
              exact ihk_223 (v_269) (v_259) (y_226) (y_227) (f_268) (y_229) _ _ _ (zI.wk (l' := 0) (h' := 12) hv_269 (by decide)) hv_262 hy_226 hy_227 hf_268 hy_229 (by omega) (by omega) hli_232 (by have _l0 := li_0; have _l1 := li_1; have p9 := z_pl hv_267 (by decide); intro t i h1 h2 h3; rw [uf_268, z_at]; split; omega; have := hli_233 t i h1 h2 h3; omega) (by have _l0 := li_0; have _l1 := li_1; have p9 := z_pl hv_267 (by decide); intro i hi; rw [uf_268, z_at]; split; omega; have := hli_234 i (by omega); omega) trivial (by have c9 := congrArg Int32.toInt hfx_241; omega) (Or.inr (by omega)) (by have m9 := congrArg Int32.toInt hfx_156; rw [z_n0] at m9; have c9 := congrArg Int32.toInt hfx_241; rw [show v_269.toInt.toNat = y_224.toInt.toNat + 1 by omega]; exact yRP_o (at_ := v_258) (x := x_256) hli_238 (yRw_g (yRw_W5 hb56) 20) (yRw_c (yRw_W5 hb56)) (by omega) (by rw [zcR_at (show (y_143.toInt.toNat : Int) < (b56 0).toInt by omega)]; omega) (by have f9 := hfx_257; rw [zgR_at (by rw [zcR_at (show (y_143.toInt.toNat : Int) < (b56 0).toInt by omega)]; omega), ← f9]; omega) (by omega) ev_259 (by omega) uf_268 (by have p9 := z_pl hv_267 (by decide); omega)) (zm_up qv_269 hmk_223 (by decide)) hP hD hS (lv_sub hl [0, 1, 3, 4, 5, 6] rfl)
            · have _nhc_260 := hc_260
              have ni_270 := (fa_eq _ _).mp hc_260
              rw [li_m1] at ni_270
              have hv_271 : zI v_259 (-1) (-1) := zI.eq_l hv_259 zc_m1 hc_260
              refine lv_aload_n hx hb d_Model_layPrefixes_91 rfl (lv_at hl 4 rfl) ?_
              refine va_get (D := G.1) (ci := 12) (v := .ref b18) (C := R_Model) (T := F_Model) (N := 54) hx hb hts i_Model hown hK hP 4 rfl rfl 16 (by decide) (hts _ q1125) (fun _ h9 => h9) rfl d_Model_layPrefixes_92 ?_
              refine lv_iload hx hb d_Model_layPrefixes_95 (lv_at hl 0 rfl) ?_
              refine lv_aload_n hx hb d_Model_layPrefixes_97 rfl (lv_at hl 4 rfl) ?_
              refine va_get (D := G.1) (ci := 12) (v := .ref b17) (C := R_Model) (T := F_Model) (N := 54) hx hb hts i_Model hown hK hP 4 rfl rfl 15 (by decide) (hts _ q1124) (fun _ h9 => h9) rfl d_Model_layPrefixes_98 ?_
              refine lv_iload_n hx hb d_Model_layPrefixes_101 rfl (lv_at hl 5 rfl) ?_
              refine va_iald hx hb hK hP 1 0 rfl rfl (i := 1) (z_in rfl) d_Model_layPrefixes_102 ?_
              refine lv_topi (fun v_272 ev_272 => ?_)
              have hv_272 : zI v_272 0 241 := (hy_226 _).eq ev_272
              have hv_273 : zI v_272 0 240 := ⟨hv_272.1, by rw [ev_272]; omega⟩
              refine va_iast hx hb hK hP hD hS 2 0 rfl rfl (zI.inn hv_258 (by decide)) d_Model_layPrefixes_103 (fun H locs hP hD hS => ?_)
              obtain ⟨f_274, hf_274, gf_274, uf_274, hP, hD⟩ := z_newfu 2 hP hD rfl hy_227 (zI.wk (l' := (-1)) (h' := 240) hv_273 (by decide))
              have hP : va_P G.1 classes [(b19, .inl (G.2 0, 520, .inl y_228)), (b17, .inl (G.2 0, 2, .inl y_226)), (b18, .inl (G.2 0, 4820, .inl f_274)), (b21, .inl (G.2 0, 482, .inl y_229)), (b0, .inr (12, [.int b2, .ref b3, .ref b4, .ref b5, .ref b6, .int b7, .ref b8, .int b9, .int b10, .int b11, .int b12, .ref b13, .ref b14, .ref b15, .int b16, .ref b17, .ref b18, .ref b19, .ref b20, .ref b21, .ref b22, .ref b23, .ref b24, .ref b25, .ref b26, .ref b27, .ref b28, .int b29, .ref b30, .ref b31, .int b32, .int b33, .int b34, .int b35, .ref b36, .ref b37, .ref b38, .ref b39, .ref b40, .ref b41, .ref b42, .int b43, .ref b44, .ref b45, .int b46, .ref b47, .ref b48, .ref b49, .ref b50, .ref b51, .int b52, .ref b53, .ref b54, .ref b55])), (b3, .inl (G.2 0, 503, .inl b56))] H := hP
              have hD := z_tie hP hD rfl
              refine lv_aload_n hx hb d_Model_layPrefixes_104 rfl (lv_at hl 4 rfl) ?_
              refine lv_iload_n hx hb d_Model_layPrefixes_105 rfl (lv_at hl 5 rfl) ?_
              refine z_callV (index := 199) (As := [.int 1]) (rest := []) (wr := [(b19, .inl (G.2 0, 520, .inl y_228)), (b3, .inl (G.2 0, 503, .inl b56))]) Z (s4_Model_newPrefix l G (b0) (b2) (b3) (b4) (b5) (b6) (b7) (b8) (b9) (b10) (b11) (b12) (b13) (b14) (b15) (b16) (b17) (b18) (b19) (b20) (b21) (b22) (b23) (b24) (b25) (b26) (b27) (b28) (b29) (b30) (b31) (b32) (b33) (b34) (b35) (b36) (b37) (b38) (b39) (b40) (b41) (b42) (b43) (b44) (b45) (b46) (b47) (b48) (b49) (b50) (b51) (b52) (b53) (b54) (b55) (y_226) (f_274) (y_229) hb7 hb9 hb10 hb12 hb16 hb29 hb32 hb43 hb46 hb52 hy_226 hf_274 hy_229 (by omega) (by intro q h1 h2; rw [uf_274, z_at]; split; (rw [ev_272]; omega); have := hli_232 q h1 h2; omega)) hl.1 q1368 q1370 qs58 q14 q1371 ⟨by decide, by decide, by show _ = some 1; decide +kernel⟩ ⟨Nat.le_of_ble_eq_true rfl, Nat.le_of_ble_eq_true rfl⟩ ⟨Nat.le_of_ble_eq_true rfl, Nat.le_of_ble_eq_true rfl⟩ rfl (Nat.le_of_ble_eq_true rfl) d_Model_layPrefixes_106 hP hD hS hA 4 12 rfl rfl rfl [4, 1, 2, 3] [0, 5] rfl rfl rfl rfl (by decide) (fun v w1 H locs hw_275 hP hD hS => ?_)
              obtain ⟨f_276, f_277, f_278, rfl, rfl, hf_276, hf_277, hf_278, hfx_279, hfx_280, hfx_281, hfx_282⟩ := hw_275
              have hP : va_P G.1 classes [(b19, .inl (G.2 0, 520, .inl y_228)), (b3, .inl (G.2 0, 503, .inl b56)), (b0, .inr (12, [.int b2, .ref b3, .ref b4, .ref b5, .ref b6, .int b7, .ref b8, .int b9, .int b10, .int b11, .int b12, .ref b13, .ref b14, .ref b15, .int b16, .ref b17, .ref b18, .ref b19, .ref b20, .ref b21, .ref b22, .ref b23, .ref b24, .ref b25, .ref b26, .ref b27, .ref b28, .int b29, .ref b30, .ref b31, .int b32, .int b33, .int b34, .int b35, .ref b36, .ref b37, .ref b38, .ref b39, .ref b40, .ref b41, .ref b42, .int b43, .ref b44, .ref b45, .int b46, .ref b47, .ref b48, .ref b49, .ref b50, .ref b51, .int b52, .ref b53, .ref b54, .ref b55])), (b17, .inl (G.2 0, 2, .inl f_276)), (b18, .inl (G.2 0, 4820, .inl f_277)), (b21, .inl (G.2 0, 482, .inl f_278))] H := hP
              have hD := z_tie hP hD rfl
              refine W.widen (k := 0) (n := 0) (Nat.le_of_ble_eq_true rfl) (Nat.le_of_ble_eq_true rfl) ?_
              refine lv_aload_n hx hb d_Model_layPrefixes_109 rfl (lv_at hl 4 rfl) ?_
              refine va_get (D := G.1) (ci := 12) (v := .ref b18) (C := R_Model) (T := F_Model) (N := 54) hx hb hts i_Model hown hK hP 2 rfl rfl 16 (by decide) (hts _ q1125) (fun _ h9 => h9) rfl d_Model_layPrefixes_110 ?_
              refine lv_iload hx hb d_Model_layPrefixes_113 (lv_at hl 0 rfl) ?_
              refine va_iald hx hb hK hP 4 0 rfl rfl (zI.inn hv_258 (by decide)) d_Model_layPrefixes_115 ?_
              refine lv_topi (fun v_283 ev_283 => ?_)
              have hv_283 : zI v_283 (-1) 240 := (hf_277 _).eq ev_283
              have hwv_283 : v_283 = v_272 := ev_283.trans ((hfx_281 _ (by have p9 := z_pl hv_258 (by decide); rw [← ev_272]; have := hli_231; rw [← ev_272] at this; omega)).trans gf_274)
              have hv_284 : zI v_283 0 240 := zI.eq hv_273 hwv_283
              have hp4v_283 : v_283.toInt < (f_276 (1 : Int32).toNatClampNeg).toInt := by rw [hwv_283, ev_272]; omega
              refine lv_istore (lv' := [(4, .int v_283), (6, .int v_258), (5, .int y_224), (3, .int y_143), (0, .ref b0), (1, .int 1), (2, .int b1)]) hx hb d_Model_layPrefixes_116 hl (by decide) rfl (fun ls hl => ?_)
              refine lv_aload_n hx hb d_Model_layPrefixes_118 rfl (lv_at hl 4 rfl) ?_
              refine va_get (D := G.1) (ci := 12) (v := .ref b19) (C := R_Model) (T := F_Model) (N := 54) hx hb hts i_Model hown hK hP 2 rfl rfl 17 (by decide) (hts _ q1126) (fun _ h9 => h9) rfl d_Model_layPrefixes_119 ?_
              refine lv_sipush (v := 260) hx hb d_Model_layPrefixes_122 (by decide) ?_
              refine lv_iload_n hx hb d_Model_layPrefixes_125 rfl (lv_at hl 5 rfl) ?_
              refine lv_imul hx hb d_Model_layPrefixes_126 ?_
              refine z_topi (y := 260) (by decide +kernel) ?_
              refine lv_bipush (v := 13) hx hb d_Model_layPrefixes_127 (by decide) ?_
              refine lv_iload_n hx hb d_Model_layPrefixes_129 rfl (lv_at hl 3 rfl) ?_
              refine lv_imul hx hb d_Model_layPrefixes_130 ?_
              refine lv_topi (fun v_285 ev_285 => ?_)
              obtain rfl : v_162 = v_285 := ev_162.trans ev_285.symm
              refine lv_iadd hx hb d_Model_layPrefixes_131 ?_
              refine lv_topi (fun v_286 ev_286 => ?_)
              obtain rfl : v_163 = v_286 := ev_163.trans ev_286.symm
              refine lv_iload hx hb d_Model_layPrefixes_132 (lv_at hl 2 rfl) ?_
              refine lv_iadd hx hb d_Model_layPrefixes_134 ?_
              refine lv_topi (fun v_287 ev_287 => ?_)
              obtain ⟨qv_287, hv_287⟩ := zI_add (l := 260) (h := 518) hv_163 hv_246 ev_287 (by decide)
              refine lv_iconst (v := 1) hx hb d_Model_layPrefixes_135 (by decide) ?_
              refine lv_iadd hx hb d_Model_layPrefixes_136 ?_
              refine lv_topi (fun v_288 ev_288 => ?_)
              obtain ⟨qv_288, hv_288⟩ := zI_add (l := 261) (h := 519) hv_287 zc_1 ev_288 (by decide)
              rw [li_1] at qv_288
              refine lv_iload hx hb d_Model_layPrefixes_137 (lv_at hl 0 rfl) ?_
              refine va_iast hx hb hK hP hD hS 0 0 rfl rfl (zI.inn hv_288 (by decide)) d_Model_layPrefixes_139 (fun H locs hP hD hS => ?_)
              obtain ⟨f_289, hf_289, gf_289, uf_289, hP, hD⟩ := z_newq_ (Q := qP) 0 hP hD rfl hy_228 (qP_v hv_288 (by decide) ⟨⟨by have _w := hv_284; have _x := hv_288; omega, by have _w := hv_284; have _x := hv_288; omega⟩, by have _w := hv_284; have _x := hv_288; omega⟩)
              have hP : va_P G.1 classes [(b19, .inl (G.2 0, 520, .inl f_289)), (b3, .inl (G.2 0, 503, .inl b56)), (b0, .inr (12, [.int b2, .ref b3, .ref b4, .ref b5, .ref b6, .int b7, .ref b8, .int b9, .int b10, .int b11, .int b12, .ref b13, .ref b14, .ref b15, .int b16, .ref b17, .ref b18, .ref b19, .ref b20, .ref b21, .ref b22, .ref b23, .ref b24, .ref b25, .ref b26, .ref b27, .ref b28, .int b29, .ref b30, .ref b31, .int b32, .int b33, .int b34, .int b35, .ref b36, .ref b37, .ref b38, .ref b39, .ref b40, .ref b41, .ref b42, .int b43, .ref b44, .ref b45, .int b46, .ref b47, .ref b48, .ref b49, .ref b50, .ref b51, .int b52, .ref b53, .ref b54, .ref b55])), (b17, .inl (G.2 0, 2, .inl f_276)), (b18, .inl (G.2 0, 4820, .inl f_277)), (b21, .inl (G.2 0, 482, .inl f_278))] H := hP
              have hD := z_tie hP hD rfl
              obtain ⟨v_290, ev_290⟩ : ∃ z : Int32, z = y_224 + 1 := ⟨_, rfl⟩
              obtain ⟨qv_290, hv_290⟩ := zI_add (l := 1) (h := 12) hv_246 zc_1 ev_290 (by decide)
              rw [li_1] at qv_290
              refine lv_iinc (v := v_290) (lv' := [(5, .int v_290), (4, .int v_283), (6, .int v_258), (3, .int y_143), (0, .ref b0), (1, .int 1), (2, .int b1)]) hx hb d_Model_layPrefixes_140 hl (k := 2) rfl (by rw [ev_290]; rfl) (by decide) rfl (fun ls hl => ?_)
              refine lv_goto (tgt := 44) hx hb d_Model_layPrefixes_143 (by decide) ?_
              exact ihk_223 (v_290) (v_283) (f_276) (f_277) (f_289) (f_278) _ _ _ (zI.wk (l' := 0) (h' := 12) hv_290 (by decide)) hv_284 hf_276 hf_277 hf_289 hf_278 (by omega) (by omega) hfx_280 (by have _l0 := li_0; have _l1 := li_1; have p9 := z_pl hv_288 (by decide); intro t i h1 h2 h3; rw [uf_289, z_at]; split; omega; have := hli_233 t i h1 h2 h3; omega) (by have _l0 := li_0; have _l1 := li_1; have p9 := z_pl hv_288 (by decide); intro i hi; rw [uf_289, z_at]; split; omega; have := hli_234 i (by omega); omega) trivial (by have c9 := congrArg Int32.toInt hfx_241; omega) (Or.inr (by omega)) (by have m9 := congrArg Int32.toInt hfx_156; rw [z_n0] at m9; have c9 := congrArg Int32.toInt hfx_241; rw [show v_290.toInt.toNat = y_224.toInt.toNat + 1 by omega]; exact yRP_n (at_ := v_258) (x := x_256) (r := v_272) hli_238 (yRw_g (yRw_W5 hb56) 20) (yRw_c (yRw_W5 hb56)) (by omega) (by rw [zcR_at (show (y_143.toInt.toNat : Int) < (b56 0).toInt by omega)]; omega) (by have f9 := hfx_257; rw [zgR_at (by rw [zcR_at (show (y_143.toInt.toNat : Int) < (b56 0).toInt by omega)]; omega), ← f9]; omega) (by omega) ev_259 (by omega) uf_274 (by rw [ev_272]) (fun q => by rw [hfx_282 q]) hfx_279 uf_289 hwv_283 (by have p9 := z_pl hv_288 (by decide); omega)) (zm_up qv_290 hmk_223 (by decide)) (hP.sub [0, 3, 4, 5, 2, 1] rfl) (hD.sub [0, 3, 4, 5, 2, 1] (by decide) rfl) hS (lv_sub hl [0, 1, 3, 4, 5, 6] rfl)
abbrev m_s2_Model_rowBehind : Room := { frames := 1, cells := 0, slots := 0, locals := 22 }
set_option maxHeartbeats 4000000 in
set_option maxRecDepth 100000 in
theorem s2_Model_rowBehind (l : Launch) (G : zG) (b0 : Nat) (b1 : Int32) (b2 : Int32) (b3 : Int32) (b4 : Int32) (b5 : Nat) (b6 : Nat) (b7 : Nat) (b8 : Nat) (b9 : Int32) (b10 : Nat) (b11 : Int32) (b12 : Int32) (b13 : Int32) (b14 : Int32) (b15 : Nat) (b16 : Nat) (b17 : Nat) (b18 : Int32) (b19 : Nat) (b20 : Nat) (b21 : Nat) (b22 : Nat) (b23 : Nat) (b24 : Nat) (b25 : Nat) (b26 : Nat) (b27 : Nat) (b28 : Nat) (b29 : Nat) (b30 : Nat) (b31 : Int32) (b32 : Nat) (b33 : Nat) (b34 : Int32) (b35 : Int32) (b36 : Int32) (b37 : Int32) (b38 : Nat) (b39 : Nat) (b40 : Nat) (b41 : Nat) (b42 : Nat) (b43 : Nat) (b44 : Nat) (b45 : Int32) (b46 : Nat) (b47 : Nat) (b48 : Int32) (b49 : Nat) (b50 : Nat) (b51 : Nat) (b52 : Nat) (b53 : Nat) (b54 : Int32) (b55 : Nat) (b56 : Nat) (b57 : Nat) (b58 : Nat → Int32) (hb1 : zI b1 0 19) (hb2 : zI b2 0 12) (hb3 : zI b3 0 3) (hb9 : zI b9 0 8) (hb11 : zI b11 0 240) (hb12 : zI b12 0 240) (hb14 : zI b14 0 1) (hb18 : zI b18 0 12) (hb31 : zI b31 0 1) (hb34 : zI b34 0 1) (hb45 : zI b45 0 1000) (hb48 : zI b48 0 1000) (hb54 : zI b54 0 400) (hb58 : zW5 b58) : zM l G y_Model_rowBehind prog_14_method_29_code 7 (Option.some Jvm.ClassFile.FieldType.int) m_s2_Model_rowBehind [.ref b0, .int b1, .int b2, .int b3] [(b0, .inr (12, [.int b4, .ref b5, .ref b6, .ref b7, .ref b8, .int b9, .ref b10, .int b11, .int b12, .int b13, .int b14, .ref b15, .ref b16, .ref b17, .int b18, .ref b19, .ref b20, .ref b21, .ref b22, .ref b23, .ref b24, .ref b25, .ref b26, .ref b27, .ref b28, .ref b29, .ref b30, .int b31, .ref b32, .ref b33, .int b34, .int b35, .int b36, .int b37, .ref b38, .ref b39, .ref b40, .ref b41, .ref b42, .ref b43, .ref b44, .int b45, .ref b46, .ref b47, .int b48, .ref b49, .ref b50, .ref b51, .ref b52, .ref b53, .int b54, .ref b55, .ref b56, .ref b57])), (b5, .inl (G.2 0, 503, .inl b58))] (fun v w => ∃ (e0 : Int32), v = some (.int e0) ∧ w = [(b0, .inr (12, [.int b4, .ref b5, .ref b6, .ref b7, .ref b8, .int b9, .ref b10, .int b11, .int b12, .int b13, .int b14, .ref b15, .ref b16, .ref b17, .int b18, .ref b19, .ref b20, .ref b21, .ref b22, .ref b23, .ref b24, .ref b25, .ref b26, .ref b27, .ref b28, .ref b29, .ref b30, .int b31, .ref b32, .ref b33, .int b34, .int b35, .int b36, .int b37, .ref b38, .ref b39, .ref b40, .ref b41, .ref b42, .ref b43, .ref b44, .int b45, .ref b46, .ref b47, .int b48, .ref b49, .ref b50, .ref b51, .ref b52, .ref b53, .int b54, .ref b55, .ref b56, .ref b57])), (b5, .inl (G.2 0, 503, .inl b58))] ∧ ((b1 : Int32).toInt < (b58 0).toInt → (e0 : Int32).toInt = ((yk2 (zgR b58) (zcR b58) (b1 : Int32).toInt.toNat (b2 : Int32).toInt.toNat (b3 : Int32).toInt.toNat : Nat) : Int))) := by
  refine z_start (by decide +kernel) (Nat.le_of_ble_eq_true rfl) ?_
  intro p e s m below meth c A Z hr hnm hA hP hD hS ls hl
  have Z : zC p s m _ meth c prog_14_method_29_code 7 "TraceMachinesModel" G := Z
  obtain ⟨hx, hb, hml, hown, hts, hK, hN, hlocks⟩ := id Z
  have hl : lv_has ls 7 [(0, .ref b0), (1, .int b1), (2, .int b2), (3, .int b3)] := hl
  refine lv_iconst (v := 0) hx hb d_Model_rowBehind_0 (by decide) ?_
  refine lv_istore (lv' := [(4, .int 0), (0, .ref b0), (1, .int b1), (2, .int b2), (3, .int b3)]) hx hb d_Model_rowBehind_1 hl (by decide) rfl (fun ls hl => ?_)
  refine lv_iconst (v := 0) hx hb d_Model_rowBehind_3 (by decide) ?_
  refine lv_istore (lv' := [(5, .int 0), (4, .int 0), (0, .ref b0), (1, .int b1), (2, .int b2), (3, .int b3)]) hx hb d_Model_rowBehind_4 hl (by decide) rfl (fun ls hl => ?_)
  suffices key : ∀ (k_35 : Nat) (y_36 : Int32) (y_37 : Int32) (H : Heap) (locs : List Loc) (ls : Array Slot), (zI y_36 0 3) → ((y_36 : Int32).toInt ≤ (b3 : Int32).toInt) → ((b1 : Int32).toInt < (b58 0).toInt → (y_37 : Int32).toInt = ((yk2 (zgR b58) (zcR b58) (b1 : Int32).toInt.toNat (b2 : Int32).toInt.toNat (y_36 : Int32).toInt.toNat : Nat) : Int)) → (3 : Int) - y_36.toInt < (k_35 : Int) → va_P G.1 classes [(b0, .inr (12, [.int b4, .ref b5, .ref b6, .ref b7, .ref b8, .int b9, .ref b10, .int b11, .int b12, .int b13, .int b14, .ref b15, .ref b16, .ref b17, .int b18, .ref b19, .ref b20, .ref b21, .ref b22, .ref b23, .ref b24, .ref b25, .ref b26, .ref b27, .ref b28, .ref b29, .ref b30, .int b31, .ref b32, .ref b33, .int b34, .int b35, .int b36, .int b37, .ref b38, .ref b39, .ref b40, .ref b41, .ref b42, .ref b43, .ref b44, .int b45, .ref b46, .ref b47, .int b48, .ref b49, .ref b50, .ref b51, .ref b52, .ref b53, .int b54, .ref b55, .ref b56, .ref b57])), (b5, .inl (G.2 0, 503, .inl b58))] H → va_D A [(b0, .inr (12, [.int b4, .ref b5, .ref b6, .ref b7, .ref b8, .int b9, .ref b10, .int b11, .int b12, .int b13, .int b14, .ref b15, .ref b16, .ref b17, .int b18, .ref b19, .ref b20, .ref b21, .ref b22, .ref b23, .ref b24, .ref b25, .ref b26, .ref b27, .ref b28, .ref b29, .ref b30, .int b31, .ref b32, .ref b33, .int b34, .int b35, .int b36, .int b37, .ref b38, .ref b39, .ref b40, .ref b41, .ref b42, .ref b43, .ref b44, .int b45, .ref b46, .ref b47, .int b48, .ref b49, .ref b50, .ref b51, .ref b52, .ref b53, .int b54, .ref b55, .ref b56, .ref b57])), (b5, .inl (G.2 0, 503, .inl b58))] → va_S A s.heap H locs → lv_has ls 7 [(5, .int y_36), (4, .int y_37), (0, .ref b0), (1, .int b1), (2, .int b2), (3, .int b3)] → W p l e m_s2_Model_rowBehind s m ([.ref b0, .int b1, .int b2, .int b3] : List Value).toArray below meth c H locs 0 0 (MQ below (zQ G (fun v w => ∃ (e0 : Int32), v = some (.int e0) ∧ w = [(b0, .inr (12, [.int b4, .ref b5, .ref b6, .ref b7, .ref b8, .int b9, .ref b10, .int b11, .int b12, .int b13, .int b14, .ref b15, .ref b16, .ref b17, .int b18, .ref b19, .ref b20, .ref b21, .ref b22, .ref b23, .ref b24, .ref b25, .ref b26, .ref b27, .ref b28, .ref b29, .ref b30, .int b31, .ref b32, .ref b33, .int b34, .int b35, .int b36, .int b37, .ref b38, .ref b39, .ref b40, .ref b41, .ref b42, .ref b43, .ref b44, .int b45, .ref b46, .ref b47, .int b48, .ref b49, .ref b50, .ref b51, .ref b52, .ref b53, .int b54, .ref b55, .ref b56, .ref b57])), (b5, .inl (G.2 0, 503, .inl b58))] ∧ ((b1 : Int32).toInt < (b58 0).toInt → (e0 : Int32).toInt = ((yk2 (zgR b58) (zcR b58) (b1 : Int32).toInt.toNat (b2 : Int32).toInt.toNat (b3 : Int32).toInt.toNat : Nat) : Int))) A) ([.ref b0, .int b1, .int b2, .int b3] : List Value).toArray s m_s2_Model_rowBehind.cells m_s2_Model_rowBehind.slots A) (F0 m 6 ls []) by
    exact key 4 (0) (0) _ _ _ (zI.wk (l' := 0) (h' := 3) zc_0 (by decide)) (by have _l0 := li_0; omega) (fun h1 => by rw [show (0 : Int32).toInt.toNat = 0 by rw [li_0]; rfl]; exact li_0) (zm_upi (zI.wk (l' := 0) (h' := 3) zc_0 (by decide)) (by decide)) hP hD hS (lv_sub hl [0, 1, 2, 3, 4, 5] rfl)
  intro k_35
  induction k_35 with
  | zero =>
    intro y_36 y_37 H locs ls hy_36 hli_38 hli_39 hmk_35 hP hD hS hl
    exact (zm_up0 hy_36 hmk_35).elim
  | succ k_35 ihk_35 =>
    intro y_36 y_37 H locs ls hy_36 hli_38 hli_39 hmk_35 hP hD hS hl
    refine lv_iload hx hb d_Model_rowBehind_6 (lv_at hl 0 rfl) ?_
    refine lv_iload_n hx hb d_Model_rowBehind_8 rfl (lv_at hl 5 rfl) ?_
    refine lv_icmp_ge (tgt := 70) hx hb d_Model_rowBehind_9 (by decide) (fun hc_40 => ?_) (fun hc_40 => ?_)
    · have _nhc_40 := hc_40
      have ni_41 := (fa_le _ _).mp hc_40
      refine lv_iload hx hb d_Model_rowBehind_70 (lv_at hl 1 rfl) ?_
      exact z_iret hx hb hr hlocks hP hD hS (Nat.le_of_ble_eq_true rfl) (Nat.le_of_ble_eq_true rfl) d_Model_rowBehind_72 ⟨y_37, rfl, rfl, (fun h1 => by have j9 := hli_39 h1; rw [show y_36.toInt.toNat = b3.toInt.toNat by omega] at j9; exact j9)⟩
    · have _nhc_40 := hc_40
      have ni_42 := (fa_lt _ _).mp (zi_nle hc_40)
      have hv_43 : zI y_36 0 2 := zI.lt_l hy_36 hb3 (zi_nle hc_40) (by decide)
      have hv_44 : zI b3 1 3 := zI.lt_r hy_36 hb3 (zi_nle hc_40) (by decide)
      refine lv_iload_n hx hb d_Model_rowBehind_12 rfl (lv_at hl 4 rfl) ?_
      refine lv_iload hx hb d_Model_rowBehind_13 (lv_at hl 0 rfl) ?_
      refine lv_iadd hx hb d_Model_rowBehind_15 ?_
      refine lv_topi (fun v_45 ev_45 => ?_)
      obtain ⟨qv_45, hv_45⟩ := zI_add (l := 0) (h := 14) hb2 hv_43 ev_45 (by decide)
      refine lv_istore (lv' := [(6, .int v_45), (5, .int y_36), (4, .int y_37), (0, .ref b0), (1, .int b1), (2, .int b2), (3, .int b3)]) hx hb d_Model_rowBehind_16 hl (by decide) rfl (fun ls hl => ?_)
      refine lv_bipush (v := 12) hx hb d_Model_rowBehind_18 (by decide) ?_
      refine lv_iload hx hb d_Model_rowBehind_20 (lv_at hl 2 rfl) ?_
      refine lv_imul hx hb d_Model_rowBehind_22 ?_
      refine lv_topi (fun v_46 ev_46 => ?_)
      refine lv_iload hx hb d_Model_rowBehind_23 (lv_at hl 0 rfl) ?_
      refine lv_aload_n hx hb d_Model_rowBehind_25 rfl (lv_at hl 3 rfl) ?_
      refine lv_iload_n hx hb d_Model_rowBehind_26 rfl (lv_at hl 4 rfl) ?_
      refine z_callV (index := 203) (As := [.int b1]) (rest := [.int v_45, .int v_46]) (wr := []) Z (s1_Model_calls l G (b0) (b1) (b4) (b5) (b6) (b7) (b8) (b9) (b10) (b11) (b12) (b13) (b14) (b15) (b16) (b17) (b18) (b19) (b20) (b21) (b22) (b23) (b24) (b25) (b26) (b27) (b28) (b29) (b30) (b31) (b32) (b33) (b34) (b35) (b36) (b37) (b38) (b39) (b40) (b41) (b42) (b43) (b44) (b45) (b46) (b47) (b48) (b49) (b50) (b51) (b52) (b53) (b54) (b55) (b56) (b57) (b58) hb1 hb9 hb11 hb12 hb14 hb18 hb31 hb34 hb45 hb48 hb54 hb58) hl.1 q1352 q1354 qs54 q14 q1355 ⟨by decide, by decide, by show _ = some 1; decide +kernel⟩ ⟨Nat.le_of_ble_eq_true rfl, Nat.le_of_ble_eq_true rfl⟩ ⟨Nat.le_of_ble_eq_true rfl, Nat.le_of_ble_eq_true rfl⟩ rfl (Nat.le_of_ble_eq_true rfl) d_Model_rowBehind_27 hP hD hS hA 0 12 rfl rfl rfl [0, 1] [] rfl rfl rfl rfl (by decide) (fun v w1 H locs hw_47 hP hD hS => ?_)
      obtain ⟨x_48, rfl, rfl, hx_48, hfx_49⟩ := hw_47
      have hP : va_P G.1 classes [(b0, .inr (12, [.int b4, .ref b5, .ref b6, .ref b7, .ref b8, .int b9, .ref b10, .int b11, .int b12, .int b13, .int b14, .ref b15, .ref b16, .ref b17, .int b18, .ref b19, .ref b20, .ref b21, .ref b22, .ref b23, .ref b24, .ref b25, .ref b26, .ref b27, .ref b28, .ref b29, .ref b30, .int b31, .ref b32, .ref b33, .int b34, .int b35, .int b36, .int b37, .ref b38, .ref b39, .ref b40, .ref b41, .ref b42, .ref b43, .ref b44, .int b45, .ref b46, .ref b47, .int b48, .ref b49, .ref b50, .ref b51, .ref b52, .ref b53, .int b54, .ref b55, .ref b56, .ref b57])), (b5, .inl (G.2 0, 503, .inl b58))] H := hP
      have hD := z_tie hP hD rfl
      refine W.widen (k := 0) (n := 0) (Nat.le_of_ble_eq_true rfl) (Nat.le_of_ble_eq_true rfl) ?_
      refine lv_icmp_ge (tgt := 45) hx hb d_Model_rowBehind_30 (by decide) (fun hc_50 => ?_) (fun hc_50 => ?_)
      · have _nhc_50 := hc_50
        have ni_51 := (fa_le _ _).mp hc_50
        refine lv_iload hx hb d_Model_rowBehind_45 (lv_at hl 0 rfl) ?_
        refine lv_aload_n hx hb d_Model_rowBehind_47 rfl (lv_at hl 3 rfl) ?_
        refine lv_iload_n hx hb d_Model_rowBehind_48 rfl (lv_at hl 4 rfl) ?_
        refine z_callV (index := 203) (As := [.int b1]) (rest := [.int v_45, .int v_46]) (wr := []) Z (s1_Model_calls l G (b0) (b1) (b4) (b5) (b6) (b7) (b8) (b9) (b10) (b11) (b12) (b13) (b14) (b15) (b16) (b17) (b18) (b19) (b20) (b21) (b22) (b23) (b24) (b25) (b26) (b27) (b28) (b29) (b30) (b31) (b32) (b33) (b34) (b35) (b36) (b37) (b38) (b39) (b40) (b41) (b42) (b43) (b44) (b45) (b46) (b47) (b48) (b49) (b50) (b51) (b52) (b53) (b54) (b55) (b56) (b57) (b58) hb1 hb9 hb11 hb12 hb14 hb18 hb31 hb34 hb45 hb48 hb54 hb58) hl.1 q1352 q1354 qs54 q14 q1355 ⟨by decide, by decide, by show _ = some 1; decide +kernel⟩ ⟨Nat.le_of_ble_eq_true rfl, Nat.le_of_ble_eq_true rfl⟩ ⟨Nat.le_of_ble_eq_true rfl, Nat.le_of_ble_eq_true rfl⟩ rfl (Nat.le_of_ble_eq_true rfl) d_Model_rowBehind_49 hP hD hS hA 0 12 rfl rfl rfl [0, 1] [] rfl rfl rfl rfl (by decide) (fun v w1 H locs hw_52 hP hD hS => ?_)
        obtain ⟨x_53, rfl, rfl, hx_53, hfx_54⟩ := hw_52
        have hP : va_P G.1 classes [(b0, .inr (12, [.int b4, .ref b5, .ref b6, .ref b7, .ref b8, .int b9, .ref b10, .int b11, .int b12, .int b13, .int b14, .ref b15, .ref b16, .ref b17, .int b18, .ref b19, .ref b20, .ref b21, .ref b22, .ref b23, .ref b24, .ref b25, .ref b26, .ref b27, .ref b28, .ref b29, .ref b30, .int b31, .ref b32, .ref b33, .int b34, .int b35, .int b36, .int b37, .ref b38, .ref b39, .ref b40, .ref b41, .ref b42, .ref b43, .ref b44, .int b45, .ref b46, .ref b47, .int b48, .ref b49, .ref b50, .ref b51, .ref b52, .ref b53, .int b54, .ref b55, .ref b56, .ref b57])), (b5, .inl (G.2 0, 503, .inl b58))] H := hP
        have hD := z_tie hP hD rfl
        refine W.widen (k := 0) (n := 0) (Nat.le_of_ble_eq_true rfl) (Nat.le_of_ble_eq_true rfl) ?_
        refine lv_icmp_ne (tgt := 60) hx hb d_Model_rowBehind_52 (by decide) (fun hc_55 => ?_) (fun hc_55 => ?_)
        · have _nhc_55 := hc_55
          have ni_56 : ¬ (v_45 : Int32).toInt = (x_53 : Int32).toInt := fun z => hc_55 ((fa_eq _ _).mpr z)
          refine lv_iconst (v := 0) hx hb d_Model_rowBehind_60 (by decide) ?_
          refine lv_iadd hx hb d_Model_rowBehind_61 ?_
          refine lv_topi (fun v_57 ev_57 => ?_)
          obtain ⟨qv_57, hv_57⟩ := zI_add (l := -2147483648) (h := 2147483647) (zI_all v_46) zc_0 ev_57 (by decide)
          rw [li_0] at qv_57
          refine lv_istore (lv' := [(4, .int v_57), (6, .int v_45), (5, .int y_36), (0, .ref b0), (1, .int b1), (2, .int b2), (3, .int b3)]) hx hb d_Model_rowBehind_62 hl (by decide) rfl (fun ls hl => ?_)
          obtain ⟨v_58, ev_58⟩ : ∃ z : Int32, z = y_36 + 1 := ⟨_, rfl⟩
          obtain ⟨qv_58, hv_58⟩ := zI_add (l := 1) (h := 3) hv_43 zc_1 ev_58 (by decide)
          rw [li_1] at qv_58
          refine lv_iinc (v := v_58) (lv' := [(5, .int v_58), (4, .int v_57), (6, .int v_45), (0, .ref b0), (1, .int b1), (2, .int b2), (3, .int b3)]) hx hb d_Model_rowBehind_64 hl (k := 2) rfl (by rw [ev_58]; rfl) (by decide) rfl (fun ls hl => ?_)
          refine lv_goto (tgt := 6) hx hb d_Model_rowBehind_67 (by decide) ?_
          exact ihk_35 (v_58) (v_57) _ _ _ (zI.wk (l' := 0) (h' := 3) hv_58 (by decide)) (by omega) (fun h1 => yk2_s (T := 20) (hli_39 h1) (yRw_g (yRw_W5 hb58) 20) (by omega) (by omega) ev_46 ev_57 (by have c9 := congrArg Int32.toInt hfx_49; have d9 := congrArg Int32.toInt hfx_54; rw [yd2_no (g := (zgR b58)) (c := (zcR b58)) (by rw [zcR_at (show (b1.toInt.toNat : Int) < (b58 0).toInt by omega)]; omega)]; exact li_0) (by omega)) (zm_up qv_58 hmk_35 (by decide)) hP hD hS (lv_sub hl [0, 1, 3, 4, 5, 6] rfl)
        · have _nhc_55 := hc_55
          have ni_59 := (fa_eq _ _).mp hc_55
          have hv_60 : zI v_45 0 12 := zI.eq_l hv_45 hx_53 hc_55
          refine lv_bipush (v := 11) hx hb d_Model_rowBehind_55 (by decide) ?_
          refine lv_goto (tgt := 61) hx hb d_Model_rowBehind_57 (by decide) ?_
          refine lv_iadd hx hb d_Model_rowBehind_61 ?_
          refine lv_topi (fun v_61 ev_61 => ?_)
          refine lv_istore (lv' := [(4, .int v_61), (6, .int v_45), (5, .int y_36), (0, .ref b0), (1, .int b1), (2, .int b2), (3, .int b3)]) hx hb d_Model_rowBehind_62 hl (by decide) rfl (fun ls hl => ?_)
          obtain ⟨v_62, ev_62⟩ : ∃ z : Int32, z = y_36 + 1 := ⟨_, rfl⟩
          obtain ⟨qv_62, hv_62⟩ := zI_add (l := 1) (h := 3) hv_43 zc_1 ev_62 (by decide)
          rw [li_1] at qv_62
          refine lv_iinc (v := v_62) (lv' := [(5, .int v_62), (4, .int v_61), (6, .int v_45), (0, .ref b0), (1, .int b1), (2, .int b2), (3, .int b3)]) hx hb d_Model_rowBehind_64 hl (k := 2) rfl (by rw [ev_62]; rfl) (by decide) rfl (fun ls hl => ?_)
          refine lv_goto (tgt := 6) hx hb d_Model_rowBehind_67 (by decide) ?_
          exact ihk_35 (v_62) (v_61) _ _ _ (zI.wk (l' := 0) (h' := 3) hv_62 (by decide)) (by omega) (fun h1 => yk2_s (T := 20) (hli_39 h1) (yRw_g (yRw_W5 hb58) 20) (by omega) (by omega) ev_46 ev_61 (by have c9 := congrArg Int32.toInt hfx_49; have d9 := congrArg Int32.toInt hfx_54; rw [yd2_at (g := (zgR b58)) (c := (zcR b58)) (by rw [zcR_at (show (b1.toInt.toNat : Int) < (b58 0).toInt by omega)]; omega)]; exact li_11) (by omega)) (zm_up qv_62 hmk_35 (by decide)) hP hD hS (lv_sub hl [0, 1, 3, 4, 5, 6] rfl)
      · have _nhc_50 := hc_50
        have ni_63 := (fa_lt _ _).mp (zi_nle hc_50)
        have hv_64 : zI v_45 0 11 := zI.lt_l hv_45 hx_48 (zi_nle hc_50) (by decide)
        have hv_65 : zI x_48 1 12 := zI.lt_r hv_45 hx_48 (zi_nle hc_50) (by decide)
        refine lv_aload_n hx hb d_Model_rowBehind_33 rfl (lv_at hl 3 rfl) ?_
        refine lv_iload_n hx hb d_Model_rowBehind_34 rfl (lv_at hl 4 rfl) ?_
        refine lv_iload hx hb d_Model_rowBehind_35 (lv_at hl 0 rfl) ?_
        refine z_callV (index := 207) (As := [.int b1, .int v_45]) (rest := [.int v_46]) (wr := []) Z (s2_Model_letterAt l G (b0) (b1) (v_45) (b4) (b5) (b6) (b7) (b8) (b9) (b10) (b11) (b12) (b13) (b14) (b15) (b16) (b17) (b18) (b19) (b20) (b21) (b22) (b23) (b24) (b25) (b26) (b27) (b28) (b29) (b30) (b31) (b32) (b33) (b34) (b35) (b36) (b37) (b38) (b39) (b40) (b41) (b42) (b43) (b44) (b45) (b46) (b47) (b48) (b49) (b50) (b51) (b52) (b53) (b54) (b55) (b56) (b57) (b58) hb1 hv_64 hb9 hb11 hb12 hb14 hb18 hb31 hb34 hb45 hb48 hb54 hb58) hl.1 q1372 q1374 qs59 q14 q1375 ⟨by decide, by decide, by show _ = some 2; decide +kernel⟩ ⟨Nat.le_of_ble_eq_true rfl, Nat.le_of_ble_eq_true rfl⟩ ⟨Nat.le_of_ble_eq_true rfl, Nat.le_of_ble_eq_true rfl⟩ rfl (Nat.le_of_ble_eq_true rfl) d_Model_rowBehind_37 hP hD hS hA 0 12 rfl rfl rfl [0, 1] [] rfl rfl rfl rfl (by decide) (fun v w1 H locs hw_66 hP hD hS => ?_)
        obtain ⟨x_67, rfl, rfl, hx_67, hfx_68⟩ := hw_66
        have hP : va_P G.1 classes [(b0, .inr (12, [.int b4, .ref b5, .ref b6, .ref b7, .ref b8, .int b9, .ref b10, .int b11, .int b12, .int b13, .int b14, .ref b15, .ref b16, .ref b17, .int b18, .ref b19, .ref b20, .ref b21, .ref b22, .ref b23, .ref b24, .ref b25, .ref b26, .ref b27, .ref b28, .ref b29, .ref b30, .int b31, .ref b32, .ref b33, .int b34, .int b35, .int b36, .int b37, .ref b38, .ref b39, .ref b40, .ref b41, .ref b42, .ref b43, .ref b44, .int b45, .ref b46, .ref b47, .int b48, .ref b49, .ref b50, .ref b51, .ref b52, .ref b53, .int b54, .ref b55, .ref b56, .ref b57])), (b5, .inl (G.2 0, 503, .inl b58))] H := hP
        have hD := z_tie hP hD rfl
        refine W.widen (k := 0) (n := 0) (Nat.le_of_ble_eq_true rfl) (Nat.le_of_ble_eq_true rfl) ?_
        refine lv_iconst (v := 1) hx hb d_Model_rowBehind_40 (by decide) ?_
        refine lv_iadd hx hb d_Model_rowBehind_41 ?_
        refine lv_topi (fun v_69 ev_69 => ?_)
        obtain ⟨qv_69, hv_69⟩ := zI_add (l := 1) (h := 10) hx_67 zc_1 ev_69 (by decide)
        rw [li_1] at qv_69
        refine lv_goto (tgt := 61) hx hb d_Model_rowBehind_42 (by decide) ?_
        refine lv_iadd hx hb d_Model_rowBehind_61 ?_
        refine lv_topi (fun v_70 ev_70 => ?_)
        refine lv_istore (lv' := [(4, .int v_70), (6, .int v_45), (5, .int y_36), (0, .ref b0), (1, .int b1), (2, .int b2), (3, .int b3)]) hx hb d_Model_rowBehind_62 hl (by decide) rfl (fun ls hl => ?_)
        obtain ⟨v_71, ev_71⟩ : ∃ z : Int32, z = y_36 + 1 := ⟨_, rfl⟩
        obtain ⟨qv_71, hv_71⟩ := zI_add (l := 1) (h := 3) hv_43 zc_1 ev_71 (by decide)
        rw [li_1] at qv_71
        refine lv_iinc (v := v_71) (lv' := [(5, .int v_71), (4, .int v_70), (6, .int v_45), (0, .ref b0), (1, .int b1), (2, .int b2), (3, .int b3)]) hx hb d_Model_rowBehind_64 hl (k := 2) rfl (by rw [ev_71]; rfl) (by decide) rfl (fun ls hl => ?_)
        refine lv_goto (tgt := 6) hx hb d_Model_rowBehind_67 (by decide) ?_
        exact ihk_35 (v_71) (v_70) _ _ _ (zI.wk (l' := 0) (h' := 3) hv_71 (by decide)) (by omega) (fun h1 => yk2_s (T := 20) (hli_39 h1) (yRw_g (yRw_W5 hb58) 20) (by omega) (by omega) ev_46 ev_70 (by have c9 := congrArg Int32.toInt hfx_49; have f9 := hfx_68; rw [show (12 * b1.toInt.toNat + v_45.toInt.toNat) = 12 * b1.toInt.toNat + (b2.toInt.toNat + y_36.toInt.toNat) by omega] at f9; have ci : (b2.toInt.toNat + y_36.toInt.toNat) < zcR b58 b1.toInt.toNat := (by rw [zcR_at (show (b1.toInt.toNat : Int) < (b58 0).toInt by omega)]; omega); rw [yd2_in (g := (zgR b58)) (c := (zcR b58)) ci, zgR_at ci, ← f9]; omega) (by omega)) (zm_up qv_71 hmk_35 (by decide)) hP hD hS (lv_sub hl [0, 1, 3, 4, 5, 6] rfl)
abbrev m_s2_Model_addFollow : Room := { frames := 0, cells := 0, slots := 0, locals := 0 }
set_option maxHeartbeats 4000000 in
set_option maxRecDepth 100000 in
theorem s2_Model_addFollow (l : Launch) (G : zG) (b0 : Nat) (b1 : Int32) (b2 : Int32) (b3 : Int32) (b4 : Nat) (b5 : Nat) (b6 : Nat) (b7 : Nat) (b8 : Int32) (b9 : Nat) (b10 : Int32) (b11 : Int32) (b12 : Int32) (b13 : Int32) (b14 : Nat) (b15 : Nat) (b16 : Nat) (b17 : Int32) (b18 : Nat) (b19 : Nat) (b20 : Nat) (b21 : Nat) (b22 : Nat) (b23 : Nat) (b24 : Nat) (b25 : Nat) (b26 : Nat) (b27 : Nat) (b28 : Nat) (b29 : Nat) (b30 : Int32) (b31 : Nat) (b32 : Nat) (b33 : Int32) (b34 : Int32) (b35 : Int32) (b36 : Int32) (b37 : Nat) (b38 : Nat) (b39 : Nat) (b40 : Nat) (b41 : Nat) (b42 : Nat) (b43 : Nat) (b44 : Int32) (b45 : Nat) (b46 : Nat) (b47 : Int32) (b48 : Nat) (b49 : Nat) (b50 : Nat) (b51 : Nat) (b52 : Nat) (b53 : Int32) (b54 : Nat) (b55 : Nat) (b56 : Nat) (b57 : Nat → Int32) (b58 : Nat → Int32) (hb1 : zI b1 0 481) (hb8 : zI b8 0 8) (hb10 : zI b10 0 240) (hb11 : zI b11 0 240) (hb13 : zI b13 0 1) (hb17 : zI b17 0 12) (hb30 : zI b30 0 1) (hb33 : zI b33 0 1) (hb44 : zI b44 0 1000) (hb47 : zI b47 0 1000) (hb53 : zI b53 0 400) (hb58 : zqa qC b58) (hins : (b58 b1.toNatClampNeg).toInt + b1.toInt % 241 ≤ 259) : zM l G y_Model_addFollow prog_14_method_28_code 6 (Option.none : Option Jvm.ClassFile.FieldType) m_s2_Model_addFollow [.ref b0, .int b1, .int b2] [(b0, .inr (12, [.int b3, .ref b4, .ref b5, .ref b6, .ref b7, .int b8, .ref b9, .int b10, .int b11, .int b12, .int b13, .ref b14, .ref b15, .ref b16, .int b17, .ref b18, .ref b19, .ref b20, .ref b21, .ref b22, .ref b23, .ref b24, .ref b25, .ref b26, .ref b27, .ref b28, .ref b29, .int b30, .ref b31, .ref b32, .int b33, .int b34, .int b35, .int b36, .ref b37, .ref b38, .ref b39, .ref b40, .ref b41, .ref b42, .ref b43, .int b44, .ref b45, .ref b46, .int b47, .ref b48, .ref b49, .ref b50, .ref b51, .ref b52, .int b53, .ref b54, .ref b55, .ref b56])), (b21, .inl (G.2 0, 9640, .inl b57)), (b22, .inl (G.2 0, 482, .inl b58))] (fun v w => ∃ (e0 : Nat → Int32), ∃ (e1 : Nat → Int32), v = none ∧ w = [(b0, .inr (12, [.int b3, .ref b4, .ref b5, .ref b6, .ref b7, .int b8, .ref b9, .int b10, .int b11, .int b12, .int b13, .ref b14, .ref b15, .ref b16, .int b17, .ref b18, .ref b19, .ref b20, .ref b21, .ref b22, .ref b23, .ref b24, .ref b25, .ref b26, .ref b27, .ref b28, .ref b29, .int b30, .ref b31, .ref b32, .int b33, .int b34, .int b35, .int b36, .ref b37, .ref b38, .ref b39, .ref b40, .ref b41, .ref b42, .ref b43, .int b44, .ref b45, .ref b46, .int b47, .ref b48, .ref b49, .ref b50, .ref b51, .ref b52, .int b53, .ref b54, .ref b55, .ref b56])), (b21, .inl (G.2 0, 9640, .inl e0)), (b22, .inl (G.2 0, 482, .inl e1))] ∧ (zqa qC e1) ∧ (∀ q : Nat, (e1 q).toInt = (b58 q).toInt ∨ q = b1.toNatClampNeg ∧ (e1 q).toInt = (b58 q).toInt + 1) ∧ (yIn (20 * b1.toInt.toNat) (b58 b1.toInt.toNat).toInt.toNat b1.toInt.toNat b2 b57 b58 e0 e1)) := by
  refine z_start (by decide +kernel) (Nat.le_of_ble_eq_true rfl) ?_
  intro p e s m below meth c A Z hr hnm hA hP hD hS ls hl
  have Z : zC p s m _ meth c prog_14_method_28_code 6 "TraceMachinesModel" G := Z
  obtain ⟨hx, hb, hml, hown, hts, hK, hN, hlocks⟩ := id Z
  have hl : lv_has ls 6 [(0, .ref b0), (1, .int b1), (2, .int b2)] := hl
  refine lv_bipush (v := 20) hx hb d_Model_addFollow_0 (by decide) ?_
  refine lv_iload_n hx hb d_Model_addFollow_2 rfl (lv_at hl 1 rfl) ?_
  refine lv_imul hx hb d_Model_addFollow_3 ?_
  refine lv_topi (fun v_1 ev_1 => ?_)
  obtain ⟨qv_1, hv_1⟩ := zI_mul (l := 0) (h := 9620) zc_20 hb1 ev_1 (by decide)
  rw [li_20] at qv_1
  refine lv_istore_n (lv' := [(3, .int v_1), (0, .ref b0), (1, .int b1), (2, .int b2)]) hx hb d_Model_addFollow_4 rfl hl (by decide) rfl (fun ls hl => ?_)
  refine lv_aload_n hx hb d_Model_addFollow_5 rfl (lv_at hl 1 rfl) ?_
  refine va_get (D := G.1) (ci := 12) (v := .ref b22) (C := R_Model) (T := F_Model) (N := 54) hx hb hts i_Model hown hK hP 0 rfl rfl 19 (by decide) (hts _ q1128) (fun _ h9 => h9) rfl d_Model_addFollow_6 ?_
  refine lv_iload_n hx hb d_Model_addFollow_9 rfl (lv_at hl 2 rfl) ?_
  refine va_iald hx hb hK hP 2 0 rfl rfl (zI.inn hb1 (by decide)) d_Model_addFollow_10 ?_
  refine lv_topi (fun v_2 ev_2 => ?_)
  obtain ⟨hv_2, kv_2⟩ := zQC.ld hb58 hb1 ev_2 (by decide)
  have hinv_2 : v_2.toInt + b1.toInt % 241 ≤ 259 := by rw [ev_2]; exact hins
  refine lv_istore (lv' := [(4, .int v_2), (3, .int v_1), (0, .ref b0), (1, .int b1), (2, .int b2)]) hx hb d_Model_addFollow_11 hl (by decide) rfl (fun ls hl => ?_)
  suffices key : ∀ (k_109 : Nat) (y_110 : Int32) (H : Heap) (locs : List Loc) (ls : Array Slot), (zI y_110 0 260) → ((y_110 : Int32).toInt ≤ (b58 b1.toNatClampNeg).toInt) → (∀ q : Nat, (((20 * (b1 : Int32).toInt.toNat) : Nat) : Int) + (y_110 : Int32).toInt ≤ (q : Int) → (q : Int) < (((20 * (b1 : Int32).toInt.toNat) : Nat) : Int) + (((b58 (b1 : Int32).toInt.toNat).toInt.toNat : Nat) : Int) → (b2 : Int32).toInt < (b57 q).toInt) → (0 ≤ (y_110 : Int32).toInt ∧ (y_110 : Int32).toInt ≤ (((b58 (b1 : Int32).toInt.toNat).toInt.toNat : Nat) : Int)) → y_110.toInt - (0) < (k_109 : Int) → va_P G.1 classes [(b0, .inr (12, [.int b3, .ref b4, .ref b5, .ref b6, .ref b7, .int b8, .ref b9, .int b10, .int b11, .int b12, .int b13, .ref b14, .ref b15, .ref b16, .int b17, .ref b18, .ref b19, .ref b20, .ref b21, .ref b22, .ref b23, .ref b24, .ref b25, .ref b26, .ref b27, .ref b28, .ref b29, .int b30, .ref b31, .ref b32, .int b33, .int b34, .int b35, .int b36, .ref b37, .ref b38, .ref b39, .ref b40, .ref b41, .ref b42, .ref b43, .int b44, .ref b45, .ref b46, .int b47, .ref b48, .ref b49, .ref b50, .ref b51, .ref b52, .int b53, .ref b54, .ref b55, .ref b56])), (b21, .inl (G.2 0, 9640, .inl b57)), (b22, .inl (G.2 0, 482, .inl b58))] H → va_D A [(b0, .inr (12, [.int b3, .ref b4, .ref b5, .ref b6, .ref b7, .int b8, .ref b9, .int b10, .int b11, .int b12, .int b13, .ref b14, .ref b15, .ref b16, .int b17, .ref b18, .ref b19, .ref b20, .ref b21, .ref b22, .ref b23, .ref b24, .ref b25, .ref b26, .ref b27, .ref b28, .ref b29, .int b30, .ref b31, .ref b32, .int b33, .int b34, .int b35, .int b36, .ref b37, .ref b38, .ref b39, .ref b40, .ref b41, .ref b42, .ref b43, .int b44, .ref b45, .ref b46, .int b47, .ref b48, .ref b49, .ref b50, .ref b51, .ref b52, .int b53, .ref b54, .ref b55, .ref b56])), (b21, .inl (G.2 0, 9640, .inl b57)), (b22, .inl (G.2 0, 482, .inl b58))] → va_S A s.heap H locs → lv_has ls 6 [(4, .int y_110), (3, .int v_1), (0, .ref b0), (1, .int b1), (2, .int b2)] → W p l e m_s2_Model_addFollow s m ([.ref b0, .int b1, .int b2] : List Value).toArray below meth c H locs 0 0 (MQ below (zQ G (fun v w => ∃ (e0 : Nat → Int32), ∃ (e1 : Nat → Int32), v = none ∧ w = [(b0, .inr (12, [.int b3, .ref b4, .ref b5, .ref b6, .ref b7, .int b8, .ref b9, .int b10, .int b11, .int b12, .int b13, .ref b14, .ref b15, .ref b16, .int b17, .ref b18, .ref b19, .ref b20, .ref b21, .ref b22, .ref b23, .ref b24, .ref b25, .ref b26, .ref b27, .ref b28, .ref b29, .int b30, .ref b31, .ref b32, .int b33, .int b34, .int b35, .int b36, .ref b37, .ref b38, .ref b39, .ref b40, .ref b41, .ref b42, .ref b43, .int b44, .ref b45, .ref b46, .int b47, .ref b48, .ref b49, .ref b50, .ref b51, .ref b52, .int b53, .ref b54, .ref b55, .ref b56])), (b21, .inl (G.2 0, 9640, .inl e0)), (b22, .inl (G.2 0, 482, .inl e1))] ∧ (zqa qC e1) ∧ (∀ q : Nat, (e1 q).toInt = (b58 q).toInt ∨ q = b1.toNatClampNeg ∧ (e1 q).toInt = (b58 q).toInt + 1) ∧ (yIn (20 * b1.toInt.toNat) (b58 b1.toInt.toNat).toInt.toNat b1.toInt.toNat b2 b57 b58 e0 e1)) A) ([.ref b0, .int b1, .int b2] : List Value).toArray s m_s2_Model_addFollow.cells m_s2_Model_addFollow.slots A) (F0 m 13 ls []) by
    exact key 261 (v_2) _ _ _ hv_2 (by rw [← ev_2]; omega) (by have c9 := ev_2; rw [z_plf hb1 (by decide)] at c9; rw [← c9]; intro q h1 h2; exfalso; omega) (by have c9 := ev_2; rw [z_plf hb1 (by decide)] at c9; rw [← c9]; omega) (zm_dni hv_2 (by decide)) hP hD hS (lv_sub hl [0, 1, 2, 3, 4] rfl)
  intro k_109
  induction k_109 with
  | zero =>
    intro y_110 H locs ls hy_110 hli_111 hli_112 hli_113 hmk_109 hP hD hS hl
    exact (zm_dn0 hy_110 hmk_109).elim
  | succ k_109 ihk_109 =>
    intro y_110 H locs ls hy_110 hli_111 hli_112 hli_113 hmk_109 hP hD hS hl
    refine lv_iload hx hb d_Model_addFollow_13 (lv_at hl 0 rfl) ?_
    refine lv_if_le (tgt := 39) hx hb d_Model_addFollow_15 (by decide) (fun hc_114 => ?_) (fun hc_114 => ?_)
    · have _nhc_114 := hc_114
      have ni_115 := (fa_le _ _).mp hc_114
      rw [li_0] at ni_115
      have hv_116 : zI y_110 0 0 := zI.le_l hy_110 zc_0 hc_114 (by decide)
      refine lv_iload hx hb d_Model_addFollow_39 (lv_at hl 0 rfl) ?_
      refine lv_if_le (tgt := 60) hx hb d_Model_addFollow_41 (by decide) (fun _ => ?_) (fun hc => zI.no_lt zc_0 hv_116 (zi_nle hc) (by decide))
      refine lv_aload_n hx hb d_Model_addFollow_60 rfl (lv_at hl 2 rfl) ?_
      refine va_get (D := G.1) (ci := 12) (v := .ref b22) (C := R_Model) (T := F_Model) (N := 54) hx hb hts i_Model hown hK hP 0 rfl rfl 19 (by decide) (hts _ q1128) (fun _ h9 => h9) rfl d_Model_addFollow_61 ?_
      refine lv_iload_n hx hb d_Model_addFollow_64 rfl (lv_at hl 3 rfl) ?_
      refine va_iald hx hb hK hP 2 0 rfl rfl (zI.inn hb1 (by decide)) d_Model_addFollow_65 ?_
      refine lv_topi (fun v_117 ev_117 => ?_)
      obtain rfl : v_2 = v_117 := ev_2.trans ev_117.symm
      refine lv_istore (lv' := [(5, .int v_2), (4, .int y_110), (3, .int v_1), (0, .ref b0), (1, .int b1), (2, .int b2)]) hx hb d_Model_addFollow_66 hl (by decide) rfl (fun ls hl => ?_)
      suffices key : ∀ (k_138 : Nat) (y_139 : Int32) (y_140 : Nat → Int32) (H : Heap) (locs : List Loc) (ls : Array Slot), (zI y_139 0 260) → ((y_139 : Int32).toInt ≤ (b58 b1.toNatClampNeg).toInt) → (∀ q : Nat, y_140 q = if (((20 * (b1 : Int32).toInt.toNat) : Nat) : Int) + (y_139 : Int32).toInt < (q : Int) ∧ (q : Int) ≤ (((20 * (b1 : Int32).toInt.toNat) : Nat) : Int) + (((b58 (b1 : Int32).toInt.toNat).toInt.toNat : Nat) : Int) then b57 (q - 1) else b57 q) → ((y_110 : Int32).toInt ≤ (y_139 : Int32).toInt ∧ (y_139 : Int32).toInt ≤ (((b58 (b1 : Int32).toInt.toNat).toInt.toNat : Nat) : Int)) → y_139.toInt - (0) < (k_138 : Int) → va_P G.1 classes [(b0, .inr (12, [.int b3, .ref b4, .ref b5, .ref b6, .ref b7, .int b8, .ref b9, .int b10, .int b11, .int b12, .int b13, .ref b14, .ref b15, .ref b16, .int b17, .ref b18, .ref b19, .ref b20, .ref b21, .ref b22, .ref b23, .ref b24, .ref b25, .ref b26, .ref b27, .ref b28, .ref b29, .int b30, .ref b31, .ref b32, .int b33, .int b34, .int b35, .int b36, .ref b37, .ref b38, .ref b39, .ref b40, .ref b41, .ref b42, .ref b43, .int b44, .ref b45, .ref b46, .int b47, .ref b48, .ref b49, .ref b50, .ref b51, .ref b52, .int b53, .ref b54, .ref b55, .ref b56])), (b21, .inl (G.2 0, 9640, .inl y_140)), (b22, .inl (G.2 0, 482, .inl b58))] H → va_D A [(b0, .inr (12, [.int b3, .ref b4, .ref b5, .ref b6, .ref b7, .int b8, .ref b9, .int b10, .int b11, .int b12, .int b13, .ref b14, .ref b15, .ref b16, .int b17, .ref b18, .ref b19, .ref b20, .ref b21, .ref b22, .ref b23, .ref b24, .ref b25, .ref b26, .ref b27, .ref b28, .ref b29, .int b30, .ref b31, .ref b32, .int b33, .int b34, .int b35, .int b36, .ref b37, .ref b38, .ref b39, .ref b40, .ref b41, .ref b42, .ref b43, .int b44, .ref b45, .ref b46, .int b47, .ref b48, .ref b49, .ref b50, .ref b51, .ref b52, .int b53, .ref b54, .ref b55, .ref b56])), (b21, .inl (G.2 0, 9640, .inl y_140)), (b22, .inl (G.2 0, 482, .inl b58))] → va_S A s.heap H locs → lv_has ls 6 [(5, .int y_139), (4, .int y_110), (3, .int v_1), (0, .ref b0), (1, .int b1), (2, .int b2)] → W p l e m_s2_Model_addFollow s m ([.ref b0, .int b1, .int b2] : List Value).toArray below meth c H locs 0 0 (MQ below (zQ G (fun v w => ∃ (e0 : Nat → Int32), ∃ (e1 : Nat → Int32), v = none ∧ w = [(b0, .inr (12, [.int b3, .ref b4, .ref b5, .ref b6, .ref b7, .int b8, .ref b9, .int b10, .int b11, .int b12, .int b13, .ref b14, .ref b15, .ref b16, .int b17, .ref b18, .ref b19, .ref b20, .ref b21, .ref b22, .ref b23, .ref b24, .ref b25, .ref b26, .ref b27, .ref b28, .ref b29, .int b30, .ref b31, .ref b32, .int b33, .int b34, .int b35, .int b36, .ref b37, .ref b38, .ref b39, .ref b40, .ref b41, .ref b42, .ref b43, .int b44, .ref b45, .ref b46, .int b47, .ref b48, .ref b49, .ref b50, .ref b51, .ref b52, .int b53, .ref b54, .ref b55, .ref b56])), (b21, .inl (G.2 0, 9640, .inl e0)), (b22, .inl (G.2 0, 482, .inl e1))] ∧ (zqa qC e1) ∧ (∀ q : Nat, (e1 q).toInt = (b58 q).toInt ∨ q = b1.toNatClampNeg ∧ (e1 q).toInt = (b58 q).toInt + 1) ∧ (yIn (20 * b1.toInt.toNat) (b58 b1.toInt.toNat).toInt.toNat b1.toInt.toNat b2 b57 b58 e0 e1)) A) ([.ref b0, .int b1, .int b2] : List Value).toArray s m_s2_Model_addFollow.cells m_s2_Model_addFollow.slots A) (F0 m 68 ls []) by
        exact key 261 (v_2) (b57) _ _ _ hv_2 (by rw [← ev_2]; omega) (by have c9 := ev_2; rw [z_plf hb1 (by decide)] at c9; intro q; rw [← c9, if_neg (by omega)]) (by have b9 := hli_113; have c9 := ev_2; rw [z_plf hb1 (by decide)] at c9; rw [← c9] at b9 ⊢; omega) (zm_dni hv_2 (by decide)) hP hD hS (lv_sub hl [0, 1, 2, 3, 4, 5] rfl)
      intro k_138
      induction k_138 with
      | zero =>
        intro y_139 y_140 H locs ls hy_139 hli_141 hli_142 hli_143 hmk_138 hP hD hS hl
        exact (zm_dn0 hy_139 hmk_138).elim
      | succ k_138 ihk_138 =>
        intro y_139 y_140 H locs ls hy_139 hli_141 hli_142 hli_143 hmk_138 hP hD hS hl
        refine lv_iload hx hb d_Model_addFollow_68 (lv_at hl 0 rfl) ?_
        refine lv_iload hx hb d_Model_addFollow_70 (lv_at hl 1 rfl) ?_
        refine lv_icmp_le (tgt := 101) hx hb d_Model_addFollow_72 (by decide) (fun hc_144 => ?_) (fun hc_144 => ?_)
        · have _nhc_144 := hc_144
          have ni_145 := (fa_le _ _).mp hc_144
          have hv_146 : zI y_139 0 0 := zI.le_l hy_139 hv_116 hc_144 (by decide)
          refine lv_aload_n hx hb d_Model_addFollow_101 rfl (lv_at hl 3 rfl) ?_
          refine va_get (D := G.1) (ci := 12) (v := .ref b21) (C := R_Model) (T := F_Model) (N := 54) hx hb hts i_Model hown hK hP 0 rfl rfl 18 (by decide) (hts _ q1127) (fun _ h9 => h9) rfl d_Model_addFollow_102 ?_
          refine lv_iload_n hx hb d_Model_addFollow_105 rfl (lv_at hl 2 rfl) ?_
          refine lv_iload hx hb d_Model_addFollow_106 (lv_at hl 1 rfl) ?_
          refine lv_iadd hx hb d_Model_addFollow_108 ?_
          refine lv_topi (fun v_147 ev_147 => ?_)
          obtain ⟨qv_147, hv_147⟩ := zI_add (l := 0) (h := 9620) hv_1 hv_116 ev_147 (by decide)
          refine lv_iload_n hx hb d_Model_addFollow_109 rfl (lv_at hl 5 rfl) ?_
          refine va_iast hx hb hK hP hD hS 1 0 rfl rfl (zI.inn hv_147 (by decide)) d_Model_addFollow_110 (fun H locs hP hD hS => ?_)
          obtain ⟨f_148, gf_148, uf_148, hP, hD⟩ := z_newFu 1 hP hD rfl
          have hP : va_P G.1 classes [(b0, .inr (12, [.int b3, .ref b4, .ref b5, .ref b6, .ref b7, .int b8, .ref b9, .int b10, .int b11, .int b12, .int b13, .ref b14, .ref b15, .ref b16, .int b17, .ref b18, .ref b19, .ref b20, .ref b21, .ref b22, .ref b23, .ref b24, .ref b25, .ref b26, .ref b27, .ref b28, .ref b29, .int b30, .ref b31, .ref b32, .int b33, .int b34, .int b35, .int b36, .ref b37, .ref b38, .ref b39, .ref b40, .ref b41, .ref b42, .ref b43, .int b44, .ref b45, .ref b46, .int b47, .ref b48, .ref b49, .ref b50, .ref b51, .ref b52, .int b53, .ref b54, .ref b55, .ref b56])), (b21, .inl (G.2 0, 9640, .inl f_148)), (b22, .inl (G.2 0, 482, .inl b58))] H := hP
          have hD := z_tie hP hD rfl
          refine lv_aload_n hx hb d_Model_addFollow_111 rfl (lv_at hl 3 rfl) ?_
          refine va_get (D := G.1) (ci := 12) (v := .ref b22) (C := R_Model) (T := F_Model) (N := 54) hx hb hts i_Model hown hK hP 0 rfl rfl 19 (by decide) (hts _ q1128) (fun _ h9 => h9) rfl d_Model_addFollow_112 ?_
          refine lv_iload_n hx hb d_Model_addFollow_115 rfl (lv_at hl 4 rfl) ?_
          refine lv_dup2_11 hx hb d_Model_addFollow_116 rfl rfl ?_
          refine va_iald hx hb hK hP 2 0 rfl rfl (zI.inn hb1 (by decide)) d_Model_addFollow_117 ?_
          refine lv_topi (fun v_149 ev_149 => ?_)
          obtain rfl : v_2 = v_149 := ev_2.trans ev_149.symm
          refine lv_iconst (v := 1) hx hb d_Model_addFollow_118 (by decide) ?_
          refine lv_iadd hx hb d_Model_addFollow_119 ?_
          refine lv_topi (fun v_150 ev_150 => ?_)
          obtain ⟨qv_150, hv_150⟩ := zI_add (l := 1) (h := 261) hv_2 zc_1 ev_150 (by decide)
          rw [li_1] at qv_150
          refine va_iast hx hb hK hP hD hS 2 0 rfl rfl (zI.inn hb1 (by decide)) d_Model_addFollow_120 (fun H locs hP hD hS => ?_)
          obtain ⟨f_151, hf_151, gf_151, uf_151, hP, hD⟩ := z_newq_ (Q := qC) 2 hP hD rfl hb58 (qC_v hb1 (by decide) ⟨⟨by have _w := hv_150; have _x := hb1; omega, by have _w := hv_150; have _x := hb1; omega⟩, by have _w := hv_150; have _x := hb1; omega⟩)
          have hP : va_P G.1 classes [(b0, .inr (12, [.int b3, .ref b4, .ref b5, .ref b6, .ref b7, .int b8, .ref b9, .int b10, .int b11, .int b12, .int b13, .ref b14, .ref b15, .ref b16, .int b17, .ref b18, .ref b19, .ref b20, .ref b21, .ref b22, .ref b23, .ref b24, .ref b25, .ref b26, .ref b27, .ref b28, .ref b29, .int b30, .ref b31, .ref b32, .int b33, .int b34, .int b35, .int b36, .ref b37, .ref b38, .ref b39, .ref b40, .ref b41, .ref b42, .ref b43, .int b44, .ref b45, .ref b46, .int b47, .ref b48, .ref b49, .ref b50, .ref b51, .ref b52, .int b53, .ref b54, .ref b55, .ref b56])), (b21, .inl (G.2 0, 9640, .inl f_148)), (b22, .inl (G.2 0, 482, .inl f_151))] H := hP
          have hD := z_tie hP hD rfl
          exact z_vret hx hb hr hlocks hP hD hS (Nat.le_of_ble_eq_true rfl) (Nat.le_of_ble_eq_true rfl) d_Model_addFollow_121 ⟨f_148, f_151, rfl, rfl, hf_151, (by intro q; rw [uf_151, z_at]; split; rename_i h; right; refine ⟨h, ?_⟩; rw [h, ← ev_2]; omega; left; rfl), (by have b9 := hli_113; have g9 := hli_112; have k9 := hli_142; have d9 := hli_143; exact yIn_g (st_ := v_1) (at_ := v_147) (by omega) ⟨by omega, by omega⟩ (fun q h1 h2 => g9 q (by omega) h2) (Or.inl (by omega)) (fun q => by have k8 := k9 q; rw [show ((20 * b1.toInt.toNat : Nat) : Int) + y_139.toInt = v_147.toInt by omega] at k8; exact k8) uf_148 (by rw [← (show b1.toNatClampNeg = b1.toInt.toNat by rw [z_plf hb1 (by decide)])]; exact ev_2) ev_150 (by rw [← (show b1.toNatClampNeg = b1.toInt.toNat by rw [z_plf hb1 (by decide)])]; exact uf_151))⟩
        · have _nhc_144 := hc_144
          have ni_152 := (fa_lt _ _).mp (zi_nle hc_144)
          have hv_153 : zI y_139 1 260 := zI.lt_r hv_116 hy_139 (zi_nle hc_144) (by decide)
          refine lv_aload_n hx hb d_Model_addFollow_75 rfl (lv_at hl 3 rfl) ?_
          refine va_get (D := G.1) (ci := 12) (v := .ref b21) (C := R_Model) (T := F_Model) (N := 54) hx hb hts i_Model hown hK hP 0 rfl rfl 18 (by decide) (hts _ q1127) (fun _ h9 => h9) rfl d_Model_addFollow_76 ?_
          refine lv_iload_n hx hb d_Model_addFollow_79 rfl (lv_at hl 2 rfl) ?_
          refine lv_iload hx hb d_Model_addFollow_80 (lv_at hl 0 rfl) ?_
          refine lv_iadd hx hb d_Model_addFollow_82 ?_
          refine lv_topi (fun v_154 ev_154 => ?_)
          obtain ⟨qv_154, hv_154⟩ := zI_add (l := 1) (h := 9880) hv_1 hv_153 ev_154 (by decide)
          refine lv_aload_n hx hb d_Model_addFollow_83 rfl (lv_at hl 3 rfl) ?_
          refine va_get (D := G.1) (ci := 12) (v := .ref b21) (C := R_Model) (T := F_Model) (N := 54) hx hb hts i_Model hown hK hP 0 rfl rfl 18 (by decide) (hts _ q1127) (fun _ h9 => h9) rfl d_Model_addFollow_84 ?_
          refine lv_iload_n hx hb d_Model_addFollow_87 rfl (lv_at hl 2 rfl) ?_
          refine lv_iload hx hb d_Model_addFollow_88 (lv_at hl 0 rfl) ?_
          refine lv_iadd hx hb d_Model_addFollow_90 ?_
          refine lv_topi (fun v_155 ev_155 => ?_)
          obtain rfl : v_154 = v_155 := ev_154.trans ev_155.symm
          refine lv_iconst (v := 1) hx hb d_Model_addFollow_91 (by decide) ?_
          refine lv_isub hx hb d_Model_addFollow_92 ?_
          refine lv_topi (fun v_156 ev_156 => ?_)
          obtain ⟨qv_156, hv_156⟩ := zI_sub (l := 0) (h := 9879) hv_154 zc_1 ev_156 (by decide)
          rw [li_1] at qv_156
          have hv_157 : zI v_156 0 9639 := ⟨by omega, by omega⟩
          refine va_iald hx hb hK hP 1 0 rfl rfl (zI.inn hv_157 (by decide)) d_Model_addFollow_93 ?_
          refine lv_topi (fun v_158 ev_158 => ?_)
          have hv_159 : zI v_154 0 9639 := ⟨by omega, by omega⟩
          refine va_iast hx hb hK hP hD hS 1 0 rfl rfl (zI.inn hv_159 (by decide)) d_Model_addFollow_94 (fun H locs hP hD hS => ?_)
          obtain ⟨f_160, gf_160, uf_160, hP, hD⟩ := z_newFu 1 hP hD rfl
          have hP : va_P G.1 classes [(b0, .inr (12, [.int b3, .ref b4, .ref b5, .ref b6, .ref b7, .int b8, .ref b9, .int b10, .int b11, .int b12, .int b13, .ref b14, .ref b15, .ref b16, .int b17, .ref b18, .ref b19, .ref b20, .ref b21, .ref b22, .ref b23, .ref b24, .ref b25, .ref b26, .ref b27, .ref b28, .ref b29, .int b30, .ref b31, .ref b32, .int b33, .int b34, .int b35, .int b36, .ref b37, .ref b38, .ref b39, .ref b40, .ref b41, .ref b42, .ref b43, .int b44, .ref b45, .ref b46, .int b47, .ref b48, .ref b49, .ref b50, .ref b51, .ref b52, .int b53, .ref b54, .ref b55, .ref b56])), (b21, .inl (G.2 0, 9640, .inl f_160)), (b22, .inl (G.2 0, 482, .inl b58))] H := hP
          have hD := z_tie hP hD rfl
          obtain ⟨v_161, ev_161⟩ : ∃ z : Int32, z = y_139 + (-1) := ⟨_, rfl⟩
          obtain ⟨qv_161, hv_161⟩ := zI_add (l := 0) (h := 259) hv_153 zc_m1 ev_161 (by decide)
          rw [li_m1] at qv_161
          refine lv_iinc (v := v_161) (lv' := [(5, .int v_161), (4, .int y_110), (3, .int v_1), (0, .ref b0), (1, .int b1), (2, .int b2)]) hx hb d_Model_addFollow_95 hl (k := 0) rfl (by rw [ev_161]; rfl) (by decide) rfl (fun ls hl => ?_)
          refine lv_goto (tgt := 68) hx hb d_Model_addFollow_98 (by decide) ?_
          exact ihk_138 (v_161) (f_160) _ _ _ (zI.wk (l' := 0) (h' := 260) hv_161 (by decide)) (by omega) (by have p9 := z_pl hv_159 (by decide); have p8 := z_pl hv_157 (by decide); have b9 := hli_143; have c9 := ev_2; rw [z_plf hb1 (by decide)] at c9; rw [← c9] at b9 ⊢; have k9 := hli_142; rw [← c9] at k9; intro q; rw [uf_160, z_at]; by_cases c8 : q = v_154.toNatClampNeg; (rw [if_pos c8, if_pos (by omega), ev_158, k9, if_neg (by omega)]; congr 1; omega); (rw [if_neg c8, k9]; by_cases c7 : ((20 * b1.toInt.toNat : Nat) : Int) + y_139.toInt < (q : Int) ∧ (q : Int) ≤ ((20 * b1.toInt.toNat : Nat) : Int) + ((v_2.toInt.toNat : Nat) : Int); (rw [if_pos c7, if_pos (by omega)]); rw [if_neg c7, if_neg (by omega)])) (by have a9 := hli_143; omega) (zm_dn qv_161 hmk_138 (by decide)) hP hD hS (lv_sub hl [0, 1, 2, 3, 4, 5] rfl)
    · have _nhc_114 := hc_114
      have ni_162 := (fa_lt _ _).mp (zi_nle hc_114)
      rw [li_0] at ni_162
      have hv_163 : zI y_110 1 260 := zI.lt_r zc_0 hy_110 (zi_nle hc_114) (by decide)
      refine lv_aload_n hx hb d_Model_addFollow_18 rfl (lv_at hl 2 rfl) ?_
      refine va_get (D := G.1) (ci := 12) (v := .ref b21) (C := R_Model) (T := F_Model) (N := 54) hx hb hts i_Model hown hK hP 0 rfl rfl 18 (by decide) (hts _ q1127) (fun _ h9 => h9) rfl d_Model_addFollow_19 ?_
      refine lv_iload_n hx hb d_Model_addFollow_22 rfl (lv_at hl 1 rfl) ?_
      refine lv_iload hx hb d_Model_addFollow_23 (lv_at hl 0 rfl) ?_
      refine lv_iadd hx hb d_Model_addFollow_25 ?_
      refine lv_topi (fun v_164 ev_164 => ?_)
      obtain ⟨qv_164, hv_164⟩ := zI_add (l := 1) (h := 9880) hv_1 hv_163 ev_164 (by decide)
      refine lv_iconst (v := 1) hx hb d_Model_addFollow_26 (by decide) ?_
      refine lv_isub hx hb d_Model_addFollow_27 ?_
      refine lv_topi (fun v_165 ev_165 => ?_)
      obtain ⟨qv_165, hv_165⟩ := zI_sub (l := 0) (h := 9879) hv_164 zc_1 ev_165 (by decide)
      rw [li_1] at qv_165
      have hv_166 : zI v_165 0 9639 := ⟨by omega, by omega⟩
      refine va_iald hx hb hK hP 1 0 rfl rfl (zI.inn hv_166 (by decide)) d_Model_addFollow_28 ?_
      refine lv_topi (fun v_167 ev_167 => ?_)
      refine lv_iload_n hx hb d_Model_addFollow_29 rfl (lv_at hl 4 rfl) ?_
      refine lv_icmp_le (tgt := 39) hx hb d_Model_addFollow_30 (by decide) (fun hc_168 => ?_) (fun hc_168 => ?_)
      · have _nhc_168 := hc_168
        have ni_169 := (fa_le _ _).mp hc_168
        refine lv_iload hx hb d_Model_addFollow_39 (lv_at hl 0 rfl) ?_
        refine lv_if_le (tgt := 60) hx hb d_Model_addFollow_41 (by decide) (fun hc => zI.no_le hv_163 zc_0 hc (by decide)) (fun _ => ?_)
        refine lv_aload_n hx hb d_Model_addFollow_44 rfl (lv_at hl 2 rfl) ?_
        refine va_get (D := G.1) (ci := 12) (v := .ref b21) (C := R_Model) (T := F_Model) (N := 54) hx hb hts i_Model hown hK hP 0 rfl rfl 18 (by decide) (hts _ q1127) (fun _ h9 => h9) rfl d_Model_addFollow_45 ?_
        refine lv_iload_n hx hb d_Model_addFollow_48 rfl (lv_at hl 1 rfl) ?_
        refine lv_iload hx hb d_Model_addFollow_49 (lv_at hl 0 rfl) ?_
        refine lv_iadd hx hb d_Model_addFollow_51 ?_
        refine lv_topi (fun v_170 ev_170 => ?_)
        obtain rfl : v_164 = v_170 := ev_164.trans ev_170.symm
        refine lv_iconst (v := 1) hx hb d_Model_addFollow_52 (by decide) ?_
        refine lv_isub hx hb d_Model_addFollow_53 ?_
        refine lv_topi (fun v_171 ev_171 => ?_)
        obtain rfl : v_165 = v_171 := ev_165.trans ev_171.symm
        refine va_iald hx hb hK hP 1 0 rfl rfl (zI.inn hv_166 (by decide)) d_Model_addFollow_54 ?_
        refine lv_topi (fun v_172 ev_172 => ?_)
        obtain rfl : v_167 = v_172 := ev_167.trans ev_172.symm
        refine lv_iload_n hx hb d_Model_addFollow_55 rfl (lv_at hl 4 rfl) ?_
        refine lv_icmp_ne (tgt := 60) hx hb d_Model_addFollow_56 (by decide) (fun hc_173 => ?_) (fun hc_173 => ?_)
        · have _nhc_173 := hc_173
          have ni_174 : ¬ (v_167 : Int32).toInt = (b2 : Int32).toInt := fun z => hc_173 ((fa_eq _ _).mpr z)
          refine lv_aload_n hx hb d_Model_addFollow_60 rfl (lv_at hl 2 rfl) ?_
          refine va_get (D := G.1) (ci := 12) (v := .ref b22) (C := R_Model) (T := F_Model) (N := 54) hx hb hts i_Model hown hK hP 0 rfl rfl 19 (by decide) (hts _ q1128) (fun _ h9 => h9) rfl d_Model_addFollow_61 ?_
          refine lv_iload_n hx hb d_Model_addFollow_64 rfl (lv_at hl 3 rfl) ?_
          refine va_iald hx hb hK hP 2 0 rfl rfl (zI.inn hb1 (by decide)) d_Model_addFollow_65 ?_
          refine lv_topi (fun v_175 ev_175 => ?_)
          obtain rfl : v_2 = v_175 := ev_2.trans ev_175.symm
          refine lv_istore (lv' := [(5, .int v_2), (4, .int y_110), (3, .int v_1), (0, .ref b0), (1, .int b1), (2, .int b2)]) hx hb d_Model_addFollow_66 hl (by decide) rfl (fun ls hl => ?_)
          suffices key : ∀ (k_197 : Nat) (y_198 : Int32) (y_199 : Nat → Int32) (H : Heap) (locs : List Loc) (ls : Array Slot), (zI y_198 0 260) → ((y_198 : Int32).toInt ≤ (b58 b1.toNatClampNeg).toInt) → (∀ q : Nat, y_199 q = if (((20 * (b1 : Int32).toInt.toNat) : Nat) : Int) + (y_198 : Int32).toInt < (q : Int) ∧ (q : Int) ≤ (((20 * (b1 : Int32).toInt.toNat) : Nat) : Int) + (((b58 (b1 : Int32).toInt.toNat).toInt.toNat : Nat) : Int) then b57 (q - 1) else b57 q) → ((y_110 : Int32).toInt ≤ (y_198 : Int32).toInt ∧ (y_198 : Int32).toInt ≤ (((b58 (b1 : Int32).toInt.toNat).toInt.toNat : Nat) : Int)) → y_198.toInt - (0) < (k_197 : Int) → va_P G.1 classes [(b0, .inr (12, [.int b3, .ref b4, .ref b5, .ref b6, .ref b7, .int b8, .ref b9, .int b10, .int b11, .int b12, .int b13, .ref b14, .ref b15, .ref b16, .int b17, .ref b18, .ref b19, .ref b20, .ref b21, .ref b22, .ref b23, .ref b24, .ref b25, .ref b26, .ref b27, .ref b28, .ref b29, .int b30, .ref b31, .ref b32, .int b33, .int b34, .int b35, .int b36, .ref b37, .ref b38, .ref b39, .ref b40, .ref b41, .ref b42, .ref b43, .int b44, .ref b45, .ref b46, .int b47, .ref b48, .ref b49, .ref b50, .ref b51, .ref b52, .int b53, .ref b54, .ref b55, .ref b56])), (b21, .inl (G.2 0, 9640, .inl y_199)), (b22, .inl (G.2 0, 482, .inl b58))] H → va_D A [(b0, .inr (12, [.int b3, .ref b4, .ref b5, .ref b6, .ref b7, .int b8, .ref b9, .int b10, .int b11, .int b12, .int b13, .ref b14, .ref b15, .ref b16, .int b17, .ref b18, .ref b19, .ref b20, .ref b21, .ref b22, .ref b23, .ref b24, .ref b25, .ref b26, .ref b27, .ref b28, .ref b29, .int b30, .ref b31, .ref b32, .int b33, .int b34, .int b35, .int b36, .ref b37, .ref b38, .ref b39, .ref b40, .ref b41, .ref b42, .ref b43, .int b44, .ref b45, .ref b46, .int b47, .ref b48, .ref b49, .ref b50, .ref b51, .ref b52, .int b53, .ref b54, .ref b55, .ref b56])), (b21, .inl (G.2 0, 9640, .inl y_199)), (b22, .inl (G.2 0, 482, .inl b58))] → va_S A s.heap H locs → lv_has ls 6 [(5, .int y_198), (4, .int y_110), (3, .int v_1), (0, .ref b0), (1, .int b1), (2, .int b2)] → W p l e m_s2_Model_addFollow s m ([.ref b0, .int b1, .int b2] : List Value).toArray below meth c H locs 0 0 (MQ below (zQ G (fun v w => ∃ (e0 : Nat → Int32), ∃ (e1 : Nat → Int32), v = none ∧ w = [(b0, .inr (12, [.int b3, .ref b4, .ref b5, .ref b6, .ref b7, .int b8, .ref b9, .int b10, .int b11, .int b12, .int b13, .ref b14, .ref b15, .ref b16, .int b17, .ref b18, .ref b19, .ref b20, .ref b21, .ref b22, .ref b23, .ref b24, .ref b25, .ref b26, .ref b27, .ref b28, .ref b29, .int b30, .ref b31, .ref b32, .int b33, .int b34, .int b35, .int b36, .ref b37, .ref b38, .ref b39, .ref b40, .ref b41, .ref b42, .ref b43, .int b44, .ref b45, .ref b46, .int b47, .ref b48, .ref b49, .ref b50, .ref b51, .ref b52, .int b53, .ref b54, .ref b55, .ref b56])), (b21, .inl (G.2 0, 9640, .inl e0)), (b22, .inl (G.2 0, 482, .inl e1))] ∧ (zqa qC e1) ∧ (∀ q : Nat, (e1 q).toInt = (b58 q).toInt ∨ q = b1.toNatClampNeg ∧ (e1 q).toInt = (b58 q).toInt + 1) ∧ (yIn (20 * b1.toInt.toNat) (b58 b1.toInt.toNat).toInt.toNat b1.toInt.toNat b2 b57 b58 e0 e1)) A) ([.ref b0, .int b1, .int b2] : List Value).toArray s m_s2_Model_addFollow.cells m_s2_Model_addFollow.slots A) (F0 m 68 ls []) by
            exact key 261 (v_2) (b57) _ _ _ hv_2 (by rw [← ev_2]; omega) (by have c9 := ev_2; rw [z_plf hb1 (by decide)] at c9; intro q; rw [← c9, if_neg (by omega)]) (by have b9 := hli_113; have c9 := ev_2; rw [z_plf hb1 (by decide)] at c9; rw [← c9] at b9 ⊢; omega) (zm_dni hv_2 (by decide)) hP hD hS (lv_sub hl [0, 1, 2, 3, 4, 5] rfl)
          intro k_197
          induction k_197 with
          | zero =>
            intro y_198 y_199 H locs ls hy_198 hli_200 hli_201 hli_202 hmk_197 hP hD hS hl
            exact (zm_dn0 hy_198 hmk_197).elim
          | succ k_197 ihk_197 =>
            intro y_198 y_199 H locs ls hy_198 hli_200 hli_201 hli_202 hmk_197 hP hD hS hl
            refine lv_iload hx hb d_Model_addFollow_68 (lv_at hl 0 rfl) ?_
            refine lv_iload hx hb d_Model_addFollow_70 (lv_at hl 1 rfl) ?_
            refine lv_icmp_le (tgt := 101) hx hb d_Model_addFollow_72 (by decide) (fun hc_203 => ?_) (fun hc_203 => ?_)
            · have _nhc_203 := hc_203
              have ni_204 := (fa_le _ _).mp hc_203
              refine lv_aload_n hx hb d_Model_addFollow_101 rfl (lv_at hl 3 rfl) ?_
              refine va_get (D := G.1) (ci := 12) (v := .ref b21) (C := R_Model) (T := F_Model) (N := 54) hx hb hts i_Model hown hK hP 0 rfl rfl 18 (by decide) (hts _ q1127) (fun _ h9 => h9) rfl d_Model_addFollow_102 ?_
              refine lv_iload_n hx hb d_Model_addFollow_105 rfl (lv_at hl 2 rfl) ?_
              refine lv_iload hx hb d_Model_addFollow_106 (lv_at hl 1 rfl) ?_
              refine lv_iadd hx hb d_Model_addFollow_108 ?_
              refine lv_topi (fun v_205 ev_205 => ?_)
              obtain rfl : v_164 = v_205 := ev_164.trans ev_205.symm
              refine lv_iload_n hx hb d_Model_addFollow_109 rfl (lv_at hl 5 rfl) ?_
              have hv_206 : zI v_164 0 9639 := ⟨by omega, by omega⟩
              refine va_iast hx hb hK hP hD hS 1 0 rfl rfl (zI.inn hv_206 (by decide)) d_Model_addFollow_110 (fun H locs hP hD hS => ?_)
              obtain ⟨f_207, gf_207, uf_207, hP, hD⟩ := z_newFu 1 hP hD rfl
              have hP : va_P G.1 classes [(b0, .inr (12, [.int b3, .ref b4, .ref b5, .ref b6, .ref b7, .int b8, .ref b9, .int b10, .int b11, .int b12, .int b13, .ref b14, .ref b15, .ref b16, .int b17, .ref b18, .ref b19, .ref b20, .ref b21, .ref b22, .ref b23, .ref b24, .ref b25, .ref b26, .ref b27, .ref b28, .ref b29, .int b30, .ref b31, .ref b32, .int b33, .int b34, .int b35, .int b36, .ref b37, .ref b38, .ref b39, .ref b40, .ref b41, .ref b42, .ref b43, .int b44, .ref b45, .ref b46, .int b47, .ref b48, .ref b49, .ref b50, .ref b51, .ref b52, .int b53, .ref b54, .ref b55, .ref b56])), (b21, .inl (G.2 0, 9640, .inl f_207)), (b22, .inl (G.2 0, 482, .inl b58))] H := hP
              have hD := z_tie hP hD rfl
              refine lv_aload_n hx hb d_Model_addFollow_111 rfl (lv_at hl 3 rfl) ?_
              refine va_get (D := G.1) (ci := 12) (v := .ref b22) (C := R_Model) (T := F_Model) (N := 54) hx hb hts i_Model hown hK hP 0 rfl rfl 19 (by decide) (hts _ q1128) (fun _ h9 => h9) rfl d_Model_addFollow_112 ?_
              refine lv_iload_n hx hb d_Model_addFollow_115 rfl (lv_at hl 4 rfl) ?_
              refine lv_dup2_11 hx hb d_Model_addFollow_116 rfl rfl ?_
              refine va_iald hx hb hK hP 2 0 rfl rfl (zI.inn hb1 (by decide)) d_Model_addFollow_117 ?_
              refine lv_topi (fun v_208 ev_208 => ?_)
              obtain rfl : v_2 = v_208 := ev_2.trans ev_208.symm
              refine lv_iconst (v := 1) hx hb d_Model_addFollow_118 (by decide) ?_
              refine lv_iadd hx hb d_Model_addFollow_119 ?_
              refine lv_topi (fun v_209 ev_209 => ?_)
              obtain ⟨qv_209, hv_209⟩ := zI_add (l := 1) (h := 261) hv_2 zc_1 ev_209 (by decide)
              rw [li_1] at qv_209
              refine va_iast hx hb hK hP hD hS 2 0 rfl rfl (zI.inn hb1 (by decide)) d_Model_addFollow_120 (fun H locs hP hD hS => ?_)
              obtain ⟨f_210, hf_210, gf_210, uf_210, hP, hD⟩ := z_newq_ (Q := qC) 2 hP hD rfl hb58 (qC_v hb1 (by decide) ⟨⟨by have _w := hv_209; have _x := hb1; omega, by have _w := hv_209; have _x := hb1; omega⟩, by have _w := hv_209; have _x := hb1; omega⟩)
              have hP : va_P G.1 classes [(b0, .inr (12, [.int b3, .ref b4, .ref b5, .ref b6, .ref b7, .int b8, .ref b9, .int b10, .int b11, .int b12, .int b13, .ref b14, .ref b15, .ref b16, .int b17, .ref b18, .ref b19, .ref b20, .ref b21, .ref b22, .ref b23, .ref b24, .ref b25, .ref b26, .ref b27, .ref b28, .ref b29, .int b30, .ref b31, .ref b32, .int b33, .int b34, .int b35, .int b36, .ref b37, .ref b38, .ref b39, .ref b40, .ref b41, .ref b42, .ref b43, .int b44, .ref b45, .ref b46, .int b47, .ref b48, .ref b49, .ref b50, .ref b51, .ref b52, .int b53, .ref b54, .ref b55, .ref b56])), (b21, .inl (G.2 0, 9640, .inl f_207)), (b22, .inl (G.2 0, 482, .inl f_210))] H := hP
              have hD := z_tie hP hD rfl
              exact z_vret hx hb hr hlocks hP hD hS (Nat.le_of_ble_eq_true rfl) (Nat.le_of_ble_eq_true rfl) d_Model_addFollow_121 ⟨f_207, f_210, rfl, rfl, hf_210, (by intro q; rw [uf_210, z_at]; split; rename_i h; right; refine ⟨h, ?_⟩; rw [h, ← ev_2]; omega; left; rfl), (by have b9 := hli_113; have g9 := hli_112; have k9 := hli_201; have d9 := hli_202; exact yIn_g (st_ := v_1) (at_ := v_164) (by omega) ⟨by omega, by omega⟩ (fun q h1 h2 => g9 q (by omega) h2) (Or.inr ⟨by omega, by have e9 := congrArg Int32.toInt ev_167; rw [show v_165.toNatClampNeg = v_164.toInt.toNat - 1 by have p9 := z_pl hv_166 (by decide); omega] at e9; omega⟩) (fun q => by have k8 := k9 q; rw [show ((20 * b1.toInt.toNat : Nat) : Int) + y_198.toInt = v_164.toInt by omega] at k8; exact k8) uf_207 (by rw [← (show b1.toNatClampNeg = b1.toInt.toNat by rw [z_plf hb1 (by decide)])]; exact ev_2) ev_209 (by rw [← (show b1.toNatClampNeg = b1.toInt.toNat by rw [z_plf hb1 (by decide)])]; exact uf_210))⟩
            · have _nhc_203 := hc_203
              have ni_211 := (fa_lt _ _).mp (zi_nle hc_203)
              have hv_212 : zI y_110 1 259 := zI.lt_l hv_163 hy_198 (zi_nle hc_203) (by decide)
              have hv_213 : zI y_198 2 260 := zI.lt_r hv_163 hy_198 (zi_nle hc_203) (by decide)
              refine lv_aload_n hx hb d_Model_addFollow_75 rfl (lv_at hl 3 rfl) ?_
              refine va_get (D := G.1) (ci := 12) (v := .ref b21) (C := R_Model) (T := F_Model) (N := 54) hx hb hts i_Model hown hK hP 0 rfl rfl 18 (by decide) (hts _ q1127) (fun _ h9 => h9) rfl d_Model_addFollow_76 ?_
              refine lv_iload_n hx hb d_Model_addFollow_79 rfl (lv_at hl 2 rfl) ?_
              refine lv_iload hx hb d_Model_addFollow_80 (lv_at hl 0 rfl) ?_
              refine lv_iadd hx hb d_Model_addFollow_82 ?_
              refine lv_topi (fun v_214 ev_214 => ?_)
              obtain ⟨qv_214, hv_214⟩ := zI_add (l := 2) (h := 9880) hv_1 hv_213 ev_214 (by decide)
              refine lv_aload_n hx hb d_Model_addFollow_83 rfl (lv_at hl 3 rfl) ?_
              refine va_get (D := G.1) (ci := 12) (v := .ref b21) (C := R_Model) (T := F_Model) (N := 54) hx hb hts i_Model hown hK hP 0 rfl rfl 18 (by decide) (hts _ q1127) (fun _ h9 => h9) rfl d_Model_addFollow_84 ?_
              refine lv_iload_n hx hb d_Model_addFollow_87 rfl (lv_at hl 2 rfl) ?_
              refine lv_iload hx hb d_Model_addFollow_88 (lv_at hl 0 rfl) ?_
              refine lv_iadd hx hb d_Model_addFollow_90 ?_
              refine lv_topi (fun v_215 ev_215 => ?_)
              obtain rfl : v_214 = v_215 := ev_214.trans ev_215.symm
              refine lv_iconst (v := 1) hx hb d_Model_addFollow_91 (by decide) ?_
              refine lv_isub hx hb d_Model_addFollow_92 ?_
              refine lv_topi (fun v_216 ev_216 => ?_)
              obtain ⟨qv_216, hv_216⟩ := zI_sub (l := 1) (h := 9879) hv_214 zc_1 ev_216 (by decide)
              rw [li_1] at qv_216
              have hv_217 : zI v_216 0 9639 := ⟨by omega, by omega⟩
              refine va_iald hx hb hK hP 1 0 rfl rfl (zI.inn hv_217 (by decide)) d_Model_addFollow_93 ?_
              refine lv_topi (fun v_218 ev_218 => ?_)
              have hv_219 : zI v_214 0 9639 := ⟨by omega, by omega⟩
              refine va_iast hx hb hK hP hD hS 1 0 rfl rfl (zI.inn hv_219 (by decide)) d_Model_addFollow_94 (fun H locs hP hD hS => ?_)
              obtain ⟨f_220, gf_220, uf_220, hP, hD⟩ := z_newFu 1 hP hD rfl
              have hP : va_P G.1 classes [(b0, .inr (12, [.int b3, .ref b4, .ref b5, .ref b6, .ref b7, .int b8, .ref b9, .int b10, .int b11, .int b12, .int b13, .ref b14, .ref b15, .ref b16, .int b17, .ref b18, .ref b19, .ref b20, .ref b21, .ref b22, .ref b23, .ref b24, .ref b25, .ref b26, .ref b27, .ref b28, .ref b29, .int b30, .ref b31, .ref b32, .int b33, .int b34, .int b35, .int b36, .ref b37, .ref b38, .ref b39, .ref b40, .ref b41, .ref b42, .ref b43, .int b44, .ref b45, .ref b46, .int b47, .ref b48, .ref b49, .ref b50, .ref b51, .ref b52, .int b53, .ref b54, .ref b55, .ref b56])), (b21, .inl (G.2 0, 9640, .inl f_220)), (b22, .inl (G.2 0, 482, .inl b58))] H := hP
              have hD := z_tie hP hD rfl
              obtain ⟨v_221, ev_221⟩ : ∃ z : Int32, z = y_198 + (-1) := ⟨_, rfl⟩
              obtain ⟨qv_221, hv_221⟩ := zI_add (l := 1) (h := 259) hv_213 zc_m1 ev_221 (by decide)
              rw [li_m1] at qv_221
              refine lv_iinc (v := v_221) (lv' := [(5, .int v_221), (4, .int y_110), (3, .int v_1), (0, .ref b0), (1, .int b1), (2, .int b2)]) hx hb d_Model_addFollow_95 hl (k := 0) rfl (by rw [ev_221]; rfl) (by decide) rfl (fun ls hl => ?_)
              refine lv_goto (tgt := 68) hx hb d_Model_addFollow_98 (by decide) ?_
              exact ihk_197 (v_221) (f_220) _ _ _ (zI.wk (l' := 0) (h' := 260) hv_221 (by decide)) (by omega) (by have p9 := z_pl hv_219 (by decide); have p8 := z_pl hv_217 (by decide); have b9 := hli_202; have c9 := ev_2; rw [z_plf hb1 (by decide)] at c9; rw [← c9] at b9 ⊢; have k9 := hli_201; rw [← c9] at k9; intro q; rw [uf_220, z_at]; by_cases c8 : q = v_214.toNatClampNeg; (rw [if_pos c8, if_pos (by omega), ev_218, k9, if_neg (by omega)]; congr 1; omega); (rw [if_neg c8, k9]; by_cases c7 : ((20 * b1.toInt.toNat : Nat) : Int) + y_198.toInt < (q : Int) ∧ (q : Int) ≤ ((20 * b1.toInt.toNat : Nat) : Int) + ((v_2.toInt.toNat : Nat) : Int); (rw [if_pos c7, if_pos (by omega)]); rw [if_neg c7, if_neg (by omega)])) (by have a9 := hli_202; omega) (zm_dn qv_221 hmk_197 (by decide)) hP hD hS (lv_sub hl [0, 1, 2, 3, 4, 5] rfl)
        · have _nhc_173 := hc_173
          have ni_222 := (fa_eq _ _).mp hc_173
          exact z_vret hx hb hr hlocks hP hD hS (Nat.le_of_ble_eq_true rfl) (Nat.le_of_ble_eq_true rfl) d_Model_addFollow_59 ⟨b57, b58, rfl, rfl, hb58, (fun _ => Or.inl rfl), (by have b9 := hli_113; have g9 := hli_112; exact yIn_f (st_ := v_1) (at_ := v_164) (j := v_165) (by omega) ⟨by omega, by omega⟩ (fun q h1 h2 => g9 q (by omega) h2) (by omega) ev_167 (by omega))⟩
      · have _nhc_168 := hc_168
        have ni_223 := (fa_lt _ _).mp (zi_nle hc_168)
        have hv_224 : zI b2 (-2147483648) 2147483646 := zI.lt_l (zI_all b2) (zI_all v_167) (zi_nle hc_168) (by decide)
        have hv_225 : zI v_167 (-2147483647) 2147483647 := zI.lt_r (zI_all b2) (zI_all v_167) (zi_nle hc_168) (by decide)
        obtain ⟨v_226, ev_226⟩ : ∃ z : Int32, z = y_110 + (-1) := ⟨_, rfl⟩
        obtain ⟨qv_226, hv_226⟩ := zI_add (l := 0) (h := 259) hv_163 zc_m1 ev_226 (by decide)
        rw [li_m1] at qv_226
        refine lv_iinc (v := v_226) (lv' := [(4, .int v_226), (3, .int v_1), (0, .ref b0), (1, .int b1), (2, .int b2)]) hx hb d_Model_addFollow_33 hl (k := 0) rfl (by rw [ev_226]; rfl) (by decide) rfl (fun ls hl => ?_)
        refine lv_goto (tgt := 13) hx hb d_Model_addFollow_36 (by decide) ?_
        exact ihk_109 (v_226) _ _ _ (zI.wk (l' := 0) (h' := 260) hv_226 (by decide)) (by omega) (by have p9 := z_pl hv_166 (by decide); intro q h1 h2; by_cases c8 : ((20 * b1.toInt.toNat : Nat) : Int) + y_110.toInt ≤ (q : Int); exact hli_112 q c8 h2; rw [show q = v_165.toNatClampNeg by omega, ← ev_167]; omega) (by have a9 := hli_113; omega) (zm_dn qv_226 hmk_109 (by decide)) hP hD hS (lv_sub hl [0, 1, 2, 3, 4] rfl)
abbrev m_s2_Model_areAlike : Room := { frames := 0, cells := 0, slots := 0, locals := 0 }
set_option maxHeartbeats 4000000 in
set_option maxRecDepth 100000 in
theorem s2_Model_areAlike (l : Launch) (G : zG) (b0 : Nat) (b1 : Int32) (b2 : Int32) (b3 : Int32) (b4 : Nat) (b5 : Nat) (b6 : Nat) (b7 : Nat) (b8 : Int32) (b9 : Nat) (b10 : Int32) (b11 : Int32) (b12 : Int32) (b13 : Int32) (b14 : Nat) (b15 : Nat) (b16 : Nat) (b17 : Int32) (b18 : Nat) (b19 : Nat) (b20 : Nat) (b21 : Nat) (b22 : Nat) (b23 : Nat) (b24 : Nat) (b25 : Nat) (b26 : Nat) (b27 : Nat) (b28 : Nat) (b29 : Nat) (b30 : Int32) (b31 : Nat) (b32 : Nat) (b33 : Int32) (b34 : Int32) (b35 : Int32) (b36 : Int32) (b37 : Nat) (b38 : Nat) (b39 : Nat) (b40 : Nat) (b41 : Nat) (b42 : Nat) (b43 : Nat) (b44 : Int32) (b45 : Nat) (b46 : Nat) (b47 : Int32) (b48 : Nat) (b49 : Nat) (b50 : Nat) (b51 : Nat) (b52 : Nat) (b53 : Int32) (b54 : Nat) (b55 : Nat) (b56 : Nat) (b57 : Nat → Int32) (b58 : Nat → Int32) (hb1 : zI b1 0 481) (hb2 : zI b2 0 481) (hb8 : zI b8 0 8) (hb10 : zI b10 0 240) (hb11 : zI b11 0 240) (hb13 : zI b13 0 1) (hb17 : zI b17 0 12) (hb30 : zI b30 0 1) (hb33 : zI b33 0 1) (hb44 : zI b44 0 1000) (hb47 : zI b47 0 1000) (hb53 : zI b53 0 400) (hb58 : zqa qC b58) : zM l G y_Model_areAlike prog_14_method_30_code 5 (Option.some Jvm.ClassFile.FieldType.boolean) m_s2_Model_areAlike [.ref b0, .int b1, .int b2] [(b0, .inr (12, [.int b3, .ref b4, .ref b5, .ref b6, .ref b7, .int b8, .ref b9, .int b10, .int b11, .int b12, .int b13, .ref b14, .ref b15, .ref b16, .int b17, .ref b18, .ref b19, .ref b20, .ref b21, .ref b22, .ref b23, .ref b24, .ref b25, .ref b26, .ref b27, .ref b28, .ref b29, .int b30, .ref b31, .ref b32, .int b33, .int b34, .int b35, .int b36, .ref b37, .ref b38, .ref b39, .ref b40, .ref b41, .ref b42, .ref b43, .int b44, .ref b45, .ref b46, .int b47, .ref b48, .ref b49, .ref b50, .ref b51, .ref b52, .int b53, .ref b54, .ref b55, .ref b56])), (b21, .inl (G.2 0, 9640, .inl b57)), (b22, .inl (G.2 0, 482, .inl b58))] (fun v w => ∃ (e0 : Int32), v = some (.int e0) ∧ w = [(b0, .inr (12, [.int b3, .ref b4, .ref b5, .ref b6, .ref b7, .int b8, .ref b9, .int b10, .int b11, .int b12, .int b13, .ref b14, .ref b15, .ref b16, .int b17, .ref b18, .ref b19, .ref b20, .ref b21, .ref b22, .ref b23, .ref b24, .ref b25, .ref b26, .ref b27, .ref b28, .ref b29, .int b30, .ref b31, .ref b32, .int b33, .int b34, .int b35, .int b36, .ref b37, .ref b38, .ref b39, .ref b40, .ref b41, .ref b42, .ref b43, .int b44, .ref b45, .ref b46, .int b47, .ref b48, .ref b49, .ref b50, .ref b51, .ref b52, .int b53, .ref b54, .ref b55, .ref b56])), (b21, .inl (G.2 0, 9640, .inl b57)), (b22, .inl (G.2 0, 482, .inl b58))] ∧ (zI e0 0 1) ∧ ((e0 : Int32).toInt = 1 ∧ yLk (20 * b1.toInt.toNat) (20 * b2.toInt.toNat) (b58 b1.toInt.toNat).toInt (b58 b2.toInt.toNat).toInt b57 ∨ (e0 : Int32).toInt = 0 ∧ ¬ yLk (20 * b1.toInt.toNat) (20 * b2.toInt.toNat) (b58 b1.toInt.toNat).toInt (b58 b2.toInt.toNat).toInt b57)) := by
  refine z_start (by decide +kernel) (Nat.le_of_ble_eq_true rfl) ?_
  intro p e s m below meth c A Z hr hnm hA hP hD hS ls hl
  have Z : zC p s m _ meth c prog_14_method_30_code 5 "TraceMachinesModel" G := Z
  obtain ⟨hx, hb, hml, hown, hts, hK, hN, hlocks⟩ := id Z
  have hl : lv_has ls 5 [(0, .ref b0), (1, .int b1), (2, .int b2)] := hl
  refine lv_aload_n hx hb d_Model_areAlike_0 rfl (lv_at hl 0 rfl) ?_
  refine va_get (D := G.1) (ci := 12) (v := .ref b22) (C := R_Model) (T := F_Model) (N := 54) hx hb hts i_Model hown hK hP 0 rfl rfl 19 (by decide) (hts _ q1128) (fun _ h9 => h9) rfl d_Model_areAlike_1 ?_
  refine lv_iload_n hx hb d_Model_areAlike_4 rfl (lv_at hl 1 rfl) ?_
  refine va_iald hx hb hK hP 2 0 rfl rfl (zI.inn hb1 (by decide)) d_Model_areAlike_5 ?_
  refine lv_topi (fun v_1 ev_1 => ?_)
  obtain ⟨hv_1, kv_1⟩ := zQC.ld hb58 hb1 ev_1 (by decide)
  refine lv_aload_n hx hb d_Model_areAlike_6 rfl (lv_at hl 0 rfl) ?_
  refine va_get (D := G.1) (ci := 12) (v := .ref b22) (C := R_Model) (T := F_Model) (N := 54) hx hb hts i_Model hown hK hP 0 rfl rfl 19 (by decide) (hts _ q1128) (fun _ h9 => h9) rfl d_Model_areAlike_7 ?_
  refine lv_iload_n hx hb d_Model_areAlike_10 rfl (lv_at hl 2 rfl) ?_
  refine va_iald hx hb hK hP 2 0 rfl rfl (zI.inn hb2 (by decide)) d_Model_areAlike_11 ?_
  refine lv_topi (fun v_2 ev_2 => ?_)
  obtain ⟨hv_2, kv_2⟩ := zQC.ld hb58 hb2 ev_2 (by decide)
  refine lv_icmp_ne (tgt := 19) hx hb d_Model_areAlike_12 (by decide) (fun hc_3 => ?_) (fun hc_3 => ?_)
  · have _nhc_3 := hc_3
    have ni_4 : ¬ (v_1 : Int32).toInt = (v_2 : Int32).toInt := fun z => hc_3 ((fa_eq _ _).mpr z)
    refine lv_iconst (v := 0) hx hb d_Model_areAlike_19 (by decide) ?_
    refine lv_istore_n (lv' := [(3, .int 0), (0, .ref b0), (1, .int b1), (2, .int b2)]) hx hb d_Model_areAlike_20 rfl hl (by decide) rfl (fun ls hl => ?_)
    refine lv_iconst (v := 0) hx hb d_Model_areAlike_21 (by decide) ?_
    refine lv_istore (lv' := [(4, .int 0), (3, .int 0), (0, .ref b0), (1, .int b1), (2, .int b2)]) hx hb d_Model_areAlike_22 hl (by decide) rfl (fun ls hl => ?_)
    suffices key : ∀ (k_32 : Nat) (y_33 : Int32) (y_34 : Int32) (H : Heap) (locs : List Loc) (ls : Array Slot), (zI y_33 0 260) → (zI y_34 0 1) → ((y_34 : Int32).toInt = 0 ∨ b58 b1.toNatClampNeg = b58 b2.toNatClampNeg) → (((y_34 : Int32).toInt = 1 ∧ (b58 (b1 : Int32).toInt.toNat).toInt = (b58 (b2 : Int32).toInt.toNat).toInt ∧ ∀ j : Nat, (j : Int) < (y_33 : Int32).toInt → b57 (20 * (b1 : Int32).toInt.toNat + j) = b57 (20 * (b2 : Int32).toInt.toNat + j)) ∨ (y_34 : Int32).toInt = 0 ∧ ¬ yLk (20 * b1.toInt.toNat) (20 * b2.toInt.toNat) (b58 b1.toInt.toNat).toInt (b58 b2.toInt.toNat).toInt b57) → (260 : Int) - y_33.toInt < (k_32 : Int) → va_P G.1 classes [(b0, .inr (12, [.int b3, .ref b4, .ref b5, .ref b6, .ref b7, .int b8, .ref b9, .int b10, .int b11, .int b12, .int b13, .ref b14, .ref b15, .ref b16, .int b17, .ref b18, .ref b19, .ref b20, .ref b21, .ref b22, .ref b23, .ref b24, .ref b25, .ref b26, .ref b27, .ref b28, .ref b29, .int b30, .ref b31, .ref b32, .int b33, .int b34, .int b35, .int b36, .ref b37, .ref b38, .ref b39, .ref b40, .ref b41, .ref b42, .ref b43, .int b44, .ref b45, .ref b46, .int b47, .ref b48, .ref b49, .ref b50, .ref b51, .ref b52, .int b53, .ref b54, .ref b55, .ref b56])), (b21, .inl (G.2 0, 9640, .inl b57)), (b22, .inl (G.2 0, 482, .inl b58))] H → va_D A [(b0, .inr (12, [.int b3, .ref b4, .ref b5, .ref b6, .ref b7, .int b8, .ref b9, .int b10, .int b11, .int b12, .int b13, .ref b14, .ref b15, .ref b16, .int b17, .ref b18, .ref b19, .ref b20, .ref b21, .ref b22, .ref b23, .ref b24, .ref b25, .ref b26, .ref b27, .ref b28, .ref b29, .int b30, .ref b31, .ref b32, .int b33, .int b34, .int b35, .int b36, .ref b37, .ref b38, .ref b39, .ref b40, .ref b41, .ref b42, .ref b43, .int b44, .ref b45, .ref b46, .int b47, .ref b48, .ref b49, .ref b50, .ref b51, .ref b52, .int b53, .ref b54, .ref b55, .ref b56])), (b21, .inl (G.2 0, 9640, .inl b57)), (b22, .inl (G.2 0, 482, .inl b58))] → va_S A s.heap H locs → lv_has ls 5 [(4, .int y_33), (3, .int y_34), (0, .ref b0), (1, .int b1), (2, .int b2)] → W p l e m_s2_Model_areAlike s m ([.ref b0, .int b1, .int b2] : List Value).toArray below meth c H locs 0 0 (MQ below (zQ G (fun v w => ∃ (e0 : Int32), v = some (.int e0) ∧ w = [(b0, .inr (12, [.int b3, .ref b4, .ref b5, .ref b6, .ref b7, .int b8, .ref b9, .int b10, .int b11, .int b12, .int b13, .ref b14, .ref b15, .ref b16, .int b17, .ref b18, .ref b19, .ref b20, .ref b21, .ref b22, .ref b23, .ref b24, .ref b25, .ref b26, .ref b27, .ref b28, .ref b29, .int b30, .ref b31, .ref b32, .int b33, .int b34, .int b35, .int b36, .ref b37, .ref b38, .ref b39, .ref b40, .ref b41, .ref b42, .ref b43, .int b44, .ref b45, .ref b46, .int b47, .ref b48, .ref b49, .ref b50, .ref b51, .ref b52, .int b53, .ref b54, .ref b55, .ref b56])), (b21, .inl (G.2 0, 9640, .inl b57)), (b22, .inl (G.2 0, 482, .inl b58))] ∧ (zI e0 0 1) ∧ ((e0 : Int32).toInt = 1 ∧ yLk (20 * b1.toInt.toNat) (20 * b2.toInt.toNat) (b58 b1.toInt.toNat).toInt (b58 b2.toInt.toNat).toInt b57 ∨ (e0 : Int32).toInt = 0 ∧ ¬ yLk (20 * b1.toInt.toNat) (20 * b2.toInt.toNat) (b58 b1.toInt.toNat).toInt (b58 b2.toInt.toNat).toInt b57)) A) ([.ref b0, .int b1, .int b2] : List Value).toArray s m_s2_Model_areAlike.cells m_s2_Model_areAlike.slots A) (F0 m 24 ls []) by
      exact key 261 (0) (0) _ _ _ (zI.wk (l' := 0) (h' := 260) zc_0 (by decide)) (zI.wk (l' := 0) (h' := 1) zc_0 (by decide)) (Or.inl li_0) (by have c1_ := congrArg Int32.toInt ev_1; rw [z_plf hb1 (by decide)] at c1_; have c2_ := congrArg Int32.toInt ev_2; rw [z_plf hb2 (by decide)] at c2_; exact Or.inr ⟨li_0, fun h9 => by have h8 := h9.1; omega⟩) (zm_upi (zI.wk (l' := 0) (h' := 260) zc_0 (by decide)) (by decide)) hP hD hS (lv_sub hl [0, 1, 2, 3, 4] rfl)
    intro k_32
    induction k_32 with
    | zero =>
      intro y_33 y_34 H locs ls hy_33 hy_34 hli_35 hli_36 hmk_32 hP hD hS hl
      exact (zm_up0 hy_33 hmk_32).elim
    | succ k_32 ihk_32 =>
      intro y_33 y_34 H locs ls hy_33 hy_34 hli_35 hli_36 hmk_32 hP hD hS hl
      refine lv_iload_n hx hb d_Model_areAlike_24 rfl (lv_at hl 1 rfl) ?_
      refine lv_if_eq (tgt := 78) hx hb d_Model_areAlike_25 (by decide) (fun hc_37 => ?_) (fun hc_37 => ?_)
      · have _nhc_37 := hc_37
        have ni_38 := (fa_eq _ _).mp hc_37
        rw [li_0] at ni_38
        have hv_39 : zI y_34 0 0 := zI.eq_l hy_34 zc_0 hc_37
        refine lv_iload_n hx hb d_Model_areAlike_78 rfl (lv_at hl 1 rfl) ?_
        exact z_zret hx hb hr hlocks (zi_nb (zI.wk (l' := 0) (h' := 1) hv_39 (by decide))) hP hD hS (Nat.le_of_ble_eq_true rfl) (Nat.le_of_ble_eq_true rfl) d_Model_areAlike_79 ⟨y_34, rfl, rfl, (zI.wk (l' := 0) (h' := 1) hv_39 (by decide)), (by have c1_ := congrArg Int32.toInt ev_1; rw [z_plf hb1 (by decide)] at c1_; have c2_ := congrArg Int32.toInt ev_2; rw [z_plf hb2 (by decide)] at c2_; rcases hli_36 with ⟨h7, h8, h9⟩ | ⟨h7, h8⟩; (by_cases c9 : y_34.toInt = 0; (exfalso; omega); exact Or.inl ⟨h7, h8, fun j hj => h9 j (by omega)⟩); exact Or.inr ⟨h7, h8⟩)⟩
      · have _nhc_37 := hc_37
        have ni_40 : ¬ (y_34 : Int32).toInt = (0 : Int32).toInt := fun z => hc_37 ((fa_eq _ _).mpr z)
        simp only [li_0] at ni_40
        have hv_41 : zI y_34 1 1 := zI.ne_lo hy_34 zc_0 hc_37 (by decide)
        refine lv_iload hx hb d_Model_areAlike_28 (lv_at hl 0 rfl) ?_
        refine lv_aload_n hx hb d_Model_areAlike_30 rfl (lv_at hl 2 rfl) ?_
        refine va_get (D := G.1) (ci := 12) (v := .ref b22) (C := R_Model) (T := F_Model) (N := 54) hx hb hts i_Model hown hK hP 0 rfl rfl 19 (by decide) (hts _ q1128) (fun _ h9 => h9) rfl d_Model_areAlike_31 ?_
        refine lv_iload_n hx hb d_Model_areAlike_34 rfl (lv_at hl 3 rfl) ?_
        refine va_iald hx hb hK hP 2 0 rfl rfl (zI.inn hb1 (by decide)) d_Model_areAlike_35 ?_
        refine lv_topi (fun v_42 ev_42 => ?_)
        obtain rfl : v_1 = v_42 := ev_1.trans ev_42.symm
        refine lv_icmp_ge (tgt := 78) hx hb d_Model_areAlike_36 (by decide) (fun hc_43 => ?_) (fun hc_43 => ?_)
        · have _nhc_43 := hc_43
          have ni_44 := (fa_le _ _).mp hc_43
          refine lv_iload_n hx hb d_Model_areAlike_78 rfl (lv_at hl 1 rfl) ?_
          exact z_zret hx hb hr hlocks (zi_nb (zI.wk (l' := 0) (h' := 1) hv_41 (by decide))) hP hD hS (Nat.le_of_ble_eq_true rfl) (Nat.le_of_ble_eq_true rfl) d_Model_areAlike_79 ⟨y_34, rfl, rfl, (zI.wk (l' := 0) (h' := 1) hv_41 (by decide)), (by have c1_ := congrArg Int32.toInt ev_1; rw [z_plf hb1 (by decide)] at c1_; have c2_ := congrArg Int32.toInt ev_2; rw [z_plf hb2 (by decide)] at c2_; rcases hli_36 with ⟨h7, h8, h9⟩ | ⟨h7, h8⟩; (by_cases c9 : y_34.toInt = 0; (exfalso; omega); exact Or.inl ⟨h7, h8, fun j hj => h9 j (by omega)⟩); exact Or.inr ⟨h7, h8⟩)⟩
        · have _nhc_43 := hc_43
          have ni_45 := (fa_lt _ _).mp (zi_nle hc_43)
          have hv_46 : zI y_33 0 259 := zI.lt_l hy_33 hv_1 (zi_nle hc_43) (by decide)
          have hv_47 : zI v_1 1 260 := zI.lt_r hy_33 hv_1 (zi_nle hc_43) (by decide)
          refine lv_aload_n hx hb d_Model_areAlike_39 rfl (lv_at hl 2 rfl) ?_
          refine va_get (D := G.1) (ci := 12) (v := .ref b21) (C := R_Model) (T := F_Model) (N := 54) hx hb hts i_Model hown hK hP 0 rfl rfl 18 (by decide) (hts _ q1127) (fun _ h9 => h9) rfl d_Model_areAlike_40 ?_
          refine lv_bipush (v := 20) hx hb d_Model_areAlike_43 (by decide) ?_
          refine lv_iload_n hx hb d_Model_areAlike_45 rfl (lv_at hl 3 rfl) ?_
          refine lv_imul hx hb d_Model_areAlike_46 ?_
          refine lv_topi (fun v_48 ev_48 => ?_)
          obtain ⟨qv_48, hv_48⟩ := zI_mul (l := 0) (h := 9620) zc_20 hb1 ev_48 (by decide)
          rw [li_20] at qv_48
          refine lv_iload hx hb d_Model_areAlike_47 (lv_at hl 0 rfl) ?_
          refine lv_iadd hx hb d_Model_areAlike_49 ?_
          refine lv_topi (fun v_49 ev_49 => ?_)
          obtain ⟨qv_49, hv_49⟩ := zI_add (l := 0) (h := 9879) hv_48 hv_46 ev_49 (by decide)
          have hv_50 : zI v_49 0 9639 := ⟨by omega, by omega⟩
          refine va_iald hx hb hK hP 1 0 rfl rfl (zI.inn hv_50 (by decide)) d_Model_areAlike_50 ?_
          refine lv_topi (fun v_51 ev_51 => ?_)
          refine lv_aload_n hx hb d_Model_areAlike_51 rfl (lv_at hl 2 rfl) ?_
          refine va_get (D := G.1) (ci := 12) (v := .ref b21) (C := R_Model) (T := F_Model) (N := 54) hx hb hts i_Model hown hK hP 0 rfl rfl 18 (by decide) (hts _ q1127) (fun _ h9 => h9) rfl d_Model_areAlike_52 ?_
          refine lv_bipush (v := 20) hx hb d_Model_areAlike_55 (by decide) ?_
          refine lv_iload_n hx hb d_Model_areAlike_57 rfl (lv_at hl 4 rfl) ?_
          refine lv_imul hx hb d_Model_areAlike_58 ?_
          refine lv_topi (fun v_52 ev_52 => ?_)
          obtain ⟨qv_52, hv_52⟩ := zI_mul (l := 0) (h := 9620) zc_20 hb2 ev_52 (by decide)
          rw [li_20] at qv_52
          refine lv_iload hx hb d_Model_areAlike_59 (lv_at hl 0 rfl) ?_
          refine lv_iadd hx hb d_Model_areAlike_61 ?_
          refine lv_topi (fun v_53 ev_53 => ?_)
          obtain ⟨qv_53, hv_53⟩ := zI_add (l := 0) (h := 9879) hv_52 hv_46 ev_53 (by decide)
          have _wx_54 : v_1.toInt = v_2.toInt := by rcases hli_35 with h9 | h9; exact absurd h9 (by omega); rw [ev_1, ev_2, h9]
          have hv_55 : zI v_53 0 9639 := ⟨by omega, by omega⟩
          refine va_iald hx hb hK hP 1 0 rfl rfl (zI.inn hv_55 (by decide)) d_Model_areAlike_62 ?_
          refine lv_topi (fun v_56 ev_56 => ?_)
          refine lv_icmp_ne (tgt := 70) hx hb d_Model_areAlike_63 (by decide) (fun hc_57 => ?_) (fun hc_57 => ?_)
          · have _nhc_57 := hc_57
            have ni_58 : ¬ (v_51 : Int32).toInt = (v_56 : Int32).toInt := fun z => hc_57 ((fa_eq _ _).mpr z)
            refine lv_iconst (v := 0) hx hb d_Model_areAlike_70 (by decide) ?_
            refine lv_istore_n (lv' := [(3, .int 0), (4, .int y_33), (0, .ref b0), (1, .int b1), (2, .int b2)]) hx hb d_Model_areAlike_71 rfl hl (by decide) rfl (fun ls hl => ?_)
            obtain ⟨v_59, ev_59⟩ : ∃ z : Int32, z = y_33 + 1 := ⟨_, rfl⟩
            obtain ⟨qv_59, hv_59⟩ := zI_add (l := 1) (h := 260) hv_46 zc_1 ev_59 (by decide)
            rw [li_1] at qv_59
            refine lv_iinc (v := v_59) (lv' := [(4, .int v_59), (3, .int 0), (0, .ref b0), (1, .int b1), (2, .int b2)]) hx hb d_Model_areAlike_72 hl (k := 1) rfl (by rw [ev_59]; rfl) (by decide) rfl (fun ls hl => ?_)
            refine lv_goto (tgt := 24) hx hb d_Model_areAlike_75 (by decide) ?_
            exact ihk_32 (v_59) (0) _ _ _ (zI.wk (l' := 0) (h' := 260) hv_59 (by decide)) (zI.wk (l' := 0) (h' := 1) zc_0 (by decide)) (Or.inr (by rcases hli_35 with h9 | h9; exact absurd h9 (by omega); exact h9)) (by have c1_ := congrArg Int32.toInt ev_1; rw [z_plf hb1 (by decide)] at c1_; have c2_ := congrArg Int32.toInt ev_2; rw [z_plf hb2 (by decide)] at c2_; have p9 := z_pl hv_50 (by decide); have p8 := z_pl hv_55 (by decide); rcases hli_36 with ⟨h7, h8, h9⟩ | ⟨h7, _⟩; (exact Or.inr ⟨li_0, fun h6 => by have h5 := congrArg Int32.toInt (h6.2 y_33.toInt.toNat (by omega)); rw [show 20 * b1.toInt.toNat + y_33.toInt.toNat = v_49.toNatClampNeg by omega, show 20 * b2.toInt.toNat + y_33.toInt.toNat = v_53.toNatClampNeg by omega, ← ev_51, ← ev_56] at h5; omega⟩); (exfalso; omega)) (zm_up qv_59 hmk_32 (by decide)) hP hD hS (lv_sub hl [0, 1, 2, 3, 4] rfl)
          · have _nhc_57 := hc_57
            have ni_60 := (fa_eq _ _).mp hc_57
            refine lv_iconst (v := 1) hx hb d_Model_areAlike_66 (by decide) ?_
            refine lv_goto (tgt := 71) hx hb d_Model_areAlike_67 (by decide) ?_
            refine lv_istore_n (lv' := [(3, .int 1), (4, .int y_33), (0, .ref b0), (1, .int b1), (2, .int b2)]) hx hb d_Model_areAlike_71 rfl hl (by decide) rfl (fun ls hl => ?_)
            obtain ⟨v_61, ev_61⟩ : ∃ z : Int32, z = y_33 + 1 := ⟨_, rfl⟩
            obtain ⟨qv_61, hv_61⟩ := zI_add (l := 1) (h := 260) hv_46 zc_1 ev_61 (by decide)
            rw [li_1] at qv_61
            refine lv_iinc (v := v_61) (lv' := [(4, .int v_61), (3, .int 1), (0, .ref b0), (1, .int b1), (2, .int b2)]) hx hb d_Model_areAlike_72 hl (k := 1) rfl (by rw [ev_61]; rfl) (by decide) rfl (fun ls hl => ?_)
            refine lv_goto (tgt := 24) hx hb d_Model_areAlike_75 (by decide) ?_
            exact ihk_32 (v_61) (1) _ _ _ (zI.wk (l' := 0) (h' := 260) hv_61 (by decide)) (zI.wk (l' := 0) (h' := 1) zc_1 (by decide)) (Or.inr (by rcases hli_35 with h9 | h9; exact absurd h9 (by omega); exact h9)) (by have p9 := z_pl hv_50 (by decide); have p8 := z_pl hv_55 (by decide); rcases hli_36 with ⟨h7, h8, h9⟩ | ⟨h7, _⟩; (exact Or.inl ⟨li_1, h8, fun j hj => by by_cases c9 : (j : Int) < y_33.toInt; exact h9 j c9; rw [show 20 * b1.toInt.toNat + j = v_49.toNatClampNeg by omega, show 20 * b2.toInt.toNat + j = v_53.toNatClampNeg by omega, ← ev_51, ← ev_56, fa_eq]; omega⟩); (exfalso; omega)) (zm_up qv_61 hmk_32 (by decide)) hP hD hS (lv_sub hl [0, 1, 2, 3, 4] rfl)
  · have _nhc_3 := hc_3
    have ni_62 := (fa_eq _ _).mp hc_3
    refine lv_iconst (v := 1) hx hb d_Model_areAlike_15 (by decide) ?_
    refine lv_goto (tgt := 20) hx hb d_Model_areAlike_16 (by decide) ?_
    refine lv_istore_n (lv' := [(3, .int 1), (0, .ref b0), (1, .int b1), (2, .int b2)]) hx hb d_Model_areAlike_20 rfl hl (by decide) rfl (fun ls hl => ?_)
    refine lv_iconst (v := 0) hx hb d_Model_areAlike_21 (by decide) ?_
    refine lv_istore (lv' := [(4, .int 0), (3, .int 1), (0, .ref b0), (1, .int b1), (2, .int b2)]) hx hb d_Model_areAlike_22 hl (by decide) rfl (fun ls hl => ?_)
    suffices key : ∀ (k_90 : Nat) (y_91 : Int32) (y_92 : Int32) (H : Heap) (locs : List Loc) (ls : Array Slot), (zI y_91 0 260) → (zI y_92 0 1) → ((y_92 : Int32).toInt = 0 ∨ b58 b1.toNatClampNeg = b58 b2.toNatClampNeg) → (((y_92 : Int32).toInt = 1 ∧ (b58 (b1 : Int32).toInt.toNat).toInt = (b58 (b2 : Int32).toInt.toNat).toInt ∧ ∀ j : Nat, (j : Int) < (y_91 : Int32).toInt → b57 (20 * (b1 : Int32).toInt.toNat + j) = b57 (20 * (b2 : Int32).toInt.toNat + j)) ∨ (y_92 : Int32).toInt = 0 ∧ ¬ yLk (20 * b1.toInt.toNat) (20 * b2.toInt.toNat) (b58 b1.toInt.toNat).toInt (b58 b2.toInt.toNat).toInt b57) → (260 : Int) - y_91.toInt < (k_90 : Int) → va_P G.1 classes [(b0, .inr (12, [.int b3, .ref b4, .ref b5, .ref b6, .ref b7, .int b8, .ref b9, .int b10, .int b11, .int b12, .int b13, .ref b14, .ref b15, .ref b16, .int b17, .ref b18, .ref b19, .ref b20, .ref b21, .ref b22, .ref b23, .ref b24, .ref b25, .ref b26, .ref b27, .ref b28, .ref b29, .int b30, .ref b31, .ref b32, .int b33, .int b34, .int b35, .int b36, .ref b37, .ref b38, .ref b39, .ref b40, .ref b41, .ref b42, .ref b43, .int b44, .ref b45, .ref b46, .int b47, .ref b48, .ref b49, .ref b50, .ref b51, .ref b52, .int b53, .ref b54, .ref b55, .ref b56])), (b21, .inl (G.2 0, 9640, .inl b57)), (b22, .inl (G.2 0, 482, .inl b58))] H → va_D A [(b0, .inr (12, [.int b3, .ref b4, .ref b5, .ref b6, .ref b7, .int b8, .ref b9, .int b10, .int b11, .int b12, .int b13, .ref b14, .ref b15, .ref b16, .int b17, .ref b18, .ref b19, .ref b20, .ref b21, .ref b22, .ref b23, .ref b24, .ref b25, .ref b26, .ref b27, .ref b28, .ref b29, .int b30, .ref b31, .ref b32, .int b33, .int b34, .int b35, .int b36, .ref b37, .ref b38, .ref b39, .ref b40, .ref b41, .ref b42, .ref b43, .int b44, .ref b45, .ref b46, .int b47, .ref b48, .ref b49, .ref b50, .ref b51, .ref b52, .int b53, .ref b54, .ref b55, .ref b56])), (b21, .inl (G.2 0, 9640, .inl b57)), (b22, .inl (G.2 0, 482, .inl b58))] → va_S A s.heap H locs → lv_has ls 5 [(4, .int y_91), (3, .int y_92), (0, .ref b0), (1, .int b1), (2, .int b2)] → W p l e m_s2_Model_areAlike s m ([.ref b0, .int b1, .int b2] : List Value).toArray below meth c H locs 0 0 (MQ below (zQ G (fun v w => ∃ (e0 : Int32), v = some (.int e0) ∧ w = [(b0, .inr (12, [.int b3, .ref b4, .ref b5, .ref b6, .ref b7, .int b8, .ref b9, .int b10, .int b11, .int b12, .int b13, .ref b14, .ref b15, .ref b16, .int b17, .ref b18, .ref b19, .ref b20, .ref b21, .ref b22, .ref b23, .ref b24, .ref b25, .ref b26, .ref b27, .ref b28, .ref b29, .int b30, .ref b31, .ref b32, .int b33, .int b34, .int b35, .int b36, .ref b37, .ref b38, .ref b39, .ref b40, .ref b41, .ref b42, .ref b43, .int b44, .ref b45, .ref b46, .int b47, .ref b48, .ref b49, .ref b50, .ref b51, .ref b52, .int b53, .ref b54, .ref b55, .ref b56])), (b21, .inl (G.2 0, 9640, .inl b57)), (b22, .inl (G.2 0, 482, .inl b58))] ∧ (zI e0 0 1) ∧ ((e0 : Int32).toInt = 1 ∧ yLk (20 * b1.toInt.toNat) (20 * b2.toInt.toNat) (b58 b1.toInt.toNat).toInt (b58 b2.toInt.toNat).toInt b57 ∨ (e0 : Int32).toInt = 0 ∧ ¬ yLk (20 * b1.toInt.toNat) (20 * b2.toInt.toNat) (b58 b1.toInt.toNat).toInt (b58 b2.toInt.toNat).toInt b57)) A) ([.ref b0, .int b1, .int b2] : List Value).toArray s m_s2_Model_areAlike.cells m_s2_Model_areAlike.slots A) (F0 m 24 ls []) by
      exact key 261 (0) (1) _ _ _ (zI.wk (l' := 0) (h' := 260) zc_0 (by decide)) (zI.wk (l' := 0) (h' := 1) zc_1 (by decide)) (Or.inr (ev_1.symm.trans (((fa_eq _ _).mpr (by omega)).trans ev_2))) (by have c1_ := congrArg Int32.toInt ev_1; rw [z_plf hb1 (by decide)] at c1_; have c2_ := congrArg Int32.toInt ev_2; rw [z_plf hb2 (by decide)] at c2_; exact Or.inl ⟨li_1, by omega, fun j hj => by exfalso; have _l := li_0; omega⟩) (zm_upi (zI.wk (l' := 0) (h' := 260) zc_0 (by decide)) (by decide)) hP hD hS (lv_sub hl [0, 1, 2, 3, 4] rfl)
    intro k_90
    induction k_90 with
    | zero =>
      intro y_91 y_92 H locs ls hy_91 hy_92 hli_93 hli_94 hmk_90 hP hD hS hl
      exact (zm_up0 hy_91 hmk_90).elim
    | succ k_90 ihk_90 =>
      intro y_91 y_92 H locs ls hy_91 hy_92 hli_93 hli_94 hmk_90 hP hD hS hl
      refine lv_iload_n hx hb d_Model_areAlike_24 rfl (lv_at hl 1 rfl) ?_
      refine lv_if_eq (tgt := 78) hx hb d_Model_areAlike_25 (by decide) (fun hc_95 => ?_) (fun hc_95 => ?_)
      · have _nhc_95 := hc_95
        have ni_96 := (fa_eq _ _).mp hc_95
        rw [li_0] at ni_96
        have hv_97 : zI y_92 0 0 := zI.eq_l hy_92 zc_0 hc_95
        refine lv_iload_n hx hb d_Model_areAlike_78 rfl (lv_at hl 1 rfl) ?_
        exact z_zret hx hb hr hlocks (zi_nb (zI.wk (l' := 0) (h' := 1) hv_97 (by decide))) hP hD hS (Nat.le_of_ble_eq_true rfl) (Nat.le_of_ble_eq_true rfl) d_Model_areAlike_79 ⟨y_92, rfl, rfl, (zI.wk (l' := 0) (h' := 1) hv_97 (by decide)), (by have c1_ := congrArg Int32.toInt ev_1; rw [z_plf hb1 (by decide)] at c1_; have c2_ := congrArg Int32.toInt ev_2; rw [z_plf hb2 (by decide)] at c2_; rcases hli_94 with ⟨h7, h8, h9⟩ | ⟨h7, h8⟩; (by_cases c9 : y_92.toInt = 0; (exfalso; omega); exact Or.inl ⟨h7, h8, fun j hj => h9 j (by omega)⟩); exact Or.inr ⟨h7, h8⟩)⟩
      · have _nhc_95 := hc_95
        have ni_98 : ¬ (y_92 : Int32).toInt = (0 : Int32).toInt := fun z => hc_95 ((fa_eq _ _).mpr z)
        simp only [li_0] at ni_98
        have hv_99 : zI y_92 1 1 := zI.ne_lo hy_92 zc_0 hc_95 (by decide)
        refine lv_iload hx hb d_Model_areAlike_28 (lv_at hl 0 rfl) ?_
        refine lv_aload_n hx hb d_Model_areAlike_30 rfl (lv_at hl 2 rfl) ?_
        refine va_get (D := G.1) (ci := 12) (v := .ref b22) (C := R_Model) (T := F_Model) (N := 54) hx hb hts i_Model hown hK hP 0 rfl rfl 19 (by decide) (hts _ q1128) (fun _ h9 => h9) rfl d_Model_areAlike_31 ?_
        refine lv_iload_n hx hb d_Model_areAlike_34 rfl (lv_at hl 3 rfl) ?_
        refine va_iald hx hb hK hP 2 0 rfl rfl (zI.inn hb1 (by decide)) d_Model_areAlike_35 ?_
        refine lv_topi (fun v_100 ev_100 => ?_)
        obtain rfl : v_1 = v_100 := ev_1.trans ev_100.symm
        refine lv_icmp_ge (tgt := 78) hx hb d_Model_areAlike_36 (by decide) (fun hc_101 => ?_) (fun hc_101 => ?_)
        · have _nhc_101 := hc_101
          have ni_102 := (fa_le _ _).mp hc_101
          refine lv_iload_n hx hb d_Model_areAlike_78 rfl (lv_at hl 1 rfl) ?_
          exact z_zret hx hb hr hlocks (zi_nb (zI.wk (l' := 0) (h' := 1) hv_99 (by decide))) hP hD hS (Nat.le_of_ble_eq_true rfl) (Nat.le_of_ble_eq_true rfl) d_Model_areAlike_79 ⟨y_92, rfl, rfl, (zI.wk (l' := 0) (h' := 1) hv_99 (by decide)), (by have c1_ := congrArg Int32.toInt ev_1; rw [z_plf hb1 (by decide)] at c1_; have c2_ := congrArg Int32.toInt ev_2; rw [z_plf hb2 (by decide)] at c2_; rcases hli_94 with ⟨h7, h8, h9⟩ | ⟨h7, h8⟩; (by_cases c9 : y_92.toInt = 0; (exfalso; omega); exact Or.inl ⟨h7, h8, fun j hj => h9 j (by omega)⟩); exact Or.inr ⟨h7, h8⟩)⟩
        · have _nhc_101 := hc_101
          have ni_103 := (fa_lt _ _).mp (zi_nle hc_101)
          have hv_104 : zI y_91 0 259 := zI.lt_l hy_91 hv_1 (zi_nle hc_101) (by decide)
          have hv_105 : zI v_1 1 260 := zI.lt_r hy_91 hv_1 (zi_nle hc_101) (by decide)
          refine lv_aload_n hx hb d_Model_areAlike_39 rfl (lv_at hl 2 rfl) ?_
          refine va_get (D := G.1) (ci := 12) (v := .ref b21) (C := R_Model) (T := F_Model) (N := 54) hx hb hts i_Model hown hK hP 0 rfl rfl 18 (by decide) (hts _ q1127) (fun _ h9 => h9) rfl d_Model_areAlike_40 ?_
          refine lv_bipush (v := 20) hx hb d_Model_areAlike_43 (by decide) ?_
          refine lv_iload_n hx hb d_Model_areAlike_45 rfl (lv_at hl 3 rfl) ?_
          refine lv_imul hx hb d_Model_areAlike_46 ?_
          refine lv_topi (fun v_106 ev_106 => ?_)
          obtain ⟨qv_106, hv_106⟩ := zI_mul (l := 0) (h := 9620) zc_20 hb1 ev_106 (by decide)
          rw [li_20] at qv_106
          refine lv_iload hx hb d_Model_areAlike_47 (lv_at hl 0 rfl) ?_
          refine lv_iadd hx hb d_Model_areAlike_49 ?_
          refine lv_topi (fun v_107 ev_107 => ?_)
          obtain ⟨qv_107, hv_107⟩ := zI_add (l := 0) (h := 9879) hv_106 hv_104 ev_107 (by decide)
          have hv_108 : zI v_107 0 9639 := ⟨by omega, by omega⟩
          refine va_iald hx hb hK hP 1 0 rfl rfl (zI.inn hv_108 (by decide)) d_Model_areAlike_50 ?_
          refine lv_topi (fun v_109 ev_109 => ?_)
          refine lv_aload_n hx hb d_Model_areAlike_51 rfl (lv_at hl 2 rfl) ?_
          refine va_get (D := G.1) (ci := 12) (v := .ref b21) (C := R_Model) (T := F_Model) (N := 54) hx hb hts i_Model hown hK hP 0 rfl rfl 18 (by decide) (hts _ q1127) (fun _ h9 => h9) rfl d_Model_areAlike_52 ?_
          refine lv_bipush (v := 20) hx hb d_Model_areAlike_55 (by decide) ?_
          refine lv_iload_n hx hb d_Model_areAlike_57 rfl (lv_at hl 4 rfl) ?_
          refine lv_imul hx hb d_Model_areAlike_58 ?_
          refine lv_topi (fun v_110 ev_110 => ?_)
          obtain ⟨qv_110, hv_110⟩ := zI_mul (l := 0) (h := 9620) zc_20 hb2 ev_110 (by decide)
          rw [li_20] at qv_110
          refine lv_iload hx hb d_Model_areAlike_59 (lv_at hl 0 rfl) ?_
          refine lv_iadd hx hb d_Model_areAlike_61 ?_
          refine lv_topi (fun v_111 ev_111 => ?_)
          obtain ⟨qv_111, hv_111⟩ := zI_add (l := 0) (h := 9879) hv_110 hv_104 ev_111 (by decide)
          have _wx_112 : v_1.toInt = v_2.toInt := by rcases hli_93 with h9 | h9; exact absurd h9 (by omega); rw [ev_1, ev_2, h9]
          have hv_113 : zI v_111 0 9639 := ⟨by omega, by omega⟩
          refine va_iald hx hb hK hP 1 0 rfl rfl (zI.inn hv_113 (by decide)) d_Model_areAlike_62 ?_
          refine lv_topi (fun v_114 ev_114 => ?_)
          refine lv_icmp_ne (tgt := 70) hx hb d_Model_areAlike_63 (by decide) (fun hc_115 => ?_) (fun hc_115 => ?_)
          · have _nhc_115 := hc_115
            have ni_116 : ¬ (v_109 : Int32).toInt = (v_114 : Int32).toInt := fun z => hc_115 ((fa_eq _ _).mpr z)
            refine lv_iconst (v := 0) hx hb d_Model_areAlike_70 (by decide) ?_
            refine lv_istore_n (lv' := [(3, .int 0), (4, .int y_91), (0, .ref b0), (1, .int b1), (2, .int b2)]) hx hb d_Model_areAlike_71 rfl hl (by decide) rfl (fun ls hl => ?_)
            obtain ⟨v_117, ev_117⟩ : ∃ z : Int32, z = y_91 + 1 := ⟨_, rfl⟩
            obtain ⟨qv_117, hv_117⟩ := zI_add (l := 1) (h := 260) hv_104 zc_1 ev_117 (by decide)
            rw [li_1] at qv_117
            refine lv_iinc (v := v_117) (lv' := [(4, .int v_117), (3, .int 0), (0, .ref b0), (1, .int b1), (2, .int b2)]) hx hb d_Model_areAlike_72 hl (k := 1) rfl (by rw [ev_117]; rfl) (by decide) rfl (fun ls hl => ?_)
            refine lv_goto (tgt := 24) hx hb d_Model_areAlike_75 (by decide) ?_
            exact ihk_90 (v_117) (0) _ _ _ (zI.wk (l' := 0) (h' := 260) hv_117 (by decide)) (zI.wk (l' := 0) (h' := 1) zc_0 (by decide)) (Or.inr (by rcases hli_93 with h9 | h9; exact absurd h9 (by omega); exact h9)) (by have c1_ := congrArg Int32.toInt ev_1; rw [z_plf hb1 (by decide)] at c1_; have c2_ := congrArg Int32.toInt ev_2; rw [z_plf hb2 (by decide)] at c2_; have p9 := z_pl hv_108 (by decide); have p8 := z_pl hv_113 (by decide); rcases hli_94 with ⟨h7, h8, h9⟩ | ⟨h7, _⟩; (exact Or.inr ⟨li_0, fun h6 => by have h5 := congrArg Int32.toInt (h6.2 y_91.toInt.toNat (by omega)); rw [show 20 * b1.toInt.toNat + y_91.toInt.toNat = v_107.toNatClampNeg by omega, show 20 * b2.toInt.toNat + y_91.toInt.toNat = v_111.toNatClampNeg by omega, ← ev_109, ← ev_114] at h5; omega⟩); (exfalso; omega)) (zm_up qv_117 hmk_90 (by decide)) hP hD hS (lv_sub hl [0, 1, 2, 3, 4] rfl)
          · have _nhc_115 := hc_115
            have ni_118 := (fa_eq _ _).mp hc_115
            refine lv_iconst (v := 1) hx hb d_Model_areAlike_66 (by decide) ?_
            refine lv_goto (tgt := 71) hx hb d_Model_areAlike_67 (by decide) ?_
            refine lv_istore_n (lv' := [(3, .int 1), (4, .int y_91), (0, .ref b0), (1, .int b1), (2, .int b2)]) hx hb d_Model_areAlike_71 rfl hl (by decide) rfl (fun ls hl => ?_)
            obtain ⟨v_119, ev_119⟩ : ∃ z : Int32, z = y_91 + 1 := ⟨_, rfl⟩
            obtain ⟨qv_119, hv_119⟩ := zI_add (l := 1) (h := 260) hv_104 zc_1 ev_119 (by decide)
            rw [li_1] at qv_119
            refine lv_iinc (v := v_119) (lv' := [(4, .int v_119), (3, .int 1), (0, .ref b0), (1, .int b1), (2, .int b2)]) hx hb d_Model_areAlike_72 hl (k := 1) rfl (by rw [ev_119]; rfl) (by decide) rfl (fun ls hl => ?_)
            refine lv_goto (tgt := 24) hx hb d_Model_areAlike_75 (by decide) ?_
            exact ihk_90 (v_119) (1) _ _ _ (zI.wk (l' := 0) (h' := 260) hv_119 (by decide)) (zI.wk (l' := 0) (h' := 1) zc_1 (by decide)) (Or.inr (by rcases hli_93 with h9 | h9; exact absurd h9 (by omega); exact h9)) (by have p9 := z_pl hv_108 (by decide); have p8 := z_pl hv_113 (by decide); rcases hli_94 with ⟨h7, h8, h9⟩ | ⟨h7, _⟩; (exact Or.inl ⟨li_1, h8, fun j hj => by by_cases c9 : (j : Int) < y_91.toInt; exact h9 j c9; rw [show 20 * b1.toInt.toNat + j = v_107.toNatClampNeg by omega, show 20 * b2.toInt.toNat + j = v_111.toNatClampNeg by omega, ← ev_109, ← ev_114, fa_eq]; omega⟩); (exfalso; omega)) (zm_up qv_119 hmk_90 (by decide)) hP hD hS (lv_sub hl [0, 1, 2, 3, 4] rfl)
