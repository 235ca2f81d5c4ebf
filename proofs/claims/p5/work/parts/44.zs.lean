abbrev m_s2_Model_letterAt : Room := { frames := 0, cells := 0, slots := 0, locals := 0 }
set_option maxHeartbeats 4000000 in
set_option maxRecDepth 100000 in
theorem s2_Model_letterAt (l : Launch) (G : zG) (b0 : Nat) (b1 : Int32) (b2 : Int32) (b3 : Int32) (b4 : Nat) (b5 : Nat) (b6 : Nat) (b7 : Nat) (b8 : Int32) (b9 : Nat) (b10 : Int32) (b11 : Int32) (b12 : Int32) (b13 : Int32) (b14 : Nat) (b15 : Nat) (b16 : Nat) (b17 : Int32) (b18 : Nat) (b19 : Nat) (b20 : Nat) (b21 : Nat) (b22 : Nat) (b23 : Nat) (b24 : Nat) (b25 : Nat) (b26 : Nat) (b27 : Nat) (b28 : Nat) (b29 : Nat) (b30 : Int32) (b31 : Nat) (b32 : Nat) (b33 : Int32) (b34 : Int32) (b35 : Int32) (b36 : Int32) (b37 : Nat) (b38 : Nat) (b39 : Nat) (b40 : Nat) (b41 : Nat) (b42 : Nat) (b43 : Nat) (b44 : Int32) (b45 : Nat) (b46 : Nat) (b47 : Int32) (b48 : Nat) (b49 : Nat) (b50 : Nat) (b51 : Nat) (b52 : Nat) (b53 : Int32) (b54 : Nat) (b55 : Nat) (b56 : Nat) (b57 : Nat → Int32) (hb1 : zI b1 0 19) (hb2 : zI b2 0 11) (hb8 : zI b8 0 8) (hb10 : zI b10 0 240) (hb11 : zI b11 0 240) (hb13 : zI b13 0 1) (hb17 : zI b17 0 12) (hb30 : zI b30 0 1) (hb33 : zI b33 0 1) (hb44 : zI b44 0 1000) (hb47 : zI b47 0 1000) (hb53 : zI b53 0 400) (hb57 : zW5 b57) : zM l G y_Model_letterAt prog_14_method_7_code 3 (Option.some Jvm.ClassFile.FieldType.int) m_s2_Model_letterAt [.ref b0, .int b1, .int b2] [(b0, .inr (12, [.int b3, .ref b4, .ref b5, .ref b6, .ref b7, .int b8, .ref b9, .int b10, .int b11, .int b12, .int b13, .ref b14, .ref b15, .ref b16, .int b17, .ref b18, .ref b19, .ref b20, .ref b21, .ref b22, .ref b23, .ref b24, .ref b25, .ref b26, .ref b27, .ref b28, .ref b29, .int b30, .ref b31, .ref b32, .int b33, .int b34, .int b35, .int b36, .ref b37, .ref b38, .ref b39, .ref b40, .ref b41, .ref b42, .ref b43, .int b44, .ref b45, .ref b46, .int b47, .ref b48, .ref b49, .ref b50, .ref b51, .ref b52, .int b53, .ref b54, .ref b55, .ref b56])), (b4, .inl (G.2 0, 503, .inl b57))] (fun v w => ∃ (e0 : Int32), v = some (.int e0) ∧ w = [(b0, .inr (12, [.int b3, .ref b4, .ref b5, .ref b6, .ref b7, .int b8, .ref b9, .int b10, .int b11, .int b12, .int b13, .ref b14, .ref b15, .ref b16, .int b17, .ref b18, .ref b19, .ref b20, .ref b21, .ref b22, .ref b23, .ref b24, .ref b25, .ref b26, .ref b27, .ref b28, .ref b29, .int b30, .ref b31, .ref b32, .int b33, .int b34, .int b35, .int b36, .ref b37, .ref b38, .ref b39, .ref b40, .ref b41, .ref b42, .ref b43, .int b44, .ref b45, .ref b46, .int b47, .ref b48, .ref b49, .ref b50, .ref b51, .ref b52, .int b53, .ref b54, .ref b55, .ref b56])), (b4, .inl (G.2 0, 503, .inl b57))] ∧ (zI e0 0 9) ∧ (e0 = b57 (21 + (12 * b1.toInt.toNat + b2.toInt.toNat)))) := by
  refine z_start (by decide +kernel) (Nat.le_of_ble_eq_true rfl) ?_
  intro p e s m below meth c A Z hr hnm hA hP hD hS ls hl
  have Z : zC p s m _ meth c prog_14_method_7_code 3 "TraceMachinesModel" G := Z
  obtain ⟨hx, hb, hml, hown, hts, hK, hN, hlocks⟩ := id Z
  have hl : lv_has ls 3 [(0, .ref b0), (1, .int b1), (2, .int b2)] := hl
  refine lv_aload_n hx hb d_Model_letterAt_0 rfl (lv_at hl 0 rfl) ?_
  refine va_get (D := G.1) (ci := 12) (v := .ref b4) (C := R_Model) (T := F_Model) (N := 54) hx hb hts i_Model hown hK hP 0 rfl rfl 1 (by decide) (hts _ q1110) (fun _ h9 => h9) rfl d_Model_letterAt_1 ?_
  refine lv_bipush (v := 21) hx hb d_Model_letterAt_4 (by decide) ?_
  refine lv_bipush (v := 12) hx hb d_Model_letterAt_6 (by decide) ?_
  refine lv_iload_n hx hb d_Model_letterAt_8 rfl (lv_at hl 1 rfl) ?_
  refine lv_imul hx hb d_Model_letterAt_9 ?_
  refine lv_topi (fun v_1 ev_1 => ?_)
  obtain ⟨qv_1, hv_1⟩ := zI_mul (l := 0) (h := 228) zc_12 hb1 ev_1 (by decide)
  rw [li_12] at qv_1
  refine lv_iadd hx hb d_Model_letterAt_10 ?_
  refine lv_topi (fun v_2 ev_2 => ?_)
  obtain ⟨qv_2, hv_2⟩ := zI_add (l := 21) (h := 249) zc_21 hv_1 ev_2 (by decide)
  rw [li_21] at qv_2
  refine lv_iload_n hx hb d_Model_letterAt_11 rfl (lv_at hl 2 rfl) ?_
  refine lv_iadd hx hb d_Model_letterAt_12 ?_
  refine lv_topi (fun v_3 ev_3 => ?_)
  obtain ⟨qv_3, hv_3⟩ := zI_add (l := 21) (h := 260) hv_2 hb2 ev_3 (by decide)
  refine va_iald hx hb hK hP 1 0 rfl rfl (zI.inn hv_3 (by decide)) d_Model_letterAt_13 ?_
  refine lv_topi (fun v_4 ev_4 => ?_)
  have hv_4 : zI v_4 0 9 := zW5.ld hb57 hv_3 ev_4 (by decide)
  exact z_iret hx hb hr hlocks hP hD hS (Nat.le_of_ble_eq_true rfl) (Nat.le_of_ble_eq_true rfl) d_Model_letterAt_14 ⟨v_4, rfl, rfl, hv_4, (by rw [ev_4, z_plf hv_3 (by decide)]; congr 1; omega)⟩
abbrev m_s2_Model_hasLetter : Room := { frames := 1, cells := 0, slots := 0, locals := 22 }
set_option maxHeartbeats 4000000 in
set_option maxRecDepth 100000 in
theorem s2_Model_hasLetter (l : Launch) (G : zG) (b0 : Nat) (b1 : Int32) (b2 : Int32) (b3 : Int32) (b4 : Nat) (b5 : Nat) (b6 : Nat) (b7 : Nat) (b8 : Int32) (b9 : Nat) (b10 : Int32) (b11 : Int32) (b12 : Int32) (b13 : Int32) (b14 : Nat) (b15 : Nat) (b16 : Nat) (b17 : Int32) (b18 : Nat) (b19 : Nat) (b20 : Nat) (b21 : Nat) (b22 : Nat) (b23 : Nat) (b24 : Nat) (b25 : Nat) (b26 : Nat) (b27 : Nat) (b28 : Nat) (b29 : Nat) (b30 : Int32) (b31 : Nat) (b32 : Nat) (b33 : Int32) (b34 : Int32) (b35 : Int32) (b36 : Int32) (b37 : Nat) (b38 : Nat) (b39 : Nat) (b40 : Nat) (b41 : Nat) (b42 : Nat) (b43 : Nat) (b44 : Int32) (b45 : Nat) (b46 : Nat) (b47 : Int32) (b48 : Nat) (b49 : Nat) (b50 : Nat) (b51 : Nat) (b52 : Nat) (b53 : Int32) (b54 : Nat) (b55 : Nat) (b56 : Nat) (b57 : Nat → Int32) (hb1 : zI b1 0 19) (hb8 : zI b8 0 8) (hb10 : zI b10 0 240) (hb11 : zI b11 0 240) (hb13 : zI b13 0 1) (hb17 : zI b17 0 12) (hb30 : zI b30 0 1) (hb33 : zI b33 0 1) (hb44 : zI b44 0 1000) (hb47 : zI b47 0 1000) (hb53 : zI b53 0 400) (hb57 : zW5 b57) : zM l G y_Model_hasLetter prog_14_method_70_code 5 (Option.some Jvm.ClassFile.FieldType.boolean) m_s2_Model_hasLetter [.ref b0, .int b1, .int b2] [(b0, .inr (12, [.int b3, .ref b4, .ref b5, .ref b6, .ref b7, .int b8, .ref b9, .int b10, .int b11, .int b12, .int b13, .ref b14, .ref b15, .ref b16, .int b17, .ref b18, .ref b19, .ref b20, .ref b21, .ref b22, .ref b23, .ref b24, .ref b25, .ref b26, .ref b27, .ref b28, .ref b29, .int b30, .ref b31, .ref b32, .int b33, .int b34, .int b35, .int b36, .ref b37, .ref b38, .ref b39, .ref b40, .ref b41, .ref b42, .ref b43, .int b44, .ref b45, .ref b46, .int b47, .ref b48, .ref b49, .ref b50, .ref b51, .ref b52, .int b53, .ref b54, .ref b55, .ref b56])), (b4, .inl (G.2 0, 503, .inl b57))] (fun v w => ∃ (e0 : Int32), v = some (.int e0) ∧ w = [(b0, .inr (12, [.int b3, .ref b4, .ref b5, .ref b6, .ref b7, .int b8, .ref b9, .int b10, .int b11, .int b12, .int b13, .ref b14, .ref b15, .ref b16, .int b17, .ref b18, .ref b19, .ref b20, .ref b21, .ref b22, .ref b23, .ref b24, .ref b25, .ref b26, .ref b27, .ref b28, .ref b29, .int b30, .ref b31, .ref b32, .int b33, .int b34, .int b35, .int b36, .ref b37, .ref b38, .ref b39, .ref b40, .ref b41, .ref b42, .ref b43, .int b44, .ref b45, .ref b46, .int b47, .ref b48, .ref b49, .ref b50, .ref b51, .ref b52, .int b53, .ref b54, .ref b55, .ref b56])), (b4, .inl (G.2 0, 503, .inl b57))] ∧ (zI e0 0 1) ∧ ((e0 : Int32).toInt = if 0 < zcn (fun i => b57 (21 + (12 * (b1 : Int32).toInt.toNat + i))) b2 (b57 (1 + (b1 : Int32).toInt.toNat)).toInt.toNat then 1 else 0)) := by
  refine z_start (by decide +kernel) (Nat.le_of_ble_eq_true rfl) ?_
  intro p e s m below meth c A Z hr hnm hA hP hD hS ls hl
  have Z : zC p s m _ meth c prog_14_method_70_code 5 "TraceMachinesModel" G := Z
  obtain ⟨hx, hb, hml, hown, hts, hK, hN, hlocks⟩ := id Z
  have hl : lv_has ls 5 [(0, .ref b0), (1, .int b1), (2, .int b2)] := hl
  refine lv_iconst (v := 0) hx hb d_Model_hasLetter_0 (by decide) ?_
  refine lv_istore_n (lv' := [(3, .int 0), (0, .ref b0), (1, .int b1), (2, .int b2)]) hx hb d_Model_hasLetter_1 rfl hl (by decide) rfl (fun ls hl => ?_)
  refine lv_iconst (v := 0) hx hb d_Model_hasLetter_2 (by decide) ?_
  refine lv_istore (lv' := [(4, .int 0), (3, .int 0), (0, .ref b0), (1, .int b1), (2, .int b2)]) hx hb d_Model_hasLetter_3 hl (by decide) rfl (fun ls hl => ?_)
  suffices key : ∀ (k_26 : Nat) (y_27 : Int32) (y_28 : Int32) (H : Heap) (locs : List Loc) (ls : Array Slot), (zI y_27 0 12) → (zI y_28 0 1) → ((y_27 : Int32).toInt ≤ (((b57 (1 + (b1 : Int32).toInt.toNat)).toInt.toNat : Nat) : Int)) → ((y_28 : Int32).toInt = if 0 < zcn (fun i => b57 (21 + (12 * (b1 : Int32).toInt.toNat + i))) b2 (y_27 : Int32).toInt.toNat then 1 else 0) → (12 : Int) - y_27.toInt < (k_26 : Int) → va_P G.1 classes [(b0, .inr (12, [.int b3, .ref b4, .ref b5, .ref b6, .ref b7, .int b8, .ref b9, .int b10, .int b11, .int b12, .int b13, .ref b14, .ref b15, .ref b16, .int b17, .ref b18, .ref b19, .ref b20, .ref b21, .ref b22, .ref b23, .ref b24, .ref b25, .ref b26, .ref b27, .ref b28, .ref b29, .int b30, .ref b31, .ref b32, .int b33, .int b34, .int b35, .int b36, .ref b37, .ref b38, .ref b39, .ref b40, .ref b41, .ref b42, .ref b43, .int b44, .ref b45, .ref b46, .int b47, .ref b48, .ref b49, .ref b50, .ref b51, .ref b52, .int b53, .ref b54, .ref b55, .ref b56])), (b4, .inl (G.2 0, 503, .inl b57))] H → va_D A [(b0, .inr (12, [.int b3, .ref b4, .ref b5, .ref b6, .ref b7, .int b8, .ref b9, .int b10, .int b11, .int b12, .int b13, .ref b14, .ref b15, .ref b16, .int b17, .ref b18, .ref b19, .ref b20, .ref b21, .ref b22, .ref b23, .ref b24, .ref b25, .ref b26, .ref b27, .ref b28, .ref b29, .int b30, .ref b31, .ref b32, .int b33, .int b34, .int b35, .int b36, .ref b37, .ref b38, .ref b39, .ref b40, .ref b41, .ref b42, .ref b43, .int b44, .ref b45, .ref b46, .int b47, .ref b48, .ref b49, .ref b50, .ref b51, .ref b52, .int b53, .ref b54, .ref b55, .ref b56])), (b4, .inl (G.2 0, 503, .inl b57))] → va_S A s.heap H locs → lv_has ls 5 [(4, .int y_27), (3, .int y_28), (0, .ref b0), (1, .int b1), (2, .int b2)] → W p l e m_s2_Model_hasLetter s m ([.ref b0, .int b1, .int b2] : List Value).toArray below meth c H locs 0 0 (MQ below (zQ G (fun v w => ∃ (e0 : Int32), v = some (.int e0) ∧ w = [(b0, .inr (12, [.int b3, .ref b4, .ref b5, .ref b6, .ref b7, .int b8, .ref b9, .int b10, .int b11, .int b12, .int b13, .ref b14, .ref b15, .ref b16, .int b17, .ref b18, .ref b19, .ref b20, .ref b21, .ref b22, .ref b23, .ref b24, .ref b25, .ref b26, .ref b27, .ref b28, .ref b29, .int b30, .ref b31, .ref b32, .int b33, .int b34, .int b35, .int b36, .ref b37, .ref b38, .ref b39, .ref b40, .ref b41, .ref b42, .ref b43, .int b44, .ref b45, .ref b46, .int b47, .ref b48, .ref b49, .ref b50, .ref b51, .ref b52, .int b53, .ref b54, .ref b55, .ref b56])), (b4, .inl (G.2 0, 503, .inl b57))] ∧ (zI e0 0 1) ∧ ((e0 : Int32).toInt = if 0 < zcn (fun i => b57 (21 + (12 * (b1 : Int32).toInt.toNat + i))) b2 (b57 (1 + (b1 : Int32).toInt.toNat)).toInt.toNat then 1 else 0)) A) ([.ref b0, .int b1, .int b2] : List Value).toArray s m_s2_Model_hasLetter.cells m_s2_Model_hasLetter.slots A) (F0 m 5 ls []) by
    exact key 13 (0) (0) _ _ _ (zI.wk (l' := 0) (h' := 12) zc_0 (by decide)) (zI.wk (l' := 0) (h' := 1) zc_0 (by decide)) (by have _l := li_0; omega) (by rw [li_0]; rfl) (zm_upi (zI.wk (l' := 0) (h' := 12) zc_0 (by decide)) (by decide)) hP hD hS (lv_sub hl [0, 1, 2, 3, 4] rfl)
  intro k_26
  induction k_26 with
  | zero =>
    intro y_27 y_28 H locs ls hy_27 hy_28 hli_29 hli_30 hmk_26 hP hD hS hl
    exact (zm_up0 hy_27 hmk_26).elim
  | succ k_26 ihk_26 =>
    intro y_27 y_28 H locs ls hy_27 hy_28 hli_29 hli_30 hmk_26 hP hD hS hl
    refine lv_iload hx hb d_Model_hasLetter_5 (lv_at hl 0 rfl) ?_
    refine lv_aload_n hx hb d_Model_hasLetter_7 rfl (lv_at hl 2 rfl) ?_
    refine lv_iload_n hx hb d_Model_hasLetter_8 rfl (lv_at hl 3 rfl) ?_
    refine z_callV (index := 203) (As := [.int b1]) (rest := [.int y_27]) (wr := []) Z (s1_Model_calls l G (b0) (b1) (b3) (b4) (b5) (b6) (b7) (b8) (b9) (b10) (b11) (b12) (b13) (b14) (b15) (b16) (b17) (b18) (b19) (b20) (b21) (b22) (b23) (b24) (b25) (b26) (b27) (b28) (b29) (b30) (b31) (b32) (b33) (b34) (b35) (b36) (b37) (b38) (b39) (b40) (b41) (b42) (b43) (b44) (b45) (b46) (b47) (b48) (b49) (b50) (b51) (b52) (b53) (b54) (b55) (b56) (b57) hb1 hb8 hb10 hb11 hb13 hb17 hb30 hb33 hb44 hb47 hb53 hb57) hl.1 q1352 q1354 qs54 q14 q1355 ⟨by decide, by decide, by show _ = some 1; decide +kernel⟩ ⟨Nat.le_of_ble_eq_true rfl, Nat.le_of_ble_eq_true rfl⟩ ⟨Nat.le_of_ble_eq_true rfl, Nat.le_of_ble_eq_true rfl⟩ rfl (Nat.le_of_ble_eq_true rfl) d_Model_hasLetter_9 hP hD hS hA 0 12 rfl rfl rfl [0, 1] [] rfl rfl rfl rfl (by decide) (fun v w1 H locs hw_31 hP hD hS => ?_)
    obtain ⟨x_32, rfl, rfl, hx_32, hfx_33⟩ := hw_31
    have hP : va_P G.1 classes [(b0, .inr (12, [.int b3, .ref b4, .ref b5, .ref b6, .ref b7, .int b8, .ref b9, .int b10, .int b11, .int b12, .int b13, .ref b14, .ref b15, .ref b16, .int b17, .ref b18, .ref b19, .ref b20, .ref b21, .ref b22, .ref b23, .ref b24, .ref b25, .ref b26, .ref b27, .ref b28, .ref b29, .int b30, .ref b31, .ref b32, .int b33, .int b34, .int b35, .int b36, .ref b37, .ref b38, .ref b39, .ref b40, .ref b41, .ref b42, .ref b43, .int b44, .ref b45, .ref b46, .int b47, .ref b48, .ref b49, .ref b50, .ref b51, .ref b52, .int b53, .ref b54, .ref b55, .ref b56])), (b4, .inl (G.2 0, 503, .inl b57))] H := hP
    have hD := z_tie hP hD rfl
    refine W.widen (k := 0) (n := 0) (Nat.le_of_ble_eq_true rfl) (Nat.le_of_ble_eq_true rfl) ?_
    refine lv_icmp_ge (tgt := 42) hx hb d_Model_hasLetter_12 (by decide) (fun hc_34 => ?_) (fun hc_34 => ?_)
    · have _nhc_34 := hc_34
      have ni_35 := (fa_le _ _).mp hc_34
      refine lv_iload_n hx hb d_Model_hasLetter_42 rfl (lv_at hl 1 rfl) ?_
      exact z_zret hx hb hr hlocks (zi_nb hy_28) hP hD hS (Nat.le_of_ble_eq_true rfl) (Nat.le_of_ble_eq_true rfl) d_Model_hasLetter_43 ⟨y_28, rfl, rfl, hy_28, (by have i9 := hli_29; have c9 := congrArg Int32.toInt hfx_33; have j9 := hli_30; rw [show y_27.toInt.toNat = (b57 (1 + b1.toInt.toNat)).toInt.toNat by omega] at j9; exact j9)⟩
    · have _nhc_34 := hc_34
      have ni_36 := (fa_lt _ _).mp (zi_nle hc_34)
      have hv_37 : zI y_27 0 11 := zI.lt_l hy_27 hx_32 (zi_nle hc_34) (by decide)
      have hv_38 : zI x_32 1 12 := zI.lt_r hy_27 hx_32 (zi_nle hc_34) (by decide)
      refine lv_iload_n hx hb d_Model_hasLetter_15 rfl (lv_at hl 1 rfl) ?_
      refine lv_if_ne (tgt := 30) hx hb d_Model_hasLetter_16 (by decide) (fun hc_39 => ?_) (fun hc_39 => ?_)
      · have _nhc_39 := hc_39
        have ni_40 : ¬ (y_28 : Int32).toInt = (0 : Int32).toInt := fun z => hc_39 ((fa_eq _ _).mpr z)
        simp only [li_0] at ni_40
        have hv_41 : zI y_28 1 1 := zI.ne_lo hy_28 zc_0 hc_39 (by decide)
        refine lv_iconst (v := 1) hx hb d_Model_hasLetter_30 (by decide) ?_
        refine lv_goto (tgt := 35) hx hb d_Model_hasLetter_31 (by decide) ?_
        refine lv_istore_n (lv' := [(3, .int 1), (4, .int y_27), (0, .ref b0), (1, .int b1), (2, .int b2)]) hx hb d_Model_hasLetter_35 rfl hl (by decide) rfl (fun ls hl => ?_)
        obtain ⟨v_42, ev_42⟩ : ∃ z : Int32, z = y_27 + 1 := ⟨_, rfl⟩
        obtain ⟨qv_42, hv_42⟩ := zI_add (l := 1) (h := 12) hv_37 zc_1 ev_42 (by decide)
        rw [li_1] at qv_42
        refine lv_iinc (v := v_42) (lv' := [(4, .int v_42), (3, .int 1), (0, .ref b0), (1, .int b1), (2, .int b2)]) hx hb d_Model_hasLetter_36 hl (k := 1) rfl (by rw [ev_42]; rfl) (by decide) rfl (fun ls hl => ?_)
        refine lv_goto (tgt := 5) hx hb d_Model_hasLetter_39 (by decide) ?_
        exact ihk_26 (v_42) (1) _ _ _ (zI.wk (l' := 0) (h' := 12) hv_42 (by decide)) (zI.wk (l' := 0) (h' := 1) zc_1 (by decide)) (by have c9 := congrArg Int32.toInt hfx_33; omega) (by have _l0 := li_0; have _l1 := li_1; exact zhl_s hli_30 (Or.inl ⟨by omega, by omega⟩) (by omega)) (zm_up qv_42 hmk_26 (by decide)) hP hD hS (lv_sub hl [0, 1, 2, 3, 4] rfl)
      · have _nhc_39 := hc_39
        have ni_43 := (fa_eq _ _).mp hc_39
        rw [li_0] at ni_43
        have hv_44 : zI y_28 0 0 := zI.eq_l hy_28 zc_0 hc_39
        refine lv_aload_n hx hb d_Model_hasLetter_19 rfl (lv_at hl 2 rfl) ?_
        refine lv_iload_n hx hb d_Model_hasLetter_20 rfl (lv_at hl 3 rfl) ?_
        refine lv_iload hx hb d_Model_hasLetter_21 (lv_at hl 0 rfl) ?_
        refine z_callV (index := 207) (As := [.int b1, .int y_27]) (rest := []) (wr := []) Z (s2_Model_letterAt l G (b0) (b1) (y_27) (b3) (b4) (b5) (b6) (b7) (b8) (b9) (b10) (b11) (b12) (b13) (b14) (b15) (b16) (b17) (b18) (b19) (b20) (b21) (b22) (b23) (b24) (b25) (b26) (b27) (b28) (b29) (b30) (b31) (b32) (b33) (b34) (b35) (b36) (b37) (b38) (b39) (b40) (b41) (b42) (b43) (b44) (b45) (b46) (b47) (b48) (b49) (b50) (b51) (b52) (b53) (b54) (b55) (b56) (b57) hb1 hv_37 hb8 hb10 hb11 hb13 hb17 hb30 hb33 hb44 hb47 hb53 hb57) hl.1 q1372 q1374 qs59 q14 q1375 ⟨by decide, by decide, by show _ = some 2; decide +kernel⟩ ⟨Nat.le_of_ble_eq_true rfl, Nat.le_of_ble_eq_true rfl⟩ ⟨Nat.le_of_ble_eq_true rfl, Nat.le_of_ble_eq_true rfl⟩ rfl (Nat.le_of_ble_eq_true rfl) d_Model_hasLetter_23 hP hD hS hA 0 12 rfl rfl rfl [0, 1] [] rfl rfl rfl rfl (by decide) (fun v w1 H locs hw_45 hP hD hS => ?_)
        obtain ⟨x_46, rfl, rfl, hx_46, hfx_47⟩ := hw_45
        have hP : va_P G.1 classes [(b0, .inr (12, [.int b3, .ref b4, .ref b5, .ref b6, .ref b7, .int b8, .ref b9, .int b10, .int b11, .int b12, .int b13, .ref b14, .ref b15, .ref b16, .int b17, .ref b18, .ref b19, .ref b20, .ref b21, .ref b22, .ref b23, .ref b24, .ref b25, .ref b26, .ref b27, .ref b28, .ref b29, .int b30, .ref b31, .ref b32, .int b33, .int b34, .int b35, .int b36, .ref b37, .ref b38, .ref b39, .ref b40, .ref b41, .ref b42, .ref b43, .int b44, .ref b45, .ref b46, .int b47, .ref b48, .ref b49, .ref b50, .ref b51, .ref b52, .int b53, .ref b54, .ref b55, .ref b56])), (b4, .inl (G.2 0, 503, .inl b57))] H := hP
        have hD := z_tie hP hD rfl
        refine W.widen (k := 0) (n := 0) (Nat.le_of_ble_eq_true rfl) (Nat.le_of_ble_eq_true rfl) ?_
        refine lv_iload_n hx hb d_Model_hasLetter_26 rfl (lv_at hl 4 rfl) ?_
        refine lv_icmp_ne (tgt := 34) hx hb d_Model_hasLetter_27 (by decide) (fun hc_48 => ?_) (fun hc_48 => ?_)
        · have _nhc_48 := hc_48
          have ni_49 : ¬ (x_46 : Int32).toInt = (b2 : Int32).toInt := fun z => hc_48 ((fa_eq _ _).mpr z)
          refine lv_iconst (v := 0) hx hb d_Model_hasLetter_34 (by decide) ?_
          refine lv_istore_n (lv' := [(3, .int 0), (4, .int y_27), (0, .ref b0), (1, .int b1), (2, .int b2)]) hx hb d_Model_hasLetter_35 rfl hl (by decide) rfl (fun ls hl => ?_)
          obtain ⟨v_50, ev_50⟩ : ∃ z : Int32, z = y_27 + 1 := ⟨_, rfl⟩
          obtain ⟨qv_50, hv_50⟩ := zI_add (l := 1) (h := 12) hv_37 zc_1 ev_50 (by decide)
          rw [li_1] at qv_50
          refine lv_iinc (v := v_50) (lv' := [(4, .int v_50), (3, .int 0), (0, .ref b0), (1, .int b1), (2, .int b2)]) hx hb d_Model_hasLetter_36 hl (k := 1) rfl (by rw [ev_50]; rfl) (by decide) rfl (fun ls hl => ?_)
          refine lv_goto (tgt := 5) hx hb d_Model_hasLetter_39 (by decide) ?_
          exact ihk_26 (v_50) (0) _ _ _ (zI.wk (l' := 0) (h' := 12) hv_50 (by decide)) (zI.wk (l' := 0) (h' := 1) zc_0 (by decide)) (by have c9 := congrArg Int32.toInt hfx_33; omega) (by have _l0 := li_0; have _l1 := li_1; have g9 := hfx_47; first | exact zhl_s hli_30 (Or.inr (Or.inl ⟨(g9.symm.trans ((fa_eq _ _).mpr (by omega))), by omega⟩)) (by omega) | exact zhl_s hli_30 (Or.inr (Or.inr ⟨by omega, (fun q => by have q8 := congrArg Int32.toInt (g9.trans q); omega), by omega⟩)) (by omega)) (zm_up qv_50 hmk_26 (by decide)) hP hD hS (lv_sub hl [0, 1, 2, 3, 4] rfl)
        · have _nhc_48 := hc_48
          have ni_51 := (fa_eq _ _).mp hc_48
          have hv_52 : zI b2 0 9 := zI.eq_l (zI_all b2) hx_46 hc_48.symm
          refine lv_iconst (v := 1) hx hb d_Model_hasLetter_30 (by decide) ?_
          refine lv_goto (tgt := 35) hx hb d_Model_hasLetter_31 (by decide) ?_
          refine lv_istore_n (lv' := [(3, .int 1), (4, .int y_27), (0, .ref b0), (1, .int b1), (2, .int b2)]) hx hb d_Model_hasLetter_35 rfl hl (by decide) rfl (fun ls hl => ?_)
          obtain ⟨v_53, ev_53⟩ : ∃ z : Int32, z = y_27 + 1 := ⟨_, rfl⟩
          obtain ⟨qv_53, hv_53⟩ := zI_add (l := 1) (h := 12) hv_37 zc_1 ev_53 (by decide)
          rw [li_1] at qv_53
          refine lv_iinc (v := v_53) (lv' := [(4, .int v_53), (3, .int 1), (0, .ref b0), (1, .int b1), (2, .int b2)]) hx hb d_Model_hasLetter_36 hl (k := 1) rfl (by rw [ev_53]; rfl) (by decide) rfl (fun ls hl => ?_)
          refine lv_goto (tgt := 5) hx hb d_Model_hasLetter_39 (by decide) ?_
          exact ihk_26 (v_53) (1) _ _ _ (zI.wk (l' := 0) (h' := 12) hv_53 (by decide)) (zI.wk (l' := 0) (h' := 1) zc_1 (by decide)) (by have c9 := congrArg Int32.toInt hfx_33; omega) (by have _l0 := li_0; have _l1 := li_1; have g9 := hfx_47; first | exact zhl_s hli_30 (Or.inr (Or.inl ⟨(g9.symm.trans ((fa_eq _ _).mpr (by omega))), by omega⟩)) (by omega) | exact zhl_s hli_30 (Or.inr (Or.inr ⟨by omega, (fun q => by have q8 := congrArg Int32.toInt (g9.trans q); omega), by omega⟩)) (by omega)) (zm_up qv_53 hmk_26 (by decide)) hP hD hS (lv_sub hl [0, 1, 2, 3, 4] rfl)
abbrev m_s2_Model_firstOf : Room := { frames := 1, cells := 0, slots := 0, locals := 22 }
set_option maxHeartbeats 4000000 in
set_option maxRecDepth 100000 in
theorem s2_Model_firstOf (l : Launch) (G : zG) (b0 : Nat) (b1 : Int32) (b2 : Int32) (b3 : Int32) (b4 : Nat) (b5 : Nat) (b6 : Nat) (b7 : Nat) (b8 : Int32) (b9 : Nat) (b10 : Int32) (b11 : Int32) (b12 : Int32) (b13 : Int32) (b14 : Nat) (b15 : Nat) (b16 : Nat) (b17 : Int32) (b18 : Nat) (b19 : Nat) (b20 : Nat) (b21 : Nat) (b22 : Nat) (b23 : Nat) (b24 : Nat) (b25 : Nat) (b26 : Nat) (b27 : Nat) (b28 : Nat) (b29 : Nat) (b30 : Int32) (b31 : Nat) (b32 : Nat) (b33 : Int32) (b34 : Int32) (b35 : Int32) (b36 : Int32) (b37 : Nat) (b38 : Nat) (b39 : Nat) (b40 : Nat) (b41 : Nat) (b42 : Nat) (b43 : Nat) (b44 : Int32) (b45 : Nat) (b46 : Nat) (b47 : Int32) (b48 : Nat) (b49 : Nat) (b50 : Nat) (b51 : Nat) (b52 : Nat) (b53 : Int32) (b54 : Nat) (b55 : Nat) (b56 : Nat) (b57 : Nat → Int32) (hb1 : zI b1 0 19) (hb8 : zI b8 0 8) (hb10 : zI b10 0 240) (hb11 : zI b11 0 240) (hb13 : zI b13 0 1) (hb17 : zI b17 0 12) (hb30 : zI b30 0 1) (hb33 : zI b33 0 1) (hb44 : zI b44 0 1000) (hb47 : zI b47 0 1000) (hb53 : zI b53 0 400) (hb57 : zW5 b57) : zM l G y_Model_firstOf prog_14_method_72_code 4 (Option.some Jvm.ClassFile.FieldType.int) m_s2_Model_firstOf [.ref b0, .int b1, .int b2] [(b0, .inr (12, [.int b3, .ref b4, .ref b5, .ref b6, .ref b7, .int b8, .ref b9, .int b10, .int b11, .int b12, .int b13, .ref b14, .ref b15, .ref b16, .int b17, .ref b18, .ref b19, .ref b20, .ref b21, .ref b22, .ref b23, .ref b24, .ref b25, .ref b26, .ref b27, .ref b28, .ref b29, .int b30, .ref b31, .ref b32, .int b33, .int b34, .int b35, .int b36, .ref b37, .ref b38, .ref b39, .ref b40, .ref b41, .ref b42, .ref b43, .int b44, .ref b45, .ref b46, .int b47, .ref b48, .ref b49, .ref b50, .ref b51, .ref b52, .int b53, .ref b54, .ref b55, .ref b56])), (b4, .inl (G.2 0, 503, .inl b57))] (fun v w => ∃ (e0 : Int32), v = some (.int e0) ∧ w = [(b0, .inr (12, [.int b3, .ref b4, .ref b5, .ref b6, .ref b7, .int b8, .ref b9, .int b10, .int b11, .int b12, .int b13, .ref b14, .ref b15, .ref b16, .int b17, .ref b18, .ref b19, .ref b20, .ref b21, .ref b22, .ref b23, .ref b24, .ref b25, .ref b26, .ref b27, .ref b28, .ref b29, .int b30, .ref b31, .ref b32, .int b33, .int b34, .int b35, .int b36, .ref b37, .ref b38, .ref b39, .ref b40, .ref b41, .ref b42, .ref b43, .int b44, .ref b45, .ref b46, .int b47, .ref b48, .ref b49, .ref b50, .ref b51, .ref b52, .int b53, .ref b54, .ref b55, .ref b56])), (b4, .inl (G.2 0, 503, .inl b57))] ∧ (zI e0 0 12) ∧ (zFo (e0 : Int32).toInt (fun i => b57 (21 + (12 * (b1 : Int32).toInt.toNat + i))) (b57 (1 + (b1 : Int32).toInt.toNat)).toInt.toNat b2)) := by
  refine z_start (by decide +kernel) (Nat.le_of_ble_eq_true rfl) ?_
  intro p e s m below meth c A Z hr hnm hA hP hD hS ls hl
  have Z : zC p s m _ meth c prog_14_method_72_code 4 "TraceMachinesModel" G := Z
  obtain ⟨hx, hb, hml, hown, hts, hK, hN, hlocks⟩ := id Z
  have hl : lv_has ls 4 [(0, .ref b0), (1, .int b1), (2, .int b2)] := hl
  refine lv_iconst (v := 0) hx hb d_Model_firstOf_0 (by decide) ?_
  refine lv_istore_n (lv' := [(3, .int 0), (0, .ref b0), (1, .int b1), (2, .int b2)]) hx hb d_Model_firstOf_1 rfl hl (by decide) rfl (fun ls hl => ?_)
  suffices key : ∀ (k_18 : Nat) (y_19 : Int32) (H : Heap) (locs : List Loc) (ls : Array Slot), (zI y_19 0 12) → ((y_19 : Int32).toInt ≤ (((b57 (1 + (b1 : Int32).toInt.toNat)).toInt.toNat : Nat) : Int)) → (∀ j : Nat, (j : Int) < (y_19 : Int32).toInt → ¬ (fun i => b57 (21 + (12 * (b1 : Int32).toInt.toNat + i))) j = b2) → (12 : Int) - y_19.toInt < (k_18 : Int) → va_P G.1 classes [(b0, .inr (12, [.int b3, .ref b4, .ref b5, .ref b6, .ref b7, .int b8, .ref b9, .int b10, .int b11, .int b12, .int b13, .ref b14, .ref b15, .ref b16, .int b17, .ref b18, .ref b19, .ref b20, .ref b21, .ref b22, .ref b23, .ref b24, .ref b25, .ref b26, .ref b27, .ref b28, .ref b29, .int b30, .ref b31, .ref b32, .int b33, .int b34, .int b35, .int b36, .ref b37, .ref b38, .ref b39, .ref b40, .ref b41, .ref b42, .ref b43, .int b44, .ref b45, .ref b46, .int b47, .ref b48, .ref b49, .ref b50, .ref b51, .ref b52, .int b53, .ref b54, .ref b55, .ref b56])), (b4, .inl (G.2 0, 503, .inl b57))] H → va_D A [(b0, .inr (12, [.int b3, .ref b4, .ref b5, .ref b6, .ref b7, .int b8, .ref b9, .int b10, .int b11, .int b12, .int b13, .ref b14, .ref b15, .ref b16, .int b17, .ref b18, .ref b19, .ref b20, .ref b21, .ref b22, .ref b23, .ref b24, .ref b25, .ref b26, .ref b27, .ref b28, .ref b29, .int b30, .ref b31, .ref b32, .int b33, .int b34, .int b35, .int b36, .ref b37, .ref b38, .ref b39, .ref b40, .ref b41, .ref b42, .ref b43, .int b44, .ref b45, .ref b46, .int b47, .ref b48, .ref b49, .ref b50, .ref b51, .ref b52, .int b53, .ref b54, .ref b55, .ref b56])), (b4, .inl (G.2 0, 503, .inl b57))] → va_S A s.heap H locs → lv_has ls 4 [(3, .int y_19), (0, .ref b0), (1, .int b1), (2, .int b2)] → W p l e m_s2_Model_firstOf s m ([.ref b0, .int b1, .int b2] : List Value).toArray below meth c H locs 0 0 (MQ below (zQ G (fun v w => ∃ (e0 : Int32), v = some (.int e0) ∧ w = [(b0, .inr (12, [.int b3, .ref b4, .ref b5, .ref b6, .ref b7, .int b8, .ref b9, .int b10, .int b11, .int b12, .int b13, .ref b14, .ref b15, .ref b16, .int b17, .ref b18, .ref b19, .ref b20, .ref b21, .ref b22, .ref b23, .ref b24, .ref b25, .ref b26, .ref b27, .ref b28, .ref b29, .int b30, .ref b31, .ref b32, .int b33, .int b34, .int b35, .int b36, .ref b37, .ref b38, .ref b39, .ref b40, .ref b41, .ref b42, .ref b43, .int b44, .ref b45, .ref b46, .int b47, .ref b48, .ref b49, .ref b50, .ref b51, .ref b52, .int b53, .ref b54, .ref b55, .ref b56])), (b4, .inl (G.2 0, 503, .inl b57))] ∧ (zI e0 0 12) ∧ (zFo (e0 : Int32).toInt (fun i => b57 (21 + (12 * (b1 : Int32).toInt.toNat + i))) (b57 (1 + (b1 : Int32).toInt.toNat)).toInt.toNat b2)) A) ([.ref b0, .int b1, .int b2] : List Value).toArray s m_s2_Model_firstOf.cells m_s2_Model_firstOf.slots A) (F0 m 2 ls []) by
    exact key 13 (0) _ _ _ (zI.wk (l' := 0) (h' := 12) zc_0 (by decide)) (by have _l := li_0; omega) (by have _l := li_0; intro j hj; exfalso; omega) (zm_upi (zI.wk (l' := 0) (h' := 12) zc_0 (by decide)) (by decide)) hP hD hS (lv_sub hl [0, 1, 2, 3] rfl)
  intro k_18
  induction k_18 with
  | zero =>
    intro y_19 H locs ls hy_19 hli_20 hli_21 hmk_18 hP hD hS hl
    exact (zm_up0 hy_19 hmk_18).elim
  | succ k_18 ihk_18 =>
    intro y_19 H locs ls hy_19 hli_20 hli_21 hmk_18 hP hD hS hl
    refine lv_iload_n hx hb d_Model_firstOf_2 rfl (lv_at hl 0 rfl) ?_
    refine lv_aload_n hx hb d_Model_firstOf_3 rfl (lv_at hl 1 rfl) ?_
    refine lv_iload_n hx hb d_Model_firstOf_4 rfl (lv_at hl 2 rfl) ?_
    refine z_callV (index := 203) (As := [.int b1]) (rest := [.int y_19]) (wr := []) Z (s1_Model_calls l G (b0) (b1) (b3) (b4) (b5) (b6) (b7) (b8) (b9) (b10) (b11) (b12) (b13) (b14) (b15) (b16) (b17) (b18) (b19) (b20) (b21) (b22) (b23) (b24) (b25) (b26) (b27) (b28) (b29) (b30) (b31) (b32) (b33) (b34) (b35) (b36) (b37) (b38) (b39) (b40) (b41) (b42) (b43) (b44) (b45) (b46) (b47) (b48) (b49) (b50) (b51) (b52) (b53) (b54) (b55) (b56) (b57) hb1 hb8 hb10 hb11 hb13 hb17 hb30 hb33 hb44 hb47 hb53 hb57) hl.1 q1352 q1354 qs54 q14 q1355 ⟨by decide, by decide, by show _ = some 1; decide +kernel⟩ ⟨Nat.le_of_ble_eq_true rfl, Nat.le_of_ble_eq_true rfl⟩ ⟨Nat.le_of_ble_eq_true rfl, Nat.le_of_ble_eq_true rfl⟩ rfl (Nat.le_of_ble_eq_true rfl) d_Model_firstOf_5 hP hD hS hA 0 12 rfl rfl rfl [0, 1] [] rfl rfl rfl rfl (by decide) (fun v w1 H locs hw_22 hP hD hS => ?_)
    obtain ⟨x_23, rfl, rfl, hx_23, hfx_24⟩ := hw_22
    have hP : va_P G.1 classes [(b0, .inr (12, [.int b3, .ref b4, .ref b5, .ref b6, .ref b7, .int b8, .ref b9, .int b10, .int b11, .int b12, .int b13, .ref b14, .ref b15, .ref b16, .int b17, .ref b18, .ref b19, .ref b20, .ref b21, .ref b22, .ref b23, .ref b24, .ref b25, .ref b26, .ref b27, .ref b28, .ref b29, .int b30, .ref b31, .ref b32, .int b33, .int b34, .int b35, .int b36, .ref b37, .ref b38, .ref b39, .ref b40, .ref b41, .ref b42, .ref b43, .int b44, .ref b45, .ref b46, .int b47, .ref b48, .ref b49, .ref b50, .ref b51, .ref b52, .int b53, .ref b54, .ref b55, .ref b56])), (b4, .inl (G.2 0, 503, .inl b57))] H := hP
    have hD := z_tie hP hD rfl
    refine W.widen (k := 0) (n := 0) (Nat.le_of_ble_eq_true rfl) (Nat.le_of_ble_eq_true rfl) ?_
    refine lv_icmp_ge (tgt := 27) hx hb d_Model_firstOf_8 (by decide) (fun hc_25 => ?_) (fun hc_25 => ?_)
    · have _nhc_25 := hc_25
      have ni_26 := (fa_le _ _).mp hc_25
      refine lv_iload_n hx hb d_Model_firstOf_27 rfl (lv_at hl 0 rfl) ?_
      exact z_iret hx hb hr hlocks hP hD hS (Nat.le_of_ble_eq_true rfl) (Nat.le_of_ble_eq_true rfl) d_Model_firstOf_28 ⟨y_19, rfl, rfl, hy_19, (by have i9 := hli_20; have c9 := congrArg Int32.toInt hfx_24; exact Or.inl ⟨zcn_no _ (fun j hj => hli_21 j (by omega)), by omega⟩)⟩
    · have _nhc_25 := hc_25
      have ni_27 := (fa_lt _ _).mp (zi_nle hc_25)
      have hv_28 : zI y_19 0 11 := zI.lt_l hy_19 hx_23 (zi_nle hc_25) (by decide)
      have hv_29 : zI x_23 1 12 := zI.lt_r hy_19 hx_23 (zi_nle hc_25) (by decide)
      refine lv_aload_n hx hb d_Model_firstOf_11 rfl (lv_at hl 1 rfl) ?_
      refine lv_iload_n hx hb d_Model_firstOf_12 rfl (lv_at hl 2 rfl) ?_
      refine lv_iload_n hx hb d_Model_firstOf_13 rfl (lv_at hl 0 rfl) ?_
      refine z_callV (index := 207) (As := [.int b1, .int y_19]) (rest := []) (wr := []) Z (s2_Model_letterAt l G (b0) (b1) (y_19) (b3) (b4) (b5) (b6) (b7) (b8) (b9) (b10) (b11) (b12) (b13) (b14) (b15) (b16) (b17) (b18) (b19) (b20) (b21) (b22) (b23) (b24) (b25) (b26) (b27) (b28) (b29) (b30) (b31) (b32) (b33) (b34) (b35) (b36) (b37) (b38) (b39) (b40) (b41) (b42) (b43) (b44) (b45) (b46) (b47) (b48) (b49) (b50) (b51) (b52) (b53) (b54) (b55) (b56) (b57) hb1 hv_28 hb8 hb10 hb11 hb13 hb17 hb30 hb33 hb44 hb47 hb53 hb57) hl.1 q1372 q1374 qs59 q14 q1375 ⟨by decide, by decide, by show _ = some 2; decide +kernel⟩ ⟨Nat.le_of_ble_eq_true rfl, Nat.le_of_ble_eq_true rfl⟩ ⟨Nat.le_of_ble_eq_true rfl, Nat.le_of_ble_eq_true rfl⟩ rfl (Nat.le_of_ble_eq_true rfl) d_Model_firstOf_14 hP hD hS hA 0 12 rfl rfl rfl [0, 1] [] rfl rfl rfl rfl (by decide) (fun v w1 H locs hw_30 hP hD hS => ?_)
      obtain ⟨x_31, rfl, rfl, hx_31, hfx_32⟩ := hw_30
      have hP : va_P G.1 classes [(b0, .inr (12, [.int b3, .ref b4, .ref b5, .ref b6, .ref b7, .int b8, .ref b9, .int b10, .int b11, .int b12, .int b13, .ref b14, .ref b15, .ref b16, .int b17, .ref b18, .ref b19, .ref b20, .ref b21, .ref b22, .ref b23, .ref b24, .ref b25, .ref b26, .ref b27, .ref b28, .ref b29, .int b30, .ref b31, .ref b32, .int b33, .int b34, .int b35, .int b36, .ref b37, .ref b38, .ref b39, .ref b40, .ref b41, .ref b42, .ref b43, .int b44, .ref b45, .ref b46, .int b47, .ref b48, .ref b49, .ref b50, .ref b51, .ref b52, .int b53, .ref b54, .ref b55, .ref b56])), (b4, .inl (G.2 0, 503, .inl b57))] H := hP
      have hD := z_tie hP hD rfl
      refine W.widen (k := 0) (n := 0) (Nat.le_of_ble_eq_true rfl) (Nat.le_of_ble_eq_true rfl) ?_
      refine lv_iload_n hx hb d_Model_firstOf_17 rfl (lv_at hl 3 rfl) ?_
      refine lv_icmp_eq (tgt := 27) hx hb d_Model_firstOf_18 (by decide) (fun hc_33 => ?_) (fun hc_33 => ?_)
      · have _nhc_33 := hc_33
        have ni_34 := (fa_eq _ _).mp hc_33
        have hv_35 : zI b2 0 9 := zI.eq_l (zI_all b2) hx_31 hc_33.symm
        refine lv_iload_n hx hb d_Model_firstOf_27 rfl (lv_at hl 0 rfl) ?_
        exact z_iret hx hb hr hlocks hP hD hS (Nat.le_of_ble_eq_true rfl) (Nat.le_of_ble_eq_true rfl) d_Model_firstOf_28 ⟨y_19, rfl, rfl, (zI.wk (l' := 0) (h' := 12) hv_28 (by decide)), (by have g9 := hfx_32; have c9 := congrArg Int32.toInt hfx_24; have h9 := (g9.symm.trans ((fa_eq _ _).mpr (by omega))); exact Or.inr ⟨zcn_p (i := y_19.toInt.toNat) h9 _ (by omega), by rw [zfs_at (i := y_19.toInt.toNat) (fun j hj => hli_21 j (by omega)) h9 _ (by omega)]; omega⟩)⟩
      · have _nhc_33 := hc_33
        have ni_36 : ¬ (x_31 : Int32).toInt = (b2 : Int32).toInt := fun z => hc_33 ((fa_eq _ _).mpr z)
        obtain ⟨v_37, ev_37⟩ : ∃ z : Int32, z = y_19 + 1 := ⟨_, rfl⟩
        obtain ⟨qv_37, hv_37⟩ := zI_add (l := 1) (h := 12) hv_28 zc_1 ev_37 (by decide)
        rw [li_1] at qv_37
        refine lv_iinc (v := v_37) (lv' := [(3, .int v_37), (0, .ref b0), (1, .int b1), (2, .int b2)]) hx hb d_Model_firstOf_21 hl (k := 0) rfl (by rw [ev_37]; rfl) (by decide) rfl (fun ls hl => ?_)
        refine lv_goto (tgt := 2) hx hb d_Model_firstOf_24 (by decide) ?_
        exact ihk_18 (v_37) _ _ _ (zI.wk (l' := 0) (h' := 12) hv_37 (by decide)) (by have c9 := congrArg Int32.toInt hfx_24; omega) (by have g9 := hfx_32; intro j hj q; by_cases c9 : (j : Int) < y_19.toInt; exact hli_21 j c9 q; (rw [show j = y_19.toInt.toNat by omega] at q; exact absurd q (fun q => by have q8 := congrArg Int32.toInt (g9.trans q); omega))) (zm_up qv_37 hmk_18 (by decide)) hP hD hS (lv_sub hl [0, 1, 2, 3] rfl)
abbrev m_s2_Model_lastOf : Room := { frames := 1, cells := 0, slots := 0, locals := 22 }
set_option maxHeartbeats 4000000 in
set_option maxRecDepth 100000 in
theorem s2_Model_lastOf (l : Launch) (G : zG) (b0 : Nat) (b1 : Int32) (b2 : Int32) (b3 : Int32) (b4 : Nat) (b5 : Nat) (b6 : Nat) (b7 : Nat) (b8 : Int32) (b9 : Nat) (b10 : Int32) (b11 : Int32) (b12 : Int32) (b13 : Int32) (b14 : Nat) (b15 : Nat) (b16 : Nat) (b17 : Int32) (b18 : Nat) (b19 : Nat) (b20 : Nat) (b21 : Nat) (b22 : Nat) (b23 : Nat) (b24 : Nat) (b25 : Nat) (b26 : Nat) (b27 : Nat) (b28 : Nat) (b29 : Nat) (b30 : Int32) (b31 : Nat) (b32 : Nat) (b33 : Int32) (b34 : Int32) (b35 : Int32) (b36 : Int32) (b37 : Nat) (b38 : Nat) (b39 : Nat) (b40 : Nat) (b41 : Nat) (b42 : Nat) (b43 : Nat) (b44 : Int32) (b45 : Nat) (b46 : Nat) (b47 : Int32) (b48 : Nat) (b49 : Nat) (b50 : Nat) (b51 : Nat) (b52 : Nat) (b53 : Int32) (b54 : Nat) (b55 : Nat) (b56 : Nat) (b57 : Nat → Int32) (hb1 : zI b1 0 19) (hb8 : zI b8 0 8) (hb10 : zI b10 0 240) (hb11 : zI b11 0 240) (hb13 : zI b13 0 1) (hb17 : zI b17 0 12) (hb30 : zI b30 0 1) (hb33 : zI b33 0 1) (hb44 : zI b44 0 1000) (hb47 : zI b47 0 1000) (hb53 : zI b53 0 400) (hb57 : zW5 b57) : zM l G y_Model_lastOf prog_14_method_73_code 4 (Option.some Jvm.ClassFile.FieldType.int) m_s2_Model_lastOf [.ref b0, .int b1, .int b2] [(b0, .inr (12, [.int b3, .ref b4, .ref b5, .ref b6, .ref b7, .int b8, .ref b9, .int b10, .int b11, .int b12, .int b13, .ref b14, .ref b15, .ref b16, .int b17, .ref b18, .ref b19, .ref b20, .ref b21, .ref b22, .ref b23, .ref b24, .ref b25, .ref b26, .ref b27, .ref b28, .ref b29, .int b30, .ref b31, .ref b32, .int b33, .int b34, .int b35, .int b36, .ref b37, .ref b38, .ref b39, .ref b40, .ref b41, .ref b42, .ref b43, .int b44, .ref b45, .ref b46, .int b47, .ref b48, .ref b49, .ref b50, .ref b51, .ref b52, .int b53, .ref b54, .ref b55, .ref b56])), (b4, .inl (G.2 0, 503, .inl b57))] (fun v w => ∃ (e0 : Int32), v = some (.int e0) ∧ w = [(b0, .inr (12, [.int b3, .ref b4, .ref b5, .ref b6, .ref b7, .int b8, .ref b9, .int b10, .int b11, .int b12, .int b13, .ref b14, .ref b15, .ref b16, .int b17, .ref b18, .ref b19, .ref b20, .ref b21, .ref b22, .ref b23, .ref b24, .ref b25, .ref b26, .ref b27, .ref b28, .ref b29, .int b30, .ref b31, .ref b32, .int b33, .int b34, .int b35, .int b36, .ref b37, .ref b38, .ref b39, .ref b40, .ref b41, .ref b42, .ref b43, .int b44, .ref b45, .ref b46, .int b47, .ref b48, .ref b49, .ref b50, .ref b51, .ref b52, .int b53, .ref b54, .ref b55, .ref b56])), (b4, .inl (G.2 0, 503, .inl b57))] ∧ (zI e0 (-1) 11) ∧ ((e0 : Int32).toInt = zls (fun i => b57 (21 + (12 * (b1 : Int32).toInt.toNat + i))) b2 (b57 (1 + (b1 : Int32).toInt.toNat)).toInt.toNat)) := by
  refine z_start (by decide +kernel) (Nat.le_of_ble_eq_true rfl) ?_
  intro p e s m below meth c A Z hr hnm hA hP hD hS ls hl
  have Z : zC p s m _ meth c prog_14_method_73_code 4 "TraceMachinesModel" G := Z
  obtain ⟨hx, hb, hml, hown, hts, hK, hN, hlocks⟩ := id Z
  have hl : lv_has ls 4 [(0, .ref b0), (1, .int b1), (2, .int b2)] := hl
  refine lv_aload_n hx hb d_Model_lastOf_0 rfl (lv_at hl 0 rfl) ?_
  refine lv_iload_n hx hb d_Model_lastOf_1 rfl (lv_at hl 1 rfl) ?_
  refine z_callV (index := 203) (As := [.int b1]) (rest := []) (wr := []) Z (s1_Model_calls l G (b0) (b1) (b3) (b4) (b5) (b6) (b7) (b8) (b9) (b10) (b11) (b12) (b13) (b14) (b15) (b16) (b17) (b18) (b19) (b20) (b21) (b22) (b23) (b24) (b25) (b26) (b27) (b28) (b29) (b30) (b31) (b32) (b33) (b34) (b35) (b36) (b37) (b38) (b39) (b40) (b41) (b42) (b43) (b44) (b45) (b46) (b47) (b48) (b49) (b50) (b51) (b52) (b53) (b54) (b55) (b56) (b57) hb1 hb8 hb10 hb11 hb13 hb17 hb30 hb33 hb44 hb47 hb53 hb57) hl.1 q1352 q1354 qs54 q14 q1355 ⟨by decide, by decide, by show _ = some 1; decide +kernel⟩ ⟨Nat.le_of_ble_eq_true rfl, Nat.le_of_ble_eq_true rfl⟩ ⟨Nat.le_of_ble_eq_true rfl, Nat.le_of_ble_eq_true rfl⟩ rfl (Nat.le_of_ble_eq_true rfl) d_Model_lastOf_2 hP hD hS hA 0 12 rfl rfl rfl [0, 1] [] rfl rfl rfl rfl (by decide) (fun v w1 H locs hw_1 hP hD hS => ?_)
  obtain ⟨x_2, rfl, rfl, hx_2, hfx_3⟩ := hw_1
  have hP : va_P G.1 classes [(b0, .inr (12, [.int b3, .ref b4, .ref b5, .ref b6, .ref b7, .int b8, .ref b9, .int b10, .int b11, .int b12, .int b13, .ref b14, .ref b15, .ref b16, .int b17, .ref b18, .ref b19, .ref b20, .ref b21, .ref b22, .ref b23, .ref b24, .ref b25, .ref b26, .ref b27, .ref b28, .ref b29, .int b30, .ref b31, .ref b32, .int b33, .int b34, .int b35, .int b36, .ref b37, .ref b38, .ref b39, .ref b40, .ref b41, .ref b42, .ref b43, .int b44, .ref b45, .ref b46, .int b47, .ref b48, .ref b49, .ref b50, .ref b51, .ref b52, .int b53, .ref b54, .ref b55, .ref b56])), (b4, .inl (G.2 0, 503, .inl b57))] H := hP
  have hD := z_tie hP hD rfl
  refine W.widen (k := 0) (n := 0) (Nat.le_of_ble_eq_true rfl) (Nat.le_of_ble_eq_true rfl) ?_
  refine lv_iconst (v := 1) hx hb d_Model_lastOf_5 (by decide) ?_
  refine lv_isub hx hb d_Model_lastOf_6 ?_
  refine lv_topi (fun v_4 ev_4 => ?_)
  obtain ⟨qv_4, hv_4⟩ := zI_sub (l := -1) (h := 11) hx_2 zc_1 ev_4 (by decide)
  rw [li_1] at qv_4
  refine lv_istore_n (lv' := [(3, .int v_4), (0, .ref b0), (1, .int b1), (2, .int b2)]) hx hb d_Model_lastOf_7 rfl hl (by decide) rfl (fun ls hl => ?_)
  suffices key : ∀ (k_19 : Nat) (y_20 : Int32) (H : Heap) (locs : List Loc) (ls : Array Slot), (zI y_20 (-1) 11) → ((y_20 : Int32).toInt ≤ (((b57 (1 + (b1 : Int32).toInt.toNat)).toInt.toNat : Nat) : Int) - 1) → (∀ j : Nat, ((y_20 : Int32).toInt < (j : Int) ∧ j < (b57 (1 + (b1 : Int32).toInt.toNat)).toInt.toNat) → ¬ (fun i => b57 (21 + (12 * (b1 : Int32).toInt.toNat + i))) j = b2) → y_20.toInt - ((-1)) < (k_19 : Int) → va_P G.1 classes [(b0, .inr (12, [.int b3, .ref b4, .ref b5, .ref b6, .ref b7, .int b8, .ref b9, .int b10, .int b11, .int b12, .int b13, .ref b14, .ref b15, .ref b16, .int b17, .ref b18, .ref b19, .ref b20, .ref b21, .ref b22, .ref b23, .ref b24, .ref b25, .ref b26, .ref b27, .ref b28, .ref b29, .int b30, .ref b31, .ref b32, .int b33, .int b34, .int b35, .int b36, .ref b37, .ref b38, .ref b39, .ref b40, .ref b41, .ref b42, .ref b43, .int b44, .ref b45, .ref b46, .int b47, .ref b48, .ref b49, .ref b50, .ref b51, .ref b52, .int b53, .ref b54, .ref b55, .ref b56])), (b4, .inl (G.2 0, 503, .inl b57))] H → va_D A [(b0, .inr (12, [.int b3, .ref b4, .ref b5, .ref b6, .ref b7, .int b8, .ref b9, .int b10, .int b11, .int b12, .int b13, .ref b14, .ref b15, .ref b16, .int b17, .ref b18, .ref b19, .ref b20, .ref b21, .ref b22, .ref b23, .ref b24, .ref b25, .ref b26, .ref b27, .ref b28, .ref b29, .int b30, .ref b31, .ref b32, .int b33, .int b34, .int b35, .int b36, .ref b37, .ref b38, .ref b39, .ref b40, .ref b41, .ref b42, .ref b43, .int b44, .ref b45, .ref b46, .int b47, .ref b48, .ref b49, .ref b50, .ref b51, .ref b52, .int b53, .ref b54, .ref b55, .ref b56])), (b4, .inl (G.2 0, 503, .inl b57))] → va_S A s.heap H locs → lv_has ls 4 [(3, .int y_20), (0, .ref b0), (1, .int b1), (2, .int b2)] → W p l e m_s2_Model_lastOf s m ([.ref b0, .int b1, .int b2] : List Value).toArray below meth c H locs 0 0 (MQ below (zQ G (fun v w => ∃ (e0 : Int32), v = some (.int e0) ∧ w = [(b0, .inr (12, [.int b3, .ref b4, .ref b5, .ref b6, .ref b7, .int b8, .ref b9, .int b10, .int b11, .int b12, .int b13, .ref b14, .ref b15, .ref b16, .int b17, .ref b18, .ref b19, .ref b20, .ref b21, .ref b22, .ref b23, .ref b24, .ref b25, .ref b26, .ref b27, .ref b28, .ref b29, .int b30, .ref b31, .ref b32, .int b33, .int b34, .int b35, .int b36, .ref b37, .ref b38, .ref b39, .ref b40, .ref b41, .ref b42, .ref b43, .int b44, .ref b45, .ref b46, .int b47, .ref b48, .ref b49, .ref b50, .ref b51, .ref b52, .int b53, .ref b54, .ref b55, .ref b56])), (b4, .inl (G.2 0, 503, .inl b57))] ∧ (zI e0 (-1) 11) ∧ ((e0 : Int32).toInt = zls (fun i => b57 (21 + (12 * (b1 : Int32).toInt.toNat + i))) b2 (b57 (1 + (b1 : Int32).toInt.toNat)).toInt.toNat)) A) ([.ref b0, .int b1, .int b2] : List Value).toArray s m_s2_Model_lastOf.cells m_s2_Model_lastOf.slots A) (F0 m 8 ls []) by
    exact key 13 (v_4) _ _ _ hv_4 (by have c9 := congrArg Int32.toInt hfx_3; omega) (by have c9 := congrArg Int32.toInt hfx_3; intro j hj; exfalso; omega) (zm_dni hv_4 (by decide)) hP hD hS (lv_sub hl [0, 1, 2, 3] rfl)
  intro k_19
  induction k_19 with
  | zero =>
    intro y_20 H locs ls hy_20 hli_21 hli_22 hmk_19 hP hD hS hl
    exact (zm_dn0 hy_20 hmk_19).elim
  | succ k_19 ihk_19 =>
    intro y_20 H locs ls hy_20 hli_21 hli_22 hmk_19 hP hD hS hl
    refine lv_iload_n hx hb d_Model_lastOf_8 rfl (lv_at hl 0 rfl) ?_
    refine lv_if_lt (tgt := 28) hx hb d_Model_lastOf_9 (by decide) (fun hc_23 => ?_) (fun hc_23 => ?_)
    · have _nhc_23 := hc_23
      have ni_24 := (fa_lt _ _).mp hc_23
      rw [li_0] at ni_24
      have hv_25 : zI y_20 (-1) (-1) := zI.lt_l hy_20 zc_0 hc_23 (by decide)
      refine lv_iload_n hx hb d_Model_lastOf_28 rfl (lv_at hl 0 rfl) ?_
      exact z_iret hx hb hr hlocks hP hD hS (Nat.le_of_ble_eq_true rfl) (Nat.le_of_ble_eq_true rfl) d_Model_lastOf_29 ⟨y_20, rfl, rfl, (zI.wk (l' := (-1)) (h' := 11) hv_25 (by decide)), (by rw [zls_no _ (fun j hj => hli_22 j ⟨by omega, hj⟩)]; omega)⟩
    · have _nhc_23 := hc_23
      have ni_26 := (fa_le _ _).mp (zi_nlt hc_23)
      rw [li_0] at ni_26
      have hv_27 : zI y_20 0 11 := zI.le_r zc_0 hy_20 (zi_nlt hc_23) (by decide)
      refine lv_aload_n hx hb d_Model_lastOf_12 rfl (lv_at hl 1 rfl) ?_
      refine lv_iload_n hx hb d_Model_lastOf_13 rfl (lv_at hl 2 rfl) ?_
      refine lv_iload_n hx hb d_Model_lastOf_14 rfl (lv_at hl 0 rfl) ?_
      refine z_callV (index := 207) (As := [.int b1, .int y_20]) (rest := []) (wr := []) Z (s2_Model_letterAt l G (b0) (b1) (y_20) (b3) (b4) (b5) (b6) (b7) (b8) (b9) (b10) (b11) (b12) (b13) (b14) (b15) (b16) (b17) (b18) (b19) (b20) (b21) (b22) (b23) (b24) (b25) (b26) (b27) (b28) (b29) (b30) (b31) (b32) (b33) (b34) (b35) (b36) (b37) (b38) (b39) (b40) (b41) (b42) (b43) (b44) (b45) (b46) (b47) (b48) (b49) (b50) (b51) (b52) (b53) (b54) (b55) (b56) (b57) hb1 hv_27 hb8 hb10 hb11 hb13 hb17 hb30 hb33 hb44 hb47 hb53 hb57) hl.1 q1372 q1374 qs59 q14 q1375 ⟨by decide, by decide, by show _ = some 2; decide +kernel⟩ ⟨Nat.le_of_ble_eq_true rfl, Nat.le_of_ble_eq_true rfl⟩ ⟨Nat.le_of_ble_eq_true rfl, Nat.le_of_ble_eq_true rfl⟩ rfl (Nat.le_of_ble_eq_true rfl) d_Model_lastOf_15 hP hD hS hA 0 12 rfl rfl rfl [0, 1] [] rfl rfl rfl rfl (by decide) (fun v w1 H locs hw_28 hP hD hS => ?_)
      obtain ⟨x_29, rfl, rfl, hx_29, hfx_30⟩ := hw_28
      have hP : va_P G.1 classes [(b0, .inr (12, [.int b3, .ref b4, .ref b5, .ref b6, .ref b7, .int b8, .ref b9, .int b10, .int b11, .int b12, .int b13, .ref b14, .ref b15, .ref b16, .int b17, .ref b18, .ref b19, .ref b20, .ref b21, .ref b22, .ref b23, .ref b24, .ref b25, .ref b26, .ref b27, .ref b28, .ref b29, .int b30, .ref b31, .ref b32, .int b33, .int b34, .int b35, .int b36, .ref b37, .ref b38, .ref b39, .ref b40, .ref b41, .ref b42, .ref b43, .int b44, .ref b45, .ref b46, .int b47, .ref b48, .ref b49, .ref b50, .ref b51, .ref b52, .int b53, .ref b54, .ref b55, .ref b56])), (b4, .inl (G.2 0, 503, .inl b57))] H := hP
      have hD := z_tie hP hD rfl
      refine W.widen (k := 0) (n := 0) (Nat.le_of_ble_eq_true rfl) (Nat.le_of_ble_eq_true rfl) ?_
      refine lv_iload_n hx hb d_Model_lastOf_18 rfl (lv_at hl 3 rfl) ?_
      refine lv_icmp_eq (tgt := 28) hx hb d_Model_lastOf_19 (by decide) (fun hc_31 => ?_) (fun hc_31 => ?_)
      · have _nhc_31 := hc_31
        have ni_32 := (fa_eq _ _).mp hc_31
        have hv_33 : zI b2 0 9 := zI.eq_l (zI_all b2) hx_29 hc_31.symm
        refine lv_iload_n hx hb d_Model_lastOf_28 rfl (lv_at hl 0 rfl) ?_
        exact z_iret hx hb hr hlocks hP hD hS (Nat.le_of_ble_eq_true rfl) (Nat.le_of_ble_eq_true rfl) d_Model_lastOf_29 ⟨y_20, rfl, rfl, (zI.wk (l' := (-1)) (h' := 11) hv_27 (by decide)), (by have g9 := hfx_30; have i9 := hli_21; have h9 := (g9.symm.trans ((fa_eq _ _).mpr (by omega))); rw [zls_at (i := y_20.toInt.toNat) h9 _ (by omega) (fun j h1 h2 => hli_22 j ⟨by omega, h2⟩)]; omega)⟩
      · have _nhc_31 := hc_31
        have ni_34 : ¬ (x_29 : Int32).toInt = (b2 : Int32).toInt := fun z => hc_31 ((fa_eq _ _).mpr z)
        obtain ⟨v_35, ev_35⟩ : ∃ z : Int32, z = y_20 + (-1) := ⟨_, rfl⟩
        obtain ⟨qv_35, hv_35⟩ := zI_add (l := -1) (h := 10) hv_27 zc_m1 ev_35 (by decide)
        rw [li_m1] at qv_35
        refine lv_iinc (v := v_35) (lv' := [(3, .int v_35), (0, .ref b0), (1, .int b1), (2, .int b2)]) hx hb d_Model_lastOf_22 hl (k := 0) rfl (by rw [ev_35]; rfl) (by decide) rfl (fun ls hl => ?_)
        refine lv_goto (tgt := 8) hx hb d_Model_lastOf_25 (by decide) ?_
        exact ihk_19 (v_35) _ _ _ (zI.wk (l' := (-1)) (h' := 11) hv_35 (by decide)) (by omega) (by have g9 := hfx_30; intro j hj q; by_cases c9 : y_20.toInt < (j : Int); exact hli_22 j ⟨c9, hj.2⟩ q; (rw [show j = y_20.toInt.toNat by omega] at q; exact absurd q (fun q => by have q8 := congrArg Int32.toInt (g9.trans q); omega))) (zm_dn qv_35 hmk_19 (by decide)) hP hD hS (lv_sub hl [0, 1, 2, 3] rfl)
abbrev m_s2_Model_howOften : Room := { frames := 1, cells := 0, slots := 0, locals := 22 }
set_option maxHeartbeats 4000000 in
set_option maxRecDepth 100000 in
theorem s2_Model_howOften (l : Launch) (G : zG) (b0 : Nat) (b1 : Int32) (b2 : Int32) (b3 : Int32) (b4 : Nat) (b5 : Nat) (b6 : Nat) (b7 : Nat) (b8 : Int32) (b9 : Nat) (b10 : Int32) (b11 : Int32) (b12 : Int32) (b13 : Int32) (b14 : Nat) (b15 : Nat) (b16 : Nat) (b17 : Int32) (b18 : Nat) (b19 : Nat) (b20 : Nat) (b21 : Nat) (b22 : Nat) (b23 : Nat) (b24 : Nat) (b25 : Nat) (b26 : Nat) (b27 : Nat) (b28 : Nat) (b29 : Nat) (b30 : Int32) (b31 : Nat) (b32 : Nat) (b33 : Int32) (b34 : Int32) (b35 : Int32) (b36 : Int32) (b37 : Nat) (b38 : Nat) (b39 : Nat) (b40 : Nat) (b41 : Nat) (b42 : Nat) (b43 : Nat) (b44 : Int32) (b45 : Nat) (b46 : Nat) (b47 : Int32) (b48 : Nat) (b49 : Nat) (b50 : Nat) (b51 : Nat) (b52 : Nat) (b53 : Int32) (b54 : Nat) (b55 : Nat) (b56 : Nat) (b57 : Nat → Int32) (hb1 : zI b1 0 19) (hb8 : zI b8 0 8) (hb10 : zI b10 0 240) (hb11 : zI b11 0 240) (hb13 : zI b13 0 1) (hb17 : zI b17 0 12) (hb30 : zI b30 0 1) (hb33 : zI b33 0 1) (hb44 : zI b44 0 1000) (hb47 : zI b47 0 1000) (hb53 : zI b53 0 400) (hb57 : zW5 b57) : zM l G y_Model_howOften prog_14_method_74_code 5 (Option.some Jvm.ClassFile.FieldType.int) m_s2_Model_howOften [.ref b0, .int b1, .int b2] [(b0, .inr (12, [.int b3, .ref b4, .ref b5, .ref b6, .ref b7, .int b8, .ref b9, .int b10, .int b11, .int b12, .int b13, .ref b14, .ref b15, .ref b16, .int b17, .ref b18, .ref b19, .ref b20, .ref b21, .ref b22, .ref b23, .ref b24, .ref b25, .ref b26, .ref b27, .ref b28, .ref b29, .int b30, .ref b31, .ref b32, .int b33, .int b34, .int b35, .int b36, .ref b37, .ref b38, .ref b39, .ref b40, .ref b41, .ref b42, .ref b43, .int b44, .ref b45, .ref b46, .int b47, .ref b48, .ref b49, .ref b50, .ref b51, .ref b52, .int b53, .ref b54, .ref b55, .ref b56])), (b4, .inl (G.2 0, 503, .inl b57))] (fun v w => ∃ (e0 : Int32), v = some (.int e0) ∧ w = [(b0, .inr (12, [.int b3, .ref b4, .ref b5, .ref b6, .ref b7, .int b8, .ref b9, .int b10, .int b11, .int b12, .int b13, .ref b14, .ref b15, .ref b16, .int b17, .ref b18, .ref b19, .ref b20, .ref b21, .ref b22, .ref b23, .ref b24, .ref b25, .ref b26, .ref b27, .ref b28, .ref b29, .int b30, .ref b31, .ref b32, .int b33, .int b34, .int b35, .int b36, .ref b37, .ref b38, .ref b39, .ref b40, .ref b41, .ref b42, .ref b43, .int b44, .ref b45, .ref b46, .int b47, .ref b48, .ref b49, .ref b50, .ref b51, .ref b52, .int b53, .ref b54, .ref b55, .ref b56])), (b4, .inl (G.2 0, 503, .inl b57))] ∧ ((e0 : Int32).toInt = zcn (fun i => b57 (21 + (12 * (b1 : Int32).toInt.toNat + i))) b2 (b57 (1 + (b1 : Int32).toInt.toNat)).toInt.toNat)) := by
  refine z_start (by decide +kernel) (Nat.le_of_ble_eq_true rfl) ?_
  intro p e s m below meth c A Z hr hnm hA hP hD hS ls hl
  have Z : zC p s m _ meth c prog_14_method_74_code 5 "TraceMachinesModel" G := Z
  obtain ⟨hx, hb, hml, hown, hts, hK, hN, hlocks⟩ := id Z
  have hl : lv_has ls 5 [(0, .ref b0), (1, .int b1), (2, .int b2)] := hl
  refine lv_iconst (v := 0) hx hb d_Model_howOften_0 (by decide) ?_
  refine lv_istore_n (lv' := [(3, .int 0), (0, .ref b0), (1, .int b1), (2, .int b2)]) hx hb d_Model_howOften_1 rfl hl (by decide) rfl (fun ls hl => ?_)
  refine lv_iconst (v := 0) hx hb d_Model_howOften_2 (by decide) ?_
  refine lv_istore (lv' := [(4, .int 0), (3, .int 0), (0, .ref b0), (1, .int b1), (2, .int b2)]) hx hb d_Model_howOften_3 hl (by decide) rfl (fun ls hl => ?_)
  suffices key : ∀ (k_22 : Nat) (y_23 : Int32) (y_24 : Int32) (H : Heap) (locs : List Loc) (ls : Array Slot), (zI y_23 0 12) → ((y_23 : Int32).toInt ≤ (((b57 (1 + (b1 : Int32).toInt.toNat)).toInt.toNat : Nat) : Int)) → ((y_24 : Int32).toInt = zcn (fun i => b57 (21 + (12 * (b1 : Int32).toInt.toNat + i))) b2 (y_23 : Int32).toInt.toNat) → (12 : Int) - y_23.toInt < (k_22 : Int) → va_P G.1 classes [(b0, .inr (12, [.int b3, .ref b4, .ref b5, .ref b6, .ref b7, .int b8, .ref b9, .int b10, .int b11, .int b12, .int b13, .ref b14, .ref b15, .ref b16, .int b17, .ref b18, .ref b19, .ref b20, .ref b21, .ref b22, .ref b23, .ref b24, .ref b25, .ref b26, .ref b27, .ref b28, .ref b29, .int b30, .ref b31, .ref b32, .int b33, .int b34, .int b35, .int b36, .ref b37, .ref b38, .ref b39, .ref b40, .ref b41, .ref b42, .ref b43, .int b44, .ref b45, .ref b46, .int b47, .ref b48, .ref b49, .ref b50, .ref b51, .ref b52, .int b53, .ref b54, .ref b55, .ref b56])), (b4, .inl (G.2 0, 503, .inl b57))] H → va_D A [(b0, .inr (12, [.int b3, .ref b4, .ref b5, .ref b6, .ref b7, .int b8, .ref b9, .int b10, .int b11, .int b12, .int b13, .ref b14, .ref b15, .ref b16, .int b17, .ref b18, .ref b19, .ref b20, .ref b21, .ref b22, .ref b23, .ref b24, .ref b25, .ref b26, .ref b27, .ref b28, .ref b29, .int b30, .ref b31, .ref b32, .int b33, .int b34, .int b35, .int b36, .ref b37, .ref b38, .ref b39, .ref b40, .ref b41, .ref b42, .ref b43, .int b44, .ref b45, .ref b46, .int b47, .ref b48, .ref b49, .ref b50, .ref b51, .ref b52, .int b53, .ref b54, .ref b55, .ref b56])), (b4, .inl (G.2 0, 503, .inl b57))] → va_S A s.heap H locs → lv_has ls 5 [(4, .int y_23), (3, .int y_24), (0, .ref b0), (1, .int b1), (2, .int b2)] → W p l e m_s2_Model_howOften s m ([.ref b0, .int b1, .int b2] : List Value).toArray below meth c H locs 0 0 (MQ below (zQ G (fun v w => ∃ (e0 : Int32), v = some (.int e0) ∧ w = [(b0, .inr (12, [.int b3, .ref b4, .ref b5, .ref b6, .ref b7, .int b8, .ref b9, .int b10, .int b11, .int b12, .int b13, .ref b14, .ref b15, .ref b16, .int b17, .ref b18, .ref b19, .ref b20, .ref b21, .ref b22, .ref b23, .ref b24, .ref b25, .ref b26, .ref b27, .ref b28, .ref b29, .int b30, .ref b31, .ref b32, .int b33, .int b34, .int b35, .int b36, .ref b37, .ref b38, .ref b39, .ref b40, .ref b41, .ref b42, .ref b43, .int b44, .ref b45, .ref b46, .int b47, .ref b48, .ref b49, .ref b50, .ref b51, .ref b52, .int b53, .ref b54, .ref b55, .ref b56])), (b4, .inl (G.2 0, 503, .inl b57))] ∧ ((e0 : Int32).toInt = zcn (fun i => b57 (21 + (12 * (b1 : Int32).toInt.toNat + i))) b2 (b57 (1 + (b1 : Int32).toInt.toNat)).toInt.toNat)) A) ([.ref b0, .int b1, .int b2] : List Value).toArray s m_s2_Model_howOften.cells m_s2_Model_howOften.slots A) (F0 m 5 ls []) by
    exact key 13 (0) (0) _ _ _ (zI.wk (l' := 0) (h' := 12) zc_0 (by decide)) (by have _l := li_0; omega) (by rw [li_0]; rfl) (zm_upi (zI.wk (l' := 0) (h' := 12) zc_0 (by decide)) (by decide)) hP hD hS (lv_sub hl [0, 1, 2, 3, 4] rfl)
  intro k_22
  induction k_22 with
  | zero =>
    intro y_23 y_24 H locs ls hy_23 hli_25 hli_26 hmk_22 hP hD hS hl
    exact (zm_up0 hy_23 hmk_22).elim
  | succ k_22 ihk_22 =>
    intro y_23 y_24 H locs ls hy_23 hli_25 hli_26 hmk_22 hP hD hS hl
    refine lv_iload hx hb d_Model_howOften_5 (lv_at hl 0 rfl) ?_
    refine lv_aload_n hx hb d_Model_howOften_7 rfl (lv_at hl 2 rfl) ?_
    refine lv_iload_n hx hb d_Model_howOften_8 rfl (lv_at hl 3 rfl) ?_
    refine z_callV (index := 203) (As := [.int b1]) (rest := [.int y_23]) (wr := []) Z (s1_Model_calls l G (b0) (b1) (b3) (b4) (b5) (b6) (b7) (b8) (b9) (b10) (b11) (b12) (b13) (b14) (b15) (b16) (b17) (b18) (b19) (b20) (b21) (b22) (b23) (b24) (b25) (b26) (b27) (b28) (b29) (b30) (b31) (b32) (b33) (b34) (b35) (b36) (b37) (b38) (b39) (b40) (b41) (b42) (b43) (b44) (b45) (b46) (b47) (b48) (b49) (b50) (b51) (b52) (b53) (b54) (b55) (b56) (b57) hb1 hb8 hb10 hb11 hb13 hb17 hb30 hb33 hb44 hb47 hb53 hb57) hl.1 q1352 q1354 qs54 q14 q1355 ⟨by decide, by decide, by show _ = some 1; decide +kernel⟩ ⟨Nat.le_of_ble_eq_true rfl, Nat.le_of_ble_eq_true rfl⟩ ⟨Nat.le_of_ble_eq_true rfl, Nat.le_of_ble_eq_true rfl⟩ rfl (Nat.le_of_ble_eq_true rfl) d_Model_howOften_9 hP hD hS hA 0 12 rfl rfl rfl [0, 1] [] rfl rfl rfl rfl (by decide) (fun v w1 H locs hw_27 hP hD hS => ?_)
    obtain ⟨x_28, rfl, rfl, hx_28, hfx_29⟩ := hw_27
    have hP : va_P G.1 classes [(b0, .inr (12, [.int b3, .ref b4, .ref b5, .ref b6, .ref b7, .int b8, .ref b9, .int b10, .int b11, .int b12, .int b13, .ref b14, .ref b15, .ref b16, .int b17, .ref b18, .ref b19, .ref b20, .ref b21, .ref b22, .ref b23, .ref b24, .ref b25, .ref b26, .ref b27, .ref b28, .ref b29, .int b30, .ref b31, .ref b32, .int b33, .int b34, .int b35, .int b36, .ref b37, .ref b38, .ref b39, .ref b40, .ref b41, .ref b42, .ref b43, .int b44, .ref b45, .ref b46, .int b47, .ref b48, .ref b49, .ref b50, .ref b51, .ref b52, .int b53, .ref b54, .ref b55, .ref b56])), (b4, .inl (G.2 0, 503, .inl b57))] H := hP
    have hD := z_tie hP hD rfl
    refine W.widen (k := 0) (n := 0) (Nat.le_of_ble_eq_true rfl) (Nat.le_of_ble_eq_true rfl) ?_
    refine lv_icmp_ge (tgt := 40) hx hb d_Model_howOften_12 (by decide) (fun hc_30 => ?_) (fun hc_30 => ?_)
    · have _nhc_30 := hc_30
      have ni_31 := (fa_le _ _).mp hc_30
      refine lv_iload_n hx hb d_Model_howOften_40 rfl (lv_at hl 1 rfl) ?_
      exact z_iret hx hb hr hlocks hP hD hS (Nat.le_of_ble_eq_true rfl) (Nat.le_of_ble_eq_true rfl) d_Model_howOften_41 ⟨y_24, rfl, rfl, (by have i9 := hli_25; have c9 := congrArg Int32.toInt hfx_29; have j9 := hli_26; rw [show y_23.toInt.toNat = (b57 (1 + b1.toInt.toNat)).toInt.toNat by omega] at j9; exact j9)⟩
    · have _nhc_30 := hc_30
      have ni_32 := (fa_lt _ _).mp (zi_nle hc_30)
      have hv_33 : zI y_23 0 11 := zI.lt_l hy_23 hx_28 (zi_nle hc_30) (by decide)
      have hv_34 : zI x_28 1 12 := zI.lt_r hy_23 hx_28 (zi_nle hc_30) (by decide)
      refine lv_iload_n hx hb d_Model_howOften_15 rfl (lv_at hl 1 rfl) ?_
      refine lv_aload_n hx hb d_Model_howOften_16 rfl (lv_at hl 2 rfl) ?_
      refine lv_iload_n hx hb d_Model_howOften_17 rfl (lv_at hl 3 rfl) ?_
      refine lv_iload hx hb d_Model_howOften_18 (lv_at hl 0 rfl) ?_
      refine z_callV (index := 207) (As := [.int b1, .int y_23]) (rest := [.int y_24]) (wr := []) Z (s2_Model_letterAt l G (b0) (b1) (y_23) (b3) (b4) (b5) (b6) (b7) (b8) (b9) (b10) (b11) (b12) (b13) (b14) (b15) (b16) (b17) (b18) (b19) (b20) (b21) (b22) (b23) (b24) (b25) (b26) (b27) (b28) (b29) (b30) (b31) (b32) (b33) (b34) (b35) (b36) (b37) (b38) (b39) (b40) (b41) (b42) (b43) (b44) (b45) (b46) (b47) (b48) (b49) (b50) (b51) (b52) (b53) (b54) (b55) (b56) (b57) hb1 hv_33 hb8 hb10 hb11 hb13 hb17 hb30 hb33 hb44 hb47 hb53 hb57) hl.1 q1372 q1374 qs59 q14 q1375 ⟨by decide, by decide, by show _ = some 2; decide +kernel⟩ ⟨Nat.le_of_ble_eq_true rfl, Nat.le_of_ble_eq_true rfl⟩ ⟨Nat.le_of_ble_eq_true rfl, Nat.le_of_ble_eq_true rfl⟩ rfl (Nat.le_of_ble_eq_true rfl) d_Model_howOften_20 hP hD hS hA 0 12 rfl rfl rfl [0, 1] [] rfl rfl rfl rfl (by decide) (fun v w1 H locs hw_35 hP hD hS => ?_)
      obtain ⟨x_36, rfl, rfl, hx_36, hfx_37⟩ := hw_35
      have hP : va_P G.1 classes [(b0, .inr (12, [.int b3, .ref b4, .ref b5, .ref b6, .ref b7, .int b8, .ref b9, .int b10, .int b11, .int b12, .int b13, .ref b14, .ref b15, .ref b16, .int b17, .ref b18, .ref b19, .ref b20, .ref b21, .ref b22, .ref b23, .ref b24, .ref b25, .ref b26, .ref b27, .ref b28, .ref b29, .int b30, .ref b31, .ref b32, .int b33, .int b34, .int b35, .int b36, .ref b37, .ref b38, .ref b39, .ref b40, .ref b41, .ref b42, .ref b43, .int b44, .ref b45, .ref b46, .int b47, .ref b48, .ref b49, .ref b50, .ref b51, .ref b52, .int b53, .ref b54, .ref b55, .ref b56])), (b4, .inl (G.2 0, 503, .inl b57))] H := hP
      have hD := z_tie hP hD rfl
      refine W.widen (k := 0) (n := 0) (Nat.le_of_ble_eq_true rfl) (Nat.le_of_ble_eq_true rfl) ?_
      refine lv_iload_n hx hb d_Model_howOften_23 rfl (lv_at hl 4 rfl) ?_
      refine lv_icmp_ne (tgt := 31) hx hb d_Model_howOften_24 (by decide) (fun hc_38 => ?_) (fun hc_38 => ?_)
      · have _nhc_38 := hc_38
        have ni_39 : ¬ (x_36 : Int32).toInt = (b2 : Int32).toInt := fun z => hc_38 ((fa_eq _ _).mpr z)
        refine lv_iconst (v := 0) hx hb d_Model_howOften_31 (by decide) ?_
        refine lv_iadd hx hb d_Model_howOften_32 ?_
        refine lv_topi (fun v_40 ev_40 => ?_)
        obtain ⟨qv_40, hv_40⟩ := zI_add (l := -2147483648) (h := 2147483647) (zI_all y_24) zc_0 ev_40 (by decide)
        rw [li_0] at qv_40
        refine lv_istore_n (lv' := [(3, .int v_40), (4, .int y_23), (0, .ref b0), (1, .int b1), (2, .int b2)]) hx hb d_Model_howOften_33 rfl hl (by decide) rfl (fun ls hl => ?_)
        obtain ⟨v_41, ev_41⟩ : ∃ z : Int32, z = y_23 + 1 := ⟨_, rfl⟩
        obtain ⟨qv_41, hv_41⟩ := zI_add (l := 1) (h := 12) hv_33 zc_1 ev_41 (by decide)
        rw [li_1] at qv_41
        refine lv_iinc (v := v_41) (lv' := [(4, .int v_41), (3, .int v_40), (0, .ref b0), (1, .int b1), (2, .int b2)]) hx hb d_Model_howOften_34 hl (k := 1) rfl (by rw [ev_41]; rfl) (by decide) rfl (fun ls hl => ?_)
        refine lv_goto (tgt := 5) hx hb d_Model_howOften_37 (by decide) ?_
        exact ihk_22 (v_41) (v_40) _ _ _ (zI.wk (l' := 0) (h' := 12) hv_41 (by decide)) (by have c9 := congrArg Int32.toInt hfx_29; omega) (by have g9 := hfx_37; first | exact zcn_s hli_26 (by omega) (Or.inl ⟨(g9.symm.trans ((fa_eq _ _).mpr (by omega))), ev_40⟩) (by omega) | exact zcn_s hli_26 (by omega) (Or.inr ⟨(fun q => by have q8 := congrArg Int32.toInt (g9.trans q); omega), ev_40⟩) (by omega)) (zm_up qv_41 hmk_22 (by decide)) hP hD hS (lv_sub hl [0, 1, 2, 3, 4] rfl)
      · have _nhc_38 := hc_38
        have ni_42 := (fa_eq _ _).mp hc_38
        have hv_43 : zI b2 0 9 := zI.eq_l (zI_all b2) hx_36 hc_38.symm
        refine lv_iconst (v := 1) hx hb d_Model_howOften_27 (by decide) ?_
        refine lv_goto (tgt := 32) hx hb d_Model_howOften_28 (by decide) ?_
        refine lv_iadd hx hb d_Model_howOften_32 ?_
        refine lv_topi (fun v_44 ev_44 => ?_)
        refine lv_istore_n (lv' := [(3, .int v_44), (4, .int y_23), (0, .ref b0), (1, .int b1), (2, .int b2)]) hx hb d_Model_howOften_33 rfl hl (by decide) rfl (fun ls hl => ?_)
        obtain ⟨v_45, ev_45⟩ : ∃ z : Int32, z = y_23 + 1 := ⟨_, rfl⟩
        obtain ⟨qv_45, hv_45⟩ := zI_add (l := 1) (h := 12) hv_33 zc_1 ev_45 (by decide)
        rw [li_1] at qv_45
        refine lv_iinc (v := v_45) (lv' := [(4, .int v_45), (3, .int v_44), (0, .ref b0), (1, .int b1), (2, .int b2)]) hx hb d_Model_howOften_34 hl (k := 1) rfl (by rw [ev_45]; rfl) (by decide) rfl (fun ls hl => ?_)
        refine lv_goto (tgt := 5) hx hb d_Model_howOften_37 (by decide) ?_
        exact ihk_22 (v_45) (v_44) _ _ _ (zI.wk (l' := 0) (h' := 12) hv_45 (by decide)) (by have c9 := congrArg Int32.toInt hfx_29; omega) (by have g9 := hfx_37; first | exact zcn_s hli_26 (by omega) (Or.inl ⟨(g9.symm.trans ((fa_eq _ _).mpr (by omega))), ev_44⟩) (by omega) | exact zcn_s hli_26 (by omega) (Or.inr ⟨(fun q => by have q8 := congrArg Int32.toInt (g9.trans q); omega), ev_44⟩) (by omega)) (zm_up qv_45 hmk_22 (by decide)) hP hD hS (lv_sub hl [0, 1, 2, 3, 4] rfl)
abbrev m_s2_Model_rightBehind : Room := { frames := 1, cells := 0, slots := 0, locals := 22 }
set_option maxHeartbeats 4000000 in
set_option maxRecDepth 100000 in
theorem s2_Model_rightBehind (l : Launch) (G : zG) (b0 : Nat) (b1 : Int32) (b2 : Int32) (b3 : Int32) (b4 : Int32) (b5 : Nat) (b6 : Nat) (b7 : Nat) (b8 : Nat) (b9 : Int32) (b10 : Nat) (b11 : Int32) (b12 : Int32) (b13 : Int32) (b14 : Int32) (b15 : Nat) (b16 : Nat) (b17 : Nat) (b18 : Int32) (b19 : Nat) (b20 : Nat) (b21 : Nat) (b22 : Nat) (b23 : Nat) (b24 : Nat) (b25 : Nat) (b26 : Nat) (b27 : Nat) (b28 : Nat) (b29 : Nat) (b30 : Nat) (b31 : Int32) (b32 : Nat) (b33 : Nat) (b34 : Int32) (b35 : Int32) (b36 : Int32) (b37 : Int32) (b38 : Nat) (b39 : Nat) (b40 : Nat) (b41 : Nat) (b42 : Nat) (b43 : Nat) (b44 : Nat) (b45 : Int32) (b46 : Nat) (b47 : Nat) (b48 : Int32) (b49 : Nat) (b50 : Nat) (b51 : Nat) (b52 : Nat) (b53 : Nat) (b54 : Int32) (b55 : Nat) (b56 : Nat) (b57 : Nat) (b58 : Nat → Int32) (hb1 : zI b1 0 19) (hb9 : zI b9 0 8) (hb11 : zI b11 0 240) (hb12 : zI b12 0 240) (hb14 : zI b14 0 1) (hb18 : zI b18 0 12) (hb31 : zI b31 0 1) (hb34 : zI b34 0 1) (hb45 : zI b45 0 1000) (hb48 : zI b48 0 1000) (hb54 : zI b54 0 400) (hb58 : zW5 b58) : zM l G y_Model_rightBehind prog_14_method_75_code 6 (Option.some Jvm.ClassFile.FieldType.boolean) m_s2_Model_rightBehind [.ref b0, .int b1, .int b2, .int b3] [(b0, .inr (12, [.int b4, .ref b5, .ref b6, .ref b7, .ref b8, .int b9, .ref b10, .int b11, .int b12, .int b13, .int b14, .ref b15, .ref b16, .ref b17, .int b18, .ref b19, .ref b20, .ref b21, .ref b22, .ref b23, .ref b24, .ref b25, .ref b26, .ref b27, .ref b28, .ref b29, .ref b30, .int b31, .ref b32, .ref b33, .int b34, .int b35, .int b36, .int b37, .ref b38, .ref b39, .ref b40, .ref b41, .ref b42, .ref b43, .ref b44, .int b45, .ref b46, .ref b47, .int b48, .ref b49, .ref b50, .ref b51, .ref b52, .ref b53, .int b54, .ref b55, .ref b56, .ref b57])), (b5, .inl (G.2 0, 503, .inl b58))] (fun v w => ∃ (e0 : Int32), v = some (.int e0) ∧ w = [(b0, .inr (12, [.int b4, .ref b5, .ref b6, .ref b7, .ref b8, .int b9, .ref b10, .int b11, .int b12, .int b13, .int b14, .ref b15, .ref b16, .ref b17, .int b18, .ref b19, .ref b20, .ref b21, .ref b22, .ref b23, .ref b24, .ref b25, .ref b26, .ref b27, .ref b28, .ref b29, .ref b30, .int b31, .ref b32, .ref b33, .int b34, .int b35, .int b36, .int b37, .ref b38, .ref b39, .ref b40, .ref b41, .ref b42, .ref b43, .ref b44, .int b45, .ref b46, .ref b47, .int b48, .ref b49, .ref b50, .ref b51, .ref b52, .ref b53, .int b54, .ref b55, .ref b56, .ref b57])), (b5, .inl (G.2 0, 503, .inl b58))] ∧ (zI e0 0 1) ∧ ((e0 : Int32).toInt = zrb (fun i => b58 (21 + (12 * (b1 : Int32).toInt.toNat + i))) (b58 (1 + (b1 : Int32).toInt.toNat)).toInt.toNat b2 b3 (b58 (1 + (b1 : Int32).toInt.toNat)).toInt.toNat)) := by
  refine z_start (by decide +kernel) (Nat.le_of_ble_eq_true rfl) ?_
  intro p e s m below meth c A Z hr hnm hA hP hD hS ls hl
  have Z : zC p s m _ meth c prog_14_method_75_code 6 "TraceMachinesModel" G := Z
  obtain ⟨hx, hb, hml, hown, hts, hK, hN, hlocks⟩ := id Z
  have hl : lv_has ls 6 [(0, .ref b0), (1, .int b1), (2, .int b2), (3, .int b3)] := hl
  refine lv_iconst (v := 1) hx hb d_Model_rightBehind_0 (by decide) ?_
  refine lv_istore (lv' := [(4, .int 1), (0, .ref b0), (1, .int b1), (2, .int b2), (3, .int b3)]) hx hb d_Model_rightBehind_1 hl (by decide) rfl (fun ls hl => ?_)
  refine lv_iconst (v := 0) hx hb d_Model_rightBehind_3 (by decide) ?_
  refine lv_istore (lv' := [(5, .int 0), (4, .int 1), (0, .ref b0), (1, .int b1), (2, .int b2), (3, .int b3)]) hx hb d_Model_rightBehind_4 hl (by decide) rfl (fun ls hl => ?_)
  suffices key : ∀ (k_46 : Nat) (y_47 : Int32) (y_48 : Int32) (H : Heap) (locs : List Loc) (ls : Array Slot), (zI y_47 0 12) → (zI y_48 0 1) → ((y_47 : Int32).toInt ≤ (((b58 (1 + (b1 : Int32).toInt.toNat)).toInt.toNat : Nat) : Int)) → ((y_48 : Int32).toInt = zrb (fun i => b58 (21 + (12 * (b1 : Int32).toInt.toNat + i))) (b58 (1 + (b1 : Int32).toInt.toNat)).toInt.toNat b2 b3 (y_47 : Int32).toInt.toNat) → (12 : Int) - y_47.toInt < (k_46 : Int) → va_P G.1 classes [(b0, .inr (12, [.int b4, .ref b5, .ref b6, .ref b7, .ref b8, .int b9, .ref b10, .int b11, .int b12, .int b13, .int b14, .ref b15, .ref b16, .ref b17, .int b18, .ref b19, .ref b20, .ref b21, .ref b22, .ref b23, .ref b24, .ref b25, .ref b26, .ref b27, .ref b28, .ref b29, .ref b30, .int b31, .ref b32, .ref b33, .int b34, .int b35, .int b36, .int b37, .ref b38, .ref b39, .ref b40, .ref b41, .ref b42, .ref b43, .ref b44, .int b45, .ref b46, .ref b47, .int b48, .ref b49, .ref b50, .ref b51, .ref b52, .ref b53, .int b54, .ref b55, .ref b56, .ref b57])), (b5, .inl (G.2 0, 503, .inl b58))] H → va_D A [(b0, .inr (12, [.int b4, .ref b5, .ref b6, .ref b7, .ref b8, .int b9, .ref b10, .int b11, .int b12, .int b13, .int b14, .ref b15, .ref b16, .ref b17, .int b18, .ref b19, .ref b20, .ref b21, .ref b22, .ref b23, .ref b24, .ref b25, .ref b26, .ref b27, .ref b28, .ref b29, .ref b30, .int b31, .ref b32, .ref b33, .int b34, .int b35, .int b36, .int b37, .ref b38, .ref b39, .ref b40, .ref b41, .ref b42, .ref b43, .ref b44, .int b45, .ref b46, .ref b47, .int b48, .ref b49, .ref b50, .ref b51, .ref b52, .ref b53, .int b54, .ref b55, .ref b56, .ref b57])), (b5, .inl (G.2 0, 503, .inl b58))] → va_S A s.heap H locs → lv_has ls 6 [(5, .int y_47), (4, .int y_48), (0, .ref b0), (1, .int b1), (2, .int b2), (3, .int b3)] → W p l e m_s2_Model_rightBehind s m ([.ref b0, .int b1, .int b2, .int b3] : List Value).toArray below meth c H locs 0 0 (MQ below (zQ G (fun v w => ∃ (e0 : Int32), v = some (.int e0) ∧ w = [(b0, .inr (12, [.int b4, .ref b5, .ref b6, .ref b7, .ref b8, .int b9, .ref b10, .int b11, .int b12, .int b13, .int b14, .ref b15, .ref b16, .ref b17, .int b18, .ref b19, .ref b20, .ref b21, .ref b22, .ref b23, .ref b24, .ref b25, .ref b26, .ref b27, .ref b28, .ref b29, .ref b30, .int b31, .ref b32, .ref b33, .int b34, .int b35, .int b36, .int b37, .ref b38, .ref b39, .ref b40, .ref b41, .ref b42, .ref b43, .ref b44, .int b45, .ref b46, .ref b47, .int b48, .ref b49, .ref b50, .ref b51, .ref b52, .ref b53, .int b54, .ref b55, .ref b56, .ref b57])), (b5, .inl (G.2 0, 503, .inl b58))] ∧ (zI e0 0 1) ∧ ((e0 : Int32).toInt = zrb (fun i => b58 (21 + (12 * (b1 : Int32).toInt.toNat + i))) (b58 (1 + (b1 : Int32).toInt.toNat)).toInt.toNat b2 b3 (b58 (1 + (b1 : Int32).toInt.toNat)).toInt.toNat)) A) ([.ref b0, .int b1, .int b2, .int b3] : List Value).toArray s m_s2_Model_rightBehind.cells m_s2_Model_rightBehind.slots A) (F0 m 6 ls []) by
    exact key 13 (0) (1) _ _ _ (zI.wk (l' := 0) (h' := 12) zc_0 (by decide)) (zI.wk (l' := 0) (h' := 1) zc_1 (by decide)) (by have _l := li_0; omega) (by rw [li_1, show (0 : Int32).toInt.toNat = 0 by rw [li_0]; rfl]; rfl) (zm_upi (zI.wk (l' := 0) (h' := 12) zc_0 (by decide)) (by decide)) hP hD hS (lv_sub hl [0, 1, 2, 3, 4, 5] rfl)
  intro k_46
  induction k_46 with
  | zero =>
    intro y_47 y_48 H locs ls hy_47 hy_48 hli_49 hli_50 hmk_46 hP hD hS hl
    exact (zm_up0 hy_47 hmk_46).elim
  | succ k_46 ihk_46 =>
    intro y_47 y_48 H locs ls hy_47 hy_48 hli_49 hli_50 hmk_46 hP hD hS hl
    refine lv_iload hx hb d_Model_rightBehind_6 (lv_at hl 0 rfl) ?_
    refine lv_aload_n hx hb d_Model_rightBehind_8 rfl (lv_at hl 2 rfl) ?_
    refine lv_iload_n hx hb d_Model_rightBehind_9 rfl (lv_at hl 3 rfl) ?_
    refine z_callV (index := 203) (As := [.int b1]) (rest := [.int y_47]) (wr := []) Z (s1_Model_calls l G (b0) (b1) (b4) (b5) (b6) (b7) (b8) (b9) (b10) (b11) (b12) (b13) (b14) (b15) (b16) (b17) (b18) (b19) (b20) (b21) (b22) (b23) (b24) (b25) (b26) (b27) (b28) (b29) (b30) (b31) (b32) (b33) (b34) (b35) (b36) (b37) (b38) (b39) (b40) (b41) (b42) (b43) (b44) (b45) (b46) (b47) (b48) (b49) (b50) (b51) (b52) (b53) (b54) (b55) (b56) (b57) (b58) hb1 hb9 hb11 hb12 hb14 hb18 hb31 hb34 hb45 hb48 hb54 hb58) hl.1 q1352 q1354 qs54 q14 q1355 ⟨by decide, by decide, by show _ = some 1; decide +kernel⟩ ⟨Nat.le_of_ble_eq_true rfl, Nat.le_of_ble_eq_true rfl⟩ ⟨Nat.le_of_ble_eq_true rfl, Nat.le_of_ble_eq_true rfl⟩ rfl (Nat.le_of_ble_eq_true rfl) d_Model_rightBehind_10 hP hD hS hA 0 12 rfl rfl rfl [0, 1] [] rfl rfl rfl rfl (by decide) (fun v w1 H locs hw_51 hP hD hS => ?_)
    obtain ⟨x_52, rfl, rfl, hx_52, hfx_53⟩ := hw_51
    have hP : va_P G.1 classes [(b0, .inr (12, [.int b4, .ref b5, .ref b6, .ref b7, .ref b8, .int b9, .ref b10, .int b11, .int b12, .int b13, .int b14, .ref b15, .ref b16, .ref b17, .int b18, .ref b19, .ref b20, .ref b21, .ref b22, .ref b23, .ref b24, .ref b25, .ref b26, .ref b27, .ref b28, .ref b29, .ref b30, .int b31, .ref b32, .ref b33, .int b34, .int b35, .int b36, .int b37, .ref b38, .ref b39, .ref b40, .ref b41, .ref b42, .ref b43, .ref b44, .int b45, .ref b46, .ref b47, .int b48, .ref b49, .ref b50, .ref b51, .ref b52, .ref b53, .int b54, .ref b55, .ref b56, .ref b57])), (b5, .inl (G.2 0, 503, .inl b58))] H := hP
    have hD := z_tie hP hD rfl
    refine W.widen (k := 0) (n := 0) (Nat.le_of_ble_eq_true rfl) (Nat.le_of_ble_eq_true rfl) ?_
    refine lv_icmp_ge (tgt := 70) hx hb d_Model_rightBehind_13 (by decide) (fun hc_54 => ?_) (fun hc_54 => ?_)
    · have _nhc_54 := hc_54
      have ni_55 := (fa_le _ _).mp hc_54
      refine lv_iload hx hb d_Model_rightBehind_70 (lv_at hl 1 rfl) ?_
      exact z_zret hx hb hr hlocks (zi_nb hy_48) hP hD hS (Nat.le_of_ble_eq_true rfl) (Nat.le_of_ble_eq_true rfl) d_Model_rightBehind_72 ⟨y_48, rfl, rfl, hy_48, (by have i9 := hli_49; have c9 := congrArg Int32.toInt hfx_53; have j9 := hli_50; rw [show y_47.toInt.toNat = (b58 (1 + b1.toInt.toNat)).toInt.toNat by omega] at j9; exact j9)⟩
    · have _nhc_54 := hc_54
      have ni_56 := (fa_lt _ _).mp (zi_nle hc_54)
      have hv_57 : zI y_47 0 11 := zI.lt_l hy_47 hx_52 (zi_nle hc_54) (by decide)
      have hv_58 : zI x_52 1 12 := zI.lt_r hy_47 hx_52 (zi_nle hc_54) (by decide)
      refine lv_iload hx hb d_Model_rightBehind_16 (lv_at hl 1 rfl) ?_
      refine lv_if_eq (tgt := 61) hx hb d_Model_rightBehind_18 (by decide) (fun hc_59 => ?_) (fun hc_59 => ?_)
      · have _nhc_59 := hc_59
        have ni_60 := (fa_eq _ _).mp hc_59
        rw [li_0] at ni_60
        have hv_61 : zI y_48 0 0 := zI.eq_l hy_48 zc_0 hc_59
        refine lv_iconst (v := 0) hx hb d_Model_rightBehind_61 (by decide) ?_
        refine lv_istore (lv' := [(4, .int 0), (5, .int y_47), (0, .ref b0), (1, .int b1), (2, .int b2), (3, .int b3)]) hx hb d_Model_rightBehind_62 hl (by decide) rfl (fun ls hl => ?_)
        obtain ⟨v_62, ev_62⟩ : ∃ z : Int32, z = y_47 + 1 := ⟨_, rfl⟩
        obtain ⟨qv_62, hv_62⟩ := zI_add (l := 1) (h := 12) hv_57 zc_1 ev_62 (by decide)
        rw [li_1] at qv_62
        refine lv_iinc (v := v_62) (lv' := [(5, .int v_62), (4, .int 0), (0, .ref b0), (1, .int b1), (2, .int b2), (3, .int b3)]) hx hb d_Model_rightBehind_64 hl (k := 1) rfl (by rw [ev_62]; rfl) (by decide) rfl (fun ls hl => ?_)
        refine lv_goto (tgt := 6) hx hb d_Model_rightBehind_67 (by decide) ?_
        exact ihk_46 (v_62) (0) _ _ _ (zI.wk (l' := 0) (h' := 12) hv_62 (by decide)) (zI.wk (l' := 0) (h' := 1) zc_0 (by decide)) (by have c9 := congrArg Int32.toInt hfx_53; omega) (by have _l0 := li_0; have _l1 := li_1; exact zrb_s hli_50 (Or.inl ⟨by omega, by omega⟩) (by omega)) (zm_up qv_62 hmk_46 (by decide)) hP hD hS (lv_sub hl [0, 1, 2, 3, 4, 5] rfl)
      · have _nhc_59 := hc_59
        have ni_63 : ¬ (y_48 : Int32).toInt = (0 : Int32).toInt := fun z => hc_59 ((fa_eq _ _).mpr z)
        simp only [li_0] at ni_63
        have hv_64 : zI y_48 1 1 := zI.ne_lo hy_48 zc_0 hc_59 (by decide)
        refine lv_aload_n hx hb d_Model_rightBehind_21 rfl (lv_at hl 2 rfl) ?_
        refine lv_iload_n hx hb d_Model_rightBehind_22 rfl (lv_at hl 3 rfl) ?_
        refine lv_iload hx hb d_Model_rightBehind_23 (lv_at hl 0 rfl) ?_
        refine z_callV (index := 207) (As := [.int b1, .int y_47]) (rest := []) (wr := []) Z (s2_Model_letterAt l G (b0) (b1) (y_47) (b4) (b5) (b6) (b7) (b8) (b9) (b10) (b11) (b12) (b13) (b14) (b15) (b16) (b17) (b18) (b19) (b20) (b21) (b22) (b23) (b24) (b25) (b26) (b27) (b28) (b29) (b30) (b31) (b32) (b33) (b34) (b35) (b36) (b37) (b38) (b39) (b40) (b41) (b42) (b43) (b44) (b45) (b46) (b47) (b48) (b49) (b50) (b51) (b52) (b53) (b54) (b55) (b56) (b57) (b58) hb1 hv_57 hb9 hb11 hb12 hb14 hb18 hb31 hb34 hb45 hb48 hb54 hb58) hl.1 q1372 q1374 qs59 q14 q1375 ⟨by decide, by decide, by show _ = some 2; decide +kernel⟩ ⟨Nat.le_of_ble_eq_true rfl, Nat.le_of_ble_eq_true rfl⟩ ⟨Nat.le_of_ble_eq_true rfl, Nat.le_of_ble_eq_true rfl⟩ rfl (Nat.le_of_ble_eq_true rfl) d_Model_rightBehind_25 hP hD hS hA 0 12 rfl rfl rfl [0, 1] [] rfl rfl rfl rfl (by decide) (fun v w1 H locs hw_65 hP hD hS => ?_)
        obtain ⟨x_66, rfl, rfl, hx_66, hfx_67⟩ := hw_65
        have hP : va_P G.1 classes [(b0, .inr (12, [.int b4, .ref b5, .ref b6, .ref b7, .ref b8, .int b9, .ref b10, .int b11, .int b12, .int b13, .int b14, .ref b15, .ref b16, .ref b17, .int b18, .ref b19, .ref b20, .ref b21, .ref b22, .ref b23, .ref b24, .ref b25, .ref b26, .ref b27, .ref b28, .ref b29, .ref b30, .int b31, .ref b32, .ref b33, .int b34, .int b35, .int b36, .int b37, .ref b38, .ref b39, .ref b40, .ref b41, .ref b42, .ref b43, .ref b44, .int b45, .ref b46, .ref b47, .int b48, .ref b49, .ref b50, .ref b51, .ref b52, .ref b53, .int b54, .ref b55, .ref b56, .ref b57])), (b5, .inl (G.2 0, 503, .inl b58))] H := hP
        have hD := z_tie hP hD rfl
        refine W.widen (k := 0) (n := 0) (Nat.le_of_ble_eq_true rfl) (Nat.le_of_ble_eq_true rfl) ?_
        refine lv_iload_n hx hb d_Model_rightBehind_28 rfl (lv_at hl 4 rfl) ?_
        refine lv_icmp_ne (tgt := 57) hx hb d_Model_rightBehind_29 (by decide) (fun hc_68 => ?_) (fun hc_68 => ?_)
        · have _nhc_68 := hc_68
          have ni_69 : ¬ (x_66 : Int32).toInt = (b2 : Int32).toInt := fun z => hc_68 ((fa_eq _ _).mpr z)
          refine lv_iconst (v := 1) hx hb d_Model_rightBehind_57 (by decide) ?_
          refine lv_goto (tgt := 62) hx hb d_Model_rightBehind_58 (by decide) ?_
          refine lv_istore (lv' := [(4, .int 1), (5, .int y_47), (0, .ref b0), (1, .int b1), (2, .int b2), (3, .int b3)]) hx hb d_Model_rightBehind_62 hl (by decide) rfl (fun ls hl => ?_)
          obtain ⟨v_70, ev_70⟩ : ∃ z : Int32, z = y_47 + 1 := ⟨_, rfl⟩
          obtain ⟨qv_70, hv_70⟩ := zI_add (l := 1) (h := 12) hv_57 zc_1 ev_70 (by decide)
          rw [li_1] at qv_70
          refine lv_iinc (v := v_70) (lv' := [(5, .int v_70), (4, .int 1), (0, .ref b0), (1, .int b1), (2, .int b2), (3, .int b3)]) hx hb d_Model_rightBehind_64 hl (k := 1) rfl (by rw [ev_70]; rfl) (by decide) rfl (fun ls hl => ?_)
          refine lv_goto (tgt := 6) hx hb d_Model_rightBehind_67 (by decide) ?_
          exact ihk_46 (v_70) (1) _ _ _ (zI.wk (l' := 0) (h' := 12) hv_70 (by decide)) (zI.wk (l' := 0) (h' := 1) zc_1 (by decide)) (by have c9 := congrArg Int32.toInt hfx_53; omega) (by have _l0 := li_0; have _l1 := li_1; have g9 := hfx_67; exact zrb_s hli_50 (Or.inr (Or.inl ⟨by omega, (fun q => by have q8 := congrArg Int32.toInt (g9.trans q); omega), by omega⟩)) (by omega)) (zm_up qv_70 hmk_46 (by decide)) hP hD hS (lv_sub hl [0, 1, 2, 3, 4, 5] rfl)
        · have _nhc_68 := hc_68
          have ni_71 := (fa_eq _ _).mp hc_68
          have hv_72 : zI b2 0 9 := zI.eq_l (zI_all b2) hx_66 hc_68.symm
          refine lv_iload hx hb d_Model_rightBehind_32 (lv_at hl 0 rfl) ?_
          refine lv_iconst (v := 1) hx hb d_Model_rightBehind_34 (by decide) ?_
          refine lv_iadd hx hb d_Model_rightBehind_35 ?_
          refine lv_topi (fun v_73 ev_73 => ?_)
          obtain ⟨qv_73, hv_73⟩ := zI_add (l := 1) (h := 12) hv_57 zc_1 ev_73 (by decide)
          rw [li_1] at qv_73
          refine lv_aload_n hx hb d_Model_rightBehind_36 rfl (lv_at hl 2 rfl) ?_
          refine lv_iload_n hx hb d_Model_rightBehind_37 rfl (lv_at hl 3 rfl) ?_
          refine z_callV (index := 203) (As := [.int b1]) (rest := [.int v_73]) (wr := []) Z (s1_Model_calls l G (b0) (b1) (b4) (b5) (b6) (b7) (b8) (b9) (b10) (b11) (b12) (b13) (b14) (b15) (b16) (b17) (b18) (b19) (b20) (b21) (b22) (b23) (b24) (b25) (b26) (b27) (b28) (b29) (b30) (b31) (b32) (b33) (b34) (b35) (b36) (b37) (b38) (b39) (b40) (b41) (b42) (b43) (b44) (b45) (b46) (b47) (b48) (b49) (b50) (b51) (b52) (b53) (b54) (b55) (b56) (b57) (b58) hb1 hb9 hb11 hb12 hb14 hb18 hb31 hb34 hb45 hb48 hb54 hb58) hl.1 q1352 q1354 qs54 q14 q1355 ⟨by decide, by decide, by show _ = some 1; decide +kernel⟩ ⟨Nat.le_of_ble_eq_true rfl, Nat.le_of_ble_eq_true rfl⟩ ⟨Nat.le_of_ble_eq_true rfl, Nat.le_of_ble_eq_true rfl⟩ rfl (Nat.le_of_ble_eq_true rfl) d_Model_rightBehind_38 hP hD hS hA 0 12 rfl rfl rfl [0, 1] [] rfl rfl rfl rfl (by decide) (fun v w1 H locs hw_74 hP hD hS => ?_)
          obtain ⟨x_75, rfl, rfl, hx_75, hfx_76⟩ := hw_74
          have hP : va_P G.1 classes [(b0, .inr (12, [.int b4, .ref b5, .ref b6, .ref b7, .ref b8, .int b9, .ref b10, .int b11, .int b12, .int b13, .int b14, .ref b15, .ref b16, .ref b17, .int b18, .ref b19, .ref b20, .ref b21, .ref b22, .ref b23, .ref b24, .ref b25, .ref b26, .ref b27, .ref b28, .ref b29, .ref b30, .int b31, .ref b32, .ref b33, .int b34, .int b35, .int b36, .int b37, .ref b38, .ref b39, .ref b40, .ref b41, .ref b42, .ref b43, .ref b44, .int b45, .ref b46, .ref b47, .int b48, .ref b49, .ref b50, .ref b51, .ref b52, .ref b53, .int b54, .ref b55, .ref b56, .ref b57])), (b5, .inl (G.2 0, 503, .inl b58))] H := hP
          have hD := z_tie hP hD rfl
          refine W.widen (k := 0) (n := 0) (Nat.le_of_ble_eq_true rfl) (Nat.le_of_ble_eq_true rfl) ?_
          refine lv_icmp_ge (tgt := 61) hx hb d_Model_rightBehind_41 (by decide) (fun hc_77 => ?_) (fun hc_77 => ?_)
          · have _nhc_77 := hc_77
            have ni_78 := (fa_le _ _).mp hc_77
            refine lv_iconst (v := 0) hx hb d_Model_rightBehind_61 (by decide) ?_
            refine lv_istore (lv' := [(4, .int 0), (5, .int y_47), (0, .ref b0), (1, .int b1), (2, .int b2), (3, .int b3)]) hx hb d_Model_rightBehind_62 hl (by decide) rfl (fun ls hl => ?_)
            obtain ⟨v_79, ev_79⟩ : ∃ z : Int32, z = y_47 + 1 := ⟨_, rfl⟩
            obtain ⟨qv_79, hv_79⟩ := zI_add (l := 1) (h := 12) hv_57 zc_1 ev_79 (by decide)
            rw [li_1] at qv_79
            refine lv_iinc (v := v_79) (lv' := [(5, .int v_79), (4, .int 0), (0, .ref b0), (1, .int b1), (2, .int b2), (3, .int b3)]) hx hb d_Model_rightBehind_64 hl (k := 1) rfl (by rw [ev_79]; rfl) (by decide) rfl (fun ls hl => ?_)
            refine lv_goto (tgt := 6) hx hb d_Model_rightBehind_67 (by decide) ?_
            exact ihk_46 (v_79) (0) _ _ _ (zI.wk (l' := 0) (h' := 12) hv_79 (by decide)) (zI.wk (l' := 0) (h' := 1) zc_0 (by decide)) (by have c9 := congrArg Int32.toInt hfx_53; omega) (by have _l0 := li_0; have _l1 := li_1; have g9 := hfx_67; have c8 := congrArg Int32.toInt hfx_76; exact zrb_s hli_50 (Or.inr (Or.inr (Or.inr ⟨(g9.symm.trans ((fa_eq _ _).mpr (by omega))), fun q => by omega, by omega⟩))) (by omega)) (zm_up qv_79 hmk_46 (by decide)) hP hD hS (lv_sub hl [0, 1, 2, 3, 4, 5] rfl)
          · have _nhc_77 := hc_77
            have ni_80 := (fa_lt _ _).mp (zi_nle hc_77)
            have hv_81 : zI v_73 1 11 := zI.lt_l hv_73 hx_75 (zi_nle hc_77) (by decide)
            have hv_82 : zI y_47 0 10 := by have _a := hv_81; have _b := qv_73; have _c := zc_1; have _d := hv_57; exact ⟨by omega, by omega⟩
            have hv_83 : zI x_75 2 12 := zI.lt_r hv_73 hx_75 (zi_nle hc_77) (by decide)
            refine lv_aload_n hx hb d_Model_rightBehind_44 rfl (lv_at hl 2 rfl) ?_
            refine lv_iload_n hx hb d_Model_rightBehind_45 rfl (lv_at hl 3 rfl) ?_
            refine lv_iload hx hb d_Model_rightBehind_46 (lv_at hl 0 rfl) ?_
            refine lv_iconst (v := 1) hx hb d_Model_rightBehind_48 (by decide) ?_
            refine lv_iadd hx hb d_Model_rightBehind_49 ?_
            refine lv_topi (fun v_84 ev_84 => ?_)
            obtain rfl : v_73 = v_84 := ev_73.trans ev_84.symm
            refine z_callV (index := 207) (As := [.int b1, .int v_73]) (rest := []) (wr := []) Z (s2_Model_letterAt l G (b0) (b1) (v_73) (b4) (b5) (b6) (b7) (b8) (b9) (b10) (b11) (b12) (b13) (b14) (b15) (b16) (b17) (b18) (b19) (b20) (b21) (b22) (b23) (b24) (b25) (b26) (b27) (b28) (b29) (b30) (b31) (b32) (b33) (b34) (b35) (b36) (b37) (b38) (b39) (b40) (b41) (b42) (b43) (b44) (b45) (b46) (b47) (b48) (b49) (b50) (b51) (b52) (b53) (b54) (b55) (b56) (b57) (b58) hb1 (zI.wk (l' := 0) (h' := 11) hv_81 (by decide)) hb9 hb11 hb12 hb14 hb18 hb31 hb34 hb45 hb48 hb54 hb58) hl.1 q1372 q1374 qs59 q14 q1375 ⟨by decide, by decide, by show _ = some 2; decide +kernel⟩ ⟨Nat.le_of_ble_eq_true rfl, Nat.le_of_ble_eq_true rfl⟩ ⟨Nat.le_of_ble_eq_true rfl, Nat.le_of_ble_eq_true rfl⟩ rfl (Nat.le_of_ble_eq_true rfl) d_Model_rightBehind_50 hP hD hS hA 0 12 rfl rfl rfl [0, 1] [] rfl rfl rfl rfl (by decide) (fun v w1 H locs hw_85 hP hD hS => ?_)
            obtain ⟨x_86, rfl, rfl, hx_86, hfx_87⟩ := hw_85
            have hP : va_P G.1 classes [(b0, .inr (12, [.int b4, .ref b5, .ref b6, .ref b7, .ref b8, .int b9, .ref b10, .int b11, .int b12, .int b13, .int b14, .ref b15, .ref b16, .ref b17, .int b18, .ref b19, .ref b20, .ref b21, .ref b22, .ref b23, .ref b24, .ref b25, .ref b26, .ref b27, .ref b28, .ref b29, .ref b30, .int b31, .ref b32, .ref b33, .int b34, .int b35, .int b36, .int b37, .ref b38, .ref b39, .ref b40, .ref b41, .ref b42, .ref b43, .ref b44, .int b45, .ref b46, .ref b47, .int b48, .ref b49, .ref b50, .ref b51, .ref b52, .ref b53, .int b54, .ref b55, .ref b56, .ref b57])), (b5, .inl (G.2 0, 503, .inl b58))] H := hP
            have hD := z_tie hP hD rfl
            refine W.widen (k := 0) (n := 0) (Nat.le_of_ble_eq_true rfl) (Nat.le_of_ble_eq_true rfl) ?_
            refine lv_iload_n hx hb d_Model_rightBehind_53 rfl (lv_at hl 5 rfl) ?_
            refine lv_icmp_ne (tgt := 61) hx hb d_Model_rightBehind_54 (by decide) (fun hc_88 => ?_) (fun hc_88 => ?_)
            · have _nhc_88 := hc_88
              have ni_89 : ¬ (x_86 : Int32).toInt = (b3 : Int32).toInt := fun z => hc_88 ((fa_eq _ _).mpr z)
              refine lv_iconst (v := 0) hx hb d_Model_rightBehind_61 (by decide) ?_
              refine lv_istore (lv' := [(4, .int 0), (5, .int y_47), (0, .ref b0), (1, .int b1), (2, .int b2), (3, .int b3)]) hx hb d_Model_rightBehind_62 hl (by decide) rfl (fun ls hl => ?_)
              obtain ⟨v_90, ev_90⟩ : ∃ z : Int32, z = y_47 + 1 := ⟨_, rfl⟩
              obtain ⟨qv_90, hv_90⟩ := zI_add (l := 1) (h := 11) hv_82 zc_1 ev_90 (by decide)
              rw [li_1] at qv_90
              refine lv_iinc (v := v_90) (lv' := [(5, .int v_90), (4, .int 0), (0, .ref b0), (1, .int b1), (2, .int b2), (3, .int b3)]) hx hb d_Model_rightBehind_64 hl (k := 1) rfl (by rw [ev_90]; rfl) (by decide) rfl (fun ls hl => ?_)
              refine lv_goto (tgt := 6) hx hb d_Model_rightBehind_67 (by decide) ?_
              exact ihk_46 (v_90) (0) _ _ _ (zI.wk (l' := 0) (h' := 12) hv_90 (by decide)) (zI.wk (l' := 0) (h' := 1) zc_0 (by decide)) (by have c9 := congrArg Int32.toInt hfx_53; omega) (by have _l0 := li_0; have _l1 := li_1; have g9 := hfx_67; have c8 := congrArg Int32.toInt hfx_76; have g8 := hfx_87; rw [show (12 * b1.toInt.toNat + v_73.toInt.toNat) = 12 * b1.toInt.toNat + (y_47.toInt.toNat + 1) by omega] at g8; first | exact zrb_s hli_50 (Or.inr (Or.inr (Or.inl ⟨by omega, ⟨by omega, g8.symm.trans ((fa_eq _ _).mpr (by omega))⟩, by omega⟩))) (by omega) | exact zrb_s hli_50 (Or.inr (Or.inr (Or.inr ⟨(g9.symm.trans ((fa_eq _ _).mpr (by omega))), fun q => by have q8 := congrArg Int32.toInt (g8.trans q.2); omega, by omega⟩))) (by omega)) (zm_up qv_90 hmk_46 (by decide)) hP hD hS (lv_sub hl [0, 1, 2, 3, 4, 5] rfl)
            · have _nhc_88 := hc_88
              have ni_91 := (fa_eq _ _).mp hc_88
              have hv_92 : zI b3 0 9 := zI.eq_l (zI_all b3) hx_86 hc_88.symm
              refine lv_iconst (v := 1) hx hb d_Model_rightBehind_57 (by decide) ?_
              refine lv_goto (tgt := 62) hx hb d_Model_rightBehind_58 (by decide) ?_
              refine lv_istore (lv' := [(4, .int 1), (5, .int y_47), (0, .ref b0), (1, .int b1), (2, .int b2), (3, .int b3)]) hx hb d_Model_rightBehind_62 hl (by decide) rfl (fun ls hl => ?_)
              obtain ⟨v_93, ev_93⟩ : ∃ z : Int32, z = y_47 + 1 := ⟨_, rfl⟩
              obtain ⟨qv_93, hv_93⟩ := zI_add (l := 1) (h := 11) hv_82 zc_1 ev_93 (by decide)
              rw [li_1] at qv_93
              refine lv_iinc (v := v_93) (lv' := [(5, .int v_93), (4, .int 1), (0, .ref b0), (1, .int b1), (2, .int b2), (3, .int b3)]) hx hb d_Model_rightBehind_64 hl (k := 1) rfl (by rw [ev_93]; rfl) (by decide) rfl (fun ls hl => ?_)
              refine lv_goto (tgt := 6) hx hb d_Model_rightBehind_67 (by decide) ?_
              exact ihk_46 (v_93) (1) _ _ _ (zI.wk (l' := 0) (h' := 12) hv_93 (by decide)) (zI.wk (l' := 0) (h' := 1) zc_1 (by decide)) (by have c9 := congrArg Int32.toInt hfx_53; omega) (by have _l0 := li_0; have _l1 := li_1; have g9 := hfx_67; have c8 := congrArg Int32.toInt hfx_76; have g8 := hfx_87; rw [show (12 * b1.toInt.toNat + v_73.toInt.toNat) = 12 * b1.toInt.toNat + (y_47.toInt.toNat + 1) by omega] at g8; first | exact zrb_s hli_50 (Or.inr (Or.inr (Or.inl ⟨by omega, ⟨by omega, g8.symm.trans ((fa_eq _ _).mpr (by omega))⟩, by omega⟩))) (by omega) | exact zrb_s hli_50 (Or.inr (Or.inr (Or.inr ⟨(g9.symm.trans ((fa_eq _ _).mpr (by omega))), fun q => by have q8 := congrArg Int32.toInt (g8.trans q.2); omega, by omega⟩))) (by omega)) (zm_up qv_93 hmk_46 (by decide)) hP hD hS (lv_sub hl [0, 1, 2, 3, 4, 5] rfl)
abbrev m_s2_Model_inTurn : Room := { frames := 1, cells := 0, slots := 0, locals := 22 }
set_option maxHeartbeats 4000000 in
set_option maxRecDepth 100000 in
theorem s2_Model_inTurn (l : Launch) (G : zG) (b0 : Nat) (b1 : Int32) (b2 : Int32) (b3 : Int32) (b4 : Int32) (b5 : Nat) (b6 : Nat) (b7 : Nat) (b8 : Nat) (b9 : Int32) (b10 : Nat) (b11 : Int32) (b12 : Int32) (b13 : Int32) (b14 : Int32) (b15 : Nat) (b16 : Nat) (b17 : Nat) (b18 : Int32) (b19 : Nat) (b20 : Nat) (b21 : Nat) (b22 : Nat) (b23 : Nat) (b24 : Nat) (b25 : Nat) (b26 : Nat) (b27 : Nat) (b28 : Nat) (b29 : Nat) (b30 : Nat) (b31 : Int32) (b32 : Nat) (b33 : Nat) (b34 : Int32) (b35 : Int32) (b36 : Int32) (b37 : Int32) (b38 : Nat) (b39 : Nat) (b40 : Nat) (b41 : Nat) (b42 : Nat) (b43 : Nat) (b44 : Nat) (b45 : Int32) (b46 : Nat) (b47 : Nat) (b48 : Int32) (b49 : Nat) (b50 : Nat) (b51 : Nat) (b52 : Nat) (b53 : Nat) (b54 : Int32) (b55 : Nat) (b56 : Nat) (b57 : Nat) (b58 : Nat → Int32) (hb1 : zI b1 0 19) (hb9 : zI b9 0 8) (hb11 : zI b11 0 240) (hb12 : zI b12 0 240) (hb14 : zI b14 0 1) (hb18 : zI b18 0 12) (hb31 : zI b31 0 1) (hb34 : zI b34 0 1) (hb45 : zI b45 0 1000) (hb48 : zI b48 0 1000) (hb54 : zI b54 0 400) (hb58 : zW5 b58) : zM l G y_Model_inTurn prog_14_method_76_code 8 (Option.some Jvm.ClassFile.FieldType.boolean) m_s2_Model_inTurn [.ref b0, .int b1, .int b2, .int b3] [(b0, .inr (12, [.int b4, .ref b5, .ref b6, .ref b7, .ref b8, .int b9, .ref b10, .int b11, .int b12, .int b13, .int b14, .ref b15, .ref b16, .ref b17, .int b18, .ref b19, .ref b20, .ref b21, .ref b22, .ref b23, .ref b24, .ref b25, .ref b26, .ref b27, .ref b28, .ref b29, .ref b30, .int b31, .ref b32, .ref b33, .int b34, .int b35, .int b36, .int b37, .ref b38, .ref b39, .ref b40, .ref b41, .ref b42, .ref b43, .ref b44, .int b45, .ref b46, .ref b47, .int b48, .ref b49, .ref b50, .ref b51, .ref b52, .ref b53, .int b54, .ref b55, .ref b56, .ref b57])), (b5, .inl (G.2 0, 503, .inl b58))] (fun v w => ∃ (e0 : Int32), v = some (.int e0) ∧ w = [(b0, .inr (12, [.int b4, .ref b5, .ref b6, .ref b7, .ref b8, .int b9, .ref b10, .int b11, .int b12, .int b13, .int b14, .ref b15, .ref b16, .ref b17, .int b18, .ref b19, .ref b20, .ref b21, .ref b22, .ref b23, .ref b24, .ref b25, .ref b26, .ref b27, .ref b28, .ref b29, .ref b30, .int b31, .ref b32, .ref b33, .int b34, .int b35, .int b36, .int b37, .ref b38, .ref b39, .ref b40, .ref b41, .ref b42, .ref b43, .ref b44, .int b45, .ref b46, .ref b47, .int b48, .ref b49, .ref b50, .ref b51, .ref b52, .ref b53, .int b54, .ref b55, .ref b56, .ref b57])), (b5, .inl (G.2 0, 503, .inl b58))] ∧ (zI e0 0 1) ∧ (¬ b2 = b3 → (e0 : Int32).toInt = if zit (fun i => b58 (21 + (12 * (b1 : Int32).toInt.toNat + i))) b2 b3 (b58 (1 + (b1 : Int32).toInt.toNat)).toInt.toNat = 1 ∧ zcn (fun i => b58 (21 + (12 * (b1 : Int32).toInt.toNat + i))) b2 (b58 (1 + (b1 : Int32).toInt.toNat)).toInt.toNat = zcn (fun i => b58 (21 + (12 * (b1 : Int32).toInt.toNat + i))) b3 (b58 (1 + (b1 : Int32).toInt.toNat)).toInt.toNat then 1 else 0)) := by
  refine z_start (by decide +kernel) (Nat.le_of_ble_eq_true rfl) ?_
  intro p e s m below meth c A Z hr hnm hA hP hD hS ls hl
  have Z : zC p s m _ meth c prog_14_method_76_code 8 "TraceMachinesModel" G := Z
  obtain ⟨hx, hb, hml, hown, hts, hK, hN, hlocks⟩ := id Z
  have hl : lv_has ls 8 [(0, .ref b0), (1, .int b1), (2, .int b2), (3, .int b3)] := hl
  refine lv_iconst (v := 1) hx hb d_Model_inTurn_0 (by decide) ?_
  refine lv_istore (lv' := [(4, .int 1), (0, .ref b0), (1, .int b1), (2, .int b2), (3, .int b3)]) hx hb d_Model_inTurn_1 hl (by decide) rfl (fun ls hl => ?_)
  refine lv_iload_n hx hb d_Model_inTurn_3 rfl (lv_at hl 3 rfl) ?_
  refine lv_istore (lv' := [(5, .int b2), (4, .int 1), (0, .ref b0), (1, .int b1), (2, .int b2), (3, .int b3)]) hx hb d_Model_inTurn_4 hl (by decide) rfl (fun ls hl => ?_)
  refine lv_iconst (v := 0) hx hb d_Model_inTurn_6 (by decide) ?_
  refine lv_istore (lv' := [(6, .int 0), (5, .int b2), (4, .int 1), (0, .ref b0), (1, .int b1), (2, .int b2), (3, .int b3)]) hx hb d_Model_inTurn_7 hl (by decide) rfl (fun ls hl => ?_)
  suffices key : ∀ (k_83 : Nat) (y_84 : Int32) (y_85 : Int32) (y_86 : Int32) (H : Heap) (locs : List Loc) (ls : Array Slot), (zI y_84 0 12) → (zI y_85 0 1) → ((y_84 : Int32).toInt ≤ (((b58 (1 + (b1 : Int32).toInt.toNat)).toInt.toNat : Nat) : Int)) → (¬ b2 = b3 → zTu (y_85 : Int32).toInt y_86 (fun i => b58 (21 + (12 * (b1 : Int32).toInt.toNat + i))) b2 b3 (y_84 : Int32).toInt.toNat) → (12 : Int) - y_84.toInt < (k_83 : Int) → va_P G.1 classes [(b0, .inr (12, [.int b4, .ref b5, .ref b6, .ref b7, .ref b8, .int b9, .ref b10, .int b11, .int b12, .int b13, .int b14, .ref b15, .ref b16, .ref b17, .int b18, .ref b19, .ref b20, .ref b21, .ref b22, .ref b23, .ref b24, .ref b25, .ref b26, .ref b27, .ref b28, .ref b29, .ref b30, .int b31, .ref b32, .ref b33, .int b34, .int b35, .int b36, .int b37, .ref b38, .ref b39, .ref b40, .ref b41, .ref b42, .ref b43, .ref b44, .int b45, .ref b46, .ref b47, .int b48, .ref b49, .ref b50, .ref b51, .ref b52, .ref b53, .int b54, .ref b55, .ref b56, .ref b57])), (b5, .inl (G.2 0, 503, .inl b58))] H → va_D A [(b0, .inr (12, [.int b4, .ref b5, .ref b6, .ref b7, .ref b8, .int b9, .ref b10, .int b11, .int b12, .int b13, .int b14, .ref b15, .ref b16, .ref b17, .int b18, .ref b19, .ref b20, .ref b21, .ref b22, .ref b23, .ref b24, .ref b25, .ref b26, .ref b27, .ref b28, .ref b29, .ref b30, .int b31, .ref b32, .ref b33, .int b34, .int b35, .int b36, .int b37, .ref b38, .ref b39, .ref b40, .ref b41, .ref b42, .ref b43, .ref b44, .int b45, .ref b46, .ref b47, .int b48, .ref b49, .ref b50, .ref b51, .ref b52, .ref b53, .int b54, .ref b55, .ref b56, .ref b57])), (b5, .inl (G.2 0, 503, .inl b58))] → va_S A s.heap H locs → lv_has ls 8 [(6, .int y_84), (5, .int y_86), (4, .int y_85), (0, .ref b0), (1, .int b1), (2, .int b2), (3, .int b3)] → W p l e m_s2_Model_inTurn s m ([.ref b0, .int b1, .int b2, .int b3] : List Value).toArray below meth c H locs 0 0 (MQ below (zQ G (fun v w => ∃ (e0 : Int32), v = some (.int e0) ∧ w = [(b0, .inr (12, [.int b4, .ref b5, .ref b6, .ref b7, .ref b8, .int b9, .ref b10, .int b11, .int b12, .int b13, .int b14, .ref b15, .ref b16, .ref b17, .int b18, .ref b19, .ref b20, .ref b21, .ref b22, .ref b23, .ref b24, .ref b25, .ref b26, .ref b27, .ref b28, .ref b29, .ref b30, .int b31, .ref b32, .ref b33, .int b34, .int b35, .int b36, .int b37, .ref b38, .ref b39, .ref b40, .ref b41, .ref b42, .ref b43, .ref b44, .int b45, .ref b46, .ref b47, .int b48, .ref b49, .ref b50, .ref b51, .ref b52, .ref b53, .int b54, .ref b55, .ref b56, .ref b57])), (b5, .inl (G.2 0, 503, .inl b58))] ∧ (zI e0 0 1) ∧ (¬ b2 = b3 → (e0 : Int32).toInt = if zit (fun i => b58 (21 + (12 * (b1 : Int32).toInt.toNat + i))) b2 b3 (b58 (1 + (b1 : Int32).toInt.toNat)).toInt.toNat = 1 ∧ zcn (fun i => b58 (21 + (12 * (b1 : Int32).toInt.toNat + i))) b2 (b58 (1 + (b1 : Int32).toInt.toNat)).toInt.toNat = zcn (fun i => b58 (21 + (12 * (b1 : Int32).toInt.toNat + i))) b3 (b58 (1 + (b1 : Int32).toInt.toNat)).toInt.toNat then 1 else 0)) A) ([.ref b0, .int b1, .int b2, .int b3] : List Value).toArray s m_s2_Model_inTurn.cells m_s2_Model_inTurn.slots A) (F0 m 9 ls []) by
    exact key 13 (0) (1) (b2) _ _ _ (zI.wk (l' := 0) (h' := 12) zc_0 (by decide)) (zI.wk (l' := 0) (h' := 1) zc_1 (by decide)) (by have _l := li_0; omega) (fun _ => by rw [li_1, show (0 : Int32).toInt.toNat = 0 by rw [li_0]; rfl]; exact ⟨rfl, fun _ => Or.inl ⟨rfl, rfl⟩⟩) (zm_upi (zI.wk (l' := 0) (h' := 12) zc_0 (by decide)) (by decide)) hP hD hS (lv_sub hl [0, 1, 2, 3, 4, 5, 6] rfl)
  intro k_83
  induction k_83 with
  | zero =>
    intro y_84 y_85 y_86 H locs ls hy_84 hy_85 hli_87 hli_88 hmk_83 hP hD hS hl
    exact (zm_up0 hy_84 hmk_83).elim
  | succ k_83 ihk_83 =>
    intro y_84 y_85 y_86 H locs ls hy_84 hy_85 hli_87 hli_88 hmk_83 hP hD hS hl
    refine lv_iload hx hb d_Model_inTurn_9 (lv_at hl 0 rfl) ?_
    refine lv_aload_n hx hb d_Model_inTurn_11 rfl (lv_at hl 3 rfl) ?_
    refine lv_iload_n hx hb d_Model_inTurn_12 rfl (lv_at hl 4 rfl) ?_
    refine z_callV (index := 203) (As := [.int b1]) (rest := [.int y_84]) (wr := []) Z (s1_Model_calls l G (b0) (b1) (b4) (b5) (b6) (b7) (b8) (b9) (b10) (b11) (b12) (b13) (b14) (b15) (b16) (b17) (b18) (b19) (b20) (b21) (b22) (b23) (b24) (b25) (b26) (b27) (b28) (b29) (b30) (b31) (b32) (b33) (b34) (b35) (b36) (b37) (b38) (b39) (b40) (b41) (b42) (b43) (b44) (b45) (b46) (b47) (b48) (b49) (b50) (b51) (b52) (b53) (b54) (b55) (b56) (b57) (b58) hb1 hb9 hb11 hb12 hb14 hb18 hb31 hb34 hb45 hb48 hb54 hb58) hl.1 q1352 q1354 qs54 q14 q1355 ⟨by decide, by decide, by show _ = some 1; decide +kernel⟩ ⟨Nat.le_of_ble_eq_true rfl, Nat.le_of_ble_eq_true rfl⟩ ⟨Nat.le_of_ble_eq_true rfl, Nat.le_of_ble_eq_true rfl⟩ rfl (Nat.le_of_ble_eq_true rfl) d_Model_inTurn_13 hP hD hS hA 0 12 rfl rfl rfl [0, 1] [] rfl rfl rfl rfl (by decide) (fun v w1 H locs hw_89 hP hD hS => ?_)
    obtain ⟨x_90, rfl, rfl, hx_90, hfx_91⟩ := hw_89
    have hP : va_P G.1 classes [(b0, .inr (12, [.int b4, .ref b5, .ref b6, .ref b7, .ref b8, .int b9, .ref b10, .int b11, .int b12, .int b13, .int b14, .ref b15, .ref b16, .ref b17, .int b18, .ref b19, .ref b20, .ref b21, .ref b22, .ref b23, .ref b24, .ref b25, .ref b26, .ref b27, .ref b28, .ref b29, .ref b30, .int b31, .ref b32, .ref b33, .int b34, .int b35, .int b36, .int b37, .ref b38, .ref b39, .ref b40, .ref b41, .ref b42, .ref b43, .ref b44, .int b45, .ref b46, .ref b47, .int b48, .ref b49, .ref b50, .ref b51, .ref b52, .ref b53, .int b54, .ref b55, .ref b56, .ref b57])), (b5, .inl (G.2 0, 503, .inl b58))] H := hP
    have hD := z_tie hP hD rfl
    refine W.widen (k := 0) (n := 0) (Nat.le_of_ble_eq_true rfl) (Nat.le_of_ble_eq_true rfl) ?_
    refine lv_icmp_ge (tgt := 78) hx hb d_Model_inTurn_16 (by decide) (fun hc_92 => ?_) (fun hc_92 => ?_)
    · have _nhc_92 := hc_92
      have ni_93 := (fa_le _ _).mp hc_92
      refine lv_iload hx hb d_Model_inTurn_78 (lv_at hl 2 rfl) ?_
      refine lv_if_eq (tgt := 93) hx hb d_Model_inTurn_80 (by decide) (fun hc_94 => ?_) (fun hc_94 => ?_)
      · have _nhc_94 := hc_94
        have ni_95 := (fa_eq _ _).mp hc_94
        rw [li_0] at ni_95
        have hv_96 : zI y_85 0 0 := zI.eq_l hy_85 zc_0 hc_94
        refine lv_iconst (v := 0) hx hb d_Model_inTurn_93 (by decide) ?_
        exact z_zret hx hb hr hlocks rfl hP hD hS (Nat.le_of_ble_eq_true rfl) (Nat.le_of_ble_eq_true rfl) d_Model_inTurn_94 ⟨0, rfl, rfl, (zI.wk (l' := 0) (h' := 1) zc_0 (by decide)), (fun hne => by have _l0 := li_0; have _l1 := li_1; have i9 := hli_87; have c9 := congrArg Int32.toInt hfx_91; have j9 := hli_88 hne; rw [show y_84.toInt.toNat = (b58 (1 + b1.toInt.toNat)).toInt.toNat by omega] at j9; exact zTu_f j9 hne (Or.inr ⟨fun q => by have q1 := q.1; have q8 := congrArg Int32.toInt q.2; omega, li_0⟩))⟩
      · have _nhc_94 := hc_94
        have ni_97 : ¬ (y_85 : Int32).toInt = (0 : Int32).toInt := fun z => hc_94 ((fa_eq _ _).mpr z)
        simp only [li_0] at ni_97
        have hv_98 : zI y_85 1 1 := zI.ne_lo hy_85 zc_0 hc_94 (by decide)
        refine lv_iload hx hb d_Model_inTurn_83 (lv_at hl 1 rfl) ?_
        refine lv_iload_n hx hb d_Model_inTurn_85 rfl (lv_at hl 5 rfl) ?_
        refine lv_icmp_ne (tgt := 93) hx hb d_Model_inTurn_86 (by decide) (fun hc_99 => ?_) (fun hc_99 => ?_)
        · have _nhc_99 := hc_99
          have ni_100 : ¬ (y_86 : Int32).toInt = (b2 : Int32).toInt := fun z => hc_99 ((fa_eq _ _).mpr z)
          refine lv_iconst (v := 0) hx hb d_Model_inTurn_93 (by decide) ?_
          exact z_zret hx hb hr hlocks rfl hP hD hS (Nat.le_of_ble_eq_true rfl) (Nat.le_of_ble_eq_true rfl) d_Model_inTurn_94 ⟨0, rfl, rfl, (zI.wk (l' := 0) (h' := 1) zc_0 (by decide)), (fun hne => by have _l0 := li_0; have _l1 := li_1; have i9 := hli_87; have c9 := congrArg Int32.toInt hfx_91; have j9 := hli_88 hne; rw [show y_84.toInt.toNat = (b58 (1 + b1.toInt.toNat)).toInt.toNat by omega] at j9; exact zTu_f j9 hne (Or.inr ⟨fun q => by have q1 := q.1; have q8 := congrArg Int32.toInt q.2; omega, li_0⟩))⟩
        · have _nhc_99 := hc_99
          have ni_101 := (fa_eq _ _).mp hc_99
          refine lv_iconst (v := 1) hx hb d_Model_inTurn_89 (by decide) ?_
          refine lv_goto (tgt := 94) hx hb d_Model_inTurn_90 (by decide) ?_
          exact z_zret hx hb hr hlocks rfl hP hD hS (Nat.le_of_ble_eq_true rfl) (Nat.le_of_ble_eq_true rfl) d_Model_inTurn_94 ⟨1, rfl, rfl, (zI.wk (l' := 0) (h' := 1) zc_1 (by decide)), (fun hne => by have _l0 := li_0; have _l1 := li_1; have i9 := hli_87; have c9 := congrArg Int32.toInt hfx_91; have j9 := hli_88 hne; rw [show y_84.toInt.toNat = (b58 (1 + b1.toInt.toNat)).toInt.toNat by omega] at j9; exact zTu_f j9 hne (Or.inl ⟨by omega, (fa_eq _ _).mpr (by omega), li_1⟩))⟩
    · have _nhc_92 := hc_92
      have ni_102 := (fa_lt _ _).mp (zi_nle hc_92)
      have hv_103 : zI y_84 0 11 := zI.lt_l hy_84 hx_90 (zi_nle hc_92) (by decide)
      have hv_104 : zI x_90 1 12 := zI.lt_r hy_84 hx_90 (zi_nle hc_92) (by decide)
      refine lv_aload_n hx hb d_Model_inTurn_19 rfl (lv_at hl 3 rfl) ?_
      refine lv_iload_n hx hb d_Model_inTurn_20 rfl (lv_at hl 4 rfl) ?_
      refine lv_iload hx hb d_Model_inTurn_21 (lv_at hl 0 rfl) ?_
      refine z_callV (index := 207) (As := [.int b1, .int y_84]) (rest := []) (wr := []) Z (s2_Model_letterAt l G (b0) (b1) (y_84) (b4) (b5) (b6) (b7) (b8) (b9) (b10) (b11) (b12) (b13) (b14) (b15) (b16) (b17) (b18) (b19) (b20) (b21) (b22) (b23) (b24) (b25) (b26) (b27) (b28) (b29) (b30) (b31) (b32) (b33) (b34) (b35) (b36) (b37) (b38) (b39) (b40) (b41) (b42) (b43) (b44) (b45) (b46) (b47) (b48) (b49) (b50) (b51) (b52) (b53) (b54) (b55) (b56) (b57) (b58) hb1 hv_103 hb9 hb11 hb12 hb14 hb18 hb31 hb34 hb45 hb48 hb54 hb58) hl.1 q1372 q1374 qs59 q14 q1375 ⟨by decide, by decide, by show _ = some 2; decide +kernel⟩ ⟨Nat.le_of_ble_eq_true rfl, Nat.le_of_ble_eq_true rfl⟩ ⟨Nat.le_of_ble_eq_true rfl, Nat.le_of_ble_eq_true rfl⟩ rfl (Nat.le_of_ble_eq_true rfl) d_Model_inTurn_23 hP hD hS hA 0 12 rfl rfl rfl [0, 1] [] rfl rfl rfl rfl (by decide) (fun v w1 H locs hw_105 hP hD hS => ?_)
      obtain ⟨x_106, rfl, rfl, hx_106, hfx_107⟩ := hw_105
      have hP : va_P G.1 classes [(b0, .inr (12, [.int b4, .ref b5, .ref b6, .ref b7, .ref b8, .int b9, .ref b10, .int b11, .int b12, .int b13, .int b14, .ref b15, .ref b16, .ref b17, .int b18, .ref b19, .ref b20, .ref b21, .ref b22, .ref b23, .ref b24, .ref b25, .ref b26, .ref b27, .ref b28, .ref b29, .ref b30, .int b31, .ref b32, .ref b33, .int b34, .int b35, .int b36, .int b37, .ref b38, .ref b39, .ref b40, .ref b41, .ref b42, .ref b43, .ref b44, .int b45, .ref b46, .ref b47, .int b48, .ref b49, .ref b50, .ref b51, .ref b52, .ref b53, .int b54, .ref b55, .ref b56, .ref b57])), (b5, .inl (G.2 0, 503, .inl b58))] H := hP
      have hD := z_tie hP hD rfl
      refine W.widen (k := 0) (n := 0) (Nat.le_of_ble_eq_true rfl) (Nat.le_of_ble_eq_true rfl) ?_
      refine lv_istore (lv' := [(7, .int x_106), (6, .int y_84), (5, .int y_86), (4, .int y_85), (0, .ref b0), (1, .int b1), (2, .int b2), (3, .int b3)]) hx hb d_Model_inTurn_26 hl (by decide) rfl (fun ls hl => ?_)
      refine lv_iload hx hb d_Model_inTurn_28 (lv_at hl 0 rfl) ?_
      refine lv_iload_n hx hb d_Model_inTurn_30 rfl (lv_at hl 6 rfl) ?_
      refine lv_icmp_eq (tgt := 40) hx hb d_Model_inTurn_31 (by decide) (fun hc_108 => ?_) (fun hc_108 => ?_)
      · have _nhc_108 := hc_108
        have ni_109 := (fa_eq _ _).mp hc_108
        have hv_110 : zI b2 0 9 := zI.eq_l (zI_all b2) hx_106 hc_108.symm
        refine lv_iload hx hb d_Model_inTurn_40 (lv_at hl 3 rfl) ?_
        refine lv_if_eq (tgt := 56) hx hb d_Model_inTurn_42 (by decide) (fun hc_111 => ?_) (fun hc_111 => ?_)
        · have _nhc_111 := hc_111
          have ni_112 := (fa_eq _ _).mp hc_111
          rw [li_0] at ni_112
          have hv_113 : zI y_85 0 0 := zI.eq_l hy_85 zc_0 hc_111
          refine lv_iconst (v := 0) hx hb d_Model_inTurn_56 (by decide) ?_
          refine lv_istore (lv' := [(4, .int 0), (7, .int x_106), (6, .int y_84), (5, .int y_86), (0, .ref b0), (1, .int b1), (2, .int b2), (3, .int b3)]) hx hb d_Model_inTurn_57 hl (by decide) rfl (fun ls hl => ?_)
          refine lv_iload hx hb d_Model_inTurn_59 (lv_at hl 1 rfl) ?_
          refine lv_iload_n hx hb d_Model_inTurn_61 rfl (lv_at hl 6 rfl) ?_
          refine lv_icmp_ne (tgt := 69) hx hb d_Model_inTurn_62 (by decide) (fun hc_114 => ?_) (fun hc_114 => ?_)
          · have _nhc_114 := hc_114
            have ni_115 : ¬ (x_106 : Int32).toInt = (b2 : Int32).toInt := fun z => hc_114 ((fa_eq _ _).mpr z)
            refine lv_iload_n hx hb d_Model_inTurn_69 rfl (lv_at hl 6 rfl) ?_
            refine lv_istore (lv' := [(5, .int b2), (4, .int 0), (7, .int x_106), (6, .int y_84), (0, .ref b0), (1, .int b1), (2, .int b2), (3, .int b3)]) hx hb d_Model_inTurn_70 hl (by decide) rfl (fun ls hl => ?_)
            obtain ⟨v_116, ev_116⟩ : ∃ z : Int32, z = y_84 + 1 := ⟨_, rfl⟩
            obtain ⟨qv_116, hv_116⟩ := zI_add (l := 1) (h := 12) hv_103 zc_1 ev_116 (by decide)
            rw [li_1] at qv_116
            refine lv_iinc (v := v_116) (lv' := [(6, .int v_116), (5, .int b2), (4, .int 0), (7, .int x_106), (0, .ref b0), (1, .int b1), (2, .int b2), (3, .int b3)]) hx hb d_Model_inTurn_72 hl (k := 3) rfl (by rw [ev_116]; rfl) (by decide) rfl (fun ls hl => ?_)
            refine lv_goto (tgt := 9) hx hb d_Model_inTurn_75 (by decide) ?_
            exact ihk_83 (v_116) (0) (b2) _ _ _ (zI.wk (l' := 0) (h' := 12) hv_116 (by decide)) (zI.wk (l' := 0) (h' := 1) zc_0 (by decide)) (by have c9 := congrArg Int32.toInt hfx_91; omega) (fun hne => by have _l0 := li_0; have _l1 := li_1; have g9 := hfx_107; exact zTu_y (hli_88 hne) hne (g9.symm.trans ((fa_eq _ _).mpr (by omega))) (by first | exact Or.inl ⟨⟨by omega, (fa_eq _ _).mpr (by omega)⟩, by omega⟩ | exact Or.inr ⟨fun q => by have q7 := q.1; have q8 := congrArg Int32.toInt q.2; omega, by omega⟩) rfl (by omega)) (zm_up qv_116 hmk_83 (by decide)) hP hD hS (lv_sub hl [0, 1, 2, 4, 5, 6, 7] rfl)
          · have _nhc_114 := hc_114
            have ni_117 := (fa_eq _ _).mp hc_114
            refine lv_iload_n hx hb d_Model_inTurn_65 rfl (lv_at hl 7 rfl) ?_
            refine lv_goto (tgt := 70) hx hb d_Model_inTurn_66 (by decide) ?_
            refine lv_istore (lv' := [(5, .int b3), (4, .int 0), (7, .int x_106), (6, .int y_84), (0, .ref b0), (1, .int b1), (2, .int b2), (3, .int b3)]) hx hb d_Model_inTurn_70 hl (by decide) rfl (fun ls hl => ?_)
            obtain ⟨v_118, ev_118⟩ : ∃ z : Int32, z = y_84 + 1 := ⟨_, rfl⟩
            obtain ⟨qv_118, hv_118⟩ := zI_add (l := 1) (h := 12) hv_103 zc_1 ev_118 (by decide)
            rw [li_1] at qv_118
            refine lv_iinc (v := v_118) (lv' := [(6, .int v_118), (5, .int b3), (4, .int 0), (7, .int x_106), (0, .ref b0), (1, .int b1), (2, .int b2), (3, .int b3)]) hx hb d_Model_inTurn_72 hl (k := 3) rfl (by rw [ev_118]; rfl) (by decide) rfl (fun ls hl => ?_)
            refine lv_goto (tgt := 9) hx hb d_Model_inTurn_75 (by decide) ?_
            exact ihk_83 (v_118) (0) (b3) _ _ _ (zI.wk (l' := 0) (h' := 12) hv_118 (by decide)) (zI.wk (l' := 0) (h' := 1) zc_0 (by decide)) (by have c9 := congrArg Int32.toInt hfx_91; omega) (fun hne => by have _l0 := li_0; have _l1 := li_1; have g9 := hfx_107; exact zTu_x (hli_88 hne) hne (g9.symm.trans ((fa_eq _ _).mpr (by omega))) (by first | exact Or.inl ⟨⟨by omega, (fa_eq _ _).mpr (by omega)⟩, by omega⟩ | exact Or.inr ⟨fun q => by have q7 := q.1; have q8 := congrArg Int32.toInt q.2; omega, by omega⟩) rfl (by omega)) (zm_up qv_118 hmk_83 (by decide)) hP hD hS (lv_sub hl [0, 1, 2, 4, 5, 6, 7] rfl)
        · have _nhc_111 := hc_111
          have ni_119 : ¬ (y_85 : Int32).toInt = (0 : Int32).toInt := fun z => hc_111 ((fa_eq _ _).mpr z)
          simp only [li_0] at ni_119
          have hv_120 : zI y_85 1 1 := zI.ne_lo hy_85 zc_0 hc_111 (by decide)
          refine lv_iload hx hb d_Model_inTurn_45 (lv_at hl 0 rfl) ?_
          refine lv_iload hx hb d_Model_inTurn_47 (lv_at hl 2 rfl) ?_
          refine lv_icmp_ne (tgt := 56) hx hb d_Model_inTurn_49 (by decide) (fun hc_121 => ?_) (fun hc_121 => ?_)
          · have _nhc_121 := hc_121
            have ni_122 : ¬ (x_106 : Int32).toInt = (y_86 : Int32).toInt := fun z => hc_121 ((fa_eq _ _).mpr z)
            refine lv_iconst (v := 0) hx hb d_Model_inTurn_56 (by decide) ?_
            refine lv_istore (lv' := [(4, .int 0), (7, .int x_106), (6, .int y_84), (5, .int y_86), (0, .ref b0), (1, .int b1), (2, .int b2), (3, .int b3)]) hx hb d_Model_inTurn_57 hl (by decide) rfl (fun ls hl => ?_)
            refine lv_iload hx hb d_Model_inTurn_59 (lv_at hl 1 rfl) ?_
            refine lv_iload_n hx hb d_Model_inTurn_61 rfl (lv_at hl 6 rfl) ?_
            refine lv_icmp_ne (tgt := 69) hx hb d_Model_inTurn_62 (by decide) (fun hc_123 => ?_) (fun hc_123 => ?_)
            · have _nhc_123 := hc_123
              have ni_124 : ¬ (x_106 : Int32).toInt = (b2 : Int32).toInt := fun z => hc_123 ((fa_eq _ _).mpr z)
              refine lv_iload_n hx hb d_Model_inTurn_69 rfl (lv_at hl 6 rfl) ?_
              refine lv_istore (lv' := [(5, .int b2), (4, .int 0), (7, .int x_106), (6, .int y_84), (0, .ref b0), (1, .int b1), (2, .int b2), (3, .int b3)]) hx hb d_Model_inTurn_70 hl (by decide) rfl (fun ls hl => ?_)
              obtain ⟨v_125, ev_125⟩ : ∃ z : Int32, z = y_84 + 1 := ⟨_, rfl⟩
              obtain ⟨qv_125, hv_125⟩ := zI_add (l := 1) (h := 12) hv_103 zc_1 ev_125 (by decide)
              rw [li_1] at qv_125
              refine lv_iinc (v := v_125) (lv' := [(6, .int v_125), (5, .int b2), (4, .int 0), (7, .int x_106), (0, .ref b0), (1, .int b1), (2, .int b2), (3, .int b3)]) hx hb d_Model_inTurn_72 hl (k := 3) rfl (by rw [ev_125]; rfl) (by decide) rfl (fun ls hl => ?_)
              refine lv_goto (tgt := 9) hx hb d_Model_inTurn_75 (by decide) ?_
              exact ihk_83 (v_125) (0) (b2) _ _ _ (zI.wk (l' := 0) (h' := 12) hv_125 (by decide)) (zI.wk (l' := 0) (h' := 1) zc_0 (by decide)) (by have c9 := congrArg Int32.toInt hfx_91; omega) (fun hne => by have _l0 := li_0; have _l1 := li_1; have g9 := hfx_107; exact zTu_y (hli_88 hne) hne (g9.symm.trans ((fa_eq _ _).mpr (by omega))) (by first | exact Or.inl ⟨⟨by omega, (fa_eq _ _).mpr (by omega)⟩, by omega⟩ | exact Or.inr ⟨fun q => by have q7 := q.1; have q8 := congrArg Int32.toInt q.2; omega, by omega⟩) rfl (by omega)) (zm_up qv_125 hmk_83 (by decide)) hP hD hS (lv_sub hl [0, 1, 2, 4, 5, 6, 7] rfl)
            · have _nhc_123 := hc_123
              have ni_126 := (fa_eq _ _).mp hc_123
              refine lv_iload_n hx hb d_Model_inTurn_65 rfl (lv_at hl 7 rfl) ?_
              refine lv_goto (tgt := 70) hx hb d_Model_inTurn_66 (by decide) ?_
              refine lv_istore (lv' := [(5, .int b3), (4, .int 0), (7, .int x_106), (6, .int y_84), (0, .ref b0), (1, .int b1), (2, .int b2), (3, .int b3)]) hx hb d_Model_inTurn_70 hl (by decide) rfl (fun ls hl => ?_)
              obtain ⟨v_127, ev_127⟩ : ∃ z : Int32, z = y_84 + 1 := ⟨_, rfl⟩
              obtain ⟨qv_127, hv_127⟩ := zI_add (l := 1) (h := 12) hv_103 zc_1 ev_127 (by decide)
              rw [li_1] at qv_127
              refine lv_iinc (v := v_127) (lv' := [(6, .int v_127), (5, .int b3), (4, .int 0), (7, .int x_106), (0, .ref b0), (1, .int b1), (2, .int b2), (3, .int b3)]) hx hb d_Model_inTurn_72 hl (k := 3) rfl (by rw [ev_127]; rfl) (by decide) rfl (fun ls hl => ?_)
              refine lv_goto (tgt := 9) hx hb d_Model_inTurn_75 (by decide) ?_
              exact ihk_83 (v_127) (0) (b3) _ _ _ (zI.wk (l' := 0) (h' := 12) hv_127 (by decide)) (zI.wk (l' := 0) (h' := 1) zc_0 (by decide)) (by have c9 := congrArg Int32.toInt hfx_91; omega) (fun hne => by have _l0 := li_0; have _l1 := li_1; have g9 := hfx_107; exact zTu_x (hli_88 hne) hne (g9.symm.trans ((fa_eq _ _).mpr (by omega))) (by first | exact Or.inl ⟨⟨by omega, (fa_eq _ _).mpr (by omega)⟩, by omega⟩ | exact Or.inr ⟨fun q => by have q7 := q.1; have q8 := congrArg Int32.toInt q.2; omega, by omega⟩) rfl (by omega)) (zm_up qv_127 hmk_83 (by decide)) hP hD hS (lv_sub hl [0, 1, 2, 4, 5, 6, 7] rfl)
          · have _nhc_121 := hc_121
            have ni_128 := (fa_eq _ _).mp hc_121
            have hv_129 : zI y_86 0 9 := zI.eq_l (zI_all y_86) hx_106 hc_121.symm
            refine lv_iconst (v := 1) hx hb d_Model_inTurn_52 (by decide) ?_
            refine lv_goto (tgt := 57) hx hb d_Model_inTurn_53 (by decide) ?_
            refine lv_istore (lv' := [(4, .int 1), (7, .int x_106), (6, .int y_84), (5, .int y_86), (0, .ref b0), (1, .int b1), (2, .int b2), (3, .int b3)]) hx hb d_Model_inTurn_57 hl (by decide) rfl (fun ls hl => ?_)
            refine lv_iload hx hb d_Model_inTurn_59 (lv_at hl 1 rfl) ?_
            refine lv_iload_n hx hb d_Model_inTurn_61 rfl (lv_at hl 6 rfl) ?_
            refine lv_icmp_ne (tgt := 69) hx hb d_Model_inTurn_62 (by decide) (fun hc_130 => ?_) (fun hc_130 => ?_)
            · have _nhc_130 := hc_130
              have ni_131 : ¬ (x_106 : Int32).toInt = (b2 : Int32).toInt := fun z => hc_130 ((fa_eq _ _).mpr z)
              refine lv_iload_n hx hb d_Model_inTurn_69 rfl (lv_at hl 6 rfl) ?_
              refine lv_istore (lv' := [(5, .int b2), (4, .int 1), (7, .int x_106), (6, .int y_84), (0, .ref b0), (1, .int b1), (2, .int b2), (3, .int b3)]) hx hb d_Model_inTurn_70 hl (by decide) rfl (fun ls hl => ?_)
              obtain ⟨v_132, ev_132⟩ : ∃ z : Int32, z = y_84 + 1 := ⟨_, rfl⟩
              obtain ⟨qv_132, hv_132⟩ := zI_add (l := 1) (h := 12) hv_103 zc_1 ev_132 (by decide)
              rw [li_1] at qv_132
              refine lv_iinc (v := v_132) (lv' := [(6, .int v_132), (5, .int b2), (4, .int 1), (7, .int x_106), (0, .ref b0), (1, .int b1), (2, .int b2), (3, .int b3)]) hx hb d_Model_inTurn_72 hl (k := 3) rfl (by rw [ev_132]; rfl) (by decide) rfl (fun ls hl => ?_)
              refine lv_goto (tgt := 9) hx hb d_Model_inTurn_75 (by decide) ?_
              exact ihk_83 (v_132) (1) (b2) _ _ _ (zI.wk (l' := 0) (h' := 12) hv_132 (by decide)) (zI.wk (l' := 0) (h' := 1) zc_1 (by decide)) (by have c9 := congrArg Int32.toInt hfx_91; omega) (fun hne => by have _l0 := li_0; have _l1 := li_1; have g9 := hfx_107; exact zTu_y (hli_88 hne) hne (g9.symm.trans ((fa_eq _ _).mpr (by omega))) (by first | exact Or.inl ⟨⟨by omega, (fa_eq _ _).mpr (by omega)⟩, by omega⟩ | exact Or.inr ⟨fun q => by have q7 := q.1; have q8 := congrArg Int32.toInt q.2; omega, by omega⟩) rfl (by omega)) (zm_up qv_132 hmk_83 (by decide)) hP hD hS (lv_sub hl [0, 1, 2, 4, 5, 6, 7] rfl)
            · have _nhc_130 := hc_130
              have ni_133 := (fa_eq _ _).mp hc_130
              refine lv_iload_n hx hb d_Model_inTurn_65 rfl (lv_at hl 7 rfl) ?_
              refine lv_goto (tgt := 70) hx hb d_Model_inTurn_66 (by decide) ?_
              refine lv_istore (lv' := [(5, .int b3), (4, .int 1), (7, .int x_106), (6, .int y_84), (0, .ref b0), (1, .int b1), (2, .int b2), (3, .int b3)]) hx hb d_Model_inTurn_70 hl (by decide) rfl (fun ls hl => ?_)
              obtain ⟨v_134, ev_134⟩ : ∃ z : Int32, z = y_84 + 1 := ⟨_, rfl⟩
              obtain ⟨qv_134, hv_134⟩ := zI_add (l := 1) (h := 12) hv_103 zc_1 ev_134 (by decide)
              rw [li_1] at qv_134
              refine lv_iinc (v := v_134) (lv' := [(6, .int v_134), (5, .int b3), (4, .int 1), (7, .int x_106), (0, .ref b0), (1, .int b1), (2, .int b2), (3, .int b3)]) hx hb d_Model_inTurn_72 hl (k := 3) rfl (by rw [ev_134]; rfl) (by decide) rfl (fun ls hl => ?_)
              refine lv_goto (tgt := 9) hx hb d_Model_inTurn_75 (by decide) ?_
              exact ihk_83 (v_134) (1) (b3) _ _ _ (zI.wk (l' := 0) (h' := 12) hv_134 (by decide)) (zI.wk (l' := 0) (h' := 1) zc_1 (by decide)) (by have c9 := congrArg Int32.toInt hfx_91; omega) (fun hne => by have _l0 := li_0; have _l1 := li_1; have g9 := hfx_107; exact zTu_x (hli_88 hne) hne (g9.symm.trans ((fa_eq _ _).mpr (by omega))) (by first | exact Or.inl ⟨⟨by omega, (fa_eq _ _).mpr (by omega)⟩, by omega⟩ | exact Or.inr ⟨fun q => by have q7 := q.1; have q8 := congrArg Int32.toInt q.2; omega, by omega⟩) rfl (by omega)) (zm_up qv_134 hmk_83 (by decide)) hP hD hS (lv_sub hl [0, 1, 2, 4, 5, 6, 7] rfl)
      · have _nhc_108 := hc_108
        have ni_135 : ¬ (x_106 : Int32).toInt = (b2 : Int32).toInt := fun z => hc_108 ((fa_eq _ _).mpr z)
        refine lv_iload hx hb d_Model_inTurn_34 (lv_at hl 0 rfl) ?_
        refine lv_iload_n hx hb d_Model_inTurn_36 rfl (lv_at hl 7 rfl) ?_
        refine lv_icmp_ne (tgt := 72) hx hb d_Model_inTurn_37 (by decide) (fun hc_136 => ?_) (fun hc_136 => ?_)
        · have _nhc_136 := hc_136
          have ni_137 : ¬ (x_106 : Int32).toInt = (b3 : Int32).toInt := fun z => hc_136 ((fa_eq _ _).mpr z)
          obtain ⟨v_138, ev_138⟩ : ∃ z : Int32, z = y_84 + 1 := ⟨_, rfl⟩
          obtain ⟨qv_138, hv_138⟩ := zI_add (l := 1) (h := 12) hv_103 zc_1 ev_138 (by decide)
          rw [li_1] at qv_138
          refine lv_iinc (v := v_138) (lv' := [(6, .int v_138), (7, .int x_106), (5, .int y_86), (4, .int y_85), (0, .ref b0), (1, .int b1), (2, .int b2), (3, .int b3)]) hx hb d_Model_inTurn_72 hl (k := 1) rfl (by rw [ev_138]; rfl) (by decide) rfl (fun ls hl => ?_)
          refine lv_goto (tgt := 9) hx hb d_Model_inTurn_75 (by decide) ?_
          exact ihk_83 (v_138) (y_85) (y_86) _ _ _ (zI.wk (l' := 0) (h' := 12) hv_138 (by decide)) hy_85 (by have c9 := congrArg Int32.toInt hfx_91; omega) (fun hne => by have _l0 := li_0; have _l1 := li_1; have g9 := hfx_107; exact zTu_n (hli_88 hne) (fun q => by have q8 := congrArg Int32.toInt (g9.trans q); omega) (fun q => by have q8 := congrArg Int32.toInt (g9.trans q); omega) (by omega)) (zm_up qv_138 hmk_83 (by decide)) hP hD hS (lv_sub hl [0, 2, 3, 4, 5, 6, 7] rfl)
        · have _nhc_136 := hc_136
          have ni_139 := (fa_eq _ _).mp hc_136
          have hv_140 : zI b3 0 9 := zI.eq_l (zI_all b3) hx_106 hc_136.symm
          refine lv_iload hx hb d_Model_inTurn_40 (lv_at hl 3 rfl) ?_
          refine lv_if_eq (tgt := 56) hx hb d_Model_inTurn_42 (by decide) (fun hc_141 => ?_) (fun hc_141 => ?_)
          · have _nhc_141 := hc_141
            have ni_142 := (fa_eq _ _).mp hc_141
            rw [li_0] at ni_142
            have hv_143 : zI y_85 0 0 := zI.eq_l hy_85 zc_0 hc_141
            refine lv_iconst (v := 0) hx hb d_Model_inTurn_56 (by decide) ?_
            refine lv_istore (lv' := [(4, .int 0), (7, .int x_106), (6, .int y_84), (5, .int y_86), (0, .ref b0), (1, .int b1), (2, .int b2), (3, .int b3)]) hx hb d_Model_inTurn_57 hl (by decide) rfl (fun ls hl => ?_)
            refine lv_iload hx hb d_Model_inTurn_59 (lv_at hl 1 rfl) ?_
            refine lv_iload_n hx hb d_Model_inTurn_61 rfl (lv_at hl 6 rfl) ?_
            refine lv_icmp_ne (tgt := 69) hx hb d_Model_inTurn_62 (by decide) (fun hc_144 => ?_) (fun hc_144 => ?_)
            · have _nhc_144 := hc_144
              have ni_145 : ¬ (x_106 : Int32).toInt = (b2 : Int32).toInt := fun z => hc_144 ((fa_eq _ _).mpr z)
              refine lv_iload_n hx hb d_Model_inTurn_69 rfl (lv_at hl 6 rfl) ?_
              refine lv_istore (lv' := [(5, .int b2), (4, .int 0), (7, .int x_106), (6, .int y_84), (0, .ref b0), (1, .int b1), (2, .int b2), (3, .int b3)]) hx hb d_Model_inTurn_70 hl (by decide) rfl (fun ls hl => ?_)
              obtain ⟨v_146, ev_146⟩ : ∃ z : Int32, z = y_84 + 1 := ⟨_, rfl⟩
              obtain ⟨qv_146, hv_146⟩ := zI_add (l := 1) (h := 12) hv_103 zc_1 ev_146 (by decide)
              rw [li_1] at qv_146
              refine lv_iinc (v := v_146) (lv' := [(6, .int v_146), (5, .int b2), (4, .int 0), (7, .int x_106), (0, .ref b0), (1, .int b1), (2, .int b2), (3, .int b3)]) hx hb d_Model_inTurn_72 hl (k := 3) rfl (by rw [ev_146]; rfl) (by decide) rfl (fun ls hl => ?_)
              refine lv_goto (tgt := 9) hx hb d_Model_inTurn_75 (by decide) ?_
              exact ihk_83 (v_146) (0) (b2) _ _ _ (zI.wk (l' := 0) (h' := 12) hv_146 (by decide)) (zI.wk (l' := 0) (h' := 1) zc_0 (by decide)) (by have c9 := congrArg Int32.toInt hfx_91; omega) (fun hne => by have _l0 := li_0; have _l1 := li_1; have g9 := hfx_107; exact zTu_y (hli_88 hne) hne (g9.symm.trans ((fa_eq _ _).mpr (by omega))) (by first | exact Or.inl ⟨⟨by omega, (fa_eq _ _).mpr (by omega)⟩, by omega⟩ | exact Or.inr ⟨fun q => by have q7 := q.1; have q8 := congrArg Int32.toInt q.2; omega, by omega⟩) rfl (by omega)) (zm_up qv_146 hmk_83 (by decide)) hP hD hS (lv_sub hl [0, 1, 2, 4, 5, 6, 7] rfl)
            · have _nhc_144 := hc_144
              have ni_147 := (fa_eq _ _).mp hc_144
              have hv_148 : zI b2 0 9 := zI.eq_l (zI_all b2) hx_106 hc_144.symm
              refine lv_iload_n hx hb d_Model_inTurn_65 rfl (lv_at hl 7 rfl) ?_
              refine lv_goto (tgt := 70) hx hb d_Model_inTurn_66 (by decide) ?_
              refine lv_istore (lv' := [(5, .int b3), (4, .int 0), (7, .int x_106), (6, .int y_84), (0, .ref b0), (1, .int b1), (2, .int b2), (3, .int b3)]) hx hb d_Model_inTurn_70 hl (by decide) rfl (fun ls hl => ?_)
              obtain ⟨v_149, ev_149⟩ : ∃ z : Int32, z = y_84 + 1 := ⟨_, rfl⟩
              obtain ⟨qv_149, hv_149⟩ := zI_add (l := 1) (h := 12) hv_103 zc_1 ev_149 (by decide)
              rw [li_1] at qv_149
              refine lv_iinc (v := v_149) (lv' := [(6, .int v_149), (5, .int b3), (4, .int 0), (7, .int x_106), (0, .ref b0), (1, .int b1), (2, .int b2), (3, .int b3)]) hx hb d_Model_inTurn_72 hl (k := 3) rfl (by rw [ev_149]; rfl) (by decide) rfl (fun ls hl => ?_)
              refine lv_goto (tgt := 9) hx hb d_Model_inTurn_75 (by decide) ?_
              exact ihk_83 (v_149) (0) (b3) _ _ _ (zI.wk (l' := 0) (h' := 12) hv_149 (by decide)) (zI.wk (l' := 0) (h' := 1) zc_0 (by decide)) (by have c9 := congrArg Int32.toInt hfx_91; omega) (fun hne => by have _l0 := li_0; have _l1 := li_1; have g9 := hfx_107; exact zTu_x (hli_88 hne) hne (g9.symm.trans ((fa_eq _ _).mpr (by omega))) (by first | exact Or.inl ⟨⟨by omega, (fa_eq _ _).mpr (by omega)⟩, by omega⟩ | exact Or.inr ⟨fun q => by have q7 := q.1; have q8 := congrArg Int32.toInt q.2; omega, by omega⟩) rfl (by omega)) (zm_up qv_149 hmk_83 (by decide)) hP hD hS (lv_sub hl [0, 1, 2, 4, 5, 6, 7] rfl)
          · have _nhc_141 := hc_141
            have ni_150 : ¬ (y_85 : Int32).toInt = (0 : Int32).toInt := fun z => hc_141 ((fa_eq _ _).mpr z)
            simp only [li_0] at ni_150
            have hv_151 : zI y_85 1 1 := zI.ne_lo hy_85 zc_0 hc_141 (by decide)
            refine lv_iload hx hb d_Model_inTurn_45 (lv_at hl 0 rfl) ?_
            refine lv_iload hx hb d_Model_inTurn_47 (lv_at hl 2 rfl) ?_
            refine lv_icmp_ne (tgt := 56) hx hb d_Model_inTurn_49 (by decide) (fun hc_152 => ?_) (fun hc_152 => ?_)
            · have _nhc_152 := hc_152
              have ni_153 : ¬ (x_106 : Int32).toInt = (y_86 : Int32).toInt := fun z => hc_152 ((fa_eq _ _).mpr z)
              refine lv_iconst (v := 0) hx hb d_Model_inTurn_56 (by decide) ?_
              refine lv_istore (lv' := [(4, .int 0), (7, .int x_106), (6, .int y_84), (5, .int y_86), (0, .ref b0), (1, .int b1), (2, .int b2), (3, .int b3)]) hx hb d_Model_inTurn_57 hl (by decide) rfl (fun ls hl => ?_)
              refine lv_iload hx hb d_Model_inTurn_59 (lv_at hl 1 rfl) ?_
              refine lv_iload_n hx hb d_Model_inTurn_61 rfl (lv_at hl 6 rfl) ?_
              refine lv_icmp_ne (tgt := 69) hx hb d_Model_inTurn_62 (by decide) (fun hc_154 => ?_) (fun hc_154 => ?_)
              · have _nhc_154 := hc_154
                have ni_155 : ¬ (x_106 : Int32).toInt = (b2 : Int32).toInt := fun z => hc_154 ((fa_eq _ _).mpr z)
                refine lv_iload_n hx hb d_Model_inTurn_69 rfl (lv_at hl 6 rfl) ?_
                refine lv_istore (lv' := [(5, .int b2), (4, .int 0), (7, .int x_106), (6, .int y_84), (0, .ref b0), (1, .int b1), (2, .int b2), (3, .int b3)]) hx hb d_Model_inTurn_70 hl (by decide) rfl (fun ls hl => ?_)
                obtain ⟨v_156, ev_156⟩ : ∃ z : Int32, z = y_84 + 1 := ⟨_, rfl⟩
                obtain ⟨qv_156, hv_156⟩ := zI_add (l := 1) (h := 12) hv_103 zc_1 ev_156 (by decide)
                rw [li_1] at qv_156
                refine lv_iinc (v := v_156) (lv' := [(6, .int v_156), (5, .int b2), (4, .int 0), (7, .int x_106), (0, .ref b0), (1, .int b1), (2, .int b2), (3, .int b3)]) hx hb d_Model_inTurn_72 hl (k := 3) rfl (by rw [ev_156]; rfl) (by decide) rfl (fun ls hl => ?_)
                refine lv_goto (tgt := 9) hx hb d_Model_inTurn_75 (by decide) ?_
                exact ihk_83 (v_156) (0) (b2) _ _ _ (zI.wk (l' := 0) (h' := 12) hv_156 (by decide)) (zI.wk (l' := 0) (h' := 1) zc_0 (by decide)) (by have c9 := congrArg Int32.toInt hfx_91; omega) (fun hne => by have _l0 := li_0; have _l1 := li_1; have g9 := hfx_107; exact zTu_y (hli_88 hne) hne (g9.symm.trans ((fa_eq _ _).mpr (by omega))) (by first | exact Or.inl ⟨⟨by omega, (fa_eq _ _).mpr (by omega)⟩, by omega⟩ | exact Or.inr ⟨fun q => by have q7 := q.1; have q8 := congrArg Int32.toInt q.2; omega, by omega⟩) rfl (by omega)) (zm_up qv_156 hmk_83 (by decide)) hP hD hS (lv_sub hl [0, 1, 2, 4, 5, 6, 7] rfl)
              · have _nhc_154 := hc_154
                have ni_157 := (fa_eq _ _).mp hc_154
                have hv_158 : zI b2 0 9 := zI.eq_l (zI_all b2) hx_106 hc_154.symm
                refine lv_iload_n hx hb d_Model_inTurn_65 rfl (lv_at hl 7 rfl) ?_
                refine lv_goto (tgt := 70) hx hb d_Model_inTurn_66 (by decide) ?_
                refine lv_istore (lv' := [(5, .int b3), (4, .int 0), (7, .int x_106), (6, .int y_84), (0, .ref b0), (1, .int b1), (2, .int b2), (3, .int b3)]) hx hb d_Model_inTurn_70 hl (by decide) rfl (fun ls hl => ?_)
                obtain ⟨v_159, ev_159⟩ : ∃ z : Int32, z = y_84 + 1 := ⟨_, rfl⟩
                obtain ⟨qv_159, hv_159⟩ := zI_add (l := 1) (h := 12) hv_103 zc_1 ev_159 (by decide)
                rw [li_1] at qv_159
                refine lv_iinc (v := v_159) (lv' := [(6, .int v_159), (5, .int b3), (4, .int 0), (7, .int x_106), (0, .ref b0), (1, .int b1), (2, .int b2), (3, .int b3)]) hx hb d_Model_inTurn_72 hl (k := 3) rfl (by rw [ev_159]; rfl) (by decide) rfl (fun ls hl => ?_)
                refine lv_goto (tgt := 9) hx hb d_Model_inTurn_75 (by decide) ?_
                exact ihk_83 (v_159) (0) (b3) _ _ _ (zI.wk (l' := 0) (h' := 12) hv_159 (by decide)) (zI.wk (l' := 0) (h' := 1) zc_0 (by decide)) (by have c9 := congrArg Int32.toInt hfx_91; omega) (fun hne => by have _l0 := li_0; have _l1 := li_1; have g9 := hfx_107; exact zTu_x (hli_88 hne) hne (g9.symm.trans ((fa_eq _ _).mpr (by omega))) (by first | exact Or.inl ⟨⟨by omega, (fa_eq _ _).mpr (by omega)⟩, by omega⟩ | exact Or.inr ⟨fun q => by have q7 := q.1; have q8 := congrArg Int32.toInt q.2; omega, by omega⟩) rfl (by omega)) (zm_up qv_159 hmk_83 (by decide)) hP hD hS (lv_sub hl [0, 1, 2, 4, 5, 6, 7] rfl)
            · have _nhc_152 := hc_152
              have ni_160 := (fa_eq _ _).mp hc_152
              have hv_161 : zI y_86 0 9 := zI.eq_l (zI_all y_86) hx_106 hc_152.symm
              refine lv_iconst (v := 1) hx hb d_Model_inTurn_52 (by decide) ?_
              refine lv_goto (tgt := 57) hx hb d_Model_inTurn_53 (by decide) ?_
              refine lv_istore (lv' := [(4, .int 1), (7, .int x_106), (6, .int y_84), (5, .int y_86), (0, .ref b0), (1, .int b1), (2, .int b2), (3, .int b3)]) hx hb d_Model_inTurn_57 hl (by decide) rfl (fun ls hl => ?_)
              refine lv_iload hx hb d_Model_inTurn_59 (lv_at hl 1 rfl) ?_
              refine lv_iload_n hx hb d_Model_inTurn_61 rfl (lv_at hl 6 rfl) ?_
              refine lv_icmp_ne (tgt := 69) hx hb d_Model_inTurn_62 (by decide) (fun hc_162 => ?_) (fun hc_162 => ?_)
              · have _nhc_162 := hc_162
                have ni_163 : ¬ (x_106 : Int32).toInt = (b2 : Int32).toInt := fun z => hc_162 ((fa_eq _ _).mpr z)
                refine lv_iload_n hx hb d_Model_inTurn_69 rfl (lv_at hl 6 rfl) ?_
                refine lv_istore (lv' := [(5, .int b2), (4, .int 1), (7, .int x_106), (6, .int y_84), (0, .ref b0), (1, .int b1), (2, .int b2), (3, .int b3)]) hx hb d_Model_inTurn_70 hl (by decide) rfl (fun ls hl => ?_)
                obtain ⟨v_164, ev_164⟩ : ∃ z : Int32, z = y_84 + 1 := ⟨_, rfl⟩
                obtain ⟨qv_164, hv_164⟩ := zI_add (l := 1) (h := 12) hv_103 zc_1 ev_164 (by decide)
                rw [li_1] at qv_164
                refine lv_iinc (v := v_164) (lv' := [(6, .int v_164), (5, .int b2), (4, .int 1), (7, .int x_106), (0, .ref b0), (1, .int b1), (2, .int b2), (3, .int b3)]) hx hb d_Model_inTurn_72 hl (k := 3) rfl (by rw [ev_164]; rfl) (by decide) rfl (fun ls hl => ?_)
                refine lv_goto (tgt := 9) hx hb d_Model_inTurn_75 (by decide) ?_
                exact ihk_83 (v_164) (1) (b2) _ _ _ (zI.wk (l' := 0) (h' := 12) hv_164 (by decide)) (zI.wk (l' := 0) (h' := 1) zc_1 (by decide)) (by have c9 := congrArg Int32.toInt hfx_91; omega) (fun hne => by have _l0 := li_0; have _l1 := li_1; have g9 := hfx_107; exact zTu_y (hli_88 hne) hne (g9.symm.trans ((fa_eq _ _).mpr (by omega))) (by first | exact Or.inl ⟨⟨by omega, (fa_eq _ _).mpr (by omega)⟩, by omega⟩ | exact Or.inr ⟨fun q => by have q7 := q.1; have q8 := congrArg Int32.toInt q.2; omega, by omega⟩) rfl (by omega)) (zm_up qv_164 hmk_83 (by decide)) hP hD hS (lv_sub hl [0, 1, 2, 4, 5, 6, 7] rfl)
              · have _nhc_162 := hc_162
                have ni_165 := (fa_eq _ _).mp hc_162
                have hv_166 : zI b2 0 9 := zI.eq_l (zI_all b2) hx_106 hc_162.symm
                refine lv_iload_n hx hb d_Model_inTurn_65 rfl (lv_at hl 7 rfl) ?_
                refine lv_goto (tgt := 70) hx hb d_Model_inTurn_66 (by decide) ?_
                refine lv_istore (lv' := [(5, .int b3), (4, .int 1), (7, .int x_106), (6, .int y_84), (0, .ref b0), (1, .int b1), (2, .int b2), (3, .int b3)]) hx hb d_Model_inTurn_70 hl (by decide) rfl (fun ls hl => ?_)
                obtain ⟨v_167, ev_167⟩ : ∃ z : Int32, z = y_84 + 1 := ⟨_, rfl⟩
                obtain ⟨qv_167, hv_167⟩ := zI_add (l := 1) (h := 12) hv_103 zc_1 ev_167 (by decide)
                rw [li_1] at qv_167
                refine lv_iinc (v := v_167) (lv' := [(6, .int v_167), (5, .int b3), (4, .int 1), (7, .int x_106), (0, .ref b0), (1, .int b1), (2, .int b2), (3, .int b3)]) hx hb d_Model_inTurn_72 hl (k := 3) rfl (by rw [ev_167]; rfl) (by decide) rfl (fun ls hl => ?_)
                refine lv_goto (tgt := 9) hx hb d_Model_inTurn_75 (by decide) ?_
                exact ihk_83 (v_167) (1) (b3) _ _ _ (zI.wk (l' := 0) (h' := 12) hv_167 (by decide)) (zI.wk (l' := 0) (h' := 1) zc_1 (by decide)) (by have c9 := congrArg Int32.toInt hfx_91; omega) (fun hne => by have _l0 := li_0; have _l1 := li_1; have g9 := hfx_107; exact zTu_x (hli_88 hne) hne (g9.symm.trans ((fa_eq _ _).mpr (by omega))) (by first | exact Or.inl ⟨⟨by omega, (fa_eq _ _).mpr (by omega)⟩, by omega⟩ | exact Or.inr ⟨fun q => by have q7 := q.1; have q8 := congrArg Int32.toInt q.2; omega, by omega⟩) rfl (by omega)) (zm_up qv_167 hmk_83 (by decide)) hP hD hS (lv_sub hl [0, 1, 2, 4, 5, 6, 7] rfl)
abbrev m_s9_Model_isAsked : Room := { frames := 2, cells := 0, slots := 0, locals := 46 }
set_option maxHeartbeats 4000000 in
set_option maxRecDepth 100000 in
theorem s9_Model_isAsked (l : Launch) (G : zG) (b0 : Nat) (b1 : Int32) (b2 : Int32) (b3 : Int32) (b4 : Int32) (b5 : Int32) (b6 : Nat) (b7 : Nat) (b8 : Nat) (b9 : Nat) (b10 : Int32) (b11 : Nat) (b12 : Int32) (b13 : Int32) (b14 : Int32) (b15 : Int32) (b16 : Nat) (b17 : Nat) (b18 : Nat) (b19 : Int32) (b20 : Nat) (b21 : Nat) (b22 : Nat) (b23 : Nat) (b24 : Nat) (b25 : Nat) (b26 : Nat) (b27 : Nat) (b28 : Nat) (b29 : Nat) (b30 : Nat) (b31 : Nat) (b32 : Int32) (b33 : Nat) (b34 : Nat) (b35 : Int32) (b36 : Int32) (b37 : Int32) (b38 : Int32) (b39 : Nat) (b40 : Nat) (b41 : Nat) (b42 : Nat) (b43 : Nat) (b44 : Nat) (b45 : Nat) (b46 : Int32) (b47 : Nat) (b48 : Nat) (b49 : Int32) (b50 : Nat) (b51 : Nat) (b52 : Nat) (b53 : Nat) (b54 : Nat) (b55 : Int32) (b56 : Nat) (b57 : Nat) (b58 : Nat) (b59 : Nat → Int32) (hb1 : zI b1 0 19) (hb10 : zI b10 0 8) (hb12 : zI b12 0 240) (hb13 : zI b13 0 240) (hb15 : zI b15 0 1) (hb19 : zI b19 0 12) (hb32 : zI b32 0 1) (hb35 : zI b35 0 1) (hb46 : zI b46 0 1000) (hb49 : zI b49 0 1000) (hb55 : zI b55 0 400) (hb59 : zW5 b59) : zM l G y_Model_isAsked prog_14_method_71_code 5 (Option.some Jvm.ClassFile.FieldType.boolean) m_s9_Model_isAsked [.ref b0, .int b1, .int b2, .int b3, .int b4] [(b0, .inr (12, [.int b5, .ref b6, .ref b7, .ref b8, .ref b9, .int b10, .ref b11, .int b12, .int b13, .int b14, .int b15, .ref b16, .ref b17, .ref b18, .int b19, .ref b20, .ref b21, .ref b22, .ref b23, .ref b24, .ref b25, .ref b26, .ref b27, .ref b28, .ref b29, .ref b30, .ref b31, .int b32, .ref b33, .ref b34, .int b35, .int b36, .int b37, .int b38, .ref b39, .ref b40, .ref b41, .ref b42, .ref b43, .ref b44, .ref b45, .int b46, .ref b47, .ref b48, .int b49, .ref b50, .ref b51, .ref b52, .ref b53, .ref b54, .int b55, .ref b56, .ref b57, .ref b58])), (b6, .inl (G.2 0, 503, .inl b59))] (fun v w => ∃ (e0 : Int32), v = some (.int e0) ∧ w = [(b0, .inr (12, [.int b5, .ref b6, .ref b7, .ref b8, .ref b9, .int b10, .ref b11, .int b12, .int b13, .int b14, .int b15, .ref b16, .ref b17, .ref b18, .int b19, .ref b20, .ref b21, .ref b22, .ref b23, .ref b24, .ref b25, .ref b26, .ref b27, .ref b28, .ref b29, .ref b30, .ref b31, .int b32, .ref b33, .ref b34, .int b35, .int b36, .int b37, .int b38, .ref b39, .ref b40, .ref b41, .ref b42, .ref b43, .ref b44, .ref b45, .int b46, .ref b47, .ref b48, .int b49, .ref b50, .ref b51, .ref b52, .ref b53, .ref b54, .int b55, .ref b56, .ref b57, .ref b58])), (b6, .inl (G.2 0, 503, .inl b59))] ∧ (zI e0 0 1) ∧ (0 ≤ (b2 : Int32).toInt ∧ (b2 : Int32).toInt ≤ 5 → (e0 : Int32).toInt = zAk (b2 : Int32).toInt (fun i => b59 (21 + (12 * (b1 : Int32).toInt.toNat + i))) (b59 (1 + (b1 : Int32).toInt.toNat)).toInt.toNat b3 b4)) := by
  refine z_start (by decide +kernel) (Nat.le_of_ble_eq_true rfl) ?_
  intro p e s m below meth c A Z hr hnm hA hP hD hS ls hl
  have Z : zC p s m _ meth c prog_14_method_71_code 5 "TraceMachinesModel" G := Z
  obtain ⟨hx, hb, hml, hown, hts, hK, hN, hlocks⟩ := id Z
  have hl : lv_has ls 5 [(0, .ref b0), (1, .int b1), (2, .int b2), (3, .int b3), (4, .int b4)] := hl
  refine lv_iload_n hx hb d_Model_isAsked_0 rfl (lv_at hl 2 rfl) ?_
  refine lv_iconst (v := 1) hx hb d_Model_isAsked_1 (by decide) ?_
  refine lv_icmp_ne (tgt := 15) hx hb d_Model_isAsked_2 (by decide) (fun hc_1 => ?_) (fun hc_1 => ?_)
  · have _nhc_1 := hc_1
    have ni_2 : ¬ (b2 : Int32).toInt = (1 : Int32).toInt := fun z => hc_1 ((fa_eq _ _).mpr z)
    simp only [li_1] at ni_2
    refine lv_aload_n hx hb d_Model_isAsked_15 rfl (lv_at hl 0 rfl) ?_
    refine lv_iload_n hx hb d_Model_isAsked_16 rfl (lv_at hl 1 rfl) ?_
    refine lv_iload_n hx hb d_Model_isAsked_17 rfl (lv_at hl 3 rfl) ?_
    refine z_callV (index := 363) (As := [.int b1, .int b3]) (rest := []) (wr := []) Z (s2_Model_hasLetter l G (b0) (b1) (b3) (b5) (b6) (b7) (b8) (b9) (b10) (b11) (b12) (b13) (b14) (b15) (b16) (b17) (b18) (b19) (b20) (b21) (b22) (b23) (b24) (b25) (b26) (b27) (b28) (b29) (b30) (b31) (b32) (b33) (b34) (b35) (b36) (b37) (b38) (b39) (b40) (b41) (b42) (b43) (b44) (b45) (b46) (b47) (b48) (b49) (b50) (b51) (b52) (b53) (b54) (b55) (b56) (b57) (b58) (b59) hb1 hb10 hb12 hb13 hb15 hb19 hb32 hb35 hb46 hb49 hb55 hb59) hl.1 q1561 q1563 qs89 q14 q1564 ⟨by decide, by decide, by show _ = some 2; decide +kernel⟩ ⟨Nat.le_of_ble_eq_true rfl, Nat.le_of_ble_eq_true rfl⟩ ⟨Nat.le_of_ble_eq_true rfl, Nat.le_of_ble_eq_true rfl⟩ rfl (Nat.le_of_ble_eq_true rfl) d_Model_isAsked_18 hP hD hS hA 0 12 rfl rfl rfl [0, 1] [] rfl rfl rfl rfl (by decide) (fun v w1 H locs hw_3 hP hD hS => ?_)
    obtain ⟨x_4, rfl, rfl, hx_4, hfx_5⟩ := hw_3
    have hP : va_P G.1 classes [(b0, .inr (12, [.int b5, .ref b6, .ref b7, .ref b8, .ref b9, .int b10, .ref b11, .int b12, .int b13, .int b14, .int b15, .ref b16, .ref b17, .ref b18, .int b19, .ref b20, .ref b21, .ref b22, .ref b23, .ref b24, .ref b25, .ref b26, .ref b27, .ref b28, .ref b29, .ref b30, .ref b31, .int b32, .ref b33, .ref b34, .int b35, .int b36, .int b37, .int b38, .ref b39, .ref b40, .ref b41, .ref b42, .ref b43, .ref b44, .ref b45, .int b46, .ref b47, .ref b48, .int b49, .ref b50, .ref b51, .ref b52, .ref b53, .ref b54, .int b55, .ref b56, .ref b57, .ref b58])), (b6, .inl (G.2 0, 503, .inl b59))] H := hP
    have hD := z_tie hP hD rfl
    refine W.widen (k := 0) (n := 0) (Nat.le_of_ble_eq_true rfl) (Nat.le_of_ble_eq_true rfl) ?_
    refine lv_if_ne (tgt := 39) hx hb d_Model_isAsked_21 (by decide) (fun hc_6 => ?_) (fun hc_6 => ?_)
    · have _nhc_6 := hc_6
      have ni_7 : ¬ (x_4 : Int32).toInt = (0 : Int32).toInt := fun z => hc_6 ((fa_eq _ _).mpr z)
      simp only [li_0] at ni_7
      have hv_8 : zI x_4 1 1 := zI.ne_lo hx_4 zc_0 hc_6 (by decide)
      refine lv_iconst (v := 1) hx hb d_Model_isAsked_39 (by decide) ?_
      refine lv_goto (tgt := 44) hx hb d_Model_isAsked_40 (by decide) ?_
      exact z_zret hx hb hr hlocks rfl hP hD hS (Nat.le_of_ble_eq_true rfl) (Nat.le_of_ble_eq_true rfl) d_Model_isAsked_44 ⟨1, rfl, rfl, (zI.wk (l' := 0) (h' := 1) zc_1 (by decide)), (by have _l0 := li_0; have _l1 := li_1; intro h9; have a0 := hfx_5; unfold zAk; (repeat' split) <;> (repeat' split at *) <;> omega)⟩
    · have _nhc_6 := hc_6
      have ni_9 := (fa_eq _ _).mp hc_6
      rw [li_0] at ni_9
      have hv_10 : zI x_4 0 0 := zI.eq_l hx_4 zc_0 hc_6
      refine lv_iload_n hx hb d_Model_isAsked_24 rfl (lv_at hl 2 rfl) ?_
      refine lv_iconst (v := 3) hx hb d_Model_isAsked_25 (by decide) ?_
      refine lv_icmp_le (tgt := 43) hx hb d_Model_isAsked_26 (by decide) (fun hc_11 => ?_) (fun hc_11 => ?_)
      · have _nhc_11 := hc_11
        have ni_12 := (fa_le _ _).mp hc_11
        rw [li_3] at ni_12
        have hv_13 : zI b2 (-2147483648) 3 := zI.le_l (zI_all b2) zc_3 hc_11 (by decide)
        refine lv_iconst (v := 0) hx hb d_Model_isAsked_43 (by decide) ?_
        exact z_zret hx hb hr hlocks rfl hP hD hS (Nat.le_of_ble_eq_true rfl) (Nat.le_of_ble_eq_true rfl) d_Model_isAsked_44 ⟨0, rfl, rfl, (zI.wk (l' := 0) (h' := 1) zc_0 (by decide)), (by have _l0 := li_0; have _l1 := li_1; intro h9; have a0 := hfx_5; unfold zAk; (repeat' split) <;> (repeat' split at *) <;> omega)⟩
      · have _nhc_11 := hc_11
        have ni_14 := (fa_lt _ _).mp (zi_nle hc_11)
        rw [li_3] at ni_14
        have hv_15 : zI b2 4 2147483647 := zI.lt_r zc_3 (zI_all b2) (zi_nle hc_11) (by decide)
        refine lv_aload_n hx hb d_Model_isAsked_29 rfl (lv_at hl 0 rfl) ?_
        refine lv_iload_n hx hb d_Model_isAsked_30 rfl (lv_at hl 1 rfl) ?_
        refine lv_iload hx hb d_Model_isAsked_31 (lv_at hl 4 rfl) ?_
        refine z_callV (index := 363) (As := [.int b1, .int b4]) (rest := []) (wr := []) Z (s2_Model_hasLetter l G (b0) (b1) (b4) (b5) (b6) (b7) (b8) (b9) (b10) (b11) (b12) (b13) (b14) (b15) (b16) (b17) (b18) (b19) (b20) (b21) (b22) (b23) (b24) (b25) (b26) (b27) (b28) (b29) (b30) (b31) (b32) (b33) (b34) (b35) (b36) (b37) (b38) (b39) (b40) (b41) (b42) (b43) (b44) (b45) (b46) (b47) (b48) (b49) (b50) (b51) (b52) (b53) (b54) (b55) (b56) (b57) (b58) (b59) hb1 hb10 hb12 hb13 hb15 hb19 hb32 hb35 hb46 hb49 hb55 hb59) hl.1 q1561 q1563 qs89 q14 q1564 ⟨by decide, by decide, by show _ = some 2; decide +kernel⟩ ⟨Nat.le_of_ble_eq_true rfl, Nat.le_of_ble_eq_true rfl⟩ ⟨Nat.le_of_ble_eq_true rfl, Nat.le_of_ble_eq_true rfl⟩ rfl (Nat.le_of_ble_eq_true rfl) d_Model_isAsked_33 hP hD hS hA 0 12 rfl rfl rfl [0, 1] [] rfl rfl rfl rfl (by decide) (fun v w1 H locs hw_16 hP hD hS => ?_)
        obtain ⟨x_17, rfl, rfl, hx_17, hfx_18⟩ := hw_16
        have hP : va_P G.1 classes [(b0, .inr (12, [.int b5, .ref b6, .ref b7, .ref b8, .ref b9, .int b10, .ref b11, .int b12, .int b13, .int b14, .int b15, .ref b16, .ref b17, .ref b18, .int b19, .ref b20, .ref b21, .ref b22, .ref b23, .ref b24, .ref b25, .ref b26, .ref b27, .ref b28, .ref b29, .ref b30, .ref b31, .int b32, .ref b33, .ref b34, .int b35, .int b36, .int b37, .int b38, .ref b39, .ref b40, .ref b41, .ref b42, .ref b43, .ref b44, .ref b45, .int b46, .ref b47, .ref b48, .int b49, .ref b50, .ref b51, .ref b52, .ref b53, .ref b54, .int b55, .ref b56, .ref b57, .ref b58])), (b6, .inl (G.2 0, 503, .inl b59))] H := hP
        have hD := z_tie hP hD rfl
        refine W.widen (k := 0) (n := 0) (Nat.le_of_ble_eq_true rfl) (Nat.le_of_ble_eq_true rfl) ?_
        refine lv_if_eq (tgt := 43) hx hb d_Model_isAsked_36 (by decide) (fun hc_19 => ?_) (fun hc_19 => ?_)
        · have _nhc_19 := hc_19
          have ni_20 := (fa_eq _ _).mp hc_19
          rw [li_0] at ni_20
          have hv_21 : zI x_17 0 0 := zI.eq_l hx_17 zc_0 hc_19
          refine lv_iconst (v := 0) hx hb d_Model_isAsked_43 (by decide) ?_
          exact z_zret hx hb hr hlocks rfl hP hD hS (Nat.le_of_ble_eq_true rfl) (Nat.le_of_ble_eq_true rfl) d_Model_isAsked_44 ⟨0, rfl, rfl, (zI.wk (l' := 0) (h' := 1) zc_0 (by decide)), (by have _l0 := li_0; have _l1 := li_1; intro h9; have a0 := hfx_5; have a1 := hfx_18; unfold zAk; (repeat' split) <;> (repeat' split at *) <;> omega)⟩
        · have _nhc_19 := hc_19
          have ni_22 : ¬ (x_17 : Int32).toInt = (0 : Int32).toInt := fun z => hc_19 ((fa_eq _ _).mpr z)
          simp only [li_0] at ni_22
          have hv_23 : zI x_17 1 1 := zI.ne_lo hx_17 zc_0 hc_19 (by decide)
          refine lv_iconst (v := 1) hx hb d_Model_isAsked_39 (by decide) ?_
          refine lv_goto (tgt := 44) hx hb d_Model_isAsked_40 (by decide) ?_
          exact z_zret hx hb hr hlocks rfl hP hD hS (Nat.le_of_ble_eq_true rfl) (Nat.le_of_ble_eq_true rfl) d_Model_isAsked_44 ⟨1, rfl, rfl, (zI.wk (l' := 0) (h' := 1) zc_1 (by decide)), (by have _l0 := li_0; have _l1 := li_1; intro h9; have a0 := hfx_5; have a1 := hfx_18; unfold zAk; (repeat' split) <;> (repeat' split at *) <;> omega)⟩
  · have _nhc_1 := hc_1
    have ni_24 := (fa_eq _ _).mp hc_1
    rw [li_1] at ni_24
    have hv_25 : zI b2 1 1 := zI.eq_l (zI_all b2) zc_1 hc_1
    refine lv_aload_n hx hb d_Model_isAsked_5 rfl (lv_at hl 0 rfl) ?_
    refine lv_iload_n hx hb d_Model_isAsked_6 rfl (lv_at hl 1 rfl) ?_
    refine lv_iload hx hb d_Model_isAsked_7 (lv_at hl 4 rfl) ?_
    refine z_callV (index := 363) (As := [.int b1, .int b4]) (rest := []) (wr := []) Z (s2_Model_hasLetter l G (b0) (b1) (b4) (b5) (b6) (b7) (b8) (b9) (b10) (b11) (b12) (b13) (b14) (b15) (b16) (b17) (b18) (b19) (b20) (b21) (b22) (b23) (b24) (b25) (b26) (b27) (b28) (b29) (b30) (b31) (b32) (b33) (b34) (b35) (b36) (b37) (b38) (b39) (b40) (b41) (b42) (b43) (b44) (b45) (b46) (b47) (b48) (b49) (b50) (b51) (b52) (b53) (b54) (b55) (b56) (b57) (b58) (b59) hb1 hb10 hb12 hb13 hb15 hb19 hb32 hb35 hb46 hb49 hb55 hb59) hl.1 q1561 q1563 qs89 q14 q1564 ⟨by decide, by decide, by show _ = some 2; decide +kernel⟩ ⟨Nat.le_of_ble_eq_true rfl, Nat.le_of_ble_eq_true rfl⟩ ⟨Nat.le_of_ble_eq_true rfl, Nat.le_of_ble_eq_true rfl⟩ rfl (Nat.le_of_ble_eq_true rfl) d_Model_isAsked_9 hP hD hS hA 0 12 rfl rfl rfl [0, 1] [] rfl rfl rfl rfl (by decide) (fun v w1 H locs hw_26 hP hD hS => ?_)
    obtain ⟨x_27, rfl, rfl, hx_27, hfx_28⟩ := hw_26
    have hP : va_P G.1 classes [(b0, .inr (12, [.int b5, .ref b6, .ref b7, .ref b8, .ref b9, .int b10, .ref b11, .int b12, .int b13, .int b14, .int b15, .ref b16, .ref b17, .ref b18, .int b19, .ref b20, .ref b21, .ref b22, .ref b23, .ref b24, .ref b25, .ref b26, .ref b27, .ref b28, .ref b29, .ref b30, .ref b31, .int b32, .ref b33, .ref b34, .int b35, .int b36, .int b37, .int b38, .ref b39, .ref b40, .ref b41, .ref b42, .ref b43, .ref b44, .ref b45, .int b46, .ref b47, .ref b48, .int b49, .ref b50, .ref b51, .ref b52, .ref b53, .ref b54, .int b55, .ref b56, .ref b57, .ref b58])), (b6, .inl (G.2 0, 503, .inl b59))] H := hP
    have hD := z_tie hP hD rfl
    refine W.widen (k := 0) (n := 0) (Nat.le_of_ble_eq_true rfl) (Nat.le_of_ble_eq_true rfl) ?_
    refine lv_goto (tgt := 44) hx hb d_Model_isAsked_12 (by decide) ?_
    exact z_zret hx hb hr hlocks (zi_nb hx_27) hP hD hS (Nat.le_of_ble_eq_true rfl) (Nat.le_of_ble_eq_true rfl) d_Model_isAsked_44 ⟨x_27, rfl, rfl, hx_27, (by have _l0 := li_0; have _l1 := li_1; intro h9; have a0 := hfx_28; unfold zAk; (repeat' split) <;> (repeat' split at *) <;> omega)⟩
abbrev m_s2_Model_isSo : Room := { frames := 2, cells := 0, slots := 0, locals := 49 }
set_option maxHeartbeats 4000000 in
set_option maxRecDepth 100000 in
theorem s2_Model_isSo (l : Launch) (G : zG) (b0 : Nat) (b1 : Int32) (b2 : Int32) (b3 : Int32) (b4 : Int32) (b5 : Int32) (b6 : Nat) (b7 : Nat) (b8 : Nat) (b9 : Nat) (b10 : Int32) (b11 : Nat) (b12 : Int32) (b13 : Int32) (b14 : Int32) (b15 : Int32) (b16 : Nat) (b17 : Nat) (b18 : Nat) (b19 : Int32) (b20 : Nat) (b21 : Nat) (b22 : Nat) (b23 : Nat) (b24 : Nat) (b25 : Nat) (b26 : Nat) (b27 : Nat) (b28 : Nat) (b29 : Nat) (b30 : Nat) (b31 : Nat) (b32 : Int32) (b33 : Nat) (b34 : Nat) (b35 : Int32) (b36 : Int32) (b37 : Int32) (b38 : Int32) (b39 : Nat) (b40 : Nat) (b41 : Nat) (b42 : Nat) (b43 : Nat) (b44 : Nat) (b45 : Nat) (b46 : Int32) (b47 : Nat) (b48 : Nat) (b49 : Int32) (b50 : Nat) (b51 : Nat) (b52 : Nat) (b53 : Nat) (b54 : Nat) (b55 : Int32) (b56 : Nat) (b57 : Nat) (b58 : Nat) (b59 : Nat → Int32) (hb1 : zI b1 0 19) (hb10 : zI b10 0 8) (hb12 : zI b12 0 240) (hb13 : zI b13 0 240) (hb15 : zI b15 0 1) (hb19 : zI b19 0 12) (hb32 : zI b32 0 1) (hb35 : zI b35 0 1) (hb46 : zI b46 0 1000) (hb49 : zI b49 0 1000) (hb55 : zI b55 0 400) (hb59 : zW5 b59) : zM l G y_Model_isSo prog_14_method_77_code 5 (Option.some Jvm.ClassFile.FieldType.boolean) m_s2_Model_isSo [.ref b0, .int b1, .int b2, .int b3, .int b4] [(b0, .inr (12, [.int b5, .ref b6, .ref b7, .ref b8, .ref b9, .int b10, .ref b11, .int b12, .int b13, .int b14, .int b15, .ref b16, .ref b17, .ref b18, .int b19, .ref b20, .ref b21, .ref b22, .ref b23, .ref b24, .ref b25, .ref b26, .ref b27, .ref b28, .ref b29, .ref b30, .ref b31, .int b32, .ref b33, .ref b34, .int b35, .int b36, .int b37, .int b38, .ref b39, .ref b40, .ref b41, .ref b42, .ref b43, .ref b44, .ref b45, .int b46, .ref b47, .ref b48, .int b49, .ref b50, .ref b51, .ref b52, .ref b53, .ref b54, .int b55, .ref b56, .ref b57, .ref b58])), (b6, .inl (G.2 0, 503, .inl b59))] (fun v w => ∃ (e0 : Int32), v = some (.int e0) ∧ w = [(b0, .inr (12, [.int b5, .ref b6, .ref b7, .ref b8, .ref b9, .int b10, .ref b11, .int b12, .int b13, .int b14, .int b15, .ref b16, .ref b17, .ref b18, .int b19, .ref b20, .ref b21, .ref b22, .ref b23, .ref b24, .ref b25, .ref b26, .ref b27, .ref b28, .ref b29, .ref b30, .ref b31, .int b32, .ref b33, .ref b34, .int b35, .int b36, .int b37, .int b38, .ref b39, .ref b40, .ref b41, .ref b42, .ref b43, .ref b44, .ref b45, .int b46, .ref b47, .ref b48, .int b49, .ref b50, .ref b51, .ref b52, .ref b53, .ref b54, .int b55, .ref b56, .ref b57, .ref b58])), (b6, .inl (G.2 0, 503, .inl b59))] ∧ (zI e0 0 1) ∧ (¬ b3 = b4 → 0 ≤ (b2 : Int32).toInt ∧ (b2 : Int32).toInt ≤ 5 → zAk (b2 : Int32).toInt (fun i => b59 (21 + (12 * (b1 : Int32).toInt.toNat + i))) (b59 (1 + (b1 : Int32).toInt.toNat)).toInt.toNat b3 b4 = 1 → (e0 : Int32).toInt = zSo (b2 : Int32).toInt (fun i => b59 (21 + (12 * (b1 : Int32).toInt.toNat + i))) (b59 (1 + (b1 : Int32).toInt.toNat)).toInt.toNat b3 b4)) := by
  refine z_start (by decide +kernel) (Nat.le_of_ble_eq_true rfl) ?_
  intro p e s m below meth c A Z hr hnm hA hP hD hS ls hl
  have Z : zC p s m _ meth c prog_14_method_77_code 5 "TraceMachinesModel" G := Z
  obtain ⟨hx, hb, hml, hown, hts, hK, hN, hlocks⟩ := id Z
  have hl : lv_has ls 5 [(0, .ref b0), (1, .int b1), (2, .int b2), (3, .int b3), (4, .int b4)] := hl
  refine lv_iload_n hx hb d_Model_isSo_0 rfl (lv_at hl 2 rfl) ?_
  by_cases hs_1 : b2 = 0
  · subst hs_1
    refine lv_tableIn (off := 35) (tgt := 36) hx hb d_Model_isSo_1 (by decide +kernel) (by decide +kernel) rfl (by decide) ?_
    refine lv_aload_n hx hb d_Model_isSo_36 rfl (lv_at hl 0 rfl) ?_
    refine lv_iload_n hx hb d_Model_isSo_37 rfl (lv_at hl 1 rfl) ?_
    refine lv_iload hx hb d_Model_isSo_38 (lv_at hl 4 rfl) ?_
    refine z_callV (index := 366) (As := [.int b1, .int b4]) (rest := []) (wr := []) Z (s2_Model_lastOf l G (b0) (b1) (b4) (b5) (b6) (b7) (b8) (b9) (b10) (b11) (b12) (b13) (b14) (b15) (b16) (b17) (b18) (b19) (b20) (b21) (b22) (b23) (b24) (b25) (b26) (b27) (b28) (b29) (b30) (b31) (b32) (b33) (b34) (b35) (b36) (b37) (b38) (b39) (b40) (b41) (b42) (b43) (b44) (b45) (b46) (b47) (b48) (b49) (b50) (b51) (b52) (b53) (b54) (b55) (b56) (b57) (b58) (b59) hb1 hb10 hb12 hb13 hb15 hb19 hb32 hb35 hb46 hb49 hb55 hb59) hl.1 q1569 q1571 qs91 q14 q1572 ⟨by decide, by decide, by show _ = some 2; decide +kernel⟩ ⟨Nat.le_of_ble_eq_true rfl, Nat.le_of_ble_eq_true rfl⟩ ⟨Nat.le_of_ble_eq_true rfl, Nat.le_of_ble_eq_true rfl⟩ rfl (Nat.le_of_ble_eq_true rfl) d_Model_isSo_40 hP hD hS hA 0 12 rfl rfl rfl [0, 1] [] rfl rfl rfl rfl (by decide) (fun v w1 H locs hw_2 hP hD hS => ?_)
    obtain ⟨x_3, rfl, rfl, hx_3, hfx_4⟩ := hw_2
    have hP : va_P G.1 classes [(b0, .inr (12, [.int b5, .ref b6, .ref b7, .ref b8, .ref b9, .int b10, .ref b11, .int b12, .int b13, .int b14, .int b15, .ref b16, .ref b17, .ref b18, .int b19, .ref b20, .ref b21, .ref b22, .ref b23, .ref b24, .ref b25, .ref b26, .ref b27, .ref b28, .ref b29, .ref b30, .ref b31, .int b32, .ref b33, .ref b34, .int b35, .int b36, .int b37, .int b38, .ref b39, .ref b40, .ref b41, .ref b42, .ref b43, .ref b44, .ref b45, .int b46, .ref b47, .ref b48, .int b49, .ref b50, .ref b51, .ref b52, .ref b53, .ref b54, .int b55, .ref b56, .ref b57, .ref b58])), (b6, .inl (G.2 0, 503, .inl b59))] H := hP
    have hD := z_tie hP hD rfl
    refine W.widen (k := 0) (n := 0) (Nat.le_of_ble_eq_true rfl) (Nat.le_of_ble_eq_true rfl) ?_
    refine lv_aload_n hx hb d_Model_isSo_43 rfl (lv_at hl 0 rfl) ?_
    refine lv_iload_n hx hb d_Model_isSo_44 rfl (lv_at hl 1 rfl) ?_
    refine lv_iload_n hx hb d_Model_isSo_45 rfl (lv_at hl 3 rfl) ?_
    refine z_callV (index := 366) (As := [.int b1, .int b3]) (rest := [.int x_3]) (wr := []) Z (s2_Model_lastOf l G (b0) (b1) (b3) (b5) (b6) (b7) (b8) (b9) (b10) (b11) (b12) (b13) (b14) (b15) (b16) (b17) (b18) (b19) (b20) (b21) (b22) (b23) (b24) (b25) (b26) (b27) (b28) (b29) (b30) (b31) (b32) (b33) (b34) (b35) (b36) (b37) (b38) (b39) (b40) (b41) (b42) (b43) (b44) (b45) (b46) (b47) (b48) (b49) (b50) (b51) (b52) (b53) (b54) (b55) (b56) (b57) (b58) (b59) hb1 hb10 hb12 hb13 hb15 hb19 hb32 hb35 hb46 hb49 hb55 hb59) hl.1 q1569 q1571 qs91 q14 q1572 ⟨by decide, by decide, by show _ = some 2; decide +kernel⟩ ⟨Nat.le_of_ble_eq_true rfl, Nat.le_of_ble_eq_true rfl⟩ ⟨Nat.le_of_ble_eq_true rfl, Nat.le_of_ble_eq_true rfl⟩ rfl (Nat.le_of_ble_eq_true rfl) d_Model_isSo_46 hP hD hS hA 0 12 rfl rfl rfl [0, 1] [] rfl rfl rfl rfl (by decide) (fun v w1 H locs hw_5 hP hD hS => ?_)
    obtain ⟨x_6, rfl, rfl, hx_6, hfx_7⟩ := hw_5
    have hP : va_P G.1 classes [(b0, .inr (12, [.int b5, .ref b6, .ref b7, .ref b8, .ref b9, .int b10, .ref b11, .int b12, .int b13, .int b14, .int b15, .ref b16, .ref b17, .ref b18, .int b19, .ref b20, .ref b21, .ref b22, .ref b23, .ref b24, .ref b25, .ref b26, .ref b27, .ref b28, .ref b29, .ref b30, .ref b31, .int b32, .ref b33, .ref b34, .int b35, .int b36, .int b37, .int b38, .ref b39, .ref b40, .ref b41, .ref b42, .ref b43, .ref b44, .ref b45, .int b46, .ref b47, .ref b48, .int b49, .ref b50, .ref b51, .ref b52, .ref b53, .ref b54, .int b55, .ref b56, .ref b57, .ref b58])), (b6, .inl (G.2 0, 503, .inl b59))] H := hP
    have hD := z_tie hP hD rfl
    refine W.widen (k := 0) (n := 0) (Nat.le_of_ble_eq_true rfl) (Nat.le_of_ble_eq_true rfl) ?_
    refine lv_icmp_le (tgt := 56) hx hb d_Model_isSo_49 (by decide) (fun hc_8 => ?_) (fun hc_8 => ?_)
    · have _nhc_8 := hc_8
      have ni_9 := (fa_le _ _).mp hc_8
      refine lv_iconst (v := 0) hx hb d_Model_isSo_56 (by decide) ?_
      exact z_zret hx hb hr hlocks rfl hP hD hS (Nat.le_of_ble_eq_true rfl) (Nat.le_of_ble_eq_true rfl) d_Model_isSo_57 ⟨0, rfl, rfl, (zI.wk (l' := 0) (h' := 1) zc_0 (by decide)), (fun hne hk ha => by have _l0 := li_0; have _l1 := li_1; have _l2 := li_2; have _l3 := li_3; have _l4 := li_4; have _l5 := li_5; exact zSo_r (fx := 0) (fy := 0) (cx := 0) (cy := 0) (rb := 0) (it := 0) hk ha (Or.inl ⟨by omega, hfx_7, hfx_4, by split <;> omega⟩))⟩
    · have _nhc_8 := hc_8
      have ni_10 := (fa_lt _ _).mp (zi_nle hc_8)
      have hv_11 : zI x_6 (-1) 10 := zI.lt_l hx_6 hx_3 (zi_nle hc_8) (by decide)
      have hv_12 : zI x_3 0 11 := zI.lt_r hx_6 hx_3 (zi_nle hc_8) (by decide)
      refine lv_iconst (v := 1) hx hb d_Model_isSo_52 (by decide) ?_
      refine lv_goto (tgt := 57) hx hb d_Model_isSo_53 (by decide) ?_
      exact z_zret hx hb hr hlocks rfl hP hD hS (Nat.le_of_ble_eq_true rfl) (Nat.le_of_ble_eq_true rfl) d_Model_isSo_57 ⟨1, rfl, rfl, (zI.wk (l' := 0) (h' := 1) zc_1 (by decide)), (fun hne hk ha => by have _l0 := li_0; have _l1 := li_1; have _l2 := li_2; have _l3 := li_3; have _l4 := li_4; have _l5 := li_5; exact zSo_r (fx := 0) (fy := 0) (cx := 0) (cy := 0) (rb := 0) (it := 0) hk ha (Or.inl ⟨by omega, hfx_7, hfx_4, by split <;> omega⟩))⟩
  simp only [fa_lt, fa_le, fa_eq, Int32.toInt_toInt64, li_0] at hs_1
  by_cases hs_13 : b2 = 1
  · subst hs_13
    refine lv_tableIn (off := 57) (tgt := 58) hx hb d_Model_isSo_1 (by decide +kernel) (by decide +kernel) rfl (by decide) ?_
    refine lv_aload_n hx hb d_Model_isSo_58 rfl (lv_at hl 0 rfl) ?_
    refine lv_iload_n hx hb d_Model_isSo_59 rfl (lv_at hl 1 rfl) ?_
    refine lv_iload_n hx hb d_Model_isSo_60 rfl (lv_at hl 3 rfl) ?_
    refine z_callV (index := 369) (As := [.int b1, .int b3]) (rest := []) (wr := []) Z (s2_Model_firstOf l G (b0) (b1) (b3) (b5) (b6) (b7) (b8) (b9) (b10) (b11) (b12) (b13) (b14) (b15) (b16) (b17) (b18) (b19) (b20) (b21) (b22) (b23) (b24) (b25) (b26) (b27) (b28) (b29) (b30) (b31) (b32) (b33) (b34) (b35) (b36) (b37) (b38) (b39) (b40) (b41) (b42) (b43) (b44) (b45) (b46) (b47) (b48) (b49) (b50) (b51) (b52) (b53) (b54) (b55) (b56) (b57) (b58) (b59) hb1 hb10 hb12 hb13 hb15 hb19 hb32 hb35 hb46 hb49 hb55 hb59) hl.1 q1573 q1575 qs92 q14 q1576 ⟨by decide, by decide, by show _ = some 2; decide +kernel⟩ ⟨Nat.le_of_ble_eq_true rfl, Nat.le_of_ble_eq_true rfl⟩ ⟨Nat.le_of_ble_eq_true rfl, Nat.le_of_ble_eq_true rfl⟩ rfl (Nat.le_of_ble_eq_true rfl) d_Model_isSo_61 hP hD hS hA 0 12 rfl rfl rfl [0, 1] [] rfl rfl rfl rfl (by decide) (fun v w1 H locs hw_14 hP hD hS => ?_)
    obtain ⟨x_15, rfl, rfl, hx_15, hfx_16⟩ := hw_14
    have hP : va_P G.1 classes [(b0, .inr (12, [.int b5, .ref b6, .ref b7, .ref b8, .ref b9, .int b10, .ref b11, .int b12, .int b13, .int b14, .int b15, .ref b16, .ref b17, .ref b18, .int b19, .ref b20, .ref b21, .ref b22, .ref b23, .ref b24, .ref b25, .ref b26, .ref b27, .ref b28, .ref b29, .ref b30, .ref b31, .int b32, .ref b33, .ref b34, .int b35, .int b36, .int b37, .int b38, .ref b39, .ref b40, .ref b41, .ref b42, .ref b43, .ref b44, .ref b45, .int b46, .ref b47, .ref b48, .int b49, .ref b50, .ref b51, .ref b52, .ref b53, .ref b54, .int b55, .ref b56, .ref b57, .ref b58])), (b6, .inl (G.2 0, 503, .inl b59))] H := hP
    have hD := z_tie hP hD rfl
    refine W.widen (k := 0) (n := 0) (Nat.le_of_ble_eq_true rfl) (Nat.le_of_ble_eq_true rfl) ?_
    refine lv_aload_n hx hb d_Model_isSo_64 rfl (lv_at hl 0 rfl) ?_
    refine lv_iload_n hx hb d_Model_isSo_65 rfl (lv_at hl 1 rfl) ?_
    refine lv_iload hx hb d_Model_isSo_66 (lv_at hl 4 rfl) ?_
    refine z_callV (index := 369) (As := [.int b1, .int b4]) (rest := [.int x_15]) (wr := []) Z (s2_Model_firstOf l G (b0) (b1) (b4) (b5) (b6) (b7) (b8) (b9) (b10) (b11) (b12) (b13) (b14) (b15) (b16) (b17) (b18) (b19) (b20) (b21) (b22) (b23) (b24) (b25) (b26) (b27) (b28) (b29) (b30) (b31) (b32) (b33) (b34) (b35) (b36) (b37) (b38) (b39) (b40) (b41) (b42) (b43) (b44) (b45) (b46) (b47) (b48) (b49) (b50) (b51) (b52) (b53) (b54) (b55) (b56) (b57) (b58) (b59) hb1 hb10 hb12 hb13 hb15 hb19 hb32 hb35 hb46 hb49 hb55 hb59) hl.1 q1573 q1575 qs92 q14 q1576 ⟨by decide, by decide, by show _ = some 2; decide +kernel⟩ ⟨Nat.le_of_ble_eq_true rfl, Nat.le_of_ble_eq_true rfl⟩ ⟨Nat.le_of_ble_eq_true rfl, Nat.le_of_ble_eq_true rfl⟩ rfl (Nat.le_of_ble_eq_true rfl) d_Model_isSo_68 hP hD hS hA 0 12 rfl rfl rfl [0, 1] [] rfl rfl rfl rfl (by decide) (fun v w1 H locs hw_17 hP hD hS => ?_)
    obtain ⟨x_18, rfl, rfl, hx_18, hfx_19⟩ := hw_17
    have hP : va_P G.1 classes [(b0, .inr (12, [.int b5, .ref b6, .ref b7, .ref b8, .ref b9, .int b10, .ref b11, .int b12, .int b13, .int b14, .int b15, .ref b16, .ref b17, .ref b18, .int b19, .ref b20, .ref b21, .ref b22, .ref b23, .ref b24, .ref b25, .ref b26, .ref b27, .ref b28, .ref b29, .ref b30, .ref b31, .int b32, .ref b33, .ref b34, .int b35, .int b36, .int b37, .int b38, .ref b39, .ref b40, .ref b41, .ref b42, .ref b43, .ref b44, .ref b45, .int b46, .ref b47, .ref b48, .int b49, .ref b50, .ref b51, .ref b52, .ref b53, .ref b54, .int b55, .ref b56, .ref b57, .ref b58])), (b6, .inl (G.2 0, 503, .inl b59))] H := hP
    have hD := z_tie hP hD rfl
    refine W.widen (k := 0) (n := 0) (Nat.le_of_ble_eq_true rfl) (Nat.le_of_ble_eq_true rfl) ?_
    refine lv_icmp_ge (tgt := 78) hx hb d_Model_isSo_71 (by decide) (fun hc_20 => ?_) (fun hc_20 => ?_)
    · have _nhc_20 := hc_20
      have ni_21 := (fa_le _ _).mp hc_20
      refine lv_iconst (v := 0) hx hb d_Model_isSo_78 (by decide) ?_
      exact z_zret hx hb hr hlocks rfl hP hD hS (Nat.le_of_ble_eq_true rfl) (Nat.le_of_ble_eq_true rfl) d_Model_isSo_79 ⟨0, rfl, rfl, (zI.wk (l' := 0) (h' := 1) zc_0 (by decide)), (fun hne hk ha => by have _l0 := li_0; have _l1 := li_1; have _l2 := li_2; have _l3 := li_3; have _l4 := li_4; have _l5 := li_5; exact zSo_r (lx := 0) (ly := 0) (cx := 0) (cy := 0) (rb := 0) (it := 0) hk ha (Or.inr (Or.inl ⟨by omega, hfx_16, hfx_19, by split <;> omega⟩)))⟩
    · have _nhc_20 := hc_20
      have ni_22 := (fa_lt _ _).mp (zi_nle hc_20)
      have hv_23 : zI x_15 0 11 := zI.lt_l hx_15 hx_18 (zi_nle hc_20) (by decide)
      have hv_24 : zI x_18 1 12 := zI.lt_r hx_15 hx_18 (zi_nle hc_20) (by decide)
      refine lv_iconst (v := 1) hx hb d_Model_isSo_74 (by decide) ?_
      refine lv_goto (tgt := 79) hx hb d_Model_isSo_75 (by decide) ?_
      exact z_zret hx hb hr hlocks rfl hP hD hS (Nat.le_of_ble_eq_true rfl) (Nat.le_of_ble_eq_true rfl) d_Model_isSo_79 ⟨1, rfl, rfl, (zI.wk (l' := 0) (h' := 1) zc_1 (by decide)), (fun hne hk ha => by have _l0 := li_0; have _l1 := li_1; have _l2 := li_2; have _l3 := li_3; have _l4 := li_4; have _l5 := li_5; exact zSo_r (lx := 0) (ly := 0) (cx := 0) (cy := 0) (rb := 0) (it := 0) hk ha (Or.inr (Or.inl ⟨by omega, hfx_16, hfx_19, by split <;> omega⟩)))⟩
  simp only [fa_lt, fa_le, fa_eq, Int32.toInt_toInt64, li_1] at hs_13
  by_cases hs_25 : b2 = 2
  · subst hs_25
    refine lv_tableIn (off := 79) (tgt := 80) hx hb d_Model_isSo_1 (by decide +kernel) (by decide +kernel) rfl (by decide) ?_
    refine lv_aload_n hx hb d_Model_isSo_80 rfl (lv_at hl 0 rfl) ?_
    refine lv_iload_n hx hb d_Model_isSo_81 rfl (lv_at hl 1 rfl) ?_
    refine lv_iload hx hb d_Model_isSo_82 (lv_at hl 4 rfl) ?_
    refine z_callV (index := 366) (As := [.int b1, .int b4]) (rest := []) (wr := []) Z (s2_Model_lastOf l G (b0) (b1) (b4) (b5) (b6) (b7) (b8) (b9) (b10) (b11) (b12) (b13) (b14) (b15) (b16) (b17) (b18) (b19) (b20) (b21) (b22) (b23) (b24) (b25) (b26) (b27) (b28) (b29) (b30) (b31) (b32) (b33) (b34) (b35) (b36) (b37) (b38) (b39) (b40) (b41) (b42) (b43) (b44) (b45) (b46) (b47) (b48) (b49) (b50) (b51) (b52) (b53) (b54) (b55) (b56) (b57) (b58) (b59) hb1 hb10 hb12 hb13 hb15 hb19 hb32 hb35 hb46 hb49 hb55 hb59) hl.1 q1569 q1571 qs91 q14 q1572 ⟨by decide, by decide, by show _ = some 2; decide +kernel⟩ ⟨Nat.le_of_ble_eq_true rfl, Nat.le_of_ble_eq_true rfl⟩ ⟨Nat.le_of_ble_eq_true rfl, Nat.le_of_ble_eq_true rfl⟩ rfl (Nat.le_of_ble_eq_true rfl) d_Model_isSo_84 hP hD hS hA 0 12 rfl rfl rfl [0, 1] [] rfl rfl rfl rfl (by decide) (fun v w1 H locs hw_26 hP hD hS => ?_)
    obtain ⟨x_27, rfl, rfl, hx_27, hfx_28⟩ := hw_26
    have hP : va_P G.1 classes [(b0, .inr (12, [.int b5, .ref b6, .ref b7, .ref b8, .ref b9, .int b10, .ref b11, .int b12, .int b13, .int b14, .int b15, .ref b16, .ref b17, .ref b18, .int b19, .ref b20, .ref b21, .ref b22, .ref b23, .ref b24, .ref b25, .ref b26, .ref b27, .ref b28, .ref b29, .ref b30, .ref b31, .int b32, .ref b33, .ref b34, .int b35, .int b36, .int b37, .int b38, .ref b39, .ref b40, .ref b41, .ref b42, .ref b43, .ref b44, .ref b45, .int b46, .ref b47, .ref b48, .int b49, .ref b50, .ref b51, .ref b52, .ref b53, .ref b54, .int b55, .ref b56, .ref b57, .ref b58])), (b6, .inl (G.2 0, 503, .inl b59))] H := hP
    have hD := z_tie hP hD rfl
    refine W.widen (k := 0) (n := 0) (Nat.le_of_ble_eq_true rfl) (Nat.le_of_ble_eq_true rfl) ?_
    refine lv_aload_n hx hb d_Model_isSo_87 rfl (lv_at hl 0 rfl) ?_
    refine lv_iload_n hx hb d_Model_isSo_88 rfl (lv_at hl 1 rfl) ?_
    refine lv_iload_n hx hb d_Model_isSo_89 rfl (lv_at hl 3 rfl) ?_
    refine z_callV (index := 369) (As := [.int b1, .int b3]) (rest := [.int x_27]) (wr := []) Z (s2_Model_firstOf l G (b0) (b1) (b3) (b5) (b6) (b7) (b8) (b9) (b10) (b11) (b12) (b13) (b14) (b15) (b16) (b17) (b18) (b19) (b20) (b21) (b22) (b23) (b24) (b25) (b26) (b27) (b28) (b29) (b30) (b31) (b32) (b33) (b34) (b35) (b36) (b37) (b38) (b39) (b40) (b41) (b42) (b43) (b44) (b45) (b46) (b47) (b48) (b49) (b50) (b51) (b52) (b53) (b54) (b55) (b56) (b57) (b58) (b59) hb1 hb10 hb12 hb13 hb15 hb19 hb32 hb35 hb46 hb49 hb55 hb59) hl.1 q1573 q1575 qs92 q14 q1576 ⟨by decide, by decide, by show _ = some 2; decide +kernel⟩ ⟨Nat.le_of_ble_eq_true rfl, Nat.le_of_ble_eq_true rfl⟩ ⟨Nat.le_of_ble_eq_true rfl, Nat.le_of_ble_eq_true rfl⟩ rfl (Nat.le_of_ble_eq_true rfl) d_Model_isSo_90 hP hD hS hA 0 12 rfl rfl rfl [0, 1] [] rfl rfl rfl rfl (by decide) (fun v w1 H locs hw_29 hP hD hS => ?_)
    obtain ⟨x_30, rfl, rfl, hx_30, hfx_31⟩ := hw_29
    have hP : va_P G.1 classes [(b0, .inr (12, [.int b5, .ref b6, .ref b7, .ref b8, .ref b9, .int b10, .ref b11, .int b12, .int b13, .int b14, .int b15, .ref b16, .ref b17, .ref b18, .int b19, .ref b20, .ref b21, .ref b22, .ref b23, .ref b24, .ref b25, .ref b26, .ref b27, .ref b28, .ref b29, .ref b30, .ref b31, .int b32, .ref b33, .ref b34, .int b35, .int b36, .int b37, .int b38, .ref b39, .ref b40, .ref b41, .ref b42, .ref b43, .ref b44, .ref b45, .int b46, .ref b47, .ref b48, .int b49, .ref b50, .ref b51, .ref b52, .ref b53, .ref b54, .int b55, .ref b56, .ref b57, .ref b58])), (b6, .inl (G.2 0, 503, .inl b59))] H := hP
    have hD := z_tie hP hD rfl
    refine W.widen (k := 0) (n := 0) (Nat.le_of_ble_eq_true rfl) (Nat.le_of_ble_eq_true rfl) ?_
    refine lv_icmp_ge (tgt := 100) hx hb d_Model_isSo_93 (by decide) (fun hc_32 => ?_) (fun hc_32 => ?_)
    · have _nhc_32 := hc_32
      have ni_33 := (fa_le _ _).mp hc_32
      have hv_34 : zI x_30 0 11 := zI.le_l hx_30 hx_27 hc_32 (by decide)
      have hv_35 : zI x_27 0 11 := zI.le_r hx_30 hx_27 hc_32 (by decide)
      refine lv_iconst (v := 0) hx hb d_Model_isSo_100 (by decide) ?_
      exact z_zret hx hb hr hlocks rfl hP hD hS (Nat.le_of_ble_eq_true rfl) (Nat.le_of_ble_eq_true rfl) d_Model_isSo_101 ⟨0, rfl, rfl, (zI.wk (l' := 0) (h' := 1) zc_0 (by decide)), (fun hne hk ha => by have _l0 := li_0; have _l1 := li_1; have _l2 := li_2; have _l3 := li_3; have _l4 := li_4; have _l5 := li_5; exact zSo_r (fy := 0) (lx := 0) (cx := 0) (cy := 0) (rb := 0) (it := 0) hk ha (Or.inr (Or.inr (Or.inl ⟨by omega, hfx_31, hfx_28, by split <;> omega⟩))))⟩
    · have _nhc_32 := hc_32
      have ni_36 := (fa_lt _ _).mp (zi_nle hc_32)
      refine lv_iconst (v := 1) hx hb d_Model_isSo_96 (by decide) ?_
      refine lv_goto (tgt := 101) hx hb d_Model_isSo_97 (by decide) ?_
      exact z_zret hx hb hr hlocks rfl hP hD hS (Nat.le_of_ble_eq_true rfl) (Nat.le_of_ble_eq_true rfl) d_Model_isSo_101 ⟨1, rfl, rfl, (zI.wk (l' := 0) (h' := 1) zc_1 (by decide)), (fun hne hk ha => by have _l0 := li_0; have _l1 := li_1; have _l2 := li_2; have _l3 := li_3; have _l4 := li_4; have _l5 := li_5; exact zSo_r (fy := 0) (lx := 0) (cx := 0) (cy := 0) (rb := 0) (it := 0) hk ha (Or.inr (Or.inr (Or.inl ⟨by omega, hfx_31, hfx_28, by split <;> omega⟩))))⟩
  simp only [fa_lt, fa_le, fa_eq, Int32.toInt_toInt64, li_2] at hs_25
  by_cases hs_37 : b2 = 3
  · subst hs_37
    refine lv_tableIn (off := 101) (tgt := 102) hx hb d_Model_isSo_1 (by decide +kernel) (by decide +kernel) rfl (by decide) ?_
    refine lv_aload_n hx hb d_Model_isSo_102 rfl (lv_at hl 0 rfl) ?_
    refine lv_iload_n hx hb d_Model_isSo_103 rfl (lv_at hl 1 rfl) ?_
    refine lv_iload_n hx hb d_Model_isSo_104 rfl (lv_at hl 3 rfl) ?_
    refine lv_iload hx hb d_Model_isSo_105 (lv_at hl 4 rfl) ?_
    refine z_callV (index := 372) (As := [.int b1, .int b3, .int b4]) (rest := []) (wr := []) Z (s2_Model_rightBehind l G (b0) (b1) (b3) (b4) (b5) (b6) (b7) (b8) (b9) (b10) (b11) (b12) (b13) (b14) (b15) (b16) (b17) (b18) (b19) (b20) (b21) (b22) (b23) (b24) (b25) (b26) (b27) (b28) (b29) (b30) (b31) (b32) (b33) (b34) (b35) (b36) (b37) (b38) (b39) (b40) (b41) (b42) (b43) (b44) (b45) (b46) (b47) (b48) (b49) (b50) (b51) (b52) (b53) (b54) (b55) (b56) (b57) (b58) (b59) hb1 hb10 hb12 hb13 hb15 hb19 hb32 hb35 hb46 hb49 hb55 hb59) hl.1 q1577 q1579 qs93 q14 q1580 ⟨by decide, by decide, by show _ = some 3; decide +kernel⟩ ⟨Nat.le_of_ble_eq_true rfl, Nat.le_of_ble_eq_true rfl⟩ ⟨Nat.le_of_ble_eq_true rfl, Nat.le_of_ble_eq_true rfl⟩ rfl (Nat.le_of_ble_eq_true rfl) d_Model_isSo_107 hP hD hS hA 0 12 rfl rfl rfl [0, 1] [] rfl rfl rfl rfl (by decide) (fun v w1 H locs hw_38 hP hD hS => ?_)
    obtain ⟨x_39, rfl, rfl, hx_39, hfx_40⟩ := hw_38
    have hP : va_P G.1 classes [(b0, .inr (12, [.int b5, .ref b6, .ref b7, .ref b8, .ref b9, .int b10, .ref b11, .int b12, .int b13, .int b14, .int b15, .ref b16, .ref b17, .ref b18, .int b19, .ref b20, .ref b21, .ref b22, .ref b23, .ref b24, .ref b25, .ref b26, .ref b27, .ref b28, .ref b29, .ref b30, .ref b31, .int b32, .ref b33, .ref b34, .int b35, .int b36, .int b37, .int b38, .ref b39, .ref b40, .ref b41, .ref b42, .ref b43, .ref b44, .ref b45, .int b46, .ref b47, .ref b48, .int b49, .ref b50, .ref b51, .ref b52, .ref b53, .ref b54, .int b55, .ref b56, .ref b57, .ref b58])), (b6, .inl (G.2 0, 503, .inl b59))] H := hP
    have hD := z_tie hP hD rfl
    refine W.widen (k := 0) (n := 0) (Nat.le_of_ble_eq_true rfl) (Nat.le_of_ble_eq_true rfl) ?_
    exact z_zret hx hb hr hlocks (zi_nb hx_39) hP hD hS (Nat.le_of_ble_eq_true rfl) (Nat.le_of_ble_eq_true rfl) d_Model_isSo_110 ⟨x_39, rfl, rfl, hx_39, (fun hne hk ha => by have _l0 := li_0; have _l1 := li_1; have _l2 := li_2; have _l3 := li_3; have _l4 := li_4; have _l5 := li_5; exact zSo_r (fx := 0) (fy := 0) (lx := 0) (ly := 0) (cx := 0) (cy := 0) (rb := 0) (it := 0) hk ha (Or.inr (Or.inr (Or.inr (Or.inl ⟨by omega, hfx_40⟩)))))⟩
  simp only [fa_lt, fa_le, fa_eq, Int32.toInt_toInt64, li_3] at hs_37
  by_cases hs_41 : b2 = 4
  · subst hs_41
    refine lv_tableIn (off := 110) (tgt := 111) hx hb d_Model_isSo_1 (by decide +kernel) (by decide +kernel) rfl (by decide) ?_
    refine lv_aload_n hx hb d_Model_isSo_111 rfl (lv_at hl 0 rfl) ?_
    refine lv_iload_n hx hb d_Model_isSo_112 rfl (lv_at hl 1 rfl) ?_
    refine lv_iload_n hx hb d_Model_isSo_113 rfl (lv_at hl 3 rfl) ?_
    refine z_callV (index := 376) (As := [.int b1, .int b3]) (rest := []) (wr := []) Z (s2_Model_howOften l G (b0) (b1) (b3) (b5) (b6) (b7) (b8) (b9) (b10) (b11) (b12) (b13) (b14) (b15) (b16) (b17) (b18) (b19) (b20) (b21) (b22) (b23) (b24) (b25) (b26) (b27) (b28) (b29) (b30) (b31) (b32) (b33) (b34) (b35) (b36) (b37) (b38) (b39) (b40) (b41) (b42) (b43) (b44) (b45) (b46) (b47) (b48) (b49) (b50) (b51) (b52) (b53) (b54) (b55) (b56) (b57) (b58) (b59) hb1 hb10 hb12 hb13 hb15 hb19 hb32 hb35 hb46 hb49 hb55 hb59) hl.1 q1581 q1583 qs94 q14 q1584 ⟨by decide, by decide, by show _ = some 2; decide +kernel⟩ ⟨Nat.le_of_ble_eq_true rfl, Nat.le_of_ble_eq_true rfl⟩ ⟨Nat.le_of_ble_eq_true rfl, Nat.le_of_ble_eq_true rfl⟩ rfl (Nat.le_of_ble_eq_true rfl) d_Model_isSo_114 hP hD hS hA 0 12 rfl rfl rfl [0, 1] [] rfl rfl rfl rfl (by decide) (fun v w1 H locs hw_42 hP hD hS => ?_)
    obtain ⟨x_43, rfl, rfl, hfx_44⟩ := hw_42
    have hP : va_P G.1 classes [(b0, .inr (12, [.int b5, .ref b6, .ref b7, .ref b8, .ref b9, .int b10, .ref b11, .int b12, .int b13, .int b14, .int b15, .ref b16, .ref b17, .ref b18, .int b19, .ref b20, .ref b21, .ref b22, .ref b23, .ref b24, .ref b25, .ref b26, .ref b27, .ref b28, .ref b29, .ref b30, .ref b31, .int b32, .ref b33, .ref b34, .int b35, .int b36, .int b37, .int b38, .ref b39, .ref b40, .ref b41, .ref b42, .ref b43, .ref b44, .ref b45, .int b46, .ref b47, .ref b48, .int b49, .ref b50, .ref b51, .ref b52, .ref b53, .ref b54, .int b55, .ref b56, .ref b57, .ref b58])), (b6, .inl (G.2 0, 503, .inl b59))] H := hP
    have hD := z_tie hP hD rfl
    refine W.widen (k := 0) (n := 0) (Nat.le_of_ble_eq_true rfl) (Nat.le_of_ble_eq_true rfl) ?_
    refine lv_aload_n hx hb d_Model_isSo_117 rfl (lv_at hl 0 rfl) ?_
    refine lv_iload_n hx hb d_Model_isSo_118 rfl (lv_at hl 1 rfl) ?_
    refine lv_iload hx hb d_Model_isSo_119 (lv_at hl 4 rfl) ?_
    refine z_callV (index := 376) (As := [.int b1, .int b4]) (rest := [.int x_43]) (wr := []) Z (s2_Model_howOften l G (b0) (b1) (b4) (b5) (b6) (b7) (b8) (b9) (b10) (b11) (b12) (b13) (b14) (b15) (b16) (b17) (b18) (b19) (b20) (b21) (b22) (b23) (b24) (b25) (b26) (b27) (b28) (b29) (b30) (b31) (b32) (b33) (b34) (b35) (b36) (b37) (b38) (b39) (b40) (b41) (b42) (b43) (b44) (b45) (b46) (b47) (b48) (b49) (b50) (b51) (b52) (b53) (b54) (b55) (b56) (b57) (b58) (b59) hb1 hb10 hb12 hb13 hb15 hb19 hb32 hb35 hb46 hb49 hb55 hb59) hl.1 q1581 q1583 qs94 q14 q1584 ⟨by decide, by decide, by show _ = some 2; decide +kernel⟩ ⟨Nat.le_of_ble_eq_true rfl, Nat.le_of_ble_eq_true rfl⟩ ⟨Nat.le_of_ble_eq_true rfl, Nat.le_of_ble_eq_true rfl⟩ rfl (Nat.le_of_ble_eq_true rfl) d_Model_isSo_121 hP hD hS hA 0 12 rfl rfl rfl [0, 1] [] rfl rfl rfl rfl (by decide) (fun v w1 H locs hw_45 hP hD hS => ?_)
    obtain ⟨x_46, rfl, rfl, hfx_47⟩ := hw_45
    have hP : va_P G.1 classes [(b0, .inr (12, [.int b5, .ref b6, .ref b7, .ref b8, .ref b9, .int b10, .ref b11, .int b12, .int b13, .int b14, .int b15, .ref b16, .ref b17, .ref b18, .int b19, .ref b20, .ref b21, .ref b22, .ref b23, .ref b24, .ref b25, .ref b26, .ref b27, .ref b28, .ref b29, .ref b30, .ref b31, .int b32, .ref b33, .ref b34, .int b35, .int b36, .int b37, .int b38, .ref b39, .ref b40, .ref b41, .ref b42, .ref b43, .ref b44, .ref b45, .int b46, .ref b47, .ref b48, .int b49, .ref b50, .ref b51, .ref b52, .ref b53, .ref b54, .int b55, .ref b56, .ref b57, .ref b58])), (b6, .inl (G.2 0, 503, .inl b59))] H := hP
    have hD := z_tie hP hD rfl
    refine W.widen (k := 0) (n := 0) (Nat.le_of_ble_eq_true rfl) (Nat.le_of_ble_eq_true rfl) ?_
    refine lv_icmp_ne (tgt := 131) hx hb d_Model_isSo_124 (by decide) (fun hc_48 => ?_) (fun hc_48 => ?_)
    · have _nhc_48 := hc_48
      have ni_49 : ¬ (x_43 : Int32).toInt = (x_46 : Int32).toInt := fun z => hc_48 ((fa_eq _ _).mpr z)
      refine lv_iconst (v := 0) hx hb d_Model_isSo_131 (by decide) ?_
      exact z_zret hx hb hr hlocks rfl hP hD hS (Nat.le_of_ble_eq_true rfl) (Nat.le_of_ble_eq_true rfl) d_Model_isSo_132 ⟨0, rfl, rfl, (zI.wk (l' := 0) (h' := 1) zc_0 (by decide)), (fun hne hk ha => by have _l0 := li_0; have _l1 := li_1; have _l2 := li_2; have _l3 := li_3; have _l4 := li_4; have _l5 := li_5; exact zSo_r (fx := 0) (fy := 0) (lx := 0) (ly := 0) (rb := 0) (it := 0) hk ha (Or.inr (Or.inr (Or.inr (Or.inr (Or.inl ⟨by omega, hfx_44, hfx_47, by split <;> omega⟩))))))⟩
    · have _nhc_48 := hc_48
      have ni_50 := (fa_eq _ _).mp hc_48
      refine lv_iconst (v := 1) hx hb d_Model_isSo_127 (by decide) ?_
      refine lv_goto (tgt := 132) hx hb d_Model_isSo_128 (by decide) ?_
      exact z_zret hx hb hr hlocks rfl hP hD hS (Nat.le_of_ble_eq_true rfl) (Nat.le_of_ble_eq_true rfl) d_Model_isSo_132 ⟨1, rfl, rfl, (zI.wk (l' := 0) (h' := 1) zc_1 (by decide)), (fun hne hk ha => by have _l0 := li_0; have _l1 := li_1; have _l2 := li_2; have _l3 := li_3; have _l4 := li_4; have _l5 := li_5; exact zSo_r (fx := 0) (fy := 0) (lx := 0) (ly := 0) (rb := 0) (it := 0) hk ha (Or.inr (Or.inr (Or.inr (Or.inr (Or.inl ⟨by omega, hfx_44, hfx_47, by split <;> omega⟩))))))⟩
  simp only [fa_lt, fa_le, fa_eq, Int32.toInt_toInt64, li_4] at hs_41
  refine lv_tableOut (tgt := 133) hx hb d_Model_isSo_1 (by omega) (by decide) ?_
  refine lv_aload_n hx hb d_Model_isSo_133 rfl (lv_at hl 0 rfl) ?_
  refine lv_iload_n hx hb d_Model_isSo_134 rfl (lv_at hl 1 rfl) ?_
  refine lv_iload_n hx hb d_Model_isSo_135 rfl (lv_at hl 3 rfl) ?_
  refine lv_iload hx hb d_Model_isSo_136 (lv_at hl 4 rfl) ?_
  refine z_callV (index := 379) (As := [.int b1, .int b3, .int b4]) (rest := []) (wr := []) Z (s2_Model_inTurn l G (b0) (b1) (b3) (b4) (b5) (b6) (b7) (b8) (b9) (b10) (b11) (b12) (b13) (b14) (b15) (b16) (b17) (b18) (b19) (b20) (b21) (b22) (b23) (b24) (b25) (b26) (b27) (b28) (b29) (b30) (b31) (b32) (b33) (b34) (b35) (b36) (b37) (b38) (b39) (b40) (b41) (b42) (b43) (b44) (b45) (b46) (b47) (b48) (b49) (b50) (b51) (b52) (b53) (b54) (b55) (b56) (b57) (b58) (b59) hb1 hb10 hb12 hb13 hb15 hb19 hb32 hb35 hb46 hb49 hb55 hb59) hl.1 q1585 q1587 qs95 q14 q1588 ⟨by decide, by decide, by show _ = some 3; decide +kernel⟩ ⟨Nat.le_of_ble_eq_true rfl, Nat.le_of_ble_eq_true rfl⟩ ⟨Nat.le_of_ble_eq_true rfl, Nat.le_of_ble_eq_true rfl⟩ rfl (Nat.le_of_ble_eq_true rfl) d_Model_isSo_138 hP hD hS hA 0 12 rfl rfl rfl [0, 1] [] rfl rfl rfl rfl (by decide) (fun v w1 H locs hw_51 hP hD hS => ?_)
  obtain ⟨x_52, rfl, rfl, hx_52, hfx_53⟩ := hw_51
  have hP : va_P G.1 classes [(b0, .inr (12, [.int b5, .ref b6, .ref b7, .ref b8, .ref b9, .int b10, .ref b11, .int b12, .int b13, .int b14, .int b15, .ref b16, .ref b17, .ref b18, .int b19, .ref b20, .ref b21, .ref b22, .ref b23, .ref b24, .ref b25, .ref b26, .ref b27, .ref b28, .ref b29, .ref b30, .ref b31, .int b32, .ref b33, .ref b34, .int b35, .int b36, .int b37, .int b38, .ref b39, .ref b40, .ref b41, .ref b42, .ref b43, .ref b44, .ref b45, .int b46, .ref b47, .ref b48, .int b49, .ref b50, .ref b51, .ref b52, .ref b53, .ref b54, .int b55, .ref b56, .ref b57, .ref b58])), (b6, .inl (G.2 0, 503, .inl b59))] H := hP
  have hD := z_tie hP hD rfl
  refine W.widen (k := 0) (n := 0) (Nat.le_of_ble_eq_true rfl) (Nat.le_of_ble_eq_true rfl) ?_
  exact z_zret hx hb hr hlocks (zi_nb hx_52) hP hD hS (Nat.le_of_ble_eq_true rfl) (Nat.le_of_ble_eq_true rfl) d_Model_isSo_141 ⟨x_52, rfl, rfl, hx_52, (fun hne hk ha => by have _l0 := li_0; have _l1 := li_1; have _l2 := li_2; have _l3 := li_3; have _l4 := li_4; have _l5 := li_5; exact zSo_r (fx := 0) (fy := 0) (lx := 0) (ly := 0) (cx := 0) (cy := 0) (rb := 0) (it := 0) hk ha (Or.inr (Or.inr (Or.inr (Or.inr (Or.inr ⟨by omega, hfx_53 hne⟩))))))⟩
abbrev m_s2_Model_asked : Room := { frames := 3, cells := 0, slots := 0, locals := 73 }
set_option maxHeartbeats 4000000 in
set_option maxRecDepth 100000 in
theorem s2_Model_asked (l : Launch) (G : zG) (b0 : Nat) (b1 : Int32) (b2 : Int32) (b3 : Int32) (b4 : Int32) (b5 : Int32) (b6 : Nat) (b7 : Nat) (b8 : Nat) (b9 : Nat) (b10 : Int32) (b11 : Nat) (b12 : Int32) (b13 : Int32) (b14 : Int32) (b15 : Int32) (b16 : Nat) (b17 : Nat) (b18 : Nat) (b19 : Int32) (b20 : Nat) (b21 : Nat) (b22 : Nat) (b23 : Nat) (b24 : Nat) (b25 : Nat) (b26 : Nat) (b27 : Nat) (b28 : Nat) (b29 : Nat) (b30 : Nat) (b31 : Nat) (b32 : Int32) (b33 : Nat) (b34 : Nat) (b35 : Int32) (b36 : Int32) (b37 : Int32) (b38 : Int32) (b39 : Nat) (b40 : Nat) (b41 : Nat) (b42 : Nat) (b43 : Nat) (b44 : Nat) (b45 : Nat) (b46 : Int32) (b47 : Nat) (b48 : Nat) (b49 : Int32) (b50 : Nat) (b51 : Nat) (b52 : Nat) (b53 : Nat) (b54 : Nat) (b55 : Int32) (b56 : Nat) (b57 : Nat) (b58 : Nat) (b59 : Nat → Int32) (hb4 : zI b4 0 1) (hb10 : zI b10 0 8) (hb12 : zI b12 0 240) (hb13 : zI b13 0 240) (hb15 : zI b15 0 1) (hb19 : zI b19 0 12) (hb32 : zI b32 0 1) (hb35 : zI b35 0 1) (hb46 : zI b46 0 1000) (hb49 : zI b49 0 1000) (hb55 : zI b55 0 400) (hb59 : zW5 b59) : zM l G y_Model_asked prog_14_method_78_code 7 (Option.some Jvm.ClassFile.FieldType.int) m_s2_Model_asked [.ref b0, .int b1, .int b2, .int b3, .int b4] [(b0, .inr (12, [.int b5, .ref b6, .ref b7, .ref b8, .ref b9, .int b10, .ref b11, .int b12, .int b13, .int b14, .int b15, .ref b16, .ref b17, .ref b18, .int b19, .ref b20, .ref b21, .ref b22, .ref b23, .ref b24, .ref b25, .ref b26, .ref b27, .ref b28, .ref b29, .ref b30, .ref b31, .int b32, .ref b33, .ref b34, .int b35, .int b36, .int b37, .int b38, .ref b39, .ref b40, .ref b41, .ref b42, .ref b43, .ref b44, .ref b45, .int b46, .ref b47, .ref b48, .int b49, .ref b50, .ref b51, .ref b52, .ref b53, .ref b54, .int b55, .ref b56, .ref b57, .ref b58])), (b6, .inl (G.2 0, 503, .inl b59))] (fun v w => ∃ (e0 : Int32), v = some (.int e0) ∧ w = [(b0, .inr (12, [.int b5, .ref b6, .ref b7, .ref b8, .ref b9, .int b10, .ref b11, .int b12, .int b13, .int b14, .int b15, .ref b16, .ref b17, .ref b18, .int b19, .ref b20, .ref b21, .ref b22, .ref b23, .ref b24, .ref b25, .ref b26, .ref b27, .ref b28, .ref b29, .ref b30, .ref b31, .int b32, .ref b33, .ref b34, .int b35, .int b36, .int b37, .int b38, .ref b39, .ref b40, .ref b41, .ref b42, .ref b43, .ref b44, .ref b45, .int b46, .ref b47, .ref b48, .int b49, .ref b50, .ref b51, .ref b52, .ref b53, .ref b54, .int b55, .ref b56, .ref b57, .ref b58])), (b6, .inl (G.2 0, 503, .inl b59))] ∧ (¬ b2 = b3 → 0 ≤ (b1 : Int32).toInt ∧ (b1 : Int32).toInt ≤ 5 → (e0 : Int32).toInt = zas (b1 : Int32).toInt b59 21 b59 1 b2 b3 (b4 : Int32).toInt ((b59 0).toInt.toNat))) := by
  refine z_start (by decide +kernel) (Nat.le_of_ble_eq_true rfl) ?_
  intro p e s m below meth c A Z hr hnm hA hP hD hS ls hl
  have Z : zC p s m _ meth c prog_14_method_78_code 7 "TraceMachinesModel" G := Z
  obtain ⟨hx, hb, hml, hown, hts, hK, hN, hlocks⟩ := id Z
  have hl : lv_has ls 7 [(0, .ref b0), (1, .int b1), (2, .int b2), (3, .int b3), (4, .int b4)] := hl
  refine lv_iconst (v := 0) hx hb d_Model_asked_0 (by decide) ?_
  refine lv_istore (lv' := [(5, .int 0), (0, .ref b0), (1, .int b1), (2, .int b2), (3, .int b3), (4, .int b4)]) hx hb d_Model_asked_1 hl (by decide) rfl (fun ls hl => ?_)
  refine lv_iconst (v := 0) hx hb d_Model_asked_3 (by decide) ?_
  refine lv_istore (lv' := [(6, .int 0), (5, .int 0), (0, .ref b0), (1, .int b1), (2, .int b2), (3, .int b3), (4, .int b4)]) hx hb d_Model_asked_4 hl (by decide) rfl (fun ls hl => ?_)
  suffices key : ∀ (k_40 : Nat) (y_41 : Int32) (y_42 : Int32) (H : Heap) (locs : List Loc) (ls : Array Slot), (zI y_41 0 20) → ((y_41 : Int32).toInt ≤ ((b59 0).toInt.toNat : Int)) → (¬ b2 = b3 → 0 ≤ (b1 : Int32).toInt ∧ (b1 : Int32).toInt ≤ 5 → (y_42 : Int32).toInt = zas (b1 : Int32).toInt b59 21 b59 1 b2 b3 (b4 : Int32).toInt ((y_41 : Int32).toInt.toNat)) → (20 : Int) - y_41.toInt < (k_40 : Int) → va_P G.1 classes [(b0, .inr (12, [.int b5, .ref b6, .ref b7, .ref b8, .ref b9, .int b10, .ref b11, .int b12, .int b13, .int b14, .int b15, .ref b16, .ref b17, .ref b18, .int b19, .ref b20, .ref b21, .ref b22, .ref b23, .ref b24, .ref b25, .ref b26, .ref b27, .ref b28, .ref b29, .ref b30, .ref b31, .int b32, .ref b33, .ref b34, .int b35, .int b36, .int b37, .int b38, .ref b39, .ref b40, .ref b41, .ref b42, .ref b43, .ref b44, .ref b45, .int b46, .ref b47, .ref b48, .int b49, .ref b50, .ref b51, .ref b52, .ref b53, .ref b54, .int b55, .ref b56, .ref b57, .ref b58])), (b6, .inl (G.2 0, 503, .inl b59))] H → va_D A [(b0, .inr (12, [.int b5, .ref b6, .ref b7, .ref b8, .ref b9, .int b10, .ref b11, .int b12, .int b13, .int b14, .int b15, .ref b16, .ref b17, .ref b18, .int b19, .ref b20, .ref b21, .ref b22, .ref b23, .ref b24, .ref b25, .ref b26, .ref b27, .ref b28, .ref b29, .ref b30, .ref b31, .int b32, .ref b33, .ref b34, .int b35, .int b36, .int b37, .int b38, .ref b39, .ref b40, .ref b41, .ref b42, .ref b43, .ref b44, .ref b45, .int b46, .ref b47, .ref b48, .int b49, .ref b50, .ref b51, .ref b52, .ref b53, .ref b54, .int b55, .ref b56, .ref b57, .ref b58])), (b6, .inl (G.2 0, 503, .inl b59))] → va_S A s.heap H locs → lv_has ls 7 [(6, .int y_41), (5, .int y_42), (0, .ref b0), (1, .int b1), (2, .int b2), (3, .int b3), (4, .int b4)] → W p l e m_s2_Model_asked s m ([.ref b0, .int b1, .int b2, .int b3, .int b4] : List Value).toArray below meth c H locs 0 0 (MQ below (zQ G (fun v w => ∃ (e0 : Int32), v = some (.int e0) ∧ w = [(b0, .inr (12, [.int b5, .ref b6, .ref b7, .ref b8, .ref b9, .int b10, .ref b11, .int b12, .int b13, .int b14, .int b15, .ref b16, .ref b17, .ref b18, .int b19, .ref b20, .ref b21, .ref b22, .ref b23, .ref b24, .ref b25, .ref b26, .ref b27, .ref b28, .ref b29, .ref b30, .ref b31, .int b32, .ref b33, .ref b34, .int b35, .int b36, .int b37, .int b38, .ref b39, .ref b40, .ref b41, .ref b42, .ref b43, .ref b44, .ref b45, .int b46, .ref b47, .ref b48, .int b49, .ref b50, .ref b51, .ref b52, .ref b53, .ref b54, .int b55, .ref b56, .ref b57, .ref b58])), (b6, .inl (G.2 0, 503, .inl b59))] ∧ (¬ b2 = b3 → 0 ≤ (b1 : Int32).toInt ∧ (b1 : Int32).toInt ≤ 5 → (e0 : Int32).toInt = zas (b1 : Int32).toInt b59 21 b59 1 b2 b3 (b4 : Int32).toInt ((b59 0).toInt.toNat))) A) ([.ref b0, .int b1, .int b2, .int b3, .int b4] : List Value).toArray s m_s2_Model_asked.cells m_s2_Model_asked.slots A) (F0 m 6 ls []) by
    exact key 21 (0) (0) _ _ _ (zI.wk (l' := 0) (h' := 20) zc_0 (by decide)) (by have _l := li_0; omega) (fun _ _ => by rw [show (0 : Int32).toInt.toNat = 0 by rw [li_0]; rfl]; exact li_0) (zm_upi (zI.wk (l' := 0) (h' := 20) zc_0 (by decide)) (by decide)) hP hD hS (lv_sub hl [0, 1, 2, 3, 4, 5, 6] rfl)
  intro k_40
  induction k_40 with
  | zero =>
    intro y_41 y_42 H locs ls hy_41 hli_43 hli_44 hmk_40 hP hD hS hl
    exact (zm_up0 hy_41 hmk_40).elim
  | succ k_40 ihk_40 =>
    intro y_41 y_42 H locs ls hy_41 hli_43 hli_44 hmk_40 hP hD hS hl
    refine lv_iload hx hb d_Model_asked_6 (lv_at hl 0 rfl) ?_
    refine lv_aload_n hx hb d_Model_asked_8 rfl (lv_at hl 2 rfl) ?_
    refine z_callV (index := 134) (As := []) (rest := [.int y_41]) (wr := []) Z (s1_Model_many l G (b0) (b5) (b6) (b7) (b8) (b9) (b10) (b11) (b12) (b13) (b14) (b15) (b16) (b17) (b18) (b19) (b20) (b21) (b22) (b23) (b24) (b25) (b26) (b27) (b28) (b29) (b30) (b31) (b32) (b33) (b34) (b35) (b36) (b37) (b38) (b39) (b40) (b41) (b42) (b43) (b44) (b45) (b46) (b47) (b48) (b49) (b50) (b51) (b52) (b53) (b54) (b55) (b56) (b57) (b58) (b59) hb10 hb12 hb13 hb15 hb19 hb32 hb35 hb46 hb49 hb55 hb59) hl.1 q1320 q1322 qs51 q14 q1323 ⟨by decide, by decide, by show _ = some 0; decide +kernel⟩ ⟨Nat.le_of_ble_eq_true rfl, Nat.le_of_ble_eq_true rfl⟩ ⟨Nat.le_of_ble_eq_true rfl, Nat.le_of_ble_eq_true rfl⟩ rfl (Nat.le_of_ble_eq_true rfl) d_Model_asked_9 hP hD hS hA 0 12 rfl rfl rfl [0, 1] [] rfl rfl rfl rfl (by decide) (fun v w1 H locs hw_45 hP hD hS => ?_)
    obtain ⟨x_46, rfl, rfl, hx_46, hfx_47⟩ := hw_45
    have hP : va_P G.1 classes [(b0, .inr (12, [.int b5, .ref b6, .ref b7, .ref b8, .ref b9, .int b10, .ref b11, .int b12, .int b13, .int b14, .int b15, .ref b16, .ref b17, .ref b18, .int b19, .ref b20, .ref b21, .ref b22, .ref b23, .ref b24, .ref b25, .ref b26, .ref b27, .ref b28, .ref b29, .ref b30, .ref b31, .int b32, .ref b33, .ref b34, .int b35, .int b36, .int b37, .int b38, .ref b39, .ref b40, .ref b41, .ref b42, .ref b43, .ref b44, .ref b45, .int b46, .ref b47, .ref b48, .int b49, .ref b50, .ref b51, .ref b52, .ref b53, .ref b54, .int b55, .ref b56, .ref b57, .ref b58])), (b6, .inl (G.2 0, 503, .inl b59))] H := hP
    have hD := z_tie hP hD rfl
    refine W.widen (k := 0) (n := 0) (Nat.le_of_ble_eq_true rfl) (Nat.le_of_ble_eq_true rfl) ?_
    refine lv_icmp_ge (tgt := 60) hx hb d_Model_asked_12 (by decide) (fun hc_48 => ?_) (fun hc_48 => ?_)
    · have _nhc_48 := hc_48
      have ni_49 := (fa_le _ _).mp hc_48
      refine lv_iload hx hb d_Model_asked_60 (lv_at hl 1 rfl) ?_
      exact z_iret hx hb hr hlocks hP hD hS (Nat.le_of_ble_eq_true rfl) (Nat.le_of_ble_eq_true rfl) d_Model_asked_62 ⟨y_42, rfl, rfl, (fun hne hk => by have i9 := hli_43; have c9 := congrArg Int32.toInt hfx_47; rw [z_n0] at c9; have j9 := hli_44 hne hk; rw [show y_41.toInt.toNat = (b59 0).toInt.toNat by omega] at j9; exact j9)⟩
    · have _nhc_48 := hc_48
      have ni_50 := (fa_lt _ _).mp (zi_nle hc_48)
      have hv_51 : zI y_41 0 19 := zI.lt_l hy_41 hx_46 (zi_nle hc_48) (by decide)
      have hv_52 : zI x_46 1 20 := zI.lt_r hy_41 hx_46 (zi_nle hc_48) (by decide)
      refine lv_iload hx hb d_Model_asked_15 (lv_at hl 1 rfl) ?_
      refine lv_aload_n hx hb d_Model_asked_17 rfl (lv_at hl 2 rfl) ?_
      refine lv_iload hx hb d_Model_asked_18 (lv_at hl 0 rfl) ?_
      refine lv_iload_n hx hb d_Model_asked_20 rfl (lv_at hl 3 rfl) ?_
      refine lv_iload_n hx hb d_Model_asked_21 rfl (lv_at hl 4 rfl) ?_
      refine lv_iload_n hx hb d_Model_asked_22 rfl (lv_at hl 5 rfl) ?_
      refine z_callV (index := 382) (As := [.int y_41, .int b1, .int b2, .int b3]) (rest := [.int y_42]) (wr := []) Z (s9_Model_isAsked l G (b0) (y_41) (b1) (b2) (b3) (b5) (b6) (b7) (b8) (b9) (b10) (b11) (b12) (b13) (b14) (b15) (b16) (b17) (b18) (b19) (b20) (b21) (b22) (b23) (b24) (b25) (b26) (b27) (b28) (b29) (b30) (b31) (b32) (b33) (b34) (b35) (b36) (b37) (b38) (b39) (b40) (b41) (b42) (b43) (b44) (b45) (b46) (b47) (b48) (b49) (b50) (b51) (b52) (b53) (b54) (b55) (b56) (b57) (b58) (b59) hv_51 hb10 hb12 hb13 hb15 hb19 hb32 hb35 hb46 hb49 hb55 hb59) hl.1 q1557 q1559 qs88 q14 q1560 ⟨by decide, by decide, by show _ = some 4; decide +kernel⟩ ⟨Nat.le_of_ble_eq_true rfl, Nat.le_of_ble_eq_true rfl⟩ ⟨Nat.le_of_ble_eq_true rfl, Nat.le_of_ble_eq_true rfl⟩ rfl (Nat.le_of_ble_eq_true rfl) d_Model_asked_23 hP hD hS hA 0 12 rfl rfl rfl [0, 1] [] rfl rfl rfl rfl (by decide) (fun v w1 H locs hw_53 hP hD hS => ?_)
      obtain ⟨x_54, rfl, rfl, hx_54, hfx_55⟩ := hw_53
      have hP : va_P G.1 classes [(b0, .inr (12, [.int b5, .ref b6, .ref b7, .ref b8, .ref b9, .int b10, .ref b11, .int b12, .int b13, .int b14, .int b15, .ref b16, .ref b17, .ref b18, .int b19, .ref b20, .ref b21, .ref b22, .ref b23, .ref b24, .ref b25, .ref b26, .ref b27, .ref b28, .ref b29, .ref b30, .ref b31, .int b32, .ref b33, .ref b34, .int b35, .int b36, .int b37, .int b38, .ref b39, .ref b40, .ref b41, .ref b42, .ref b43, .ref b44, .ref b45, .int b46, .ref b47, .ref b48, .int b49, .ref b50, .ref b51, .ref b52, .ref b53, .ref b54, .int b55, .ref b56, .ref b57, .ref b58])), (b6, .inl (G.2 0, 503, .inl b59))] H := hP
      have hD := z_tie hP hD rfl
      refine W.widen (k := 0) (n := 0) (Nat.le_of_ble_eq_true rfl) (Nat.le_of_ble_eq_true rfl) ?_
      refine lv_if_eq (tgt := 50) hx hb d_Model_asked_26 (by decide) (fun hc_56 => ?_) (fun hc_56 => ?_)
      · have _nhc_56 := hc_56
        have ni_57 := (fa_eq _ _).mp hc_56
        rw [li_0] at ni_57
        have hv_58 : zI x_54 0 0 := zI.eq_l hx_54 zc_0 hc_56
        refine lv_iconst (v := 0) hx hb d_Model_asked_50 (by decide) ?_
        refine lv_iadd hx hb d_Model_asked_51 ?_
        refine lv_topi (fun v_59 ev_59 => ?_)
        obtain ⟨qv_59, hv_59⟩ := zI_add (l := -2147483648) (h := 2147483647) (zI_all y_42) zc_0 ev_59 (by decide)
        rw [li_0] at qv_59
        refine lv_istore (lv' := [(5, .int v_59), (6, .int y_41), (0, .ref b0), (1, .int b1), (2, .int b2), (3, .int b3), (4, .int b4)]) hx hb d_Model_asked_52 hl (by decide) rfl (fun ls hl => ?_)
        obtain ⟨v_60, ev_60⟩ : ∃ z : Int32, z = y_41 + 1 := ⟨_, rfl⟩
        obtain ⟨qv_60, hv_60⟩ := zI_add (l := 1) (h := 20) hv_51 zc_1 ev_60 (by decide)
        rw [li_1] at qv_60
        refine lv_iinc (v := v_60) (lv' := [(6, .int v_60), (5, .int v_59), (0, .ref b0), (1, .int b1), (2, .int b2), (3, .int b3), (4, .int b4)]) hx hb d_Model_asked_54 hl (k := 1) rfl (by rw [ev_60]; rfl) (by decide) rfl (fun ls hl => ?_)
        refine lv_goto (tgt := 6) hx hb d_Model_asked_57 (by decide) ?_
        exact ihk_40 (v_60) (v_59) _ _ _ (zI.wk (l' := 0) (h' := 20) hv_60 (by decide)) (by have c9 := congrArg Int32.toInt hfx_47; rw [z_n0] at c9; omega) (fun hne hk => by have _l0 := li_0; have _l1 := li_1; first | exact zas_r (hli_44 hne hk) (by omega) (hfx_55 hk) (rs := zSo b1.toInt (fun i => b59 (21 + (12 * y_41.toInt.toNat + i))) (b59 (1 + y_41.toInt.toNat)).toInt.toNat b2 b3) (fun _ => rfl) (Or.inl ⟨⟨by omega, by first | exact Or.inl (by omega) | exact Or.inr (by omega)⟩, ev_59⟩) (by omega) | exact zas_r (hli_44 hne hk) (by omega) (hfx_55 hk) (rs := zSo b1.toInt (fun i => b59 (21 + (12 * y_41.toInt.toNat + i))) (b59 (1 + y_41.toInt.toNat)).toInt.toNat b2 b3) (fun _ => rfl) (Or.inr ⟨fun q => by have q1 := q.1; first | omega | (rcases q.2 with w | w <;> omega), ev_59⟩) (by omega)) (zm_up qv_60 hmk_40 (by decide)) hP hD hS (lv_sub hl [0, 1, 2, 3, 4, 5, 6] rfl)
      · have _nhc_56 := hc_56
        have ni_61 : ¬ (x_54 : Int32).toInt = (0 : Int32).toInt := fun z => hc_56 ((fa_eq _ _).mpr z)
        simp only [li_0] at ni_61
        have hv_62 : zI x_54 1 1 := zI.ne_lo hx_54 zc_0 hc_56 (by decide)
        refine lv_iload hx hb d_Model_asked_29 (lv_at hl 6 rfl) ?_
        refine lv_if_eq (tgt := 46) hx hb d_Model_asked_31 (by decide) (fun hc_63 => ?_) (fun hc_63 => ?_)
        · have _nhc_63 := hc_63
          have ni_64 := (fa_eq _ _).mp hc_63
          rw [li_0] at ni_64
          have hv_65 : zI b4 0 0 := zI.eq_l hb4 zc_0 hc_63
          refine lv_iconst (v := 1) hx hb d_Model_asked_46 (by decide) ?_
          refine lv_goto (tgt := 51) hx hb d_Model_asked_47 (by decide) ?_
          refine lv_iadd hx hb d_Model_asked_51 ?_
          refine lv_topi (fun v_66 ev_66 => ?_)
          refine lv_istore (lv' := [(5, .int v_66), (6, .int y_41), (0, .ref b0), (1, .int b1), (2, .int b2), (3, .int b3), (4, .int b4)]) hx hb d_Model_asked_52 hl (by decide) rfl (fun ls hl => ?_)
          obtain ⟨v_67, ev_67⟩ : ∃ z : Int32, z = y_41 + 1 := ⟨_, rfl⟩
          obtain ⟨qv_67, hv_67⟩ := zI_add (l := 1) (h := 20) hv_51 zc_1 ev_67 (by decide)
          rw [li_1] at qv_67
          refine lv_iinc (v := v_67) (lv' := [(6, .int v_67), (5, .int v_66), (0, .ref b0), (1, .int b1), (2, .int b2), (3, .int b3), (4, .int b4)]) hx hb d_Model_asked_54 hl (k := 1) rfl (by rw [ev_67]; rfl) (by decide) rfl (fun ls hl => ?_)
          refine lv_goto (tgt := 6) hx hb d_Model_asked_57 (by decide) ?_
          exact ihk_40 (v_67) (v_66) _ _ _ (zI.wk (l' := 0) (h' := 20) hv_67 (by decide)) (by have c9 := congrArg Int32.toInt hfx_47; rw [z_n0] at c9; omega) (fun hne hk => by have _l0 := li_0; have _l1 := li_1; first | exact zas_r (hli_44 hne hk) (by omega) (hfx_55 hk) (rs := zSo b1.toInt (fun i => b59 (21 + (12 * y_41.toInt.toNat + i))) (b59 (1 + y_41.toInt.toNat)).toInt.toNat b2 b3) (fun _ => rfl) (Or.inl ⟨⟨by omega, by first | exact Or.inl (by omega) | exact Or.inr (by omega)⟩, ev_66⟩) (by omega) | exact zas_r (hli_44 hne hk) (by omega) (hfx_55 hk) (rs := zSo b1.toInt (fun i => b59 (21 + (12 * y_41.toInt.toNat + i))) (b59 (1 + y_41.toInt.toNat)).toInt.toNat b2 b3) (fun _ => rfl) (Or.inr ⟨fun q => by have q1 := q.1; first | omega | (rcases q.2 with w | w <;> omega), ev_66⟩) (by omega)) (zm_up qv_67 hmk_40 (by decide)) hP hD hS (lv_sub hl [0, 1, 2, 3, 4, 5, 6] rfl)
        · have _nhc_63 := hc_63
          have ni_68 : ¬ (b4 : Int32).toInt = (0 : Int32).toInt := fun z => hc_63 ((fa_eq _ _).mpr z)
          simp only [li_0] at ni_68
          have hv_69 : zI b4 1 1 := zI.ne_lo hb4 zc_0 hc_63 (by decide)
          refine lv_aload_n hx hb d_Model_asked_34 rfl (lv_at hl 2 rfl) ?_
          refine lv_iload hx hb d_Model_asked_35 (lv_at hl 0 rfl) ?_
          refine lv_iload_n hx hb d_Model_asked_37 rfl (lv_at hl 3 rfl) ?_
          refine lv_iload_n hx hb d_Model_asked_38 rfl (lv_at hl 4 rfl) ?_
          refine lv_iload_n hx hb d_Model_asked_39 rfl (lv_at hl 5 rfl) ?_
          refine z_callV (index := 386) (As := [.int y_41, .int b1, .int b2, .int b3]) (rest := [.int y_42]) (wr := []) Z (s2_Model_isSo l G (b0) (y_41) (b1) (b2) (b3) (b5) (b6) (b7) (b8) (b9) (b10) (b11) (b12) (b13) (b14) (b15) (b16) (b17) (b18) (b19) (b20) (b21) (b22) (b23) (b24) (b25) (b26) (b27) (b28) (b29) (b30) (b31) (b32) (b33) (b34) (b35) (b36) (b37) (b38) (b39) (b40) (b41) (b42) (b43) (b44) (b45) (b46) (b47) (b48) (b49) (b50) (b51) (b52) (b53) (b54) (b55) (b56) (b57) (b58) (b59) hv_51 hb10 hb12 hb13 hb15 hb19 hb32 hb35 hb46 hb49 hb55 hb59) hl.1 q1565 q1567 qs90 q14 q1568 ⟨by decide, by decide, by show _ = some 4; decide +kernel⟩ ⟨Nat.le_of_ble_eq_true rfl, Nat.le_of_ble_eq_true rfl⟩ ⟨Nat.le_of_ble_eq_true rfl, Nat.le_of_ble_eq_true rfl⟩ rfl (Nat.le_of_ble_eq_true rfl) d_Model_asked_40 hP hD hS hA 0 12 rfl rfl rfl [0, 1] [] rfl rfl rfl rfl (by decide) (fun v w1 H locs hw_70 hP hD hS => ?_)
          obtain ⟨x_71, rfl, rfl, hx_71, hfx_72⟩ := hw_70
          have hP : va_P G.1 classes [(b0, .inr (12, [.int b5, .ref b6, .ref b7, .ref b8, .ref b9, .int b10, .ref b11, .int b12, .int b13, .int b14, .int b15, .ref b16, .ref b17, .ref b18, .int b19, .ref b20, .ref b21, .ref b22, .ref b23, .ref b24, .ref b25, .ref b26, .ref b27, .ref b28, .ref b29, .ref b30, .ref b31, .int b32, .ref b33, .ref b34, .int b35, .int b36, .int b37, .int b38, .ref b39, .ref b40, .ref b41, .ref b42, .ref b43, .ref b44, .ref b45, .int b46, .ref b47, .ref b48, .int b49, .ref b50, .ref b51, .ref b52, .ref b53, .ref b54, .int b55, .ref b56, .ref b57, .ref b58])), (b6, .inl (G.2 0, 503, .inl b59))] H := hP
          have hD := z_tie hP hD rfl
          refine W.widen (k := 0) (n := 0) (Nat.le_of_ble_eq_true rfl) (Nat.le_of_ble_eq_true rfl) ?_
          refine lv_if_eq (tgt := 50) hx hb d_Model_asked_43 (by decide) (fun hc_73 => ?_) (fun hc_73 => ?_)
          · have _nhc_73 := hc_73
            have ni_74 := (fa_eq _ _).mp hc_73
            rw [li_0] at ni_74
            have hv_75 : zI x_71 0 0 := zI.eq_l hx_71 zc_0 hc_73
            refine lv_iconst (v := 0) hx hb d_Model_asked_50 (by decide) ?_
            refine lv_iadd hx hb d_Model_asked_51 ?_
            refine lv_topi (fun v_76 ev_76 => ?_)
            obtain ⟨qv_76, hv_76⟩ := zI_add (l := -2147483648) (h := 2147483647) (zI_all y_42) zc_0 ev_76 (by decide)
            rw [li_0] at qv_76
            refine lv_istore (lv' := [(5, .int v_76), (6, .int y_41), (0, .ref b0), (1, .int b1), (2, .int b2), (3, .int b3), (4, .int b4)]) hx hb d_Model_asked_52 hl (by decide) rfl (fun ls hl => ?_)
            obtain ⟨v_77, ev_77⟩ : ∃ z : Int32, z = y_41 + 1 := ⟨_, rfl⟩
            obtain ⟨qv_77, hv_77⟩ := zI_add (l := 1) (h := 20) hv_51 zc_1 ev_77 (by decide)
            rw [li_1] at qv_77
            refine lv_iinc (v := v_77) (lv' := [(6, .int v_77), (5, .int v_76), (0, .ref b0), (1, .int b1), (2, .int b2), (3, .int b3), (4, .int b4)]) hx hb d_Model_asked_54 hl (k := 1) rfl (by rw [ev_77]; rfl) (by decide) rfl (fun ls hl => ?_)
            refine lv_goto (tgt := 6) hx hb d_Model_asked_57 (by decide) ?_
            exact ihk_40 (v_77) (v_76) _ _ _ (zI.wk (l' := 0) (h' := 20) hv_77 (by decide)) (by have c9 := congrArg Int32.toInt hfx_47; rw [z_n0] at c9; omega) (fun hne hk => by have _l0 := li_0; have _l1 := li_1; first | exact zas_r (hli_44 hne hk) (by omega) (hfx_55 hk) (rs := _) (fun q => hfx_72 hne hk ((hfx_55 hk).symm.trans q)) (Or.inl ⟨⟨by omega, by first | exact Or.inl (by omega) | exact Or.inr (by omega)⟩, ev_76⟩) (by omega) | exact zas_r (hli_44 hne hk) (by omega) (hfx_55 hk) (rs := _) (fun q => hfx_72 hne hk ((hfx_55 hk).symm.trans q)) (Or.inr ⟨fun q => by have q1 := q.1; first | omega | (rcases q.2 with w | w <;> omega), ev_76⟩) (by omega)) (zm_up qv_77 hmk_40 (by decide)) hP hD hS (lv_sub hl [0, 1, 2, 3, 4, 5, 6] rfl)
          · have _nhc_73 := hc_73
            have ni_78 : ¬ (x_71 : Int32).toInt = (0 : Int32).toInt := fun z => hc_73 ((fa_eq _ _).mpr z)
            simp only [li_0] at ni_78
            have hv_79 : zI x_71 1 1 := zI.ne_lo hx_71 zc_0 hc_73 (by decide)
            refine lv_iconst (v := 1) hx hb d_Model_asked_46 (by decide) ?_
            refine lv_goto (tgt := 51) hx hb d_Model_asked_47 (by decide) ?_
            refine lv_iadd hx hb d_Model_asked_51 ?_
            refine lv_topi (fun v_80 ev_80 => ?_)
            refine lv_istore (lv' := [(5, .int v_80), (6, .int y_41), (0, .ref b0), (1, .int b1), (2, .int b2), (3, .int b3), (4, .int b4)]) hx hb d_Model_asked_52 hl (by decide) rfl (fun ls hl => ?_)
            obtain ⟨v_81, ev_81⟩ : ∃ z : Int32, z = y_41 + 1 := ⟨_, rfl⟩
            obtain ⟨qv_81, hv_81⟩ := zI_add (l := 1) (h := 20) hv_51 zc_1 ev_81 (by decide)
            rw [li_1] at qv_81
            refine lv_iinc (v := v_81) (lv' := [(6, .int v_81), (5, .int v_80), (0, .ref b0), (1, .int b1), (2, .int b2), (3, .int b3), (4, .int b4)]) hx hb d_Model_asked_54 hl (k := 1) rfl (by rw [ev_81]; rfl) (by decide) rfl (fun ls hl => ?_)
            refine lv_goto (tgt := 6) hx hb d_Model_asked_57 (by decide) ?_
            exact ihk_40 (v_81) (v_80) _ _ _ (zI.wk (l' := 0) (h' := 20) hv_81 (by decide)) (by have c9 := congrArg Int32.toInt hfx_47; rw [z_n0] at c9; omega) (fun hne hk => by have _l0 := li_0; have _l1 := li_1; first | exact zas_r (hli_44 hne hk) (by omega) (hfx_55 hk) (rs := _) (fun q => hfx_72 hne hk ((hfx_55 hk).symm.trans q)) (Or.inl ⟨⟨by omega, by first | exact Or.inl (by omega) | exact Or.inr (by omega)⟩, ev_80⟩) (by omega) | exact zas_r (hli_44 hne hk) (by omega) (hfx_55 hk) (rs := _) (fun q => hfx_72 hne hk ((hfx_55 hk).symm.trans q)) (Or.inr ⟨fun q => by have q1 := q.1; first | omega | (rcases q.2 with w | w <;> omega), ev_80⟩) (by omega)) (zm_up qv_81 hmk_40 (by decide)) hP hD hS (lv_sub hl [0, 1, 2, 3, 4, 5, 6] rfl)
