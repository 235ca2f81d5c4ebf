abbrev m_s2_Model_keep : Room := { frames := 1, cells := 0, slots := 0, locals := 25 }
set_option maxHeartbeats 4000000 in
set_option maxRecDepth 100000 in
theorem s2_Model_keep (l : Launch) (G : zG) (b0 : Nat) (b1 : Int32) (b2 : Int32) (b3 : Nat) (b4 : Nat) (b5 : Nat) (b6 : Nat) (b7 : Int32) (b8 : Nat) (b9 : Int32) (b10 : Int32) (b11 : Int32) (b12 : Int32) (b13 : Nat) (b14 : Nat) (b15 : Nat) (b16 : Int32) (b17 : Nat) (b18 : Nat) (b19 : Nat) (b20 : Nat) (b21 : Nat) (b22 : Nat) (b23 : Nat) (b24 : Nat) (b25 : Nat) (b26 : Nat) (b27 : Nat) (b28 : Nat) (b29 : Int32) (b30 : Nat) (b31 : Nat) (b32 : Int32) (b33 : Int32) (b34 : Int32) (b35 : Int32) (b36 : Nat) (b37 : Nat) (b38 : Nat) (b39 : Nat) (b40 : Nat) (b41 : Nat) (b42 : Nat) (b43 : Int32) (b44 : Nat) (b45 : Nat) (b46 : Int32) (b47 : Nat) (b48 : Nat) (b49 : Nat) (b50 : Nat) (b51 : Nat) (b52 : Int32) (b53 : Nat) (b54 : Nat) (b55 : Nat) (b56 : Nat → Int32) (b57 : Nat → Int32) (b58 : Nat → Int32) (hb7 : zI b7 0 8) (hb9 : zI b9 0 240) (hb10 : zI b10 0 240) (hb12 : zI b12 0 1) (hb16 : zI b16 0 12) (hb29 : zI b29 0 1) (hb32 : zI b32 0 1) (hb43 : zI b43 0 1000) (hb46 : zI b46 0 1000) (hb52 : zI b52 0 400) (hb56 : zW5 b56) (hb57 : zW5 b57) : zM l G y_Model_keep prog_14_method_92_code 3 (Option.some Jvm.ClassFile.FieldType.boolean) m_s2_Model_keep [.ref b0, .int b1] [(b0, .inr (12, [.int b2, .ref b3, .ref b4, .ref b5, .ref b6, .int b7, .ref b8, .int b9, .int b10, .int b11, .int b12, .ref b13, .ref b14, .ref b15, .int b16, .ref b17, .ref b18, .ref b19, .ref b20, .ref b21, .ref b22, .ref b23, .ref b24, .ref b25, .ref b26, .ref b27, .ref b28, .int b29, .ref b30, .ref b31, .int b32, .int b33, .int b34, .int b35, .ref b36, .ref b37, .ref b38, .ref b39, .ref b40, .ref b41, .ref b42, .int b43, .ref b44, .ref b45, .int b46, .ref b47, .ref b48, .ref b49, .ref b50, .ref b51, .int b52, .ref b53, .ref b54, .ref b55])), (b3, .inl (G.2 0, 503, .inl b56)), (b4, .inl (G.2 0, 1006, .inl b57)), (b5, .inl (G.2 4, 2, .inl b58))] (fun v w => ∃ (e0 : Int32), ∃ (e1 : Nat → Int32), ∃ (e2 : Nat → Int32), v = some (.int e0) ∧ w = [(b0, .inr (12, [.int 0, .ref b3, .ref b4, .ref b5, .ref b6, .int b7, .ref b8, .int b9, .int b10, .int b11, .int b12, .ref b13, .ref b14, .ref b15, .int b16, .ref b17, .ref b18, .ref b19, .ref b20, .ref b21, .ref b22, .ref b23, .ref b24, .ref b25, .ref b26, .ref b27, .ref b28, .int b29, .ref b30, .ref b31, .int b32, .int b33, .int b34, .int b35, .ref b36, .ref b37, .ref b38, .ref b39, .ref b40, .ref b41, .ref b42, .int b43, .ref b44, .ref b45, .int b46, .ref b47, .ref b48, .ref b49, .ref b50, .ref b51, .int b52, .ref b53, .ref b54, .ref b55])), (b3, .inl (G.2 0, 503, .inl b56)), (b4, .inl (G.2 0, 1006, .inl e1)), (b5, .inl (G.2 4, 2, .inl e2))] ∧ (zI e0 0 1) ∧ (zW5 e1) ∧ ((0 ≤ (b1 : Int32).toInt ∧ (b1 : Int32).toInt ≤ 1) → (e0 : Int32).toInt = 1) ∧ (¬ (0 ≤ (b1 : Int32).toInt ∧ (b1 : Int32).toInt ≤ 1) → (e0 : Int32).toInt = 0)) := by
  refine z_start (by decide +kernel) (Nat.le_of_ble_eq_true rfl) ?_
  intro p e s m below meth c A Z hr hnm hA hP hD hS ls hl
  have Z : zC p s m _ meth c prog_14_method_92_code 3 "TraceMachinesModel" G := Z
  obtain ⟨hx, hb, hml, hown, hts, hK, hN, hlocks⟩ := id Z
  have hl : lv_has ls 3 [(0, .ref b0), (1, .int b1)] := hl
  refine lv_aload_n hx hb d_Model_keep_0 rfl (lv_at hl 0 rfl) ?_
  refine lv_iconst (v := 0) hx hb d_Model_keep_1 (by decide) ?_
  refine va_put (D := G.1) (ci := 12) (v := .int 0) (ty := .int) (C := R_Model) (T := F_Model) (N := 54) hx hb hts i_Model t_Model t_Model_ok n_Model hown hK hP hD hS 0 rfl rfl 0 (by decide) (hts _ q1109) (fun _ h9 => h9) rfl (by decide +kernel) rfl rfl (Nat.le_of_ble_eq_true rfl) d_Model_keep_2 (fun H locs hP hD hS => ?_)
  have hP : va_P G.1 classes [(b0, .inr (12, [.int 0, .ref b3, .ref b4, .ref b5, .ref b6, .int b7, .ref b8, .int b9, .int b10, .int b11, .int b12, .ref b13, .ref b14, .ref b15, .int b16, .ref b17, .ref b18, .ref b19, .ref b20, .ref b21, .ref b22, .ref b23, .ref b24, .ref b25, .ref b26, .ref b27, .ref b28, .int b29, .ref b30, .ref b31, .int b32, .int b33, .int b34, .int b35, .ref b36, .ref b37, .ref b38, .ref b39, .ref b40, .ref b41, .ref b42, .int b43, .ref b44, .ref b45, .int b46, .ref b47, .ref b48, .ref b49, .ref b50, .ref b51, .int b52, .ref b53, .ref b54, .ref b55])), (b3, .inl (G.2 0, 503, .inl b56)), (b4, .inl (G.2 0, 1006, .inl b57)), (b5, .inl (G.2 4, 2, .inl b58))] H := hP
  have hD := z_tie hP hD rfl
  refine lv_iload_n hx hb d_Model_keep_5 rfl (lv_at hl 1 rfl) ?_
  refine lv_i2l (v := b1.toInt64) hx hb d_Model_keep_6 rfl ?_
  refine lv_lconst (v := 0) hx hb d_Model_keep_7 (by decide) ?_
  refine lv_lconst (v := 1) hx hb d_Model_keep_8 (by decide) ?_
  refine z_callS (index := 138) (As := [.long b1.toInt64, .long 0, .long 1]) (rest := []) (wr := [(b0, .inr (12, [.int 0, .ref b3, .ref b4, .ref b5, .ref b6, .int b7, .ref b8, .int b9, .int b10, .int b11, .int b12, .ref b13, .ref b14, .ref b15, .int b16, .ref b17, .ref b18, .ref b19, .ref b20, .ref b21, .ref b22, .ref b23, .ref b24, .ref b25, .ref b26, .ref b27, .ref b28, .int b29, .ref b30, .ref b31, .int b32, .int b33, .int b34, .int b35, .ref b36, .ref b37, .ref b38, .ref b39, .ref b40, .ref b41, .ref b42, .int b43, .ref b44, .ref b45, .int b46, .ref b47, .ref b48, .ref b49, .ref b50, .ref b51, .int b52, .ref b53, .ref b54, .ref b55])), (b3, .inl (G.2 0, 503, .inl b56)), (b4, .inl (G.2 0, 1006, .inl b57)), (b5, .inl (G.2 4, 2, .inl b58))]) Z (s2_Model_in l G (b1.toInt64) (0) (1)) hl.1 q1281 q1282 q14 q1283 ⟨by decide, by decide, by show _ = some 3; decide +kernel⟩ ⟨Nat.le_of_ble_eq_true rfl, Nat.le_of_ble_eq_true rfl⟩ ⟨Nat.le_of_ble_eq_true rfl, Nat.le_of_ble_eq_true rfl⟩ rfl (Nat.le_of_ble_eq_true rfl) d_Model_keep_9 hP hD hS hA [] [0, 1, 2, 3] rfl rfl rfl rfl (by decide) (fun v w1 H locs hw_1 hP hD hS => ?_)
  rcases hw_1 with ⟨rfl, rfl, hq_2⟩ | ⟨rfl, rfl, hq_3, hq_4⟩ | ⟨rfl, rfl, hq_5, hq_6⟩
  · have hP : va_P G.1 classes [(b0, .inr (12, [.int 0, .ref b3, .ref b4, .ref b5, .ref b6, .int b7, .ref b8, .int b9, .int b10, .int b11, .int b12, .ref b13, .ref b14, .ref b15, .int b16, .ref b17, .ref b18, .ref b19, .ref b20, .ref b21, .ref b22, .ref b23, .ref b24, .ref b25, .ref b26, .ref b27, .ref b28, .int b29, .ref b30, .ref b31, .int b32, .int b33, .int b34, .int b35, .ref b36, .ref b37, .ref b38, .ref b39, .ref b40, .ref b41, .ref b42, .int b43, .ref b44, .ref b45, .int b46, .ref b47, .ref b48, .ref b49, .ref b50, .ref b51, .int b52, .ref b53, .ref b54, .ref b55])), (b3, .inl (G.2 0, 503, .inl b56)), (b4, .inl (G.2 0, 1006, .inl b57)), (b5, .inl (G.2 4, 2, .inl b58))] H := hP
    have hD := z_tie hP hD rfl
    try simp only [Int32.toInt_toInt64, ll_0] at hq_2
    have hv_7 : zI b1 (-2147483648) (-1) := by have _a := hq_2; have _b := (zI_all b1); have _c := zcl_0; simp only [Int32.toInt_toInt64] at *; exact ⟨by omega, by omega⟩
    refine W.widen (k := 0) (n := 0) (Nat.le_of_ble_eq_true rfl) (Nat.le_of_ble_eq_true rfl) ?_
    refine lv_if_ne (tgt := 17) hx hb d_Model_keep_12 (by decide) (fun hc => absurd hc (by decide +kernel)) (fun _ => ?_)
    refine lv_iconst (v := 0) hx hb d_Model_keep_15 (by decide) ?_
    exact z_zret hx hb hr hlocks rfl hP hD hS (Nat.le_of_ble_eq_true rfl) (Nat.le_of_ble_eq_true rfl) d_Model_keep_16 ⟨0, b57, b58, rfl, rfl, (zI.wk (l' := 0) (h' := 1) zc_0 (by decide)), hb57, (by intro h9; have _l0 := li_0; have _l1 := li_1; omega), (by intro h9; have _l0 := li_0; have _l1 := li_1; omega)⟩
  · have hP : va_P G.1 classes [(b0, .inr (12, [.int 0, .ref b3, .ref b4, .ref b5, .ref b6, .int b7, .ref b8, .int b9, .int b10, .int b11, .int b12, .ref b13, .ref b14, .ref b15, .int b16, .ref b17, .ref b18, .ref b19, .ref b20, .ref b21, .ref b22, .ref b23, .ref b24, .ref b25, .ref b26, .ref b27, .ref b28, .int b29, .ref b30, .ref b31, .int b32, .int b33, .int b34, .int b35, .ref b36, .ref b37, .ref b38, .ref b39, .ref b40, .ref b41, .ref b42, .int b43, .ref b44, .ref b45, .int b46, .ref b47, .ref b48, .ref b49, .ref b50, .ref b51, .int b52, .ref b53, .ref b54, .ref b55])), (b3, .inl (G.2 0, 503, .inl b56)), (b4, .inl (G.2 0, 1006, .inl b57)), (b5, .inl (G.2 4, 2, .inl b58))] H := hP
    have hD := z_tie hP hD rfl
    try simp only [Int32.toInt_toInt64, ll_0] at hq_3
    have hv_8 : zI b1 0 2147483647 := by have _a := hq_3; have _b := (zI_all b1); have _c := zcl_0; simp only [Int32.toInt_toInt64] at *; exact ⟨by omega, by omega⟩
    try simp only [Int32.toInt_toInt64, ll_1] at hq_4
    have hv_9 : zI b1 2 2147483647 := by have _a := hq_4; have _b := hv_8; have _c := zcl_1; simp only [Int32.toInt_toInt64] at *; exact ⟨by omega, by omega⟩
    refine W.widen (k := 0) (n := 0) (Nat.le_of_ble_eq_true rfl) (Nat.le_of_ble_eq_true rfl) ?_
    refine lv_if_ne (tgt := 17) hx hb d_Model_keep_12 (by decide) (fun hc => absurd hc (by decide +kernel)) (fun _ => ?_)
    refine lv_iconst (v := 0) hx hb d_Model_keep_15 (by decide) ?_
    exact z_zret hx hb hr hlocks rfl hP hD hS (Nat.le_of_ble_eq_true rfl) (Nat.le_of_ble_eq_true rfl) d_Model_keep_16 ⟨0, b57, b58, rfl, rfl, (zI.wk (l' := 0) (h' := 1) zc_0 (by decide)), hb57, (by intro h9; have _l0 := li_0; have _l1 := li_1; omega), (by intro h9; have _l0 := li_0; have _l1 := li_1; omega)⟩
  · have hP : va_P G.1 classes [(b0, .inr (12, [.int 0, .ref b3, .ref b4, .ref b5, .ref b6, .int b7, .ref b8, .int b9, .int b10, .int b11, .int b12, .ref b13, .ref b14, .ref b15, .int b16, .ref b17, .ref b18, .ref b19, .ref b20, .ref b21, .ref b22, .ref b23, .ref b24, .ref b25, .ref b26, .ref b27, .ref b28, .int b29, .ref b30, .ref b31, .int b32, .int b33, .int b34, .int b35, .ref b36, .ref b37, .ref b38, .ref b39, .ref b40, .ref b41, .ref b42, .int b43, .ref b44, .ref b45, .int b46, .ref b47, .ref b48, .ref b49, .ref b50, .ref b51, .int b52, .ref b53, .ref b54, .ref b55])), (b3, .inl (G.2 0, 503, .inl b56)), (b4, .inl (G.2 0, 1006, .inl b57)), (b5, .inl (G.2 4, 2, .inl b58))] H := hP
    have hD := z_tie hP hD rfl
    try simp only [Int32.toInt_toInt64, ll_0] at hq_5
    have hv_10 : zI b1 0 2147483647 := by have _a := hq_5; have _b := (zI_all b1); have _c := zcl_0; simp only [Int32.toInt_toInt64] at *; exact ⟨by omega, by omega⟩
    try simp only [Int32.toInt_toInt64, ll_1] at hq_6
    have hv_11 : zI b1 0 1 := by have _a := hq_6; have _b := hv_10; have _c := zcl_1; simp only [Int32.toInt_toInt64] at *; exact ⟨by omega, by omega⟩
    refine W.widen (k := 0) (n := 0) (Nat.le_of_ble_eq_true rfl) (Nat.le_of_ble_eq_true rfl) ?_
    refine lv_if_ne (tgt := 17) hx hb d_Model_keep_12 (by decide) (fun _ => ?_) (fun hc => absurd hc (by decide +kernel))
    refine lv_iconst (v := 0) hx hb d_Model_keep_17 (by decide) ?_
    refine lv_istore_n (lv' := [(2, .int 0), (0, .ref b0), (1, .int b1)]) hx hb d_Model_keep_18 rfl hl (by decide) rfl (fun ls hl => ?_)
    suffices key : ∀ (k_25 : Nat) (y_26 : Int32) (y_27 : Nat → Int32) (H : Heap) (locs : List Loc) (ls : Array Slot), (zI y_26 0 503) → (zW5 y_27) → (503 : Int) - y_26.toInt < (k_25 : Int) → va_P G.1 classes [(b0, .inr (12, [.int 0, .ref b3, .ref b4, .ref b5, .ref b6, .int b7, .ref b8, .int b9, .int b10, .int b11, .int b12, .ref b13, .ref b14, .ref b15, .int b16, .ref b17, .ref b18, .ref b19, .ref b20, .ref b21, .ref b22, .ref b23, .ref b24, .ref b25, .ref b26, .ref b27, .ref b28, .int b29, .ref b30, .ref b31, .int b32, .int b33, .int b34, .int b35, .ref b36, .ref b37, .ref b38, .ref b39, .ref b40, .ref b41, .ref b42, .int b43, .ref b44, .ref b45, .int b46, .ref b47, .ref b48, .ref b49, .ref b50, .ref b51, .int b52, .ref b53, .ref b54, .ref b55])), (b3, .inl (G.2 0, 503, .inl b56)), (b4, .inl (G.2 0, 1006, .inl y_27)), (b5, .inl (G.2 4, 2, .inl b58))] H → va_D A [(b0, .inr (12, [.int 0, .ref b3, .ref b4, .ref b5, .ref b6, .int b7, .ref b8, .int b9, .int b10, .int b11, .int b12, .ref b13, .ref b14, .ref b15, .int b16, .ref b17, .ref b18, .ref b19, .ref b20, .ref b21, .ref b22, .ref b23, .ref b24, .ref b25, .ref b26, .ref b27, .ref b28, .int b29, .ref b30, .ref b31, .int b32, .int b33, .int b34, .int b35, .ref b36, .ref b37, .ref b38, .ref b39, .ref b40, .ref b41, .ref b42, .int b43, .ref b44, .ref b45, .int b46, .ref b47, .ref b48, .ref b49, .ref b50, .ref b51, .int b52, .ref b53, .ref b54, .ref b55])), (b3, .inl (G.2 0, 503, .inl b56)), (b4, .inl (G.2 0, 1006, .inl y_27)), (b5, .inl (G.2 4, 2, .inl b58))] → va_S A s.heap H locs → lv_has ls 3 [(2, .int y_26), (0, .ref b0), (1, .int b1)] → W p l e m_s2_Model_keep s m ([.ref b0, .int b1] : List Value).toArray below meth c H locs 0 0 (MQ below (zQ G (fun v w => ∃ (e0 : Int32), ∃ (e1 : Nat → Int32), ∃ (e2 : Nat → Int32), v = some (.int e0) ∧ w = [(b0, .inr (12, [.int 0, .ref b3, .ref b4, .ref b5, .ref b6, .int b7, .ref b8, .int b9, .int b10, .int b11, .int b12, .ref b13, .ref b14, .ref b15, .int b16, .ref b17, .ref b18, .ref b19, .ref b20, .ref b21, .ref b22, .ref b23, .ref b24, .ref b25, .ref b26, .ref b27, .ref b28, .int b29, .ref b30, .ref b31, .int b32, .int b33, .int b34, .int b35, .ref b36, .ref b37, .ref b38, .ref b39, .ref b40, .ref b41, .ref b42, .int b43, .ref b44, .ref b45, .int b46, .ref b47, .ref b48, .ref b49, .ref b50, .ref b51, .int b52, .ref b53, .ref b54, .ref b55])), (b3, .inl (G.2 0, 503, .inl b56)), (b4, .inl (G.2 0, 1006, .inl e1)), (b5, .inl (G.2 4, 2, .inl e2))] ∧ (zI e0 0 1) ∧ (zW5 e1) ∧ ((0 ≤ (b1 : Int32).toInt ∧ (b1 : Int32).toInt ≤ 1) → (e0 : Int32).toInt = 1) ∧ (¬ (0 ≤ (b1 : Int32).toInt ∧ (b1 : Int32).toInt ≤ 1) → (e0 : Int32).toInt = 0)) A) ([.ref b0, .int b1] : List Value).toArray s m_s2_Model_keep.cells m_s2_Model_keep.slots A) (F0 m 19 ls []) by
      exact key 504 (0) (b57) _ _ _ (zI.wk (l' := 0) (h' := 503) zc_0 (by decide)) hb57 (zm_upi (zI.wk (l' := 0) (h' := 503) zc_0 (by decide)) (by decide)) hP hD hS (lv_sub hl [0, 1, 2] rfl)
    intro k_25
    induction k_25 with
    | zero =>
      intro y_26 y_27 H locs ls hy_26 hy_27 hmk_25 hP hD hS hl
      exact (zm_up0 hy_26 hmk_25).elim
    | succ k_25 ihk_25 =>
      intro y_26 y_27 H locs ls hy_26 hy_27 hmk_25 hP hD hS hl
      refine lv_iload_n hx hb d_Model_keep_19 rfl (lv_at hl 0 rfl) ?_
      refine lv_sipush (v := 503) hx hb d_Model_keep_20 (by decide) ?_
      refine lv_icmp_ge (tgt := 50) hx hb d_Model_keep_23 (by decide) (fun hc_28 => ?_) (fun hc_28 => ?_)
      · have _nhc_28 := hc_28
        have ni_29 := (fa_le _ _).mp hc_28
        rw [li_503] at ni_29
        have hv_30 : zI y_26 503 503 := zI.le_r zc_503 hy_26 hc_28 (by decide)
        refine lv_aload_n hx hb d_Model_keep_50 rfl (lv_at hl 1 rfl) ?_
        refine va_get (D := G.1) (ci := 12) (v := .ref b5) (C := R_Model) (T := F_Model) (N := 54) hx hb hts i_Model hown hK hP 0 rfl rfl 3 (by decide) (hts _ q1112) (fun _ h9 => h9) rfl d_Model_keep_51 ?_
        refine lv_iload_n hx hb d_Model_keep_54 rfl (lv_at hl 2 rfl) ?_
        refine lv_iconst (v := 1) hx hb d_Model_keep_55 (by decide) ?_
        refine va_zast hx hb hK hP hD hS 3 4 rfl rfl (zI.inn hv_11 (by decide)) d_Model_keep_56 (fun H locs hP hD hS => ?_)
        obtain ⟨f_31, hP, hD⟩ := z_newF 3 hP hD rfl
        have hP : va_P G.1 classes [(b0, .inr (12, [.int 0, .ref b3, .ref b4, .ref b5, .ref b6, .int b7, .ref b8, .int b9, .int b10, .int b11, .int b12, .ref b13, .ref b14, .ref b15, .int b16, .ref b17, .ref b18, .ref b19, .ref b20, .ref b21, .ref b22, .ref b23, .ref b24, .ref b25, .ref b26, .ref b27, .ref b28, .int b29, .ref b30, .ref b31, .int b32, .int b33, .int b34, .int b35, .ref b36, .ref b37, .ref b38, .ref b39, .ref b40, .ref b41, .ref b42, .int b43, .ref b44, .ref b45, .int b46, .ref b47, .ref b48, .ref b49, .ref b50, .ref b51, .int b52, .ref b53, .ref b54, .ref b55])), (b3, .inl (G.2 0, 503, .inl b56)), (b4, .inl (G.2 0, 1006, .inl y_27)), (b5, .inl (G.2 4, 2, .inl f_31))] H := hP
        have hD := z_tie hP hD rfl
        refine lv_iconst (v := 1) hx hb d_Model_keep_57 (by decide) ?_
        exact z_zret hx hb hr hlocks rfl hP hD hS (Nat.le_of_ble_eq_true rfl) (Nat.le_of_ble_eq_true rfl) d_Model_keep_58 ⟨1, y_27, f_31, rfl, rfl, (zI.wk (l' := 0) (h' := 1) zc_1 (by decide)), hy_27, (by intro h9; have _l0 := li_0; have _l1 := li_1; omega), (by intro h9; have _l0 := li_0; have _l1 := li_1; omega)⟩
      · have _nhc_28 := hc_28
        have ni_32 := (fa_lt _ _).mp (zi_nle hc_28)
        rw [li_503] at ni_32
        have hv_33 : zI y_26 0 502 := zI.lt_l hy_26 zc_503 (zi_nle hc_28) (by decide)
        refine lv_aload_n hx hb d_Model_keep_26 rfl (lv_at hl 1 rfl) ?_
        refine va_get (D := G.1) (ci := 12) (v := .ref b4) (C := R_Model) (T := F_Model) (N := 54) hx hb hts i_Model hown hK hP 0 rfl rfl 2 (by decide) (hts _ q1111) (fun _ h9 => h9) rfl d_Model_keep_27 ?_
        refine lv_sipush (v := 503) hx hb d_Model_keep_30 (by decide) ?_
        refine lv_iload_n hx hb d_Model_keep_33 rfl (lv_at hl 2 rfl) ?_
        refine lv_imul hx hb d_Model_keep_34 ?_
        refine lv_topi (fun v_34 ev_34 => ?_)
        obtain ⟨qv_34, hv_34⟩ := zI_mul (l := 0) (h := 503) zc_503 hv_11 ev_34 (by decide)
        rw [li_503] at qv_34
        refine lv_iload_n hx hb d_Model_keep_35 rfl (lv_at hl 0 rfl) ?_
        refine lv_iadd hx hb d_Model_keep_36 ?_
        refine lv_topi (fun v_35 ev_35 => ?_)
        obtain ⟨qv_35, hv_35⟩ := zI_add (l := 0) (h := 1005) hv_34 hv_33 ev_35 (by decide)
        refine lv_aload_n hx hb d_Model_keep_37 rfl (lv_at hl 1 rfl) ?_
        refine va_get (D := G.1) (ci := 12) (v := .ref b3) (C := R_Model) (T := F_Model) (N := 54) hx hb hts i_Model hown hK hP 0 rfl rfl 1 (by decide) (hts _ q1110) (fun _ h9 => h9) rfl d_Model_keep_38 ?_
        refine lv_iload_n hx hb d_Model_keep_41 rfl (lv_at hl 0 rfl) ?_
        refine va_iald hx hb hK hP 1 0 rfl rfl (zI.inn hv_33 (by decide)) d_Model_keep_42 ?_
        refine lv_topi (fun v_36 ev_36 => ?_)
        refine va_iast hx hb hK hP hD hS 2 0 rfl rfl (zI.inn hv_35 (by decide)) d_Model_keep_43 (fun H locs hP hD hS => ?_)
        obtain ⟨f_37, hf_37, gf_37, uf_37, hP, hD⟩ := z_newfw 2 hP hD rfl hy_27 (zRk_s hb56 ev_36 hv_33 hv_35 (by decide) (by omega))
        have hP : va_P G.1 classes [(b0, .inr (12, [.int 0, .ref b3, .ref b4, .ref b5, .ref b6, .int b7, .ref b8, .int b9, .int b10, .int b11, .int b12, .ref b13, .ref b14, .ref b15, .int b16, .ref b17, .ref b18, .ref b19, .ref b20, .ref b21, .ref b22, .ref b23, .ref b24, .ref b25, .ref b26, .ref b27, .ref b28, .int b29, .ref b30, .ref b31, .int b32, .int b33, .int b34, .int b35, .ref b36, .ref b37, .ref b38, .ref b39, .ref b40, .ref b41, .ref b42, .int b43, .ref b44, .ref b45, .int b46, .ref b47, .ref b48, .ref b49, .ref b50, .ref b51, .int b52, .ref b53, .ref b54, .ref b55])), (b3, .inl (G.2 0, 503, .inl b56)), (b4, .inl (G.2 0, 1006, .inl f_37)), (b5, .inl (G.2 4, 2, .inl b58))] H := hP
        have hD := z_tie hP hD rfl
        obtain ⟨v_38, ev_38⟩ : ∃ z : Int32, z = y_26 + 1 := ⟨_, rfl⟩
        obtain ⟨qv_38, hv_38⟩ := zI_add (l := 1) (h := 503) hv_33 zc_1 ev_38 (by decide)
        rw [li_1] at qv_38
        refine lv_iinc (v := v_38) (lv' := [(2, .int v_38), (0, .ref b0), (1, .int b1)]) hx hb d_Model_keep_44 hl (k := 0) rfl (by rw [ev_38]; rfl) (by decide) rfl (fun ls hl => ?_)
        refine lv_goto (tgt := 19) hx hb d_Model_keep_47 (by decide) ?_
        exact ihk_25 (v_38) (f_37) _ _ _ (zI.wk (l' := 0) (h' := 503) hv_38 (by decide)) hf_37 (zm_up qv_38 hmk_25 (by decide)) hP hD hS (lv_sub hl [0, 1, 2] rfl)
