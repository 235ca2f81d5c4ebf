abbrev m_s3_Model_isLetter : Room := { frames := 1, cells := 0, slots := 0, locals := 25 }
set_option maxHeartbeats 4000000 in
set_option maxRecDepth 100000 in
theorem s3_Model_isLetter (l : Launch) (G : zG) (b0 : Int32)  : zM l G y_Model_isLetter prog_14_method_79_code 1 (Option.some Jvm.ClassFile.FieldType.boolean) m_s3_Model_isLetter [.int b0] [] (fun v w => ∃ (e0 : Int32), v = some (.int e0) ∧ w = [] ∧ (zI e0 0 1) ∧ ((e0 : Int32).toInt = 1 ∧ 0 ≤ (b0 : Int32).toInt ∧ (b0 : Int32).toInt ≤ 9 ∨ (e0 : Int32).toInt = 0 ∧ ¬ (0 ≤ (b0 : Int32).toInt ∧ (b0 : Int32).toInt ≤ 9))) := by
  refine z_start (by decide +kernel) (Nat.le_of_ble_eq_true rfl) ?_
  intro p e s m below meth c A Z hr hnm hA hP hD hS ls hl
  have Z : zC p s m _ meth c prog_14_method_79_code 1 "TraceMachinesModel" G := Z
  obtain ⟨hx, hb, hml, hown, hts, hK, hN, hlocks⟩ := id Z
  have hl : lv_has ls 1 [(0, .int b0)] := hl
  refine lv_iload_n hx hb d_Model_isLetter_0 rfl (lv_at hl 0 rfl) ?_
  refine lv_i2l (v := b0.toInt64) hx hb d_Model_isLetter_1 rfl ?_
  refine lv_lconst (v := 0) hx hb d_Model_isLetter_2 (by decide) ?_
  refine lv_ldc2 hx hb hown (hts _ q1552) d_Model_isLetter_3 ?_
  refine z_callS (index := 138) (As := [.long b0.toInt64, .long 0, .long 9]) (rest := []) (wr := []) Z (s2_Model_in l G (b0.toInt64) (0) (9)) hl.1 q1281 q1282 q14 q1283 ⟨by decide, by decide, by show _ = some 3; decide +kernel⟩ ⟨Nat.le_of_ble_eq_true rfl, Nat.le_of_ble_eq_true rfl⟩ ⟨Nat.le_of_ble_eq_true rfl, Nat.le_of_ble_eq_true rfl⟩ rfl (Nat.le_of_ble_eq_true rfl) d_Model_isLetter_6 hP hD hS hA [] [] rfl rfl rfl rfl (by decide) (fun v w1 H locs hw_1 hP hD hS => ?_)
  rcases hw_1 with ⟨rfl, rfl, hq_2⟩ | ⟨rfl, rfl, hq_3, hq_4⟩ | ⟨rfl, rfl, hq_5, hq_6⟩
  · have hP : va_P G.1 classes [] H := hP
    have hD := z_tie hP hD rfl
    try simp only [Int32.toInt_toInt64, ll_0] at hq_2
    have hv_7 : zI b0 (-2147483648) (-1) := by have _a := hq_2; have _b := (zI_all b0); have _c := zcl_0; simp only [Int32.toInt_toInt64] at *; exact ⟨by omega, by omega⟩
    refine W.widen (k := 0) (n := 0) (Nat.le_of_ble_eq_true rfl) (Nat.le_of_ble_eq_true rfl) ?_
    exact z_zret hx hb hr hlocks rfl hP hD hS (Nat.le_of_ble_eq_true rfl) (Nat.le_of_ble_eq_true rfl) d_Model_isLetter_9 ⟨0, rfl, rfl, (zI.wk (l' := 0) (h' := 1) zc_0 (by decide)), (by have _l0 := li_0; have _l1 := li_1; have _l2 := li_9; omega)⟩
  · have hP : va_P G.1 classes [] H := hP
    have hD := z_tie hP hD rfl
    try simp only [Int32.toInt_toInt64, ll_0] at hq_3
    have hv_8 : zI b0 0 2147483647 := by have _a := hq_3; have _b := (zI_all b0); have _c := zcl_0; simp only [Int32.toInt_toInt64] at *; exact ⟨by omega, by omega⟩
    try simp only [Int32.toInt_toInt64, ll_9] at hq_4
    have hv_9 : zI b0 10 2147483647 := by have _a := hq_4; have _b := hv_8; have _c := zcl_9; simp only [Int32.toInt_toInt64] at *; exact ⟨by omega, by omega⟩
    refine W.widen (k := 0) (n := 0) (Nat.le_of_ble_eq_true rfl) (Nat.le_of_ble_eq_true rfl) ?_
    exact z_zret hx hb hr hlocks rfl hP hD hS (Nat.le_of_ble_eq_true rfl) (Nat.le_of_ble_eq_true rfl) d_Model_isLetter_9 ⟨0, rfl, rfl, (zI.wk (l' := 0) (h' := 1) zc_0 (by decide)), (by have _l0 := li_0; have _l1 := li_1; have _l2 := li_9; omega)⟩
  · have hP : va_P G.1 classes [] H := hP
    have hD := z_tie hP hD rfl
    try simp only [Int32.toInt_toInt64, ll_0] at hq_5
    have hv_10 : zI b0 0 2147483647 := by have _a := hq_5; have _b := (zI_all b0); have _c := zcl_0; simp only [Int32.toInt_toInt64] at *; exact ⟨by omega, by omega⟩
    try simp only [Int32.toInt_toInt64, ll_9] at hq_6
    have hv_11 : zI b0 0 9 := by have _a := hq_6; have _b := hv_10; have _c := zcl_9; simp only [Int32.toInt_toInt64] at *; exact ⟨by omega, by omega⟩
    refine W.widen (k := 0) (n := 0) (Nat.le_of_ble_eq_true rfl) (Nat.le_of_ble_eq_true rfl) ?_
    exact z_zret hx hb hr hlocks rfl hP hD hS (Nat.le_of_ble_eq_true rfl) (Nat.le_of_ble_eq_true rfl) d_Model_isLetter_9 ⟨1, rfl, rfl, (zI.wk (l' := 0) (h' := 1) zc_1 (by decide)), (by have _l0 := li_0; have _l1 := li_1; have _l2 := li_9; omega)⟩
abbrev m_s2_Model_rule : Room := { frames := 4, cells := 0, slots := 0, locals := 99 }
set_option maxHeartbeats 4000000 in
set_option maxRecDepth 100000 in
theorem s2_Model_rule (l : Launch) (G : zG) (b0 : Nat) (b1 : Int32) (b2 : Int32) (b3 : Int32) (b4 : Int32) (b5 : Int32) (b6 : Nat) (b7 : Nat) (b8 : Nat) (b9 : Nat) (b10 : Int32) (b11 : Nat) (b12 : Int32) (b13 : Int32) (b14 : Int32) (b15 : Int32) (b16 : Nat) (b17 : Nat) (b18 : Nat) (b19 : Int32) (b20 : Nat) (b21 : Nat) (b22 : Nat) (b23 : Nat) (b24 : Nat) (b25 : Nat) (b26 : Nat) (b27 : Nat) (b28 : Nat) (b29 : Nat) (b30 : Nat) (b31 : Nat) (b32 : Int32) (b33 : Nat) (b34 : Nat) (b35 : Int32) (b36 : Int32) (b37 : Int32) (b38 : Int32) (b39 : Nat) (b40 : Nat) (b41 : Nat) (b42 : Nat) (b43 : Nat) (b44 : Nat) (b45 : Nat) (b46 : Int32) (b47 : Nat) (b48 : Nat) (b49 : Int32) (b50 : Nat) (b51 : Nat) (b52 : Nat) (b53 : Nat) (b54 : Nat) (b55 : Int32) (b56 : Nat) (b57 : Nat) (b58 : Nat) (b59 : Nat → Int32) (hb10 : zI b10 0 8) (hb12 : zI b12 0 240) (hb13 : zI b13 0 240) (hb15 : zI b15 0 1) (hb19 : zI b19 0 12) (hb32 : zI b32 0 1) (hb35 : zI b35 0 1) (hb46 : zI b46 0 1000) (hb49 : zI b49 0 1000) (hb55 : zI b55 0 400) (hb59 : zW5 b59) : zM l G y_Model_rule prog_14_method_80_code 5 (Option.some Jvm.ClassFile.FieldType.int) m_s2_Model_rule [.ref b0, .int b1, .int b2, .int b3, .int b4] [(b0, .inr (12, [.int b5, .ref b6, .ref b7, .ref b8, .ref b9, .int b10, .ref b11, .int b12, .int b13, .int b14, .int b15, .ref b16, .ref b17, .ref b18, .int b19, .ref b20, .ref b21, .ref b22, .ref b23, .ref b24, .ref b25, .ref b26, .ref b27, .ref b28, .ref b29, .ref b30, .ref b31, .int b32, .ref b33, .ref b34, .int b35, .int b36, .int b37, .int b38, .ref b39, .ref b40, .ref b41, .ref b42, .ref b43, .ref b44, .ref b45, .int b46, .ref b47, .ref b48, .int b49, .ref b50, .ref b51, .ref b52, .ref b53, .ref b54, .int b55, .ref b56, .ref b57, .ref b58])), (b6, .inl (G.2 0, 503, .inl b59))] (fun v w => ∃ (e0 : Int32), v = some (.int e0) ∧ w = [(b0, .inr (12, [.int 0, .ref b6, .ref b7, .ref b8, .ref b9, .int b10, .ref b11, .int b12, .int b13, .int b14, .int b15, .ref b16, .ref b17, .ref b18, .int b19, .ref b20, .ref b21, .ref b22, .ref b23, .ref b24, .ref b25, .ref b26, .ref b27, .ref b28, .ref b29, .ref b30, .ref b31, .int b32, .ref b33, .ref b34, .int b35, .int b36, .int b37, .int b38, .ref b39, .ref b40, .ref b41, .ref b42, .ref b43, .ref b44, .ref b45, .int b46, .ref b47, .ref b48, .int b49, .ref b50, .ref b51, .ref b52, .ref b53, .ref b54, .int b55, .ref b56, .ref b57, .ref b58])), (b6, .inl (G.2 0, 503, .inl b59))] ∧ (¬ (((0 ≤ (b1).toInt ∧ (b1).toInt ≤ 5) ∧ (0 ≤ (b2).toInt ∧ (b2).toInt ≤ 9) ∧ (0 ≤ (b3).toInt ∧ (b3).toInt ≤ 9)) ∧ ¬ (b2).toInt = (b3).toInt ∧ 0 ≤ (b4).toInt ∧ (b4).toInt ≤ 1) ∧ (e0 : Int32).toInt = -1 ∨ (((0 ≤ (b1).toInt ∧ (b1).toInt ≤ 5) ∧ (0 ≤ (b2).toInt ∧ (b2).toInt ≤ 9) ∧ (0 ≤ (b3).toInt ∧ (b3).toInt ≤ 9)) ∧ ¬ (b2).toInt = (b3).toInt ∧ 0 ≤ (b4).toInt ∧ (b4).toInt ≤ 1) ∧ (e0 : Int32).toInt = zas b1.toInt b59 21 b59 1 b2 b3 b4.toInt (b59 0).toInt.toNat)) := by
  refine z_start (by decide +kernel) (Nat.le_of_ble_eq_true rfl) ?_
  intro p e s m below meth c A Z hr hnm hA hP hD hS ls hl
  have Z : zC p s m _ meth c prog_14_method_80_code 5 "TraceMachinesModel" G := Z
  obtain ⟨hx, hb, hml, hown, hts, hK, hN, hlocks⟩ := id Z
  have hl : lv_has ls 5 [(0, .ref b0), (1, .int b1), (2, .int b2), (3, .int b3), (4, .int b4)] := hl
  refine lv_aload_n hx hb d_Model_rule_0 rfl (lv_at hl 0 rfl) ?_
  refine lv_iconst (v := 0) hx hb d_Model_rule_1 (by decide) ?_
  refine va_put (D := G.1) (ci := 12) (v := .int 0) (ty := .int) (C := R_Model) (T := F_Model) (N := 54) hx hb hts i_Model t_Model t_Model_ok n_Model hown hK hP hD hS 0 rfl rfl 0 (by decide) (hts _ q1109) (fun _ h9 => h9) rfl (by decide +kernel) rfl rfl (Nat.le_of_ble_eq_true rfl) d_Model_rule_2 (fun H locs hP hD hS => ?_)
  have hP : va_P G.1 classes [(b0, .inr (12, [.int 0, .ref b6, .ref b7, .ref b8, .ref b9, .int b10, .ref b11, .int b12, .int b13, .int b14, .int b15, .ref b16, .ref b17, .ref b18, .int b19, .ref b20, .ref b21, .ref b22, .ref b23, .ref b24, .ref b25, .ref b26, .ref b27, .ref b28, .ref b29, .ref b30, .ref b31, .int b32, .ref b33, .ref b34, .int b35, .int b36, .int b37, .int b38, .ref b39, .ref b40, .ref b41, .ref b42, .ref b43, .ref b44, .ref b45, .int b46, .ref b47, .ref b48, .int b49, .ref b50, .ref b51, .ref b52, .ref b53, .ref b54, .int b55, .ref b56, .ref b57, .ref b58])), (b6, .inl (G.2 0, 503, .inl b59))] H := hP
  have hD := z_tie hP hD rfl
  refine lv_iload_n hx hb d_Model_rule_5 rfl (lv_at hl 1 rfl) ?_
  refine lv_i2l (v := b1.toInt64) hx hb d_Model_rule_6 rfl ?_
  refine lv_lconst (v := 0) hx hb d_Model_rule_7 (by decide) ?_
  refine lv_ldc2 hx hb hown (hts _ q1432) d_Model_rule_8 ?_
  refine z_callS (index := 138) (As := [.long b1.toInt64, .long 0, .long 5]) (rest := []) (wr := [(b0, .inr (12, [.int 0, .ref b6, .ref b7, .ref b8, .ref b9, .int b10, .ref b11, .int b12, .int b13, .int b14, .int b15, .ref b16, .ref b17, .ref b18, .int b19, .ref b20, .ref b21, .ref b22, .ref b23, .ref b24, .ref b25, .ref b26, .ref b27, .ref b28, .ref b29, .ref b30, .ref b31, .int b32, .ref b33, .ref b34, .int b35, .int b36, .int b37, .int b38, .ref b39, .ref b40, .ref b41, .ref b42, .ref b43, .ref b44, .ref b45, .int b46, .ref b47, .ref b48, .int b49, .ref b50, .ref b51, .ref b52, .ref b53, .ref b54, .int b55, .ref b56, .ref b57, .ref b58])), (b6, .inl (G.2 0, 503, .inl b59))]) Z (s2_Model_in l G (b1.toInt64) (0) (5)) hl.1 q1281 q1282 q14 q1283 ⟨by decide, by decide, by show _ = some 3; decide +kernel⟩ ⟨Nat.le_of_ble_eq_true rfl, Nat.le_of_ble_eq_true rfl⟩ ⟨Nat.le_of_ble_eq_true rfl, Nat.le_of_ble_eq_true rfl⟩ rfl (Nat.le_of_ble_eq_true rfl) d_Model_rule_11 hP hD hS hA [] [0, 1] rfl rfl rfl rfl (by decide) (fun v w1 H locs hw_1 hP hD hS => ?_)
  rcases hw_1 with ⟨rfl, rfl, hq_2⟩ | ⟨rfl, rfl, hq_3, hq_4⟩ | ⟨rfl, rfl, hq_5, hq_6⟩
  · have hP : va_P G.1 classes [(b0, .inr (12, [.int 0, .ref b6, .ref b7, .ref b8, .ref b9, .int b10, .ref b11, .int b12, .int b13, .int b14, .int b15, .ref b16, .ref b17, .ref b18, .int b19, .ref b20, .ref b21, .ref b22, .ref b23, .ref b24, .ref b25, .ref b26, .ref b27, .ref b28, .ref b29, .ref b30, .ref b31, .int b32, .ref b33, .ref b34, .int b35, .int b36, .int b37, .int b38, .ref b39, .ref b40, .ref b41, .ref b42, .ref b43, .ref b44, .ref b45, .int b46, .ref b47, .ref b48, .int b49, .ref b50, .ref b51, .ref b52, .ref b53, .ref b54, .int b55, .ref b56, .ref b57, .ref b58])), (b6, .inl (G.2 0, 503, .inl b59))] H := hP
    have hD := z_tie hP hD rfl
    try simp only [Int32.toInt_toInt64, ll_0] at hq_2
    have hv_7 : zI b1 (-2147483648) (-1) := by have _a := hq_2; have _b := (zI_all b1); have _c := zcl_0; simp only [Int32.toInt_toInt64] at *; exact ⟨by omega, by omega⟩
    refine W.widen (k := 0) (n := 0) (Nat.le_of_ble_eq_true rfl) (Nat.le_of_ble_eq_true rfl) ?_
    refine lv_if_eq (tgt := 47) hx hb d_Model_rule_14 (by decide) (fun _ => ?_) (fun hc => absurd hc (by decide +kernel))
    refine lv_iconst (v := (-1)) hx hb d_Model_rule_47 (by decide) ?_
    exact z_iret hx hb hr hlocks hP hD hS (Nat.le_of_ble_eq_true rfl) (Nat.le_of_ble_eq_true rfl) d_Model_rule_48 ⟨(-1), rfl, rfl, (Or.inl ⟨by have _l0 := li_0; have _l1 := li_1; have _l2 := li_5; have _l3 := li_9; omega, li_m1⟩)⟩
  · have hP : va_P G.1 classes [(b0, .inr (12, [.int 0, .ref b6, .ref b7, .ref b8, .ref b9, .int b10, .ref b11, .int b12, .int b13, .int b14, .int b15, .ref b16, .ref b17, .ref b18, .int b19, .ref b20, .ref b21, .ref b22, .ref b23, .ref b24, .ref b25, .ref b26, .ref b27, .ref b28, .ref b29, .ref b30, .ref b31, .int b32, .ref b33, .ref b34, .int b35, .int b36, .int b37, .int b38, .ref b39, .ref b40, .ref b41, .ref b42, .ref b43, .ref b44, .ref b45, .int b46, .ref b47, .ref b48, .int b49, .ref b50, .ref b51, .ref b52, .ref b53, .ref b54, .int b55, .ref b56, .ref b57, .ref b58])), (b6, .inl (G.2 0, 503, .inl b59))] H := hP
    have hD := z_tie hP hD rfl
    try simp only [Int32.toInt_toInt64, ll_0] at hq_3
    have hv_8 : zI b1 0 2147483647 := by have _a := hq_3; have _b := (zI_all b1); have _c := zcl_0; simp only [Int32.toInt_toInt64] at *; exact ⟨by omega, by omega⟩
    try simp only [Int32.toInt_toInt64, ll_5] at hq_4
    have hv_9 : zI b1 6 2147483647 := by have _a := hq_4; have _b := hv_8; have _c := zcl_5; simp only [Int32.toInt_toInt64] at *; exact ⟨by omega, by omega⟩
    refine W.widen (k := 0) (n := 0) (Nat.le_of_ble_eq_true rfl) (Nat.le_of_ble_eq_true rfl) ?_
    refine lv_if_eq (tgt := 47) hx hb d_Model_rule_14 (by decide) (fun _ => ?_) (fun hc => absurd hc (by decide +kernel))
    refine lv_iconst (v := (-1)) hx hb d_Model_rule_47 (by decide) ?_
    exact z_iret hx hb hr hlocks hP hD hS (Nat.le_of_ble_eq_true rfl) (Nat.le_of_ble_eq_true rfl) d_Model_rule_48 ⟨(-1), rfl, rfl, (Or.inl ⟨by have _l0 := li_0; have _l1 := li_1; have _l2 := li_5; have _l3 := li_9; omega, li_m1⟩)⟩
  · have hP : va_P G.1 classes [(b0, .inr (12, [.int 0, .ref b6, .ref b7, .ref b8, .ref b9, .int b10, .ref b11, .int b12, .int b13, .int b14, .int b15, .ref b16, .ref b17, .ref b18, .int b19, .ref b20, .ref b21, .ref b22, .ref b23, .ref b24, .ref b25, .ref b26, .ref b27, .ref b28, .ref b29, .ref b30, .ref b31, .int b32, .ref b33, .ref b34, .int b35, .int b36, .int b37, .int b38, .ref b39, .ref b40, .ref b41, .ref b42, .ref b43, .ref b44, .ref b45, .int b46, .ref b47, .ref b48, .int b49, .ref b50, .ref b51, .ref b52, .ref b53, .ref b54, .int b55, .ref b56, .ref b57, .ref b58])), (b6, .inl (G.2 0, 503, .inl b59))] H := hP
    have hD := z_tie hP hD rfl
    try simp only [Int32.toInt_toInt64, ll_0] at hq_5
    have hv_10 : zI b1 0 2147483647 := by have _a := hq_5; have _b := (zI_all b1); have _c := zcl_0; simp only [Int32.toInt_toInt64] at *; exact ⟨by omega, by omega⟩
    try simp only [Int32.toInt_toInt64, ll_5] at hq_6
    have hv_11 : zI b1 0 5 := by have _a := hq_6; have _b := hv_10; have _c := zcl_5; simp only [Int32.toInt_toInt64] at *; exact ⟨by omega, by omega⟩
    refine W.widen (k := 0) (n := 0) (Nat.le_of_ble_eq_true rfl) (Nat.le_of_ble_eq_true rfl) ?_
    refine lv_if_eq (tgt := 47) hx hb d_Model_rule_14 (by decide) (fun hc => absurd hc (by decide +kernel)) (fun _ => ?_)
    refine lv_iload_n hx hb d_Model_rule_17 rfl (lv_at hl 2 rfl) ?_
    refine z_callS (index := 391) (As := [.int b2]) (rest := []) (wr := [(b0, .inr (12, [.int 0, .ref b6, .ref b7, .ref b8, .ref b9, .int b10, .ref b11, .int b12, .int b13, .int b14, .int b15, .ref b16, .ref b17, .ref b18, .int b19, .ref b20, .ref b21, .ref b22, .ref b23, .ref b24, .ref b25, .ref b26, .ref b27, .ref b28, .ref b29, .ref b30, .ref b31, .int b32, .ref b33, .ref b34, .int b35, .int b36, .int b37, .int b38, .ref b39, .ref b40, .ref b41, .ref b42, .ref b43, .ref b44, .ref b45, .int b46, .ref b47, .ref b48, .int b49, .ref b50, .ref b51, .ref b52, .ref b53, .ref b54, .int b55, .ref b56, .ref b57, .ref b58])), (b6, .inl (G.2 0, 503, .inl b59))]) Z (s3_Model_isLetter l G (b2)) hl.1 q1549 q1550 q14 q1551 ⟨by decide, by decide, by show _ = some 1; decide +kernel⟩ ⟨Nat.le_of_ble_eq_true rfl, Nat.le_of_ble_eq_true rfl⟩ ⟨Nat.le_of_ble_eq_true rfl, Nat.le_of_ble_eq_true rfl⟩ rfl (Nat.le_of_ble_eq_true rfl) d_Model_rule_18 hP hD hS hA [] [0, 1] rfl rfl rfl rfl (by decide) (fun v w1 H locs hw_12 hP hD hS => ?_)
    obtain ⟨x_13, rfl, rfl, hx_13, hfx_14⟩ := hw_12
    have hP : va_P G.1 classes [(b0, .inr (12, [.int 0, .ref b6, .ref b7, .ref b8, .ref b9, .int b10, .ref b11, .int b12, .int b13, .int b14, .int b15, .ref b16, .ref b17, .ref b18, .int b19, .ref b20, .ref b21, .ref b22, .ref b23, .ref b24, .ref b25, .ref b26, .ref b27, .ref b28, .ref b29, .ref b30, .ref b31, .int b32, .ref b33, .ref b34, .int b35, .int b36, .int b37, .int b38, .ref b39, .ref b40, .ref b41, .ref b42, .ref b43, .ref b44, .ref b45, .int b46, .ref b47, .ref b48, .int b49, .ref b50, .ref b51, .ref b52, .ref b53, .ref b54, .int b55, .ref b56, .ref b57, .ref b58])), (b6, .inl (G.2 0, 503, .inl b59))] H := hP
    have hD := z_tie hP hD rfl
    refine W.widen (k := 0) (n := 0) (Nat.le_of_ble_eq_true rfl) (Nat.le_of_ble_eq_true rfl) ?_
    refine lv_if_eq (tgt := 47) hx hb d_Model_rule_21 (by decide) (fun hc_15 => ?_) (fun hc_15 => ?_)
    · have _nhc_15 := hc_15
      have ni_16 := (fa_eq _ _).mp hc_15
      rw [li_0] at ni_16
      have hv_17 : zI x_13 0 0 := zI.eq_l hx_13 zc_0 hc_15
      refine lv_iconst (v := (-1)) hx hb d_Model_rule_47 (by decide) ?_
      exact z_iret hx hb hr hlocks hP hD hS (Nat.le_of_ble_eq_true rfl) (Nat.le_of_ble_eq_true rfl) d_Model_rule_48 ⟨(-1), rfl, rfl, (Or.inl ⟨by have _l0 := li_0; have _l1 := li_1; have _l2 := li_5; have _l3 := li_9; omega, li_m1⟩)⟩
    · have _nhc_15 := hc_15
      have ni_18 : ¬ (x_13 : Int32).toInt = (0 : Int32).toInt := fun z => hc_15 ((fa_eq _ _).mpr z)
      simp only [li_0] at ni_18
      have hv_19 : zI x_13 1 1 := zI.ne_lo hx_13 zc_0 hc_15 (by decide)
      refine lv_iload_n hx hb d_Model_rule_24 rfl (lv_at hl 3 rfl) ?_
      refine z_callS (index := 391) (As := [.int b3]) (rest := []) (wr := [(b0, .inr (12, [.int 0, .ref b6, .ref b7, .ref b8, .ref b9, .int b10, .ref b11, .int b12, .int b13, .int b14, .int b15, .ref b16, .ref b17, .ref b18, .int b19, .ref b20, .ref b21, .ref b22, .ref b23, .ref b24, .ref b25, .ref b26, .ref b27, .ref b28, .ref b29, .ref b30, .ref b31, .int b32, .ref b33, .ref b34, .int b35, .int b36, .int b37, .int b38, .ref b39, .ref b40, .ref b41, .ref b42, .ref b43, .ref b44, .ref b45, .int b46, .ref b47, .ref b48, .int b49, .ref b50, .ref b51, .ref b52, .ref b53, .ref b54, .int b55, .ref b56, .ref b57, .ref b58])), (b6, .inl (G.2 0, 503, .inl b59))]) Z (s3_Model_isLetter l G (b3)) hl.1 q1549 q1550 q14 q1551 ⟨by decide, by decide, by show _ = some 1; decide +kernel⟩ ⟨Nat.le_of_ble_eq_true rfl, Nat.le_of_ble_eq_true rfl⟩ ⟨Nat.le_of_ble_eq_true rfl, Nat.le_of_ble_eq_true rfl⟩ rfl (Nat.le_of_ble_eq_true rfl) d_Model_rule_25 hP hD hS hA [] [0, 1] rfl rfl rfl rfl (by decide) (fun v w1 H locs hw_20 hP hD hS => ?_)
      obtain ⟨x_21, rfl, rfl, hx_21, hfx_22⟩ := hw_20
      have hP : va_P G.1 classes [(b0, .inr (12, [.int 0, .ref b6, .ref b7, .ref b8, .ref b9, .int b10, .ref b11, .int b12, .int b13, .int b14, .int b15, .ref b16, .ref b17, .ref b18, .int b19, .ref b20, .ref b21, .ref b22, .ref b23, .ref b24, .ref b25, .ref b26, .ref b27, .ref b28, .ref b29, .ref b30, .ref b31, .int b32, .ref b33, .ref b34, .int b35, .int b36, .int b37, .int b38, .ref b39, .ref b40, .ref b41, .ref b42, .ref b43, .ref b44, .ref b45, .int b46, .ref b47, .ref b48, .int b49, .ref b50, .ref b51, .ref b52, .ref b53, .ref b54, .int b55, .ref b56, .ref b57, .ref b58])), (b6, .inl (G.2 0, 503, .inl b59))] H := hP
      have hD := z_tie hP hD rfl
      refine W.widen (k := 0) (n := 0) (Nat.le_of_ble_eq_true rfl) (Nat.le_of_ble_eq_true rfl) ?_
      refine lv_if_eq (tgt := 47) hx hb d_Model_rule_28 (by decide) (fun hc_23 => ?_) (fun hc_23 => ?_)
      · have _nhc_23 := hc_23
        have ni_24 := (fa_eq _ _).mp hc_23
        rw [li_0] at ni_24
        have hv_25 : zI x_21 0 0 := zI.eq_l hx_21 zc_0 hc_23
        refine lv_iconst (v := (-1)) hx hb d_Model_rule_47 (by decide) ?_
        exact z_iret hx hb hr hlocks hP hD hS (Nat.le_of_ble_eq_true rfl) (Nat.le_of_ble_eq_true rfl) d_Model_rule_48 ⟨(-1), rfl, rfl, (Or.inl ⟨by have _l0 := li_0; have _l1 := li_1; have _l2 := li_5; have _l3 := li_9; omega, li_m1⟩)⟩
      · have _nhc_23 := hc_23
        have ni_26 : ¬ (x_21 : Int32).toInt = (0 : Int32).toInt := fun z => hc_23 ((fa_eq _ _).mpr z)
        simp only [li_0] at ni_26
        have hv_27 : zI x_21 1 1 := zI.ne_lo hx_21 zc_0 hc_23 (by decide)
        refine lv_iload_n hx hb d_Model_rule_31 rfl (lv_at hl 2 rfl) ?_
        refine lv_iload_n hx hb d_Model_rule_32 rfl (lv_at hl 3 rfl) ?_
        refine lv_icmp_eq (tgt := 47) hx hb d_Model_rule_33 (by decide) (fun hc_28 => ?_) (fun hc_28 => ?_)
        · have _nhc_28 := hc_28
          have ni_29 := (fa_eq _ _).mp hc_28
          refine lv_iconst (v := (-1)) hx hb d_Model_rule_47 (by decide) ?_
          exact z_iret hx hb hr hlocks hP hD hS (Nat.le_of_ble_eq_true rfl) (Nat.le_of_ble_eq_true rfl) d_Model_rule_48 ⟨(-1), rfl, rfl, (Or.inl ⟨by have _l0 := li_0; have _l1 := li_1; have _l2 := li_5; have _l3 := li_9; omega, li_m1⟩)⟩
        · have _nhc_28 := hc_28
          have ni_30 : ¬ (b2 : Int32).toInt = (b3 : Int32).toInt := fun z => hc_28 ((fa_eq _ _).mpr z)
          refine lv_iload hx hb d_Model_rule_36 (lv_at hl 4 rfl) ?_
          refine lv_i2l (v := b4.toInt64) hx hb d_Model_rule_38 rfl ?_
          refine lv_lconst (v := 0) hx hb d_Model_rule_39 (by decide) ?_
          refine lv_lconst (v := 1) hx hb d_Model_rule_40 (by decide) ?_
          refine z_callS (index := 138) (As := [.long b4.toInt64, .long 0, .long 1]) (rest := []) (wr := [(b0, .inr (12, [.int 0, .ref b6, .ref b7, .ref b8, .ref b9, .int b10, .ref b11, .int b12, .int b13, .int b14, .int b15, .ref b16, .ref b17, .ref b18, .int b19, .ref b20, .ref b21, .ref b22, .ref b23, .ref b24, .ref b25, .ref b26, .ref b27, .ref b28, .ref b29, .ref b30, .ref b31, .int b32, .ref b33, .ref b34, .int b35, .int b36, .int b37, .int b38, .ref b39, .ref b40, .ref b41, .ref b42, .ref b43, .ref b44, .ref b45, .int b46, .ref b47, .ref b48, .int b49, .ref b50, .ref b51, .ref b52, .ref b53, .ref b54, .int b55, .ref b56, .ref b57, .ref b58])), (b6, .inl (G.2 0, 503, .inl b59))]) Z (s2_Model_in l G (b4.toInt64) (0) (1)) hl.1 q1281 q1282 q14 q1283 ⟨by decide, by decide, by show _ = some 3; decide +kernel⟩ ⟨Nat.le_of_ble_eq_true rfl, Nat.le_of_ble_eq_true rfl⟩ ⟨Nat.le_of_ble_eq_true rfl, Nat.le_of_ble_eq_true rfl⟩ rfl (Nat.le_of_ble_eq_true rfl) d_Model_rule_41 hP hD hS hA [] [0, 1] rfl rfl rfl rfl (by decide) (fun v w1 H locs hw_31 hP hD hS => ?_)
          rcases hw_31 with ⟨rfl, rfl, hq_32⟩ | ⟨rfl, rfl, hq_33, hq_34⟩ | ⟨rfl, rfl, hq_35, hq_36⟩
          · have hP : va_P G.1 classes [(b0, .inr (12, [.int 0, .ref b6, .ref b7, .ref b8, .ref b9, .int b10, .ref b11, .int b12, .int b13, .int b14, .int b15, .ref b16, .ref b17, .ref b18, .int b19, .ref b20, .ref b21, .ref b22, .ref b23, .ref b24, .ref b25, .ref b26, .ref b27, .ref b28, .ref b29, .ref b30, .ref b31, .int b32, .ref b33, .ref b34, .int b35, .int b36, .int b37, .int b38, .ref b39, .ref b40, .ref b41, .ref b42, .ref b43, .ref b44, .ref b45, .int b46, .ref b47, .ref b48, .int b49, .ref b50, .ref b51, .ref b52, .ref b53, .ref b54, .int b55, .ref b56, .ref b57, .ref b58])), (b6, .inl (G.2 0, 503, .inl b59))] H := hP
            have hD := z_tie hP hD rfl
            try simp only [Int32.toInt_toInt64, ll_0] at hq_32
            have hv_37 : zI b4 (-2147483648) (-1) := by have _a := hq_32; have _b := (zI_all b4); have _c := zcl_0; simp only [Int32.toInt_toInt64] at *; exact ⟨by omega, by omega⟩
            refine W.widen (k := 0) (n := 0) (Nat.le_of_ble_eq_true rfl) (Nat.le_of_ble_eq_true rfl) ?_
            refine lv_if_ne (tgt := 49) hx hb d_Model_rule_44 (by decide) (fun hc => absurd hc (by decide +kernel)) (fun _ => ?_)
            refine lv_iconst (v := (-1)) hx hb d_Model_rule_47 (by decide) ?_
            exact z_iret hx hb hr hlocks hP hD hS (Nat.le_of_ble_eq_true rfl) (Nat.le_of_ble_eq_true rfl) d_Model_rule_48 ⟨(-1), rfl, rfl, (Or.inl ⟨by have _l0 := li_0; have _l1 := li_1; have _l2 := li_5; have _l3 := li_9; omega, li_m1⟩)⟩
          · have hP : va_P G.1 classes [(b0, .inr (12, [.int 0, .ref b6, .ref b7, .ref b8, .ref b9, .int b10, .ref b11, .int b12, .int b13, .int b14, .int b15, .ref b16, .ref b17, .ref b18, .int b19, .ref b20, .ref b21, .ref b22, .ref b23, .ref b24, .ref b25, .ref b26, .ref b27, .ref b28, .ref b29, .ref b30, .ref b31, .int b32, .ref b33, .ref b34, .int b35, .int b36, .int b37, .int b38, .ref b39, .ref b40, .ref b41, .ref b42, .ref b43, .ref b44, .ref b45, .int b46, .ref b47, .ref b48, .int b49, .ref b50, .ref b51, .ref b52, .ref b53, .ref b54, .int b55, .ref b56, .ref b57, .ref b58])), (b6, .inl (G.2 0, 503, .inl b59))] H := hP
            have hD := z_tie hP hD rfl
            try simp only [Int32.toInt_toInt64, ll_0] at hq_33
            have hv_38 : zI b4 0 2147483647 := by have _a := hq_33; have _b := (zI_all b4); have _c := zcl_0; simp only [Int32.toInt_toInt64] at *; exact ⟨by omega, by omega⟩
            try simp only [Int32.toInt_toInt64, ll_1] at hq_34
            have hv_39 : zI b4 2 2147483647 := by have _a := hq_34; have _b := hv_38; have _c := zcl_1; simp only [Int32.toInt_toInt64] at *; exact ⟨by omega, by omega⟩
            refine W.widen (k := 0) (n := 0) (Nat.le_of_ble_eq_true rfl) (Nat.le_of_ble_eq_true rfl) ?_
            refine lv_if_ne (tgt := 49) hx hb d_Model_rule_44 (by decide) (fun hc => absurd hc (by decide +kernel)) (fun _ => ?_)
            refine lv_iconst (v := (-1)) hx hb d_Model_rule_47 (by decide) ?_
            exact z_iret hx hb hr hlocks hP hD hS (Nat.le_of_ble_eq_true rfl) (Nat.le_of_ble_eq_true rfl) d_Model_rule_48 ⟨(-1), rfl, rfl, (Or.inl ⟨by have _l0 := li_0; have _l1 := li_1; have _l2 := li_5; have _l3 := li_9; omega, li_m1⟩)⟩
          · have hP : va_P G.1 classes [(b0, .inr (12, [.int 0, .ref b6, .ref b7, .ref b8, .ref b9, .int b10, .ref b11, .int b12, .int b13, .int b14, .int b15, .ref b16, .ref b17, .ref b18, .int b19, .ref b20, .ref b21, .ref b22, .ref b23, .ref b24, .ref b25, .ref b26, .ref b27, .ref b28, .ref b29, .ref b30, .ref b31, .int b32, .ref b33, .ref b34, .int b35, .int b36, .int b37, .int b38, .ref b39, .ref b40, .ref b41, .ref b42, .ref b43, .ref b44, .ref b45, .int b46, .ref b47, .ref b48, .int b49, .ref b50, .ref b51, .ref b52, .ref b53, .ref b54, .int b55, .ref b56, .ref b57, .ref b58])), (b6, .inl (G.2 0, 503, .inl b59))] H := hP
            have hD := z_tie hP hD rfl
            try simp only [Int32.toInt_toInt64, ll_0] at hq_35
            have hv_40 : zI b4 0 2147483647 := by have _a := hq_35; have _b := (zI_all b4); have _c := zcl_0; simp only [Int32.toInt_toInt64] at *; exact ⟨by omega, by omega⟩
            try simp only [Int32.toInt_toInt64, ll_1] at hq_36
            have hv_41 : zI b4 0 1 := by have _a := hq_36; have _b := hv_40; have _c := zcl_1; simp only [Int32.toInt_toInt64] at *; exact ⟨by omega, by omega⟩
            refine W.widen (k := 0) (n := 0) (Nat.le_of_ble_eq_true rfl) (Nat.le_of_ble_eq_true rfl) ?_
            refine lv_if_ne (tgt := 49) hx hb d_Model_rule_44 (by decide) (fun _ => ?_) (fun hc => absurd hc (by decide +kernel))
            refine lv_aload_n hx hb d_Model_rule_49 rfl (lv_at hl 0 rfl) ?_
            refine lv_iload_n hx hb d_Model_rule_50 rfl (lv_at hl 1 rfl) ?_
            refine lv_iload_n hx hb d_Model_rule_51 rfl (lv_at hl 2 rfl) ?_
            refine lv_iload_n hx hb d_Model_rule_52 rfl (lv_at hl 3 rfl) ?_
            refine lv_iload hx hb d_Model_rule_53 (lv_at hl 4 rfl) ?_
            refine lv_iconst (v := 1) hx hb d_Model_rule_55 (by decide) ?_
            refine lv_icmp_ne (tgt := 63) hx hb d_Model_rule_56 (by decide) (fun hc_42 => ?_) (fun hc_42 => ?_)
            · have _nhc_42 := hc_42
              have ni_43 : ¬ (b4 : Int32).toInt = (1 : Int32).toInt := fun z => hc_42 ((fa_eq _ _).mpr z)
              simp only [li_1] at ni_43
              have hv_44 : zI b4 0 0 := zI.ne_hi hv_41 zc_1 hc_42 (by decide)
              refine lv_iconst (v := 0) hx hb d_Model_rule_63 (by decide) ?_
              refine z_callV (index := 394) (As := [.int b1, .int b2, .int b3, .int 0]) (rest := []) (wr := []) Z (s2_Model_asked l G (b0) (b1) (b2) (b3) (0) (0) (b6) (b7) (b8) (b9) (b10) (b11) (b12) (b13) (b14) (b15) (b16) (b17) (b18) (b19) (b20) (b21) (b22) (b23) (b24) (b25) (b26) (b27) (b28) (b29) (b30) (b31) (b32) (b33) (b34) (b35) (b36) (b37) (b38) (b39) (b40) (b41) (b42) (b43) (b44) (b45) (b46) (b47) (b48) (b49) (b50) (b51) (b52) (b53) (b54) (b55) (b56) (b57) (b58) (b59) (zI.wk (l' := 0) (h' := 1) zc_0 (by decide)) hb10 hb12 hb13 hb15 hb19 hb32 hb35 hb46 hb49 hb55 hb59) hl.1 q1553 q1555 qs87 q14 q1556 ⟨by decide, by decide, by show _ = some 4; decide +kernel⟩ ⟨Nat.le_of_ble_eq_true rfl, Nat.le_of_ble_eq_true rfl⟩ ⟨Nat.le_of_ble_eq_true rfl, Nat.le_of_ble_eq_true rfl⟩ rfl (Nat.le_of_ble_eq_true rfl) d_Model_rule_64 hP hD hS hA 0 12 rfl rfl rfl [0, 1] [] rfl rfl rfl rfl (by decide) (fun v w1 H locs hw_45 hP hD hS => ?_)
              obtain ⟨x_46, rfl, rfl, hfx_47⟩ := hw_45
              have hP : va_P G.1 classes [(b0, .inr (12, [.int 0, .ref b6, .ref b7, .ref b8, .ref b9, .int b10, .ref b11, .int b12, .int b13, .int b14, .int b15, .ref b16, .ref b17, .ref b18, .int b19, .ref b20, .ref b21, .ref b22, .ref b23, .ref b24, .ref b25, .ref b26, .ref b27, .ref b28, .ref b29, .ref b30, .ref b31, .int b32, .ref b33, .ref b34, .int b35, .int b36, .int b37, .int b38, .ref b39, .ref b40, .ref b41, .ref b42, .ref b43, .ref b44, .ref b45, .int b46, .ref b47, .ref b48, .int b49, .ref b50, .ref b51, .ref b52, .ref b53, .ref b54, .int b55, .ref b56, .ref b57, .ref b58])), (b6, .inl (G.2 0, 503, .inl b59))] H := hP
              have hD := z_tie hP hD rfl
              refine W.widen (k := 0) (n := 0) (Nat.le_of_ble_eq_true rfl) (Nat.le_of_ble_eq_true rfl) ?_
              exact z_iret hx hb hr hlocks hP hD hS (Nat.le_of_ble_eq_true rfl) (Nat.le_of_ble_eq_true rfl) d_Model_rule_67 ⟨x_46, rfl, rfl, (Or.inr ⟨⟨⟨⟨by omega, by omega⟩, ⟨by omega, by omega⟩, ⟨by omega, by omega⟩⟩, by omega, by omega, by omega⟩, by have j9 := hfx_47 (fun q => by have q8 := congrArg Int32.toInt q; omega) ⟨by omega, by omega⟩; rw [li_0] at j9; rw [show b4.toInt = 0 by omega]; exact j9⟩)⟩
            · have _nhc_42 := hc_42
              have ni_48 := (fa_eq _ _).mp hc_42
              rw [li_1] at ni_48
              have hv_49 : zI b4 1 1 := zI.eq_l hv_41 zc_1 hc_42
              refine lv_iconst (v := 1) hx hb d_Model_rule_59 (by decide) ?_
              refine lv_goto (tgt := 64) hx hb d_Model_rule_60 (by decide) ?_
              refine z_callV (index := 394) (As := [.int b1, .int b2, .int b3, .int 1]) (rest := []) (wr := []) Z (s2_Model_asked l G (b0) (b1) (b2) (b3) (1) (0) (b6) (b7) (b8) (b9) (b10) (b11) (b12) (b13) (b14) (b15) (b16) (b17) (b18) (b19) (b20) (b21) (b22) (b23) (b24) (b25) (b26) (b27) (b28) (b29) (b30) (b31) (b32) (b33) (b34) (b35) (b36) (b37) (b38) (b39) (b40) (b41) (b42) (b43) (b44) (b45) (b46) (b47) (b48) (b49) (b50) (b51) (b52) (b53) (b54) (b55) (b56) (b57) (b58) (b59) (zI.wk (l' := 0) (h' := 1) zc_1 (by decide)) hb10 hb12 hb13 hb15 hb19 hb32 hb35 hb46 hb49 hb55 hb59) hl.1 q1553 q1555 qs87 q14 q1556 ⟨by decide, by decide, by show _ = some 4; decide +kernel⟩ ⟨Nat.le_of_ble_eq_true rfl, Nat.le_of_ble_eq_true rfl⟩ ⟨Nat.le_of_ble_eq_true rfl, Nat.le_of_ble_eq_true rfl⟩ rfl (Nat.le_of_ble_eq_true rfl) d_Model_rule_64 hP hD hS hA 0 12 rfl rfl rfl [0, 1] [] rfl rfl rfl rfl (by decide) (fun v w1 H locs hw_50 hP hD hS => ?_)
              obtain ⟨x_51, rfl, rfl, hfx_52⟩ := hw_50
              have hP : va_P G.1 classes [(b0, .inr (12, [.int 0, .ref b6, .ref b7, .ref b8, .ref b9, .int b10, .ref b11, .int b12, .int b13, .int b14, .int b15, .ref b16, .ref b17, .ref b18, .int b19, .ref b20, .ref b21, .ref b22, .ref b23, .ref b24, .ref b25, .ref b26, .ref b27, .ref b28, .ref b29, .ref b30, .ref b31, .int b32, .ref b33, .ref b34, .int b35, .int b36, .int b37, .int b38, .ref b39, .ref b40, .ref b41, .ref b42, .ref b43, .ref b44, .ref b45, .int b46, .ref b47, .ref b48, .int b49, .ref b50, .ref b51, .ref b52, .ref b53, .ref b54, .int b55, .ref b56, .ref b57, .ref b58])), (b6, .inl (G.2 0, 503, .inl b59))] H := hP
              have hD := z_tie hP hD rfl
              refine W.widen (k := 0) (n := 0) (Nat.le_of_ble_eq_true rfl) (Nat.le_of_ble_eq_true rfl) ?_
              exact z_iret hx hb hr hlocks hP hD hS (Nat.le_of_ble_eq_true rfl) (Nat.le_of_ble_eq_true rfl) d_Model_rule_67 ⟨x_51, rfl, rfl, (Or.inr ⟨⟨⟨⟨by omega, by omega⟩, ⟨by omega, by omega⟩, ⟨by omega, by omega⟩⟩, by omega, by omega, by omega⟩, by have j9 := hfx_52 (fun q => by have q8 := congrArg Int32.toInt q; omega) ⟨by omega, by omega⟩; rw [li_1] at j9; rw [show b4.toInt = 1 by omega]; exact j9⟩)⟩
abbrev m_s2_Model_rules : Room := { frames := 4, cells := 0, slots := 0, locals := 99 }
set_option maxHeartbeats 4000000 in
set_option maxRecDepth 100000 in
theorem s2_Model_rules (l : Launch) (G : zG) (b0 : Nat) (b1 : Int32) (b2 : Int32) (b3 : Int32) (b4 : Int32) (b5 : Nat) (b6 : Nat) (b7 : Nat) (b8 : Nat) (b9 : Int32) (b10 : Nat) (b11 : Int32) (b12 : Int32) (b13 : Int32) (b14 : Int32) (b15 : Nat) (b16 : Nat) (b17 : Nat) (b18 : Int32) (b19 : Nat) (b20 : Nat) (b21 : Nat) (b22 : Nat) (b23 : Nat) (b24 : Nat) (b25 : Nat) (b26 : Nat) (b27 : Nat) (b28 : Nat) (b29 : Nat) (b30 : Nat) (b31 : Int32) (b32 : Nat) (b33 : Nat) (b34 : Int32) (b35 : Int32) (b36 : Int32) (b37 : Int32) (b38 : Nat) (b39 : Nat) (b40 : Nat) (b41 : Nat) (b42 : Nat) (b43 : Nat) (b44 : Nat) (b45 : Int32) (b46 : Nat) (b47 : Nat) (b48 : Int32) (b49 : Nat) (b50 : Nat) (b51 : Nat) (b52 : Nat) (b53 : Nat) (b54 : Int32) (b55 : Nat) (b56 : Nat) (b57 : Nat) (b58 : Nat → Int32) (hb9 : zI b9 0 8) (hb11 : zI b11 0 240) (hb12 : zI b12 0 240) (hb14 : zI b14 0 1) (hb18 : zI b18 0 12) (hb31 : zI b31 0 1) (hb34 : zI b34 0 1) (hb45 : zI b45 0 1000) (hb48 : zI b48 0 1000) (hb54 : zI b54 0 400) (hb58 : zW5 b58) : zM l G y_Model_rules prog_14_method_81_code 9 (Option.some Jvm.ClassFile.FieldType.int) m_s2_Model_rules [.ref b0, .int b1, .int b2, .int b3] [(b0, .inr (12, [.int b4, .ref b5, .ref b6, .ref b7, .ref b8, .int b9, .ref b10, .int b11, .int b12, .int b13, .int b14, .ref b15, .ref b16, .ref b17, .int b18, .ref b19, .ref b20, .ref b21, .ref b22, .ref b23, .ref b24, .ref b25, .ref b26, .ref b27, .ref b28, .ref b29, .ref b30, .int b31, .ref b32, .ref b33, .int b34, .int b35, .int b36, .int b37, .ref b38, .ref b39, .ref b40, .ref b41, .ref b42, .ref b43, .ref b44, .int b45, .ref b46, .ref b47, .int b48, .ref b49, .ref b50, .ref b51, .ref b52, .ref b53, .int b54, .ref b55, .ref b56, .ref b57])), (b5, .inl (G.2 0, 503, .inl b58))] (fun v w => ∃ (e0 : Int32), v = some (.int e0) ∧ w = [(b0, .inr (12, [.int 0, .ref b5, .ref b6, .ref b7, .ref b8, .int b9, .ref b10, .int b11, .int b12, .int b13, .int b14, .ref b15, .ref b16, .ref b17, .int b18, .ref b19, .ref b20, .ref b21, .ref b22, .ref b23, .ref b24, .ref b25, .ref b26, .ref b27, .ref b28, .ref b29, .ref b30, .int b31, .ref b32, .ref b33, .int b34, .int b35, .int b36, .int b37, .ref b38, .ref b39, .ref b40, .ref b41, .ref b42, .ref b43, .ref b44, .int b45, .ref b46, .ref b47, .int b48, .ref b49, .ref b50, .ref b51, .ref b52, .ref b53, .int b54, .ref b55, .ref b56, .ref b57])), (b5, .inl (G.2 0, 503, .inl b58))] ∧ (¬ ((0 ≤ (b1).toInt ∧ (b1).toInt ≤ 5) ∧ (1 ≤ (b2).toInt ∧ (b2).toInt ≤ 20) ∧ -1 ≤ (b3).toInt) ∧ (e0 : Int32).toInt = -1 ∨ ((0 ≤ (b1).toInt ∧ (b1).toInt ≤ 5) ∧ (1 ≤ (b2).toInt ∧ (b2).toInt ≤ 20) ∧ -1 ≤ (b3).toInt) ∧ zrr b1.toInt b2.toInt b58 21 b58 1 (b58 0).toInt.toNat b3.toInt (e0 : Int32).toInt)) := by
  refine z_start (by decide +kernel) (Nat.le_of_ble_eq_true rfl) ?_
  intro p e s m below meth c A Z hr hnm hA hP hD hS ls hl
  have Z : zC p s m _ meth c prog_14_method_81_code 9 "TraceMachinesModel" G := Z
  obtain ⟨hx, hb, hml, hown, hts, hK, hN, hlocks⟩ := id Z
  have hl : lv_has ls 9 [(0, .ref b0), (1, .int b1), (2, .int b2), (3, .int b3)] := hl
  refine lv_aload_n hx hb d_Model_rules_0 rfl (lv_at hl 0 rfl) ?_
  refine lv_iconst (v := 0) hx hb d_Model_rules_1 (by decide) ?_
  refine va_put (D := G.1) (ci := 12) (v := .int 0) (ty := .int) (C := R_Model) (T := F_Model) (N := 54) hx hb hts i_Model t_Model t_Model_ok n_Model hown hK hP hD hS 0 rfl rfl 0 (by decide) (hts _ q1109) (fun _ h9 => h9) rfl (by decide +kernel) rfl rfl (Nat.le_of_ble_eq_true rfl) d_Model_rules_2 (fun H locs hP hD hS => ?_)
  have hP : va_P G.1 classes [(b0, .inr (12, [.int 0, .ref b5, .ref b6, .ref b7, .ref b8, .int b9, .ref b10, .int b11, .int b12, .int b13, .int b14, .ref b15, .ref b16, .ref b17, .int b18, .ref b19, .ref b20, .ref b21, .ref b22, .ref b23, .ref b24, .ref b25, .ref b26, .ref b27, .ref b28, .ref b29, .ref b30, .int b31, .ref b32, .ref b33, .int b34, .int b35, .int b36, .int b37, .ref b38, .ref b39, .ref b40, .ref b41, .ref b42, .ref b43, .ref b44, .int b45, .ref b46, .ref b47, .int b48, .ref b49, .ref b50, .ref b51, .ref b52, .ref b53, .int b54, .ref b55, .ref b56, .ref b57])), (b5, .inl (G.2 0, 503, .inl b58))] H := hP
  have hD := z_tie hP hD rfl
  refine lv_iload_n hx hb d_Model_rules_5 rfl (lv_at hl 1 rfl) ?_
  refine lv_i2l (v := b1.toInt64) hx hb d_Model_rules_6 rfl ?_
  refine lv_lconst (v := 0) hx hb d_Model_rules_7 (by decide) ?_
  refine lv_ldc2 hx hb hown (hts _ q1432) d_Model_rules_8 ?_
  refine z_callS (index := 138) (As := [.long b1.toInt64, .long 0, .long 5]) (rest := []) (wr := [(b0, .inr (12, [.int 0, .ref b5, .ref b6, .ref b7, .ref b8, .int b9, .ref b10, .int b11, .int b12, .int b13, .int b14, .ref b15, .ref b16, .ref b17, .int b18, .ref b19, .ref b20, .ref b21, .ref b22, .ref b23, .ref b24, .ref b25, .ref b26, .ref b27, .ref b28, .ref b29, .ref b30, .int b31, .ref b32, .ref b33, .int b34, .int b35, .int b36, .int b37, .ref b38, .ref b39, .ref b40, .ref b41, .ref b42, .ref b43, .ref b44, .int b45, .ref b46, .ref b47, .int b48, .ref b49, .ref b50, .ref b51, .ref b52, .ref b53, .int b54, .ref b55, .ref b56, .ref b57])), (b5, .inl (G.2 0, 503, .inl b58))]) Z (s2_Model_in l G (b1.toInt64) (0) (5)) hl.1 q1281 q1282 q14 q1283 ⟨by decide, by decide, by show _ = some 3; decide +kernel⟩ ⟨Nat.le_of_ble_eq_true rfl, Nat.le_of_ble_eq_true rfl⟩ ⟨Nat.le_of_ble_eq_true rfl, Nat.le_of_ble_eq_true rfl⟩ rfl (Nat.le_of_ble_eq_true rfl) d_Model_rules_11 hP hD hS hA [] [0, 1] rfl rfl rfl rfl (by decide) (fun v w1 H locs hw_1 hP hD hS => ?_)
  rcases hw_1 with ⟨rfl, rfl, hq_2⟩ | ⟨rfl, rfl, hq_3, hq_4⟩ | ⟨rfl, rfl, hq_5, hq_6⟩
  · have hP : va_P G.1 classes [(b0, .inr (12, [.int 0, .ref b5, .ref b6, .ref b7, .ref b8, .int b9, .ref b10, .int b11, .int b12, .int b13, .int b14, .ref b15, .ref b16, .ref b17, .int b18, .ref b19, .ref b20, .ref b21, .ref b22, .ref b23, .ref b24, .ref b25, .ref b26, .ref b27, .ref b28, .ref b29, .ref b30, .int b31, .ref b32, .ref b33, .int b34, .int b35, .int b36, .int b37, .ref b38, .ref b39, .ref b40, .ref b41, .ref b42, .ref b43, .ref b44, .int b45, .ref b46, .ref b47, .int b48, .ref b49, .ref b50, .ref b51, .ref b52, .ref b53, .int b54, .ref b55, .ref b56, .ref b57])), (b5, .inl (G.2 0, 503, .inl b58))] H := hP
    have hD := z_tie hP hD rfl
    try simp only [Int32.toInt_toInt64, ll_0] at hq_2
    have hv_7 : zI b1 (-2147483648) (-1) := by have _a := hq_2; have _b := (zI_all b1); have _c := zcl_0; simp only [Int32.toInt_toInt64] at *; exact ⟨by omega, by omega⟩
    refine W.widen (k := 0) (n := 0) (Nat.le_of_ble_eq_true rfl) (Nat.le_of_ble_eq_true rfl) ?_
    refine lv_if_eq (tgt := 34) hx hb d_Model_rules_14 (by decide) (fun _ => ?_) (fun hc => absurd hc (by decide +kernel))
    refine lv_iconst (v := (-1)) hx hb d_Model_rules_34 (by decide) ?_
    exact z_iret hx hb hr hlocks hP hD hS (Nat.le_of_ble_eq_true rfl) (Nat.le_of_ble_eq_true rfl) d_Model_rules_35 ⟨(-1), rfl, rfl, (Or.inl ⟨by have _l0 := li_0; have _l1 := li_1; have _l2 := li_5; have _l3 := li_20; have _l4 := li_m1; omega, li_m1⟩)⟩
  · have hP : va_P G.1 classes [(b0, .inr (12, [.int 0, .ref b5, .ref b6, .ref b7, .ref b8, .int b9, .ref b10, .int b11, .int b12, .int b13, .int b14, .ref b15, .ref b16, .ref b17, .int b18, .ref b19, .ref b20, .ref b21, .ref b22, .ref b23, .ref b24, .ref b25, .ref b26, .ref b27, .ref b28, .ref b29, .ref b30, .int b31, .ref b32, .ref b33, .int b34, .int b35, .int b36, .int b37, .ref b38, .ref b39, .ref b40, .ref b41, .ref b42, .ref b43, .ref b44, .int b45, .ref b46, .ref b47, .int b48, .ref b49, .ref b50, .ref b51, .ref b52, .ref b53, .int b54, .ref b55, .ref b56, .ref b57])), (b5, .inl (G.2 0, 503, .inl b58))] H := hP
    have hD := z_tie hP hD rfl
    try simp only [Int32.toInt_toInt64, ll_0] at hq_3
    have hv_8 : zI b1 0 2147483647 := by have _a := hq_3; have _b := (zI_all b1); have _c := zcl_0; simp only [Int32.toInt_toInt64] at *; exact ⟨by omega, by omega⟩
    try simp only [Int32.toInt_toInt64, ll_5] at hq_4
    have hv_9 : zI b1 6 2147483647 := by have _a := hq_4; have _b := hv_8; have _c := zcl_5; simp only [Int32.toInt_toInt64] at *; exact ⟨by omega, by omega⟩
    refine W.widen (k := 0) (n := 0) (Nat.le_of_ble_eq_true rfl) (Nat.le_of_ble_eq_true rfl) ?_
    refine lv_if_eq (tgt := 34) hx hb d_Model_rules_14 (by decide) (fun _ => ?_) (fun hc => absurd hc (by decide +kernel))
    refine lv_iconst (v := (-1)) hx hb d_Model_rules_34 (by decide) ?_
    exact z_iret hx hb hr hlocks hP hD hS (Nat.le_of_ble_eq_true rfl) (Nat.le_of_ble_eq_true rfl) d_Model_rules_35 ⟨(-1), rfl, rfl, (Or.inl ⟨by have _l0 := li_0; have _l1 := li_1; have _l2 := li_5; have _l3 := li_20; have _l4 := li_m1; omega, li_m1⟩)⟩
  · have hP : va_P G.1 classes [(b0, .inr (12, [.int 0, .ref b5, .ref b6, .ref b7, .ref b8, .int b9, .ref b10, .int b11, .int b12, .int b13, .int b14, .ref b15, .ref b16, .ref b17, .int b18, .ref b19, .ref b20, .ref b21, .ref b22, .ref b23, .ref b24, .ref b25, .ref b26, .ref b27, .ref b28, .ref b29, .ref b30, .int b31, .ref b32, .ref b33, .int b34, .int b35, .int b36, .int b37, .ref b38, .ref b39, .ref b40, .ref b41, .ref b42, .ref b43, .ref b44, .int b45, .ref b46, .ref b47, .int b48, .ref b49, .ref b50, .ref b51, .ref b52, .ref b53, .int b54, .ref b55, .ref b56, .ref b57])), (b5, .inl (G.2 0, 503, .inl b58))] H := hP
    have hD := z_tie hP hD rfl
    try simp only [Int32.toInt_toInt64, ll_0] at hq_5
    have hv_10 : zI b1 0 2147483647 := by have _a := hq_5; have _b := (zI_all b1); have _c := zcl_0; simp only [Int32.toInt_toInt64] at *; exact ⟨by omega, by omega⟩
    try simp only [Int32.toInt_toInt64, ll_5] at hq_6
    have hv_11 : zI b1 0 5 := by have _a := hq_6; have _b := hv_10; have _c := zcl_5; simp only [Int32.toInt_toInt64] at *; exact ⟨by omega, by omega⟩
    refine W.widen (k := 0) (n := 0) (Nat.le_of_ble_eq_true rfl) (Nat.le_of_ble_eq_true rfl) ?_
    refine lv_if_eq (tgt := 34) hx hb d_Model_rules_14 (by decide) (fun hc => absurd hc (by decide +kernel)) (fun _ => ?_)
    refine lv_iload_n hx hb d_Model_rules_17 rfl (lv_at hl 2 rfl) ?_
    refine lv_i2l (v := b2.toInt64) hx hb d_Model_rules_18 rfl ?_
    refine lv_lconst (v := 1) hx hb d_Model_rules_19 (by decide) ?_
    refine lv_ldc2 hx hb hown (hts _ q1593) d_Model_rules_20 ?_
    refine z_callS (index := 138) (As := [.long b2.toInt64, .long 1, .long 20]) (rest := []) (wr := [(b0, .inr (12, [.int 0, .ref b5, .ref b6, .ref b7, .ref b8, .int b9, .ref b10, .int b11, .int b12, .int b13, .int b14, .ref b15, .ref b16, .ref b17, .int b18, .ref b19, .ref b20, .ref b21, .ref b22, .ref b23, .ref b24, .ref b25, .ref b26, .ref b27, .ref b28, .ref b29, .ref b30, .int b31, .ref b32, .ref b33, .int b34, .int b35, .int b36, .int b37, .ref b38, .ref b39, .ref b40, .ref b41, .ref b42, .ref b43, .ref b44, .int b45, .ref b46, .ref b47, .int b48, .ref b49, .ref b50, .ref b51, .ref b52, .ref b53, .int b54, .ref b55, .ref b56, .ref b57])), (b5, .inl (G.2 0, 503, .inl b58))]) Z (s2_Model_in l G (b2.toInt64) (1) (20)) hl.1 q1281 q1282 q14 q1283 ⟨by decide, by decide, by show _ = some 3; decide +kernel⟩ ⟨Nat.le_of_ble_eq_true rfl, Nat.le_of_ble_eq_true rfl⟩ ⟨Nat.le_of_ble_eq_true rfl, Nat.le_of_ble_eq_true rfl⟩ rfl (Nat.le_of_ble_eq_true rfl) d_Model_rules_23 hP hD hS hA [] [0, 1] rfl rfl rfl rfl (by decide) (fun v w1 H locs hw_12 hP hD hS => ?_)
    rcases hw_12 with ⟨rfl, rfl, hq_13⟩ | ⟨rfl, rfl, hq_14, hq_15⟩ | ⟨rfl, rfl, hq_16, hq_17⟩
    · have hP : va_P G.1 classes [(b0, .inr (12, [.int 0, .ref b5, .ref b6, .ref b7, .ref b8, .int b9, .ref b10, .int b11, .int b12, .int b13, .int b14, .ref b15, .ref b16, .ref b17, .int b18, .ref b19, .ref b20, .ref b21, .ref b22, .ref b23, .ref b24, .ref b25, .ref b26, .ref b27, .ref b28, .ref b29, .ref b30, .int b31, .ref b32, .ref b33, .int b34, .int b35, .int b36, .int b37, .ref b38, .ref b39, .ref b40, .ref b41, .ref b42, .ref b43, .ref b44, .int b45, .ref b46, .ref b47, .int b48, .ref b49, .ref b50, .ref b51, .ref b52, .ref b53, .int b54, .ref b55, .ref b56, .ref b57])), (b5, .inl (G.2 0, 503, .inl b58))] H := hP
      have hD := z_tie hP hD rfl
      try simp only [Int32.toInt_toInt64, ll_1] at hq_13
      have hv_18 : zI b2 (-2147483648) 0 := by have _a := hq_13; have _b := (zI_all b2); have _c := zcl_1; simp only [Int32.toInt_toInt64] at *; exact ⟨by omega, by omega⟩
      refine W.widen (k := 0) (n := 0) (Nat.le_of_ble_eq_true rfl) (Nat.le_of_ble_eq_true rfl) ?_
      refine lv_if_eq (tgt := 34) hx hb d_Model_rules_26 (by decide) (fun _ => ?_) (fun hc => absurd hc (by decide +kernel))
      refine lv_iconst (v := (-1)) hx hb d_Model_rules_34 (by decide) ?_
      exact z_iret hx hb hr hlocks hP hD hS (Nat.le_of_ble_eq_true rfl) (Nat.le_of_ble_eq_true rfl) d_Model_rules_35 ⟨(-1), rfl, rfl, (Or.inl ⟨by have _l0 := li_0; have _l1 := li_1; have _l2 := li_5; have _l3 := li_20; have _l4 := li_m1; omega, li_m1⟩)⟩
    · have hP : va_P G.1 classes [(b0, .inr (12, [.int 0, .ref b5, .ref b6, .ref b7, .ref b8, .int b9, .ref b10, .int b11, .int b12, .int b13, .int b14, .ref b15, .ref b16, .ref b17, .int b18, .ref b19, .ref b20, .ref b21, .ref b22, .ref b23, .ref b24, .ref b25, .ref b26, .ref b27, .ref b28, .ref b29, .ref b30, .int b31, .ref b32, .ref b33, .int b34, .int b35, .int b36, .int b37, .ref b38, .ref b39, .ref b40, .ref b41, .ref b42, .ref b43, .ref b44, .int b45, .ref b46, .ref b47, .int b48, .ref b49, .ref b50, .ref b51, .ref b52, .ref b53, .int b54, .ref b55, .ref b56, .ref b57])), (b5, .inl (G.2 0, 503, .inl b58))] H := hP
      have hD := z_tie hP hD rfl
      try simp only [Int32.toInt_toInt64, ll_1] at hq_14
      have hv_19 : zI b2 1 2147483647 := by have _a := hq_14; have _b := (zI_all b2); have _c := zcl_1; simp only [Int32.toInt_toInt64] at *; exact ⟨by omega, by omega⟩
      try simp only [Int32.toInt_toInt64, ll_20] at hq_15
      have hv_20 : zI b2 21 2147483647 := by have _a := hq_15; have _b := hv_19; have _c := zcl_20; simp only [Int32.toInt_toInt64] at *; exact ⟨by omega, by omega⟩
      refine W.widen (k := 0) (n := 0) (Nat.le_of_ble_eq_true rfl) (Nat.le_of_ble_eq_true rfl) ?_
      refine lv_if_eq (tgt := 34) hx hb d_Model_rules_26 (by decide) (fun _ => ?_) (fun hc => absurd hc (by decide +kernel))
      refine lv_iconst (v := (-1)) hx hb d_Model_rules_34 (by decide) ?_
      exact z_iret hx hb hr hlocks hP hD hS (Nat.le_of_ble_eq_true rfl) (Nat.le_of_ble_eq_true rfl) d_Model_rules_35 ⟨(-1), rfl, rfl, (Or.inl ⟨by have _l0 := li_0; have _l1 := li_1; have _l2 := li_5; have _l3 := li_20; have _l4 := li_m1; omega, li_m1⟩)⟩
    · have hP : va_P G.1 classes [(b0, .inr (12, [.int 0, .ref b5, .ref b6, .ref b7, .ref b8, .int b9, .ref b10, .int b11, .int b12, .int b13, .int b14, .ref b15, .ref b16, .ref b17, .int b18, .ref b19, .ref b20, .ref b21, .ref b22, .ref b23, .ref b24, .ref b25, .ref b26, .ref b27, .ref b28, .ref b29, .ref b30, .int b31, .ref b32, .ref b33, .int b34, .int b35, .int b36, .int b37, .ref b38, .ref b39, .ref b40, .ref b41, .ref b42, .ref b43, .ref b44, .int b45, .ref b46, .ref b47, .int b48, .ref b49, .ref b50, .ref b51, .ref b52, .ref b53, .int b54, .ref b55, .ref b56, .ref b57])), (b5, .inl (G.2 0, 503, .inl b58))] H := hP
      have hD := z_tie hP hD rfl
      try simp only [Int32.toInt_toInt64, ll_1] at hq_16
      have hv_21 : zI b2 1 2147483647 := by have _a := hq_16; have _b := (zI_all b2); have _c := zcl_1; simp only [Int32.toInt_toInt64] at *; exact ⟨by omega, by omega⟩
      try simp only [Int32.toInt_toInt64, ll_20] at hq_17
      have hv_22 : zI b2 1 20 := by have _a := hq_17; have _b := hv_21; have _c := zcl_20; simp only [Int32.toInt_toInt64] at *; exact ⟨by omega, by omega⟩
      refine W.widen (k := 0) (n := 0) (Nat.le_of_ble_eq_true rfl) (Nat.le_of_ble_eq_true rfl) ?_
      refine lv_if_eq (tgt := 34) hx hb d_Model_rules_26 (by decide) (fun hc => absurd hc (by decide +kernel)) (fun _ => ?_)
      refine lv_iload_n hx hb d_Model_rules_29 rfl (lv_at hl 3 rfl) ?_
      refine lv_iconst (v := (-1)) hx hb d_Model_rules_30 (by decide) ?_
      refine lv_icmp_ge (tgt := 36) hx hb d_Model_rules_31 (by decide) (fun hc_23 => ?_) (fun hc_23 => ?_)
      · have _nhc_23 := hc_23
        have ni_24 := (fa_le _ _).mp hc_23
        rw [li_m1] at ni_24
        have hv_25 : zI b3 (-1) 2147483647 := zI.le_r zc_m1 (zI_all b3) hc_23 (by decide)
        refine lv_iconst (v := 0) hx hb d_Model_rules_36 (by decide) ?_
        refine lv_istore (lv' := [(4, .int 0), (0, .ref b0), (1, .int b1), (2, .int b2), (3, .int b3)]) hx hb d_Model_rules_37 hl (by decide) rfl (fun ls hl => ?_)
        refine lv_iconst (v := 0) hx hb d_Model_rules_39 (by decide) ?_
        refine lv_istore (lv' := [(5, .int 0), (4, .int 0), (0, .ref b0), (1, .int b1), (2, .int b2), (3, .int b3)]) hx hb d_Model_rules_40 hl (by decide) rfl (fun ls hl => ?_)
        suffices key : ∀ (k_67 : Nat) (y_68 : Int32) (y_69 : Int32) (H : Heap) (locs : List Loc) (ls : Array Slot), (zI y_68 0 100) → ((y_69 : Int32).toInt = zrc b1.toInt b2.toInt b58 21 b58 1 (b58 0).toInt.toNat (y_68 : Int32).toInt.toNat ∧ ∀ e : Nat, (e : Int) < (y_68 : Int32).toInt → ¬ (zrx b1.toInt b2.toInt b58 21 b58 1 (b58 0).toInt.toNat e = 1 ∧ zrc b1.toInt b2.toInt b58 21 b58 1 (b58 0).toInt.toNat e = b3.toInt)) → (100 : Int) - y_68.toInt < (k_67 : Int) → va_P G.1 classes [(b0, .inr (12, [.int 0, .ref b5, .ref b6, .ref b7, .ref b8, .int b9, .ref b10, .int b11, .int b12, .int b13, .int b14, .ref b15, .ref b16, .ref b17, .int b18, .ref b19, .ref b20, .ref b21, .ref b22, .ref b23, .ref b24, .ref b25, .ref b26, .ref b27, .ref b28, .ref b29, .ref b30, .int b31, .ref b32, .ref b33, .int b34, .int b35, .int b36, .int b37, .ref b38, .ref b39, .ref b40, .ref b41, .ref b42, .ref b43, .ref b44, .int b45, .ref b46, .ref b47, .int b48, .ref b49, .ref b50, .ref b51, .ref b52, .ref b53, .int b54, .ref b55, .ref b56, .ref b57])), (b5, .inl (G.2 0, 503, .inl b58))] H → va_D A [(b0, .inr (12, [.int 0, .ref b5, .ref b6, .ref b7, .ref b8, .int b9, .ref b10, .int b11, .int b12, .int b13, .int b14, .ref b15, .ref b16, .ref b17, .int b18, .ref b19, .ref b20, .ref b21, .ref b22, .ref b23, .ref b24, .ref b25, .ref b26, .ref b27, .ref b28, .ref b29, .ref b30, .int b31, .ref b32, .ref b33, .int b34, .int b35, .int b36, .int b37, .ref b38, .ref b39, .ref b40, .ref b41, .ref b42, .ref b43, .ref b44, .int b45, .ref b46, .ref b47, .int b48, .ref b49, .ref b50, .ref b51, .ref b52, .ref b53, .int b54, .ref b55, .ref b56, .ref b57])), (b5, .inl (G.2 0, 503, .inl b58))] → va_S A s.heap H locs → lv_has ls 9 [(5, .int y_68), (4, .int y_69), (0, .ref b0), (1, .int b1), (2, .int b2), (3, .int b3)] → W p l e m_s2_Model_rules s m ([.ref b0, .int b1, .int b2, .int b3] : List Value).toArray below meth c H locs 0 0 (MQ below (zQ G (fun v w => ∃ (e0 : Int32), v = some (.int e0) ∧ w = [(b0, .inr (12, [.int 0, .ref b5, .ref b6, .ref b7, .ref b8, .int b9, .ref b10, .int b11, .int b12, .int b13, .int b14, .ref b15, .ref b16, .ref b17, .int b18, .ref b19, .ref b20, .ref b21, .ref b22, .ref b23, .ref b24, .ref b25, .ref b26, .ref b27, .ref b28, .ref b29, .ref b30, .int b31, .ref b32, .ref b33, .int b34, .int b35, .int b36, .int b37, .ref b38, .ref b39, .ref b40, .ref b41, .ref b42, .ref b43, .ref b44, .int b45, .ref b46, .ref b47, .int b48, .ref b49, .ref b50, .ref b51, .ref b52, .ref b53, .int b54, .ref b55, .ref b56, .ref b57])), (b5, .inl (G.2 0, 503, .inl b58))] ∧ (¬ ((0 ≤ (b1).toInt ∧ (b1).toInt ≤ 5) ∧ (1 ≤ (b2).toInt ∧ (b2).toInt ≤ 20) ∧ -1 ≤ (b3).toInt) ∧ (e0 : Int32).toInt = -1 ∨ ((0 ≤ (b1).toInt ∧ (b1).toInt ≤ 5) ∧ (1 ≤ (b2).toInt ∧ (b2).toInt ≤ 20) ∧ -1 ≤ (b3).toInt) ∧ zrr b1.toInt b2.toInt b58 21 b58 1 (b58 0).toInt.toNat b3.toInt (e0 : Int32).toInt)) A) ([.ref b0, .int b1, .int b2, .int b3] : List Value).toArray s m_s2_Model_rules.cells m_s2_Model_rules.slots A) (F0 m 42 ls []) by
          exact key 101 (0) (0) _ _ _ (zI.wk (l' := 0) (h' := 100) zc_0 (by decide)) (by refine ⟨by rw [show (0 : Int32).toInt.toNat = 0 by rw [li_0]; rfl]; exact li_0, fun e he => by exfalso; have _l := li_0; omega⟩) (zm_upi (zI.wk (l' := 0) (h' := 100) zc_0 (by decide)) (by decide)) hP hD hS (lv_sub hl [0, 1, 2, 3, 4, 5] rfl)
        intro k_67
        induction k_67 with
        | zero =>
          intro y_68 y_69 H locs ls hy_68 hli_70 hmk_67 hP hD hS hl
          exact (zm_up0 hy_68 hmk_67).elim
        | succ k_67 ihk_67 =>
          intro y_68 y_69 H locs ls hy_68 hli_70 hmk_67 hP hD hS hl
          refine lv_iload hx hb d_Model_rules_42 (lv_at hl 0 rfl) ?_
          refine lv_bipush (v := 100) hx hb d_Model_rules_44 (by decide) ?_
          refine lv_icmp_ge (tgt := 125) hx hb d_Model_rules_46 (by decide) (fun hc_71 => ?_) (fun hc_71 => ?_)
          · have _nhc_71 := hc_71
            have ni_72 := (fa_le _ _).mp hc_71
            rw [li_100] at ni_72
            have hv_73 : zI y_68 100 100 := zI.le_r zc_100 hy_68 hc_71 (by decide)
            refine lv_iload_n hx hb d_Model_rules_125 rfl (lv_at hl 5 rfl) ?_
            refine lv_iconst (v := (-1)) hx hb d_Model_rules_126 (by decide) ?_
            refine lv_icmp_ne (tgt := 135) hx hb d_Model_rules_127 (by decide) (fun hc_74 => ?_) (fun hc_74 => ?_)
            · have _nhc_74 := hc_74
              have ni_75 : ¬ (b3 : Int32).toInt = ((-1) : Int32).toInt := fun z => hc_74 ((fa_eq _ _).mpr z)
              simp only [li_m1] at ni_75
              have hv_76 : zI b3 0 2147483647 := zI.ne_lo hv_25 zc_m1 hc_74 (by decide)
              refine lv_iconst (v := (-1)) hx hb d_Model_rules_135 (by decide) ?_
              exact z_iret hx hb hr hlocks hP hD hS (Nat.le_of_ble_eq_true rfl) (Nat.le_of_ble_eq_true rfl) d_Model_rules_136 ⟨(-1), rfl, rfl, (Or.inr ⟨⟨⟨by omega, by omega⟩, ⟨by omega, by omega⟩, by omega⟩, by have _l0 := li_m1; exact zrr_no hli_70.1 hli_70.2 (by omega) (by omega)⟩)⟩
            · have _nhc_74 := hc_74
              have ni_77 := (fa_eq _ _).mp hc_74
              rw [li_m1] at ni_77
              have hv_78 : zI b3 (-1) (-1) := zI.eq_l hv_25 zc_m1 hc_74
              refine lv_iload hx hb d_Model_rules_130 (lv_at hl 1 rfl) ?_
              refine lv_goto (tgt := 136) hx hb d_Model_rules_132 (by decide) ?_
              exact z_iret hx hb hr hlocks hP hD hS (Nat.le_of_ble_eq_true rfl) (Nat.le_of_ble_eq_true rfl) d_Model_rules_136 ⟨y_69, rfl, rfl, (Or.inr ⟨⟨⟨by omega, by omega⟩, ⟨by omega, by omega⟩, by omega⟩, by have _l0 := li_m1; exact zrr_no hli_70.1 hli_70.2 (by omega) (by omega)⟩)⟩
          · have _nhc_71 := hc_71
            have ni_79 := (fa_lt _ _).mp (zi_nle hc_71)
            rw [li_100] at ni_79
            have hv_80 : zI y_68 0 99 := zI.lt_l hy_68 zc_100 (zi_nle hc_71) (by decide)
            refine lv_iload hx hb d_Model_rules_49 (lv_at hl 0 rfl) ?_
            refine lv_bipush (v := 10) hx hb d_Model_rules_51 (by decide) ?_
            refine lv_idiv hx hb d_Model_rules_53 (by decide +kernel) ?_
            refine lv_topi (fun v_81 ev_81 => ?_)
            obtain ⟨qv_81, hv_81⟩ := zI_div (l := 0) (h := 9) (d := 10) hv_80 rfl ev_81 (by decide)
            refine lv_istore (lv' := [(6, .int v_81), (5, .int y_68), (4, .int y_69), (0, .ref b0), (1, .int b1), (2, .int b2), (3, .int b3)]) hx hb d_Model_rules_54 hl (by decide) rfl (fun ls hl => ?_)
            refine lv_iload hx hb d_Model_rules_56 (lv_at hl 1 rfl) ?_
            refine lv_bipush (v := 10) hx hb d_Model_rules_58 (by decide) ?_
            refine lv_irem hx hb d_Model_rules_60 (by decide +kernel) ?_
            refine lv_topi (fun v_82 ev_82 => ?_)
            obtain ⟨qv_82, hv_82⟩ := zI_rem (h := 9) (d := 10) hv_80 rfl ev_82 (by decide)
            refine lv_istore (lv' := [(7, .int v_82), (6, .int v_81), (5, .int y_68), (4, .int y_69), (0, .ref b0), (1, .int b1), (2, .int b2), (3, .int b3)]) hx hb d_Model_rules_61 hl (by decide) rfl (fun ls hl => ?_)
            refine lv_iload hx hb d_Model_rules_63 (lv_at hl 1 rfl) ?_
            refine lv_iload hx hb d_Model_rules_65 (lv_at hl 0 rfl) ?_
            refine lv_icmp_ne (tgt := 74) hx hb d_Model_rules_67 (by decide) (fun hc_83 => ?_) (fun hc_83 => ?_)
            · have _nhc_83 := hc_83
              have ni_84 : ¬ (v_81 : Int32).toInt = (v_82 : Int32).toInt := fun z => hc_83 ((fa_eq _ _).mpr z)
              refine lv_aload_n hx hb d_Model_rules_74 rfl (lv_at hl 4 rfl) ?_
              refine lv_iload_n hx hb d_Model_rules_75 rfl (lv_at hl 5 rfl) ?_
              refine lv_iload hx hb d_Model_rules_76 (lv_at hl 1 rfl) ?_
              refine lv_iload hx hb d_Model_rules_78 (lv_at hl 0 rfl) ?_
              refine lv_iconst (v := 0) hx hb d_Model_rules_80 (by decide) ?_
              refine z_callV (index := 394) (As := [.int b1, .int v_81, .int v_82, .int 0]) (rest := []) (wr := []) Z (s2_Model_asked l G (b0) (b1) (v_81) (v_82) (0) (0) (b5) (b6) (b7) (b8) (b9) (b10) (b11) (b12) (b13) (b14) (b15) (b16) (b17) (b18) (b19) (b20) (b21) (b22) (b23) (b24) (b25) (b26) (b27) (b28) (b29) (b30) (b31) (b32) (b33) (b34) (b35) (b36) (b37) (b38) (b39) (b40) (b41) (b42) (b43) (b44) (b45) (b46) (b47) (b48) (b49) (b50) (b51) (b52) (b53) (b54) (b55) (b56) (b57) (b58) (zI.wk (l' := 0) (h' := 1) zc_0 (by decide)) hb9 hb11 hb12 hb14 hb18 hb31 hb34 hb45 hb48 hb54 hb58) hl.1 q1553 q1555 qs87 q14 q1556 ⟨by decide, by decide, by show _ = some 4; decide +kernel⟩ ⟨Nat.le_of_ble_eq_true rfl, Nat.le_of_ble_eq_true rfl⟩ ⟨Nat.le_of_ble_eq_true rfl, Nat.le_of_ble_eq_true rfl⟩ rfl (Nat.le_of_ble_eq_true rfl) d_Model_rules_81 hP hD hS hA 0 12 rfl rfl rfl [0, 1] [] rfl rfl rfl rfl (by decide) (fun v w1 H locs hw_85 hP hD hS => ?_)
              obtain ⟨x_86, rfl, rfl, hfx_87⟩ := hw_85
              have hP : va_P G.1 classes [(b0, .inr (12, [.int 0, .ref b5, .ref b6, .ref b7, .ref b8, .int b9, .ref b10, .int b11, .int b12, .int b13, .int b14, .ref b15, .ref b16, .ref b17, .int b18, .ref b19, .ref b20, .ref b21, .ref b22, .ref b23, .ref b24, .ref b25, .ref b26, .ref b27, .ref b28, .ref b29, .ref b30, .int b31, .ref b32, .ref b33, .int b34, .int b35, .int b36, .int b37, .ref b38, .ref b39, .ref b40, .ref b41, .ref b42, .ref b43, .ref b44, .int b45, .ref b46, .ref b47, .int b48, .ref b49, .ref b50, .ref b51, .ref b52, .ref b53, .int b54, .ref b55, .ref b56, .ref b57])), (b5, .inl (G.2 0, 503, .inl b58))] H := hP
              have hD := z_tie hP hD rfl
              refine W.widen (k := 0) (n := 0) (Nat.le_of_ble_eq_true rfl) (Nat.le_of_ble_eq_true rfl) ?_
              refine lv_istore (lv' := [(8, .int x_86), (7, .int v_82), (6, .int v_81), (5, .int y_68), (4, .int y_69), (0, .ref b0), (1, .int b1), (2, .int b2), (3, .int b3)]) hx hb d_Model_rules_84 hl (by decide) rfl (fun ls hl => ?_)
              refine lv_iload hx hb d_Model_rules_86 (lv_at hl 0 rfl) ?_
              refine lv_iload_n hx hb d_Model_rules_88 rfl (lv_at hl 7 rfl) ?_
              refine lv_icmp_lt (tgt := 119) hx hb d_Model_rules_89 (by decide) (fun hc_88 => ?_) (fun hc_88 => ?_)
              · have _nhc_88 := hc_88
                have ni_89 := (fa_lt _ _).mp hc_88
                have hv_90 : zI x_86 (-2147483648) 19 := zI.lt_l (zI_all x_86) hv_22 hc_88 (by decide)
                obtain ⟨v_91, ev_91⟩ : ∃ z : Int32, z = y_68 + 1 := ⟨_, rfl⟩
                obtain ⟨qv_91, hv_91⟩ := zI_add (l := 1) (h := 100) hv_80 zc_1 ev_91 (by decide)
                rw [li_1] at qv_91
                refine lv_iinc (v := v_91) (lv' := [(5, .int v_91), (8, .int x_86), (7, .int v_82), (6, .int v_81), (4, .int y_69), (0, .ref b0), (1, .int b1), (2, .int b2), (3, .int b3)]) hx hb d_Model_rules_119 hl (k := 3) rfl (by rw [ev_91]; rfl) (by decide) rfl (fun ls hl => ?_)
                refine lv_goto (tgt := 42) hx hb d_Model_rules_122 (by decide) ?_
                exact ihk_67 (v_91) (y_69) _ _ _ (zI.wk (l' := 0) (h' := 100) hv_91 (by decide)) (by have _l0 := li_0; have _l1 := li_1; have a9 := hfx_87 (fun q => by have q8 := congrArg Int32.toInt q; omega) ⟨by omega, by omega⟩; rw [li_0] at a9; exact zrc_st (x := v_81) (y := v_82) rfl hli_70.1 hli_70.2 ⟨by omega, by omega⟩ (by omega) (by omega) (by omega) (Or.inl ⟨fun q => by omega, rfl⟩)) (zm_up qv_91 hmk_67 (by decide)) hP hD hS (lv_sub hl [0, 4, 5, 6, 7, 8] rfl)
              · have _nhc_88 := hc_88
                have ni_92 := (fa_le _ _).mp (zi_nlt hc_88)
                have hv_93 : zI x_86 1 2147483647 := zI.le_r hv_22 (zI_all x_86) (zi_nlt hc_88) (by decide)
                refine lv_iload hx hb d_Model_rules_92 (lv_at hl 0 rfl) ?_
                refine lv_aload_n hx hb d_Model_rules_94 rfl (lv_at hl 5 rfl) ?_
                refine lv_iload_n hx hb d_Model_rules_95 rfl (lv_at hl 6 rfl) ?_
                refine lv_iload hx hb d_Model_rules_96 (lv_at hl 2 rfl) ?_
                refine lv_iload hx hb d_Model_rules_98 (lv_at hl 1 rfl) ?_
                refine lv_iconst (v := 1) hx hb d_Model_rules_100 (by decide) ?_
                refine z_callV (index := 394) (As := [.int b1, .int v_81, .int v_82, .int 1]) (rest := [.int x_86]) (wr := []) Z (s2_Model_asked l G (b0) (b1) (v_81) (v_82) (1) (0) (b5) (b6) (b7) (b8) (b9) (b10) (b11) (b12) (b13) (b14) (b15) (b16) (b17) (b18) (b19) (b20) (b21) (b22) (b23) (b24) (b25) (b26) (b27) (b28) (b29) (b30) (b31) (b32) (b33) (b34) (b35) (b36) (b37) (b38) (b39) (b40) (b41) (b42) (b43) (b44) (b45) (b46) (b47) (b48) (b49) (b50) (b51) (b52) (b53) (b54) (b55) (b56) (b57) (b58) (zI.wk (l' := 0) (h' := 1) zc_1 (by decide)) hb9 hb11 hb12 hb14 hb18 hb31 hb34 hb45 hb48 hb54 hb58) hl.1 q1553 q1555 qs87 q14 q1556 ⟨by decide, by decide, by show _ = some 4; decide +kernel⟩ ⟨Nat.le_of_ble_eq_true rfl, Nat.le_of_ble_eq_true rfl⟩ ⟨Nat.le_of_ble_eq_true rfl, Nat.le_of_ble_eq_true rfl⟩ rfl (Nat.le_of_ble_eq_true rfl) d_Model_rules_101 hP hD hS hA 0 12 rfl rfl rfl [0, 1] [] rfl rfl rfl rfl (by decide) (fun v w1 H locs hw_94 hP hD hS => ?_)
                obtain ⟨x_95, rfl, rfl, hfx_96⟩ := hw_94
                have hP : va_P G.1 classes [(b0, .inr (12, [.int 0, .ref b5, .ref b6, .ref b7, .ref b8, .int b9, .ref b10, .int b11, .int b12, .int b13, .int b14, .ref b15, .ref b16, .ref b17, .int b18, .ref b19, .ref b20, .ref b21, .ref b22, .ref b23, .ref b24, .ref b25, .ref b26, .ref b27, .ref b28, .ref b29, .ref b30, .int b31, .ref b32, .ref b33, .int b34, .int b35, .int b36, .int b37, .ref b38, .ref b39, .ref b40, .ref b41, .ref b42, .ref b43, .ref b44, .int b45, .ref b46, .ref b47, .int b48, .ref b49, .ref b50, .ref b51, .ref b52, .ref b53, .int b54, .ref b55, .ref b56, .ref b57])), (b5, .inl (G.2 0, 503, .inl b58))] H := hP
                have hD := z_tie hP hD rfl
                refine W.widen (k := 0) (n := 0) (Nat.le_of_ble_eq_true rfl) (Nat.le_of_ble_eq_true rfl) ?_
                refine lv_icmp_ne (tgt := 119) hx hb d_Model_rules_104 (by decide) (fun hc_97 => ?_) (fun hc_97 => ?_)
                · have _nhc_97 := hc_97
                  have ni_98 : ¬ (x_86 : Int32).toInt = (x_95 : Int32).toInt := fun z => hc_97 ((fa_eq _ _).mpr z)
                  obtain ⟨v_99, ev_99⟩ : ∃ z : Int32, z = y_68 + 1 := ⟨_, rfl⟩
                  obtain ⟨qv_99, hv_99⟩ := zI_add (l := 1) (h := 100) hv_80 zc_1 ev_99 (by decide)
                  rw [li_1] at qv_99
                  refine lv_iinc (v := v_99) (lv' := [(5, .int v_99), (8, .int x_86), (7, .int v_82), (6, .int v_81), (4, .int y_69), (0, .ref b0), (1, .int b1), (2, .int b2), (3, .int b3)]) hx hb d_Model_rules_119 hl (k := 3) rfl (by rw [ev_99]; rfl) (by decide) rfl (fun ls hl => ?_)
                  refine lv_goto (tgt := 42) hx hb d_Model_rules_122 (by decide) ?_
                  exact ihk_67 (v_99) (y_69) _ _ _ (zI.wk (l' := 0) (h' := 100) hv_99 (by decide)) (by have _l0 := li_0; have _l1 := li_1; have a9 := hfx_87 (fun q => by have q8 := congrArg Int32.toInt q; omega) ⟨by omega, by omega⟩; rw [li_0] at a9; have b9 := hfx_96 (fun q => by have q8 := congrArg Int32.toInt q; omega) ⟨by omega, by omega⟩; rw [li_1] at b9; exact zrc_st (x := v_81) (y := v_82) rfl hli_70.1 hli_70.2 ⟨by omega, by omega⟩ (by omega) (by omega) (by omega) (Or.inl ⟨fun q => by omega, rfl⟩)) (zm_up qv_99 hmk_67 (by decide)) hP hD hS (lv_sub hl [0, 4, 5, 6, 7, 8] rfl)
                · have _nhc_97 := hc_97
                  have ni_100 := (fa_eq _ _).mp hc_97
                  have hv_101 : zI x_95 1 2147483647 := zI.eq_l (zI_all x_95) hv_93 hc_97.symm
                  refine lv_iload hx hb d_Model_rules_107 (lv_at hl 4 rfl) ?_
                  refine lv_iload_n hx hb d_Model_rules_109 rfl (lv_at hl 8 rfl) ?_
                  refine lv_icmp_ne (tgt := 116) hx hb d_Model_rules_110 (by decide) (fun hc_102 => ?_) (fun hc_102 => ?_)
                  · have _nhc_102 := hc_102
                    have ni_103 : ¬ (y_69 : Int32).toInt = (b3 : Int32).toInt := fun z => hc_102 ((fa_eq _ _).mpr z)
                    obtain ⟨v_104, ev_104⟩ : ∃ z : Int32, z = y_69 + 1 := ⟨_, rfl⟩
                    refine lv_iinc (v := v_104) (lv' := [(4, .int v_104), (8, .int x_86), (7, .int v_82), (6, .int v_81), (5, .int y_68), (0, .ref b0), (1, .int b1), (2, .int b2), (3, .int b3)]) hx hb d_Model_rules_116 hl (k := 4) rfl (by rw [ev_104]; rfl) (by decide) rfl (fun ls hl => ?_)
                    obtain ⟨v_105, ev_105⟩ : ∃ z : Int32, z = y_68 + 1 := ⟨_, rfl⟩
                    obtain ⟨qv_105, hv_105⟩ := zI_add (l := 1) (h := 100) hv_80 zc_1 ev_105 (by decide)
                    rw [li_1] at qv_105
                    refine lv_iinc (v := v_105) (lv' := [(5, .int v_105), (4, .int v_104), (8, .int x_86), (7, .int v_82), (6, .int v_81), (0, .ref b0), (1, .int b1), (2, .int b2), (3, .int b3)]) hx hb d_Model_rules_119 hl (k := 4) rfl (by rw [ev_105]; rfl) (by decide) rfl (fun ls hl => ?_)
                    refine lv_goto (tgt := 42) hx hb d_Model_rules_122 (by decide) ?_
                    exact ihk_67 (v_105) (v_104) _ _ _ (zI.wk (l' := 0) (h' := 100) hv_105 (by decide)) (by have _l0 := li_0; have _l1 := li_1; have a9 := hfx_87 (fun q => by have q8 := congrArg Int32.toInt q; omega) ⟨by omega, by omega⟩; rw [li_0] at a9; have b9 := hfx_96 (fun q => by have q8 := congrArg Int32.toInt q; omega) ⟨by omega, by omega⟩; rw [li_1] at b9; exact zrc_st (x := v_81) (y := v_82) rfl hli_70.1 hli_70.2 ⟨by omega, by omega⟩ (by omega) (by omega) (by omega) (Or.inr ⟨⟨(fun q => by have q8 := congrArg Int32.toInt q; omega), by omega, by omega⟩, by omega, ev_104⟩)) (zm_up qv_105 hmk_67 (by decide)) hP hD hS (lv_sub hl [0, 1, 5, 6, 7, 8] rfl)
                  · have _nhc_102 := hc_102
                    have ni_106 := (fa_eq _ _).mp hc_102
                    have hv_107 : zI y_69 (-1) 2147483647 := zI.eq_l (zI_all y_69) hv_25 hc_102
                    refine lv_iload hx hb d_Model_rules_113 (lv_at hl 3 rfl) ?_
                    exact z_iret hx hb hr hlocks hP hD hS (Nat.le_of_ble_eq_true rfl) (Nat.le_of_ble_eq_true rfl) d_Model_rules_115 ⟨y_68, rfl, rfl, (Or.inr ⟨⟨⟨by omega, by omega⟩, ⟨by omega, by omega⟩, by omega⟩, by have _l0 := li_0; have _l1 := li_1; have a9 := hfx_87 (fun q => by have q8 := congrArg Int32.toInt q; omega) ⟨by omega, by omega⟩; rw [li_0] at a9; have b9 := hfx_96 (fun q => by have q8 := congrArg Int32.toInt q; omega) ⟨by omega, by omega⟩; rw [li_1] at b9; exact zrr_at (x := v_81) (y := v_82) rfl hli_70.1 ⟨by omega, by omega⟩ (by omega) (by omega) ⟨(fun q => by have q8 := congrArg Int32.toInt q; omega), by omega, by omega⟩ (by omega) (by omega)⟩)⟩
            · have _nhc_83 := hc_83
              have ni_108 := (fa_eq _ _).mp hc_83
              refine lv_iconst (v := 0) hx hb d_Model_rules_70 (by decide) ?_
              refine lv_goto (tgt := 84) hx hb d_Model_rules_71 (by decide) ?_
              refine lv_istore (lv' := [(8, .int 0), (7, .int v_82), (6, .int v_81), (5, .int y_68), (4, .int y_69), (0, .ref b0), (1, .int b1), (2, .int b2), (3, .int b3)]) hx hb d_Model_rules_84 hl (by decide) rfl (fun ls hl => ?_)
              refine lv_iload hx hb d_Model_rules_86 (lv_at hl 0 rfl) ?_
              refine lv_iload_n hx hb d_Model_rules_88 rfl (lv_at hl 7 rfl) ?_
              refine lv_icmp_lt (tgt := 119) hx hb d_Model_rules_89 (by decide) (fun _ => ?_) (fun hc => zI.no_le hv_22 zc_0 (zi_nlt hc) (by decide))
              obtain ⟨v_109, ev_109⟩ : ∃ z : Int32, z = y_68 + 1 := ⟨_, rfl⟩
              obtain ⟨qv_109, hv_109⟩ := zI_add (l := 1) (h := 100) hv_80 zc_1 ev_109 (by decide)
              rw [li_1] at qv_109
              refine lv_iinc (v := v_109) (lv' := [(5, .int v_109), (8, .int 0), (7, .int v_82), (6, .int v_81), (4, .int y_69), (0, .ref b0), (1, .int b1), (2, .int b2), (3, .int b3)]) hx hb d_Model_rules_119 hl (k := 3) rfl (by rw [ev_109]; rfl) (by decide) rfl (fun ls hl => ?_)
              refine lv_goto (tgt := 42) hx hb d_Model_rules_122 (by decide) ?_
              exact ihk_67 (v_109) (y_69) _ _ _ (zI.wk (l' := 0) (h' := 100) hv_109 (by decide)) (by have _l0 := li_0; have _l1 := li_1; exact zrc_st (x := v_81) (y := v_82) rfl hli_70.1 hli_70.2 ⟨by omega, by omega⟩ (by omega) (by omega) (by omega) (Or.inl ⟨fun q => q.1 ((fa_eq _ _).mpr (by omega)), rfl⟩)) (zm_up qv_109 hmk_67 (by decide)) hP hD hS (lv_sub hl [0, 4, 5, 6, 7, 8] rfl)
      · have _nhc_23 := hc_23
        have ni_110 := (fa_lt _ _).mp (zi_nle hc_23)
        rw [li_m1] at ni_110
        have hv_111 : zI b3 (-2147483648) (-2) := zI.lt_l (zI_all b3) zc_m1 (zi_nle hc_23) (by decide)
        refine lv_iconst (v := (-1)) hx hb d_Model_rules_34 (by decide) ?_
        exact z_iret hx hb hr hlocks hP hD hS (Nat.le_of_ble_eq_true rfl) (Nat.le_of_ble_eq_true rfl) d_Model_rules_35 ⟨(-1), rfl, rfl, (Or.inl ⟨by have _l0 := li_0; have _l1 := li_1; have _l2 := li_5; have _l3 := li_20; have _l4 := li_m1; omega, li_m1⟩)⟩
