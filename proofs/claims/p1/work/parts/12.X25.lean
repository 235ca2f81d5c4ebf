theorem d_X_rules_0 : decode prog_1_method_21_code 0 = .ok (.iload_n 1, 1) := by decide +kernel
theorem d_X_rules_1 : decode prog_1_method_21_code 1 = .ok (.invokestatic 305, 3) := by decide +kernel
theorem d_X_rules_4 : decode prog_1_method_21_code 4 = .ok (.ifCond .eq 19, 3) := by decide +kernel
theorem d_X_rules_7 : decode prog_1_method_21_code 7 = .ok (.iload_n 2, 1) := by decide +kernel
theorem d_X_rules_8 : decode prog_1_method_21_code 8 = .ok (.iconst 1, 1) := by decide +kernel
theorem d_X_rules_9 : decode prog_1_method_21_code 9 = .ok (.if_icmp .lt 14, 3) := by decide +kernel
theorem d_X_rules_12 : decode prog_1_method_21_code 12 = .ok (.iload_n 2, 1) := by decide +kernel
theorem d_X_rules_13 : decode prog_1_method_21_code 13 = .ok (.bipush 20, 2) := by decide +kernel
theorem d_X_rules_15 : decode prog_1_method_21_code 15 = .ok (.if_icmp .gt 8, 3) := by decide +kernel
theorem d_X_rules_18 : decode prog_1_method_21_code 18 = .ok (.iload_n 3, 1) := by decide +kernel
theorem d_X_rules_19 : decode prog_1_method_21_code 19 = .ok (.iconst (-1), 1) := by decide +kernel
theorem d_X_rules_20 : decode prog_1_method_21_code 20 = .ok (.if_icmp .ge 5, 3) := by decide +kernel
theorem d_X_rules_23 : decode prog_1_method_21_code 23 = .ok (.iconst (-1), 1) := by decide +kernel
theorem d_X_rules_24 : decode prog_1_method_21_code 24 = .ok (.ireturn, 1) := by decide +kernel
theorem d_X_rules_25 : decode prog_1_method_21_code 25 = .ok (.iconst 0, 1) := by decide +kernel
theorem d_X_rules_26 : decode prog_1_method_21_code 26 = .ok (.istore 4, 2) := by decide +kernel
theorem d_X_rules_28 : decode prog_1_method_21_code 28 = .ok (.iconst 0, 1) := by decide +kernel
theorem d_X_rules_29 : decode prog_1_method_21_code 29 = .ok (.istore 5, 2) := by decide +kernel
theorem d_X_rules_31 : decode prog_1_method_21_code 31 = .ok (.iload 5, 2) := by decide +kernel
theorem d_X_rules_33 : decode prog_1_method_21_code 33 = .ok (.bipush 100, 2) := by decide +kernel
theorem d_X_rules_35 : decode prog_1_method_21_code 35 = .ok (.if_icmp .ge 62, 3) := by decide +kernel
theorem d_X_rules_38 : decode prog_1_method_21_code 38 = .ok (.iload 5, 2) := by decide +kernel
theorem d_X_rules_40 : decode prog_1_method_21_code 40 = .ok (.bipush 10, 2) := by decide +kernel
theorem d_X_rules_42 : decode prog_1_method_21_code 42 = .ok (.idiv, 1) := by decide +kernel
theorem d_X_rules_43 : decode prog_1_method_21_code 43 = .ok (.istore 6, 2) := by decide +kernel
theorem d_X_rules_45 : decode prog_1_method_21_code 45 = .ok (.iload 5, 2) := by decide +kernel
theorem d_X_rules_47 : decode prog_1_method_21_code 47 = .ok (.bipush 10, 2) := by decide +kernel
theorem d_X_rules_49 : decode prog_1_method_21_code 49 = .ok (.irem, 1) := by decide +kernel
theorem d_X_rules_50 : decode prog_1_method_21_code 50 = .ok (.istore 7, 2) := by decide +kernel
theorem d_X_rules_52 : decode prog_1_method_21_code 52 = .ok (.iload 6, 2) := by decide +kernel
theorem d_X_rules_54 : decode prog_1_method_21_code 54 = .ok (.iload 7, 2) := by decide +kernel
theorem d_X_rules_56 : decode prog_1_method_21_code 56 = .ok (.if_icmp .eq 35, 3) := by decide +kernel
theorem d_X_rules_59 : decode prog_1_method_21_code 59 = .ok (.aload_n 0, 1) := by decide +kernel
theorem d_X_rules_60 : decode prog_1_method_21_code 60 = .ok (.getfield 98, 3) := by decide +kernel
theorem d_X_rules_63 : decode prog_1_method_21_code 63 = .ok (.aload_n 0, 1) := by decide +kernel
theorem d_X_rules_64 : decode prog_1_method_21_code 64 = .ok (.getfield 19, 3) := by decide +kernel
theorem d_X_rules_67 : decode prog_1_method_21_code 67 = .ok (.iload_n 1, 1) := by decide +kernel
theorem d_X_rules_68 : decode prog_1_method_21_code 68 = .ok (.iload 6, 2) := by decide +kernel
theorem d_X_rules_70 : decode prog_1_method_21_code 70 = .ok (.iload 7, 2) := by decide +kernel
theorem d_X_rules_72 : decode prog_1_method_21_code 72 = .ok (.iload_n 2, 1) := by decide +kernel
theorem d_X_rules_73 : decode prog_1_method_21_code 73 = .ok (.invokevirtual 321, 3) := by decide +kernel
theorem d_X_rules_91 : decode prog_1_method_21_code 91 = .ok (.iinc 5 1, 3) := by decide +kernel
theorem d_X_rules_94 : decode prog_1_method_21_code 94 = .ok (.goto (-63), 3) := by decide +kernel
theorem d_X_rules_97 : decode prog_1_method_21_code 97 = .ok (.iload_n 3, 1) := by decide +kernel
theorem d_X_rules_98 : decode prog_1_method_21_code 98 = .ok (.iconst (-1), 1) := by decide +kernel
theorem d_X_rules_99 : decode prog_1_method_21_code 99 = .ok (.if_icmp .ne 8, 3) := by decide +kernel
theorem d_X_rules_102 : decode prog_1_method_21_code 102 = .ok (.iload 4, 2) := by decide +kernel
theorem d_X_rules_104 : decode prog_1_method_21_code 104 = .ok (.goto 4, 3) := by decide +kernel
theorem d_X_rules_107 : decode prog_1_method_21_code 107 = .ok (.iconst (-1), 1) := by decide +kernel
theorem d_X_rules_108 : decode prog_1_method_21_code 108 = .ok (.ireturn, 1) := by decide +kernel
theorem d_Pair_stands_0 : decode prog_6_method_2_code 0 = .ok (.aload_n 0, 1) := by decide +kernel
theorem d_Pair_stands_1 : decode prog_6_method_2_code 1 = .ok (.aload_n 1, 1) := by decide +kernel
theorem d_Pair_stands_2 : decode prog_6_method_2_code 2 = .ok (.iload_n 2, 1) := by decide +kernel
theorem d_Pair_stands_3 : decode prog_6_method_2_code 3 = .ok (.iload_n 3, 1) := by decide +kernel
theorem d_Pair_stands_4 : decode prog_6_method_2_code 4 = .ok (.iload 4, 2) := by decide +kernel
theorem d_Pair_stands_6 : decode prog_6_method_2_code 6 = .ok (.invokevirtual 9, 3) := by decide +kernel
theorem li_m1 : ((-1) : Int32).toInt = (-1) := by decide +kernel
abbrev m_c2_Pair_tally : Room := { frames := 0, cells := 0, slots := 0, locals := 0 }
set_option maxHeartbeats 4000000 in
set_option maxRecDepth 100000 in
theorem c2_Pair_tally (l : Launch) (G : zG) (b0 : Nat) (b1 : Nat) (b2 : Int32) (b3 : Int32) (b4 : Int32) (b5 : Nat) (b6 : Nat) (b7 : Nat) (hlo_b2 : 0 ≤ b2.toInt) (hhi_b2 : b2.toInt ≤ 5) : zM l G y_Pair_tally prog_6_method_3_code 6 (Option.none : Option Jvm.ClassFile.FieldType) m_c2_Pair_tally [.ref b0, .ref b1, .int b2, .int b3, .int b4] [(b0, .inr (10, [.int 0, .int 0, .int 0, .int 0, .int 0, .int 0, .int 0, .int 0, .int 0, .int 0])), (b1, .inr (2, [.int 0, .int 1, .int 0, .ref b5, .ref b6, .ref b7]))] (fun v w => (v = none ∧ w = [(b0, .inr (10, [.int 0, .int 0, .int 0, .int 0, .int 0, .int 0, .int 0, .int 0, .int 0, .int 0])), (b1, .inr (2, [.int 0, .int 1, .int 0, .ref b5, .ref b6, .ref b7]))])) := by
  refine z_start (by decide +kernel) (Nat.le_of_ble_eq_true rfl) ?_
  intro p e s m below meth c A Z hr hnm hA hP hD hS ls hl
  have Z : zC p s m _ meth c prog_6_method_3_code 6 "TraceMachines$Pair" G := Z
  obtain ⟨hx, hb, hml, hown, hts, hK, hN, hlocks⟩ := id Z
  have hl : lv_has ls 6 [(0, .ref b0), (1, .ref b1), (2, .int b2), (3, .int b3), (4, .int b4)] := hl
  refine lv_aload_n hx hb d_Pair_tally_0 rfl (lv_at hl 0 rfl) ?_
  refine lv_iconst (v := 0) hx hb d_Pair_tally_1 (by decide) ?_
  refine va_put (D := G.1) (ci := 10) (v := .int 0) (ty := .int) (C := R_Pair) (T := F_Pair) (N := 10) hx hb hts i_Pair t_Pair t_Pair_ok n_Pair hown hK hP hD hS 0 rfl rfl 0 (by decide) (hts _ q363) (fun _ h9 => h9) rfl (by decide +kernel) rfl rfl (Nat.le_of_ble_eq_true rfl) d_Pair_tally_2 (fun H locs hP hD hS => ?_)
  have hP : va_P G.1 classes [(b0, .inr (10, [.int 0, .int 0, .int 0, .int 0, .int 0, .int 0, .int 0, .int 0, .int 0, .int 0])), (b1, .inr (2, [.int 0, .int 1, .int 0, .ref b5, .ref b6, .ref b7]))] H := hP
  have hD := z_tie hP hD rfl
  refine lv_aload_n hx hb d_Pair_tally_5 rfl (lv_at hl 0 rfl) ?_
  refine lv_iconst (v := 0) hx hb d_Pair_tally_6 (by decide) ?_
  refine va_put (D := G.1) (ci := 10) (v := .int 0) (ty := .int) (C := R_Pair) (T := F_Pair) (N := 10) hx hb hts i_Pair t_Pair t_Pair_ok n_Pair hown hK hP hD hS 0 rfl rfl 1 (by decide) (hts _ q365) (fun _ h9 => h9) rfl (by decide +kernel) rfl rfl (Nat.le_of_ble_eq_true rfl) d_Pair_tally_7 (fun H locs hP hD hS => ?_)
  have hP : va_P G.1 classes [(b0, .inr (10, [.int 0, .int 0, .int 0, .int 0, .int 0, .int 0, .int 0, .int 0, .int 0, .int 0])), (b1, .inr (2, [.int 0, .int 1, .int 0, .ref b5, .ref b6, .ref b7]))] H := hP
  have hD := z_tie hP hD rfl
  refine lv_iconst (v := 0) hx hb d_Pair_tally_10 (by decide) ?_
  refine lv_istore (lv' := [(5, .int 0), (0, .ref b0), (1, .ref b1), (2, .int b2), (3, .int b3), (4, .int b4)]) hx hb d_Pair_tally_11 hl (by decide) rfl (fun ls hl => ?_)
  refine lv_iload hx hb d_Pair_tally_13 (lv_at hl 0 rfl) ?_
  refine lv_aload_n hx hb d_Pair_tally_15 rfl (lv_at hl 2 rfl) ?_
  refine va_get (D := G.1) (ci := 2) (v := .int 0) (C := R_Traces) (T := F_Traces) (N := 6) hx hb hts i_Traces hown hK hP 1 rfl rfl 0 (by decide) (hts _ q56) (fun _ h9 => h9) rfl d_Pair_tally_16 ?_
  refine lv_icmp_ge (tgt := 74) hx hb d_Pair_tally_19 (by decide) (fun _ => ?_) (fun hc => absurd hc (by decide +kernel))
  exact z_vret hx hb hr hlocks hP hD hS (Nat.le_of_ble_eq_true rfl) (Nat.le_of_ble_eq_true rfl) d_Pair_tally_74 ⟨rfl, rfl⟩
theorem d_Pair_stands_9 : decode prog_6_method_2_code 9 = .ok (.aload_n 0, 1) := by decide +kernel
theorem d_Pair_stands_10 : decode prog_6_method_2_code 10 = .ok (.getfield 15, 3) := by decide +kernel
theorem d_Pair_stands_13 : decode prog_6_method_2_code 13 = .ok (.iload 5, 2) := by decide +kernel
theorem d_Pair_stands_15 : decode prog_6_method_2_code 15 = .ok (.if_icmp .lt 18, 3) := by decide +kernel
theorem d_Pair_stands_33 : decode prog_6_method_2_code 33 = .ok (.iconst 0, 1) := by decide +kernel
theorem d_Pair_stands_34 : decode prog_6_method_2_code 34 = .ok (.ireturn, 1) := by decide +kernel
abbrev m_c1_Pair_stands : Room := { frames := 1, cells := 0, slots := 0, locals := 25 }
set_option maxHeartbeats 4000000 in
set_option maxRecDepth 100000 in
theorem c1_Pair_stands (l : Launch) (G : zG) (b0 : Nat) (b1 : Nat) (b2 : Int32) (b3 : Int32) (b4 : Int32) (b5 : Int32) (b6 : Nat) (b7 : Nat) (b8 : Nat) (hlo_b2 : 0 ≤ b2.toInt) (hhi_b2 : b2.toInt ≤ 5) (hlo_b5 : 1 ≤ b5.toInt) (hhi_b5 : b5.toInt ≤ 20) : zM l G y_Pair_stands prog_6_method_2_code 6 (Option.some Jvm.ClassFile.FieldType.boolean) m_c1_Pair_stands [.ref b0, .ref b1, .int b2, .int b3, .int b4, .int b5] [(b0, .inr (10, [.int 0, .int 0, .int 0, .int 0, .int 0, .int 0, .int 0, .int 0, .int 0, .int 0])), (b1, .inr (2, [.int 0, .int 1, .int 0, .ref b6, .ref b7, .ref b8]))] (fun v w => (v = some (.int 0) ∧ w = [(b0, .inr (10, [.int 0, .int 0, .int 0, .int 0, .int 0, .int 0, .int 0, .int 0, .int 0, .int 0])), (b1, .inr (2, [.int 0, .int 1, .int 0, .ref b6, .ref b7, .ref b8]))])) := by
  refine z_start (by decide +kernel) (Nat.le_of_ble_eq_true rfl) ?_
  intro p e s m below meth c A Z hr hnm hA hP hD hS ls hl
  have Z : zC p s m _ meth c prog_6_method_2_code 6 "TraceMachines$Pair" G := Z
  obtain ⟨hx, hb, hml, hown, hts, hK, hN, hlocks⟩ := id Z
  have hl : lv_has ls 6 [(0, .ref b0), (1, .ref b1), (2, .int b2), (3, .int b3), (4, .int b4), (5, .int b5)] := hl
  refine lv_aload_n hx hb d_Pair_stands_0 rfl (lv_at hl 0 rfl) ?_
  refine lv_aload_n hx hb d_Pair_stands_1 rfl (lv_at hl 1 rfl) ?_
  refine lv_iload_n hx hb d_Pair_stands_2 rfl (lv_at hl 2 rfl) ?_
  refine lv_iload_n hx hb d_Pair_stands_3 rfl (lv_at hl 3 rfl) ?_
  refine lv_iload hx hb d_Pair_stands_4 (lv_at hl 4 rfl) ?_
  refine z_callV (index := 9) (As := [.ref b1, .int b2, .int b3, .int b4]) (rest := []) (wr := []) Z (c2_Pair_tally l G (b0) (b1) (b2) (b3) (b4) (b6) (b7) (b8) (by first | assumption | decide +kernel | omega) (by first | assumption | decide +kernel | omega)) hl.1 q956 q920 q921 q11 q922 ⟨by decide, by decide, by show _ = some 4; decide +kernel⟩ ⟨Nat.le_of_ble_eq_true rfl, Nat.le_of_ble_eq_true rfl⟩ ⟨Nat.le_of_ble_eq_true rfl, Nat.le_of_ble_eq_true rfl⟩ rfl (Nat.le_of_ble_eq_true rfl) d_Pair_stands_6 hP hD hS hA 0 10 rfl rfl rfl [0, 1] [] rfl rfl rfl rfl (by decide) (fun v w1 H locs hw_1 hP hD hS => ?_)
  obtain ⟨rfl, rfl⟩ := hw_1
  have hP : va_P G.1 classes [(b0, .inr (10, [.int 0, .int 0, .int 0, .int 0, .int 0, .int 0, .int 0, .int 0, .int 0, .int 0])), (b1, .inr (2, [.int 0, .int 1, .int 0, .ref b6, .ref b7, .ref b8]))] H := hP
  have hD := z_tie hP hD rfl
  refine W.widen (k := 0) (n := 0) (Nat.le_of_ble_eq_true rfl) (Nat.le_of_ble_eq_true rfl) ?_
  refine lv_aload_n hx hb d_Pair_stands_9 rfl (lv_at hl 0 rfl) ?_
  refine va_get (D := G.1) (ci := 10) (v := .int 0) (C := R_Pair) (T := F_Pair) (N := 10) hx hb hts i_Pair hown hK hP 0 rfl rfl 0 (by decide) (hts _ q363) (fun _ h9 => h9) rfl d_Pair_stands_10 ?_
  refine lv_iload hx hb d_Pair_stands_13 (lv_at hl 5 rfl) ?_
  refine lv_icmp_lt (tgt := 33) hx hb d_Pair_stands_15 (by decide) (fun _ => ?_) (fun hc => absurd hc (by intro hc; simp only [fa_lt, fa_le, fa_eq, Int32.toInt_toInt64, li_0] at hc; omega))
  refine lv_iconst (v := 0) hx hb d_Pair_stands_33 (by decide) ?_
  exact z_zret hx hb hr hlocks rfl hP hD hS (Nat.le_of_ble_eq_true rfl) (Nat.le_of_ble_eq_true rfl) d_Pair_stands_34 ⟨rfl, rfl⟩
theorem d_X_rules_76 : decode prog_1_method_21_code 76 = .ok (.ifCond .eq 15, 3) := by decide +kernel
abbrev m_t_X_rules : Room := { frames := 2, cells := 0, slots := 0, locals := 50 }
set_option maxHeartbeats 4000000 in
set_option maxRecDepth 100000 in
theorem t_X_rules (l : Launch) (G : zG) (b0 : Nat) (p0 : Int32) (p1 : Int32) (p2 : Int32) (b4 : Nat) (b5 : Nat) (b6 : Nat) (b7 : Nat) (b8 : Nat) (b9 : Nat) (b10 : Nat) (b11 : Nat) (b12 : Nat) (b13 : Nat) (b14 : Nat) (b15 : Nat) (b16 : Nat) (b17 : Nat) (b18 : Nat) (b19 : Nat) (b20 : Nat) (b21 : Nat) (b22 : Nat) (b23 : Nat) (b24 : Nat)  : zM l G y_X_rules prog_1_method_21_code 8 (Option.some Jvm.ClassFile.FieldType.int) m_t_X_rules [.ref b0, .int p0, .int p1, .int p2] [(b0, .inr (0, [.ref b4, .ref b5, .ref b6, .ref b7, .int 0, .int 0, .ref b8, .ref b9, .ref b10, .ref b11, .ref b12, .ref b13, .ref b14, .ref b15, .ref b16, .ref b17, .ref b18, .ref b19, .ref b20, .ref b21])), (b19, .inr (10, [.int 0, .int 0, .int 0, .int 0, .int 0, .int 0, .int 0, .int 0, .int 0, .int 0])), (b5, .inr (2, [.int 0, .int 1, .int 0, .ref b22, .ref b23, .ref b24]))] (fun v _ => v = some (.int (a_rules p0 p1 p2))) := by
  refine z_start (by decide +kernel) (Nat.le_of_ble_eq_true rfl) ?_
  intro p e s m below meth c A Z hr hnm hA hP hD hS ls hl
  have Z : zC p s m _ meth c prog_1_method_21_code 8 "TraceMachines" G := Z
  obtain ⟨hx, hb, hml, hown, hts, hK, hN, hlocks⟩ := id Z
  have hl : lv_has ls 8 [(0, .ref b0), (1, .int p0), (2, .int p1), (3, .int p2)] := hl
  refine lv_iload_n hx hb d_X_rules_0 rfl (lv_at hl 1 rfl) ?_
  refine z_callS (index := 305) (As := [.int p0]) (rest := []) (wr := [(b0, .inr (0, [.ref b4, .ref b5, .ref b6, .ref b7, .int 0, .int 0, .ref b8, .ref b9, .ref b10, .ref b11, .ref b12, .ref b13, .ref b14, .ref b15, .ref b16, .ref b17, .ref b18, .ref b19, .ref b20, .ref b21])), (b19, .inr (10, [.int 0, .int 0, .int 0, .int 0, .int 0, .int 0, .int 0, .int 0, .int 0, .int 0])), (b5, .inr (2, [.int 0, .int 1, .int 0, .ref b22, .ref b23, .ref b24]))]) Z (c1_X_isKind l G (p0)) hl.1 q915 q916 q1 q917 ⟨by decide, by decide, by show _ = some 1; decide +kernel⟩ ⟨Nat.le_of_ble_eq_true rfl, Nat.le_of_ble_eq_true rfl⟩ ⟨Nat.le_of_ble_eq_true rfl, Nat.le_of_ble_eq_true rfl⟩ rfl (Nat.le_of_ble_eq_true rfl) d_X_rules_1 hP hD hS hA [] [0, 1, 2] rfl rfl rfl rfl (by decide) (fun v w1 H locs hw_1 hP hD hS => ?_)
  rcases hw_1 with ⟨rfl, rfl, hq_2⟩ | ⟨rfl, rfl, hq_3, hq_4⟩ | ⟨rfl, rfl, hq_5, hq_6⟩
  · try simp only [Int32.toInt_toInt64, li_0] at hq_2
    have hP : va_P G.1 classes [(b0, .inr (0, [.ref b4, .ref b5, .ref b6, .ref b7, .int 0, .int 0, .ref b8, .ref b9, .ref b10, .ref b11, .ref b12, .ref b13, .ref b14, .ref b15, .ref b16, .ref b17, .ref b18, .ref b19, .ref b20, .ref b21])), (b19, .inr (10, [.int 0, .int 0, .int 0, .int 0, .int 0, .int 0, .int 0, .int 0, .int 0, .int 0])), (b5, .inr (2, [.int 0, .int 1, .int 0, .ref b22, .ref b23, .ref b24]))] H := hP
    have hD := z_tie hP hD rfl
    refine W.widen (k := 0) (n := 0) (Nat.le_of_ble_eq_true rfl) (Nat.le_of_ble_eq_true rfl) ?_
    refine lv_if_eq (tgt := 23) hx hb d_X_rules_4 (by decide) (fun _ => ?_) (fun hc => absurd hc (by decide +kernel))
    refine lv_iconst (v := (-1)) hx hb d_X_rules_23 (by decide) ?_
    exact z_iret hx hb hr hlocks hP hD hS (Nat.le_of_ble_eq_true rfl) (Nat.le_of_ble_eq_true rfl) d_X_rules_24 (congrArg (fun z => some (Value.int z)) (by unfold a_rules; (first | rfl | (repeat (first | rw [if_pos (by omega)] | rw [if_neg (by omega)])))))
  · try simp only [Int32.toInt_toInt64, li_0] at hq_3
    try simp only [Int32.toInt_toInt64, li_6] at hq_4
    have hP : va_P G.1 classes [(b0, .inr (0, [.ref b4, .ref b5, .ref b6, .ref b7, .int 0, .int 0, .ref b8, .ref b9, .ref b10, .ref b11, .ref b12, .ref b13, .ref b14, .ref b15, .ref b16, .ref b17, .ref b18, .ref b19, .ref b20, .ref b21])), (b19, .inr (10, [.int 0, .int 0, .int 0, .int 0, .int 0, .int 0, .int 0, .int 0, .int 0, .int 0])), (b5, .inr (2, [.int 0, .int 1, .int 0, .ref b22, .ref b23, .ref b24]))] H := hP
    have hD := z_tie hP hD rfl
    refine W.widen (k := 0) (n := 0) (Nat.le_of_ble_eq_true rfl) (Nat.le_of_ble_eq_true rfl) ?_
    refine lv_if_eq (tgt := 23) hx hb d_X_rules_4 (by decide) (fun _ => ?_) (fun hc => absurd hc (by decide +kernel))
    refine lv_iconst (v := (-1)) hx hb d_X_rules_23 (by decide) ?_
    exact z_iret hx hb hr hlocks hP hD hS (Nat.le_of_ble_eq_true rfl) (Nat.le_of_ble_eq_true rfl) d_X_rules_24 (congrArg (fun z => some (Value.int z)) (by unfold a_rules; (first | rfl | (repeat (first | rw [if_pos (by omega)] | rw [if_neg (by omega)])))))
  · try simp only [Int32.toInt_toInt64, li_0] at hq_5
    try simp only [Int32.toInt_toInt64, li_6] at hq_6
    have hP : va_P G.1 classes [(b0, .inr (0, [.ref b4, .ref b5, .ref b6, .ref b7, .int 0, .int 0, .ref b8, .ref b9, .ref b10, .ref b11, .ref b12, .ref b13, .ref b14, .ref b15, .ref b16, .ref b17, .ref b18, .ref b19, .ref b20, .ref b21])), (b19, .inr (10, [.int 0, .int 0, .int 0, .int 0, .int 0, .int 0, .int 0, .int 0, .int 0, .int 0])), (b5, .inr (2, [.int 0, .int 1, .int 0, .ref b22, .ref b23, .ref b24]))] H := hP
    have hD := z_tie hP hD rfl
    refine W.widen (k := 0) (n := 0) (Nat.le_of_ble_eq_true rfl) (Nat.le_of_ble_eq_true rfl) ?_
    refine lv_if_eq (tgt := 23) hx hb d_X_rules_4 (by decide) (fun hc => absurd hc (by decide +kernel)) (fun _ => ?_)
    refine lv_iload_n hx hb d_X_rules_7 rfl (lv_at hl 2 rfl) ?_
    refine lv_iconst (v := 1) hx hb d_X_rules_8 (by decide) ?_
    refine lv_icmp_lt (tgt := 23) hx hb d_X_rules_9 (by decide) (fun hc_7 => ?_) (fun hc_7 => ?_)
    · simp only [fa_lt, fa_le, fa_eq, Int32.toInt_toInt64, li_1] at hc_7
      refine lv_iconst (v := (-1)) hx hb d_X_rules_23 (by decide) ?_
      exact z_iret hx hb hr hlocks hP hD hS (Nat.le_of_ble_eq_true rfl) (Nat.le_of_ble_eq_true rfl) d_X_rules_24 (congrArg (fun z => some (Value.int z)) (by unfold a_rules; (first | rfl | (repeat (first | rw [if_pos (by omega)] | rw [if_neg (by omega)])))))
    · simp only [fa_lt, fa_le, fa_eq, Int32.toInt_toInt64, li_1] at hc_7
      refine lv_iload_n hx hb d_X_rules_12 rfl (lv_at hl 2 rfl) ?_
      refine lv_bipush (v := 20) hx hb d_X_rules_13 (by decide) ?_
      refine lv_icmp_gt (tgt := 23) hx hb d_X_rules_15 (by decide) (fun hc_8 => ?_) (fun hc_8 => ?_)
      · simp only [fa_lt, fa_le, fa_eq, Int32.toInt_toInt64, li_20] at hc_8
        refine lv_iconst (v := (-1)) hx hb d_X_rules_23 (by decide) ?_
        exact z_iret hx hb hr hlocks hP hD hS (Nat.le_of_ble_eq_true rfl) (Nat.le_of_ble_eq_true rfl) d_X_rules_24 (congrArg (fun z => some (Value.int z)) (by unfold a_rules; (first | rfl | (repeat (first | rw [if_pos (by omega)] | rw [if_neg (by omega)])))))
      · simp only [fa_lt, fa_le, fa_eq, Int32.toInt_toInt64, li_20] at hc_8
        refine lv_iload_n hx hb d_X_rules_18 rfl (lv_at hl 3 rfl) ?_
        refine lv_iconst (v := (-1)) hx hb d_X_rules_19 (by decide) ?_
        refine lv_icmp_ge (tgt := 25) hx hb d_X_rules_20 (by decide) (fun hc_9 => ?_) (fun hc_9 => ?_)
        · simp only [fa_lt, fa_le, fa_eq, Int32.toInt_toInt64, li_m1] at hc_9
          refine lv_iconst (v := 0) hx hb d_X_rules_25 (by decide) ?_
          refine lv_istore (lv' := [(4, .int 0), (0, .ref b0), (1, .int p0), (2, .int p1), (3, .int p2)]) hx hb d_X_rules_26 hl (by decide) rfl (fun ls hl => ?_)
          refine lv_iconst (v := 0) hx hb d_X_rules_28 (by decide) ?_
          refine lv_istore (lv' := [(5, .int 0), (4, .int 0), (0, .ref b0), (1, .int p0), (2, .int p1), (3, .int p2)]) hx hb d_X_rules_29 hl (by decide) rfl (fun ls hl => ?_)
          suffices key : ∀ (k_11 i_10 : Nat) (H : Heap) (locs : List Loc) (ls : Array Slot), i_10 + k_11 = 100 → va_P G.1 classes [(b0, .inr (0, [.ref b4, .ref b5, .ref b6, .ref b7, .int 0, .int 0, .ref b8, .ref b9, .ref b10, .ref b11, .ref b12, .ref b13, .ref b14, .ref b15, .ref b16, .ref b17, .ref b18, .ref b19, .ref b20, .ref b21])), (b19, .inr (10, [.int 0, .int 0, .int 0, .int 0, .int 0, .int 0, .int 0, .int 0, .int 0, .int 0])), (b5, .inr (2, [.int 0, .int 1, .int 0, .ref b22, .ref b23, .ref b24]))] H → va_D A [(b0, .inr (0, [.ref b4, .ref b5, .ref b6, .ref b7, .int 0, .int 0, .ref b8, .ref b9, .ref b10, .ref b11, .ref b12, .ref b13, .ref b14, .ref b15, .ref b16, .ref b17, .ref b18, .ref b19, .ref b20, .ref b21])), (b19, .inr (10, [.int 0, .int 0, .int 0, .int 0, .int 0, .int 0, .int 0, .int 0, .int 0, .int 0])), (b5, .inr (2, [.int 0, .int 1, .int 0, .ref b22, .ref b23, .ref b24]))] → va_S A s.heap H locs → lv_has ls 8 [(5, .int (nI i_10)), (4, .int 0), (0, .ref b0), (1, .int p0), (2, .int p1), (3, .int p2)] → W p l e m_t_X_rules s m ([.ref b0, .int p0, .int p1, .int p2] : List Value).toArray below meth c H locs 0 0 (MQ below (zQ G (fun v _ => v = some (.int (a_rules p0 p1 p2))) A) ([.ref b0, .int p0, .int p1, .int p2] : List Value).toArray s m_t_X_rules.cells m_t_X_rules.slots A) (F0 m 31 ls []) by
            exact key (100) 0  _ _ _ (by omega) hP hD hS (lv_sub hl [0, 1, 2, 3, 4, 5] rfl)
          intro k_11
          induction k_11 with
          | zero =>
            intro i_10 H locs ls hik hP hD hS hl
            obtain rfl : i_10 = 100 := by omega
            have hl : lv_has ls 8 [(5, .int (nI 100)), (4, .int 0), (0, .ref b0), (1, .int p0), (2, .int p1), (3, .int p2)] := hl
            refine lv_iload hx hb d_X_rules_31 (lv_at hl 0 rfl) ?_
            refine lv_bipush (v := 100) hx hb d_X_rules_33 (by decide) ?_
            refine lv_icmp_ge (tgt := 97) hx hb d_X_rules_35 (by decide) (fun _ => ?_) (fun hc => absurd hc (by decide +kernel))
            refine lv_iload_n hx hb d_X_rules_97 rfl (lv_at hl 5 rfl) ?_
            refine lv_iconst (v := (-1)) hx hb d_X_rules_98 (by decide) ?_
            refine lv_icmp_ne (tgt := 107) hx hb d_X_rules_99 (by decide) (fun hc_12 => ?_) (fun hc_12 => ?_)
            · simp only [fa_lt, fa_le, fa_eq, Int32.toInt_toInt64, li_m1] at hc_12
              refine lv_iconst (v := (-1)) hx hb d_X_rules_107 (by decide) ?_
              exact z_iret hx hb hr hlocks hP hD hS (Nat.le_of_ble_eq_true rfl) (Nat.le_of_ble_eq_true rfl) d_X_rules_108 (congrArg (fun z => some (Value.int z)) (by unfold a_rules; (first | rfl | (repeat (first | rw [if_pos (by omega)] | rw [if_neg (by omega)])))))
            · simp only [fa_lt, fa_le, fa_eq, Int32.toInt_toInt64, li_m1] at hc_12
              refine lv_iload hx hb d_X_rules_102 (lv_at hl 1 rfl) ?_
              refine lv_goto (tgt := 108) hx hb d_X_rules_104 (by decide) ?_
              exact z_iret hx hb hr hlocks hP hD hS (Nat.le_of_ble_eq_true rfl) (Nat.le_of_ble_eq_true rfl) d_X_rules_108 (congrArg (fun z => some (Value.int z)) (by unfold a_rules; (first | rfl | (repeat (first | rw [if_pos (by omega)] | rw [if_neg (by omega)])))))
          | succ k_11 ih =>
            intro i_10 H locs ls hik hP hD hS hl
            have hilt : i_10 < 100 := by omega
            refine lv_iload hx hb d_X_rules_31 (lv_at hl 0 rfl) ?_
            refine lv_bipush (v := 100) hx hb d_X_rules_33 (by decide) ?_
            refine lv_icmp_ge (tgt := 97) hx hb d_X_rules_35 (by decide) (fun hc => absurd hc (nI_ge hilt (by decide))) (fun _ => ?_)
            refine lv_iload hx hb d_X_rules_38 (lv_at hl 0 rfl) ?_
            refine lv_bipush (v := 10) hx hb d_X_rules_40 (by decide) ?_
            refine lv_idiv hx hb d_X_rules_42 (by decide +kernel) ?_
            refine lv_topi (fun v_13 ev_13 => ?_)
            refine lv_istore (lv' := [(6, .int v_13), (5, .int (nI i_10)), (4, .int 0), (0, .ref b0), (1, .int p0), (2, .int p1), (3, .int p2)]) hx hb d_X_rules_43 hl (by decide) rfl (fun ls hl => ?_)
            refine lv_iload hx hb d_X_rules_45 (lv_at hl 1 rfl) ?_
            refine lv_bipush (v := 10) hx hb d_X_rules_47 (by decide) ?_
            refine lv_irem hx hb d_X_rules_49 (by decide +kernel) ?_
            refine lv_topi (fun v_14 ev_14 => ?_)
            refine lv_istore (lv' := [(7, .int v_14), (6, .int v_13), (5, .int (nI i_10)), (4, .int 0), (0, .ref b0), (1, .int p0), (2, .int p1), (3, .int p2)]) hx hb d_X_rules_50 hl (by decide) rfl (fun ls hl => ?_)
            refine lv_iload hx hb d_X_rules_52 (lv_at hl 1 rfl) ?_
            refine lv_iload hx hb d_X_rules_54 (lv_at hl 0 rfl) ?_
            refine lv_icmp_eq (tgt := 91) hx hb d_X_rules_56 (by decide) (fun hc_15 => ?_) (fun hc_15 => ?_)
            · simp only [fa_lt, fa_le, fa_eq, Int32.toInt_toInt64] at hc_15
              refine lv_iinc (v := (nI (i_10 + 1))) (lv' := [(5, .int (nI (i_10 + 1))), (7, .int v_14), (6, .int v_13), (4, .int 0), (0, .ref b0), (1, .int p0), (2, .int p1), (3, .int p2)]) hx hb d_X_rules_91 hl (k := 2) rfl (nI_1 i_10) (by decide) rfl (fun ls hl => ?_)
              refine lv_goto (tgt := 31) hx hb d_X_rules_94 (by decide) ?_
              exact ih (i_10 + 1)  _ _ _ (by omega)  hP hD hS (lv_sub hl [0, 3, 4, 5, 6, 7] rfl)
            · simp only [fa_lt, fa_le, fa_eq, Int32.toInt_toInt64] at hc_15
              refine lv_aload_n hx hb d_X_rules_59 rfl (lv_at hl 4 rfl) ?_
              refine va_get (D := G.1) (ci := 0) (v := .ref b19) (C := R_X) (T := F_X) (N := 20) hx hb hts i_X hown hK hP 0 rfl rfl 17 (by decide) (hts _ q434) (fun _ h9 => h9) rfl d_X_rules_60 ?_
              refine lv_aload_n hx hb d_X_rules_63 rfl (lv_at hl 4 rfl) ?_
              refine va_get (D := G.1) (ci := 0) (v := .ref b5) (C := R_X) (T := F_X) (N := 20) hx hb hts i_X hown hK hP 0 rfl rfl 1 (by decide) (hts _ q418) (fun _ h9 => h9) rfl d_X_rules_64 ?_
              refine lv_iload_n hx hb d_X_rules_67 rfl (lv_at hl 5 rfl) ?_
              refine lv_iload hx hb d_X_rules_68 (lv_at hl 1 rfl) ?_
              refine lv_iload hx hb d_X_rules_70 (lv_at hl 0 rfl) ?_
              refine lv_iload_n hx hb d_X_rules_72 rfl (lv_at hl 6 rfl) ?_
              refine z_callV (index := 321) (As := [.ref b5, .int p0, .int v_13, .int v_14, .int p1]) (rest := []) (wr := [(b0, .inr (0, [.ref b4, .ref b5, .ref b6, .ref b7, .int 0, .int 0, .ref b8, .ref b9, .ref b10, .ref b11, .ref b12, .ref b13, .ref b14, .ref b15, .ref b16, .ref b17, .ref b18, .ref b19, .ref b20, .ref b21]))]) Z (c1_Pair_stands l G (b19) (b5) (p0) (v_13) (v_14) (p1) (b22) (b23) (b24) (by first | assumption | decide +kernel | omega) (by first | assumption | decide +kernel | omega) (by first | assumption | decide +kernel | omega) (by first | assumption | decide +kernel | omega)) hl.1 q952 q953 q954 q11 q955 ⟨by decide, by decide, by show _ = some 5; decide +kernel⟩ ⟨Nat.le_of_ble_eq_true rfl, Nat.le_of_ble_eq_true rfl⟩ ⟨Nat.le_of_ble_eq_true rfl, Nat.le_of_ble_eq_true rfl⟩ rfl (Nat.le_of_ble_eq_true rfl) d_X_rules_73 hP hD hS hA 1 10 rfl rfl rfl [1, 2] [0] rfl rfl rfl rfl (by decide) (fun v w1 H locs hw_16 hP hD hS => ?_)
              obtain ⟨rfl, rfl⟩ := hw_16
              have hP : va_P G.1 classes [(b0, .inr (0, [.ref b4, .ref b5, .ref b6, .ref b7, .int 0, .int 0, .ref b8, .ref b9, .ref b10, .ref b11, .ref b12, .ref b13, .ref b14, .ref b15, .ref b16, .ref b17, .ref b18, .ref b19, .ref b20, .ref b21])), (b19, .inr (10, [.int 0, .int 0, .int 0, .int 0, .int 0, .int 0, .int 0, .int 0, .int 0, .int 0])), (b5, .inr (2, [.int 0, .int 1, .int 0, .ref b22, .ref b23, .ref b24]))] H := hP
              have hD := z_tie hP hD rfl
              refine W.widen (k := 0) (n := 0) (Nat.le_of_ble_eq_true rfl) (Nat.le_of_ble_eq_true rfl) ?_
              refine lv_if_eq (tgt := 91) hx hb d_X_rules_76 (by decide) (fun _ => ?_) (fun hc => absurd hc (by decide +kernel))
              refine lv_iinc (v := (nI (i_10 + 1))) (lv' := [(5, .int (nI (i_10 + 1))), (7, .int v_14), (6, .int v_13), (4, .int 0), (0, .ref b0), (1, .int p0), (2, .int p1), (3, .int p2)]) hx hb d_X_rules_91 hl (k := 2) rfl (nI_1 i_10) (by decide) rfl (fun ls hl => ?_)
              refine lv_goto (tgt := 31) hx hb d_X_rules_94 (by decide) ?_
              exact ih (i_10 + 1)  _ _ _ (by omega)  hP hD hS (lv_sub hl [0, 3, 4, 5, 6, 7] rfl)
        · simp only [fa_lt, fa_le, fa_eq, Int32.toInt_toInt64, li_m1] at hc_9
          refine lv_iconst (v := (-1)) hx hb d_X_rules_23 (by decide) ?_
          exact z_iret hx hb hr hlocks hP hD hS (Nat.le_of_ble_eq_true rfl) (Nat.le_of_ble_eq_true rfl) d_X_rules_24 (congrArg (fun z => some (Value.int z)) (by unfold a_rules; (first | rfl | (repeat (first | rw [if_pos (by omega)] | rw [if_neg (by omega)])))))
theorem d_X_odd_0 : decode prog_1_method_22_code 0 = .ok (.aload_n 0, 1) := by decide +kernel
theorem d_X_odd_1 : decode prog_1_method_22_code 1 = .ok (.getfield 19, 3) := by decide +kernel
theorem d_X_odd_4 : decode prog_1_method_22_code 4 = .ok (.iload_n 1, 1) := by decide +kernel
theorem d_X_odd_5 : decode prog_1_method_22_code 5 = .ok (.invokevirtual 146, 3) := by decide +kernel
theorem d_X_odd_8 : decode prog_1_method_22_code 8 = .ok (.ifCond .eq 12, 3) := by decide +kernel
theorem d_X_odd_20 : decode prog_1_method_22_code 20 = .ok (.iconst (-1), 1) := by decide +kernel
theorem d_X_odd_21 : decode prog_1_method_22_code 21 = .ok (.ireturn, 1) := by decide +kernel
abbrev m_t_X_odd : Room := { frames := 1, cells := 0, slots := 0, locals := 21 }
set_option maxHeartbeats 4000000 in
set_option maxRecDepth 100000 in
theorem t_X_odd (l : Launch) (G : zG) (b0 : Nat) (p0 : Int32) (p1 : Int32) (b3 : Nat) (b4 : Nat) (b5 : Nat) (b6 : Nat) (b7 : Nat) (b8 : Nat) (b9 : Nat) (b10 : Nat) (b11 : Nat) (b12 : Nat) (b13 : Nat) (b14 : Nat) (b15 : Nat) (b16 : Nat) (b17 : Nat) (b18 : Nat) (b19 : Nat) (b20 : Nat) (b21 : Nat) (b22 : Nat) (b23 : Nat)  : zM l G y_X_odd prog_1_method_22_code 3 (Option.some Jvm.ClassFile.FieldType.int) m_t_X_odd [.ref b0, .int p0, .int p1] [(b0, .inr (0, [.ref b3, .ref b4, .ref b5, .ref b6, .int 0, .int 0, .ref b7, .ref b8, .ref b9, .ref b10, .ref b11, .ref b12, .ref b13, .ref b14, .ref b15, .ref b16, .ref b17, .ref b18, .ref b19, .ref b20])), (b4, .inr (2, [.int 0, .int 1, .int 0, .ref b21, .ref b22, .ref b23]))] (fun v _ => v = some (.int (a_odd p0 p1))) := by
  refine z_start (by decide +kernel) (Nat.le_of_ble_eq_true rfl) ?_
  intro p e s m below meth c A Z hr hnm hA hP hD hS ls hl
  have Z : zC p s m _ meth c prog_1_method_22_code 3 "TraceMachines" G := Z
  obtain ⟨hx, hb, hml, hown, hts, hK, hN, hlocks⟩ := id Z
  have hl : lv_has ls 3 [(0, .ref b0), (1, .int p0), (2, .int p1)] := hl
  refine lv_aload_n hx hb d_X_odd_0 rfl (lv_at hl 0 rfl) ?_
  refine va_get (D := G.1) (ci := 0) (v := .ref b4) (C := R_X) (T := F_X) (N := 20) hx hb hts i_X hown hK hP 0 rfl rfl 1 (by decide) (hts _ q418) (fun _ h9 => h9) rfl d_X_odd_1 ?_
  refine lv_iload_n hx hb d_X_odd_4 rfl (lv_at hl 1 rfl) ?_
  refine z_callV (index := 146) (As := [.int p0]) (rest := []) (wr := [(b0, .inr (0, [.ref b3, .ref b4, .ref b5, .ref b6, .int 0, .int 0, .ref b7, .ref b8, .ref b9, .ref b10, .ref b11, .ref b12, .ref b13, .ref b14, .ref b15, .ref b16, .ref b17, .ref b18, .ref b19, .ref b20]))]) Z (c1_Traces_has l G (b4) (p0) (b21) (b22) (b23)) hl.1 q536 q537 q538 q3 q539 ⟨by decide, by decide, by show _ = some 1; decide +kernel⟩ ⟨Nat.le_of_ble_eq_true rfl, Nat.le_of_ble_eq_true rfl⟩ ⟨Nat.le_of_ble_eq_true rfl, Nat.le_of_ble_eq_true rfl⟩ rfl (Nat.le_of_ble_eq_true rfl) d_X_odd_5 hP hD hS hA 1 2 rfl rfl rfl [1] [0] rfl rfl rfl rfl (by decide) (fun v w1 H locs hw_1 hP hD hS => ?_)
  obtain ⟨rfl, rfl⟩ := hw_1
  have hP : va_P G.1 classes [(b0, .inr (0, [.ref b3, .ref b4, .ref b5, .ref b6, .int 0, .int 0, .ref b7, .ref b8, .ref b9, .ref b10, .ref b11, .ref b12, .ref b13, .ref b14, .ref b15, .ref b16, .ref b17, .ref b18, .ref b19, .ref b20])), (b4, .inr (2, [.int 0, .int 1, .int 0, .ref b21, .ref b22, .ref b23]))] H := hP
  have hD := z_tie hP hD rfl
  refine W.widen (k := 0) (n := 0) (Nat.le_of_ble_eq_true rfl) (Nat.le_of_ble_eq_true rfl) ?_
  refine lv_if_eq (tgt := 20) hx hb d_X_odd_8 (by decide) (fun _ => ?_) (fun hc => absurd hc (by decide +kernel))
  refine lv_iconst (v := (-1)) hx hb d_X_odd_20 (by decide) ?_
  exact z_iret hx hb hr hlocks hP hD hS (Nat.le_of_ble_eq_true rfl) (Nat.le_of_ble_eq_true rfl) d_X_odd_21 (congrArg (fun z => some (Value.int z)) (by unfold a_odd; (first | rfl | (repeat (first | rw [if_pos (by omega)] | rw [if_neg (by omega)])))))
theorem d_X_oddest_0 : decode prog_1_method_23_code 0 = .ok (.aload_n 0, 1) := by decide +kernel
theorem d_X_oddest_1 : decode prog_1_method_23_code 1 = .ok (.getfield 19, 3) := by decide +kernel
theorem d_X_oddest_4 : decode prog_1_method_23_code 4 = .ok (.iload_n 1, 1) := by decide +kernel
theorem d_X_oddest_5 : decode prog_1_method_23_code 5 = .ok (.invokevirtual 146, 3) := by decide +kernel
theorem d_X_oddest_8 : decode prog_1_method_23_code 8 = .ok (.ifCond .ne 5, 3) := by decide +kernel
theorem d_X_oddest_11 : decode prog_1_method_23_code 11 = .ok (.iconst (-1), 1) := by decide +kernel
theorem d_X_oddest_12 : decode prog_1_method_23_code 12 = .ok (.ireturn, 1) := by decide +kernel
abbrev m_t_X_oddest : Room := { frames := 1, cells := 0, slots := 0, locals := 21 }
set_option maxHeartbeats 4000000 in
set_option maxRecDepth 100000 in
theorem t_X_oddest (l : Launch) (G : zG) (b0 : Nat) (p0 : Int32) (b2 : Nat) (b3 : Nat) (b4 : Nat) (b5 : Nat) (b6 : Nat) (b7 : Nat) (b8 : Nat) (b9 : Nat) (b10 : Nat) (b11 : Nat) (b12 : Nat) (b13 : Nat) (b14 : Nat) (b15 : Nat) (b16 : Nat) (b17 : Nat) (b18 : Nat) (b19 : Nat) (b20 : Nat) (b21 : Nat) (b22 : Nat)  : zM l G y_X_oddest prog_1_method_23_code 3 (Option.some Jvm.ClassFile.FieldType.int) m_t_X_oddest [.ref b0, .int p0] [(b0, .inr (0, [.ref b2, .ref b3, .ref b4, .ref b5, .int 0, .int 0, .ref b6, .ref b7, .ref b8, .ref b9, .ref b10, .ref b11, .ref b12, .ref b13, .ref b14, .ref b15, .ref b16, .ref b17, .ref b18, .ref b19])), (b3, .inr (2, [.int 0, .int 1, .int 0, .ref b20, .ref b21, .ref b22]))] (fun v _ => v = some (.int (a_oddest p0))) := by
  refine z_start (by decide +kernel) (Nat.le_of_ble_eq_true rfl) ?_
  intro p e s m below meth c A Z hr hnm hA hP hD hS ls hl
  have Z : zC p s m _ meth c prog_1_method_23_code 3 "TraceMachines" G := Z
  obtain ⟨hx, hb, hml, hown, hts, hK, hN, hlocks⟩ := id Z
  have hl : lv_has ls 3 [(0, .ref b0), (1, .int p0)] := hl
  refine lv_aload_n hx hb d_X_oddest_0 rfl (lv_at hl 0 rfl) ?_
  refine va_get (D := G.1) (ci := 0) (v := .ref b3) (C := R_X) (T := F_X) (N := 20) hx hb hts i_X hown hK hP 0 rfl rfl 1 (by decide) (hts _ q418) (fun _ h9 => h9) rfl d_X_oddest_1 ?_
  refine lv_iload_n hx hb d_X_oddest_4 rfl (lv_at hl 1 rfl) ?_
  refine z_callV (index := 146) (As := [.int p0]) (rest := []) (wr := [(b0, .inr (0, [.ref b2, .ref b3, .ref b4, .ref b5, .int 0, .int 0, .ref b6, .ref b7, .ref b8, .ref b9, .ref b10, .ref b11, .ref b12, .ref b13, .ref b14, .ref b15, .ref b16, .ref b17, .ref b18, .ref b19]))]) Z (c1_Traces_has l G (b3) (p0) (b20) (b21) (b22)) hl.1 q536 q537 q538 q3 q539 ⟨by decide, by decide, by show _ = some 1; decide +kernel⟩ ⟨Nat.le_of_ble_eq_true rfl, Nat.le_of_ble_eq_true rfl⟩ ⟨Nat.le_of_ble_eq_true rfl, Nat.le_of_ble_eq_true rfl⟩ rfl (Nat.le_of_ble_eq_true rfl) d_X_oddest_5 hP hD hS hA 1 2 rfl rfl rfl [1] [0] rfl rfl rfl rfl (by decide) (fun v w1 H locs hw_1 hP hD hS => ?_)
  obtain ⟨rfl, rfl⟩ := hw_1
  have hP : va_P G.1 classes [(b0, .inr (0, [.ref b2, .ref b3, .ref b4, .ref b5, .int 0, .int 0, .ref b6, .ref b7, .ref b8, .ref b9, .ref b10, .ref b11, .ref b12, .ref b13, .ref b14, .ref b15, .ref b16, .ref b17, .ref b18, .ref b19])), (b3, .inr (2, [.int 0, .int 1, .int 0, .ref b20, .ref b21, .ref b22]))] H := hP
  have hD := z_tie hP hD rfl
  refine W.widen (k := 0) (n := 0) (Nat.le_of_ble_eq_true rfl) (Nat.le_of_ble_eq_true rfl) ?_
  refine lv_if_ne (tgt := 13) hx hb d_X_oddest_8 (by decide) (fun hc => absurd hc (by decide +kernel)) (fun _ => ?_)
  refine lv_iconst (v := (-1)) hx hb d_X_oddest_11 (by decide) ?_
  exact z_iret hx hb hr hlocks hP hD hS (Nat.le_of_ble_eq_true rfl) (Nat.le_of_ble_eq_true rfl) d_X_oddest_12 (congrArg (fun z => some (Value.int z)) (by unfold a_oddest; (first | rfl | (repeat (first | rw [if_pos (by omega)] | rw [if_neg (by omega)])))))
theorem d_X_held_0 : decode prog_1_method_24_code 0 = .ok (.aload_n 0, 1) := by decide +kernel
theorem d_X_held_1 : decode prog_1_method_24_code 1 = .ok (.getfield 19, 3) := by decide +kernel
theorem d_X_held_4 : decode prog_1_method_24_code 4 = .ok (.iload_n 1, 1) := by decide +kernel
theorem d_X_held_5 : decode prog_1_method_24_code 5 = .ok (.invokevirtual 146, 3) := by decide +kernel
theorem d_X_held_8 : decode prog_1_method_24_code 8 = .ok (.ifCond .eq 10, 3) := by decide +kernel
theorem d_X_held_18 : decode prog_1_method_24_code 18 = .ok (.iconst (-1), 1) := by decide +kernel
theorem d_X_held_19 : decode prog_1_method_24_code 19 = .ok (.ireturn, 1) := by decide +kernel
abbrev m_t_X_held : Room := { frames := 1, cells := 0, slots := 0, locals := 21 }
set_option maxHeartbeats 4000000 in
set_option maxRecDepth 100000 in
theorem t_X_held (l : Launch) (G : zG) (b0 : Nat) (p0 : Int32) (p1 : Int32) (p2 : Int32) (b4 : Nat) (b5 : Nat) (b6 : Nat) (b7 : Nat) (b8 : Nat) (b9 : Nat) (b10 : Nat) (b11 : Nat) (b12 : Nat) (b13 : Nat) (b14 : Nat) (b15 : Nat) (b16 : Nat) (b17 : Nat) (b18 : Nat) (b19 : Nat) (b20 : Nat) (b21 : Nat) (b22 : Nat) (b23 : Nat) (b24 : Nat)  : zM l G y_X_held prog_1_method_24_code 4 (Option.some Jvm.ClassFile.FieldType.int) m_t_X_held [.ref b0, .int p0, .int p1, .int p2] [(b0, .inr (0, [.ref b4, .ref b5, .ref b6, .ref b7, .int 0, .int 0, .ref b8, .ref b9, .ref b10, .ref b11, .ref b12, .ref b13, .ref b14, .ref b15, .ref b16, .ref b17, .ref b18, .ref b19, .ref b20, .ref b21])), (b5, .inr (2, [.int 0, .int 1, .int 0, .ref b22, .ref b23, .ref b24]))] (fun v _ => v = some (.int (a_held p0 p1 p2))) := by
  refine z_start (by decide +kernel) (Nat.le_of_ble_eq_true rfl) ?_
  intro p e s m below meth c A Z hr hnm hA hP hD hS ls hl
  have Z : zC p s m _ meth c prog_1_method_24_code 4 "TraceMachines" G := Z
  obtain ⟨hx, hb, hml, hown, hts, hK, hN, hlocks⟩ := id Z
  have hl : lv_has ls 4 [(0, .ref b0), (1, .int p0), (2, .int p1), (3, .int p2)] := hl
  refine lv_aload_n hx hb d_X_held_0 rfl (lv_at hl 0 rfl) ?_
  refine va_get (D := G.1) (ci := 0) (v := .ref b5) (C := R_X) (T := F_X) (N := 20) hx hb hts i_X hown hK hP 0 rfl rfl 1 (by decide) (hts _ q418) (fun _ h9 => h9) rfl d_X_held_1 ?_
  refine lv_iload_n hx hb d_X_held_4 rfl (lv_at hl 1 rfl) ?_
  refine z_callV (index := 146) (As := [.int p0]) (rest := []) (wr := [(b0, .inr (0, [.ref b4, .ref b5, .ref b6, .ref b7, .int 0, .int 0, .ref b8, .ref b9, .ref b10, .ref b11, .ref b12, .ref b13, .ref b14, .ref b15, .ref b16, .ref b17, .ref b18, .ref b19, .ref b20, .ref b21]))]) Z (c1_Traces_has l G (b5) (p0) (b22) (b23) (b24)) hl.1 q536 q537 q538 q3 q539 ⟨by decide, by decide, by show _ = some 1; decide +kernel⟩ ⟨Nat.le_of_ble_eq_true rfl, Nat.le_of_ble_eq_true rfl⟩ ⟨Nat.le_of_ble_eq_true rfl, Nat.le_of_ble_eq_true rfl⟩ rfl (Nat.le_of_ble_eq_true rfl) d_X_held_5 hP hD hS hA 1 2 rfl rfl rfl [1] [0] rfl rfl rfl rfl (by decide) (fun v w1 H locs hw_1 hP hD hS => ?_)
  obtain ⟨rfl, rfl⟩ := hw_1
  have hP : va_P G.1 classes [(b0, .inr (0, [.ref b4, .ref b5, .ref b6, .ref b7, .int 0, .int 0, .ref b8, .ref b9, .ref b10, .ref b11, .ref b12, .ref b13, .ref b14, .ref b15, .ref b16, .ref b17, .ref b18, .ref b19, .ref b20, .ref b21])), (b5, .inr (2, [.int 0, .int 1, .int 0, .ref b22, .ref b23, .ref b24]))] H := hP
  have hD := z_tie hP hD rfl
  refine W.widen (k := 0) (n := 0) (Nat.le_of_ble_eq_true rfl) (Nat.le_of_ble_eq_true rfl) ?_
  refine lv_if_eq (tgt := 18) hx hb d_X_held_8 (by decide) (fun _ => ?_) (fun hc => absurd hc (by decide +kernel))
  refine lv_iconst (v := (-1)) hx hb d_X_held_18 (by decide) ?_
  exact z_iret hx hb hr hlocks hP hD hS (Nat.le_of_ble_eq_true rfl) (Nat.le_of_ble_eq_true rfl) d_X_held_19 (congrArg (fun z => some (Value.int z)) (by unfold a_held; (first | rfl | (repeat (first | rw [if_pos (by omega)] | rw [if_neg (by omega)])))))
theorem d_X_best_0 : decode prog_1_method_26_code 0 = .ok (.aload_n 0, 1) := by decide +kernel
theorem d_X_best_1 : decode prog_1_method_26_code 1 = .ok (.getfield 19, 3) := by decide +kernel
theorem d_X_best_4 : decode prog_1_method_26_code 4 = .ok (.getfield 143, 3) := by decide +kernel
theorem d_X_best_7 : decode prog_1_method_26_code 7 = .ok (.ifCond .eq 12, 3) := by decide +kernel
theorem d_X_best_19 : decode prog_1_method_26_code 19 = .ok (.iconst (-1), 1) := by decide +kernel
theorem d_X_best_20 : decode prog_1_method_26_code 20 = .ok (.ireturn, 1) := by decide +kernel
abbrev m_t_X_best : Room := { frames := 0, cells := 0, slots := 0, locals := 0 }
set_option maxHeartbeats 4000000 in
set_option maxRecDepth 100000 in
theorem t_X_best (l : Launch) (G : zG) (b0 : Nat) (p0 : Int32) (b2 : Nat) (b3 : Nat) (b4 : Nat) (b5 : Nat) (b6 : Nat) (b7 : Nat) (b8 : Nat) (b9 : Nat) (b10 : Nat) (b11 : Nat) (b12 : Nat) (b13 : Nat) (b14 : Nat) (b15 : Nat) (b16 : Nat) (b17 : Nat) (b18 : Nat) (b19 : Nat) (b20 : Nat) (b21 : Nat) (b22 : Nat)  : zM l G y_X_best prog_1_method_26_code 5 (Option.some Jvm.ClassFile.FieldType.int) m_t_X_best [.ref b0, .int p0] [(b0, .inr (0, [.ref b2, .ref b3, .ref b4, .ref b5, .int 0, .int 0, .ref b6, .ref b7, .ref b8, .ref b9, .ref b10, .ref b11, .ref b12, .ref b13, .ref b14, .ref b15, .ref b16, .ref b17, .ref b18, .ref b19])), (b3, .inr (2, [.int 0, .int 1, .int 0, .ref b20, .ref b21, .ref b22]))] (fun v _ => v = some (.int (a_best p0))) := by
  refine z_start (by decide +kernel) (Nat.le_of_ble_eq_true rfl) ?_
  intro p e s m below meth c A Z hr hnm hA hP hD hS ls hl
  have Z : zC p s m _ meth c prog_1_method_26_code 5 "TraceMachines" G := Z
  obtain ⟨hx, hb, hml, hown, hts, hK, hN, hlocks⟩ := id Z
  have hl : lv_has ls 5 [(0, .ref b0), (1, .int p0)] := hl
  refine lv_aload_n hx hb d_X_best_0 rfl (lv_at hl 0 rfl) ?_
  refine va_get (D := G.1) (ci := 0) (v := .ref b3) (C := R_X) (T := F_X) (N := 20) hx hb hts i_X hown hK hP 0 rfl rfl 1 (by decide) (hts _ q418) (fun _ h9 => h9) rfl d_X_best_1 ?_
  refine va_get (D := G.1) (ci := 2) (v := .int 0) (C := R_Traces) (T := F_Traces) (N := 6) hx hb hts i_Traces hown hK hP 1 rfl rfl 0 (by decide) (hts _ q58) (fun _ h9 => h9) rfl d_X_best_4 ?_
  refine lv_if_eq (tgt := 19) hx hb d_X_best_7 (by decide) (fun _ => ?_) (fun hc => absurd hc (by decide +kernel))
  refine lv_iconst (v := (-1)) hx hb d_X_best_19 (by decide) ?_
  exact z_iret hx hb hr hlocks hP hD hS (Nat.le_of_ble_eq_true rfl) (Nat.le_of_ble_eq_true rfl) d_X_best_20 (congrArg (fun z => some (Value.int z)) (by unfold a_best; (first | rfl | (repeat (first | rw [if_pos (by omega)] | rw [if_neg (by omega)])))))
theorem d_X_keep_0 : decode prog_1_method_27_code 0 = .ok (.iload_n 1, 1) := by decide +kernel
theorem d_X_keep_1 : decode prog_1_method_27_code 1 = .ok (.ifCond .lt 8, 3) := by decide +kernel
theorem d_X_keep_4 : decode prog_1_method_27_code 4 = .ok (.iload_n 1, 1) := by decide +kernel
theorem d_X_keep_5 : decode prog_1_method_27_code 5 = .ok (.iconst 2, 1) := by decide +kernel
theorem d_X_keep_6 : decode prog_1_method_27_code 6 = .ok (.if_icmp .lt 5, 3) := by decide +kernel
theorem d_X_keep_9 : decode prog_1_method_27_code 9 = .ok (.iconst 0, 1) := by decide +kernel
theorem d_X_keep_10 : decode prog_1_method_27_code 10 = .ok (.ireturn, 1) := by decide +kernel
theorem d_X_keep_11 : decode prog_1_method_27_code 11 = .ok (.aload_n 0, 1) := by decide +kernel
theorem d_X_keep_12 : decode prog_1_method_27_code 12 = .ok (.getfield 30, 3) := by decide +kernel
theorem d_X_keep_15 : decode prog_1_method_27_code 15 = .ok (.iload_n 1, 1) := by decide +kernel
theorem d_X_keep_16 : decode prog_1_method_27_code 16 = .ok (.aaload, 1) := by decide +kernel
theorem d_X_keep_17 : decode prog_1_method_27_code 17 = .ok (.ifnonnull 16, 3) := by decide +kernel
theorem d_X_keep_20 : decode prog_1_method_27_code 20 = .ok (.aload_n 0, 1) := by decide +kernel
theorem d_X_keep_21 : decode prog_1_method_27_code 21 = .ok (.getfield 30, 3) := by decide +kernel
theorem d_X_keep_24 : decode prog_1_method_27_code 24 = .ok (.iload_n 1, 1) := by decide +kernel
theorem d_X_keep_25 : decode prog_1_method_27_code 25 = .ok (.new 16, 3) := by decide +kernel
theorem d_X_keep_28 : decode prog_1_method_27_code 28 = .ok (.dup, 1) := by decide +kernel
theorem d_X_keep_29 : decode prog_1_method_27_code 29 = .ok (.invokespecial 18, 3) := by decide +kernel
theorem d_X_keep_32 : decode prog_1_method_27_code 32 = .ok (.aastore, 1) := by decide +kernel
theorem d_X_keep_33 : decode prog_1_method_27_code 33 = .ok (.aload_n 0, 1) := by decide +kernel
theorem d_X_keep_34 : decode prog_1_method_27_code 34 = .ok (.getfield 30, 3) := by decide +kernel
theorem d_X_keep_37 : decode prog_1_method_27_code 37 = .ok (.iload_n 1, 1) := by decide +kernel
theorem d_X_keep_38 : decode prog_1_method_27_code 38 = .ok (.aaload, 1) := by decide +kernel
theorem d_X_keep_39 : decode prog_1_method_27_code 39 = .ok (.aload_n 0, 1) := by decide +kernel
theorem d_X_keep_40 : decode prog_1_method_27_code 40 = .ok (.getfield 19, 3) := by decide +kernel
theorem d_X_keep_43 : decode prog_1_method_27_code 43 = .ok (.invokevirtual 129, 3) := by decide +kernel
theorem d_X_keep_46 : decode prog_1_method_27_code 46 = .ok (.iconst 1, 1) := by decide +kernel
theorem d_X_keep_47 : decode prog_1_method_27_code 47 = .ok (.ireturn, 1) := by decide +kernel
abbrev m_t_X_keep : Room := { frames := 2, cells := 4, slots := 506, locals := 39 }
set_option maxHeartbeats 4000000 in
set_option maxRecDepth 100000 in
theorem t_X_keep (l : Launch) (G : zG) (b0 : Nat) (p0 : Int32) (b2 : Nat) (b3 : Nat) (b4 : Nat) (b5 : Nat) (b6 : Nat) (b7 : Nat) (b8 : Nat) (b9 : Nat) (b10 : Nat) (b11 : Nat) (b12 : Nat) (b13 : Nat) (b14 : Nat) (b15 : Nat) (b16 : Nat) (b17 : Nat) (b18 : Nat) (b19 : Nat) (b20 : Nat) (b21 : Nat) (b22 : Nat)  : zM l G y_X_keep prog_1_method_27_code 2 (Option.some Jvm.ClassFile.FieldType.boolean) m_t_X_keep [.ref b0, .int p0] [(b0, .inr (0, [.ref b2, .ref b3, .ref b4, .ref b5, .int 0, .int 0, .ref b6, .ref b7, .ref b8, .ref b9, .ref b10, .ref b11, .ref b12, .ref b13, .ref b14, .ref b15, .ref b16, .ref b17, .ref b18, .ref b19])), (b6, .inl (G.2 5, 2, .inr (.inr (.inr (.inr (fun _ => none)))))), (b3, .inr (2, [.int 0, .int 1, .int 0, .ref b20, .ref b21, .ref b22])), (b20, .inl (G.2 0, 20, .inl (fun _ => 0))), (b21, .inl (G.2 0, 240, .inl (fun _ => 0))), (b22, .inl (G.2 0, 240, .inl (fun _ => 0)))] (fun v _ => v = some (.int (a_keep p0))) := by
  refine z_start (by decide +kernel) (Nat.le_of_ble_eq_true rfl) ?_
  intro p e s m below meth c A Z hr hnm hA hP hD hS ls hl
  have Z : zC p s m _ meth c prog_1_method_27_code 2 "TraceMachines" G := Z
  obtain ⟨hx, hb, hml, hown, hts, hK, hN, hlocks⟩ := id Z
  have hl : lv_has ls 2 [(0, .ref b0), (1, .int p0)] := hl
  refine lv_iload_n hx hb d_X_keep_0 rfl (lv_at hl 1 rfl) ?_
  refine lv_if_lt (tgt := 9) hx hb d_X_keep_1 (by decide) (fun hc_1 => ?_) (fun hc_1 => ?_)
  · simp only [fa_lt, fa_le, fa_eq, Int32.toInt_toInt64, li_0] at hc_1
    refine lv_iconst (v := 0) hx hb d_X_keep_9 (by decide) ?_
    exact z_zret hx hb hr hlocks rfl hP hD hS (Nat.le_of_ble_eq_true rfl) (Nat.le_of_ble_eq_true rfl) d_X_keep_10 (congrArg (fun z => some (Value.int z)) (by unfold a_keep; (first | rfl | (repeat (first | rw [if_pos (by omega)] | rw [if_neg (by omega)])))))
  · simp only [fa_lt, fa_le, fa_eq, Int32.toInt_toInt64, li_0] at hc_1
    refine lv_iload_n hx hb d_X_keep_4 rfl (lv_at hl 1 rfl) ?_
    refine lv_iconst (v := 2) hx hb d_X_keep_5 (by decide) ?_
    refine lv_icmp_lt (tgt := 11) hx hb d_X_keep_6 (by decide) (fun hc_2 => ?_) (fun hc_2 => ?_)
    · simp only [fa_lt, fa_le, fa_eq, Int32.toInt_toInt64, li_2] at hc_2
      refine lv_aload_n hx hb d_X_keep_11 rfl (lv_at hl 0 rfl) ?_
      refine va_get (D := G.1) (ci := 0) (v := .ref b6) (C := R_X) (T := F_X) (N := 20) hx hb hts i_X hown hK hP 0 rfl rfl 6 (by decide) (hts _ q423) (fun _ h9 => h9) rfl d_X_keep_12 ?_
      refine lv_iload_n hx hb d_X_keep_15 rfl (lv_at hl 1 rfl) ?_
      by_cases hs_3 : p0 = 0
      · subst hs_3
        refine va_aldq hx hb hK hP 1 5 rfl rfl (i := 0) (z_in rfl) d_X_keep_16 ?_
        refine z_topv (y := .null) rfl ?_
        refine lv_ifnonnullN hx hb d_X_keep_17 ?_
        refine lv_aload_n hx hb d_X_keep_20 rfl (lv_at hl 0 rfl) ?_
        refine va_get (D := G.1) (ci := 0) (v := .ref b6) (C := R_X) (T := F_X) (N := 20) hx hb hts i_X hown hK hP 0 rfl rfl 6 (by decide) (hts _ q423) (fun _ h9 => h9) rfl d_X_keep_21 ?_
        refine lv_iload_n hx hb d_X_keep_24 rfl (lv_at hl 1 rfl) ?_
        refine va_new (ci := 2) (fs := [.int 0, .int 0, .int 0, .null, .null, .null]) (C := R_Traces) (T := F_Traces) (N := 6) hx hb hts i_Traces t_Traces t_Traces_ok hown (hts _ q46) (hts _ q47) (hts _ q3) hK hP hD hS hA rfl (by decide +kernel) (Nat.le_of_ble_eq_true rfl) (Nat.le_of_ble_eq_true rfl) d_X_keep_25 (fun q_4 H hP hD hS => ?_)
        have hP : va_P G.1 classes [(b0, .inr (0, [.ref b2, .ref b3, .ref b4, .ref b5, .int 0, .int 0, .ref b6, .ref b7, .ref b8, .ref b9, .ref b10, .ref b11, .ref b12, .ref b13, .ref b14, .ref b15, .ref b16, .ref b17, .ref b18, .ref b19])), (b6, .inl (G.2 5, 2, .inr (.inr (.inr (.inr (fun _ => none)))))), (b3, .inr (2, [.int 0, .int 1, .int 0, .ref b20, .ref b21, .ref b22])), (b20, .inl (G.2 0, 20, .inl (fun _ => 0))), (b21, .inl (G.2 0, 240, .inl (fun _ => 0))), (b22, .inl (G.2 0, 240, .inl (fun _ => 0))), (q_4, .inr (2, [.int 0, .int 0, .int 0, .null, .null, .null]))] H := hP
        have hD := z_tie hP hD rfl
        refine W.widen (k := 1) (n := 6) (Nat.le_of_ble_eq_true rfl) (Nat.le_of_ble_eq_true rfl) ?_
        refine lv_dup hx hb d_X_keep_28 rfl ?_
        refine z_callIN (host := "TraceMachines") (index := 18) (As := []) (rest := [.ref q_4, .int 0, .ref b6]) (wr := [(b0, .inr (0, [.ref b2, .ref b3, .ref b4, .ref b5, .int 0, .int 0, .ref b6, .ref b7, .ref b8, .ref b9, .ref b10, .ref b11, .ref b12, .ref b13, .ref b14, .ref b15, .ref b16, .ref b17, .ref b18, .ref b19])), (b6, .inl (G.2 5, 2, .inr (.inr (.inr (.inr (fun _ => none)))))), (b3, .inr (2, [.int 0, .int 1, .int 0, .ref b20, .ref b21, .ref b22])), (b20, .inl (G.2 0, 20, .inl (fun _ => 0))), (b21, .inl (G.2 0, 240, .inl (fun _ => 0))), (b22, .inl (G.2 0, 240, .inl (fun _ => 0)))]) Z (c_Traces_init l G (q_4)) hl.1 (by decide +kernel) q49 q3 q50 rfl ⟨by decide, by decide, by show _ = some 0; decide +kernel⟩ ⟨Nat.le_of_ble_eq_true rfl, Nat.le_of_ble_eq_true rfl⟩ ⟨Nat.le_of_ble_eq_true rfl, Nat.le_of_ble_eq_true rfl⟩ rfl (Nat.le_of_ble_eq_true rfl) d_X_keep_29 hP hD hS hA [6] [0, 1, 2, 3, 4, 5] rfl rfl rfl rfl (by decide) (fun v w1 H locs hw_5 hP hD hS => ?_)
        obtain ⟨q_6, q_7, q_8, rfl, rfl⟩ := hw_5
        have hP : va_P G.1 classes [(b0, .inr (0, [.ref b2, .ref b3, .ref b4, .ref b5, .int 0, .int 0, .ref b6, .ref b7, .ref b8, .ref b9, .ref b10, .ref b11, .ref b12, .ref b13, .ref b14, .ref b15, .ref b16, .ref b17, .ref b18, .ref b19])), (b6, .inl (G.2 5, 2, .inr (.inr (.inr (.inr (fun _ => none)))))), (b3, .inr (2, [.int 0, .int 1, .int 0, .ref b20, .ref b21, .ref b22])), (b20, .inl (G.2 0, 20, .inl (fun _ => 0))), (b21, .inl (G.2 0, 240, .inl (fun _ => 0))), (b22, .inl (G.2 0, 240, .inl (fun _ => 0))), (q_4, .inr (2, [.int 0, .int 1, .int 0, .ref q_6, .ref q_7, .ref q_8])), (q_6, .inl (G.2 0, 20, .inl (fun _ => 0))), (q_7, .inl (G.2 0, 240, .inl (fun _ => 0))), (q_8, .inl (G.2 0, 240, .inl (fun _ => 0)))] H := hP
        have hD := z_tie hP hD rfl
        refine W.widen (k := 4) (n := 506) (Nat.le_of_ble_eq_true rfl) (Nat.le_of_ble_eq_true rfl) ?_
        refine va_astq hx hb hK hP hD hS 1 5 6 2 rfl rfl rfl rfl (i := 0) (z_in rfl) d_X_keep_32 (fun H locs hP hD hS => ?_)
        have hP : va_P G.1 classes [(b0, .inr (0, [.ref b2, .ref b3, .ref b4, .ref b5, .int 0, .int 0, .ref b6, .ref b7, .ref b8, .ref b9, .ref b10, .ref b11, .ref b12, .ref b13, .ref b14, .ref b15, .ref b16, .ref b17, .ref b18, .ref b19])), (b6, .inl (G.2 5, 2, .inr (.inr (.inr (.inr (va_up (fun _ => none) 0 (some q_4))))))), (b3, .inr (2, [.int 0, .int 1, .int 0, .ref b20, .ref b21, .ref b22])), (b20, .inl (G.2 0, 20, .inl (fun _ => 0))), (b21, .inl (G.2 0, 240, .inl (fun _ => 0))), (b22, .inl (G.2 0, 240, .inl (fun _ => 0))), (q_4, .inr (2, [.int 0, .int 1, .int 0, .ref q_6, .ref q_7, .ref q_8])), (q_6, .inl (G.2 0, 20, .inl (fun _ => 0))), (q_7, .inl (G.2 0, 240, .inl (fun _ => 0))), (q_8, .inl (G.2 0, 240, .inl (fun _ => 0)))] H := hP
        have hD := z_tie hP hD rfl
        refine lv_aload_n hx hb d_X_keep_33 rfl (lv_at hl 0 rfl) ?_
        refine va_get (D := G.1) (ci := 0) (v := .ref b6) (C := R_X) (T := F_X) (N := 20) hx hb hts i_X hown hK hP 0 rfl rfl 6 (by decide) (hts _ q423) (fun _ h9 => h9) rfl d_X_keep_34 ?_
        refine lv_iload_n hx hb d_X_keep_37 rfl (lv_at hl 1 rfl) ?_
        refine va_aldq hx hb hK hP 1 5 rfl rfl (i := 0) (z_in rfl) d_X_keep_38 ?_
        refine z_topv (y := .ref q_4) rfl ?_
        refine lv_aload_n hx hb d_X_keep_39 rfl (lv_at hl 0 rfl) ?_
        refine va_get (D := G.1) (ci := 0) (v := .ref b3) (C := R_X) (T := F_X) (N := 20) hx hb hts i_X hown hK hP 0 rfl rfl 1 (by decide) (hts _ q418) (fun _ h9 => h9) rfl d_X_keep_40 ?_
        refine z_callV (index := 129) (As := [.ref b3]) (rest := []) (wr := [(b0, .inr (0, [.ref b2, .ref b3, .ref b4, .ref b5, .int 0, .int 0, .ref b6, .ref b7, .ref b8, .ref b9, .ref b10, .ref b11, .ref b12, .ref b13, .ref b14, .ref b15, .ref b16, .ref b17, .ref b18, .ref b19])), (b6, .inl (G.2 5, 2, .inr (.inr (.inr (.inr (va_up (fun _ => none) 0 (some q_4)))))))]) Z (c1_Traces_copyFrom l G (q_4) (b3) (b20) (b21) (b22) (q_6) (q_7) (q_8)) hl.1 q498 q499 q500 q3 q501 ⟨by decide, by decide, by show _ = some 1; decide +kernel⟩ ⟨Nat.le_of_ble_eq_true rfl, Nat.le_of_ble_eq_true rfl⟩ ⟨Nat.le_of_ble_eq_true rfl, Nat.le_of_ble_eq_true rfl⟩ rfl (Nat.le_of_ble_eq_true rfl) d_X_keep_43 hP hD hS hA 6 2 rfl rfl rfl [2, 6, 3, 7, 4, 8, 5, 9] [0, 1] rfl rfl rfl rfl (by decide) (fun v w1 H locs hw_9 hP hD hS => ?_)
        obtain ⟨rfl, rfl⟩ := hw_9
        have hP : va_P G.1 classes [(b0, .inr (0, [.ref b2, .ref b3, .ref b4, .ref b5, .int 0, .int 0, .ref b6, .ref b7, .ref b8, .ref b9, .ref b10, .ref b11, .ref b12, .ref b13, .ref b14, .ref b15, .ref b16, .ref b17, .ref b18, .ref b19])), (b6, .inl (G.2 5, 2, .inr (.inr (.inr (.inr (va_up (fun _ => none) 0 (some q_4))))))), (b3, .inr (2, [.int 0, .int 1, .int 0, .ref b20, .ref b21, .ref b22])), (q_4, .inr (2, [.int 0, .int 1, .int 0, .ref q_6, .ref q_7, .ref q_8])), (b20, .inl (G.2 0, 20, .inl (fun _ => 0))), (q_6, .inl (G.2 0, 20, .inl (fun _ => 0))), (b21, .inl (G.2 0, 240, .inl (fun _ => 0))), (q_7, .inl (G.2 0, 240, .inl (fun _ => 0))), (b22, .inl (G.2 0, 240, .inl (fun _ => 0))), (q_8, .inl (G.2 0, 240, .inl (fun _ => 0)))] H := hP
        have hD := z_tie hP hD rfl
        refine W.widen (k := 4) (n := 506) (Nat.le_of_ble_eq_true rfl) (Nat.le_of_ble_eq_true rfl) ?_
        refine lv_iconst (v := 1) hx hb d_X_keep_46 (by decide) ?_
        exact z_zret hx hb hr hlocks rfl hP hD hS (Nat.le_of_ble_eq_true rfl) (Nat.le_of_ble_eq_true rfl) d_X_keep_47 (congrArg (fun z => some (Value.int z)) (by first | decide +kernel | (simp only [a_keep, li_0]; (first | rfl | (repeat (first | rw [if_pos (by omega)] | rw [if_neg (by omega)]))))))
      simp only [fa_lt, fa_le, fa_eq, Int32.toInt_toInt64, li_0] at hs_3
      obtain rfl : p0 = 1 := by simp only [fa_lt, fa_le, fa_eq, Int32.toInt_toInt64, li_1]; omega
      refine va_aldq hx hb hK hP 1 5 rfl rfl (i := 1) (z_in rfl) d_X_keep_16 ?_
      refine z_topv (y := .null) rfl ?_
      refine lv_ifnonnullN hx hb d_X_keep_17 ?_
      refine lv_aload_n hx hb d_X_keep_20 rfl (lv_at hl 0 rfl) ?_
      refine va_get (D := G.1) (ci := 0) (v := .ref b6) (C := R_X) (T := F_X) (N := 20) hx hb hts i_X hown hK hP 0 rfl rfl 6 (by decide) (hts _ q423) (fun _ h9 => h9) rfl d_X_keep_21 ?_
      refine lv_iload_n hx hb d_X_keep_24 rfl (lv_at hl 1 rfl) ?_
      refine va_new (ci := 2) (fs := [.int 0, .int 0, .int 0, .null, .null, .null]) (C := R_Traces) (T := F_Traces) (N := 6) hx hb hts i_Traces t_Traces t_Traces_ok hown (hts _ q46) (hts _ q47) (hts _ q3) hK hP hD hS hA rfl (by decide +kernel) (Nat.le_of_ble_eq_true rfl) (Nat.le_of_ble_eq_true rfl) d_X_keep_25 (fun q_10 H hP hD hS => ?_)
      have hP : va_P G.1 classes [(b0, .inr (0, [.ref b2, .ref b3, .ref b4, .ref b5, .int 0, .int 0, .ref b6, .ref b7, .ref b8, .ref b9, .ref b10, .ref b11, .ref b12, .ref b13, .ref b14, .ref b15, .ref b16, .ref b17, .ref b18, .ref b19])), (b6, .inl (G.2 5, 2, .inr (.inr (.inr (.inr (fun _ => none)))))), (b3, .inr (2, [.int 0, .int 1, .int 0, .ref b20, .ref b21, .ref b22])), (b20, .inl (G.2 0, 20, .inl (fun _ => 0))), (b21, .inl (G.2 0, 240, .inl (fun _ => 0))), (b22, .inl (G.2 0, 240, .inl (fun _ => 0))), (q_10, .inr (2, [.int 0, .int 0, .int 0, .null, .null, .null]))] H := hP
      have hD := z_tie hP hD rfl
      refine W.widen (k := 1) (n := 6) (Nat.le_of_ble_eq_true rfl) (Nat.le_of_ble_eq_true rfl) ?_
      refine lv_dup hx hb d_X_keep_28 rfl ?_
      refine z_callIN (host := "TraceMachines") (index := 18) (As := []) (rest := [.ref q_10, .int 1, .ref b6]) (wr := [(b0, .inr (0, [.ref b2, .ref b3, .ref b4, .ref b5, .int 0, .int 0, .ref b6, .ref b7, .ref b8, .ref b9, .ref b10, .ref b11, .ref b12, .ref b13, .ref b14, .ref b15, .ref b16, .ref b17, .ref b18, .ref b19])), (b6, .inl (G.2 5, 2, .inr (.inr (.inr (.inr (fun _ => none)))))), (b3, .inr (2, [.int 0, .int 1, .int 0, .ref b20, .ref b21, .ref b22])), (b20, .inl (G.2 0, 20, .inl (fun _ => 0))), (b21, .inl (G.2 0, 240, .inl (fun _ => 0))), (b22, .inl (G.2 0, 240, .inl (fun _ => 0)))]) Z (c_Traces_init l G (q_10)) hl.1 (by decide +kernel) q49 q3 q50 rfl ⟨by decide, by decide, by show _ = some 0; decide +kernel⟩ ⟨Nat.le_of_ble_eq_true rfl, Nat.le_of_ble_eq_true rfl⟩ ⟨Nat.le_of_ble_eq_true rfl, Nat.le_of_ble_eq_true rfl⟩ rfl (Nat.le_of_ble_eq_true rfl) d_X_keep_29 hP hD hS hA [6] [0, 1, 2, 3, 4, 5] rfl rfl rfl rfl (by decide) (fun v w1 H locs hw_11 hP hD hS => ?_)
      obtain ⟨q_12, q_13, q_14, rfl, rfl⟩ := hw_11
      have hP : va_P G.1 classes [(b0, .inr (0, [.ref b2, .ref b3, .ref b4, .ref b5, .int 0, .int 0, .ref b6, .ref b7, .ref b8, .ref b9, .ref b10, .ref b11, .ref b12, .ref b13, .ref b14, .ref b15, .ref b16, .ref b17, .ref b18, .ref b19])), (b6, .inl (G.2 5, 2, .inr (.inr (.inr (.inr (fun _ => none)))))), (b3, .inr (2, [.int 0, .int 1, .int 0, .ref b20, .ref b21, .ref b22])), (b20, .inl (G.2 0, 20, .inl (fun _ => 0))), (b21, .inl (G.2 0, 240, .inl (fun _ => 0))), (b22, .inl (G.2 0, 240, .inl (fun _ => 0))), (q_10, .inr (2, [.int 0, .int 1, .int 0, .ref q_12, .ref q_13, .ref q_14])), (q_12, .inl (G.2 0, 20, .inl (fun _ => 0))), (q_13, .inl (G.2 0, 240, .inl (fun _ => 0))), (q_14, .inl (G.2 0, 240, .inl (fun _ => 0)))] H := hP
      have hD := z_tie hP hD rfl
      refine W.widen (k := 4) (n := 506) (Nat.le_of_ble_eq_true rfl) (Nat.le_of_ble_eq_true rfl) ?_
      refine va_astq hx hb hK hP hD hS 1 5 6 2 rfl rfl rfl rfl (i := 1) (z_in rfl) d_X_keep_32 (fun H locs hP hD hS => ?_)
      have hP : va_P G.1 classes [(b0, .inr (0, [.ref b2, .ref b3, .ref b4, .ref b5, .int 0, .int 0, .ref b6, .ref b7, .ref b8, .ref b9, .ref b10, .ref b11, .ref b12, .ref b13, .ref b14, .ref b15, .ref b16, .ref b17, .ref b18, .ref b19])), (b6, .inl (G.2 5, 2, .inr (.inr (.inr (.inr (va_up (fun _ => none) 1 (some q_10))))))), (b3, .inr (2, [.int 0, .int 1, .int 0, .ref b20, .ref b21, .ref b22])), (b20, .inl (G.2 0, 20, .inl (fun _ => 0))), (b21, .inl (G.2 0, 240, .inl (fun _ => 0))), (b22, .inl (G.2 0, 240, .inl (fun _ => 0))), (q_10, .inr (2, [.int 0, .int 1, .int 0, .ref q_12, .ref q_13, .ref q_14])), (q_12, .inl (G.2 0, 20, .inl (fun _ => 0))), (q_13, .inl (G.2 0, 240, .inl (fun _ => 0))), (q_14, .inl (G.2 0, 240, .inl (fun _ => 0)))] H := hP
      have hD := z_tie hP hD rfl
      refine lv_aload_n hx hb d_X_keep_33 rfl (lv_at hl 0 rfl) ?_
      refine va_get (D := G.1) (ci := 0) (v := .ref b6) (C := R_X) (T := F_X) (N := 20) hx hb hts i_X hown hK hP 0 rfl rfl 6 (by decide) (hts _ q423) (fun _ h9 => h9) rfl d_X_keep_34 ?_
      refine lv_iload_n hx hb d_X_keep_37 rfl (lv_at hl 1 rfl) ?_
      refine va_aldq hx hb hK hP 1 5 rfl rfl (i := 1) (z_in rfl) d_X_keep_38 ?_
      refine z_topv (y := .ref q_10) rfl ?_
      refine lv_aload_n hx hb d_X_keep_39 rfl (lv_at hl 0 rfl) ?_
      refine va_get (D := G.1) (ci := 0) (v := .ref b3) (C := R_X) (T := F_X) (N := 20) hx hb hts i_X hown hK hP 0 rfl rfl 1 (by decide) (hts _ q418) (fun _ h9 => h9) rfl d_X_keep_40 ?_
      refine z_callV (index := 129) (As := [.ref b3]) (rest := []) (wr := [(b0, .inr (0, [.ref b2, .ref b3, .ref b4, .ref b5, .int 0, .int 0, .ref b6, .ref b7, .ref b8, .ref b9, .ref b10, .ref b11, .ref b12, .ref b13, .ref b14, .ref b15, .ref b16, .ref b17, .ref b18, .ref b19])), (b6, .inl (G.2 5, 2, .inr (.inr (.inr (.inr (va_up (fun _ => none) 1 (some q_10)))))))]) Z (c1_Traces_copyFrom l G (q_10) (b3) (b20) (b21) (b22) (q_12) (q_13) (q_14)) hl.1 q498 q499 q500 q3 q501 ⟨by decide, by decide, by show _ = some 1; decide +kernel⟩ ⟨Nat.le_of_ble_eq_true rfl, Nat.le_of_ble_eq_true rfl⟩ ⟨Nat.le_of_ble_eq_true rfl, Nat.le_of_ble_eq_true rfl⟩ rfl (Nat.le_of_ble_eq_true rfl) d_X_keep_43 hP hD hS hA 6 2 rfl rfl rfl [2, 6, 3, 7, 4, 8, 5, 9] [0, 1] rfl rfl rfl rfl (by decide) (fun v w1 H locs hw_15 hP hD hS => ?_)
      obtain ⟨rfl, rfl⟩ := hw_15
      have hP : va_P G.1 classes [(b0, .inr (0, [.ref b2, .ref b3, .ref b4, .ref b5, .int 0, .int 0, .ref b6, .ref b7, .ref b8, .ref b9, .ref b10, .ref b11, .ref b12, .ref b13, .ref b14, .ref b15, .ref b16, .ref b17, .ref b18, .ref b19])), (b6, .inl (G.2 5, 2, .inr (.inr (.inr (.inr (va_up (fun _ => none) 1 (some q_10))))))), (b3, .inr (2, [.int 0, .int 1, .int 0, .ref b20, .ref b21, .ref b22])), (q_10, .inr (2, [.int 0, .int 1, .int 0, .ref q_12, .ref q_13, .ref q_14])), (b20, .inl (G.2 0, 20, .inl (fun _ => 0))), (q_12, .inl (G.2 0, 20, .inl (fun _ => 0))), (b21, .inl (G.2 0, 240, .inl (fun _ => 0))), (q_13, .inl (G.2 0, 240, .inl (fun _ => 0))), (b22, .inl (G.2 0, 240, .inl (fun _ => 0))), (q_14, .inl (G.2 0, 240, .inl (fun _ => 0)))] H := hP
      have hD := z_tie hP hD rfl
      refine W.widen (k := 4) (n := 506) (Nat.le_of_ble_eq_true rfl) (Nat.le_of_ble_eq_true rfl) ?_
      refine lv_iconst (v := 1) hx hb d_X_keep_46 (by decide) ?_
      exact z_zret hx hb hr hlocks rfl hP hD hS (Nat.le_of_ble_eq_true rfl) (Nat.le_of_ble_eq_true rfl) d_X_keep_47 (congrArg (fun z => some (Value.int z)) (by first | decide +kernel | (simp only [a_keep, li_1]; (first | rfl | (repeat (first | rw [if_pos (by omega)] | rw [if_neg (by omega)]))))))
    · simp only [fa_lt, fa_le, fa_eq, Int32.toInt_toInt64, li_2] at hc_2
      refine lv_iconst (v := 0) hx hb d_X_keep_9 (by decide) ?_
      exact z_zret hx hb hr hlocks rfl hP hD hS (Nat.le_of_ble_eq_true rfl) (Nat.le_of_ble_eq_true rfl) d_X_keep_10 (congrArg (fun z => some (Value.int z)) (by unfold a_keep; (first | rfl | (repeat (first | rw [if_pos (by omega)] | rw [if_neg (by omega)])))))
theorem d_X_again_0 : decode prog_1_method_28_code 0 = .ok (.iload_n 1, 1) := by decide +kernel
theorem d_X_again_1 : decode prog_1_method_28_code 1 = .ok (.ifCond .lt 17, 3) := by decide +kernel
theorem d_X_again_4 : decode prog_1_method_28_code 4 = .ok (.iload_n 1, 1) := by decide +kernel
theorem d_X_again_5 : decode prog_1_method_28_code 5 = .ok (.iconst 2, 1) := by decide +kernel
theorem d_X_again_6 : decode prog_1_method_28_code 6 = .ok (.if_icmp .ge 12, 3) := by decide +kernel
theorem d_X_again_9 : decode prog_1_method_28_code 9 = .ok (.aload_n 0, 1) := by decide +kernel
theorem d_X_again_10 : decode prog_1_method_28_code 10 = .ok (.getfield 30, 3) := by decide +kernel
theorem d_X_again_13 : decode prog_1_method_28_code 13 = .ok (.iload_n 1, 1) := by decide +kernel
theorem d_X_again_14 : decode prog_1_method_28_code 14 = .ok (.aaload, 1) := by decide +kernel
theorem d_X_again_15 : decode prog_1_method_28_code 15 = .ok (.ifnonnull 5, 3) := by decide +kernel
theorem d_X_again_18 : decode prog_1_method_28_code 18 = .ok (.iconst 0, 1) := by decide +kernel
theorem d_X_again_19 : decode prog_1_method_28_code 19 = .ok (.ireturn, 1) := by decide +kernel
abbrev m_t_X_again : Room := { frames := 0, cells := 0, slots := 0, locals := 0 }
set_option maxHeartbeats 4000000 in
set_option maxRecDepth 100000 in
theorem t_X_again (l : Launch) (G : zG) (b0 : Nat) (p0 : Int32) (b2 : Nat) (b3 : Nat) (b4 : Nat) (b5 : Nat) (b6 : Nat) (b7 : Nat) (b8 : Nat) (b9 : Nat) (b10 : Nat) (b11 : Nat) (b12 : Nat) (b13 : Nat) (b14 : Nat) (b15 : Nat) (b16 : Nat) (b17 : Nat) (b18 : Nat) (b19 : Nat)  : zM l G y_X_again prog_1_method_28_code 2 (Option.some Jvm.ClassFile.FieldType.boolean) m_t_X_again [.ref b0, .int p0] [(b0, .inr (0, [.ref b2, .ref b3, .ref b4, .ref b5, .int 0, .int 0, .ref b6, .ref b7, .ref b8, .ref b9, .ref b10, .ref b11, .ref b12, .ref b13, .ref b14, .ref b15, .ref b16, .ref b17, .ref b18, .ref b19])), (b6, .inl (G.2 5, 2, .inr (.inr (.inr (.inr (fun _ => none))))))] (fun v _ => v = some (.int (a_again p0))) := by
  refine z_start (by decide +kernel) (Nat.le_of_ble_eq_true rfl) ?_
  intro p e s m below meth c A Z hr hnm hA hP hD hS ls hl
  have Z : zC p s m _ meth c prog_1_method_28_code 2 "TraceMachines" G := Z
  obtain ⟨hx, hb, hml, hown, hts, hK, hN, hlocks⟩ := id Z
  have hl : lv_has ls 2 [(0, .ref b0), (1, .int p0)] := hl
  refine lv_iload_n hx hb d_X_again_0 rfl (lv_at hl 1 rfl) ?_
  refine lv_if_lt (tgt := 18) hx hb d_X_again_1 (by decide) (fun hc_1 => ?_) (fun hc_1 => ?_)
  · simp only [fa_lt, fa_le, fa_eq, Int32.toInt_toInt64, li_0] at hc_1
    refine lv_iconst (v := 0) hx hb d_X_again_18 (by decide) ?_
    exact z_zret hx hb hr hlocks rfl hP hD hS (Nat.le_of_ble_eq_true rfl) (Nat.le_of_ble_eq_true rfl) d_X_again_19 (congrArg (fun z => some (Value.int z)) (by unfold a_again; (first | rfl | (repeat (first | rw [if_pos (by omega)] | rw [if_neg (by omega)])))))
  · simp only [fa_lt, fa_le, fa_eq, Int32.toInt_toInt64, li_0] at hc_1
    refine lv_iload_n hx hb d_X_again_4 rfl (lv_at hl 1 rfl) ?_
    refine lv_iconst (v := 2) hx hb d_X_again_5 (by decide) ?_
    refine lv_icmp_ge (tgt := 18) hx hb d_X_again_6 (by decide) (fun hc_2 => ?_) (fun hc_2 => ?_)
    · simp only [fa_lt, fa_le, fa_eq, Int32.toInt_toInt64, li_2] at hc_2
      refine lv_iconst (v := 0) hx hb d_X_again_18 (by decide) ?_
      exact z_zret hx hb hr hlocks rfl hP hD hS (Nat.le_of_ble_eq_true rfl) (Nat.le_of_ble_eq_true rfl) d_X_again_19 (congrArg (fun z => some (Value.int z)) (by unfold a_again; (first | rfl | (repeat (first | rw [if_pos (by omega)] | rw [if_neg (by omega)])))))
    · simp only [fa_lt, fa_le, fa_eq, Int32.toInt_toInt64, li_2] at hc_2
      refine lv_aload_n hx hb d_X_again_9 rfl (lv_at hl 0 rfl) ?_
      refine va_get (D := G.1) (ci := 0) (v := .ref b6) (C := R_X) (T := F_X) (N := 20) hx hb hts i_X hown hK hP 0 rfl rfl 6 (by decide) (hts _ q423) (fun _ h9 => h9) rfl d_X_again_10 ?_
      refine lv_iload_n hx hb d_X_again_13 rfl (lv_at hl 1 rfl) ?_
      by_cases hs_3 : p0 = 0
      · subst hs_3
        refine va_aldq hx hb hK hP 1 5 rfl rfl (i := 0) (z_in rfl) d_X_again_14 ?_
        refine z_topv (y := .null) rfl ?_
        refine lv_ifnonnullN hx hb d_X_again_15 ?_
        refine lv_iconst (v := 0) hx hb d_X_again_18 (by decide) ?_
        exact z_zret hx hb hr hlocks rfl hP hD hS (Nat.le_of_ble_eq_true rfl) (Nat.le_of_ble_eq_true rfl) d_X_again_19 (congrArg (fun z => some (Value.int z)) (by first | decide +kernel | (simp only [a_again, li_0]; (first | rfl | (repeat (first | rw [if_pos (by omega)] | rw [if_neg (by omega)]))))))
      simp only [fa_lt, fa_le, fa_eq, Int32.toInt_toInt64, li_0] at hs_3
      obtain rfl : p0 = 1 := by simp only [fa_lt, fa_le, fa_eq, Int32.toInt_toInt64, li_1]; omega
      refine va_aldq hx hb hK hP 1 5 rfl rfl (i := 1) (z_in rfl) d_X_again_14 ?_
      refine z_topv (y := .null) rfl ?_
      refine lv_ifnonnullN hx hb d_X_again_15 ?_
      refine lv_iconst (v := 0) hx hb d_X_again_18 (by decide) ?_
      exact z_zret hx hb hr hlocks rfl hP hD hS (Nat.le_of_ble_eq_true rfl) (Nat.le_of_ble_eq_true rfl) d_X_again_19 (congrArg (fun z => some (Value.int z)) (by first | decide +kernel | (simp only [a_again, li_1]; (first | rfl | (repeat (first | rw [if_pos (by omega)] | rw [if_neg (by omega)]))))))
theorem d_X_count_0 : decode prog_1_method_29_code 0 = .ok (.iload_n 1, 1) := by decide +kernel
theorem d_X_count_1 : decode prog_1_method_29_code 1 = .ok (.tableswitch 165 0 9 #[55, 63, 71, 91, 106, 121, 136, 144, 152, 160], 55) := by decide +kernel
theorem d_X_count_56 : decode prog_1_method_29_code 56 = .ok (.aload_n 0, 1) := by decide +kernel
theorem d_X_count_57 : decode prog_1_method_29_code 57 = .ok (.getfield 19, 3) := by decide +kernel
theorem d_X_count_60 : decode prog_1_method_29_code 60 = .ok (.getfield 143, 3) := by decide +kernel
theorem d_X_count_63 : decode prog_1_method_29_code 63 = .ok (.ireturn, 1) := by decide +kernel
theorem d_X_count_64 : decode prog_1_method_29_code 64 = .ok (.aload_n 0, 1) := by decide +kernel
theorem d_X_count_65 : decode prog_1_method_29_code 65 = .ok (.getfield 19, 3) := by decide +kernel
theorem d_X_count_68 : decode prog_1_method_29_code 68 = .ok (.invokevirtual 348, 3) := by decide +kernel
theorem d_Traces_allCalls_0 : decode prog_10_method_6_code 0 = .ok (.iconst 0, 1) := by decide +kernel
theorem d_Traces_allCalls_1 : decode prog_10_method_6_code 1 = .ok (.istore_n 1, 1) := by decide +kernel
theorem d_Traces_allCalls_2 : decode prog_10_method_6_code 2 = .ok (.iconst 0, 1) := by decide +kernel
theorem d_Traces_allCalls_3 : decode prog_10_method_6_code 3 = .ok (.istore_n 2, 1) := by decide +kernel
theorem d_Traces_allCalls_4 : decode prog_10_method_6_code 4 = .ok (.iload_n 2, 1) := by decide +kernel
theorem d_Traces_allCalls_5 : decode prog_10_method_6_code 5 = .ok (.aload_n 0, 1) := by decide +kernel
theorem d_Traces_allCalls_6 : decode prog_10_method_6_code 6 = .ok (.getfield 25, 3) := by decide +kernel
theorem d_Traces_allCalls_9 : decode prog_10_method_6_code 9 = .ok (.if_icmp .ge 18, 3) := by decide +kernel
theorem d_Traces_allCalls_27 : decode prog_10_method_6_code 27 = .ok (.iload_n 1, 1) := by decide +kernel
theorem d_Traces_allCalls_28 : decode prog_10_method_6_code 28 = .ok (.ireturn, 1) := by decide +kernel
abbrev m_c1_Traces_allCalls : Room := { frames := 0, cells := 0, slots := 0, locals := 0 }
set_option maxHeartbeats 4000000 in
set_option maxRecDepth 100000 in
theorem c1_Traces_allCalls (l : Launch) (G : zG) (b0 : Nat) (b1 : Nat) (b2 : Nat) (b3 : Nat)  : zM l G y_Traces_allCalls prog_10_method_6_code 3 (Option.some Jvm.ClassFile.FieldType.int) m_c1_Traces_allCalls [.ref b0] [(b0, .inr (2, [.int 0, .int 1, .int 0, .ref b1, .ref b2, .ref b3]))] (fun v w => (v = some (.int 0) ∧ w = [(b0, .inr (2, [.int 0, .int 1, .int 0, .ref b1, .ref b2, .ref b3]))])) := by
  refine z_start (by decide +kernel) (Nat.le_of_ble_eq_true rfl) ?_
  intro p e s m below meth c A Z hr hnm hA hP hD hS ls hl
  have Z : zC p s m _ meth c prog_10_method_6_code 3 "TraceMachines$Traces" G := Z
  obtain ⟨hx, hb, hml, hown, hts, hK, hN, hlocks⟩ := id Z
  have hl : lv_has ls 3 [(0, .ref b0)] := hl
  refine lv_iconst (v := 0) hx hb d_Traces_allCalls_0 (by decide) ?_
  refine lv_istore_n (lv' := [(1, .int 0), (0, .ref b0)]) hx hb d_Traces_allCalls_1 rfl hl (by decide) rfl (fun ls hl => ?_)
  refine lv_iconst (v := 0) hx hb d_Traces_allCalls_2 (by decide) ?_
  refine lv_istore_n (lv' := [(2, .int 0), (1, .int 0), (0, .ref b0)]) hx hb d_Traces_allCalls_3 rfl hl (by decide) rfl (fun ls hl => ?_)
  refine lv_iload_n hx hb d_Traces_allCalls_4 rfl (lv_at hl 0 rfl) ?_
  refine lv_aload_n hx hb d_Traces_allCalls_5 rfl (lv_at hl 2 rfl) ?_
  refine va_get (D := G.1) (ci := 2) (v := .int 0) (C := R_Traces) (T := F_Traces) (N := 6) hx hb hts i_Traces hown hK hP 0 rfl rfl 0 (by decide) (hts _ q52) (fun _ h9 => h9) rfl d_Traces_allCalls_6 ?_
  refine lv_icmp_ge (tgt := 27) hx hb d_Traces_allCalls_9 (by decide) (fun _ => ?_) (fun hc => absurd hc (by decide +kernel))
  refine lv_iload_n hx hb d_Traces_allCalls_27 rfl (lv_at hl 1 rfl) ?_
  exact z_iret hx hb hr hlocks hP hD hS (Nat.le_of_ble_eq_true rfl) (Nat.le_of_ble_eq_true rfl) d_Traces_allCalls_28 ⟨rfl, rfl⟩
theorem d_X_count_71 : decode prog_1_method_29_code 71 = .ok (.ireturn, 1) := by decide +kernel
theorem d_X_count_72 : decode prog_1_method_29_code 72 = .ok (.aload_n 0, 1) := by decide +kernel
theorem d_X_count_73 : decode prog_1_method_29_code 73 = .ok (.aload_n 0, 1) := by decide +kernel
theorem d_X_count_74 : decode prog_1_method_29_code 74 = .ok (.getfield 19, 3) := by decide +kernel
theorem d_X_count_77 : decode prog_1_method_29_code 77 = .ok (.getfield 156, 3) := by decide +kernel
theorem d_X_count_80 : decode prog_1_method_29_code 80 = .ok (.invokevirtual 189, 3) := by decide +kernel
theorem d_X_count_83 : decode prog_1_method_29_code 83 = .ok (.pop, 1) := by decide +kernel
theorem d_X_count_84 : decode prog_1_method_29_code 84 = .ok (.aload_n 0, 1) := by decide +kernel
theorem d_X_count_85 : decode prog_1_method_29_code 85 = .ok (.getfield 36, 3) := by decide +kernel
theorem d_X_count_88 : decode prog_1_method_29_code 88 = .ok (.getfield 352, 3) := by decide +kernel
theorem d_X_count_91 : decode prog_1_method_29_code 91 = .ok (.ireturn, 1) := by decide +kernel
theorem d_X_count_92 : decode prog_1_method_29_code 92 = .ok (.aload_n 0, 1) := by decide +kernel
theorem d_X_count_93 : decode prog_1_method_29_code 93 = .ok (.aload_n 0, 1) := by decide +kernel
theorem d_X_count_94 : decode prog_1_method_29_code 94 = .ok (.getfield 19, 3) := by decide +kernel
theorem d_X_count_97 : decode prog_1_method_29_code 97 = .ok (.getfield 156, 3) := by decide +kernel
theorem d_X_count_100 : decode prog_1_method_29_code 100 = .ok (.invokevirtual 189, 3) := by decide +kernel
theorem d_X_count_103 : decode prog_1_method_29_code 103 = .ok (.getfield 199, 3) := by decide +kernel
theorem d_X_count_106 : decode prog_1_method_29_code 106 = .ok (.ireturn, 1) := by decide +kernel
theorem d_X_count_107 : decode prog_1_method_29_code 107 = .ok (.aload_n 0, 1) := by decide +kernel
theorem d_X_count_108 : decode prog_1_method_29_code 108 = .ok (.aload_n 0, 1) := by decide +kernel
theorem d_X_count_109 : decode prog_1_method_29_code 109 = .ok (.getfield 19, 3) := by decide +kernel
theorem d_X_count_112 : decode prog_1_method_29_code 112 = .ok (.getfield 156, 3) := by decide +kernel
theorem d_X_count_115 : decode prog_1_method_29_code 115 = .ok (.invokevirtual 189, 3) := by decide +kernel
theorem d_X_count_118 : decode prog_1_method_29_code 118 = .ok (.getfield 220, 3) := by decide +kernel
theorem d_X_count_121 : decode prog_1_method_29_code 121 = .ok (.ireturn, 1) := by decide +kernel
theorem d_X_count_122 : decode prog_1_method_29_code 122 = .ok (.aload_n 0, 1) := by decide +kernel
theorem d_X_count_123 : decode prog_1_method_29_code 123 = .ok (.aload_n 0, 1) := by decide +kernel
theorem d_X_count_124 : decode prog_1_method_29_code 124 = .ok (.getfield 19, 3) := by decide +kernel
theorem d_X_count_127 : decode prog_1_method_29_code 127 = .ok (.getfield 156, 3) := by decide +kernel
theorem d_X_count_130 : decode prog_1_method_29_code 130 = .ok (.invokevirtual 189, 3) := by decide +kernel
theorem d_X_count_133 : decode prog_1_method_29_code 133 = .ok (.invokevirtual 354, 3) := by decide +kernel
theorem d_Machine_finalStates_0 : decode prog_4_method_13_code 0 = .ok (.iconst 0, 1) := by decide +kernel
theorem d_Machine_finalStates_1 : decode prog_4_method_13_code 1 = .ok (.istore_n 1, 1) := by decide +kernel
theorem d_Machine_finalStates_2 : decode prog_4_method_13_code 2 = .ok (.iconst 0, 1) := by decide +kernel
theorem d_Machine_finalStates_3 : decode prog_4_method_13_code 3 = .ok (.istore_n 2, 1) := by decide +kernel
theorem d_Machine_finalStates_4 : decode prog_4_method_13_code 4 = .ok (.iload_n 2, 1) := by decide +kernel
theorem d_Machine_finalStates_5 : decode prog_4_method_13_code 5 = .ok (.aload_n 0, 1) := by decide +kernel
theorem d_Machine_finalStates_6 : decode prog_4_method_13_code 6 = .ok (.getfield 75, 3) := by decide +kernel
theorem d_Machine_finalStates_9 : decode prog_4_method_13_code 9 = .ok (.if_icmp .ge 21, 3) := by decide +kernel
theorem d_Machine_finalStates_30 : decode prog_4_method_13_code 30 = .ok (.iload_n 1, 1) := by decide +kernel
theorem d_Machine_finalStates_31 : decode prog_4_method_13_code 31 = .ok (.ireturn, 1) := by decide +kernel
abbrev m_c1_Machine_finalStates : Room := { frames := 0, cells := 0, slots := 0, locals := 0 }
set_option maxHeartbeats 4000000 in
set_option maxRecDepth 100000 in
theorem c1_Machine_finalStates (l : Launch) (G : zG) (b0 : Nat) (b1 : Nat) (b2 : Nat) (b3 : Nat) (b4 : Nat) (b5 : Nat) (b6 : Nat) (b7 : Nat) (b8 : Nat) (b9 : Nat) (b10 : Nat) (b11 : Nat) (b12 : Nat)  : zM l G y_Machine_finalStates prog_4_method_13_code 3 (Option.some Jvm.ClassFile.FieldType.int) m_c1_Machine_finalStates [.ref b0] [(b0, .inr (5, [.int 1, .int 0, .ref b1, .ref b2, .ref b3, .ref b4, .ref b5, .ref b6, .int 0, .ref b7, .ref b8, .ref b9, .ref b10, .ref b11, .ref b12]))] (fun v w => (v = some (.int 0) ∧ w = [(b0, .inr (5, [.int 1, .int 0, .ref b1, .ref b2, .ref b3, .ref b4, .ref b5, .ref b6, .int 0, .ref b7, .ref b8, .ref b9, .ref b10, .ref b11, .ref b12]))])) := by
  refine z_start (by decide +kernel) (Nat.le_of_ble_eq_true rfl) ?_
  intro p e s m below meth c A Z hr hnm hA hP hD hS ls hl
  have Z : zC p s m _ meth c prog_4_method_13_code 3 "TraceMachines$Machine" G := Z
  obtain ⟨hx, hb, hml, hown, hts, hK, hN, hlocks⟩ := id Z
  have hl : lv_has ls 3 [(0, .ref b0)] := hl
  refine lv_iconst (v := 0) hx hb d_Machine_finalStates_0 (by decide) ?_
  refine lv_istore_n (lv' := [(1, .int 0), (0, .ref b0)]) hx hb d_Machine_finalStates_1 rfl hl (by decide) rfl (fun ls hl => ?_)
  refine lv_iconst (v := 0) hx hb d_Machine_finalStates_2 (by decide) ?_
  refine lv_istore_n (lv' := [(2, .int 0), (1, .int 0), (0, .ref b0)]) hx hb d_Machine_finalStates_3 rfl hl (by decide) rfl (fun ls hl => ?_)
  refine lv_iload_n hx hb d_Machine_finalStates_4 rfl (lv_at hl 0 rfl) ?_
  refine lv_aload_n hx hb d_Machine_finalStates_5 rfl (lv_at hl 2 rfl) ?_
  refine va_get (D := G.1) (ci := 5) (v := .int 0) (C := R_Machine) (T := F_Machine) (N := 15) hx hb hts i_Machine hown hK hP 0 rfl rfl 1 (by decide) (hts _ q168) (fun _ h9 => h9) rfl d_Machine_finalStates_6 ?_
  refine lv_icmp_ge (tgt := 30) hx hb d_Machine_finalStates_9 (by decide) (fun _ => ?_) (fun hc => absurd hc (by decide +kernel))
  refine lv_iload_n hx hb d_Machine_finalStates_30 rfl (lv_at hl 1 rfl) ?_
  exact z_iret hx hb hr hlocks hP hD hS (Nat.le_of_ble_eq_true rfl) (Nat.le_of_ble_eq_true rfl) d_Machine_finalStates_31 ⟨rfl, rfl⟩
theorem d_X_count_136 : decode prog_1_method_29_code 136 = .ok (.ireturn, 1) := by decide +kernel
theorem d_X_count_137 : decode prog_1_method_29_code 137 = .ok (.aload_n 0, 1) := by decide +kernel
theorem d_X_count_138 : decode prog_1_method_29_code 138 = .ok (.getfield 19, 3) := by decide +kernel
theorem d_X_count_141 : decode prog_1_method_29_code 141 = .ok (.getfield 156, 3) := by decide +kernel
theorem d_X_count_144 : decode prog_1_method_29_code 144 = .ok (.ireturn, 1) := by decide +kernel
theorem d_X_count_145 : decode prog_1_method_29_code 145 = .ok (.aload_n 0, 1) := by decide +kernel
theorem d_X_count_146 : decode prog_1_method_29_code 146 = .ok (.getfield 19, 3) := by decide +kernel
theorem d_X_count_149 : decode prog_1_method_29_code 149 = .ok (.getfield 159, 3) := by decide +kernel
theorem d_X_count_152 : decode prog_1_method_29_code 152 = .ok (.ireturn, 1) := by decide +kernel
theorem d_X_count_153 : decode prog_1_method_29_code 153 = .ok (.aload_n 0, 1) := by decide +kernel
theorem d_X_count_154 : decode prog_1_method_29_code 154 = .ok (.getfield 12, 3) := by decide +kernel
theorem d_X_count_157 : decode prog_1_method_29_code 157 = .ok (.getfield 122, 3) := by decide +kernel
theorem d_X_count_160 : decode prog_1_method_29_code 160 = .ok (.ireturn, 1) := by decide +kernel
theorem d_X_count_161 : decode prog_1_method_29_code 161 = .ok (.aload_n 0, 1) := by decide +kernel
theorem d_X_count_162 : decode prog_1_method_29_code 162 = .ok (.getfield 162, 3) := by decide +kernel
theorem d_X_count_165 : decode prog_1_method_29_code 165 = .ok (.ireturn, 1) := by decide +kernel
theorem d_X_count_166 : decode prog_1_method_29_code 166 = .ok (.iconst (-1), 1) := by decide +kernel
theorem d_X_count_167 : decode prog_1_method_29_code 167 = .ok (.ireturn, 1) := by decide +kernel
theorem li_5 : (5 : Int32).toInt = 5 := by decide +kernel
theorem li_7 : (7 : Int32).toInt = 7 := by decide +kernel
theorem li_9 : (9 : Int32).toInt = 9 := by decide +kernel
abbrev m_t_X_count : Room := { frames := 4, cells := 0, slots := 0, locals := 95 }
set_option maxHeartbeats 4000000 in
set_option maxRecDepth 100000 in
theorem t_X_count (l : Launch) (G : zG) (b0 : Nat) (p0 : Int32) (b2 : Nat) (b3 : Nat) (b4 : Nat) (b5 : Nat) (b6 : Nat) (b7 : Nat) (b8 : Nat) (b9 : Nat) (b10 : Nat) (b11 : Nat) (b12 : Nat) (b13 : Nat) (b14 : Nat) (b15 : Nat) (b16 : Nat) (b17 : Nat) (b18 : Nat) (b19 : Nat) (b20 : Nat) (b21 : Nat) (b22 : Nat) (b23 : Nat) (b24 : Nat) (b25 : Nat) (b26 : Nat) (b27 : Nat) (b28 : Nat) (b29 : Nat) (b30 : Nat) (b31 : Nat) (b32 : Nat) (b33 : Nat) (b34 : Nat) (b35 : Nat) (b36 : Nat) (b37 : Nat) (b38 : Nat) (b39 : Nat) (b40 : Nat) (b41 : Nat) (b42 : Nat) (b43 : Nat) (b44 : Nat) (b45 : Nat) (b46 : Nat) (b47 : Nat) (b48 : Nat) (b49 : Nat) (b50 : Nat)  : zM l G y_X_count prog_1_method_29_code 2 (Option.some Jvm.ClassFile.FieldType.int) m_t_X_count [.ref b0, .int p0] [(b0, .inr (0, [.ref b2, .ref b3, .ref b4, .ref b5, .int 0, .int 0, .ref b6, .ref b7, .ref b8, .ref b9, .ref b10, .ref b11, .ref b12, .ref b13, .ref b14, .ref b15, .ref b16, .ref b17, .ref b18, .ref b19])), (b3, .inr (2, [.int 0, .int 1, .int 0, .ref b20, .ref b21, .ref b22])), (b9, .inl (G.2 6, 4, .inr (.inr (.inr (.inr (va_up (va_up (va_up (va_up (fun _ => none) 0 (some b23)) 1 (some b24)) 2 (some b25)) 3 (some b26))))))), (b7, .inr (3, [.int 0, .int 0, .int 0, .ref b27, .ref b28, .ref b29, .ref b30, .ref b31, .ref b32, .ref b33, .ref b34])), (b24, .inr (5, [.int 0, .int 0, .ref b35, .ref b36, .ref b37, .ref b38, .ref b39, .ref b40, .int 0, .ref b41, .ref b42, .ref b43, .ref b44, .ref b45, .ref b46])), (b8, .inr (4, [.ref b47, .ref b48, .ref b49])), (b49, .inl (G.2 0, 512, .inl (fun _ => 0))), (b40, .inl (G.2 1, 4, .inr (.inl (fun _ => 0)))), (b45, .inl (G.2 0, 242, .inl (fun _ => 0))), (b2, .inr (1, [.int 0, .ref b50]))] (fun v _ => v = some (.int (a_count p0))) := by
  refine z_start (by decide +kernel) (Nat.le_of_ble_eq_true rfl) ?_
  intro p e s m below meth c A Z hr hnm hA hP hD hS ls hl
  have Z : zC p s m _ meth c prog_1_method_29_code 2 "TraceMachines" G := Z
  obtain ⟨hx, hb, hml, hown, hts, hK, hN, hlocks⟩ := id Z
  have hl : lv_has ls 2 [(0, .ref b0), (1, .int p0)] := hl
  refine lv_iload_n hx hb d_X_count_0 rfl (lv_at hl 1 rfl) ?_
  by_cases hs_1 : p0 = 0
  · subst hs_1
    refine lv_tableIn (off := 55) (tgt := 56) hx hb d_X_count_1 (by decide +kernel) (by decide +kernel) rfl (by decide) ?_
    refine lv_aload_n hx hb d_X_count_56 rfl (lv_at hl 0 rfl) ?_
    refine va_get (D := G.1) (ci := 0) (v := .ref b3) (C := R_X) (T := F_X) (N := 20) hx hb hts i_X hown hK hP 0 rfl rfl 1 (by decide) (hts _ q418) (fun _ h9 => h9) rfl d_X_count_57 ?_
    refine va_get (D := G.1) (ci := 2) (v := .int 0) (C := R_Traces) (T := F_Traces) (N := 6) hx hb hts i_Traces hown hK hP 1 rfl rfl 0 (by decide) (hts _ q58) (fun _ h9 => h9) rfl d_X_count_60 ?_
    exact z_iret hx hb hr hlocks hP hD hS (Nat.le_of_ble_eq_true rfl) (Nat.le_of_ble_eq_true rfl) d_X_count_63 (congrArg (fun z => some (Value.int z)) (by first | decide +kernel | (simp only [a_count, li_0]; (first | rfl | (repeat (first | rw [if_pos (by omega)] | rw [if_neg (by omega)]))))))
  simp only [fa_lt, fa_le, fa_eq, Int32.toInt_toInt64, li_0] at hs_1
  by_cases hs_2 : p0 = 1
  · subst hs_2
    refine lv_tableIn (off := 63) (tgt := 64) hx hb d_X_count_1 (by decide +kernel) (by decide +kernel) rfl (by decide) ?_
    refine lv_aload_n hx hb d_X_count_64 rfl (lv_at hl 0 rfl) ?_
    refine va_get (D := G.1) (ci := 0) (v := .ref b3) (C := R_X) (T := F_X) (N := 20) hx hb hts i_X hown hK hP 0 rfl rfl 1 (by decide) (hts _ q418) (fun _ h9 => h9) rfl d_X_count_65 ?_
    refine z_callV (index := 348) (As := []) (rest := []) (wr := [(b0, .inr (0, [.ref b2, .ref b3, .ref b4, .ref b5, .int 0, .int 0, .ref b6, .ref b7, .ref b8, .ref b9, .ref b10, .ref b11, .ref b12, .ref b13, .ref b14, .ref b15, .ref b16, .ref b17, .ref b18, .ref b19])), (b9, .inl (G.2 6, 4, .inr (.inr (.inr (.inr (va_up (va_up (va_up (va_up (fun _ => none) 0 (some b23)) 1 (some b24)) 2 (some b25)) 3 (some b26))))))), (b7, .inr (3, [.int 0, .int 0, .int 0, .ref b27, .ref b28, .ref b29, .ref b30, .ref b31, .ref b32, .ref b33, .ref b34])), (b24, .inr (5, [.int 0, .int 0, .ref b35, .ref b36, .ref b37, .ref b38, .ref b39, .ref b40, .int 0, .ref b41, .ref b42, .ref b43, .ref b44, .ref b45, .ref b46])), (b8, .inr (4, [.ref b47, .ref b48, .ref b49])), (b49, .inl (G.2 0, 512, .inl (fun _ => 0))), (b40, .inl (G.2 1, 4, .inr (.inl (fun _ => 0)))), (b45, .inl (G.2 0, 242, .inl (fun _ => 0))), (b2, .inr (1, [.int 0, .ref b50]))]) Z (c1_Traces_allCalls l G (b3) (b20) (b21) (b22)) hl.1 q1018 q1019 q1020 q3 q1021 ⟨by decide, by decide, by show _ = some 0; decide +kernel⟩ ⟨Nat.le_of_ble_eq_true rfl, Nat.le_of_ble_eq_true rfl⟩ ⟨Nat.le_of_ble_eq_true rfl, Nat.le_of_ble_eq_true rfl⟩ rfl (Nat.le_of_ble_eq_true rfl) d_X_count_68 hP hD hS hA 1 2 rfl rfl rfl [1] [0, 2, 3, 4, 5, 6, 7, 8, 9] rfl rfl rfl rfl (by decide) (fun v w1 H locs hw_3 hP hD hS => ?_)
    obtain ⟨rfl, rfl⟩ := hw_3
    have hP : va_P G.1 classes [(b0, .inr (0, [.ref b2, .ref b3, .ref b4, .ref b5, .int 0, .int 0, .ref b6, .ref b7, .ref b8, .ref b9, .ref b10, .ref b11, .ref b12, .ref b13, .ref b14, .ref b15, .ref b16, .ref b17, .ref b18, .ref b19])), (b9, .inl (G.2 6, 4, .inr (.inr (.inr (.inr (va_up (va_up (va_up (va_up (fun _ => none) 0 (some b23)) 1 (some b24)) 2 (some b25)) 3 (some b26))))))), (b7, .inr (3, [.int 0, .int 0, .int 0, .ref b27, .ref b28, .ref b29, .ref b30, .ref b31, .ref b32, .ref b33, .ref b34])), (b24, .inr (5, [.int 0, .int 0, .ref b35, .ref b36, .ref b37, .ref b38, .ref b39, .ref b40, .int 0, .ref b41, .ref b42, .ref b43, .ref b44, .ref b45, .ref b46])), (b8, .inr (4, [.ref b47, .ref b48, .ref b49])), (b49, .inl (G.2 0, 512, .inl (fun _ => 0))), (b40, .inl (G.2 1, 4, .inr (.inl (fun _ => 0)))), (b45, .inl (G.2 0, 242, .inl (fun _ => 0))), (b2, .inr (1, [.int 0, .ref b50])), (b3, .inr (2, [.int 0, .int 1, .int 0, .ref b20, .ref b21, .ref b22]))] H := hP
    have hD := z_tie hP hD rfl
    refine W.widen (k := 0) (n := 0) (Nat.le_of_ble_eq_true rfl) (Nat.le_of_ble_eq_true rfl) ?_
    exact z_iret hx hb hr hlocks hP hD hS (Nat.le_of_ble_eq_true rfl) (Nat.le_of_ble_eq_true rfl) d_X_count_71 (congrArg (fun z => some (Value.int z)) (by first | decide +kernel | (simp only [a_count, li_1]; (first | rfl | (repeat (first | rw [if_pos (by omega)] | rw [if_neg (by omega)]))))))
  simp only [fa_lt, fa_le, fa_eq, Int32.toInt_toInt64, li_1] at hs_2
  by_cases hs_4 : p0 = 2
  · subst hs_4
    refine lv_tableIn (off := 71) (tgt := 72) hx hb d_X_count_1 (by decide +kernel) (by decide +kernel) rfl (by decide) ?_
    refine lv_aload_n hx hb d_X_count_72 rfl (lv_at hl 0 rfl) ?_
    refine lv_aload_n hx hb d_X_count_73 rfl (lv_at hl 0 rfl) ?_
    refine va_get (D := G.1) (ci := 0) (v := .ref b3) (C := R_X) (T := F_X) (N := 20) hx hb hts i_X hown hK hP 0 rfl rfl 1 (by decide) (hts _ q418) (fun _ h9 => h9) rfl d_X_count_74 ?_
    refine va_get (D := G.1) (ci := 2) (v := .int 1) (C := R_Traces) (T := F_Traces) (N := 6) hx hb hts i_Traces hown hK hP 1 rfl rfl 1 (by decide) (hts _ q60) (fun _ h9 => h9) rfl d_X_count_77 ?_
    refine z_callV (index := 189) (As := [.int 1]) (rest := []) (wr := [(b2, .inr (1, [.int 0, .ref b50]))]) Z (c1_X_machine l G (b0) (b2) (b3) (b4) (b5) (b6) (b7) (b8) (b9) (b10) (b11) (b12) (b13) (b14) (b15) (b16) (b17) (b18) (b19) (b23) (b24) (b25) (b26) (b27) (b28) (b29) (b30) (b31) (b32) (b33) (b34) (b20) (b21) (b22) (b35) (b36) (b37) (b38) (b39) (b40) (b41) (b42) (b43) (b44) (b45) (b46) (b47) (b48) (b49)) hl.1 q563 q565 qs2 q1 q566 ⟨by decide, by decide, by show _ = some 1; decide +kernel⟩ ⟨Nat.le_of_ble_eq_true rfl, Nat.le_of_ble_eq_true rfl⟩ ⟨Nat.le_of_ble_eq_true rfl, Nat.le_of_ble_eq_true rfl⟩ rfl (Nat.le_of_ble_eq_true rfl) d_X_count_80 hP hD hS hA 0 0 rfl rfl rfl [0, 2, 3, 1, 4, 5, 6, 7, 8] [9] rfl rfl rfl rfl (by decide) (fun v w1 H locs hw_5 hP hD hS => ?_)
    obtain ⟨rfl, rfl⟩ := hw_5
    have hP : va_P G.1 classes [(b2, .inr (1, [.int 0, .ref b50])), (b0, .inr (0, [.ref b2, .ref b3, .ref b4, .ref b5, .int 0, .int 0, .ref b6, .ref b7, .ref b8, .ref b9, .ref b10, .ref b11, .ref b12, .ref b13, .ref b14, .ref b15, .ref b16, .ref b17, .ref b18, .ref b19])), (b9, .inl (G.2 6, 4, .inr (.inr (.inr (.inr (va_up (va_up (va_up (va_up (fun _ => none) 0 (some b23)) 1 (some b24)) 2 (some b25)) 3 (some b26))))))), (b8, .inr (4, [.ref b47, .ref b48, .ref b49])), (b3, .inr (2, [.int 0, .int 1, .int 0, .ref b20, .ref b21, .ref b22])), (b49, .inl (G.2 0, 512, .inl (fun _ => (-1)))), (b40, .inl (G.2 1, 4, .inr (.inl (fun _ => 0)))), (b7, .inr (3, [.int 1, .int (-1), .int 0, .ref b27, .ref b28, .ref b29, .ref b30, .ref b31, .ref b32, .ref b33, .ref b34])), (b24, .inr (5, [.int 1, .int 0, .ref b35, .ref b36, .ref b37, .ref b38, .ref b39, .ref b40, .int 0, .ref b41, .ref b42, .ref b43, .ref b44, .ref b45, .ref b46])), (b45, .inl (G.2 0, 242, .inl (upd (fun _ => 0) 0 0)))] H := hP
    have hD := z_tie hP hD rfl
    refine W.widen (k := 0) (n := 0) (Nat.le_of_ble_eq_true rfl) (Nat.le_of_ble_eq_true rfl) ?_
    refine lv_pop hx hb d_X_count_83 rfl ?_
    refine lv_aload_n hx hb d_X_count_84 rfl (lv_at hl 0 rfl) ?_
    refine va_get (D := G.1) (ci := 0) (v := .ref b7) (C := R_X) (T := F_X) (N := 20) hx hb hts i_X hown hK hP 1 rfl rfl 7 (by decide) (hts _ q424) (fun _ h9 => h9) rfl d_X_count_85 ?_
    refine va_get (D := G.1) (ci := 3) (v := .int 0) (C := R_Tree) (T := F_Tree) (N := 11) hx hb hts i_Tree hown hK hP 7 rfl rfl 2 (by decide) (hts _ q102) (fun _ h9 => h9) rfl d_X_count_88 ?_
    exact z_iret hx hb hr hlocks hP hD hS (Nat.le_of_ble_eq_true rfl) (Nat.le_of_ble_eq_true rfl) d_X_count_91 (congrArg (fun z => some (Value.int z)) (by first | decide +kernel | (simp only [a_count, li_2]; (first | rfl | (repeat (first | rw [if_pos (by omega)] | rw [if_neg (by omega)]))))))
  simp only [fa_lt, fa_le, fa_eq, Int32.toInt_toInt64, li_2] at hs_4
  by_cases hs_6 : p0 = 3
  · subst hs_6
    refine lv_tableIn (off := 91) (tgt := 92) hx hb d_X_count_1 (by decide +kernel) (by decide +kernel) rfl (by decide) ?_
    refine lv_aload_n hx hb d_X_count_92 rfl (lv_at hl 0 rfl) ?_
    refine lv_aload_n hx hb d_X_count_93 rfl (lv_at hl 0 rfl) ?_
    refine va_get (D := G.1) (ci := 0) (v := .ref b3) (C := R_X) (T := F_X) (N := 20) hx hb hts i_X hown hK hP 0 rfl rfl 1 (by decide) (hts _ q418) (fun _ h9 => h9) rfl d_X_count_94 ?_
    refine va_get (D := G.1) (ci := 2) (v := .int 1) (C := R_Traces) (T := F_Traces) (N := 6) hx hb hts i_Traces hown hK hP 1 rfl rfl 1 (by decide) (hts _ q60) (fun _ h9 => h9) rfl d_X_count_97 ?_
    refine z_callV (index := 189) (As := [.int 1]) (rest := []) (wr := [(b2, .inr (1, [.int 0, .ref b50]))]) Z (c1_X_machine l G (b0) (b2) (b3) (b4) (b5) (b6) (b7) (b8) (b9) (b10) (b11) (b12) (b13) (b14) (b15) (b16) (b17) (b18) (b19) (b23) (b24) (b25) (b26) (b27) (b28) (b29) (b30) (b31) (b32) (b33) (b34) (b20) (b21) (b22) (b35) (b36) (b37) (b38) (b39) (b40) (b41) (b42) (b43) (b44) (b45) (b46) (b47) (b48) (b49)) hl.1 q563 q565 qs2 q1 q566 ⟨by decide, by decide, by show _ = some 1; decide +kernel⟩ ⟨Nat.le_of_ble_eq_true rfl, Nat.le_of_ble_eq_true rfl⟩ ⟨Nat.le_of_ble_eq_true rfl, Nat.le_of_ble_eq_true rfl⟩ rfl (Nat.le_of_ble_eq_true rfl) d_X_count_100 hP hD hS hA 0 0 rfl rfl rfl [0, 2, 3, 1, 4, 5, 6, 7, 8] [9] rfl rfl rfl rfl (by decide) (fun v w1 H locs hw_7 hP hD hS => ?_)
    obtain ⟨rfl, rfl⟩ := hw_7
    have hP : va_P G.1 classes [(b2, .inr (1, [.int 0, .ref b50])), (b0, .inr (0, [.ref b2, .ref b3, .ref b4, .ref b5, .int 0, .int 0, .ref b6, .ref b7, .ref b8, .ref b9, .ref b10, .ref b11, .ref b12, .ref b13, .ref b14, .ref b15, .ref b16, .ref b17, .ref b18, .ref b19])), (b9, .inl (G.2 6, 4, .inr (.inr (.inr (.inr (va_up (va_up (va_up (va_up (fun _ => none) 0 (some b23)) 1 (some b24)) 2 (some b25)) 3 (some b26))))))), (b8, .inr (4, [.ref b47, .ref b48, .ref b49])), (b3, .inr (2, [.int 0, .int 1, .int 0, .ref b20, .ref b21, .ref b22])), (b49, .inl (G.2 0, 512, .inl (fun _ => (-1)))), (b40, .inl (G.2 1, 4, .inr (.inl (fun _ => 0)))), (b7, .inr (3, [.int 1, .int (-1), .int 0, .ref b27, .ref b28, .ref b29, .ref b30, .ref b31, .ref b32, .ref b33, .ref b34])), (b24, .inr (5, [.int 1, .int 0, .ref b35, .ref b36, .ref b37, .ref b38, .ref b39, .ref b40, .int 0, .ref b41, .ref b42, .ref b43, .ref b44, .ref b45, .ref b46])), (b45, .inl (G.2 0, 242, .inl (upd (fun _ => 0) 0 0)))] H := hP
    have hD := z_tie hP hD rfl
    refine W.widen (k := 0) (n := 0) (Nat.le_of_ble_eq_true rfl) (Nat.le_of_ble_eq_true rfl) ?_
    refine va_get (D := G.1) (ci := 5) (v := .int 0) (C := R_Machine) (T := F_Machine) (N := 15) hx hb hts i_Machine hown hK hP 8 rfl rfl 1 (by decide) (hts _ q169) (fun _ h9 => h9) rfl d_X_count_103 ?_
    exact z_iret hx hb hr hlocks hP hD hS (Nat.le_of_ble_eq_true rfl) (Nat.le_of_ble_eq_true rfl) d_X_count_106 (congrArg (fun z => some (Value.int z)) (by first | decide +kernel | (simp only [a_count, li_3]; (first | rfl | (repeat (first | rw [if_pos (by omega)] | rw [if_neg (by omega)]))))))
  simp only [fa_lt, fa_le, fa_eq, Int32.toInt_toInt64, li_3] at hs_6
  by_cases hs_8 : p0 = 4
  · subst hs_8
    refine lv_tableIn (off := 106) (tgt := 107) hx hb d_X_count_1 (by decide +kernel) (by decide +kernel) rfl (by decide) ?_
    refine lv_aload_n hx hb d_X_count_107 rfl (lv_at hl 0 rfl) ?_
    refine lv_aload_n hx hb d_X_count_108 rfl (lv_at hl 0 rfl) ?_
    refine va_get (D := G.1) (ci := 0) (v := .ref b3) (C := R_X) (T := F_X) (N := 20) hx hb hts i_X hown hK hP 0 rfl rfl 1 (by decide) (hts _ q418) (fun _ h9 => h9) rfl d_X_count_109 ?_
    refine va_get (D := G.1) (ci := 2) (v := .int 1) (C := R_Traces) (T := F_Traces) (N := 6) hx hb hts i_Traces hown hK hP 1 rfl rfl 1 (by decide) (hts _ q60) (fun _ h9 => h9) rfl d_X_count_112 ?_
    refine z_callV (index := 189) (As := [.int 1]) (rest := []) (wr := [(b2, .inr (1, [.int 0, .ref b50]))]) Z (c1_X_machine l G (b0) (b2) (b3) (b4) (b5) (b6) (b7) (b8) (b9) (b10) (b11) (b12) (b13) (b14) (b15) (b16) (b17) (b18) (b19) (b23) (b24) (b25) (b26) (b27) (b28) (b29) (b30) (b31) (b32) (b33) (b34) (b20) (b21) (b22) (b35) (b36) (b37) (b38) (b39) (b40) (b41) (b42) (b43) (b44) (b45) (b46) (b47) (b48) (b49)) hl.1 q563 q565 qs2 q1 q566 ⟨by decide, by decide, by show _ = some 1; decide +kernel⟩ ⟨Nat.le_of_ble_eq_true rfl, Nat.le_of_ble_eq_true rfl⟩ ⟨Nat.le_of_ble_eq_true rfl, Nat.le_of_ble_eq_true rfl⟩ rfl (Nat.le_of_ble_eq_true rfl) d_X_count_115 hP hD hS hA 0 0 rfl rfl rfl [0, 2, 3, 1, 4, 5, 6, 7, 8] [9] rfl rfl rfl rfl (by decide) (fun v w1 H locs hw_9 hP hD hS => ?_)
    obtain ⟨rfl, rfl⟩ := hw_9
    have hP : va_P G.1 classes [(b2, .inr (1, [.int 0, .ref b50])), (b0, .inr (0, [.ref b2, .ref b3, .ref b4, .ref b5, .int 0, .int 0, .ref b6, .ref b7, .ref b8, .ref b9, .ref b10, .ref b11, .ref b12, .ref b13, .ref b14, .ref b15, .ref b16, .ref b17, .ref b18, .ref b19])), (b9, .inl (G.2 6, 4, .inr (.inr (.inr (.inr (va_up (va_up (va_up (va_up (fun _ => none) 0 (some b23)) 1 (some b24)) 2 (some b25)) 3 (some b26))))))), (b8, .inr (4, [.ref b47, .ref b48, .ref b49])), (b3, .inr (2, [.int 0, .int 1, .int 0, .ref b20, .ref b21, .ref b22])), (b49, .inl (G.2 0, 512, .inl (fun _ => (-1)))), (b40, .inl (G.2 1, 4, .inr (.inl (fun _ => 0)))), (b7, .inr (3, [.int 1, .int (-1), .int 0, .ref b27, .ref b28, .ref b29, .ref b30, .ref b31, .ref b32, .ref b33, .ref b34])), (b24, .inr (5, [.int 1, .int 0, .ref b35, .ref b36, .ref b37, .ref b38, .ref b39, .ref b40, .int 0, .ref b41, .ref b42, .ref b43, .ref b44, .ref b45, .ref b46])), (b45, .inl (G.2 0, 242, .inl (upd (fun _ => 0) 0 0)))] H := hP
    have hD := z_tie hP hD rfl
    refine W.widen (k := 0) (n := 0) (Nat.le_of_ble_eq_true rfl) (Nat.le_of_ble_eq_true rfl) ?_
    refine va_get (D := G.1) (ci := 5) (v := .int 0) (C := R_Machine) (T := F_Machine) (N := 15) hx hb hts i_Machine hown hK hP 8 rfl rfl 8 (by decide) (hts _ q185) (fun _ h9 => h9) rfl d_X_count_118 ?_
    exact z_iret hx hb hr hlocks hP hD hS (Nat.le_of_ble_eq_true rfl) (Nat.le_of_ble_eq_true rfl) d_X_count_121 (congrArg (fun z => some (Value.int z)) (by first | decide +kernel | (simp only [a_count, li_4]; (first | rfl | (repeat (first | rw [if_pos (by omega)] | rw [if_neg (by omega)]))))))
  simp only [fa_lt, fa_le, fa_eq, Int32.toInt_toInt64, li_4] at hs_8
  by_cases hs_10 : p0 = 5
  · subst hs_10
    refine lv_tableIn (off := 121) (tgt := 122) hx hb d_X_count_1 (by decide +kernel) (by decide +kernel) rfl (by decide) ?_
    refine lv_aload_n hx hb d_X_count_122 rfl (lv_at hl 0 rfl) ?_
    refine lv_aload_n hx hb d_X_count_123 rfl (lv_at hl 0 rfl) ?_
    refine va_get (D := G.1) (ci := 0) (v := .ref b3) (C := R_X) (T := F_X) (N := 20) hx hb hts i_X hown hK hP 0 rfl rfl 1 (by decide) (hts _ q418) (fun _ h9 => h9) rfl d_X_count_124 ?_
    refine va_get (D := G.1) (ci := 2) (v := .int 1) (C := R_Traces) (T := F_Traces) (N := 6) hx hb hts i_Traces hown hK hP 1 rfl rfl 1 (by decide) (hts _ q60) (fun _ h9 => h9) rfl d_X_count_127 ?_
    refine z_callV (index := 189) (As := [.int 1]) (rest := []) (wr := [(b2, .inr (1, [.int 0, .ref b50]))]) Z (c1_X_machine l G (b0) (b2) (b3) (b4) (b5) (b6) (b7) (b8) (b9) (b10) (b11) (b12) (b13) (b14) (b15) (b16) (b17) (b18) (b19) (b23) (b24) (b25) (b26) (b27) (b28) (b29) (b30) (b31) (b32) (b33) (b34) (b20) (b21) (b22) (b35) (b36) (b37) (b38) (b39) (b40) (b41) (b42) (b43) (b44) (b45) (b46) (b47) (b48) (b49)) hl.1 q563 q565 qs2 q1 q566 ⟨by decide, by decide, by show _ = some 1; decide +kernel⟩ ⟨Nat.le_of_ble_eq_true rfl, Nat.le_of_ble_eq_true rfl⟩ ⟨Nat.le_of_ble_eq_true rfl, Nat.le_of_ble_eq_true rfl⟩ rfl (Nat.le_of_ble_eq_true rfl) d_X_count_130 hP hD hS hA 0 0 rfl rfl rfl [0, 2, 3, 1, 4, 5, 6, 7, 8] [9] rfl rfl rfl rfl (by decide) (fun v w1 H locs hw_11 hP hD hS => ?_)
    obtain ⟨rfl, rfl⟩ := hw_11
    have hP : va_P G.1 classes [(b2, .inr (1, [.int 0, .ref b50])), (b0, .inr (0, [.ref b2, .ref b3, .ref b4, .ref b5, .int 0, .int 0, .ref b6, .ref b7, .ref b8, .ref b9, .ref b10, .ref b11, .ref b12, .ref b13, .ref b14, .ref b15, .ref b16, .ref b17, .ref b18, .ref b19])), (b9, .inl (G.2 6, 4, .inr (.inr (.inr (.inr (va_up (va_up (va_up (va_up (fun _ => none) 0 (some b23)) 1 (some b24)) 2 (some b25)) 3 (some b26))))))), (b8, .inr (4, [.ref b47, .ref b48, .ref b49])), (b3, .inr (2, [.int 0, .int 1, .int 0, .ref b20, .ref b21, .ref b22])), (b49, .inl (G.2 0, 512, .inl (fun _ => (-1)))), (b40, .inl (G.2 1, 4, .inr (.inl (fun _ => 0)))), (b7, .inr (3, [.int 1, .int (-1), .int 0, .ref b27, .ref b28, .ref b29, .ref b30, .ref b31, .ref b32, .ref b33, .ref b34])), (b24, .inr (5, [.int 1, .int 0, .ref b35, .ref b36, .ref b37, .ref b38, .ref b39, .ref b40, .int 0, .ref b41, .ref b42, .ref b43, .ref b44, .ref b45, .ref b46])), (b45, .inl (G.2 0, 242, .inl (upd (fun _ => 0) 0 0)))] H := hP
    have hD := z_tie hP hD rfl
    refine W.widen (k := 0) (n := 0) (Nat.le_of_ble_eq_true rfl) (Nat.le_of_ble_eq_true rfl) ?_
    refine z_callV (index := 354) (As := []) (rest := []) (wr := [(b2, .inr (1, [.int 0, .ref b50])), (b0, .inr (0, [.ref b2, .ref b3, .ref b4, .ref b5, .int 0, .int 0, .ref b6, .ref b7, .ref b8, .ref b9, .ref b10, .ref b11, .ref b12, .ref b13, .ref b14, .ref b15, .ref b16, .ref b17, .ref b18, .ref b19])), (b9, .inl (G.2 6, 4, .inr (.inr (.inr (.inr (va_up (va_up (va_up (va_up (fun _ => none) 0 (some b23)) 1 (some b24)) 2 (some b25)) 3 (some b26))))))), (b8, .inr (4, [.ref b47, .ref b48, .ref b49])), (b3, .inr (2, [.int 0, .int 1, .int 0, .ref b20, .ref b21, .ref b22])), (b49, .inl (G.2 0, 512, .inl (fun _ => (-1)))), (b40, .inl (G.2 1, 4, .inr (.inl (fun _ => 0)))), (b7, .inr (3, [.int 1, .int (-1), .int 0, .ref b27, .ref b28, .ref b29, .ref b30, .ref b31, .ref b32, .ref b33, .ref b34])), (b45, .inl (G.2 0, 242, .inl (upd (fun _ => 0) 0 0)))]) Z (c1_Machine_finalStates l G (b24) (b35) (b36) (b37) (b38) (b39) (b40) (b41) (b42) (b43) (b44) (b45) (b46)) hl.1 q1022 q1023 q1024 q6 q1025 ⟨by decide, by decide, by show _ = some 0; decide +kernel⟩ ⟨Nat.le_of_ble_eq_true rfl, Nat.le_of_ble_eq_true rfl⟩ ⟨Nat.le_of_ble_eq_true rfl, Nat.le_of_ble_eq_true rfl⟩ rfl (Nat.le_of_ble_eq_true rfl) d_X_count_133 hP hD hS hA 8 5 rfl rfl rfl [8] [0, 1, 2, 3, 4, 5, 6, 7, 9] rfl rfl rfl rfl (by decide) (fun v w1 H locs hw_12 hP hD hS => ?_)
    obtain ⟨rfl, rfl⟩ := hw_12
    have hP : va_P G.1 classes [(b2, .inr (1, [.int 0, .ref b50])), (b0, .inr (0, [.ref b2, .ref b3, .ref b4, .ref b5, .int 0, .int 0, .ref b6, .ref b7, .ref b8, .ref b9, .ref b10, .ref b11, .ref b12, .ref b13, .ref b14, .ref b15, .ref b16, .ref b17, .ref b18, .ref b19])), (b9, .inl (G.2 6, 4, .inr (.inr (.inr (.inr (va_up (va_up (va_up (va_up (fun _ => none) 0 (some b23)) 1 (some b24)) 2 (some b25)) 3 (some b26))))))), (b8, .inr (4, [.ref b47, .ref b48, .ref b49])), (b3, .inr (2, [.int 0, .int 1, .int 0, .ref b20, .ref b21, .ref b22])), (b49, .inl (G.2 0, 512, .inl (fun _ => (-1)))), (b40, .inl (G.2 1, 4, .inr (.inl (fun _ => 0)))), (b7, .inr (3, [.int 1, .int (-1), .int 0, .ref b27, .ref b28, .ref b29, .ref b30, .ref b31, .ref b32, .ref b33, .ref b34])), (b45, .inl (G.2 0, 242, .inl (upd (fun _ => 0) 0 0))), (b24, .inr (5, [.int 1, .int 0, .ref b35, .ref b36, .ref b37, .ref b38, .ref b39, .ref b40, .int 0, .ref b41, .ref b42, .ref b43, .ref b44, .ref b45, .ref b46]))] H := hP
    have hD := z_tie hP hD rfl
    refine W.widen (k := 0) (n := 0) (Nat.le_of_ble_eq_true rfl) (Nat.le_of_ble_eq_true rfl) ?_
    exact z_iret hx hb hr hlocks hP hD hS (Nat.le_of_ble_eq_true rfl) (Nat.le_of_ble_eq_true rfl) d_X_count_136 (congrArg (fun z => some (Value.int z)) (by first | decide +kernel | (simp only [a_count, li_5]; (first | rfl | (repeat (first | rw [if_pos (by omega)] | rw [if_neg (by omega)]))))))
  simp only [fa_lt, fa_le, fa_eq, Int32.toInt_toInt64, li_5] at hs_10
  by_cases hs_13 : p0 = 6
  · subst hs_13
    refine lv_tableIn (off := 136) (tgt := 137) hx hb d_X_count_1 (by decide +kernel) (by decide +kernel) rfl (by decide) ?_
    refine lv_aload_n hx hb d_X_count_137 rfl (lv_at hl 0 rfl) ?_
    refine va_get (D := G.1) (ci := 0) (v := .ref b3) (C := R_X) (T := F_X) (N := 20) hx hb hts i_X hown hK hP 0 rfl rfl 1 (by decide) (hts _ q418) (fun _ h9 => h9) rfl d_X_count_138 ?_
    refine va_get (D := G.1) (ci := 2) (v := .int 1) (C := R_Traces) (T := F_Traces) (N := 6) hx hb hts i_Traces hown hK hP 1 rfl rfl 1 (by decide) (hts _ q60) (fun _ h9 => h9) rfl d_X_count_141 ?_
    exact z_iret hx hb hr hlocks hP hD hS (Nat.le_of_ble_eq_true rfl) (Nat.le_of_ble_eq_true rfl) d_X_count_144 (congrArg (fun z => some (Value.int z)) (by first | decide +kernel | (simp only [a_count, li_6]; (first | rfl | (repeat (first | rw [if_pos (by omega)] | rw [if_neg (by omega)]))))))
  simp only [fa_lt, fa_le, fa_eq, Int32.toInt_toInt64, li_6] at hs_13
  by_cases hs_14 : p0 = 7
  · subst hs_14
    refine lv_tableIn (off := 144) (tgt := 145) hx hb d_X_count_1 (by decide +kernel) (by decide +kernel) rfl (by decide) ?_
    refine lv_aload_n hx hb d_X_count_145 rfl (lv_at hl 0 rfl) ?_
    refine va_get (D := G.1) (ci := 0) (v := .ref b3) (C := R_X) (T := F_X) (N := 20) hx hb hts i_X hown hK hP 0 rfl rfl 1 (by decide) (hts _ q418) (fun _ h9 => h9) rfl d_X_count_146 ?_
    refine va_get (D := G.1) (ci := 2) (v := .int 0) (C := R_Traces) (T := F_Traces) (N := 6) hx hb hts i_Traces hown hK hP 1 rfl rfl 2 (by decide) (hts _ q62) (fun _ h9 => h9) rfl d_X_count_149 ?_
    exact z_iret hx hb hr hlocks hP hD hS (Nat.le_of_ble_eq_true rfl) (Nat.le_of_ble_eq_true rfl) d_X_count_152 (congrArg (fun z => some (Value.int z)) (by first | decide +kernel | (simp only [a_count, li_7]; (first | rfl | (repeat (first | rw [if_pos (by omega)] | rw [if_neg (by omega)]))))))
  simp only [fa_lt, fa_le, fa_eq, Int32.toInt_toInt64, li_7] at hs_14
  by_cases hs_15 : p0 = 8
  · subst hs_15
    refine lv_tableIn (off := 152) (tgt := 153) hx hb d_X_count_1 (by decide +kernel) (by decide +kernel) rfl (by decide) ?_
    refine lv_aload_n hx hb d_X_count_153 rfl (lv_at hl 0 rfl) ?_
    refine va_get (D := G.1) (ci := 0) (v := .ref b2) (C := R_X) (T := F_X) (N := 20) hx hb hts i_X hown hK hP 0 rfl rfl 0 (by decide) (hts _ q417) (fun _ h9 => h9) rfl d_X_count_154 ?_
    refine va_get (D := G.1) (ci := 1) (v := .int 0) (C := R_Text) (T := F_Text) (N := 2) hx hb hts i_Text hown hK hP 9 rfl rfl 0 (by decide) (hts _ q38) (fun _ h9 => h9) rfl d_X_count_157 ?_
    exact z_iret hx hb hr hlocks hP hD hS (Nat.le_of_ble_eq_true rfl) (Nat.le_of_ble_eq_true rfl) d_X_count_160 (congrArg (fun z => some (Value.int z)) (by first | decide +kernel | (simp only [a_count, li_8]; (first | rfl | (repeat (first | rw [if_pos (by omega)] | rw [if_neg (by omega)]))))))
  simp only [fa_lt, fa_le, fa_eq, Int32.toInt_toInt64, li_8] at hs_15
  by_cases hs_16 : p0 = 9
  · subst hs_16
    refine lv_tableIn (off := 160) (tgt := 161) hx hb d_X_count_1 (by decide +kernel) (by decide +kernel) rfl (by decide) ?_
    refine lv_aload_n hx hb d_X_count_161 rfl (lv_at hl 0 rfl) ?_
    refine va_get (D := G.1) (ci := 0) (v := .int 0) (C := R_X) (T := F_X) (N := 20) hx hb hts i_X hown hK hP 0 rfl rfl 5 (by decide) (hts _ q422) (fun _ h9 => h9) rfl d_X_count_162 ?_
    exact z_iret hx hb hr hlocks hP hD hS (Nat.le_of_ble_eq_true rfl) (Nat.le_of_ble_eq_true rfl) d_X_count_165 (congrArg (fun z => some (Value.int z)) (by first | decide +kernel | (simp only [a_count, li_9]; (first | rfl | (repeat (first | rw [if_pos (by omega)] | rw [if_neg (by omega)]))))))
  simp only [fa_lt, fa_le, fa_eq, Int32.toInt_toInt64, li_9] at hs_16
  refine lv_tableOut (tgt := 166) hx hb d_X_count_1 (by omega) (by decide) ?_
  refine lv_iconst (v := (-1)) hx hb d_X_count_166 (by decide) ?_
  exact z_iret hx hb hr hlocks hP hD hS (Nat.le_of_ble_eq_true rfl) (Nat.le_of_ble_eq_true rfl) d_X_count_167 (congrArg (fun z => some (Value.int z)) (by unfold a_count; (first | rfl | (repeat (first | rw [if_pos (by omega)] | rw [if_neg (by omega)])))))
theorem d_X_fit_0 : decode prog_1_method_25_code 0 = .ok (.iload_n 1, 1) := by decide +kernel
theorem d_X_fit_1 : decode prog_1_method_25_code 1 = .ok (.invokestatic 153, 3) := by decide +kernel
theorem d_X_fit_4 : decode prog_1_method_25_code 4 = .ok (.ifCond .ne 5, 3) := by decide +kernel
theorem d_X_fit_7 : decode prog_1_method_25_code 7 = .ok (.iconst (-1), 1) := by decide +kernel
theorem d_X_fit_8 : decode prog_1_method_25_code 8 = .ok (.ireturn, 1) := by decide +kernel
theorem d_X_fit_9 : decode prog_1_method_25_code 9 = .ok (.iload_n 2, 1) := by decide +kernel
theorem d_X_fit_10 : decode prog_1_method_25_code 10 = .ok (.tableswitch 49 0 2 #[26, 33, 40], 26) := by decide +kernel
theorem d_X_fit_36 : decode prog_1_method_25_code 36 = .ok (.aload_n 0, 1) := by decide +kernel
theorem d_X_fit_37 : decode prog_1_method_25_code 37 = .ok (.iload_n 1, 1) := by decide +kernel
theorem d_X_fit_38 : decode prog_1_method_25_code 38 = .ok (.iconst 0, 1) := by decide +kernel
theorem d_X_fit_39 : decode prog_1_method_25_code 39 = .ok (.invokevirtual 344, 3) := by decide +kernel
theorem d_X_fitting_0 : decode prog_1_method_40_code 0 = .ok (.iconst 2, 1) := by decide +kernel
theorem d_X_fitting_1 : decode prog_1_method_40_code 1 = .ok (.iload_n 1, 1) := by decide +kernel
theorem d_X_fitting_2 : decode prog_1_method_40_code 2 = .ok (.imul, 1) := by decide +kernel
theorem d_X_fitting_3 : decode prog_1_method_40_code 3 = .ok (.istore_n 3, 1) := by decide +kernel
theorem d_X_fitting_4 : decode prog_1_method_40_code 4 = .ok (.aload_n 0, 1) := by decide +kernel
theorem d_X_fitting_5 : decode prog_1_method_40_code 5 = .ok (.getfield 109, 3) := by decide +kernel
theorem d_X_fitting_8 : decode prog_1_method_40_code 8 = .ok (.iload_n 3, 1) := by decide +kernel
theorem d_X_fitting_9 : decode prog_1_method_40_code 9 = .ok (.iaload, 1) := by decide +kernel
theorem d_X_fitting_10 : decode prog_1_method_40_code 10 = .ok (.iconst (-1), 1) := by decide +kernel
theorem d_X_fitting_11 : decode prog_1_method_40_code 11 = .ok (.if_icmp .ne 89, 3) := by decide +kernel
theorem d_X_fitting_14 : decode prog_1_method_40_code 14 = .ok (.aload_n 0, 1) := by decide +kernel
theorem d_X_fitting_15 : decode prog_1_method_40_code 15 = .ok (.getfield 109, 3) := by decide +kernel
theorem d_X_fitting_18 : decode prog_1_method_40_code 18 = .ok (.iload_n 3, 1) := by decide +kernel
theorem d_X_fitting_19 : decode prog_1_method_40_code 19 = .ok (.iconst 0, 1) := by decide +kernel
theorem d_X_fitting_20 : decode prog_1_method_40_code 20 = .ok (.iastore, 1) := by decide +kernel
theorem d_X_fitting_21 : decode prog_1_method_40_code 21 = .ok (.aload_n 0, 1) := by decide +kernel
theorem d_X_fitting_22 : decode prog_1_method_40_code 22 = .ok (.getfield 109, 3) := by decide +kernel
theorem d_X_fitting_25 : decode prog_1_method_40_code 25 = .ok (.iload_n 3, 1) := by decide +kernel
theorem d_X_fitting_26 : decode prog_1_method_40_code 26 = .ok (.iconst 1, 1) := by decide +kernel
theorem d_X_fitting_27 : decode prog_1_method_40_code 27 = .ok (.iadd, 1) := by decide +kernel
theorem d_X_fitting_28 : decode prog_1_method_40_code 28 = .ok (.iconst 0, 1) := by decide +kernel
theorem d_X_fitting_29 : decode prog_1_method_40_code 29 = .ok (.iastore, 1) := by decide +kernel
theorem d_X_fitting_30 : decode prog_1_method_40_code 30 = .ok (.iconst 0, 1) := by decide +kernel
theorem d_X_fitting_31 : decode prog_1_method_40_code 31 = .ok (.istore 4, 2) := by decide +kernel
theorem d_X_fitting_33 : decode prog_1_method_40_code 33 = .ok (.iload 4, 2) := by decide +kernel
theorem d_X_fitting_35 : decode prog_1_method_40_code 35 = .ok (.aload_n 0, 1) := by decide +kernel
theorem d_X_fitting_36 : decode prog_1_method_40_code 36 = .ok (.getfield 19, 3) := by decide +kernel
theorem d_X_fitting_39 : decode prog_1_method_40_code 39 = .ok (.getfield 143, 3) := by decide +kernel
theorem d_X_fitting_42 : decode prog_1_method_40_code 42 = .ok (.if_icmp .ge 58, 3) := by decide +kernel
theorem d_X_fitting_100 : decode prog_1_method_40_code 100 = .ok (.iload_n 2, 1) := by decide +kernel
theorem d_X_fitting_101 : decode prog_1_method_40_code 101 = .ok (.ifCond .eq 14, 3) := by decide +kernel
theorem d_X_fitting_115 : decode prog_1_method_40_code 115 = .ok (.aload_n 0, 1) := by decide +kernel
theorem d_X_fitting_116 : decode prog_1_method_40_code 116 = .ok (.getfield 109, 3) := by decide +kernel
theorem d_X_fitting_119 : decode prog_1_method_40_code 119 = .ok (.iload_n 3, 1) := by decide +kernel
theorem d_X_fitting_120 : decode prog_1_method_40_code 120 = .ok (.iaload, 1) := by decide +kernel
theorem d_X_fitting_121 : decode prog_1_method_40_code 121 = .ok (.ireturn, 1) := by decide +kernel
abbrev m_c1_X_fitting : Room := { frames := 0, cells := 0, slots := 0, locals := 0 }
set_option maxHeartbeats 4000000 in
set_option maxRecDepth 100000 in
theorem c1_X_fitting (l : Launch) (G : zG) (b0 : Nat) (b1 : Nat) (b2 : Nat) (b3 : Nat) (b4 : Nat) (b5 : Nat) (b6 : Nat) (b7 : Nat) (b8 : Nat) (b9 : Nat) (b10 : Nat) (b11 : Nat) (b12 : Nat) (b13 : Nat) (b14 : Nat) (b15 : Nat) (b16 : Nat) (b17 : Nat) (b18 : Nat) (b19 : Nat) (b20 : Nat) (b21 : Nat)  : zM l G y_X_fitting prog_1_method_40_code 5 (Option.some Jvm.ClassFile.FieldType.int) m_c1_X_fitting [.ref b0, .int 0, .int 0] [(b0, .inr (0, [.ref b1, .ref b2, .ref b3, .ref b4, .int 0, .int 0, .ref b5, .ref b6, .ref b7, .ref b8, .ref b9, .ref b10, .ref b11, .ref b12, .ref b13, .ref b14, .ref b15, .ref b16, .ref b17, .ref b18])), (b18, .inl (G.2 0, 8, .inl (fun _ => (-1)))), (b2, .inr (2, [.int 0, .int 1, .int 0, .ref b19, .ref b20, .ref b21]))] (fun v w => (v = some (.int 0) ∧ w = [(b0, .inr (0, [.ref b1, .ref b2, .ref b3, .ref b4, .int 0, .int 0, .ref b5, .ref b6, .ref b7, .ref b8, .ref b9, .ref b10, .ref b11, .ref b12, .ref b13, .ref b14, .ref b15, .ref b16, .ref b17, .ref b18])), (b18, .inl (G.2 0, 8, .inl (upd (upd (fun _ => (-1)) 0 0) 1 0))), (b2, .inr (2, [.int 0, .int 1, .int 0, .ref b19, .ref b20, .ref b21]))])) := by
  refine z_start (by decide +kernel) (Nat.le_of_ble_eq_true rfl) ?_
  intro p e s m below meth c A Z hr hnm hA hP hD hS ls hl
  have Z : zC p s m _ meth c prog_1_method_40_code 5 "TraceMachines" G := Z
  obtain ⟨hx, hb, hml, hown, hts, hK, hN, hlocks⟩ := id Z
  have hl : lv_has ls 5 [(0, .ref b0), (1, .int 0), (2, .int 0)] := hl
  refine lv_iconst (v := 2) hx hb d_X_fitting_0 (by decide) ?_
  refine lv_iload_n hx hb d_X_fitting_1 rfl (lv_at hl 1 rfl) ?_
  refine lv_imul hx hb d_X_fitting_2 ?_
  refine z_topi (y := 0) (by decide +kernel) ?_
  refine lv_istore_n (lv' := [(3, .int 0), (0, .ref b0), (1, .int 0), (2, .int 0)]) hx hb d_X_fitting_3 rfl hl (by decide) rfl (fun ls hl => ?_)
  refine lv_aload_n hx hb d_X_fitting_4 rfl (lv_at hl 1 rfl) ?_
  refine va_get (D := G.1) (ci := 0) (v := .ref b18) (C := R_X) (T := F_X) (N := 20) hx hb hts i_X hown hK hP 0 rfl rfl 19 (by decide) (hts _ q436) (fun _ h9 => h9) rfl d_X_fitting_5 ?_
  refine lv_iload_n hx hb d_X_fitting_8 rfl (lv_at hl 0 rfl) ?_
  refine va_iald hx hb hK hP 1 0 rfl rfl (i := 0) (z_in rfl) d_X_fitting_9 ?_
  refine z_topi (y := (-1)) rfl ?_
  refine lv_iconst (v := (-1)) hx hb d_X_fitting_10 (by decide) ?_
  refine lv_icmp_ne (tgt := 100) hx hb d_X_fitting_11 (by decide) (fun hc => absurd hc (by decide +kernel)) (fun _ => ?_)
  refine lv_aload_n hx hb d_X_fitting_14 rfl (lv_at hl 1 rfl) ?_
  refine va_get (D := G.1) (ci := 0) (v := .ref b18) (C := R_X) (T := F_X) (N := 20) hx hb hts i_X hown hK hP 0 rfl rfl 19 (by decide) (hts _ q436) (fun _ h9 => h9) rfl d_X_fitting_15 ?_
  refine lv_iload_n hx hb d_X_fitting_18 rfl (lv_at hl 0 rfl) ?_
  refine lv_iconst (v := 0) hx hb d_X_fitting_19 (by decide) ?_
  refine va_iast hx hb hK hP hD hS 1 0 rfl rfl (i := 0) (z_in rfl) d_X_fitting_20 (fun H locs hP hD hS => ?_)
  have hP : va_P G.1 classes [(b0, .inr (0, [.ref b1, .ref b2, .ref b3, .ref b4, .int 0, .int 0, .ref b5, .ref b6, .ref b7, .ref b8, .ref b9, .ref b10, .ref b11, .ref b12, .ref b13, .ref b14, .ref b15, .ref b16, .ref b17, .ref b18])), (b18, .inl (G.2 0, 8, .inl (upd (fun _ => (-1)) 0 0))), (b2, .inr (2, [.int 0, .int 1, .int 0, .ref b19, .ref b20, .ref b21]))] H := hP
  have hD := z_tie hP hD rfl
  refine lv_aload_n hx hb d_X_fitting_21 rfl (lv_at hl 1 rfl) ?_
  refine va_get (D := G.1) (ci := 0) (v := .ref b18) (C := R_X) (T := F_X) (N := 20) hx hb hts i_X hown hK hP 0 rfl rfl 19 (by decide) (hts _ q436) (fun _ h9 => h9) rfl d_X_fitting_22 ?_
  refine lv_iload_n hx hb d_X_fitting_25 rfl (lv_at hl 0 rfl) ?_
  refine lv_iconst (v := 1) hx hb d_X_fitting_26 (by decide) ?_
  refine lv_iadd hx hb d_X_fitting_27 ?_
  refine z_topi (y := 1) (by decide +kernel) ?_
  refine lv_iconst (v := 0) hx hb d_X_fitting_28 (by decide) ?_
  refine va_iast hx hb hK hP hD hS 1 0 rfl rfl (i := 1) (z_in rfl) d_X_fitting_29 (fun H locs hP hD hS => ?_)
  have hP : va_P G.1 classes [(b0, .inr (0, [.ref b1, .ref b2, .ref b3, .ref b4, .int 0, .int 0, .ref b5, .ref b6, .ref b7, .ref b8, .ref b9, .ref b10, .ref b11, .ref b12, .ref b13, .ref b14, .ref b15, .ref b16, .ref b17, .ref b18])), (b18, .inl (G.2 0, 8, .inl (upd (upd (fun _ => (-1)) 0 0) 1 0))), (b2, .inr (2, [.int 0, .int 1, .int 0, .ref b19, .ref b20, .ref b21]))] H := hP
  have hD := z_tie hP hD rfl
  refine lv_iconst (v := 0) hx hb d_X_fitting_30 (by decide) ?_
  refine lv_istore (lv' := [(4, .int 0), (3, .int 0), (0, .ref b0), (1, .int 0), (2, .int 0)]) hx hb d_X_fitting_31 hl (by decide) rfl (fun ls hl => ?_)
  refine lv_iload hx hb d_X_fitting_33 (lv_at hl 0 rfl) ?_
  refine lv_aload_n hx hb d_X_fitting_35 rfl (lv_at hl 2 rfl) ?_
  refine va_get (D := G.1) (ci := 0) (v := .ref b2) (C := R_X) (T := F_X) (N := 20) hx hb hts i_X hown hK hP 0 rfl rfl 1 (by decide) (hts _ q418) (fun _ h9 => h9) rfl d_X_fitting_36 ?_
  refine va_get (D := G.1) (ci := 2) (v := .int 0) (C := R_Traces) (T := F_Traces) (N := 6) hx hb hts i_Traces hown hK hP 2 rfl rfl 0 (by decide) (hts _ q58) (fun _ h9 => h9) rfl d_X_fitting_39 ?_
  refine lv_icmp_ge (tgt := 100) hx hb d_X_fitting_42 (by decide) (fun _ => ?_) (fun hc => absurd hc (by decide +kernel))
  refine lv_iload_n hx hb d_X_fitting_100 rfl (lv_at hl 4 rfl) ?_
  refine lv_if_eq (tgt := 115) hx hb d_X_fitting_101 (by decide) (fun _ => ?_) (fun hc => absurd hc (by decide +kernel))
  refine lv_aload_n hx hb d_X_fitting_115 rfl (lv_at hl 2 rfl) ?_
  refine va_get (D := G.1) (ci := 0) (v := .ref b18) (C := R_X) (T := F_X) (N := 20) hx hb hts i_X hown hK hP 0 rfl rfl 19 (by decide) (hts _ q436) (fun _ h9 => h9) rfl d_X_fitting_116 ?_
  refine lv_iload_n hx hb d_X_fitting_119 rfl (lv_at hl 1 rfl) ?_
  refine va_iald hx hb hK hP 1 0 rfl rfl (i := 0) (z_in rfl) d_X_fitting_120 ?_
  refine z_topi (y := 0) rfl ?_
  exact z_iret hx hb hr hlocks hP hD hS (Nat.le_of_ble_eq_true rfl) (Nat.le_of_ble_eq_true rfl) d_X_fitting_121 ⟨rfl, rfl⟩
theorem d_X_fit_42 : decode prog_1_method_25_code 42 = .ok (.ireturn, 1) := by decide +kernel
abbrev m_c2_X_fitting : Room := { frames := 0, cells := 0, slots := 0, locals := 0 }
set_option maxHeartbeats 4000000 in
set_option maxRecDepth 100000 in
theorem c2_X_fitting (l : Launch) (G : zG) (b0 : Nat) (b1 : Nat) (b2 : Nat) (b3 : Nat) (b4 : Nat) (b5 : Nat) (b6 : Nat) (b7 : Nat) (b8 : Nat) (b9 : Nat) (b10 : Nat) (b11 : Nat) (b12 : Nat) (b13 : Nat) (b14 : Nat) (b15 : Nat) (b16 : Nat) (b17 : Nat) (b18 : Nat) (b19 : Nat) (b20 : Nat) (b21 : Nat)  : zM l G y_X_fitting prog_1_method_40_code 5 (Option.some Jvm.ClassFile.FieldType.int) m_c2_X_fitting [.ref b0, .int 1, .int 0] [(b0, .inr (0, [.ref b1, .ref b2, .ref b3, .ref b4, .int 0, .int 0, .ref b5, .ref b6, .ref b7, .ref b8, .ref b9, .ref b10, .ref b11, .ref b12, .ref b13, .ref b14, .ref b15, .ref b16, .ref b17, .ref b18])), (b18, .inl (G.2 0, 8, .inl (fun _ => (-1)))), (b2, .inr (2, [.int 0, .int 1, .int 0, .ref b19, .ref b20, .ref b21]))] (fun v w => (v = some (.int 0) ∧ w = [(b0, .inr (0, [.ref b1, .ref b2, .ref b3, .ref b4, .int 0, .int 0, .ref b5, .ref b6, .ref b7, .ref b8, .ref b9, .ref b10, .ref b11, .ref b12, .ref b13, .ref b14, .ref b15, .ref b16, .ref b17, .ref b18])), (b18, .inl (G.2 0, 8, .inl (upd (upd (fun _ => (-1)) 2 0) 3 0))), (b2, .inr (2, [.int 0, .int 1, .int 0, .ref b19, .ref b20, .ref b21]))])) := by
  refine z_start (by decide +kernel) (Nat.le_of_ble_eq_true rfl) ?_
  intro p e s m below meth c A Z hr hnm hA hP hD hS ls hl
  have Z : zC p s m _ meth c prog_1_method_40_code 5 "TraceMachines" G := Z
  obtain ⟨hx, hb, hml, hown, hts, hK, hN, hlocks⟩ := id Z
  have hl : lv_has ls 5 [(0, .ref b0), (1, .int 1), (2, .int 0)] := hl
  refine lv_iconst (v := 2) hx hb d_X_fitting_0 (by decide) ?_
  refine lv_iload_n hx hb d_X_fitting_1 rfl (lv_at hl 1 rfl) ?_
  refine lv_imul hx hb d_X_fitting_2 ?_
  refine z_topi (y := 2) (by decide +kernel) ?_
  refine lv_istore_n (lv' := [(3, .int 2), (0, .ref b0), (1, .int 1), (2, .int 0)]) hx hb d_X_fitting_3 rfl hl (by decide) rfl (fun ls hl => ?_)
  refine lv_aload_n hx hb d_X_fitting_4 rfl (lv_at hl 1 rfl) ?_
  refine va_get (D := G.1) (ci := 0) (v := .ref b18) (C := R_X) (T := F_X) (N := 20) hx hb hts i_X hown hK hP 0 rfl rfl 19 (by decide) (hts _ q436) (fun _ h9 => h9) rfl d_X_fitting_5 ?_
  refine lv_iload_n hx hb d_X_fitting_8 rfl (lv_at hl 0 rfl) ?_
  refine va_iald hx hb hK hP 1 0 rfl rfl (i := 2) (z_in rfl) d_X_fitting_9 ?_
  refine z_topi (y := (-1)) rfl ?_
  refine lv_iconst (v := (-1)) hx hb d_X_fitting_10 (by decide) ?_
  refine lv_icmp_ne (tgt := 100) hx hb d_X_fitting_11 (by decide) (fun hc => absurd hc (by decide +kernel)) (fun _ => ?_)
  refine lv_aload_n hx hb d_X_fitting_14 rfl (lv_at hl 1 rfl) ?_
  refine va_get (D := G.1) (ci := 0) (v := .ref b18) (C := R_X) (T := F_X) (N := 20) hx hb hts i_X hown hK hP 0 rfl rfl 19 (by decide) (hts _ q436) (fun _ h9 => h9) rfl d_X_fitting_15 ?_
  refine lv_iload_n hx hb d_X_fitting_18 rfl (lv_at hl 0 rfl) ?_
  refine lv_iconst (v := 0) hx hb d_X_fitting_19 (by decide) ?_
  refine va_iast hx hb hK hP hD hS 1 0 rfl rfl (i := 2) (z_in rfl) d_X_fitting_20 (fun H locs hP hD hS => ?_)
  have hP : va_P G.1 classes [(b0, .inr (0, [.ref b1, .ref b2, .ref b3, .ref b4, .int 0, .int 0, .ref b5, .ref b6, .ref b7, .ref b8, .ref b9, .ref b10, .ref b11, .ref b12, .ref b13, .ref b14, .ref b15, .ref b16, .ref b17, .ref b18])), (b18, .inl (G.2 0, 8, .inl (upd (fun _ => (-1)) 2 0))), (b2, .inr (2, [.int 0, .int 1, .int 0, .ref b19, .ref b20, .ref b21]))] H := hP
  have hD := z_tie hP hD rfl
  refine lv_aload_n hx hb d_X_fitting_21 rfl (lv_at hl 1 rfl) ?_
  refine va_get (D := G.1) (ci := 0) (v := .ref b18) (C := R_X) (T := F_X) (N := 20) hx hb hts i_X hown hK hP 0 rfl rfl 19 (by decide) (hts _ q436) (fun _ h9 => h9) rfl d_X_fitting_22 ?_
  refine lv_iload_n hx hb d_X_fitting_25 rfl (lv_at hl 0 rfl) ?_
  refine lv_iconst (v := 1) hx hb d_X_fitting_26 (by decide) ?_
  refine lv_iadd hx hb d_X_fitting_27 ?_
  refine z_topi (y := 3) (by decide +kernel) ?_
  refine lv_iconst (v := 0) hx hb d_X_fitting_28 (by decide) ?_
  refine va_iast hx hb hK hP hD hS 1 0 rfl rfl (i := 3) (z_in rfl) d_X_fitting_29 (fun H locs hP hD hS => ?_)
  have hP : va_P G.1 classes [(b0, .inr (0, [.ref b1, .ref b2, .ref b3, .ref b4, .int 0, .int 0, .ref b5, .ref b6, .ref b7, .ref b8, .ref b9, .ref b10, .ref b11, .ref b12, .ref b13, .ref b14, .ref b15, .ref b16, .ref b17, .ref b18])), (b18, .inl (G.2 0, 8, .inl (upd (upd (fun _ => (-1)) 2 0) 3 0))), (b2, .inr (2, [.int 0, .int 1, .int 0, .ref b19, .ref b20, .ref b21]))] H := hP
  have hD := z_tie hP hD rfl
  refine lv_iconst (v := 0) hx hb d_X_fitting_30 (by decide) ?_
  refine lv_istore (lv' := [(4, .int 0), (3, .int 2), (0, .ref b0), (1, .int 1), (2, .int 0)]) hx hb d_X_fitting_31 hl (by decide) rfl (fun ls hl => ?_)
  refine lv_iload hx hb d_X_fitting_33 (lv_at hl 0 rfl) ?_
  refine lv_aload_n hx hb d_X_fitting_35 rfl (lv_at hl 2 rfl) ?_
  refine va_get (D := G.1) (ci := 0) (v := .ref b2) (C := R_X) (T := F_X) (N := 20) hx hb hts i_X hown hK hP 0 rfl rfl 1 (by decide) (hts _ q418) (fun _ h9 => h9) rfl d_X_fitting_36 ?_
  refine va_get (D := G.1) (ci := 2) (v := .int 0) (C := R_Traces) (T := F_Traces) (N := 6) hx hb hts i_Traces hown hK hP 2 rfl rfl 0 (by decide) (hts _ q58) (fun _ h9 => h9) rfl d_X_fitting_39 ?_
  refine lv_icmp_ge (tgt := 100) hx hb d_X_fitting_42 (by decide) (fun _ => ?_) (fun hc => absurd hc (by decide +kernel))
  refine lv_iload_n hx hb d_X_fitting_100 rfl (lv_at hl 4 rfl) ?_
  refine lv_if_eq (tgt := 115) hx hb d_X_fitting_101 (by decide) (fun _ => ?_) (fun hc => absurd hc (by decide +kernel))
  refine lv_aload_n hx hb d_X_fitting_115 rfl (lv_at hl 2 rfl) ?_
  refine va_get (D := G.1) (ci := 0) (v := .ref b18) (C := R_X) (T := F_X) (N := 20) hx hb hts i_X hown hK hP 0 rfl rfl 19 (by decide) (hts _ q436) (fun _ h9 => h9) rfl d_X_fitting_116 ?_
  refine lv_iload_n hx hb d_X_fitting_119 rfl (lv_at hl 1 rfl) ?_
  refine va_iald hx hb hK hP 1 0 rfl rfl (i := 2) (z_in rfl) d_X_fitting_120 ?_
  refine z_topi (y := 0) rfl ?_
  exact z_iret hx hb hr hlocks hP hD hS (Nat.le_of_ble_eq_true rfl) (Nat.le_of_ble_eq_true rfl) d_X_fitting_121 ⟨rfl, rfl⟩
abbrev m_c3_X_fitting : Room := { frames := 0, cells := 0, slots := 0, locals := 0 }
set_option maxHeartbeats 4000000 in
set_option maxRecDepth 100000 in
theorem c3_X_fitting (l : Launch) (G : zG) (b0 : Nat) (b1 : Nat) (b2 : Nat) (b3 : Nat) (b4 : Nat) (b5 : Nat) (b6 : Nat) (b7 : Nat) (b8 : Nat) (b9 : Nat) (b10 : Nat) (b11 : Nat) (b12 : Nat) (b13 : Nat) (b14 : Nat) (b15 : Nat) (b16 : Nat) (b17 : Nat) (b18 : Nat) (b19 : Nat) (b20 : Nat) (b21 : Nat)  : zM l G y_X_fitting prog_1_method_40_code 5 (Option.some Jvm.ClassFile.FieldType.int) m_c3_X_fitting [.ref b0, .int 2, .int 0] [(b0, .inr (0, [.ref b1, .ref b2, .ref b3, .ref b4, .int 0, .int 0, .ref b5, .ref b6, .ref b7, .ref b8, .ref b9, .ref b10, .ref b11, .ref b12, .ref b13, .ref b14, .ref b15, .ref b16, .ref b17, .ref b18])), (b18, .inl (G.2 0, 8, .inl (fun _ => (-1)))), (b2, .inr (2, [.int 0, .int 1, .int 0, .ref b19, .ref b20, .ref b21]))] (fun v w => (v = some (.int 0) ∧ w = [(b0, .inr (0, [.ref b1, .ref b2, .ref b3, .ref b4, .int 0, .int 0, .ref b5, .ref b6, .ref b7, .ref b8, .ref b9, .ref b10, .ref b11, .ref b12, .ref b13, .ref b14, .ref b15, .ref b16, .ref b17, .ref b18])), (b18, .inl (G.2 0, 8, .inl (upd (upd (fun _ => (-1)) 4 0) 5 0))), (b2, .inr (2, [.int 0, .int 1, .int 0, .ref b19, .ref b20, .ref b21]))])) := by
  refine z_start (by decide +kernel) (Nat.le_of_ble_eq_true rfl) ?_
  intro p e s m below meth c A Z hr hnm hA hP hD hS ls hl
  have Z : zC p s m _ meth c prog_1_method_40_code 5 "TraceMachines" G := Z
  obtain ⟨hx, hb, hml, hown, hts, hK, hN, hlocks⟩ := id Z
  have hl : lv_has ls 5 [(0, .ref b0), (1, .int 2), (2, .int 0)] := hl
  refine lv_iconst (v := 2) hx hb d_X_fitting_0 (by decide) ?_
  refine lv_iload_n hx hb d_X_fitting_1 rfl (lv_at hl 1 rfl) ?_
  refine lv_imul hx hb d_X_fitting_2 ?_
  refine z_topi (y := 4) (by decide +kernel) ?_
  refine lv_istore_n (lv' := [(3, .int 4), (0, .ref b0), (1, .int 2), (2, .int 0)]) hx hb d_X_fitting_3 rfl hl (by decide) rfl (fun ls hl => ?_)
  refine lv_aload_n hx hb d_X_fitting_4 rfl (lv_at hl 1 rfl) ?_
  refine va_get (D := G.1) (ci := 0) (v := .ref b18) (C := R_X) (T := F_X) (N := 20) hx hb hts i_X hown hK hP 0 rfl rfl 19 (by decide) (hts _ q436) (fun _ h9 => h9) rfl d_X_fitting_5 ?_
  refine lv_iload_n hx hb d_X_fitting_8 rfl (lv_at hl 0 rfl) ?_
  refine va_iald hx hb hK hP 1 0 rfl rfl (i := 4) (z_in rfl) d_X_fitting_9 ?_
  refine z_topi (y := (-1)) rfl ?_
  refine lv_iconst (v := (-1)) hx hb d_X_fitting_10 (by decide) ?_
  refine lv_icmp_ne (tgt := 100) hx hb d_X_fitting_11 (by decide) (fun hc => absurd hc (by decide +kernel)) (fun _ => ?_)
  refine lv_aload_n hx hb d_X_fitting_14 rfl (lv_at hl 1 rfl) ?_
  refine va_get (D := G.1) (ci := 0) (v := .ref b18) (C := R_X) (T := F_X) (N := 20) hx hb hts i_X hown hK hP 0 rfl rfl 19 (by decide) (hts _ q436) (fun _ h9 => h9) rfl d_X_fitting_15 ?_
  refine lv_iload_n hx hb d_X_fitting_18 rfl (lv_at hl 0 rfl) ?_
  refine lv_iconst (v := 0) hx hb d_X_fitting_19 (by decide) ?_
  refine va_iast hx hb hK hP hD hS 1 0 rfl rfl (i := 4) (z_in rfl) d_X_fitting_20 (fun H locs hP hD hS => ?_)
  have hP : va_P G.1 classes [(b0, .inr (0, [.ref b1, .ref b2, .ref b3, .ref b4, .int 0, .int 0, .ref b5, .ref b6, .ref b7, .ref b8, .ref b9, .ref b10, .ref b11, .ref b12, .ref b13, .ref b14, .ref b15, .ref b16, .ref b17, .ref b18])), (b18, .inl (G.2 0, 8, .inl (upd (fun _ => (-1)) 4 0))), (b2, .inr (2, [.int 0, .int 1, .int 0, .ref b19, .ref b20, .ref b21]))] H := hP
  have hD := z_tie hP hD rfl
  refine lv_aload_n hx hb d_X_fitting_21 rfl (lv_at hl 1 rfl) ?_
  refine va_get (D := G.1) (ci := 0) (v := .ref b18) (C := R_X) (T := F_X) (N := 20) hx hb hts i_X hown hK hP 0 rfl rfl 19 (by decide) (hts _ q436) (fun _ h9 => h9) rfl d_X_fitting_22 ?_
  refine lv_iload_n hx hb d_X_fitting_25 rfl (lv_at hl 0 rfl) ?_
  refine lv_iconst (v := 1) hx hb d_X_fitting_26 (by decide) ?_
  refine lv_iadd hx hb d_X_fitting_27 ?_
  refine z_topi (y := 5) (by decide +kernel) ?_
  refine lv_iconst (v := 0) hx hb d_X_fitting_28 (by decide) ?_
  refine va_iast hx hb hK hP hD hS 1 0 rfl rfl (i := 5) (z_in rfl) d_X_fitting_29 (fun H locs hP hD hS => ?_)
  have hP : va_P G.1 classes [(b0, .inr (0, [.ref b1, .ref b2, .ref b3, .ref b4, .int 0, .int 0, .ref b5, .ref b6, .ref b7, .ref b8, .ref b9, .ref b10, .ref b11, .ref b12, .ref b13, .ref b14, .ref b15, .ref b16, .ref b17, .ref b18])), (b18, .inl (G.2 0, 8, .inl (upd (upd (fun _ => (-1)) 4 0) 5 0))), (b2, .inr (2, [.int 0, .int 1, .int 0, .ref b19, .ref b20, .ref b21]))] H := hP
  have hD := z_tie hP hD rfl
  refine lv_iconst (v := 0) hx hb d_X_fitting_30 (by decide) ?_
  refine lv_istore (lv' := [(4, .int 0), (3, .int 4), (0, .ref b0), (1, .int 2), (2, .int 0)]) hx hb d_X_fitting_31 hl (by decide) rfl (fun ls hl => ?_)
  refine lv_iload hx hb d_X_fitting_33 (lv_at hl 0 rfl) ?_
  refine lv_aload_n hx hb d_X_fitting_35 rfl (lv_at hl 2 rfl) ?_
  refine va_get (D := G.1) (ci := 0) (v := .ref b2) (C := R_X) (T := F_X) (N := 20) hx hb hts i_X hown hK hP 0 rfl rfl 1 (by decide) (hts _ q418) (fun _ h9 => h9) rfl d_X_fitting_36 ?_
  refine va_get (D := G.1) (ci := 2) (v := .int 0) (C := R_Traces) (T := F_Traces) (N := 6) hx hb hts i_Traces hown hK hP 2 rfl rfl 0 (by decide) (hts _ q58) (fun _ h9 => h9) rfl d_X_fitting_39 ?_
  refine lv_icmp_ge (tgt := 100) hx hb d_X_fitting_42 (by decide) (fun _ => ?_) (fun hc => absurd hc (by decide +kernel))
  refine lv_iload_n hx hb d_X_fitting_100 rfl (lv_at hl 4 rfl) ?_
  refine lv_if_eq (tgt := 115) hx hb d_X_fitting_101 (by decide) (fun _ => ?_) (fun hc => absurd hc (by decide +kernel))
  refine lv_aload_n hx hb d_X_fitting_115 rfl (lv_at hl 2 rfl) ?_
  refine va_get (D := G.1) (ci := 0) (v := .ref b18) (C := R_X) (T := F_X) (N := 20) hx hb hts i_X hown hK hP 0 rfl rfl 19 (by decide) (hts _ q436) (fun _ h9 => h9) rfl d_X_fitting_116 ?_
  refine lv_iload_n hx hb d_X_fitting_119 rfl (lv_at hl 1 rfl) ?_
  refine va_iald hx hb hK hP 1 0 rfl rfl (i := 4) (z_in rfl) d_X_fitting_120 ?_
  refine z_topi (y := 0) rfl ?_
  exact z_iret hx hb hr hlocks hP hD hS (Nat.le_of_ble_eq_true rfl) (Nat.le_of_ble_eq_true rfl) d_X_fitting_121 ⟨rfl, rfl⟩
abbrev m_c4_X_fitting : Room := { frames := 0, cells := 0, slots := 0, locals := 0 }
set_option maxHeartbeats 4000000 in
set_option maxRecDepth 100000 in
theorem c4_X_fitting (l : Launch) (G : zG) (b0 : Nat) (b1 : Nat) (b2 : Nat) (b3 : Nat) (b4 : Nat) (b5 : Nat) (b6 : Nat) (b7 : Nat) (b8 : Nat) (b9 : Nat) (b10 : Nat) (b11 : Nat) (b12 : Nat) (b13 : Nat) (b14 : Nat) (b15 : Nat) (b16 : Nat) (b17 : Nat) (b18 : Nat) (b19 : Nat) (b20 : Nat) (b21 : Nat)  : zM l G y_X_fitting prog_1_method_40_code 5 (Option.some Jvm.ClassFile.FieldType.int) m_c4_X_fitting [.ref b0, .int 3, .int 0] [(b0, .inr (0, [.ref b1, .ref b2, .ref b3, .ref b4, .int 0, .int 0, .ref b5, .ref b6, .ref b7, .ref b8, .ref b9, .ref b10, .ref b11, .ref b12, .ref b13, .ref b14, .ref b15, .ref b16, .ref b17, .ref b18])), (b18, .inl (G.2 0, 8, .inl (fun _ => (-1)))), (b2, .inr (2, [.int 0, .int 1, .int 0, .ref b19, .ref b20, .ref b21]))] (fun v w => (v = some (.int 0) ∧ w = [(b0, .inr (0, [.ref b1, .ref b2, .ref b3, .ref b4, .int 0, .int 0, .ref b5, .ref b6, .ref b7, .ref b8, .ref b9, .ref b10, .ref b11, .ref b12, .ref b13, .ref b14, .ref b15, .ref b16, .ref b17, .ref b18])), (b18, .inl (G.2 0, 8, .inl (upd (upd (fun _ => (-1)) 6 0) 7 0))), (b2, .inr (2, [.int 0, .int 1, .int 0, .ref b19, .ref b20, .ref b21]))])) := by
  refine z_start (by decide +kernel) (Nat.le_of_ble_eq_true rfl) ?_
  intro p e s m below meth c A Z hr hnm hA hP hD hS ls hl
  have Z : zC p s m _ meth c prog_1_method_40_code 5 "TraceMachines" G := Z
  obtain ⟨hx, hb, hml, hown, hts, hK, hN, hlocks⟩ := id Z
  have hl : lv_has ls 5 [(0, .ref b0), (1, .int 3), (2, .int 0)] := hl
  refine lv_iconst (v := 2) hx hb d_X_fitting_0 (by decide) ?_
  refine lv_iload_n hx hb d_X_fitting_1 rfl (lv_at hl 1 rfl) ?_
  refine lv_imul hx hb d_X_fitting_2 ?_
  refine z_topi (y := 6) (by decide +kernel) ?_
  refine lv_istore_n (lv' := [(3, .int 6), (0, .ref b0), (1, .int 3), (2, .int 0)]) hx hb d_X_fitting_3 rfl hl (by decide) rfl (fun ls hl => ?_)
  refine lv_aload_n hx hb d_X_fitting_4 rfl (lv_at hl 1 rfl) ?_
  refine va_get (D := G.1) (ci := 0) (v := .ref b18) (C := R_X) (T := F_X) (N := 20) hx hb hts i_X hown hK hP 0 rfl rfl 19 (by decide) (hts _ q436) (fun _ h9 => h9) rfl d_X_fitting_5 ?_
  refine lv_iload_n hx hb d_X_fitting_8 rfl (lv_at hl 0 rfl) ?_
  refine va_iald hx hb hK hP 1 0 rfl rfl (i := 6) (z_in rfl) d_X_fitting_9 ?_
  refine z_topi (y := (-1)) rfl ?_
  refine lv_iconst (v := (-1)) hx hb d_X_fitting_10 (by decide) ?_
  refine lv_icmp_ne (tgt := 100) hx hb d_X_fitting_11 (by decide) (fun hc => absurd hc (by decide +kernel)) (fun _ => ?_)
  refine lv_aload_n hx hb d_X_fitting_14 rfl (lv_at hl 1 rfl) ?_
  refine va_get (D := G.1) (ci := 0) (v := .ref b18) (C := R_X) (T := F_X) (N := 20) hx hb hts i_X hown hK hP 0 rfl rfl 19 (by decide) (hts _ q436) (fun _ h9 => h9) rfl d_X_fitting_15 ?_
  refine lv_iload_n hx hb d_X_fitting_18 rfl (lv_at hl 0 rfl) ?_
  refine lv_iconst (v := 0) hx hb d_X_fitting_19 (by decide) ?_
  refine va_iast hx hb hK hP hD hS 1 0 rfl rfl (i := 6) (z_in rfl) d_X_fitting_20 (fun H locs hP hD hS => ?_)
  have hP : va_P G.1 classes [(b0, .inr (0, [.ref b1, .ref b2, .ref b3, .ref b4, .int 0, .int 0, .ref b5, .ref b6, .ref b7, .ref b8, .ref b9, .ref b10, .ref b11, .ref b12, .ref b13, .ref b14, .ref b15, .ref b16, .ref b17, .ref b18])), (b18, .inl (G.2 0, 8, .inl (upd (fun _ => (-1)) 6 0))), (b2, .inr (2, [.int 0, .int 1, .int 0, .ref b19, .ref b20, .ref b21]))] H := hP
  have hD := z_tie hP hD rfl
  refine lv_aload_n hx hb d_X_fitting_21 rfl (lv_at hl 1 rfl) ?_
  refine va_get (D := G.1) (ci := 0) (v := .ref b18) (C := R_X) (T := F_X) (N := 20) hx hb hts i_X hown hK hP 0 rfl rfl 19 (by decide) (hts _ q436) (fun _ h9 => h9) rfl d_X_fitting_22 ?_
  refine lv_iload_n hx hb d_X_fitting_25 rfl (lv_at hl 0 rfl) ?_
  refine lv_iconst (v := 1) hx hb d_X_fitting_26 (by decide) ?_
  refine lv_iadd hx hb d_X_fitting_27 ?_
  refine z_topi (y := 7) (by decide +kernel) ?_
  refine lv_iconst (v := 0) hx hb d_X_fitting_28 (by decide) ?_
  refine va_iast hx hb hK hP hD hS 1 0 rfl rfl (i := 7) (z_in rfl) d_X_fitting_29 (fun H locs hP hD hS => ?_)
  have hP : va_P G.1 classes [(b0, .inr (0, [.ref b1, .ref b2, .ref b3, .ref b4, .int 0, .int 0, .ref b5, .ref b6, .ref b7, .ref b8, .ref b9, .ref b10, .ref b11, .ref b12, .ref b13, .ref b14, .ref b15, .ref b16, .ref b17, .ref b18])), (b18, .inl (G.2 0, 8, .inl (upd (upd (fun _ => (-1)) 6 0) 7 0))), (b2, .inr (2, [.int 0, .int 1, .int 0, .ref b19, .ref b20, .ref b21]))] H := hP
  have hD := z_tie hP hD rfl
  refine lv_iconst (v := 0) hx hb d_X_fitting_30 (by decide) ?_
  refine lv_istore (lv' := [(4, .int 0), (3, .int 6), (0, .ref b0), (1, .int 3), (2, .int 0)]) hx hb d_X_fitting_31 hl (by decide) rfl (fun ls hl => ?_)
  refine lv_iload hx hb d_X_fitting_33 (lv_at hl 0 rfl) ?_
  refine lv_aload_n hx hb d_X_fitting_35 rfl (lv_at hl 2 rfl) ?_
  refine va_get (D := G.1) (ci := 0) (v := .ref b2) (C := R_X) (T := F_X) (N := 20) hx hb hts i_X hown hK hP 0 rfl rfl 1 (by decide) (hts _ q418) (fun _ h9 => h9) rfl d_X_fitting_36 ?_
  refine va_get (D := G.1) (ci := 2) (v := .int 0) (C := R_Traces) (T := F_Traces) (N := 6) hx hb hts i_Traces hown hK hP 2 rfl rfl 0 (by decide) (hts _ q58) (fun _ h9 => h9) rfl d_X_fitting_39 ?_
  refine lv_icmp_ge (tgt := 100) hx hb d_X_fitting_42 (by decide) (fun _ => ?_) (fun hc => absurd hc (by decide +kernel))
  refine lv_iload_n hx hb d_X_fitting_100 rfl (lv_at hl 4 rfl) ?_
  refine lv_if_eq (tgt := 115) hx hb d_X_fitting_101 (by decide) (fun _ => ?_) (fun hc => absurd hc (by decide +kernel))
  refine lv_aload_n hx hb d_X_fitting_115 rfl (lv_at hl 2 rfl) ?_
  refine va_get (D := G.1) (ci := 0) (v := .ref b18) (C := R_X) (T := F_X) (N := 20) hx hb hts i_X hown hK hP 0 rfl rfl 19 (by decide) (hts _ q436) (fun _ h9 => h9) rfl d_X_fitting_116 ?_
  refine lv_iload_n hx hb d_X_fitting_119 rfl (lv_at hl 1 rfl) ?_
  refine va_iald hx hb hK hP 1 0 rfl rfl (i := 6) (z_in rfl) d_X_fitting_120 ?_
  refine z_topi (y := 0) rfl ?_
  exact z_iret hx hb hr hlocks hP hD hS (Nat.le_of_ble_eq_true rfl) (Nat.le_of_ble_eq_true rfl) d_X_fitting_121 ⟨rfl, rfl⟩
theorem d_X_fit_43 : decode prog_1_method_25_code 43 = .ok (.aload_n 0, 1) := by decide +kernel
theorem d_X_fit_44 : decode prog_1_method_25_code 44 = .ok (.iload_n 1, 1) := by decide +kernel
theorem d_X_fit_45 : decode prog_1_method_25_code 45 = .ok (.iconst 1, 1) := by decide +kernel
theorem d_X_fit_46 : decode prog_1_method_25_code 46 = .ok (.invokevirtual 344, 3) := by decide +kernel
theorem d_X_fitting_104 : decode prog_1_method_40_code 104 = .ok (.aload_n 0, 1) := by decide +kernel
theorem d_X_fitting_105 : decode prog_1_method_40_code 105 = .ok (.getfield 109, 3) := by decide +kernel
theorem d_X_fitting_108 : decode prog_1_method_40_code 108 = .ok (.iload_n 3, 1) := by decide +kernel
theorem d_X_fitting_109 : decode prog_1_method_40_code 109 = .ok (.iconst 1, 1) := by decide +kernel
theorem d_X_fitting_110 : decode prog_1_method_40_code 110 = .ok (.iadd, 1) := by decide +kernel
theorem d_X_fitting_111 : decode prog_1_method_40_code 111 = .ok (.iaload, 1) := by decide +kernel
theorem d_X_fitting_112 : decode prog_1_method_40_code 112 = .ok (.goto 9, 3) := by decide +kernel
abbrev m_c5_X_fitting : Room := { frames := 0, cells := 0, slots := 0, locals := 0 }
set_option maxHeartbeats 4000000 in
set_option maxRecDepth 100000 in
theorem c5_X_fitting (l : Launch) (G : zG) (b0 : Nat) (b1 : Nat) (b2 : Nat) (b3 : Nat) (b4 : Nat) (b5 : Nat) (b6 : Nat) (b7 : Nat) (b8 : Nat) (b9 : Nat) (b10 : Nat) (b11 : Nat) (b12 : Nat) (b13 : Nat) (b14 : Nat) (b15 : Nat) (b16 : Nat) (b17 : Nat) (b18 : Nat) (b19 : Nat) (b20 : Nat) (b21 : Nat)  : zM l G y_X_fitting prog_1_method_40_code 5 (Option.some Jvm.ClassFile.FieldType.int) m_c5_X_fitting [.ref b0, .int 0, .int 1] [(b0, .inr (0, [.ref b1, .ref b2, .ref b3, .ref b4, .int 0, .int 0, .ref b5, .ref b6, .ref b7, .ref b8, .ref b9, .ref b10, .ref b11, .ref b12, .ref b13, .ref b14, .ref b15, .ref b16, .ref b17, .ref b18])), (b18, .inl (G.2 0, 8, .inl (fun _ => (-1)))), (b2, .inr (2, [.int 0, .int 1, .int 0, .ref b19, .ref b20, .ref b21]))] (fun v w => (v = some (.int 0) ∧ w = [(b0, .inr (0, [.ref b1, .ref b2, .ref b3, .ref b4, .int 0, .int 0, .ref b5, .ref b6, .ref b7, .ref b8, .ref b9, .ref b10, .ref b11, .ref b12, .ref b13, .ref b14, .ref b15, .ref b16, .ref b17, .ref b18])), (b18, .inl (G.2 0, 8, .inl (upd (upd (fun _ => (-1)) 0 0) 1 0))), (b2, .inr (2, [.int 0, .int 1, .int 0, .ref b19, .ref b20, .ref b21]))])) := by
  refine z_start (by decide +kernel) (Nat.le_of_ble_eq_true rfl) ?_
  intro p e s m below meth c A Z hr hnm hA hP hD hS ls hl
  have Z : zC p s m _ meth c prog_1_method_40_code 5 "TraceMachines" G := Z
  obtain ⟨hx, hb, hml, hown, hts, hK, hN, hlocks⟩ := id Z
  have hl : lv_has ls 5 [(0, .ref b0), (1, .int 0), (2, .int 1)] := hl
  refine lv_iconst (v := 2) hx hb d_X_fitting_0 (by decide) ?_
  refine lv_iload_n hx hb d_X_fitting_1 rfl (lv_at hl 1 rfl) ?_
  refine lv_imul hx hb d_X_fitting_2 ?_
  refine z_topi (y := 0) (by decide +kernel) ?_
  refine lv_istore_n (lv' := [(3, .int 0), (0, .ref b0), (1, .int 0), (2, .int 1)]) hx hb d_X_fitting_3 rfl hl (by decide) rfl (fun ls hl => ?_)
  refine lv_aload_n hx hb d_X_fitting_4 rfl (lv_at hl 1 rfl) ?_
  refine va_get (D := G.1) (ci := 0) (v := .ref b18) (C := R_X) (T := F_X) (N := 20) hx hb hts i_X hown hK hP 0 rfl rfl 19 (by decide) (hts _ q436) (fun _ h9 => h9) rfl d_X_fitting_5 ?_
  refine lv_iload_n hx hb d_X_fitting_8 rfl (lv_at hl 0 rfl) ?_
  refine va_iald hx hb hK hP 1 0 rfl rfl (i := 0) (z_in rfl) d_X_fitting_9 ?_
  refine z_topi (y := (-1)) rfl ?_
  refine lv_iconst (v := (-1)) hx hb d_X_fitting_10 (by decide) ?_
  refine lv_icmp_ne (tgt := 100) hx hb d_X_fitting_11 (by decide) (fun hc => absurd hc (by decide +kernel)) (fun _ => ?_)
  refine lv_aload_n hx hb d_X_fitting_14 rfl (lv_at hl 1 rfl) ?_
  refine va_get (D := G.1) (ci := 0) (v := .ref b18) (C := R_X) (T := F_X) (N := 20) hx hb hts i_X hown hK hP 0 rfl rfl 19 (by decide) (hts _ q436) (fun _ h9 => h9) rfl d_X_fitting_15 ?_
  refine lv_iload_n hx hb d_X_fitting_18 rfl (lv_at hl 0 rfl) ?_
  refine lv_iconst (v := 0) hx hb d_X_fitting_19 (by decide) ?_
  refine va_iast hx hb hK hP hD hS 1 0 rfl rfl (i := 0) (z_in rfl) d_X_fitting_20 (fun H locs hP hD hS => ?_)
  have hP : va_P G.1 classes [(b0, .inr (0, [.ref b1, .ref b2, .ref b3, .ref b4, .int 0, .int 0, .ref b5, .ref b6, .ref b7, .ref b8, .ref b9, .ref b10, .ref b11, .ref b12, .ref b13, .ref b14, .ref b15, .ref b16, .ref b17, .ref b18])), (b18, .inl (G.2 0, 8, .inl (upd (fun _ => (-1)) 0 0))), (b2, .inr (2, [.int 0, .int 1, .int 0, .ref b19, .ref b20, .ref b21]))] H := hP
  have hD := z_tie hP hD rfl
  refine lv_aload_n hx hb d_X_fitting_21 rfl (lv_at hl 1 rfl) ?_
  refine va_get (D := G.1) (ci := 0) (v := .ref b18) (C := R_X) (T := F_X) (N := 20) hx hb hts i_X hown hK hP 0 rfl rfl 19 (by decide) (hts _ q436) (fun _ h9 => h9) rfl d_X_fitting_22 ?_
  refine lv_iload_n hx hb d_X_fitting_25 rfl (lv_at hl 0 rfl) ?_
  refine lv_iconst (v := 1) hx hb d_X_fitting_26 (by decide) ?_
  refine lv_iadd hx hb d_X_fitting_27 ?_
  refine z_topi (y := 1) (by decide +kernel) ?_
  refine lv_iconst (v := 0) hx hb d_X_fitting_28 (by decide) ?_
  refine va_iast hx hb hK hP hD hS 1 0 rfl rfl (i := 1) (z_in rfl) d_X_fitting_29 (fun H locs hP hD hS => ?_)
  have hP : va_P G.1 classes [(b0, .inr (0, [.ref b1, .ref b2, .ref b3, .ref b4, .int 0, .int 0, .ref b5, .ref b6, .ref b7, .ref b8, .ref b9, .ref b10, .ref b11, .ref b12, .ref b13, .ref b14, .ref b15, .ref b16, .ref b17, .ref b18])), (b18, .inl (G.2 0, 8, .inl (upd (upd (fun _ => (-1)) 0 0) 1 0))), (b2, .inr (2, [.int 0, .int 1, .int 0, .ref b19, .ref b20, .ref b21]))] H := hP
  have hD := z_tie hP hD rfl
  refine lv_iconst (v := 0) hx hb d_X_fitting_30 (by decide) ?_
  refine lv_istore (lv' := [(4, .int 0), (3, .int 0), (0, .ref b0), (1, .int 0), (2, .int 1)]) hx hb d_X_fitting_31 hl (by decide) rfl (fun ls hl => ?_)
  refine lv_iload hx hb d_X_fitting_33 (lv_at hl 0 rfl) ?_
  refine lv_aload_n hx hb d_X_fitting_35 rfl (lv_at hl 2 rfl) ?_
  refine va_get (D := G.1) (ci := 0) (v := .ref b2) (C := R_X) (T := F_X) (N := 20) hx hb hts i_X hown hK hP 0 rfl rfl 1 (by decide) (hts _ q418) (fun _ h9 => h9) rfl d_X_fitting_36 ?_
  refine va_get (D := G.1) (ci := 2) (v := .int 0) (C := R_Traces) (T := F_Traces) (N := 6) hx hb hts i_Traces hown hK hP 2 rfl rfl 0 (by decide) (hts _ q58) (fun _ h9 => h9) rfl d_X_fitting_39 ?_
  refine lv_icmp_ge (tgt := 100) hx hb d_X_fitting_42 (by decide) (fun _ => ?_) (fun hc => absurd hc (by decide +kernel))
  refine lv_iload_n hx hb d_X_fitting_100 rfl (lv_at hl 4 rfl) ?_
  refine lv_if_eq (tgt := 115) hx hb d_X_fitting_101 (by decide) (fun hc => absurd hc (by decide +kernel)) (fun _ => ?_)
  refine lv_aload_n hx hb d_X_fitting_104 rfl (lv_at hl 2 rfl) ?_
  refine va_get (D := G.1) (ci := 0) (v := .ref b18) (C := R_X) (T := F_X) (N := 20) hx hb hts i_X hown hK hP 0 rfl rfl 19 (by decide) (hts _ q436) (fun _ h9 => h9) rfl d_X_fitting_105 ?_
  refine lv_iload_n hx hb d_X_fitting_108 rfl (lv_at hl 1 rfl) ?_
  refine lv_iconst (v := 1) hx hb d_X_fitting_109 (by decide) ?_
  refine lv_iadd hx hb d_X_fitting_110 ?_
  refine z_topi (y := 1) (by decide +kernel) ?_
  refine va_iald hx hb hK hP 1 0 rfl rfl (i := 1) (z_in rfl) d_X_fitting_111 ?_
  refine z_topi (y := 0) rfl ?_
  refine lv_goto (tgt := 121) hx hb d_X_fitting_112 (by decide) ?_
  exact z_iret hx hb hr hlocks hP hD hS (Nat.le_of_ble_eq_true rfl) (Nat.le_of_ble_eq_true rfl) d_X_fitting_121 ⟨rfl, rfl⟩
theorem d_X_fit_49 : decode prog_1_method_25_code 49 = .ok (.ireturn, 1) := by decide +kernel
abbrev m_c6_X_fitting : Room := { frames := 0, cells := 0, slots := 0, locals := 0 }
set_option maxHeartbeats 4000000 in
set_option maxRecDepth 100000 in
theorem c6_X_fitting (l : Launch) (G : zG) (b0 : Nat) (b1 : Nat) (b2 : Nat) (b3 : Nat) (b4 : Nat) (b5 : Nat) (b6 : Nat) (b7 : Nat) (b8 : Nat) (b9 : Nat) (b10 : Nat) (b11 : Nat) (b12 : Nat) (b13 : Nat) (b14 : Nat) (b15 : Nat) (b16 : Nat) (b17 : Nat) (b18 : Nat) (b19 : Nat) (b20 : Nat) (b21 : Nat)  : zM l G y_X_fitting prog_1_method_40_code 5 (Option.some Jvm.ClassFile.FieldType.int) m_c6_X_fitting [.ref b0, .int 1, .int 1] [(b0, .inr (0, [.ref b1, .ref b2, .ref b3, .ref b4, .int 0, .int 0, .ref b5, .ref b6, .ref b7, .ref b8, .ref b9, .ref b10, .ref b11, .ref b12, .ref b13, .ref b14, .ref b15, .ref b16, .ref b17, .ref b18])), (b18, .inl (G.2 0, 8, .inl (fun _ => (-1)))), (b2, .inr (2, [.int 0, .int 1, .int 0, .ref b19, .ref b20, .ref b21]))] (fun v w => (v = some (.int 0) ∧ w = [(b0, .inr (0, [.ref b1, .ref b2, .ref b3, .ref b4, .int 0, .int 0, .ref b5, .ref b6, .ref b7, .ref b8, .ref b9, .ref b10, .ref b11, .ref b12, .ref b13, .ref b14, .ref b15, .ref b16, .ref b17, .ref b18])), (b18, .inl (G.2 0, 8, .inl (upd (upd (fun _ => (-1)) 2 0) 3 0))), (b2, .inr (2, [.int 0, .int 1, .int 0, .ref b19, .ref b20, .ref b21]))])) := by
  refine z_start (by decide +kernel) (Nat.le_of_ble_eq_true rfl) ?_
  intro p e s m below meth c A Z hr hnm hA hP hD hS ls hl
  have Z : zC p s m _ meth c prog_1_method_40_code 5 "TraceMachines" G := Z
  obtain ⟨hx, hb, hml, hown, hts, hK, hN, hlocks⟩ := id Z
  have hl : lv_has ls 5 [(0, .ref b0), (1, .int 1), (2, .int 1)] := hl
  refine lv_iconst (v := 2) hx hb d_X_fitting_0 (by decide) ?_
  refine lv_iload_n hx hb d_X_fitting_1 rfl (lv_at hl 1 rfl) ?_
  refine lv_imul hx hb d_X_fitting_2 ?_
  refine z_topi (y := 2) (by decide +kernel) ?_
  refine lv_istore_n (lv' := [(3, .int 2), (0, .ref b0), (1, .int 1), (2, .int 1)]) hx hb d_X_fitting_3 rfl hl (by decide) rfl (fun ls hl => ?_)
  refine lv_aload_n hx hb d_X_fitting_4 rfl (lv_at hl 1 rfl) ?_
  refine va_get (D := G.1) (ci := 0) (v := .ref b18) (C := R_X) (T := F_X) (N := 20) hx hb hts i_X hown hK hP 0 rfl rfl 19 (by decide) (hts _ q436) (fun _ h9 => h9) rfl d_X_fitting_5 ?_
  refine lv_iload_n hx hb d_X_fitting_8 rfl (lv_at hl 0 rfl) ?_
  refine va_iald hx hb hK hP 1 0 rfl rfl (i := 2) (z_in rfl) d_X_fitting_9 ?_
  refine z_topi (y := (-1)) rfl ?_
  refine lv_iconst (v := (-1)) hx hb d_X_fitting_10 (by decide) ?_
  refine lv_icmp_ne (tgt := 100) hx hb d_X_fitting_11 (by decide) (fun hc => absurd hc (by decide +kernel)) (fun _ => ?_)
  refine lv_aload_n hx hb d_X_fitting_14 rfl (lv_at hl 1 rfl) ?_
  refine va_get (D := G.1) (ci := 0) (v := .ref b18) (C := R_X) (T := F_X) (N := 20) hx hb hts i_X hown hK hP 0 rfl rfl 19 (by decide) (hts _ q436) (fun _ h9 => h9) rfl d_X_fitting_15 ?_
  refine lv_iload_n hx hb d_X_fitting_18 rfl (lv_at hl 0 rfl) ?_
  refine lv_iconst (v := 0) hx hb d_X_fitting_19 (by decide) ?_
  refine va_iast hx hb hK hP hD hS 1 0 rfl rfl (i := 2) (z_in rfl) d_X_fitting_20 (fun H locs hP hD hS => ?_)
  have hP : va_P G.1 classes [(b0, .inr (0, [.ref b1, .ref b2, .ref b3, .ref b4, .int 0, .int 0, .ref b5, .ref b6, .ref b7, .ref b8, .ref b9, .ref b10, .ref b11, .ref b12, .ref b13, .ref b14, .ref b15, .ref b16, .ref b17, .ref b18])), (b18, .inl (G.2 0, 8, .inl (upd (fun _ => (-1)) 2 0))), (b2, .inr (2, [.int 0, .int 1, .int 0, .ref b19, .ref b20, .ref b21]))] H := hP
  have hD := z_tie hP hD rfl
  refine lv_aload_n hx hb d_X_fitting_21 rfl (lv_at hl 1 rfl) ?_
  refine va_get (D := G.1) (ci := 0) (v := .ref b18) (C := R_X) (T := F_X) (N := 20) hx hb hts i_X hown hK hP 0 rfl rfl 19 (by decide) (hts _ q436) (fun _ h9 => h9) rfl d_X_fitting_22 ?_
  refine lv_iload_n hx hb d_X_fitting_25 rfl (lv_at hl 0 rfl) ?_
  refine lv_iconst (v := 1) hx hb d_X_fitting_26 (by decide) ?_
  refine lv_iadd hx hb d_X_fitting_27 ?_
  refine z_topi (y := 3) (by decide +kernel) ?_
  refine lv_iconst (v := 0) hx hb d_X_fitting_28 (by decide) ?_
  refine va_iast hx hb hK hP hD hS 1 0 rfl rfl (i := 3) (z_in rfl) d_X_fitting_29 (fun H locs hP hD hS => ?_)
  have hP : va_P G.1 classes [(b0, .inr (0, [.ref b1, .ref b2, .ref b3, .ref b4, .int 0, .int 0, .ref b5, .ref b6, .ref b7, .ref b8, .ref b9, .ref b10, .ref b11, .ref b12, .ref b13, .ref b14, .ref b15, .ref b16, .ref b17, .ref b18])), (b18, .inl (G.2 0, 8, .inl (upd (upd (fun _ => (-1)) 2 0) 3 0))), (b2, .inr (2, [.int 0, .int 1, .int 0, .ref b19, .ref b20, .ref b21]))] H := hP
  have hD := z_tie hP hD rfl
  refine lv_iconst (v := 0) hx hb d_X_fitting_30 (by decide) ?_
  refine lv_istore (lv' := [(4, .int 0), (3, .int 2), (0, .ref b0), (1, .int 1), (2, .int 1)]) hx hb d_X_fitting_31 hl (by decide) rfl (fun ls hl => ?_)
  refine lv_iload hx hb d_X_fitting_33 (lv_at hl 0 rfl) ?_
  refine lv_aload_n hx hb d_X_fitting_35 rfl (lv_at hl 2 rfl) ?_
  refine va_get (D := G.1) (ci := 0) (v := .ref b2) (C := R_X) (T := F_X) (N := 20) hx hb hts i_X hown hK hP 0 rfl rfl 1 (by decide) (hts _ q418) (fun _ h9 => h9) rfl d_X_fitting_36 ?_
  refine va_get (D := G.1) (ci := 2) (v := .int 0) (C := R_Traces) (T := F_Traces) (N := 6) hx hb hts i_Traces hown hK hP 2 rfl rfl 0 (by decide) (hts _ q58) (fun _ h9 => h9) rfl d_X_fitting_39 ?_
  refine lv_icmp_ge (tgt := 100) hx hb d_X_fitting_42 (by decide) (fun _ => ?_) (fun hc => absurd hc (by decide +kernel))
  refine lv_iload_n hx hb d_X_fitting_100 rfl (lv_at hl 4 rfl) ?_
  refine lv_if_eq (tgt := 115) hx hb d_X_fitting_101 (by decide) (fun hc => absurd hc (by decide +kernel)) (fun _ => ?_)
  refine lv_aload_n hx hb d_X_fitting_104 rfl (lv_at hl 2 rfl) ?_
  refine va_get (D := G.1) (ci := 0) (v := .ref b18) (C := R_X) (T := F_X) (N := 20) hx hb hts i_X hown hK hP 0 rfl rfl 19 (by decide) (hts _ q436) (fun _ h9 => h9) rfl d_X_fitting_105 ?_
  refine lv_iload_n hx hb d_X_fitting_108 rfl (lv_at hl 1 rfl) ?_
  refine lv_iconst (v := 1) hx hb d_X_fitting_109 (by decide) ?_
  refine lv_iadd hx hb d_X_fitting_110 ?_
  refine z_topi (y := 3) (by decide +kernel) ?_
  refine va_iald hx hb hK hP 1 0 rfl rfl (i := 3) (z_in rfl) d_X_fitting_111 ?_
  refine z_topi (y := 0) rfl ?_
  refine lv_goto (tgt := 121) hx hb d_X_fitting_112 (by decide) ?_
  exact z_iret hx hb hr hlocks hP hD hS (Nat.le_of_ble_eq_true rfl) (Nat.le_of_ble_eq_true rfl) d_X_fitting_121 ⟨rfl, rfl⟩
abbrev m_c7_X_fitting : Room := { frames := 0, cells := 0, slots := 0, locals := 0 }
set_option maxHeartbeats 4000000 in
set_option maxRecDepth 100000 in
theorem c7_X_fitting (l : Launch) (G : zG) (b0 : Nat) (b1 : Nat) (b2 : Nat) (b3 : Nat) (b4 : Nat) (b5 : Nat) (b6 : Nat) (b7 : Nat) (b8 : Nat) (b9 : Nat) (b10 : Nat) (b11 : Nat) (b12 : Nat) (b13 : Nat) (b14 : Nat) (b15 : Nat) (b16 : Nat) (b17 : Nat) (b18 : Nat) (b19 : Nat) (b20 : Nat) (b21 : Nat)  : zM l G y_X_fitting prog_1_method_40_code 5 (Option.some Jvm.ClassFile.FieldType.int) m_c7_X_fitting [.ref b0, .int 2, .int 1] [(b0, .inr (0, [.ref b1, .ref b2, .ref b3, .ref b4, .int 0, .int 0, .ref b5, .ref b6, .ref b7, .ref b8, .ref b9, .ref b10, .ref b11, .ref b12, .ref b13, .ref b14, .ref b15, .ref b16, .ref b17, .ref b18])), (b18, .inl (G.2 0, 8, .inl (fun _ => (-1)))), (b2, .inr (2, [.int 0, .int 1, .int 0, .ref b19, .ref b20, .ref b21]))] (fun v w => (v = some (.int 0) ∧ w = [(b0, .inr (0, [.ref b1, .ref b2, .ref b3, .ref b4, .int 0, .int 0, .ref b5, .ref b6, .ref b7, .ref b8, .ref b9, .ref b10, .ref b11, .ref b12, .ref b13, .ref b14, .ref b15, .ref b16, .ref b17, .ref b18])), (b18, .inl (G.2 0, 8, .inl (upd (upd (fun _ => (-1)) 4 0) 5 0))), (b2, .inr (2, [.int 0, .int 1, .int 0, .ref b19, .ref b20, .ref b21]))])) := by
  refine z_start (by decide +kernel) (Nat.le_of_ble_eq_true rfl) ?_
  intro p e s m below meth c A Z hr hnm hA hP hD hS ls hl
  have Z : zC p s m _ meth c prog_1_method_40_code 5 "TraceMachines" G := Z
  obtain ⟨hx, hb, hml, hown, hts, hK, hN, hlocks⟩ := id Z
  have hl : lv_has ls 5 [(0, .ref b0), (1, .int 2), (2, .int 1)] := hl
  refine lv_iconst (v := 2) hx hb d_X_fitting_0 (by decide) ?_
  refine lv_iload_n hx hb d_X_fitting_1 rfl (lv_at hl 1 rfl) ?_
  refine lv_imul hx hb d_X_fitting_2 ?_
  refine z_topi (y := 4) (by decide +kernel) ?_
  refine lv_istore_n (lv' := [(3, .int 4), (0, .ref b0), (1, .int 2), (2, .int 1)]) hx hb d_X_fitting_3 rfl hl (by decide) rfl (fun ls hl => ?_)
  refine lv_aload_n hx hb d_X_fitting_4 rfl (lv_at hl 1 rfl) ?_
  refine va_get (D := G.1) (ci := 0) (v := .ref b18) (C := R_X) (T := F_X) (N := 20) hx hb hts i_X hown hK hP 0 rfl rfl 19 (by decide) (hts _ q436) (fun _ h9 => h9) rfl d_X_fitting_5 ?_
  refine lv_iload_n hx hb d_X_fitting_8 rfl (lv_at hl 0 rfl) ?_
  refine va_iald hx hb hK hP 1 0 rfl rfl (i := 4) (z_in rfl) d_X_fitting_9 ?_
  refine z_topi (y := (-1)) rfl ?_
  refine lv_iconst (v := (-1)) hx hb d_X_fitting_10 (by decide) ?_
  refine lv_icmp_ne (tgt := 100) hx hb d_X_fitting_11 (by decide) (fun hc => absurd hc (by decide +kernel)) (fun _ => ?_)
  refine lv_aload_n hx hb d_X_fitting_14 rfl (lv_at hl 1 rfl) ?_
  refine va_get (D := G.1) (ci := 0) (v := .ref b18) (C := R_X) (T := F_X) (N := 20) hx hb hts i_X hown hK hP 0 rfl rfl 19 (by decide) (hts _ q436) (fun _ h9 => h9) rfl d_X_fitting_15 ?_
  refine lv_iload_n hx hb d_X_fitting_18 rfl (lv_at hl 0 rfl) ?_
  refine lv_iconst (v := 0) hx hb d_X_fitting_19 (by decide) ?_
  refine va_iast hx hb hK hP hD hS 1 0 rfl rfl (i := 4) (z_in rfl) d_X_fitting_20 (fun H locs hP hD hS => ?_)
  have hP : va_P G.1 classes [(b0, .inr (0, [.ref b1, .ref b2, .ref b3, .ref b4, .int 0, .int 0, .ref b5, .ref b6, .ref b7, .ref b8, .ref b9, .ref b10, .ref b11, .ref b12, .ref b13, .ref b14, .ref b15, .ref b16, .ref b17, .ref b18])), (b18, .inl (G.2 0, 8, .inl (upd (fun _ => (-1)) 4 0))), (b2, .inr (2, [.int 0, .int 1, .int 0, .ref b19, .ref b20, .ref b21]))] H := hP
  have hD := z_tie hP hD rfl
  refine lv_aload_n hx hb d_X_fitting_21 rfl (lv_at hl 1 rfl) ?_
  refine va_get (D := G.1) (ci := 0) (v := .ref b18) (C := R_X) (T := F_X) (N := 20) hx hb hts i_X hown hK hP 0 rfl rfl 19 (by decide) (hts _ q436) (fun _ h9 => h9) rfl d_X_fitting_22 ?_
  refine lv_iload_n hx hb d_X_fitting_25 rfl (lv_at hl 0 rfl) ?_
  refine lv_iconst (v := 1) hx hb d_X_fitting_26 (by decide) ?_
  refine lv_iadd hx hb d_X_fitting_27 ?_
  refine z_topi (y := 5) (by decide +kernel) ?_
  refine lv_iconst (v := 0) hx hb d_X_fitting_28 (by decide) ?_
  refine va_iast hx hb hK hP hD hS 1 0 rfl rfl (i := 5) (z_in rfl) d_X_fitting_29 (fun H locs hP hD hS => ?_)
  have hP : va_P G.1 classes [(b0, .inr (0, [.ref b1, .ref b2, .ref b3, .ref b4, .int 0, .int 0, .ref b5, .ref b6, .ref b7, .ref b8, .ref b9, .ref b10, .ref b11, .ref b12, .ref b13, .ref b14, .ref b15, .ref b16, .ref b17, .ref b18])), (b18, .inl (G.2 0, 8, .inl (upd (upd (fun _ => (-1)) 4 0) 5 0))), (b2, .inr (2, [.int 0, .int 1, .int 0, .ref b19, .ref b20, .ref b21]))] H := hP
  have hD := z_tie hP hD rfl
  refine lv_iconst (v := 0) hx hb d_X_fitting_30 (by decide) ?_
  refine lv_istore (lv' := [(4, .int 0), (3, .int 4), (0, .ref b0), (1, .int 2), (2, .int 1)]) hx hb d_X_fitting_31 hl (by decide) rfl (fun ls hl => ?_)
  refine lv_iload hx hb d_X_fitting_33 (lv_at hl 0 rfl) ?_
  refine lv_aload_n hx hb d_X_fitting_35 rfl (lv_at hl 2 rfl) ?_
  refine va_get (D := G.1) (ci := 0) (v := .ref b2) (C := R_X) (T := F_X) (N := 20) hx hb hts i_X hown hK hP 0 rfl rfl 1 (by decide) (hts _ q418) (fun _ h9 => h9) rfl d_X_fitting_36 ?_
  refine va_get (D := G.1) (ci := 2) (v := .int 0) (C := R_Traces) (T := F_Traces) (N := 6) hx hb hts i_Traces hown hK hP 2 rfl rfl 0 (by decide) (hts _ q58) (fun _ h9 => h9) rfl d_X_fitting_39 ?_
  refine lv_icmp_ge (tgt := 100) hx hb d_X_fitting_42 (by decide) (fun _ => ?_) (fun hc => absurd hc (by decide +kernel))
  refine lv_iload_n hx hb d_X_fitting_100 rfl (lv_at hl 4 rfl) ?_
  refine lv_if_eq (tgt := 115) hx hb d_X_fitting_101 (by decide) (fun hc => absurd hc (by decide +kernel)) (fun _ => ?_)
  refine lv_aload_n hx hb d_X_fitting_104 rfl (lv_at hl 2 rfl) ?_
  refine va_get (D := G.1) (ci := 0) (v := .ref b18) (C := R_X) (T := F_X) (N := 20) hx hb hts i_X hown hK hP 0 rfl rfl 19 (by decide) (hts _ q436) (fun _ h9 => h9) rfl d_X_fitting_105 ?_
  refine lv_iload_n hx hb d_X_fitting_108 rfl (lv_at hl 1 rfl) ?_
  refine lv_iconst (v := 1) hx hb d_X_fitting_109 (by decide) ?_
  refine lv_iadd hx hb d_X_fitting_110 ?_
  refine z_topi (y := 5) (by decide +kernel) ?_
  refine va_iald hx hb hK hP 1 0 rfl rfl (i := 5) (z_in rfl) d_X_fitting_111 ?_
  refine z_topi (y := 0) rfl ?_
  refine lv_goto (tgt := 121) hx hb d_X_fitting_112 (by decide) ?_
  exact z_iret hx hb hr hlocks hP hD hS (Nat.le_of_ble_eq_true rfl) (Nat.le_of_ble_eq_true rfl) d_X_fitting_121 ⟨rfl, rfl⟩
abbrev m_c8_X_fitting : Room := { frames := 0, cells := 0, slots := 0, locals := 0 }
set_option maxHeartbeats 4000000 in
set_option maxRecDepth 100000 in
theorem c8_X_fitting (l : Launch) (G : zG) (b0 : Nat) (b1 : Nat) (b2 : Nat) (b3 : Nat) (b4 : Nat) (b5 : Nat) (b6 : Nat) (b7 : Nat) (b8 : Nat) (b9 : Nat) (b10 : Nat) (b11 : Nat) (b12 : Nat) (b13 : Nat) (b14 : Nat) (b15 : Nat) (b16 : Nat) (b17 : Nat) (b18 : Nat) (b19 : Nat) (b20 : Nat) (b21 : Nat)  : zM l G y_X_fitting prog_1_method_40_code 5 (Option.some Jvm.ClassFile.FieldType.int) m_c8_X_fitting [.ref b0, .int 3, .int 1] [(b0, .inr (0, [.ref b1, .ref b2, .ref b3, .ref b4, .int 0, .int 0, .ref b5, .ref b6, .ref b7, .ref b8, .ref b9, .ref b10, .ref b11, .ref b12, .ref b13, .ref b14, .ref b15, .ref b16, .ref b17, .ref b18])), (b18, .inl (G.2 0, 8, .inl (fun _ => (-1)))), (b2, .inr (2, [.int 0, .int 1, .int 0, .ref b19, .ref b20, .ref b21]))] (fun v w => (v = some (.int 0) ∧ w = [(b0, .inr (0, [.ref b1, .ref b2, .ref b3, .ref b4, .int 0, .int 0, .ref b5, .ref b6, .ref b7, .ref b8, .ref b9, .ref b10, .ref b11, .ref b12, .ref b13, .ref b14, .ref b15, .ref b16, .ref b17, .ref b18])), (b18, .inl (G.2 0, 8, .inl (upd (upd (fun _ => (-1)) 6 0) 7 0))), (b2, .inr (2, [.int 0, .int 1, .int 0, .ref b19, .ref b20, .ref b21]))])) := by
  refine z_start (by decide +kernel) (Nat.le_of_ble_eq_true rfl) ?_
  intro p e s m below meth c A Z hr hnm hA hP hD hS ls hl
  have Z : zC p s m _ meth c prog_1_method_40_code 5 "TraceMachines" G := Z
  obtain ⟨hx, hb, hml, hown, hts, hK, hN, hlocks⟩ := id Z
  have hl : lv_has ls 5 [(0, .ref b0), (1, .int 3), (2, .int 1)] := hl
  refine lv_iconst (v := 2) hx hb d_X_fitting_0 (by decide) ?_
  refine lv_iload_n hx hb d_X_fitting_1 rfl (lv_at hl 1 rfl) ?_
  refine lv_imul hx hb d_X_fitting_2 ?_
  refine z_topi (y := 6) (by decide +kernel) ?_
  refine lv_istore_n (lv' := [(3, .int 6), (0, .ref b0), (1, .int 3), (2, .int 1)]) hx hb d_X_fitting_3 rfl hl (by decide) rfl (fun ls hl => ?_)
  refine lv_aload_n hx hb d_X_fitting_4 rfl (lv_at hl 1 rfl) ?_
  refine va_get (D := G.1) (ci := 0) (v := .ref b18) (C := R_X) (T := F_X) (N := 20) hx hb hts i_X hown hK hP 0 rfl rfl 19 (by decide) (hts _ q436) (fun _ h9 => h9) rfl d_X_fitting_5 ?_
  refine lv_iload_n hx hb d_X_fitting_8 rfl (lv_at hl 0 rfl) ?_
  refine va_iald hx hb hK hP 1 0 rfl rfl (i := 6) (z_in rfl) d_X_fitting_9 ?_
  refine z_topi (y := (-1)) rfl ?_
  refine lv_iconst (v := (-1)) hx hb d_X_fitting_10 (by decide) ?_
  refine lv_icmp_ne (tgt := 100) hx hb d_X_fitting_11 (by decide) (fun hc => absurd hc (by decide +kernel)) (fun _ => ?_)
  refine lv_aload_n hx hb d_X_fitting_14 rfl (lv_at hl 1 rfl) ?_
  refine va_get (D := G.1) (ci := 0) (v := .ref b18) (C := R_X) (T := F_X) (N := 20) hx hb hts i_X hown hK hP 0 rfl rfl 19 (by decide) (hts _ q436) (fun _ h9 => h9) rfl d_X_fitting_15 ?_
  refine lv_iload_n hx hb d_X_fitting_18 rfl (lv_at hl 0 rfl) ?_
  refine lv_iconst (v := 0) hx hb d_X_fitting_19 (by decide) ?_
  refine va_iast hx hb hK hP hD hS 1 0 rfl rfl (i := 6) (z_in rfl) d_X_fitting_20 (fun H locs hP hD hS => ?_)
  have hP : va_P G.1 classes [(b0, .inr (0, [.ref b1, .ref b2, .ref b3, .ref b4, .int 0, .int 0, .ref b5, .ref b6, .ref b7, .ref b8, .ref b9, .ref b10, .ref b11, .ref b12, .ref b13, .ref b14, .ref b15, .ref b16, .ref b17, .ref b18])), (b18, .inl (G.2 0, 8, .inl (upd (fun _ => (-1)) 6 0))), (b2, .inr (2, [.int 0, .int 1, .int 0, .ref b19, .ref b20, .ref b21]))] H := hP
  have hD := z_tie hP hD rfl
  refine lv_aload_n hx hb d_X_fitting_21 rfl (lv_at hl 1 rfl) ?_
  refine va_get (D := G.1) (ci := 0) (v := .ref b18) (C := R_X) (T := F_X) (N := 20) hx hb hts i_X hown hK hP 0 rfl rfl 19 (by decide) (hts _ q436) (fun _ h9 => h9) rfl d_X_fitting_22 ?_
  refine lv_iload_n hx hb d_X_fitting_25 rfl (lv_at hl 0 rfl) ?_
  refine lv_iconst (v := 1) hx hb d_X_fitting_26 (by decide) ?_
  refine lv_iadd hx hb d_X_fitting_27 ?_
  refine z_topi (y := 7) (by decide +kernel) ?_
  refine lv_iconst (v := 0) hx hb d_X_fitting_28 (by decide) ?_
  refine va_iast hx hb hK hP hD hS 1 0 rfl rfl (i := 7) (z_in rfl) d_X_fitting_29 (fun H locs hP hD hS => ?_)
  have hP : va_P G.1 classes [(b0, .inr (0, [.ref b1, .ref b2, .ref b3, .ref b4, .int 0, .int 0, .ref b5, .ref b6, .ref b7, .ref b8, .ref b9, .ref b10, .ref b11, .ref b12, .ref b13, .ref b14, .ref b15, .ref b16, .ref b17, .ref b18])), (b18, .inl (G.2 0, 8, .inl (upd (upd (fun _ => (-1)) 6 0) 7 0))), (b2, .inr (2, [.int 0, .int 1, .int 0, .ref b19, .ref b20, .ref b21]))] H := hP
  have hD := z_tie hP hD rfl
  refine lv_iconst (v := 0) hx hb d_X_fitting_30 (by decide) ?_
  refine lv_istore (lv' := [(4, .int 0), (3, .int 6), (0, .ref b0), (1, .int 3), (2, .int 1)]) hx hb d_X_fitting_31 hl (by decide) rfl (fun ls hl => ?_)
  refine lv_iload hx hb d_X_fitting_33 (lv_at hl 0 rfl) ?_
  refine lv_aload_n hx hb d_X_fitting_35 rfl (lv_at hl 2 rfl) ?_
  refine va_get (D := G.1) (ci := 0) (v := .ref b2) (C := R_X) (T := F_X) (N := 20) hx hb hts i_X hown hK hP 0 rfl rfl 1 (by decide) (hts _ q418) (fun _ h9 => h9) rfl d_X_fitting_36 ?_
  refine va_get (D := G.1) (ci := 2) (v := .int 0) (C := R_Traces) (T := F_Traces) (N := 6) hx hb hts i_Traces hown hK hP 2 rfl rfl 0 (by decide) (hts _ q58) (fun _ h9 => h9) rfl d_X_fitting_39 ?_
  refine lv_icmp_ge (tgt := 100) hx hb d_X_fitting_42 (by decide) (fun _ => ?_) (fun hc => absurd hc (by decide +kernel))
  refine lv_iload_n hx hb d_X_fitting_100 rfl (lv_at hl 4 rfl) ?_
  refine lv_if_eq (tgt := 115) hx hb d_X_fitting_101 (by decide) (fun hc => absurd hc (by decide +kernel)) (fun _ => ?_)
  refine lv_aload_n hx hb d_X_fitting_104 rfl (lv_at hl 2 rfl) ?_
  refine va_get (D := G.1) (ci := 0) (v := .ref b18) (C := R_X) (T := F_X) (N := 20) hx hb hts i_X hown hK hP 0 rfl rfl 19 (by decide) (hts _ q436) (fun _ h9 => h9) rfl d_X_fitting_105 ?_
  refine lv_iload_n hx hb d_X_fitting_108 rfl (lv_at hl 1 rfl) ?_
  refine lv_iconst (v := 1) hx hb d_X_fitting_109 (by decide) ?_
  refine lv_iadd hx hb d_X_fitting_110 ?_
  refine z_topi (y := 7) (by decide +kernel) ?_
  refine va_iald hx hb hK hP 1 0 rfl rfl (i := 7) (z_in rfl) d_X_fitting_111 ?_
  refine z_topi (y := 0) rfl ?_
  refine lv_goto (tgt := 121) hx hb d_X_fitting_112 (by decide) ?_
  exact z_iret hx hb hr hlocks hP hD hS (Nat.le_of_ble_eq_true rfl) (Nat.le_of_ble_eq_true rfl) d_X_fitting_121 ⟨rfl, rfl⟩
theorem d_X_fit_50 : decode prog_1_method_25_code 50 = .ok (.aload_n 0, 1) := by decide +kernel
theorem d_X_fit_51 : decode prog_1_method_25_code 51 = .ok (.iload_n 1, 1) := by decide +kernel
theorem d_X_fit_52 : decode prog_1_method_25_code 52 = .ok (.invokevirtual 189, 3) := by decide +kernel
abbrev m_c2_Follows_gather : Room := { frames := 1, cells := 0, slots := 0, locals := 23 }
set_option maxHeartbeats 4000000 in
set_option maxRecDepth 100000 in
theorem c2_Follows_gather (l : Launch) (G : zG) (b0 : Nat) (b1 : Nat) (b2 : Nat) (b3 : Nat) (b4 : Nat) (b5 : Nat) (b6 : Nat) (b7 : Nat) (b8 : Nat) (b9 : Nat) (b10 : Nat) (b11 : Nat) (b12 : Nat) (b13 : Nat) (b14 : Nat) (b15 : Nat) (b16 : Nat)  : zM l G y_Follows_gather prog_3_method_2_code 6 (Option.none : Option Jvm.ClassFile.FieldType) m_c2_Follows_gather [.ref b0, .ref b1, .ref b2, .int 0] [(b0, .inr (4, [.ref b3, .ref b4, .ref b5])), (b5, .inl (G.2 0, 512, .inl (fun _ => 0))), (b2, .inr (3, [.int 1, .int (-1), .int 0, .ref b6, .ref b7, .ref b8, .ref b9, .ref b10, .ref b11, .ref b12, .ref b13])), (b1, .inr (2, [.int 0, .int 1, .int 0, .ref b14, .ref b15, .ref b16]))] (fun v w => (v = none ∧ w = [(b0, .inr (4, [.ref b3, .ref b4, .ref b5])), (b2, .inr (3, [.int 1, .int (-1), .int 0, .ref b6, .ref b7, .ref b8, .ref b9, .ref b10, .ref b11, .ref b12, .ref b13])), (b1, .inr (2, [.int 0, .int 1, .int 0, .ref b14, .ref b15, .ref b16])), (b5, .inl (G.2 0, 512, .inl (fun _ => (-1))))])) := by
  refine z_start (by decide +kernel) (Nat.le_of_ble_eq_true rfl) ?_
  intro p e s m below meth c A Z hr hnm hA hP hD hS ls hl
  have Z : zC p s m _ meth c prog_3_method_2_code 6 "TraceMachines$Follows" G := Z
  obtain ⟨hx, hb, hml, hown, hts, hK, hN, hlocks⟩ := id Z
  have hl : lv_has ls 6 [(0, .ref b0), (1, .ref b1), (2, .ref b2), (3, .int 0)] := hl
  refine lv_aload_n hx hb d_Follows_gather_0 rfl (lv_at hl 0 rfl) ?_
  refine va_get (D := G.1) (ci := 4) (v := .ref b5) (C := R_Follows) (T := F_Follows) (N := 3) hx hb hts i_Follows hown hK hP 0 rfl rfl 2 (by decide) (hts _ q149) (fun _ h9 => h9) rfl d_Follows_gather_1 ?_
  refine lv_iconst (v := (-1)) hx hb d_Follows_gather_4 (by decide) ?_
  refine z_callS (index := 21) (As := [.ref b5, .int (-1)]) (rest := []) (wr := [(b0, .inr (4, [.ref b3, .ref b4, .ref b5])), (b2, .inr (3, [.int 1, .int (-1), .int 0, .ref b6, .ref b7, .ref b8, .ref b9, .ref b10, .ref b11, .ref b12, .ref b13])), (b1, .inr (2, [.int 0, .int 1, .int 0, .ref b14, .ref b15, .ref b16]))]) Z (c_fill_I l G (b5) (512) ((fun _ => 0)) ((-1)) (by first | assumption | decide +kernel | omega)) hl.1 q605 q415 q13 q416 ⟨by decide, by decide, by show _ = some 2; decide +kernel⟩ ⟨Nat.le_of_ble_eq_true rfl, Nat.le_of_ble_eq_true rfl⟩ ⟨Nat.le_of_ble_eq_true rfl, Nat.le_of_ble_eq_true rfl⟩ rfl (Nat.le_of_ble_eq_true rfl) d_Follows_gather_5 hP hD hS hA [1] [0, 2, 3] rfl rfl rfl rfl (by decide) (fun v w1 H locs hw_1 hP hD hS => ?_)
  obtain ⟨rfl, rfl⟩ := hw_1
  have hP : va_P G.1 classes [(b0, .inr (4, [.ref b3, .ref b4, .ref b5])), (b2, .inr (3, [.int 1, .int (-1), .int 0, .ref b6, .ref b7, .ref b8, .ref b9, .ref b10, .ref b11, .ref b12, .ref b13])), (b1, .inr (2, [.int 0, .int 1, .int 0, .ref b14, .ref b15, .ref b16])), (b5, .inl (G.2 0, 512, .inl (fun _ => (-1))))] H := hP
  have hD := z_tie hP hD rfl
  refine W.widen (k := 0) (n := 0) (Nat.le_of_ble_eq_true rfl) (Nat.le_of_ble_eq_true rfl) ?_
  refine lv_iconst (v := 0) hx hb d_Follows_gather_8 (by decide) ?_
  refine lv_istore (lv' := [(4, .int 0), (0, .ref b0), (1, .ref b1), (2, .ref b2), (3, .int 0)]) hx hb d_Follows_gather_9 hl (by decide) rfl (fun ls hl => ?_)
  refine lv_iload hx hb d_Follows_gather_11 (lv_at hl 0 rfl) ?_
  refine lv_aload_n hx hb d_Follows_gather_13 rfl (lv_at hl 3 rfl) ?_
  refine va_get (D := G.1) (ci := 3) (v := .int 0) (C := R_Tree) (T := F_Tree) (N := 11) hx hb hts i_Tree hown hK hP 1 rfl rfl 2 (by decide) (hts _ q99) (fun _ h9 => h9) rfl d_Follows_gather_14 ?_
  refine lv_icmp_ge (tgt := 34) hx hb d_Follows_gather_17 (by decide) (fun _ => ?_) (fun hc => absurd hc (by decide +kernel))
  refine lv_iconst (v := 0) hx hb d_Follows_gather_34 (by decide) ?_
  refine lv_istore (lv' := [(4, .int 0), (0, .ref b0), (1, .ref b1), (2, .ref b2), (3, .int 0)]) hx hb d_Follows_gather_35 hl (by decide) rfl (fun ls hl => ?_)
  refine lv_iload hx hb d_Follows_gather_37 (lv_at hl 0 rfl) ?_
  refine lv_aload_n hx hb d_Follows_gather_39 rfl (lv_at hl 2 rfl) ?_
  refine va_get (D := G.1) (ci := 2) (v := .int 0) (C := R_Traces) (T := F_Traces) (N := 6) hx hb hts i_Traces hown hK hP 2 rfl rfl 0 (by decide) (hts _ q55) (fun _ h9 => h9) rfl d_Follows_gather_40 ?_
  refine lv_icmp_ge (tgt := 103) hx hb d_Follows_gather_43 (by decide) (fun _ => ?_) (fun hc => absurd hc (by decide +kernel))
  exact z_vret hx hb hr hlocks hP hD hS (Nat.le_of_ble_eq_true rfl) (Nat.le_of_ble_eq_true rfl) d_Follows_gather_103 ⟨rfl, rfl⟩
abbrev m_c2_Machine_fold : Room := { frames := 2, cells := 0, slots := 0, locals := 49 }
set_option maxHeartbeats 4000000 in
set_option maxRecDepth 100000 in
theorem c2_Machine_fold (l : Launch) (G : zG) (b0 : Nat) (b1 : Nat) (b2 : Nat) (b3 : Nat) (b4 : Nat) (b5 : Nat) (b6 : Nat) (b7 : Nat) (b8 : Nat) (b9 : Nat) (b10 : Nat) (b11 : Nat) (b12 : Nat) (b13 : Nat) (b14 : Nat) (b15 : Nat) (b16 : Nat) (b17 : Nat) (b18 : Nat) (b19 : Nat) (b20 : Nat) (b21 : Nat) (b22 : Nat) (b23 : Nat) (b24 : Nat) (b25 : Nat) (b26 : Nat) (b27 : Nat) (b28 : Nat) (b29 : Nat)  : zM l G y_Machine_fold prog_4_method_5_code 5 (Option.none : Option Jvm.ClassFile.FieldType) m_c2_Machine_fold [.ref b0, .ref b1, .ref b2, .ref b3, .int 0] [(b0, .inr (5, [.int 0, .int 0, .ref b4, .ref b5, .ref b6, .ref b7, .ref b8, .ref b9, .int 0, .ref b10, .ref b11, .ref b12, .ref b13, .ref b14, .ref b15])), (b3, .inr (4, [.ref b16, .ref b17, .ref b18])), (b18, .inl (G.2 0, 512, .inl (fun _ => 0))), (b2, .inr (3, [.int 1, .int (-1), .int 0, .ref b19, .ref b20, .ref b21, .ref b22, .ref b23, .ref b24, .ref b25, .ref b26])), (b1, .inr (2, [.int 0, .int 1, .int 0, .ref b27, .ref b28, .ref b29])), (b9, .inl (G.2 1, 4, .inr (.inl (fun _ => 0)))), (b14, .inl (G.2 0, 242, .inl (fun _ => 0)))] (fun v w => (v = none ∧ w = [(b3, .inr (4, [.ref b16, .ref b17, .ref b18])), (b1, .inr (2, [.int 0, .int 1, .int 0, .ref b27, .ref b28, .ref b29])), (b18, .inl (G.2 0, 512, .inl (fun _ => (-1)))), (b9, .inl (G.2 1, 4, .inr (.inl (fun _ => 0)))), (b2, .inr (3, [.int 1, .int (-1), .int 0, .ref b19, .ref b20, .ref b21, .ref b22, .ref b23, .ref b24, .ref b25, .ref b26])), (b0, .inr (5, [.int 1, .int 0, .ref b4, .ref b5, .ref b6, .ref b7, .ref b8, .ref b9, .int 0, .ref b10, .ref b11, .ref b12, .ref b13, .ref b14, .ref b15])), (b14, .inl (G.2 0, 242, .inl (upd (fun _ => 0) 0 0)))])) := by
  refine z_start (by decide +kernel) (Nat.le_of_ble_eq_true rfl) ?_
  intro p e s m below meth c A Z hr hnm hA hP hD hS ls hl
  have Z : zC p s m _ meth c prog_4_method_5_code 5 "TraceMachines$Machine" G := Z
  obtain ⟨hx, hb, hml, hown, hts, hK, hN, hlocks⟩ := id Z
  have hl : lv_has ls 5 [(0, .ref b0), (1, .ref b1), (2, .ref b2), (3, .ref b3), (4, .int 0)] := hl
  refine lv_aload_n hx hb d_Machine_fold_0 rfl (lv_at hl 0 rfl) ?_
  refine lv_iconst (v := 1) hx hb d_Machine_fold_1 (by decide) ?_
  refine va_put (D := G.1) (ci := 5) (v := .int 1) (ty := .boolean) (C := R_Machine) (T := F_Machine) (N := 15) hx hb hts i_Machine t_Machine t_Machine_ok n_Machine hown hK hP hD hS 0 rfl rfl 0 (by decide) (hts _ q164) (fun _ h9 => h9) rfl (by decide +kernel) rfl rfl (Nat.le_of_ble_eq_true rfl) d_Machine_fold_2 (fun H locs hP hD hS => ?_)
  have hP : va_P G.1 classes [(b0, .inr (5, [.int 1, .int 0, .ref b4, .ref b5, .ref b6, .ref b7, .ref b8, .ref b9, .int 0, .ref b10, .ref b11, .ref b12, .ref b13, .ref b14, .ref b15])), (b3, .inr (4, [.ref b16, .ref b17, .ref b18])), (b18, .inl (G.2 0, 512, .inl (fun _ => 0))), (b2, .inr (3, [.int 1, .int (-1), .int 0, .ref b19, .ref b20, .ref b21, .ref b22, .ref b23, .ref b24, .ref b25, .ref b26])), (b1, .inr (2, [.int 0, .int 1, .int 0, .ref b27, .ref b28, .ref b29])), (b9, .inl (G.2 1, 4, .inr (.inl (fun _ => 0)))), (b14, .inl (G.2 0, 242, .inl (fun _ => 0)))] H := hP
  have hD := z_tie hP hD rfl
  refine lv_aload_n hx hb d_Machine_fold_5 rfl (lv_at hl 3 rfl) ?_
  refine lv_aload_n hx hb d_Machine_fold_6 rfl (lv_at hl 1 rfl) ?_
  refine lv_aload_n hx hb d_Machine_fold_7 rfl (lv_at hl 2 rfl) ?_
  refine lv_iload hx hb d_Machine_fold_8 (lv_at hl 4 rfl) ?_
  refine z_callV (index := 55) (As := [.ref b1, .ref b2, .int 0]) (rest := []) (wr := [(b0, .inr (5, [.int 1, .int 0, .ref b4, .ref b5, .ref b6, .ref b7, .ref b8, .ref b9, .int 0, .ref b10, .ref b11, .ref b12, .ref b13, .ref b14, .ref b15])), (b9, .inl (G.2 1, 4, .inr (.inl (fun _ => 0)))), (b14, .inl (G.2 0, 242, .inl (fun _ => 0)))]) Z (c2_Follows_gather l G (b3) (b1) (b2) (b16) (b17) (b18) (b19) (b20) (b21) (b22) (b23) (b24) (b25) (b26) (b27) (b28) (b29)) hl.1 q601 q602 q603 q5 q604 ⟨by decide, by decide, by show _ = some 3; decide +kernel⟩ ⟨Nat.le_of_ble_eq_true rfl, Nat.le_of_ble_eq_true rfl⟩ ⟨Nat.le_of_ble_eq_true rfl, Nat.le_of_ble_eq_true rfl⟩ rfl (Nat.le_of_ble_eq_true rfl) d_Machine_fold_10 hP hD hS hA 1 4 rfl rfl rfl [1, 2, 3, 4] [0, 5, 6] rfl rfl rfl rfl (by decide) (fun v w1 H locs hw_1 hP hD hS => ?_)
  obtain ⟨rfl, rfl⟩ := hw_1
  have hP : va_P G.1 classes [(b0, .inr (5, [.int 1, .int 0, .ref b4, .ref b5, .ref b6, .ref b7, .ref b8, .ref b9, .int 0, .ref b10, .ref b11, .ref b12, .ref b13, .ref b14, .ref b15])), (b9, .inl (G.2 1, 4, .inr (.inl (fun _ => 0)))), (b14, .inl (G.2 0, 242, .inl (fun _ => 0))), (b3, .inr (4, [.ref b16, .ref b17, .ref b18])), (b2, .inr (3, [.int 1, .int (-1), .int 0, .ref b19, .ref b20, .ref b21, .ref b22, .ref b23, .ref b24, .ref b25, .ref b26])), (b1, .inr (2, [.int 0, .int 1, .int 0, .ref b27, .ref b28, .ref b29])), (b18, .inl (G.2 0, 512, .inl (fun _ => (-1))))] H := hP
  have hD := z_tie hP hD rfl
  refine W.widen (k := 0) (n := 0) (Nat.le_of_ble_eq_true rfl) (Nat.le_of_ble_eq_true rfl) ?_
  refine lv_aload_n hx hb d_Machine_fold_13 rfl (lv_at hl 0 rfl) ?_
  refine lv_aload_n hx hb d_Machine_fold_14 rfl (lv_at hl 2 rfl) ?_
  refine lv_aload_n hx hb d_Machine_fold_15 rfl (lv_at hl 3 rfl) ?_
  refine z_callV (index := 61) (As := [.ref b2, .ref b3]) (rest := []) (wr := [(b14, .inl (G.2 0, 242, .inl (fun _ => 0))), (b3, .inr (4, [.ref b16, .ref b17, .ref b18])), (b1, .inr (2, [.int 0, .int 1, .int 0, .ref b27, .ref b28, .ref b29])), (b18, .inl (G.2 0, 512, .inl (fun _ => (-1))))]) Z (c1_Machine_foldStates l G (b0) (b2) (b3) (b4) (b5) (b6) (b7) (b8) (b9) (b10) (b11) (b12) (b13) (b14) (b15) (b19) (b20) (b21) (b22) (b23) (b24) (b25) (b26)) hl.1 q618 q620 qs7 q6 q621 ⟨by decide, by decide, by show _ = some 2; decide +kernel⟩ ⟨Nat.le_of_ble_eq_true rfl, Nat.le_of_ble_eq_true rfl⟩ ⟨Nat.le_of_ble_eq_true rfl, Nat.le_of_ble_eq_true rfl⟩ rfl (Nat.le_of_ble_eq_true rfl) d_Machine_fold_16 hP hD hS hA 0 5 rfl rfl rfl [0, 1, 4] [2, 3, 5, 6] rfl rfl rfl rfl (by decide) (fun v w1 H locs hw_2 hP hD hS => ?_)
  obtain ⟨rfl, rfl⟩ := hw_2
  have hP : va_P G.1 classes [(b14, .inl (G.2 0, 242, .inl (fun _ => 0))), (b3, .inr (4, [.ref b16, .ref b17, .ref b18])), (b1, .inr (2, [.int 0, .int 1, .int 0, .ref b27, .ref b28, .ref b29])), (b18, .inl (G.2 0, 512, .inl (fun _ => (-1)))), (b0, .inr (5, [.int 1, .int 0, .ref b4, .ref b5, .ref b6, .ref b7, .ref b8, .ref b9, .int 0, .ref b10, .ref b11, .ref b12, .ref b13, .ref b14, .ref b15])), (b2, .inr (3, [.int 1, .int (-1), .int 0, .ref b19, .ref b20, .ref b21, .ref b22, .ref b23, .ref b24, .ref b25, .ref b26])), (b9, .inl (G.2 1, 4, .inr (.inl (fun _ => 0))))] H := hP
  have hD := z_tie hP hD rfl
  refine W.widen (k := 0) (n := 0) (Nat.le_of_ble_eq_true rfl) (Nat.le_of_ble_eq_true rfl) ?_
  refine lv_aload_n hx hb d_Machine_fold_19 rfl (lv_at hl 0 rfl) ?_
  refine lv_aload_n hx hb d_Machine_fold_20 rfl (lv_at hl 2 rfl) ?_
  refine z_callV (index := 65) (As := [.ref b2]) (rest := []) (wr := [(b14, .inl (G.2 0, 242, .inl (fun _ => 0))), (b3, .inr (4, [.ref b16, .ref b17, .ref b18])), (b1, .inr (2, [.int 0, .int 1, .int 0, .ref b27, .ref b28, .ref b29])), (b18, .inl (G.2 0, 512, .inl (fun _ => (-1)))), (b9, .inl (G.2 1, 4, .inr (.inl (fun _ => 0))))]) Z (c1_Machine_gatherKeys l G (b0) (b2) (b4) (b5) (b6) (b7) (b8) (b9) (b10) (b11) (b12) (b13) (b14) (b15) (b19) (b20) (b21) (b22) (b23) (b24) (b25) (b26)) hl.1 q637 q639 qs10 q6 q640 ⟨by decide, by decide, by show _ = some 1; decide +kernel⟩ ⟨Nat.le_of_ble_eq_true rfl, Nat.le_of_ble_eq_true rfl⟩ ⟨Nat.le_of_ble_eq_true rfl, Nat.le_of_ble_eq_true rfl⟩ rfl (Nat.le_of_ble_eq_true rfl) d_Machine_fold_21 hP hD hS hA 4 5 rfl rfl rfl [4, 5] [0, 1, 2, 3, 6] rfl rfl rfl rfl (by decide) (fun v w1 H locs hw_3 hP hD hS => ?_)
  obtain ⟨rfl, rfl⟩ := hw_3
  have hP : va_P G.1 classes [(b14, .inl (G.2 0, 242, .inl (fun _ => 0))), (b3, .inr (4, [.ref b16, .ref b17, .ref b18])), (b1, .inr (2, [.int 0, .int 1, .int 0, .ref b27, .ref b28, .ref b29])), (b18, .inl (G.2 0, 512, .inl (fun _ => (-1)))), (b9, .inl (G.2 1, 4, .inr (.inl (fun _ => 0)))), (b0, .inr (5, [.int 1, .int 0, .ref b4, .ref b5, .ref b6, .ref b7, .ref b8, .ref b9, .int 0, .ref b10, .ref b11, .ref b12, .ref b13, .ref b14, .ref b15])), (b2, .inr (3, [.int 1, .int (-1), .int 0, .ref b19, .ref b20, .ref b21, .ref b22, .ref b23, .ref b24, .ref b25, .ref b26]))] H := hP
  have hD := z_tie hP hD rfl
  refine W.widen (k := 0) (n := 0) (Nat.le_of_ble_eq_true rfl) (Nat.le_of_ble_eq_true rfl) ?_
  refine lv_aload_n hx hb d_Machine_fold_24 rfl (lv_at hl 0 rfl) ?_
  refine lv_aload_n hx hb d_Machine_fold_25 rfl (lv_at hl 2 rfl) ?_
  refine z_callV (index := 69) (As := [.ref b2]) (rest := []) (wr := [(b14, .inl (G.2 0, 242, .inl (fun _ => 0))), (b3, .inr (4, [.ref b16, .ref b17, .ref b18])), (b1, .inr (2, [.int 0, .int 1, .int 0, .ref b27, .ref b28, .ref b29])), (b18, .inl (G.2 0, 512, .inl (fun _ => (-1)))), (b9, .inl (G.2 1, 4, .inr (.inl (fun _ => 0)))), (b0, .inr (5, [.int 1, .int 0, .ref b4, .ref b5, .ref b6, .ref b7, .ref b8, .ref b9, .int 0, .ref b10, .ref b11, .ref b12, .ref b13, .ref b14, .ref b15]))]) Z (c1_Machine_gatherRanges l G (b0) (b2) (b19) (b20) (b21) (b22) (b23) (b24) (b25) (b26)) hl.1 q650 q652 qs13 q6 q653 ⟨by decide, by decide, by show _ = some 1; decide +kernel⟩ ⟨Nat.le_of_ble_eq_true rfl, Nat.le_of_ble_eq_true rfl⟩ ⟨Nat.le_of_ble_eq_true rfl, Nat.le_of_ble_eq_true rfl⟩ rfl (Nat.le_of_ble_eq_true rfl) d_Machine_fold_26 hP hD hS hA 5 5 rfl rfl rfl [6] [0, 1, 2, 3, 4, 5] rfl rfl rfl rfl (by decide) (fun v w1 H locs hw_4 hP hD hS => ?_)
  obtain ⟨rfl, rfl⟩ := hw_4
  have hP : va_P G.1 classes [(b14, .inl (G.2 0, 242, .inl (fun _ => 0))), (b3, .inr (4, [.ref b16, .ref b17, .ref b18])), (b1, .inr (2, [.int 0, .int 1, .int 0, .ref b27, .ref b28, .ref b29])), (b18, .inl (G.2 0, 512, .inl (fun _ => (-1)))), (b9, .inl (G.2 1, 4, .inr (.inl (fun _ => 0)))), (b0, .inr (5, [.int 1, .int 0, .ref b4, .ref b5, .ref b6, .ref b7, .ref b8, .ref b9, .int 0, .ref b10, .ref b11, .ref b12, .ref b13, .ref b14, .ref b15])), (b2, .inr (3, [.int 1, .int (-1), .int 0, .ref b19, .ref b20, .ref b21, .ref b22, .ref b23, .ref b24, .ref b25, .ref b26]))] H := hP
  have hD := z_tie hP hD rfl
  refine W.widen (k := 0) (n := 0) (Nat.le_of_ble_eq_true rfl) (Nat.le_of_ble_eq_true rfl) ?_
  refine lv_aload_n hx hb d_Machine_fold_29 rfl (lv_at hl 0 rfl) ?_
  refine z_callV (index := 72) (As := []) (rest := []) (wr := [(b3, .inr (4, [.ref b16, .ref b17, .ref b18])), (b1, .inr (2, [.int 0, .int 1, .int 0, .ref b27, .ref b28, .ref b29])), (b18, .inl (G.2 0, 512, .inl (fun _ => (-1)))), (b9, .inl (G.2 1, 4, .inr (.inl (fun _ => 0)))), (b2, .inr (3, [.int 1, .int (-1), .int 0, .ref b19, .ref b20, .ref b21, .ref b22, .ref b23, .ref b24, .ref b25, .ref b26]))]) Z (c1_Machine_gatherFirsts l G (b0) (b4) (b5) (b6) (b7) (b8) (b9) (b10) (b11) (b12) (b13) (b14) (b15)) hl.1 q656 q658 qs14 q6 q659 ⟨by decide, by decide, by show _ = some 0; decide +kernel⟩ ⟨Nat.le_of_ble_eq_true rfl, Nat.le_of_ble_eq_true rfl⟩ ⟨Nat.le_of_ble_eq_true rfl, Nat.le_of_ble_eq_true rfl⟩ rfl (Nat.le_of_ble_eq_true rfl) d_Machine_fold_30 hP hD hS hA 5 5 rfl rfl rfl [5, 0] [1, 2, 3, 4, 6] rfl rfl rfl rfl (by decide) (fun v w1 H locs hw_5 hP hD hS => ?_)
  obtain ⟨rfl, rfl⟩ := hw_5
  have hP : va_P G.1 classes [(b3, .inr (4, [.ref b16, .ref b17, .ref b18])), (b1, .inr (2, [.int 0, .int 1, .int 0, .ref b27, .ref b28, .ref b29])), (b18, .inl (G.2 0, 512, .inl (fun _ => (-1)))), (b9, .inl (G.2 1, 4, .inr (.inl (fun _ => 0)))), (b2, .inr (3, [.int 1, .int (-1), .int 0, .ref b19, .ref b20, .ref b21, .ref b22, .ref b23, .ref b24, .ref b25, .ref b26])), (b0, .inr (5, [.int 1, .int 0, .ref b4, .ref b5, .ref b6, .ref b7, .ref b8, .ref b9, .int 0, .ref b10, .ref b11, .ref b12, .ref b13, .ref b14, .ref b15])), (b14, .inl (G.2 0, 242, .inl (upd (fun _ => 0) 0 0)))] H := hP
  have hD := z_tie hP hD rfl
  refine W.widen (k := 0) (n := 0) (Nat.le_of_ble_eq_true rfl) (Nat.le_of_ble_eq_true rfl) ?_
  exact z_vret hx hb hr hlocks hP hD hS (Nat.le_of_ble_eq_true rfl) (Nat.le_of_ble_eq_true rfl) d_Machine_fold_33 ⟨rfl, rfl⟩
abbrev m_c2_X_machine : Room := { frames := 3, cells := 0, slots := 0, locals := 73 }
set_option maxHeartbeats 4000000 in
set_option maxRecDepth 100000 in
theorem c2_X_machine (l : Launch) (G : zG) (b0 : Nat) (b1 : Nat) (b2 : Nat) (b3 : Nat) (b4 : Nat) (b5 : Nat) (b6 : Nat) (b7 : Nat) (b8 : Nat) (b9 : Nat) (b10 : Nat) (b11 : Nat) (b12 : Nat) (b13 : Nat) (b14 : Nat) (b15 : Nat) (b16 : Nat) (b17 : Nat) (b18 : Nat) (b19 : Nat) (b20 : Nat) (b21 : Nat) (b22 : Nat) (b23 : Nat) (b24 : Nat) (b25 : Nat) (b26 : Nat) (b27 : Nat) (b28 : Nat) (b29 : Nat) (b30 : Nat) (b31 : Nat) (b32 : Nat) (b33 : Nat) (b34 : Nat) (b35 : Nat) (b36 : Nat) (b37 : Nat) (b38 : Nat) (b39 : Nat) (b40 : Nat) (b41 : Nat) (b42 : Nat) (b43 : Nat) (b44 : Nat) (b45 : Nat) (b46 : Nat) (b47 : Nat) (b48 : Nat)  : zM l G y_X_machine prog_1_method_37_code 3 (Option.some (Jvm.ClassFile.FieldType.object "TraceMachines$Machine")) m_c2_X_machine [.ref b0, .int 0] [(b0, .inr (0, [.ref b1, .ref b2, .ref b3, .ref b4, .int 0, .int 0, .ref b5, .ref b6, .ref b7, .ref b8, .ref b9, .ref b10, .ref b11, .ref b12, .ref b13, .ref b14, .ref b15, .ref b16, .ref b17, .ref b18])), (b8, .inl (G.2 6, 4, .inr (.inr (.inr (.inr (va_up (va_up (va_up (va_up (fun _ => none) 0 (some b19)) 1 (some b20)) 2 (some b21)) 3 (some b22))))))), (b6, .inr (3, [.int 0, .int 0, .int 0, .ref b23, .ref b24, .ref b25, .ref b26, .ref b27, .ref b28, .ref b29, .ref b30])), (b2, .inr (2, [.int 0, .int 1, .int 0, .ref b31, .ref b32, .ref b33])), (b19, .inr (5, [.int 0, .int 0, .ref b34, .ref b35, .ref b36, .ref b37, .ref b38, .ref b39, .int 0, .ref b40, .ref b41, .ref b42, .ref b43, .ref b44, .ref b45])), (b7, .inr (4, [.ref b46, .ref b47, .ref b48])), (b48, .inl (G.2 0, 512, .inl (fun _ => 0))), (b39, .inl (G.2 1, 4, .inr (.inl (fun _ => 0)))), (b44, .inl (G.2 0, 242, .inl (fun _ => 0)))] (fun v w => (v = some (.ref b19) ∧ w = [(b0, .inr (0, [.ref b1, .ref b2, .ref b3, .ref b4, .int 0, .int 0, .ref b5, .ref b6, .ref b7, .ref b8, .ref b9, .ref b10, .ref b11, .ref b12, .ref b13, .ref b14, .ref b15, .ref b16, .ref b17, .ref b18])), (b8, .inl (G.2 6, 4, .inr (.inr (.inr (.inr (va_up (va_up (va_up (va_up (fun _ => none) 0 (some b19)) 1 (some b20)) 2 (some b21)) 3 (some b22))))))), (b7, .inr (4, [.ref b46, .ref b47, .ref b48])), (b2, .inr (2, [.int 0, .int 1, .int 0, .ref b31, .ref b32, .ref b33])), (b48, .inl (G.2 0, 512, .inl (fun _ => (-1)))), (b39, .inl (G.2 1, 4, .inr (.inl (fun _ => 0)))), (b6, .inr (3, [.int 1, .int (-1), .int 0, .ref b23, .ref b24, .ref b25, .ref b26, .ref b27, .ref b28, .ref b29, .ref b30])), (b19, .inr (5, [.int 1, .int 0, .ref b34, .ref b35, .ref b36, .ref b37, .ref b38, .ref b39, .int 0, .ref b40, .ref b41, .ref b42, .ref b43, .ref b44, .ref b45])), (b44, .inl (G.2 0, 242, .inl (upd (fun _ => 0) 0 0)))])) := by
  refine z_start (by decide +kernel) (Nat.le_of_ble_eq_true rfl) ?_
  intro p e s m below meth c A Z hr hnm hA hP hD hS ls hl
  have Z : zC p s m _ meth c prog_1_method_37_code 3 "TraceMachines" G := Z
  obtain ⟨hx, hb, hml, hown, hts, hK, hN, hlocks⟩ := id Z
  have hl : lv_has ls 3 [(0, .ref b0), (1, .int 0)] := hl
  refine lv_aload_n hx hb d_X_machine_0 rfl (lv_at hl 0 rfl) ?_
  refine va_get (D := G.1) (ci := 0) (v := .ref b8) (C := R_X) (T := F_X) (N := 20) hx hb hts i_X hown hK hP 0 rfl rfl 9 (by decide) (hts _ q426) (fun _ h9 => h9) rfl d_X_machine_1 ?_
  refine lv_iload_n hx hb d_X_machine_4 rfl (lv_at hl 1 rfl) ?_
  refine va_aldq hx hb hK hP 1 6 rfl rfl (i := 0) (z_in rfl) d_X_machine_5 ?_
  refine z_topv (y := .ref b19) rfl ?_
  refine lv_astore_n (lv' := [(2, .ref b19), (0, .ref b0), (1, .int 0)]) hx hb d_X_machine_6 rfl hl (by decide) rfl (fun ls hl => ?_)
  refine lv_aload_n hx hb d_X_machine_7 rfl (lv_at hl 1 rfl) ?_
  refine va_get (D := G.1) (ci := 0) (v := .ref b6) (C := R_X) (T := F_X) (N := 20) hx hb hts i_X hown hK hP 0 rfl rfl 7 (by decide) (hts _ q424) (fun _ h9 => h9) rfl d_X_machine_8 ?_
  refine va_get (D := G.1) (ci := 3) (v := .int 0) (C := R_Tree) (T := F_Tree) (N := 11) hx hb hts i_Tree hown hK hP 2 rfl rfl 0 (by decide) (hts _ q96) (fun _ h9 => h9) rfl d_X_machine_11 ?_
  refine lv_if_ne (tgt := 29) hx hb d_X_machine_14 (by decide) (fun hc => absurd hc (by decide +kernel)) (fun _ => ?_)
  refine lv_aload_n hx hb d_X_machine_17 rfl (lv_at hl 1 rfl) ?_
  refine va_get (D := G.1) (ci := 0) (v := .ref b6) (C := R_X) (T := F_X) (N := 20) hx hb hts i_X hown hK hP 0 rfl rfl 7 (by decide) (hts _ q424) (fun _ h9 => h9) rfl d_X_machine_18 ?_
  refine lv_aload_n hx hb d_X_machine_21 rfl (lv_at hl 1 rfl) ?_
  refine va_get (D := G.1) (ci := 0) (v := .ref b2) (C := R_X) (T := F_X) (N := 20) hx hb hts i_X hown hK hP 0 rfl rfl 1 (by decide) (hts _ q418) (fun _ h9 => h9) rfl d_X_machine_22 ?_
  refine lv_iconst (v := (-1)) hx hb d_X_machine_25 (by decide) ?_
  refine z_callV (index := 360) (As := [.ref b2, .int (-1)]) (rest := []) (wr := [(b0, .inr (0, [.ref b1, .ref b2, .ref b3, .ref b4, .int 0, .int 0, .ref b5, .ref b6, .ref b7, .ref b8, .ref b9, .ref b10, .ref b11, .ref b12, .ref b13, .ref b14, .ref b15, .ref b16, .ref b17, .ref b18])), (b8, .inl (G.2 6, 4, .inr (.inr (.inr (.inr (va_up (va_up (va_up (va_up (fun _ => none) 0 (some b19)) 1 (some b20)) 2 (some b21)) 3 (some b22))))))), (b19, .inr (5, [.int 0, .int 0, .ref b34, .ref b35, .ref b36, .ref b37, .ref b38, .ref b39, .int 0, .ref b40, .ref b41, .ref b42, .ref b43, .ref b44, .ref b45])), (b7, .inr (4, [.ref b46, .ref b47, .ref b48])), (b48, .inl (G.2 0, 512, .inl (fun _ => 0))), (b39, .inl (G.2 1, 4, .inr (.inl (fun _ => 0)))), (b44, .inl (G.2 0, 242, .inl (fun _ => 0)))]) Z (c1_Tree_grow l G (b6) (b2) (b23) (b24) (b25) (b26) (b27) (b28) (b29) (b30) (b31) (b32) (b33)) hl.1 q567 q568 q569 q4 q570 ⟨by decide, by decide, by show _ = some 2; decide +kernel⟩ ⟨Nat.le_of_ble_eq_true rfl, Nat.le_of_ble_eq_true rfl⟩ ⟨Nat.le_of_ble_eq_true rfl, Nat.le_of_ble_eq_true rfl⟩ rfl (Nat.le_of_ble_eq_true rfl) d_X_machine_26 hP hD hS hA 2 3 rfl rfl rfl [2, 3] [0, 1, 4, 5, 6, 7, 8] rfl rfl rfl rfl (by decide) (fun v w1 H locs hw_1 hP hD hS => ?_)
  obtain ⟨rfl, rfl⟩ := hw_1
  have hP : va_P G.1 classes [(b0, .inr (0, [.ref b1, .ref b2, .ref b3, .ref b4, .int 0, .int 0, .ref b5, .ref b6, .ref b7, .ref b8, .ref b9, .ref b10, .ref b11, .ref b12, .ref b13, .ref b14, .ref b15, .ref b16, .ref b17, .ref b18])), (b8, .inl (G.2 6, 4, .inr (.inr (.inr (.inr (va_up (va_up (va_up (va_up (fun _ => none) 0 (some b19)) 1 (some b20)) 2 (some b21)) 3 (some b22))))))), (b19, .inr (5, [.int 0, .int 0, .ref b34, .ref b35, .ref b36, .ref b37, .ref b38, .ref b39, .int 0, .ref b40, .ref b41, .ref b42, .ref b43, .ref b44, .ref b45])), (b7, .inr (4, [.ref b46, .ref b47, .ref b48])), (b48, .inl (G.2 0, 512, .inl (fun _ => 0))), (b39, .inl (G.2 1, 4, .inr (.inl (fun _ => 0)))), (b44, .inl (G.2 0, 242, .inl (fun _ => 0))), (b6, .inr (3, [.int 1, .int (-1), .int 0, .ref b23, .ref b24, .ref b25, .ref b26, .ref b27, .ref b28, .ref b29, .ref b30])), (b2, .inr (2, [.int 0, .int 1, .int 0, .ref b31, .ref b32, .ref b33]))] H := hP
  have hD := z_tie hP hD rfl
  refine W.widen (k := 0) (n := 0) (Nat.le_of_ble_eq_true rfl) (Nat.le_of_ble_eq_true rfl) ?_
  refine lv_aload_n hx hb d_X_machine_29 rfl (lv_at hl 0 rfl) ?_
  refine va_get (D := G.1) (ci := 5) (v := .int 0) (C := R_Machine) (T := F_Machine) (N := 15) hx hb hts i_Machine hown hK hP 2 rfl rfl 0 (by decide) (hts _ q165) (fun _ h9 => h9) rfl d_X_machine_30 ?_
  refine lv_if_ne (tgt := 53) hx hb d_X_machine_33 (by decide) (fun hc => absurd hc (by decide +kernel)) (fun _ => ?_)
  refine lv_aload_n hx hb d_X_machine_36 rfl (lv_at hl 0 rfl) ?_
  refine lv_aload_n hx hb d_X_machine_37 rfl (lv_at hl 1 rfl) ?_
  refine va_get (D := G.1) (ci := 0) (v := .ref b2) (C := R_X) (T := F_X) (N := 20) hx hb hts i_X hown hK hP 0 rfl rfl 1 (by decide) (hts _ q418) (fun _ h9 => h9) rfl d_X_machine_38 ?_
  refine lv_aload_n hx hb d_X_machine_41 rfl (lv_at hl 1 rfl) ?_
  refine va_get (D := G.1) (ci := 0) (v := .ref b6) (C := R_X) (T := F_X) (N := 20) hx hb hts i_X hown hK hP 0 rfl rfl 7 (by decide) (hts _ q424) (fun _ h9 => h9) rfl d_X_machine_42 ?_
  refine lv_aload_n hx hb d_X_machine_45 rfl (lv_at hl 1 rfl) ?_
  refine va_get (D := G.1) (ci := 0) (v := .ref b7) (C := R_X) (T := F_X) (N := 20) hx hb hts i_X hown hK hP 0 rfl rfl 8 (by decide) (hts _ q425) (fun _ h9 => h9) rfl d_X_machine_46 ?_
  refine lv_iload_n hx hb d_X_machine_49 rfl (lv_at hl 2 rfl) ?_
  refine z_callV (index := 364) (As := [.ref b2, .ref b6, .ref b7, .int 0]) (rest := []) (wr := [(b0, .inr (0, [.ref b1, .ref b2, .ref b3, .ref b4, .int 0, .int 0, .ref b5, .ref b6, .ref b7, .ref b8, .ref b9, .ref b10, .ref b11, .ref b12, .ref b13, .ref b14, .ref b15, .ref b16, .ref b17, .ref b18])), (b8, .inl (G.2 6, 4, .inr (.inr (.inr (.inr (va_up (va_up (va_up (va_up (fun _ => none) 0 (some b19)) 1 (some b20)) 2 (some b21)) 3 (some b22)))))))]) Z (c2_Machine_fold l G (b19) (b2) (b6) (b7) (b34) (b35) (b36) (b37) (b38) (b39) (b40) (b41) (b42) (b43) (b44) (b45) (b46) (b47) (b48) (b23) (b24) (b25) (b26) (b27) (b28) (b29) (b30) (b31) (b32) (b33)) hl.1 q597 q598 q599 q6 q600 ⟨by decide, by decide, by show _ = some 4; decide +kernel⟩ ⟨Nat.le_of_ble_eq_true rfl, Nat.le_of_ble_eq_true rfl⟩ ⟨Nat.le_of_ble_eq_true rfl, Nat.le_of_ble_eq_true rfl⟩ rfl (Nat.le_of_ble_eq_true rfl) d_X_machine_50 hP hD hS hA 2 5 rfl rfl rfl [2, 3, 4, 7, 8, 5, 6] [0, 1] rfl rfl rfl rfl (by decide) (fun v w1 H locs hw_2 hP hD hS => ?_)
  obtain ⟨rfl, rfl⟩ := hw_2
  have hP : va_P G.1 classes [(b0, .inr (0, [.ref b1, .ref b2, .ref b3, .ref b4, .int 0, .int 0, .ref b5, .ref b6, .ref b7, .ref b8, .ref b9, .ref b10, .ref b11, .ref b12, .ref b13, .ref b14, .ref b15, .ref b16, .ref b17, .ref b18])), (b8, .inl (G.2 6, 4, .inr (.inr (.inr (.inr (va_up (va_up (va_up (va_up (fun _ => none) 0 (some b19)) 1 (some b20)) 2 (some b21)) 3 (some b22))))))), (b7, .inr (4, [.ref b46, .ref b47, .ref b48])), (b2, .inr (2, [.int 0, .int 1, .int 0, .ref b31, .ref b32, .ref b33])), (b48, .inl (G.2 0, 512, .inl (fun _ => (-1)))), (b39, .inl (G.2 1, 4, .inr (.inl (fun _ => 0)))), (b6, .inr (3, [.int 1, .int (-1), .int 0, .ref b23, .ref b24, .ref b25, .ref b26, .ref b27, .ref b28, .ref b29, .ref b30])), (b19, .inr (5, [.int 1, .int 0, .ref b34, .ref b35, .ref b36, .ref b37, .ref b38, .ref b39, .int 0, .ref b40, .ref b41, .ref b42, .ref b43, .ref b44, .ref b45])), (b44, .inl (G.2 0, 242, .inl (upd (fun _ => 0) 0 0)))] H := hP
  have hD := z_tie hP hD rfl
  refine W.widen (k := 0) (n := 0) (Nat.le_of_ble_eq_true rfl) (Nat.le_of_ble_eq_true rfl) ?_
  refine lv_aload_n hx hb d_X_machine_53 rfl (lv_at hl 0 rfl) ?_
  exact z_aret hx hb hr hlocks hP hD hS (Nat.le_of_ble_eq_true rfl) (Nat.le_of_ble_eq_true rfl) d_X_machine_54 ⟨rfl, rfl⟩
theorem d_X_fit_55 : decode prog_1_method_25_code 55 = .ok (.getfield 199, 3) := by decide +kernel
theorem d_X_fit_58 : decode prog_1_method_25_code 58 = .ok (.ireturn, 1) := by decide +kernel
abbrev m_c3_Follows_gather : Room := { frames := 1, cells := 0, slots := 0, locals := 23 }
set_option maxHeartbeats 4000000 in
set_option maxRecDepth 100000 in
theorem c3_Follows_gather (l : Launch) (G : zG) (b0 : Nat) (b1 : Nat) (b2 : Nat) (b3 : Nat) (b4 : Nat) (b5 : Nat) (b6 : Nat) (b7 : Nat) (b8 : Nat) (b9 : Nat) (b10 : Nat) (b11 : Nat) (b12 : Nat) (b13 : Nat) (b14 : Nat) (b15 : Nat) (b16 : Nat)  : zM l G y_Follows_gather prog_3_method_2_code 6 (Option.none : Option Jvm.ClassFile.FieldType) m_c3_Follows_gather [.ref b0, .ref b1, .ref b2, .int 2] [(b0, .inr (4, [.ref b3, .ref b4, .ref b5])), (b5, .inl (G.2 0, 512, .inl (fun _ => 0))), (b2, .inr (3, [.int 1, .int (-1), .int 0, .ref b6, .ref b7, .ref b8, .ref b9, .ref b10, .ref b11, .ref b12, .ref b13])), (b1, .inr (2, [.int 0, .int 1, .int 0, .ref b14, .ref b15, .ref b16]))] (fun v w => (v = none ∧ w = [(b0, .inr (4, [.ref b3, .ref b4, .ref b5])), (b2, .inr (3, [.int 1, .int (-1), .int 0, .ref b6, .ref b7, .ref b8, .ref b9, .ref b10, .ref b11, .ref b12, .ref b13])), (b1, .inr (2, [.int 0, .int 1, .int 0, .ref b14, .ref b15, .ref b16])), (b5, .inl (G.2 0, 512, .inl (fun _ => (-1))))])) := by
  refine z_start (by decide +kernel) (Nat.le_of_ble_eq_true rfl) ?_
  intro p e s m below meth c A Z hr hnm hA hP hD hS ls hl
  have Z : zC p s m _ meth c prog_3_method_2_code 6 "TraceMachines$Follows" G := Z
  obtain ⟨hx, hb, hml, hown, hts, hK, hN, hlocks⟩ := id Z
  have hl : lv_has ls 6 [(0, .ref b0), (1, .ref b1), (2, .ref b2), (3, .int 2)] := hl
  refine lv_aload_n hx hb d_Follows_gather_0 rfl (lv_at hl 0 rfl) ?_
  refine va_get (D := G.1) (ci := 4) (v := .ref b5) (C := R_Follows) (T := F_Follows) (N := 3) hx hb hts i_Follows hown hK hP 0 rfl rfl 2 (by decide) (hts _ q149) (fun _ h9 => h9) rfl d_Follows_gather_1 ?_
  refine lv_iconst (v := (-1)) hx hb d_Follows_gather_4 (by decide) ?_
  refine z_callS (index := 21) (As := [.ref b5, .int (-1)]) (rest := []) (wr := [(b0, .inr (4, [.ref b3, .ref b4, .ref b5])), (b2, .inr (3, [.int 1, .int (-1), .int 0, .ref b6, .ref b7, .ref b8, .ref b9, .ref b10, .ref b11, .ref b12, .ref b13])), (b1, .inr (2, [.int 0, .int 1, .int 0, .ref b14, .ref b15, .ref b16]))]) Z (c_fill_I l G (b5) (512) ((fun _ => 0)) ((-1)) (by first | assumption | decide +kernel | omega)) hl.1 q605 q415 q13 q416 ⟨by decide, by decide, by show _ = some 2; decide +kernel⟩ ⟨Nat.le_of_ble_eq_true rfl, Nat.le_of_ble_eq_true rfl⟩ ⟨Nat.le_of_ble_eq_true rfl, Nat.le_of_ble_eq_true rfl⟩ rfl (Nat.le_of_ble_eq_true rfl) d_Follows_gather_5 hP hD hS hA [1] [0, 2, 3] rfl rfl rfl rfl (by decide) (fun v w1 H locs hw_1 hP hD hS => ?_)
  obtain ⟨rfl, rfl⟩ := hw_1
  have hP : va_P G.1 classes [(b0, .inr (4, [.ref b3, .ref b4, .ref b5])), (b2, .inr (3, [.int 1, .int (-1), .int 0, .ref b6, .ref b7, .ref b8, .ref b9, .ref b10, .ref b11, .ref b12, .ref b13])), (b1, .inr (2, [.int 0, .int 1, .int 0, .ref b14, .ref b15, .ref b16])), (b5, .inl (G.2 0, 512, .inl (fun _ => (-1))))] H := hP
  have hD := z_tie hP hD rfl
  refine W.widen (k := 0) (n := 0) (Nat.le_of_ble_eq_true rfl) (Nat.le_of_ble_eq_true rfl) ?_
  refine lv_iconst (v := 0) hx hb d_Follows_gather_8 (by decide) ?_
  refine lv_istore (lv' := [(4, .int 0), (0, .ref b0), (1, .ref b1), (2, .ref b2), (3, .int 2)]) hx hb d_Follows_gather_9 hl (by decide) rfl (fun ls hl => ?_)
  refine lv_iload hx hb d_Follows_gather_11 (lv_at hl 0 rfl) ?_
  refine lv_aload_n hx hb d_Follows_gather_13 rfl (lv_at hl 3 rfl) ?_
  refine va_get (D := G.1) (ci := 3) (v := .int 0) (C := R_Tree) (T := F_Tree) (N := 11) hx hb hts i_Tree hown hK hP 1 rfl rfl 2 (by decide) (hts _ q99) (fun _ h9 => h9) rfl d_Follows_gather_14 ?_
  refine lv_icmp_ge (tgt := 34) hx hb d_Follows_gather_17 (by decide) (fun _ => ?_) (fun hc => absurd hc (by decide +kernel))
  refine lv_iconst (v := 0) hx hb d_Follows_gather_34 (by decide) ?_
  refine lv_istore (lv' := [(4, .int 0), (0, .ref b0), (1, .ref b1), (2, .ref b2), (3, .int 2)]) hx hb d_Follows_gather_35 hl (by decide) rfl (fun ls hl => ?_)
  refine lv_iload hx hb d_Follows_gather_37 (lv_at hl 0 rfl) ?_
  refine lv_aload_n hx hb d_Follows_gather_39 rfl (lv_at hl 2 rfl) ?_
  refine va_get (D := G.1) (ci := 2) (v := .int 0) (C := R_Traces) (T := F_Traces) (N := 6) hx hb hts i_Traces hown hK hP 2 rfl rfl 0 (by decide) (hts _ q55) (fun _ h9 => h9) rfl d_Follows_gather_40 ?_
  refine lv_icmp_ge (tgt := 103) hx hb d_Follows_gather_43 (by decide) (fun _ => ?_) (fun hc => absurd hc (by decide +kernel))
  exact z_vret hx hb hr hlocks hP hD hS (Nat.le_of_ble_eq_true rfl) (Nat.le_of_ble_eq_true rfl) d_Follows_gather_103 ⟨rfl, rfl⟩
abbrev m_c3_Machine_fold : Room := { frames := 2, cells := 0, slots := 0, locals := 49 }
set_option maxHeartbeats 4000000 in
set_option maxRecDepth 100000 in
theorem c3_Machine_fold (l : Launch) (G : zG) (b0 : Nat) (b1 : Nat) (b2 : Nat) (b3 : Nat) (b4 : Nat) (b5 : Nat) (b6 : Nat) (b7 : Nat) (b8 : Nat) (b9 : Nat) (b10 : Nat) (b11 : Nat) (b12 : Nat) (b13 : Nat) (b14 : Nat) (b15 : Nat) (b16 : Nat) (b17 : Nat) (b18 : Nat) (b19 : Nat) (b20 : Nat) (b21 : Nat) (b22 : Nat) (b23 : Nat) (b24 : Nat) (b25 : Nat) (b26 : Nat) (b27 : Nat) (b28 : Nat) (b29 : Nat)  : zM l G y_Machine_fold prog_4_method_5_code 5 (Option.none : Option Jvm.ClassFile.FieldType) m_c3_Machine_fold [.ref b0, .ref b1, .ref b2, .ref b3, .int 2] [(b0, .inr (5, [.int 0, .int 0, .ref b4, .ref b5, .ref b6, .ref b7, .ref b8, .ref b9, .int 0, .ref b10, .ref b11, .ref b12, .ref b13, .ref b14, .ref b15])), (b3, .inr (4, [.ref b16, .ref b17, .ref b18])), (b18, .inl (G.2 0, 512, .inl (fun _ => 0))), (b2, .inr (3, [.int 1, .int (-1), .int 0, .ref b19, .ref b20, .ref b21, .ref b22, .ref b23, .ref b24, .ref b25, .ref b26])), (b1, .inr (2, [.int 0, .int 1, .int 0, .ref b27, .ref b28, .ref b29])), (b9, .inl (G.2 1, 4, .inr (.inl (fun _ => 0)))), (b14, .inl (G.2 0, 242, .inl (fun _ => 0)))] (fun v w => (v = none ∧ w = [(b3, .inr (4, [.ref b16, .ref b17, .ref b18])), (b1, .inr (2, [.int 0, .int 1, .int 0, .ref b27, .ref b28, .ref b29])), (b18, .inl (G.2 0, 512, .inl (fun _ => (-1)))), (b9, .inl (G.2 1, 4, .inr (.inl (fun _ => 0)))), (b2, .inr (3, [.int 1, .int (-1), .int 0, .ref b19, .ref b20, .ref b21, .ref b22, .ref b23, .ref b24, .ref b25, .ref b26])), (b0, .inr (5, [.int 1, .int 0, .ref b4, .ref b5, .ref b6, .ref b7, .ref b8, .ref b9, .int 0, .ref b10, .ref b11, .ref b12, .ref b13, .ref b14, .ref b15])), (b14, .inl (G.2 0, 242, .inl (upd (fun _ => 0) 0 0)))])) := by
  refine z_start (by decide +kernel) (Nat.le_of_ble_eq_true rfl) ?_
  intro p e s m below meth c A Z hr hnm hA hP hD hS ls hl
  have Z : zC p s m _ meth c prog_4_method_5_code 5 "TraceMachines$Machine" G := Z
  obtain ⟨hx, hb, hml, hown, hts, hK, hN, hlocks⟩ := id Z
  have hl : lv_has ls 5 [(0, .ref b0), (1, .ref b1), (2, .ref b2), (3, .ref b3), (4, .int 2)] := hl
  refine lv_aload_n hx hb d_Machine_fold_0 rfl (lv_at hl 0 rfl) ?_
  refine lv_iconst (v := 1) hx hb d_Machine_fold_1 (by decide) ?_
  refine va_put (D := G.1) (ci := 5) (v := .int 1) (ty := .boolean) (C := R_Machine) (T := F_Machine) (N := 15) hx hb hts i_Machine t_Machine t_Machine_ok n_Machine hown hK hP hD hS 0 rfl rfl 0 (by decide) (hts _ q164) (fun _ h9 => h9) rfl (by decide +kernel) rfl rfl (Nat.le_of_ble_eq_true rfl) d_Machine_fold_2 (fun H locs hP hD hS => ?_)
  have hP : va_P G.1 classes [(b0, .inr (5, [.int 1, .int 0, .ref b4, .ref b5, .ref b6, .ref b7, .ref b8, .ref b9, .int 0, .ref b10, .ref b11, .ref b12, .ref b13, .ref b14, .ref b15])), (b3, .inr (4, [.ref b16, .ref b17, .ref b18])), (b18, .inl (G.2 0, 512, .inl (fun _ => 0))), (b2, .inr (3, [.int 1, .int (-1), .int 0, .ref b19, .ref b20, .ref b21, .ref b22, .ref b23, .ref b24, .ref b25, .ref b26])), (b1, .inr (2, [.int 0, .int 1, .int 0, .ref b27, .ref b28, .ref b29])), (b9, .inl (G.2 1, 4, .inr (.inl (fun _ => 0)))), (b14, .inl (G.2 0, 242, .inl (fun _ => 0)))] H := hP
  have hD := z_tie hP hD rfl
  refine lv_aload_n hx hb d_Machine_fold_5 rfl (lv_at hl 3 rfl) ?_
  refine lv_aload_n hx hb d_Machine_fold_6 rfl (lv_at hl 1 rfl) ?_
  refine lv_aload_n hx hb d_Machine_fold_7 rfl (lv_at hl 2 rfl) ?_
  refine lv_iload hx hb d_Machine_fold_8 (lv_at hl 4 rfl) ?_
  refine z_callV (index := 55) (As := [.ref b1, .ref b2, .int 2]) (rest := []) (wr := [(b0, .inr (5, [.int 1, .int 0, .ref b4, .ref b5, .ref b6, .ref b7, .ref b8, .ref b9, .int 0, .ref b10, .ref b11, .ref b12, .ref b13, .ref b14, .ref b15])), (b9, .inl (G.2 1, 4, .inr (.inl (fun _ => 0)))), (b14, .inl (G.2 0, 242, .inl (fun _ => 0)))]) Z (c3_Follows_gather l G (b3) (b1) (b2) (b16) (b17) (b18) (b19) (b20) (b21) (b22) (b23) (b24) (b25) (b26) (b27) (b28) (b29)) hl.1 q601 q602 q603 q5 q604 ⟨by decide, by decide, by show _ = some 3; decide +kernel⟩ ⟨Nat.le_of_ble_eq_true rfl, Nat.le_of_ble_eq_true rfl⟩ ⟨Nat.le_of_ble_eq_true rfl, Nat.le_of_ble_eq_true rfl⟩ rfl (Nat.le_of_ble_eq_true rfl) d_Machine_fold_10 hP hD hS hA 1 4 rfl rfl rfl [1, 2, 3, 4] [0, 5, 6] rfl rfl rfl rfl (by decide) (fun v w1 H locs hw_1 hP hD hS => ?_)
  obtain ⟨rfl, rfl⟩ := hw_1
  have hP : va_P G.1 classes [(b0, .inr (5, [.int 1, .int 0, .ref b4, .ref b5, .ref b6, .ref b7, .ref b8, .ref b9, .int 0, .ref b10, .ref b11, .ref b12, .ref b13, .ref b14, .ref b15])), (b9, .inl (G.2 1, 4, .inr (.inl (fun _ => 0)))), (b14, .inl (G.2 0, 242, .inl (fun _ => 0))), (b3, .inr (4, [.ref b16, .ref b17, .ref b18])), (b2, .inr (3, [.int 1, .int (-1), .int 0, .ref b19, .ref b20, .ref b21, .ref b22, .ref b23, .ref b24, .ref b25, .ref b26])), (b1, .inr (2, [.int 0, .int 1, .int 0, .ref b27, .ref b28, .ref b29])), (b18, .inl (G.2 0, 512, .inl (fun _ => (-1))))] H := hP
  have hD := z_tie hP hD rfl
  refine W.widen (k := 0) (n := 0) (Nat.le_of_ble_eq_true rfl) (Nat.le_of_ble_eq_true rfl) ?_
  refine lv_aload_n hx hb d_Machine_fold_13 rfl (lv_at hl 0 rfl) ?_
  refine lv_aload_n hx hb d_Machine_fold_14 rfl (lv_at hl 2 rfl) ?_
  refine lv_aload_n hx hb d_Machine_fold_15 rfl (lv_at hl 3 rfl) ?_
  refine z_callV (index := 61) (As := [.ref b2, .ref b3]) (rest := []) (wr := [(b14, .inl (G.2 0, 242, .inl (fun _ => 0))), (b3, .inr (4, [.ref b16, .ref b17, .ref b18])), (b1, .inr (2, [.int 0, .int 1, .int 0, .ref b27, .ref b28, .ref b29])), (b18, .inl (G.2 0, 512, .inl (fun _ => (-1))))]) Z (c1_Machine_foldStates l G (b0) (b2) (b3) (b4) (b5) (b6) (b7) (b8) (b9) (b10) (b11) (b12) (b13) (b14) (b15) (b19) (b20) (b21) (b22) (b23) (b24) (b25) (b26)) hl.1 q618 q620 qs7 q6 q621 ⟨by decide, by decide, by show _ = some 2; decide +kernel⟩ ⟨Nat.le_of_ble_eq_true rfl, Nat.le_of_ble_eq_true rfl⟩ ⟨Nat.le_of_ble_eq_true rfl, Nat.le_of_ble_eq_true rfl⟩ rfl (Nat.le_of_ble_eq_true rfl) d_Machine_fold_16 hP hD hS hA 0 5 rfl rfl rfl [0, 1, 4] [2, 3, 5, 6] rfl rfl rfl rfl (by decide) (fun v w1 H locs hw_2 hP hD hS => ?_)
  obtain ⟨rfl, rfl⟩ := hw_2
  have hP : va_P G.1 classes [(b14, .inl (G.2 0, 242, .inl (fun _ => 0))), (b3, .inr (4, [.ref b16, .ref b17, .ref b18])), (b1, .inr (2, [.int 0, .int 1, .int 0, .ref b27, .ref b28, .ref b29])), (b18, .inl (G.2 0, 512, .inl (fun _ => (-1)))), (b0, .inr (5, [.int 1, .int 0, .ref b4, .ref b5, .ref b6, .ref b7, .ref b8, .ref b9, .int 0, .ref b10, .ref b11, .ref b12, .ref b13, .ref b14, .ref b15])), (b2, .inr (3, [.int 1, .int (-1), .int 0, .ref b19, .ref b20, .ref b21, .ref b22, .ref b23, .ref b24, .ref b25, .ref b26])), (b9, .inl (G.2 1, 4, .inr (.inl (fun _ => 0))))] H := hP
  have hD := z_tie hP hD rfl
  refine W.widen (k := 0) (n := 0) (Nat.le_of_ble_eq_true rfl) (Nat.le_of_ble_eq_true rfl) ?_
  refine lv_aload_n hx hb d_Machine_fold_19 rfl (lv_at hl 0 rfl) ?_
  refine lv_aload_n hx hb d_Machine_fold_20 rfl (lv_at hl 2 rfl) ?_
  refine z_callV (index := 65) (As := [.ref b2]) (rest := []) (wr := [(b14, .inl (G.2 0, 242, .inl (fun _ => 0))), (b3, .inr (4, [.ref b16, .ref b17, .ref b18])), (b1, .inr (2, [.int 0, .int 1, .int 0, .ref b27, .ref b28, .ref b29])), (b18, .inl (G.2 0, 512, .inl (fun _ => (-1)))), (b9, .inl (G.2 1, 4, .inr (.inl (fun _ => 0))))]) Z (c1_Machine_gatherKeys l G (b0) (b2) (b4) (b5) (b6) (b7) (b8) (b9) (b10) (b11) (b12) (b13) (b14) (b15) (b19) (b20) (b21) (b22) (b23) (b24) (b25) (b26)) hl.1 q637 q639 qs10 q6 q640 ⟨by decide, by decide, by show _ = some 1; decide +kernel⟩ ⟨Nat.le_of_ble_eq_true rfl, Nat.le_of_ble_eq_true rfl⟩ ⟨Nat.le_of_ble_eq_true rfl, Nat.le_of_ble_eq_true rfl⟩ rfl (Nat.le_of_ble_eq_true rfl) d_Machine_fold_21 hP hD hS hA 4 5 rfl rfl rfl [4, 5] [0, 1, 2, 3, 6] rfl rfl rfl rfl (by decide) (fun v w1 H locs hw_3 hP hD hS => ?_)
  obtain ⟨rfl, rfl⟩ := hw_3
  have hP : va_P G.1 classes [(b14, .inl (G.2 0, 242, .inl (fun _ => 0))), (b3, .inr (4, [.ref b16, .ref b17, .ref b18])), (b1, .inr (2, [.int 0, .int 1, .int 0, .ref b27, .ref b28, .ref b29])), (b18, .inl (G.2 0, 512, .inl (fun _ => (-1)))), (b9, .inl (G.2 1, 4, .inr (.inl (fun _ => 0)))), (b0, .inr (5, [.int 1, .int 0, .ref b4, .ref b5, .ref b6, .ref b7, .ref b8, .ref b9, .int 0, .ref b10, .ref b11, .ref b12, .ref b13, .ref b14, .ref b15])), (b2, .inr (3, [.int 1, .int (-1), .int 0, .ref b19, .ref b20, .ref b21, .ref b22, .ref b23, .ref b24, .ref b25, .ref b26]))] H := hP
  have hD := z_tie hP hD rfl
  refine W.widen (k := 0) (n := 0) (Nat.le_of_ble_eq_true rfl) (Nat.le_of_ble_eq_true rfl) ?_
  refine lv_aload_n hx hb d_Machine_fold_24 rfl (lv_at hl 0 rfl) ?_
  refine lv_aload_n hx hb d_Machine_fold_25 rfl (lv_at hl 2 rfl) ?_
  refine z_callV (index := 69) (As := [.ref b2]) (rest := []) (wr := [(b14, .inl (G.2 0, 242, .inl (fun _ => 0))), (b3, .inr (4, [.ref b16, .ref b17, .ref b18])), (b1, .inr (2, [.int 0, .int 1, .int 0, .ref b27, .ref b28, .ref b29])), (b18, .inl (G.2 0, 512, .inl (fun _ => (-1)))), (b9, .inl (G.2 1, 4, .inr (.inl (fun _ => 0)))), (b0, .inr (5, [.int 1, .int 0, .ref b4, .ref b5, .ref b6, .ref b7, .ref b8, .ref b9, .int 0, .ref b10, .ref b11, .ref b12, .ref b13, .ref b14, .ref b15]))]) Z (c1_Machine_gatherRanges l G (b0) (b2) (b19) (b20) (b21) (b22) (b23) (b24) (b25) (b26)) hl.1 q650 q652 qs13 q6 q653 ⟨by decide, by decide, by show _ = some 1; decide +kernel⟩ ⟨Nat.le_of_ble_eq_true rfl, Nat.le_of_ble_eq_true rfl⟩ ⟨Nat.le_of_ble_eq_true rfl, Nat.le_of_ble_eq_true rfl⟩ rfl (Nat.le_of_ble_eq_true rfl) d_Machine_fold_26 hP hD hS hA 5 5 rfl rfl rfl [6] [0, 1, 2, 3, 4, 5] rfl rfl rfl rfl (by decide) (fun v w1 H locs hw_4 hP hD hS => ?_)
  obtain ⟨rfl, rfl⟩ := hw_4
  have hP : va_P G.1 classes [(b14, .inl (G.2 0, 242, .inl (fun _ => 0))), (b3, .inr (4, [.ref b16, .ref b17, .ref b18])), (b1, .inr (2, [.int 0, .int 1, .int 0, .ref b27, .ref b28, .ref b29])), (b18, .inl (G.2 0, 512, .inl (fun _ => (-1)))), (b9, .inl (G.2 1, 4, .inr (.inl (fun _ => 0)))), (b0, .inr (5, [.int 1, .int 0, .ref b4, .ref b5, .ref b6, .ref b7, .ref b8, .ref b9, .int 0, .ref b10, .ref b11, .ref b12, .ref b13, .ref b14, .ref b15])), (b2, .inr (3, [.int 1, .int (-1), .int 0, .ref b19, .ref b20, .ref b21, .ref b22, .ref b23, .ref b24, .ref b25, .ref b26]))] H := hP
  have hD := z_tie hP hD rfl
  refine W.widen (k := 0) (n := 0) (Nat.le_of_ble_eq_true rfl) (Nat.le_of_ble_eq_true rfl) ?_
  refine lv_aload_n hx hb d_Machine_fold_29 rfl (lv_at hl 0 rfl) ?_
  refine z_callV (index := 72) (As := []) (rest := []) (wr := [(b3, .inr (4, [.ref b16, .ref b17, .ref b18])), (b1, .inr (2, [.int 0, .int 1, .int 0, .ref b27, .ref b28, .ref b29])), (b18, .inl (G.2 0, 512, .inl (fun _ => (-1)))), (b9, .inl (G.2 1, 4, .inr (.inl (fun _ => 0)))), (b2, .inr (3, [.int 1, .int (-1), .int 0, .ref b19, .ref b20, .ref b21, .ref b22, .ref b23, .ref b24, .ref b25, .ref b26]))]) Z (c1_Machine_gatherFirsts l G (b0) (b4) (b5) (b6) (b7) (b8) (b9) (b10) (b11) (b12) (b13) (b14) (b15)) hl.1 q656 q658 qs14 q6 q659 ⟨by decide, by decide, by show _ = some 0; decide +kernel⟩ ⟨Nat.le_of_ble_eq_true rfl, Nat.le_of_ble_eq_true rfl⟩ ⟨Nat.le_of_ble_eq_true rfl, Nat.le_of_ble_eq_true rfl⟩ rfl (Nat.le_of_ble_eq_true rfl) d_Machine_fold_30 hP hD hS hA 5 5 rfl rfl rfl [5, 0] [1, 2, 3, 4, 6] rfl rfl rfl rfl (by decide) (fun v w1 H locs hw_5 hP hD hS => ?_)
  obtain ⟨rfl, rfl⟩ := hw_5
  have hP : va_P G.1 classes [(b3, .inr (4, [.ref b16, .ref b17, .ref b18])), (b1, .inr (2, [.int 0, .int 1, .int 0, .ref b27, .ref b28, .ref b29])), (b18, .inl (G.2 0, 512, .inl (fun _ => (-1)))), (b9, .inl (G.2 1, 4, .inr (.inl (fun _ => 0)))), (b2, .inr (3, [.int 1, .int (-1), .int 0, .ref b19, .ref b20, .ref b21, .ref b22, .ref b23, .ref b24, .ref b25, .ref b26])), (b0, .inr (5, [.int 1, .int 0, .ref b4, .ref b5, .ref b6, .ref b7, .ref b8, .ref b9, .int 0, .ref b10, .ref b11, .ref b12, .ref b13, .ref b14, .ref b15])), (b14, .inl (G.2 0, 242, .inl (upd (fun _ => 0) 0 0)))] H := hP
  have hD := z_tie hP hD rfl
  refine W.widen (k := 0) (n := 0) (Nat.le_of_ble_eq_true rfl) (Nat.le_of_ble_eq_true rfl) ?_
  exact z_vret hx hb hr hlocks hP hD hS (Nat.le_of_ble_eq_true rfl) (Nat.le_of_ble_eq_true rfl) d_Machine_fold_33 ⟨rfl, rfl⟩
abbrev m_c3_X_machine : Room := { frames := 3, cells := 0, slots := 0, locals := 73 }
set_option maxHeartbeats 4000000 in
set_option maxRecDepth 100000 in
theorem c3_X_machine (l : Launch) (G : zG) (b0 : Nat) (b1 : Nat) (b2 : Nat) (b3 : Nat) (b4 : Nat) (b5 : Nat) (b6 : Nat) (b7 : Nat) (b8 : Nat) (b9 : Nat) (b10 : Nat) (b11 : Nat) (b12 : Nat) (b13 : Nat) (b14 : Nat) (b15 : Nat) (b16 : Nat) (b17 : Nat) (b18 : Nat) (b19 : Nat) (b20 : Nat) (b21 : Nat) (b22 : Nat) (b23 : Nat) (b24 : Nat) (b25 : Nat) (b26 : Nat) (b27 : Nat) (b28 : Nat) (b29 : Nat) (b30 : Nat) (b31 : Nat) (b32 : Nat) (b33 : Nat) (b34 : Nat) (b35 : Nat) (b36 : Nat) (b37 : Nat) (b38 : Nat) (b39 : Nat) (b40 : Nat) (b41 : Nat) (b42 : Nat) (b43 : Nat) (b44 : Nat) (b45 : Nat) (b46 : Nat) (b47 : Nat) (b48 : Nat)  : zM l G y_X_machine prog_1_method_37_code 3 (Option.some (Jvm.ClassFile.FieldType.object "TraceMachines$Machine")) m_c3_X_machine [.ref b0, .int 2] [(b0, .inr (0, [.ref b1, .ref b2, .ref b3, .ref b4, .int 0, .int 0, .ref b5, .ref b6, .ref b7, .ref b8, .ref b9, .ref b10, .ref b11, .ref b12, .ref b13, .ref b14, .ref b15, .ref b16, .ref b17, .ref b18])), (b8, .inl (G.2 6, 4, .inr (.inr (.inr (.inr (va_up (va_up (va_up (va_up (fun _ => none) 0 (some b19)) 1 (some b20)) 2 (some b21)) 3 (some b22))))))), (b6, .inr (3, [.int 0, .int 0, .int 0, .ref b23, .ref b24, .ref b25, .ref b26, .ref b27, .ref b28, .ref b29, .ref b30])), (b2, .inr (2, [.int 0, .int 1, .int 0, .ref b31, .ref b32, .ref b33])), (b21, .inr (5, [.int 0, .int 0, .ref b34, .ref b35, .ref b36, .ref b37, .ref b38, .ref b39, .int 0, .ref b40, .ref b41, .ref b42, .ref b43, .ref b44, .ref b45])), (b7, .inr (4, [.ref b46, .ref b47, .ref b48])), (b48, .inl (G.2 0, 512, .inl (fun _ => 0))), (b39, .inl (G.2 1, 4, .inr (.inl (fun _ => 0)))), (b44, .inl (G.2 0, 242, .inl (fun _ => 0)))] (fun v w => (v = some (.ref b21) ∧ w = [(b0, .inr (0, [.ref b1, .ref b2, .ref b3, .ref b4, .int 0, .int 0, .ref b5, .ref b6, .ref b7, .ref b8, .ref b9, .ref b10, .ref b11, .ref b12, .ref b13, .ref b14, .ref b15, .ref b16, .ref b17, .ref b18])), (b8, .inl (G.2 6, 4, .inr (.inr (.inr (.inr (va_up (va_up (va_up (va_up (fun _ => none) 0 (some b19)) 1 (some b20)) 2 (some b21)) 3 (some b22))))))), (b7, .inr (4, [.ref b46, .ref b47, .ref b48])), (b2, .inr (2, [.int 0, .int 1, .int 0, .ref b31, .ref b32, .ref b33])), (b48, .inl (G.2 0, 512, .inl (fun _ => (-1)))), (b39, .inl (G.2 1, 4, .inr (.inl (fun _ => 0)))), (b6, .inr (3, [.int 1, .int (-1), .int 0, .ref b23, .ref b24, .ref b25, .ref b26, .ref b27, .ref b28, .ref b29, .ref b30])), (b21, .inr (5, [.int 1, .int 0, .ref b34, .ref b35, .ref b36, .ref b37, .ref b38, .ref b39, .int 0, .ref b40, .ref b41, .ref b42, .ref b43, .ref b44, .ref b45])), (b44, .inl (G.2 0, 242, .inl (upd (fun _ => 0) 0 0)))])) := by
  refine z_start (by decide +kernel) (Nat.le_of_ble_eq_true rfl) ?_
  intro p e s m below meth c A Z hr hnm hA hP hD hS ls hl
  have Z : zC p s m _ meth c prog_1_method_37_code 3 "TraceMachines" G := Z
  obtain ⟨hx, hb, hml, hown, hts, hK, hN, hlocks⟩ := id Z
  have hl : lv_has ls 3 [(0, .ref b0), (1, .int 2)] := hl
  refine lv_aload_n hx hb d_X_machine_0 rfl (lv_at hl 0 rfl) ?_
  refine va_get (D := G.1) (ci := 0) (v := .ref b8) (C := R_X) (T := F_X) (N := 20) hx hb hts i_X hown hK hP 0 rfl rfl 9 (by decide) (hts _ q426) (fun _ h9 => h9) rfl d_X_machine_1 ?_
  refine lv_iload_n hx hb d_X_machine_4 rfl (lv_at hl 1 rfl) ?_
  refine va_aldq hx hb hK hP 1 6 rfl rfl (i := 2) (z_in rfl) d_X_machine_5 ?_
  refine z_topv (y := .ref b21) rfl ?_
  refine lv_astore_n (lv' := [(2, .ref b21), (0, .ref b0), (1, .int 2)]) hx hb d_X_machine_6 rfl hl (by decide) rfl (fun ls hl => ?_)
  refine lv_aload_n hx hb d_X_machine_7 rfl (lv_at hl 1 rfl) ?_
  refine va_get (D := G.1) (ci := 0) (v := .ref b6) (C := R_X) (T := F_X) (N := 20) hx hb hts i_X hown hK hP 0 rfl rfl 7 (by decide) (hts _ q424) (fun _ h9 => h9) rfl d_X_machine_8 ?_
  refine va_get (D := G.1) (ci := 3) (v := .int 0) (C := R_Tree) (T := F_Tree) (N := 11) hx hb hts i_Tree hown hK hP 2 rfl rfl 0 (by decide) (hts _ q96) (fun _ h9 => h9) rfl d_X_machine_11 ?_
  refine lv_if_ne (tgt := 29) hx hb d_X_machine_14 (by decide) (fun hc => absurd hc (by decide +kernel)) (fun _ => ?_)
  refine lv_aload_n hx hb d_X_machine_17 rfl (lv_at hl 1 rfl) ?_
  refine va_get (D := G.1) (ci := 0) (v := .ref b6) (C := R_X) (T := F_X) (N := 20) hx hb hts i_X hown hK hP 0 rfl rfl 7 (by decide) (hts _ q424) (fun _ h9 => h9) rfl d_X_machine_18 ?_
  refine lv_aload_n hx hb d_X_machine_21 rfl (lv_at hl 1 rfl) ?_
  refine va_get (D := G.1) (ci := 0) (v := .ref b2) (C := R_X) (T := F_X) (N := 20) hx hb hts i_X hown hK hP 0 rfl rfl 1 (by decide) (hts _ q418) (fun _ h9 => h9) rfl d_X_machine_22 ?_
  refine lv_iconst (v := (-1)) hx hb d_X_machine_25 (by decide) ?_
  refine z_callV (index := 360) (As := [.ref b2, .int (-1)]) (rest := []) (wr := [(b0, .inr (0, [.ref b1, .ref b2, .ref b3, .ref b4, .int 0, .int 0, .ref b5, .ref b6, .ref b7, .ref b8, .ref b9, .ref b10, .ref b11, .ref b12, .ref b13, .ref b14, .ref b15, .ref b16, .ref b17, .ref b18])), (b8, .inl (G.2 6, 4, .inr (.inr (.inr (.inr (va_up (va_up (va_up (va_up (fun _ => none) 0 (some b19)) 1 (some b20)) 2 (some b21)) 3 (some b22))))))), (b21, .inr (5, [.int 0, .int 0, .ref b34, .ref b35, .ref b36, .ref b37, .ref b38, .ref b39, .int 0, .ref b40, .ref b41, .ref b42, .ref b43, .ref b44, .ref b45])), (b7, .inr (4, [.ref b46, .ref b47, .ref b48])), (b48, .inl (G.2 0, 512, .inl (fun _ => 0))), (b39, .inl (G.2 1, 4, .inr (.inl (fun _ => 0)))), (b44, .inl (G.2 0, 242, .inl (fun _ => 0)))]) Z (c1_Tree_grow l G (b6) (b2) (b23) (b24) (b25) (b26) (b27) (b28) (b29) (b30) (b31) (b32) (b33)) hl.1 q567 q568 q569 q4 q570 ⟨by decide, by decide, by show _ = some 2; decide +kernel⟩ ⟨Nat.le_of_ble_eq_true rfl, Nat.le_of_ble_eq_true rfl⟩ ⟨Nat.le_of_ble_eq_true rfl, Nat.le_of_ble_eq_true rfl⟩ rfl (Nat.le_of_ble_eq_true rfl) d_X_machine_26 hP hD hS hA 2 3 rfl rfl rfl [2, 3] [0, 1, 4, 5, 6, 7, 8] rfl rfl rfl rfl (by decide) (fun v w1 H locs hw_1 hP hD hS => ?_)
  obtain ⟨rfl, rfl⟩ := hw_1
  have hP : va_P G.1 classes [(b0, .inr (0, [.ref b1, .ref b2, .ref b3, .ref b4, .int 0, .int 0, .ref b5, .ref b6, .ref b7, .ref b8, .ref b9, .ref b10, .ref b11, .ref b12, .ref b13, .ref b14, .ref b15, .ref b16, .ref b17, .ref b18])), (b8, .inl (G.2 6, 4, .inr (.inr (.inr (.inr (va_up (va_up (va_up (va_up (fun _ => none) 0 (some b19)) 1 (some b20)) 2 (some b21)) 3 (some b22))))))), (b21, .inr (5, [.int 0, .int 0, .ref b34, .ref b35, .ref b36, .ref b37, .ref b38, .ref b39, .int 0, .ref b40, .ref b41, .ref b42, .ref b43, .ref b44, .ref b45])), (b7, .inr (4, [.ref b46, .ref b47, .ref b48])), (b48, .inl (G.2 0, 512, .inl (fun _ => 0))), (b39, .inl (G.2 1, 4, .inr (.inl (fun _ => 0)))), (b44, .inl (G.2 0, 242, .inl (fun _ => 0))), (b6, .inr (3, [.int 1, .int (-1), .int 0, .ref b23, .ref b24, .ref b25, .ref b26, .ref b27, .ref b28, .ref b29, .ref b30])), (b2, .inr (2, [.int 0, .int 1, .int 0, .ref b31, .ref b32, .ref b33]))] H := hP
  have hD := z_tie hP hD rfl
  refine W.widen (k := 0) (n := 0) (Nat.le_of_ble_eq_true rfl) (Nat.le_of_ble_eq_true rfl) ?_
  refine lv_aload_n hx hb d_X_machine_29 rfl (lv_at hl 0 rfl) ?_
  refine va_get (D := G.1) (ci := 5) (v := .int 0) (C := R_Machine) (T := F_Machine) (N := 15) hx hb hts i_Machine hown hK hP 2 rfl rfl 0 (by decide) (hts _ q165) (fun _ h9 => h9) rfl d_X_machine_30 ?_
  refine lv_if_ne (tgt := 53) hx hb d_X_machine_33 (by decide) (fun hc => absurd hc (by decide +kernel)) (fun _ => ?_)
  refine lv_aload_n hx hb d_X_machine_36 rfl (lv_at hl 0 rfl) ?_
  refine lv_aload_n hx hb d_X_machine_37 rfl (lv_at hl 1 rfl) ?_
  refine va_get (D := G.1) (ci := 0) (v := .ref b2) (C := R_X) (T := F_X) (N := 20) hx hb hts i_X hown hK hP 0 rfl rfl 1 (by decide) (hts _ q418) (fun _ h9 => h9) rfl d_X_machine_38 ?_
  refine lv_aload_n hx hb d_X_machine_41 rfl (lv_at hl 1 rfl) ?_
  refine va_get (D := G.1) (ci := 0) (v := .ref b6) (C := R_X) (T := F_X) (N := 20) hx hb hts i_X hown hK hP 0 rfl rfl 7 (by decide) (hts _ q424) (fun _ h9 => h9) rfl d_X_machine_42 ?_
  refine lv_aload_n hx hb d_X_machine_45 rfl (lv_at hl 1 rfl) ?_
  refine va_get (D := G.1) (ci := 0) (v := .ref b7) (C := R_X) (T := F_X) (N := 20) hx hb hts i_X hown hK hP 0 rfl rfl 8 (by decide) (hts _ q425) (fun _ h9 => h9) rfl d_X_machine_46 ?_
  refine lv_iload_n hx hb d_X_machine_49 rfl (lv_at hl 2 rfl) ?_
  refine z_callV (index := 364) (As := [.ref b2, .ref b6, .ref b7, .int 2]) (rest := []) (wr := [(b0, .inr (0, [.ref b1, .ref b2, .ref b3, .ref b4, .int 0, .int 0, .ref b5, .ref b6, .ref b7, .ref b8, .ref b9, .ref b10, .ref b11, .ref b12, .ref b13, .ref b14, .ref b15, .ref b16, .ref b17, .ref b18])), (b8, .inl (G.2 6, 4, .inr (.inr (.inr (.inr (va_up (va_up (va_up (va_up (fun _ => none) 0 (some b19)) 1 (some b20)) 2 (some b21)) 3 (some b22)))))))]) Z (c3_Machine_fold l G (b21) (b2) (b6) (b7) (b34) (b35) (b36) (b37) (b38) (b39) (b40) (b41) (b42) (b43) (b44) (b45) (b46) (b47) (b48) (b23) (b24) (b25) (b26) (b27) (b28) (b29) (b30) (b31) (b32) (b33)) hl.1 q597 q598 q599 q6 q600 ⟨by decide, by decide, by show _ = some 4; decide +kernel⟩ ⟨Nat.le_of_ble_eq_true rfl, Nat.le_of_ble_eq_true rfl⟩ ⟨Nat.le_of_ble_eq_true rfl, Nat.le_of_ble_eq_true rfl⟩ rfl (Nat.le_of_ble_eq_true rfl) d_X_machine_50 hP hD hS hA 2 5 rfl rfl rfl [2, 3, 4, 7, 8, 5, 6] [0, 1] rfl rfl rfl rfl (by decide) (fun v w1 H locs hw_2 hP hD hS => ?_)
  obtain ⟨rfl, rfl⟩ := hw_2
  have hP : va_P G.1 classes [(b0, .inr (0, [.ref b1, .ref b2, .ref b3, .ref b4, .int 0, .int 0, .ref b5, .ref b6, .ref b7, .ref b8, .ref b9, .ref b10, .ref b11, .ref b12, .ref b13, .ref b14, .ref b15, .ref b16, .ref b17, .ref b18])), (b8, .inl (G.2 6, 4, .inr (.inr (.inr (.inr (va_up (va_up (va_up (va_up (fun _ => none) 0 (some b19)) 1 (some b20)) 2 (some b21)) 3 (some b22))))))), (b7, .inr (4, [.ref b46, .ref b47, .ref b48])), (b2, .inr (2, [.int 0, .int 1, .int 0, .ref b31, .ref b32, .ref b33])), (b48, .inl (G.2 0, 512, .inl (fun _ => (-1)))), (b39, .inl (G.2 1, 4, .inr (.inl (fun _ => 0)))), (b6, .inr (3, [.int 1, .int (-1), .int 0, .ref b23, .ref b24, .ref b25, .ref b26, .ref b27, .ref b28, .ref b29, .ref b30])), (b21, .inr (5, [.int 1, .int 0, .ref b34, .ref b35, .ref b36, .ref b37, .ref b38, .ref b39, .int 0, .ref b40, .ref b41, .ref b42, .ref b43, .ref b44, .ref b45])), (b44, .inl (G.2 0, 242, .inl (upd (fun _ => 0) 0 0)))] H := hP
  have hD := z_tie hP hD rfl
  refine W.widen (k := 0) (n := 0) (Nat.le_of_ble_eq_true rfl) (Nat.le_of_ble_eq_true rfl) ?_
  refine lv_aload_n hx hb d_X_machine_53 rfl (lv_at hl 0 rfl) ?_
  exact z_aret hx hb hr hlocks hP hD hS (Nat.le_of_ble_eq_true rfl) (Nat.le_of_ble_eq_true rfl) d_X_machine_54 ⟨rfl, rfl⟩
abbrev m_c4_Follows_gather : Room := { frames := 1, cells := 0, slots := 0, locals := 23 }
set_option maxHeartbeats 4000000 in
set_option maxRecDepth 100000 in
theorem c4_Follows_gather (l : Launch) (G : zG) (b0 : Nat) (b1 : Nat) (b2 : Nat) (b3 : Nat) (b4 : Nat) (b5 : Nat) (b6 : Nat) (b7 : Nat) (b8 : Nat) (b9 : Nat) (b10 : Nat) (b11 : Nat) (b12 : Nat) (b13 : Nat) (b14 : Nat) (b15 : Nat) (b16 : Nat)  : zM l G y_Follows_gather prog_3_method_2_code 6 (Option.none : Option Jvm.ClassFile.FieldType) m_c4_Follows_gather [.ref b0, .ref b1, .ref b2, .int 3] [(b0, .inr (4, [.ref b3, .ref b4, .ref b5])), (b5, .inl (G.2 0, 512, .inl (fun _ => 0))), (b2, .inr (3, [.int 1, .int (-1), .int 0, .ref b6, .ref b7, .ref b8, .ref b9, .ref b10, .ref b11, .ref b12, .ref b13])), (b1, .inr (2, [.int 0, .int 1, .int 0, .ref b14, .ref b15, .ref b16]))] (fun v w => (v = none ∧ w = [(b0, .inr (4, [.ref b3, .ref b4, .ref b5])), (b2, .inr (3, [.int 1, .int (-1), .int 0, .ref b6, .ref b7, .ref b8, .ref b9, .ref b10, .ref b11, .ref b12, .ref b13])), (b1, .inr (2, [.int 0, .int 1, .int 0, .ref b14, .ref b15, .ref b16])), (b5, .inl (G.2 0, 512, .inl (fun _ => (-1))))])) := by
  refine z_start (by decide +kernel) (Nat.le_of_ble_eq_true rfl) ?_
  intro p e s m below meth c A Z hr hnm hA hP hD hS ls hl
  have Z : zC p s m _ meth c prog_3_method_2_code 6 "TraceMachines$Follows" G := Z
  obtain ⟨hx, hb, hml, hown, hts, hK, hN, hlocks⟩ := id Z
  have hl : lv_has ls 6 [(0, .ref b0), (1, .ref b1), (2, .ref b2), (3, .int 3)] := hl
  refine lv_aload_n hx hb d_Follows_gather_0 rfl (lv_at hl 0 rfl) ?_
  refine va_get (D := G.1) (ci := 4) (v := .ref b5) (C := R_Follows) (T := F_Follows) (N := 3) hx hb hts i_Follows hown hK hP 0 rfl rfl 2 (by decide) (hts _ q149) (fun _ h9 => h9) rfl d_Follows_gather_1 ?_
  refine lv_iconst (v := (-1)) hx hb d_Follows_gather_4 (by decide) ?_
  refine z_callS (index := 21) (As := [.ref b5, .int (-1)]) (rest := []) (wr := [(b0, .inr (4, [.ref b3, .ref b4, .ref b5])), (b2, .inr (3, [.int 1, .int (-1), .int 0, .ref b6, .ref b7, .ref b8, .ref b9, .ref b10, .ref b11, .ref b12, .ref b13])), (b1, .inr (2, [.int 0, .int 1, .int 0, .ref b14, .ref b15, .ref b16]))]) Z (c_fill_I l G (b5) (512) ((fun _ => 0)) ((-1)) (by first | assumption | decide +kernel | omega)) hl.1 q605 q415 q13 q416 ⟨by decide, by decide, by show _ = some 2; decide +kernel⟩ ⟨Nat.le_of_ble_eq_true rfl, Nat.le_of_ble_eq_true rfl⟩ ⟨Nat.le_of_ble_eq_true rfl, Nat.le_of_ble_eq_true rfl⟩ rfl (Nat.le_of_ble_eq_true rfl) d_Follows_gather_5 hP hD hS hA [1] [0, 2, 3] rfl rfl rfl rfl (by decide) (fun v w1 H locs hw_1 hP hD hS => ?_)
  obtain ⟨rfl, rfl⟩ := hw_1
  have hP : va_P G.1 classes [(b0, .inr (4, [.ref b3, .ref b4, .ref b5])), (b2, .inr (3, [.int 1, .int (-1), .int 0, .ref b6, .ref b7, .ref b8, .ref b9, .ref b10, .ref b11, .ref b12, .ref b13])), (b1, .inr (2, [.int 0, .int 1, .int 0, .ref b14, .ref b15, .ref b16])), (b5, .inl (G.2 0, 512, .inl (fun _ => (-1))))] H := hP
  have hD := z_tie hP hD rfl
  refine W.widen (k := 0) (n := 0) (Nat.le_of_ble_eq_true rfl) (Nat.le_of_ble_eq_true rfl) ?_
  refine lv_iconst (v := 0) hx hb d_Follows_gather_8 (by decide) ?_
  refine lv_istore (lv' := [(4, .int 0), (0, .ref b0), (1, .ref b1), (2, .ref b2), (3, .int 3)]) hx hb d_Follows_gather_9 hl (by decide) rfl (fun ls hl => ?_)
  refine lv_iload hx hb d_Follows_gather_11 (lv_at hl 0 rfl) ?_
  refine lv_aload_n hx hb d_Follows_gather_13 rfl (lv_at hl 3 rfl) ?_
  refine va_get (D := G.1) (ci := 3) (v := .int 0) (C := R_Tree) (T := F_Tree) (N := 11) hx hb hts i_Tree hown hK hP 1 rfl rfl 2 (by decide) (hts _ q99) (fun _ h9 => h9) rfl d_Follows_gather_14 ?_
  refine lv_icmp_ge (tgt := 34) hx hb d_Follows_gather_17 (by decide) (fun _ => ?_) (fun hc => absurd hc (by decide +kernel))
  refine lv_iconst (v := 0) hx hb d_Follows_gather_34 (by decide) ?_
  refine lv_istore (lv' := [(4, .int 0), (0, .ref b0), (1, .ref b1), (2, .ref b2), (3, .int 3)]) hx hb d_Follows_gather_35 hl (by decide) rfl (fun ls hl => ?_)
  refine lv_iload hx hb d_Follows_gather_37 (lv_at hl 0 rfl) ?_
  refine lv_aload_n hx hb d_Follows_gather_39 rfl (lv_at hl 2 rfl) ?_
  refine va_get (D := G.1) (ci := 2) (v := .int 0) (C := R_Traces) (T := F_Traces) (N := 6) hx hb hts i_Traces hown hK hP 2 rfl rfl 0 (by decide) (hts _ q55) (fun _ h9 => h9) rfl d_Follows_gather_40 ?_
  refine lv_icmp_ge (tgt := 103) hx hb d_Follows_gather_43 (by decide) (fun _ => ?_) (fun hc => absurd hc (by decide +kernel))
  exact z_vret hx hb hr hlocks hP hD hS (Nat.le_of_ble_eq_true rfl) (Nat.le_of_ble_eq_true rfl) d_Follows_gather_103 ⟨rfl, rfl⟩
abbrev m_c4_Machine_fold : Room := { frames := 2, cells := 0, slots := 0, locals := 49 }
set_option maxHeartbeats 4000000 in
set_option maxRecDepth 100000 in
theorem c4_Machine_fold (l : Launch) (G : zG) (b0 : Nat) (b1 : Nat) (b2 : Nat) (b3 : Nat) (b4 : Nat) (b5 : Nat) (b6 : Nat) (b7 : Nat) (b8 : Nat) (b9 : Nat) (b10 : Nat) (b11 : Nat) (b12 : Nat) (b13 : Nat) (b14 : Nat) (b15 : Nat) (b16 : Nat) (b17 : Nat) (b18 : Nat) (b19 : Nat) (b20 : Nat) (b21 : Nat) (b22 : Nat) (b23 : Nat) (b24 : Nat) (b25 : Nat) (b26 : Nat) (b27 : Nat) (b28 : Nat) (b29 : Nat)  : zM l G y_Machine_fold prog_4_method_5_code 5 (Option.none : Option Jvm.ClassFile.FieldType) m_c4_Machine_fold [.ref b0, .ref b1, .ref b2, .ref b3, .int 3] [(b0, .inr (5, [.int 0, .int 0, .ref b4, .ref b5, .ref b6, .ref b7, .ref b8, .ref b9, .int 0, .ref b10, .ref b11, .ref b12, .ref b13, .ref b14, .ref b15])), (b3, .inr (4, [.ref b16, .ref b17, .ref b18])), (b18, .inl (G.2 0, 512, .inl (fun _ => 0))), (b2, .inr (3, [.int 1, .int (-1), .int 0, .ref b19, .ref b20, .ref b21, .ref b22, .ref b23, .ref b24, .ref b25, .ref b26])), (b1, .inr (2, [.int 0, .int 1, .int 0, .ref b27, .ref b28, .ref b29])), (b9, .inl (G.2 1, 4, .inr (.inl (fun _ => 0)))), (b14, .inl (G.2 0, 242, .inl (fun _ => 0)))] (fun v w => (v = none ∧ w = [(b3, .inr (4, [.ref b16, .ref b17, .ref b18])), (b1, .inr (2, [.int 0, .int 1, .int 0, .ref b27, .ref b28, .ref b29])), (b18, .inl (G.2 0, 512, .inl (fun _ => (-1)))), (b9, .inl (G.2 1, 4, .inr (.inl (fun _ => 0)))), (b2, .inr (3, [.int 1, .int (-1), .int 0, .ref b19, .ref b20, .ref b21, .ref b22, .ref b23, .ref b24, .ref b25, .ref b26])), (b0, .inr (5, [.int 1, .int 0, .ref b4, .ref b5, .ref b6, .ref b7, .ref b8, .ref b9, .int 0, .ref b10, .ref b11, .ref b12, .ref b13, .ref b14, .ref b15])), (b14, .inl (G.2 0, 242, .inl (upd (fun _ => 0) 0 0)))])) := by
  refine z_start (by decide +kernel) (Nat.le_of_ble_eq_true rfl) ?_
  intro p e s m below meth c A Z hr hnm hA hP hD hS ls hl
  have Z : zC p s m _ meth c prog_4_method_5_code 5 "TraceMachines$Machine" G := Z
  obtain ⟨hx, hb, hml, hown, hts, hK, hN, hlocks⟩ := id Z
  have hl : lv_has ls 5 [(0, .ref b0), (1, .ref b1), (2, .ref b2), (3, .ref b3), (4, .int 3)] := hl
  refine lv_aload_n hx hb d_Machine_fold_0 rfl (lv_at hl 0 rfl) ?_
  refine lv_iconst (v := 1) hx hb d_Machine_fold_1 (by decide) ?_
  refine va_put (D := G.1) (ci := 5) (v := .int 1) (ty := .boolean) (C := R_Machine) (T := F_Machine) (N := 15) hx hb hts i_Machine t_Machine t_Machine_ok n_Machine hown hK hP hD hS 0 rfl rfl 0 (by decide) (hts _ q164) (fun _ h9 => h9) rfl (by decide +kernel) rfl rfl (Nat.le_of_ble_eq_true rfl) d_Machine_fold_2 (fun H locs hP hD hS => ?_)
  have hP : va_P G.1 classes [(b0, .inr (5, [.int 1, .int 0, .ref b4, .ref b5, .ref b6, .ref b7, .ref b8, .ref b9, .int 0, .ref b10, .ref b11, .ref b12, .ref b13, .ref b14, .ref b15])), (b3, .inr (4, [.ref b16, .ref b17, .ref b18])), (b18, .inl (G.2 0, 512, .inl (fun _ => 0))), (b2, .inr (3, [.int 1, .int (-1), .int 0, .ref b19, .ref b20, .ref b21, .ref b22, .ref b23, .ref b24, .ref b25, .ref b26])), (b1, .inr (2, [.int 0, .int 1, .int 0, .ref b27, .ref b28, .ref b29])), (b9, .inl (G.2 1, 4, .inr (.inl (fun _ => 0)))), (b14, .inl (G.2 0, 242, .inl (fun _ => 0)))] H := hP
  have hD := z_tie hP hD rfl
  refine lv_aload_n hx hb d_Machine_fold_5 rfl (lv_at hl 3 rfl) ?_
  refine lv_aload_n hx hb d_Machine_fold_6 rfl (lv_at hl 1 rfl) ?_
  refine lv_aload_n hx hb d_Machine_fold_7 rfl (lv_at hl 2 rfl) ?_
  refine lv_iload hx hb d_Machine_fold_8 (lv_at hl 4 rfl) ?_
  refine z_callV (index := 55) (As := [.ref b1, .ref b2, .int 3]) (rest := []) (wr := [(b0, .inr (5, [.int 1, .int 0, .ref b4, .ref b5, .ref b6, .ref b7, .ref b8, .ref b9, .int 0, .ref b10, .ref b11, .ref b12, .ref b13, .ref b14, .ref b15])), (b9, .inl (G.2 1, 4, .inr (.inl (fun _ => 0)))), (b14, .inl (G.2 0, 242, .inl (fun _ => 0)))]) Z (c4_Follows_gather l G (b3) (b1) (b2) (b16) (b17) (b18) (b19) (b20) (b21) (b22) (b23) (b24) (b25) (b26) (b27) (b28) (b29)) hl.1 q601 q602 q603 q5 q604 ⟨by decide, by decide, by show _ = some 3; decide +kernel⟩ ⟨Nat.le_of_ble_eq_true rfl, Nat.le_of_ble_eq_true rfl⟩ ⟨Nat.le_of_ble_eq_true rfl, Nat.le_of_ble_eq_true rfl⟩ rfl (Nat.le_of_ble_eq_true rfl) d_Machine_fold_10 hP hD hS hA 1 4 rfl rfl rfl [1, 2, 3, 4] [0, 5, 6] rfl rfl rfl rfl (by decide) (fun v w1 H locs hw_1 hP hD hS => ?_)
  obtain ⟨rfl, rfl⟩ := hw_1
  have hP : va_P G.1 classes [(b0, .inr (5, [.int 1, .int 0, .ref b4, .ref b5, .ref b6, .ref b7, .ref b8, .ref b9, .int 0, .ref b10, .ref b11, .ref b12, .ref b13, .ref b14, .ref b15])), (b9, .inl (G.2 1, 4, .inr (.inl (fun _ => 0)))), (b14, .inl (G.2 0, 242, .inl (fun _ => 0))), (b3, .inr (4, [.ref b16, .ref b17, .ref b18])), (b2, .inr (3, [.int 1, .int (-1), .int 0, .ref b19, .ref b20, .ref b21, .ref b22, .ref b23, .ref b24, .ref b25, .ref b26])), (b1, .inr (2, [.int 0, .int 1, .int 0, .ref b27, .ref b28, .ref b29])), (b18, .inl (G.2 0, 512, .inl (fun _ => (-1))))] H := hP
  have hD := z_tie hP hD rfl
  refine W.widen (k := 0) (n := 0) (Nat.le_of_ble_eq_true rfl) (Nat.le_of_ble_eq_true rfl) ?_
  refine lv_aload_n hx hb d_Machine_fold_13 rfl (lv_at hl 0 rfl) ?_
  refine lv_aload_n hx hb d_Machine_fold_14 rfl (lv_at hl 2 rfl) ?_
  refine lv_aload_n hx hb d_Machine_fold_15 rfl (lv_at hl 3 rfl) ?_
  refine z_callV (index := 61) (As := [.ref b2, .ref b3]) (rest := []) (wr := [(b14, .inl (G.2 0, 242, .inl (fun _ => 0))), (b3, .inr (4, [.ref b16, .ref b17, .ref b18])), (b1, .inr (2, [.int 0, .int 1, .int 0, .ref b27, .ref b28, .ref b29])), (b18, .inl (G.2 0, 512, .inl (fun _ => (-1))))]) Z (c1_Machine_foldStates l G (b0) (b2) (b3) (b4) (b5) (b6) (b7) (b8) (b9) (b10) (b11) (b12) (b13) (b14) (b15) (b19) (b20) (b21) (b22) (b23) (b24) (b25) (b26)) hl.1 q618 q620 qs7 q6 q621 ⟨by decide, by decide, by show _ = some 2; decide +kernel⟩ ⟨Nat.le_of_ble_eq_true rfl, Nat.le_of_ble_eq_true rfl⟩ ⟨Nat.le_of_ble_eq_true rfl, Nat.le_of_ble_eq_true rfl⟩ rfl (Nat.le_of_ble_eq_true rfl) d_Machine_fold_16 hP hD hS hA 0 5 rfl rfl rfl [0, 1, 4] [2, 3, 5, 6] rfl rfl rfl rfl (by decide) (fun v w1 H locs hw_2 hP hD hS => ?_)
  obtain ⟨rfl, rfl⟩ := hw_2
  have hP : va_P G.1 classes [(b14, .inl (G.2 0, 242, .inl (fun _ => 0))), (b3, .inr (4, [.ref b16, .ref b17, .ref b18])), (b1, .inr (2, [.int 0, .int 1, .int 0, .ref b27, .ref b28, .ref b29])), (b18, .inl (G.2 0, 512, .inl (fun _ => (-1)))), (b0, .inr (5, [.int 1, .int 0, .ref b4, .ref b5, .ref b6, .ref b7, .ref b8, .ref b9, .int 0, .ref b10, .ref b11, .ref b12, .ref b13, .ref b14, .ref b15])), (b2, .inr (3, [.int 1, .int (-1), .int 0, .ref b19, .ref b20, .ref b21, .ref b22, .ref b23, .ref b24, .ref b25, .ref b26])), (b9, .inl (G.2 1, 4, .inr (.inl (fun _ => 0))))] H := hP
  have hD := z_tie hP hD rfl
  refine W.widen (k := 0) (n := 0) (Nat.le_of_ble_eq_true rfl) (Nat.le_of_ble_eq_true rfl) ?_
  refine lv_aload_n hx hb d_Machine_fold_19 rfl (lv_at hl 0 rfl) ?_
  refine lv_aload_n hx hb d_Machine_fold_20 rfl (lv_at hl 2 rfl) ?_
  refine z_callV (index := 65) (As := [.ref b2]) (rest := []) (wr := [(b14, .inl (G.2 0, 242, .inl (fun _ => 0))), (b3, .inr (4, [.ref b16, .ref b17, .ref b18])), (b1, .inr (2, [.int 0, .int 1, .int 0, .ref b27, .ref b28, .ref b29])), (b18, .inl (G.2 0, 512, .inl (fun _ => (-1)))), (b9, .inl (G.2 1, 4, .inr (.inl (fun _ => 0))))]) Z (c1_Machine_gatherKeys l G (b0) (b2) (b4) (b5) (b6) (b7) (b8) (b9) (b10) (b11) (b12) (b13) (b14) (b15) (b19) (b20) (b21) (b22) (b23) (b24) (b25) (b26)) hl.1 q637 q639 qs10 q6 q640 ⟨by decide, by decide, by show _ = some 1; decide +kernel⟩ ⟨Nat.le_of_ble_eq_true rfl, Nat.le_of_ble_eq_true rfl⟩ ⟨Nat.le_of_ble_eq_true rfl, Nat.le_of_ble_eq_true rfl⟩ rfl (Nat.le_of_ble_eq_true rfl) d_Machine_fold_21 hP hD hS hA 4 5 rfl rfl rfl [4, 5] [0, 1, 2, 3, 6] rfl rfl rfl rfl (by decide) (fun v w1 H locs hw_3 hP hD hS => ?_)
  obtain ⟨rfl, rfl⟩ := hw_3
  have hP : va_P G.1 classes [(b14, .inl (G.2 0, 242, .inl (fun _ => 0))), (b3, .inr (4, [.ref b16, .ref b17, .ref b18])), (b1, .inr (2, [.int 0, .int 1, .int 0, .ref b27, .ref b28, .ref b29])), (b18, .inl (G.2 0, 512, .inl (fun _ => (-1)))), (b9, .inl (G.2 1, 4, .inr (.inl (fun _ => 0)))), (b0, .inr (5, [.int 1, .int 0, .ref b4, .ref b5, .ref b6, .ref b7, .ref b8, .ref b9, .int 0, .ref b10, .ref b11, .ref b12, .ref b13, .ref b14, .ref b15])), (b2, .inr (3, [.int 1, .int (-1), .int 0, .ref b19, .ref b20, .ref b21, .ref b22, .ref b23, .ref b24, .ref b25, .ref b26]))] H := hP
  have hD := z_tie hP hD rfl
  refine W.widen (k := 0) (n := 0) (Nat.le_of_ble_eq_true rfl) (Nat.le_of_ble_eq_true rfl) ?_
  refine lv_aload_n hx hb d_Machine_fold_24 rfl (lv_at hl 0 rfl) ?_
  refine lv_aload_n hx hb d_Machine_fold_25 rfl (lv_at hl 2 rfl) ?_
  refine z_callV (index := 69) (As := [.ref b2]) (rest := []) (wr := [(b14, .inl (G.2 0, 242, .inl (fun _ => 0))), (b3, .inr (4, [.ref b16, .ref b17, .ref b18])), (b1, .inr (2, [.int 0, .int 1, .int 0, .ref b27, .ref b28, .ref b29])), (b18, .inl (G.2 0, 512, .inl (fun _ => (-1)))), (b9, .inl (G.2 1, 4, .inr (.inl (fun _ => 0)))), (b0, .inr (5, [.int 1, .int 0, .ref b4, .ref b5, .ref b6, .ref b7, .ref b8, .ref b9, .int 0, .ref b10, .ref b11, .ref b12, .ref b13, .ref b14, .ref b15]))]) Z (c1_Machine_gatherRanges l G (b0) (b2) (b19) (b20) (b21) (b22) (b23) (b24) (b25) (b26)) hl.1 q650 q652 qs13 q6 q653 ⟨by decide, by decide, by show _ = some 1; decide +kernel⟩ ⟨Nat.le_of_ble_eq_true rfl, Nat.le_of_ble_eq_true rfl⟩ ⟨Nat.le_of_ble_eq_true rfl, Nat.le_of_ble_eq_true rfl⟩ rfl (Nat.le_of_ble_eq_true rfl) d_Machine_fold_26 hP hD hS hA 5 5 rfl rfl rfl [6] [0, 1, 2, 3, 4, 5] rfl rfl rfl rfl (by decide) (fun v w1 H locs hw_4 hP hD hS => ?_)
  obtain ⟨rfl, rfl⟩ := hw_4
  have hP : va_P G.1 classes [(b14, .inl (G.2 0, 242, .inl (fun _ => 0))), (b3, .inr (4, [.ref b16, .ref b17, .ref b18])), (b1, .inr (2, [.int 0, .int 1, .int 0, .ref b27, .ref b28, .ref b29])), (b18, .inl (G.2 0, 512, .inl (fun _ => (-1)))), (b9, .inl (G.2 1, 4, .inr (.inl (fun _ => 0)))), (b0, .inr (5, [.int 1, .int 0, .ref b4, .ref b5, .ref b6, .ref b7, .ref b8, .ref b9, .int 0, .ref b10, .ref b11, .ref b12, .ref b13, .ref b14, .ref b15])), (b2, .inr (3, [.int 1, .int (-1), .int 0, .ref b19, .ref b20, .ref b21, .ref b22, .ref b23, .ref b24, .ref b25, .ref b26]))] H := hP
  have hD := z_tie hP hD rfl
  refine W.widen (k := 0) (n := 0) (Nat.le_of_ble_eq_true rfl) (Nat.le_of_ble_eq_true rfl) ?_
  refine lv_aload_n hx hb d_Machine_fold_29 rfl (lv_at hl 0 rfl) ?_
  refine z_callV (index := 72) (As := []) (rest := []) (wr := [(b3, .inr (4, [.ref b16, .ref b17, .ref b18])), (b1, .inr (2, [.int 0, .int 1, .int 0, .ref b27, .ref b28, .ref b29])), (b18, .inl (G.2 0, 512, .inl (fun _ => (-1)))), (b9, .inl (G.2 1, 4, .inr (.inl (fun _ => 0)))), (b2, .inr (3, [.int 1, .int (-1), .int 0, .ref b19, .ref b20, .ref b21, .ref b22, .ref b23, .ref b24, .ref b25, .ref b26]))]) Z (c1_Machine_gatherFirsts l G (b0) (b4) (b5) (b6) (b7) (b8) (b9) (b10) (b11) (b12) (b13) (b14) (b15)) hl.1 q656 q658 qs14 q6 q659 ⟨by decide, by decide, by show _ = some 0; decide +kernel⟩ ⟨Nat.le_of_ble_eq_true rfl, Nat.le_of_ble_eq_true rfl⟩ ⟨Nat.le_of_ble_eq_true rfl, Nat.le_of_ble_eq_true rfl⟩ rfl (Nat.le_of_ble_eq_true rfl) d_Machine_fold_30 hP hD hS hA 5 5 rfl rfl rfl [5, 0] [1, 2, 3, 4, 6] rfl rfl rfl rfl (by decide) (fun v w1 H locs hw_5 hP hD hS => ?_)
  obtain ⟨rfl, rfl⟩ := hw_5
  have hP : va_P G.1 classes [(b3, .inr (4, [.ref b16, .ref b17, .ref b18])), (b1, .inr (2, [.int 0, .int 1, .int 0, .ref b27, .ref b28, .ref b29])), (b18, .inl (G.2 0, 512, .inl (fun _ => (-1)))), (b9, .inl (G.2 1, 4, .inr (.inl (fun _ => 0)))), (b2, .inr (3, [.int 1, .int (-1), .int 0, .ref b19, .ref b20, .ref b21, .ref b22, .ref b23, .ref b24, .ref b25, .ref b26])), (b0, .inr (5, [.int 1, .int 0, .ref b4, .ref b5, .ref b6, .ref b7, .ref b8, .ref b9, .int 0, .ref b10, .ref b11, .ref b12, .ref b13, .ref b14, .ref b15])), (b14, .inl (G.2 0, 242, .inl (upd (fun _ => 0) 0 0)))] H := hP
  have hD := z_tie hP hD rfl
  refine W.widen (k := 0) (n := 0) (Nat.le_of_ble_eq_true rfl) (Nat.le_of_ble_eq_true rfl) ?_
  exact z_vret hx hb hr hlocks hP hD hS (Nat.le_of_ble_eq_true rfl) (Nat.le_of_ble_eq_true rfl) d_Machine_fold_33 ⟨rfl, rfl⟩
abbrev m_c4_X_machine : Room := { frames := 3, cells := 0, slots := 0, locals := 73 }
set_option maxHeartbeats 4000000 in
set_option maxRecDepth 100000 in
theorem c4_X_machine (l : Launch) (G : zG) (b0 : Nat) (b1 : Nat) (b2 : Nat) (b3 : Nat) (b4 : Nat) (b5 : Nat) (b6 : Nat) (b7 : Nat) (b8 : Nat) (b9 : Nat) (b10 : Nat) (b11 : Nat) (b12 : Nat) (b13 : Nat) (b14 : Nat) (b15 : Nat) (b16 : Nat) (b17 : Nat) (b18 : Nat) (b19 : Nat) (b20 : Nat) (b21 : Nat) (b22 : Nat) (b23 : Nat) (b24 : Nat) (b25 : Nat) (b26 : Nat) (b27 : Nat) (b28 : Nat) (b29 : Nat) (b30 : Nat) (b31 : Nat) (b32 : Nat) (b33 : Nat) (b34 : Nat) (b35 : Nat) (b36 : Nat) (b37 : Nat) (b38 : Nat) (b39 : Nat) (b40 : Nat) (b41 : Nat) (b42 : Nat) (b43 : Nat) (b44 : Nat) (b45 : Nat) (b46 : Nat) (b47 : Nat) (b48 : Nat)  : zM l G y_X_machine prog_1_method_37_code 3 (Option.some (Jvm.ClassFile.FieldType.object "TraceMachines$Machine")) m_c4_X_machine [.ref b0, .int 3] [(b0, .inr (0, [.ref b1, .ref b2, .ref b3, .ref b4, .int 0, .int 0, .ref b5, .ref b6, .ref b7, .ref b8, .ref b9, .ref b10, .ref b11, .ref b12, .ref b13, .ref b14, .ref b15, .ref b16, .ref b17, .ref b18])), (b8, .inl (G.2 6, 4, .inr (.inr (.inr (.inr (va_up (va_up (va_up (va_up (fun _ => none) 0 (some b19)) 1 (some b20)) 2 (some b21)) 3 (some b22))))))), (b6, .inr (3, [.int 0, .int 0, .int 0, .ref b23, .ref b24, .ref b25, .ref b26, .ref b27, .ref b28, .ref b29, .ref b30])), (b2, .inr (2, [.int 0, .int 1, .int 0, .ref b31, .ref b32, .ref b33])), (b22, .inr (5, [.int 0, .int 0, .ref b34, .ref b35, .ref b36, .ref b37, .ref b38, .ref b39, .int 0, .ref b40, .ref b41, .ref b42, .ref b43, .ref b44, .ref b45])), (b7, .inr (4, [.ref b46, .ref b47, .ref b48])), (b48, .inl (G.2 0, 512, .inl (fun _ => 0))), (b39, .inl (G.2 1, 4, .inr (.inl (fun _ => 0)))), (b44, .inl (G.2 0, 242, .inl (fun _ => 0)))] (fun v w => (v = some (.ref b22) ∧ w = [(b0, .inr (0, [.ref b1, .ref b2, .ref b3, .ref b4, .int 0, .int 0, .ref b5, .ref b6, .ref b7, .ref b8, .ref b9, .ref b10, .ref b11, .ref b12, .ref b13, .ref b14, .ref b15, .ref b16, .ref b17, .ref b18])), (b8, .inl (G.2 6, 4, .inr (.inr (.inr (.inr (va_up (va_up (va_up (va_up (fun _ => none) 0 (some b19)) 1 (some b20)) 2 (some b21)) 3 (some b22))))))), (b7, .inr (4, [.ref b46, .ref b47, .ref b48])), (b2, .inr (2, [.int 0, .int 1, .int 0, .ref b31, .ref b32, .ref b33])), (b48, .inl (G.2 0, 512, .inl (fun _ => (-1)))), (b39, .inl (G.2 1, 4, .inr (.inl (fun _ => 0)))), (b6, .inr (3, [.int 1, .int (-1), .int 0, .ref b23, .ref b24, .ref b25, .ref b26, .ref b27, .ref b28, .ref b29, .ref b30])), (b22, .inr (5, [.int 1, .int 0, .ref b34, .ref b35, .ref b36, .ref b37, .ref b38, .ref b39, .int 0, .ref b40, .ref b41, .ref b42, .ref b43, .ref b44, .ref b45])), (b44, .inl (G.2 0, 242, .inl (upd (fun _ => 0) 0 0)))])) := by
  refine z_start (by decide +kernel) (Nat.le_of_ble_eq_true rfl) ?_
  intro p e s m below meth c A Z hr hnm hA hP hD hS ls hl
  have Z : zC p s m _ meth c prog_1_method_37_code 3 "TraceMachines" G := Z
  obtain ⟨hx, hb, hml, hown, hts, hK, hN, hlocks⟩ := id Z
  have hl : lv_has ls 3 [(0, .ref b0), (1, .int 3)] := hl
  refine lv_aload_n hx hb d_X_machine_0 rfl (lv_at hl 0 rfl) ?_
  refine va_get (D := G.1) (ci := 0) (v := .ref b8) (C := R_X) (T := F_X) (N := 20) hx hb hts i_X hown hK hP 0 rfl rfl 9 (by decide) (hts _ q426) (fun _ h9 => h9) rfl d_X_machine_1 ?_
  refine lv_iload_n hx hb d_X_machine_4 rfl (lv_at hl 1 rfl) ?_
  refine va_aldq hx hb hK hP 1 6 rfl rfl (i := 3) (z_in rfl) d_X_machine_5 ?_
  refine z_topv (y := .ref b22) rfl ?_
  refine lv_astore_n (lv' := [(2, .ref b22), (0, .ref b0), (1, .int 3)]) hx hb d_X_machine_6 rfl hl (by decide) rfl (fun ls hl => ?_)
  refine lv_aload_n hx hb d_X_machine_7 rfl (lv_at hl 1 rfl) ?_
  refine va_get (D := G.1) (ci := 0) (v := .ref b6) (C := R_X) (T := F_X) (N := 20) hx hb hts i_X hown hK hP 0 rfl rfl 7 (by decide) (hts _ q424) (fun _ h9 => h9) rfl d_X_machine_8 ?_
  refine va_get (D := G.1) (ci := 3) (v := .int 0) (C := R_Tree) (T := F_Tree) (N := 11) hx hb hts i_Tree hown hK hP 2 rfl rfl 0 (by decide) (hts _ q96) (fun _ h9 => h9) rfl d_X_machine_11 ?_
  refine lv_if_ne (tgt := 29) hx hb d_X_machine_14 (by decide) (fun hc => absurd hc (by decide +kernel)) (fun _ => ?_)
  refine lv_aload_n hx hb d_X_machine_17 rfl (lv_at hl 1 rfl) ?_
  refine va_get (D := G.1) (ci := 0) (v := .ref b6) (C := R_X) (T := F_X) (N := 20) hx hb hts i_X hown hK hP 0 rfl rfl 7 (by decide) (hts _ q424) (fun _ h9 => h9) rfl d_X_machine_18 ?_
  refine lv_aload_n hx hb d_X_machine_21 rfl (lv_at hl 1 rfl) ?_
  refine va_get (D := G.1) (ci := 0) (v := .ref b2) (C := R_X) (T := F_X) (N := 20) hx hb hts i_X hown hK hP 0 rfl rfl 1 (by decide) (hts _ q418) (fun _ h9 => h9) rfl d_X_machine_22 ?_
  refine lv_iconst (v := (-1)) hx hb d_X_machine_25 (by decide) ?_
  refine z_callV (index := 360) (As := [.ref b2, .int (-1)]) (rest := []) (wr := [(b0, .inr (0, [.ref b1, .ref b2, .ref b3, .ref b4, .int 0, .int 0, .ref b5, .ref b6, .ref b7, .ref b8, .ref b9, .ref b10, .ref b11, .ref b12, .ref b13, .ref b14, .ref b15, .ref b16, .ref b17, .ref b18])), (b8, .inl (G.2 6, 4, .inr (.inr (.inr (.inr (va_up (va_up (va_up (va_up (fun _ => none) 0 (some b19)) 1 (some b20)) 2 (some b21)) 3 (some b22))))))), (b22, .inr (5, [.int 0, .int 0, .ref b34, .ref b35, .ref b36, .ref b37, .ref b38, .ref b39, .int 0, .ref b40, .ref b41, .ref b42, .ref b43, .ref b44, .ref b45])), (b7, .inr (4, [.ref b46, .ref b47, .ref b48])), (b48, .inl (G.2 0, 512, .inl (fun _ => 0))), (b39, .inl (G.2 1, 4, .inr (.inl (fun _ => 0)))), (b44, .inl (G.2 0, 242, .inl (fun _ => 0)))]) Z (c1_Tree_grow l G (b6) (b2) (b23) (b24) (b25) (b26) (b27) (b28) (b29) (b30) (b31) (b32) (b33)) hl.1 q567 q568 q569 q4 q570 ⟨by decide, by decide, by show _ = some 2; decide +kernel⟩ ⟨Nat.le_of_ble_eq_true rfl, Nat.le_of_ble_eq_true rfl⟩ ⟨Nat.le_of_ble_eq_true rfl, Nat.le_of_ble_eq_true rfl⟩ rfl (Nat.le_of_ble_eq_true rfl) d_X_machine_26 hP hD hS hA 2 3 rfl rfl rfl [2, 3] [0, 1, 4, 5, 6, 7, 8] rfl rfl rfl rfl (by decide) (fun v w1 H locs hw_1 hP hD hS => ?_)
  obtain ⟨rfl, rfl⟩ := hw_1
  have hP : va_P G.1 classes [(b0, .inr (0, [.ref b1, .ref b2, .ref b3, .ref b4, .int 0, .int 0, .ref b5, .ref b6, .ref b7, .ref b8, .ref b9, .ref b10, .ref b11, .ref b12, .ref b13, .ref b14, .ref b15, .ref b16, .ref b17, .ref b18])), (b8, .inl (G.2 6, 4, .inr (.inr (.inr (.inr (va_up (va_up (va_up (va_up (fun _ => none) 0 (some b19)) 1 (some b20)) 2 (some b21)) 3 (some b22))))))), (b22, .inr (5, [.int 0, .int 0, .ref b34, .ref b35, .ref b36, .ref b37, .ref b38, .ref b39, .int 0, .ref b40, .ref b41, .ref b42, .ref b43, .ref b44, .ref b45])), (b7, .inr (4, [.ref b46, .ref b47, .ref b48])), (b48, .inl (G.2 0, 512, .inl (fun _ => 0))), (b39, .inl (G.2 1, 4, .inr (.inl (fun _ => 0)))), (b44, .inl (G.2 0, 242, .inl (fun _ => 0))), (b6, .inr (3, [.int 1, .int (-1), .int 0, .ref b23, .ref b24, .ref b25, .ref b26, .ref b27, .ref b28, .ref b29, .ref b30])), (b2, .inr (2, [.int 0, .int 1, .int 0, .ref b31, .ref b32, .ref b33]))] H := hP
  have hD := z_tie hP hD rfl
  refine W.widen (k := 0) (n := 0) (Nat.le_of_ble_eq_true rfl) (Nat.le_of_ble_eq_true rfl) ?_
  refine lv_aload_n hx hb d_X_machine_29 rfl (lv_at hl 0 rfl) ?_
  refine va_get (D := G.1) (ci := 5) (v := .int 0) (C := R_Machine) (T := F_Machine) (N := 15) hx hb hts i_Machine hown hK hP 2 rfl rfl 0 (by decide) (hts _ q165) (fun _ h9 => h9) rfl d_X_machine_30 ?_
  refine lv_if_ne (tgt := 53) hx hb d_X_machine_33 (by decide) (fun hc => absurd hc (by decide +kernel)) (fun _ => ?_)
  refine lv_aload_n hx hb d_X_machine_36 rfl (lv_at hl 0 rfl) ?_
  refine lv_aload_n hx hb d_X_machine_37 rfl (lv_at hl 1 rfl) ?_
  refine va_get (D := G.1) (ci := 0) (v := .ref b2) (C := R_X) (T := F_X) (N := 20) hx hb hts i_X hown hK hP 0 rfl rfl 1 (by decide) (hts _ q418) (fun _ h9 => h9) rfl d_X_machine_38 ?_
  refine lv_aload_n hx hb d_X_machine_41 rfl (lv_at hl 1 rfl) ?_
  refine va_get (D := G.1) (ci := 0) (v := .ref b6) (C := R_X) (T := F_X) (N := 20) hx hb hts i_X hown hK hP 0 rfl rfl 7 (by decide) (hts _ q424) (fun _ h9 => h9) rfl d_X_machine_42 ?_
  refine lv_aload_n hx hb d_X_machine_45 rfl (lv_at hl 1 rfl) ?_
  refine va_get (D := G.1) (ci := 0) (v := .ref b7) (C := R_X) (T := F_X) (N := 20) hx hb hts i_X hown hK hP 0 rfl rfl 8 (by decide) (hts _ q425) (fun _ h9 => h9) rfl d_X_machine_46 ?_
  refine lv_iload_n hx hb d_X_machine_49 rfl (lv_at hl 2 rfl) ?_
  refine z_callV (index := 364) (As := [.ref b2, .ref b6, .ref b7, .int 3]) (rest := []) (wr := [(b0, .inr (0, [.ref b1, .ref b2, .ref b3, .ref b4, .int 0, .int 0, .ref b5, .ref b6, .ref b7, .ref b8, .ref b9, .ref b10, .ref b11, .ref b12, .ref b13, .ref b14, .ref b15, .ref b16, .ref b17, .ref b18])), (b8, .inl (G.2 6, 4, .inr (.inr (.inr (.inr (va_up (va_up (va_up (va_up (fun _ => none) 0 (some b19)) 1 (some b20)) 2 (some b21)) 3 (some b22)))))))]) Z (c4_Machine_fold l G (b22) (b2) (b6) (b7) (b34) (b35) (b36) (b37) (b38) (b39) (b40) (b41) (b42) (b43) (b44) (b45) (b46) (b47) (b48) (b23) (b24) (b25) (b26) (b27) (b28) (b29) (b30) (b31) (b32) (b33)) hl.1 q597 q598 q599 q6 q600 ⟨by decide, by decide, by show _ = some 4; decide +kernel⟩ ⟨Nat.le_of_ble_eq_true rfl, Nat.le_of_ble_eq_true rfl⟩ ⟨Nat.le_of_ble_eq_true rfl, Nat.le_of_ble_eq_true rfl⟩ rfl (Nat.le_of_ble_eq_true rfl) d_X_machine_50 hP hD hS hA 2 5 rfl rfl rfl [2, 3, 4, 7, 8, 5, 6] [0, 1] rfl rfl rfl rfl (by decide) (fun v w1 H locs hw_2 hP hD hS => ?_)
  obtain ⟨rfl, rfl⟩ := hw_2
  have hP : va_P G.1 classes [(b0, .inr (0, [.ref b1, .ref b2, .ref b3, .ref b4, .int 0, .int 0, .ref b5, .ref b6, .ref b7, .ref b8, .ref b9, .ref b10, .ref b11, .ref b12, .ref b13, .ref b14, .ref b15, .ref b16, .ref b17, .ref b18])), (b8, .inl (G.2 6, 4, .inr (.inr (.inr (.inr (va_up (va_up (va_up (va_up (fun _ => none) 0 (some b19)) 1 (some b20)) 2 (some b21)) 3 (some b22))))))), (b7, .inr (4, [.ref b46, .ref b47, .ref b48])), (b2, .inr (2, [.int 0, .int 1, .int 0, .ref b31, .ref b32, .ref b33])), (b48, .inl (G.2 0, 512, .inl (fun _ => (-1)))), (b39, .inl (G.2 1, 4, .inr (.inl (fun _ => 0)))), (b6, .inr (3, [.int 1, .int (-1), .int 0, .ref b23, .ref b24, .ref b25, .ref b26, .ref b27, .ref b28, .ref b29, .ref b30])), (b22, .inr (5, [.int 1, .int 0, .ref b34, .ref b35, .ref b36, .ref b37, .ref b38, .ref b39, .int 0, .ref b40, .ref b41, .ref b42, .ref b43, .ref b44, .ref b45])), (b44, .inl (G.2 0, 242, .inl (upd (fun _ => 0) 0 0)))] H := hP
  have hD := z_tie hP hD rfl
  refine W.widen (k := 0) (n := 0) (Nat.le_of_ble_eq_true rfl) (Nat.le_of_ble_eq_true rfl) ?_
  refine lv_aload_n hx hb d_X_machine_53 rfl (lv_at hl 0 rfl) ?_
  exact z_aret hx hb hr hlocks hP hD hS (Nat.le_of_ble_eq_true rfl) (Nat.le_of_ble_eq_true rfl) d_X_machine_54 ⟨rfl, rfl⟩
theorem d_X_fit_59 : decode prog_1_method_25_code 59 = .ok (.iconst (-1), 1) := by decide +kernel
theorem d_X_fit_60 : decode prog_1_method_25_code 60 = .ok (.ireturn, 1) := by decide +kernel
abbrev m_t_X_fit : Room := { frames := 4, cells := 0, slots := 0, locals := 95 }
set_option maxHeartbeats 4000000 in
set_option maxRecDepth 100000 in
theorem t_X_fit (l : Launch) (G : zG) (b0 : Nat) (p0 : Int32) (p1 : Int32) (b3 : Nat) (b4 : Nat) (b5 : Nat) (b6 : Nat) (b7 : Nat) (b8 : Nat) (b9 : Nat) (b10 : Nat) (b11 : Nat) (b12 : Nat) (b13 : Nat) (b14 : Nat) (b15 : Nat) (b16 : Nat) (b17 : Nat) (b18 : Nat) (b19 : Nat) (b20 : Nat) (b21 : Nat) (b22 : Nat) (b23 : Nat) (b24 : Nat) (b25 : Nat) (b26 : Nat) (b27 : Nat) (b28 : Nat) (b29 : Nat) (b30 : Nat) (b31 : Nat) (b32 : Nat) (b33 : Nat) (b34 : Nat) (b35 : Nat) (b36 : Nat) (b37 : Nat) (b38 : Nat) (b39 : Nat) (b40 : Nat) (b41 : Nat) (b42 : Nat) (b43 : Nat) (b44 : Nat) (b45 : Nat) (b46 : Nat) (b47 : Nat) (b48 : Nat) (b49 : Nat) (b50 : Nat) (b51 : Nat) (b52 : Nat) (b53 : Nat) (b54 : Nat) (b55 : Nat) (b56 : Nat) (b57 : Nat) (b58 : Nat) (b59 : Nat) (b60 : Nat) (b61 : Nat) (b62 : Nat) (b63 : Nat) (b64 : Nat) (b65 : Nat) (b66 : Nat) (b67 : Nat) (b68 : Nat) (b69 : Nat) (b70 : Nat) (b71 : Nat) (b72 : Nat) (b73 : Nat) (b74 : Nat) (b75 : Nat) (b76 : Nat) (b77 : Nat) (b78 : Nat) (b79 : Nat) (b80 : Nat) (b81 : Nat) (b82 : Nat) (b83 : Nat) (b84 : Nat) (b85 : Nat) (b86 : Nat)  : zM l G y_X_fit prog_1_method_25_code 3 (Option.some Jvm.ClassFile.FieldType.int) m_t_X_fit [.ref b0, .int p0, .int p1] [(b0, .inr (0, [.ref b3, .ref b4, .ref b5, .ref b6, .int 0, .int 0, .ref b7, .ref b8, .ref b9, .ref b10, .ref b11, .ref b12, .ref b13, .ref b14, .ref b15, .ref b16, .ref b17, .ref b18, .ref b19, .ref b20])), (b20, .inl (G.2 0, 8, .inl (fun _ => (-1)))), (b4, .inr (2, [.int 0, .int 1, .int 0, .ref b21, .ref b22, .ref b23])), (b10, .inl (G.2 6, 4, .inr (.inr (.inr (.inr (va_up (va_up (va_up (va_up (fun _ => none) 0 (some b24)) 1 (some b25)) 2 (some b26)) 3 (some b27))))))), (b8, .inr (3, [.int 0, .int 0, .int 0, .ref b28, .ref b29, .ref b30, .ref b31, .ref b32, .ref b33, .ref b34, .ref b35])), (b24, .inr (5, [.int 0, .int 0, .ref b36, .ref b37, .ref b38, .ref b39, .ref b40, .ref b41, .int 0, .ref b42, .ref b43, .ref b44, .ref b45, .ref b46, .ref b47])), (b9, .inr (4, [.ref b48, .ref b49, .ref b50])), (b50, .inl (G.2 0, 512, .inl (fun _ => 0))), (b41, .inl (G.2 1, 4, .inr (.inl (fun _ => 0)))), (b46, .inl (G.2 0, 242, .inl (fun _ => 0))), (b25, .inr (5, [.int 0, .int 0, .ref b51, .ref b52, .ref b53, .ref b54, .ref b55, .ref b56, .int 0, .ref b57, .ref b58, .ref b59, .ref b60, .ref b61, .ref b62])), (b56, .inl (G.2 1, 4, .inr (.inl (fun _ => 0)))), (b61, .inl (G.2 0, 242, .inl (fun _ => 0))), (b26, .inr (5, [.int 0, .int 0, .ref b63, .ref b64, .ref b65, .ref b66, .ref b67, .ref b68, .int 0, .ref b69, .ref b70, .ref b71, .ref b72, .ref b73, .ref b74])), (b68, .inl (G.2 1, 4, .inr (.inl (fun _ => 0)))), (b73, .inl (G.2 0, 242, .inl (fun _ => 0))), (b27, .inr (5, [.int 0, .int 0, .ref b75, .ref b76, .ref b77, .ref b78, .ref b79, .ref b80, .int 0, .ref b81, .ref b82, .ref b83, .ref b84, .ref b85, .ref b86])), (b80, .inl (G.2 1, 4, .inr (.inl (fun _ => 0)))), (b85, .inl (G.2 0, 242, .inl (fun _ => 0)))] (fun v _ => v = some (.int (a_fit p0 p1))) := by
  refine z_start (by decide +kernel) (Nat.le_of_ble_eq_true rfl) ?_
  intro p e s m below meth c A Z hr hnm hA hP hD hS ls hl
  have Z : zC p s m _ meth c prog_1_method_25_code 3 "TraceMachines" G := Z
  obtain ⟨hx, hb, hml, hown, hts, hK, hN, hlocks⟩ := id Z
  have hl : lv_has ls 3 [(0, .ref b0), (1, .int p0), (2, .int p1)] := hl
  refine lv_iload_n hx hb d_X_fit_0 rfl (lv_at hl 1 rfl) ?_
  refine z_callS (index := 153) (As := [.int p0]) (rest := []) (wr := [(b0, .inr (0, [.ref b3, .ref b4, .ref b5, .ref b6, .int 0, .int 0, .ref b7, .ref b8, .ref b9, .ref b10, .ref b11, .ref b12, .ref b13, .ref b14, .ref b15, .ref b16, .ref b17, .ref b18, .ref b19, .ref b20])), (b20, .inl (G.2 0, 8, .inl (fun _ => (-1)))), (b4, .inr (2, [.int 0, .int 1, .int 0, .ref b21, .ref b22, .ref b23])), (b10, .inl (G.2 6, 4, .inr (.inr (.inr (.inr (va_up (va_up (va_up (va_up (fun _ => none) 0 (some b24)) 1 (some b25)) 2 (some b26)) 3 (some b27))))))), (b8, .inr (3, [.int 0, .int 0, .int 0, .ref b28, .ref b29, .ref b30, .ref b31, .ref b32, .ref b33, .ref b34, .ref b35])), (b24, .inr (5, [.int 0, .int 0, .ref b36, .ref b37, .ref b38, .ref b39, .ref b40, .ref b41, .int 0, .ref b42, .ref b43, .ref b44, .ref b45, .ref b46, .ref b47])), (b9, .inr (4, [.ref b48, .ref b49, .ref b50])), (b50, .inl (G.2 0, 512, .inl (fun _ => 0))), (b41, .inl (G.2 1, 4, .inr (.inl (fun _ => 0)))), (b46, .inl (G.2 0, 242, .inl (fun _ => 0))), (b25, .inr (5, [.int 0, .int 0, .ref b51, .ref b52, .ref b53, .ref b54, .ref b55, .ref b56, .int 0, .ref b57, .ref b58, .ref b59, .ref b60, .ref b61, .ref b62])), (b56, .inl (G.2 1, 4, .inr (.inl (fun _ => 0)))), (b61, .inl (G.2 0, 242, .inl (fun _ => 0))), (b26, .inr (5, [.int 0, .int 0, .ref b63, .ref b64, .ref b65, .ref b66, .ref b67, .ref b68, .int 0, .ref b69, .ref b70, .ref b71, .ref b72, .ref b73, .ref b74])), (b68, .inl (G.2 1, 4, .inr (.inl (fun _ => 0)))), (b73, .inl (G.2 0, 242, .inl (fun _ => 0))), (b27, .inr (5, [.int 0, .int 0, .ref b75, .ref b76, .ref b77, .ref b78, .ref b79, .ref b80, .int 0, .ref b81, .ref b82, .ref b83, .ref b84, .ref b85, .ref b86])), (b80, .inl (G.2 1, 4, .inr (.inl (fun _ => 0)))), (b85, .inl (G.2 0, 242, .inl (fun _ => 0)))]) Z (c1_X_isDepth l G (p0)) hl.1 q548 q549 q1 q550 ⟨by decide, by decide, by show _ = some 1; decide +kernel⟩ ⟨Nat.le_of_ble_eq_true rfl, Nat.le_of_ble_eq_true rfl⟩ ⟨Nat.le_of_ble_eq_true rfl, Nat.le_of_ble_eq_true rfl⟩ rfl (Nat.le_of_ble_eq_true rfl) d_X_fit_1 hP hD hS hA [] [0, 1, 2, 3, 4, 5, 6, 7, 8, 9, 10, 11, 12, 13, 14, 15, 16, 17, 18] rfl rfl rfl rfl (by decide) (fun v w1 H locs hw_1 hP hD hS => ?_)
  rcases hw_1 with ⟨rfl, rfl, hq_2⟩ | ⟨rfl, rfl, hq_3, hq_4⟩ | ⟨rfl, rfl, hq_5, hq_6⟩
  · try simp only [Int32.toInt_toInt64, li_0] at hq_2
    have hP : va_P G.1 classes [(b0, .inr (0, [.ref b3, .ref b4, .ref b5, .ref b6, .int 0, .int 0, .ref b7, .ref b8, .ref b9, .ref b10, .ref b11, .ref b12, .ref b13, .ref b14, .ref b15, .ref b16, .ref b17, .ref b18, .ref b19, .ref b20])), (b20, .inl (G.2 0, 8, .inl (fun _ => (-1)))), (b4, .inr (2, [.int 0, .int 1, .int 0, .ref b21, .ref b22, .ref b23])), (b10, .inl (G.2 6, 4, .inr (.inr (.inr (.inr (va_up (va_up (va_up (va_up (fun _ => none) 0 (some b24)) 1 (some b25)) 2 (some b26)) 3 (some b27))))))), (b8, .inr (3, [.int 0, .int 0, .int 0, .ref b28, .ref b29, .ref b30, .ref b31, .ref b32, .ref b33, .ref b34, .ref b35])), (b24, .inr (5, [.int 0, .int 0, .ref b36, .ref b37, .ref b38, .ref b39, .ref b40, .ref b41, .int 0, .ref b42, .ref b43, .ref b44, .ref b45, .ref b46, .ref b47])), (b9, .inr (4, [.ref b48, .ref b49, .ref b50])), (b50, .inl (G.2 0, 512, .inl (fun _ => 0))), (b41, .inl (G.2 1, 4, .inr (.inl (fun _ => 0)))), (b46, .inl (G.2 0, 242, .inl (fun _ => 0))), (b25, .inr (5, [.int 0, .int 0, .ref b51, .ref b52, .ref b53, .ref b54, .ref b55, .ref b56, .int 0, .ref b57, .ref b58, .ref b59, .ref b60, .ref b61, .ref b62])), (b56, .inl (G.2 1, 4, .inr (.inl (fun _ => 0)))), (b61, .inl (G.2 0, 242, .inl (fun _ => 0))), (b26, .inr (5, [.int 0, .int 0, .ref b63, .ref b64, .ref b65, .ref b66, .ref b67, .ref b68, .int 0, .ref b69, .ref b70, .ref b71, .ref b72, .ref b73, .ref b74])), (b68, .inl (G.2 1, 4, .inr (.inl (fun _ => 0)))), (b73, .inl (G.2 0, 242, .inl (fun _ => 0))), (b27, .inr (5, [.int 0, .int 0, .ref b75, .ref b76, .ref b77, .ref b78, .ref b79, .ref b80, .int 0, .ref b81, .ref b82, .ref b83, .ref b84, .ref b85, .ref b86])), (b80, .inl (G.2 1, 4, .inr (.inl (fun _ => 0)))), (b85, .inl (G.2 0, 242, .inl (fun _ => 0)))] H := hP
    have hD := z_tie hP hD rfl
    refine W.widen (k := 0) (n := 0) (Nat.le_of_ble_eq_true rfl) (Nat.le_of_ble_eq_true rfl) ?_
    refine lv_if_ne (tgt := 9) hx hb d_X_fit_4 (by decide) (fun hc => absurd hc (by decide +kernel)) (fun _ => ?_)
    refine lv_iconst (v := (-1)) hx hb d_X_fit_7 (by decide) ?_
    exact z_iret hx hb hr hlocks hP hD hS (Nat.le_of_ble_eq_true rfl) (Nat.le_of_ble_eq_true rfl) d_X_fit_8 (congrArg (fun z => some (Value.int z)) (by unfold a_fit; (first | rfl | (repeat (first | rw [if_pos (by omega)] | rw [if_neg (by omega)])))))
  · try simp only [Int32.toInt_toInt64, li_0] at hq_3
    try simp only [Int32.toInt_toInt64, li_4] at hq_4
    have hP : va_P G.1 classes [(b0, .inr (0, [.ref b3, .ref b4, .ref b5, .ref b6, .int 0, .int 0, .ref b7, .ref b8, .ref b9, .ref b10, .ref b11, .ref b12, .ref b13, .ref b14, .ref b15, .ref b16, .ref b17, .ref b18, .ref b19, .ref b20])), (b20, .inl (G.2 0, 8, .inl (fun _ => (-1)))), (b4, .inr (2, [.int 0, .int 1, .int 0, .ref b21, .ref b22, .ref b23])), (b10, .inl (G.2 6, 4, .inr (.inr (.inr (.inr (va_up (va_up (va_up (va_up (fun _ => none) 0 (some b24)) 1 (some b25)) 2 (some b26)) 3 (some b27))))))), (b8, .inr (3, [.int 0, .int 0, .int 0, .ref b28, .ref b29, .ref b30, .ref b31, .ref b32, .ref b33, .ref b34, .ref b35])), (b24, .inr (5, [.int 0, .int 0, .ref b36, .ref b37, .ref b38, .ref b39, .ref b40, .ref b41, .int 0, .ref b42, .ref b43, .ref b44, .ref b45, .ref b46, .ref b47])), (b9, .inr (4, [.ref b48, .ref b49, .ref b50])), (b50, .inl (G.2 0, 512, .inl (fun _ => 0))), (b41, .inl (G.2 1, 4, .inr (.inl (fun _ => 0)))), (b46, .inl (G.2 0, 242, .inl (fun _ => 0))), (b25, .inr (5, [.int 0, .int 0, .ref b51, .ref b52, .ref b53, .ref b54, .ref b55, .ref b56, .int 0, .ref b57, .ref b58, .ref b59, .ref b60, .ref b61, .ref b62])), (b56, .inl (G.2 1, 4, .inr (.inl (fun _ => 0)))), (b61, .inl (G.2 0, 242, .inl (fun _ => 0))), (b26, .inr (5, [.int 0, .int 0, .ref b63, .ref b64, .ref b65, .ref b66, .ref b67, .ref b68, .int 0, .ref b69, .ref b70, .ref b71, .ref b72, .ref b73, .ref b74])), (b68, .inl (G.2 1, 4, .inr (.inl (fun _ => 0)))), (b73, .inl (G.2 0, 242, .inl (fun _ => 0))), (b27, .inr (5, [.int 0, .int 0, .ref b75, .ref b76, .ref b77, .ref b78, .ref b79, .ref b80, .int 0, .ref b81, .ref b82, .ref b83, .ref b84, .ref b85, .ref b86])), (b80, .inl (G.2 1, 4, .inr (.inl (fun _ => 0)))), (b85, .inl (G.2 0, 242, .inl (fun _ => 0)))] H := hP
    have hD := z_tie hP hD rfl
    refine W.widen (k := 0) (n := 0) (Nat.le_of_ble_eq_true rfl) (Nat.le_of_ble_eq_true rfl) ?_
    refine lv_if_ne (tgt := 9) hx hb d_X_fit_4 (by decide) (fun hc => absurd hc (by decide +kernel)) (fun _ => ?_)
    refine lv_iconst (v := (-1)) hx hb d_X_fit_7 (by decide) ?_
    exact z_iret hx hb hr hlocks hP hD hS (Nat.le_of_ble_eq_true rfl) (Nat.le_of_ble_eq_true rfl) d_X_fit_8 (congrArg (fun z => some (Value.int z)) (by unfold a_fit; (first | rfl | (repeat (first | rw [if_pos (by omega)] | rw [if_neg (by omega)])))))
  · try simp only [Int32.toInt_toInt64, li_0] at hq_5
    try simp only [Int32.toInt_toInt64, li_4] at hq_6
    have hP : va_P G.1 classes [(b0, .inr (0, [.ref b3, .ref b4, .ref b5, .ref b6, .int 0, .int 0, .ref b7, .ref b8, .ref b9, .ref b10, .ref b11, .ref b12, .ref b13, .ref b14, .ref b15, .ref b16, .ref b17, .ref b18, .ref b19, .ref b20])), (b20, .inl (G.2 0, 8, .inl (fun _ => (-1)))), (b4, .inr (2, [.int 0, .int 1, .int 0, .ref b21, .ref b22, .ref b23])), (b10, .inl (G.2 6, 4, .inr (.inr (.inr (.inr (va_up (va_up (va_up (va_up (fun _ => none) 0 (some b24)) 1 (some b25)) 2 (some b26)) 3 (some b27))))))), (b8, .inr (3, [.int 0, .int 0, .int 0, .ref b28, .ref b29, .ref b30, .ref b31, .ref b32, .ref b33, .ref b34, .ref b35])), (b24, .inr (5, [.int 0, .int 0, .ref b36, .ref b37, .ref b38, .ref b39, .ref b40, .ref b41, .int 0, .ref b42, .ref b43, .ref b44, .ref b45, .ref b46, .ref b47])), (b9, .inr (4, [.ref b48, .ref b49, .ref b50])), (b50, .inl (G.2 0, 512, .inl (fun _ => 0))), (b41, .inl (G.2 1, 4, .inr (.inl (fun _ => 0)))), (b46, .inl (G.2 0, 242, .inl (fun _ => 0))), (b25, .inr (5, [.int 0, .int 0, .ref b51, .ref b52, .ref b53, .ref b54, .ref b55, .ref b56, .int 0, .ref b57, .ref b58, .ref b59, .ref b60, .ref b61, .ref b62])), (b56, .inl (G.2 1, 4, .inr (.inl (fun _ => 0)))), (b61, .inl (G.2 0, 242, .inl (fun _ => 0))), (b26, .inr (5, [.int 0, .int 0, .ref b63, .ref b64, .ref b65, .ref b66, .ref b67, .ref b68, .int 0, .ref b69, .ref b70, .ref b71, .ref b72, .ref b73, .ref b74])), (b68, .inl (G.2 1, 4, .inr (.inl (fun _ => 0)))), (b73, .inl (G.2 0, 242, .inl (fun _ => 0))), (b27, .inr (5, [.int 0, .int 0, .ref b75, .ref b76, .ref b77, .ref b78, .ref b79, .ref b80, .int 0, .ref b81, .ref b82, .ref b83, .ref b84, .ref b85, .ref b86])), (b80, .inl (G.2 1, 4, .inr (.inl (fun _ => 0)))), (b85, .inl (G.2 0, 242, .inl (fun _ => 0)))] H := hP
    have hD := z_tie hP hD rfl
    refine W.widen (k := 0) (n := 0) (Nat.le_of_ble_eq_true rfl) (Nat.le_of_ble_eq_true rfl) ?_
    refine lv_if_ne (tgt := 9) hx hb d_X_fit_4 (by decide) (fun _ => ?_) (fun hc => absurd hc (by decide +kernel))
    refine lv_iload_n hx hb d_X_fit_9 rfl (lv_at hl 2 rfl) ?_
    by_cases hs_7 : p1 = 0
    · subst hs_7
      refine lv_tableIn (off := 26) (tgt := 36) hx hb d_X_fit_10 (by decide +kernel) (by decide +kernel) rfl (by decide) ?_
      by_cases hs_8 : p0 = 0
      · subst hs_8
        refine lv_aload_n hx hb d_X_fit_36 rfl (lv_at hl 0 rfl) ?_
        refine lv_iload_n hx hb d_X_fit_37 rfl (lv_at hl 1 rfl) ?_
        refine lv_iconst (v := 0) hx hb d_X_fit_38 (by decide) ?_
        refine z_callV (index := 344) (As := [.int 0, .int 0]) (rest := []) (wr := [(b10, .inl (G.2 6, 4, .inr (.inr (.inr (.inr (va_up (va_up (va_up (va_up (fun _ => none) 0 (some b24)) 1 (some b25)) 2 (some b26)) 3 (some b27))))))), (b8, .inr (3, [.int 0, .int 0, .int 0, .ref b28, .ref b29, .ref b30, .ref b31, .ref b32, .ref b33, .ref b34, .ref b35])), (b24, .inr (5, [.int 0, .int 0, .ref b36, .ref b37, .ref b38, .ref b39, .ref b40, .ref b41, .int 0, .ref b42, .ref b43, .ref b44, .ref b45, .ref b46, .ref b47])), (b9, .inr (4, [.ref b48, .ref b49, .ref b50])), (b50, .inl (G.2 0, 512, .inl (fun _ => 0))), (b41, .inl (G.2 1, 4, .inr (.inl (fun _ => 0)))), (b46, .inl (G.2 0, 242, .inl (fun _ => 0))), (b25, .inr (5, [.int 0, .int 0, .ref b51, .ref b52, .ref b53, .ref b54, .ref b55, .ref b56, .int 0, .ref b57, .ref b58, .ref b59, .ref b60, .ref b61, .ref b62])), (b56, .inl (G.2 1, 4, .inr (.inl (fun _ => 0)))), (b61, .inl (G.2 0, 242, .inl (fun _ => 0))), (b26, .inr (5, [.int 0, .int 0, .ref b63, .ref b64, .ref b65, .ref b66, .ref b67, .ref b68, .int 0, .ref b69, .ref b70, .ref b71, .ref b72, .ref b73, .ref b74])), (b68, .inl (G.2 1, 4, .inr (.inl (fun _ => 0)))), (b73, .inl (G.2 0, 242, .inl (fun _ => 0))), (b27, .inr (5, [.int 0, .int 0, .ref b75, .ref b76, .ref b77, .ref b78, .ref b79, .ref b80, .int 0, .ref b81, .ref b82, .ref b83, .ref b84, .ref b85, .ref b86])), (b80, .inl (G.2 1, 4, .inr (.inl (fun _ => 0)))), (b85, .inl (G.2 0, 242, .inl (fun _ => 0)))]) Z (c1_X_fitting l G (b0) (b3) (b4) (b5) (b6) (b7) (b8) (b9) (b10) (b11) (b12) (b13) (b14) (b15) (b16) (b17) (b18) (b19) (b20) (b21) (b22) (b23)) hl.1 q998 q1000 qs42 q1 q1001 ⟨by decide, by decide, by show _ = some 2; decide +kernel⟩ ⟨Nat.le_of_ble_eq_true rfl, Nat.le_of_ble_eq_true rfl⟩ ⟨Nat.le_of_ble_eq_true rfl, Nat.le_of_ble_eq_true rfl⟩ rfl (Nat.le_of_ble_eq_true rfl) d_X_fit_39 hP hD hS hA 0 0 rfl rfl rfl [0, 1, 2] [3, 4, 5, 6, 7, 8, 9, 10, 11, 12, 13, 14, 15, 16, 17, 18] rfl rfl rfl rfl (by decide) (fun v w1 H locs hw_9 hP hD hS => ?_)
        obtain ⟨rfl, rfl⟩ := hw_9
        have hP : va_P G.1 classes [(b10, .inl (G.2 6, 4, .inr (.inr (.inr (.inr (va_up (va_up (va_up (va_up (fun _ => none) 0 (some b24)) 1 (some b25)) 2 (some b26)) 3 (some b27))))))), (b8, .inr (3, [.int 0, .int 0, .int 0, .ref b28, .ref b29, .ref b30, .ref b31, .ref b32, .ref b33, .ref b34, .ref b35])), (b24, .inr (5, [.int 0, .int 0, .ref b36, .ref b37, .ref b38, .ref b39, .ref b40, .ref b41, .int 0, .ref b42, .ref b43, .ref b44, .ref b45, .ref b46, .ref b47])), (b9, .inr (4, [.ref b48, .ref b49, .ref b50])), (b50, .inl (G.2 0, 512, .inl (fun _ => 0))), (b41, .inl (G.2 1, 4, .inr (.inl (fun _ => 0)))), (b46, .inl (G.2 0, 242, .inl (fun _ => 0))), (b25, .inr (5, [.int 0, .int 0, .ref b51, .ref b52, .ref b53, .ref b54, .ref b55, .ref b56, .int 0, .ref b57, .ref b58, .ref b59, .ref b60, .ref b61, .ref b62])), (b56, .inl (G.2 1, 4, .inr (.inl (fun _ => 0)))), (b61, .inl (G.2 0, 242, .inl (fun _ => 0))), (b26, .inr (5, [.int 0, .int 0, .ref b63, .ref b64, .ref b65, .ref b66, .ref b67, .ref b68, .int 0, .ref b69, .ref b70, .ref b71, .ref b72, .ref b73, .ref b74])), (b68, .inl (G.2 1, 4, .inr (.inl (fun _ => 0)))), (b73, .inl (G.2 0, 242, .inl (fun _ => 0))), (b27, .inr (5, [.int 0, .int 0, .ref b75, .ref b76, .ref b77, .ref b78, .ref b79, .ref b80, .int 0, .ref b81, .ref b82, .ref b83, .ref b84, .ref b85, .ref b86])), (b80, .inl (G.2 1, 4, .inr (.inl (fun _ => 0)))), (b85, .inl (G.2 0, 242, .inl (fun _ => 0))), (b0, .inr (0, [.ref b3, .ref b4, .ref b5, .ref b6, .int 0, .int 0, .ref b7, .ref b8, .ref b9, .ref b10, .ref b11, .ref b12, .ref b13, .ref b14, .ref b15, .ref b16, .ref b17, .ref b18, .ref b19, .ref b20])), (b20, .inl (G.2 0, 8, .inl (upd (upd (fun _ => (-1)) 0 0) 1 0))), (b4, .inr (2, [.int 0, .int 1, .int 0, .ref b21, .ref b22, .ref b23]))] H := hP
        have hD := z_tie hP hD rfl
        refine W.widen (k := 0) (n := 0) (Nat.le_of_ble_eq_true rfl) (Nat.le_of_ble_eq_true rfl) ?_
        exact z_iret hx hb hr hlocks hP hD hS (Nat.le_of_ble_eq_true rfl) (Nat.le_of_ble_eq_true rfl) d_X_fit_42 (congrArg (fun z => some (Value.int z)) (by first | decide +kernel | (simp only [a_fit, li_0, li_0]; (first | rfl | (repeat (first | rw [if_pos (by omega)] | rw [if_neg (by omega)]))))))
      simp only [fa_lt, fa_le, fa_eq, Int32.toInt_toInt64, li_0] at hs_8
      by_cases hs_10 : p0 = 1
      · subst hs_10
        refine lv_aload_n hx hb d_X_fit_36 rfl (lv_at hl 0 rfl) ?_
        refine lv_iload_n hx hb d_X_fit_37 rfl (lv_at hl 1 rfl) ?_
        refine lv_iconst (v := 0) hx hb d_X_fit_38 (by decide) ?_
        refine z_callV (index := 344) (As := [.int 1, .int 0]) (rest := []) (wr := [(b10, .inl (G.2 6, 4, .inr (.inr (.inr (.inr (va_up (va_up (va_up (va_up (fun _ => none) 0 (some b24)) 1 (some b25)) 2 (some b26)) 3 (some b27))))))), (b8, .inr (3, [.int 0, .int 0, .int 0, .ref b28, .ref b29, .ref b30, .ref b31, .ref b32, .ref b33, .ref b34, .ref b35])), (b24, .inr (5, [.int 0, .int 0, .ref b36, .ref b37, .ref b38, .ref b39, .ref b40, .ref b41, .int 0, .ref b42, .ref b43, .ref b44, .ref b45, .ref b46, .ref b47])), (b9, .inr (4, [.ref b48, .ref b49, .ref b50])), (b50, .inl (G.2 0, 512, .inl (fun _ => 0))), (b41, .inl (G.2 1, 4, .inr (.inl (fun _ => 0)))), (b46, .inl (G.2 0, 242, .inl (fun _ => 0))), (b25, .inr (5, [.int 0, .int 0, .ref b51, .ref b52, .ref b53, .ref b54, .ref b55, .ref b56, .int 0, .ref b57, .ref b58, .ref b59, .ref b60, .ref b61, .ref b62])), (b56, .inl (G.2 1, 4, .inr (.inl (fun _ => 0)))), (b61, .inl (G.2 0, 242, .inl (fun _ => 0))), (b26, .inr (5, [.int 0, .int 0, .ref b63, .ref b64, .ref b65, .ref b66, .ref b67, .ref b68, .int 0, .ref b69, .ref b70, .ref b71, .ref b72, .ref b73, .ref b74])), (b68, .inl (G.2 1, 4, .inr (.inl (fun _ => 0)))), (b73, .inl (G.2 0, 242, .inl (fun _ => 0))), (b27, .inr (5, [.int 0, .int 0, .ref b75, .ref b76, .ref b77, .ref b78, .ref b79, .ref b80, .int 0, .ref b81, .ref b82, .ref b83, .ref b84, .ref b85, .ref b86])), (b80, .inl (G.2 1, 4, .inr (.inl (fun _ => 0)))), (b85, .inl (G.2 0, 242, .inl (fun _ => 0)))]) Z (c2_X_fitting l G (b0) (b3) (b4) (b5) (b6) (b7) (b8) (b9) (b10) (b11) (b12) (b13) (b14) (b15) (b16) (b17) (b18) (b19) (b20) (b21) (b22) (b23)) hl.1 q998 q1000 qs42 q1 q1001 ⟨by decide, by decide, by show _ = some 2; decide +kernel⟩ ⟨Nat.le_of_ble_eq_true rfl, Nat.le_of_ble_eq_true rfl⟩ ⟨Nat.le_of_ble_eq_true rfl, Nat.le_of_ble_eq_true rfl⟩ rfl (Nat.le_of_ble_eq_true rfl) d_X_fit_39 hP hD hS hA 0 0 rfl rfl rfl [0, 1, 2] [3, 4, 5, 6, 7, 8, 9, 10, 11, 12, 13, 14, 15, 16, 17, 18] rfl rfl rfl rfl (by decide) (fun v w1 H locs hw_11 hP hD hS => ?_)
        obtain ⟨rfl, rfl⟩ := hw_11
        have hP : va_P G.1 classes [(b10, .inl (G.2 6, 4, .inr (.inr (.inr (.inr (va_up (va_up (va_up (va_up (fun _ => none) 0 (some b24)) 1 (some b25)) 2 (some b26)) 3 (some b27))))))), (b8, .inr (3, [.int 0, .int 0, .int 0, .ref b28, .ref b29, .ref b30, .ref b31, .ref b32, .ref b33, .ref b34, .ref b35])), (b24, .inr (5, [.int 0, .int 0, .ref b36, .ref b37, .ref b38, .ref b39, .ref b40, .ref b41, .int 0, .ref b42, .ref b43, .ref b44, .ref b45, .ref b46, .ref b47])), (b9, .inr (4, [.ref b48, .ref b49, .ref b50])), (b50, .inl (G.2 0, 512, .inl (fun _ => 0))), (b41, .inl (G.2 1, 4, .inr (.inl (fun _ => 0)))), (b46, .inl (G.2 0, 242, .inl (fun _ => 0))), (b25, .inr (5, [.int 0, .int 0, .ref b51, .ref b52, .ref b53, .ref b54, .ref b55, .ref b56, .int 0, .ref b57, .ref b58, .ref b59, .ref b60, .ref b61, .ref b62])), (b56, .inl (G.2 1, 4, .inr (.inl (fun _ => 0)))), (b61, .inl (G.2 0, 242, .inl (fun _ => 0))), (b26, .inr (5, [.int 0, .int 0, .ref b63, .ref b64, .ref b65, .ref b66, .ref b67, .ref b68, .int 0, .ref b69, .ref b70, .ref b71, .ref b72, .ref b73, .ref b74])), (b68, .inl (G.2 1, 4, .inr (.inl (fun _ => 0)))), (b73, .inl (G.2 0, 242, .inl (fun _ => 0))), (b27, .inr (5, [.int 0, .int 0, .ref b75, .ref b76, .ref b77, .ref b78, .ref b79, .ref b80, .int 0, .ref b81, .ref b82, .ref b83, .ref b84, .ref b85, .ref b86])), (b80, .inl (G.2 1, 4, .inr (.inl (fun _ => 0)))), (b85, .inl (G.2 0, 242, .inl (fun _ => 0))), (b0, .inr (0, [.ref b3, .ref b4, .ref b5, .ref b6, .int 0, .int 0, .ref b7, .ref b8, .ref b9, .ref b10, .ref b11, .ref b12, .ref b13, .ref b14, .ref b15, .ref b16, .ref b17, .ref b18, .ref b19, .ref b20])), (b20, .inl (G.2 0, 8, .inl (upd (upd (fun _ => (-1)) 2 0) 3 0))), (b4, .inr (2, [.int 0, .int 1, .int 0, .ref b21, .ref b22, .ref b23]))] H := hP
        have hD := z_tie hP hD rfl
        refine W.widen (k := 0) (n := 0) (Nat.le_of_ble_eq_true rfl) (Nat.le_of_ble_eq_true rfl) ?_
        exact z_iret hx hb hr hlocks hP hD hS (Nat.le_of_ble_eq_true rfl) (Nat.le_of_ble_eq_true rfl) d_X_fit_42 (congrArg (fun z => some (Value.int z)) (by first | decide +kernel | (simp only [a_fit, li_0, li_1]; (first | rfl | (repeat (first | rw [if_pos (by omega)] | rw [if_neg (by omega)]))))))
      simp only [fa_lt, fa_le, fa_eq, Int32.toInt_toInt64, li_1] at hs_10
      by_cases hs_12 : p0 = 2
      · subst hs_12
        refine lv_aload_n hx hb d_X_fit_36 rfl (lv_at hl 0 rfl) ?_
        refine lv_iload_n hx hb d_X_fit_37 rfl (lv_at hl 1 rfl) ?_
        refine lv_iconst (v := 0) hx hb d_X_fit_38 (by decide) ?_
        refine z_callV (index := 344) (As := [.int 2, .int 0]) (rest := []) (wr := [(b10, .inl (G.2 6, 4, .inr (.inr (.inr (.inr (va_up (va_up (va_up (va_up (fun _ => none) 0 (some b24)) 1 (some b25)) 2 (some b26)) 3 (some b27))))))), (b8, .inr (3, [.int 0, .int 0, .int 0, .ref b28, .ref b29, .ref b30, .ref b31, .ref b32, .ref b33, .ref b34, .ref b35])), (b24, .inr (5, [.int 0, .int 0, .ref b36, .ref b37, .ref b38, .ref b39, .ref b40, .ref b41, .int 0, .ref b42, .ref b43, .ref b44, .ref b45, .ref b46, .ref b47])), (b9, .inr (4, [.ref b48, .ref b49, .ref b50])), (b50, .inl (G.2 0, 512, .inl (fun _ => 0))), (b41, .inl (G.2 1, 4, .inr (.inl (fun _ => 0)))), (b46, .inl (G.2 0, 242, .inl (fun _ => 0))), (b25, .inr (5, [.int 0, .int 0, .ref b51, .ref b52, .ref b53, .ref b54, .ref b55, .ref b56, .int 0, .ref b57, .ref b58, .ref b59, .ref b60, .ref b61, .ref b62])), (b56, .inl (G.2 1, 4, .inr (.inl (fun _ => 0)))), (b61, .inl (G.2 0, 242, .inl (fun _ => 0))), (b26, .inr (5, [.int 0, .int 0, .ref b63, .ref b64, .ref b65, .ref b66, .ref b67, .ref b68, .int 0, .ref b69, .ref b70, .ref b71, .ref b72, .ref b73, .ref b74])), (b68, .inl (G.2 1, 4, .inr (.inl (fun _ => 0)))), (b73, .inl (G.2 0, 242, .inl (fun _ => 0))), (b27, .inr (5, [.int 0, .int 0, .ref b75, .ref b76, .ref b77, .ref b78, .ref b79, .ref b80, .int 0, .ref b81, .ref b82, .ref b83, .ref b84, .ref b85, .ref b86])), (b80, .inl (G.2 1, 4, .inr (.inl (fun _ => 0)))), (b85, .inl (G.2 0, 242, .inl (fun _ => 0)))]) Z (c3_X_fitting l G (b0) (b3) (b4) (b5) (b6) (b7) (b8) (b9) (b10) (b11) (b12) (b13) (b14) (b15) (b16) (b17) (b18) (b19) (b20) (b21) (b22) (b23)) hl.1 q998 q1000 qs42 q1 q1001 ⟨by decide, by decide, by show _ = some 2; decide +kernel⟩ ⟨Nat.le_of_ble_eq_true rfl, Nat.le_of_ble_eq_true rfl⟩ ⟨Nat.le_of_ble_eq_true rfl, Nat.le_of_ble_eq_true rfl⟩ rfl (Nat.le_of_ble_eq_true rfl) d_X_fit_39 hP hD hS hA 0 0 rfl rfl rfl [0, 1, 2] [3, 4, 5, 6, 7, 8, 9, 10, 11, 12, 13, 14, 15, 16, 17, 18] rfl rfl rfl rfl (by decide) (fun v w1 H locs hw_13 hP hD hS => ?_)
        obtain ⟨rfl, rfl⟩ := hw_13
        have hP : va_P G.1 classes [(b10, .inl (G.2 6, 4, .inr (.inr (.inr (.inr (va_up (va_up (va_up (va_up (fun _ => none) 0 (some b24)) 1 (some b25)) 2 (some b26)) 3 (some b27))))))), (b8, .inr (3, [.int 0, .int 0, .int 0, .ref b28, .ref b29, .ref b30, .ref b31, .ref b32, .ref b33, .ref b34, .ref b35])), (b24, .inr (5, [.int 0, .int 0, .ref b36, .ref b37, .ref b38, .ref b39, .ref b40, .ref b41, .int 0, .ref b42, .ref b43, .ref b44, .ref b45, .ref b46, .ref b47])), (b9, .inr (4, [.ref b48, .ref b49, .ref b50])), (b50, .inl (G.2 0, 512, .inl (fun _ => 0))), (b41, .inl (G.2 1, 4, .inr (.inl (fun _ => 0)))), (b46, .inl (G.2 0, 242, .inl (fun _ => 0))), (b25, .inr (5, [.int 0, .int 0, .ref b51, .ref b52, .ref b53, .ref b54, .ref b55, .ref b56, .int 0, .ref b57, .ref b58, .ref b59, .ref b60, .ref b61, .ref b62])), (b56, .inl (G.2 1, 4, .inr (.inl (fun _ => 0)))), (b61, .inl (G.2 0, 242, .inl (fun _ => 0))), (b26, .inr (5, [.int 0, .int 0, .ref b63, .ref b64, .ref b65, .ref b66, .ref b67, .ref b68, .int 0, .ref b69, .ref b70, .ref b71, .ref b72, .ref b73, .ref b74])), (b68, .inl (G.2 1, 4, .inr (.inl (fun _ => 0)))), (b73, .inl (G.2 0, 242, .inl (fun _ => 0))), (b27, .inr (5, [.int 0, .int 0, .ref b75, .ref b76, .ref b77, .ref b78, .ref b79, .ref b80, .int 0, .ref b81, .ref b82, .ref b83, .ref b84, .ref b85, .ref b86])), (b80, .inl (G.2 1, 4, .inr (.inl (fun _ => 0)))), (b85, .inl (G.2 0, 242, .inl (fun _ => 0))), (b0, .inr (0, [.ref b3, .ref b4, .ref b5, .ref b6, .int 0, .int 0, .ref b7, .ref b8, .ref b9, .ref b10, .ref b11, .ref b12, .ref b13, .ref b14, .ref b15, .ref b16, .ref b17, .ref b18, .ref b19, .ref b20])), (b20, .inl (G.2 0, 8, .inl (upd (upd (fun _ => (-1)) 4 0) 5 0))), (b4, .inr (2, [.int 0, .int 1, .int 0, .ref b21, .ref b22, .ref b23]))] H := hP
        have hD := z_tie hP hD rfl
        refine W.widen (k := 0) (n := 0) (Nat.le_of_ble_eq_true rfl) (Nat.le_of_ble_eq_true rfl) ?_
        exact z_iret hx hb hr hlocks hP hD hS (Nat.le_of_ble_eq_true rfl) (Nat.le_of_ble_eq_true rfl) d_X_fit_42 (congrArg (fun z => some (Value.int z)) (by first | decide +kernel | (simp only [a_fit, li_0, li_2]; (first | rfl | (repeat (first | rw [if_pos (by omega)] | rw [if_neg (by omega)]))))))
      simp only [fa_lt, fa_le, fa_eq, Int32.toInt_toInt64, li_2] at hs_12
      obtain rfl : p0 = 3 := by simp only [fa_lt, fa_le, fa_eq, Int32.toInt_toInt64, li_3]; omega
      refine lv_aload_n hx hb d_X_fit_36 rfl (lv_at hl 0 rfl) ?_
      refine lv_iload_n hx hb d_X_fit_37 rfl (lv_at hl 1 rfl) ?_
      refine lv_iconst (v := 0) hx hb d_X_fit_38 (by decide) ?_
      refine z_callV (index := 344) (As := [.int 3, .int 0]) (rest := []) (wr := [(b10, .inl (G.2 6, 4, .inr (.inr (.inr (.inr (va_up (va_up (va_up (va_up (fun _ => none) 0 (some b24)) 1 (some b25)) 2 (some b26)) 3 (some b27))))))), (b8, .inr (3, [.int 0, .int 0, .int 0, .ref b28, .ref b29, .ref b30, .ref b31, .ref b32, .ref b33, .ref b34, .ref b35])), (b24, .inr (5, [.int 0, .int 0, .ref b36, .ref b37, .ref b38, .ref b39, .ref b40, .ref b41, .int 0, .ref b42, .ref b43, .ref b44, .ref b45, .ref b46, .ref b47])), (b9, .inr (4, [.ref b48, .ref b49, .ref b50])), (b50, .inl (G.2 0, 512, .inl (fun _ => 0))), (b41, .inl (G.2 1, 4, .inr (.inl (fun _ => 0)))), (b46, .inl (G.2 0, 242, .inl (fun _ => 0))), (b25, .inr (5, [.int 0, .int 0, .ref b51, .ref b52, .ref b53, .ref b54, .ref b55, .ref b56, .int 0, .ref b57, .ref b58, .ref b59, .ref b60, .ref b61, .ref b62])), (b56, .inl (G.2 1, 4, .inr (.inl (fun _ => 0)))), (b61, .inl (G.2 0, 242, .inl (fun _ => 0))), (b26, .inr (5, [.int 0, .int 0, .ref b63, .ref b64, .ref b65, .ref b66, .ref b67, .ref b68, .int 0, .ref b69, .ref b70, .ref b71, .ref b72, .ref b73, .ref b74])), (b68, .inl (G.2 1, 4, .inr (.inl (fun _ => 0)))), (b73, .inl (G.2 0, 242, .inl (fun _ => 0))), (b27, .inr (5, [.int 0, .int 0, .ref b75, .ref b76, .ref b77, .ref b78, .ref b79, .ref b80, .int 0, .ref b81, .ref b82, .ref b83, .ref b84, .ref b85, .ref b86])), (b80, .inl (G.2 1, 4, .inr (.inl (fun _ => 0)))), (b85, .inl (G.2 0, 242, .inl (fun _ => 0)))]) Z (c4_X_fitting l G (b0) (b3) (b4) (b5) (b6) (b7) (b8) (b9) (b10) (b11) (b12) (b13) (b14) (b15) (b16) (b17) (b18) (b19) (b20) (b21) (b22) (b23)) hl.1 q998 q1000 qs42 q1 q1001 ⟨by decide, by decide, by show _ = some 2; decide +kernel⟩ ⟨Nat.le_of_ble_eq_true rfl, Nat.le_of_ble_eq_true rfl⟩ ⟨Nat.le_of_ble_eq_true rfl, Nat.le_of_ble_eq_true rfl⟩ rfl (Nat.le_of_ble_eq_true rfl) d_X_fit_39 hP hD hS hA 0 0 rfl rfl rfl [0, 1, 2] [3, 4, 5, 6, 7, 8, 9, 10, 11, 12, 13, 14, 15, 16, 17, 18] rfl rfl rfl rfl (by decide) (fun v w1 H locs hw_14 hP hD hS => ?_)
      obtain ⟨rfl, rfl⟩ := hw_14
      have hP : va_P G.1 classes [(b10, .inl (G.2 6, 4, .inr (.inr (.inr (.inr (va_up (va_up (va_up (va_up (fun _ => none) 0 (some b24)) 1 (some b25)) 2 (some b26)) 3 (some b27))))))), (b8, .inr (3, [.int 0, .int 0, .int 0, .ref b28, .ref b29, .ref b30, .ref b31, .ref b32, .ref b33, .ref b34, .ref b35])), (b24, .inr (5, [.int 0, .int 0, .ref b36, .ref b37, .ref b38, .ref b39, .ref b40, .ref b41, .int 0, .ref b42, .ref b43, .ref b44, .ref b45, .ref b46, .ref b47])), (b9, .inr (4, [.ref b48, .ref b49, .ref b50])), (b50, .inl (G.2 0, 512, .inl (fun _ => 0))), (b41, .inl (G.2 1, 4, .inr (.inl (fun _ => 0)))), (b46, .inl (G.2 0, 242, .inl (fun _ => 0))), (b25, .inr (5, [.int 0, .int 0, .ref b51, .ref b52, .ref b53, .ref b54, .ref b55, .ref b56, .int 0, .ref b57, .ref b58, .ref b59, .ref b60, .ref b61, .ref b62])), (b56, .inl (G.2 1, 4, .inr (.inl (fun _ => 0)))), (b61, .inl (G.2 0, 242, .inl (fun _ => 0))), (b26, .inr (5, [.int 0, .int 0, .ref b63, .ref b64, .ref b65, .ref b66, .ref b67, .ref b68, .int 0, .ref b69, .ref b70, .ref b71, .ref b72, .ref b73, .ref b74])), (b68, .inl (G.2 1, 4, .inr (.inl (fun _ => 0)))), (b73, .inl (G.2 0, 242, .inl (fun _ => 0))), (b27, .inr (5, [.int 0, .int 0, .ref b75, .ref b76, .ref b77, .ref b78, .ref b79, .ref b80, .int 0, .ref b81, .ref b82, .ref b83, .ref b84, .ref b85, .ref b86])), (b80, .inl (G.2 1, 4, .inr (.inl (fun _ => 0)))), (b85, .inl (G.2 0, 242, .inl (fun _ => 0))), (b0, .inr (0, [.ref b3, .ref b4, .ref b5, .ref b6, .int 0, .int 0, .ref b7, .ref b8, .ref b9, .ref b10, .ref b11, .ref b12, .ref b13, .ref b14, .ref b15, .ref b16, .ref b17, .ref b18, .ref b19, .ref b20])), (b20, .inl (G.2 0, 8, .inl (upd (upd (fun _ => (-1)) 6 0) 7 0))), (b4, .inr (2, [.int 0, .int 1, .int 0, .ref b21, .ref b22, .ref b23]))] H := hP
      have hD := z_tie hP hD rfl
      refine W.widen (k := 0) (n := 0) (Nat.le_of_ble_eq_true rfl) (Nat.le_of_ble_eq_true rfl) ?_
      exact z_iret hx hb hr hlocks hP hD hS (Nat.le_of_ble_eq_true rfl) (Nat.le_of_ble_eq_true rfl) d_X_fit_42 (congrArg (fun z => some (Value.int z)) (by first | decide +kernel | (simp only [a_fit, li_0, li_3]; (first | rfl | (repeat (first | rw [if_pos (by omega)] | rw [if_neg (by omega)]))))))
    simp only [fa_lt, fa_le, fa_eq, Int32.toInt_toInt64, li_0] at hs_7
    by_cases hs_15 : p1 = 1
    · subst hs_15
      refine lv_tableIn (off := 33) (tgt := 43) hx hb d_X_fit_10 (by decide +kernel) (by decide +kernel) rfl (by decide) ?_
      by_cases hs_16 : p0 = 0
      · subst hs_16
        refine lv_aload_n hx hb d_X_fit_43 rfl (lv_at hl 0 rfl) ?_
        refine lv_iload_n hx hb d_X_fit_44 rfl (lv_at hl 1 rfl) ?_
        refine lv_iconst (v := 1) hx hb d_X_fit_45 (by decide) ?_
        refine z_callV (index := 344) (As := [.int 0, .int 1]) (rest := []) (wr := [(b10, .inl (G.2 6, 4, .inr (.inr (.inr (.inr (va_up (va_up (va_up (va_up (fun _ => none) 0 (some b24)) 1 (some b25)) 2 (some b26)) 3 (some b27))))))), (b8, .inr (3, [.int 0, .int 0, .int 0, .ref b28, .ref b29, .ref b30, .ref b31, .ref b32, .ref b33, .ref b34, .ref b35])), (b24, .inr (5, [.int 0, .int 0, .ref b36, .ref b37, .ref b38, .ref b39, .ref b40, .ref b41, .int 0, .ref b42, .ref b43, .ref b44, .ref b45, .ref b46, .ref b47])), (b9, .inr (4, [.ref b48, .ref b49, .ref b50])), (b50, .inl (G.2 0, 512, .inl (fun _ => 0))), (b41, .inl (G.2 1, 4, .inr (.inl (fun _ => 0)))), (b46, .inl (G.2 0, 242, .inl (fun _ => 0))), (b25, .inr (5, [.int 0, .int 0, .ref b51, .ref b52, .ref b53, .ref b54, .ref b55, .ref b56, .int 0, .ref b57, .ref b58, .ref b59, .ref b60, .ref b61, .ref b62])), (b56, .inl (G.2 1, 4, .inr (.inl (fun _ => 0)))), (b61, .inl (G.2 0, 242, .inl (fun _ => 0))), (b26, .inr (5, [.int 0, .int 0, .ref b63, .ref b64, .ref b65, .ref b66, .ref b67, .ref b68, .int 0, .ref b69, .ref b70, .ref b71, .ref b72, .ref b73, .ref b74])), (b68, .inl (G.2 1, 4, .inr (.inl (fun _ => 0)))), (b73, .inl (G.2 0, 242, .inl (fun _ => 0))), (b27, .inr (5, [.int 0, .int 0, .ref b75, .ref b76, .ref b77, .ref b78, .ref b79, .ref b80, .int 0, .ref b81, .ref b82, .ref b83, .ref b84, .ref b85, .ref b86])), (b80, .inl (G.2 1, 4, .inr (.inl (fun _ => 0)))), (b85, .inl (G.2 0, 242, .inl (fun _ => 0)))]) Z (c5_X_fitting l G (b0) (b3) (b4) (b5) (b6) (b7) (b8) (b9) (b10) (b11) (b12) (b13) (b14) (b15) (b16) (b17) (b18) (b19) (b20) (b21) (b22) (b23)) hl.1 q998 q1000 qs42 q1 q1001 ⟨by decide, by decide, by show _ = some 2; decide +kernel⟩ ⟨Nat.le_of_ble_eq_true rfl, Nat.le_of_ble_eq_true rfl⟩ ⟨Nat.le_of_ble_eq_true rfl, Nat.le_of_ble_eq_true rfl⟩ rfl (Nat.le_of_ble_eq_true rfl) d_X_fit_46 hP hD hS hA 0 0 rfl rfl rfl [0, 1, 2] [3, 4, 5, 6, 7, 8, 9, 10, 11, 12, 13, 14, 15, 16, 17, 18] rfl rfl rfl rfl (by decide) (fun v w1 H locs hw_17 hP hD hS => ?_)
        obtain ⟨rfl, rfl⟩ := hw_17
        have hP : va_P G.1 classes [(b10, .inl (G.2 6, 4, .inr (.inr (.inr (.inr (va_up (va_up (va_up (va_up (fun _ => none) 0 (some b24)) 1 (some b25)) 2 (some b26)) 3 (some b27))))))), (b8, .inr (3, [.int 0, .int 0, .int 0, .ref b28, .ref b29, .ref b30, .ref b31, .ref b32, .ref b33, .ref b34, .ref b35])), (b24, .inr (5, [.int 0, .int 0, .ref b36, .ref b37, .ref b38, .ref b39, .ref b40, .ref b41, .int 0, .ref b42, .ref b43, .ref b44, .ref b45, .ref b46, .ref b47])), (b9, .inr (4, [.ref b48, .ref b49, .ref b50])), (b50, .inl (G.2 0, 512, .inl (fun _ => 0))), (b41, .inl (G.2 1, 4, .inr (.inl (fun _ => 0)))), (b46, .inl (G.2 0, 242, .inl (fun _ => 0))), (b25, .inr (5, [.int 0, .int 0, .ref b51, .ref b52, .ref b53, .ref b54, .ref b55, .ref b56, .int 0, .ref b57, .ref b58, .ref b59, .ref b60, .ref b61, .ref b62])), (b56, .inl (G.2 1, 4, .inr (.inl (fun _ => 0)))), (b61, .inl (G.2 0, 242, .inl (fun _ => 0))), (b26, .inr (5, [.int 0, .int 0, .ref b63, .ref b64, .ref b65, .ref b66, .ref b67, .ref b68, .int 0, .ref b69, .ref b70, .ref b71, .ref b72, .ref b73, .ref b74])), (b68, .inl (G.2 1, 4, .inr (.inl (fun _ => 0)))), (b73, .inl (G.2 0, 242, .inl (fun _ => 0))), (b27, .inr (5, [.int 0, .int 0, .ref b75, .ref b76, .ref b77, .ref b78, .ref b79, .ref b80, .int 0, .ref b81, .ref b82, .ref b83, .ref b84, .ref b85, .ref b86])), (b80, .inl (G.2 1, 4, .inr (.inl (fun _ => 0)))), (b85, .inl (G.2 0, 242, .inl (fun _ => 0))), (b0, .inr (0, [.ref b3, .ref b4, .ref b5, .ref b6, .int 0, .int 0, .ref b7, .ref b8, .ref b9, .ref b10, .ref b11, .ref b12, .ref b13, .ref b14, .ref b15, .ref b16, .ref b17, .ref b18, .ref b19, .ref b20])), (b20, .inl (G.2 0, 8, .inl (upd (upd (fun _ => (-1)) 0 0) 1 0))), (b4, .inr (2, [.int 0, .int 1, .int 0, .ref b21, .ref b22, .ref b23]))] H := hP
        have hD := z_tie hP hD rfl
        refine W.widen (k := 0) (n := 0) (Nat.le_of_ble_eq_true rfl) (Nat.le_of_ble_eq_true rfl) ?_
        exact z_iret hx hb hr hlocks hP hD hS (Nat.le_of_ble_eq_true rfl) (Nat.le_of_ble_eq_true rfl) d_X_fit_49 (congrArg (fun z => some (Value.int z)) (by first | decide +kernel | (simp only [a_fit, li_1, li_0]; (first | rfl | (repeat (first | rw [if_pos (by omega)] | rw [if_neg (by omega)]))))))
      simp only [fa_lt, fa_le, fa_eq, Int32.toInt_toInt64, li_0] at hs_16
      by_cases hs_18 : p0 = 1
      · subst hs_18
        refine lv_aload_n hx hb d_X_fit_43 rfl (lv_at hl 0 rfl) ?_
        refine lv_iload_n hx hb d_X_fit_44 rfl (lv_at hl 1 rfl) ?_
        refine lv_iconst (v := 1) hx hb d_X_fit_45 (by decide) ?_
        refine z_callV (index := 344) (As := [.int 1, .int 1]) (rest := []) (wr := [(b10, .inl (G.2 6, 4, .inr (.inr (.inr (.inr (va_up (va_up (va_up (va_up (fun _ => none) 0 (some b24)) 1 (some b25)) 2 (some b26)) 3 (some b27))))))), (b8, .inr (3, [.int 0, .int 0, .int 0, .ref b28, .ref b29, .ref b30, .ref b31, .ref b32, .ref b33, .ref b34, .ref b35])), (b24, .inr (5, [.int 0, .int 0, .ref b36, .ref b37, .ref b38, .ref b39, .ref b40, .ref b41, .int 0, .ref b42, .ref b43, .ref b44, .ref b45, .ref b46, .ref b47])), (b9, .inr (4, [.ref b48, .ref b49, .ref b50])), (b50, .inl (G.2 0, 512, .inl (fun _ => 0))), (b41, .inl (G.2 1, 4, .inr (.inl (fun _ => 0)))), (b46, .inl (G.2 0, 242, .inl (fun _ => 0))), (b25, .inr (5, [.int 0, .int 0, .ref b51, .ref b52, .ref b53, .ref b54, .ref b55, .ref b56, .int 0, .ref b57, .ref b58, .ref b59, .ref b60, .ref b61, .ref b62])), (b56, .inl (G.2 1, 4, .inr (.inl (fun _ => 0)))), (b61, .inl (G.2 0, 242, .inl (fun _ => 0))), (b26, .inr (5, [.int 0, .int 0, .ref b63, .ref b64, .ref b65, .ref b66, .ref b67, .ref b68, .int 0, .ref b69, .ref b70, .ref b71, .ref b72, .ref b73, .ref b74])), (b68, .inl (G.2 1, 4, .inr (.inl (fun _ => 0)))), (b73, .inl (G.2 0, 242, .inl (fun _ => 0))), (b27, .inr (5, [.int 0, .int 0, .ref b75, .ref b76, .ref b77, .ref b78, .ref b79, .ref b80, .int 0, .ref b81, .ref b82, .ref b83, .ref b84, .ref b85, .ref b86])), (b80, .inl (G.2 1, 4, .inr (.inl (fun _ => 0)))), (b85, .inl (G.2 0, 242, .inl (fun _ => 0)))]) Z (c6_X_fitting l G (b0) (b3) (b4) (b5) (b6) (b7) (b8) (b9) (b10) (b11) (b12) (b13) (b14) (b15) (b16) (b17) (b18) (b19) (b20) (b21) (b22) (b23)) hl.1 q998 q1000 qs42 q1 q1001 ⟨by decide, by decide, by show _ = some 2; decide +kernel⟩ ⟨Nat.le_of_ble_eq_true rfl, Nat.le_of_ble_eq_true rfl⟩ ⟨Nat.le_of_ble_eq_true rfl, Nat.le_of_ble_eq_true rfl⟩ rfl (Nat.le_of_ble_eq_true rfl) d_X_fit_46 hP hD hS hA 0 0 rfl rfl rfl [0, 1, 2] [3, 4, 5, 6, 7, 8, 9, 10, 11, 12, 13, 14, 15, 16, 17, 18] rfl rfl rfl rfl (by decide) (fun v w1 H locs hw_19 hP hD hS => ?_)
        obtain ⟨rfl, rfl⟩ := hw_19
        have hP : va_P G.1 classes [(b10, .inl (G.2 6, 4, .inr (.inr (.inr (.inr (va_up (va_up (va_up (va_up (fun _ => none) 0 (some b24)) 1 (some b25)) 2 (some b26)) 3 (some b27))))))), (b8, .inr (3, [.int 0, .int 0, .int 0, .ref b28, .ref b29, .ref b30, .ref b31, .ref b32, .ref b33, .ref b34, .ref b35])), (b24, .inr (5, [.int 0, .int 0, .ref b36, .ref b37, .ref b38, .ref b39, .ref b40, .ref b41, .int 0, .ref b42, .ref b43, .ref b44, .ref b45, .ref b46, .ref b47])), (b9, .inr (4, [.ref b48, .ref b49, .ref b50])), (b50, .inl (G.2 0, 512, .inl (fun _ => 0))), (b41, .inl (G.2 1, 4, .inr (.inl (fun _ => 0)))), (b46, .inl (G.2 0, 242, .inl (fun _ => 0))), (b25, .inr (5, [.int 0, .int 0, .ref b51, .ref b52, .ref b53, .ref b54, .ref b55, .ref b56, .int 0, .ref b57, .ref b58, .ref b59, .ref b60, .ref b61, .ref b62])), (b56, .inl (G.2 1, 4, .inr (.inl (fun _ => 0)))), (b61, .inl (G.2 0, 242, .inl (fun _ => 0))), (b26, .inr (5, [.int 0, .int 0, .ref b63, .ref b64, .ref b65, .ref b66, .ref b67, .ref b68, .int 0, .ref b69, .ref b70, .ref b71, .ref b72, .ref b73, .ref b74])), (b68, .inl (G.2 1, 4, .inr (.inl (fun _ => 0)))), (b73, .inl (G.2 0, 242, .inl (fun _ => 0))), (b27, .inr (5, [.int 0, .int 0, .ref b75, .ref b76, .ref b77, .ref b78, .ref b79, .ref b80, .int 0, .ref b81, .ref b82, .ref b83, .ref b84, .ref b85, .ref b86])), (b80, .inl (G.2 1, 4, .inr (.inl (fun _ => 0)))), (b85, .inl (G.2 0, 242, .inl (fun _ => 0))), (b0, .inr (0, [.ref b3, .ref b4, .ref b5, .ref b6, .int 0, .int 0, .ref b7, .ref b8, .ref b9, .ref b10, .ref b11, .ref b12, .ref b13, .ref b14, .ref b15, .ref b16, .ref b17, .ref b18, .ref b19, .ref b20])), (b20, .inl (G.2 0, 8, .inl (upd (upd (fun _ => (-1)) 2 0) 3 0))), (b4, .inr (2, [.int 0, .int 1, .int 0, .ref b21, .ref b22, .ref b23]))] H := hP
        have hD := z_tie hP hD rfl
        refine W.widen (k := 0) (n := 0) (Nat.le_of_ble_eq_true rfl) (Nat.le_of_ble_eq_true rfl) ?_
        exact z_iret hx hb hr hlocks hP hD hS (Nat.le_of_ble_eq_true rfl) (Nat.le_of_ble_eq_true rfl) d_X_fit_49 (congrArg (fun z => some (Value.int z)) (by first | decide +kernel | (simp only [a_fit, li_1, li_1]; (first | rfl | (repeat (first | rw [if_pos (by omega)] | rw [if_neg (by omega)]))))))
      simp only [fa_lt, fa_le, fa_eq, Int32.toInt_toInt64, li_1] at hs_18
      by_cases hs_20 : p0 = 2
      · subst hs_20
        refine lv_aload_n hx hb d_X_fit_43 rfl (lv_at hl 0 rfl) ?_
        refine lv_iload_n hx hb d_X_fit_44 rfl (lv_at hl 1 rfl) ?_
        refine lv_iconst (v := 1) hx hb d_X_fit_45 (by decide) ?_
        refine z_callV (index := 344) (As := [.int 2, .int 1]) (rest := []) (wr := [(b10, .inl (G.2 6, 4, .inr (.inr (.inr (.inr (va_up (va_up (va_up (va_up (fun _ => none) 0 (some b24)) 1 (some b25)) 2 (some b26)) 3 (some b27))))))), (b8, .inr (3, [.int 0, .int 0, .int 0, .ref b28, .ref b29, .ref b30, .ref b31, .ref b32, .ref b33, .ref b34, .ref b35])), (b24, .inr (5, [.int 0, .int 0, .ref b36, .ref b37, .ref b38, .ref b39, .ref b40, .ref b41, .int 0, .ref b42, .ref b43, .ref b44, .ref b45, .ref b46, .ref b47])), (b9, .inr (4, [.ref b48, .ref b49, .ref b50])), (b50, .inl (G.2 0, 512, .inl (fun _ => 0))), (b41, .inl (G.2 1, 4, .inr (.inl (fun _ => 0)))), (b46, .inl (G.2 0, 242, .inl (fun _ => 0))), (b25, .inr (5, [.int 0, .int 0, .ref b51, .ref b52, .ref b53, .ref b54, .ref b55, .ref b56, .int 0, .ref b57, .ref b58, .ref b59, .ref b60, .ref b61, .ref b62])), (b56, .inl (G.2 1, 4, .inr (.inl (fun _ => 0)))), (b61, .inl (G.2 0, 242, .inl (fun _ => 0))), (b26, .inr (5, [.int 0, .int 0, .ref b63, .ref b64, .ref b65, .ref b66, .ref b67, .ref b68, .int 0, .ref b69, .ref b70, .ref b71, .ref b72, .ref b73, .ref b74])), (b68, .inl (G.2 1, 4, .inr (.inl (fun _ => 0)))), (b73, .inl (G.2 0, 242, .inl (fun _ => 0))), (b27, .inr (5, [.int 0, .int 0, .ref b75, .ref b76, .ref b77, .ref b78, .ref b79, .ref b80, .int 0, .ref b81, .ref b82, .ref b83, .ref b84, .ref b85, .ref b86])), (b80, .inl (G.2 1, 4, .inr (.inl (fun _ => 0)))), (b85, .inl (G.2 0, 242, .inl (fun _ => 0)))]) Z (c7_X_fitting l G (b0) (b3) (b4) (b5) (b6) (b7) (b8) (b9) (b10) (b11) (b12) (b13) (b14) (b15) (b16) (b17) (b18) (b19) (b20) (b21) (b22) (b23)) hl.1 q998 q1000 qs42 q1 q1001 ⟨by decide, by decide, by show _ = some 2; decide +kernel⟩ ⟨Nat.le_of_ble_eq_true rfl, Nat.le_of_ble_eq_true rfl⟩ ⟨Nat.le_of_ble_eq_true rfl, Nat.le_of_ble_eq_true rfl⟩ rfl (Nat.le_of_ble_eq_true rfl) d_X_fit_46 hP hD hS hA 0 0 rfl rfl rfl [0, 1, 2] [3, 4, 5, 6, 7, 8, 9, 10, 11, 12, 13, 14, 15, 16, 17, 18] rfl rfl rfl rfl (by decide) (fun v w1 H locs hw_21 hP hD hS => ?_)
        obtain ⟨rfl, rfl⟩ := hw_21
        have hP : va_P G.1 classes [(b10, .inl (G.2 6, 4, .inr (.inr (.inr (.inr (va_up (va_up (va_up (va_up (fun _ => none) 0 (some b24)) 1 (some b25)) 2 (some b26)) 3 (some b27))))))), (b8, .inr (3, [.int 0, .int 0, .int 0, .ref b28, .ref b29, .ref b30, .ref b31, .ref b32, .ref b33, .ref b34, .ref b35])), (b24, .inr (5, [.int 0, .int 0, .ref b36, .ref b37, .ref b38, .ref b39, .ref b40, .ref b41, .int 0, .ref b42, .ref b43, .ref b44, .ref b45, .ref b46, .ref b47])), (b9, .inr (4, [.ref b48, .ref b49, .ref b50])), (b50, .inl (G.2 0, 512, .inl (fun _ => 0))), (b41, .inl (G.2 1, 4, .inr (.inl (fun _ => 0)))), (b46, .inl (G.2 0, 242, .inl (fun _ => 0))), (b25, .inr (5, [.int 0, .int 0, .ref b51, .ref b52, .ref b53, .ref b54, .ref b55, .ref b56, .int 0, .ref b57, .ref b58, .ref b59, .ref b60, .ref b61, .ref b62])), (b56, .inl (G.2 1, 4, .inr (.inl (fun _ => 0)))), (b61, .inl (G.2 0, 242, .inl (fun _ => 0))), (b26, .inr (5, [.int 0, .int 0, .ref b63, .ref b64, .ref b65, .ref b66, .ref b67, .ref b68, .int 0, .ref b69, .ref b70, .ref b71, .ref b72, .ref b73, .ref b74])), (b68, .inl (G.2 1, 4, .inr (.inl (fun _ => 0)))), (b73, .inl (G.2 0, 242, .inl (fun _ => 0))), (b27, .inr (5, [.int 0, .int 0, .ref b75, .ref b76, .ref b77, .ref b78, .ref b79, .ref b80, .int 0, .ref b81, .ref b82, .ref b83, .ref b84, .ref b85, .ref b86])), (b80, .inl (G.2 1, 4, .inr (.inl (fun _ => 0)))), (b85, .inl (G.2 0, 242, .inl (fun _ => 0))), (b0, .inr (0, [.ref b3, .ref b4, .ref b5, .ref b6, .int 0, .int 0, .ref b7, .ref b8, .ref b9, .ref b10, .ref b11, .ref b12, .ref b13, .ref b14, .ref b15, .ref b16, .ref b17, .ref b18, .ref b19, .ref b20])), (b20, .inl (G.2 0, 8, .inl (upd (upd (fun _ => (-1)) 4 0) 5 0))), (b4, .inr (2, [.int 0, .int 1, .int 0, .ref b21, .ref b22, .ref b23]))] H := hP
        have hD := z_tie hP hD rfl
        refine W.widen (k := 0) (n := 0) (Nat.le_of_ble_eq_true rfl) (Nat.le_of_ble_eq_true rfl) ?_
        exact z_iret hx hb hr hlocks hP hD hS (Nat.le_of_ble_eq_true rfl) (Nat.le_of_ble_eq_true rfl) d_X_fit_49 (congrArg (fun z => some (Value.int z)) (by first | decide +kernel | (simp only [a_fit, li_1, li_2]; (first | rfl | (repeat (first | rw [if_pos (by omega)] | rw [if_neg (by omega)]))))))
      simp only [fa_lt, fa_le, fa_eq, Int32.toInt_toInt64, li_2] at hs_20
      obtain rfl : p0 = 3 := by simp only [fa_lt, fa_le, fa_eq, Int32.toInt_toInt64, li_3]; omega
      refine lv_aload_n hx hb d_X_fit_43 rfl (lv_at hl 0 rfl) ?_
      refine lv_iload_n hx hb d_X_fit_44 rfl (lv_at hl 1 rfl) ?_
      refine lv_iconst (v := 1) hx hb d_X_fit_45 (by decide) ?_
      refine z_callV (index := 344) (As := [.int 3, .int 1]) (rest := []) (wr := [(b10, .inl (G.2 6, 4, .inr (.inr (.inr (.inr (va_up (va_up (va_up (va_up (fun _ => none) 0 (some b24)) 1 (some b25)) 2 (some b26)) 3 (some b27))))))), (b8, .inr (3, [.int 0, .int 0, .int 0, .ref b28, .ref b29, .ref b30, .ref b31, .ref b32, .ref b33, .ref b34, .ref b35])), (b24, .inr (5, [.int 0, .int 0, .ref b36, .ref b37, .ref b38, .ref b39, .ref b40, .ref b41, .int 0, .ref b42, .ref b43, .ref b44, .ref b45, .ref b46, .ref b47])), (b9, .inr (4, [.ref b48, .ref b49, .ref b50])), (b50, .inl (G.2 0, 512, .inl (fun _ => 0))), (b41, .inl (G.2 1, 4, .inr (.inl (fun _ => 0)))), (b46, .inl (G.2 0, 242, .inl (fun _ => 0))), (b25, .inr (5, [.int 0, .int 0, .ref b51, .ref b52, .ref b53, .ref b54, .ref b55, .ref b56, .int 0, .ref b57, .ref b58, .ref b59, .ref b60, .ref b61, .ref b62])), (b56, .inl (G.2 1, 4, .inr (.inl (fun _ => 0)))), (b61, .inl (G.2 0, 242, .inl (fun _ => 0))), (b26, .inr (5, [.int 0, .int 0, .ref b63, .ref b64, .ref b65, .ref b66, .ref b67, .ref b68, .int 0, .ref b69, .ref b70, .ref b71, .ref b72, .ref b73, .ref b74])), (b68, .inl (G.2 1, 4, .inr (.inl (fun _ => 0)))), (b73, .inl (G.2 0, 242, .inl (fun _ => 0))), (b27, .inr (5, [.int 0, .int 0, .ref b75, .ref b76, .ref b77, .ref b78, .ref b79, .ref b80, .int 0, .ref b81, .ref b82, .ref b83, .ref b84, .ref b85, .ref b86])), (b80, .inl (G.2 1, 4, .inr (.inl (fun _ => 0)))), (b85, .inl (G.2 0, 242, .inl (fun _ => 0)))]) Z (c8_X_fitting l G (b0) (b3) (b4) (b5) (b6) (b7) (b8) (b9) (b10) (b11) (b12) (b13) (b14) (b15) (b16) (b17) (b18) (b19) (b20) (b21) (b22) (b23)) hl.1 q998 q1000 qs42 q1 q1001 ⟨by decide, by decide, by show _ = some 2; decide +kernel⟩ ⟨Nat.le_of_ble_eq_true rfl, Nat.le_of_ble_eq_true rfl⟩ ⟨Nat.le_of_ble_eq_true rfl, Nat.le_of_ble_eq_true rfl⟩ rfl (Nat.le_of_ble_eq_true rfl) d_X_fit_46 hP hD hS hA 0 0 rfl rfl rfl [0, 1, 2] [3, 4, 5, 6, 7, 8, 9, 10, 11, 12, 13, 14, 15, 16, 17, 18] rfl rfl rfl rfl (by decide) (fun v w1 H locs hw_22 hP hD hS => ?_)
      obtain ⟨rfl, rfl⟩ := hw_22
      have hP : va_P G.1 classes [(b10, .inl (G.2 6, 4, .inr (.inr (.inr (.inr (va_up (va_up (va_up (va_up (fun _ => none) 0 (some b24)) 1 (some b25)) 2 (some b26)) 3 (some b27))))))), (b8, .inr (3, [.int 0, .int 0, .int 0, .ref b28, .ref b29, .ref b30, .ref b31, .ref b32, .ref b33, .ref b34, .ref b35])), (b24, .inr (5, [.int 0, .int 0, .ref b36, .ref b37, .ref b38, .ref b39, .ref b40, .ref b41, .int 0, .ref b42, .ref b43, .ref b44, .ref b45, .ref b46, .ref b47])), (b9, .inr (4, [.ref b48, .ref b49, .ref b50])), (b50, .inl (G.2 0, 512, .inl (fun _ => 0))), (b41, .inl (G.2 1, 4, .inr (.inl (fun _ => 0)))), (b46, .inl (G.2 0, 242, .inl (fun _ => 0))), (b25, .inr (5, [.int 0, .int 0, .ref b51, .ref b52, .ref b53, .ref b54, .ref b55, .ref b56, .int 0, .ref b57, .ref b58, .ref b59, .ref b60, .ref b61, .ref b62])), (b56, .inl (G.2 1, 4, .inr (.inl (fun _ => 0)))), (b61, .inl (G.2 0, 242, .inl (fun _ => 0))), (b26, .inr (5, [.int 0, .int 0, .ref b63, .ref b64, .ref b65, .ref b66, .ref b67, .ref b68, .int 0, .ref b69, .ref b70, .ref b71, .ref b72, .ref b73, .ref b74])), (b68, .inl (G.2 1, 4, .inr (.inl (fun _ => 0)))), (b73, .inl (G.2 0, 242, .inl (fun _ => 0))), (b27, .inr (5, [.int 0, .int 0, .ref b75, .ref b76, .ref b77, .ref b78, .ref b79, .ref b80, .int 0, .ref b81, .ref b82, .ref b83, .ref b84, .ref b85, .ref b86])), (b80, .inl (G.2 1, 4, .inr (.inl (fun _ => 0)))), (b85, .inl (G.2 0, 242, .inl (fun _ => 0))), (b0, .inr (0, [.ref b3, .ref b4, .ref b5, .ref b6, .int 0, .int 0, .ref b7, .ref b8, .ref b9, .ref b10, .ref b11, .ref b12, .ref b13, .ref b14, .ref b15, .ref b16, .ref b17, .ref b18, .ref b19, .ref b20])), (b20, .inl (G.2 0, 8, .inl (upd (upd (fun _ => (-1)) 6 0) 7 0))), (b4, .inr (2, [.int 0, .int 1, .int 0, .ref b21, .ref b22, .ref b23]))] H := hP
      have hD := z_tie hP hD rfl
      refine W.widen (k := 0) (n := 0) (Nat.le_of_ble_eq_true rfl) (Nat.le_of_ble_eq_true rfl) ?_
      exact z_iret hx hb hr hlocks hP hD hS (Nat.le_of_ble_eq_true rfl) (Nat.le_of_ble_eq_true rfl) d_X_fit_49 (congrArg (fun z => some (Value.int z)) (by first | decide +kernel | (simp only [a_fit, li_1, li_3]; (first | rfl | (repeat (first | rw [if_pos (by omega)] | rw [if_neg (by omega)]))))))
    simp only [fa_lt, fa_le, fa_eq, Int32.toInt_toInt64, li_1] at hs_15
    by_cases hs_23 : p1 = 2
    · subst hs_23
      refine lv_tableIn (off := 40) (tgt := 50) hx hb d_X_fit_10 (by decide +kernel) (by decide +kernel) rfl (by decide) ?_
      by_cases hs_24 : p0 = 0
      · subst hs_24
        refine lv_aload_n hx hb d_X_fit_50 rfl (lv_at hl 0 rfl) ?_
        refine lv_iload_n hx hb d_X_fit_51 rfl (lv_at hl 1 rfl) ?_
        refine z_callV (index := 189) (As := [.int 0]) (rest := []) (wr := [(b20, .inl (G.2 0, 8, .inl (fun _ => (-1)))), (b25, .inr (5, [.int 0, .int 0, .ref b51, .ref b52, .ref b53, .ref b54, .ref b55, .ref b56, .int 0, .ref b57, .ref b58, .ref b59, .ref b60, .ref b61, .ref b62])), (b56, .inl (G.2 1, 4, .inr (.inl (fun _ => 0)))), (b61, .inl (G.2 0, 242, .inl (fun _ => 0))), (b26, .inr (5, [.int 0, .int 0, .ref b63, .ref b64, .ref b65, .ref b66, .ref b67, .ref b68, .int 0, .ref b69, .ref b70, .ref b71, .ref b72, .ref b73, .ref b74])), (b68, .inl (G.2 1, 4, .inr (.inl (fun _ => 0)))), (b73, .inl (G.2 0, 242, .inl (fun _ => 0))), (b27, .inr (5, [.int 0, .int 0, .ref b75, .ref b76, .ref b77, .ref b78, .ref b79, .ref b80, .int 0, .ref b81, .ref b82, .ref b83, .ref b84, .ref b85, .ref b86])), (b80, .inl (G.2 1, 4, .inr (.inl (fun _ => 0)))), (b85, .inl (G.2 0, 242, .inl (fun _ => 0)))]) Z (c2_X_machine l G (b0) (b3) (b4) (b5) (b6) (b7) (b8) (b9) (b10) (b11) (b12) (b13) (b14) (b15) (b16) (b17) (b18) (b19) (b20) (b24) (b25) (b26) (b27) (b28) (b29) (b30) (b31) (b32) (b33) (b34) (b35) (b21) (b22) (b23) (b36) (b37) (b38) (b39) (b40) (b41) (b42) (b43) (b44) (b45) (b46) (b47) (b48) (b49) (b50)) hl.1 q563 q565 qs2 q1 q566 ⟨by decide, by decide, by show _ = some 1; decide +kernel⟩ ⟨Nat.le_of_ble_eq_true rfl, Nat.le_of_ble_eq_true rfl⟩ ⟨Nat.le_of_ble_eq_true rfl, Nat.le_of_ble_eq_true rfl⟩ rfl (Nat.le_of_ble_eq_true rfl) d_X_fit_52 hP hD hS hA 0 0 rfl rfl rfl [0, 3, 4, 2, 5, 6, 7, 8, 9] [1, 10, 11, 12, 13, 14, 15, 16, 17, 18] rfl rfl rfl rfl (by decide) (fun v w1 H locs hw_25 hP hD hS => ?_)
        obtain ⟨rfl, rfl⟩ := hw_25
        have hP : va_P G.1 classes [(b20, .inl (G.2 0, 8, .inl (fun _ => (-1)))), (b25, .inr (5, [.int 0, .int 0, .ref b51, .ref b52, .ref b53, .ref b54, .ref b55, .ref b56, .int 0, .ref b57, .ref b58, .ref b59, .ref b60, .ref b61, .ref b62])), (b56, .inl (G.2 1, 4, .inr (.inl (fun _ => 0)))), (b61, .inl (G.2 0, 242, .inl (fun _ => 0))), (b26, .inr (5, [.int 0, .int 0, .ref b63, .ref b64, .ref b65, .ref b66, .ref b67, .ref b68, .int 0, .ref b69, .ref b70, .ref b71, .ref b72, .ref b73, .ref b74])), (b68, .inl (G.2 1, 4, .inr (.inl (fun _ => 0)))), (b73, .inl (G.2 0, 242, .inl (fun _ => 0))), (b27, .inr (5, [.int 0, .int 0, .ref b75, .ref b76, .ref b77, .ref b78, .ref b79, .ref b80, .int 0, .ref b81, .ref b82, .ref b83, .ref b84, .ref b85, .ref b86])), (b80, .inl (G.2 1, 4, .inr (.inl (fun _ => 0)))), (b85, .inl (G.2 0, 242, .inl (fun _ => 0))), (b0, .inr (0, [.ref b3, .ref b4, .ref b5, .ref b6, .int 0, .int 0, .ref b7, .ref b8, .ref b9, .ref b10, .ref b11, .ref b12, .ref b13, .ref b14, .ref b15, .ref b16, .ref b17, .ref b18, .ref b19, .ref b20])), (b10, .inl (G.2 6, 4, .inr (.inr (.inr (.inr (va_up (va_up (va_up (va_up (fun _ => none) 0 (some b24)) 1 (some b25)) 2 (some b26)) 3 (some b27))))))), (b9, .inr (4, [.ref b48, .ref b49, .ref b50])), (b4, .inr (2, [.int 0, .int 1, .int 0, .ref b21, .ref b22, .ref b23])), (b50, .inl (G.2 0, 512, .inl (fun _ => (-1)))), (b41, .inl (G.2 1, 4, .inr (.inl (fun _ => 0)))), (b8, .inr (3, [.int 1, .int (-1), .int 0, .ref b28, .ref b29, .ref b30, .ref b31, .ref b32, .ref b33, .ref b34, .ref b35])), (b24, .inr (5, [.int 1, .int 0, .ref b36, .ref b37, .ref b38, .ref b39, .ref b40, .ref b41, .int 0, .ref b42, .ref b43, .ref b44, .ref b45, .ref b46, .ref b47])), (b46, .inl (G.2 0, 242, .inl (upd (fun _ => 0) 0 0)))] H := hP
        have hD := z_tie hP hD rfl
        refine W.widen (k := 0) (n := 0) (Nat.le_of_ble_eq_true rfl) (Nat.le_of_ble_eq_true rfl) ?_
        refine va_get (D := G.1) (ci := 5) (v := .int 0) (C := R_Machine) (T := F_Machine) (N := 15) hx hb hts i_Machine hown hK hP 17 rfl rfl 1 (by decide) (hts _ q169) (fun _ h9 => h9) rfl d_X_fit_55 ?_
        exact z_iret hx hb hr hlocks hP hD hS (Nat.le_of_ble_eq_true rfl) (Nat.le_of_ble_eq_true rfl) d_X_fit_58 (congrArg (fun z => some (Value.int z)) (by first | decide +kernel | (simp only [a_fit, li_2, li_0]; (first | rfl | (repeat (first | rw [if_pos (by omega)] | rw [if_neg (by omega)]))))))
      simp only [fa_lt, fa_le, fa_eq, Int32.toInt_toInt64, li_0] at hs_24
      by_cases hs_26 : p0 = 1
      · subst hs_26
        refine lv_aload_n hx hb d_X_fit_50 rfl (lv_at hl 0 rfl) ?_
        refine lv_iload_n hx hb d_X_fit_51 rfl (lv_at hl 1 rfl) ?_
        refine z_callV (index := 189) (As := [.int 1]) (rest := []) (wr := [(b20, .inl (G.2 0, 8, .inl (fun _ => (-1)))), (b24, .inr (5, [.int 0, .int 0, .ref b36, .ref b37, .ref b38, .ref b39, .ref b40, .ref b41, .int 0, .ref b42, .ref b43, .ref b44, .ref b45, .ref b46, .ref b47])), (b41, .inl (G.2 1, 4, .inr (.inl (fun _ => 0)))), (b46, .inl (G.2 0, 242, .inl (fun _ => 0))), (b26, .inr (5, [.int 0, .int 0, .ref b63, .ref b64, .ref b65, .ref b66, .ref b67, .ref b68, .int 0, .ref b69, .ref b70, .ref b71, .ref b72, .ref b73, .ref b74])), (b68, .inl (G.2 1, 4, .inr (.inl (fun _ => 0)))), (b73, .inl (G.2 0, 242, .inl (fun _ => 0))), (b27, .inr (5, [.int 0, .int 0, .ref b75, .ref b76, .ref b77, .ref b78, .ref b79, .ref b80, .int 0, .ref b81, .ref b82, .ref b83, .ref b84, .ref b85, .ref b86])), (b80, .inl (G.2 1, 4, .inr (.inl (fun _ => 0)))), (b85, .inl (G.2 0, 242, .inl (fun _ => 0)))]) Z (c1_X_machine l G (b0) (b3) (b4) (b5) (b6) (b7) (b8) (b9) (b10) (b11) (b12) (b13) (b14) (b15) (b16) (b17) (b18) (b19) (b20) (b24) (b25) (b26) (b27) (b28) (b29) (b30) (b31) (b32) (b33) (b34) (b35) (b21) (b22) (b23) (b51) (b52) (b53) (b54) (b55) (b56) (b57) (b58) (b59) (b60) (b61) (b62) (b48) (b49) (b50)) hl.1 q563 q565 qs2 q1 q566 ⟨by decide, by decide, by show _ = some 1; decide +kernel⟩ ⟨Nat.le_of_ble_eq_true rfl, Nat.le_of_ble_eq_true rfl⟩ ⟨Nat.le_of_ble_eq_true rfl, Nat.le_of_ble_eq_true rfl⟩ rfl (Nat.le_of_ble_eq_true rfl) d_X_fit_52 hP hD hS hA 0 0 rfl rfl rfl [0, 3, 4, 2, 10, 6, 7, 11, 12] [1, 5, 8, 9, 13, 14, 15, 16, 17, 18] rfl rfl rfl rfl (by decide) (fun v w1 H locs hw_27 hP hD hS => ?_)
        obtain ⟨rfl, rfl⟩ := hw_27
        have hP : va_P G.1 classes [(b20, .inl (G.2 0, 8, .inl (fun _ => (-1)))), (b24, .inr (5, [.int 0, .int 0, .ref b36, .ref b37, .ref b38, .ref b39, .ref b40, .ref b41, .int 0, .ref b42, .ref b43, .ref b44, .ref b45, .ref b46, .ref b47])), (b41, .inl (G.2 1, 4, .inr (.inl (fun _ => 0)))), (b46, .inl (G.2 0, 242, .inl (fun _ => 0))), (b26, .inr (5, [.int 0, .int 0, .ref b63, .ref b64, .ref b65, .ref b66, .ref b67, .ref b68, .int 0, .ref b69, .ref b70, .ref b71, .ref b72, .ref b73, .ref b74])), (b68, .inl (G.2 1, 4, .inr (.inl (fun _ => 0)))), (b73, .inl (G.2 0, 242, .inl (fun _ => 0))), (b27, .inr (5, [.int 0, .int 0, .ref b75, .ref b76, .ref b77, .ref b78, .ref b79, .ref b80, .int 0, .ref b81, .ref b82, .ref b83, .ref b84, .ref b85, .ref b86])), (b80, .inl (G.2 1, 4, .inr (.inl (fun _ => 0)))), (b85, .inl (G.2 0, 242, .inl (fun _ => 0))), (b0, .inr (0, [.ref b3, .ref b4, .ref b5, .ref b6, .int 0, .int 0, .ref b7, .ref b8, .ref b9, .ref b10, .ref b11, .ref b12, .ref b13, .ref b14, .ref b15, .ref b16, .ref b17, .ref b18, .ref b19, .ref b20])), (b10, .inl (G.2 6, 4, .inr (.inr (.inr (.inr (va_up (va_up (va_up (va_up (fun _ => none) 0 (some b24)) 1 (some b25)) 2 (some b26)) 3 (some b27))))))), (b9, .inr (4, [.ref b48, .ref b49, .ref b50])), (b4, .inr (2, [.int 0, .int 1, .int 0, .ref b21, .ref b22, .ref b23])), (b50, .inl (G.2 0, 512, .inl (fun _ => (-1)))), (b56, .inl (G.2 1, 4, .inr (.inl (fun _ => 0)))), (b8, .inr (3, [.int 1, .int (-1), .int 0, .ref b28, .ref b29, .ref b30, .ref b31, .ref b32, .ref b33, .ref b34, .ref b35])), (b25, .inr (5, [.int 1, .int 0, .ref b51, .ref b52, .ref b53, .ref b54, .ref b55, .ref b56, .int 0, .ref b57, .ref b58, .ref b59, .ref b60, .ref b61, .ref b62])), (b61, .inl (G.2 0, 242, .inl (upd (fun _ => 0) 0 0)))] H := hP
        have hD := z_tie hP hD rfl
        refine W.widen (k := 0) (n := 0) (Nat.le_of_ble_eq_true rfl) (Nat.le_of_ble_eq_true rfl) ?_
        refine va_get (D := G.1) (ci := 5) (v := .int 0) (C := R_Machine) (T := F_Machine) (N := 15) hx hb hts i_Machine hown hK hP 17 rfl rfl 1 (by decide) (hts _ q169) (fun _ h9 => h9) rfl d_X_fit_55 ?_
        exact z_iret hx hb hr hlocks hP hD hS (Nat.le_of_ble_eq_true rfl) (Nat.le_of_ble_eq_true rfl) d_X_fit_58 (congrArg (fun z => some (Value.int z)) (by first | decide +kernel | (simp only [a_fit, li_2, li_1]; (first | rfl | (repeat (first | rw [if_pos (by omega)] | rw [if_neg (by omega)]))))))
      simp only [fa_lt, fa_le, fa_eq, Int32.toInt_toInt64, li_1] at hs_26
      by_cases hs_28 : p0 = 2
      · subst hs_28
        refine lv_aload_n hx hb d_X_fit_50 rfl (lv_at hl 0 rfl) ?_
        refine lv_iload_n hx hb d_X_fit_51 rfl (lv_at hl 1 rfl) ?_
        refine z_callV (index := 189) (As := [.int 2]) (rest := []) (wr := [(b20, .inl (G.2 0, 8, .inl (fun _ => (-1)))), (b24, .inr (5, [.int 0, .int 0, .ref b36, .ref b37, .ref b38, .ref b39, .ref b40, .ref b41, .int 0, .ref b42, .ref b43, .ref b44, .ref b45, .ref b46, .ref b47])), (b41, .inl (G.2 1, 4, .inr (.inl (fun _ => 0)))), (b46, .inl (G.2 0, 242, .inl (fun _ => 0))), (b25, .inr (5, [.int 0, .int 0, .ref b51, .ref b52, .ref b53, .ref b54, .ref b55, .ref b56, .int 0, .ref b57, .ref b58, .ref b59, .ref b60, .ref b61, .ref b62])), (b56, .inl (G.2 1, 4, .inr (.inl (fun _ => 0)))), (b61, .inl (G.2 0, 242, .inl (fun _ => 0))), (b27, .inr (5, [.int 0, .int 0, .ref b75, .ref b76, .ref b77, .ref b78, .ref b79, .ref b80, .int 0, .ref b81, .ref b82, .ref b83, .ref b84, .ref b85, .ref b86])), (b80, .inl (G.2 1, 4, .inr (.inl (fun _ => 0)))), (b85, .inl (G.2 0, 242, .inl (fun _ => 0)))]) Z (c3_X_machine l G (b0) (b3) (b4) (b5) (b6) (b7) (b8) (b9) (b10) (b11) (b12) (b13) (b14) (b15) (b16) (b17) (b18) (b19) (b20) (b24) (b25) (b26) (b27) (b28) (b29) (b30) (b31) (b32) (b33) (b34) (b35) (b21) (b22) (b23) (b63) (b64) (b65) (b66) (b67) (b68) (b69) (b70) (b71) (b72) (b73) (b74) (b48) (b49) (b50)) hl.1 q563 q565 qs2 q1 q566 ⟨by decide, by decide, by show _ = some 1; decide +kernel⟩ ⟨Nat.le_of_ble_eq_true rfl, Nat.le_of_ble_eq_true rfl⟩ ⟨Nat.le_of_ble_eq_true rfl, Nat.le_of_ble_eq_true rfl⟩ rfl (Nat.le_of_ble_eq_true rfl) d_X_fit_52 hP hD hS hA 0 0 rfl rfl rfl [0, 3, 4, 2, 13, 6, 7, 14, 15] [1, 5, 8, 9, 10, 11, 12, 16, 17, 18] rfl rfl rfl rfl (by decide) (fun v w1 H locs hw_29 hP hD hS => ?_)
        obtain ⟨rfl, rfl⟩ := hw_29
        have hP : va_P G.1 classes [(b20, .inl (G.2 0, 8, .inl (fun _ => (-1)))), (b24, .inr (5, [.int 0, .int 0, .ref b36, .ref b37, .ref b38, .ref b39, .ref b40, .ref b41, .int 0, .ref b42, .ref b43, .ref b44, .ref b45, .ref b46, .ref b47])), (b41, .inl (G.2 1, 4, .inr (.inl (fun _ => 0)))), (b46, .inl (G.2 0, 242, .inl (fun _ => 0))), (b25, .inr (5, [.int 0, .int 0, .ref b51, .ref b52, .ref b53, .ref b54, .ref b55, .ref b56, .int 0, .ref b57, .ref b58, .ref b59, .ref b60, .ref b61, .ref b62])), (b56, .inl (G.2 1, 4, .inr (.inl (fun _ => 0)))), (b61, .inl (G.2 0, 242, .inl (fun _ => 0))), (b27, .inr (5, [.int 0, .int 0, .ref b75, .ref b76, .ref b77, .ref b78, .ref b79, .ref b80, .int 0, .ref b81, .ref b82, .ref b83, .ref b84, .ref b85, .ref b86])), (b80, .inl (G.2 1, 4, .inr (.inl (fun _ => 0)))), (b85, .inl (G.2 0, 242, .inl (fun _ => 0))), (b0, .inr (0, [.ref b3, .ref b4, .ref b5, .ref b6, .int 0, .int 0, .ref b7, .ref b8, .ref b9, .ref b10, .ref b11, .ref b12, .ref b13, .ref b14, .ref b15, .ref b16, .ref b17, .ref b18, .ref b19, .ref b20])), (b10, .inl (G.2 6, 4, .inr (.inr (.inr (.inr (va_up (va_up (va_up (va_up (fun _ => none) 0 (some b24)) 1 (some b25)) 2 (some b26)) 3 (some b27))))))), (b9, .inr (4, [.ref b48, .ref b49, .ref b50])), (b4, .inr (2, [.int 0, .int 1, .int 0, .ref b21, .ref b22, .ref b23])), (b50, .inl (G.2 0, 512, .inl (fun _ => (-1)))), (b68, .inl (G.2 1, 4, .inr (.inl (fun _ => 0)))), (b8, .inr (3, [.int 1, .int (-1), .int 0, .ref b28, .ref b29, .ref b30, .ref b31, .ref b32, .ref b33, .ref b34, .ref b35])), (b26, .inr (5, [.int 1, .int 0, .ref b63, .ref b64, .ref b65, .ref b66, .ref b67, .ref b68, .int 0, .ref b69, .ref b70, .ref b71, .ref b72, .ref b73, .ref b74])), (b73, .inl (G.2 0, 242, .inl (upd (fun _ => 0) 0 0)))] H := hP
        have hD := z_tie hP hD rfl
        refine W.widen (k := 0) (n := 0) (Nat.le_of_ble_eq_true rfl) (Nat.le_of_ble_eq_true rfl) ?_
        refine va_get (D := G.1) (ci := 5) (v := .int 0) (C := R_Machine) (T := F_Machine) (N := 15) hx hb hts i_Machine hown hK hP 17 rfl rfl 1 (by decide) (hts _ q169) (fun _ h9 => h9) rfl d_X_fit_55 ?_
        exact z_iret hx hb hr hlocks hP hD hS (Nat.le_of_ble_eq_true rfl) (Nat.le_of_ble_eq_true rfl) d_X_fit_58 (congrArg (fun z => some (Value.int z)) (by first | decide +kernel | (simp only [a_fit, li_2, li_2]; (first | rfl | (repeat (first | rw [if_pos (by omega)] | rw [if_neg (by omega)]))))))
      simp only [fa_lt, fa_le, fa_eq, Int32.toInt_toInt64, li_2] at hs_28
      obtain rfl : p0 = 3 := by simp only [fa_lt, fa_le, fa_eq, Int32.toInt_toInt64, li_3]; omega
      refine lv_aload_n hx hb d_X_fit_50 rfl (lv_at hl 0 rfl) ?_
      refine lv_iload_n hx hb d_X_fit_51 rfl (lv_at hl 1 rfl) ?_
      refine z_callV (index := 189) (As := [.int 3]) (rest := []) (wr := [(b20, .inl (G.2 0, 8, .inl (fun _ => (-1)))), (b24, .inr (5, [.int 0, .int 0, .ref b36, .ref b37, .ref b38, .ref b39, .ref b40, .ref b41, .int 0, .ref b42, .ref b43, .ref b44, .ref b45, .ref b46, .ref b47])), (b41, .inl (G.2 1, 4, .inr (.inl (fun _ => 0)))), (b46, .inl (G.2 0, 242, .inl (fun _ => 0))), (b25, .inr (5, [.int 0, .int 0, .ref b51, .ref b52, .ref b53, .ref b54, .ref b55, .ref b56, .int 0, .ref b57, .ref b58, .ref b59, .ref b60, .ref b61, .ref b62])), (b56, .inl (G.2 1, 4, .inr (.inl (fun _ => 0)))), (b61, .inl (G.2 0, 242, .inl (fun _ => 0))), (b26, .inr (5, [.int 0, .int 0, .ref b63, .ref b64, .ref b65, .ref b66, .ref b67, .ref b68, .int 0, .ref b69, .ref b70, .ref b71, .ref b72, .ref b73, .ref b74])), (b68, .inl (G.2 1, 4, .inr (.inl (fun _ => 0)))), (b73, .inl (G.2 0, 242, .inl (fun _ => 0)))]) Z (c4_X_machine l G (b0) (b3) (b4) (b5) (b6) (b7) (b8) (b9) (b10) (b11) (b12) (b13) (b14) (b15) (b16) (b17) (b18) (b19) (b20) (b24) (b25) (b26) (b27) (b28) (b29) (b30) (b31) (b32) (b33) (b34) (b35) (b21) (b22) (b23) (b75) (b76) (b77) (b78) (b79) (b80) (b81) (b82) (b83) (b84) (b85) (b86) (b48) (b49) (b50)) hl.1 q563 q565 qs2 q1 q566 ⟨by decide, by decide, by show _ = some 1; decide +kernel⟩ ⟨Nat.le_of_ble_eq_true rfl, Nat.le_of_ble_eq_true rfl⟩ ⟨Nat.le_of_ble_eq_true rfl, Nat.le_of_ble_eq_true rfl⟩ rfl (Nat.le_of_ble_eq_true rfl) d_X_fit_52 hP hD hS hA 0 0 rfl rfl rfl [0, 3, 4, 2, 16, 6, 7, 17, 18] [1, 5, 8, 9, 10, 11, 12, 13, 14, 15] rfl rfl rfl rfl (by decide) (fun v w1 H locs hw_30 hP hD hS => ?_)
      obtain ⟨rfl, rfl⟩ := hw_30
      have hP : va_P G.1 classes [(b20, .inl (G.2 0, 8, .inl (fun _ => (-1)))), (b24, .inr (5, [.int 0, .int 0, .ref b36, .ref b37, .ref b38, .ref b39, .ref b40, .ref b41, .int 0, .ref b42, .ref b43, .ref b44, .ref b45, .ref b46, .ref b47])), (b41, .inl (G.2 1, 4, .inr (.inl (fun _ => 0)))), (b46, .inl (G.2 0, 242, .inl (fun _ => 0))), (b25, .inr (5, [.int 0, .int 0, .ref b51, .ref b52, .ref b53, .ref b54, .ref b55, .ref b56, .int 0, .ref b57, .ref b58, .ref b59, .ref b60, .ref b61, .ref b62])), (b56, .inl (G.2 1, 4, .inr (.inl (fun _ => 0)))), (b61, .inl (G.2 0, 242, .inl (fun _ => 0))), (b26, .inr (5, [.int 0, .int 0, .ref b63, .ref b64, .ref b65, .ref b66, .ref b67, .ref b68, .int 0, .ref b69, .ref b70, .ref b71, .ref b72, .ref b73, .ref b74])), (b68, .inl (G.2 1, 4, .inr (.inl (fun _ => 0)))), (b73, .inl (G.2 0, 242, .inl (fun _ => 0))), (b0, .inr (0, [.ref b3, .ref b4, .ref b5, .ref b6, .int 0, .int 0, .ref b7, .ref b8, .ref b9, .ref b10, .ref b11, .ref b12, .ref b13, .ref b14, .ref b15, .ref b16, .ref b17, .ref b18, .ref b19, .ref b20])), (b10, .inl (G.2 6, 4, .inr (.inr (.inr (.inr (va_up (va_up (va_up (va_up (fun _ => none) 0 (some b24)) 1 (some b25)) 2 (some b26)) 3 (some b27))))))), (b9, .inr (4, [.ref b48, .ref b49, .ref b50])), (b4, .inr (2, [.int 0, .int 1, .int 0, .ref b21, .ref b22, .ref b23])), (b50, .inl (G.2 0, 512, .inl (fun _ => (-1)))), (b80, .inl (G.2 1, 4, .inr (.inl (fun _ => 0)))), (b8, .inr (3, [.int 1, .int (-1), .int 0, .ref b28, .ref b29, .ref b30, .ref b31, .ref b32, .ref b33, .ref b34, .ref b35])), (b27, .inr (5, [.int 1, .int 0, .ref b75, .ref b76, .ref b77, .ref b78, .ref b79, .ref b80, .int 0, .ref b81, .ref b82, .ref b83, .ref b84, .ref b85, .ref b86])), (b85, .inl (G.2 0, 242, .inl (upd (fun _ => 0) 0 0)))] H := hP
      have hD := z_tie hP hD rfl
      refine W.widen (k := 0) (n := 0) (Nat.le_of_ble_eq_true rfl) (Nat.le_of_ble_eq_true rfl) ?_
      refine va_get (D := G.1) (ci := 5) (v := .int 0) (C := R_Machine) (T := F_Machine) (N := 15) hx hb hts i_Machine hown hK hP 17 rfl rfl 1 (by decide) (hts _ q169) (fun _ h9 => h9) rfl d_X_fit_55 ?_
      exact z_iret hx hb hr hlocks hP hD hS (Nat.le_of_ble_eq_true rfl) (Nat.le_of_ble_eq_true rfl) d_X_fit_58 (congrArg (fun z => some (Value.int z)) (by first | decide +kernel | (simp only [a_fit, li_2, li_3]; (first | rfl | (repeat (first | rw [if_pos (by omega)] | rw [if_neg (by omega)]))))))
    simp only [fa_lt, fa_le, fa_eq, Int32.toInt_toInt64, li_2] at hs_23
    refine lv_tableOut (tgt := 59) hx hb d_X_fit_10 (by omega) (by decide) ?_
    refine lv_iconst (v := (-1)) hx hb d_X_fit_59 (by decide) ?_
    exact z_iret hx hb hr hlocks hP hD hS (Nat.le_of_ble_eq_true rfl) (Nat.le_of_ble_eq_true rfl) d_X_fit_60 (congrArg (fun z => some (Value.int z)) (by unfold a_fit; (first | rfl | (repeat (first | rw [if_pos (by omega)] | rw [if_neg (by omega)])))))
