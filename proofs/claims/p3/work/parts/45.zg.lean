abbrev m_s2_Follows_hashOf : Room := { frames := 0, cells := 0, slots := 0, locals := 0 }
set_option maxHeartbeats 4000000 in
set_option maxRecDepth 100000 in
theorem s2_Follows_hashOf (l : Launch) (G : zG) (b0 : Nat) (b1 : Int32) (b2 : Nat) (b3 : Nat) (b4 : Nat) (b5 : Nat → Int32) (b6 : Nat → Int32) (hb1 : zI b1 0 240) (hb5 : zqa qC b5) : zM l G y_Follows_hashOf prog_3_method_6_code 5 (Option.some Jvm.ClassFile.FieldType.int) m_s2_Follows_hashOf [.ref b0, .int b1] [(b0, .inr (4, [.ref b2, .ref b3, .ref b4])), (b2, .inl (G.2 0, 241, .inl b5)), (b3, .inl (G.2 0, 4820, .inl b6))] (fun v w => ∃ (e0 : Int32), v = some (.int e0) ∧ w = [(b0, .inr (4, [.ref b2, .ref b3, .ref b4])), (b2, .inl (G.2 0, 241, .inl b5)), (b3, .inl (G.2 0, 4820, .inl b6))] ∧ (e0 = yhf (20 * (0 + b1.toInt.toNat)) (b5 (0 + b1.toInt.toNat)) b6)) := by
  refine z_start (by decide +kernel) (Nat.le_of_ble_eq_true rfl) ?_
  intro p e s m below meth c A Z hr hnm hA hP hD hS ls hl
  have Z : zC p s m _ meth c prog_3_method_6_code 5 "TraceMachines$Follows" G := Z
  obtain ⟨hx, hb, hml, hown, hts, hK, hN, hlocks⟩ := id Z
  have hl : lv_has ls 5 [(0, .ref b0), (1, .int b1)] := hl
  refine lv_iconst (v := 0) hx hb d_Follows_hashOf_0 (by decide) ?_
  refine lv_istore_n (lv' := [(2, .int 0), (0, .ref b0), (1, .int b1)]) hx hb d_Follows_hashOf_1 rfl hl (by decide) rfl (fun ls hl => ?_)
  refine lv_iload_n hx hb d_Follows_hashOf_2 rfl (lv_at hl 2 rfl) ?_
  refine lv_bipush (v := 20) hx hb d_Follows_hashOf_3 (by decide) ?_
  refine lv_imul hx hb d_Follows_hashOf_5 ?_
  refine lv_topi (fun v_1 ev_1 => ?_)
  obtain ⟨qv_1, hv_1⟩ := zI_mul (l := 0) (h := 4800) hb1 zc_20 ev_1 (by decide)
  rw [li_20] at qv_1
  refine lv_istore_n (lv' := [(3, .int v_1), (2, .int 0), (0, .ref b0), (1, .int b1)]) hx hb d_Follows_hashOf_6 rfl hl (by decide) rfl (fun ls hl => ?_)
  refine lv_iload_n hx hb d_Follows_hashOf_7 rfl (lv_at hl 0 rfl) ?_
  refine lv_istore (lv' := [(4, .int v_1), (3, .int v_1), (2, .int 0), (0, .ref b0), (1, .int b1)]) hx hb d_Follows_hashOf_8 hl (by decide) rfl (fun ls hl => ?_)
  suffices key : ∀ (k_19 : Nat) (y_20 : Int32) (y_21 : Int32) (H : Heap) (locs : List Loc) (ls : Array Slot), (zI y_20 0 4820) → ((v_1 : Int32).toInt ≤ (y_20 : Int32).toInt) → (y_21 = yha (fun j9 => b6 ((v_1 : Int32).toInt.toNat + j9)) ((y_20 : Int32).toInt - (v_1 : Int32).toInt).toNat) → ((y_20 : Int32).toInt ≤ (v_1 : Int32).toInt + (b5 (0 + (b1 : Int32).toInt.toNat)).toInt) → (4820 : Int) - y_20.toInt < (k_19 : Int) → va_P G.1 classes [(b0, .inr (4, [.ref b2, .ref b3, .ref b4])), (b2, .inl (G.2 0, 241, .inl b5)), (b3, .inl (G.2 0, 4820, .inl b6))] H → va_D A [(b0, .inr (4, [.ref b2, .ref b3, .ref b4])), (b2, .inl (G.2 0, 241, .inl b5)), (b3, .inl (G.2 0, 4820, .inl b6))] → va_S A s.heap H locs → lv_has ls 5 [(4, .int y_20), (3, .int v_1), (2, .int y_21), (0, .ref b0), (1, .int b1)] → W p l e m_s2_Follows_hashOf s m ([.ref b0, .int b1] : List Value).toArray below meth c H locs 0 0 (MQ below (zQ G (fun v w => ∃ (e0 : Int32), v = some (.int e0) ∧ w = [(b0, .inr (4, [.ref b2, .ref b3, .ref b4])), (b2, .inl (G.2 0, 241, .inl b5)), (b3, .inl (G.2 0, 4820, .inl b6))] ∧ (e0 = yhf (20 * (0 + b1.toInt.toNat)) (b5 (0 + b1.toInt.toNat)) b6)) A) ([.ref b0, .int b1] : List Value).toArray s m_s2_Follows_hashOf.cells m_s2_Follows_hashOf.slots A) (F0 m 10 ls []) by
    exact key 4821 (v_1) (0) _ _ _ (zI.wk (l' := 0) (h' := 4820) hv_1 (by decide)) (by omega) (by rw [show (v_1.toInt - v_1.toInt).toNat = 0 by omega]; rfl) (by have a9 := (hb5 (0 + b1.toInt.toNat)).1.1; omega) (zm_upi (zI.wk (l' := 0) (h' := 4820) hv_1 (by decide)) (by decide)) hP hD hS (lv_sub hl [0, 1, 2, 3, 4] rfl)
  intro k_19
  induction k_19 with
  | zero =>
    intro y_20 y_21 H locs ls hy_20 hli_22 hli_23 hli_24 hmk_19 hP hD hS hl
    exact (zm_up0 hy_20 hmk_19).elim
  | succ k_19 ihk_19 =>
    intro y_20 y_21 H locs ls hy_20 hli_22 hli_23 hli_24 hmk_19 hP hD hS hl
    refine lv_iload hx hb d_Follows_hashOf_10 (lv_at hl 0 rfl) ?_
    refine lv_iload_n hx hb d_Follows_hashOf_12 rfl (lv_at hl 1 rfl) ?_
    refine lv_aload_n hx hb d_Follows_hashOf_13 rfl (lv_at hl 3 rfl) ?_
    refine va_get (D := G.1) (ci := 4) (v := .ref b2) (C := R_Follows) (T := F_Follows) (N := 3) hx hb hts i_Follows hown hK hP 0 rfl rfl 0 (by decide) (hts _ q146) (fun _ h9 => h9) rfl d_Follows_hashOf_14 ?_
    refine lv_iload_n hx hb d_Follows_hashOf_17 rfl (lv_at hl 4 rfl) ?_
    refine va_iald hx hb hK hP 1 0 rfl rfl (zI.inn hb1 (by decide)) d_Follows_hashOf_18 ?_
    refine lv_topi (fun v_25 ev_25 => ?_)
    obtain ⟨hv_25, kv_25⟩ := zQC.ld hb5 hb1 ev_25 (by decide)
    refine lv_iadd hx hb d_Follows_hashOf_19 ?_
    refine lv_topi (fun v_26 ev_26 => ?_)
    obtain ⟨qv_26, hv_26⟩ := zI_add (l := 0) (h := 5060) hv_1 hv_25 ev_26 (by decide)
    refine lv_icmp_ge (tgt := 44) hx hb d_Follows_hashOf_20 (by decide) (fun hc_27 => ?_) (fun hc_27 => ?_)
    · have _nhc_27 := hc_27
      have ni_28 := (fa_le _ _).mp hc_27
      have hv_29 : zI v_26 0 4820 := zI.le_l hv_26 hy_20 hc_27 (by decide)
      refine lv_iload_n hx hb d_Follows_hashOf_44 rfl (lv_at hl 2 rfl) ?_
      refine lv_iload_n hx hb d_Follows_hashOf_45 rfl (lv_at hl 2 rfl) ?_
      refine lv_bipush (v := 9) hx hb d_Follows_hashOf_46 (by decide) ?_
      obtain ⟨v_30, ev_30⟩ : ∃ z : Int32, z = ((y_21).toUInt32 >>> ((9 : Int32).toUInt32 &&& Int32.toUInt32 31)).toInt32 := ⟨_, rfl⟩
      refine lv_iushr (v := v_30) hx hb d_Follows_hashOf_48 ev_30.symm ?_
      refine lv_ixor hx hb d_Follows_hashOf_49 ?_
      refine lv_topi (fun v_31 ev_31 => ?_)
      exact z_iret hx hb hr hlocks hP hD hS (Nat.le_of_ble_eq_true rfl) (Nat.le_of_ble_eq_true rfl) d_Follows_hashOf_50 ⟨v_31, rfl, rfl, (by have j9 := hli_23; have c9 := ev_25; rw [z_plf hb1 (by decide), show b1.toInt.toNat = 0 + b1.toInt.toNat by omega] at c9; have d9 := congrArg Int32.toInt c9; unfold yhf; rw [← c9, show 20 * (0 + b1.toInt.toNat) = v_1.toInt.toNat by omega, show v_25.toInt.toNat = (y_20.toInt - v_1.toInt).toNat by omega, ← j9, ev_31, ev_30]; rfl)⟩
    · have _nhc_27 := hc_27
      have ni_32 := (fa_lt _ _).mp (zi_nle hc_27)
      have hv_33 : zI v_26 1 5060 := zI.lt_r hy_20 hv_26 (zi_nle hc_27) (by decide)
      refine lv_bipush (v := 31) hx hb d_Follows_hashOf_23 (by decide) ?_
      refine lv_iload_n hx hb d_Follows_hashOf_25 rfl (lv_at hl 2 rfl) ?_
      refine lv_imul hx hb d_Follows_hashOf_26 ?_
      refine lv_topi (fun v_34 ev_34 => ?_)
      refine lv_aload_n hx hb d_Follows_hashOf_27 rfl (lv_at hl 3 rfl) ?_
      refine va_get (D := G.1) (ci := 4) (v := .ref b3) (C := R_Follows) (T := F_Follows) (N := 3) hx hb hts i_Follows hown hK hP 0 rfl rfl 1 (by decide) (hts _ q148) (fun _ h9 => h9) rfl d_Follows_hashOf_28 ?_
      refine lv_iload hx hb d_Follows_hashOf_31 (lv_at hl 0 rfl) ?_
      have hv_35 : zI y_20 0 4819 := ⟨by omega, by omega⟩
      refine va_iald hx hb hK hP 2 0 rfl rfl (zI.inn hv_35 (by decide)) d_Follows_hashOf_33 ?_
      refine lv_topi (fun v_36 ev_36 => ?_)
      refine lv_iadd hx hb d_Follows_hashOf_34 ?_
      refine lv_topi (fun v_37 ev_37 => ?_)
      refine lv_iconst (v := 1) hx hb d_Follows_hashOf_35 (by decide) ?_
      refine lv_iadd hx hb d_Follows_hashOf_36 ?_
      refine lv_topi (fun v_38 ev_38 => ?_)
      refine lv_istore_n (lv' := [(2, .int v_38), (4, .int y_20), (3, .int v_1), (0, .ref b0), (1, .int b1)]) hx hb d_Follows_hashOf_37 rfl hl (by decide) rfl (fun ls hl => ?_)
      obtain ⟨v_39, ev_39⟩ : ∃ z : Int32, z = y_20 + 1 := ⟨_, rfl⟩
      obtain ⟨qv_39, hv_39⟩ := zI_add (l := 1) (h := 4820) hv_35 zc_1 ev_39 (by decide)
      rw [li_1] at qv_39
      refine lv_iinc (v := v_39) (lv' := [(4, .int v_39), (2, .int v_38), (3, .int v_1), (0, .ref b0), (1, .int b1)]) hx hb d_Follows_hashOf_38 hl (k := 1) rfl (by rw [ev_39]; rfl) (by decide) rfl (fun ls hl => ?_)
      refine lv_goto (tgt := 10) hx hb d_Follows_hashOf_41 (by decide) ?_
      exact ihk_19 (v_39) (v_38) _ _ _ (zI.wk (l' := 0) (h' := 4820) hv_39 (by decide)) (by omega) (by rw [show (v_39.toInt - v_1.toInt).toNat = (y_20.toInt - v_1.toInt).toNat + 1 by omega]; show _ = 31 * yha _ _ + b6 (v_1.toInt.toNat + (y_20.toInt - v_1.toInt).toNat) + 1; rw [← hli_23, ev_38, ev_37, ev_34, ev_36, z_plf hv_35 (by decide), show v_1.toInt.toNat + (y_20.toInt - v_1.toInt).toNat = y_20.toInt.toNat by omega]) (by have c9 := congrArg Int32.toInt ev_25; rw [z_plf hb1 (by decide), show b1.toInt.toNat = 0 + b1.toInt.toNat by omega] at c9; omega) (zm_up qv_39 hmk_19 (by decide)) hP hD hS (lv_sub hl [0, 2, 1, 3, 4] rfl)
abbrev m_s2_Follows_isLike : Room := { frames := 0, cells := 0, slots := 0, locals := 0 }
set_option maxHeartbeats 4000000 in
set_option maxRecDepth 100000 in
theorem s2_Follows_isLike (l : Launch) (G : zG) (b0 : Nat) (b1 : Int32) (b2 : Int32) (b3 : Nat) (b4 : Nat) (b5 : Nat) (b6 : Nat → Int32) (b7 : Nat → Int32) (hb1 : zI b1 0 240) (hb2 : zI b2 0 240) (hb6 : zqa qC b6) : zM l G y_Follows_isLike prog_3_method_7_code 4 (Option.some Jvm.ClassFile.FieldType.boolean) m_s2_Follows_isLike [.ref b0, .int b1, .int b2] [(b0, .inr (4, [.ref b3, .ref b4, .ref b5])), (b3, .inl (G.2 0, 241, .inl b6)), (b4, .inl (G.2 0, 4820, .inl b7))] (fun v w => ∃ (e0 : Int32), v = some (.int e0) ∧ w = [(b0, .inr (4, [.ref b3, .ref b4, .ref b5])), (b3, .inl (G.2 0, 241, .inl b6)), (b4, .inl (G.2 0, 4820, .inl b7))] ∧ (zI e0 0 1) ∧ ((e0 : Int32).toInt = 1 ∧ yLk (20 * (0 + b1.toInt.toNat)) (20 * (0 + b2.toInt.toNat)) (b6 (0 + (b1).toInt.toNat)).toInt (b6 (0 + (b2).toInt.toNat)).toInt b7 ∨ (e0 : Int32).toInt = 0 ∧ ¬ yLk (20 * (0 + b1.toInt.toNat)) (20 * (0 + b2.toInt.toNat)) (b6 (0 + (b1).toInt.toNat)).toInt (b6 (0 + (b2).toInt.toNat)).toInt b7)) := by
  refine z_start (by decide +kernel) (Nat.le_of_ble_eq_true rfl) ?_
  intro p e s m below meth c A Z hr hnm hA hP hD hS ls hl
  have Z : zC p s m _ meth c prog_3_method_7_code 4 "TraceMachines$Follows" G := Z
  obtain ⟨hx, hb, hml, hown, hts, hK, hN, hlocks⟩ := id Z
  have hl : lv_has ls 4 [(0, .ref b0), (1, .int b1), (2, .int b2)] := hl
  refine lv_aload_n hx hb d_Follows_isLike_0 rfl (lv_at hl 0 rfl) ?_
  refine va_get (D := G.1) (ci := 4) (v := .ref b3) (C := R_Follows) (T := F_Follows) (N := 3) hx hb hts i_Follows hown hK hP 0 rfl rfl 0 (by decide) (hts _ q146) (fun _ h9 => h9) rfl d_Follows_isLike_1 ?_
  refine lv_iload_n hx hb d_Follows_isLike_4 rfl (lv_at hl 1 rfl) ?_
  refine va_iald hx hb hK hP 1 0 rfl rfl (zI.inn hb1 (by decide)) d_Follows_isLike_5 ?_
  refine lv_topi (fun v_1 ev_1 => ?_)
  obtain ⟨hv_1, kv_1⟩ := zQC.ld hb6 hb1 ev_1 (by decide)
  refine lv_aload_n hx hb d_Follows_isLike_6 rfl (lv_at hl 0 rfl) ?_
  refine va_get (D := G.1) (ci := 4) (v := .ref b3) (C := R_Follows) (T := F_Follows) (N := 3) hx hb hts i_Follows hown hK hP 0 rfl rfl 0 (by decide) (hts _ q146) (fun _ h9 => h9) rfl d_Follows_isLike_7 ?_
  refine lv_iload_n hx hb d_Follows_isLike_10 rfl (lv_at hl 2 rfl) ?_
  refine va_iald hx hb hK hP 1 0 rfl rfl (zI.inn hb2 (by decide)) d_Follows_isLike_11 ?_
  refine lv_topi (fun v_2 ev_2 => ?_)
  obtain ⟨hv_2, kv_2⟩ := zQC.ld hb6 hb2 ev_2 (by decide)
  refine lv_icmp_eq (tgt := 17) hx hb d_Follows_isLike_12 (by decide) (fun hc_3 => ?_) (fun hc_3 => ?_)
  · have _nhc_3 := hc_3
    have ni_4 := (fa_eq _ _).mp hc_3
    refine lv_iconst (v := 0) hx hb d_Follows_isLike_17 (by decide) ?_
    refine lv_istore_n (lv' := [(3, .int 0), (0, .ref b0), (1, .int b1), (2, .int b2)]) hx hb d_Follows_isLike_18 rfl hl (by decide) rfl (fun ls hl => ?_)
    suffices key : ∀ (k_24 : Nat) (y_25 : Int32) (H : Heap) (locs : List Loc) (ls : Array Slot), (zI y_25 0 260) → (∀ j : Nat, (j : Int) < (y_25 : Int32).toInt → b7 (20 * (0 + (b1 : Int32).toInt.toNat) + j) = b7 (20 * (0 + (b2 : Int32).toInt.toNat) + j)) → (260 : Int) - y_25.toInt < (k_24 : Int) → va_P G.1 classes [(b0, .inr (4, [.ref b3, .ref b4, .ref b5])), (b3, .inl (G.2 0, 241, .inl b6)), (b4, .inl (G.2 0, 4820, .inl b7))] H → va_D A [(b0, .inr (4, [.ref b3, .ref b4, .ref b5])), (b3, .inl (G.2 0, 241, .inl b6)), (b4, .inl (G.2 0, 4820, .inl b7))] → va_S A s.heap H locs → lv_has ls 4 [(3, .int y_25), (0, .ref b0), (1, .int b1), (2, .int b2)] → W p l e m_s2_Follows_isLike s m ([.ref b0, .int b1, .int b2] : List Value).toArray below meth c H locs 0 0 (MQ below (zQ G (fun v w => ∃ (e0 : Int32), v = some (.int e0) ∧ w = [(b0, .inr (4, [.ref b3, .ref b4, .ref b5])), (b3, .inl (G.2 0, 241, .inl b6)), (b4, .inl (G.2 0, 4820, .inl b7))] ∧ (zI e0 0 1) ∧ ((e0 : Int32).toInt = 1 ∧ yLk (20 * (0 + b1.toInt.toNat)) (20 * (0 + b2.toInt.toNat)) (b6 (0 + (b1).toInt.toNat)).toInt (b6 (0 + (b2).toInt.toNat)).toInt b7 ∨ (e0 : Int32).toInt = 0 ∧ ¬ yLk (20 * (0 + b1.toInt.toNat)) (20 * (0 + b2.toInt.toNat)) (b6 (0 + (b1).toInt.toNat)).toInt (b6 (0 + (b2).toInt.toNat)).toInt b7)) A) ([.ref b0, .int b1, .int b2] : List Value).toArray s m_s2_Follows_isLike.cells m_s2_Follows_isLike.slots A) (F0 m 19 ls []) by
      exact key 261 (0) _ _ _ (zI.wk (l' := 0) (h' := 260) zc_0 (by decide)) (by have _l := li_0; intro j hj; exfalso; omega) (zm_upi (zI.wk (l' := 0) (h' := 260) zc_0 (by decide)) (by decide)) hP hD hS (lv_sub hl [0, 1, 2, 3] rfl)
    intro k_24
    induction k_24 with
    | zero =>
      intro y_25 H locs ls hy_25 hli_26 hmk_24 hP hD hS hl
      exact (zm_up0 hy_25 hmk_24).elim
    | succ k_24 ihk_24 =>
      intro y_25 H locs ls hy_25 hli_26 hmk_24 hP hD hS hl
      refine lv_iload_n hx hb d_Follows_isLike_19 rfl (lv_at hl 0 rfl) ?_
      refine lv_aload_n hx hb d_Follows_isLike_20 rfl (lv_at hl 1 rfl) ?_
      refine va_get (D := G.1) (ci := 4) (v := .ref b3) (C := R_Follows) (T := F_Follows) (N := 3) hx hb hts i_Follows hown hK hP 0 rfl rfl 0 (by decide) (hts _ q146) (fun _ h9 => h9) rfl d_Follows_isLike_21 ?_
      refine lv_iload_n hx hb d_Follows_isLike_24 rfl (lv_at hl 2 rfl) ?_
      refine va_iald hx hb hK hP 1 0 rfl rfl (zI.inn hb1 (by decide)) d_Follows_isLike_25 ?_
      refine lv_topi (fun v_27 ev_27 => ?_)
      obtain rfl : v_1 = v_27 := ev_1.trans ev_27.symm
      refine lv_icmp_ge (tgt := 62) hx hb d_Follows_isLike_26 (by decide) (fun hc_28 => ?_) (fun hc_28 => ?_)
      · have _nhc_28 := hc_28
        have ni_29 := (fa_le _ _).mp hc_28
        refine lv_iconst (v := 1) hx hb d_Follows_isLike_62 (by decide) ?_
        exact z_zret hx hb hr hlocks rfl hP hD hS (Nat.le_of_ble_eq_true rfl) (Nat.le_of_ble_eq_true rfl) d_Follows_isLike_63 ⟨1, rfl, rfl, (zI.wk (l' := 0) (h' := 1) zc_1 (by decide)), (by have c1_ := congrArg Int32.toInt ev_1; rw [z_plf hb1 (by decide), show b1.toInt.toNat = 0 + b1.toInt.toNat by omega] at c1_; have c2_ := congrArg Int32.toInt ev_2; rw [z_plf hb2 (by decide), show b2.toInt.toNat = 0 + b2.toInt.toNat by omega] at c2_; exact Or.inl ⟨li_1, by omega, fun j hj => hli_26 j (by omega)⟩)⟩
      · have _nhc_28 := hc_28
        have ni_30 := (fa_lt _ _).mp (zi_nle hc_28)
        have hv_31 : zI y_25 0 259 := zI.lt_l hy_25 hv_1 (zi_nle hc_28) (by decide)
        have hv_32 : zI v_1 1 260 := zI.lt_r hy_25 hv_1 (zi_nle hc_28) (by decide)
        refine lv_aload_n hx hb d_Follows_isLike_29 rfl (lv_at hl 1 rfl) ?_
        refine va_get (D := G.1) (ci := 4) (v := .ref b4) (C := R_Follows) (T := F_Follows) (N := 3) hx hb hts i_Follows hown hK hP 0 rfl rfl 1 (by decide) (hts _ q148) (fun _ h9 => h9) rfl d_Follows_isLike_30 ?_
        refine lv_iload_n hx hb d_Follows_isLike_33 rfl (lv_at hl 2 rfl) ?_
        refine lv_bipush (v := 20) hx hb d_Follows_isLike_34 (by decide) ?_
        refine lv_imul hx hb d_Follows_isLike_36 ?_
        refine lv_topi (fun v_33 ev_33 => ?_)
        obtain ⟨qv_33, hv_33⟩ := zI_mul (l := 0) (h := 4800) hb1 zc_20 ev_33 (by decide)
        rw [li_20] at qv_33
        refine lv_iload_n hx hb d_Follows_isLike_37 rfl (lv_at hl 0 rfl) ?_
        refine lv_iadd hx hb d_Follows_isLike_38 ?_
        refine lv_topi (fun v_34 ev_34 => ?_)
        obtain ⟨qv_34, hv_34⟩ := zI_add (l := 0) (h := 5059) hv_33 hv_31 ev_34 (by decide)
        have hv_35 : zI v_34 0 4819 := ⟨by omega, by omega⟩
        refine va_iald hx hb hK hP 2 0 rfl rfl (zI.inn hv_35 (by decide)) d_Follows_isLike_39 ?_
        refine lv_topi (fun v_36 ev_36 => ?_)
        refine lv_aload_n hx hb d_Follows_isLike_40 rfl (lv_at hl 1 rfl) ?_
        refine va_get (D := G.1) (ci := 4) (v := .ref b4) (C := R_Follows) (T := F_Follows) (N := 3) hx hb hts i_Follows hown hK hP 0 rfl rfl 1 (by decide) (hts _ q148) (fun _ h9 => h9) rfl d_Follows_isLike_41 ?_
        refine lv_iload_n hx hb d_Follows_isLike_44 rfl (lv_at hl 3 rfl) ?_
        refine lv_bipush (v := 20) hx hb d_Follows_isLike_45 (by decide) ?_
        refine lv_imul hx hb d_Follows_isLike_47 ?_
        refine lv_topi (fun v_37 ev_37 => ?_)
        obtain ⟨qv_37, hv_37⟩ := zI_mul (l := 0) (h := 4800) hb2 zc_20 ev_37 (by decide)
        rw [li_20] at qv_37
        refine lv_iload_n hx hb d_Follows_isLike_48 rfl (lv_at hl 0 rfl) ?_
        refine lv_iadd hx hb d_Follows_isLike_49 ?_
        refine lv_topi (fun v_38 ev_38 => ?_)
        obtain ⟨qv_38, hv_38⟩ := zI_add (l := 0) (h := 5059) hv_37 hv_31 ev_38 (by decide)
        have hv_39 : zI v_38 0 4819 := ⟨by omega, by omega⟩
        refine va_iald hx hb hK hP 2 0 rfl rfl (zI.inn hv_39 (by decide)) d_Follows_isLike_50 ?_
        refine lv_topi (fun v_40 ev_40 => ?_)
        refine lv_icmp_eq (tgt := 56) hx hb d_Follows_isLike_51 (by decide) (fun hc_41 => ?_) (fun hc_41 => ?_)
        · have _nhc_41 := hc_41
          have ni_42 := (fa_eq _ _).mp hc_41
          obtain ⟨v_43, ev_43⟩ : ∃ z : Int32, z = y_25 + 1 := ⟨_, rfl⟩
          obtain ⟨qv_43, hv_43⟩ := zI_add (l := 1) (h := 260) hv_31 zc_1 ev_43 (by decide)
          rw [li_1] at qv_43
          refine lv_iinc (v := v_43) (lv' := [(3, .int v_43), (0, .ref b0), (1, .int b1), (2, .int b2)]) hx hb d_Follows_isLike_56 hl (k := 0) rfl (by rw [ev_43]; rfl) (by decide) rfl (fun ls hl => ?_)
          refine lv_goto (tgt := 19) hx hb d_Follows_isLike_59 (by decide) ?_
          exact ihk_24 (v_43) _ _ _ (zI.wk (l' := 0) (h' := 260) hv_43 (by decide)) (by have p9 := z_pl hv_35 (by decide); have p8 := z_pl hv_39 (by decide); intro j hj; by_cases c9 : (j : Int) < y_25.toInt; exact hli_26 j c9; rw [show 20 * (0 + b1.toInt.toNat) + j = v_34.toNatClampNeg by omega, show 20 * (0 + b2.toInt.toNat) + j = v_38.toNatClampNeg by omega, ← ev_36, ← ev_40, fa_eq]; omega) (zm_up qv_43 hmk_24 (by decide)) hP hD hS (lv_sub hl [0, 1, 2, 3] rfl)
        · have _nhc_41 := hc_41
          have ni_44 : ¬ (v_36 : Int32).toInt = (v_40 : Int32).toInt := fun z => hc_41 ((fa_eq _ _).mpr z)
          refine lv_iconst (v := 0) hx hb d_Follows_isLike_54 (by decide) ?_
          exact z_zret hx hb hr hlocks rfl hP hD hS (Nat.le_of_ble_eq_true rfl) (Nat.le_of_ble_eq_true rfl) d_Follows_isLike_55 ⟨0, rfl, rfl, (zI.wk (l' := 0) (h' := 1) zc_0 (by decide)), (by have c1_ := congrArg Int32.toInt ev_1; rw [z_plf hb1 (by decide), show b1.toInt.toNat = 0 + b1.toInt.toNat by omega] at c1_; have c2_ := congrArg Int32.toInt ev_2; rw [z_plf hb2 (by decide), show b2.toInt.toNat = 0 + b2.toInt.toNat by omega] at c2_; have p9 := z_pl hv_35 (by decide); have p8 := z_pl hv_39 (by decide); exact Or.inr ⟨li_0, fun h9 => by have h8 := congrArg Int32.toInt (h9.2 y_25.toInt.toNat (by omega)); rw [show 20 * (0 + b1.toInt.toNat) + y_25.toInt.toNat = v_34.toNatClampNeg by omega, show 20 * (0 + b2.toInt.toNat) + y_25.toInt.toNat = v_38.toNatClampNeg by omega, ← ev_36, ← ev_40] at h8; omega⟩)⟩
  · have _nhc_3 := hc_3
    have ni_45 : ¬ (v_1 : Int32).toInt = (v_2 : Int32).toInt := fun z => hc_3 ((fa_eq _ _).mpr z)
    refine lv_iconst (v := 0) hx hb d_Follows_isLike_15 (by decide) ?_
    exact z_zret hx hb hr hlocks rfl hP hD hS (Nat.le_of_ble_eq_true rfl) (Nat.le_of_ble_eq_true rfl) d_Follows_isLike_16 ⟨0, rfl, rfl, (zI.wk (l' := 0) (h' := 1) zc_0 (by decide)), (by have c1_ := congrArg Int32.toInt ev_1; rw [z_plf hb1 (by decide), show b1.toInt.toNat = 0 + b1.toInt.toNat by omega] at c1_; have c2_ := congrArg Int32.toInt ev_2; rw [z_plf hb2 (by decide), show b2.toInt.toNat = 0 + b2.toInt.toNat by omega] at c2_; exact Or.inr ⟨li_0, fun h9 => by have h8 := h9.1; omega⟩)⟩
abbrev m_s2_Follows_firstLike : Room := { frames := 1, cells := 0, slots := 0, locals := 24 }
set_option maxHeartbeats 4000000 in
set_option maxRecDepth 100000 in
theorem s2_Follows_firstLike (l : Launch) (G : zG) (b0 : Nat) (b1 : Int32) (b2 : Nat) (b3 : Nat) (b4 : Nat) (b5 : Nat → Int32) (b6 : Nat → Int32) (b7 : Nat → Int32) (hb1 : zI b1 0 240) (hb5 : zqa qC b5) (hb7 : zR b7 (-1) 240) : zM l G y_Follows_firstLike prog_3_method_5_code 6 (Option.some Jvm.ClassFile.FieldType.int) m_s2_Follows_firstLike [.ref b0, .int b1] [(b0, .inr (4, [.ref b2, .ref b3, .ref b4])), (b2, .inl (G.2 0, 241, .inl b5)), (b3, .inl (G.2 0, 4820, .inl b6)), (b4, .inl (G.2 0, 512, .inl b7))] (fun v w => ∃ (e0 : Int32), ∃ (e1 : Nat → Int32), v = some (.int e0) ∧ w = [(b0, .inr (4, [.ref b2, .ref b3, .ref b4])), (b2, .inl (G.2 0, 241, .inl b5)), (b3, .inl (G.2 0, 4820, .inl b6)), (b4, .inl (G.2 0, 512, .inl e1))] ∧ (zI e0 0 240) ∧ (zR e1 (-1) 240) ∧ (yFL (yhf (20 * (0 + b1.toInt.toNat)) (b5 (0 + b1.toInt.toNat)) b6) b1 (fun q9 => yLk (20 * (0 + (b1 : Int32).toInt.toNat)) (20 * (0 + q9)) (b5 (0 + (b1 : Int32).toInt.toNat)).toInt (b5 (0 + q9)).toInt b6) b7 e1 e0)) := by
  refine z_start (by decide +kernel) (Nat.le_of_ble_eq_true rfl) ?_
  intro p e s m below meth c A Z hr hnm hA hP hD hS ls hl
  have Z : zC p s m _ meth c prog_3_method_5_code 6 "TraceMachines$Follows" G := Z
  obtain ⟨hx, hb, hml, hown, hts, hK, hN, hlocks⟩ := id Z
  have hl : lv_has ls 6 [(0, .ref b0), (1, .int b1)] := hl
  refine lv_aload_n hx hb d_Follows_firstLike_0 rfl (lv_at hl 0 rfl) ?_
  refine lv_iload_n hx hb d_Follows_firstLike_1 rfl (lv_at hl 1 rfl) ?_
  refine z_callV (index := 59) (As := [.int b1]) (rest := []) (wr := [(b4, .inl (G.2 0, 512, .inl b7))]) Z (s2_Follows_hashOf l G (b0) (b1) (b2) (b3) (b4) (b5) (b6) hb1 hb5) hl.1 q629 q631 qs8 q5 q632 ⟨by decide, by decide, by show _ = some 1; decide +kernel⟩ ⟨Nat.le_of_ble_eq_true rfl, Nat.le_of_ble_eq_true rfl⟩ ⟨Nat.le_of_ble_eq_true rfl, Nat.le_of_ble_eq_true rfl⟩ rfl (Nat.le_of_ble_eq_true rfl) d_Follows_firstLike_2 hP hD hS hA 0 4 rfl rfl rfl [0, 1, 2] [3] rfl rfl rfl rfl (by decide) (fun v w1 H locs hw_1 hP hD hS => ?_)
  obtain ⟨x_2, rfl, rfl, hfx_3⟩ := hw_1
  have hP : va_P G.1 classes [(b4, .inl (G.2 0, 512, .inl b7)), (b0, .inr (4, [.ref b2, .ref b3, .ref b4])), (b2, .inl (G.2 0, 241, .inl b5)), (b3, .inl (G.2 0, 4820, .inl b6))] H := hP
  have hD := z_tie hP hD rfl
  refine W.widen (k := 0) (n := 0) (Nat.le_of_ble_eq_true rfl) (Nat.le_of_ble_eq_true rfl) ?_
  refine lv_istore_n (lv' := [(2, .int x_2), (0, .ref b0), (1, .int b1)]) hx hb d_Follows_firstLike_5 rfl hl (by decide) rfl (fun ls hl => ?_)
  refine lv_iconst (v := 0) hx hb d_Follows_firstLike_6 (by decide) ?_
  refine lv_istore_n (lv' := [(3, .int 0), (2, .int x_2), (0, .ref b0), (1, .int b1)]) hx hb d_Follows_firstLike_7 rfl hl (by decide) rfl (fun ls hl => ?_)
  suffices key : ∀ (k_28 : Nat) (y_29 : Int32) (H : Heap) (locs : List Loc) (ls : Array Slot), (zI y_29 0 512) → (∀ j : Nat, (j : Int) < (y_29 : Int32).toInt → ¬ (b7 (ysl x_2 j)).toInt = -1 ∧ ¬ (fun q9 => yLk (20 * (0 + (b1 : Int32).toInt.toNat)) (20 * (0 + q9)) (b5 (0 + (b1 : Int32).toInt.toNat)).toInt (b5 (0 + q9)).toInt b6) (b7 (ysl x_2 j)).toInt.toNat) → (512 : Int) - y_29.toInt < (k_28 : Int) → va_P G.1 classes [(b4, .inl (G.2 0, 512, .inl b7)), (b0, .inr (4, [.ref b2, .ref b3, .ref b4])), (b2, .inl (G.2 0, 241, .inl b5)), (b3, .inl (G.2 0, 4820, .inl b6))] H → va_D A [(b4, .inl (G.2 0, 512, .inl b7)), (b0, .inr (4, [.ref b2, .ref b3, .ref b4])), (b2, .inl (G.2 0, 241, .inl b5)), (b3, .inl (G.2 0, 4820, .inl b6))] → va_S A s.heap H locs → lv_has ls 6 [(3, .int y_29), (2, .int x_2), (0, .ref b0), (1, .int b1)] → W p l e m_s2_Follows_firstLike s m ([.ref b0, .int b1] : List Value).toArray below meth c H locs 0 0 (MQ below (zQ G (fun v w => ∃ (e0 : Int32), ∃ (e1 : Nat → Int32), v = some (.int e0) ∧ w = [(b0, .inr (4, [.ref b2, .ref b3, .ref b4])), (b2, .inl (G.2 0, 241, .inl b5)), (b3, .inl (G.2 0, 4820, .inl b6)), (b4, .inl (G.2 0, 512, .inl e1))] ∧ (zI e0 0 240) ∧ (zR e1 (-1) 240) ∧ (yFL (yhf (20 * (0 + b1.toInt.toNat)) (b5 (0 + b1.toInt.toNat)) b6) b1 (fun q9 => yLk (20 * (0 + (b1 : Int32).toInt.toNat)) (20 * (0 + q9)) (b5 (0 + (b1 : Int32).toInt.toNat)).toInt (b5 (0 + q9)).toInt b6) b7 e1 e0)) A) ([.ref b0, .int b1] : List Value).toArray s m_s2_Follows_firstLike.cells m_s2_Follows_firstLike.slots A) (F0 m 8 ls []) by
    exact key 513 (0) _ _ _ (zI.wk (l' := 0) (h' := 512) zc_0 (by decide)) (by have _l := li_0; intro j hj; exfalso; omega) (zm_upi (zI.wk (l' := 0) (h' := 512) zc_0 (by decide)) (by decide)) hP hD hS (lv_sub hl [0, 1, 2, 3] rfl)
  intro k_28
  induction k_28 with
  | zero =>
    intro y_29 H locs ls hy_29 hli_30 hmk_28 hP hD hS hl
    exact (zm_up0 hy_29 hmk_28).elim
  | succ k_28 ihk_28 =>
    intro y_29 H locs ls hy_29 hli_30 hmk_28 hP hD hS hl
    refine lv_iload_n hx hb d_Follows_firstLike_8 rfl (lv_at hl 0 rfl) ?_
    refine lv_sipush (v := 512) hx hb d_Follows_firstLike_9 (by decide) ?_
    refine lv_icmp_ge (tgt := 68) hx hb d_Follows_firstLike_12 (by decide) (fun hc_31 => ?_) (fun hc_31 => ?_)
    · have _nhc_31 := hc_31
      have ni_32 := (fa_le _ _).mp hc_31
      rw [li_512] at ni_32
      have hv_33 : zI y_29 512 512 := zI.le_r zc_512 hy_29 hc_31 (by decide)
      refine lv_iload_n hx hb d_Follows_firstLike_68 rfl (lv_at hl 3 rfl) ?_
      exact z_iret hx hb hr hlocks (hP.sub [1, 2, 3, 0] rfl) (hD.sub [1, 2, 3, 0] (by decide) rfl) hS (Nat.le_of_ble_eq_true rfl) (Nat.le_of_ble_eq_true rfl) d_Follows_firstLike_69 ⟨b1, b7, rfl, rfl, hb1, hb7, (by rw [← hfx_3]; refine ⟨y_29.toInt.toNat, by omega, fun j hj => hli_30 j (by omega), ?_⟩; exact Or.inr (Or.inr ⟨by omega, rfl, rfl⟩))⟩
    · have _nhc_31 := hc_31
      have ni_34 := (fa_lt _ _).mp (zi_nle hc_31)
      rw [li_512] at ni_34
      have hv_35 : zI y_29 0 511 := zI.lt_l hy_29 zc_512 (zi_nle hc_31) (by decide)
      refine lv_iload_n hx hb d_Follows_firstLike_15 rfl (lv_at hl 1 rfl) ?_
      refine lv_iload_n hx hb d_Follows_firstLike_16 rfl (lv_at hl 0 rfl) ?_
      refine lv_iadd hx hb d_Follows_firstLike_17 ?_
      refine lv_topi (fun v_36 ev_36 => ?_)
      refine lv_sipush (v := 511) hx hb d_Follows_firstLike_18 (by decide) ?_
      refine lv_iand hx hb d_Follows_firstLike_21 ?_
      refine lv_topi (fun v_37 ev_37 => ?_)
      have hv_37 := zI_and (k := 9) (h := 511) (by decide +kernel) ev_37 (by decide)
      refine lv_istore (lv' := [(4, .int v_37), (3, .int y_29), (2, .int x_2), (0, .ref b0), (1, .int b1)]) hx hb d_Follows_firstLike_22 hl (by decide) rfl (fun ls hl => ?_)
      refine lv_aload_n hx hb d_Follows_firstLike_24 rfl (lv_at hl 3 rfl) ?_
      refine va_get (D := G.1) (ci := 4) (v := .ref b4) (C := R_Follows) (T := F_Follows) (N := 3) hx hb hts i_Follows hown hK hP 1 rfl rfl 2 (by decide) (hts _ q149) (fun _ h9 => h9) rfl d_Follows_firstLike_25 ?_
      refine lv_iload hx hb d_Follows_firstLike_28 (lv_at hl 0 rfl) ?_
      refine va_iald hx hb hK hP 0 0 rfl rfl (zI.inn hv_37 (by decide)) d_Follows_firstLike_30 ?_
      refine lv_topi (fun v_38 ev_38 => ?_)
      have hv_38 : zI v_38 (-1) 240 := (hb7 _).eq ev_38
      refine lv_istore (lv' := [(5, .int v_38), (4, .int v_37), (3, .int y_29), (2, .int x_2), (0, .ref b0), (1, .int b1)]) hx hb d_Follows_firstLike_31 hl (by decide) rfl (fun ls hl => ?_)
      refine lv_iload hx hb d_Follows_firstLike_33 (lv_at hl 0 rfl) ?_
      refine lv_iconst (v := (-1)) hx hb d_Follows_firstLike_35 (by decide) ?_
      refine lv_icmp_ne (tgt := 49) hx hb d_Follows_firstLike_36 (by decide) (fun hc_39 => ?_) (fun hc_39 => ?_)
      · have _nhc_39 := hc_39
        have ni_40 : ¬ (v_38 : Int32).toInt = ((-1) : Int32).toInt := fun z => hc_39 ((fa_eq _ _).mpr z)
        simp only [li_m1] at ni_40
        have hv_41 : zI v_38 0 240 := zI.ne_lo hv_38 zc_m1 hc_39 (by decide)
        refine lv_aload_n hx hb d_Follows_firstLike_49 rfl (lv_at hl 4 rfl) ?_
        refine lv_iload_n hx hb d_Follows_firstLike_50 rfl (lv_at hl 5 rfl) ?_
        refine lv_iload hx hb d_Follows_firstLike_51 (lv_at hl 0 rfl) ?_
        refine z_callV (index := 63) (As := [.int b1, .int v_38]) (rest := []) (wr := [(b4, .inl (G.2 0, 512, .inl b7))]) Z (s2_Follows_isLike l G (b0) (b1) (v_38) (b2) (b3) (b4) (b5) (b6) hb1 hv_41 hb5) hl.1 q633 q635 qs9 q5 q636 ⟨by decide, by decide, by show _ = some 2; decide +kernel⟩ ⟨Nat.le_of_ble_eq_true rfl, Nat.le_of_ble_eq_true rfl⟩ ⟨Nat.le_of_ble_eq_true rfl, Nat.le_of_ble_eq_true rfl⟩ rfl (Nat.le_of_ble_eq_true rfl) d_Follows_firstLike_53 hP hD hS hA 1 4 rfl rfl rfl [1, 2, 3] [0] rfl rfl rfl rfl (by decide) (fun v w1 H locs hw_42 hP hD hS => ?_)
        obtain ⟨x_43, rfl, rfl, hx_43, hfx_44⟩ := hw_42
        have hP : va_P G.1 classes [(b4, .inl (G.2 0, 512, .inl b7)), (b0, .inr (4, [.ref b2, .ref b3, .ref b4])), (b2, .inl (G.2 0, 241, .inl b5)), (b3, .inl (G.2 0, 4820, .inl b6))] H := hP
        have hD := z_tie hP hD rfl
        refine W.widen (k := 0) (n := 0) (Nat.le_of_ble_eq_true rfl) (Nat.le_of_ble_eq_true rfl) ?_
        refine lv_if_eq (tgt := 62) hx hb d_Follows_firstLike_56 (by decide) (fun hc_45 => ?_) (fun hc_45 => ?_)
        · have _nhc_45 := hc_45
          have ni_46 := (fa_eq _ _).mp hc_45
          rw [li_0] at ni_46
          have hv_47 : zI x_43 0 0 := zI.eq_l hx_43 zc_0 hc_45
          obtain ⟨v_48, ev_48⟩ : ∃ z : Int32, z = y_29 + 1 := ⟨_, rfl⟩
          obtain ⟨qv_48, hv_48⟩ := zI_add (l := 1) (h := 512) hv_35 zc_1 ev_48 (by decide)
          rw [li_1] at qv_48
          refine lv_iinc (v := v_48) (lv' := [(3, .int v_48), (5, .int v_38), (4, .int v_37), (2, .int x_2), (0, .ref b0), (1, .int b1)]) hx hb d_Follows_firstLike_62 hl (k := 2) rfl (by rw [ev_48]; rfl) (by decide) rfl (fun ls hl => ?_)
          refine lv_goto (tgt := 8) hx hb d_Follows_firstLike_65 (by decide) ?_
          exact ihk_28 (v_48) _ _ _ (zI.wk (l' := 0) (h' := 512) hv_48 (by decide)) (by have s9 := ev_38; rw [(ysl_e ev_36 ev_37 ⟨by omega, by omega⟩)] at s9; intro j hj; by_cases c9 : (j : Int) < y_29.toInt; exact hli_30 j c9; rw [show j = y_29.toInt.toNat by omega, ← s9]; refine ⟨by omega, fun h9 => ?_⟩; rcases hfx_44 with ⟨h8, _⟩ | ⟨_, h8⟩; omega; exact h8 h9) (zm_up qv_48 hmk_28 (by decide)) hP hD hS (lv_sub hl [0, 3, 4, 5] rfl)
        · have _nhc_45 := hc_45
          have ni_49 : ¬ (x_43 : Int32).toInt = (0 : Int32).toInt := fun z => hc_45 ((fa_eq _ _).mpr z)
          simp only [li_0] at ni_49
          have hv_50 : zI x_43 1 1 := zI.ne_lo hx_43 zc_0 hc_45 (by decide)
          refine lv_iload hx hb d_Follows_firstLike_59 (lv_at hl 0 rfl) ?_
          exact z_iret hx hb hr hlocks (hP.sub [1, 2, 3, 0] rfl) (hD.sub [1, 2, 3, 0] (by decide) rfl) hS (Nat.le_of_ble_eq_true rfl) (Nat.le_of_ble_eq_true rfl) d_Follows_firstLike_61 ⟨v_38, b7, rfl, rfl, hv_41, hb7, (by rw [← hfx_3]; have s9 := ev_38; rw [(ysl_e ev_36 ev_37 ⟨by omega, by omega⟩)] at s9; refine ⟨y_29.toInt.toNat, by omega, fun j hj => hli_30 j (by omega), ?_⟩; rw [← s9]; exact Or.inr (Or.inl ⟨by omega, by omega, by rcases hfx_44 with ⟨_, h8⟩ | ⟨h8, _⟩; exact h8; omega, rfl, rfl⟩))⟩
      · have _nhc_39 := hc_39
        have ni_51 := (fa_eq _ _).mp hc_39
        rw [li_m1] at ni_51
        have hv_52 : zI v_38 (-1) (-1) := zI.eq_l hv_38 zc_m1 hc_39
        refine lv_aload_n hx hb d_Follows_firstLike_39 rfl (lv_at hl 4 rfl) ?_
        refine va_get (D := G.1) (ci := 4) (v := .ref b4) (C := R_Follows) (T := F_Follows) (N := 3) hx hb hts i_Follows hown hK hP 1 rfl rfl 2 (by decide) (hts _ q149) (fun _ h9 => h9) rfl d_Follows_firstLike_40 ?_
        refine lv_iload hx hb d_Follows_firstLike_43 (lv_at hl 1 rfl) ?_
        refine lv_iload_n hx hb d_Follows_firstLike_45 rfl (lv_at hl 5 rfl) ?_
        refine va_iast hx hb hK hP hD hS 0 0 rfl rfl (zI.inn hv_37 (by decide)) d_Follows_firstLike_46 (fun H locs hP hD hS => ?_)
        obtain ⟨f_53, hf_53, gf_53, uf_53, hP, hD⟩ := z_newfu 0 hP hD rfl hb7 (zI.wk (l' := (-1)) (h' := 240) hb1 (by decide))
        have hP : va_P G.1 classes [(b4, .inl (G.2 0, 512, .inl f_53)), (b0, .inr (4, [.ref b2, .ref b3, .ref b4])), (b2, .inl (G.2 0, 241, .inl b5)), (b3, .inl (G.2 0, 4820, .inl b6))] H := hP
        have hD := z_tie hP hD rfl
        refine lv_iload_n hx hb d_Follows_firstLike_47 rfl (lv_at hl 5 rfl) ?_
        exact z_iret hx hb hr hlocks (hP.sub [1, 2, 3, 0] rfl) (hD.sub [1, 2, 3, 0] (by decide) rfl) hS (Nat.le_of_ble_eq_true rfl) (Nat.le_of_ble_eq_true rfl) d_Follows_firstLike_48 ⟨b1, f_53, rfl, rfl, hb1, hf_53, (by rw [← hfx_3]; have s9 := ev_38; rw [(ysl_e ev_36 ev_37 ⟨by omega, by omega⟩)] at s9; refine ⟨y_29.toInt.toNat, by omega, fun j hj => hli_30 j (by omega), ?_⟩; rw [← s9]; exact Or.inl ⟨by omega, by omega, rfl, by rw [← (ysl_e ev_36 ev_37 ⟨by omega, by omega⟩)]; exact uf_53⟩)⟩
