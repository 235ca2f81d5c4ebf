abbrev m_s3_Follows_rowOf : Room := { frames := 1, cells := 0, slots := 0, locals := 22 }
set_option maxHeartbeats 4000000 in
set_option maxRecDepth 100000 in
theorem s3_Follows_rowOf (l : Launch) (G : zG) (b0 : Nat) (b1 : Int32) (b2 : Int32) (b3 : Int32) (b4 : Int32) (b5 : Int32) (b6 : Int32) (b7 : Nat) (b8 : Nat) (b9 : Nat) (b10 : Nat → Int32) (b11 : Nat → Int32) (b12 : Nat → Int32) (hb1 : zI b1 0 19) (hb2 : zI b2 0 12) (hb3 : zI b3 0 3) (hb4 : zI b4 0 20) (hb5 : zI b5 0 3) (hb6 : zI b6 0 20) (hb10 : zR b10 0 12) (hb11 : zR b11 0 9) : zM l G y_Follows_rowOf prog_3_method_3_code 7 (Option.some Jvm.ClassFile.FieldType.int) m_s3_Follows_rowOf [.ref b0, .int b1, .int b2, .int b3] [(b0, .inr (2, [.int b4, .int b5, .int b6, .ref b7, .ref b8, .ref b9])), (b7, .inl (G.2 0, 20, .inl b10)), (b8, .inl (G.2 0, 240, .inl b11)), (b9, .inl (G.2 0, 240, .inl b12))] (fun v w => ∃ (e0 : Int32), v = some (.int e0) ∧ w = [(b0, .inr (2, [.int b4, .int b5, .int b6, .ref b7, .ref b8, .ref b9])), (b7, .inl (G.2 0, 20, .inl b10)), (b8, .inl (G.2 0, 240, .inl b11)), (b9, .inl (G.2 0, 240, .inl b12))] ∧ ((b1 : Int32).toInt < (b4 : Int32).toInt → (e0 : Int32).toInt = ((yk1 (zgR (zrow b4 b5 b6 b10 b11 b12)) (zcR (zrow b4 b5 b6 b10 b11 b12)) (b1 : Int32).toInt.toNat (b2 : Int32).toInt.toNat (b3 : Int32).toInt.toNat : Nat) : Int))) := by
  refine z_start (by decide +kernel) (Nat.le_of_ble_eq_true rfl) ?_
  intro p e s m below meth c A Z hr hnm hA hP hD hS ls hl
  have Z : zC p s m _ meth c prog_3_method_3_code 7 "TraceMachines$Follows" G := Z
  obtain ⟨hx, hb, hml, hown, hts, hK, hN, hlocks⟩ := id Z
  have hl : lv_has ls 7 [(0, .ref b0), (1, .int b1), (2, .int b2), (3, .int b3)] := hl
  refine lv_iconst (v := 0) hx hb d_Follows_rowOf_0 (by decide) ?_
  refine lv_istore (lv' := [(4, .int 0), (0, .ref b0), (1, .int b1), (2, .int b2), (3, .int b3)]) hx hb d_Follows_rowOf_1 hl (by decide) rfl (fun ls hl => ?_)
  refine lv_iload_n hx hb d_Follows_rowOf_3 rfl (lv_at hl 3 rfl) ?_
  refine lv_istore (lv' := [(5, .int b2), (4, .int 0), (0, .ref b0), (1, .int b1), (2, .int b2), (3, .int b3)]) hx hb d_Follows_rowOf_4 hl (by decide) rfl (fun ls hl => ?_)
  suffices key : ∀ (k_25 : Nat) (y_26 : Int32) (y_27 : Int32) (H : Heap) (locs : List Loc) (ls : Array Slot), (zI y_26 0 15) → ((b2 : Int32).toInt ≤ (y_26 : Int32).toInt) → ((y_26 : Int32).toInt ≤ (b2 : Int32).toInt + (b3 : Int32).toInt) → ((b1 : Int32).toInt < (b4 : Int32).toInt → (y_27 : Int32).toInt = ((yk1 (zgR (zrow b4 b5 b6 b10 b11 b12)) (zcR (zrow b4 b5 b6 b10 b11 b12)) (b1 : Int32).toInt.toNat (b2 : Int32).toInt.toNat ((y_26 : Int32).toInt - (b2 : Int32).toInt).toNat : Nat) : Int)) → (15 : Int) - y_26.toInt < (k_25 : Int) → va_P G.1 classes [(b0, .inr (2, [.int b4, .int b5, .int b6, .ref b7, .ref b8, .ref b9])), (b7, .inl (G.2 0, 20, .inl b10)), (b8, .inl (G.2 0, 240, .inl b11)), (b9, .inl (G.2 0, 240, .inl b12))] H → va_D A [(b0, .inr (2, [.int b4, .int b5, .int b6, .ref b7, .ref b8, .ref b9])), (b7, .inl (G.2 0, 20, .inl b10)), (b8, .inl (G.2 0, 240, .inl b11)), (b9, .inl (G.2 0, 240, .inl b12))] → va_S A s.heap H locs → lv_has ls 7 [(5, .int y_26), (4, .int y_27), (0, .ref b0), (1, .int b1), (2, .int b2), (3, .int b3)] → W p l e m_s3_Follows_rowOf s m ([.ref b0, .int b1, .int b2, .int b3] : List Value).toArray below meth c H locs 0 0 (MQ below (zQ G (fun v w => ∃ (e0 : Int32), v = some (.int e0) ∧ w = [(b0, .inr (2, [.int b4, .int b5, .int b6, .ref b7, .ref b8, .ref b9])), (b7, .inl (G.2 0, 20, .inl b10)), (b8, .inl (G.2 0, 240, .inl b11)), (b9, .inl (G.2 0, 240, .inl b12))] ∧ ((b1 : Int32).toInt < (b4 : Int32).toInt → (e0 : Int32).toInt = ((yk1 (zgR (zrow b4 b5 b6 b10 b11 b12)) (zcR (zrow b4 b5 b6 b10 b11 b12)) (b1 : Int32).toInt.toNat (b2 : Int32).toInt.toNat (b3 : Int32).toInt.toNat : Nat) : Int))) A) ([.ref b0, .int b1, .int b2, .int b3] : List Value).toArray s m_s3_Follows_rowOf.cells m_s3_Follows_rowOf.slots A) (F0 m 6 ls []) by
    exact key 16 (b2) (0) _ _ _ (zI.wk (l' := 0) (h' := 15) hb2 (by decide)) (by omega) (by omega) (fun h1 => by rw [show (b2.toInt - b2.toInt).toNat = 0 by omega]; exact li_0) (zm_upi (zI.wk (l' := 0) (h' := 15) hb2 (by decide)) (by decide)) hP hD hS (lv_sub hl [0, 1, 2, 3, 4, 5] rfl)
  intro k_25
  induction k_25 with
  | zero =>
    intro y_26 y_27 H locs ls hy_26 hli_28 hli_29 hli_30 hmk_25 hP hD hS hl
    exact (zm_up0 hy_26 hmk_25).elim
  | succ k_25 ihk_25 =>
    intro y_26 y_27 H locs ls hy_26 hli_28 hli_29 hli_30 hmk_25 hP hD hS hl
    refine lv_iload hx hb d_Follows_rowOf_6 (lv_at hl 0 rfl) ?_
    refine lv_iload_n hx hb d_Follows_rowOf_8 rfl (lv_at hl 4 rfl) ?_
    refine lv_iload_n hx hb d_Follows_rowOf_9 rfl (lv_at hl 5 rfl) ?_
    refine lv_iadd hx hb d_Follows_rowOf_10 ?_
    refine lv_topi (fun v_31 ev_31 => ?_)
    obtain ⟨qv_31, hv_31⟩ := zI_add (l := 0) (h := 15) hb2 hb3 ev_31 (by decide)
    refine lv_icmp_ge (tgt := 56) hx hb d_Follows_rowOf_11 (by decide) (fun hc_32 => ?_) (fun hc_32 => ?_)
    · have _nhc_32 := hc_32
      have ni_33 := (fa_le _ _).mp hc_32
      refine lv_iload hx hb d_Follows_rowOf_56 (lv_at hl 1 rfl) ?_
      exact z_iret hx hb hr hlocks hP hD hS (Nat.le_of_ble_eq_true rfl) (Nat.le_of_ble_eq_true rfl) d_Follows_rowOf_58 ⟨y_27, rfl, rfl, (fun h1 => by have j9 := hli_30 h1; rw [show (y_26.toInt - b2.toInt).toNat = b3.toInt.toNat by omega] at j9; exact j9)⟩
    · have _nhc_32 := hc_32
      have ni_34 := (fa_lt _ _).mp (zi_nle hc_32)
      have hv_35 : zI y_26 0 14 := zI.lt_l hy_26 hv_31 (zi_nle hc_32) (by decide)
      have hv_36 : zI v_31 1 15 := zI.lt_r hy_26 hv_31 (zi_nle hc_32) (by decide)
      refine lv_iload hx hb d_Follows_rowOf_14 (lv_at hl 0 rfl) ?_
      refine lv_aload_n hx hb d_Follows_rowOf_16 rfl (lv_at hl 2 rfl) ?_
      refine va_get (D := G.1) (ci := 2) (v := .ref b7) (C := R_Traces) (T := F_Traces) (N := 6) hx hb hts i_Traces hown hK hP 0 rfl rfl 3 (by decide) (hts _ q65) (fun _ h9 => h9) rfl d_Follows_rowOf_17 ?_
      refine lv_iload_n hx hb d_Follows_rowOf_20 rfl (lv_at hl 3 rfl) ?_
      refine va_iald hx hb hK hP 1 0 rfl rfl (zI.inn hb1 (by decide)) d_Follows_rowOf_21 ?_
      refine lv_topi (fun v_37 ev_37 => ?_)
      have hv_37 : zI v_37 0 12 := (hb10 _).eq ev_37
      refine lv_icmp_ge (tgt := 37) hx hb d_Follows_rowOf_22 (by decide) (fun hc_38 => ?_) (fun hc_38 => ?_)
      · have _nhc_38 := hc_38
        have ni_39 := (fa_le _ _).mp hc_38
        refine lv_iconst (v := 0) hx hb d_Follows_rowOf_37 (by decide) ?_
        refine lv_istore (lv' := [(6, .int 0), (5, .int y_26), (4, .int y_27), (0, .ref b0), (1, .int b1), (2, .int b2), (3, .int b3)]) hx hb d_Follows_rowOf_38 hl (by decide) rfl (fun ls hl => ?_)
        refine lv_iload hx hb d_Follows_rowOf_40 (lv_at hl 2 rfl) ?_
        refine lv_bipush (v := 11) hx hb d_Follows_rowOf_42 (by decide) ?_
        refine lv_imul hx hb d_Follows_rowOf_44 ?_
        refine lv_topi (fun v_40 ev_40 => ?_)
        refine lv_iload hx hb d_Follows_rowOf_45 (lv_at hl 0 rfl) ?_
        refine lv_iadd hx hb d_Follows_rowOf_47 ?_
        refine lv_topi (fun v_41 ev_41 => ?_)
        obtain ⟨qv_41, hv_41⟩ := zI_add (l := -2147483648) (h := 2147483647) (zI_all v_40) zc_0 ev_41 (by decide)
        rw [li_0] at qv_41
        refine lv_istore (lv' := [(4, .int v_41), (6, .int 0), (5, .int y_26), (0, .ref b0), (1, .int b1), (2, .int b2), (3, .int b3)]) hx hb d_Follows_rowOf_48 hl (by decide) rfl (fun ls hl => ?_)
        obtain ⟨v_42, ev_42⟩ : ∃ z : Int32, z = y_26 + 1 := ⟨_, rfl⟩
        obtain ⟨qv_42, hv_42⟩ := zI_add (l := 1) (h := 15) hv_35 zc_1 ev_42 (by decide)
        rw [li_1] at qv_42
        refine lv_iinc (v := v_42) (lv' := [(5, .int v_42), (4, .int v_41), (6, .int 0), (0, .ref b0), (1, .int b1), (2, .int b2), (3, .int b3)]) hx hb d_Follows_rowOf_50 hl (k := 2) rfl (by rw [ev_42]; rfl) (by decide) rfl (fun ls hl => ?_)
        refine lv_goto (tgt := 6) hx hb d_Follows_rowOf_53 (by decide) ?_
        exact ihk_25 (v_42) (v_41) _ _ _ (zI.wk (l' := 0) (h' := 15) hv_42 (by decide)) (by omega) (by omega) (fun h1 => yk1_s (T := 20) (hli_30 h1) (yRw_g (yRw_row hb4 hb10 hb11) 20) (by omega) (by omega) ev_40 ev_41 (by rw [yd1_no (g := zgR (zrow b4 b5 b6 b10 b11 b12)) (c := zcR (zrow b4 b5 b6 b10 b11 b12)) (by rw [zcR_row (by have a9 := (hb4).2; omega) (show (b1.toInt.toNat : Int) < b4.toInt by omega)]; have e9 := congrArg Int32.toInt ev_37; rw [z_plf hb1 (by decide)] at e9; omega)]; exact li_0) (by omega)) (zm_up qv_42 hmk_25 (by decide)) hP hD hS (lv_sub hl [0, 1, 3, 4, 5, 6] rfl)
      · have _nhc_38 := hc_38
        have ni_43 := (fa_lt _ _).mp (zi_nle hc_38)
        have hv_44 : zI y_26 0 11 := zI.lt_l hv_35 hv_37 (zi_nle hc_38) (by decide)
        have hv_45 : zI v_37 1 12 := zI.lt_r hv_35 hv_37 (zi_nle hc_38) (by decide)
        refine lv_aload_n hx hb d_Follows_rowOf_25 rfl (lv_at hl 2 rfl) ?_
        refine lv_iload_n hx hb d_Follows_rowOf_26 rfl (lv_at hl 3 rfl) ?_
        refine lv_iload hx hb d_Follows_rowOf_27 (lv_at hl 0 rfl) ?_
        refine z_callV (index := 56) (As := [.int b1, .int y_26]) (rest := []) (wr := [(b7, .inl (G.2 0, 20, .inl b10)), (b9, .inl (G.2 0, 240, .inl b12))]) Z (s2_Traces_letterAt l G (b0) (b1) (y_26) (b4) (b5) (b6) (b7) (b8) (b9) (b11) hb1 hv_44 hb4 hb5 hb6 hb11) hl.1 q613 q580 q581 q3 q582 ⟨by decide, by decide, by show _ = some 2; decide +kernel⟩ ⟨Nat.le_of_ble_eq_true rfl, Nat.le_of_ble_eq_true rfl⟩ ⟨Nat.le_of_ble_eq_true rfl, Nat.le_of_ble_eq_true rfl⟩ rfl (Nat.le_of_ble_eq_true rfl) d_Follows_rowOf_29 hP hD hS hA 0 2 rfl rfl rfl [0, 2] [1, 3] rfl rfl rfl rfl (by decide) (fun v w1 H locs hw_46 hP hD hS => ?_)
        obtain ⟨x_47, rfl, rfl, hx_47, hfx_48⟩ := hw_46
        have hP : va_P G.1 classes [(b7, .inl (G.2 0, 20, .inl b10)), (b9, .inl (G.2 0, 240, .inl b12)), (b0, .inr (2, [.int b4, .int b5, .int b6, .ref b7, .ref b8, .ref b9])), (b8, .inl (G.2 0, 240, .inl b11))] H := hP
        have hD := z_tie hP hD rfl
        refine W.widen (k := 0) (n := 0) (Nat.le_of_ble_eq_true rfl) (Nat.le_of_ble_eq_true rfl) ?_
        refine lv_iconst (v := 1) hx hb d_Follows_rowOf_32 (by decide) ?_
        refine lv_iadd hx hb d_Follows_rowOf_33 ?_
        refine lv_topi (fun v_49 ev_49 => ?_)
        obtain ⟨qv_49, hv_49⟩ := zI_add (l := 1) (h := 10) hx_47 zc_1 ev_49 (by decide)
        rw [li_1] at qv_49
        refine lv_goto (tgt := 38) hx hb d_Follows_rowOf_34 (by decide) ?_
        refine lv_istore (lv' := [(6, .int v_49), (5, .int y_26), (4, .int y_27), (0, .ref b0), (1, .int b1), (2, .int b2), (3, .int b3)]) hx hb d_Follows_rowOf_38 hl (by decide) rfl (fun ls hl => ?_)
        refine lv_iload hx hb d_Follows_rowOf_40 (lv_at hl 2 rfl) ?_
        refine lv_bipush (v := 11) hx hb d_Follows_rowOf_42 (by decide) ?_
        refine lv_imul hx hb d_Follows_rowOf_44 ?_
        refine lv_topi (fun v_50 ev_50 => ?_)
        refine lv_iload hx hb d_Follows_rowOf_45 (lv_at hl 0 rfl) ?_
        refine lv_iadd hx hb d_Follows_rowOf_47 ?_
        refine lv_topi (fun v_51 ev_51 => ?_)
        refine lv_istore (lv' := [(4, .int v_51), (6, .int v_49), (5, .int y_26), (0, .ref b0), (1, .int b1), (2, .int b2), (3, .int b3)]) hx hb d_Follows_rowOf_48 hl (by decide) rfl (fun ls hl => ?_)
        obtain ⟨v_52, ev_52⟩ : ∃ z : Int32, z = y_26 + 1 := ⟨_, rfl⟩
        obtain ⟨qv_52, hv_52⟩ := zI_add (l := 1) (h := 12) hv_44 zc_1 ev_52 (by decide)
        rw [li_1] at qv_52
        refine lv_iinc (v := v_52) (lv' := [(5, .int v_52), (4, .int v_51), (6, .int v_49), (0, .ref b0), (1, .int b1), (2, .int b2), (3, .int b3)]) hx hb d_Follows_rowOf_50 hl (k := 2) rfl (by rw [ev_52]; rfl) (by decide) rfl (fun ls hl => ?_)
        refine lv_goto (tgt := 6) hx hb d_Follows_rowOf_53 (by decide) ?_
        exact ihk_25 (v_52) (v_51) _ _ _ (zI.wk (l' := 0) (h' := 15) hv_52 (by decide)) (by omega) (by omega) (fun h1 => yk1_s (T := 20) (hli_30 h1) (yRw_g (yRw_row hb4 hb10 hb11) 20) (by omega) (by omega) ev_50 ev_51 (by have g9 := zgR_row (t := b1.toInt.toNat) (i := (b2.toInt.toNat + (y_26.toInt - b2.toInt).toNat)) (L := b10) (d := b5) (mg := b6) (F := b11) (V := b12) (by have a9 := (hb4).2; omega) (show (b1.toInt.toNat : Int) < b4.toInt by omega) (by have e9 := congrArg Int32.toInt ev_37; rw [z_plf hb1 (by decide)] at e9; omega) (by omega); have f9 := hfx_48; rw [show 0 + (12 * b1.toInt.toNat + y_26.toInt.toNat) = 12 * b1.toInt.toNat + (b2.toInt.toNat + (y_26.toInt - b2.toInt).toNat) by omega] at f9; rw [yd1_in (g := zgR (zrow b4 b5 b6 b10 b11 b12)) (c := zcR (zrow b4 b5 b6 b10 b11 b12)) (by rw [zcR_row (by have a9 := (hb4).2; omega) (show (b1.toInt.toNat : Int) < b4.toInt by omega)]; have e9 := congrArg Int32.toInt ev_37; rw [z_plf hb1 (by decide)] at e9; omega), g9, ← f9]; omega) (by omega)) (zm_up qv_52 hmk_25 (by decide)) (hP.sub [2, 0, 3, 1] rfl) (hD.sub [2, 0, 3, 1] (by decide) rfl) hS (lv_sub hl [0, 1, 3, 4, 5, 6] rfl)
abbrev m_s3_Follows_insert : Room := { frames := 0, cells := 0, slots := 0, locals := 0 }
set_option maxHeartbeats 4000000 in
set_option maxRecDepth 100000 in
theorem s3_Follows_insert (l : Launch) (G : zG) (b0 : Nat) (b1 : Int32) (b2 : Int32) (b3 : Nat) (b4 : Nat) (b5 : Nat) (b6 : Nat → Int32) (b7 : Nat → Int32) (hb1 : zI b1 0 240) (hb6 : zqa qC b6) (hins : (b6 b1.toNatClampNeg).toInt + b1.toInt ≤ 259) : zM l G y_Follows_insert prog_3_method_4_code 6 (Option.none : Option Jvm.ClassFile.FieldType) m_s3_Follows_insert [.ref b0, .int b1, .int b2] [(b0, .inr (4, [.ref b3, .ref b4, .ref b5])), (b3, .inl (G.2 0, 241, .inl b6)), (b4, .inl (G.2 0, 4820, .inl b7))] (fun v w => ∃ (e0 : Nat → Int32), ∃ (e1 : Nat → Int32), v = none ∧ w = [(b0, .inr (4, [.ref b3, .ref b4, .ref b5])), (b3, .inl (G.2 0, 241, .inl e0)), (b4, .inl (G.2 0, 4820, .inl e1))] ∧ (zqa qC e0) ∧ (∀ q : Nat, (e0 q).toInt = (b6 q).toInt ∨ q = b1.toNatClampNeg ∧ (e0 q).toInt = (b6 q).toInt + 1) ∧ (yIn (20 * (0 + b1.toInt.toNat)) (b6 (0 + b1.toInt.toNat)).toInt.toNat (0 + b1.toInt.toNat) b2 b7 b6 e1 e0)) := by
  refine z_start (by decide +kernel) (Nat.le_of_ble_eq_true rfl) ?_
  intro p e s m below meth c A Z hr hnm hA hP hD hS ls hl
  have Z : zC p s m _ meth c prog_3_method_4_code 6 "TraceMachines$Follows" G := Z
  obtain ⟨hx, hb, hml, hown, hts, hK, hN, hlocks⟩ := id Z
  have hl : lv_has ls 6 [(0, .ref b0), (1, .int b1), (2, .int b2)] := hl
  refine lv_iload_n hx hb d_Follows_insert_0 rfl (lv_at hl 1 rfl) ?_
  refine lv_bipush (v := 20) hx hb d_Follows_insert_1 (by decide) ?_
  refine lv_imul hx hb d_Follows_insert_3 ?_
  refine lv_topi (fun v_1 ev_1 => ?_)
  obtain ⟨qv_1, hv_1⟩ := zI_mul (l := 0) (h := 4800) hb1 zc_20 ev_1 (by decide)
  rw [li_20] at qv_1
  refine lv_istore_n (lv' := [(3, .int v_1), (0, .ref b0), (1, .int b1), (2, .int b2)]) hx hb d_Follows_insert_4 rfl hl (by decide) rfl (fun ls hl => ?_)
  refine lv_iload_n hx hb d_Follows_insert_5 rfl (lv_at hl 0 rfl) ?_
  refine lv_aload_n hx hb d_Follows_insert_6 rfl (lv_at hl 1 rfl) ?_
  refine va_get (D := G.1) (ci := 4) (v := .ref b3) (C := R_Follows) (T := F_Follows) (N := 3) hx hb hts i_Follows hown hK hP 0 rfl rfl 0 (by decide) (hts _ q146) (fun _ h9 => h9) rfl d_Follows_insert_7 ?_
  refine lv_iload_n hx hb d_Follows_insert_10 rfl (lv_at hl 2 rfl) ?_
  refine va_iald hx hb hK hP 1 0 rfl rfl (zI.inn hb1 (by decide)) d_Follows_insert_11 ?_
  refine lv_topi (fun v_2 ev_2 => ?_)
  obtain ⟨hv_2, kv_2⟩ := zQC.ld hb6 hb1 ev_2 (by decide)
  have hinv_2 : v_2.toInt + b1.toInt ≤ 259 := by rw [ev_2]; exact hins
  refine lv_iadd hx hb d_Follows_insert_12 ?_
  refine lv_topi (fun v_3 ev_3 => ?_)
  obtain ⟨qv_3, hv_3⟩ := zI_add (l := 0) (h := 5060) hv_1 hv_2 ev_3 (by decide)
  have hv_4 : zI v_3 0 4819 := ⟨by omega, by omega⟩
  refine lv_istore (lv' := [(4, .int v_3), (3, .int v_1), (0, .ref b0), (1, .int b1), (2, .int b2)]) hx hb d_Follows_insert_13 hl (by decide) rfl (fun ls hl => ?_)
  suffices key : ∀ (k_167 : Nat) (y_168 : Int32) (H : Heap) (locs : List Loc) (ls : Array Slot), (zI y_168 0 4819) → (∀ q : Nat, (y_168 : Int32).toInt ≤ (q : Int) → (q : Int) < (((20 * (0 + (b1 : Int32).toInt.toNat)) : Nat) : Int) + (((b6 (0 + (b1 : Int32).toInt.toNat)).toInt.toNat : Nat) : Int) → (b2 : Int32).toInt < (b7 q).toInt) → ((v_1 : Int32).toInt ≤ (y_168 : Int32).toInt ∧ (y_168 : Int32).toInt ≤ (((20 * (0 + (b1 : Int32).toInt.toNat)) : Nat) : Int) + (((b6 (0 + (b1 : Int32).toInt.toNat)).toInt.toNat : Nat) : Int)) → y_168.toInt - (0) < (k_167 : Int) → va_P G.1 classes [(b0, .inr (4, [.ref b3, .ref b4, .ref b5])), (b3, .inl (G.2 0, 241, .inl b6)), (b4, .inl (G.2 0, 4820, .inl b7))] H → va_D A [(b0, .inr (4, [.ref b3, .ref b4, .ref b5])), (b3, .inl (G.2 0, 241, .inl b6)), (b4, .inl (G.2 0, 4820, .inl b7))] → va_S A s.heap H locs → lv_has ls 6 [(4, .int y_168), (3, .int v_1), (0, .ref b0), (1, .int b1), (2, .int b2)] → W p l e m_s3_Follows_insert s m ([.ref b0, .int b1, .int b2] : List Value).toArray below meth c H locs 0 0 (MQ below (zQ G (fun v w => ∃ (e0 : Nat → Int32), ∃ (e1 : Nat → Int32), v = none ∧ w = [(b0, .inr (4, [.ref b3, .ref b4, .ref b5])), (b3, .inl (G.2 0, 241, .inl e0)), (b4, .inl (G.2 0, 4820, .inl e1))] ∧ (zqa qC e0) ∧ (∀ q : Nat, (e0 q).toInt = (b6 q).toInt ∨ q = b1.toNatClampNeg ∧ (e0 q).toInt = (b6 q).toInt + 1) ∧ (yIn (20 * (0 + b1.toInt.toNat)) (b6 (0 + b1.toInt.toNat)).toInt.toNat (0 + b1.toInt.toNat) b2 b7 b6 e1 e0)) A) ([.ref b0, .int b1, .int b2] : List Value).toArray s m_s3_Follows_insert.cells m_s3_Follows_insert.slots A) (F0 m 15 ls []) by
    exact key 4820 (v_3) _ _ _ hv_4 (by have c9 := ev_2; rw [z_plf hb1 (by decide), show b1.toInt.toNat = 0 + b1.toInt.toNat by omega] at c9; intro q h1 h2; exfalso; rw [← c9] at h2; omega) (by have c9 := ev_2; rw [z_plf hb1 (by decide), show b1.toInt.toNat = 0 + b1.toInt.toNat by omega] at c9; rw [← c9]; omega) (zm_dni hv_4 (by decide)) hP hD hS (lv_sub hl [0, 1, 2, 3, 4] rfl)
  intro k_167
  induction k_167 with
  | zero =>
    intro y_168 H locs ls hy_168 hli_169 hli_170 hmk_167 hP hD hS hl
    exact (zm_dn0 hy_168 hmk_167).elim
  | succ k_167 ihk_167 =>
    intro y_168 H locs ls hy_168 hli_169 hli_170 hmk_167 hP hD hS hl
    refine lv_iload hx hb d_Follows_insert_15 (lv_at hl 0 rfl) ?_
    refine lv_iload_n hx hb d_Follows_insert_17 rfl (lv_at hl 1 rfl) ?_
    refine lv_icmp_le (tgt := 40) hx hb d_Follows_insert_18 (by decide) (fun hc_171 => ?_) (fun hc_171 => ?_)
    · have _nhc_171 := hc_171
      have ni_172 := (fa_le _ _).mp hc_171
      have hv_173 : zI y_168 0 4800 := zI.le_l hy_168 hv_1 hc_171 (by decide)
      refine lv_iload hx hb d_Follows_insert_40 (lv_at hl 0 rfl) ?_
      refine lv_iload_n hx hb d_Follows_insert_42 rfl (lv_at hl 1 rfl) ?_
      refine lv_icmp_le (tgt := 60) hx hb d_Follows_insert_43 (by decide) (fun hc_174 => ?_) (fun hc_174 => ?_)
      · have _nhc_174 := hc_174
        have ni_175 := (fa_le _ _).mp hc_174
        refine lv_iload_n hx hb d_Follows_insert_60 rfl (lv_at hl 1 rfl) ?_
        refine lv_aload_n hx hb d_Follows_insert_61 rfl (lv_at hl 2 rfl) ?_
        refine va_get (D := G.1) (ci := 4) (v := .ref b3) (C := R_Follows) (T := F_Follows) (N := 3) hx hb hts i_Follows hown hK hP 0 rfl rfl 0 (by decide) (hts _ q146) (fun _ h9 => h9) rfl d_Follows_insert_62 ?_
        refine lv_iload_n hx hb d_Follows_insert_65 rfl (lv_at hl 3 rfl) ?_
        refine va_iald hx hb hK hP 1 0 rfl rfl (zI.inn hb1 (by decide)) d_Follows_insert_66 ?_
        refine lv_topi (fun v_176 ev_176 => ?_)
        obtain rfl : v_2 = v_176 := ev_2.trans ev_176.symm
        refine lv_iadd hx hb d_Follows_insert_67 ?_
        refine lv_topi (fun v_177 ev_177 => ?_)
        obtain rfl : v_3 = v_177 := ev_3.trans ev_177.symm
        refine lv_istore (lv' := [(5, .int v_3), (4, .int y_168), (3, .int v_1), (0, .ref b0), (1, .int b1), (2, .int b2)]) hx hb d_Follows_insert_68 hl (by decide) rfl (fun ls hl => ?_)
        suffices key : ∀ (k_193 : Nat) (y_194 : Int32) (y_195 : Nat → Int32) (H : Heap) (locs : List Loc) (ls : Array Slot), (zI y_194 0 4819) → (∀ q : Nat, y_195 q = if (y_194 : Int32).toInt < (q : Int) ∧ (q : Int) ≤ (((20 * (0 + (b1 : Int32).toInt.toNat)) : Nat) : Int) + (((b6 (0 + (b1 : Int32).toInt.toNat)).toInt.toNat : Nat) : Int) then b7 (q - 1) else b7 q) → ((y_168 : Int32).toInt ≤ (y_194 : Int32).toInt ∧ (y_194 : Int32).toInt ≤ (((20 * (0 + (b1 : Int32).toInt.toNat)) : Nat) : Int) + (((b6 (0 + (b1 : Int32).toInt.toNat)).toInt.toNat : Nat) : Int)) → y_194.toInt - (0) < (k_193 : Int) → va_P G.1 classes [(b0, .inr (4, [.ref b3, .ref b4, .ref b5])), (b3, .inl (G.2 0, 241, .inl b6)), (b4, .inl (G.2 0, 4820, .inl y_195))] H → va_D A [(b0, .inr (4, [.ref b3, .ref b4, .ref b5])), (b3, .inl (G.2 0, 241, .inl b6)), (b4, .inl (G.2 0, 4820, .inl y_195))] → va_S A s.heap H locs → lv_has ls 6 [(5, .int y_194), (4, .int y_168), (3, .int v_1), (0, .ref b0), (1, .int b1), (2, .int b2)] → W p l e m_s3_Follows_insert s m ([.ref b0, .int b1, .int b2] : List Value).toArray below meth c H locs 0 0 (MQ below (zQ G (fun v w => ∃ (e0 : Nat → Int32), ∃ (e1 : Nat → Int32), v = none ∧ w = [(b0, .inr (4, [.ref b3, .ref b4, .ref b5])), (b3, .inl (G.2 0, 241, .inl e0)), (b4, .inl (G.2 0, 4820, .inl e1))] ∧ (zqa qC e0) ∧ (∀ q : Nat, (e0 q).toInt = (b6 q).toInt ∨ q = b1.toNatClampNeg ∧ (e0 q).toInt = (b6 q).toInt + 1) ∧ (yIn (20 * (0 + b1.toInt.toNat)) (b6 (0 + b1.toInt.toNat)).toInt.toNat (0 + b1.toInt.toNat) b2 b7 b6 e1 e0)) A) ([.ref b0, .int b1, .int b2] : List Value).toArray s m_s3_Follows_insert.cells m_s3_Follows_insert.slots A) (F0 m 70 ls []) by
          exact key 4820 (v_3) (b7) _ _ _ hv_4 (by have c9 := ev_2; rw [z_plf hb1 (by decide), show b1.toInt.toNat = 0 + b1.toInt.toNat by omega] at c9; intro q; rw [← c9, if_neg (by omega)]) (by have b9 := hli_170; have c9 := ev_2; rw [z_plf hb1 (by decide), show b1.toInt.toNat = 0 + b1.toInt.toNat by omega] at c9; rw [← c9] at b9 ⊢; omega) (zm_dni hv_4 (by decide)) hP hD hS (lv_sub hl [0, 1, 2, 3, 4, 5] rfl)
        intro k_193
        induction k_193 with
        | zero =>
          intro y_194 y_195 H locs ls hy_194 hli_196 hli_197 hmk_193 hP hD hS hl
          exact (zm_dn0 hy_194 hmk_193).elim
        | succ k_193 ihk_193 =>
          intro y_194 y_195 H locs ls hy_194 hli_196 hli_197 hmk_193 hP hD hS hl
          refine lv_iload hx hb d_Follows_insert_70 (lv_at hl 0 rfl) ?_
          refine lv_iload hx hb d_Follows_insert_72 (lv_at hl 1 rfl) ?_
          refine lv_icmp_le (tgt := 99) hx hb d_Follows_insert_74 (by decide) (fun hc_198 => ?_) (fun hc_198 => ?_)
          · have _nhc_198 := hc_198
            have ni_199 := (fa_le _ _).mp hc_198
            have hv_200 : zI y_194 0 4800 := zI.le_l hy_194 hv_173 hc_198 (by decide)
            refine lv_aload_n hx hb d_Follows_insert_99 rfl (lv_at hl 3 rfl) ?_
            refine va_get (D := G.1) (ci := 4) (v := .ref b4) (C := R_Follows) (T := F_Follows) (N := 3) hx hb hts i_Follows hown hK hP 0 rfl rfl 1 (by decide) (hts _ q148) (fun _ h9 => h9) rfl d_Follows_insert_100 ?_
            refine lv_iload hx hb d_Follows_insert_103 (lv_at hl 1 rfl) ?_
            refine lv_iload_n hx hb d_Follows_insert_105 rfl (lv_at hl 5 rfl) ?_
            refine va_iast hx hb hK hP hD hS 2 0 rfl rfl (zI.inn hv_173 (by decide)) d_Follows_insert_106 (fun H locs hP hD hS => ?_)
            obtain ⟨f_201, gf_201, uf_201, hP, hD⟩ := z_newFu 2 hP hD rfl
            have hP : va_P G.1 classes [(b0, .inr (4, [.ref b3, .ref b4, .ref b5])), (b3, .inl (G.2 0, 241, .inl b6)), (b4, .inl (G.2 0, 4820, .inl f_201))] H := hP
            have hD := z_tie hP hD rfl
            refine lv_aload_n hx hb d_Follows_insert_107 rfl (lv_at hl 3 rfl) ?_
            refine va_get (D := G.1) (ci := 4) (v := .ref b3) (C := R_Follows) (T := F_Follows) (N := 3) hx hb hts i_Follows hown hK hP 0 rfl rfl 0 (by decide) (hts _ q146) (fun _ h9 => h9) rfl d_Follows_insert_108 ?_
            refine lv_iload_n hx hb d_Follows_insert_111 rfl (lv_at hl 4 rfl) ?_
            refine lv_dup2_11 hx hb d_Follows_insert_112 rfl rfl ?_
            refine va_iald hx hb hK hP 1 0 rfl rfl (zI.inn hb1 (by decide)) d_Follows_insert_113 ?_
            refine lv_topi (fun v_202 ev_202 => ?_)
            obtain rfl : v_2 = v_202 := ev_2.trans ev_202.symm
            refine lv_iconst (v := 1) hx hb d_Follows_insert_114 (by decide) ?_
            refine lv_iadd hx hb d_Follows_insert_115 ?_
            refine lv_topi (fun v_203 ev_203 => ?_)
            obtain ⟨qv_203, hv_203⟩ := zI_add (l := 1) (h := 261) hv_2 zc_1 ev_203 (by decide)
            rw [li_1] at qv_203
            refine va_iast hx hb hK hP hD hS 1 0 rfl rfl (zI.inn hb1 (by decide)) d_Follows_insert_116 (fun H locs hP hD hS => ?_)
            obtain ⟨f_204, hf_204, gf_204, uf_204, hP, hD⟩ := z_newq_ (Q := qC) 1 hP hD rfl hb6 (qC_v hb1 (by decide) ⟨⟨by have _w := hv_203; have _x := hb1; omega, by have _w := hv_203; have _x := hb1; omega⟩, by have _w := hv_203; have _x := hb1; omega⟩)
            have hP : va_P G.1 classes [(b0, .inr (4, [.ref b3, .ref b4, .ref b5])), (b3, .inl (G.2 0, 241, .inl f_204)), (b4, .inl (G.2 0, 4820, .inl f_201))] H := hP
            have hD := z_tie hP hD rfl
            exact z_vret hx hb hr hlocks hP hD hS (Nat.le_of_ble_eq_true rfl) (Nat.le_of_ble_eq_true rfl) d_Follows_insert_117 ⟨f_204, f_201, rfl, rfl, hf_204, (by intro q; rw [uf_204, z_at]; split; rename_i h; right; refine ⟨h, ?_⟩; rw [h, ← ev_2]; omega; left; rfl), (by have b9 := hli_170; have g9 := hli_169; have k9 := hli_196; have d9 := hli_197; exact yIn_g (st_ := v_1) (at_ := y_168) (by omega) ⟨by omega, b9.2⟩ g9 (Or.inl (by omega)) (fun q => by have k8 := k9 q; rw [show y_194.toInt = y_168.toInt by omega] at k8; exact k8) uf_201 (by rw [← (show b1.toNatClampNeg = 0 + b1.toInt.toNat by rw [z_plf hb1 (by decide)]; omega)]; exact ev_2) ev_203 (by rw [← (show b1.toNatClampNeg = 0 + b1.toInt.toNat by rw [z_plf hb1 (by decide)]; omega)]; exact uf_204))⟩
          · have _nhc_198 := hc_198
            have ni_205 := (fa_lt _ _).mp (zi_nle hc_198)
            have hv_206 : zI y_194 1 4819 := zI.lt_r hv_173 hy_194 (zi_nle hc_198) (by decide)
            refine lv_aload_n hx hb d_Follows_insert_77 rfl (lv_at hl 3 rfl) ?_
            refine va_get (D := G.1) (ci := 4) (v := .ref b4) (C := R_Follows) (T := F_Follows) (N := 3) hx hb hts i_Follows hown hK hP 0 rfl rfl 1 (by decide) (hts _ q148) (fun _ h9 => h9) rfl d_Follows_insert_78 ?_
            refine lv_iload hx hb d_Follows_insert_81 (lv_at hl 0 rfl) ?_
            refine lv_aload_n hx hb d_Follows_insert_83 rfl (lv_at hl 3 rfl) ?_
            refine va_get (D := G.1) (ci := 4) (v := .ref b4) (C := R_Follows) (T := F_Follows) (N := 3) hx hb hts i_Follows hown hK hP 0 rfl rfl 1 (by decide) (hts _ q148) (fun _ h9 => h9) rfl d_Follows_insert_84 ?_
            refine lv_iload hx hb d_Follows_insert_87 (lv_at hl 0 rfl) ?_
            refine lv_iconst (v := 1) hx hb d_Follows_insert_89 (by decide) ?_
            refine lv_isub hx hb d_Follows_insert_90 ?_
            refine lv_topi (fun v_207 ev_207 => ?_)
            obtain ⟨qv_207, hv_207⟩ := zI_sub (l := 0) (h := 4818) hv_206 zc_1 ev_207 (by decide)
            rw [li_1] at qv_207
            refine va_iald hx hb hK hP 2 0 rfl rfl (zI.inn hv_207 (by decide)) d_Follows_insert_91 ?_
            refine lv_topi (fun v_208 ev_208 => ?_)
            refine va_iast hx hb hK hP hD hS 2 0 rfl rfl (zI.inn hv_206 (by decide)) d_Follows_insert_92 (fun H locs hP hD hS => ?_)
            obtain ⟨f_209, gf_209, uf_209, hP, hD⟩ := z_newFu 2 hP hD rfl
            have hP : va_P G.1 classes [(b0, .inr (4, [.ref b3, .ref b4, .ref b5])), (b3, .inl (G.2 0, 241, .inl b6)), (b4, .inl (G.2 0, 4820, .inl f_209))] H := hP
            have hD := z_tie hP hD rfl
            obtain ⟨v_210, ev_210⟩ : ∃ z : Int32, z = y_194 + (-1) := ⟨_, rfl⟩
            obtain ⟨qv_210, hv_210⟩ := zI_add (l := 0) (h := 4818) hv_206 zc_m1 ev_210 (by decide)
            rw [li_m1] at qv_210
            refine lv_iinc (v := v_210) (lv' := [(5, .int v_210), (4, .int y_168), (3, .int v_1), (0, .ref b0), (1, .int b1), (2, .int b2)]) hx hb d_Follows_insert_93 hl (k := 0) rfl (by rw [ev_210]; rfl) (by decide) rfl (fun ls hl => ?_)
            refine lv_goto (tgt := 70) hx hb d_Follows_insert_96 (by decide) ?_
            exact ihk_193 (v_210) (f_209) _ _ _ (zI.wk (l' := 0) (h' := 4819) hv_210 (by decide)) (by have p9 := z_pl hv_206 (by decide); have p8 := z_pl hv_207 (by decide); have b9 := hli_197; have c9 := ev_2; rw [z_plf hb1 (by decide), show b1.toInt.toNat = 0 + b1.toInt.toNat by omega] at c9; rw [← c9] at b9 ⊢; have k9 := hli_196; rw [← c9] at k9; intro q; rw [uf_209, z_at]; by_cases c8 : q = y_194.toNatClampNeg; (rw [if_pos c8, if_pos (by omega), ev_208, k9, if_neg (by omega)]; congr 1; omega); (rw [if_neg c8, k9]; by_cases c7 : y_194.toInt < (q : Int) ∧ (q : Int) ≤ (((20 * (0 + (b1 : Int32).toInt.toNat)) : Nat) : Int) + ((v_2.toInt.toNat : Nat) : Int); (rw [if_pos c7, if_pos (by omega)]); rw [if_neg c7, if_neg (by omega)])) (by have a9 := hli_197; omega) (zm_dn qv_210 hmk_193 (by decide)) hP hD hS (lv_sub hl [0, 1, 2, 3, 4, 5] rfl)
      · have _nhc_174 := hc_174
        have ni_211 := (fa_lt _ _).mp (zi_nle hc_174)
        have hv_212 : zI v_1 0 4799 := zI.lt_l hv_1 hv_173 (zi_nle hc_174) (by decide)
        have hv_213 : zI y_168 1 4800 := zI.lt_r hv_1 hv_173 (zi_nle hc_174) (by decide)
        refine lv_aload_n hx hb d_Follows_insert_46 rfl (lv_at hl 2 rfl) ?_
        refine va_get (D := G.1) (ci := 4) (v := .ref b4) (C := R_Follows) (T := F_Follows) (N := 3) hx hb hts i_Follows hown hK hP 0 rfl rfl 1 (by decide) (hts _ q148) (fun _ h9 => h9) rfl d_Follows_insert_47 ?_
        refine lv_iload hx hb d_Follows_insert_50 (lv_at hl 0 rfl) ?_
        refine lv_iconst (v := 1) hx hb d_Follows_insert_52 (by decide) ?_
        refine lv_isub hx hb d_Follows_insert_53 ?_
        refine lv_topi (fun v_214 ev_214 => ?_)
        obtain ⟨qv_214, hv_214⟩ := zI_sub (l := 0) (h := 4799) hv_213 zc_1 ev_214 (by decide)
        rw [li_1] at qv_214
        refine va_iald hx hb hK hP 2 0 rfl rfl (zI.inn hv_214 (by decide)) d_Follows_insert_54 ?_
        refine lv_topi (fun v_215 ev_215 => ?_)
        refine lv_iload_n hx hb d_Follows_insert_55 rfl (lv_at hl 4 rfl) ?_
        refine lv_icmp_ne (tgt := 60) hx hb d_Follows_insert_56 (by decide) (fun hc_216 => ?_) (fun hc_216 => ?_)
        · have _nhc_216 := hc_216
          have ni_217 : ¬ (v_215 : Int32).toInt = (b2 : Int32).toInt := fun z => hc_216 ((fa_eq _ _).mpr z)
          refine lv_iload_n hx hb d_Follows_insert_60 rfl (lv_at hl 1 rfl) ?_
          refine lv_aload_n hx hb d_Follows_insert_61 rfl (lv_at hl 2 rfl) ?_
          refine va_get (D := G.1) (ci := 4) (v := .ref b3) (C := R_Follows) (T := F_Follows) (N := 3) hx hb hts i_Follows hown hK hP 0 rfl rfl 0 (by decide) (hts _ q146) (fun _ h9 => h9) rfl d_Follows_insert_62 ?_
          refine lv_iload_n hx hb d_Follows_insert_65 rfl (lv_at hl 3 rfl) ?_
          refine va_iald hx hb hK hP 1 0 rfl rfl (zI.inn hb1 (by decide)) d_Follows_insert_66 ?_
          refine lv_topi (fun v_218 ev_218 => ?_)
          obtain rfl : v_2 = v_218 := ev_2.trans ev_218.symm
          refine lv_iadd hx hb d_Follows_insert_67 ?_
          refine lv_topi (fun v_219 ev_219 => ?_)
          obtain rfl : v_3 = v_219 := ev_3.trans ev_219.symm
          refine lv_istore (lv' := [(5, .int v_3), (4, .int y_168), (3, .int v_1), (0, .ref b0), (1, .int b1), (2, .int b2)]) hx hb d_Follows_insert_68 hl (by decide) rfl (fun ls hl => ?_)
          suffices key : ∀ (k_235 : Nat) (y_236 : Int32) (y_237 : Nat → Int32) (H : Heap) (locs : List Loc) (ls : Array Slot), (zI y_236 0 4819) → (∀ q : Nat, y_237 q = if (y_236 : Int32).toInt < (q : Int) ∧ (q : Int) ≤ (((20 * (0 + (b1 : Int32).toInt.toNat)) : Nat) : Int) + (((b6 (0 + (b1 : Int32).toInt.toNat)).toInt.toNat : Nat) : Int) then b7 (q - 1) else b7 q) → ((y_168 : Int32).toInt ≤ (y_236 : Int32).toInt ∧ (y_236 : Int32).toInt ≤ (((20 * (0 + (b1 : Int32).toInt.toNat)) : Nat) : Int) + (((b6 (0 + (b1 : Int32).toInt.toNat)).toInt.toNat : Nat) : Int)) → y_236.toInt - (0) < (k_235 : Int) → va_P G.1 classes [(b0, .inr (4, [.ref b3, .ref b4, .ref b5])), (b3, .inl (G.2 0, 241, .inl b6)), (b4, .inl (G.2 0, 4820, .inl y_237))] H → va_D A [(b0, .inr (4, [.ref b3, .ref b4, .ref b5])), (b3, .inl (G.2 0, 241, .inl b6)), (b4, .inl (G.2 0, 4820, .inl y_237))] → va_S A s.heap H locs → lv_has ls 6 [(5, .int y_236), (4, .int y_168), (3, .int v_1), (0, .ref b0), (1, .int b1), (2, .int b2)] → W p l e m_s3_Follows_insert s m ([.ref b0, .int b1, .int b2] : List Value).toArray below meth c H locs 0 0 (MQ below (zQ G (fun v w => ∃ (e0 : Nat → Int32), ∃ (e1 : Nat → Int32), v = none ∧ w = [(b0, .inr (4, [.ref b3, .ref b4, .ref b5])), (b3, .inl (G.2 0, 241, .inl e0)), (b4, .inl (G.2 0, 4820, .inl e1))] ∧ (zqa qC e0) ∧ (∀ q : Nat, (e0 q).toInt = (b6 q).toInt ∨ q = b1.toNatClampNeg ∧ (e0 q).toInt = (b6 q).toInt + 1) ∧ (yIn (20 * (0 + b1.toInt.toNat)) (b6 (0 + b1.toInt.toNat)).toInt.toNat (0 + b1.toInt.toNat) b2 b7 b6 e1 e0)) A) ([.ref b0, .int b1, .int b2] : List Value).toArray s m_s3_Follows_insert.cells m_s3_Follows_insert.slots A) (F0 m 70 ls []) by
            exact key 4820 (v_3) (b7) _ _ _ hv_4 (by have c9 := ev_2; rw [z_plf hb1 (by decide), show b1.toInt.toNat = 0 + b1.toInt.toNat by omega] at c9; intro q; rw [← c9, if_neg (by omega)]) (by have b9 := hli_170; have c9 := ev_2; rw [z_plf hb1 (by decide), show b1.toInt.toNat = 0 + b1.toInt.toNat by omega] at c9; rw [← c9] at b9 ⊢; omega) (zm_dni hv_4 (by decide)) hP hD hS (lv_sub hl [0, 1, 2, 3, 4, 5] rfl)
          intro k_235
          induction k_235 with
          | zero =>
            intro y_236 y_237 H locs ls hy_236 hli_238 hli_239 hmk_235 hP hD hS hl
            exact (zm_dn0 hy_236 hmk_235).elim
          | succ k_235 ihk_235 =>
            intro y_236 y_237 H locs ls hy_236 hli_238 hli_239 hmk_235 hP hD hS hl
            refine lv_iload hx hb d_Follows_insert_70 (lv_at hl 0 rfl) ?_
            refine lv_iload hx hb d_Follows_insert_72 (lv_at hl 1 rfl) ?_
            refine lv_icmp_le (tgt := 99) hx hb d_Follows_insert_74 (by decide) (fun hc_240 => ?_) (fun hc_240 => ?_)
            · have _nhc_240 := hc_240
              have ni_241 := (fa_le _ _).mp hc_240
              have hv_242 : zI y_236 0 4800 := zI.le_l hy_236 hv_213 hc_240 (by decide)
              refine lv_aload_n hx hb d_Follows_insert_99 rfl (lv_at hl 3 rfl) ?_
              refine va_get (D := G.1) (ci := 4) (v := .ref b4) (C := R_Follows) (T := F_Follows) (N := 3) hx hb hts i_Follows hown hK hP 0 rfl rfl 1 (by decide) (hts _ q148) (fun _ h9 => h9) rfl d_Follows_insert_100 ?_
              refine lv_iload hx hb d_Follows_insert_103 (lv_at hl 1 rfl) ?_
              refine lv_iload_n hx hb d_Follows_insert_105 rfl (lv_at hl 5 rfl) ?_
              refine va_iast hx hb hK hP hD hS 2 0 rfl rfl (zI.inn hv_213 (by decide)) d_Follows_insert_106 (fun H locs hP hD hS => ?_)
              obtain ⟨f_243, gf_243, uf_243, hP, hD⟩ := z_newFu 2 hP hD rfl
              have hP : va_P G.1 classes [(b0, .inr (4, [.ref b3, .ref b4, .ref b5])), (b3, .inl (G.2 0, 241, .inl b6)), (b4, .inl (G.2 0, 4820, .inl f_243))] H := hP
              have hD := z_tie hP hD rfl
              refine lv_aload_n hx hb d_Follows_insert_107 rfl (lv_at hl 3 rfl) ?_
              refine va_get (D := G.1) (ci := 4) (v := .ref b3) (C := R_Follows) (T := F_Follows) (N := 3) hx hb hts i_Follows hown hK hP 0 rfl rfl 0 (by decide) (hts _ q146) (fun _ h9 => h9) rfl d_Follows_insert_108 ?_
              refine lv_iload_n hx hb d_Follows_insert_111 rfl (lv_at hl 4 rfl) ?_
              refine lv_dup2_11 hx hb d_Follows_insert_112 rfl rfl ?_
              refine va_iald hx hb hK hP 1 0 rfl rfl (zI.inn hb1 (by decide)) d_Follows_insert_113 ?_
              refine lv_topi (fun v_244 ev_244 => ?_)
              obtain rfl : v_2 = v_244 := ev_2.trans ev_244.symm
              refine lv_iconst (v := 1) hx hb d_Follows_insert_114 (by decide) ?_
              refine lv_iadd hx hb d_Follows_insert_115 ?_
              refine lv_topi (fun v_245 ev_245 => ?_)
              obtain ⟨qv_245, hv_245⟩ := zI_add (l := 1) (h := 261) hv_2 zc_1 ev_245 (by decide)
              rw [li_1] at qv_245
              refine va_iast hx hb hK hP hD hS 1 0 rfl rfl (zI.inn hb1 (by decide)) d_Follows_insert_116 (fun H locs hP hD hS => ?_)
              obtain ⟨f_246, hf_246, gf_246, uf_246, hP, hD⟩ := z_newq_ (Q := qC) 1 hP hD rfl hb6 (qC_v hb1 (by decide) ⟨⟨by have _w := hv_245; have _x := hb1; omega, by have _w := hv_245; have _x := hb1; omega⟩, by have _w := hv_245; have _x := hb1; omega⟩)
              have hP : va_P G.1 classes [(b0, .inr (4, [.ref b3, .ref b4, .ref b5])), (b3, .inl (G.2 0, 241, .inl f_246)), (b4, .inl (G.2 0, 4820, .inl f_243))] H := hP
              have hD := z_tie hP hD rfl
              exact z_vret hx hb hr hlocks hP hD hS (Nat.le_of_ble_eq_true rfl) (Nat.le_of_ble_eq_true rfl) d_Follows_insert_117 ⟨f_246, f_243, rfl, rfl, hf_246, (by intro q; rw [uf_246, z_at]; split; rename_i h; right; refine ⟨h, ?_⟩; rw [h, ← ev_2]; omega; left; rfl), (by have b9 := hli_170; have g9 := hli_169; have k9 := hli_238; have d9 := hli_239; exact yIn_g (st_ := v_1) (at_ := y_168) (by omega) ⟨by omega, b9.2⟩ g9 (Or.inr ⟨by omega, by have e9 := congrArg Int32.toInt ev_215; rw [show v_214.toNatClampNeg = y_168.toInt.toNat - 1 by have p9 := z_pl hv_214 (by decide); omega] at e9; omega⟩) (fun q => by have k8 := k9 q; rw [show y_236.toInt = y_168.toInt by omega] at k8; exact k8) uf_243 (by rw [← (show b1.toNatClampNeg = 0 + b1.toInt.toNat by rw [z_plf hb1 (by decide)]; omega)]; exact ev_2) ev_245 (by rw [← (show b1.toNatClampNeg = 0 + b1.toInt.toNat by rw [z_plf hb1 (by decide)]; omega)]; exact uf_246))⟩
            · have _nhc_240 := hc_240
              have ni_247 := (fa_lt _ _).mp (zi_nle hc_240)
              have hv_248 : zI y_236 2 4819 := zI.lt_r hv_213 hy_236 (zi_nle hc_240) (by decide)
              refine lv_aload_n hx hb d_Follows_insert_77 rfl (lv_at hl 3 rfl) ?_
              refine va_get (D := G.1) (ci := 4) (v := .ref b4) (C := R_Follows) (T := F_Follows) (N := 3) hx hb hts i_Follows hown hK hP 0 rfl rfl 1 (by decide) (hts _ q148) (fun _ h9 => h9) rfl d_Follows_insert_78 ?_
              refine lv_iload hx hb d_Follows_insert_81 (lv_at hl 0 rfl) ?_
              refine lv_aload_n hx hb d_Follows_insert_83 rfl (lv_at hl 3 rfl) ?_
              refine va_get (D := G.1) (ci := 4) (v := .ref b4) (C := R_Follows) (T := F_Follows) (N := 3) hx hb hts i_Follows hown hK hP 0 rfl rfl 1 (by decide) (hts _ q148) (fun _ h9 => h9) rfl d_Follows_insert_84 ?_
              refine lv_iload hx hb d_Follows_insert_87 (lv_at hl 0 rfl) ?_
              refine lv_iconst (v := 1) hx hb d_Follows_insert_89 (by decide) ?_
              refine lv_isub hx hb d_Follows_insert_90 ?_
              refine lv_topi (fun v_249 ev_249 => ?_)
              obtain ⟨qv_249, hv_249⟩ := zI_sub (l := 1) (h := 4818) hv_248 zc_1 ev_249 (by decide)
              rw [li_1] at qv_249
              refine va_iald hx hb hK hP 2 0 rfl rfl (zI.inn hv_249 (by decide)) d_Follows_insert_91 ?_
              refine lv_topi (fun v_250 ev_250 => ?_)
              refine va_iast hx hb hK hP hD hS 2 0 rfl rfl (zI.inn hv_248 (by decide)) d_Follows_insert_92 (fun H locs hP hD hS => ?_)
              obtain ⟨f_251, gf_251, uf_251, hP, hD⟩ := z_newFu 2 hP hD rfl
              have hP : va_P G.1 classes [(b0, .inr (4, [.ref b3, .ref b4, .ref b5])), (b3, .inl (G.2 0, 241, .inl b6)), (b4, .inl (G.2 0, 4820, .inl f_251))] H := hP
              have hD := z_tie hP hD rfl
              obtain ⟨v_252, ev_252⟩ : ∃ z : Int32, z = y_236 + (-1) := ⟨_, rfl⟩
              obtain ⟨qv_252, hv_252⟩ := zI_add (l := 1) (h := 4818) hv_248 zc_m1 ev_252 (by decide)
              rw [li_m1] at qv_252
              refine lv_iinc (v := v_252) (lv' := [(5, .int v_252), (4, .int y_168), (3, .int v_1), (0, .ref b0), (1, .int b1), (2, .int b2)]) hx hb d_Follows_insert_93 hl (k := 0) rfl (by rw [ev_252]; rfl) (by decide) rfl (fun ls hl => ?_)
              refine lv_goto (tgt := 70) hx hb d_Follows_insert_96 (by decide) ?_
              exact ihk_235 (v_252) (f_251) _ _ _ (zI.wk (l' := 0) (h' := 4819) hv_252 (by decide)) (by have p9 := z_pl hv_248 (by decide); have p8 := z_pl hv_249 (by decide); have b9 := hli_239; have c9 := ev_2; rw [z_plf hb1 (by decide), show b1.toInt.toNat = 0 + b1.toInt.toNat by omega] at c9; rw [← c9] at b9 ⊢; have k9 := hli_238; rw [← c9] at k9; intro q; rw [uf_251, z_at]; by_cases c8 : q = y_236.toNatClampNeg; (rw [if_pos c8, if_pos (by omega), ev_250, k9, if_neg (by omega)]; congr 1; omega); (rw [if_neg c8, k9]; by_cases c7 : y_236.toInt < (q : Int) ∧ (q : Int) ≤ (((20 * (0 + (b1 : Int32).toInt.toNat)) : Nat) : Int) + ((v_2.toInt.toNat : Nat) : Int); (rw [if_pos c7, if_pos (by omega)]); rw [if_neg c7, if_neg (by omega)])) (by have a9 := hli_239; omega) (zm_dn qv_252 hmk_235 (by decide)) hP hD hS (lv_sub hl [0, 1, 2, 3, 4, 5] rfl)
        · have _nhc_216 := hc_216
          have ni_253 := (fa_eq _ _).mp hc_216
          exact z_vret hx hb hr hlocks hP hD hS (Nat.le_of_ble_eq_true rfl) (Nat.le_of_ble_eq_true rfl) d_Follows_insert_59 ⟨b6, b7, rfl, rfl, hb6, (fun _ => Or.inl rfl), (by have b9 := hli_170; have g9 := hli_169; exact yIn_f (st_ := v_1) (at_ := y_168) (j := v_214) (by omega) ⟨by omega, b9.2⟩ g9 (by omega) ev_215 (by omega))⟩
    · have _nhc_171 := hc_171
      have ni_254 := (fa_lt _ _).mp (zi_nle hc_171)
      have hv_255 : zI y_168 1 4819 := zI.lt_r hv_1 hy_168 (zi_nle hc_171) (by decide)
      refine lv_aload_n hx hb d_Follows_insert_21 rfl (lv_at hl 2 rfl) ?_
      refine va_get (D := G.1) (ci := 4) (v := .ref b4) (C := R_Follows) (T := F_Follows) (N := 3) hx hb hts i_Follows hown hK hP 0 rfl rfl 1 (by decide) (hts _ q148) (fun _ h9 => h9) rfl d_Follows_insert_22 ?_
      refine lv_iload hx hb d_Follows_insert_25 (lv_at hl 0 rfl) ?_
      refine lv_iconst (v := 1) hx hb d_Follows_insert_27 (by decide) ?_
      refine lv_isub hx hb d_Follows_insert_28 ?_
      refine lv_topi (fun v_256 ev_256 => ?_)
      obtain ⟨qv_256, hv_256⟩ := zI_sub (l := 0) (h := 4818) hv_255 zc_1 ev_256 (by decide)
      rw [li_1] at qv_256
      refine va_iald hx hb hK hP 2 0 rfl rfl (zI.inn hv_256 (by decide)) d_Follows_insert_29 ?_
      refine lv_topi (fun v_257 ev_257 => ?_)
      refine lv_iload_n hx hb d_Follows_insert_30 rfl (lv_at hl 4 rfl) ?_
      refine lv_icmp_le (tgt := 40) hx hb d_Follows_insert_31 (by decide) (fun hc_258 => ?_) (fun hc_258 => ?_)
      · have _nhc_258 := hc_258
        have ni_259 := (fa_le _ _).mp hc_258
        refine lv_iload hx hb d_Follows_insert_40 (lv_at hl 0 rfl) ?_
        refine lv_iload_n hx hb d_Follows_insert_42 rfl (lv_at hl 1 rfl) ?_
        refine lv_icmp_le (tgt := 60) hx hb d_Follows_insert_43 (by decide) (fun hc_260 => ?_) (fun hc_260 => ?_)
        · have _nhc_260 := hc_260
          have ni_261 := (fa_le _ _).mp hc_260
          have hv_262 : zI y_168 1 4800 := zI.le_l hv_255 hv_1 hc_260 (by decide)
          have hv_263 : zI v_1 1 4800 := zI.le_r hv_255 hv_1 hc_260 (by decide)
          refine lv_iload_n hx hb d_Follows_insert_60 rfl (lv_at hl 1 rfl) ?_
          refine lv_aload_n hx hb d_Follows_insert_61 rfl (lv_at hl 2 rfl) ?_
          refine va_get (D := G.1) (ci := 4) (v := .ref b3) (C := R_Follows) (T := F_Follows) (N := 3) hx hb hts i_Follows hown hK hP 0 rfl rfl 0 (by decide) (hts _ q146) (fun _ h9 => h9) rfl d_Follows_insert_62 ?_
          refine lv_iload_n hx hb d_Follows_insert_65 rfl (lv_at hl 3 rfl) ?_
          refine va_iald hx hb hK hP 1 0 rfl rfl (zI.inn hb1 (by decide)) d_Follows_insert_66 ?_
          refine lv_topi (fun v_264 ev_264 => ?_)
          obtain rfl : v_2 = v_264 := ev_2.trans ev_264.symm
          refine lv_iadd hx hb d_Follows_insert_67 ?_
          refine lv_topi (fun v_265 ev_265 => ?_)
          obtain rfl : v_3 = v_265 := ev_3.trans ev_265.symm
          refine lv_istore (lv' := [(5, .int v_3), (4, .int y_168), (3, .int v_1), (0, .ref b0), (1, .int b1), (2, .int b2)]) hx hb d_Follows_insert_68 hl (by decide) rfl (fun ls hl => ?_)
          suffices key : ∀ (k_281 : Nat) (y_282 : Int32) (y_283 : Nat → Int32) (H : Heap) (locs : List Loc) (ls : Array Slot), (zI y_282 0 4819) → (∀ q : Nat, y_283 q = if (y_282 : Int32).toInt < (q : Int) ∧ (q : Int) ≤ (((20 * (0 + (b1 : Int32).toInt.toNat)) : Nat) : Int) + (((b6 (0 + (b1 : Int32).toInt.toNat)).toInt.toNat : Nat) : Int) then b7 (q - 1) else b7 q) → ((y_168 : Int32).toInt ≤ (y_282 : Int32).toInt ∧ (y_282 : Int32).toInt ≤ (((20 * (0 + (b1 : Int32).toInt.toNat)) : Nat) : Int) + (((b6 (0 + (b1 : Int32).toInt.toNat)).toInt.toNat : Nat) : Int)) → y_282.toInt - (0) < (k_281 : Int) → va_P G.1 classes [(b0, .inr (4, [.ref b3, .ref b4, .ref b5])), (b3, .inl (G.2 0, 241, .inl b6)), (b4, .inl (G.2 0, 4820, .inl y_283))] H → va_D A [(b0, .inr (4, [.ref b3, .ref b4, .ref b5])), (b3, .inl (G.2 0, 241, .inl b6)), (b4, .inl (G.2 0, 4820, .inl y_283))] → va_S A s.heap H locs → lv_has ls 6 [(5, .int y_282), (4, .int y_168), (3, .int v_1), (0, .ref b0), (1, .int b1), (2, .int b2)] → W p l e m_s3_Follows_insert s m ([.ref b0, .int b1, .int b2] : List Value).toArray below meth c H locs 0 0 (MQ below (zQ G (fun v w => ∃ (e0 : Nat → Int32), ∃ (e1 : Nat → Int32), v = none ∧ w = [(b0, .inr (4, [.ref b3, .ref b4, .ref b5])), (b3, .inl (G.2 0, 241, .inl e0)), (b4, .inl (G.2 0, 4820, .inl e1))] ∧ (zqa qC e0) ∧ (∀ q : Nat, (e0 q).toInt = (b6 q).toInt ∨ q = b1.toNatClampNeg ∧ (e0 q).toInt = (b6 q).toInt + 1) ∧ (yIn (20 * (0 + b1.toInt.toNat)) (b6 (0 + b1.toInt.toNat)).toInt.toNat (0 + b1.toInt.toNat) b2 b7 b6 e1 e0)) A) ([.ref b0, .int b1, .int b2] : List Value).toArray s m_s3_Follows_insert.cells m_s3_Follows_insert.slots A) (F0 m 70 ls []) by
            exact key 4820 (v_3) (b7) _ _ _ hv_4 (by have c9 := ev_2; rw [z_plf hb1 (by decide), show b1.toInt.toNat = 0 + b1.toInt.toNat by omega] at c9; intro q; rw [← c9, if_neg (by omega)]) (by have b9 := hli_170; have c9 := ev_2; rw [z_plf hb1 (by decide), show b1.toInt.toNat = 0 + b1.toInt.toNat by omega] at c9; rw [← c9] at b9 ⊢; omega) (zm_dni hv_4 (by decide)) hP hD hS (lv_sub hl [0, 1, 2, 3, 4, 5] rfl)
          intro k_281
          induction k_281 with
          | zero =>
            intro y_282 y_283 H locs ls hy_282 hli_284 hli_285 hmk_281 hP hD hS hl
            exact (zm_dn0 hy_282 hmk_281).elim
          | succ k_281 ihk_281 =>
            intro y_282 y_283 H locs ls hy_282 hli_284 hli_285 hmk_281 hP hD hS hl
            refine lv_iload hx hb d_Follows_insert_70 (lv_at hl 0 rfl) ?_
            refine lv_iload hx hb d_Follows_insert_72 (lv_at hl 1 rfl) ?_
            refine lv_icmp_le (tgt := 99) hx hb d_Follows_insert_74 (by decide) (fun hc_286 => ?_) (fun hc_286 => ?_)
            · have _nhc_286 := hc_286
              have ni_287 := (fa_le _ _).mp hc_286
              have hv_288 : zI y_282 0 4800 := zI.le_l hy_282 hv_262 hc_286 (by decide)
              refine lv_aload_n hx hb d_Follows_insert_99 rfl (lv_at hl 3 rfl) ?_
              refine va_get (D := G.1) (ci := 4) (v := .ref b4) (C := R_Follows) (T := F_Follows) (N := 3) hx hb hts i_Follows hown hK hP 0 rfl rfl 1 (by decide) (hts _ q148) (fun _ h9 => h9) rfl d_Follows_insert_100 ?_
              refine lv_iload hx hb d_Follows_insert_103 (lv_at hl 1 rfl) ?_
              refine lv_iload_n hx hb d_Follows_insert_105 rfl (lv_at hl 5 rfl) ?_
              refine va_iast hx hb hK hP hD hS 2 0 rfl rfl (zI.inn hv_262 (by decide)) d_Follows_insert_106 (fun H locs hP hD hS => ?_)
              obtain ⟨f_289, gf_289, uf_289, hP, hD⟩ := z_newFu 2 hP hD rfl
              have hP : va_P G.1 classes [(b0, .inr (4, [.ref b3, .ref b4, .ref b5])), (b3, .inl (G.2 0, 241, .inl b6)), (b4, .inl (G.2 0, 4820, .inl f_289))] H := hP
              have hD := z_tie hP hD rfl
              refine lv_aload_n hx hb d_Follows_insert_107 rfl (lv_at hl 3 rfl) ?_
              refine va_get (D := G.1) (ci := 4) (v := .ref b3) (C := R_Follows) (T := F_Follows) (N := 3) hx hb hts i_Follows hown hK hP 0 rfl rfl 0 (by decide) (hts _ q146) (fun _ h9 => h9) rfl d_Follows_insert_108 ?_
              refine lv_iload_n hx hb d_Follows_insert_111 rfl (lv_at hl 4 rfl) ?_
              refine lv_dup2_11 hx hb d_Follows_insert_112 rfl rfl ?_
              refine va_iald hx hb hK hP 1 0 rfl rfl (zI.inn hb1 (by decide)) d_Follows_insert_113 ?_
              refine lv_topi (fun v_290 ev_290 => ?_)
              obtain rfl : v_2 = v_290 := ev_2.trans ev_290.symm
              refine lv_iconst (v := 1) hx hb d_Follows_insert_114 (by decide) ?_
              refine lv_iadd hx hb d_Follows_insert_115 ?_
              refine lv_topi (fun v_291 ev_291 => ?_)
              obtain ⟨qv_291, hv_291⟩ := zI_add (l := 1) (h := 261) hv_2 zc_1 ev_291 (by decide)
              rw [li_1] at qv_291
              refine va_iast hx hb hK hP hD hS 1 0 rfl rfl (zI.inn hb1 (by decide)) d_Follows_insert_116 (fun H locs hP hD hS => ?_)
              obtain ⟨f_292, hf_292, gf_292, uf_292, hP, hD⟩ := z_newq_ (Q := qC) 1 hP hD rfl hb6 (qC_v hb1 (by decide) ⟨⟨by have _w := hv_291; have _x := hb1; omega, by have _w := hv_291; have _x := hb1; omega⟩, by have _w := hv_291; have _x := hb1; omega⟩)
              have hP : va_P G.1 classes [(b0, .inr (4, [.ref b3, .ref b4, .ref b5])), (b3, .inl (G.2 0, 241, .inl f_292)), (b4, .inl (G.2 0, 4820, .inl f_289))] H := hP
              have hD := z_tie hP hD rfl
              exact z_vret hx hb hr hlocks hP hD hS (Nat.le_of_ble_eq_true rfl) (Nat.le_of_ble_eq_true rfl) d_Follows_insert_117 ⟨f_292, f_289, rfl, rfl, hf_292, (by intro q; rw [uf_292, z_at]; split; rename_i h; right; refine ⟨h, ?_⟩; rw [h, ← ev_2]; omega; left; rfl), (by have b9 := hli_170; have g9 := hli_169; have k9 := hli_284; have d9 := hli_285; exact yIn_g (st_ := v_1) (at_ := y_168) (by omega) ⟨by omega, b9.2⟩ g9 (Or.inr ⟨by omega, by have e9 := congrArg Int32.toInt ev_257; rw [show v_256.toNatClampNeg = y_168.toInt.toNat - 1 by have p9 := z_pl hv_256 (by decide); omega] at e9; omega⟩) (fun q => by have k8 := k9 q; rw [show y_282.toInt = y_168.toInt by omega] at k8; exact k8) uf_289 (by rw [← (show b1.toNatClampNeg = 0 + b1.toInt.toNat by rw [z_plf hb1 (by decide)]; omega)]; exact ev_2) ev_291 (by rw [← (show b1.toNatClampNeg = 0 + b1.toInt.toNat by rw [z_plf hb1 (by decide)]; omega)]; exact uf_292))⟩
            · have _nhc_286 := hc_286
              have ni_293 := (fa_lt _ _).mp (zi_nle hc_286)
              have hv_294 : zI y_282 2 4819 := zI.lt_r hv_262 hy_282 (zi_nle hc_286) (by decide)
              refine lv_aload_n hx hb d_Follows_insert_77 rfl (lv_at hl 3 rfl) ?_
              refine va_get (D := G.1) (ci := 4) (v := .ref b4) (C := R_Follows) (T := F_Follows) (N := 3) hx hb hts i_Follows hown hK hP 0 rfl rfl 1 (by decide) (hts _ q148) (fun _ h9 => h9) rfl d_Follows_insert_78 ?_
              refine lv_iload hx hb d_Follows_insert_81 (lv_at hl 0 rfl) ?_
              refine lv_aload_n hx hb d_Follows_insert_83 rfl (lv_at hl 3 rfl) ?_
              refine va_get (D := G.1) (ci := 4) (v := .ref b4) (C := R_Follows) (T := F_Follows) (N := 3) hx hb hts i_Follows hown hK hP 0 rfl rfl 1 (by decide) (hts _ q148) (fun _ h9 => h9) rfl d_Follows_insert_84 ?_
              refine lv_iload hx hb d_Follows_insert_87 (lv_at hl 0 rfl) ?_
              refine lv_iconst (v := 1) hx hb d_Follows_insert_89 (by decide) ?_
              refine lv_isub hx hb d_Follows_insert_90 ?_
              refine lv_topi (fun v_295 ev_295 => ?_)
              obtain ⟨qv_295, hv_295⟩ := zI_sub (l := 1) (h := 4818) hv_294 zc_1 ev_295 (by decide)
              rw [li_1] at qv_295
              refine va_iald hx hb hK hP 2 0 rfl rfl (zI.inn hv_295 (by decide)) d_Follows_insert_91 ?_
              refine lv_topi (fun v_296 ev_296 => ?_)
              refine va_iast hx hb hK hP hD hS 2 0 rfl rfl (zI.inn hv_294 (by decide)) d_Follows_insert_92 (fun H locs hP hD hS => ?_)
              obtain ⟨f_297, gf_297, uf_297, hP, hD⟩ := z_newFu 2 hP hD rfl
              have hP : va_P G.1 classes [(b0, .inr (4, [.ref b3, .ref b4, .ref b5])), (b3, .inl (G.2 0, 241, .inl b6)), (b4, .inl (G.2 0, 4820, .inl f_297))] H := hP
              have hD := z_tie hP hD rfl
              obtain ⟨v_298, ev_298⟩ : ∃ z : Int32, z = y_282 + (-1) := ⟨_, rfl⟩
              obtain ⟨qv_298, hv_298⟩ := zI_add (l := 1) (h := 4818) hv_294 zc_m1 ev_298 (by decide)
              rw [li_m1] at qv_298
              refine lv_iinc (v := v_298) (lv' := [(5, .int v_298), (4, .int y_168), (3, .int v_1), (0, .ref b0), (1, .int b1), (2, .int b2)]) hx hb d_Follows_insert_93 hl (k := 0) rfl (by rw [ev_298]; rfl) (by decide) rfl (fun ls hl => ?_)
              refine lv_goto (tgt := 70) hx hb d_Follows_insert_96 (by decide) ?_
              exact ihk_281 (v_298) (f_297) _ _ _ (zI.wk (l' := 0) (h' := 4819) hv_298 (by decide)) (by have p9 := z_pl hv_294 (by decide); have p8 := z_pl hv_295 (by decide); have b9 := hli_285; have c9 := ev_2; rw [z_plf hb1 (by decide), show b1.toInt.toNat = 0 + b1.toInt.toNat by omega] at c9; rw [← c9] at b9 ⊢; have k9 := hli_284; rw [← c9] at k9; intro q; rw [uf_297, z_at]; by_cases c8 : q = y_282.toNatClampNeg; (rw [if_pos c8, if_pos (by omega), ev_296, k9, if_neg (by omega)]; congr 1; omega); (rw [if_neg c8, k9]; by_cases c7 : y_282.toInt < (q : Int) ∧ (q : Int) ≤ (((20 * (0 + (b1 : Int32).toInt.toNat)) : Nat) : Int) + ((v_2.toInt.toNat : Nat) : Int); (rw [if_pos c7, if_pos (by omega)]); rw [if_neg c7, if_neg (by omega)])) (by have a9 := hli_285; omega) (zm_dn qv_298 hmk_281 (by decide)) hP hD hS (lv_sub hl [0, 1, 2, 3, 4, 5] rfl)
        · have _nhc_260 := hc_260
          have ni_299 := (fa_lt _ _).mp (zi_nle hc_260)
          refine lv_aload_n hx hb d_Follows_insert_46 rfl (lv_at hl 2 rfl) ?_
          refine va_get (D := G.1) (ci := 4) (v := .ref b4) (C := R_Follows) (T := F_Follows) (N := 3) hx hb hts i_Follows hown hK hP 0 rfl rfl 1 (by decide) (hts _ q148) (fun _ h9 => h9) rfl d_Follows_insert_47 ?_
          refine lv_iload hx hb d_Follows_insert_50 (lv_at hl 0 rfl) ?_
          refine lv_iconst (v := 1) hx hb d_Follows_insert_52 (by decide) ?_
          refine lv_isub hx hb d_Follows_insert_53 ?_
          refine lv_topi (fun v_300 ev_300 => ?_)
          obtain rfl : v_256 = v_300 := ev_256.trans ev_300.symm
          refine va_iald hx hb hK hP 2 0 rfl rfl (zI.inn hv_256 (by decide)) d_Follows_insert_54 ?_
          refine lv_topi (fun v_301 ev_301 => ?_)
          obtain rfl : v_257 = v_301 := ev_257.trans ev_301.symm
          refine lv_iload_n hx hb d_Follows_insert_55 rfl (lv_at hl 4 rfl) ?_
          refine lv_icmp_ne (tgt := 60) hx hb d_Follows_insert_56 (by decide) (fun hc_302 => ?_) (fun hc_302 => ?_)
          · have _nhc_302 := hc_302
            have ni_303 : ¬ (v_257 : Int32).toInt = (b2 : Int32).toInt := fun z => hc_302 ((fa_eq _ _).mpr z)
            refine lv_iload_n hx hb d_Follows_insert_60 rfl (lv_at hl 1 rfl) ?_
            refine lv_aload_n hx hb d_Follows_insert_61 rfl (lv_at hl 2 rfl) ?_
            refine va_get (D := G.1) (ci := 4) (v := .ref b3) (C := R_Follows) (T := F_Follows) (N := 3) hx hb hts i_Follows hown hK hP 0 rfl rfl 0 (by decide) (hts _ q146) (fun _ h9 => h9) rfl d_Follows_insert_62 ?_
            refine lv_iload_n hx hb d_Follows_insert_65 rfl (lv_at hl 3 rfl) ?_
            refine va_iald hx hb hK hP 1 0 rfl rfl (zI.inn hb1 (by decide)) d_Follows_insert_66 ?_
            refine lv_topi (fun v_304 ev_304 => ?_)
            obtain rfl : v_2 = v_304 := ev_2.trans ev_304.symm
            refine lv_iadd hx hb d_Follows_insert_67 ?_
            refine lv_topi (fun v_305 ev_305 => ?_)
            obtain rfl : v_3 = v_305 := ev_3.trans ev_305.symm
            refine lv_istore (lv' := [(5, .int v_3), (4, .int y_168), (3, .int v_1), (0, .ref b0), (1, .int b1), (2, .int b2)]) hx hb d_Follows_insert_68 hl (by decide) rfl (fun ls hl => ?_)
            suffices key : ∀ (k_321 : Nat) (y_322 : Int32) (y_323 : Nat → Int32) (H : Heap) (locs : List Loc) (ls : Array Slot), (zI y_322 0 4819) → (∀ q : Nat, y_323 q = if (y_322 : Int32).toInt < (q : Int) ∧ (q : Int) ≤ (((20 * (0 + (b1 : Int32).toInt.toNat)) : Nat) : Int) + (((b6 (0 + (b1 : Int32).toInt.toNat)).toInt.toNat : Nat) : Int) then b7 (q - 1) else b7 q) → ((y_168 : Int32).toInt ≤ (y_322 : Int32).toInt ∧ (y_322 : Int32).toInt ≤ (((20 * (0 + (b1 : Int32).toInt.toNat)) : Nat) : Int) + (((b6 (0 + (b1 : Int32).toInt.toNat)).toInt.toNat : Nat) : Int)) → y_322.toInt - (0) < (k_321 : Int) → va_P G.1 classes [(b0, .inr (4, [.ref b3, .ref b4, .ref b5])), (b3, .inl (G.2 0, 241, .inl b6)), (b4, .inl (G.2 0, 4820, .inl y_323))] H → va_D A [(b0, .inr (4, [.ref b3, .ref b4, .ref b5])), (b3, .inl (G.2 0, 241, .inl b6)), (b4, .inl (G.2 0, 4820, .inl y_323))] → va_S A s.heap H locs → lv_has ls 6 [(5, .int y_322), (4, .int y_168), (3, .int v_1), (0, .ref b0), (1, .int b1), (2, .int b2)] → W p l e m_s3_Follows_insert s m ([.ref b0, .int b1, .int b2] : List Value).toArray below meth c H locs 0 0 (MQ below (zQ G (fun v w => ∃ (e0 : Nat → Int32), ∃ (e1 : Nat → Int32), v = none ∧ w = [(b0, .inr (4, [.ref b3, .ref b4, .ref b5])), (b3, .inl (G.2 0, 241, .inl e0)), (b4, .inl (G.2 0, 4820, .inl e1))] ∧ (zqa qC e0) ∧ (∀ q : Nat, (e0 q).toInt = (b6 q).toInt ∨ q = b1.toNatClampNeg ∧ (e0 q).toInt = (b6 q).toInt + 1) ∧ (yIn (20 * (0 + b1.toInt.toNat)) (b6 (0 + b1.toInt.toNat)).toInt.toNat (0 + b1.toInt.toNat) b2 b7 b6 e1 e0)) A) ([.ref b0, .int b1, .int b2] : List Value).toArray s m_s3_Follows_insert.cells m_s3_Follows_insert.slots A) (F0 m 70 ls []) by
              exact key 4820 (v_3) (b7) _ _ _ hv_4 (by have c9 := ev_2; rw [z_plf hb1 (by decide), show b1.toInt.toNat = 0 + b1.toInt.toNat by omega] at c9; intro q; rw [← c9, if_neg (by omega)]) (by have b9 := hli_170; have c9 := ev_2; rw [z_plf hb1 (by decide), show b1.toInt.toNat = 0 + b1.toInt.toNat by omega] at c9; rw [← c9] at b9 ⊢; omega) (zm_dni hv_4 (by decide)) hP hD hS (lv_sub hl [0, 1, 2, 3, 4, 5] rfl)
            intro k_321
            induction k_321 with
            | zero =>
              intro y_322 y_323 H locs ls hy_322 hli_324 hli_325 hmk_321 hP hD hS hl
              exact (zm_dn0 hy_322 hmk_321).elim
            | succ k_321 ihk_321 =>
              intro y_322 y_323 H locs ls hy_322 hli_324 hli_325 hmk_321 hP hD hS hl
              refine lv_iload hx hb d_Follows_insert_70 (lv_at hl 0 rfl) ?_
              refine lv_iload hx hb d_Follows_insert_72 (lv_at hl 1 rfl) ?_
              refine lv_icmp_le (tgt := 99) hx hb d_Follows_insert_74 (by decide) (fun hc_326 => ?_) (fun hc_326 => ?_)
              · have _nhc_326 := hc_326
                have ni_327 := (fa_le _ _).mp hc_326
                refine lv_aload_n hx hb d_Follows_insert_99 rfl (lv_at hl 3 rfl) ?_
                refine va_get (D := G.1) (ci := 4) (v := .ref b4) (C := R_Follows) (T := F_Follows) (N := 3) hx hb hts i_Follows hown hK hP 0 rfl rfl 1 (by decide) (hts _ q148) (fun _ h9 => h9) rfl d_Follows_insert_100 ?_
                refine lv_iload hx hb d_Follows_insert_103 (lv_at hl 1 rfl) ?_
                refine lv_iload_n hx hb d_Follows_insert_105 rfl (lv_at hl 5 rfl) ?_
                refine va_iast hx hb hK hP hD hS 2 0 rfl rfl (zI.inn hv_255 (by decide)) d_Follows_insert_106 (fun H locs hP hD hS => ?_)
                obtain ⟨f_328, gf_328, uf_328, hP, hD⟩ := z_newFu 2 hP hD rfl
                have hP : va_P G.1 classes [(b0, .inr (4, [.ref b3, .ref b4, .ref b5])), (b3, .inl (G.2 0, 241, .inl b6)), (b4, .inl (G.2 0, 4820, .inl f_328))] H := hP
                have hD := z_tie hP hD rfl
                refine lv_aload_n hx hb d_Follows_insert_107 rfl (lv_at hl 3 rfl) ?_
                refine va_get (D := G.1) (ci := 4) (v := .ref b3) (C := R_Follows) (T := F_Follows) (N := 3) hx hb hts i_Follows hown hK hP 0 rfl rfl 0 (by decide) (hts _ q146) (fun _ h9 => h9) rfl d_Follows_insert_108 ?_
                refine lv_iload_n hx hb d_Follows_insert_111 rfl (lv_at hl 4 rfl) ?_
                refine lv_dup2_11 hx hb d_Follows_insert_112 rfl rfl ?_
                refine va_iald hx hb hK hP 1 0 rfl rfl (zI.inn hb1 (by decide)) d_Follows_insert_113 ?_
                refine lv_topi (fun v_329 ev_329 => ?_)
                obtain rfl : v_2 = v_329 := ev_2.trans ev_329.symm
                refine lv_iconst (v := 1) hx hb d_Follows_insert_114 (by decide) ?_
                refine lv_iadd hx hb d_Follows_insert_115 ?_
                refine lv_topi (fun v_330 ev_330 => ?_)
                obtain ⟨qv_330, hv_330⟩ := zI_add (l := 1) (h := 261) hv_2 zc_1 ev_330 (by decide)
                rw [li_1] at qv_330
                refine va_iast hx hb hK hP hD hS 1 0 rfl rfl (zI.inn hb1 (by decide)) d_Follows_insert_116 (fun H locs hP hD hS => ?_)
                obtain ⟨f_331, hf_331, gf_331, uf_331, hP, hD⟩ := z_newq_ (Q := qC) 1 hP hD rfl hb6 (qC_v hb1 (by decide) ⟨⟨by have _w := hv_330; have _x := hb1; omega, by have _w := hv_330; have _x := hb1; omega⟩, by have _w := hv_330; have _x := hb1; omega⟩)
                have hP : va_P G.1 classes [(b0, .inr (4, [.ref b3, .ref b4, .ref b5])), (b3, .inl (G.2 0, 241, .inl f_331)), (b4, .inl (G.2 0, 4820, .inl f_328))] H := hP
                have hD := z_tie hP hD rfl
                exact z_vret hx hb hr hlocks hP hD hS (Nat.le_of_ble_eq_true rfl) (Nat.le_of_ble_eq_true rfl) d_Follows_insert_117 ⟨f_331, f_328, rfl, rfl, hf_331, (by intro q; rw [uf_331, z_at]; split; rename_i h; right; refine ⟨h, ?_⟩; rw [h, ← ev_2]; omega; left; rfl), (by have b9 := hli_170; have g9 := hli_169; have k9 := hli_324; have d9 := hli_325; exact yIn_g (st_ := v_1) (at_ := y_168) (by omega) ⟨by omega, b9.2⟩ g9 (Or.inr ⟨by omega, by have e9 := congrArg Int32.toInt ev_257; rw [show v_256.toNatClampNeg = y_168.toInt.toNat - 1 by have p9 := z_pl hv_256 (by decide); omega] at e9; omega⟩) (fun q => by have k8 := k9 q; rw [show y_322.toInt = y_168.toInt by omega] at k8; exact k8) uf_328 (by rw [← (show b1.toNatClampNeg = 0 + b1.toInt.toNat by rw [z_plf hb1 (by decide)]; omega)]; exact ev_2) ev_330 (by rw [← (show b1.toNatClampNeg = 0 + b1.toInt.toNat by rw [z_plf hb1 (by decide)]; omega)]; exact uf_331))⟩
              · have _nhc_326 := hc_326
                have ni_332 := (fa_lt _ _).mp (zi_nle hc_326)
                have hv_333 : zI y_168 1 4818 := zI.lt_l hv_255 hy_322 (zi_nle hc_326) (by decide)
                have hv_334 : zI y_322 2 4819 := zI.lt_r hv_255 hy_322 (zi_nle hc_326) (by decide)
                refine lv_aload_n hx hb d_Follows_insert_77 rfl (lv_at hl 3 rfl) ?_
                refine va_get (D := G.1) (ci := 4) (v := .ref b4) (C := R_Follows) (T := F_Follows) (N := 3) hx hb hts i_Follows hown hK hP 0 rfl rfl 1 (by decide) (hts _ q148) (fun _ h9 => h9) rfl d_Follows_insert_78 ?_
                refine lv_iload hx hb d_Follows_insert_81 (lv_at hl 0 rfl) ?_
                refine lv_aload_n hx hb d_Follows_insert_83 rfl (lv_at hl 3 rfl) ?_
                refine va_get (D := G.1) (ci := 4) (v := .ref b4) (C := R_Follows) (T := F_Follows) (N := 3) hx hb hts i_Follows hown hK hP 0 rfl rfl 1 (by decide) (hts _ q148) (fun _ h9 => h9) rfl d_Follows_insert_84 ?_
                refine lv_iload hx hb d_Follows_insert_87 (lv_at hl 0 rfl) ?_
                refine lv_iconst (v := 1) hx hb d_Follows_insert_89 (by decide) ?_
                refine lv_isub hx hb d_Follows_insert_90 ?_
                refine lv_topi (fun v_335 ev_335 => ?_)
                obtain ⟨qv_335, hv_335⟩ := zI_sub (l := 1) (h := 4818) hv_334 zc_1 ev_335 (by decide)
                rw [li_1] at qv_335
                refine va_iald hx hb hK hP 2 0 rfl rfl (zI.inn hv_335 (by decide)) d_Follows_insert_91 ?_
                refine lv_topi (fun v_336 ev_336 => ?_)
                refine va_iast hx hb hK hP hD hS 2 0 rfl rfl (zI.inn hv_334 (by decide)) d_Follows_insert_92 (fun H locs hP hD hS => ?_)
                obtain ⟨f_337, gf_337, uf_337, hP, hD⟩ := z_newFu 2 hP hD rfl
                have hP : va_P G.1 classes [(b0, .inr (4, [.ref b3, .ref b4, .ref b5])), (b3, .inl (G.2 0, 241, .inl b6)), (b4, .inl (G.2 0, 4820, .inl f_337))] H := hP
                have hD := z_tie hP hD rfl
                obtain ⟨v_338, ev_338⟩ : ∃ z : Int32, z = y_322 + (-1) := ⟨_, rfl⟩
                obtain ⟨qv_338, hv_338⟩ := zI_add (l := 1) (h := 4818) hv_334 zc_m1 ev_338 (by decide)
                rw [li_m1] at qv_338
                refine lv_iinc (v := v_338) (lv' := [(5, .int v_338), (4, .int y_168), (3, .int v_1), (0, .ref b0), (1, .int b1), (2, .int b2)]) hx hb d_Follows_insert_93 hl (k := 0) rfl (by rw [ev_338]; rfl) (by decide) rfl (fun ls hl => ?_)
                refine lv_goto (tgt := 70) hx hb d_Follows_insert_96 (by decide) ?_
                exact ihk_321 (v_338) (f_337) _ _ _ (zI.wk (l' := 0) (h' := 4819) hv_338 (by decide)) (by have p9 := z_pl hv_334 (by decide); have p8 := z_pl hv_335 (by decide); have b9 := hli_325; have c9 := ev_2; rw [z_plf hb1 (by decide), show b1.toInt.toNat = 0 + b1.toInt.toNat by omega] at c9; rw [← c9] at b9 ⊢; have k9 := hli_324; rw [← c9] at k9; intro q; rw [uf_337, z_at]; by_cases c8 : q = y_322.toNatClampNeg; (rw [if_pos c8, if_pos (by omega), ev_336, k9, if_neg (by omega)]; congr 1; omega); (rw [if_neg c8, k9]; by_cases c7 : y_322.toInt < (q : Int) ∧ (q : Int) ≤ (((20 * (0 + (b1 : Int32).toInt.toNat)) : Nat) : Int) + ((v_2.toInt.toNat : Nat) : Int); (rw [if_pos c7, if_pos (by omega)]); rw [if_neg c7, if_neg (by omega)])) (by have a9 := hli_325; omega) (zm_dn qv_338 hmk_321 (by decide)) hP hD hS (lv_sub hl [0, 1, 2, 3, 4, 5] rfl)
          · have _nhc_302 := hc_302
            have ni_339 := (fa_eq _ _).mp hc_302
            exact z_vret hx hb hr hlocks hP hD hS (Nat.le_of_ble_eq_true rfl) (Nat.le_of_ble_eq_true rfl) d_Follows_insert_59 ⟨b6, b7, rfl, rfl, hb6, (fun _ => Or.inl rfl), (by have b9 := hli_170; have g9 := hli_169; exact yIn_f (st_ := v_1) (at_ := y_168) (j := v_256) (by omega) ⟨by omega, b9.2⟩ g9 (by omega) ev_257 (by omega))⟩
      · have _nhc_258 := hc_258
        have ni_340 := (fa_lt _ _).mp (zi_nle hc_258)
        have hv_341 : zI b2 (-2147483648) 2147483646 := zI.lt_l (zI_all b2) (zI_all v_257) (zi_nle hc_258) (by decide)
        have hv_342 : zI v_257 (-2147483647) 2147483647 := zI.lt_r (zI_all b2) (zI_all v_257) (zi_nle hc_258) (by decide)
        obtain ⟨v_343, ev_343⟩ : ∃ z : Int32, z = y_168 + (-1) := ⟨_, rfl⟩
        obtain ⟨qv_343, hv_343⟩ := zI_add (l := 0) (h := 4818) hv_255 zc_m1 ev_343 (by decide)
        rw [li_m1] at qv_343
        refine lv_iinc (v := v_343) (lv' := [(4, .int v_343), (3, .int v_1), (0, .ref b0), (1, .int b1), (2, .int b2)]) hx hb d_Follows_insert_34 hl (k := 0) rfl (by rw [ev_343]; rfl) (by decide) rfl (fun ls hl => ?_)
        refine lv_goto (tgt := 15) hx hb d_Follows_insert_37 (by decide) ?_
        exact ihk_167 (v_343) _ _ _ (zI.wk (l' := 0) (h' := 4819) hv_343 (by decide)) (by have p9 := z_pl hv_256 (by decide); intro q h1 h2; by_cases c8 : y_168.toInt ≤ (q : Int); exact hli_169 q c8 h2; rw [show q = v_256.toNatClampNeg by omega, ← ev_257]; omega) (by have a9 := hli_170; omega) (zm_dn qv_343 hmk_167 (by decide)) hP hD hS (lv_sub hl [0, 1, 2, 3, 4] rfl)
abbrev m_s2_Follows_gather : Room := { frames := 2, cells := 0, slots := 0, locals := 48 }
set_option maxHeartbeats 4000000 in
set_option maxRecDepth 100000 in
theorem s2_Follows_gather (l : Launch) (G : zG) (b0 : Nat) (b1 : Nat) (b2 : Nat) (b3 : Int32) (b4 : Nat) (b5 : Nat) (b6 : Nat) (b7 : Nat → Int32) (b8 : Nat → Int32) (b9 : Nat → Int32) (b10 : Int32) (b11 : Int32) (b12 : Int32) (b13 : Nat) (b14 : Nat) (b15 : Nat) (b16 : Nat → Int32) (b17 : Nat → Int32) (b18 : Nat → Int32) (b19 : Int32) (b20 : Int32) (b21 : Int32) (b22 : Nat) (b23 : Nat) (b24 : Nat) (b25 : Nat) (b26 : Nat) (b27 : Nat) (b28 : Nat) (b29 : Nat) (b30 : Nat → Int32) (hb3 : zI b3 0 3) (hb10 : zI b10 0 20) (hb11 : zI b11 0 3) (hb12 : zI b12 0 20) (hb19 : zI b19 0 1) (hb21 : zI b21 0 241) (hb7 : zqa qC b7) (hb9 : zR b9 (-1) 240) (hb16 : zR b16 0 12) (hb17 : zR b17 0 9) (hb30 : zqa qP b30) (htr : zTr (b10 : Int32).toInt (b20 : Int32).toInt (b21 : Int32).toInt b16 b30) : zM l G y_Follows_gather prog_3_method_2_code 6 (Option.none : Option Jvm.ClassFile.FieldType) m_s2_Follows_gather [.ref b0, .ref b1, .ref b2, .int b3] [(b0, .inr (4, [.ref b4, .ref b5, .ref b6])), (b4, .inl (G.2 0, 241, .inl b7)), (b5, .inl (G.2 0, 4820, .inl b8)), (b6, .inl (G.2 0, 512, .inl b9)), (b1, .inr (2, [.int b10, .int b11, .int b12, .ref b13, .ref b14, .ref b15])), (b13, .inl (G.2 0, 20, .inl b16)), (b14, .inl (G.2 0, 240, .inl b17)), (b15, .inl (G.2 0, 240, .inl b18)), (b2, .inr (3, [.int b19, .int b20, .int b21, .ref b22, .ref b23, .ref b24, .ref b25, .ref b26, .ref b27, .ref b28, .ref b29])), (b29, .inl (G.2 0, 260, .inl b30))] (fun v w => ∃ (e0 : Nat → Int32), ∃ (e1 : Nat → Int32), ∃ (e2 : Nat → Int32), v = none ∧ w = [(b0, .inr (4, [.ref b4, .ref b5, .ref b6])), (b4, .inl (G.2 0, 241, .inl e0)), (b5, .inl (G.2 0, 4820, .inl e1)), (b6, .inl (G.2 0, 512, .inl e2)), (b1, .inr (2, [.int b10, .int b11, .int b12, .ref b13, .ref b14, .ref b15])), (b13, .inl (G.2 0, 20, .inl b16)), (b14, .inl (G.2 0, 240, .inl b17)), (b15, .inl (G.2 0, 240, .inl b18)), (b2, .inr (3, [.int b19, .int b20, .int b21, .ref b22, .ref b23, .ref b24, .ref b25, .ref b26, .ref b27, .ref b28, .ref b29])), (b29, .inl (G.2 0, 260, .inl b30))] ∧ (zqa qC e0) ∧ (zR e2 (-1) 240) ∧ (yTP (zgR (zrow b10 b11 b12 b16 b17 b18)) (zcR (zrow b10 b11 b12 b16 b17 b18)) (b20 : Int32).toInt (b10 : Int32).toInt.toNat (b21 : Int32).toInt → yPL (zgR (zrow b10 b11 b12 b16 b17 b18)) (zcR (zrow b10 b11 b12 b16 b17 b18)) (b20 : Int32).toInt (b10 : Int32).toInt.toNat 0 b30 → yFo (ypt (zgR (zrow b10 b11 b12 b16 b17 b18)) (zcR (zrow b10 b11 b12 b16 b17 b18)) (b20 : Int32).toInt) (fun t9 i9 => ((yk1 (zgR (zrow b10 b11 b12 b16 b17 b18)) (zcR (zrow b10 b11 b12 b16 b17 b18)) t9 i9 (b3 : Int32).toInt.toNat : Nat) : Int)) (zcR (zrow b10 b11 b12 b16 b17 b18)) (b20 : Int32).toInt (b10 : Int32).toInt.toNat 0 (b21 : Int32).toInt.toNat 0 e1 e0) ∧ (∀ j : Nat, (e2 j).toInt = -1)) := by
  refine z_start (by decide +kernel) (Nat.le_of_ble_eq_true rfl) ?_
  intro p e s m below meth c A Z hr hnm hA hP hD hS ls hl
  have Z : zC p s m _ meth c prog_3_method_2_code 6 "TraceMachines$Follows" G := Z
  obtain ⟨hx, hb, hml, hown, hts, hK, hN, hlocks⟩ := id Z
  have hl : lv_has ls 6 [(0, .ref b0), (1, .ref b1), (2, .ref b2), (3, .int b3)] := hl
  refine lv_aload_n hx hb d_Follows_gather_0 rfl (lv_at hl 0 rfl) ?_
  refine va_get (D := G.1) (ci := 4) (v := .ref b6) (C := R_Follows) (T := F_Follows) (N := 3) hx hb hts i_Follows hown hK hP 0 rfl rfl 2 (by decide) (hts _ q149) (fun _ h9 => h9) rfl d_Follows_gather_1 ?_
  refine lv_iconst (v := (-1)) hx hb d_Follows_gather_4 (by decide) ?_
  refine z_callS (index := 21) (As := [.ref b6, .int (-1)]) (rest := []) (wr := [(b0, .inr (4, [.ref b4, .ref b5, .ref b6])), (b4, .inl (G.2 0, 241, .inl b7)), (b5, .inl (G.2 0, 4820, .inl b8)), (b1, .inr (2, [.int b10, .int b11, .int b12, .ref b13, .ref b14, .ref b15])), (b13, .inl (G.2 0, 20, .inl b16)), (b14, .inl (G.2 0, 240, .inl b17)), (b15, .inl (G.2 0, 240, .inl b18)), (b2, .inr (3, [.int b19, .int b20, .int b21, .ref b22, .ref b23, .ref b24, .ref b25, .ref b26, .ref b27, .ref b28, .ref b29])), (b29, .inl (G.2 0, 260, .inl b30))]) Z (c_fill_I l G (b6) (512) (b9) ((-1)) (by decide)) hl.1 q605 q415 q13 q416 ⟨by decide, by decide, by show _ = some 2; decide +kernel⟩ ⟨Nat.le_of_ble_eq_true rfl, Nat.le_of_ble_eq_true rfl⟩ ⟨Nat.le_of_ble_eq_true rfl, Nat.le_of_ble_eq_true rfl⟩ rfl (Nat.le_of_ble_eq_true rfl) d_Follows_gather_5 hP hD hS hA [3] [0, 1, 2, 4, 5, 6, 7, 8, 9] rfl rfl rfl rfl (by decide) (fun v w1 H locs hw_1 hP hD hS => ?_)
  obtain ⟨rfl, rfl⟩ := hw_1
  have hP : va_P G.1 classes [(b0, .inr (4, [.ref b4, .ref b5, .ref b6])), (b4, .inl (G.2 0, 241, .inl b7)), (b5, .inl (G.2 0, 4820, .inl b8)), (b1, .inr (2, [.int b10, .int b11, .int b12, .ref b13, .ref b14, .ref b15])), (b13, .inl (G.2 0, 20, .inl b16)), (b14, .inl (G.2 0, 240, .inl b17)), (b15, .inl (G.2 0, 240, .inl b18)), (b2, .inr (3, [.int b19, .int b20, .int b21, .ref b22, .ref b23, .ref b24, .ref b25, .ref b26, .ref b27, .ref b28, .ref b29])), (b29, .inl (G.2 0, 260, .inl b30)), (b6, .inl (G.2 0, 512, .inl (fun _ => (-1))))] H := hP
  have hD := z_tie hP hD rfl
  refine W.widen (k := 0) (n := 0) (Nat.le_of_ble_eq_true rfl) (Nat.le_of_ble_eq_true rfl) ?_
  refine lv_iconst (v := 0) hx hb d_Follows_gather_8 (by decide) ?_
  refine lv_istore (lv' := [(4, .int 0), (0, .ref b0), (1, .ref b1), (2, .ref b2), (3, .int b3)]) hx hb d_Follows_gather_9 hl (by decide) rfl (fun ls hl => ?_)
  suffices key : ∀ (k_129 : Nat) (y_130 : Int32) (y_131 : Nat → Int32) (H : Heap) (locs : List Loc) (ls : Array Slot), (zI y_130 0 241) → (zqa qC y_131) → (∀ q : Nat, (q : Int) < (y_130 : Int32).toInt → (y_131 q).toInt = 0) → (241 : Int) - y_130.toInt < (k_129 : Int) → va_P G.1 classes [(b0, .inr (4, [.ref b4, .ref b5, .ref b6])), (b4, .inl (G.2 0, 241, .inl y_131)), (b5, .inl (G.2 0, 4820, .inl b8)), (b1, .inr (2, [.int b10, .int b11, .int b12, .ref b13, .ref b14, .ref b15])), (b13, .inl (G.2 0, 20, .inl b16)), (b14, .inl (G.2 0, 240, .inl b17)), (b15, .inl (G.2 0, 240, .inl b18)), (b2, .inr (3, [.int b19, .int b20, .int b21, .ref b22, .ref b23, .ref b24, .ref b25, .ref b26, .ref b27, .ref b28, .ref b29])), (b29, .inl (G.2 0, 260, .inl b30)), (b6, .inl (G.2 0, 512, .inl (fun _ => (-1))))] H → va_D A [(b0, .inr (4, [.ref b4, .ref b5, .ref b6])), (b4, .inl (G.2 0, 241, .inl y_131)), (b5, .inl (G.2 0, 4820, .inl b8)), (b1, .inr (2, [.int b10, .int b11, .int b12, .ref b13, .ref b14, .ref b15])), (b13, .inl (G.2 0, 20, .inl b16)), (b14, .inl (G.2 0, 240, .inl b17)), (b15, .inl (G.2 0, 240, .inl b18)), (b2, .inr (3, [.int b19, .int b20, .int b21, .ref b22, .ref b23, .ref b24, .ref b25, .ref b26, .ref b27, .ref b28, .ref b29])), (b29, .inl (G.2 0, 260, .inl b30)), (b6, .inl (G.2 0, 512, .inl (fun _ => (-1))))] → va_S A s.heap H locs → lv_has ls 6 [(4, .int y_130), (0, .ref b0), (1, .ref b1), (2, .ref b2), (3, .int b3)] → W p l e m_s2_Follows_gather s m ([.ref b0, .ref b1, .ref b2, .int b3] : List Value).toArray below meth c H locs 0 0 (MQ below (zQ G (fun v w => ∃ (e0 : Nat → Int32), ∃ (e1 : Nat → Int32), ∃ (e2 : Nat → Int32), v = none ∧ w = [(b0, .inr (4, [.ref b4, .ref b5, .ref b6])), (b4, .inl (G.2 0, 241, .inl e0)), (b5, .inl (G.2 0, 4820, .inl e1)), (b6, .inl (G.2 0, 512, .inl e2)), (b1, .inr (2, [.int b10, .int b11, .int b12, .ref b13, .ref b14, .ref b15])), (b13, .inl (G.2 0, 20, .inl b16)), (b14, .inl (G.2 0, 240, .inl b17)), (b15, .inl (G.2 0, 240, .inl b18)), (b2, .inr (3, [.int b19, .int b20, .int b21, .ref b22, .ref b23, .ref b24, .ref b25, .ref b26, .ref b27, .ref b28, .ref b29])), (b29, .inl (G.2 0, 260, .inl b30))] ∧ (zqa qC e0) ∧ (zR e2 (-1) 240) ∧ (yTP (zgR (zrow b10 b11 b12 b16 b17 b18)) (zcR (zrow b10 b11 b12 b16 b17 b18)) (b20 : Int32).toInt (b10 : Int32).toInt.toNat (b21 : Int32).toInt → yPL (zgR (zrow b10 b11 b12 b16 b17 b18)) (zcR (zrow b10 b11 b12 b16 b17 b18)) (b20 : Int32).toInt (b10 : Int32).toInt.toNat 0 b30 → yFo (ypt (zgR (zrow b10 b11 b12 b16 b17 b18)) (zcR (zrow b10 b11 b12 b16 b17 b18)) (b20 : Int32).toInt) (fun t9 i9 => ((yk1 (zgR (zrow b10 b11 b12 b16 b17 b18)) (zcR (zrow b10 b11 b12 b16 b17 b18)) t9 i9 (b3 : Int32).toInt.toNat : Nat) : Int)) (zcR (zrow b10 b11 b12 b16 b17 b18)) (b20 : Int32).toInt (b10 : Int32).toInt.toNat 0 (b21 : Int32).toInt.toNat 0 e1 e0) ∧ (∀ j : Nat, (e2 j).toInt = -1)) A) ([.ref b0, .ref b1, .ref b2, .int b3] : List Value).toArray s m_s2_Follows_gather.cells m_s2_Follows_gather.slots A) (F0 m 11 ls []) by
    exact key 242 (0) (b7) _ _ _ (zI.wk (l' := 0) (h' := 241) zc_0 (by decide)) hb7 (by have _l0 := li_0; intro q hq; omega) (zm_upi (zI.wk (l' := 0) (h' := 241) zc_0 (by decide)) (by decide)) hP hD hS (lv_sub hl [0, 1, 2, 3, 4] rfl)
  intro k_129
  induction k_129 with
  | zero =>
    intro y_130 y_131 H locs ls hy_130 hy_131 hli_132 hmk_129 hP hD hS hl
    exact (zm_up0 hy_130 hmk_129).elim
  | succ k_129 ihk_129 =>
    intro y_130 y_131 H locs ls hy_130 hy_131 hli_132 hmk_129 hP hD hS hl
    refine lv_iload hx hb d_Follows_gather_11 (lv_at hl 0 rfl) ?_
    refine lv_aload_n hx hb d_Follows_gather_13 rfl (lv_at hl 3 rfl) ?_
    refine va_get (D := G.1) (ci := 3) (v := .int b21) (C := R_Tree) (T := F_Tree) (N := 11) hx hb hts i_Tree hown hK hP 7 rfl rfl 2 (by decide) (hts _ q99) (fun _ h9 => h9) rfl d_Follows_gather_14 ?_
    refine lv_icmp_ge (tgt := 34) hx hb d_Follows_gather_17 (by decide) (fun hc_133 => ?_) (fun hc_133 => ?_)
    · have _nhc_133 := hc_133
      have ni_134 := (fa_le _ _).mp hc_133
      refine lv_iconst (v := 0) hx hb d_Follows_gather_34 (by decide) ?_
      refine lv_istore (lv' := [(4, .int 0), (0, .ref b0), (1, .ref b1), (2, .ref b2), (3, .int b3)]) hx hb d_Follows_gather_35 hl (by decide) rfl (fun ls hl => ?_)
      suffices key : ∀ (k_194 : Nat) (y_195 : Int32) (y_196 : Nat → Int32) (y_197 : Nat → Int32) (H : Heap) (locs : List Loc) (ls : Array Slot), (zI y_195 0 20) → (zqa qC y_196) → (∀ q : Nat, (q : Int) < (b21 : Int32).toInt → (y_196 q).toInt = 0 ∨ (y_196 q).toInt + (q : Int) ≤ 13 * (y_195 : Int32).toInt) → ((y_195 : Int32).toInt ≤ (b10 : Int32).toInt) → (yTP (zgR (zrow b10 b11 b12 b16 b17 b18)) (zcR (zrow b10 b11 b12 b16 b17 b18)) (b20 : Int32).toInt (b10 : Int32).toInt.toNat (b21 : Int32).toInt → yPL (zgR (zrow b10 b11 b12 b16 b17 b18)) (zcR (zrow b10 b11 b12 b16 b17 b18)) (b20 : Int32).toInt (b10 : Int32).toInt.toNat 0 b30 → yFo (ypt (zgR (zrow b10 b11 b12 b16 b17 b18)) (zcR (zrow b10 b11 b12 b16 b17 b18)) (b20 : Int32).toInt) (fun t9 i9 => ((yk1 (zgR (zrow b10 b11 b12 b16 b17 b18)) (zcR (zrow b10 b11 b12 b16 b17 b18)) t9 i9 (b3 : Int32).toInt.toNat : Nat) : Int)) (zcR (zrow b10 b11 b12 b16 b17 b18)) (b20 : Int32).toInt (y_195 : Int32).toInt.toNat 0 (b21 : Int32).toInt.toNat 0 y_197 y_196) → (20 : Int) - y_195.toInt < (k_194 : Int) → va_P G.1 classes [(b0, .inr (4, [.ref b4, .ref b5, .ref b6])), (b4, .inl (G.2 0, 241, .inl y_196)), (b5, .inl (G.2 0, 4820, .inl y_197)), (b1, .inr (2, [.int b10, .int b11, .int b12, .ref b13, .ref b14, .ref b15])), (b13, .inl (G.2 0, 20, .inl b16)), (b14, .inl (G.2 0, 240, .inl b17)), (b15, .inl (G.2 0, 240, .inl b18)), (b2, .inr (3, [.int b19, .int b20, .int b21, .ref b22, .ref b23, .ref b24, .ref b25, .ref b26, .ref b27, .ref b28, .ref b29])), (b29, .inl (G.2 0, 260, .inl b30)), (b6, .inl (G.2 0, 512, .inl (fun _ => (-1))))] H → va_D A [(b0, .inr (4, [.ref b4, .ref b5, .ref b6])), (b4, .inl (G.2 0, 241, .inl y_196)), (b5, .inl (G.2 0, 4820, .inl y_197)), (b1, .inr (2, [.int b10, .int b11, .int b12, .ref b13, .ref b14, .ref b15])), (b13, .inl (G.2 0, 20, .inl b16)), (b14, .inl (G.2 0, 240, .inl b17)), (b15, .inl (G.2 0, 240, .inl b18)), (b2, .inr (3, [.int b19, .int b20, .int b21, .ref b22, .ref b23, .ref b24, .ref b25, .ref b26, .ref b27, .ref b28, .ref b29])), (b29, .inl (G.2 0, 260, .inl b30)), (b6, .inl (G.2 0, 512, .inl (fun _ => (-1))))] → va_S A s.heap H locs → lv_has ls 6 [(4, .int y_195), (0, .ref b0), (1, .ref b1), (2, .ref b2), (3, .int b3)] → W p l e m_s2_Follows_gather s m ([.ref b0, .ref b1, .ref b2, .int b3] : List Value).toArray below meth c H locs 0 0 (MQ below (zQ G (fun v w => ∃ (e0 : Nat → Int32), ∃ (e1 : Nat → Int32), ∃ (e2 : Nat → Int32), v = none ∧ w = [(b0, .inr (4, [.ref b4, .ref b5, .ref b6])), (b4, .inl (G.2 0, 241, .inl e0)), (b5, .inl (G.2 0, 4820, .inl e1)), (b6, .inl (G.2 0, 512, .inl e2)), (b1, .inr (2, [.int b10, .int b11, .int b12, .ref b13, .ref b14, .ref b15])), (b13, .inl (G.2 0, 20, .inl b16)), (b14, .inl (G.2 0, 240, .inl b17)), (b15, .inl (G.2 0, 240, .inl b18)), (b2, .inr (3, [.int b19, .int b20, .int b21, .ref b22, .ref b23, .ref b24, .ref b25, .ref b26, .ref b27, .ref b28, .ref b29])), (b29, .inl (G.2 0, 260, .inl b30))] ∧ (zqa qC e0) ∧ (zR e2 (-1) 240) ∧ (yTP (zgR (zrow b10 b11 b12 b16 b17 b18)) (zcR (zrow b10 b11 b12 b16 b17 b18)) (b20 : Int32).toInt (b10 : Int32).toInt.toNat (b21 : Int32).toInt → yPL (zgR (zrow b10 b11 b12 b16 b17 b18)) (zcR (zrow b10 b11 b12 b16 b17 b18)) (b20 : Int32).toInt (b10 : Int32).toInt.toNat 0 b30 → yFo (ypt (zgR (zrow b10 b11 b12 b16 b17 b18)) (zcR (zrow b10 b11 b12 b16 b17 b18)) (b20 : Int32).toInt) (fun t9 i9 => ((yk1 (zgR (zrow b10 b11 b12 b16 b17 b18)) (zcR (zrow b10 b11 b12 b16 b17 b18)) t9 i9 (b3 : Int32).toInt.toNat : Nat) : Int)) (zcR (zrow b10 b11 b12 b16 b17 b18)) (b20 : Int32).toInt (b10 : Int32).toInt.toNat 0 (b21 : Int32).toInt.toNat 0 e1 e0) ∧ (∀ j : Nat, (e2 j).toInt = -1)) A) ([.ref b0, .ref b1, .ref b2, .int b3] : List Value).toArray s m_s2_Follows_gather.cells m_s2_Follows_gather.slots A) (F0 m 37 ls []) by
        exact key 21 (0) (y_131) (b8) _ _ _ (zI.wk (l' := 0) (h' := 20) zc_0 (by decide)) hy_131 (by have _l0 := li_0; intro q hq; left; exact hli_132 q (by omega)) (by have _l0 := li_0; omega) (fun h1 h2 => by rw [show (0 : Int32).toInt.toNat = 0 by rw [li_0]; rfl]; exact yFo_0 (fun q hq => by rw [show 0 + q = q by omega]; exact hli_132 q (by omega))) (zm_upi (zI.wk (l' := 0) (h' := 20) zc_0 (by decide)) (by decide)) hP hD hS (lv_sub hl [0, 1, 2, 3, 4] rfl)
      intro k_194
      induction k_194 with
      | zero =>
        intro y_195 y_196 y_197 H locs ls hy_195 hy_196 hli_198 hli_199 hli_200 hmk_194 hP hD hS hl
        exact (zm_up0 hy_195 hmk_194).elim
      | succ k_194 ihk_194 =>
        intro y_195 y_196 y_197 H locs ls hy_195 hy_196 hli_198 hli_199 hli_200 hmk_194 hP hD hS hl
        refine lv_iload hx hb d_Follows_gather_37 (lv_at hl 0 rfl) ?_
        refine lv_aload_n hx hb d_Follows_gather_39 rfl (lv_at hl 2 rfl) ?_
        refine va_get (D := G.1) (ci := 2) (v := .int b10) (C := R_Traces) (T := F_Traces) (N := 6) hx hb hts i_Traces hown hK hP 3 rfl rfl 0 (by decide) (hts _ q55) (fun _ h9 => h9) rfl d_Follows_gather_40 ?_
        refine lv_icmp_ge (tgt := 103) hx hb d_Follows_gather_43 (by decide) (fun hc_201 => ?_) (fun hc_201 => ?_)
        · have _nhc_201 := hc_201
          have ni_202 := (fa_le _ _).mp hc_201
          exact z_vret hx hb hr hlocks (hP.sub [0, 1, 2, 9, 3, 4, 5, 6, 7, 8] rfl) (hD.sub [0, 1, 2, 9, 3, 4, 5, 6, 7, 8] (by decide) rfl) hS (Nat.le_of_ble_eq_true rfl) (Nat.le_of_ble_eq_true rfl) d_Follows_gather_103 ⟨y_196, y_197, (fun _ => (-1)), rfl, rfl, hy_196, (zR_c (zI.wk (l' := (-1)) (h' := 240) zc_m1 (by decide))), (fun h1 h2 => by have g9 := hli_200 h1 h2; rw [show y_195.toInt.toNat = b10.toInt.toNat by omega] at g9; exact g9), (fun _ => li_m1)⟩
        · have _nhc_201 := hc_201
          have ni_203 := (fa_lt _ _).mp (zi_nle hc_201)
          have hv_204 : zI y_195 0 19 := zI.lt_l hy_195 hb10 (zi_nle hc_201) (by decide)
          have hv_205 : zI b10 1 20 := zI.lt_r hy_195 hb10 (zi_nle hc_201) (by decide)
          refine lv_iload hx hb d_Follows_gather_46 (lv_at hl 0 rfl) ?_
          refine lv_aload_n hx hb d_Follows_gather_48 rfl (lv_at hl 3 rfl) ?_
          refine va_get (D := G.1) (ci := 3) (v := .int b20) (C := R_Tree) (T := F_Tree) (N := 11) hx hb hts i_Tree hown hK hP 7 rfl rfl 1 (by decide) (hts _ q97) (fun _ h9 => h9) rfl d_Follows_gather_49 ?_
          refine lv_icmp_eq (tgt := 97) hx hb d_Follows_gather_52 (by decide) (fun hc_206 => ?_) (fun hc_206 => ?_)
          · have _nhc_206 := hc_206
            have ni_207 := (fa_eq _ _).mp hc_206
            have hv_208 : zI b20 0 19 := zI.eq_l (zI_all b20) hv_204 hc_206.symm
            obtain ⟨v_209, ev_209⟩ : ∃ z : Int32, z = y_195 + 1 := ⟨_, rfl⟩
            obtain ⟨qv_209, hv_209⟩ := zI_add (l := 1) (h := 20) hv_204 zc_1 ev_209 (by decide)
            rw [li_1] at qv_209
            refine lv_iinc (v := v_209) (lv' := [(4, .int v_209), (0, .ref b0), (1, .ref b1), (2, .ref b2), (3, .int b3)]) hx hb d_Follows_gather_97 hl (k := 0) rfl (by rw [ev_209]; rfl) (by decide) rfl (fun ls hl => ?_)
            refine lv_goto (tgt := 37) hx hb d_Follows_gather_100 (by decide) ?_
            exact ihk_194 (v_209) (y_196) (y_197) _ _ _ (zI.wk (l' := 0) (h' := 20) hv_209 (by decide)) hy_196 (by intro q hq; have := hli_198 q hq; omega) (by omega) (fun h1 h2 => by rw [show v_209.toInt.toNat = y_195.toInt.toNat + 1 by omega]; exact yFo_b (hli_200 h1 h2) (by omega)) (zm_up qv_209 hmk_194 (by decide)) hP hD hS (lv_sub hl [0, 1, 2, 3, 4] rfl)
          · have _nhc_206 := hc_206
            have ni_210 : ¬ (y_195 : Int32).toInt = (b20 : Int32).toInt := fun z => hc_206 ((fa_eq _ _).mpr z)
            refine lv_iconst (v := 0) hx hb d_Follows_gather_55 (by decide) ?_
            refine lv_istore (lv' := [(5, .int 0), (4, .int y_195), (0, .ref b0), (1, .ref b1), (2, .ref b2), (3, .int b3)]) hx hb d_Follows_gather_56 hl (by decide) rfl (fun ls hl => ?_)
            suffices key : ∀ (k_234 : Nat) (y_235 : Int32) (y_236 : Nat → Int32) (y_237 : Nat → Int32) (H : Heap) (locs : List Loc) (ls : Array Slot), (zI y_235 0 13) → (zqa qC y_236) → (∀ q : Nat, (q : Int) < (b21 : Int32).toInt → (y_236 q).toInt = 0 ∨ (y_236 q).toInt + (q : Int) ≤ 13 * (y_195 : Int32).toInt + (y_235 : Int32).toInt) → ((y_235 : Int32).toInt ≤ (b16 (y_195 : Int32).toInt.toNat).toInt + 1) → (yTP (zgR (zrow b10 b11 b12 b16 b17 b18)) (zcR (zrow b10 b11 b12 b16 b17 b18)) (b20 : Int32).toInt (b10 : Int32).toInt.toNat (b21 : Int32).toInt → yPL (zgR (zrow b10 b11 b12 b16 b17 b18)) (zcR (zrow b10 b11 b12 b16 b17 b18)) (b20 : Int32).toInt (b10 : Int32).toInt.toNat 0 b30 → yFo (ypt (zgR (zrow b10 b11 b12 b16 b17 b18)) (zcR (zrow b10 b11 b12 b16 b17 b18)) (b20 : Int32).toInt) (fun t9 i9 => ((yk1 (zgR (zrow b10 b11 b12 b16 b17 b18)) (zcR (zrow b10 b11 b12 b16 b17 b18)) t9 i9 (b3 : Int32).toInt.toNat : Nat) : Int)) (zcR (zrow b10 b11 b12 b16 b17 b18)) (b20 : Int32).toInt (y_195 : Int32).toInt.toNat (y_235 : Int32).toInt.toNat (b21 : Int32).toInt.toNat 0 y_237 y_236) → (13 : Int) - y_235.toInt < (k_234 : Int) → va_P G.1 classes [(b0, .inr (4, [.ref b4, .ref b5, .ref b6])), (b4, .inl (G.2 0, 241, .inl y_236)), (b5, .inl (G.2 0, 4820, .inl y_237)), (b1, .inr (2, [.int b10, .int b11, .int b12, .ref b13, .ref b14, .ref b15])), (b13, .inl (G.2 0, 20, .inl b16)), (b14, .inl (G.2 0, 240, .inl b17)), (b15, .inl (G.2 0, 240, .inl b18)), (b2, .inr (3, [.int b19, .int b20, .int b21, .ref b22, .ref b23, .ref b24, .ref b25, .ref b26, .ref b27, .ref b28, .ref b29])), (b29, .inl (G.2 0, 260, .inl b30)), (b6, .inl (G.2 0, 512, .inl (fun _ => (-1))))] H → va_D A [(b0, .inr (4, [.ref b4, .ref b5, .ref b6])), (b4, .inl (G.2 0, 241, .inl y_236)), (b5, .inl (G.2 0, 4820, .inl y_237)), (b1, .inr (2, [.int b10, .int b11, .int b12, .ref b13, .ref b14, .ref b15])), (b13, .inl (G.2 0, 20, .inl b16)), (b14, .inl (G.2 0, 240, .inl b17)), (b15, .inl (G.2 0, 240, .inl b18)), (b2, .inr (3, [.int b19, .int b20, .int b21, .ref b22, .ref b23, .ref b24, .ref b25, .ref b26, .ref b27, .ref b28, .ref b29])), (b29, .inl (G.2 0, 260, .inl b30)), (b6, .inl (G.2 0, 512, .inl (fun _ => (-1))))] → va_S A s.heap H locs → lv_has ls 6 [(5, .int y_235), (4, .int y_195), (0, .ref b0), (1, .ref b1), (2, .ref b2), (3, .int b3)] → W p l e m_s2_Follows_gather s m ([.ref b0, .ref b1, .ref b2, .int b3] : List Value).toArray below meth c H locs 0 0 (MQ below (zQ G (fun v w => ∃ (e0 : Nat → Int32), ∃ (e1 : Nat → Int32), ∃ (e2 : Nat → Int32), v = none ∧ w = [(b0, .inr (4, [.ref b4, .ref b5, .ref b6])), (b4, .inl (G.2 0, 241, .inl e0)), (b5, .inl (G.2 0, 4820, .inl e1)), (b6, .inl (G.2 0, 512, .inl e2)), (b1, .inr (2, [.int b10, .int b11, .int b12, .ref b13, .ref b14, .ref b15])), (b13, .inl (G.2 0, 20, .inl b16)), (b14, .inl (G.2 0, 240, .inl b17)), (b15, .inl (G.2 0, 240, .inl b18)), (b2, .inr (3, [.int b19, .int b20, .int b21, .ref b22, .ref b23, .ref b24, .ref b25, .ref b26, .ref b27, .ref b28, .ref b29])), (b29, .inl (G.2 0, 260, .inl b30))] ∧ (zqa qC e0) ∧ (zR e2 (-1) 240) ∧ (yTP (zgR (zrow b10 b11 b12 b16 b17 b18)) (zcR (zrow b10 b11 b12 b16 b17 b18)) (b20 : Int32).toInt (b10 : Int32).toInt.toNat (b21 : Int32).toInt → yPL (zgR (zrow b10 b11 b12 b16 b17 b18)) (zcR (zrow b10 b11 b12 b16 b17 b18)) (b20 : Int32).toInt (b10 : Int32).toInt.toNat 0 b30 → yFo (ypt (zgR (zrow b10 b11 b12 b16 b17 b18)) (zcR (zrow b10 b11 b12 b16 b17 b18)) (b20 : Int32).toInt) (fun t9 i9 => ((yk1 (zgR (zrow b10 b11 b12 b16 b17 b18)) (zcR (zrow b10 b11 b12 b16 b17 b18)) t9 i9 (b3 : Int32).toInt.toNat : Nat) : Int)) (zcR (zrow b10 b11 b12 b16 b17 b18)) (b20 : Int32).toInt (b10 : Int32).toInt.toNat 0 (b21 : Int32).toInt.toNat 0 e1 e0) ∧ (∀ j : Nat, (e2 j).toInt = -1)) A) ([.ref b0, .ref b1, .ref b2, .int b3] : List Value).toArray s m_s2_Follows_gather.cells m_s2_Follows_gather.slots A) (F0 m 58 ls []) by
              exact key 14 (0) (y_196) (y_197) _ _ _ (zI.wk (l' := 0) (h' := 13) zc_0 (by decide)) hy_196 (by have _l0 := li_0; intro q hq; have := hli_198 q hq; omega) (by have a9 := (hb16 (y_195).toInt.toNat).1; have _l0 := li_0; omega) (fun h1 h2 => by rw [show (0 : Int32).toInt.toNat = 0 by rw [li_0]; rfl]; exact hli_200 h1 h2) (zm_upi (zI.wk (l' := 0) (h' := 13) zc_0 (by decide)) (by decide)) hP hD hS (lv_sub hl [0, 1, 2, 3, 4, 5] rfl)
            intro k_234
            induction k_234 with
            | zero =>
              intro y_235 y_236 y_237 H locs ls hy_235 hy_236 hli_238 hli_239 hli_240 hmk_234 hP hD hS hl
              exact (zm_up0 hy_235 hmk_234).elim
            | succ k_234 ihk_234 =>
              intro y_235 y_236 y_237 H locs ls hy_235 hy_236 hli_238 hli_239 hli_240 hmk_234 hP hD hS hl
              refine lv_iload hx hb d_Follows_gather_58 (lv_at hl 0 rfl) ?_
              refine lv_aload_n hx hb d_Follows_gather_60 rfl (lv_at hl 3 rfl) ?_
              refine va_get (D := G.1) (ci := 2) (v := .ref b13) (C := R_Traces) (T := F_Traces) (N := 6) hx hb hts i_Traces hown hK hP 3 rfl rfl 3 (by decide) (hts _ q65) (fun _ h9 => h9) rfl d_Follows_gather_61 ?_
              refine lv_iload hx hb d_Follows_gather_64 (lv_at hl 1 rfl) ?_
              refine va_iald hx hb hK hP 4 0 rfl rfl (zI.inn hv_204 (by decide)) d_Follows_gather_66 ?_
              refine lv_topi (fun v_241 ev_241 => ?_)
              have hv_241 : zI v_241 0 12 := (hb16 _).eq ev_241
              refine lv_icmp_gt (tgt := 97) hx hb d_Follows_gather_67 (by decide) (fun hc_242 => ?_) (fun hc_242 => ?_)
              · have _nhc_242 := hc_242
                have ni_243 := (fa_lt _ _).mp hc_242
                have hv_244 : zI y_235 1 13 := zI.lt_r hv_241 hy_235 hc_242 (by decide)
                obtain ⟨v_245, ev_245⟩ : ∃ z : Int32, z = y_195 + 1 := ⟨_, rfl⟩
                obtain ⟨qv_245, hv_245⟩ := zI_add (l := 1) (h := 20) hv_204 zc_1 ev_245 (by decide)
                rw [li_1] at qv_245
                refine lv_iinc (v := v_245) (lv' := [(4, .int v_245), (5, .int y_235), (0, .ref b0), (1, .ref b1), (2, .ref b2), (3, .int b3)]) hx hb d_Follows_gather_97 hl (k := 1) rfl (by rw [ev_245]; rfl) (by decide) rfl (fun ls hl => ?_)
                refine lv_goto (tgt := 37) hx hb d_Follows_gather_100 (by decide) ?_
                exact ihk_194 (v_245) (y_236) (y_237) _ _ _ (zI.wk (l' := 0) (h' := 20) hv_245 (by decide)) hy_236 (by intro q hq; have := hli_238 q hq; omega) (by omega) (fun h1 h2 => by rw [show v_245.toInt.toNat = y_195.toInt.toNat + 1 by omega]; exact yFo_t (hli_240 h1 h2) (by rw [zcR_row (by have a9 := ((zI.wk (l' := 0) (h' := 20) hv_205 (by decide))).2; omega) (show (y_195.toInt.toNat : Int) < b10.toInt by omega)]; have i9 := hli_239; have e9 := congrArg Int32.toInt ev_241; rw [z_plf hv_204 (by decide)] at e9; omega) (by omega)) (zm_up qv_245 hmk_194 (by decide)) hP hD hS (lv_sub hl [0, 2, 3, 4, 5] rfl)
              · have _nhc_242 := hc_242
                have ni_246 := (fa_le _ _).mp (zi_nlt hc_242)
                have hv_247 : zI y_235 0 12 := zI.le_l hy_235 hv_241 (zi_nlt hc_242) (by decide)
                refine lv_aload_n hx hb d_Follows_gather_70 rfl (lv_at hl 2 rfl) ?_
                refine lv_aload_n hx hb d_Follows_gather_71 rfl (lv_at hl 4 rfl) ?_
                refine lv_iload hx hb d_Follows_gather_72 (lv_at hl 1 rfl) ?_
                refine lv_iload hx hb d_Follows_gather_74 (lv_at hl 0 rfl) ?_
                refine z_callV (index := 44) (As := [.int y_195, .int y_235]) (rest := [.ref b0]) (wr := [(b0, .inr (4, [.ref b4, .ref b5, .ref b6])), (b4, .inl (G.2 0, 241, .inl y_236)), (b5, .inl (G.2 0, 4820, .inl y_237)), (b1, .inr (2, [.int b10, .int b11, .int b12, .ref b13, .ref b14, .ref b15])), (b13, .inl (G.2 0, 20, .inl b16)), (b14, .inl (G.2 0, 240, .inl b17)), (b15, .inl (G.2 0, 240, .inl b18)), (b6, .inl (G.2 0, 512, .inl (fun _ => (-1))))]) Z (s1_Tree_prefixAt l G (b2) (y_195) (y_235) (b19) (b20) (b21) (b22) (b23) (b24) (b25) (b26) (b27) (b28) (b29) (b30) hv_204 hv_247 hb19 hb21 hb30) hl.1 q606 q607 q608 q4 q609 ⟨by decide, by decide, by show _ = some 2; decide +kernel⟩ ⟨Nat.le_of_ble_eq_true rfl, Nat.le_of_ble_eq_true rfl⟩ ⟨Nat.le_of_ble_eq_true rfl, Nat.le_of_ble_eq_true rfl⟩ rfl (Nat.le_of_ble_eq_true rfl) d_Follows_gather_76 hP hD hS hA 7 3 rfl rfl rfl [7, 8] [0, 1, 2, 3, 4, 5, 6, 9] rfl rfl rfl rfl (by decide) (fun v w1 H locs hw_248 hP hD hS => ?_)
                obtain ⟨x_249, rfl, rfl, hx_249, hfx_250, hfx_251⟩ := hw_248
                have hP : va_P G.1 classes [(b0, .inr (4, [.ref b4, .ref b5, .ref b6])), (b4, .inl (G.2 0, 241, .inl y_236)), (b5, .inl (G.2 0, 4820, .inl y_237)), (b1, .inr (2, [.int b10, .int b11, .int b12, .ref b13, .ref b14, .ref b15])), (b13, .inl (G.2 0, 20, .inl b16)), (b14, .inl (G.2 0, 240, .inl b17)), (b15, .inl (G.2 0, 240, .inl b18)), (b6, .inl (G.2 0, 512, .inl (fun _ => (-1)))), (b2, .inr (3, [.int b19, .int b20, .int b21, .ref b22, .ref b23, .ref b24, .ref b25, .ref b26, .ref b27, .ref b28, .ref b29])), (b29, .inl (G.2 0, 260, .inl b30))] H := hP
                have hD := z_tie hP hD rfl
                refine W.widen (k := 0) (n := 0) (Nat.le_of_ble_eq_true rfl) (Nat.le_of_ble_eq_true rfl) ?_
                refine lv_aload_n hx hb d_Follows_gather_79 rfl (lv_at hl 3 rfl) ?_
                refine lv_iload hx hb d_Follows_gather_80 (lv_at hl 1 rfl) ?_
                refine lv_iload hx hb d_Follows_gather_82 (lv_at hl 0 rfl) ?_
                refine lv_iload_n hx hb d_Follows_gather_84 rfl (lv_at hl 5 rfl) ?_
                refine z_callS (index := 48) (As := [.ref b1, .int y_195, .int y_235, .int b3]) (rest := [.int x_249, .ref b0]) (wr := [(b0, .inr (4, [.ref b4, .ref b5, .ref b6])), (b4, .inl (G.2 0, 241, .inl y_236)), (b5, .inl (G.2 0, 4820, .inl y_237)), (b6, .inl (G.2 0, 512, .inl (fun _ => (-1)))), (b2, .inr (3, [.int b19, .int b20, .int b21, .ref b22, .ref b23, .ref b24, .ref b25, .ref b26, .ref b27, .ref b28, .ref b29])), (b29, .inl (G.2 0, 260, .inl b30))]) Z (s3_Follows_rowOf l G (b1) (y_195) (y_235) (b3) (b10) (b11) (b12) (b13) (b14) (b15) (b16) (b17) (b18) hv_204 hv_247 hb3 (zI.wk (l' := 0) (h' := 20) hv_205 (by decide)) hb11 hb12 hb16 hb17) hl.1 q610 q611 q5 q612 ⟨by decide, by decide, by show _ = some 4; decide +kernel⟩ ⟨Nat.le_of_ble_eq_true rfl, Nat.le_of_ble_eq_true rfl⟩ ⟨Nat.le_of_ble_eq_true rfl, Nat.le_of_ble_eq_true rfl⟩ rfl (Nat.le_of_ble_eq_true rfl) d_Follows_gather_85 hP hD hS hA [3, 4, 5, 6] [0, 1, 2, 7, 8, 9] rfl rfl rfl rfl (by decide) (fun v w1 H locs hw_252 hP hD hS => ?_)
                obtain ⟨x_253, rfl, rfl, hfx_254⟩ := hw_252
                have hP : va_P G.1 classes [(b0, .inr (4, [.ref b4, .ref b5, .ref b6])), (b4, .inl (G.2 0, 241, .inl y_236)), (b5, .inl (G.2 0, 4820, .inl y_237)), (b6, .inl (G.2 0, 512, .inl (fun _ => (-1)))), (b2, .inr (3, [.int b19, .int b20, .int b21, .ref b22, .ref b23, .ref b24, .ref b25, .ref b26, .ref b27, .ref b28, .ref b29])), (b29, .inl (G.2 0, 260, .inl b30)), (b1, .inr (2, [.int b10, .int b11, .int b12, .ref b13, .ref b14, .ref b15])), (b13, .inl (G.2 0, 20, .inl b16)), (b14, .inl (G.2 0, 240, .inl b17)), (b15, .inl (G.2 0, 240, .inl b18))] H := hP
                have hD := z_tie hP hD rfl
                refine W.widen (k := 0) (n := 0) (Nat.le_of_ble_eq_true rfl) (Nat.le_of_ble_eq_true rfl) ?_
                refine z_callV (index := 52) (As := [.int x_249, .int x_253]) (rest := []) (wr := [(b6, .inl (G.2 0, 512, .inl (fun _ => (-1)))), (b2, .inr (3, [.int b19, .int b20, .int b21, .ref b22, .ref b23, .ref b24, .ref b25, .ref b26, .ref b27, .ref b28, .ref b29])), (b29, .inl (G.2 0, 260, .inl b30)), (b1, .inr (2, [.int b10, .int b11, .int b12, .ref b13, .ref b14, .ref b15])), (b13, .inl (G.2 0, 20, .inl b16)), (b14, .inl (G.2 0, 240, .inl b17)), (b15, .inl (G.2 0, 240, .inl b18))]) Z (s3_Follows_insert l G (b0) (x_249) (x_253) (b4) (b5) (b6) (y_236) (y_237) hx_249 hy_236 (by have p9 := z_pl hx_249 (by decide); have p8 : x_249.toInt < b21.toInt := (by rw [hfx_250]; exact htr _ _ (by omega) (by omega) (by rw [← z_plf hv_204 (by decide), ← ev_241]; omega)); have := hli_238 x_249.toNatClampNeg (by omega); omega)) hl.1 q614 q616 qs6 q5 q617 ⟨by decide, by decide, by show _ = some 2; decide +kernel⟩ ⟨Nat.le_of_ble_eq_true rfl, Nat.le_of_ble_eq_true rfl⟩ ⟨Nat.le_of_ble_eq_true rfl, Nat.le_of_ble_eq_true rfl⟩ rfl (Nat.le_of_ble_eq_true rfl) d_Follows_gather_88 hP hD hS hA 0 4 rfl rfl rfl [0, 1, 2] [3, 4, 5, 6, 7, 8, 9] rfl rfl rfl rfl (by decide) (fun v w1 H locs hw_255 hP hD hS => ?_)
                obtain ⟨f_256, f_257, rfl, rfl, hf_256, hfx_258, hfx_259⟩ := hw_255
                have hP : va_P G.1 classes [(b6, .inl (G.2 0, 512, .inl (fun _ => (-1)))), (b2, .inr (3, [.int b19, .int b20, .int b21, .ref b22, .ref b23, .ref b24, .ref b25, .ref b26, .ref b27, .ref b28, .ref b29])), (b29, .inl (G.2 0, 260, .inl b30)), (b1, .inr (2, [.int b10, .int b11, .int b12, .ref b13, .ref b14, .ref b15])), (b13, .inl (G.2 0, 20, .inl b16)), (b14, .inl (G.2 0, 240, .inl b17)), (b15, .inl (G.2 0, 240, .inl b18)), (b0, .inr (4, [.ref b4, .ref b5, .ref b6])), (b4, .inl (G.2 0, 241, .inl f_256)), (b5, .inl (G.2 0, 4820, .inl f_257))] H := hP
                have hD := z_tie hP hD rfl
                refine W.widen (k := 0) (n := 0) (Nat.le_of_ble_eq_true rfl) (Nat.le_of_ble_eq_true rfl) ?_
                obtain ⟨v_260, ev_260⟩ : ∃ z : Int32, z = y_235 + 1 := ⟨_, rfl⟩
                obtain ⟨qv_260, hv_260⟩ := zI_add (l := 1) (h := 13) hv_247 zc_1 ev_260 (by decide)
                rw [li_1] at qv_260
                refine lv_iinc (v := v_260) (lv' := [(5, .int v_260), (4, .int y_195), (0, .ref b0), (1, .ref b1), (2, .ref b2), (3, .int b3)]) hx hb d_Follows_gather_91 hl (k := 0) rfl (by rw [ev_260]; rfl) (by decide) rfl (fun ls hl => ?_)
                refine lv_goto (tgt := 58) hx hb d_Follows_gather_94 (by decide) ?_
                exact ihk_234 (v_260) (f_256) (f_257) _ _ _ (zI.wk (l' := 0) (h' := 13) hv_260 (by decide)) hf_256 (by have _l0 := li_0; have _l1 := li_1; have p9 := z_pl hx_249 (by decide); intro q hq; have _a := hli_238 q hq; have _b := hfx_251; rcases hfx_258 q with h | ⟨h, h2⟩ <;> omega) (by have e9 := congrArg Int32.toInt ev_241; rw [z_plf hv_204 (by decide)] at e9; omega) (fun h1 h2 => by rw [show v_260.toInt.toNat = y_235.toInt.toNat + 1 by omega]; exact yGa_s h1 h2 (yRw_g (yRw_row (zI.wk (l' := 0) (h' := 20) hv_205 (by decide)) hb16 hb17) b10.toInt.toNat) ⟨by omega, (by have a9 := ((zI.wk (l' := 0) (h' := 20) hv_205 (by decide))).2; omega)⟩ (by omega) (by rw [zcR_row (by have a9 := ((zI.wk (l' := 0) (h' := 20) hv_205 (by decide))).2; omega) (show (y_195.toInt.toNat : Int) < b10.toInt by omega)]; have e9 := congrArg Int32.toInt ev_241; rw [z_plf hv_204 (by decide)] at e9; omega) (hli_240 h1 h2) (by omega) hfx_250 (hfx_254 (by omega)) ((fun z => (hy_236 z).1) _).1 hfx_259) (zm_up qv_260 hmk_234 (by decide)) (hP.sub [7, 8, 9, 3, 4, 5, 6, 1, 2, 0] rfl) (hD.sub [7, 8, 9, 3, 4, 5, 6, 1, 2, 0] (by decide) rfl) hS (lv_sub hl [0, 1, 2, 3, 4, 5] rfl)
    · have _nhc_133 := hc_133
      have ni_261 := (fa_lt _ _).mp (zi_nle hc_133)
      have hv_262 : zI y_130 0 240 := zI.lt_l hy_130 hb21 (zi_nle hc_133) (by decide)
      have hv_263 : zI b21 1 241 := zI.lt_r hy_130 hb21 (zi_nle hc_133) (by decide)
      refine lv_aload_n hx hb d_Follows_gather_20 rfl (lv_at hl 1 rfl) ?_
      refine va_get (D := G.1) (ci := 4) (v := .ref b4) (C := R_Follows) (T := F_Follows) (N := 3) hx hb hts i_Follows hown hK hP 0 rfl rfl 0 (by decide) (hts _ q146) (fun _ h9 => h9) rfl d_Follows_gather_21 ?_
      refine lv_iload hx hb d_Follows_gather_24 (lv_at hl 0 rfl) ?_
      refine lv_iconst (v := 0) hx hb d_Follows_gather_26 (by decide) ?_
      refine va_iast hx hb hK hP hD hS 1 0 rfl rfl (zI.inn hv_262 (by decide)) d_Follows_gather_27 (fun H locs hP hD hS => ?_)
      obtain ⟨f_264, hf_264, gf_264, uf_264, hP, hD⟩ := z_newq_ (Q := qC) 1 hP hD rfl hy_131 (qC_v hv_262 (by decide) ⟨⟨by have _w := li_0; have _x := hv_262; omega, by have _w := li_0; have _x := hv_262; omega⟩, by have _w := li_0; have _x := hv_262; omega⟩)
      have hP : va_P G.1 classes [(b0, .inr (4, [.ref b4, .ref b5, .ref b6])), (b4, .inl (G.2 0, 241, .inl f_264)), (b5, .inl (G.2 0, 4820, .inl b8)), (b1, .inr (2, [.int b10, .int b11, .int b12, .ref b13, .ref b14, .ref b15])), (b13, .inl (G.2 0, 20, .inl b16)), (b14, .inl (G.2 0, 240, .inl b17)), (b15, .inl (G.2 0, 240, .inl b18)), (b2, .inr (3, [.int b19, .int b20, .int b21, .ref b22, .ref b23, .ref b24, .ref b25, .ref b26, .ref b27, .ref b28, .ref b29])), (b29, .inl (G.2 0, 260, .inl b30)), (b6, .inl (G.2 0, 512, .inl (fun _ => (-1))))] H := hP
      have hD := z_tie hP hD rfl
      obtain ⟨v_265, ev_265⟩ : ∃ z : Int32, z = y_130 + 1 := ⟨_, rfl⟩
      obtain ⟨qv_265, hv_265⟩ := zI_add (l := 1) (h := 241) hv_262 zc_1 ev_265 (by decide)
      rw [li_1] at qv_265
      refine lv_iinc (v := v_265) (lv' := [(4, .int v_265), (0, .ref b0), (1, .ref b1), (2, .ref b2), (3, .int b3)]) hx hb d_Follows_gather_28 hl (k := 0) rfl (by rw [ev_265]; rfl) (by decide) rfl (fun ls hl => ?_)
      refine lv_goto (tgt := 11) hx hb d_Follows_gather_31 (by decide) ?_
      exact ihk_129 (v_265) (f_264) _ _ _ (zI.wk (l' := 0) (h' := 241) hv_265 (by decide)) hf_264 (by have _l0 := li_0; have p9 := z_pl hv_262 (by decide); intro q hq; rw [uf_264, z_at]; split; omega; exact hli_132 q (by omega)) (zm_up qv_265 hmk_129 (by decide)) hP hD hS (lv_sub hl [0, 1, 2, 3, 4] rfl)
