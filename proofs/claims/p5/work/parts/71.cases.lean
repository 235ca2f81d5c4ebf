set_option maxHeartbeats 4000000 in
set_option maxRecDepth 100000 in
theorem law_14 {p : Program} {e : Env} {s : State} {m : MethodId} {below : List Frame} {meth : Method} {c : Code} (l : Launch) {b L : Nat} {xs : Nat → Int32} {G : zG} (hL : L ≤ 2560) (Z : zC p s m #[Value.ref b] meth c code 7 "TraceMachinesLaw" G) (hr : meth.sig.returnType = ret) (hX : va_X b L xs s s.heap) (hbl : b < s.heap.size)  {i : Int32} {cells slots : Nat} (hroom : cells + 5 ≤ 601024 ∧ slots + 520 ≤ 7293034) (hi : 0 ≤ i.toInt ∧ i.toInt + 5 ≤ (L : Int)) {xX xText xNow xRead xPast xKept xTree xFol xMs xTree2 xMa2 xRun xRan xWo xPa xCo xPr xOd xFi xM0 xM1 xM2 xM3 mA zo : Nat} {tn : Int32} {sg : Nat → Int32} {s0 : Bool} {s1 : Bool} {pn : Int32} {pc : Int32} {P : Nat → Nat → Int32} {K0 : Nat → Int32} {K1 : Nat → Int32} {Rd : Nat → Int32} {n : Int32} {d : Int32} {mg : Int32} {L : Nat → Int32} {F : Nat → Int32} {V : Nat → Int32} {f0 : Nat → Int64} {x0 m0 : va_W} {nu0 : Int32} {xt0 : Int32} {ro0 : Nat → Int32} {ke0 : Nat → Int32} {ik0 : Nat → Int32} {un0 : Nat → Int32} {tb0 : Nat → Int32} {H : Heap} {locs : List Loc} {ls : Array Slot} (hx0 : XS G xX xText xNow xRead xPast xKept xTree xFol xMs xTree2 xMa2 xRun xRan xWo xPa xCo xPr xOd xFi xM0 xM1 xM2 xM3 True tn sg s0 s1 pn pc P K0 K1 Rd n d mg L F V x0) (hm0 : zb_Mo G mA nu0 xt0 ro0 ke0 ik0 un0 tb0 m0) (hR0 : zRL (tn) (sg) (s0) (s1) (pn) (pc) (P) (K0) (K1) (zrow (n) (d) (mg) (L) (F) (V)) (xt0) (tb0) (ik0) (ro0) (un0) (ke0) (nu0)) (hP : va_P G.1 classes (zap [(zo, .inl (G.2 1, 1, .inr (.inl f0)))] (zap x0 (zap m0 []))) H) (hD : va_D (fun q : Nat => s.heap.size ≤ q) (zap [(zo, .inl (G.2 1, 1, .inr (.inl f0)))] (zap x0 (zap m0 [])))) (hS : va_S (fun q : Nat => s.heap.size ≤ q) s.heap H locs) (hl : lv_has ls 7 [(0, .ref b), (1, .ref xX), (2, .ref mA), (3, .ref zo), (4, .int i)]) (kk : ∀ (f1 : Nat → Int64) (x1 m1 : va_W) (nu_1 : Int32) (xt_1 : Int32) (ro_1 : Nat → Int32) (ke_1 : Nat → Int32) (ik_1 : Nat → Int32) (un_1 : Nat → Int32) (tb_1 : Nat → Int32) (tn_1 : Int32) (sg_1 : Nat → Int32) (s0_1 : Bool) (s1_1 : Bool) (pn_1 : Int32) (pc_1 : Int32) (P_1 : Nat → Nat → Int32) (K0_1 : Nat → Int32) (K1_1 : Nat → Int32) (Rd_1 : Nat → Int32) (n_1 : Int32) (d_1 : Int32) (mg_1 : Int32) (L_1 : Nat → Int32) (F_1 : Nat → Int32) (V_1 : Nat → Int32) (H : Heap) (locs : List Loc) (ls : Array Slot), XS G xX xText xNow xRead xPast xKept xTree xFol xMs xTree2 xMa2 xRun xRan xWo xPa xCo xPr xOd xFi xM0 xM1 xM2 xM3 True tn_1 sg_1 s0_1 s1_1 pn_1 pc_1 P_1 K0_1 K1_1 Rd_1 n_1 d_1 mg_1 L_1 F_1 V_1 x1 → zb_Mo G mA nu_1 xt_1 ro_1 ke_1 ik_1 un_1 tb_1 m1 → zRL (tn_1) (sg_1) (s0_1) (s1_1) (pn_1) (pc_1) (P_1) (K0_1) (K1_1) (zrow (n_1) (d_1) (mg_1) (L_1) (F_1) (V_1)) (xt_1) (tb_1) (ik_1) (ro_1) (un_1) (ke_1) (nu_1) → va_P G.1 classes (zap [(zo, .inl (G.2 1, 1, .inr (.inl f1)))] (zap x1 (zap m1 []))) H → va_D (fun q : Nat => s.heap.size ≤ q) (zap [(zo, .inl (G.2 1, 1, .inr (.inl f1)))] (zap x1 (zap m1 []))) → va_S (fun q : Nat => s.heap.size ≤ q) s.heap H locs → lv_has ls 7 [(0, .ref b), (1, .ref xX), (2, .ref mA), (3, .ref zo), (4, .int i)] → W p l e room_1 s m #[Value.ref b] below meth c H locs (cells + 5) (slots + 520) (lw_Z below #[Value.ref b] s) (F0 m 1067 ls [])) : W p l e room_1 s m #[Value.ref b] below meth c H locs cells slots (lw_Z below #[Value.ref b] s) (F0 m 557 ls []) := by
  obtain ⟨hx, hb, hml, hown, hts, hK, hN, hlocks⟩ := id Z
  have hbA : ¬ (fun q : Nat => s.heap.size ≤ q) b := Nat.not_le.mpr hbl
  have hA : ∀ q : Nat, s.heap.size ≤ q → (fun q : Nat => s.heap.size ≤ q) q := fun _ h => h
  refine lv_aload_n hx hb d_law_557 rfl (lv_at hl 1 rfl) ?_
  refine lv_aload_n hx hb d_law_558 rfl (lv_at hl 0 rfl) ?_
  refine lv_iload hx hb d_law_559 (lv_at hl 4 rfl) ?_
  refine lv_iconst (v := 1) hx hb d_law_561 (by decide) ?_
  refine lv_iadd hx hb d_law_562 ?_
  refine lv_topi (fun v_1 ev_1 => ?_)
  have qv_1 := z_idx (k := 1) hi hL ev_1 li_1 (by decide)
  refine va_sld hx hb hX hbl hbA hS (i := v_1) qv_1 d_law_563 ?_
  refine lv_topi (fun v_2 ev_2 => ?_)
  obtain ⟨fs_3, hat_4⟩ := XS_at hx0
  refine z_callV (index := 82) (As := [.int v_2]) (rest := []) (wr := []) Z ((x_ways l G xX xText xNow xRead xPast xKept xTree xFol xMs xTree2 xMa2 xRun xRan xWo xPa xCo xPr xOd xFi xM0 xM1 xM2 xM3 (v_2) (tn) (sg) (s0) (s1) (pn) (pc) (P) (K0) (K1) (Rd) (n) (d) (mg) (L) (F) (V) x0 hx0).mid [(zo, .inl (G.2 1, 1, .inr (.inl f0)))] (zap m0 [])) hl.1 q796 q797 q798 q1 q799 ⟨by decide, by decide, by show _ = some 1; decide +kernel⟩ ⟨Nat.le_of_ble_eq_true rfl, Nat.le_of_ble_eq_true rfl⟩ (show cells + 0 ≤ 601024 ∧ slots + 0 ≤ 7293034 from ⟨by omega, by omega⟩) rfl (Nat.le_of_ble_eq_true rfl) d_law_564 hP hD hS hA 1 0 (zw_at1 (a := [(zo, .inl (G.2 1, 1, .inr (.inl f0)))]) (b := zap m0 []) hat_4) rfl rfl (List.range _) [] (zw_range _) rfl (zw_nd _) rfl (by intro i h9; cases h9) (fun v w1 H locs hw_5 hP hD hS => ?_)
  obtain ⟨w_7, ⟨x_6, rfl, hx_8⟩, rfl⟩ := hw_5
  have hP : va_P G.1 classes (zap [(zo, .inl (G.2 1, 1, .inr (.inl f0)))] (zap w_7 (zap m0 []))) H := hP
  have hD : va_D (fun q : Nat => s.heap.size ≤ q) (zap [(zo, .inl (G.2 1, 1, .inr (.inl f0)))] (zap w_7 (zap m0 []))) := hD
  refine W.widen (k := cells + 0) (n := slots + 0) (show cells + 0 ≤ cells + 0 from Nat.le_refl _) (show slots + 0 ≤ slots + 0 from Nat.le_refl _) ?_
  refine lv_pop hx hb d_law_567 rfl ?_
  refine lv_aload_n hx hb d_law_568 rfl (lv_at hl 2 rfl) ?_
  refine lv_aload_n hx hb d_law_569 rfl (lv_at hl 0 rfl) ?_
  refine lv_iload hx hb d_law_570 (lv_at hl 4 rfl) ?_
  refine lv_iconst (v := 1) hx hb d_law_572 (by decide) ?_
  refine lv_iadd hx hb d_law_573 ?_
  refine lv_topi (fun v_9 ev_9 => ?_)
  have qv_9 := z_idx (k := 1) hi hL ev_9 li_1 (by decide)
  refine va_sld hx hb hX hbl hbA hS (i := v_9) qv_9 d_law_574 ?_
  refine lv_topi (fun v_10 ev_10 => ?_)
  obtain ⟨fs_11, hat_12⟩ := zb_Mo_at hm0
  refine z_callV (index := 85) (As := [.int v_10]) (rest := []) (wr := []) Z ((m_ways l G mA (v_10)  (nu0) (xt0) (ro0) (ke0) (ik0) (un0) (tb0) m0 hm0).mid2 [(zo, .inl (G.2 1, 1, .inr (.inl f0)))] w_7 []) hl.1 q1490 q1491 q1492 q14 q1493 ⟨by decide, by decide, by show _ = some 1; decide +kernel⟩ ⟨Nat.le_of_ble_eq_true rfl, Nat.le_of_ble_eq_true rfl⟩ (show cells + 0 ≤ 601024 ∧ slots + 0 ≤ 7293034 from ⟨by omega, by omega⟩) rfl (Nat.le_of_ble_eq_true rfl) d_law_575 hP hD hS hA _ 12 (zw_at2 (a := [(zo, .inl (G.2 1, 1, .inr (.inl f0)))]) (x := w_7) (b := []) hat_12) rfl rfl (List.range _) [] (zw_range _) rfl (zw_nd _) rfl (by intro i h9; cases h9) (fun v w1 H locs hw_13 hP hD hS => ?_)
  obtain ⟨w_15, ⟨x_14, ⟨rfl⟩, hm_16⟩, rfl⟩ := hw_13
  have hP : va_P G.1 classes (zap [(zo, .inl (G.2 1, 1, .inr (.inl f0)))] (zap w_7 (zap w_15 []))) H := hP
  have hD : va_D (fun q : Nat => s.heap.size ≤ q) (zap [(zo, .inl (G.2 1, 1, .inr (.inl f0)))] (zap w_7 (zap w_15 []))) := hD
  refine W.widen (k := cells + 0) (n := slots + 0) (show cells + 0 ≤ cells + 0 from Nat.le_refl _) (show slots + 0 ≤ slots + 0 from Nat.le_refl _) ?_
  refine lv_pop hx hb d_law_578 rfl ?_
  refine lv_goto (tgt := 1067) hx hb d_law_579 (by decide) ?_
  refine W.widen (k := cells + 5) (n := slots + 520) (by omega) (by omega) ?_
  exact kk _ _ _ _ _ _ _ _ _ _ _ _ _ _ _ _ _ _ _ _ _ _ _ _ _ _ _ _ _ hx_8 hm_16 hR0 hP hD hS (lv_sub hl [0, 1, 2, 3, 4] rfl)
set_option maxHeartbeats 4000000 in
set_option maxRecDepth 100000 in
theorem law_15 {p : Program} {e : Env} {s : State} {m : MethodId} {below : List Frame} {meth : Method} {c : Code} (l : Launch) {b L : Nat} {xs : Nat → Int32} {G : zG} (hL : L ≤ 2560) (Z : zC p s m #[Value.ref b] meth c code 7 "TraceMachinesLaw" G) (hr : meth.sig.returnType = ret) (hX : va_X b L xs s s.heap) (hbl : b < s.heap.size)  {i : Int32} {cells slots : Nat} (hroom : cells + 5 ≤ 601024 ∧ slots + 520 ≤ 7293034) (hi : 0 ≤ i.toInt ∧ i.toInt + 5 ≤ (L : Int)) {xX xText xNow xRead xPast xKept xTree xFol xMs xTree2 xMa2 xRun xRan xWo xPa xCo xPr xOd xFi xM0 xM1 xM2 xM3 mA zo : Nat} {tn : Int32} {sg : Nat → Int32} {s0 : Bool} {s1 : Bool} {pn : Int32} {pc : Int32} {P : Nat → Nat → Int32} {K0 : Nat → Int32} {K1 : Nat → Int32} {Rd : Nat → Int32} {n : Int32} {d : Int32} {mg : Int32} {L : Nat → Int32} {F : Nat → Int32} {V : Nat → Int32} {f0 : Nat → Int64} {x0 m0 : va_W} {nu0 : Int32} {xt0 : Int32} {ro0 : Nat → Int32} {ke0 : Nat → Int32} {ik0 : Nat → Int32} {un0 : Nat → Int32} {tb0 : Nat → Int32} {H : Heap} {locs : List Loc} {ls : Array Slot} (hx0 : XS G xX xText xNow xRead xPast xKept xTree xFol xMs xTree2 xMa2 xRun xRan xWo xPa xCo xPr xOd xFi xM0 xM1 xM2 xM3 True tn sg s0 s1 pn pc P K0 K1 Rd n d mg L F V x0) (hm0 : zb_Mo G mA nu0 xt0 ro0 ke0 ik0 un0 tb0 m0) (hR0 : zRL (tn) (sg) (s0) (s1) (pn) (pc) (P) (K0) (K1) (zrow (n) (d) (mg) (L) (F) (V)) (xt0) (tb0) (ik0) (ro0) (un0) (ke0) (nu0)) (hP : va_P G.1 classes (zap [(zo, .inl (G.2 1, 1, .inr (.inl f0)))] (zap x0 (zap m0 []))) H) (hD : va_D (fun q : Nat => s.heap.size ≤ q) (zap [(zo, .inl (G.2 1, 1, .inr (.inl f0)))] (zap x0 (zap m0 [])))) (hS : va_S (fun q : Nat => s.heap.size ≤ q) s.heap H locs) (hl : lv_has ls 7 [(0, .ref b), (1, .ref xX), (2, .ref mA), (3, .ref zo), (4, .int i)]) (kk : ∀ (f1 : Nat → Int64) (x1 m1 : va_W) (nu_1 : Int32) (xt_1 : Int32) (ro_1 : Nat → Int32) (ke_1 : Nat → Int32) (ik_1 : Nat → Int32) (un_1 : Nat → Int32) (tb_1 : Nat → Int32) (tn_1 : Int32) (sg_1 : Nat → Int32) (s0_1 : Bool) (s1_1 : Bool) (pn_1 : Int32) (pc_1 : Int32) (P_1 : Nat → Nat → Int32) (K0_1 : Nat → Int32) (K1_1 : Nat → Int32) (Rd_1 : Nat → Int32) (n_1 : Int32) (d_1 : Int32) (mg_1 : Int32) (L_1 : Nat → Int32) (F_1 : Nat → Int32) (V_1 : Nat → Int32) (H : Heap) (locs : List Loc) (ls : Array Slot), XS G xX xText xNow xRead xPast xKept xTree xFol xMs xTree2 xMa2 xRun xRan xWo xPa xCo xPr xOd xFi xM0 xM1 xM2 xM3 True tn_1 sg_1 s0_1 s1_1 pn_1 pc_1 P_1 K0_1 K1_1 Rd_1 n_1 d_1 mg_1 L_1 F_1 V_1 x1 → zb_Mo G mA nu_1 xt_1 ro_1 ke_1 ik_1 un_1 tb_1 m1 → zRL (tn_1) (sg_1) (s0_1) (s1_1) (pn_1) (pc_1) (P_1) (K0_1) (K1_1) (zrow (n_1) (d_1) (mg_1) (L_1) (F_1) (V_1)) (xt_1) (tb_1) (ik_1) (ro_1) (un_1) (ke_1) (nu_1) → va_P G.1 classes (zap [(zo, .inl (G.2 1, 1, .inr (.inl f1)))] (zap x1 (zap m1 []))) H → va_D (fun q : Nat => s.heap.size ≤ q) (zap [(zo, .inl (G.2 1, 1, .inr (.inl f1)))] (zap x1 (zap m1 []))) → va_S (fun q : Nat => s.heap.size ≤ q) s.heap H locs → lv_has ls 7 [(0, .ref b), (1, .ref xX), (2, .ref mA), (3, .ref zo), (4, .int i)] → W p l e room_1 s m #[Value.ref b] below meth c H locs (cells + 5) (slots + 520) (lw_Z below #[Value.ref b] s) (F0 m 1067 ls [])) : W p l e room_1 s m #[Value.ref b] below meth c H locs cells slots (lw_Z below #[Value.ref b] s) (F0 m 582 ls []) := by
  obtain ⟨hx, hb, hml, hown, hts, hK, hN, hlocks⟩ := id Z
  have hbA : ¬ (fun q : Nat => s.heap.size ≤ q) b := Nat.not_le.mpr hbl
  have hA : ∀ q : Nat, s.heap.size ≤ q → (fun q : Nat => s.heap.size ≤ q) q := fun _ h => h
  refine lv_aload_n hx hb d_law_582 rfl (lv_at hl 1 rfl) ?_
  refine lv_aload_n hx hb d_law_583 rfl (lv_at hl 0 rfl) ?_
  refine lv_iload hx hb d_law_584 (lv_at hl 4 rfl) ?_
  refine lv_iconst (v := 1) hx hb d_law_586 (by decide) ?_
  refine lv_iadd hx hb d_law_587 ?_
  refine lv_topi (fun v_1 ev_1 => ?_)
  have qv_1 := z_idx (k := 1) hi hL ev_1 li_1 (by decide)
  refine va_sld hx hb hX hbl hbA hS (i := v_1) qv_1 d_law_588 ?_
  refine lv_topi (fun v_2 ev_2 => ?_)
  obtain ⟨fs_3, hat_4⟩ := XS_at hx0
  refine z_callV (index := 86) (As := [.int v_2]) (rest := []) (wr := []) Z ((x_words l G xX xText xNow xRead xPast xKept xTree xFol xMs xTree2 xMa2 xRun xRan xWo xPa xCo xPr xOd xFi xM0 xM1 xM2 xM3 (v_2) (tn) (sg) (s0) (s1) (pn) (pc) (P) (K0) (K1) (Rd) (n) (d) (mg) (L) (F) (V) x0 hx0).mid [(zo, .inl (G.2 1, 1, .inr (.inl f0)))] (zap m0 [])) hl.1 q815 q816 q817 q1 q818 ⟨by decide, by decide, by show _ = some 1; decide +kernel⟩ ⟨Nat.le_of_ble_eq_true rfl, Nat.le_of_ble_eq_true rfl⟩ (show cells + 0 ≤ 601024 ∧ slots + 0 ≤ 7293034 from ⟨by omega, by omega⟩) rfl (Nat.le_of_ble_eq_true rfl) d_law_589 hP hD hS hA 1 0 (zw_at1 (a := [(zo, .inl (G.2 1, 1, .inr (.inl f0)))]) (b := zap m0 []) hat_4) rfl rfl (List.range _) [] (zw_range _) rfl (zw_nd _) rfl (by intro i h9; cases h9) (fun v w1 H locs hw_5 hP hD hS => ?_)
  obtain ⟨w_7, ⟨x_6, rfl, hx_8⟩, rfl⟩ := hw_5
  have hP : va_P G.1 classes (zap [(zo, .inl (G.2 1, 1, .inr (.inl f0)))] (zap w_7 (zap m0 []))) H := hP
  have hD : va_D (fun q : Nat => s.heap.size ≤ q) (zap [(zo, .inl (G.2 1, 1, .inr (.inl f0)))] (zap w_7 (zap m0 []))) := hD
  refine W.widen (k := cells + 0) (n := slots + 0) (show cells + 0 ≤ cells + 0 from Nat.le_refl _) (show slots + 0 ≤ slots + 0 from Nat.le_refl _) ?_
  refine lv_pop hx hb d_law_592 rfl ?_
  refine lv_aload_n hx hb d_law_593 rfl (lv_at hl 2 rfl) ?_
  refine lv_aload_n hx hb d_law_594 rfl (lv_at hl 0 rfl) ?_
  refine lv_iload hx hb d_law_595 (lv_at hl 4 rfl) ?_
  refine lv_iconst (v := 1) hx hb d_law_597 (by decide) ?_
  refine lv_iadd hx hb d_law_598 ?_
  refine lv_topi (fun v_9 ev_9 => ?_)
  have qv_9 := z_idx (k := 1) hi hL ev_9 li_1 (by decide)
  refine va_sld hx hb hX hbl hbA hS (i := v_9) qv_9 d_law_599 ?_
  refine lv_topi (fun v_10 ev_10 => ?_)
  obtain ⟨fs_11, hat_12⟩ := zb_Mo_at hm0
  refine z_callV (index := 89) (As := [.int v_10]) (rest := []) (wr := []) Z ((m_words l G mA (v_10)  (nu0) (xt0) (ro0) (ke0) (ik0) (un0) (tb0) m0 hm0).mid2 [(zo, .inl (G.2 1, 1, .inr (.inl f0)))] w_7 []) hl.1 q1500 q1501 q1502 q14 q1503 ⟨by decide, by decide, by show _ = some 1; decide +kernel⟩ ⟨Nat.le_of_ble_eq_true rfl, Nat.le_of_ble_eq_true rfl⟩ (show cells + 0 ≤ 601024 ∧ slots + 0 ≤ 7293034 from ⟨by omega, by omega⟩) rfl (Nat.le_of_ble_eq_true rfl) d_law_600 hP hD hS hA _ 12 (zw_at2 (a := [(zo, .inl (G.2 1, 1, .inr (.inl f0)))]) (x := w_7) (b := []) hat_12) rfl rfl (List.range _) [] (zw_range _) rfl (zw_nd _) rfl (by intro i h9; cases h9) (fun v w1 H locs hw_13 hP hD hS => ?_)
  obtain ⟨w_15, ⟨x_14, ⟨rfl⟩, hm_16⟩, rfl⟩ := hw_13
  have hP : va_P G.1 classes (zap [(zo, .inl (G.2 1, 1, .inr (.inl f0)))] (zap w_7 (zap w_15 []))) H := hP
  have hD : va_D (fun q : Nat => s.heap.size ≤ q) (zap [(zo, .inl (G.2 1, 1, .inr (.inl f0)))] (zap w_7 (zap w_15 []))) := hD
  refine W.widen (k := cells + 0) (n := slots + 0) (show cells + 0 ≤ cells + 0 from Nat.le_refl _) (show slots + 0 ≤ slots + 0 from Nat.le_refl _) ?_
  refine lv_pop hx hb d_law_603 rfl ?_
  refine lv_goto (tgt := 1067) hx hb d_law_604 (by decide) ?_
  refine W.widen (k := cells + 5) (n := slots + 520) (by omega) (by omega) ?_
  exact kk _ _ _ _ _ _ _ _ _ _ _ _ _ _ _ _ _ _ _ _ _ _ _ _ _ _ _ _ _ hx_8 hm_16 hR0 hP hD hS (lv_sub hl [0, 1, 2, 3, 4] rfl)
set_option maxHeartbeats 4000000 in
set_option maxRecDepth 100000 in
theorem law_16 {p : Program} {e : Env} {s : State} {m : MethodId} {below : List Frame} {meth : Method} {c : Code} (l : Launch) {b L : Nat} {xs : Nat → Int32} {G : zG} (hL : L ≤ 2560) (Z : zC p s m #[Value.ref b] meth c code 7 "TraceMachinesLaw" G) (hr : meth.sig.returnType = ret) (hX : va_X b L xs s s.heap) (hbl : b < s.heap.size)  {i : Int32} {cells slots : Nat} (hroom : cells + 5 ≤ 601024 ∧ slots + 520 ≤ 7293034) (hi : 0 ≤ i.toInt ∧ i.toInt + 5 ≤ (L : Int)) {xX xText xNow xRead xPast xKept xTree xFol xMs xTree2 xMa2 xRun xRan xWo xPa xCo xPr xOd xFi xM0 xM1 xM2 xM3 mA zo : Nat} {tn : Int32} {sg : Nat → Int32} {s0 : Bool} {s1 : Bool} {pn : Int32} {pc : Int32} {P : Nat → Nat → Int32} {K0 : Nat → Int32} {K1 : Nat → Int32} {Rd : Nat → Int32} {n : Int32} {d : Int32} {mg : Int32} {L : Nat → Int32} {F : Nat → Int32} {V : Nat → Int32} {f0 : Nat → Int64} {x0 m0 : va_W} {nu0 : Int32} {xt0 : Int32} {ro0 : Nat → Int32} {ke0 : Nat → Int32} {ik0 : Nat → Int32} {un0 : Nat → Int32} {tb0 : Nat → Int32} {H : Heap} {locs : List Loc} {ls : Array Slot} (hx0 : XS G xX xText xNow xRead xPast xKept xTree xFol xMs xTree2 xMa2 xRun xRan xWo xPa xCo xPr xOd xFi xM0 xM1 xM2 xM3 True tn sg s0 s1 pn pc P K0 K1 Rd n d mg L F V x0) (hm0 : zb_Mo G mA nu0 xt0 ro0 ke0 ik0 un0 tb0 m0) (hR0 : zRL (tn) (sg) (s0) (s1) (pn) (pc) (P) (K0) (K1) (zrow (n) (d) (mg) (L) (F) (V)) (xt0) (tb0) (ik0) (ro0) (un0) (ke0) (nu0)) (hP : va_P G.1 classes (zap [(zo, .inl (G.2 1, 1, .inr (.inl f0)))] (zap x0 (zap m0 []))) H) (hD : va_D (fun q : Nat => s.heap.size ≤ q) (zap [(zo, .inl (G.2 1, 1, .inr (.inl f0)))] (zap x0 (zap m0 [])))) (hS : va_S (fun q : Nat => s.heap.size ≤ q) s.heap H locs) (hl : lv_has ls 7 [(0, .ref b), (1, .ref xX), (2, .ref mA), (3, .ref zo), (4, .int i)]) (kk : ∀ (f1 : Nat → Int64) (x1 m1 : va_W) (nu_1 : Int32) (xt_1 : Int32) (ro_1 : Nat → Int32) (ke_1 : Nat → Int32) (ik_1 : Nat → Int32) (un_1 : Nat → Int32) (tb_1 : Nat → Int32) (tn_1 : Int32) (sg_1 : Nat → Int32) (s0_1 : Bool) (s1_1 : Bool) (pn_1 : Int32) (pc_1 : Int32) (P_1 : Nat → Nat → Int32) (K0_1 : Nat → Int32) (K1_1 : Nat → Int32) (Rd_1 : Nat → Int32) (n_1 : Int32) (d_1 : Int32) (mg_1 : Int32) (L_1 : Nat → Int32) (F_1 : Nat → Int32) (V_1 : Nat → Int32) (H : Heap) (locs : List Loc) (ls : Array Slot), XS G xX xText xNow xRead xPast xKept xTree xFol xMs xTree2 xMa2 xRun xRan xWo xPa xCo xPr xOd xFi xM0 xM1 xM2 xM3 True tn_1 sg_1 s0_1 s1_1 pn_1 pc_1 P_1 K0_1 K1_1 Rd_1 n_1 d_1 mg_1 L_1 F_1 V_1 x1 → zb_Mo G mA nu_1 xt_1 ro_1 ke_1 ik_1 un_1 tb_1 m1 → zRL (tn_1) (sg_1) (s0_1) (s1_1) (pn_1) (pc_1) (P_1) (K0_1) (K1_1) (zrow (n_1) (d_1) (mg_1) (L_1) (F_1) (V_1)) (xt_1) (tb_1) (ik_1) (ro_1) (un_1) (ke_1) (nu_1) → va_P G.1 classes (zap [(zo, .inl (G.2 1, 1, .inr (.inl f1)))] (zap x1 (zap m1 []))) H → va_D (fun q : Nat => s.heap.size ≤ q) (zap [(zo, .inl (G.2 1, 1, .inr (.inl f1)))] (zap x1 (zap m1 []))) → va_S (fun q : Nat => s.heap.size ≤ q) s.heap H locs → lv_has ls 7 [(0, .ref b), (1, .ref xX), (2, .ref mA), (3, .ref zo), (4, .int i)] → W p l e room_1 s m #[Value.ref b] below meth c H locs (cells + 5) (slots + 520) (lw_Z below #[Value.ref b] s) (F0 m 1067 ls [])) : W p l e room_1 s m #[Value.ref b] below meth c H locs cells slots (lw_Z below #[Value.ref b] s) (F0 m 607 ls []) := by
  obtain ⟨hx, hb, hml, hown, hts, hK, hN, hlocks⟩ := id Z
  have hbA : ¬ (fun q : Nat => s.heap.size ≤ q) b := Nat.not_le.mpr hbl
  have hA : ∀ q : Nat, s.heap.size ≤ q → (fun q : Nat => s.heap.size ≤ q) q := fun _ h => h
  refine lv_aload_n hx hb d_law_607 rfl (lv_at hl 1 rfl) ?_
  refine lv_aload_n hx hb d_law_608 rfl (lv_at hl 0 rfl) ?_
  refine lv_iload hx hb d_law_609 (lv_at hl 4 rfl) ?_
  refine lv_iconst (v := 1) hx hb d_law_611 (by decide) ?_
  refine lv_iadd hx hb d_law_612 ?_
  refine lv_topi (fun v_1 ev_1 => ?_)
  have qv_1 := z_idx (k := 1) hi hL ev_1 li_1 (by decide)
  refine va_sld hx hb hX hbl hbA hS (i := v_1) qv_1 d_law_613 ?_
  refine lv_topi (fun v_2 ev_2 => ?_)
  refine lv_aload_n hx hb d_law_614 rfl (lv_at hl 0 rfl) ?_
  refine lv_iload hx hb d_law_615 (lv_at hl 4 rfl) ?_
  refine lv_iconst (v := 2) hx hb d_law_617 (by decide) ?_
  refine lv_iadd hx hb d_law_618 ?_
  refine lv_topi (fun v_3 ev_3 => ?_)
  have qv_3 := z_idx (k := 2) hi hL ev_3 li_2 (by decide)
  refine va_sld hx hb hX hbl hbA hS (i := v_3) qv_3 d_law_619 ?_
  refine lv_topi (fun v_4 ev_4 => ?_)
  refine lv_aload_n hx hb d_law_620 rfl (lv_at hl 0 rfl) ?_
  refine lv_iload hx hb d_law_621 (lv_at hl 4 rfl) ?_
  refine lv_iconst (v := 3) hx hb d_law_623 (by decide) ?_
  refine lv_iadd hx hb d_law_624 ?_
  refine lv_topi (fun v_5 ev_5 => ?_)
  have qv_5 := z_idx (k := 3) hi hL ev_5 li_3 (by decide)
  refine va_sld hx hb hX hbl hbA hS (i := v_5) qv_5 d_law_625 ?_
  refine lv_topi (fun v_6 ev_6 => ?_)
  obtain ⟨fs_7, hat_8⟩ := XS_at hx0
  refine z_callV (index := 90) (As := [.int v_2, .int v_4, .int v_6]) (rest := []) (wr := []) Z ((x_apart l G xX xText xNow xRead xPast xKept xTree xFol xMs xTree2 xMa2 xRun xRan xWo xPa xCo xPr xOd xFi xM0 xM1 xM2 xM3 (v_2) (v_4) (v_6) (tn) (sg) (s0) (s1) (pn) (pc) (P) (K0) (K1) (Rd) (n) (d) (mg) (L) (F) (V) x0 hx0).mid [(zo, .inl (G.2 1, 1, .inr (.inl f0)))] (zap m0 [])) hl.1 q866 q867 q868 q1 q869 ⟨by decide, by decide, by show _ = some 3; decide +kernel⟩ ⟨Nat.le_of_ble_eq_true rfl, Nat.le_of_ble_eq_true rfl⟩ (show cells + 0 ≤ 601024 ∧ slots + 0 ≤ 7293034 from ⟨by omega, by omega⟩) rfl (Nat.le_of_ble_eq_true rfl) d_law_626 hP hD hS hA 1 0 (zw_at1 (a := [(zo, .inl (G.2 1, 1, .inr (.inl f0)))]) (b := zap m0 []) hat_8) rfl rfl (List.range _) [] (zw_range _) rfl (zw_nd _) rfl (by intro i h9; cases h9) (fun v w1 H locs hw_9 hP hD hS => ?_)
  obtain ⟨w_11, ⟨x_10, rfl, hx_12⟩, rfl⟩ := hw_9
  have hP : va_P G.1 classes (zap [(zo, .inl (G.2 1, 1, .inr (.inl f0)))] (zap w_11 (zap m0 []))) H := hP
  have hD : va_D (fun q : Nat => s.heap.size ≤ q) (zap [(zo, .inl (G.2 1, 1, .inr (.inl f0)))] (zap w_11 (zap m0 []))) := hD
  refine W.widen (k := cells + 0) (n := slots + 0) (show cells + 0 ≤ cells + 0 from Nat.le_refl _) (show slots + 0 ≤ slots + 0 from Nat.le_refl _) ?_
  refine lv_pop hx hb d_law_629 rfl ?_
  refine lv_aload_n hx hb d_law_630 rfl (lv_at hl 2 rfl) ?_
  refine lv_aload_n hx hb d_law_631 rfl (lv_at hl 0 rfl) ?_
  refine lv_iload hx hb d_law_632 (lv_at hl 4 rfl) ?_
  refine lv_iconst (v := 1) hx hb d_law_634 (by decide) ?_
  refine lv_iadd hx hb d_law_635 ?_
  refine lv_topi (fun v_13 ev_13 => ?_)
  have qv_13 := z_idx (k := 1) hi hL ev_13 li_1 (by decide)
  refine va_sld hx hb hX hbl hbA hS (i := v_13) qv_13 d_law_636 ?_
  refine lv_topi (fun v_14 ev_14 => ?_)
  refine lv_aload_n hx hb d_law_637 rfl (lv_at hl 0 rfl) ?_
  refine lv_iload hx hb d_law_638 (lv_at hl 4 rfl) ?_
  refine lv_iconst (v := 2) hx hb d_law_640 (by decide) ?_
  refine lv_iadd hx hb d_law_641 ?_
  refine lv_topi (fun v_15 ev_15 => ?_)
  have qv_15 := z_idx (k := 2) hi hL ev_15 li_2 (by decide)
  refine va_sld hx hb hX hbl hbA hS (i := v_15) qv_15 d_law_642 ?_
  refine lv_topi (fun v_16 ev_16 => ?_)
  refine lv_aload_n hx hb d_law_643 rfl (lv_at hl 0 rfl) ?_
  refine lv_iload hx hb d_law_644 (lv_at hl 4 rfl) ?_
  refine lv_iconst (v := 3) hx hb d_law_646 (by decide) ?_
  refine lv_iadd hx hb d_law_647 ?_
  refine lv_topi (fun v_17 ev_17 => ?_)
  have qv_17 := z_idx (k := 3) hi hL ev_17 li_3 (by decide)
  refine va_sld hx hb hX hbl hbA hS (i := v_17) qv_17 d_law_648 ?_
  refine lv_topi (fun v_18 ev_18 => ?_)
  obtain ⟨fs_19, hat_20⟩ := zb_Mo_at hm0
  refine z_callV (index := 93) (As := [.int v_14, .int v_16, .int v_18]) (rest := []) (wr := []) Z ((m_apart l G mA (v_14) (v_16) (v_18)  (nu0) (xt0) (ro0) (ke0) (ik0) (un0) (tb0) m0 hm0).mid2 [(zo, .inl (G.2 1, 1, .inr (.inl f0)))] w_11 []) hl.1 q1516 q1517 q1518 q14 q1519 ⟨by decide, by decide, by show _ = some 3; decide +kernel⟩ ⟨Nat.le_of_ble_eq_true rfl, Nat.le_of_ble_eq_true rfl⟩ (show cells + 0 ≤ 601024 ∧ slots + 0 ≤ 7293034 from ⟨by omega, by omega⟩) rfl (Nat.le_of_ble_eq_true rfl) d_law_649 hP hD hS hA _ 12 (zw_at2 (a := [(zo, .inl (G.2 1, 1, .inr (.inl f0)))]) (x := w_11) (b := []) hat_20) rfl rfl (List.range _) [] (zw_range _) rfl (zw_nd _) rfl (by intro i h9; cases h9) (fun v w1 H locs hw_21 hP hD hS => ?_)
  obtain ⟨w_23, ⟨x_22, ⟨rfl⟩, hm_24⟩, rfl⟩ := hw_21
  have hP : va_P G.1 classes (zap [(zo, .inl (G.2 1, 1, .inr (.inl f0)))] (zap w_11 (zap w_23 []))) H := hP
  have hD : va_D (fun q : Nat => s.heap.size ≤ q) (zap [(zo, .inl (G.2 1, 1, .inr (.inl f0)))] (zap w_11 (zap w_23 []))) := hD
  refine W.widen (k := cells + 0) (n := slots + 0) (show cells + 0 ≤ cells + 0 from Nat.le_refl _) (show slots + 0 ≤ slots + 0 from Nat.le_refl _) ?_
  refine lv_pop hx hb d_law_652 rfl ?_
  refine lv_goto (tgt := 1067) hx hb d_law_653 (by decide) ?_
  refine W.widen (k := cells + 5) (n := slots + 520) (by omega) (by omega) ?_
  exact kk _ _ _ _ _ _ _ _ _ _ _ _ _ _ _ _ _ _ _ _ _ _ _ _ _ _ _ _ _ hx_12 hm_24 hR0 hP hD hS (lv_sub hl [0, 1, 2, 3, 4] rfl)
set_option maxHeartbeats 4000000 in
set_option maxRecDepth 100000 in
theorem law_17 {p : Program} {e : Env} {s : State} {m : MethodId} {below : List Frame} {meth : Method} {c : Code} (l : Launch) {b L : Nat} {xs : Nat → Int32} {G : zG} (hL : L ≤ 2560) (Z : zC p s m #[Value.ref b] meth c code 7 "TraceMachinesLaw" G) (hr : meth.sig.returnType = ret) (hX : va_X b L xs s s.heap) (hbl : b < s.heap.size)  {i : Int32} {cells slots : Nat} (hroom : cells + 5 ≤ 601024 ∧ slots + 520 ≤ 7293034) (hi : 0 ≤ i.toInt ∧ i.toInt + 5 ≤ (L : Int)) {xX xText xNow xRead xPast xKept xTree xFol xMs xTree2 xMa2 xRun xRan xWo xPa xCo xPr xOd xFi xM0 xM1 xM2 xM3 mA zo : Nat} {tn : Int32} {sg : Nat → Int32} {s0 : Bool} {s1 : Bool} {pn : Int32} {pc : Int32} {P : Nat → Nat → Int32} {K0 : Nat → Int32} {K1 : Nat → Int32} {Rd : Nat → Int32} {n : Int32} {d : Int32} {mg : Int32} {L : Nat → Int32} {F : Nat → Int32} {V : Nat → Int32} {f0 : Nat → Int64} {x0 m0 : va_W} {nu0 : Int32} {xt0 : Int32} {ro0 : Nat → Int32} {ke0 : Nat → Int32} {ik0 : Nat → Int32} {un0 : Nat → Int32} {tb0 : Nat → Int32} {H : Heap} {locs : List Loc} {ls : Array Slot} (hx0 : XS G xX xText xNow xRead xPast xKept xTree xFol xMs xTree2 xMa2 xRun xRan xWo xPa xCo xPr xOd xFi xM0 xM1 xM2 xM3 True tn sg s0 s1 pn pc P K0 K1 Rd n d mg L F V x0) (hm0 : zb_Mo G mA nu0 xt0 ro0 ke0 ik0 un0 tb0 m0) (hR0 : zRL (tn) (sg) (s0) (s1) (pn) (pc) (P) (K0) (K1) (zrow (n) (d) (mg) (L) (F) (V)) (xt0) (tb0) (ik0) (ro0) (un0) (ke0) (nu0)) (hP : va_P G.1 classes (zap [(zo, .inl (G.2 1, 1, .inr (.inl f0)))] (zap x0 (zap m0 []))) H) (hD : va_D (fun q : Nat => s.heap.size ≤ q) (zap [(zo, .inl (G.2 1, 1, .inr (.inl f0)))] (zap x0 (zap m0 [])))) (hS : va_S (fun q : Nat => s.heap.size ≤ q) s.heap H locs) (hl : lv_has ls 7 [(0, .ref b), (1, .ref xX), (2, .ref mA), (3, .ref zo), (4, .int i)]) (kk : ∀ (f1 : Nat → Int64) (x1 m1 : va_W) (nu_1 : Int32) (xt_1 : Int32) (ro_1 : Nat → Int32) (ke_1 : Nat → Int32) (ik_1 : Nat → Int32) (un_1 : Nat → Int32) (tb_1 : Nat → Int32) (tn_1 : Int32) (sg_1 : Nat → Int32) (s0_1 : Bool) (s1_1 : Bool) (pn_1 : Int32) (pc_1 : Int32) (P_1 : Nat → Nat → Int32) (K0_1 : Nat → Int32) (K1_1 : Nat → Int32) (Rd_1 : Nat → Int32) (n_1 : Int32) (d_1 : Int32) (mg_1 : Int32) (L_1 : Nat → Int32) (F_1 : Nat → Int32) (V_1 : Nat → Int32) (H : Heap) (locs : List Loc) (ls : Array Slot), XS G xX xText xNow xRead xPast xKept xTree xFol xMs xTree2 xMa2 xRun xRan xWo xPa xCo xPr xOd xFi xM0 xM1 xM2 xM3 True tn_1 sg_1 s0_1 s1_1 pn_1 pc_1 P_1 K0_1 K1_1 Rd_1 n_1 d_1 mg_1 L_1 F_1 V_1 x1 → zb_Mo G mA nu_1 xt_1 ro_1 ke_1 ik_1 un_1 tb_1 m1 → zRL (tn_1) (sg_1) (s0_1) (s1_1) (pn_1) (pc_1) (P_1) (K0_1) (K1_1) (zrow (n_1) (d_1) (mg_1) (L_1) (F_1) (V_1)) (xt_1) (tb_1) (ik_1) (ro_1) (un_1) (ke_1) (nu_1) → va_P G.1 classes (zap [(zo, .inl (G.2 1, 1, .inr (.inl f1)))] (zap x1 (zap m1 []))) H → va_D (fun q : Nat => s.heap.size ≤ q) (zap [(zo, .inl (G.2 1, 1, .inr (.inl f1)))] (zap x1 (zap m1 []))) → va_S (fun q : Nat => s.heap.size ≤ q) s.heap H locs → lv_has ls 7 [(0, .ref b), (1, .ref xX), (2, .ref mA), (3, .ref zo), (4, .int i)] → W p l e room_1 s m #[Value.ref b] below meth c H locs (cells + 5) (slots + 520) (lw_Z below #[Value.ref b] s) (F0 m 1067 ls [])) : W p l e room_1 s m #[Value.ref b] below meth c H locs cells slots (lw_Z below #[Value.ref b] s) (F0 m 656 ls []) := by
  obtain ⟨hx, hb, hml, hown, hts, hK, hN, hlocks⟩ := id Z
  have hbA : ¬ (fun q : Nat => s.heap.size ≤ q) b := Nat.not_le.mpr hbl
  have hA : ∀ q : Nat, s.heap.size ≤ q → (fun q : Nat => s.heap.size ≤ q) q := fun _ h => h
  refine lv_aload_n hx hb d_law_656 rfl (lv_at hl 1 rfl) ?_
  refine lv_aload_n hx hb d_law_657 rfl (lv_at hl 0 rfl) ?_
  refine lv_iload hx hb d_law_658 (lv_at hl 4 rfl) ?_
  refine lv_iconst (v := 1) hx hb d_law_660 (by decide) ?_
  refine lv_iadd hx hb d_law_661 ?_
  refine lv_topi (fun v_1 ev_1 => ?_)
  have qv_1 := z_idx (k := 1) hi hL ev_1 li_1 (by decide)
  refine va_sld hx hb hX hbl hbA hS (i := v_1) qv_1 d_law_662 ?_
  refine lv_topi (fun v_2 ev_2 => ?_)
  refine lv_aload_n hx hb d_law_663 rfl (lv_at hl 0 rfl) ?_
  refine lv_iload hx hb d_law_664 (lv_at hl 4 rfl) ?_
  refine lv_iconst (v := 2) hx hb d_law_666 (by decide) ?_
  refine lv_iadd hx hb d_law_667 ?_
  refine lv_topi (fun v_3 ev_3 => ?_)
  have qv_3 := z_idx (k := 2) hi hL ev_3 li_2 (by decide)
  refine va_sld hx hb hX hbl hbA hS (i := v_3) qv_3 d_law_668 ?_
  refine lv_topi (fun v_4 ev_4 => ?_)
  obtain ⟨fs_5, hat_6⟩ := XS_at hx0
  refine z_callV (index := 94) (As := [.int v_2, .int v_4]) (rest := []) (wr := []) Z ((x_walk l G xX xText xNow xRead xPast xKept xTree xFol xMs xTree2 xMa2 xRun xRan xWo xPa xCo xPr xOd xFi xM0 xM1 xM2 xM3 (v_2) (v_4) (tn) (sg) (s0) (s1) (pn) (pc) (P) (K0) (K1) (Rd) (n) (d) (mg) (L) (F) (V) x0 hx0).mid [(zo, .inl (G.2 1, 1, .inr (.inl f0)))] (zap m0 [])) hl.1 q900 q901 q902 q1 q903 ⟨by decide, by decide, by show _ = some 2; decide +kernel⟩ ⟨Nat.le_of_ble_eq_true rfl, Nat.le_of_ble_eq_true rfl⟩ (show cells + 0 ≤ 601024 ∧ slots + 0 ≤ 7293034 from ⟨by omega, by omega⟩) rfl (Nat.le_of_ble_eq_true rfl) d_law_669 hP hD hS hA 1 0 (zw_at1 (a := [(zo, .inl (G.2 1, 1, .inr (.inl f0)))]) (b := zap m0 []) hat_6) rfl rfl (List.range _) [] (zw_range _) rfl (zw_nd _) rfl (by intro i h9; cases h9) (fun v w1 H locs hw_7 hP hD hS => ?_)
  obtain ⟨w_9, ⟨x_8, rfl, hx_10⟩, rfl⟩ := hw_7
  have hP : va_P G.1 classes (zap [(zo, .inl (G.2 1, 1, .inr (.inl f0)))] (zap w_9 (zap m0 []))) H := hP
  have hD : va_D (fun q : Nat => s.heap.size ≤ q) (zap [(zo, .inl (G.2 1, 1, .inr (.inl f0)))] (zap w_9 (zap m0 []))) := hD
  refine W.widen (k := cells + 0) (n := slots + 0) (show cells + 0 ≤ cells + 0 from Nat.le_refl _) (show slots + 0 ≤ slots + 0 from Nat.le_refl _) ?_
  refine lv_pop hx hb d_law_672 rfl ?_
  refine lv_aload_n hx hb d_law_673 rfl (lv_at hl 2 rfl) ?_
  refine lv_aload_n hx hb d_law_674 rfl (lv_at hl 0 rfl) ?_
  refine lv_iload hx hb d_law_675 (lv_at hl 4 rfl) ?_
  refine lv_iconst (v := 1) hx hb d_law_677 (by decide) ?_
  refine lv_iadd hx hb d_law_678 ?_
  refine lv_topi (fun v_11 ev_11 => ?_)
  have qv_11 := z_idx (k := 1) hi hL ev_11 li_1 (by decide)
  refine va_sld hx hb hX hbl hbA hS (i := v_11) qv_11 d_law_679 ?_
  refine lv_topi (fun v_12 ev_12 => ?_)
  refine lv_aload_n hx hb d_law_680 rfl (lv_at hl 0 rfl) ?_
  refine lv_iload hx hb d_law_681 (lv_at hl 4 rfl) ?_
  refine lv_iconst (v := 2) hx hb d_law_683 (by decide) ?_
  refine lv_iadd hx hb d_law_684 ?_
  refine lv_topi (fun v_13 ev_13 => ?_)
  have qv_13 := z_idx (k := 2) hi hL ev_13 li_2 (by decide)
  refine va_sld hx hb hX hbl hbA hS (i := v_13) qv_13 d_law_685 ?_
  refine lv_topi (fun v_14 ev_14 => ?_)
  obtain ⟨fs_15, hat_16⟩ := zb_Mo_at hm0
  refine z_callV (index := 97) (As := [.int v_12, .int v_14]) (rest := []) (wr := []) Z ((m_walk l G mA (v_12) (v_14)  (nu0) (xt0) (ro0) (ke0) (ik0) (un0) (tb0) m0 hm0).mid2 [(zo, .inl (G.2 1, 1, .inr (.inl f0)))] w_9 []) hl.1 q1537 q1538 q1539 q14 q1540 ⟨by decide, by decide, by show _ = some 2; decide +kernel⟩ ⟨Nat.le_of_ble_eq_true rfl, Nat.le_of_ble_eq_true rfl⟩ (show cells + 0 ≤ 601024 ∧ slots + 0 ≤ 7293034 from ⟨by omega, by omega⟩) rfl (Nat.le_of_ble_eq_true rfl) d_law_686 hP hD hS hA _ 12 (zw_at2 (a := [(zo, .inl (G.2 1, 1, .inr (.inl f0)))]) (x := w_9) (b := []) hat_16) rfl rfl (List.range _) [] (zw_range _) rfl (zw_nd _) rfl (by intro i h9; cases h9) (fun v w1 H locs hw_17 hP hD hS => ?_)
  obtain ⟨w_19, ⟨x_18, ⟨rfl⟩, hm_20⟩, rfl⟩ := hw_17
  have hP : va_P G.1 classes (zap [(zo, .inl (G.2 1, 1, .inr (.inl f0)))] (zap w_9 (zap w_19 []))) H := hP
  have hD : va_D (fun q : Nat => s.heap.size ≤ q) (zap [(zo, .inl (G.2 1, 1, .inr (.inl f0)))] (zap w_9 (zap w_19 []))) := hD
  refine W.widen (k := cells + 0) (n := slots + 0) (show cells + 0 ≤ cells + 0 from Nat.le_refl _) (show slots + 0 ≤ slots + 0 from Nat.le_refl _) ?_
  refine lv_pop hx hb d_law_689 rfl ?_
  refine lv_goto (tgt := 1067) hx hb d_law_690 (by decide) ?_
  refine W.widen (k := cells + 5) (n := slots + 520) (by omega) (by omega) ?_
  exact kk _ _ _ _ _ _ _ _ _ _ _ _ _ _ _ _ _ _ _ _ _ _ _ _ _ _ _ _ _ hx_10 hm_20 hR0 hP hD hS (lv_sub hl [0, 1, 2, 3, 4] rfl)
set_option maxHeartbeats 4000000 in
set_option maxRecDepth 100000 in
theorem law_18 {p : Program} {e : Env} {s : State} {m : MethodId} {below : List Frame} {meth : Method} {c : Code} (l : Launch) {b L : Nat} {xs : Nat → Int32} {G : zG} (hL : L ≤ 2560) (Z : zC p s m #[Value.ref b] meth c code 7 "TraceMachinesLaw" G) (hr : meth.sig.returnType = ret) (hX : va_X b L xs s s.heap) (hbl : b < s.heap.size)  {i : Int32} {cells slots : Nat} (hroom : cells + 5 ≤ 601024 ∧ slots + 520 ≤ 7293034) (hi : 0 ≤ i.toInt ∧ i.toInt + 5 ≤ (L : Int)) {xX xText xNow xRead xPast xKept xTree xFol xMs xTree2 xMa2 xRun xRan xWo xPa xCo xPr xOd xFi xM0 xM1 xM2 xM3 mA zo : Nat} {tn : Int32} {sg : Nat → Int32} {s0 : Bool} {s1 : Bool} {pn : Int32} {pc : Int32} {P : Nat → Nat → Int32} {K0 : Nat → Int32} {K1 : Nat → Int32} {Rd : Nat → Int32} {n : Int32} {d : Int32} {mg : Int32} {L : Nat → Int32} {F : Nat → Int32} {V : Nat → Int32} {f0 : Nat → Int64} {x0 m0 : va_W} {nu0 : Int32} {xt0 : Int32} {ro0 : Nat → Int32} {ke0 : Nat → Int32} {ik0 : Nat → Int32} {un0 : Nat → Int32} {tb0 : Nat → Int32} {H : Heap} {locs : List Loc} {ls : Array Slot} (hx0 : XS G xX xText xNow xRead xPast xKept xTree xFol xMs xTree2 xMa2 xRun xRan xWo xPa xCo xPr xOd xFi xM0 xM1 xM2 xM3 True tn sg s0 s1 pn pc P K0 K1 Rd n d mg L F V x0) (hm0 : zb_Mo G mA nu0 xt0 ro0 ke0 ik0 un0 tb0 m0) (hR0 : zRL (tn) (sg) (s0) (s1) (pn) (pc) (P) (K0) (K1) (zrow (n) (d) (mg) (L) (F) (V)) (xt0) (tb0) (ik0) (ro0) (un0) (ke0) (nu0)) (hP : va_P G.1 classes (zap [(zo, .inl (G.2 1, 1, .inr (.inl f0)))] (zap x0 (zap m0 []))) H) (hD : va_D (fun q : Nat => s.heap.size ≤ q) (zap [(zo, .inl (G.2 1, 1, .inr (.inl f0)))] (zap x0 (zap m0 [])))) (hS : va_S (fun q : Nat => s.heap.size ≤ q) s.heap H locs) (hl : lv_has ls 7 [(0, .ref b), (1, .ref xX), (2, .ref mA), (3, .ref zo), (4, .int i)]) (kk : ∀ (f1 : Nat → Int64) (x1 m1 : va_W) (nu_1 : Int32) (xt_1 : Int32) (ro_1 : Nat → Int32) (ke_1 : Nat → Int32) (ik_1 : Nat → Int32) (un_1 : Nat → Int32) (tb_1 : Nat → Int32) (tn_1 : Int32) (sg_1 : Nat → Int32) (s0_1 : Bool) (s1_1 : Bool) (pn_1 : Int32) (pc_1 : Int32) (P_1 : Nat → Nat → Int32) (K0_1 : Nat → Int32) (K1_1 : Nat → Int32) (Rd_1 : Nat → Int32) (n_1 : Int32) (d_1 : Int32) (mg_1 : Int32) (L_1 : Nat → Int32) (F_1 : Nat → Int32) (V_1 : Nat → Int32) (H : Heap) (locs : List Loc) (ls : Array Slot), XS G xX xText xNow xRead xPast xKept xTree xFol xMs xTree2 xMa2 xRun xRan xWo xPa xCo xPr xOd xFi xM0 xM1 xM2 xM3 True tn_1 sg_1 s0_1 s1_1 pn_1 pc_1 P_1 K0_1 K1_1 Rd_1 n_1 d_1 mg_1 L_1 F_1 V_1 x1 → zb_Mo G mA nu_1 xt_1 ro_1 ke_1 ik_1 un_1 tb_1 m1 → zRL (tn_1) (sg_1) (s0_1) (s1_1) (pn_1) (pc_1) (P_1) (K0_1) (K1_1) (zrow (n_1) (d_1) (mg_1) (L_1) (F_1) (V_1)) (xt_1) (tb_1) (ik_1) (ro_1) (un_1) (ke_1) (nu_1) → va_P G.1 classes (zap [(zo, .inl (G.2 1, 1, .inr (.inl f1)))] (zap x1 (zap m1 []))) H → va_D (fun q : Nat => s.heap.size ≤ q) (zap [(zo, .inl (G.2 1, 1, .inr (.inl f1)))] (zap x1 (zap m1 []))) → va_S (fun q : Nat => s.heap.size ≤ q) s.heap H locs → lv_has ls 7 [(0, .ref b), (1, .ref xX), (2, .ref mA), (3, .ref zo), (4, .int i)] → W p l e room_1 s m #[Value.ref b] below meth c H locs (cells + 5) (slots + 520) (lw_Z below #[Value.ref b] s) (F0 m 1067 ls [])) : W p l e room_1 s m #[Value.ref b] below meth c H locs cells slots (lw_Z below #[Value.ref b] s) (F0 m 693 ls []) := by
  obtain ⟨hx, hb, hml, hown, hts, hK, hN, hlocks⟩ := id Z
  have hbA : ¬ (fun q : Nat => s.heap.size ≤ q) b := Nat.not_le.mpr hbl
  have hA : ∀ q : Nat, s.heap.size ≤ q → (fun q : Nat => s.heap.size ≤ q) q := fun _ h => h
  refine lv_aload_n hx hb d_law_693 rfl (lv_at hl 1 rfl) ?_
  refine lv_aload_n hx hb d_law_694 rfl (lv_at hl 0 rfl) ?_
  refine lv_iload hx hb d_law_695 (lv_at hl 4 rfl) ?_
  refine lv_iconst (v := 1) hx hb d_law_697 (by decide) ?_
  refine lv_iadd hx hb d_law_698 ?_
  refine lv_topi (fun v_1 ev_1 => ?_)
  have qv_1 := z_idx (k := 1) hi hL ev_1 li_1 (by decide)
  refine va_sld hx hb hX hbl hbA hS (i := v_1) qv_1 d_law_699 ?_
  refine lv_topi (fun v_2 ev_2 => ?_)
  refine lv_aload_n hx hb d_law_700 rfl (lv_at hl 0 rfl) ?_
  refine lv_iload hx hb d_law_701 (lv_at hl 4 rfl) ?_
  refine lv_iconst (v := 2) hx hb d_law_703 (by decide) ?_
  refine lv_iadd hx hb d_law_704 ?_
  refine lv_topi (fun v_3 ev_3 => ?_)
  have qv_3 := z_idx (k := 2) hi hL ev_3 li_2 (by decide)
  refine va_sld hx hb hX hbl hbA hS (i := v_3) qv_3 d_law_705 ?_
  refine lv_topi (fun v_4 ev_4 => ?_)
  refine lv_aload_n hx hb d_law_706 rfl (lv_at hl 0 rfl) ?_
  refine lv_iload hx hb d_law_707 (lv_at hl 4 rfl) ?_
  refine lv_iconst (v := 3) hx hb d_law_709 (by decide) ?_
  refine lv_iadd hx hb d_law_710 ?_
  refine lv_topi (fun v_5 ev_5 => ?_)
  have qv_5 := z_idx (k := 3) hi hL ev_5 li_3 (by decide)
  refine va_sld hx hb hX hbl hbA hS (i := v_5) qv_5 d_law_711 ?_
  refine lv_topi (fun v_6 ev_6 => ?_)
  refine lv_aload_n hx hb d_law_712 rfl (lv_at hl 0 rfl) ?_
  refine lv_iload hx hb d_law_713 (lv_at hl 4 rfl) ?_
  refine lv_iconst (v := 4) hx hb d_law_715 (by decide) ?_
  refine lv_iadd hx hb d_law_716 ?_
  refine lv_topi (fun v_7 ev_7 => ?_)
  have qv_7 := z_idx (k := 4) hi hL ev_7 li_4 (by decide)
  refine va_sld hx hb hX hbl hbA hS (i := v_7) qv_7 d_law_717 ?_
  refine lv_topi (fun v_8 ev_8 => ?_)
  obtain ⟨fs_9, hat_10⟩ := XS_at hx0
  refine z_callV (index := 98) (As := [.int v_2, .int v_4, .int v_6, .int v_8]) (rest := []) (wr := []) Z ((x_rule l G xX xText xNow xRead xPast xKept xTree xFol xMs xTree2 xMa2 xRun xRan xWo xPa xCo xPr xOd xFi xM0 xM1 xM2 xM3 (v_2) (v_4) (v_6) (v_8) (tn) (sg) (s0) (s1) (pn) (pc) (P) (K0) (K1) (Rd) (n) (d) (mg) (L) (F) (V) x0 hx0).mid [(zo, .inl (G.2 1, 1, .inr (.inl f0)))] (zap m0 [])) hl.1 q911 q912 q913 q1 q914 ⟨by decide, by decide, by show _ = some 4; decide +kernel⟩ ⟨Nat.le_of_ble_eq_true rfl, Nat.le_of_ble_eq_true rfl⟩ (show cells + 0 ≤ 601024 ∧ slots + 0 ≤ 7293034 from ⟨by omega, by omega⟩) rfl (Nat.le_of_ble_eq_true rfl) d_law_718 hP hD hS hA 1 0 (zw_at1 (a := [(zo, .inl (G.2 1, 1, .inr (.inl f0)))]) (b := zap m0 []) hat_10) rfl rfl (List.range _) [] (zw_range _) rfl (zw_nd _) rfl (by intro i h9; cases h9) (fun v w1 H locs hw_11 hP hD hS => ?_)
  obtain ⟨w_13, ⟨x_12, rfl, hx_14, hf_15⟩, rfl⟩ := hw_11
  have hP : va_P G.1 classes (zap [(zo, .inl (G.2 1, 1, .inr (.inl f0)))] (zap w_13 (zap m0 []))) H := hP
  have hD : va_D (fun q : Nat => s.heap.size ≤ q) (zap [(zo, .inl (G.2 1, 1, .inr (.inl f0)))] (zap w_13 (zap m0 []))) := hD
  refine W.widen (k := cells + 0) (n := slots + 0) (show cells + 0 ≤ cells + 0 from Nat.le_refl _) (show slots + 0 ≤ slots + 0 from Nat.le_refl _) ?_
  refine lv_pop hx hb d_law_721 rfl ?_
  refine lv_aload_n hx hb d_law_722 rfl (lv_at hl 2 rfl) ?_
  refine lv_aload_n hx hb d_law_723 rfl (lv_at hl 0 rfl) ?_
  refine lv_iload hx hb d_law_724 (lv_at hl 4 rfl) ?_
  refine lv_iconst (v := 1) hx hb d_law_726 (by decide) ?_
  refine lv_iadd hx hb d_law_727 ?_
  refine lv_topi (fun v_16 ev_16 => ?_)
  have qv_16 := z_idx (k := 1) hi hL ev_16 li_1 (by decide)
  refine va_sld hx hb hX hbl hbA hS (i := v_16) qv_16 d_law_728 ?_
  refine lv_topi (fun v_17 ev_17 => ?_)
  refine lv_aload_n hx hb d_law_729 rfl (lv_at hl 0 rfl) ?_
  refine lv_iload hx hb d_law_730 (lv_at hl 4 rfl) ?_
  refine lv_iconst (v := 2) hx hb d_law_732 (by decide) ?_
  refine lv_iadd hx hb d_law_733 ?_
  refine lv_topi (fun v_18 ev_18 => ?_)
  have qv_18 := z_idx (k := 2) hi hL ev_18 li_2 (by decide)
  refine va_sld hx hb hX hbl hbA hS (i := v_18) qv_18 d_law_734 ?_
  refine lv_topi (fun v_19 ev_19 => ?_)
  refine lv_aload_n hx hb d_law_735 rfl (lv_at hl 0 rfl) ?_
  refine lv_iload hx hb d_law_736 (lv_at hl 4 rfl) ?_
  refine lv_iconst (v := 3) hx hb d_law_738 (by decide) ?_
  refine lv_iadd hx hb d_law_739 ?_
  refine lv_topi (fun v_20 ev_20 => ?_)
  have qv_20 := z_idx (k := 3) hi hL ev_20 li_3 (by decide)
  refine va_sld hx hb hX hbl hbA hS (i := v_20) qv_20 d_law_740 ?_
  refine lv_topi (fun v_21 ev_21 => ?_)
  refine lv_aload_n hx hb d_law_741 rfl (lv_at hl 0 rfl) ?_
  refine lv_iload hx hb d_law_742 (lv_at hl 4 rfl) ?_
  refine lv_iconst (v := 4) hx hb d_law_744 (by decide) ?_
  refine lv_iadd hx hb d_law_745 ?_
  refine lv_topi (fun v_22 ev_22 => ?_)
  have qv_22 := z_idx (k := 4) hi hL ev_22 li_4 (by decide)
  refine va_sld hx hb hX hbl hbA hS (i := v_22) qv_22 d_law_746 ?_
  refine lv_topi (fun v_23 ev_23 => ?_)
  obtain ⟨fs_24, hat_25⟩ := zb_Mo_at hm0
  refine z_callV (index := 102) (As := [.int v_17, .int v_19, .int v_21, .int v_23]) (rest := []) (wr := []) Z ((m_rule l G mA (v_17) (v_19) (v_21) (v_23)  (nu0) (xt0) (ro0) (ke0) (ik0) (un0) (tb0) m0 hm0).mid2 [(zo, .inl (G.2 1, 1, .inr (.inl f0)))] w_13 []) hl.1 q1545 q1546 q1547 q14 q1548 ⟨by decide, by decide, by show _ = some 4; decide +kernel⟩ ⟨Nat.le_of_ble_eq_true rfl, Nat.le_of_ble_eq_true rfl⟩ (show cells + 0 ≤ 601024 ∧ slots + 0 ≤ 7293034 from ⟨by omega, by omega⟩) rfl (Nat.le_of_ble_eq_true rfl) d_law_747 hP hD hS hA _ 12 (zw_at2 (a := [(zo, .inl (G.2 1, 1, .inr (.inl f0)))]) (x := w_13) (b := []) hat_25) rfl rfl (List.range _) [] (zw_range _) rfl (zw_nd _) rfl (by intro i h9; cases h9) (fun v w1 H locs hw_26 hP hD hS => ?_)
  obtain ⟨w_28, ⟨x_27, ⟨rfl, hf_30⟩, hm_29⟩, rfl⟩ := hw_26
  have hP : va_P G.1 classes (zap [(zo, .inl (G.2 1, 1, .inr (.inl f0)))] (zap w_13 (zap w_28 []))) H := hP
  have hD : va_D (fun q : Nat => s.heap.size ≤ q) (zap [(zo, .inl (G.2 1, 1, .inr (.inl f0)))] (zap w_13 (zap w_28 []))) := hD
  refine W.widen (k := cells + 0) (n := slots + 0) (show cells + 0 ≤ cells + 0 from Nat.le_refl _) (show slots + 0 ≤ slots + 0 from Nat.le_refl _) ?_
  have hq9 : (x_12 : Int32).toInt = (x_27 : Int32).toInt ∧ zRL (tn) (sg) (s0) (s1) (pn) (pc) (P) (K0) (K1) (zrow (n) (d) (mg) (L) (F) (V)) (xt0) (tb0) (ik0) (ro0) (un0) (ke0) (nu0) := ⟨zRL_rule (fun _ _ _ _ => zas_E hR0.2.2.2.1 (XS_n hx0) (zb_Mo_w hm0).1) (ev_2.trans ((congrArg (fun z : Int32 => xs z.toNatClampNeg) (ev_1.trans ev_16.symm)).trans ev_17.symm)) (ev_4.trans ((congrArg (fun z : Int32 => xs z.toNatClampNeg) (ev_3.trans ev_18.symm)).trans ev_19.symm)) (ev_6.trans ((congrArg (fun z : Int32 => xs z.toNatClampNeg) (ev_5.trans ev_20.symm)).trans ev_21.symm)) (ev_8.trans ((congrArg (fun z : Int32 => xs z.toNatClampNeg) (ev_7.trans ev_22.symm)).trans ev_23.symm)) hf_15 hf_30, hR0⟩
  refine lv_pop hx hb d_law_750 rfl ?_
  refine lv_goto (tgt := 1067) hx hb d_law_751 (by decide) ?_
  refine W.widen (k := cells + 5) (n := slots + 520) (by omega) (by omega) ?_
  exact kk _ _ _ _ _ _ _ _ _ _ _ _ _ _ _ _ _ _ _ _ _ _ _ _ _ _ _ _ _ hx_14 hm_29 (hq9.2) hP hD hS (lv_sub hl [0, 1, 2, 3, 4] rfl)
set_option maxHeartbeats 4000000 in
set_option maxRecDepth 100000 in
theorem law_19 {p : Program} {e : Env} {s : State} {m : MethodId} {below : List Frame} {meth : Method} {c : Code} (l : Launch) {b L : Nat} {xs : Nat → Int32} {G : zG} (hL : L ≤ 2560) (Z : zC p s m #[Value.ref b] meth c code 7 "TraceMachinesLaw" G) (hr : meth.sig.returnType = ret) (hX : va_X b L xs s s.heap) (hbl : b < s.heap.size)  {i : Int32} {cells slots : Nat} (hroom : cells + 5 ≤ 601024 ∧ slots + 520 ≤ 7293034) (hi : 0 ≤ i.toInt ∧ i.toInt + 5 ≤ (L : Int)) {xX xText xNow xRead xPast xKept xTree xFol xMs xTree2 xMa2 xRun xRan xWo xPa xCo xPr xOd xFi xM0 xM1 xM2 xM3 mA zo : Nat} {tn : Int32} {sg : Nat → Int32} {s0 : Bool} {s1 : Bool} {pn : Int32} {pc : Int32} {P : Nat → Nat → Int32} {K0 : Nat → Int32} {K1 : Nat → Int32} {Rd : Nat → Int32} {n : Int32} {d : Int32} {mg : Int32} {L : Nat → Int32} {F : Nat → Int32} {V : Nat → Int32} {f0 : Nat → Int64} {x0 m0 : va_W} {nu0 : Int32} {xt0 : Int32} {ro0 : Nat → Int32} {ke0 : Nat → Int32} {ik0 : Nat → Int32} {un0 : Nat → Int32} {tb0 : Nat → Int32} {H : Heap} {locs : List Loc} {ls : Array Slot} (hx0 : XS G xX xText xNow xRead xPast xKept xTree xFol xMs xTree2 xMa2 xRun xRan xWo xPa xCo xPr xOd xFi xM0 xM1 xM2 xM3 True tn sg s0 s1 pn pc P K0 K1 Rd n d mg L F V x0) (hm0 : zb_Mo G mA nu0 xt0 ro0 ke0 ik0 un0 tb0 m0) (hR0 : zRL (tn) (sg) (s0) (s1) (pn) (pc) (P) (K0) (K1) (zrow (n) (d) (mg) (L) (F) (V)) (xt0) (tb0) (ik0) (ro0) (un0) (ke0) (nu0)) (hP : va_P G.1 classes (zap [(zo, .inl (G.2 1, 1, .inr (.inl f0)))] (zap x0 (zap m0 []))) H) (hD : va_D (fun q : Nat => s.heap.size ≤ q) (zap [(zo, .inl (G.2 1, 1, .inr (.inl f0)))] (zap x0 (zap m0 [])))) (hS : va_S (fun q : Nat => s.heap.size ≤ q) s.heap H locs) (hl : lv_has ls 7 [(0, .ref b), (1, .ref xX), (2, .ref mA), (3, .ref zo), (4, .int i)]) (kk : ∀ (f1 : Nat → Int64) (x1 m1 : va_W) (nu_1 : Int32) (xt_1 : Int32) (ro_1 : Nat → Int32) (ke_1 : Nat → Int32) (ik_1 : Nat → Int32) (un_1 : Nat → Int32) (tb_1 : Nat → Int32) (tn_1 : Int32) (sg_1 : Nat → Int32) (s0_1 : Bool) (s1_1 : Bool) (pn_1 : Int32) (pc_1 : Int32) (P_1 : Nat → Nat → Int32) (K0_1 : Nat → Int32) (K1_1 : Nat → Int32) (Rd_1 : Nat → Int32) (n_1 : Int32) (d_1 : Int32) (mg_1 : Int32) (L_1 : Nat → Int32) (F_1 : Nat → Int32) (V_1 : Nat → Int32) (H : Heap) (locs : List Loc) (ls : Array Slot), XS G xX xText xNow xRead xPast xKept xTree xFol xMs xTree2 xMa2 xRun xRan xWo xPa xCo xPr xOd xFi xM0 xM1 xM2 xM3 True tn_1 sg_1 s0_1 s1_1 pn_1 pc_1 P_1 K0_1 K1_1 Rd_1 n_1 d_1 mg_1 L_1 F_1 V_1 x1 → zb_Mo G mA nu_1 xt_1 ro_1 ke_1 ik_1 un_1 tb_1 m1 → zRL (tn_1) (sg_1) (s0_1) (s1_1) (pn_1) (pc_1) (P_1) (K0_1) (K1_1) (zrow (n_1) (d_1) (mg_1) (L_1) (F_1) (V_1)) (xt_1) (tb_1) (ik_1) (ro_1) (un_1) (ke_1) (nu_1) → va_P G.1 classes (zap [(zo, .inl (G.2 1, 1, .inr (.inl f1)))] (zap x1 (zap m1 []))) H → va_D (fun q : Nat => s.heap.size ≤ q) (zap [(zo, .inl (G.2 1, 1, .inr (.inl f1)))] (zap x1 (zap m1 []))) → va_S (fun q : Nat => s.heap.size ≤ q) s.heap H locs → lv_has ls 7 [(0, .ref b), (1, .ref xX), (2, .ref mA), (3, .ref zo), (4, .int i)] → W p l e room_1 s m #[Value.ref b] below meth c H locs (cells + 5) (slots + 520) (lw_Z below #[Value.ref b] s) (F0 m 1067 ls [])) : W p l e room_1 s m #[Value.ref b] below meth c H locs cells slots (lw_Z below #[Value.ref b] s) (F0 m 754 ls []) := by
  obtain ⟨hx, hb, hml, hown, hts, hK, hN, hlocks⟩ := id Z
  have hbA : ¬ (fun q : Nat => s.heap.size ≤ q) b := Nat.not_le.mpr hbl
  have hA : ∀ q : Nat, s.heap.size ≤ q → (fun q : Nat => s.heap.size ≤ q) q := fun _ h => h
  refine lv_aload_n hx hb d_law_754 rfl (lv_at hl 1 rfl) ?_
  refine lv_aload_n hx hb d_law_755 rfl (lv_at hl 0 rfl) ?_
  refine lv_iload hx hb d_law_756 (lv_at hl 4 rfl) ?_
  refine lv_iconst (v := 1) hx hb d_law_758 (by decide) ?_
  refine lv_iadd hx hb d_law_759 ?_
  refine lv_topi (fun v_1 ev_1 => ?_)
  have qv_1 := z_idx (k := 1) hi hL ev_1 li_1 (by decide)
  refine va_sld hx hb hX hbl hbA hS (i := v_1) qv_1 d_law_760 ?_
  refine lv_topi (fun v_2 ev_2 => ?_)
  refine lv_aload_n hx hb d_law_761 rfl (lv_at hl 0 rfl) ?_
  refine lv_iload hx hb d_law_762 (lv_at hl 4 rfl) ?_
  refine lv_iconst (v := 2) hx hb d_law_764 (by decide) ?_
  refine lv_iadd hx hb d_law_765 ?_
  refine lv_topi (fun v_3 ev_3 => ?_)
  have qv_3 := z_idx (k := 2) hi hL ev_3 li_2 (by decide)
  refine va_sld hx hb hX hbl hbA hS (i := v_3) qv_3 d_law_766 ?_
  refine lv_topi (fun v_4 ev_4 => ?_)
  refine lv_aload_n hx hb d_law_767 rfl (lv_at hl 0 rfl) ?_
  refine lv_iload hx hb d_law_768 (lv_at hl 4 rfl) ?_
  refine lv_iconst (v := 3) hx hb d_law_770 (by decide) ?_
  refine lv_iadd hx hb d_law_771 ?_
  refine lv_topi (fun v_5 ev_5 => ?_)
  have qv_5 := z_idx (k := 3) hi hL ev_5 li_3 (by decide)
  refine va_sld hx hb hX hbl hbA hS (i := v_5) qv_5 d_law_772 ?_
  refine lv_topi (fun v_6 ev_6 => ?_)
  obtain ⟨fs_7, hat_8⟩ := XS_at hx0
  refine z_callV (index := 103) (As := [.int v_2, .int v_4, .int v_6]) (rest := []) (wr := []) Z ((x_rules l G xX xText xNow xRead xPast xKept xTree xFol xMs xTree2 xMa2 xRun xRan xWo xPa xCo xPr xOd xFi xM0 xM1 xM2 xM3 (v_2) (v_4) (v_6) (tn) (sg) (s0) (s1) (pn) (pc) (P) (K0) (K1) (Rd) (n) (d) (mg) (L) (F) (V) x0 hx0).mid [(zo, .inl (G.2 1, 1, .inr (.inl f0)))] (zap m0 [])) hl.1 q948 q949 q950 q1 q951 ⟨by decide, by decide, by show _ = some 3; decide +kernel⟩ ⟨Nat.le_of_ble_eq_true rfl, Nat.le_of_ble_eq_true rfl⟩ (show cells + 0 ≤ 601024 ∧ slots + 0 ≤ 7293034 from ⟨by omega, by omega⟩) rfl (Nat.le_of_ble_eq_true rfl) d_law_773 hP hD hS hA 1 0 (zw_at1 (a := [(zo, .inl (G.2 1, 1, .inr (.inl f0)))]) (b := zap m0 []) hat_8) rfl rfl (List.range _) [] (zw_range _) rfl (zw_nd _) rfl (by intro i h9; cases h9) (fun v w1 H locs hw_9 hP hD hS => ?_)
  obtain ⟨w_11, ⟨x_10, rfl, hx_12, hf_13⟩, rfl⟩ := hw_9
  have hP : va_P G.1 classes (zap [(zo, .inl (G.2 1, 1, .inr (.inl f0)))] (zap w_11 (zap m0 []))) H := hP
  have hD : va_D (fun q : Nat => s.heap.size ≤ q) (zap [(zo, .inl (G.2 1, 1, .inr (.inl f0)))] (zap w_11 (zap m0 []))) := hD
  refine W.widen (k := cells + 0) (n := slots + 0) (show cells + 0 ≤ cells + 0 from Nat.le_refl _) (show slots + 0 ≤ slots + 0 from Nat.le_refl _) ?_
  refine lv_pop hx hb d_law_776 rfl ?_
  refine lv_aload_n hx hb d_law_777 rfl (lv_at hl 2 rfl) ?_
  refine lv_aload_n hx hb d_law_778 rfl (lv_at hl 0 rfl) ?_
  refine lv_iload hx hb d_law_779 (lv_at hl 4 rfl) ?_
  refine lv_iconst (v := 1) hx hb d_law_781 (by decide) ?_
  refine lv_iadd hx hb d_law_782 ?_
  refine lv_topi (fun v_14 ev_14 => ?_)
  have qv_14 := z_idx (k := 1) hi hL ev_14 li_1 (by decide)
  refine va_sld hx hb hX hbl hbA hS (i := v_14) qv_14 d_law_783 ?_
  refine lv_topi (fun v_15 ev_15 => ?_)
  refine lv_aload_n hx hb d_law_784 rfl (lv_at hl 0 rfl) ?_
  refine lv_iload hx hb d_law_785 (lv_at hl 4 rfl) ?_
  refine lv_iconst (v := 2) hx hb d_law_787 (by decide) ?_
  refine lv_iadd hx hb d_law_788 ?_
  refine lv_topi (fun v_16 ev_16 => ?_)
  have qv_16 := z_idx (k := 2) hi hL ev_16 li_2 (by decide)
  refine va_sld hx hb hX hbl hbA hS (i := v_16) qv_16 d_law_789 ?_
  refine lv_topi (fun v_17 ev_17 => ?_)
  refine lv_aload_n hx hb d_law_790 rfl (lv_at hl 0 rfl) ?_
  refine lv_iload hx hb d_law_791 (lv_at hl 4 rfl) ?_
  refine lv_iconst (v := 3) hx hb d_law_793 (by decide) ?_
  refine lv_iadd hx hb d_law_794 ?_
  refine lv_topi (fun v_18 ev_18 => ?_)
  have qv_18 := z_idx (k := 3) hi hL ev_18 li_3 (by decide)
  refine va_sld hx hb hX hbl hbA hS (i := v_18) qv_18 d_law_795 ?_
  refine lv_topi (fun v_19 ev_19 => ?_)
  obtain ⟨fs_20, hat_21⟩ := zb_Mo_at hm0
  refine z_callV (index := 106) (As := [.int v_15, .int v_17, .int v_19]) (rest := []) (wr := []) Z ((m_rules l G mA (v_15) (v_17) (v_19)  (nu0) (xt0) (ro0) (ke0) (ik0) (un0) (tb0) m0 hm0).mid2 [(zo, .inl (G.2 1, 1, .inr (.inl f0)))] w_11 []) hl.1 q1589 q1590 q1591 q14 q1592 ⟨by decide, by decide, by show _ = some 3; decide +kernel⟩ ⟨Nat.le_of_ble_eq_true rfl, Nat.le_of_ble_eq_true rfl⟩ (show cells + 0 ≤ 601024 ∧ slots + 0 ≤ 7293034 from ⟨by omega, by omega⟩) rfl (Nat.le_of_ble_eq_true rfl) d_law_796 hP hD hS hA _ 12 (zw_at2 (a := [(zo, .inl (G.2 1, 1, .inr (.inl f0)))]) (x := w_11) (b := []) hat_21) rfl rfl (List.range _) [] (zw_range _) rfl (zw_nd _) rfl (by intro i h9; cases h9) (fun v w1 H locs hw_22 hP hD hS => ?_)
  obtain ⟨w_24, ⟨x_23, ⟨rfl, hf_26⟩, hm_25⟩, rfl⟩ := hw_22
  have hP : va_P G.1 classes (zap [(zo, .inl (G.2 1, 1, .inr (.inl f0)))] (zap w_11 (zap w_24 []))) H := hP
  have hD : va_D (fun q : Nat => s.heap.size ≤ q) (zap [(zo, .inl (G.2 1, 1, .inr (.inl f0)))] (zap w_11 (zap w_24 []))) := hD
  refine W.widen (k := cells + 0) (n := slots + 0) (show cells + 0 ≤ cells + 0 from Nat.le_refl _) (show slots + 0 ≤ slots + 0 from Nat.le_refl _) ?_
  have hq9 : (x_10 : Int32).toInt = (x_23 : Int32).toInt ∧ zRL (tn) (sg) (s0) (s1) (pn) (pc) (P) (K0) (K1) (zrow (n) (d) (mg) (L) (F) (V)) (xt0) (tb0) (ik0) (ro0) (un0) (ke0) (nu0) := ⟨zRL_rules (fun _ _ _ _ => zas_E hR0.2.2.2.1 (XS_n hx0) (zb_Mo_w hm0).1) (ev_2.trans ((congrArg (fun z : Int32 => xs z.toNatClampNeg) (ev_1.trans ev_14.symm)).trans ev_15.symm)) (ev_4.trans ((congrArg (fun z : Int32 => xs z.toNatClampNeg) (ev_3.trans ev_16.symm)).trans ev_17.symm)) (ev_6.trans ((congrArg (fun z : Int32 => xs z.toNatClampNeg) (ev_5.trans ev_18.symm)).trans ev_19.symm)) hf_13 hf_26, hR0⟩
  refine lv_pop hx hb d_law_799 rfl ?_
  refine lv_goto (tgt := 1067) hx hb d_law_800 (by decide) ?_
  refine W.widen (k := cells + 5) (n := slots + 520) (by omega) (by omega) ?_
  exact kk _ _ _ _ _ _ _ _ _ _ _ _ _ _ _ _ _ _ _ _ _ _ _ _ _ _ _ _ _ hx_12 hm_25 (hq9.2) hP hD hS (lv_sub hl [0, 1, 2, 3, 4] rfl)
set_option maxHeartbeats 4000000 in
set_option maxRecDepth 100000 in
theorem law_20 {p : Program} {e : Env} {s : State} {m : MethodId} {below : List Frame} {meth : Method} {c : Code} (l : Launch) {b L : Nat} {xs : Nat → Int32} {G : zG} (hL : L ≤ 2560) (Z : zC p s m #[Value.ref b] meth c code 7 "TraceMachinesLaw" G) (hr : meth.sig.returnType = ret) (hX : va_X b L xs s s.heap) (hbl : b < s.heap.size)  {i : Int32} {cells slots : Nat} (hroom : cells + 5 ≤ 601024 ∧ slots + 520 ≤ 7293034) (hi : 0 ≤ i.toInt ∧ i.toInt + 5 ≤ (L : Int)) {xX xText xNow xRead xPast xKept xTree xFol xMs xTree2 xMa2 xRun xRan xWo xPa xCo xPr xOd xFi xM0 xM1 xM2 xM3 mA zo : Nat} {tn : Int32} {sg : Nat → Int32} {s0 : Bool} {s1 : Bool} {pn : Int32} {pc : Int32} {P : Nat → Nat → Int32} {K0 : Nat → Int32} {K1 : Nat → Int32} {Rd : Nat → Int32} {n : Int32} {d : Int32} {mg : Int32} {L : Nat → Int32} {F : Nat → Int32} {V : Nat → Int32} {f0 : Nat → Int64} {x0 m0 : va_W} {nu0 : Int32} {xt0 : Int32} {ro0 : Nat → Int32} {ke0 : Nat → Int32} {ik0 : Nat → Int32} {un0 : Nat → Int32} {tb0 : Nat → Int32} {H : Heap} {locs : List Loc} {ls : Array Slot} (hx0 : XS G xX xText xNow xRead xPast xKept xTree xFol xMs xTree2 xMa2 xRun xRan xWo xPa xCo xPr xOd xFi xM0 xM1 xM2 xM3 True tn sg s0 s1 pn pc P K0 K1 Rd n d mg L F V x0) (hm0 : zb_Mo G mA nu0 xt0 ro0 ke0 ik0 un0 tb0 m0) (hR0 : zRL (tn) (sg) (s0) (s1) (pn) (pc) (P) (K0) (K1) (zrow (n) (d) (mg) (L) (F) (V)) (xt0) (tb0) (ik0) (ro0) (un0) (ke0) (nu0)) (hP : va_P G.1 classes (zap [(zo, .inl (G.2 1, 1, .inr (.inl f0)))] (zap x0 (zap m0 []))) H) (hD : va_D (fun q : Nat => s.heap.size ≤ q) (zap [(zo, .inl (G.2 1, 1, .inr (.inl f0)))] (zap x0 (zap m0 [])))) (hS : va_S (fun q : Nat => s.heap.size ≤ q) s.heap H locs) (hl : lv_has ls 7 [(0, .ref b), (1, .ref xX), (2, .ref mA), (3, .ref zo), (4, .int i)]) (kk : ∀ (f1 : Nat → Int64) (x1 m1 : va_W) (nu_1 : Int32) (xt_1 : Int32) (ro_1 : Nat → Int32) (ke_1 : Nat → Int32) (ik_1 : Nat → Int32) (un_1 : Nat → Int32) (tb_1 : Nat → Int32) (tn_1 : Int32) (sg_1 : Nat → Int32) (s0_1 : Bool) (s1_1 : Bool) (pn_1 : Int32) (pc_1 : Int32) (P_1 : Nat → Nat → Int32) (K0_1 : Nat → Int32) (K1_1 : Nat → Int32) (Rd_1 : Nat → Int32) (n_1 : Int32) (d_1 : Int32) (mg_1 : Int32) (L_1 : Nat → Int32) (F_1 : Nat → Int32) (V_1 : Nat → Int32) (H : Heap) (locs : List Loc) (ls : Array Slot), XS G xX xText xNow xRead xPast xKept xTree xFol xMs xTree2 xMa2 xRun xRan xWo xPa xCo xPr xOd xFi xM0 xM1 xM2 xM3 True tn_1 sg_1 s0_1 s1_1 pn_1 pc_1 P_1 K0_1 K1_1 Rd_1 n_1 d_1 mg_1 L_1 F_1 V_1 x1 → zb_Mo G mA nu_1 xt_1 ro_1 ke_1 ik_1 un_1 tb_1 m1 → zRL (tn_1) (sg_1) (s0_1) (s1_1) (pn_1) (pc_1) (P_1) (K0_1) (K1_1) (zrow (n_1) (d_1) (mg_1) (L_1) (F_1) (V_1)) (xt_1) (tb_1) (ik_1) (ro_1) (un_1) (ke_1) (nu_1) → va_P G.1 classes (zap [(zo, .inl (G.2 1, 1, .inr (.inl f1)))] (zap x1 (zap m1 []))) H → va_D (fun q : Nat => s.heap.size ≤ q) (zap [(zo, .inl (G.2 1, 1, .inr (.inl f1)))] (zap x1 (zap m1 []))) → va_S (fun q : Nat => s.heap.size ≤ q) s.heap H locs → lv_has ls 7 [(0, .ref b), (1, .ref xX), (2, .ref mA), (3, .ref zo), (4, .int i)] → W p l e room_1 s m #[Value.ref b] below meth c H locs (cells + 5) (slots + 520) (lw_Z below #[Value.ref b] s) (F0 m 1067 ls [])) : W p l e room_1 s m #[Value.ref b] below meth c H locs cells slots (lw_Z below #[Value.ref b] s) (F0 m 803 ls []) := by
  obtain ⟨hx, hb, hml, hown, hts, hK, hN, hlocks⟩ := id Z
  have hbA : ¬ (fun q : Nat => s.heap.size ≤ q) b := Nat.not_le.mpr hbl
  have hA : ∀ q : Nat, s.heap.size ≤ q → (fun q : Nat => s.heap.size ≤ q) q := fun _ h => h
  refine lv_aload_n hx hb d_law_803 rfl (lv_at hl 1 rfl) ?_
  refine lv_aload_n hx hb d_law_804 rfl (lv_at hl 0 rfl) ?_
  refine lv_iload hx hb d_law_805 (lv_at hl 4 rfl) ?_
  refine lv_iconst (v := 1) hx hb d_law_807 (by decide) ?_
  refine lv_iadd hx hb d_law_808 ?_
  refine lv_topi (fun v_1 ev_1 => ?_)
  have qv_1 := z_idx (k := 1) hi hL ev_1 li_1 (by decide)
  refine va_sld hx hb hX hbl hbA hS (i := v_1) qv_1 d_law_809 ?_
  refine lv_topi (fun v_2 ev_2 => ?_)
  refine lv_aload_n hx hb d_law_810 rfl (lv_at hl 0 rfl) ?_
  refine lv_iload hx hb d_law_811 (lv_at hl 4 rfl) ?_
  refine lv_iconst (v := 2) hx hb d_law_813 (by decide) ?_
  refine lv_iadd hx hb d_law_814 ?_
  refine lv_topi (fun v_3 ev_3 => ?_)
  have qv_3 := z_idx (k := 2) hi hL ev_3 li_2 (by decide)
  refine va_sld hx hb hX hbl hbA hS (i := v_3) qv_3 d_law_815 ?_
  refine lv_topi (fun v_4 ev_4 => ?_)
  obtain ⟨fs_5, hat_6⟩ := XS_at hx0
  refine z_callV (index := 107) (As := [.int v_2, .int v_4]) (rest := []) (wr := []) Z ((x_odd l G xX xText xNow xRead xPast xKept xTree xFol xMs xTree2 xMa2 xRun xRan xWo xPa xCo xPr xOd xFi xM0 xM1 xM2 xM3 (v_2) (v_4) (tn) (sg) (s0) (s1) (pn) (pc) (P) (K0) (K1) (Rd) (n) (d) (mg) (L) (F) (V) x0 hx0).mid [(zo, .inl (G.2 1, 1, .inr (.inl f0)))] (zap m0 [])) hl.1 q957 q958 q959 q1 q960 ⟨by decide, by decide, by show _ = some 2; decide +kernel⟩ ⟨Nat.le_of_ble_eq_true rfl, Nat.le_of_ble_eq_true rfl⟩ (show cells + 0 ≤ 601024 ∧ slots + 0 ≤ 7293034 from ⟨by omega, by omega⟩) rfl (Nat.le_of_ble_eq_true rfl) d_law_816 hP hD hS hA 1 0 (zw_at1 (a := [(zo, .inl (G.2 1, 1, .inr (.inl f0)))]) (b := zap m0 []) hat_6) rfl rfl (List.range _) [] (zw_range _) rfl (zw_nd _) rfl (by intro i h9; cases h9) (fun v w1 H locs hw_7 hP hD hS => ?_)
  obtain ⟨w_9, ⟨x_8, rfl, hx_10⟩, rfl⟩ := hw_7
  have hP : va_P G.1 classes (zap [(zo, .inl (G.2 1, 1, .inr (.inl f0)))] (zap w_9 (zap m0 []))) H := hP
  have hD : va_D (fun q : Nat => s.heap.size ≤ q) (zap [(zo, .inl (G.2 1, 1, .inr (.inl f0)))] (zap w_9 (zap m0 []))) := hD
  refine W.widen (k := cells + 0) (n := slots + 0) (show cells + 0 ≤ cells + 0 from Nat.le_refl _) (show slots + 0 ≤ slots + 0 from Nat.le_refl _) ?_
  refine lv_pop hx hb d_law_819 rfl ?_
  refine lv_aload_n hx hb d_law_820 rfl (lv_at hl 2 rfl) ?_
  refine lv_aload_n hx hb d_law_821 rfl (lv_at hl 0 rfl) ?_
  refine lv_iload hx hb d_law_822 (lv_at hl 4 rfl) ?_
  refine lv_iconst (v := 1) hx hb d_law_824 (by decide) ?_
  refine lv_iadd hx hb d_law_825 ?_
  refine lv_topi (fun v_11 ev_11 => ?_)
  have qv_11 := z_idx (k := 1) hi hL ev_11 li_1 (by decide)
  refine va_sld hx hb hX hbl hbA hS (i := v_11) qv_11 d_law_826 ?_
  refine lv_topi (fun v_12 ev_12 => ?_)
  refine lv_aload_n hx hb d_law_827 rfl (lv_at hl 0 rfl) ?_
  refine lv_iload hx hb d_law_828 (lv_at hl 4 rfl) ?_
  refine lv_iconst (v := 2) hx hb d_law_830 (by decide) ?_
  refine lv_iadd hx hb d_law_831 ?_
  refine lv_topi (fun v_13 ev_13 => ?_)
  have qv_13 := z_idx (k := 2) hi hL ev_13 li_2 (by decide)
  refine va_sld hx hb hX hbl hbA hS (i := v_13) qv_13 d_law_832 ?_
  refine lv_topi (fun v_14 ev_14 => ?_)
  obtain ⟨fs_15, hat_16⟩ := zb_Mo_at hm0
  refine z_callV (index := 110) (As := [.int v_12, .int v_14]) (rest := []) (wr := []) Z ((m_odd l G mA (v_12) (v_14)  (nu0) (xt0) (ro0) (ke0) (ik0) (un0) (tb0) m0 hm0).mid2 [(zo, .inl (G.2 1, 1, .inr (.inl f0)))] w_9 []) hl.1 q1594 q1595 q1596 q14 q1597 ⟨by decide, by decide, by show _ = some 2; decide +kernel⟩ ⟨Nat.le_of_ble_eq_true rfl, Nat.le_of_ble_eq_true rfl⟩ (show cells + 0 ≤ 601024 ∧ slots + 0 ≤ 7293034 from ⟨by omega, by omega⟩) rfl (Nat.le_of_ble_eq_true rfl) d_law_833 hP hD hS hA _ 12 (zw_at2 (a := [(zo, .inl (G.2 1, 1, .inr (.inl f0)))]) (x := w_9) (b := []) hat_16) rfl rfl (List.range _) [] (zw_range _) rfl (zw_nd _) rfl (by intro i h9; cases h9) (fun v w1 H locs hw_17 hP hD hS => ?_)
  obtain ⟨w_19, ⟨x_18, ⟨rfl⟩, hm_20⟩, rfl⟩ := hw_17
  have hP : va_P G.1 classes (zap [(zo, .inl (G.2 1, 1, .inr (.inl f0)))] (zap w_9 (zap w_19 []))) H := hP
  have hD : va_D (fun q : Nat => s.heap.size ≤ q) (zap [(zo, .inl (G.2 1, 1, .inr (.inl f0)))] (zap w_9 (zap w_19 []))) := hD
  refine W.widen (k := cells + 0) (n := slots + 0) (show cells + 0 ≤ cells + 0 from Nat.le_refl _) (show slots + 0 ≤ slots + 0 from Nat.le_refl _) ?_
  refine lv_pop hx hb d_law_836 rfl ?_
  refine lv_goto (tgt := 1067) hx hb d_law_837 (by decide) ?_
  refine W.widen (k := cells + 5) (n := slots + 520) (by omega) (by omega) ?_
  exact kk _ _ _ _ _ _ _ _ _ _ _ _ _ _ _ _ _ _ _ _ _ _ _ _ _ _ _ _ _ hx_10 hm_20 hR0 hP hD hS (lv_sub hl [0, 1, 2, 3, 4] rfl)
set_option maxHeartbeats 4000000 in
set_option maxRecDepth 100000 in
theorem law_21 {p : Program} {e : Env} {s : State} {m : MethodId} {below : List Frame} {meth : Method} {c : Code} (l : Launch) {b L : Nat} {xs : Nat → Int32} {G : zG} (hL : L ≤ 2560) (Z : zC p s m #[Value.ref b] meth c code 7 "TraceMachinesLaw" G) (hr : meth.sig.returnType = ret) (hX : va_X b L xs s s.heap) (hbl : b < s.heap.size)  {i : Int32} {cells slots : Nat} (hroom : cells + 5 ≤ 601024 ∧ slots + 520 ≤ 7293034) (hi : 0 ≤ i.toInt ∧ i.toInt + 5 ≤ (L : Int)) {xX xText xNow xRead xPast xKept xTree xFol xMs xTree2 xMa2 xRun xRan xWo xPa xCo xPr xOd xFi xM0 xM1 xM2 xM3 mA zo : Nat} {tn : Int32} {sg : Nat → Int32} {s0 : Bool} {s1 : Bool} {pn : Int32} {pc : Int32} {P : Nat → Nat → Int32} {K0 : Nat → Int32} {K1 : Nat → Int32} {Rd : Nat → Int32} {n : Int32} {d : Int32} {mg : Int32} {L : Nat → Int32} {F : Nat → Int32} {V : Nat → Int32} {f0 : Nat → Int64} {x0 m0 : va_W} {nu0 : Int32} {xt0 : Int32} {ro0 : Nat → Int32} {ke0 : Nat → Int32} {ik0 : Nat → Int32} {un0 : Nat → Int32} {tb0 : Nat → Int32} {H : Heap} {locs : List Loc} {ls : Array Slot} (hx0 : XS G xX xText xNow xRead xPast xKept xTree xFol xMs xTree2 xMa2 xRun xRan xWo xPa xCo xPr xOd xFi xM0 xM1 xM2 xM3 True tn sg s0 s1 pn pc P K0 K1 Rd n d mg L F V x0) (hm0 : zb_Mo G mA nu0 xt0 ro0 ke0 ik0 un0 tb0 m0) (hR0 : zRL (tn) (sg) (s0) (s1) (pn) (pc) (P) (K0) (K1) (zrow (n) (d) (mg) (L) (F) (V)) (xt0) (tb0) (ik0) (ro0) (un0) (ke0) (nu0)) (hP : va_P G.1 classes (zap [(zo, .inl (G.2 1, 1, .inr (.inl f0)))] (zap x0 (zap m0 []))) H) (hD : va_D (fun q : Nat => s.heap.size ≤ q) (zap [(zo, .inl (G.2 1, 1, .inr (.inl f0)))] (zap x0 (zap m0 [])))) (hS : va_S (fun q : Nat => s.heap.size ≤ q) s.heap H locs) (hl : lv_has ls 7 [(0, .ref b), (1, .ref xX), (2, .ref mA), (3, .ref zo), (4, .int i)]) (kk : ∀ (f1 : Nat → Int64) (x1 m1 : va_W) (nu_1 : Int32) (xt_1 : Int32) (ro_1 : Nat → Int32) (ke_1 : Nat → Int32) (ik_1 : Nat → Int32) (un_1 : Nat → Int32) (tb_1 : Nat → Int32) (tn_1 : Int32) (sg_1 : Nat → Int32) (s0_1 : Bool) (s1_1 : Bool) (pn_1 : Int32) (pc_1 : Int32) (P_1 : Nat → Nat → Int32) (K0_1 : Nat → Int32) (K1_1 : Nat → Int32) (Rd_1 : Nat → Int32) (n_1 : Int32) (d_1 : Int32) (mg_1 : Int32) (L_1 : Nat → Int32) (F_1 : Nat → Int32) (V_1 : Nat → Int32) (H : Heap) (locs : List Loc) (ls : Array Slot), XS G xX xText xNow xRead xPast xKept xTree xFol xMs xTree2 xMa2 xRun xRan xWo xPa xCo xPr xOd xFi xM0 xM1 xM2 xM3 True tn_1 sg_1 s0_1 s1_1 pn_1 pc_1 P_1 K0_1 K1_1 Rd_1 n_1 d_1 mg_1 L_1 F_1 V_1 x1 → zb_Mo G mA nu_1 xt_1 ro_1 ke_1 ik_1 un_1 tb_1 m1 → zRL (tn_1) (sg_1) (s0_1) (s1_1) (pn_1) (pc_1) (P_1) (K0_1) (K1_1) (zrow (n_1) (d_1) (mg_1) (L_1) (F_1) (V_1)) (xt_1) (tb_1) (ik_1) (ro_1) (un_1) (ke_1) (nu_1) → va_P G.1 classes (zap [(zo, .inl (G.2 1, 1, .inr (.inl f1)))] (zap x1 (zap m1 []))) H → va_D (fun q : Nat => s.heap.size ≤ q) (zap [(zo, .inl (G.2 1, 1, .inr (.inl f1)))] (zap x1 (zap m1 []))) → va_S (fun q : Nat => s.heap.size ≤ q) s.heap H locs → lv_has ls 7 [(0, .ref b), (1, .ref xX), (2, .ref mA), (3, .ref zo), (4, .int i)] → W p l e room_1 s m #[Value.ref b] below meth c H locs (cells + 5) (slots + 520) (lw_Z below #[Value.ref b] s) (F0 m 1067 ls [])) : W p l e room_1 s m #[Value.ref b] below meth c H locs cells slots (lw_Z below #[Value.ref b] s) (F0 m 840 ls []) := by
  obtain ⟨hx, hb, hml, hown, hts, hK, hN, hlocks⟩ := id Z
  have hbA : ¬ (fun q : Nat => s.heap.size ≤ q) b := Nat.not_le.mpr hbl
  have hA : ∀ q : Nat, s.heap.size ≤ q → (fun q : Nat => s.heap.size ≤ q) q := fun _ h => h
  refine lv_aload_n hx hb d_law_840 rfl (lv_at hl 1 rfl) ?_
  refine lv_aload_n hx hb d_law_841 rfl (lv_at hl 0 rfl) ?_
  refine lv_iload hx hb d_law_842 (lv_at hl 4 rfl) ?_
  refine lv_iconst (v := 1) hx hb d_law_844 (by decide) ?_
  refine lv_iadd hx hb d_law_845 ?_
  refine lv_topi (fun v_1 ev_1 => ?_)
  have qv_1 := z_idx (k := 1) hi hL ev_1 li_1 (by decide)
  refine va_sld hx hb hX hbl hbA hS (i := v_1) qv_1 d_law_846 ?_
  refine lv_topi (fun v_2 ev_2 => ?_)
  obtain ⟨fs_3, hat_4⟩ := XS_at hx0
  refine z_callV (index := 111) (As := [.int v_2]) (rest := []) (wr := []) Z ((x_oddest l G xX xText xNow xRead xPast xKept xTree xFol xMs xTree2 xMa2 xRun xRan xWo xPa xCo xPr xOd xFi xM0 xM1 xM2 xM3 (v_2) (tn) (sg) (s0) (s1) (pn) (pc) (P) (K0) (K1) (Rd) (n) (d) (mg) (L) (F) (V) x0 hx0).mid [(zo, .inl (G.2 1, 1, .inr (.inl f0)))] (zap m0 [])) hl.1 q978 q979 q980 q1 q981 ⟨by decide, by decide, by show _ = some 1; decide +kernel⟩ ⟨Nat.le_of_ble_eq_true rfl, Nat.le_of_ble_eq_true rfl⟩ (show cells + 0 ≤ 601024 ∧ slots + 0 ≤ 7293034 from ⟨by omega, by omega⟩) rfl (Nat.le_of_ble_eq_true rfl) d_law_847 hP hD hS hA 1 0 (zw_at1 (a := [(zo, .inl (G.2 1, 1, .inr (.inl f0)))]) (b := zap m0 []) hat_4) rfl rfl (List.range _) [] (zw_range _) rfl (zw_nd _) rfl (by intro i h9; cases h9) (fun v w1 H locs hw_5 hP hD hS => ?_)
  obtain ⟨w_7, ⟨x_6, rfl, hx_8⟩, rfl⟩ := hw_5
  have hP : va_P G.1 classes (zap [(zo, .inl (G.2 1, 1, .inr (.inl f0)))] (zap w_7 (zap m0 []))) H := hP
  have hD : va_D (fun q : Nat => s.heap.size ≤ q) (zap [(zo, .inl (G.2 1, 1, .inr (.inl f0)))] (zap w_7 (zap m0 []))) := hD
  refine W.widen (k := cells + 0) (n := slots + 0) (show cells + 0 ≤ cells + 0 from Nat.le_refl _) (show slots + 0 ≤ slots + 0 from Nat.le_refl _) ?_
  refine lv_pop hx hb d_law_850 rfl ?_
  refine lv_aload_n hx hb d_law_851 rfl (lv_at hl 2 rfl) ?_
  refine lv_aload_n hx hb d_law_852 rfl (lv_at hl 0 rfl) ?_
  refine lv_iload hx hb d_law_853 (lv_at hl 4 rfl) ?_
  refine lv_iconst (v := 1) hx hb d_law_855 (by decide) ?_
  refine lv_iadd hx hb d_law_856 ?_
  refine lv_topi (fun v_9 ev_9 => ?_)
  have qv_9 := z_idx (k := 1) hi hL ev_9 li_1 (by decide)
  refine va_sld hx hb hX hbl hbA hS (i := v_9) qv_9 d_law_857 ?_
  refine lv_topi (fun v_10 ev_10 => ?_)
  obtain ⟨fs_11, hat_12⟩ := zb_Mo_at hm0
  refine z_callV (index := 114) (As := [.int v_10]) (rest := []) (wr := []) Z ((m_oddest l G mA (v_10)  (nu0) (xt0) (ro0) (ke0) (ik0) (un0) (tb0) m0 hm0).mid2 [(zo, .inl (G.2 1, 1, .inr (.inl f0)))] w_7 []) hl.1 q1611 q1612 q1613 q14 q1614 ⟨by decide, by decide, by show _ = some 1; decide +kernel⟩ ⟨Nat.le_of_ble_eq_true rfl, Nat.le_of_ble_eq_true rfl⟩ (show cells + 0 ≤ 601024 ∧ slots + 0 ≤ 7293034 from ⟨by omega, by omega⟩) rfl (Nat.le_of_ble_eq_true rfl) d_law_858 hP hD hS hA _ 12 (zw_at2 (a := [(zo, .inl (G.2 1, 1, .inr (.inl f0)))]) (x := w_7) (b := []) hat_12) rfl rfl (List.range _) [] (zw_range _) rfl (zw_nd _) rfl (by intro i h9; cases h9) (fun v w1 H locs hw_13 hP hD hS => ?_)
  obtain ⟨w_15, ⟨x_14, ⟨rfl⟩, hm_16⟩, rfl⟩ := hw_13
  have hP : va_P G.1 classes (zap [(zo, .inl (G.2 1, 1, .inr (.inl f0)))] (zap w_7 (zap w_15 []))) H := hP
  have hD : va_D (fun q : Nat => s.heap.size ≤ q) (zap [(zo, .inl (G.2 1, 1, .inr (.inl f0)))] (zap w_7 (zap w_15 []))) := hD
  refine W.widen (k := cells + 0) (n := slots + 0) (show cells + 0 ≤ cells + 0 from Nat.le_refl _) (show slots + 0 ≤ slots + 0 from Nat.le_refl _) ?_
  refine lv_pop hx hb d_law_861 rfl ?_
  refine lv_goto (tgt := 1067) hx hb d_law_862 (by decide) ?_
  refine W.widen (k := cells + 5) (n := slots + 520) (by omega) (by omega) ?_
  exact kk _ _ _ _ _ _ _ _ _ _ _ _ _ _ _ _ _ _ _ _ _ _ _ _ _ _ _ _ _ hx_8 hm_16 hR0 hP hD hS (lv_sub hl [0, 1, 2, 3, 4] rfl)
set_option maxHeartbeats 4000000 in
set_option maxRecDepth 100000 in
theorem law_22 {p : Program} {e : Env} {s : State} {m : MethodId} {below : List Frame} {meth : Method} {c : Code} (l : Launch) {b L : Nat} {xs : Nat → Int32} {G : zG} (hL : L ≤ 2560) (Z : zC p s m #[Value.ref b] meth c code 7 "TraceMachinesLaw" G) (hr : meth.sig.returnType = ret) (hX : va_X b L xs s s.heap) (hbl : b < s.heap.size)  {i : Int32} {cells slots : Nat} (hroom : cells + 5 ≤ 601024 ∧ slots + 520 ≤ 7293034) (hi : 0 ≤ i.toInt ∧ i.toInt + 5 ≤ (L : Int)) {xX xText xNow xRead xPast xKept xTree xFol xMs xTree2 xMa2 xRun xRan xWo xPa xCo xPr xOd xFi xM0 xM1 xM2 xM3 mA zo : Nat} {tn : Int32} {sg : Nat → Int32} {s0 : Bool} {s1 : Bool} {pn : Int32} {pc : Int32} {P : Nat → Nat → Int32} {K0 : Nat → Int32} {K1 : Nat → Int32} {Rd : Nat → Int32} {n : Int32} {d : Int32} {mg : Int32} {L : Nat → Int32} {F : Nat → Int32} {V : Nat → Int32} {f0 : Nat → Int64} {x0 m0 : va_W} {nu0 : Int32} {xt0 : Int32} {ro0 : Nat → Int32} {ke0 : Nat → Int32} {ik0 : Nat → Int32} {un0 : Nat → Int32} {tb0 : Nat → Int32} {H : Heap} {locs : List Loc} {ls : Array Slot} (hx0 : XS G xX xText xNow xRead xPast xKept xTree xFol xMs xTree2 xMa2 xRun xRan xWo xPa xCo xPr xOd xFi xM0 xM1 xM2 xM3 True tn sg s0 s1 pn pc P K0 K1 Rd n d mg L F V x0) (hm0 : zb_Mo G mA nu0 xt0 ro0 ke0 ik0 un0 tb0 m0) (hR0 : zRL (tn) (sg) (s0) (s1) (pn) (pc) (P) (K0) (K1) (zrow (n) (d) (mg) (L) (F) (V)) (xt0) (tb0) (ik0) (ro0) (un0) (ke0) (nu0)) (hP : va_P G.1 classes (zap [(zo, .inl (G.2 1, 1, .inr (.inl f0)))] (zap x0 (zap m0 []))) H) (hD : va_D (fun q : Nat => s.heap.size ≤ q) (zap [(zo, .inl (G.2 1, 1, .inr (.inl f0)))] (zap x0 (zap m0 [])))) (hS : va_S (fun q : Nat => s.heap.size ≤ q) s.heap H locs) (hl : lv_has ls 7 [(0, .ref b), (1, .ref xX), (2, .ref mA), (3, .ref zo), (4, .int i)]) (kk : ∀ (f1 : Nat → Int64) (x1 m1 : va_W) (nu_1 : Int32) (xt_1 : Int32) (ro_1 : Nat → Int32) (ke_1 : Nat → Int32) (ik_1 : Nat → Int32) (un_1 : Nat → Int32) (tb_1 : Nat → Int32) (tn_1 : Int32) (sg_1 : Nat → Int32) (s0_1 : Bool) (s1_1 : Bool) (pn_1 : Int32) (pc_1 : Int32) (P_1 : Nat → Nat → Int32) (K0_1 : Nat → Int32) (K1_1 : Nat → Int32) (Rd_1 : Nat → Int32) (n_1 : Int32) (d_1 : Int32) (mg_1 : Int32) (L_1 : Nat → Int32) (F_1 : Nat → Int32) (V_1 : Nat → Int32) (H : Heap) (locs : List Loc) (ls : Array Slot), XS G xX xText xNow xRead xPast xKept xTree xFol xMs xTree2 xMa2 xRun xRan xWo xPa xCo xPr xOd xFi xM0 xM1 xM2 xM3 True tn_1 sg_1 s0_1 s1_1 pn_1 pc_1 P_1 K0_1 K1_1 Rd_1 n_1 d_1 mg_1 L_1 F_1 V_1 x1 → zb_Mo G mA nu_1 xt_1 ro_1 ke_1 ik_1 un_1 tb_1 m1 → zRL (tn_1) (sg_1) (s0_1) (s1_1) (pn_1) (pc_1) (P_1) (K0_1) (K1_1) (zrow (n_1) (d_1) (mg_1) (L_1) (F_1) (V_1)) (xt_1) (tb_1) (ik_1) (ro_1) (un_1) (ke_1) (nu_1) → va_P G.1 classes (zap [(zo, .inl (G.2 1, 1, .inr (.inl f1)))] (zap x1 (zap m1 []))) H → va_D (fun q : Nat => s.heap.size ≤ q) (zap [(zo, .inl (G.2 1, 1, .inr (.inl f1)))] (zap x1 (zap m1 []))) → va_S (fun q : Nat => s.heap.size ≤ q) s.heap H locs → lv_has ls 7 [(0, .ref b), (1, .ref xX), (2, .ref mA), (3, .ref zo), (4, .int i)] → W p l e room_1 s m #[Value.ref b] below meth c H locs (cells + 5) (slots + 520) (lw_Z below #[Value.ref b] s) (F0 m 1067 ls [])) : W p l e room_1 s m #[Value.ref b] below meth c H locs cells slots (lw_Z below #[Value.ref b] s) (F0 m 865 ls []) := by
  obtain ⟨hx, hb, hml, hown, hts, hK, hN, hlocks⟩ := id Z
  have hbA : ¬ (fun q : Nat => s.heap.size ≤ q) b := Nat.not_le.mpr hbl
  have hA : ∀ q : Nat, s.heap.size ≤ q → (fun q : Nat => s.heap.size ≤ q) q := fun _ h => h
  refine lv_aload_n hx hb d_law_865 rfl (lv_at hl 1 rfl) ?_
  refine lv_aload_n hx hb d_law_866 rfl (lv_at hl 0 rfl) ?_
  refine lv_iload hx hb d_law_867 (lv_at hl 4 rfl) ?_
  refine lv_iconst (v := 1) hx hb d_law_869 (by decide) ?_
  refine lv_iadd hx hb d_law_870 ?_
  refine lv_topi (fun v_1 ev_1 => ?_)
  have qv_1 := z_idx (k := 1) hi hL ev_1 li_1 (by decide)
  refine va_sld hx hb hX hbl hbA hS (i := v_1) qv_1 d_law_871 ?_
  refine lv_topi (fun v_2 ev_2 => ?_)
  refine lv_aload_n hx hb d_law_872 rfl (lv_at hl 0 rfl) ?_
  refine lv_iload hx hb d_law_873 (lv_at hl 4 rfl) ?_
  refine lv_iconst (v := 2) hx hb d_law_875 (by decide) ?_
  refine lv_iadd hx hb d_law_876 ?_
  refine lv_topi (fun v_3 ev_3 => ?_)
  have qv_3 := z_idx (k := 2) hi hL ev_3 li_2 (by decide)
  refine va_sld hx hb hX hbl hbA hS (i := v_3) qv_3 d_law_877 ?_
  refine lv_topi (fun v_4 ev_4 => ?_)
  refine lv_aload_n hx hb d_law_878 rfl (lv_at hl 0 rfl) ?_
  refine lv_iload hx hb d_law_879 (lv_at hl 4 rfl) ?_
  refine lv_iconst (v := 3) hx hb d_law_881 (by decide) ?_
  refine lv_iadd hx hb d_law_882 ?_
  refine lv_topi (fun v_5 ev_5 => ?_)
  have qv_5 := z_idx (k := 3) hi hL ev_5 li_3 (by decide)
  refine va_sld hx hb hX hbl hbA hS (i := v_5) qv_5 d_law_883 ?_
  refine lv_topi (fun v_6 ev_6 => ?_)
  refine lv_if_eq (tgt := 891) hx hb d_law_884 (by decide) (fun _ => ?_) (fun _ => ?_)
  · refine lv_iconst (v := 0) hx hb d_law_891 (by decide) ?_
    obtain ⟨fs_7, hat_8⟩ := XS_at hx0
    refine z_callV (index := 115) (As := [.int v_2, .int v_4, .int 0]) (rest := []) (wr := []) Z ((x_held l G xX xText xNow xRead xPast xKept xTree xFol xMs xTree2 xMa2 xRun xRan xWo xPa xCo xPr xOd xFi xM0 xM1 xM2 xM3 (v_2) (v_4) (0) (tn) (sg) (s0) (s1) (pn) (pc) (P) (K0) (K1) (Rd) (n) (d) (mg) (L) (F) (V) x0 (zI.wk (l' := 0) (h' := 1) zc_0 (by decide)) hx0).mid [(zo, .inl (G.2 1, 1, .inr (.inl f0)))] (zap m0 [])) hl.1 q982 q983 q984 q1 q985 ⟨by decide, by decide, by show _ = some 3; decide +kernel⟩ ⟨Nat.le_of_ble_eq_true rfl, Nat.le_of_ble_eq_true rfl⟩ (show cells + 0 ≤ 601024 ∧ slots + 0 ≤ 7293034 from ⟨by omega, by omega⟩) rfl (Nat.le_of_ble_eq_true rfl) d_law_892 hP hD hS hA 1 0 (zw_at1 (a := [(zo, .inl (G.2 1, 1, .inr (.inl f0)))]) (b := zap m0 []) hat_8) rfl rfl (List.range _) [] (zw_range _) rfl (zw_nd _) rfl (by intro i h9; cases h9) (fun v w1 H locs hw_9 hP hD hS => ?_)
    obtain ⟨w_11, ⟨x_10, rfl, hx_12⟩, rfl⟩ := hw_9
    have hP : va_P G.1 classes (zap [(zo, .inl (G.2 1, 1, .inr (.inl f0)))] (zap w_11 (zap m0 []))) H := hP
    have hD : va_D (fun q : Nat => s.heap.size ≤ q) (zap [(zo, .inl (G.2 1, 1, .inr (.inl f0)))] (zap w_11 (zap m0 []))) := hD
    refine W.widen (k := cells + 0) (n := slots + 0) (show cells + 0 ≤ cells + 0 from Nat.le_refl _) (show slots + 0 ≤ slots + 0 from Nat.le_refl _) ?_
    refine lv_pop hx hb d_law_895 rfl ?_
    refine lv_aload_n hx hb d_law_896 rfl (lv_at hl 2 rfl) ?_
    refine lv_aload_n hx hb d_law_897 rfl (lv_at hl 0 rfl) ?_
    refine lv_iload hx hb d_law_898 (lv_at hl 4 rfl) ?_
    refine lv_iconst (v := 1) hx hb d_law_900 (by decide) ?_
    refine lv_iadd hx hb d_law_901 ?_
    refine lv_topi (fun v_13 ev_13 => ?_)
    have qv_13 := z_idx (k := 1) hi hL ev_13 li_1 (by decide)
    refine va_sld hx hb hX hbl hbA hS (i := v_13) qv_13 d_law_902 ?_
    refine lv_topi (fun v_14 ev_14 => ?_)
    refine lv_aload_n hx hb d_law_903 rfl (lv_at hl 0 rfl) ?_
    refine lv_iload hx hb d_law_904 (lv_at hl 4 rfl) ?_
    refine lv_iconst (v := 2) hx hb d_law_906 (by decide) ?_
    refine lv_iadd hx hb d_law_907 ?_
    refine lv_topi (fun v_15 ev_15 => ?_)
    have qv_15 := z_idx (k := 2) hi hL ev_15 li_2 (by decide)
    refine va_sld hx hb hX hbl hbA hS (i := v_15) qv_15 d_law_908 ?_
    refine lv_topi (fun v_16 ev_16 => ?_)
    refine lv_aload_n hx hb d_law_909 rfl (lv_at hl 0 rfl) ?_
    refine lv_iload hx hb d_law_910 (lv_at hl 4 rfl) ?_
    refine lv_iconst (v := 3) hx hb d_law_912 (by decide) ?_
    refine lv_iadd hx hb d_law_913 ?_
    refine lv_topi (fun v_17 ev_17 => ?_)
    have qv_17 := z_idx (k := 3) hi hL ev_17 li_3 (by decide)
    refine va_sld hx hb hX hbl hbA hS (i := v_17) qv_17 d_law_914 ?_
    refine lv_topi (fun v_18 ev_18 => ?_)
    refine lv_if_eq (tgt := 922) hx hb d_law_915 (by decide) (fun _ => ?_) (fun _ => ?_)
    · refine lv_iconst (v := 0) hx hb d_law_922 (by decide) ?_
      obtain ⟨fs_19, hat_20⟩ := zb_Mo_at hm0
      refine z_callV (index := 119) (As := [.int v_14, .int v_16, .int 0]) (rest := []) (wr := []) Z ((m_held l G mA (v_14) (v_16) (0) (zI.wk (l' := 0) (h' := 1) zc_0 (by decide)) (nu0) (xt0) (ro0) (ke0) (ik0) (un0) (tb0) m0 hm0).mid2 [(zo, .inl (G.2 1, 1, .inr (.inl f0)))] w_11 []) hl.1 q1615 q1616 q1617 q14 q1618 ⟨by decide, by decide, by show _ = some 3; decide +kernel⟩ ⟨Nat.le_of_ble_eq_true rfl, Nat.le_of_ble_eq_true rfl⟩ (show cells + 0 ≤ 601024 ∧ slots + 0 ≤ 7293034 from ⟨by omega, by omega⟩) rfl (Nat.le_of_ble_eq_true rfl) d_law_923 hP hD hS hA _ 12 (zw_at2 (a := [(zo, .inl (G.2 1, 1, .inr (.inl f0)))]) (x := w_11) (b := []) hat_20) rfl rfl (List.range _) [] (zw_range _) rfl (zw_nd _) rfl (by intro i h9; cases h9) (fun v w1 H locs hw_21 hP hD hS => ?_)
      obtain ⟨w_23, ⟨x_22, ⟨rfl⟩, hm_24⟩, rfl⟩ := hw_21
      have hP : va_P G.1 classes (zap [(zo, .inl (G.2 1, 1, .inr (.inl f0)))] (zap w_11 (zap w_23 []))) H := hP
      have hD : va_D (fun q : Nat => s.heap.size ≤ q) (zap [(zo, .inl (G.2 1, 1, .inr (.inl f0)))] (zap w_11 (zap w_23 []))) := hD
      refine W.widen (k := cells + 0) (n := slots + 0) (show cells + 0 ≤ cells + 0 from Nat.le_refl _) (show slots + 0 ≤ slots + 0 from Nat.le_refl _) ?_
      refine lv_pop hx hb d_law_926 rfl ?_
      refine lv_goto (tgt := 1067) hx hb d_law_927 (by decide) ?_
      refine W.widen (k := cells + 5) (n := slots + 520) (by omega) (by omega) ?_
      exact kk _ _ _ _ _ _ _ _ _ _ _ _ _ _ _ _ _ _ _ _ _ _ _ _ _ _ _ _ _ hx_12 hm_24 hR0 hP hD hS (lv_sub hl [0, 1, 2, 3, 4] rfl)
    · refine lv_iconst (v := 1) hx hb d_law_918 (by decide) ?_
      refine lv_goto (tgt := 923) hx hb d_law_919 (by decide) ?_
      obtain ⟨fs_25, hat_26⟩ := zb_Mo_at hm0
      refine z_callV (index := 119) (As := [.int v_14, .int v_16, .int 1]) (rest := []) (wr := []) Z ((m_held l G mA (v_14) (v_16) (1) (zI.wk (l' := 0) (h' := 1) zc_1 (by decide)) (nu0) (xt0) (ro0) (ke0) (ik0) (un0) (tb0) m0 hm0).mid2 [(zo, .inl (G.2 1, 1, .inr (.inl f0)))] w_11 []) hl.1 q1615 q1616 q1617 q14 q1618 ⟨by decide, by decide, by show _ = some 3; decide +kernel⟩ ⟨Nat.le_of_ble_eq_true rfl, Nat.le_of_ble_eq_true rfl⟩ (show cells + 0 ≤ 601024 ∧ slots + 0 ≤ 7293034 from ⟨by omega, by omega⟩) rfl (Nat.le_of_ble_eq_true rfl) d_law_923 hP hD hS hA _ 12 (zw_at2 (a := [(zo, .inl (G.2 1, 1, .inr (.inl f0)))]) (x := w_11) (b := []) hat_26) rfl rfl (List.range _) [] (zw_range _) rfl (zw_nd _) rfl (by intro i h9; cases h9) (fun v w1 H locs hw_27 hP hD hS => ?_)
      obtain ⟨w_29, ⟨x_28, ⟨rfl⟩, hm_30⟩, rfl⟩ := hw_27
      have hP : va_P G.1 classes (zap [(zo, .inl (G.2 1, 1, .inr (.inl f0)))] (zap w_11 (zap w_29 []))) H := hP
      have hD : va_D (fun q : Nat => s.heap.size ≤ q) (zap [(zo, .inl (G.2 1, 1, .inr (.inl f0)))] (zap w_11 (zap w_29 []))) := hD
      refine W.widen (k := cells + 0) (n := slots + 0) (show cells + 0 ≤ cells + 0 from Nat.le_refl _) (show slots + 0 ≤ slots + 0 from Nat.le_refl _) ?_
      refine lv_pop hx hb d_law_926 rfl ?_
      refine lv_goto (tgt := 1067) hx hb d_law_927 (by decide) ?_
      refine W.widen (k := cells + 5) (n := slots + 520) (by omega) (by omega) ?_
      exact kk _ _ _ _ _ _ _ _ _ _ _ _ _ _ _ _ _ _ _ _ _ _ _ _ _ _ _ _ _ hx_12 hm_30 hR0 hP hD hS (lv_sub hl [0, 1, 2, 3, 4] rfl)
  · refine lv_iconst (v := 1) hx hb d_law_887 (by decide) ?_
    refine lv_goto (tgt := 892) hx hb d_law_888 (by decide) ?_
    obtain ⟨fs_31, hat_32⟩ := XS_at hx0
    refine z_callV (index := 115) (As := [.int v_2, .int v_4, .int 1]) (rest := []) (wr := []) Z ((x_held l G xX xText xNow xRead xPast xKept xTree xFol xMs xTree2 xMa2 xRun xRan xWo xPa xCo xPr xOd xFi xM0 xM1 xM2 xM3 (v_2) (v_4) (1) (tn) (sg) (s0) (s1) (pn) (pc) (P) (K0) (K1) (Rd) (n) (d) (mg) (L) (F) (V) x0 (zI.wk (l' := 0) (h' := 1) zc_1 (by decide)) hx0).mid [(zo, .inl (G.2 1, 1, .inr (.inl f0)))] (zap m0 [])) hl.1 q982 q983 q984 q1 q985 ⟨by decide, by decide, by show _ = some 3; decide +kernel⟩ ⟨Nat.le_of_ble_eq_true rfl, Nat.le_of_ble_eq_true rfl⟩ (show cells + 0 ≤ 601024 ∧ slots + 0 ≤ 7293034 from ⟨by omega, by omega⟩) rfl (Nat.le_of_ble_eq_true rfl) d_law_892 hP hD hS hA 1 0 (zw_at1 (a := [(zo, .inl (G.2 1, 1, .inr (.inl f0)))]) (b := zap m0 []) hat_32) rfl rfl (List.range _) [] (zw_range _) rfl (zw_nd _) rfl (by intro i h9; cases h9) (fun v w1 H locs hw_33 hP hD hS => ?_)
    obtain ⟨w_35, ⟨x_34, rfl, hx_36⟩, rfl⟩ := hw_33
    have hP : va_P G.1 classes (zap [(zo, .inl (G.2 1, 1, .inr (.inl f0)))] (zap w_35 (zap m0 []))) H := hP
    have hD : va_D (fun q : Nat => s.heap.size ≤ q) (zap [(zo, .inl (G.2 1, 1, .inr (.inl f0)))] (zap w_35 (zap m0 []))) := hD
    refine W.widen (k := cells + 0) (n := slots + 0) (show cells + 0 ≤ cells + 0 from Nat.le_refl _) (show slots + 0 ≤ slots + 0 from Nat.le_refl _) ?_
    refine lv_pop hx hb d_law_895 rfl ?_
    refine lv_aload_n hx hb d_law_896 rfl (lv_at hl 2 rfl) ?_
    refine lv_aload_n hx hb d_law_897 rfl (lv_at hl 0 rfl) ?_
    refine lv_iload hx hb d_law_898 (lv_at hl 4 rfl) ?_
    refine lv_iconst (v := 1) hx hb d_law_900 (by decide) ?_
    refine lv_iadd hx hb d_law_901 ?_
    refine lv_topi (fun v_37 ev_37 => ?_)
    have qv_37 := z_idx (k := 1) hi hL ev_37 li_1 (by decide)
    refine va_sld hx hb hX hbl hbA hS (i := v_37) qv_37 d_law_902 ?_
    refine lv_topi (fun v_38 ev_38 => ?_)
    refine lv_aload_n hx hb d_law_903 rfl (lv_at hl 0 rfl) ?_
    refine lv_iload hx hb d_law_904 (lv_at hl 4 rfl) ?_
    refine lv_iconst (v := 2) hx hb d_law_906 (by decide) ?_
    refine lv_iadd hx hb d_law_907 ?_
    refine lv_topi (fun v_39 ev_39 => ?_)
    have qv_39 := z_idx (k := 2) hi hL ev_39 li_2 (by decide)
    refine va_sld hx hb hX hbl hbA hS (i := v_39) qv_39 d_law_908 ?_
    refine lv_topi (fun v_40 ev_40 => ?_)
    refine lv_aload_n hx hb d_law_909 rfl (lv_at hl 0 rfl) ?_
    refine lv_iload hx hb d_law_910 (lv_at hl 4 rfl) ?_
    refine lv_iconst (v := 3) hx hb d_law_912 (by decide) ?_
    refine lv_iadd hx hb d_law_913 ?_
    refine lv_topi (fun v_41 ev_41 => ?_)
    have qv_41 := z_idx (k := 3) hi hL ev_41 li_3 (by decide)
    refine va_sld hx hb hX hbl hbA hS (i := v_41) qv_41 d_law_914 ?_
    refine lv_topi (fun v_42 ev_42 => ?_)
    refine lv_if_eq (tgt := 922) hx hb d_law_915 (by decide) (fun _ => ?_) (fun _ => ?_)
    · refine lv_iconst (v := 0) hx hb d_law_922 (by decide) ?_
      obtain ⟨fs_43, hat_44⟩ := zb_Mo_at hm0
      refine z_callV (index := 119) (As := [.int v_38, .int v_40, .int 0]) (rest := []) (wr := []) Z ((m_held l G mA (v_38) (v_40) (0) (zI.wk (l' := 0) (h' := 1) zc_0 (by decide)) (nu0) (xt0) (ro0) (ke0) (ik0) (un0) (tb0) m0 hm0).mid2 [(zo, .inl (G.2 1, 1, .inr (.inl f0)))] w_35 []) hl.1 q1615 q1616 q1617 q14 q1618 ⟨by decide, by decide, by show _ = some 3; decide +kernel⟩ ⟨Nat.le_of_ble_eq_true rfl, Nat.le_of_ble_eq_true rfl⟩ (show cells + 0 ≤ 601024 ∧ slots + 0 ≤ 7293034 from ⟨by omega, by omega⟩) rfl (Nat.le_of_ble_eq_true rfl) d_law_923 hP hD hS hA _ 12 (zw_at2 (a := [(zo, .inl (G.2 1, 1, .inr (.inl f0)))]) (x := w_35) (b := []) hat_44) rfl rfl (List.range _) [] (zw_range _) rfl (zw_nd _) rfl (by intro i h9; cases h9) (fun v w1 H locs hw_45 hP hD hS => ?_)
      obtain ⟨w_47, ⟨x_46, ⟨rfl⟩, hm_48⟩, rfl⟩ := hw_45
      have hP : va_P G.1 classes (zap [(zo, .inl (G.2 1, 1, .inr (.inl f0)))] (zap w_35 (zap w_47 []))) H := hP
      have hD : va_D (fun q : Nat => s.heap.size ≤ q) (zap [(zo, .inl (G.2 1, 1, .inr (.inl f0)))] (zap w_35 (zap w_47 []))) := hD
      refine W.widen (k := cells + 0) (n := slots + 0) (show cells + 0 ≤ cells + 0 from Nat.le_refl _) (show slots + 0 ≤ slots + 0 from Nat.le_refl _) ?_
      refine lv_pop hx hb d_law_926 rfl ?_
      refine lv_goto (tgt := 1067) hx hb d_law_927 (by decide) ?_
      refine W.widen (k := cells + 5) (n := slots + 520) (by omega) (by omega) ?_
      exact kk _ _ _ _ _ _ _ _ _ _ _ _ _ _ _ _ _ _ _ _ _ _ _ _ _ _ _ _ _ hx_36 hm_48 hR0 hP hD hS (lv_sub hl [0, 1, 2, 3, 4] rfl)
    · refine lv_iconst (v := 1) hx hb d_law_918 (by decide) ?_
      refine lv_goto (tgt := 923) hx hb d_law_919 (by decide) ?_
      obtain ⟨fs_49, hat_50⟩ := zb_Mo_at hm0
      refine z_callV (index := 119) (As := [.int v_38, .int v_40, .int 1]) (rest := []) (wr := []) Z ((m_held l G mA (v_38) (v_40) (1) (zI.wk (l' := 0) (h' := 1) zc_1 (by decide)) (nu0) (xt0) (ro0) (ke0) (ik0) (un0) (tb0) m0 hm0).mid2 [(zo, .inl (G.2 1, 1, .inr (.inl f0)))] w_35 []) hl.1 q1615 q1616 q1617 q14 q1618 ⟨by decide, by decide, by show _ = some 3; decide +kernel⟩ ⟨Nat.le_of_ble_eq_true rfl, Nat.le_of_ble_eq_true rfl⟩ (show cells + 0 ≤ 601024 ∧ slots + 0 ≤ 7293034 from ⟨by omega, by omega⟩) rfl (Nat.le_of_ble_eq_true rfl) d_law_923 hP hD hS hA _ 12 (zw_at2 (a := [(zo, .inl (G.2 1, 1, .inr (.inl f0)))]) (x := w_35) (b := []) hat_50) rfl rfl (List.range _) [] (zw_range _) rfl (zw_nd _) rfl (by intro i h9; cases h9) (fun v w1 H locs hw_51 hP hD hS => ?_)
      obtain ⟨w_53, ⟨x_52, ⟨rfl⟩, hm_54⟩, rfl⟩ := hw_51
      have hP : va_P G.1 classes (zap [(zo, .inl (G.2 1, 1, .inr (.inl f0)))] (zap w_35 (zap w_53 []))) H := hP
      have hD : va_D (fun q : Nat => s.heap.size ≤ q) (zap [(zo, .inl (G.2 1, 1, .inr (.inl f0)))] (zap w_35 (zap w_53 []))) := hD
      refine W.widen (k := cells + 0) (n := slots + 0) (show cells + 0 ≤ cells + 0 from Nat.le_refl _) (show slots + 0 ≤ slots + 0 from Nat.le_refl _) ?_
      refine lv_pop hx hb d_law_926 rfl ?_
      refine lv_goto (tgt := 1067) hx hb d_law_927 (by decide) ?_
      refine W.widen (k := cells + 5) (n := slots + 520) (by omega) (by omega) ?_
      exact kk _ _ _ _ _ _ _ _ _ _ _ _ _ _ _ _ _ _ _ _ _ _ _ _ _ _ _ _ _ hx_36 hm_54 hR0 hP hD hS (lv_sub hl [0, 1, 2, 3, 4] rfl)
set_option maxHeartbeats 4000000 in
set_option maxRecDepth 100000 in
theorem law_23 {p : Program} {e : Env} {s : State} {m : MethodId} {below : List Frame} {meth : Method} {c : Code} (l : Launch) {b L : Nat} {xs : Nat → Int32} {G : zG} (hL : L ≤ 2560) (Z : zC p s m #[Value.ref b] meth c code 7 "TraceMachinesLaw" G) (hr : meth.sig.returnType = ret) (hX : va_X b L xs s s.heap) (hbl : b < s.heap.size)  {i : Int32} {cells slots : Nat} (hroom : cells + 5 ≤ 601024 ∧ slots + 520 ≤ 7293034) (hi : 0 ≤ i.toInt ∧ i.toInt + 5 ≤ (L : Int)) {xX xText xNow xRead xPast xKept xTree xFol xMs xTree2 xMa2 xRun xRan xWo xPa xCo xPr xOd xFi xM0 xM1 xM2 xM3 mA zo : Nat} {tn : Int32} {sg : Nat → Int32} {s0 : Bool} {s1 : Bool} {pn : Int32} {pc : Int32} {P : Nat → Nat → Int32} {K0 : Nat → Int32} {K1 : Nat → Int32} {Rd : Nat → Int32} {n : Int32} {d : Int32} {mg : Int32} {L : Nat → Int32} {F : Nat → Int32} {V : Nat → Int32} {f0 : Nat → Int64} {x0 m0 : va_W} {nu0 : Int32} {xt0 : Int32} {ro0 : Nat → Int32} {ke0 : Nat → Int32} {ik0 : Nat → Int32} {un0 : Nat → Int32} {tb0 : Nat → Int32} {H : Heap} {locs : List Loc} {ls : Array Slot} (hx0 : XS G xX xText xNow xRead xPast xKept xTree xFol xMs xTree2 xMa2 xRun xRan xWo xPa xCo xPr xOd xFi xM0 xM1 xM2 xM3 True tn sg s0 s1 pn pc P K0 K1 Rd n d mg L F V x0) (hm0 : zb_Mo G mA nu0 xt0 ro0 ke0 ik0 un0 tb0 m0) (hR0 : zRL (tn) (sg) (s0) (s1) (pn) (pc) (P) (K0) (K1) (zrow (n) (d) (mg) (L) (F) (V)) (xt0) (tb0) (ik0) (ro0) (un0) (ke0) (nu0)) (hP : va_P G.1 classes (zap [(zo, .inl (G.2 1, 1, .inr (.inl f0)))] (zap x0 (zap m0 []))) H) (hD : va_D (fun q : Nat => s.heap.size ≤ q) (zap [(zo, .inl (G.2 1, 1, .inr (.inl f0)))] (zap x0 (zap m0 [])))) (hS : va_S (fun q : Nat => s.heap.size ≤ q) s.heap H locs) (hl : lv_has ls 7 [(0, .ref b), (1, .ref xX), (2, .ref mA), (3, .ref zo), (4, .int i)]) (kk : ∀ (f1 : Nat → Int64) (x1 m1 : va_W) (nu_1 : Int32) (xt_1 : Int32) (ro_1 : Nat → Int32) (ke_1 : Nat → Int32) (ik_1 : Nat → Int32) (un_1 : Nat → Int32) (tb_1 : Nat → Int32) (tn_1 : Int32) (sg_1 : Nat → Int32) (s0_1 : Bool) (s1_1 : Bool) (pn_1 : Int32) (pc_1 : Int32) (P_1 : Nat → Nat → Int32) (K0_1 : Nat → Int32) (K1_1 : Nat → Int32) (Rd_1 : Nat → Int32) (n_1 : Int32) (d_1 : Int32) (mg_1 : Int32) (L_1 : Nat → Int32) (F_1 : Nat → Int32) (V_1 : Nat → Int32) (H : Heap) (locs : List Loc) (ls : Array Slot), XS G xX xText xNow xRead xPast xKept xTree xFol xMs xTree2 xMa2 xRun xRan xWo xPa xCo xPr xOd xFi xM0 xM1 xM2 xM3 True tn_1 sg_1 s0_1 s1_1 pn_1 pc_1 P_1 K0_1 K1_1 Rd_1 n_1 d_1 mg_1 L_1 F_1 V_1 x1 → zb_Mo G mA nu_1 xt_1 ro_1 ke_1 ik_1 un_1 tb_1 m1 → zRL (tn_1) (sg_1) (s0_1) (s1_1) (pn_1) (pc_1) (P_1) (K0_1) (K1_1) (zrow (n_1) (d_1) (mg_1) (L_1) (F_1) (V_1)) (xt_1) (tb_1) (ik_1) (ro_1) (un_1) (ke_1) (nu_1) → va_P G.1 classes (zap [(zo, .inl (G.2 1, 1, .inr (.inl f1)))] (zap x1 (zap m1 []))) H → va_D (fun q : Nat => s.heap.size ≤ q) (zap [(zo, .inl (G.2 1, 1, .inr (.inl f1)))] (zap x1 (zap m1 []))) → va_S (fun q : Nat => s.heap.size ≤ q) s.heap H locs → lv_has ls 7 [(0, .ref b), (1, .ref xX), (2, .ref mA), (3, .ref zo), (4, .int i)] → W p l e room_1 s m #[Value.ref b] below meth c H locs (cells + 5) (slots + 520) (lw_Z below #[Value.ref b] s) (F0 m 1067 ls [])) : W p l e room_1 s m #[Value.ref b] below meth c H locs cells slots (lw_Z below #[Value.ref b] s) (F0 m 930 ls []) := by
  obtain ⟨hx, hb, hml, hown, hts, hK, hN, hlocks⟩ := id Z
  have hbA : ¬ (fun q : Nat => s.heap.size ≤ q) b := Nat.not_le.mpr hbl
  have hA : ∀ q : Nat, s.heap.size ≤ q → (fun q : Nat => s.heap.size ≤ q) q := fun _ h => h
  refine lv_aload_n hx hb d_law_930 rfl (lv_at hl 1 rfl) ?_
  refine lv_aload_n hx hb d_law_931 rfl (lv_at hl 0 rfl) ?_
  refine lv_iload hx hb d_law_932 (lv_at hl 4 rfl) ?_
  refine lv_iconst (v := 1) hx hb d_law_934 (by decide) ?_
  refine lv_iadd hx hb d_law_935 ?_
  refine lv_topi (fun v_1 ev_1 => ?_)
  have qv_1 := z_idx (k := 1) hi hL ev_1 li_1 (by decide)
  refine va_sld hx hb hX hbl hbA hS (i := v_1) qv_1 d_law_936 ?_
  refine lv_topi (fun v_2 ev_2 => ?_)
  refine lv_aload_n hx hb d_law_937 rfl (lv_at hl 0 rfl) ?_
  refine lv_iload hx hb d_law_938 (lv_at hl 4 rfl) ?_
  refine lv_iconst (v := 2) hx hb d_law_940 (by decide) ?_
  refine lv_iadd hx hb d_law_941 ?_
  refine lv_topi (fun v_3 ev_3 => ?_)
  have qv_3 := z_idx (k := 2) hi hL ev_3 li_2 (by decide)
  refine va_sld hx hb hX hbl hbA hS (i := v_3) qv_3 d_law_942 ?_
  refine lv_topi (fun v_4 ev_4 => ?_)
  obtain ⟨fs_5, hat_6⟩ := XS_at hx0
  refine z_callV (index := 120) (As := [.int v_2, .int v_4]) (rest := []) (wr := []) Z ((x_fit l G xX xText xNow xRead xPast xKept xTree xFol xMs xTree2 xMa2 xRun xRan xWo xPa xCo xPr xOd xFi xM0 xM1 xM2 xM3 (v_2) (v_4) (tn) (sg) (s0) (s1) (pn) (pc) (P) (K0) (K1) (Rd) (n) (d) (mg) (L) (F) (V) x0 hx0).mid [(zo, .inl (G.2 1, 1, .inr (.inl f0)))] (zap m0 [])) hl.1 q994 q995 q996 q1 q997 ⟨by decide, by decide, by show _ = some 2; decide +kernel⟩ ⟨Nat.le_of_ble_eq_true rfl, Nat.le_of_ble_eq_true rfl⟩ (show cells + 0 ≤ 601024 ∧ slots + 0 ≤ 7293034 from ⟨by omega, by omega⟩) rfl (Nat.le_of_ble_eq_true rfl) d_law_943 hP hD hS hA 1 0 (zw_at1 (a := [(zo, .inl (G.2 1, 1, .inr (.inl f0)))]) (b := zap m0 []) hat_6) rfl rfl (List.range _) [] (zw_range _) rfl (zw_nd _) rfl (by intro i h9; cases h9) (fun v w1 H locs hw_7 hP hD hS => ?_)
  obtain ⟨w_9, ⟨x_8, rfl, hx_10⟩, rfl⟩ := hw_7
  have hP : va_P G.1 classes (zap [(zo, .inl (G.2 1, 1, .inr (.inl f0)))] (zap w_9 (zap m0 []))) H := hP
  have hD : va_D (fun q : Nat => s.heap.size ≤ q) (zap [(zo, .inl (G.2 1, 1, .inr (.inl f0)))] (zap w_9 (zap m0 []))) := hD
  refine W.widen (k := cells + 0) (n := slots + 0) (show cells + 0 ≤ cells + 0 from Nat.le_refl _) (show slots + 0 ≤ slots + 0 from Nat.le_refl _) ?_
  refine lv_pop hx hb d_law_946 rfl ?_
  refine lv_aload_n hx hb d_law_947 rfl (lv_at hl 2 rfl) ?_
  refine lv_aload_n hx hb d_law_948 rfl (lv_at hl 0 rfl) ?_
  refine lv_iload hx hb d_law_949 (lv_at hl 4 rfl) ?_
  refine lv_iconst (v := 1) hx hb d_law_951 (by decide) ?_
  refine lv_iadd hx hb d_law_952 ?_
  refine lv_topi (fun v_11 ev_11 => ?_)
  have qv_11 := z_idx (k := 1) hi hL ev_11 li_1 (by decide)
  refine va_sld hx hb hX hbl hbA hS (i := v_11) qv_11 d_law_953 ?_
  refine lv_topi (fun v_12 ev_12 => ?_)
  refine lv_aload_n hx hb d_law_954 rfl (lv_at hl 0 rfl) ?_
  refine lv_iload hx hb d_law_955 (lv_at hl 4 rfl) ?_
  refine lv_iconst (v := 2) hx hb d_law_957 (by decide) ?_
  refine lv_iadd hx hb d_law_958 ?_
  refine lv_topi (fun v_13 ev_13 => ?_)
  have qv_13 := z_idx (k := 2) hi hL ev_13 li_2 (by decide)
  refine va_sld hx hb hX hbl hbA hS (i := v_13) qv_13 d_law_959 ?_
  refine lv_topi (fun v_14 ev_14 => ?_)
  obtain ⟨fs_15, hat_16⟩ := zb_Mo_at hm0
  refine z_callV (index := 123) (As := [.int v_12, .int v_14]) (rest := []) (wr := []) Z ((m_fit l G mA (v_12) (v_14)  (nu0) (xt0) (ro0) (ke0) (ik0) (un0) (tb0) m0 hm0).mid2 [(zo, .inl (G.2 1, 1, .inr (.inl f0)))] w_9 []) hl.1 q1627 q1628 q1629 q14 q1630 ⟨by decide, by decide, by show _ = some 2; decide +kernel⟩ ⟨Nat.le_of_ble_eq_true rfl, Nat.le_of_ble_eq_true rfl⟩ (show cells + 0 ≤ 601024 ∧ slots + 0 ≤ 7293034 from ⟨by omega, by omega⟩) rfl (Nat.le_of_ble_eq_true rfl) d_law_960 hP hD hS hA _ 12 (zw_at2 (a := [(zo, .inl (G.2 1, 1, .inr (.inl f0)))]) (x := w_9) (b := []) hat_16) rfl rfl (List.range _) [] (zw_range _) rfl (zw_nd _) rfl (by intro i h9; cases h9) (fun v w1 H locs hw_17 hP hD hS => ?_)
  obtain ⟨w_19, ⟨x_18, ⟨rfl⟩, hm_20⟩, rfl⟩ := hw_17
  have hP : va_P G.1 classes (zap [(zo, .inl (G.2 1, 1, .inr (.inl f0)))] (zap w_9 (zap w_19 []))) H := hP
  have hD : va_D (fun q : Nat => s.heap.size ≤ q) (zap [(zo, .inl (G.2 1, 1, .inr (.inl f0)))] (zap w_9 (zap w_19 []))) := hD
  refine W.widen (k := cells + 0) (n := slots + 0) (show cells + 0 ≤ cells + 0 from Nat.le_refl _) (show slots + 0 ≤ slots + 0 from Nat.le_refl _) ?_
  refine lv_pop hx hb d_law_963 rfl ?_
  refine lv_goto (tgt := 1067) hx hb d_law_964 (by decide) ?_
  refine W.widen (k := cells + 5) (n := slots + 520) (by omega) (by omega) ?_
  exact kk _ _ _ _ _ _ _ _ _ _ _ _ _ _ _ _ _ _ _ _ _ _ _ _ _ _ _ _ _ hx_10 hm_20 hR0 hP hD hS (lv_sub hl [0, 1, 2, 3, 4] rfl)
set_option maxHeartbeats 4000000 in
set_option maxRecDepth 100000 in
theorem law_24 {p : Program} {e : Env} {s : State} {m : MethodId} {below : List Frame} {meth : Method} {c : Code} (l : Launch) {b L : Nat} {xs : Nat → Int32} {G : zG} (hL : L ≤ 2560) (Z : zC p s m #[Value.ref b] meth c code 7 "TraceMachinesLaw" G) (hr : meth.sig.returnType = ret) (hX : va_X b L xs s s.heap) (hbl : b < s.heap.size)  {i : Int32} {cells slots : Nat} (hroom : cells + 5 ≤ 601024 ∧ slots + 520 ≤ 7293034) (hi : 0 ≤ i.toInt ∧ i.toInt + 5 ≤ (L : Int)) {xX xText xNow xRead xPast xKept xTree xFol xMs xTree2 xMa2 xRun xRan xWo xPa xCo xPr xOd xFi xM0 xM1 xM2 xM3 mA zo : Nat} {tn : Int32} {sg : Nat → Int32} {s0 : Bool} {s1 : Bool} {pn : Int32} {pc : Int32} {P : Nat → Nat → Int32} {K0 : Nat → Int32} {K1 : Nat → Int32} {Rd : Nat → Int32} {n : Int32} {d : Int32} {mg : Int32} {L : Nat → Int32} {F : Nat → Int32} {V : Nat → Int32} {f0 : Nat → Int64} {x0 m0 : va_W} {nu0 : Int32} {xt0 : Int32} {ro0 : Nat → Int32} {ke0 : Nat → Int32} {ik0 : Nat → Int32} {un0 : Nat → Int32} {tb0 : Nat → Int32} {H : Heap} {locs : List Loc} {ls : Array Slot} (hx0 : XS G xX xText xNow xRead xPast xKept xTree xFol xMs xTree2 xMa2 xRun xRan xWo xPa xCo xPr xOd xFi xM0 xM1 xM2 xM3 True tn sg s0 s1 pn pc P K0 K1 Rd n d mg L F V x0) (hm0 : zb_Mo G mA nu0 xt0 ro0 ke0 ik0 un0 tb0 m0) (hR0 : zRL (tn) (sg) (s0) (s1) (pn) (pc) (P) (K0) (K1) (zrow (n) (d) (mg) (L) (F) (V)) (xt0) (tb0) (ik0) (ro0) (un0) (ke0) (nu0)) (hP : va_P G.1 classes (zap [(zo, .inl (G.2 1, 1, .inr (.inl f0)))] (zap x0 (zap m0 []))) H) (hD : va_D (fun q : Nat => s.heap.size ≤ q) (zap [(zo, .inl (G.2 1, 1, .inr (.inl f0)))] (zap x0 (zap m0 [])))) (hS : va_S (fun q : Nat => s.heap.size ≤ q) s.heap H locs) (hl : lv_has ls 7 [(0, .ref b), (1, .ref xX), (2, .ref mA), (3, .ref zo), (4, .int i)]) (kk : ∀ (f1 : Nat → Int64) (x1 m1 : va_W) (nu_1 : Int32) (xt_1 : Int32) (ro_1 : Nat → Int32) (ke_1 : Nat → Int32) (ik_1 : Nat → Int32) (un_1 : Nat → Int32) (tb_1 : Nat → Int32) (tn_1 : Int32) (sg_1 : Nat → Int32) (s0_1 : Bool) (s1_1 : Bool) (pn_1 : Int32) (pc_1 : Int32) (P_1 : Nat → Nat → Int32) (K0_1 : Nat → Int32) (K1_1 : Nat → Int32) (Rd_1 : Nat → Int32) (n_1 : Int32) (d_1 : Int32) (mg_1 : Int32) (L_1 : Nat → Int32) (F_1 : Nat → Int32) (V_1 : Nat → Int32) (H : Heap) (locs : List Loc) (ls : Array Slot), XS G xX xText xNow xRead xPast xKept xTree xFol xMs xTree2 xMa2 xRun xRan xWo xPa xCo xPr xOd xFi xM0 xM1 xM2 xM3 True tn_1 sg_1 s0_1 s1_1 pn_1 pc_1 P_1 K0_1 K1_1 Rd_1 n_1 d_1 mg_1 L_1 F_1 V_1 x1 → zb_Mo G mA nu_1 xt_1 ro_1 ke_1 ik_1 un_1 tb_1 m1 → zRL (tn_1) (sg_1) (s0_1) (s1_1) (pn_1) (pc_1) (P_1) (K0_1) (K1_1) (zrow (n_1) (d_1) (mg_1) (L_1) (F_1) (V_1)) (xt_1) (tb_1) (ik_1) (ro_1) (un_1) (ke_1) (nu_1) → va_P G.1 classes (zap [(zo, .inl (G.2 1, 1, .inr (.inl f1)))] (zap x1 (zap m1 []))) H → va_D (fun q : Nat => s.heap.size ≤ q) (zap [(zo, .inl (G.2 1, 1, .inr (.inl f1)))] (zap x1 (zap m1 []))) → va_S (fun q : Nat => s.heap.size ≤ q) s.heap H locs → lv_has ls 7 [(0, .ref b), (1, .ref xX), (2, .ref mA), (3, .ref zo), (4, .int i)] → W p l e room_1 s m #[Value.ref b] below meth c H locs (cells + 5) (slots + 520) (lw_Z below #[Value.ref b] s) (F0 m 1067 ls [])) : W p l e room_1 s m #[Value.ref b] below meth c H locs cells slots (lw_Z below #[Value.ref b] s) (F0 m 967 ls []) := by
  obtain ⟨hx, hb, hml, hown, hts, hK, hN, hlocks⟩ := id Z
  have hbA : ¬ (fun q : Nat => s.heap.size ≤ q) b := Nat.not_le.mpr hbl
  have hA : ∀ q : Nat, s.heap.size ≤ q → (fun q : Nat => s.heap.size ≤ q) q := fun _ h => h
  refine lv_aload_n hx hb d_law_967 rfl (lv_at hl 1 rfl) ?_
  refine lv_aload_n hx hb d_law_968 rfl (lv_at hl 0 rfl) ?_
  refine lv_iload hx hb d_law_969 (lv_at hl 4 rfl) ?_
  refine lv_iconst (v := 1) hx hb d_law_971 (by decide) ?_
  refine lv_iadd hx hb d_law_972 ?_
  refine lv_topi (fun v_1 ev_1 => ?_)
  have qv_1 := z_idx (k := 1) hi hL ev_1 li_1 (by decide)
  refine va_sld hx hb hX hbl hbA hS (i := v_1) qv_1 d_law_973 ?_
  refine lv_topi (fun v_2 ev_2 => ?_)
  obtain ⟨fs_3, hat_4⟩ := XS_at hx0
  refine z_callV (index := 124) (As := [.int v_2]) (rest := []) (wr := []) Z ((x_best l G xX xText xNow xRead xPast xKept xTree xFol xMs xTree2 xMa2 xRun xRan xWo xPa xCo xPr xOd xFi xM0 xM1 xM2 xM3 (v_2) (tn) (sg) (s0) (s1) (pn) (pc) (P) (K0) (K1) (Rd) (n) (d) (mg) (L) (F) (V) x0 hx0).mid [(zo, .inl (G.2 1, 1, .inr (.inl f0)))] (zap m0 [])) hl.1 q1002 q1003 q1004 q1 q1005 ⟨by decide, by decide, by show _ = some 1; decide +kernel⟩ ⟨Nat.le_of_ble_eq_true rfl, Nat.le_of_ble_eq_true rfl⟩ (show cells + 0 ≤ 601024 ∧ slots + 0 ≤ 7293034 from ⟨by omega, by omega⟩) rfl (Nat.le_of_ble_eq_true rfl) d_law_974 hP hD hS hA 1 0 (zw_at1 (a := [(zo, .inl (G.2 1, 1, .inr (.inl f0)))]) (b := zap m0 []) hat_4) rfl rfl (List.range _) [] (zw_range _) rfl (zw_nd _) rfl (by intro i h9; cases h9) (fun v w1 H locs hw_5 hP hD hS => ?_)
  obtain ⟨w_7, ⟨x_6, rfl, hx_8⟩, rfl⟩ := hw_5
  have hP : va_P G.1 classes (zap [(zo, .inl (G.2 1, 1, .inr (.inl f0)))] (zap w_7 (zap m0 []))) H := hP
  have hD : va_D (fun q : Nat => s.heap.size ≤ q) (zap [(zo, .inl (G.2 1, 1, .inr (.inl f0)))] (zap w_7 (zap m0 []))) := hD
  refine W.widen (k := cells + 0) (n := slots + 0) (show cells + 0 ≤ cells + 0 from Nat.le_refl _) (show slots + 0 ≤ slots + 0 from Nat.le_refl _) ?_
  refine lv_pop hx hb d_law_977 rfl ?_
  refine lv_aload_n hx hb d_law_978 rfl (lv_at hl 2 rfl) ?_
  refine lv_aload_n hx hb d_law_979 rfl (lv_at hl 0 rfl) ?_
  refine lv_iload hx hb d_law_980 (lv_at hl 4 rfl) ?_
  refine lv_iconst (v := 1) hx hb d_law_982 (by decide) ?_
  refine lv_iadd hx hb d_law_983 ?_
  refine lv_topi (fun v_9 ev_9 => ?_)
  have qv_9 := z_idx (k := 1) hi hL ev_9 li_1 (by decide)
  refine va_sld hx hb hX hbl hbA hS (i := v_9) qv_9 d_law_984 ?_
  refine lv_topi (fun v_10 ev_10 => ?_)
  obtain ⟨fs_11, hat_12⟩ := zb_Mo_at hm0
  refine z_callV (index := 127) (As := [.int v_10]) (rest := []) (wr := []) Z ((m_best l G mA (v_10)  (nu0) (xt0) (ro0) (ke0) (ik0) (un0) (tb0) m0 hm0).mid2 [(zo, .inl (G.2 1, 1, .inr (.inl f0)))] w_7 []) hl.1 q1635 q1636 q1637 q14 q1638 ⟨by decide, by decide, by show _ = some 1; decide +kernel⟩ ⟨Nat.le_of_ble_eq_true rfl, Nat.le_of_ble_eq_true rfl⟩ (show cells + 0 ≤ 601024 ∧ slots + 0 ≤ 7293034 from ⟨by omega, by omega⟩) rfl (Nat.le_of_ble_eq_true rfl) d_law_985 hP hD hS hA _ 12 (zw_at2 (a := [(zo, .inl (G.2 1, 1, .inr (.inl f0)))]) (x := w_7) (b := []) hat_12) rfl rfl (List.range _) [] (zw_range _) rfl (zw_nd _) rfl (by intro i h9; cases h9) (fun v w1 H locs hw_13 hP hD hS => ?_)
  obtain ⟨w_15, ⟨x_14, ⟨rfl⟩, hm_16⟩, rfl⟩ := hw_13
  have hP : va_P G.1 classes (zap [(zo, .inl (G.2 1, 1, .inr (.inl f0)))] (zap w_7 (zap w_15 []))) H := hP
  have hD : va_D (fun q : Nat => s.heap.size ≤ q) (zap [(zo, .inl (G.2 1, 1, .inr (.inl f0)))] (zap w_7 (zap w_15 []))) := hD
  refine W.widen (k := cells + 0) (n := slots + 0) (show cells + 0 ≤ cells + 0 from Nat.le_refl _) (show slots + 0 ≤ slots + 0 from Nat.le_refl _) ?_
  refine lv_pop hx hb d_law_988 rfl ?_
  refine lv_goto (tgt := 1067) hx hb d_law_989 (by decide) ?_
  refine W.widen (k := cells + 5) (n := slots + 520) (by omega) (by omega) ?_
  exact kk _ _ _ _ _ _ _ _ _ _ _ _ _ _ _ _ _ _ _ _ _ _ _ _ _ _ _ _ _ hx_8 hm_16 hR0 hP hD hS (lv_sub hl [0, 1, 2, 3, 4] rfl)
set_option maxHeartbeats 4000000 in
set_option maxRecDepth 100000 in
theorem law_25 {p : Program} {e : Env} {s : State} {m : MethodId} {below : List Frame} {meth : Method} {c : Code} (l : Launch) {b L : Nat} {xs : Nat → Int32} {G : zG} (hL : L ≤ 2560) (Z : zC p s m #[Value.ref b] meth c code 7 "TraceMachinesLaw" G) (hr : meth.sig.returnType = ret) (hX : va_X b L xs s s.heap) (hbl : b < s.heap.size)  {i : Int32} {cells slots : Nat} (hroom : cells + 5 ≤ 601024 ∧ slots + 520 ≤ 7293034) (hi : 0 ≤ i.toInt ∧ i.toInt + 5 ≤ (L : Int)) {xX xText xNow xRead xPast xKept xTree xFol xMs xTree2 xMa2 xRun xRan xWo xPa xCo xPr xOd xFi xM0 xM1 xM2 xM3 mA zo : Nat} {tn : Int32} {sg : Nat → Int32} {s0 : Bool} {s1 : Bool} {pn : Int32} {pc : Int32} {P : Nat → Nat → Int32} {K0 : Nat → Int32} {K1 : Nat → Int32} {Rd : Nat → Int32} {n : Int32} {d : Int32} {mg : Int32} {L : Nat → Int32} {F : Nat → Int32} {V : Nat → Int32} {f0 : Nat → Int64} {x0 m0 : va_W} {nu0 : Int32} {xt0 : Int32} {ro0 : Nat → Int32} {ke0 : Nat → Int32} {ik0 : Nat → Int32} {un0 : Nat → Int32} {tb0 : Nat → Int32} {H : Heap} {locs : List Loc} {ls : Array Slot} (hx0 : XS G xX xText xNow xRead xPast xKept xTree xFol xMs xTree2 xMa2 xRun xRan xWo xPa xCo xPr xOd xFi xM0 xM1 xM2 xM3 True tn sg s0 s1 pn pc P K0 K1 Rd n d mg L F V x0) (hm0 : zb_Mo G mA nu0 xt0 ro0 ke0 ik0 un0 tb0 m0) (hR0 : zRL (tn) (sg) (s0) (s1) (pn) (pc) (P) (K0) (K1) (zrow (n) (d) (mg) (L) (F) (V)) (xt0) (tb0) (ik0) (ro0) (un0) (ke0) (nu0)) (hP : va_P G.1 classes (zap [(zo, .inl (G.2 1, 1, .inr (.inl f0)))] (zap x0 (zap m0 []))) H) (hD : va_D (fun q : Nat => s.heap.size ≤ q) (zap [(zo, .inl (G.2 1, 1, .inr (.inl f0)))] (zap x0 (zap m0 [])))) (hS : va_S (fun q : Nat => s.heap.size ≤ q) s.heap H locs) (hl : lv_has ls 7 [(0, .ref b), (1, .ref xX), (2, .ref mA), (3, .ref zo), (4, .int i)]) (kk : ∀ (f1 : Nat → Int64) (x1 m1 : va_W) (nu_1 : Int32) (xt_1 : Int32) (ro_1 : Nat → Int32) (ke_1 : Nat → Int32) (ik_1 : Nat → Int32) (un_1 : Nat → Int32) (tb_1 : Nat → Int32) (tn_1 : Int32) (sg_1 : Nat → Int32) (s0_1 : Bool) (s1_1 : Bool) (pn_1 : Int32) (pc_1 : Int32) (P_1 : Nat → Nat → Int32) (K0_1 : Nat → Int32) (K1_1 : Nat → Int32) (Rd_1 : Nat → Int32) (n_1 : Int32) (d_1 : Int32) (mg_1 : Int32) (L_1 : Nat → Int32) (F_1 : Nat → Int32) (V_1 : Nat → Int32) (H : Heap) (locs : List Loc) (ls : Array Slot), XS G xX xText xNow xRead xPast xKept xTree xFol xMs xTree2 xMa2 xRun xRan xWo xPa xCo xPr xOd xFi xM0 xM1 xM2 xM3 True tn_1 sg_1 s0_1 s1_1 pn_1 pc_1 P_1 K0_1 K1_1 Rd_1 n_1 d_1 mg_1 L_1 F_1 V_1 x1 → zb_Mo G mA nu_1 xt_1 ro_1 ke_1 ik_1 un_1 tb_1 m1 → zRL (tn_1) (sg_1) (s0_1) (s1_1) (pn_1) (pc_1) (P_1) (K0_1) (K1_1) (zrow (n_1) (d_1) (mg_1) (L_1) (F_1) (V_1)) (xt_1) (tb_1) (ik_1) (ro_1) (un_1) (ke_1) (nu_1) → va_P G.1 classes (zap [(zo, .inl (G.2 1, 1, .inr (.inl f1)))] (zap x1 (zap m1 []))) H → va_D (fun q : Nat => s.heap.size ≤ q) (zap [(zo, .inl (G.2 1, 1, .inr (.inl f1)))] (zap x1 (zap m1 []))) → va_S (fun q : Nat => s.heap.size ≤ q) s.heap H locs → lv_has ls 7 [(0, .ref b), (1, .ref xX), (2, .ref mA), (3, .ref zo), (4, .int i)] → W p l e room_1 s m #[Value.ref b] below meth c H locs (cells + 5) (slots + 520) (lw_Z below #[Value.ref b] s) (F0 m 1067 ls [])) : W p l e room_1 s m #[Value.ref b] below meth c H locs cells slots (lw_Z below #[Value.ref b] s) (F0 m 992 ls []) := by
  obtain ⟨hx, hb, hml, hown, hts, hK, hN, hlocks⟩ := id Z
  have hbA : ¬ (fun q : Nat => s.heap.size ≤ q) b := Nat.not_le.mpr hbl
  have hA : ∀ q : Nat, s.heap.size ≤ q → (fun q : Nat => s.heap.size ≤ q) q := fun _ h => h
  refine lv_aload_n hx hb d_law_992 rfl (lv_at hl 1 rfl) ?_
  refine lv_aload_n hx hb d_law_993 rfl (lv_at hl 0 rfl) ?_
  refine lv_iload hx hb d_law_994 (lv_at hl 4 rfl) ?_
  refine lv_iconst (v := 1) hx hb d_law_996 (by decide) ?_
  refine lv_iadd hx hb d_law_997 ?_
  refine lv_topi (fun v_1 ev_1 => ?_)
  have qv_1 := z_idx (k := 1) hi hL ev_1 li_1 (by decide)
  refine va_sld hx hb hX hbl hbA hS (i := v_1) qv_1 d_law_998 ?_
  refine lv_topi (fun v_2 ev_2 => ?_)
  cases s0 with
  | false =>
    cases s1 with
    | false =>
      obtain ⟨fs_3, hat_4⟩ := XS_at hx0
      refine z_callV (index := 128) (As := [.int v_2]) (rest := []) (wr := []) Z ((x_keep00 l G xX xText xNow xRead xPast xKept xTree xFol xMs xTree2 xMa2 xRun xRan xWo xPa xCo xPr xOd xFi xM0 xM1 xM2 xM3 (v_2) (tn) (sg) (pn) (pc) (P) (K0) (K1) (Rd) (n) (d) (mg) (L) (F) (V) x0 hx0).mid [(zo, .inl (G.2 1, 1, .inr (.inl f0)))] (zap m0 [])) hl.1 q1006 q1007 q1008 q1 q1009 ⟨by decide, by decide, by show _ = some 1; decide +kernel⟩ ⟨Nat.le_of_ble_eq_true rfl, Nat.le_of_ble_eq_true rfl⟩ (show cells + 4 ≤ 601024 ∧ slots + 506 ≤ 7293034 from ⟨by omega, by omega⟩) rfl (Nat.le_of_ble_eq_true rfl) d_law_999 hP hD hS hA 1 0 (zw_at1 (a := [(zo, .inl (G.2 1, 1, .inr (.inl f0)))]) (b := zap m0 []) hat_4) rfl rfl (List.range _) [] (zw_range _) rfl (zw_nd _) rfl (by intro i h9; cases h9) (fun v w1 H locs hw_5 hP hD hS => ?_)
      obtain ⟨w_11, ⟨x_6, x_7, x_8, x_9, x_10, rfl, hx_12, hf_13, hf_14, hf_15, hf_16, hf_17, hf_18, hf_19, hf_20⟩, rfl⟩ := hw_5
      have hP : va_P G.1 classes (zap [(zo, .inl (G.2 1, 1, .inr (.inl f0)))] (zap w_11 (zap m0 []))) H := hP
      have hD : va_D (fun q : Nat => s.heap.size ≤ q) (zap [(zo, .inl (G.2 1, 1, .inr (.inl f0)))] (zap w_11 (zap m0 []))) := hD
      refine W.widen (k := cells + 4) (n := slots + 506) (show cells + 4 ≤ cells + 4 from Nat.le_refl _) (show slots + 506 ≤ slots + 506 from Nat.le_refl _) ?_
      refine lv_pop hx hb d_law_1002 rfl ?_
      refine lv_aload_n hx hb d_law_1003 rfl (lv_at hl 2 rfl) ?_
      refine lv_aload_n hx hb d_law_1004 rfl (lv_at hl 0 rfl) ?_
      refine lv_iload hx hb d_law_1005 (lv_at hl 4 rfl) ?_
      refine lv_iconst (v := 1) hx hb d_law_1007 (by decide) ?_
      refine lv_iadd hx hb d_law_1008 ?_
      refine lv_topi (fun v_21 ev_21 => ?_)
      have qv_21 := z_idx (k := 1) hi hL ev_21 li_1 (by decide)
      refine va_sld hx hb hX hbl hbA hS (i := v_21) qv_21 d_law_1009 ?_
      refine lv_topi (fun v_22 ev_22 => ?_)
      obtain ⟨fs_23, hat_24⟩ := zb_Mo_at hm0
      refine z_callV (index := 131) (As := [.int v_22]) (rest := []) (wr := []) Z ((m_keep l G mA (v_22)  (nu0) (xt0) (ro0) (ke0) (ik0) (un0) (tb0) m0 hm0).mid2 [(zo, .inl (G.2 1, 1, .inr (.inl f0)))] w_11 []) hl.1 q1639 q1640 q1641 q14 q1642 ⟨by decide, by decide, by show _ = some 1; decide +kernel⟩ ⟨Nat.le_of_ble_eq_true rfl, Nat.le_of_ble_eq_true rfl⟩ (show cells + 4 ≤ 601024 ∧ slots + 506 ≤ 7293034 from ⟨by omega, by omega⟩) rfl (Nat.le_of_ble_eq_true rfl) d_law_1010 hP hD hS hA _ 12 (zw_at2 (a := [(zo, .inl (G.2 1, 1, .inr (.inl f0)))]) (x := w_11) (b := []) hat_24) rfl rfl (List.range _) [] (zw_range _) rfl (zw_nd _) rfl (by intro i h9; cases h9) (fun v w1 H locs hw_25 hP hD hS => ?_)
      obtain ⟨w_27, ⟨ke_35, ik_36, x_26, ⟨rfl, hf_29, hf_30, hf_31, hf_32, hf_33, hf_34⟩, hm_28⟩, rfl⟩ := hw_25
      have hP : va_P G.1 classes (zap [(zo, .inl (G.2 1, 1, .inr (.inl f0)))] (zap w_11 (zap w_27 []))) H := hP
      have hD : va_D (fun q : Nat => s.heap.size ≤ q) (zap [(zo, .inl (G.2 1, 1, .inr (.inl f0)))] (zap w_11 (zap w_27 []))) := hD
      refine W.widen (k := cells + 4) (n := slots + 506) (show cells + 4 ≤ cells + 4 from Nat.le_refl _) (show slots + 506 ≤ slots + 506 from Nat.le_refl _) ?_
      have hq9 : (x_6 : Int32).toInt = (x_26 : Int32).toInt ∧ zRL (tn) (sg) (x_7) (x_8) (pn) (pc) (P) (x_9) (x_10) (zrow (n) (d) (mg) (L) (F) (V)) (xt0) (tb0) (ik_36) (ro0) (un0) (ke_35) (nu0) := zRL_keep hR0 (zb_Mo_w hm0).1 (zb_Mo_w hm0).2.2 (ev_2.trans ((congrArg (fun z : Int32 => xs z.toNatClampNeg) (ev_1.trans ev_21.symm)).trans ev_22.symm)) hf_14 hf_15 hf_16 hf_17 hf_18 hf_19 hf_20 hf_30 hf_31 hf_32 hf_33 hf_34
      refine lv_pop hx hb d_law_1013 rfl ?_
      refine lv_goto (tgt := 1067) hx hb d_law_1014 (by decide) ?_
      refine W.widen (k := cells + 5) (n := slots + 520) (show cells + 4 ≤ cells + 5 by omega) (show slots + 506 ≤ slots + 520 by omega) ?_
      exact kk _ _ _ _ _ _ _ _ _ _ _ _ _ _ _ _ _ _ _ _ _ _ _ _ _ _ _ _ _ hx_12 hm_28 (hq9.2) hP hD hS (lv_sub hl [0, 1, 2, 3, 4] rfl)
    | true =>
      obtain ⟨fs_37, hat_38⟩ := XS_at hx0
      refine z_callV (index := 128) (As := [.int v_2]) (rest := []) (wr := []) Z ((x_keep01 l G xX xText xNow xRead xPast xKept xTree xFol xMs xTree2 xMa2 xRun xRan xWo xPa xCo xPr xOd xFi xM0 xM1 xM2 xM3 (v_2) (tn) (sg) (pn) (pc) (P) (K0) (K1) (Rd) (n) (d) (mg) (L) (F) (V) x0 hx0).mid [(zo, .inl (G.2 1, 1, .inr (.inl f0)))] (zap m0 [])) hl.1 q1006 q1007 q1008 q1 q1009 ⟨by decide, by decide, by show _ = some 1; decide +kernel⟩ ⟨Nat.le_of_ble_eq_true rfl, Nat.le_of_ble_eq_true rfl⟩ (show cells + 4 ≤ 601024 ∧ slots + 506 ≤ 7293034 from ⟨by omega, by omega⟩) rfl (Nat.le_of_ble_eq_true rfl) d_law_999 hP hD hS hA 1 0 (zw_at1 (a := [(zo, .inl (G.2 1, 1, .inr (.inl f0)))]) (b := zap m0 []) hat_38) rfl rfl (List.range _) [] (zw_range _) rfl (zw_nd _) rfl (by intro i h9; cases h9) (fun v w1 H locs hw_39 hP hD hS => ?_)
      obtain ⟨w_45, ⟨x_40, x_41, x_42, x_43, x_44, rfl, hx_46, hf_47, hf_48, hf_49, hf_50, hf_51, hf_52, hf_53, hf_54⟩, rfl⟩ := hw_39
      have hP : va_P G.1 classes (zap [(zo, .inl (G.2 1, 1, .inr (.inl f0)))] (zap w_45 (zap m0 []))) H := hP
      have hD : va_D (fun q : Nat => s.heap.size ≤ q) (zap [(zo, .inl (G.2 1, 1, .inr (.inl f0)))] (zap w_45 (zap m0 []))) := hD
      refine W.widen (k := cells + 4) (n := slots + 506) (show cells + 4 ≤ cells + 4 from Nat.le_refl _) (show slots + 506 ≤ slots + 506 from Nat.le_refl _) ?_
      refine lv_pop hx hb d_law_1002 rfl ?_
      refine lv_aload_n hx hb d_law_1003 rfl (lv_at hl 2 rfl) ?_
      refine lv_aload_n hx hb d_law_1004 rfl (lv_at hl 0 rfl) ?_
      refine lv_iload hx hb d_law_1005 (lv_at hl 4 rfl) ?_
      refine lv_iconst (v := 1) hx hb d_law_1007 (by decide) ?_
      refine lv_iadd hx hb d_law_1008 ?_
      refine lv_topi (fun v_55 ev_55 => ?_)
      have qv_55 := z_idx (k := 1) hi hL ev_55 li_1 (by decide)
      refine va_sld hx hb hX hbl hbA hS (i := v_55) qv_55 d_law_1009 ?_
      refine lv_topi (fun v_56 ev_56 => ?_)
      obtain ⟨fs_57, hat_58⟩ := zb_Mo_at hm0
      refine z_callV (index := 131) (As := [.int v_56]) (rest := []) (wr := []) Z ((m_keep l G mA (v_56)  (nu0) (xt0) (ro0) (ke0) (ik0) (un0) (tb0) m0 hm0).mid2 [(zo, .inl (G.2 1, 1, .inr (.inl f0)))] w_45 []) hl.1 q1639 q1640 q1641 q14 q1642 ⟨by decide, by decide, by show _ = some 1; decide +kernel⟩ ⟨Nat.le_of_ble_eq_true rfl, Nat.le_of_ble_eq_true rfl⟩ (show cells + 4 ≤ 601024 ∧ slots + 506 ≤ 7293034 from ⟨by omega, by omega⟩) rfl (Nat.le_of_ble_eq_true rfl) d_law_1010 hP hD hS hA _ 12 (zw_at2 (a := [(zo, .inl (G.2 1, 1, .inr (.inl f0)))]) (x := w_45) (b := []) hat_58) rfl rfl (List.range _) [] (zw_range _) rfl (zw_nd _) rfl (by intro i h9; cases h9) (fun v w1 H locs hw_59 hP hD hS => ?_)
      obtain ⟨w_61, ⟨ke_69, ik_70, x_60, ⟨rfl, hf_63, hf_64, hf_65, hf_66, hf_67, hf_68⟩, hm_62⟩, rfl⟩ := hw_59
      have hP : va_P G.1 classes (zap [(zo, .inl (G.2 1, 1, .inr (.inl f0)))] (zap w_45 (zap w_61 []))) H := hP
      have hD : va_D (fun q : Nat => s.heap.size ≤ q) (zap [(zo, .inl (G.2 1, 1, .inr (.inl f0)))] (zap w_45 (zap w_61 []))) := hD
      refine W.widen (k := cells + 4) (n := slots + 506) (show cells + 4 ≤ cells + 4 from Nat.le_refl _) (show slots + 506 ≤ slots + 506 from Nat.le_refl _) ?_
      have hq9 : (x_40 : Int32).toInt = (x_60 : Int32).toInt ∧ zRL (tn) (sg) (x_41) (x_42) (pn) (pc) (P) (x_43) (x_44) (zrow (n) (d) (mg) (L) (F) (V)) (xt0) (tb0) (ik_70) (ro0) (un0) (ke_69) (nu0) := zRL_keep hR0 (zb_Mo_w hm0).1 (zb_Mo_w hm0).2.2 (ev_2.trans ((congrArg (fun z : Int32 => xs z.toNatClampNeg) (ev_1.trans ev_55.symm)).trans ev_56.symm)) hf_48 hf_49 hf_50 hf_51 hf_52 hf_53 hf_54 hf_64 hf_65 hf_66 hf_67 hf_68
      refine lv_pop hx hb d_law_1013 rfl ?_
      refine lv_goto (tgt := 1067) hx hb d_law_1014 (by decide) ?_
      refine W.widen (k := cells + 5) (n := slots + 520) (show cells + 4 ≤ cells + 5 by omega) (show slots + 506 ≤ slots + 520 by omega) ?_
      exact kk _ _ _ _ _ _ _ _ _ _ _ _ _ _ _ _ _ _ _ _ _ _ _ _ _ _ _ _ _ hx_46 hm_62 (hq9.2) hP hD hS (lv_sub hl [0, 1, 2, 3, 4] rfl)
  | true =>
    cases s1 with
    | false =>
      obtain ⟨fs_71, hat_72⟩ := XS_at hx0
      refine z_callV (index := 128) (As := [.int v_2]) (rest := []) (wr := []) Z ((x_keep10 l G xX xText xNow xRead xPast xKept xTree xFol xMs xTree2 xMa2 xRun xRan xWo xPa xCo xPr xOd xFi xM0 xM1 xM2 xM3 (v_2) (tn) (sg) (pn) (pc) (P) (K0) (K1) (Rd) (n) (d) (mg) (L) (F) (V) x0 hx0).mid [(zo, .inl (G.2 1, 1, .inr (.inl f0)))] (zap m0 [])) hl.1 q1006 q1007 q1008 q1 q1009 ⟨by decide, by decide, by show _ = some 1; decide +kernel⟩ ⟨Nat.le_of_ble_eq_true rfl, Nat.le_of_ble_eq_true rfl⟩ (show cells + 4 ≤ 601024 ∧ slots + 506 ≤ 7293034 from ⟨by omega, by omega⟩) rfl (Nat.le_of_ble_eq_true rfl) d_law_999 hP hD hS hA 1 0 (zw_at1 (a := [(zo, .inl (G.2 1, 1, .inr (.inl f0)))]) (b := zap m0 []) hat_72) rfl rfl (List.range _) [] (zw_range _) rfl (zw_nd _) rfl (by intro i h9; cases h9) (fun v w1 H locs hw_73 hP hD hS => ?_)
      obtain ⟨w_79, ⟨x_74, x_75, x_76, x_77, x_78, rfl, hx_80, hf_81, hf_82, hf_83, hf_84, hf_85, hf_86, hf_87, hf_88⟩, rfl⟩ := hw_73
      have hP : va_P G.1 classes (zap [(zo, .inl (G.2 1, 1, .inr (.inl f0)))] (zap w_79 (zap m0 []))) H := hP
      have hD : va_D (fun q : Nat => s.heap.size ≤ q) (zap [(zo, .inl (G.2 1, 1, .inr (.inl f0)))] (zap w_79 (zap m0 []))) := hD
      refine W.widen (k := cells + 4) (n := slots + 506) (show cells + 4 ≤ cells + 4 from Nat.le_refl _) (show slots + 506 ≤ slots + 506 from Nat.le_refl _) ?_
      refine lv_pop hx hb d_law_1002 rfl ?_
      refine lv_aload_n hx hb d_law_1003 rfl (lv_at hl 2 rfl) ?_
      refine lv_aload_n hx hb d_law_1004 rfl (lv_at hl 0 rfl) ?_
      refine lv_iload hx hb d_law_1005 (lv_at hl 4 rfl) ?_
      refine lv_iconst (v := 1) hx hb d_law_1007 (by decide) ?_
      refine lv_iadd hx hb d_law_1008 ?_
      refine lv_topi (fun v_89 ev_89 => ?_)
      have qv_89 := z_idx (k := 1) hi hL ev_89 li_1 (by decide)
      refine va_sld hx hb hX hbl hbA hS (i := v_89) qv_89 d_law_1009 ?_
      refine lv_topi (fun v_90 ev_90 => ?_)
      obtain ⟨fs_91, hat_92⟩ := zb_Mo_at hm0
      refine z_callV (index := 131) (As := [.int v_90]) (rest := []) (wr := []) Z ((m_keep l G mA (v_90)  (nu0) (xt0) (ro0) (ke0) (ik0) (un0) (tb0) m0 hm0).mid2 [(zo, .inl (G.2 1, 1, .inr (.inl f0)))] w_79 []) hl.1 q1639 q1640 q1641 q14 q1642 ⟨by decide, by decide, by show _ = some 1; decide +kernel⟩ ⟨Nat.le_of_ble_eq_true rfl, Nat.le_of_ble_eq_true rfl⟩ (show cells + 4 ≤ 601024 ∧ slots + 506 ≤ 7293034 from ⟨by omega, by omega⟩) rfl (Nat.le_of_ble_eq_true rfl) d_law_1010 hP hD hS hA _ 12 (zw_at2 (a := [(zo, .inl (G.2 1, 1, .inr (.inl f0)))]) (x := w_79) (b := []) hat_92) rfl rfl (List.range _) [] (zw_range _) rfl (zw_nd _) rfl (by intro i h9; cases h9) (fun v w1 H locs hw_93 hP hD hS => ?_)
      obtain ⟨w_95, ⟨ke_103, ik_104, x_94, ⟨rfl, hf_97, hf_98, hf_99, hf_100, hf_101, hf_102⟩, hm_96⟩, rfl⟩ := hw_93
      have hP : va_P G.1 classes (zap [(zo, .inl (G.2 1, 1, .inr (.inl f0)))] (zap w_79 (zap w_95 []))) H := hP
      have hD : va_D (fun q : Nat => s.heap.size ≤ q) (zap [(zo, .inl (G.2 1, 1, .inr (.inl f0)))] (zap w_79 (zap w_95 []))) := hD
      refine W.widen (k := cells + 4) (n := slots + 506) (show cells + 4 ≤ cells + 4 from Nat.le_refl _) (show slots + 506 ≤ slots + 506 from Nat.le_refl _) ?_
      have hq9 : (x_74 : Int32).toInt = (x_94 : Int32).toInt ∧ zRL (tn) (sg) (x_75) (x_76) (pn) (pc) (P) (x_77) (x_78) (zrow (n) (d) (mg) (L) (F) (V)) (xt0) (tb0) (ik_104) (ro0) (un0) (ke_103) (nu0) := zRL_keep hR0 (zb_Mo_w hm0).1 (zb_Mo_w hm0).2.2 (ev_2.trans ((congrArg (fun z : Int32 => xs z.toNatClampNeg) (ev_1.trans ev_89.symm)).trans ev_90.symm)) hf_82 hf_83 hf_84 hf_85 hf_86 hf_87 hf_88 hf_98 hf_99 hf_100 hf_101 hf_102
      refine lv_pop hx hb d_law_1013 rfl ?_
      refine lv_goto (tgt := 1067) hx hb d_law_1014 (by decide) ?_
      refine W.widen (k := cells + 5) (n := slots + 520) (show cells + 4 ≤ cells + 5 by omega) (show slots + 506 ≤ slots + 520 by omega) ?_
      exact kk _ _ _ _ _ _ _ _ _ _ _ _ _ _ _ _ _ _ _ _ _ _ _ _ _ _ _ _ _ hx_80 hm_96 (hq9.2) hP hD hS (lv_sub hl [0, 1, 2, 3, 4] rfl)
    | true =>
      obtain ⟨fs_105, hat_106⟩ := XS_at hx0
      refine z_callV (index := 128) (As := [.int v_2]) (rest := []) (wr := []) Z ((x_keep11 l G xX xText xNow xRead xPast xKept xTree xFol xMs xTree2 xMa2 xRun xRan xWo xPa xCo xPr xOd xFi xM0 xM1 xM2 xM3 (v_2) (tn) (sg) (pn) (pc) (P) (K0) (K1) (Rd) (n) (d) (mg) (L) (F) (V) x0 hx0).mid [(zo, .inl (G.2 1, 1, .inr (.inl f0)))] (zap m0 [])) hl.1 q1006 q1007 q1008 q1 q1009 ⟨by decide, by decide, by show _ = some 1; decide +kernel⟩ ⟨Nat.le_of_ble_eq_true rfl, Nat.le_of_ble_eq_true rfl⟩ (show cells + 0 ≤ 601024 ∧ slots + 0 ≤ 7293034 from ⟨by omega, by omega⟩) rfl (Nat.le_of_ble_eq_true rfl) d_law_999 hP hD hS hA 1 0 (zw_at1 (a := [(zo, .inl (G.2 1, 1, .inr (.inl f0)))]) (b := zap m0 []) hat_106) rfl rfl (List.range _) [] (zw_range _) rfl (zw_nd _) rfl (by intro i h9; cases h9) (fun v w1 H locs hw_107 hP hD hS => ?_)
      obtain ⟨w_113, ⟨x_108, x_109, x_110, x_111, x_112, rfl, hx_114, hf_115, hf_116, hf_117, hf_118, hf_119, hf_120, hf_121, hf_122⟩, rfl⟩ := hw_107
      have hP : va_P G.1 classes (zap [(zo, .inl (G.2 1, 1, .inr (.inl f0)))] (zap w_113 (zap m0 []))) H := hP
      have hD : va_D (fun q : Nat => s.heap.size ≤ q) (zap [(zo, .inl (G.2 1, 1, .inr (.inl f0)))] (zap w_113 (zap m0 []))) := hD
      refine W.widen (k := cells + 0) (n := slots + 0) (show cells + 0 ≤ cells + 0 from Nat.le_refl _) (show slots + 0 ≤ slots + 0 from Nat.le_refl _) ?_
      refine lv_pop hx hb d_law_1002 rfl ?_
      refine lv_aload_n hx hb d_law_1003 rfl (lv_at hl 2 rfl) ?_
      refine lv_aload_n hx hb d_law_1004 rfl (lv_at hl 0 rfl) ?_
      refine lv_iload hx hb d_law_1005 (lv_at hl 4 rfl) ?_
      refine lv_iconst (v := 1) hx hb d_law_1007 (by decide) ?_
      refine lv_iadd hx hb d_law_1008 ?_
      refine lv_topi (fun v_123 ev_123 => ?_)
      have qv_123 := z_idx (k := 1) hi hL ev_123 li_1 (by decide)
      refine va_sld hx hb hX hbl hbA hS (i := v_123) qv_123 d_law_1009 ?_
      refine lv_topi (fun v_124 ev_124 => ?_)
      obtain ⟨fs_125, hat_126⟩ := zb_Mo_at hm0
      refine z_callV (index := 131) (As := [.int v_124]) (rest := []) (wr := []) Z ((m_keep l G mA (v_124)  (nu0) (xt0) (ro0) (ke0) (ik0) (un0) (tb0) m0 hm0).mid2 [(zo, .inl (G.2 1, 1, .inr (.inl f0)))] w_113 []) hl.1 q1639 q1640 q1641 q14 q1642 ⟨by decide, by decide, by show _ = some 1; decide +kernel⟩ ⟨Nat.le_of_ble_eq_true rfl, Nat.le_of_ble_eq_true rfl⟩ (show cells + 0 ≤ 601024 ∧ slots + 0 ≤ 7293034 from ⟨by omega, by omega⟩) rfl (Nat.le_of_ble_eq_true rfl) d_law_1010 hP hD hS hA _ 12 (zw_at2 (a := [(zo, .inl (G.2 1, 1, .inr (.inl f0)))]) (x := w_113) (b := []) hat_126) rfl rfl (List.range _) [] (zw_range _) rfl (zw_nd _) rfl (by intro i h9; cases h9) (fun v w1 H locs hw_127 hP hD hS => ?_)
      obtain ⟨w_129, ⟨ke_137, ik_138, x_128, ⟨rfl, hf_131, hf_132, hf_133, hf_134, hf_135, hf_136⟩, hm_130⟩, rfl⟩ := hw_127
      have hP : va_P G.1 classes (zap [(zo, .inl (G.2 1, 1, .inr (.inl f0)))] (zap w_113 (zap w_129 []))) H := hP
      have hD : va_D (fun q : Nat => s.heap.size ≤ q) (zap [(zo, .inl (G.2 1, 1, .inr (.inl f0)))] (zap w_113 (zap w_129 []))) := hD
      refine W.widen (k := cells + 0) (n := slots + 0) (show cells + 0 ≤ cells + 0 from Nat.le_refl _) (show slots + 0 ≤ slots + 0 from Nat.le_refl _) ?_
      have hq9 : (x_108 : Int32).toInt = (x_128 : Int32).toInt ∧ zRL (tn) (sg) (x_109) (x_110) (pn) (pc) (P) (x_111) (x_112) (zrow (n) (d) (mg) (L) (F) (V)) (xt0) (tb0) (ik_138) (ro0) (un0) (ke_137) (nu0) := zRL_keep hR0 (zb_Mo_w hm0).1 (zb_Mo_w hm0).2.2 (ev_2.trans ((congrArg (fun z : Int32 => xs z.toNatClampNeg) (ev_1.trans ev_123.symm)).trans ev_124.symm)) hf_116 hf_117 hf_118 hf_119 hf_120 hf_121 hf_122 hf_132 hf_133 hf_134 hf_135 hf_136
      refine lv_pop hx hb d_law_1013 rfl ?_
      refine lv_goto (tgt := 1067) hx hb d_law_1014 (by decide) ?_
      refine W.widen (k := cells + 5) (n := slots + 520) (by omega) (by omega) ?_
      exact kk _ _ _ _ _ _ _ _ _ _ _ _ _ _ _ _ _ _ _ _ _ _ _ _ _ _ _ _ _ hx_114 hm_130 (hq9.2) hP hD hS (lv_sub hl [0, 1, 2, 3, 4] rfl)
set_option maxHeartbeats 4000000 in
set_option maxRecDepth 100000 in
theorem law_26 {p : Program} {e : Env} {s : State} {m : MethodId} {below : List Frame} {meth : Method} {c : Code} (l : Launch) {b L : Nat} {xs : Nat → Int32} {G : zG} (hL : L ≤ 2560) (Z : zC p s m #[Value.ref b] meth c code 7 "TraceMachinesLaw" G) (hr : meth.sig.returnType = ret) (hX : va_X b L xs s s.heap) (hbl : b < s.heap.size)  {i : Int32} {cells slots : Nat} (hroom : cells + 5 ≤ 601024 ∧ slots + 520 ≤ 7293034) (hi : 0 ≤ i.toInt ∧ i.toInt + 5 ≤ (L : Int)) {xX xText xNow xRead xPast xKept xTree xFol xMs xTree2 xMa2 xRun xRan xWo xPa xCo xPr xOd xFi xM0 xM1 xM2 xM3 mA zo : Nat} {tn : Int32} {sg : Nat → Int32} {s0 : Bool} {s1 : Bool} {pn : Int32} {pc : Int32} {P : Nat → Nat → Int32} {K0 : Nat → Int32} {K1 : Nat → Int32} {Rd : Nat → Int32} {n : Int32} {d : Int32} {mg : Int32} {L : Nat → Int32} {F : Nat → Int32} {V : Nat → Int32} {f0 : Nat → Int64} {x0 m0 : va_W} {nu0 : Int32} {xt0 : Int32} {ro0 : Nat → Int32} {ke0 : Nat → Int32} {ik0 : Nat → Int32} {un0 : Nat → Int32} {tb0 : Nat → Int32} {H : Heap} {locs : List Loc} {ls : Array Slot} (hx0 : XS G xX xText xNow xRead xPast xKept xTree xFol xMs xTree2 xMa2 xRun xRan xWo xPa xCo xPr xOd xFi xM0 xM1 xM2 xM3 True tn sg s0 s1 pn pc P K0 K1 Rd n d mg L F V x0) (hm0 : zb_Mo G mA nu0 xt0 ro0 ke0 ik0 un0 tb0 m0) (hR0 : zRL (tn) (sg) (s0) (s1) (pn) (pc) (P) (K0) (K1) (zrow (n) (d) (mg) (L) (F) (V)) (xt0) (tb0) (ik0) (ro0) (un0) (ke0) (nu0)) (hP : va_P G.1 classes (zap [(zo, .inl (G.2 1, 1, .inr (.inl f0)))] (zap x0 (zap m0 []))) H) (hD : va_D (fun q : Nat => s.heap.size ≤ q) (zap [(zo, .inl (G.2 1, 1, .inr (.inl f0)))] (zap x0 (zap m0 [])))) (hS : va_S (fun q : Nat => s.heap.size ≤ q) s.heap H locs) (hl : lv_has ls 7 [(0, .ref b), (1, .ref xX), (2, .ref mA), (3, .ref zo), (4, .int i)]) (kk : ∀ (f1 : Nat → Int64) (x1 m1 : va_W) (nu_1 : Int32) (xt_1 : Int32) (ro_1 : Nat → Int32) (ke_1 : Nat → Int32) (ik_1 : Nat → Int32) (un_1 : Nat → Int32) (tb_1 : Nat → Int32) (tn_1 : Int32) (sg_1 : Nat → Int32) (s0_1 : Bool) (s1_1 : Bool) (pn_1 : Int32) (pc_1 : Int32) (P_1 : Nat → Nat → Int32) (K0_1 : Nat → Int32) (K1_1 : Nat → Int32) (Rd_1 : Nat → Int32) (n_1 : Int32) (d_1 : Int32) (mg_1 : Int32) (L_1 : Nat → Int32) (F_1 : Nat → Int32) (V_1 : Nat → Int32) (H : Heap) (locs : List Loc) (ls : Array Slot), XS G xX xText xNow xRead xPast xKept xTree xFol xMs xTree2 xMa2 xRun xRan xWo xPa xCo xPr xOd xFi xM0 xM1 xM2 xM3 True tn_1 sg_1 s0_1 s1_1 pn_1 pc_1 P_1 K0_1 K1_1 Rd_1 n_1 d_1 mg_1 L_1 F_1 V_1 x1 → zb_Mo G mA nu_1 xt_1 ro_1 ke_1 ik_1 un_1 tb_1 m1 → zRL (tn_1) (sg_1) (s0_1) (s1_1) (pn_1) (pc_1) (P_1) (K0_1) (K1_1) (zrow (n_1) (d_1) (mg_1) (L_1) (F_1) (V_1)) (xt_1) (tb_1) (ik_1) (ro_1) (un_1) (ke_1) (nu_1) → va_P G.1 classes (zap [(zo, .inl (G.2 1, 1, .inr (.inl f1)))] (zap x1 (zap m1 []))) H → va_D (fun q : Nat => s.heap.size ≤ q) (zap [(zo, .inl (G.2 1, 1, .inr (.inl f1)))] (zap x1 (zap m1 []))) → va_S (fun q : Nat => s.heap.size ≤ q) s.heap H locs → lv_has ls 7 [(0, .ref b), (1, .ref xX), (2, .ref mA), (3, .ref zo), (4, .int i)] → W p l e room_1 s m #[Value.ref b] below meth c H locs (cells + 5) (slots + 520) (lw_Z below #[Value.ref b] s) (F0 m 1067 ls [])) : W p l e room_1 s m #[Value.ref b] below meth c H locs cells slots (lw_Z below #[Value.ref b] s) (F0 m 1017 ls []) := by
  obtain ⟨hx, hb, hml, hown, hts, hK, hN, hlocks⟩ := id Z
  have hbA : ¬ (fun q : Nat => s.heap.size ≤ q) b := Nat.not_le.mpr hbl
  have hA : ∀ q : Nat, s.heap.size ≤ q → (fun q : Nat => s.heap.size ≤ q) q := fun _ h => h
  refine lv_aload_n hx hb d_law_1017 rfl (lv_at hl 1 rfl) ?_
  refine lv_aload_n hx hb d_law_1018 rfl (lv_at hl 0 rfl) ?_
  refine lv_iload hx hb d_law_1019 (lv_at hl 4 rfl) ?_
  refine lv_iconst (v := 1) hx hb d_law_1021 (by decide) ?_
  refine lv_iadd hx hb d_law_1022 ?_
  refine lv_topi (fun v_1 ev_1 => ?_)
  have qv_1 := z_idx (k := 1) hi hL ev_1 li_1 (by decide)
  refine va_sld hx hb hX hbl hbA hS (i := v_1) qv_1 d_law_1023 ?_
  refine lv_topi (fun v_2 ev_2 => ?_)
  cases s0 with
  | false =>
    cases s1 with
    | false =>
      obtain ⟨fs_3, hat_4⟩ := XS_at hx0
      refine z_callV (index := 132) (As := [.int v_2]) (rest := []) (wr := []) Z ((x_again00 l G xX xText xNow xRead xPast xKept xTree xFol xMs xTree2 xMa2 xRun xRan xWo xPa xCo xPr xOd xFi xM0 xM1 xM2 xM3 (v_2) (tn) (sg) (pn) (pc) (P) (K0) (K1) (Rd) (n) (d) (mg) (L) (F) (V) x0 hx0).mid [(zo, .inl (G.2 1, 1, .inr (.inl f0)))] (zap m0 [])) hl.1 q1010 q1011 q1012 q1 q1013 ⟨by decide, by decide, by show _ = some 1; decide +kernel⟩ ⟨Nat.le_of_ble_eq_true rfl, Nat.le_of_ble_eq_true rfl⟩ (show cells + 0 ≤ 601024 ∧ slots + 0 ≤ 7293034 from ⟨by omega, by omega⟩) rfl (Nat.le_of_ble_eq_true rfl) d_law_1024 hP hD hS hA 1 0 (zw_at1 (a := [(zo, .inl (G.2 1, 1, .inr (.inl f0)))]) (b := zap m0 []) hat_4) rfl rfl (List.range _) [] (zw_range _) rfl (zw_nd _) rfl (by intro i h9; cases h9) (fun v w1 H locs hw_5 hP hD hS => ?_)
      obtain ⟨w_14, ⟨x_6, x_7, x_8, x_9, x_10, x_11, x_12, x_13, rfl, hx_15, hf_16, hf_17⟩, rfl⟩ := hw_5
      have hP : va_P G.1 classes (zap [(zo, .inl (G.2 1, 1, .inr (.inl f0)))] (zap w_14 (zap m0 []))) H := hP
      have hD : va_D (fun q : Nat => s.heap.size ≤ q) (zap [(zo, .inl (G.2 1, 1, .inr (.inl f0)))] (zap w_14 (zap m0 []))) := hD
      refine W.widen (k := cells + 0) (n := slots + 0) (show cells + 0 ≤ cells + 0 from Nat.le_refl _) (show slots + 0 ≤ slots + 0 from Nat.le_refl _) ?_
      refine lv_pop hx hb d_law_1027 rfl ?_
      refine lv_aload_n hx hb d_law_1028 rfl (lv_at hl 2 rfl) ?_
      refine lv_aload_n hx hb d_law_1029 rfl (lv_at hl 0 rfl) ?_
      refine lv_iload hx hb d_law_1030 (lv_at hl 4 rfl) ?_
      refine lv_iconst (v := 1) hx hb d_law_1032 (by decide) ?_
      refine lv_iadd hx hb d_law_1033 ?_
      refine lv_topi (fun v_18 ev_18 => ?_)
      have qv_18 := z_idx (k := 1) hi hL ev_18 li_1 (by decide)
      refine va_sld hx hb hX hbl hbA hS (i := v_18) qv_18 d_law_1034 ?_
      refine lv_topi (fun v_19 ev_19 => ?_)
      obtain ⟨fs_20, hat_21⟩ := zb_Mo_at hm0
      refine z_callV (index := 135) (As := [.int v_19]) (rest := []) (wr := []) Z ((m_again l G mA (v_19)  (nu0) (xt0) (ro0) (ke0) (ik0) (un0) (tb0) m0 hm0).mid2 [(zo, .inl (G.2 1, 1, .inr (.inl f0)))] w_14 []) hl.1 q1643 q1644 q1645 q14 q1646 ⟨by decide, by decide, by show _ = some 1; decide +kernel⟩ ⟨Nat.le_of_ble_eq_true rfl, Nat.le_of_ble_eq_true rfl⟩ (show cells + 0 ≤ 601024 ∧ slots + 0 ≤ 7293034 from ⟨by omega, by omega⟩) rfl (Nat.le_of_ble_eq_true rfl) d_law_1035 hP hD hS hA _ 12 (zw_at2 (a := [(zo, .inl (G.2 1, 1, .inr (.inl f0)))]) (x := w_14) (b := []) hat_21) rfl rfl (List.range _) [] (zw_range _) rfl (zw_nd _) rfl (by intro i h9; cases h9) (fun v w1 H locs hw_22 hP hD hS => ?_)
      obtain ⟨w_24, ⟨nu_30, ro_31, x_23, ⟨rfl, hf_26, hf_27, hf_28, hf_29⟩, hm_25⟩, rfl⟩ := hw_22
      have hP : va_P G.1 classes (zap [(zo, .inl (G.2 1, 1, .inr (.inl f0)))] (zap w_14 (zap w_24 []))) H := hP
      have hD : va_D (fun q : Nat => s.heap.size ≤ q) (zap [(zo, .inl (G.2 1, 1, .inr (.inl f0)))] (zap w_14 (zap w_24 []))) := hD
      refine W.widen (k := cells + 0) (n := slots + 0) (show cells + 0 ≤ cells + 0 from Nat.le_refl _) (show slots + 0 ≤ slots + 0 from Nat.le_refl _) ?_
      have hq9 : (x_6 : Int32).toInt = (x_23 : Int32).toInt ∧ zRL (tn) (sg) (false) (false) (pn) (x_7) (P) (K0) (K1) (zrow (x_8) (x_9) (x_10) (x_11) (x_12) (x_13)) (xt0) (tb0) (ik0) (ro_31) (un0) (ke0) (nu_30) := zRL_again hR0 (zb_Mo_w hm_25).1 (ev_2.trans ((congrArg (fun z : Int32 => xs z.toNatClampNeg) (ev_1.trans ev_18.symm)).trans ev_19.symm)) hf_17 hf_27 hf_28 hf_29
      refine lv_pop hx hb d_law_1038 rfl ?_
      refine lv_goto (tgt := 1067) hx hb d_law_1039 (by decide) ?_
      refine W.widen (k := cells + 5) (n := slots + 520) (by omega) (by omega) ?_
      exact kk _ _ _ _ _ _ _ _ _ _ _ _ _ _ _ _ _ _ _ _ _ _ _ _ _ _ _ _ _ hx_15 hm_25 (hq9.2) hP hD hS (lv_sub hl [0, 1, 2, 3, 4] rfl)
    | true =>
      obtain ⟨fs_32, hat_33⟩ := XS_at hx0
      refine z_callV (index := 132) (As := [.int v_2]) (rest := []) (wr := []) Z ((x_again01 l G xX xText xNow xRead xPast xKept xTree xFol xMs xTree2 xMa2 xRun xRan xWo xPa xCo xPr xOd xFi xM0 xM1 xM2 xM3 (v_2) (tn) (sg) (pn) (pc) (P) (K0) (K1) (Rd) (n) (d) (mg) (L) (F) (V) x0 hx0).mid [(zo, .inl (G.2 1, 1, .inr (.inl f0)))] (zap m0 [])) hl.1 q1010 q1011 q1012 q1 q1013 ⟨by decide, by decide, by show _ = some 1; decide +kernel⟩ ⟨Nat.le_of_ble_eq_true rfl, Nat.le_of_ble_eq_true rfl⟩ (show cells + 0 ≤ 601024 ∧ slots + 0 ≤ 7293034 from ⟨by omega, by omega⟩) rfl (Nat.le_of_ble_eq_true rfl) d_law_1024 hP hD hS hA 1 0 (zw_at1 (a := [(zo, .inl (G.2 1, 1, .inr (.inl f0)))]) (b := zap m0 []) hat_33) rfl rfl (List.range _) [] (zw_range _) rfl (zw_nd _) rfl (by intro i h9; cases h9) (fun v w1 H locs hw_34 hP hD hS => ?_)
      obtain ⟨w_43, ⟨x_35, x_36, x_37, x_38, x_39, x_40, x_41, x_42, rfl, hx_44, hf_45, hf_46⟩, rfl⟩ := hw_34
      have hP : va_P G.1 classes (zap [(zo, .inl (G.2 1, 1, .inr (.inl f0)))] (zap w_43 (zap m0 []))) H := hP
      have hD : va_D (fun q : Nat => s.heap.size ≤ q) (zap [(zo, .inl (G.2 1, 1, .inr (.inl f0)))] (zap w_43 (zap m0 []))) := hD
      refine W.widen (k := cells + 0) (n := slots + 0) (show cells + 0 ≤ cells + 0 from Nat.le_refl _) (show slots + 0 ≤ slots + 0 from Nat.le_refl _) ?_
      refine lv_pop hx hb d_law_1027 rfl ?_
      refine lv_aload_n hx hb d_law_1028 rfl (lv_at hl 2 rfl) ?_
      refine lv_aload_n hx hb d_law_1029 rfl (lv_at hl 0 rfl) ?_
      refine lv_iload hx hb d_law_1030 (lv_at hl 4 rfl) ?_
      refine lv_iconst (v := 1) hx hb d_law_1032 (by decide) ?_
      refine lv_iadd hx hb d_law_1033 ?_
      refine lv_topi (fun v_47 ev_47 => ?_)
      have qv_47 := z_idx (k := 1) hi hL ev_47 li_1 (by decide)
      refine va_sld hx hb hX hbl hbA hS (i := v_47) qv_47 d_law_1034 ?_
      refine lv_topi (fun v_48 ev_48 => ?_)
      obtain ⟨fs_49, hat_50⟩ := zb_Mo_at hm0
      refine z_callV (index := 135) (As := [.int v_48]) (rest := []) (wr := []) Z ((m_again l G mA (v_48)  (nu0) (xt0) (ro0) (ke0) (ik0) (un0) (tb0) m0 hm0).mid2 [(zo, .inl (G.2 1, 1, .inr (.inl f0)))] w_43 []) hl.1 q1643 q1644 q1645 q14 q1646 ⟨by decide, by decide, by show _ = some 1; decide +kernel⟩ ⟨Nat.le_of_ble_eq_true rfl, Nat.le_of_ble_eq_true rfl⟩ (show cells + 0 ≤ 601024 ∧ slots + 0 ≤ 7293034 from ⟨by omega, by omega⟩) rfl (Nat.le_of_ble_eq_true rfl) d_law_1035 hP hD hS hA _ 12 (zw_at2 (a := [(zo, .inl (G.2 1, 1, .inr (.inl f0)))]) (x := w_43) (b := []) hat_50) rfl rfl (List.range _) [] (zw_range _) rfl (zw_nd _) rfl (by intro i h9; cases h9) (fun v w1 H locs hw_51 hP hD hS => ?_)
      obtain ⟨w_53, ⟨nu_59, ro_60, x_52, ⟨rfl, hf_55, hf_56, hf_57, hf_58⟩, hm_54⟩, rfl⟩ := hw_51
      have hP : va_P G.1 classes (zap [(zo, .inl (G.2 1, 1, .inr (.inl f0)))] (zap w_43 (zap w_53 []))) H := hP
      have hD : va_D (fun q : Nat => s.heap.size ≤ q) (zap [(zo, .inl (G.2 1, 1, .inr (.inl f0)))] (zap w_43 (zap w_53 []))) := hD
      refine W.widen (k := cells + 0) (n := slots + 0) (show cells + 0 ≤ cells + 0 from Nat.le_refl _) (show slots + 0 ≤ slots + 0 from Nat.le_refl _) ?_
      have hq9 : (x_35 : Int32).toInt = (x_52 : Int32).toInt ∧ zRL (tn) (sg) (false) (true) (pn) (x_36) (P) (K0) (K1) (zrow (x_37) (x_38) (x_39) (x_40) (x_41) (x_42)) (xt0) (tb0) (ik0) (ro_60) (un0) (ke0) (nu_59) := zRL_again hR0 (zb_Mo_w hm_54).1 (ev_2.trans ((congrArg (fun z : Int32 => xs z.toNatClampNeg) (ev_1.trans ev_47.symm)).trans ev_48.symm)) hf_46 hf_56 hf_57 hf_58
      refine lv_pop hx hb d_law_1038 rfl ?_
      refine lv_goto (tgt := 1067) hx hb d_law_1039 (by decide) ?_
      refine W.widen (k := cells + 5) (n := slots + 520) (by omega) (by omega) ?_
      exact kk _ _ _ _ _ _ _ _ _ _ _ _ _ _ _ _ _ _ _ _ _ _ _ _ _ _ _ _ _ hx_44 hm_54 (hq9.2) hP hD hS (lv_sub hl [0, 1, 2, 3, 4] rfl)
  | true =>
    cases s1 with
    | false =>
      obtain ⟨fs_61, hat_62⟩ := XS_at hx0
      refine z_callV (index := 132) (As := [.int v_2]) (rest := []) (wr := []) Z ((x_again10 l G xX xText xNow xRead xPast xKept xTree xFol xMs xTree2 xMa2 xRun xRan xWo xPa xCo xPr xOd xFi xM0 xM1 xM2 xM3 (v_2) (tn) (sg) (pn) (pc) (P) (K0) (K1) (Rd) (n) (d) (mg) (L) (F) (V) x0 hx0).mid [(zo, .inl (G.2 1, 1, .inr (.inl f0)))] (zap m0 [])) hl.1 q1010 q1011 q1012 q1 q1013 ⟨by decide, by decide, by show _ = some 1; decide +kernel⟩ ⟨Nat.le_of_ble_eq_true rfl, Nat.le_of_ble_eq_true rfl⟩ (show cells + 0 ≤ 601024 ∧ slots + 0 ≤ 7293034 from ⟨by omega, by omega⟩) rfl (Nat.le_of_ble_eq_true rfl) d_law_1024 hP hD hS hA 1 0 (zw_at1 (a := [(zo, .inl (G.2 1, 1, .inr (.inl f0)))]) (b := zap m0 []) hat_62) rfl rfl (List.range _) [] (zw_range _) rfl (zw_nd _) rfl (by intro i h9; cases h9) (fun v w1 H locs hw_63 hP hD hS => ?_)
      obtain ⟨w_72, ⟨x_64, x_65, x_66, x_67, x_68, x_69, x_70, x_71, rfl, hx_73, hf_74, hf_75⟩, rfl⟩ := hw_63
      have hP : va_P G.1 classes (zap [(zo, .inl (G.2 1, 1, .inr (.inl f0)))] (zap w_72 (zap m0 []))) H := hP
      have hD : va_D (fun q : Nat => s.heap.size ≤ q) (zap [(zo, .inl (G.2 1, 1, .inr (.inl f0)))] (zap w_72 (zap m0 []))) := hD
      refine W.widen (k := cells + 0) (n := slots + 0) (show cells + 0 ≤ cells + 0 from Nat.le_refl _) (show slots + 0 ≤ slots + 0 from Nat.le_refl _) ?_
      refine lv_pop hx hb d_law_1027 rfl ?_
      refine lv_aload_n hx hb d_law_1028 rfl (lv_at hl 2 rfl) ?_
      refine lv_aload_n hx hb d_law_1029 rfl (lv_at hl 0 rfl) ?_
      refine lv_iload hx hb d_law_1030 (lv_at hl 4 rfl) ?_
      refine lv_iconst (v := 1) hx hb d_law_1032 (by decide) ?_
      refine lv_iadd hx hb d_law_1033 ?_
      refine lv_topi (fun v_76 ev_76 => ?_)
      have qv_76 := z_idx (k := 1) hi hL ev_76 li_1 (by decide)
      refine va_sld hx hb hX hbl hbA hS (i := v_76) qv_76 d_law_1034 ?_
      refine lv_topi (fun v_77 ev_77 => ?_)
      obtain ⟨fs_78, hat_79⟩ := zb_Mo_at hm0
      refine z_callV (index := 135) (As := [.int v_77]) (rest := []) (wr := []) Z ((m_again l G mA (v_77)  (nu0) (xt0) (ro0) (ke0) (ik0) (un0) (tb0) m0 hm0).mid2 [(zo, .inl (G.2 1, 1, .inr (.inl f0)))] w_72 []) hl.1 q1643 q1644 q1645 q14 q1646 ⟨by decide, by decide, by show _ = some 1; decide +kernel⟩ ⟨Nat.le_of_ble_eq_true rfl, Nat.le_of_ble_eq_true rfl⟩ (show cells + 0 ≤ 601024 ∧ slots + 0 ≤ 7293034 from ⟨by omega, by omega⟩) rfl (Nat.le_of_ble_eq_true rfl) d_law_1035 hP hD hS hA _ 12 (zw_at2 (a := [(zo, .inl (G.2 1, 1, .inr (.inl f0)))]) (x := w_72) (b := []) hat_79) rfl rfl (List.range _) [] (zw_range _) rfl (zw_nd _) rfl (by intro i h9; cases h9) (fun v w1 H locs hw_80 hP hD hS => ?_)
      obtain ⟨w_82, ⟨nu_88, ro_89, x_81, ⟨rfl, hf_84, hf_85, hf_86, hf_87⟩, hm_83⟩, rfl⟩ := hw_80
      have hP : va_P G.1 classes (zap [(zo, .inl (G.2 1, 1, .inr (.inl f0)))] (zap w_72 (zap w_82 []))) H := hP
      have hD : va_D (fun q : Nat => s.heap.size ≤ q) (zap [(zo, .inl (G.2 1, 1, .inr (.inl f0)))] (zap w_72 (zap w_82 []))) := hD
      refine W.widen (k := cells + 0) (n := slots + 0) (show cells + 0 ≤ cells + 0 from Nat.le_refl _) (show slots + 0 ≤ slots + 0 from Nat.le_refl _) ?_
      have hq9 : (x_64 : Int32).toInt = (x_81 : Int32).toInt ∧ zRL (tn) (sg) (true) (false) (pn) (x_65) (P) (K0) (K1) (zrow (x_66) (x_67) (x_68) (x_69) (x_70) (x_71)) (xt0) (tb0) (ik0) (ro_89) (un0) (ke0) (nu_88) := zRL_again hR0 (zb_Mo_w hm_83).1 (ev_2.trans ((congrArg (fun z : Int32 => xs z.toNatClampNeg) (ev_1.trans ev_76.symm)).trans ev_77.symm)) hf_75 hf_85 hf_86 hf_87
      refine lv_pop hx hb d_law_1038 rfl ?_
      refine lv_goto (tgt := 1067) hx hb d_law_1039 (by decide) ?_
      refine W.widen (k := cells + 5) (n := slots + 520) (by omega) (by omega) ?_
      exact kk _ _ _ _ _ _ _ _ _ _ _ _ _ _ _ _ _ _ _ _ _ _ _ _ _ _ _ _ _ hx_73 hm_83 (hq9.2) hP hD hS (lv_sub hl [0, 1, 2, 3, 4] rfl)
    | true =>
      obtain ⟨fs_90, hat_91⟩ := XS_at hx0
      refine z_callV (index := 132) (As := [.int v_2]) (rest := []) (wr := []) Z ((x_again11 l G xX xText xNow xRead xPast xKept xTree xFol xMs xTree2 xMa2 xRun xRan xWo xPa xCo xPr xOd xFi xM0 xM1 xM2 xM3 (v_2) (tn) (sg) (pn) (pc) (P) (K0) (K1) (Rd) (n) (d) (mg) (L) (F) (V) x0 hx0).mid [(zo, .inl (G.2 1, 1, .inr (.inl f0)))] (zap m0 [])) hl.1 q1010 q1011 q1012 q1 q1013 ⟨by decide, by decide, by show _ = some 1; decide +kernel⟩ ⟨Nat.le_of_ble_eq_true rfl, Nat.le_of_ble_eq_true rfl⟩ (show cells + 0 ≤ 601024 ∧ slots + 0 ≤ 7293034 from ⟨by omega, by omega⟩) rfl (Nat.le_of_ble_eq_true rfl) d_law_1024 hP hD hS hA 1 0 (zw_at1 (a := [(zo, .inl (G.2 1, 1, .inr (.inl f0)))]) (b := zap m0 []) hat_91) rfl rfl (List.range _) [] (zw_range _) rfl (zw_nd _) rfl (by intro i h9; cases h9) (fun v w1 H locs hw_92 hP hD hS => ?_)
      obtain ⟨w_101, ⟨x_93, x_94, x_95, x_96, x_97, x_98, x_99, x_100, rfl, hx_102, hf_103, hf_104⟩, rfl⟩ := hw_92
      have hP : va_P G.1 classes (zap [(zo, .inl (G.2 1, 1, .inr (.inl f0)))] (zap w_101 (zap m0 []))) H := hP
      have hD : va_D (fun q : Nat => s.heap.size ≤ q) (zap [(zo, .inl (G.2 1, 1, .inr (.inl f0)))] (zap w_101 (zap m0 []))) := hD
      refine W.widen (k := cells + 0) (n := slots + 0) (show cells + 0 ≤ cells + 0 from Nat.le_refl _) (show slots + 0 ≤ slots + 0 from Nat.le_refl _) ?_
      refine lv_pop hx hb d_law_1027 rfl ?_
      refine lv_aload_n hx hb d_law_1028 rfl (lv_at hl 2 rfl) ?_
      refine lv_aload_n hx hb d_law_1029 rfl (lv_at hl 0 rfl) ?_
      refine lv_iload hx hb d_law_1030 (lv_at hl 4 rfl) ?_
      refine lv_iconst (v := 1) hx hb d_law_1032 (by decide) ?_
      refine lv_iadd hx hb d_law_1033 ?_
      refine lv_topi (fun v_105 ev_105 => ?_)
      have qv_105 := z_idx (k := 1) hi hL ev_105 li_1 (by decide)
      refine va_sld hx hb hX hbl hbA hS (i := v_105) qv_105 d_law_1034 ?_
      refine lv_topi (fun v_106 ev_106 => ?_)
      obtain ⟨fs_107, hat_108⟩ := zb_Mo_at hm0
      refine z_callV (index := 135) (As := [.int v_106]) (rest := []) (wr := []) Z ((m_again l G mA (v_106)  (nu0) (xt0) (ro0) (ke0) (ik0) (un0) (tb0) m0 hm0).mid2 [(zo, .inl (G.2 1, 1, .inr (.inl f0)))] w_101 []) hl.1 q1643 q1644 q1645 q14 q1646 ⟨by decide, by decide, by show _ = some 1; decide +kernel⟩ ⟨Nat.le_of_ble_eq_true rfl, Nat.le_of_ble_eq_true rfl⟩ (show cells + 0 ≤ 601024 ∧ slots + 0 ≤ 7293034 from ⟨by omega, by omega⟩) rfl (Nat.le_of_ble_eq_true rfl) d_law_1035 hP hD hS hA _ 12 (zw_at2 (a := [(zo, .inl (G.2 1, 1, .inr (.inl f0)))]) (x := w_101) (b := []) hat_108) rfl rfl (List.range _) [] (zw_range _) rfl (zw_nd _) rfl (by intro i h9; cases h9) (fun v w1 H locs hw_109 hP hD hS => ?_)
      obtain ⟨w_111, ⟨nu_117, ro_118, x_110, ⟨rfl, hf_113, hf_114, hf_115, hf_116⟩, hm_112⟩, rfl⟩ := hw_109
      have hP : va_P G.1 classes (zap [(zo, .inl (G.2 1, 1, .inr (.inl f0)))] (zap w_101 (zap w_111 []))) H := hP
      have hD : va_D (fun q : Nat => s.heap.size ≤ q) (zap [(zo, .inl (G.2 1, 1, .inr (.inl f0)))] (zap w_101 (zap w_111 []))) := hD
      refine W.widen (k := cells + 0) (n := slots + 0) (show cells + 0 ≤ cells + 0 from Nat.le_refl _) (show slots + 0 ≤ slots + 0 from Nat.le_refl _) ?_
      have hq9 : (x_93 : Int32).toInt = (x_110 : Int32).toInt ∧ zRL (tn) (sg) (true) (true) (pn) (x_94) (P) (K0) (K1) (zrow (x_95) (x_96) (x_97) (x_98) (x_99) (x_100)) (xt0) (tb0) (ik0) (ro_118) (un0) (ke0) (nu_117) := zRL_again hR0 (zb_Mo_w hm_112).1 (ev_2.trans ((congrArg (fun z : Int32 => xs z.toNatClampNeg) (ev_1.trans ev_105.symm)).trans ev_106.symm)) hf_104 hf_114 hf_115 hf_116
      refine lv_pop hx hb d_law_1038 rfl ?_
      refine lv_goto (tgt := 1067) hx hb d_law_1039 (by decide) ?_
      refine W.widen (k := cells + 5) (n := slots + 520) (by omega) (by omega) ?_
      exact kk _ _ _ _ _ _ _ _ _ _ _ _ _ _ _ _ _ _ _ _ _ _ _ _ _ _ _ _ _ hx_102 hm_112 (hq9.2) hP hD hS (lv_sub hl [0, 1, 2, 3, 4] rfl)
set_option maxHeartbeats 4000000 in
set_option maxRecDepth 100000 in
theorem law_27 {p : Program} {e : Env} {s : State} {m : MethodId} {below : List Frame} {meth : Method} {c : Code} (l : Launch) {b L : Nat} {xs : Nat → Int32} {G : zG} (hL : L ≤ 2560) (Z : zC p s m #[Value.ref b] meth c code 7 "TraceMachinesLaw" G) (hr : meth.sig.returnType = ret) (hX : va_X b L xs s s.heap) (hbl : b < s.heap.size)  {i : Int32} {cells slots : Nat} (hroom : cells + 5 ≤ 601024 ∧ slots + 520 ≤ 7293034) (hi : 0 ≤ i.toInt ∧ i.toInt + 5 ≤ (L : Int)) {xX xText xNow xRead xPast xKept xTree xFol xMs xTree2 xMa2 xRun xRan xWo xPa xCo xPr xOd xFi xM0 xM1 xM2 xM3 mA zo : Nat} {tn : Int32} {sg : Nat → Int32} {s0 : Bool} {s1 : Bool} {pn : Int32} {pc : Int32} {P : Nat → Nat → Int32} {K0 : Nat → Int32} {K1 : Nat → Int32} {Rd : Nat → Int32} {n : Int32} {d : Int32} {mg : Int32} {L : Nat → Int32} {F : Nat → Int32} {V : Nat → Int32} {f0 : Nat → Int64} {x0 m0 : va_W} {nu0 : Int32} {xt0 : Int32} {ro0 : Nat → Int32} {ke0 : Nat → Int32} {ik0 : Nat → Int32} {un0 : Nat → Int32} {tb0 : Nat → Int32} {H : Heap} {locs : List Loc} {ls : Array Slot} (hx0 : XS G xX xText xNow xRead xPast xKept xTree xFol xMs xTree2 xMa2 xRun xRan xWo xPa xCo xPr xOd xFi xM0 xM1 xM2 xM3 True tn sg s0 s1 pn pc P K0 K1 Rd n d mg L F V x0) (hm0 : zb_Mo G mA nu0 xt0 ro0 ke0 ik0 un0 tb0 m0) (hR0 : zRL (tn) (sg) (s0) (s1) (pn) (pc) (P) (K0) (K1) (zrow (n) (d) (mg) (L) (F) (V)) (xt0) (tb0) (ik0) (ro0) (un0) (ke0) (nu0)) (hP : va_P G.1 classes (zap [(zo, .inl (G.2 1, 1, .inr (.inl f0)))] (zap x0 (zap m0 []))) H) (hD : va_D (fun q : Nat => s.heap.size ≤ q) (zap [(zo, .inl (G.2 1, 1, .inr (.inl f0)))] (zap x0 (zap m0 [])))) (hS : va_S (fun q : Nat => s.heap.size ≤ q) s.heap H locs) (hl : lv_has ls 7 [(0, .ref b), (1, .ref xX), (2, .ref mA), (3, .ref zo), (4, .int i)]) (kk : ∀ (f1 : Nat → Int64) (x1 m1 : va_W) (nu_1 : Int32) (xt_1 : Int32) (ro_1 : Nat → Int32) (ke_1 : Nat → Int32) (ik_1 : Nat → Int32) (un_1 : Nat → Int32) (tb_1 : Nat → Int32) (tn_1 : Int32) (sg_1 : Nat → Int32) (s0_1 : Bool) (s1_1 : Bool) (pn_1 : Int32) (pc_1 : Int32) (P_1 : Nat → Nat → Int32) (K0_1 : Nat → Int32) (K1_1 : Nat → Int32) (Rd_1 : Nat → Int32) (n_1 : Int32) (d_1 : Int32) (mg_1 : Int32) (L_1 : Nat → Int32) (F_1 : Nat → Int32) (V_1 : Nat → Int32) (H : Heap) (locs : List Loc) (ls : Array Slot), XS G xX xText xNow xRead xPast xKept xTree xFol xMs xTree2 xMa2 xRun xRan xWo xPa xCo xPr xOd xFi xM0 xM1 xM2 xM3 True tn_1 sg_1 s0_1 s1_1 pn_1 pc_1 P_1 K0_1 K1_1 Rd_1 n_1 d_1 mg_1 L_1 F_1 V_1 x1 → zb_Mo G mA nu_1 xt_1 ro_1 ke_1 ik_1 un_1 tb_1 m1 → zRL (tn_1) (sg_1) (s0_1) (s1_1) (pn_1) (pc_1) (P_1) (K0_1) (K1_1) (zrow (n_1) (d_1) (mg_1) (L_1) (F_1) (V_1)) (xt_1) (tb_1) (ik_1) (ro_1) (un_1) (ke_1) (nu_1) → va_P G.1 classes (zap [(zo, .inl (G.2 1, 1, .inr (.inl f1)))] (zap x1 (zap m1 []))) H → va_D (fun q : Nat => s.heap.size ≤ q) (zap [(zo, .inl (G.2 1, 1, .inr (.inl f1)))] (zap x1 (zap m1 []))) → va_S (fun q : Nat => s.heap.size ≤ q) s.heap H locs → lv_has ls 7 [(0, .ref b), (1, .ref xX), (2, .ref mA), (3, .ref zo), (4, .int i)] → W p l e room_1 s m #[Value.ref b] below meth c H locs (cells + 5) (slots + 520) (lw_Z below #[Value.ref b] s) (F0 m 1067 ls [])) : W p l e room_1 s m #[Value.ref b] below meth c H locs cells slots (lw_Z below #[Value.ref b] s) (F0 m 1042 ls []) := by
  obtain ⟨hx, hb, hml, hown, hts, hK, hN, hlocks⟩ := id Z
  have hbA : ¬ (fun q : Nat => s.heap.size ≤ q) b := Nat.not_le.mpr hbl
  have hA : ∀ q : Nat, s.heap.size ≤ q → (fun q : Nat => s.heap.size ≤ q) q := fun _ h => h
  refine lv_aload_n hx hb d_law_1042 rfl (lv_at hl 1 rfl) ?_
  refine lv_aload_n hx hb d_law_1043 rfl (lv_at hl 0 rfl) ?_
  refine lv_iload hx hb d_law_1044 (lv_at hl 4 rfl) ?_
  refine lv_iconst (v := 1) hx hb d_law_1046 (by decide) ?_
  refine lv_iadd hx hb d_law_1047 ?_
  refine lv_topi (fun v_1 ev_1 => ?_)
  have qv_1 := z_idx (k := 1) hi hL ev_1 li_1 (by decide)
  refine va_sld hx hb hX hbl hbA hS (i := v_1) qv_1 d_law_1048 ?_
  refine lv_topi (fun v_2 ev_2 => ?_)
  obtain ⟨fs_3, hat_4⟩ := XS_at hx0
  refine z_callV (index := 136) (As := [.int v_2]) (rest := []) (wr := []) Z ((x_count l G xX xText xNow xRead xPast xKept xTree xFol xMs xTree2 xMa2 xRun xRan xWo xPa xCo xPr xOd xFi xM0 xM1 xM2 xM3 (v_2) (tn) (sg) (s0) (s1) (pn) (pc) (P) (K0) (K1) (Rd) (n) (d) (mg) (L) (F) (V) x0 hx0).mid [(zo, .inl (G.2 1, 1, .inr (.inl f0)))] (zap m0 [])) hl.1 q1014 q1015 q1016 q1 q1017 ⟨by decide, by decide, by show _ = some 1; decide +kernel⟩ ⟨Nat.le_of_ble_eq_true rfl, Nat.le_of_ble_eq_true rfl⟩ (show cells + 0 ≤ 601024 ∧ slots + 0 ≤ 7293034 from ⟨by omega, by omega⟩) rfl (Nat.le_of_ble_eq_true rfl) d_law_1049 hP hD hS hA 1 0 (zw_at1 (a := [(zo, .inl (G.2 1, 1, .inr (.inl f0)))]) (b := zap m0 []) hat_4) rfl rfl (List.range _) [] (zw_range _) rfl (zw_nd _) rfl (by intro i h9; cases h9) (fun v w1 H locs hw_5 hP hD hS => ?_)
  obtain ⟨w_7, ⟨x_6, rfl, hx_8⟩, rfl⟩ := hw_5
  have hP : va_P G.1 classes (zap [(zo, .inl (G.2 1, 1, .inr (.inl f0)))] (zap w_7 (zap m0 []))) H := hP
  have hD : va_D (fun q : Nat => s.heap.size ≤ q) (zap [(zo, .inl (G.2 1, 1, .inr (.inl f0)))] (zap w_7 (zap m0 []))) := hD
  refine W.widen (k := cells + 0) (n := slots + 0) (show cells + 0 ≤ cells + 0 from Nat.le_refl _) (show slots + 0 ≤ slots + 0 from Nat.le_refl _) ?_
  refine lv_pop hx hb d_law_1052 rfl ?_
  refine lv_aload_n hx hb d_law_1053 rfl (lv_at hl 2 rfl) ?_
  refine lv_aload_n hx hb d_law_1054 rfl (lv_at hl 0 rfl) ?_
  refine lv_iload hx hb d_law_1055 (lv_at hl 4 rfl) ?_
  refine lv_iconst (v := 1) hx hb d_law_1057 (by decide) ?_
  refine lv_iadd hx hb d_law_1058 ?_
  refine lv_topi (fun v_9 ev_9 => ?_)
  have qv_9 := z_idx (k := 1) hi hL ev_9 li_1 (by decide)
  refine va_sld hx hb hX hbl hbA hS (i := v_9) qv_9 d_law_1059 ?_
  refine lv_topi (fun v_10 ev_10 => ?_)
  obtain ⟨fs_11, hat_12⟩ := zb_Mo_at hm0
  refine z_callV (index := 139) (As := [.int v_10]) (rest := []) (wr := []) Z ((m_count l G mA (v_10)  (nu0) (xt0) (ro0) (ke0) (ik0) (un0) (tb0) m0 hm0).mid2 [(zo, .inl (G.2 1, 1, .inr (.inl f0)))] w_7 []) hl.1 q1647 q1648 q1649 q14 q1650 ⟨by decide, by decide, by show _ = some 1; decide +kernel⟩ ⟨Nat.le_of_ble_eq_true rfl, Nat.le_of_ble_eq_true rfl⟩ (show cells + 0 ≤ 601024 ∧ slots + 0 ≤ 7293034 from ⟨by omega, by omega⟩) rfl (Nat.le_of_ble_eq_true rfl) d_law_1060 hP hD hS hA _ 12 (zw_at2 (a := [(zo, .inl (G.2 1, 1, .inr (.inl f0)))]) (x := w_7) (b := []) hat_12) rfl rfl (List.range _) [] (zw_range _) rfl (zw_nd _) rfl (by intro i h9; cases h9) (fun v w1 H locs hw_13 hP hD hS => ?_)
  obtain ⟨w_15, ⟨x_14, ⟨rfl⟩, hm_16⟩, rfl⟩ := hw_13
  have hP : va_P G.1 classes (zap [(zo, .inl (G.2 1, 1, .inr (.inl f0)))] (zap w_7 (zap w_15 []))) H := hP
  have hD : va_D (fun q : Nat => s.heap.size ≤ q) (zap [(zo, .inl (G.2 1, 1, .inr (.inl f0)))] (zap w_7 (zap w_15 []))) := hD
  refine W.widen (k := cells + 0) (n := slots + 0) (show cells + 0 ≤ cells + 0 from Nat.le_refl _) (show slots + 0 ≤ slots + 0 from Nat.le_refl _) ?_
  refine lv_pop hx hb d_law_1063 rfl ?_
  refine lv_goto (tgt := 1067) hx hb d_law_1064 (by decide) ?_
  refine W.widen (k := cells + 5) (n := slots + 520) (by omega) (by omega) ?_
  exact kk _ _ _ _ _ _ _ _ _ _ _ _ _ _ _ _ _ _ _ _ _ _ _ _ _ _ _ _ _ hx_8 hm_16 hR0 hP hD hS (lv_sub hl [0, 1, 2, 3, 4] rfl)
