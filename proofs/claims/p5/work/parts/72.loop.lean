theorem li_22 : (22 : Int32).toInt = 22 := by decide +kernel
theorem li_23 : (23 : Int32).toInt = 23 := by decide +kernel
theorem li_24 : (24 : Int32).toInt = 24 := by decide +kernel
theorem li_25 : (25 : Int32).toInt = 25 := by decide +kernel
theorem li_26 : (26 : Int32).toInt = 26 := by decide +kernel
theorem li_27 : (27 : Int32).toInt = 27 := by decide +kernel
theorem d_law_0 : decode code 0 = .ok (.new 8, 3) := by decide +kernel
theorem d_law_3 : decode code 3 = .ok (.dup, 1) := by decide +kernel
theorem d_law_4 : decode code 4 = .ok (.invokespecial 15, 3) := by decide +kernel
theorem d_law_7 : decode code 7 = .ok (.astore_n 1, 1) := by decide +kernel
theorem d_law_8 : decode code 8 = .ok (.new 16, 3) := by decide +kernel
theorem d_law_11 : decode code 11 = .ok (.dup, 1) := by decide +kernel
theorem d_law_12 : decode code 12 = .ok (.invokespecial 18, 3) := by decide +kernel
theorem d_law_15 : decode code 15 = .ok (.astore_n 2, 1) := by decide +kernel
theorem d_law_16 : decode code 16 = .ok (.iconst 1, 1) := by decide +kernel
theorem d_law_17 : decode code 17 = .ok (.newarray .long, 2) := by decide +kernel
theorem d_law_19 : decode code 19 = .ok (.astore_n 3, 1) := by decide +kernel
theorem d_law_20 : decode code 20 = .ok (.iconst 0, 1) := by decide +kernel
theorem d_law_21 : decode code 21 = .ok (.istore 4, 2) := by decide +kernel
theorem d_law_23 : decode code 23 = .ok (.iload 4, 2) := by decide +kernel
theorem d_law_25 : decode code 25 = .ok (.aload_n 0, 1) := by decide +kernel
theorem d_law_26 : decode code 26 = .ok (.arraylength, 1) := by decide +kernel
theorem d_law_27 : decode code 27 = .ok (.iconst 5, 1) := by decide +kernel
theorem d_law_28 : decode code 28 = .ok (.isub, 1) := by decide +kernel
theorem d_law_29 : decode code 29 = .ok (.if_icmp .gt 1044, 3) := by decide +kernel
theorem d_law_32 : decode code 32 = .ok (.aload_n 0, 1) := by decide +kernel
theorem d_law_33 : decode code 33 = .ok (.iload 4, 2) := by decide +kernel
theorem d_law_35 : decode code 35 = .ok (.iaload, 1) := by decide +kernel
theorem d_law_36 : decode code 36 = .ok (.bipush 31, 2) := by decide +kernel
theorem d_law_38 : decode code 38 = .ok (.iand, 1) := by decide +kernel
theorem d_law_39 : decode code 39 = .ok (.tableswitch 1028 0 27 #[125, 150, 175, 188, 213, 238, 263, 276, 328, 365, 402, 427, 468, 493, 518, 543, 568, 617, 654, 715, 764, 801, 826, 891, 928, 953, 978, 1003], 125) := by decide +kernel
theorem d_law_1067 : decode code 1067 = .ok (.iinc 4 5, 3) := by decide +kernel
theorem d_law_1070 : decode code 1070 = .ok (.goto (-1047), 3) := by decide +kernel
theorem d_law_1073 : decode code 1073 = .ok (.iconst 1, 1) := by decide +kernel
theorem d_law_1074 : decode code 1074 = .ok (.ireturn, 1) := by decide +kernel
theorem zr_2 (a w b : va_W) : ((a ++ w) ++ b).Perm (zap b (zap w (zap a []))) := List.perm_append_comm.trans ((List.perm_append_comm.trans (zp_eq (by show w ++ a = w ++ (a ++ []); rw [List.append_nil]))).append_left b)
set_option maxRecDepth 100000 in
set_option maxHeartbeats 4000000 in
theorem law_head {p : Program} {e : Env} {s : State} {m : MethodId} {below : List Frame} {meth : Method} {c : Code} (l : Launch) {b N9 : Nat} {xs : Nat → Int32} {G : zG} (hL : N9 ≤ 2560) (Z : zC p s m #[Value.ref b] meth c code 7 "TraceMachinesLaw" G) (hr : meth.sig.returnType = ret) (hX : va_X b N9 xs s s.heap) (hbl : b < s.heap.size) (hfl : l.stackTraces = false) (hT : zTh s) (hU : zU (fun q : Nat => s.heap.size ≤ q) s s.heap) {i : Int32} {cells slots : Nat} (hi0 : 0 ≤ i.toInt ∧ i.toInt ≤ 3000) (hce : cells ≤ 601024 ∧ slots ≤ 7293034) (hroom : (0 ≤ i.toInt ∧ i.toInt + 5 ≤ (N9 : Int)) → cells + 5 ≤ 601024 ∧ slots + 520 ≤ 7293034) {xX xText xNow xRead xPast xKept xTree xFol xMs xTree2 xMa2 xRun xRan xWo xPa xCo xPr xOd xFi xM0 xM1 xM2 xM3 mA zo : Nat} {tn : Int32} {sg : Nat → Int32} {s0 : Bool} {s1 : Bool} {pn : Int32} {pc : Int32} {P : Nat → Nat → Int32} {K0 : Nat → Int32} {K1 : Nat → Int32} {Rd : Nat → Int32} {n : Int32} {d : Int32} {mg : Int32} {L : Nat → Int32} {F : Nat → Int32} {V : Nat → Int32} {f0 : Nat → Int64} {x0 m0 : va_W} {nu0 : Int32} {xt0 : Int32} {ro0 : Nat → Int32} {ke0 : Nat → Int32} {ik0 : Nat → Int32} {un0 : Nat → Int32} {tb0 : Nat → Int32} {H : Heap} {locs : List Loc} {ls : Array Slot} (hx0 : XS G xX xText xNow xRead xPast xKept xTree xFol xMs xTree2 xMa2 xRun xRan xWo xPa xCo xPr xOd xFi xM0 xM1 xM2 xM3 True tn sg s0 s1 pn pc P K0 K1 Rd n d mg L F V x0) (hm0 : zb_Mo G mA nu0 xt0 ro0 ke0 ik0 un0 tb0 m0) (hR0 : zRL (tn) (sg) (s0) (s1) (pn) (pc) (P) (K0) (K1) (zrow (n) (d) (mg) (L) (F) (V)) (xt0) (tb0) (ik0) (ro0) (un0) (ke0) (nu0)) (hP : va_P G.1 classes (zap [(zo, .inl (G.2 1, 1, .inr (.inl f0)))] (zap x0 (zap m0 []))) H) (hD : va_D (fun q : Nat => s.heap.size ≤ q) (zap [(zo, .inl (G.2 1, 1, .inr (.inl f0)))] (zap x0 (zap m0 [])))) (hS : va_S (fun q : Nat => s.heap.size ≤ q) s.heap H locs) (hl : lv_has ls 7 [(0, .ref b), (1, .ref xX), (2, .ref mA), (3, .ref zo), (4, .int i)]) (kk : (0 ≤ i.toInt ∧ i.toInt + 5 ≤ (N9 : Int)) → ∀ (f1 : Nat → Int64) (x1 m1 : va_W) (nu_1 : Int32) (xt_1 : Int32) (ro_1 : Nat → Int32) (ke_1 : Nat → Int32) (ik_1 : Nat → Int32) (un_1 : Nat → Int32) (tb_1 : Nat → Int32) (tn_1 : Int32) (sg_1 : Nat → Int32) (s0_1 : Bool) (s1_1 : Bool) (pn_1 : Int32) (pc_1 : Int32) (P_1 : Nat → Nat → Int32) (K0_1 : Nat → Int32) (K1_1 : Nat → Int32) (Rd_1 : Nat → Int32) (n_1 : Int32) (d_1 : Int32) (mg_1 : Int32) (L_1 : Nat → Int32) (F_1 : Nat → Int32) (V_1 : Nat → Int32) (H : Heap) (locs : List Loc) (ls : Array Slot), XS G xX xText xNow xRead xPast xKept xTree xFol xMs xTree2 xMa2 xRun xRan xWo xPa xCo xPr xOd xFi xM0 xM1 xM2 xM3 True tn_1 sg_1 s0_1 s1_1 pn_1 pc_1 P_1 K0_1 K1_1 Rd_1 n_1 d_1 mg_1 L_1 F_1 V_1 x1 → zb_Mo G mA nu_1 xt_1 ro_1 ke_1 ik_1 un_1 tb_1 m1 → zRL (tn_1) (sg_1) (s0_1) (s1_1) (pn_1) (pc_1) (P_1) (K0_1) (K1_1) (zrow (n_1) (d_1) (mg_1) (L_1) (F_1) (V_1)) (xt_1) (tb_1) (ik_1) (ro_1) (un_1) (ke_1) (nu_1) → va_P G.1 classes (zap [(zo, .inl (G.2 1, 1, .inr (.inl f1)))] (zap x1 (zap m1 []))) H → va_D (fun q : Nat => s.heap.size ≤ q) (zap [(zo, .inl (G.2 1, 1, .inr (.inl f1)))] (zap x1 (zap m1 []))) → va_S (fun q : Nat => s.heap.size ≤ q) s.heap H locs → lv_has ls 7 [(0, .ref b), (1, .ref xX), (2, .ref mA), (3, .ref zo), (4, .int i)] → W p l e room_1 s m #[Value.ref b] below meth c H locs (cells + 5) (slots + 520) (lw_Z below #[Value.ref b] s) (F0 m 1067 ls [])) : W p l e room_1 s m #[Value.ref b] below meth c H locs cells slots (lw_Z below #[Value.ref b] s) (F0 m 23 ls []) := by
  obtain ⟨hx, hb, hml, hown, hts, hK, hN, hlocks⟩ := id Z
  have hbA : ¬ (fun q : Nat => s.heap.size ≤ q) b := Nat.not_le.mpr hbl
  refine lv_iload hx hb d_law_23 (lv_at hl 4 rfl) ?_
  refine lv_aload_n hx hb d_law_25 rfl (lv_at hl 0 rfl) ?_
  refine va_slen hx hb hX hbl hbA hS d_law_26 ?_
  refine lv_iconst (v := 5) hx hb d_law_27 (by decide) ?_
  refine lv_isub hx hb d_law_28 ?_
  refine lv_topi (fun v ev => ?_)
  have hv : v.toInt = (N9 : Int) - 5 := by
    have h5 : (5 : Int32).toInt = 5 := by decide +kernel
    have hn : (Int32.ofNat N9).toInt = (N9 : Int) := Int32.toInt_ofNat_of_lt (by omega)
    rw [ev, Int32.toInt_sub, hn, h5]
    exact zi_bmod (by omega)
  refine lv_icmp_gt (tgt := 1073) hx hb d_law_29 (by decide) (fun hc => ?_) (fun hc => ?_)
  · refine lv_iconst (v := 1) hx hb d_law_1073 (by decide) ?_
    refine W.widen (k := 601024) (n := 7293034) hce.1 hce.2 ?_
    refine va_forget hS.2.2 ?_
    exact lw_ret hx hb hr hlocks d_law_1074
  · have hc2 := (fa_le _ _).mp (zi_nlt hc)
    have hi : 0 ≤ i.toInt ∧ i.toInt + 5 ≤ (N9 : Int) := ⟨hi0.1, by omega⟩
    refine lv_aload_n hx hb d_law_32 rfl (lv_at hl 0 rfl) ?_
    refine lv_iload hx hb d_law_33 (lv_at hl 4 rfl) ?_
    refine va_sld hx hb hX hbl hbA hS (i := i) (z_inL (by omega) (by omega)) d_law_35 ?_
    refine lv_topi (fun v2 ev2 => ?_)
    refine lv_bipush (v := 31) hx hb d_law_36 (by decide) ?_
    refine lv_iand hx hb d_law_38 ?_
    refine lv_topi (fun w ew => ?_)
    have hw := zI_and (k := 5) (h := 31) (by decide +kernel) ew (by decide)
    by_cases hk0 : w = 0
    · subst hk0
      refine lv_tableIn (off := 125) (tgt := 164) hx hb d_law_39 (by decide +kernel) (by decide +kernel) rfl (by decide) ?_
      exact law_0 l hL Z hr hX hbl (hroom hi) hi hx0 hm0 hR0 hP hD hS hl (kk hi)
    simp only [fa_eq, li_0] at hk0
    by_cases hk1 : w = 1
    · subst hk1
      refine lv_tableIn (off := 150) (tgt := 189) hx hb d_law_39 (by decide +kernel) (by decide +kernel) rfl (by decide) ?_
      exact law_1 l hL Z hr hX hbl (hroom hi) hi hx0 hm0 hR0 hP hD hS hl (kk hi)
    simp only [fa_eq, li_1] at hk1
    by_cases hk2 : w = 2
    · subst hk2
      refine lv_tableIn (off := 175) (tgt := 214) hx hb d_law_39 (by decide +kernel) (by decide +kernel) rfl (by decide) ?_
      exact law_2 l hL Z hr hX hbl (hroom hi) hi hx0 hm0 hR0 hP hD hS hl (kk hi)
    simp only [fa_eq, li_2] at hk2
    by_cases hk3 : w = 3
    · subst hk3
      refine lv_tableIn (off := 188) (tgt := 227) hx hb d_law_39 (by decide +kernel) (by decide +kernel) rfl (by decide) ?_
      exact law_3 l hL Z hr hX hbl (hroom hi) hi hx0 hm0 hR0 hP hD hS hl (kk hi)
    simp only [fa_eq, li_3] at hk3
    by_cases hk4 : w = 4
    · subst hk4
      refine lv_tableIn (off := 213) (tgt := 252) hx hb d_law_39 (by decide +kernel) (by decide +kernel) rfl (by decide) ?_
      exact law_4 l hL Z hr hX hbl (hroom hi) hi hx0 hm0 hR0 hP hD hS hl (kk hi)
    simp only [fa_eq, li_4] at hk4
    by_cases hk5 : w = 5
    · subst hk5
      refine lv_tableIn (off := 238) (tgt := 277) hx hb d_law_39 (by decide +kernel) (by decide +kernel) rfl (by decide) ?_
      exact law_5 l hL Z hr hX hbl (hroom hi) hi hx0 hm0 hR0 hP hD hS hl (kk hi)
    simp only [fa_eq, li_5] at hk5
    by_cases hk6 : w = 6
    · subst hk6
      refine lv_tableIn (off := 263) (tgt := 302) hx hb d_law_39 (by decide +kernel) (by decide +kernel) rfl (by decide) ?_
      exact law_6 l hL Z hr hX hbl (hroom hi) hi hx0 hm0 hR0 hP hD hS hl (kk hi)
    simp only [fa_eq, li_6] at hk6
    by_cases hk7 : w = 7
    · subst hk7
      refine lv_tableIn (off := 276) (tgt := 315) hx hb d_law_39 (by decide +kernel) (by decide +kernel) rfl (by decide) ?_
      exact law_7 l hL Z hr hX hbl hfl hT hU (hroom hi) hi hx0 hm0 hR0 hP hD hS hl (kk hi)
    simp only [fa_eq, li_7] at hk7
    by_cases hk8 : w = 8
    · subst hk8
      refine lv_tableIn (off := 328) (tgt := 367) hx hb d_law_39 (by decide +kernel) (by decide +kernel) rfl (by decide) ?_
      exact law_8 l hL Z hr hX hbl (hroom hi) hi hx0 hm0 hR0 hP hD hS hl (kk hi)
    simp only [fa_eq, li_8] at hk8
    by_cases hk9 : w = 9
    · subst hk9
      refine lv_tableIn (off := 365) (tgt := 404) hx hb d_law_39 (by decide +kernel) (by decide +kernel) rfl (by decide) ?_
      exact law_9 l hL Z hr hX hbl (hroom hi) hi hx0 hm0 hR0 hP hD hS hl (kk hi)
    simp only [fa_eq, li_9] at hk9
    by_cases hk10 : w = 10
    · subst hk10
      refine lv_tableIn (off := 402) (tgt := 441) hx hb d_law_39 (by decide +kernel) (by decide +kernel) rfl (by decide) ?_
      exact law_10 l hL Z hr hX hbl (hroom hi) hi hx0 hm0 hR0 hP hD hS hl (kk hi)
    simp only [fa_eq, li_10] at hk10
    by_cases hk11 : w = 11
    · subst hk11
      refine lv_tableIn (off := 427) (tgt := 466) hx hb d_law_39 (by decide +kernel) (by decide +kernel) rfl (by decide) ?_
      exact law_11 l hL Z hr hX hbl (hroom hi) hi hx0 hm0 hR0 hP hD hS hl (kk hi)
    simp only [fa_eq, li_11] at hk11
    by_cases hk12 : w = 12
    · subst hk12
      refine lv_tableIn (off := 468) (tgt := 507) hx hb d_law_39 (by decide +kernel) (by decide +kernel) rfl (by decide) ?_
      exact law_12 l hL Z hr hX hbl (hroom hi) hi hx0 hm0 hR0 hP hD hS hl (kk hi)
    simp only [fa_eq, li_12] at hk12
    by_cases hk13 : w = 13
    · subst hk13
      refine lv_tableIn (off := 493) (tgt := 532) hx hb d_law_39 (by decide +kernel) (by decide +kernel) rfl (by decide) ?_
      exact law_13 l hL Z hr hX hbl (hroom hi) hi hx0 hm0 hR0 hP hD hS hl (kk hi)
    simp only [fa_eq, li_13] at hk13
    by_cases hk14 : w = 14
    · subst hk14
      refine lv_tableIn (off := 518) (tgt := 557) hx hb d_law_39 (by decide +kernel) (by decide +kernel) rfl (by decide) ?_
      exact law_14 l hL Z hr hX hbl (hroom hi) hi hx0 hm0 hR0 hP hD hS hl (kk hi)
    simp only [fa_eq, li_14] at hk14
    by_cases hk15 : w = 15
    · subst hk15
      refine lv_tableIn (off := 543) (tgt := 582) hx hb d_law_39 (by decide +kernel) (by decide +kernel) rfl (by decide) ?_
      exact law_15 l hL Z hr hX hbl (hroom hi) hi hx0 hm0 hR0 hP hD hS hl (kk hi)
    simp only [fa_eq, li_15] at hk15
    by_cases hk16 : w = 16
    · subst hk16
      refine lv_tableIn (off := 568) (tgt := 607) hx hb d_law_39 (by decide +kernel) (by decide +kernel) rfl (by decide) ?_
      exact law_16 l hL Z hr hX hbl (hroom hi) hi hx0 hm0 hR0 hP hD hS hl (kk hi)
    simp only [fa_eq, li_16] at hk16
    by_cases hk17 : w = 17
    · subst hk17
      refine lv_tableIn (off := 617) (tgt := 656) hx hb d_law_39 (by decide +kernel) (by decide +kernel) rfl (by decide) ?_
      exact law_17 l hL Z hr hX hbl (hroom hi) hi hx0 hm0 hR0 hP hD hS hl (kk hi)
    simp only [fa_eq, li_17] at hk17
    by_cases hk18 : w = 18
    · subst hk18
      refine lv_tableIn (off := 654) (tgt := 693) hx hb d_law_39 (by decide +kernel) (by decide +kernel) rfl (by decide) ?_
      exact law_18 l hL Z hr hX hbl (hroom hi) hi hx0 hm0 hR0 hP hD hS hl (kk hi)
    simp only [fa_eq, li_18] at hk18
    by_cases hk19 : w = 19
    · subst hk19
      refine lv_tableIn (off := 715) (tgt := 754) hx hb d_law_39 (by decide +kernel) (by decide +kernel) rfl (by decide) ?_
      exact law_19 l hL Z hr hX hbl (hroom hi) hi hx0 hm0 hR0 hP hD hS hl (kk hi)
    simp only [fa_eq, li_19] at hk19
    by_cases hk20 : w = 20
    · subst hk20
      refine lv_tableIn (off := 764) (tgt := 803) hx hb d_law_39 (by decide +kernel) (by decide +kernel) rfl (by decide) ?_
      exact law_20 l hL Z hr hX hbl (hroom hi) hi hx0 hm0 hR0 hP hD hS hl (kk hi)
    simp only [fa_eq, li_20] at hk20
    by_cases hk21 : w = 21
    · subst hk21
      refine lv_tableIn (off := 801) (tgt := 840) hx hb d_law_39 (by decide +kernel) (by decide +kernel) rfl (by decide) ?_
      exact law_21 l hL Z hr hX hbl (hroom hi) hi hx0 hm0 hR0 hP hD hS hl (kk hi)
    simp only [fa_eq, li_21] at hk21
    by_cases hk22 : w = 22
    · subst hk22
      refine lv_tableIn (off := 826) (tgt := 865) hx hb d_law_39 (by decide +kernel) (by decide +kernel) rfl (by decide) ?_
      exact law_22 l hL Z hr hX hbl (hroom hi) hi hx0 hm0 hR0 hP hD hS hl (kk hi)
    simp only [fa_eq, li_22] at hk22
    by_cases hk23 : w = 23
    · subst hk23
      refine lv_tableIn (off := 891) (tgt := 930) hx hb d_law_39 (by decide +kernel) (by decide +kernel) rfl (by decide) ?_
      exact law_23 l hL Z hr hX hbl (hroom hi) hi hx0 hm0 hR0 hP hD hS hl (kk hi)
    simp only [fa_eq, li_23] at hk23
    by_cases hk24 : w = 24
    · subst hk24
      refine lv_tableIn (off := 928) (tgt := 967) hx hb d_law_39 (by decide +kernel) (by decide +kernel) rfl (by decide) ?_
      exact law_24 l hL Z hr hX hbl (hroom hi) hi hx0 hm0 hR0 hP hD hS hl (kk hi)
    simp only [fa_eq, li_24] at hk24
    by_cases hk25 : w = 25
    · subst hk25
      refine lv_tableIn (off := 953) (tgt := 992) hx hb d_law_39 (by decide +kernel) (by decide +kernel) rfl (by decide) ?_
      exact law_25 l hL Z hr hX hbl (hroom hi) hi hx0 hm0 hR0 hP hD hS hl (kk hi)
    simp only [fa_eq, li_25] at hk25
    by_cases hk26 : w = 26
    · subst hk26
      refine lv_tableIn (off := 978) (tgt := 1017) hx hb d_law_39 (by decide +kernel) (by decide +kernel) rfl (by decide) ?_
      exact law_26 l hL Z hr hX hbl (hroom hi) hi hx0 hm0 hR0 hP hD hS hl (kk hi)
    simp only [fa_eq, li_26] at hk26
    by_cases hk27 : w = 27
    · subst hk27
      refine lv_tableIn (off := 1003) (tgt := 1042) hx hb d_law_39 (by decide +kernel) (by decide +kernel) rfl (by decide) ?_
      exact law_27 l hL Z hr hX hbl (hroom hi) hi hx0 hm0 hR0 hP hD hS hl (kk hi)
    simp only [fa_eq, li_27] at hk27
    refine lv_tableOut (tgt := 1067) hx hb d_law_39 (by omega) (by decide) ?_
    refine W.widen (k := cells + 5) (n := slots + 520) (by omega) (by omega) ?_
    exact kk hi _ _ _ _ _ _ _ _ _ _ _ _ _ _ _ _ _ _ _ _ _ _ _ _ _ _ _ _ _ hx0 hm0 hR0 hP hD hS hl
set_option maxRecDepth 100000 in
set_option maxHeartbeats 4000000 in
theorem law_loop {p : Program} {e : Env} {s : State} {m : MethodId} {below : List Frame} {meth : Method} {c : Code} (l : Launch) {b N9 : Nat} {xs : Nat → Int32} {G : zG} (hL : N9 ≤ 2560) (Z : zC p s m #[Value.ref b] meth c code 7 "TraceMachinesLaw" G) (hr : meth.sig.returnType = ret) (hX : va_X b N9 xs s s.heap) (hbl : b < s.heap.size) (hfl : l.stackTraces = false) (hT : zTh s) (hU : zU (fun q : Nat => s.heap.size ≤ q) s s.heap) {xX xText xNow xRead xPast xKept xTree xFol xMs xTree2 xMa2 xRun xRan xWo xPa xCo xPr xOd xFi xM0 xM1 xM2 xM3 mA zo : Nat} (k : Nat) : ∀ (j : Nat) (i : Int32) (f0 : Nat → Int64) (x0 m0 : va_W) (nu0 : Int32) (xt0 : Int32) (ro0 : Nat → Int32) (ke0 : Nat → Int32) (ik0 : Nat → Int32) (un0 : Nat → Int32) (tb0 : Nat → Int32) (tn : Int32) (sg : Nat → Int32) (s0 : Bool) (s1 : Bool) (pn : Int32) (pc : Int32) (P : Nat → Nat → Int32) (K0 : Nat → Int32) (K1 : Nat → Int32) (Rd : Nat → Int32) (n : Int32) (d : Int32) (mg : Int32) (L : Nat → Int32) (F : Nat → Int32) (V : Nat → Int32) (H : Heap) (locs : List Loc) (ls : Array Slot), i.toInt = 5 * (j : Int) → (N9 : Int) < 5 * (j : Int) + (k : Int) → 5 * j ≤ 2565 → XS G xX xText xNow xRead xPast xKept xTree xFol xMs xTree2 xMa2 xRun xRan xWo xPa xCo xPr xOd xFi xM0 xM1 xM2 xM3 True tn sg s0 s1 pn pc P K0 K1 Rd n d mg L F V x0 → zb_Mo G mA nu0 xt0 ro0 ke0 ik0 un0 tb0 m0 → zRL (tn) (sg) (s0) (s1) (pn) (pc) (P) (K0) (K1) (zrow (n) (d) (mg) (L) (F) (V)) (xt0) (tb0) (ik0) (ro0) (un0) (ke0) (nu0) → va_P G.1 classes (zap [(zo, .inl (G.2 1, 1, .inr (.inl f0)))] (zap x0 (zap m0 []))) H → va_D (fun q : Nat => s.heap.size ≤ q) (zap [(zo, .inl (G.2 1, 1, .inr (.inl f0)))] (zap x0 (zap m0 []))) → va_S (fun q : Nat => s.heap.size ≤ q) s.heap H locs → lv_has ls 7 [(0, .ref b), (1, .ref xX), (2, .ref mA), (3, .ref zo), (4, .int i)] → W p l e room_1 s m #[Value.ref b] below meth c H locs (211 + 5 * j) (90368 + 520 * j) (lw_Z below #[Value.ref b] s) (F0 m 23 ls []) := by
  obtain ⟨hx, hb, hml, hown, hts, hK, hN, hlocks⟩ := id Z
  induction k with
  | zero =>
    intro j i f0 x0 m0 nu0 xt0 ro0 ke0 ik0 un0 tb0 tn sg s0 s1 pn pc P K0 K1 Rd n d mg L F V H locs ls hij hk hj hx0 hm0 hR0 hP hD hS hl
    exact law_head l hL Z hr hX hbl hfl hT hU (i := i) ⟨by omega, by omega⟩ ⟨by omega, by omega⟩ (fun h => ⟨by omega, by omega⟩) hx0 hm0 hR0 hP hD hS hl (fun h => by omega)
  | succ k ih =>
    intro j i f0 x0 m0 nu0 xt0 ro0 ke0 ik0 un0 tb0 tn sg s0 s1 pn pc P K0 K1 Rd n d mg L F V H locs ls hij hk hj hx0 hm0 hR0 hP hD hS hl
    refine law_head l hL Z hr hX hbl hfl hT hU (i := i) ⟨by omega, by omega⟩ ⟨by omega, by omega⟩ (fun h => ⟨by omega, by omega⟩) hx0 hm0 hR0 hP hD hS hl (fun h f1 x1 m1 nu_1 xt_1 ro_1 ke_1 ik_1 un_1 tb_1 tn_1 sg_1 s0_1 s1_1 pn_1 pc_1 P_1 K0_1 K1_1 Rd_1 n_1 d_1 mg_1 L_1 F_1 V_1 H locs ls hx1 hm1 hR1 hP hD hS hl => ?_)
    obtain ⟨i2, e2⟩ : ∃ y : Int32, y = i + 5 := ⟨_, rfl⟩
    have h5 : (5 : Int32).toInt = 5 := by decide +kernel
    have q2 : i2.toInt = i.toInt + 5 := by rw [e2, Int32.toInt_add, h5]; exact zi_bmod (by omega)
    refine lv_iinc (v := i2) (lv' := [(4, .int i2), (0, .ref b), (1, .ref xX), (2, .ref mA), (3, .ref zo)]) hx hb d_law_1067 hl (k := 4) rfl (by rw [e2]; rfl) (by decide) rfl (fun ls hl => ?_)
    refine lv_goto (tgt := 23) hx hb d_law_1070 (by decide) ?_
    refine W.widen (k := 211 + 5 * (j + 1)) (n := 90368 + 520 * (j + 1)) (by omega) (by omega) ?_
    exact ih (j + 1) i2 f1 x1 m1 nu_1 xt_1 ro_1 ke_1 ik_1 un_1 tb_1 tn_1 sg_1 s0_1 s1_1 pn_1 pc_1 P_1 K0_1 K1_1 Rd_1 n_1 d_1 mg_1 L_1 F_1 V_1 H locs ls (by omega) (by omega) (by omega) hx1 hm1 hR1 hP hD hS (lv_sub hl [1, 2, 3, 4, 0] rfl)
