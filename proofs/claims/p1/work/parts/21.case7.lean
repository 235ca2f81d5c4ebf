theorem d_Model_call_0 : decode prog_14_method_38_code 0 = .ok (.aload_n 0, 1) := by decide +kernel
theorem d_Model_call_1 : decode prog_14_method_38_code 1 = .ok (.aload_n 0, 1) := by decide +kernel
theorem d_Model_call_2 : decode prog_14_method_38_code 2 = .ok (.iload_n 1, 1) := by decide +kernel
theorem d_Model_call_3 : decode prog_14_method_38_code 3 = .ok (.invokevirtual 191, 3) := by decide +kernel
theorem d_Model_call_6 : decode prog_14_method_38_code 6 = .ok (.ifCond .eq 7, 3) := by decide +kernel
theorem d_Model_call_13 : decode prog_14_method_38_code 13 = .ok (.iconst 1, 1) := by decide +kernel
theorem d_Model_call_14 : decode prog_14_method_38_code 14 = .ok (.putfield 1, 3) := by decide +kernel
theorem d_Model_call_17 : decode prog_14_method_38_code 17 = .ok (.aload_n 0, 1) := by decide +kernel
theorem d_Model_call_18 : decode prog_14_method_38_code 18 = .ok (.getfield 1, 3) := by decide +kernel
theorem d_Model_call_21 : decode prog_14_method_38_code 21 = .ok (.iconst 1, 1) := by decide +kernel
theorem d_Model_call_22 : decode prog_14_method_38_code 22 = .ok (.if_icmp .ne 5, 3) := by decide +kernel
theorem d_Model_call_25 : decode prog_14_method_38_code 25 = .ok (.iconst 0, 1) := by decide +kernel
theorem d_Model_call_26 : decode prog_14_method_38_code 26 = .ok (.ireturn, 1) := by decide +kernel
abbrev m_c_Model_call : Room := { frames := 2, cells := 0, slots := 0, locals := 46 }
set_option maxHeartbeats 4000000 in
set_option maxRecDepth 100000 in
theorem c_Model_call (l : Launch) (G : zG) (b0 : Nat) (b1 : Int32) (b2 : Int32) (b3 : Int32) (b4 : Nat) (b5 : Nat) (b6 : Nat) (b7 : Nat) (b8 : Nat) (b9 : Nat) (b10 : Nat) (b11 : Nat) (b12 : Nat) (b13 : Nat) (b14 : Nat) (b15 : Nat) (b16 : Nat) (b17 : Nat) (b18 : Nat) (b19 : Nat) (b20 : Nat) (b21 : Nat) (b22 : Nat) (b23 : Nat) (b24 : Nat) (b25 : Nat) (b26 : Nat) (b27 : Nat) (b28 : Nat) (b29 : Nat) (b30 : Nat) (b31 : Nat) (b32 : Nat) (b33 : Nat) (b34 : Nat) (b35 : Nat) (b36 : Nat) (b37 : Nat) (b38 : Nat) (b39 : Nat) (b40 : Nat) (b41 : Nat) (b42 : Nat)  : zM l G y_Model_call prog_14_method_38_code 4 (Option.some Jvm.ClassFile.FieldType.int) m_c_Model_call [.ref b0, .int b1, .int b2, .int b3] [(b0, .inr (12, [.int 0, .ref b4, .ref b5, .ref b6, .ref b7, .int 0, .ref b8, .int 0, .int 0, .int 0, .int 0, .ref b9, .ref b10, .ref b11, .int 0, .ref b12, .ref b13, .ref b14, .ref b15, .ref b16, .ref b17, .ref b18, .ref b19, .ref b20, .ref b21, .ref b22, .ref b23, .int 0, .ref b24, .ref b25, .int 0, .int 0, .int 0, .int 0, .ref b26, .ref b27, .ref b28, .ref b29, .ref b30, .ref b31, .ref b32, .int 0, .ref b33, .ref b34, .int 0, .ref b35, .ref b36, .ref b37, .ref b38, .ref b39, .int 0, .ref b40, .ref b41, .ref b42])), (b4, .inl (G.2 0, 503, .inl (upd (fun _ => 0) 501 1)))] (fun v w => (v = some (.int 0) ∧ w = [(b0, .inr (12, [.int 1, .ref b4, .ref b5, .ref b6, .ref b7, .int 0, .ref b8, .int 0, .int 0, .int 0, .int 0, .ref b9, .ref b10, .ref b11, .int 0, .ref b12, .ref b13, .ref b14, .ref b15, .ref b16, .ref b17, .ref b18, .ref b19, .ref b20, .ref b21, .ref b22, .ref b23, .int 0, .ref b24, .ref b25, .int 0, .int 0, .int 0, .int 0, .ref b26, .ref b27, .ref b28, .ref b29, .ref b30, .ref b31, .ref b32, .int 0, .ref b33, .ref b34, .int 0, .ref b35, .ref b36, .ref b37, .ref b38, .ref b39, .int 0, .ref b40, .ref b41, .ref b42])), (b4, .inl (G.2 0, 503, .inl (upd (fun _ => 0) 501 1)))])) := by
  refine z_start (by decide +kernel) (Nat.le_of_ble_eq_true rfl) ?_
  intro p e s m below meth c A Z hr hnm hA hP hD hS ls hl
  have Z : zC p s m _ meth c prog_14_method_38_code 4 "TraceMachinesModel" G := Z
  obtain ⟨hx, hb, hml, hown, hts, hK, hN, hlocks⟩ := id Z
  have hl : lv_has ls 4 [(0, .ref b0), (1, .int b1), (2, .int b2), (3, .int b3)] := hl
  refine lv_aload_n hx hb d_Model_call_0 rfl (lv_at hl 0 rfl) ?_
  refine lv_aload_n hx hb d_Model_call_1 rfl (lv_at hl 0 rfl) ?_
  refine lv_iload_n hx hb d_Model_call_2 rfl (lv_at hl 1 rfl) ?_
  refine z_callV (index := 191) (As := [.int b1]) (rest := [.ref b0]) (wr := []) Z (c1_Model_isTrace l G (b0) (b1) (b4) (b5) (b6) (b7) (b8) (b9) (b10) (b11) (b12) (b13) (b14) (b15) (b16) (b17) (b18) (b19) (b20) (b21) (b22) (b23) (b24) (b25) (b26) (b27) (b28) (b29) (b30) (b31) (b32) (b33) (b34) (b35) (b36) (b37) (b38) (b39) (b40) (b41) (b42)) hl.1 q1332 q1334 qs52 q14 q1335 ⟨by decide, by decide, by show _ = some 1; decide +kernel⟩ ⟨Nat.le_of_ble_eq_true rfl, Nat.le_of_ble_eq_true rfl⟩ ⟨Nat.le_of_ble_eq_true rfl, Nat.le_of_ble_eq_true rfl⟩ rfl (Nat.le_of_ble_eq_true rfl) d_Model_call_3 hP hD hS hA 0 12 rfl rfl rfl [0, 1] [] rfl rfl rfl rfl (by decide) (fun v w1 H locs hw_1 hP hD hS => ?_)
  obtain ⟨rfl, rfl⟩ := hw_1
  have hP : va_P G.1 classes [(b0, .inr (12, [.int 0, .ref b4, .ref b5, .ref b6, .ref b7, .int 0, .ref b8, .int 0, .int 0, .int 0, .int 0, .ref b9, .ref b10, .ref b11, .int 0, .ref b12, .ref b13, .ref b14, .ref b15, .ref b16, .ref b17, .ref b18, .ref b19, .ref b20, .ref b21, .ref b22, .ref b23, .int 0, .ref b24, .ref b25, .int 0, .int 0, .int 0, .int 0, .ref b26, .ref b27, .ref b28, .ref b29, .ref b30, .ref b31, .ref b32, .int 0, .ref b33, .ref b34, .int 0, .ref b35, .ref b36, .ref b37, .ref b38, .ref b39, .int 0, .ref b40, .ref b41, .ref b42])), (b4, .inl (G.2 0, 503, .inl (upd (fun _ => 0) 501 1)))] H := hP
  have hD := z_tie hP hD rfl
  refine W.widen (k := 0) (n := 0) (Nat.le_of_ble_eq_true rfl) (Nat.le_of_ble_eq_true rfl) ?_
  refine lv_if_eq (tgt := 13) hx hb d_Model_call_6 (by decide) (fun _ => ?_) (fun hc => absurd hc (by decide +kernel))
  refine lv_iconst (v := 1) hx hb d_Model_call_13 (by decide) ?_
  refine va_put (D := G.1) (ci := 12) (v := .int 1) (ty := .int) (C := R_Model) (T := F_Model) (N := 54) hx hb hts i_Model t_Model t_Model_ok n_Model hown hK hP hD hS 0 rfl rfl 0 (by decide) (hts _ q1113) (fun _ h9 => h9) rfl (by decide +kernel) rfl rfl (Nat.le_of_ble_eq_true rfl) d_Model_call_14 (fun H locs hP hD hS => ?_)
  have hP : va_P G.1 classes [(b0, .inr (12, [.int 1, .ref b4, .ref b5, .ref b6, .ref b7, .int 0, .ref b8, .int 0, .int 0, .int 0, .int 0, .ref b9, .ref b10, .ref b11, .int 0, .ref b12, .ref b13, .ref b14, .ref b15, .ref b16, .ref b17, .ref b18, .ref b19, .ref b20, .ref b21, .ref b22, .ref b23, .int 0, .ref b24, .ref b25, .int 0, .int 0, .int 0, .int 0, .ref b26, .ref b27, .ref b28, .ref b29, .ref b30, .ref b31, .ref b32, .int 0, .ref b33, .ref b34, .int 0, .ref b35, .ref b36, .ref b37, .ref b38, .ref b39, .int 0, .ref b40, .ref b41, .ref b42])), (b4, .inl (G.2 0, 503, .inl (upd (fun _ => 0) 501 1)))] H := hP
  have hD := z_tie hP hD rfl
  refine lv_aload_n hx hb d_Model_call_17 rfl (lv_at hl 0 rfl) ?_
  refine va_get (D := G.1) (ci := 12) (v := .int 1) (C := R_Model) (T := F_Model) (N := 54) hx hb hts i_Model hown hK hP 0 rfl rfl 0 (by decide) (hts _ q1113) (fun _ h9 => h9) rfl d_Model_call_18 ?_
  refine lv_iconst (v := 1) hx hb d_Model_call_21 (by decide) ?_
  refine lv_icmp_ne (tgt := 27) hx hb d_Model_call_22 (by decide) (fun hc => absurd hc (by decide +kernel)) (fun _ => ?_)
  refine lv_iconst (v := 0) hx hb d_Model_call_25 (by decide) ?_
  exact z_iret hx hb hr hlocks hP hD hS (Nat.le_of_ble_eq_true rfl) (Nat.le_of_ble_eq_true rfl) d_Model_call_26 ⟨rfl, rfl⟩
theorem d_Model_thrown_0 : decode prog_14_method_1_code 0 = .ok (.aload_n 0, 1) := by decide +kernel
theorem d_Model_thrown_1 : decode prog_14_method_1_code 1 = .ok (.getfield 1, 3) := by decide +kernel
theorem d_Model_thrown_4 : decode prog_14_method_1_code 4 = .ok (.ireturn, 1) := by decide +kernel
abbrev m_c1_Model_thrown : Room := { frames := 0, cells := 0, slots := 0, locals := 0 }
set_option maxHeartbeats 4000000 in
set_option maxRecDepth 100000 in
theorem c1_Model_thrown (l : Launch) (G : zG) (b0 : Nat) (b1 : Nat) (b2 : Nat) (b3 : Nat) (b4 : Nat) (b5 : Nat) (b6 : Nat) (b7 : Nat) (b8 : Nat) (b9 : Nat) (b10 : Nat) (b11 : Nat) (b12 : Nat) (b13 : Nat) (b14 : Nat) (b15 : Nat) (b16 : Nat) (b17 : Nat) (b18 : Nat) (b19 : Nat) (b20 : Nat) (b21 : Nat) (b22 : Nat) (b23 : Nat) (b24 : Nat) (b25 : Nat) (b26 : Nat) (b27 : Nat) (b28 : Nat) (b29 : Nat) (b30 : Nat) (b31 : Nat) (b32 : Nat) (b33 : Nat) (b34 : Nat) (b35 : Nat) (b36 : Nat) (b37 : Nat) (b38 : Nat) (b39 : Nat)  : zM l G y_Model_thrown prog_14_method_1_code 1 (Option.some Jvm.ClassFile.FieldType.int) m_c1_Model_thrown [.ref b0] [(b0, .inr (12, [.int 1, .ref b1, .ref b2, .ref b3, .ref b4, .int 0, .ref b5, .int 0, .int 0, .int 0, .int 0, .ref b6, .ref b7, .ref b8, .int 0, .ref b9, .ref b10, .ref b11, .ref b12, .ref b13, .ref b14, .ref b15, .ref b16, .ref b17, .ref b18, .ref b19, .ref b20, .int 0, .ref b21, .ref b22, .int 0, .int 0, .int 0, .int 0, .ref b23, .ref b24, .ref b25, .ref b26, .ref b27, .ref b28, .ref b29, .int 0, .ref b30, .ref b31, .int 0, .ref b32, .ref b33, .ref b34, .ref b35, .ref b36, .int 0, .ref b37, .ref b38, .ref b39]))] (fun v w => (v = some (.int 1) ∧ w = [(b0, .inr (12, [.int 1, .ref b1, .ref b2, .ref b3, .ref b4, .int 0, .ref b5, .int 0, .int 0, .int 0, .int 0, .ref b6, .ref b7, .ref b8, .int 0, .ref b9, .ref b10, .ref b11, .ref b12, .ref b13, .ref b14, .ref b15, .ref b16, .ref b17, .ref b18, .ref b19, .ref b20, .int 0, .ref b21, .ref b22, .int 0, .int 0, .int 0, .int 0, .ref b23, .ref b24, .ref b25, .ref b26, .ref b27, .ref b28, .ref b29, .int 0, .ref b30, .ref b31, .int 0, .ref b32, .ref b33, .ref b34, .ref b35, .ref b36, .int 0, .ref b37, .ref b38, .ref b39]))])) := by
  refine z_start (by decide +kernel) (Nat.le_of_ble_eq_true rfl) ?_
  intro p e s m below meth c A Z hr hnm hA hP hD hS ls hl
  have Z : zC p s m _ meth c prog_14_method_1_code 1 "TraceMachinesModel" G := Z
  obtain ⟨hx, hb, hml, hown, hts, hK, hN, hlocks⟩ := id Z
  have hl : lv_has ls 1 [(0, .ref b0)] := hl
  refine lv_aload_n hx hb d_Model_thrown_0 rfl (lv_at hl 0 rfl) ?_
  refine va_get (D := G.1) (ci := 12) (v := .int 1) (C := R_Model) (T := F_Model) (N := 54) hx hb hts i_Model hown hK hP 0 rfl rfl 0 (by decide) (hts _ q1113) (fun _ h9 => h9) rfl d_Model_thrown_1 ?_
  exact z_iret hx hb hr hlocks hP hD hS (Nat.le_of_ble_eq_true rfl) (Nat.le_of_ble_eq_true rfl) d_Model_thrown_4 ⟨rfl, rfl⟩
theorem d_law_315 : decode code 315 = .ok (.aload_n 1, 1) := by decide +kernel
theorem d_law_316 : decode code 316 = .ok (.aload_n 0, 1) := by decide +kernel
theorem d_law_317 : decode code 317 = .ok (.iload 4, 2) := by decide +kernel
theorem d_law_319 : decode code 319 = .ok (.iconst 1, 1) := by decide +kernel
theorem d_law_320 : decode code 320 = .ok (.iadd, 1) := by decide +kernel
theorem d_law_321 : decode code 321 = .ok (.iaload, 1) := by decide +kernel
theorem d_law_322 : decode code 322 = .ok (.aload_n 0, 1) := by decide +kernel
theorem d_law_323 : decode code 323 = .ok (.iload 4, 2) := by decide +kernel
theorem d_law_325 : decode code 325 = .ok (.iconst 2, 1) := by decide +kernel
theorem d_law_326 : decode code 326 = .ok (.iadd, 1) := by decide +kernel
theorem d_law_327 : decode code 327 = .ok (.iaload, 1) := by decide +kernel
theorem d_law_328 : decode code 328 = .ok (.aload_n 0, 1) := by decide +kernel
theorem d_law_329 : decode code 329 = .ok (.iload 4, 2) := by decide +kernel
theorem d_law_331 : decode code 331 = .ok (.iconst 3, 1) := by decide +kernel
theorem d_law_332 : decode code 332 = .ok (.iadd, 1) := by decide +kernel
theorem d_law_333 : decode code 333 = .ok (.iaload, 1) := by decide +kernel
theorem d_law_334 : decode code 334 = .ok (.aload_n 3, 1) := by decide +kernel
theorem d_law_335 : decode code 335 = .ok (.invokestatic 50, 3) := by decide +kernel
theorem d_law_338 : decode code 338 = .ok (.istore 5, 2) := by decide +kernel
theorem d_law_340 : decode code 340 = .ok (.aload_n 2, 1) := by decide +kernel
theorem d_law_341 : decode code 341 = .ok (.aload_n 0, 1) := by decide +kernel
theorem d_law_342 : decode code 342 = .ok (.iload 4, 2) := by decide +kernel
theorem d_law_344 : decode code 344 = .ok (.iconst 1, 1) := by decide +kernel
theorem d_law_345 : decode code 345 = .ok (.iadd, 1) := by decide +kernel
theorem d_law_346 : decode code 346 = .ok (.iaload, 1) := by decide +kernel
theorem d_law_347 : decode code 347 = .ok (.aload_n 0, 1) := by decide +kernel
theorem d_law_348 : decode code 348 = .ok (.iload 4, 2) := by decide +kernel
theorem d_law_350 : decode code 350 = .ok (.iconst 2, 1) := by decide +kernel
theorem d_law_351 : decode code 351 = .ok (.iadd, 1) := by decide +kernel
theorem d_law_352 : decode code 352 = .ok (.iaload, 1) := by decide +kernel
theorem d_law_353 : decode code 353 = .ok (.aload_n 0, 1) := by decide +kernel
theorem d_law_354 : decode code 354 = .ok (.iload 4, 2) := by decide +kernel
theorem d_law_356 : decode code 356 = .ok (.iconst 3, 1) := by decide +kernel
theorem d_law_357 : decode code 357 = .ok (.iadd, 1) := by decide +kernel
theorem d_law_358 : decode code 358 = .ok (.iaload, 1) := by decide +kernel
theorem d_law_359 : decode code 359 = .ok (.invokevirtual 55, 3) := by decide +kernel
theorem d_law_362 : decode code 362 = .ok (.istore 6, 2) := by decide +kernel
theorem d_law_364 : decode code 364 = .ok (.aload_n 2, 1) := by decide +kernel
theorem d_law_365 : decode code 365 = .ok (.invokevirtual 56, 3) := by decide +kernel
theorem d_law_368 : decode code 368 = .ok (.iload 5, 2) := by decide +kernel
theorem d_law_370 : decode code 370 = .ok (.if_icmp .eq 5, 3) := by decide +kernel
theorem d_law_375 : decode code 375 = .ok (.iload 5, 2) := by decide +kernel
theorem d_law_377 : decode code 377 = .ok (.ifCond .ne 15, 3) := by decide +kernel
theorem d_law_392 : decode code 392 = .ok (.goto 703, 3) := by decide +kernel
set_option maxRecDepth 100000 in
set_option maxHeartbeats 4000000 in
theorem law_7 {p : Program} {e : Env} {s : State} {m : MethodId} {below : List Frame} {meth : Method} {c : Code} (l : Launch) {b : Nat} {xs : Nat → Int32} {G : zG} (Z : zC p s m #[Value.ref b] meth c code 7 "TraceMachinesLaw" G) (hr : meth.sig.returnType = ret) (hX : va_X b 5 xs s s.heap) (hbl : b < s.heap.size) (hfl : l.stackTraces = false) (hT : zTh s) (hU : zU (fun q : Nat => s.heap.size ≤ q) s s.heap) (q : Nat → Nat) {H : Heap} {locs : List Loc} {ls : Array Slot} (hP : va_P G.1 classes (lawW G q) H) (hD : va_D (fun q : Nat => s.heap.size ≤ q) (lawW G q)) (hS : va_S (fun q : Nat => s.heap.size ≤ q) s.heap H locs) (hl : lv_has ls 7 [(4, .int 0), (3, .ref (q 210)), (2, .ref (q 170)), (1, .ref (q 0)), (0, .ref b)]) : W p l e room_1 s m #[Value.ref b] below meth c H locs 211 90368 (lw_Z below #[Value.ref b] s) (F0 m 315 ls []) := by
  obtain ⟨hx, hb, hml, hown, hts, hK, hN, hlocks⟩ := id Z
  have hbA : ¬ (fun q : Nat => s.heap.size ≤ q) b := Nat.not_le.mpr hbl
  have hA : ∀ q : Nat, s.heap.size ≤ q → (fun q : Nat => s.heap.size ≤ q) q := fun _ h => h
  refine lv_aload_n hx hb d_law_315 rfl (lv_at hl 3 rfl) ?_
  refine lv_aload_n hx hb d_law_316 rfl (lv_at hl 4 rfl) ?_
  refine lv_iload hx hb d_law_317 (lv_at hl 0 rfl) ?_
  refine lv_iconst (v := 1) hx hb d_law_319 (by decide) ?_
  refine lv_iadd hx hb d_law_320 ?_
  refine z_topi (y := 1) (by decide +kernel) ?_
  refine va_sld hx hb hX hbl hbA hS (i := 1) (z_in rfl) d_law_321 ?_
  refine z_topi (y := (xs 1)) (congrArg xs (by decide +kernel)) ?_
  refine lv_aload_n hx hb d_law_322 rfl (lv_at hl 4 rfl) ?_
  refine lv_iload hx hb d_law_323 (lv_at hl 0 rfl) ?_
  refine lv_iconst (v := 2) hx hb d_law_325 (by decide) ?_
  refine lv_iadd hx hb d_law_326 ?_
  refine z_topi (y := 2) (by decide +kernel) ?_
  refine va_sld hx hb hX hbl hbA hS (i := 2) (z_in rfl) d_law_327 ?_
  refine z_topi (y := (xs 2)) (congrArg xs (by decide +kernel)) ?_
  refine lv_aload_n hx hb d_law_328 rfl (lv_at hl 4 rfl) ?_
  refine lv_iload hx hb d_law_329 (lv_at hl 0 rfl) ?_
  refine lv_iconst (v := 3) hx hb d_law_331 (by decide) ?_
  refine lv_iadd hx hb d_law_332 ?_
  refine z_topi (y := 3) (by decide +kernel) ?_
  refine va_sld hx hb hX hbl hbA hS (i := 3) (z_in rfl) d_law_333 ?_
  refine z_topi (y := (xs 3)) (congrArg xs (by decide +kernel)) ?_
  refine lv_aload_n hx hb d_law_334 rfl (lv_at hl 1 rfl) ?_
  have hpre := zx_pre (av := [.ref (q 0), .int (xs 1), .int (xs 2), .int (xs 3), .ref (q 210)]) (wc := [((q 0), .inr (0, [.ref (q 1), .ref (q 3), .ref (q 7), .ref (q 11), .int 0, .int 0, .ref (q 12), .ref (q 13), .ref (q 22), .ref (q 26), .ref (q 27), .ref (q 36), .ref (q 49), .ref (q 168), .ref (q 52), .ref (q 67), .ref (q 78), .ref (q 80), .ref (q 81), .ref (q 169)])), ((q 3), .inr (2, [.int 0, .int 1, .int 0, .ref (q 4), .ref (q 5), .ref (q 6)]))]) (z_sub hP [0, 3] rfl) ((hD.sub [0, 3] rfl rfl).weaken (fun _ _ _ _ => trivial)) hK hN hT (hU.to hS (va_free (wc := [((q 0), .inr (0, [.ref (q 1), .ref (q 3), .ref (q 7), .ref (q 11), .int 0, .int 0, .ref (q 12), .ref (q 13), .ref (q 22), .ref (q 26), .ref (q 27), .ref (q 36), .ref (q 49), .ref (q 168), .ref (q 52), .ref (q 67), .ref (q 78), .ref (q 80), .ref (q 81), .ref (q 169)])), ((q 3), .inr (2, [.int 0, .int 1, .int 0, .ref (q 4), .ref (q 5), .ref (q 6)]))]) hD hS hA [0, 3] rfl))
  refine z_on (rm := m_zl_call) (wr := [((q 170), .inr (12, [.int 0, .ref (q 171), .ref (q 172), .ref (q 173), .ref (q 174), .int 0, .ref (q 175), .int 0, .int 0, .int 0, .int 0, .ref (q 176), .ref (q 177), .ref (q 178), .int 0, .ref (q 179), .ref (q 180), .ref (q 181), .ref (q 182), .ref (q 183), .ref (q 184), .ref (q 185), .ref (q 186), .ref (q 187), .ref (q 188), .ref (q 189), .ref (q 190), .int 0, .ref (q 191), .ref (q 192), .int 0, .int 0, .int 0, .int 0, .ref (q 193), .ref (q 194), .ref (q 195), .ref (q 196), .ref (q 197), .ref (q 198), .ref (q 199), .int 0, .ref (q 200), .ref (q 201), .int 0, .ref (q 202), .ref (q 203), .ref (q 204), .ref (q 205), .ref (q 206), .int 0, .ref (q 207), .ref (q 208), .ref (q 209)])), ((q 171), .inl (G.2 0, 503, .inl (upd (fun _ => 0) 501 1))), ((q 172), .inl (G.2 0, 1006, .inl (fun _ => 0))), ((q 173), .inl (G.2 4, 2, .inl (fun _ => 0))), ((q 174), .inl (G.2 0, 4024, .inl (fun _ => 0))), ((q 175), .inl (G.2 3, 240, .inl (fun _ => 0))), ((q 176), .inl (G.2 0, 503, .inl (fun _ => 0))), ((q 177), .inl (G.2 0, 12, .inl (fun _ => 0))), ((q 178), .inl (G.2 0, 12, .inl (fun _ => 0))), ((q 179), .inl (G.2 0, 2, .inl (fun _ => 0))), ((q 180), .inl (G.2 0, 4820, .inl (fun _ => 0))), ((q 181), .inl (G.2 0, 520, .inl (fun _ => 0))), ((q 182), .inl (G.2 0, 9640, .inl (fun _ => 0))), ((q 183), .inl (G.2 0, 482, .inl (fun _ => 0))), ((q 184), .inl (G.2 0, 482, .inl (fun _ => 0))), ((q 185), .inl (G.2 0, 2, .inl (fun _ => 0))), ((q 186), .inl (G.2 0, 482, .inl (fun _ => 0))), ((q 187), .inl (G.2 0, 482, .inl (fun _ => 0))), ((q 188), .inl (G.2 0, 482, .inl (fun _ => 0))), ((q 189), .inl (G.2 0, 2, .inl (fun _ => 0))), ((q 190), .inl (G.2 0, 2880, .inl (fun _ => 0))), ((q 191), .inl (G.2 1, 4, .inr (.inl (fun _ => 0)))), ((q 192), .inl (G.2 1, 4, .inr (.inl (fun _ => 0)))), ((q 193), .inl (G.2 1, 4096, .inr (.inl (fun _ => 0)))), ((q 194), .inl (G.2 1, 4096, .inr (.inl (fun _ => 0)))), ((q 195), .inl (G.2 1, 80, .inr (.inl (fun _ => 0)))), ((q 196), .inl (G.2 1, 241, .inr (.inl (fun _ => 0)))), ((q 197), .inl (G.2 1, 241, .inr (.inl (fun _ => 0)))), ((q 198), .inl (G.2 1, 4004, .inr (.inl (fun _ => 0)))), ((q 199), .inl (G.2 0, 1001, .inl (fun _ => 0))), ((q 200), .inl (G.2 1, 4004, .inr (.inl (fun _ => 0)))), ((q 201), .inl (G.2 0, 1001, .inl (fun _ => 0))), ((q 202), .inl (G.2 1, 3208, .inr (.inl (fun _ => 0)))), ((q 203), .inl (G.2 0, 401, .inl (fun _ => 0))), ((q 204), .inl (G.2 0, 401, .inl (fun _ => 0))), ((q 205), .inl (G.2 0, 401, .inl (fun _ => 0))), ((q 206), .inl (G.2 1, 8, .inr (.inl (fun _ => 0)))), ((q 207), .inl (G.2 0, 12, .inl (fun _ => 0))), ((q 208), .inl (G.2 0, 20, .inl (fun _ => 0))), ((q 209), .inl (G.2 0, 20, .inl (fun _ => 0)))]) (av := [.ref (q 0), .int (xs 1), .int (xs 2), .int (xs 3), .ref (q 210)]) (vx_runSW (As := [.ref (q 0), .int (xs 1), .int (xs 2), .int (xs 3), .ref (q 210)]) (rest := []) (index := 50) ⟨hx, hb, hml, hown, hts⟩ (zl_call l hfl G ((q 0)) ((q 1)) ((q 3)) ((q 7)) ((q 11)) ((q 12)) ((q 13)) ((q 22)) ((q 26)) ((q 27)) ((q 36)) ((q 49)) ((q 168)) ((q 52)) ((q 67)) ((q 78)) ((q 80)) ((q 81)) ((q 169)) ((q 4)) ((q 5)) ((q 6)) ((xs 1)) ((xs 2)) ((xs 3)) ((q 210)) H.size) (vx_cwSW (Ts := zW) (bytes := method_3_code) (maxL := 6) (ret := some .int) (hh := [(0, 12, 15, 13)]) 5 hts (zW_good _ (fun w hw => ?_)) rfl rfl rfl ⟨by decide, by decide, by decide +kernel⟩ ⟨Nat.le_of_ble_eq_true rfl, Nat.le_of_ble_eq_true rfl⟩) hpre rfl rfl hl.1 rfl (lv_room (Nat.le_of_ble_eq_true rfl)) d_law_335 ⟨Nat.le_of_ble_eq_true rfl, Nat.le_of_ble_eq_true rfl⟩) hP hD hS hA [0, 3] [170, 171, 172, 173, 174, 175, 176, 177, 178, 179, 180, 181, 182, 183, 184, 185, 186, 187, 188, 189, 190, 191, 192, 193, 194, 195, 196, 197, 198, 199, 200, 201, 202, 203, 204, 205, 206, 207, 208, 209] rfl rfl rfl (by decide) (fun v w1 H locs hw_1 hP hD hS => ?_)
  · rcases List.mem_append.mp hw with h | h
    · rcases List.mem_cons.mp h with rfl | h
      · exact q1026
      · rcases List.mem_cons.mp h with rfl | h
        · exact q1027
        · rcases List.mem_cons.mp h with rfl | h
          · exact q0
          · cases h
    · rcases List.mem_cons.mp h with rfl | h
      · exact q_lcall
      · exact h
  subst hw_1
  refine W.widen (k := 212) (n := 90374) (Nat.le_of_ble_eq_true rfl) (Nat.le_of_ble_eq_true rfl) ?_
  refine W.eq (g2 := F0 m 338 ls [.int 1]) rfl ?_
  refine lv_istore (lv' := [(5, .int 1), (4, .int 0), (3, .ref (q 210)), (2, .ref (q 170)), (1, .ref (q 0)), (0, .ref b)]) hx hb d_law_338 hl (by decide) rfl (fun ls hl => ?_)
  refine lv_aload_n hx hb d_law_340 rfl (lv_at hl 3 rfl) ?_
  refine lv_aload_n hx hb d_law_341 rfl (lv_at hl 5 rfl) ?_
  refine lv_iload hx hb d_law_342 (lv_at hl 1 rfl) ?_
  refine lv_iconst (v := 1) hx hb d_law_344 (by decide) ?_
  refine lv_iadd hx hb d_law_345 ?_
  refine z_topi (y := 1) (by decide +kernel) ?_
  refine va_sld hx hb hX hbl hbA hS (i := 1) (z_in rfl) d_law_346 ?_
  refine z_topi (y := (xs 1)) (congrArg xs (by decide +kernel)) ?_
  refine lv_aload_n hx hb d_law_347 rfl (lv_at hl 5 rfl) ?_
  refine lv_iload hx hb d_law_348 (lv_at hl 1 rfl) ?_
  refine lv_iconst (v := 2) hx hb d_law_350 (by decide) ?_
  refine lv_iadd hx hb d_law_351 ?_
  refine z_topi (y := 2) (by decide +kernel) ?_
  refine va_sld hx hb hX hbl hbA hS (i := 2) (z_in rfl) d_law_352 ?_
  refine z_topi (y := (xs 2)) (congrArg xs (by decide +kernel)) ?_
  refine lv_aload_n hx hb d_law_353 rfl (lv_at hl 5 rfl) ?_
  refine lv_iload hx hb d_law_354 (lv_at hl 1 rfl) ?_
  refine lv_iconst (v := 3) hx hb d_law_356 (by decide) ?_
  refine lv_iadd hx hb d_law_357 ?_
  refine z_topi (y := 3) (by decide +kernel) ?_
  refine va_sld hx hb hX hbl hbA hS (i := 3) (z_in rfl) d_law_358 ?_
  refine z_topi (y := (xs 3)) (congrArg xs (by decide +kernel)) ?_
  refine z_callV (index := 55) (As := [.int (xs 1), .int (xs 2), .int (xs 3)]) (rest := []) (wr := [((q 172), .inl (G.2 0, 1006, .inl (fun _ => 0))), ((q 173), .inl (G.2 4, 2, .inl (fun _ => 0))), ((q 174), .inl (G.2 0, 4024, .inl (fun _ => 0))), ((q 175), .inl (G.2 3, 240, .inl (fun _ => 0))), ((q 176), .inl (G.2 0, 503, .inl (fun _ => 0))), ((q 177), .inl (G.2 0, 12, .inl (fun _ => 0))), ((q 178), .inl (G.2 0, 12, .inl (fun _ => 0))), ((q 179), .inl (G.2 0, 2, .inl (fun _ => 0))), ((q 180), .inl (G.2 0, 4820, .inl (fun _ => 0))), ((q 181), .inl (G.2 0, 520, .inl (fun _ => 0))), ((q 182), .inl (G.2 0, 9640, .inl (fun _ => 0))), ((q 183), .inl (G.2 0, 482, .inl (fun _ => 0))), ((q 184), .inl (G.2 0, 482, .inl (fun _ => 0))), ((q 185), .inl (G.2 0, 2, .inl (fun _ => 0))), ((q 186), .inl (G.2 0, 482, .inl (fun _ => 0))), ((q 187), .inl (G.2 0, 482, .inl (fun _ => 0))), ((q 188), .inl (G.2 0, 482, .inl (fun _ => 0))), ((q 189), .inl (G.2 0, 2, .inl (fun _ => 0))), ((q 190), .inl (G.2 0, 2880, .inl (fun _ => 0))), ((q 191), .inl (G.2 1, 4, .inr (.inl (fun _ => 0)))), ((q 192), .inl (G.2 1, 4, .inr (.inl (fun _ => 0)))), ((q 193), .inl (G.2 1, 4096, .inr (.inl (fun _ => 0)))), ((q 194), .inl (G.2 1, 4096, .inr (.inl (fun _ => 0)))), ((q 195), .inl (G.2 1, 80, .inr (.inl (fun _ => 0)))), ((q 196), .inl (G.2 1, 241, .inr (.inl (fun _ => 0)))), ((q 197), .inl (G.2 1, 241, .inr (.inl (fun _ => 0)))), ((q 198), .inl (G.2 1, 4004, .inr (.inl (fun _ => 0)))), ((q 199), .inl (G.2 0, 1001, .inl (fun _ => 0))), ((q 200), .inl (G.2 1, 4004, .inr (.inl (fun _ => 0)))), ((q 201), .inl (G.2 0, 1001, .inl (fun _ => 0))), ((q 202), .inl (G.2 1, 3208, .inr (.inl (fun _ => 0)))), ((q 203), .inl (G.2 0, 401, .inl (fun _ => 0))), ((q 204), .inl (G.2 0, 401, .inl (fun _ => 0))), ((q 205), .inl (G.2 0, 401, .inl (fun _ => 0))), ((q 206), .inl (G.2 1, 8, .inr (.inl (fun _ => 0)))), ((q 207), .inl (G.2 0, 12, .inl (fun _ => 0))), ((q 208), .inl (G.2 0, 20, .inl (fun _ => 0))), ((q 209), .inl (G.2 0, 20, .inl (fun _ => 0)))]) Z (c_Model_call l G ((q 170)) ((xs 1)) ((xs 2)) ((xs 3)) ((q 171)) ((q 172)) ((q 173)) ((q 174)) ((q 175)) ((q 176)) ((q 177)) ((q 178)) ((q 179)) ((q 180)) ((q 181)) ((q 182)) ((q 183)) ((q 184)) ((q 185)) ((q 186)) ((q 187)) ((q 188)) ((q 189)) ((q 190)) ((q 191)) ((q 192)) ((q 193)) ((q 194)) ((q 195)) ((q 196)) ((q 197)) ((q 198)) ((q 199)) ((q 200)) ((q 201)) ((q 202)) ((q 203)) ((q 204)) ((q 205)) ((q 206)) ((q 207)) ((q 208)) ((q 209))) hl.1 q1352 q1353 q1354 q14 q1355 ⟨by decide, by decide, by show _ = some 3; decide +kernel⟩ ⟨Nat.le_of_ble_eq_true rfl, Nat.le_of_ble_eq_true rfl⟩ ⟨Nat.le_of_ble_eq_true rfl, Nat.le_of_ble_eq_true rfl⟩ rfl (Nat.le_of_ble_eq_true rfl) d_law_359 hP hD hS hA 0 12 rfl rfl rfl [0, 1] [2, 3, 4, 5, 6, 7, 8, 9, 10, 11, 12, 13, 14, 15, 16, 17, 18, 19, 20, 21, 22, 23, 24, 25, 26, 27, 28, 29, 30, 31, 32, 33, 34, 35, 36, 37, 38, 39] rfl rfl rfl rfl (by decide) (fun v w1 H locs hw_2 hP hD hS => ?_)
  obtain ⟨rfl, rfl⟩ := hw_2
  have hP : va_P G.1 classes [((q 172), .inl (G.2 0, 1006, .inl (fun _ => 0))), ((q 173), .inl (G.2 4, 2, .inl (fun _ => 0))), ((q 174), .inl (G.2 0, 4024, .inl (fun _ => 0))), ((q 175), .inl (G.2 3, 240, .inl (fun _ => 0))), ((q 176), .inl (G.2 0, 503, .inl (fun _ => 0))), ((q 177), .inl (G.2 0, 12, .inl (fun _ => 0))), ((q 178), .inl (G.2 0, 12, .inl (fun _ => 0))), ((q 179), .inl (G.2 0, 2, .inl (fun _ => 0))), ((q 180), .inl (G.2 0, 4820, .inl (fun _ => 0))), ((q 181), .inl (G.2 0, 520, .inl (fun _ => 0))), ((q 182), .inl (G.2 0, 9640, .inl (fun _ => 0))), ((q 183), .inl (G.2 0, 482, .inl (fun _ => 0))), ((q 184), .inl (G.2 0, 482, .inl (fun _ => 0))), ((q 185), .inl (G.2 0, 2, .inl (fun _ => 0))), ((q 186), .inl (G.2 0, 482, .inl (fun _ => 0))), ((q 187), .inl (G.2 0, 482, .inl (fun _ => 0))), ((q 188), .inl (G.2 0, 482, .inl (fun _ => 0))), ((q 189), .inl (G.2 0, 2, .inl (fun _ => 0))), ((q 190), .inl (G.2 0, 2880, .inl (fun _ => 0))), ((q 191), .inl (G.2 1, 4, .inr (.inl (fun _ => 0)))), ((q 192), .inl (G.2 1, 4, .inr (.inl (fun _ => 0)))), ((q 193), .inl (G.2 1, 4096, .inr (.inl (fun _ => 0)))), ((q 194), .inl (G.2 1, 4096, .inr (.inl (fun _ => 0)))), ((q 195), .inl (G.2 1, 80, .inr (.inl (fun _ => 0)))), ((q 196), .inl (G.2 1, 241, .inr (.inl (fun _ => 0)))), ((q 197), .inl (G.2 1, 241, .inr (.inl (fun _ => 0)))), ((q 198), .inl (G.2 1, 4004, .inr (.inl (fun _ => 0)))), ((q 199), .inl (G.2 0, 1001, .inl (fun _ => 0))), ((q 200), .inl (G.2 1, 4004, .inr (.inl (fun _ => 0)))), ((q 201), .inl (G.2 0, 1001, .inl (fun _ => 0))), ((q 202), .inl (G.2 1, 3208, .inr (.inl (fun _ => 0)))), ((q 203), .inl (G.2 0, 401, .inl (fun _ => 0))), ((q 204), .inl (G.2 0, 401, .inl (fun _ => 0))), ((q 205), .inl (G.2 0, 401, .inl (fun _ => 0))), ((q 206), .inl (G.2 1, 8, .inr (.inl (fun _ => 0)))), ((q 207), .inl (G.2 0, 12, .inl (fun _ => 0))), ((q 208), .inl (G.2 0, 20, .inl (fun _ => 0))), ((q 209), .inl (G.2 0, 20, .inl (fun _ => 0))), ((q 170), .inr (12, [.int 1, .ref (q 171), .ref (q 172), .ref (q 173), .ref (q 174), .int 0, .ref (q 175), .int 0, .int 0, .int 0, .int 0, .ref (q 176), .ref (q 177), .ref (q 178), .int 0, .ref (q 179), .ref (q 180), .ref (q 181), .ref (q 182), .ref (q 183), .ref (q 184), .ref (q 185), .ref (q 186), .ref (q 187), .ref (q 188), .ref (q 189), .ref (q 190), .int 0, .ref (q 191), .ref (q 192), .int 0, .int 0, .int 0, .int 0, .ref (q 193), .ref (q 194), .ref (q 195), .ref (q 196), .ref (q 197), .ref (q 198), .ref (q 199), .int 0, .ref (q 200), .ref (q 201), .int 0, .ref (q 202), .ref (q 203), .ref (q 204), .ref (q 205), .ref (q 206), .int 0, .ref (q 207), .ref (q 208), .ref (q 209)])), ((q 171), .inl (G.2 0, 503, .inl (upd (fun _ => 0) 501 1)))] H := hP
  have hD := z_tie hP hD rfl
  refine W.widen (k := 212) (n := 90374) (Nat.le_of_ble_eq_true rfl) (Nat.le_of_ble_eq_true rfl) ?_
  refine lv_istore (lv' := [(6, .int 0), (5, .int 1), (4, .int 0), (3, .ref (q 210)), (2, .ref (q 170)), (1, .ref (q 0)), (0, .ref b)]) hx hb d_law_362 hl (by decide) rfl (fun ls hl => ?_)
  refine lv_aload_n hx hb d_law_364 rfl (lv_at hl 4 rfl) ?_
  refine z_callV (index := 56) (As := []) (rest := []) (wr := [((q 172), .inl (G.2 0, 1006, .inl (fun _ => 0))), ((q 173), .inl (G.2 4, 2, .inl (fun _ => 0))), ((q 174), .inl (G.2 0, 4024, .inl (fun _ => 0))), ((q 175), .inl (G.2 3, 240, .inl (fun _ => 0))), ((q 176), .inl (G.2 0, 503, .inl (fun _ => 0))), ((q 177), .inl (G.2 0, 12, .inl (fun _ => 0))), ((q 178), .inl (G.2 0, 12, .inl (fun _ => 0))), ((q 179), .inl (G.2 0, 2, .inl (fun _ => 0))), ((q 180), .inl (G.2 0, 4820, .inl (fun _ => 0))), ((q 181), .inl (G.2 0, 520, .inl (fun _ => 0))), ((q 182), .inl (G.2 0, 9640, .inl (fun _ => 0))), ((q 183), .inl (G.2 0, 482, .inl (fun _ => 0))), ((q 184), .inl (G.2 0, 482, .inl (fun _ => 0))), ((q 185), .inl (G.2 0, 2, .inl (fun _ => 0))), ((q 186), .inl (G.2 0, 482, .inl (fun _ => 0))), ((q 187), .inl (G.2 0, 482, .inl (fun _ => 0))), ((q 188), .inl (G.2 0, 482, .inl (fun _ => 0))), ((q 189), .inl (G.2 0, 2, .inl (fun _ => 0))), ((q 190), .inl (G.2 0, 2880, .inl (fun _ => 0))), ((q 191), .inl (G.2 1, 4, .inr (.inl (fun _ => 0)))), ((q 192), .inl (G.2 1, 4, .inr (.inl (fun _ => 0)))), ((q 193), .inl (G.2 1, 4096, .inr (.inl (fun _ => 0)))), ((q 194), .inl (G.2 1, 4096, .inr (.inl (fun _ => 0)))), ((q 195), .inl (G.2 1, 80, .inr (.inl (fun _ => 0)))), ((q 196), .inl (G.2 1, 241, .inr (.inl (fun _ => 0)))), ((q 197), .inl (G.2 1, 241, .inr (.inl (fun _ => 0)))), ((q 198), .inl (G.2 1, 4004, .inr (.inl (fun _ => 0)))), ((q 199), .inl (G.2 0, 1001, .inl (fun _ => 0))), ((q 200), .inl (G.2 1, 4004, .inr (.inl (fun _ => 0)))), ((q 201), .inl (G.2 0, 1001, .inl (fun _ => 0))), ((q 202), .inl (G.2 1, 3208, .inr (.inl (fun _ => 0)))), ((q 203), .inl (G.2 0, 401, .inl (fun _ => 0))), ((q 204), .inl (G.2 0, 401, .inl (fun _ => 0))), ((q 205), .inl (G.2 0, 401, .inl (fun _ => 0))), ((q 206), .inl (G.2 1, 8, .inr (.inl (fun _ => 0)))), ((q 207), .inl (G.2 0, 12, .inl (fun _ => 0))), ((q 208), .inl (G.2 0, 20, .inl (fun _ => 0))), ((q 209), .inl (G.2 0, 20, .inl (fun _ => 0))), ((q 171), .inl (G.2 0, 503, .inl (upd (fun _ => 0) 501 1)))]) Z (c1_Model_thrown l G ((q 170)) ((q 171)) ((q 172)) ((q 173)) ((q 174)) ((q 175)) ((q 176)) ((q 177)) ((q 178)) ((q 179)) ((q 180)) ((q 181)) ((q 182)) ((q 183)) ((q 184)) ((q 185)) ((q 186)) ((q 187)) ((q 188)) ((q 189)) ((q 190)) ((q 191)) ((q 192)) ((q 193)) ((q 194)) ((q 195)) ((q 196)) ((q 197)) ((q 198)) ((q 199)) ((q 200)) ((q 201)) ((q 202)) ((q 203)) ((q 204)) ((q 205)) ((q 206)) ((q 207)) ((q 208)) ((q 209))) hl.1 q1103 q1104 q1105 q14 q1106 ⟨by decide, by decide, by show _ = some 0; decide +kernel⟩ ⟨Nat.le_of_ble_eq_true rfl, Nat.le_of_ble_eq_true rfl⟩ ⟨Nat.le_of_ble_eq_true rfl, Nat.le_of_ble_eq_true rfl⟩ rfl (Nat.le_of_ble_eq_true rfl) d_law_365 hP hD hS hA 38 12 rfl rfl rfl [38] [0, 1, 2, 3, 4, 5, 6, 7, 8, 9, 10, 11, 12, 13, 14, 15, 16, 17, 18, 19, 20, 21, 22, 23, 24, 25, 26, 27, 28, 29, 30, 31, 32, 33, 34, 35, 36, 37, 39] rfl rfl rfl rfl (by decide) (fun v w1 H locs hw_3 hP hD hS => ?_)
  obtain ⟨rfl, rfl⟩ := hw_3
  have hP : va_P G.1 classes [((q 172), .inl (G.2 0, 1006, .inl (fun _ => 0))), ((q 173), .inl (G.2 4, 2, .inl (fun _ => 0))), ((q 174), .inl (G.2 0, 4024, .inl (fun _ => 0))), ((q 175), .inl (G.2 3, 240, .inl (fun _ => 0))), ((q 176), .inl (G.2 0, 503, .inl (fun _ => 0))), ((q 177), .inl (G.2 0, 12, .inl (fun _ => 0))), ((q 178), .inl (G.2 0, 12, .inl (fun _ => 0))), ((q 179), .inl (G.2 0, 2, .inl (fun _ => 0))), ((q 180), .inl (G.2 0, 4820, .inl (fun _ => 0))), ((q 181), .inl (G.2 0, 520, .inl (fun _ => 0))), ((q 182), .inl (G.2 0, 9640, .inl (fun _ => 0))), ((q 183), .inl (G.2 0, 482, .inl (fun _ => 0))), ((q 184), .inl (G.2 0, 482, .inl (fun _ => 0))), ((q 185), .inl (G.2 0, 2, .inl (fun _ => 0))), ((q 186), .inl (G.2 0, 482, .inl (fun _ => 0))), ((q 187), .inl (G.2 0, 482, .inl (fun _ => 0))), ((q 188), .inl (G.2 0, 482, .inl (fun _ => 0))), ((q 189), .inl (G.2 0, 2, .inl (fun _ => 0))), ((q 190), .inl (G.2 0, 2880, .inl (fun _ => 0))), ((q 191), .inl (G.2 1, 4, .inr (.inl (fun _ => 0)))), ((q 192), .inl (G.2 1, 4, .inr (.inl (fun _ => 0)))), ((q 193), .inl (G.2 1, 4096, .inr (.inl (fun _ => 0)))), ((q 194), .inl (G.2 1, 4096, .inr (.inl (fun _ => 0)))), ((q 195), .inl (G.2 1, 80, .inr (.inl (fun _ => 0)))), ((q 196), .inl (G.2 1, 241, .inr (.inl (fun _ => 0)))), ((q 197), .inl (G.2 1, 241, .inr (.inl (fun _ => 0)))), ((q 198), .inl (G.2 1, 4004, .inr (.inl (fun _ => 0)))), ((q 199), .inl (G.2 0, 1001, .inl (fun _ => 0))), ((q 200), .inl (G.2 1, 4004, .inr (.inl (fun _ => 0)))), ((q 201), .inl (G.2 0, 1001, .inl (fun _ => 0))), ((q 202), .inl (G.2 1, 3208, .inr (.inl (fun _ => 0)))), ((q 203), .inl (G.2 0, 401, .inl (fun _ => 0))), ((q 204), .inl (G.2 0, 401, .inl (fun _ => 0))), ((q 205), .inl (G.2 0, 401, .inl (fun _ => 0))), ((q 206), .inl (G.2 1, 8, .inr (.inl (fun _ => 0)))), ((q 207), .inl (G.2 0, 12, .inl (fun _ => 0))), ((q 208), .inl (G.2 0, 20, .inl (fun _ => 0))), ((q 209), .inl (G.2 0, 20, .inl (fun _ => 0))), ((q 171), .inl (G.2 0, 503, .inl (upd (fun _ => 0) 501 1))), ((q 170), .inr (12, [.int 1, .ref (q 171), .ref (q 172), .ref (q 173), .ref (q 174), .int 0, .ref (q 175), .int 0, .int 0, .int 0, .int 0, .ref (q 176), .ref (q 177), .ref (q 178), .int 0, .ref (q 179), .ref (q 180), .ref (q 181), .ref (q 182), .ref (q 183), .ref (q 184), .ref (q 185), .ref (q 186), .ref (q 187), .ref (q 188), .ref (q 189), .ref (q 190), .int 0, .ref (q 191), .ref (q 192), .int 0, .int 0, .int 0, .int 0, .ref (q 193), .ref (q 194), .ref (q 195), .ref (q 196), .ref (q 197), .ref (q 198), .ref (q 199), .int 0, .ref (q 200), .ref (q 201), .int 0, .ref (q 202), .ref (q 203), .ref (q 204), .ref (q 205), .ref (q 206), .int 0, .ref (q 207), .ref (q 208), .ref (q 209)]))] H := hP
  have hD := z_tie hP hD rfl
  refine W.widen (k := 212) (n := 90374) (Nat.le_of_ble_eq_true rfl) (Nat.le_of_ble_eq_true rfl) ?_
  refine lv_iload hx hb d_law_368 (lv_at hl 1 rfl) ?_
  refine lv_icmp_eq (tgt := 375) hx hb d_law_370 (by decide) (fun _ => ?_) (fun hc => absurd rfl hc)
  refine lv_iload hx hb d_law_375 (lv_at hl 1 rfl) ?_
  refine lv_if_ne (tgt := 392) hx hb d_law_377 (by decide) (fun _ => ?_) (fun hc => absurd hc (by decide +kernel))
  refine lv_goto (tgt := 1095) hx hb d_law_392 (by decide) ?_
  exact law_tail l Z hr hX hbl hS (Nat.le_of_ble_eq_true rfl) (Nat.le_of_ble_eq_true rfl) (lv_sub hl [6, 2] rfl)
