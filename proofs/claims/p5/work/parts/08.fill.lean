theorem d_Arrays_fill1_0 : decode prog_24_method_103_code 0 = .ok (.iconst 0, 1) := by decide +kernel
theorem d_Arrays_fill1_1 : decode prog_24_method_103_code 1 = .ok (.istore_n 2, 1) := by decide +kernel
theorem d_Arrays_fill1_2 : decode prog_24_method_103_code 2 = .ok (.aload_n 0, 1) := by decide +kernel
theorem d_Arrays_fill1_3 : decode prog_24_method_103_code 3 = .ok (.arraylength, 1) := by decide +kernel
theorem d_Arrays_fill1_4 : decode prog_24_method_103_code 4 = .ok (.istore_n 3, 1) := by decide +kernel
theorem d_Arrays_fill1_5 : decode prog_24_method_103_code 5 = .ok (.iload_n 2, 1) := by decide +kernel
theorem d_Arrays_fill1_6 : decode prog_24_method_103_code 6 = .ok (.iload_n 3, 1) := by decide +kernel
theorem d_Arrays_fill1_7 : decode prog_24_method_103_code 7 = .ok (.if_icmp .ge 13, 3) := by decide +kernel
theorem d_Arrays_fill1_10 : decode prog_24_method_103_code 10 = .ok (.aload_n 0, 1) := by decide +kernel
theorem d_Arrays_fill1_11 : decode prog_24_method_103_code 11 = .ok (.iload_n 2, 1) := by decide +kernel
theorem d_Arrays_fill1_12 : decode prog_24_method_103_code 12 = .ok (.iload_n 1, 1) := by decide +kernel
theorem d_Arrays_fill1_13 : decode prog_24_method_103_code 13 = .ok (.iastore, 1) := by decide +kernel
theorem d_Arrays_fill1_14 : decode prog_24_method_103_code 14 = .ok (.iinc 2 1, 3) := by decide +kernel
theorem d_Arrays_fill1_17 : decode prog_24_method_103_code 17 = .ok (.goto (-12), 3) := by decide +kernel
theorem d_Arrays_fill1_20 : decode prog_24_method_103_code 20 = .ok (.return_, 1) := by decide +kernel
abbrev m_c_fill_I : Room := { frames := 0, cells := 0, slots := 0, locals := 0 }
set_option maxHeartbeats 4000000 in
set_option maxRecDepth 100000 in
theorem c_fill_I (l : Launch) (G : zG) (h0 : Nat) (n : Nat) (f : Nat → Int32) (x : Int32) (hn : n < 2 ^ 31) : zM l G y_Arrays_fill1 prog_24_method_103_code 4 (Option.none : Option Jvm.ClassFile.FieldType) m_c_fill_I [.ref h0, .int x] [(h0, .inl (G.2 0, n, .inl f))] (fun v w => (v = none ∧ w = [(h0, .inl (G.2 0, n, .inl (fun _ => x)))])) := by
  refine z_start (by decide +kernel) (Nat.le_of_ble_eq_true rfl) ?_
  intro p e s m below meth c A Z hr hnm hA hP hD hS ls hl
  have Z : zC p s m _ meth c prog_24_method_103_code 4 "java/util/Arrays" G := Z
  obtain ⟨hx, hb, hml, hown, hts, hK, hN, hlocks⟩ := id Z
  have hl : lv_has ls 4 [(0, .ref h0), (1, .int x)] := hl
  refine lv_iconst (v := 0) hx hb d_Arrays_fill1_0 (by decide) ?_
  refine lv_istore_n (lv' := [(2, .int 0), (0, .ref h0), (1, .int x)]) hx hb d_Arrays_fill1_1 rfl hl (by decide) rfl (fun ls hl => ?_)
  refine lv_aload_n hx hb d_Arrays_fill1_2 rfl (lv_at hl 1 rfl) ?_
  refine va_alen hx hb hK hP 0 0 rfl rfl (v := (nI n)) rfl d_Arrays_fill1_3 ?_
  refine lv_istore_n (lv' := [(3, .int (nI n)), (2, .int 0), (0, .ref h0), (1, .int x)]) hx hb d_Arrays_fill1_4 rfl hl (by decide) rfl (fun ls hl => ?_)
  suffices key : ∀ (k_2 i_1 : Nat) (g_3 : Nat → Int32) (H : Heap) (locs : List Loc) (ls : Array Slot), i_1 + k_2 = n → (∀ j, j < i_1 → g_3 j = x) → va_P G.1 classes [(h0, .inl (G.2 0, n, .inl g_3))] H → va_D A [(h0, .inl (G.2 0, n, .inl g_3))] → va_S A s.heap H locs → lv_has ls 4 [(3, .int (nI n)), (2, .int (nI i_1)), (0, .ref h0), (1, .int x)] → W p l e m_c_fill_I s m ([.ref h0, .int x] : List Value).toArray below meth c H locs 0 0 (MQ below (zQ G (fun v w => (v = none ∧ w = [(h0, .inl (G.2 0, n, .inl (fun _ => x)))])) A) ([.ref h0, .int x] : List Value).toArray s m_c_fill_I.cells m_c_fill_I.slots A) (F0 m 5 ls []) by
    exact key (n) 0 (f) _ _ _ (by omega) (fun j h => absurd h (Nat.not_lt_zero j)) hP hD hS (lv_sub hl [0, 1, 2, 3] rfl)
  intro k_2
  induction k_2 with
  | zero =>
    intro i_1 g_3 H locs ls hik hg_4 hP hD hS hl
    obtain rfl : n = i_1 := by omega
    obtain ⟨hP, hD⟩ := z_exti (g := fun _ => x) 0 hP hD rfl hg_4
    have hP : va_P G.1 classes [(h0, .inl (G.2 0, n, .inl (fun _ => x)))] H := hP
    have hD := z_tie hP hD rfl
    refine lv_iload_n hx hb d_Arrays_fill1_5 rfl (lv_at hl 1 rfl) ?_
    refine lv_iload_n hx hb d_Arrays_fill1_6 rfl (lv_at hl 0 rfl) ?_
    refine lv_icmp_ge (tgt := 20) hx hb d_Arrays_fill1_7 (by decide) (fun _ => ?_) (fun hc => absurd (Int32.le_refl _) hc)
    exact z_vret hx hb hr hlocks hP hD hS (Nat.le_of_ble_eq_true rfl) (Nat.le_of_ble_eq_true rfl) d_Arrays_fill1_20 ⟨rfl, rfl⟩
  | succ k_2 ih =>
    intro i_1 g_3 H locs ls hik hg_4 hP hD hS hl
    have hilt : i_1 < n := by omega
    refine lv_iload_n hx hb d_Arrays_fill1_5 rfl (lv_at hl 1 rfl) ?_
    refine lv_iload_n hx hb d_Arrays_fill1_6 rfl (lv_at hl 0 rfl) ?_
    refine lv_icmp_ge (tgt := 20) hx hb d_Arrays_fill1_7 (by decide) (fun hc => absurd hc (nI_ge hilt hn)) (fun _ => ?_)
    refine lv_aload_n hx hb d_Arrays_fill1_10 rfl (lv_at hl 2 rfl) ?_
    refine lv_iload_n hx hb d_Arrays_fill1_11 rfl (lv_at hl 1 rfl) ?_
    refine lv_iload_n hx hb d_Arrays_fill1_12 rfl (lv_at hl 3 rfl) ?_
    refine va_iast hx hb hK hP hD hS 0 0 rfl rfl (z_inN hilt hn) d_Arrays_fill1_13 (fun H locs hP hD hS => ?_)
    rw [nI_clamp (by omega)] at hP hD
    have hP : va_P G.1 classes [(h0, .inl (G.2 0, n, .inl (upd g_3 i_1 x)))] H := hP
    have hD := z_tie hP hD rfl
    refine lv_iinc (v := (nI (i_1 + 1))) (lv' := [(2, .int (nI (i_1 + 1))), (3, .int (nI n)), (0, .ref h0), (1, .int x)]) hx hb d_Arrays_fill1_14 hl (k := 1) rfl (nI_1 i_1) (by decide) rfl (fun ls hl => ?_)
    refine lv_goto (tgt := 5) hx hb d_Arrays_fill1_17 (by decide) ?_
    exact ih (i_1 + 1) (upd g_3 i_1 x) _ _ _ (by omega) (z_up (P := fun _ y => y = x) hg_4 rfl) hP hD hS (lv_sub hl [1, 0, 2, 3] rfl)
theorem d_Arrays_fill2_0 : decode prog_24_method_101_code 0 = .ok (.iconst 0, 1) := by decide +kernel
theorem d_Arrays_fill2_1 : decode prog_24_method_101_code 1 = .ok (.istore_n 3, 1) := by decide +kernel
theorem d_Arrays_fill2_2 : decode prog_24_method_101_code 2 = .ok (.aload_n 0, 1) := by decide +kernel
theorem d_Arrays_fill2_3 : decode prog_24_method_101_code 3 = .ok (.arraylength, 1) := by decide +kernel
theorem d_Arrays_fill2_4 : decode prog_24_method_101_code 4 = .ok (.istore 4, 2) := by decide +kernel
theorem d_Arrays_fill2_6 : decode prog_24_method_101_code 6 = .ok (.iload_n 3, 1) := by decide +kernel
theorem d_Arrays_fill2_7 : decode prog_24_method_101_code 7 = .ok (.iload 4, 2) := by decide +kernel
theorem d_Arrays_fill2_9 : decode prog_24_method_101_code 9 = .ok (.if_icmp .ge 13, 3) := by decide +kernel
theorem d_Arrays_fill2_12 : decode prog_24_method_101_code 12 = .ok (.aload_n 0, 1) := by decide +kernel
theorem d_Arrays_fill2_13 : decode prog_24_method_101_code 13 = .ok (.iload_n 3, 1) := by decide +kernel
theorem d_Arrays_fill2_14 : decode prog_24_method_101_code 14 = .ok (.lload_n 1, 1) := by decide +kernel
theorem d_Arrays_fill2_15 : decode prog_24_method_101_code 15 = .ok (.lastore, 1) := by decide +kernel
theorem d_Arrays_fill2_16 : decode prog_24_method_101_code 16 = .ok (.iinc 3 1, 3) := by decide +kernel
theorem d_Arrays_fill2_19 : decode prog_24_method_101_code 19 = .ok (.goto (-13), 3) := by decide +kernel
theorem d_Arrays_fill2_22 : decode prog_24_method_101_code 22 = .ok (.return_, 1) := by decide +kernel
abbrev m_c_fill_J : Room := { frames := 0, cells := 0, slots := 0, locals := 0 }
set_option maxHeartbeats 4000000 in
set_option maxRecDepth 100000 in
theorem c_fill_J (l : Launch) (G : zG) (h0 : Nat) (n : Nat) (f : Nat → Int64) (x : Int64) (hn : n < 2 ^ 31) : zM l G y_Arrays_fill2 prog_24_method_101_code 5 (Option.none : Option Jvm.ClassFile.FieldType) m_c_fill_J [.ref h0, .long x] [(h0, .inl (G.2 1, n, .inr (.inl f)))] (fun v w => (v = none ∧ w = [(h0, .inl (G.2 1, n, .inr (.inl (fun _ => x))))])) := by
  refine z_start (by decide +kernel) (Nat.le_of_ble_eq_true rfl) ?_
  intro p e s m below meth c A Z hr hnm hA hP hD hS ls hl
  have Z : zC p s m _ meth c prog_24_method_101_code 5 "java/util/Arrays" G := Z
  obtain ⟨hx, hb, hml, hown, hts, hK, hN, hlocks⟩ := id Z
  have hl : lv_has ls 5 [(0, .ref h0), (1, .long x)] := hl
  refine lv_iconst (v := 0) hx hb d_Arrays_fill2_0 (by decide) ?_
  refine lv_istore_n (lv' := [(3, .int 0), (0, .ref h0), (1, .long x)]) hx hb d_Arrays_fill2_1 rfl hl (by decide) rfl (fun ls hl => ?_)
  refine lv_aload_n hx hb d_Arrays_fill2_2 rfl (lv_at hl 1 rfl) ?_
  refine va_alen hx hb hK hP 0 1 rfl rfl (v := (nI n)) rfl d_Arrays_fill2_3 ?_
  refine lv_istore (lv' := [(4, .int (nI n)), (3, .int 0), (0, .ref h0), (1, .long x)]) hx hb d_Arrays_fill2_4 hl (by decide) rfl (fun ls hl => ?_)
  suffices key : ∀ (k_2 i_1 : Nat) (g_3 : Nat → Int64) (H : Heap) (locs : List Loc) (ls : Array Slot), i_1 + k_2 = n → (∀ j, j < i_1 → g_3 j = x) → va_P G.1 classes [(h0, .inl (G.2 1, n, .inr (.inl g_3)))] H → va_D A [(h0, .inl (G.2 1, n, .inr (.inl g_3)))] → va_S A s.heap H locs → lv_has ls 5 [(4, .int (nI n)), (3, .int (nI i_1)), (0, .ref h0), (1, .long x)] → W p l e m_c_fill_J s m ([.ref h0, .long x] : List Value).toArray below meth c H locs 0 0 (MQ below (zQ G (fun v w => (v = none ∧ w = [(h0, .inl (G.2 1, n, .inr (.inl (fun _ => x))))])) A) ([.ref h0, .long x] : List Value).toArray s m_c_fill_J.cells m_c_fill_J.slots A) (F0 m 6 ls []) by
    exact key (n) 0 (f) _ _ _ (by omega) (fun j h => absurd h (Nat.not_lt_zero j)) hP hD hS (lv_sub hl [0, 1, 2, 3] rfl)
  intro k_2
  induction k_2 with
  | zero =>
    intro i_1 g_3 H locs ls hik hg_4 hP hD hS hl
    obtain rfl : n = i_1 := by omega
    obtain ⟨hP, hD⟩ := z_extl (g := fun _ => x) 0 hP hD rfl hg_4
    have hP : va_P G.1 classes [(h0, .inl (G.2 1, n, .inr (.inl (fun _ => x))))] H := hP
    have hD := z_tie hP hD rfl
    refine lv_iload_n hx hb d_Arrays_fill2_6 rfl (lv_at hl 1 rfl) ?_
    refine lv_iload hx hb d_Arrays_fill2_7 (lv_at hl 0 rfl) ?_
    refine lv_icmp_ge (tgt := 22) hx hb d_Arrays_fill2_9 (by decide) (fun _ => ?_) (fun hc => absurd (Int32.le_refl _) hc)
    exact z_vret hx hb hr hlocks hP hD hS (Nat.le_of_ble_eq_true rfl) (Nat.le_of_ble_eq_true rfl) d_Arrays_fill2_22 ⟨rfl, rfl⟩
  | succ k_2 ih =>
    intro i_1 g_3 H locs ls hik hg_4 hP hD hS hl
    have hilt : i_1 < n := by omega
    refine lv_iload_n hx hb d_Arrays_fill2_6 rfl (lv_at hl 1 rfl) ?_
    refine lv_iload hx hb d_Arrays_fill2_7 (lv_at hl 0 rfl) ?_
    refine lv_icmp_ge (tgt := 22) hx hb d_Arrays_fill2_9 (by decide) (fun hc => absurd hc (nI_ge hilt hn)) (fun _ => ?_)
    refine lv_aload_n hx hb d_Arrays_fill2_12 rfl (lv_at hl 2 rfl) ?_
    refine lv_iload_n hx hb d_Arrays_fill2_13 rfl (lv_at hl 1 rfl) ?_
    refine lv_lload_n hx hb d_Arrays_fill2_14 rfl (lv_at hl 3 rfl) ?_
    refine va_last hx hb hK hP hD hS 0 1 rfl rfl (z_inN hilt hn) d_Arrays_fill2_15 (fun H locs hP hD hS => ?_)
    rw [nI_clamp (by omega)] at hP hD
    have hP : va_P G.1 classes [(h0, .inl (G.2 1, n, .inr (.inl (vp_updL g_3 i_1 x))))] H := hP
    have hD := z_tie hP hD rfl
    refine lv_iinc (v := (nI (i_1 + 1))) (lv' := [(3, .int (nI (i_1 + 1))), (4, .int (nI n)), (0, .ref h0), (1, .long x)]) hx hb d_Arrays_fill2_16 hl (k := 1) rfl (nI_1 i_1) (by decide) rfl (fun ls hl => ?_)
    refine lv_goto (tgt := 6) hx hb d_Arrays_fill2_19 (by decide) ?_
    exact ih (i_1 + 1) (vp_updL g_3 i_1 x) _ _ _ (by omega) (z_upL (P := fun _ y => y = x) hg_4 rfl) hP hD hS (lv_sub hl [1, 0, 2, 3] rfl)
