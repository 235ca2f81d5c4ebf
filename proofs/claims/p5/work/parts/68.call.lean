theorem d_lcall_0 : decode method_3_code 0 = .ok (.aload 4, 2) := by decide +kernel
theorem d_lcall_2 : decode method_3_code 2 = .ok (.iconst 0, 1) := by decide +kernel
theorem d_lcall_3 : decode method_3_code 3 = .ok (.aload_n 0, 1) := by decide +kernel
theorem d_lcall_4 : decode method_3_code 4 = .ok (.iload_n 1, 1) := by decide +kernel
theorem d_lcall_5 : decode method_3_code 5 = .ok (.iload_n 2, 1) := by decide +kernel
theorem d_lcall_6 : decode method_3_code 6 = .ok (.iload_n 3, 1) := by decide +kernel
theorem d_lcall_7 : decode method_3_code 7 = .ok (.invokevirtual 7, 3) := by decide +kernel
theorem d_lcall_10 : decode method_3_code 10 = .ok (.i2l, 1) := by decide +kernel
theorem d_lcall_11 : decode method_3_code 11 = .ok (.lastore, 1) := by decide +kernel
theorem d_lcall_12 : decode method_3_code 12 = .ok (.goto 7, 3) := by decide +kernel
theorem d_lcall_15 : decode method_3_code 15 = .ok (.astore 5, 2) := by decide +kernel
theorem d_lcall_17 : decode method_3_code 17 = .ok (.iconst 1, 1) := by decide +kernel
theorem d_lcall_18 : decode method_3_code 18 = .ok (.ireturn, 1) := by decide +kernel
theorem d_lcall_19 : decode method_3_code 19 = .ok (.iconst 0, 1) := by decide +kernel
theorem d_lcall_20 : decode method_3_code 20 = .ok (.ireturn, 1) := by decide +kernel
theorem q_lcall : Cond.codeWith (⟨"TraceMachinesLaw", "call", "(LTraceMachines;III[J)I"⟩ : MethodName) method_3_code 6 (some .int) [(0, 12, 15, 13)] ∈ zW := zW_t (List.mem_of_getElem? (i := 1028) (by decide +kernel)) rfl
abbrev m_zl_call : Room := { frames := 9, cells := 1, slots := 6, locals := 144 }
theorem zq_out {α : Type} (a w : List α) : (a ++ (w ++ [])).Perm (a ++ w) := by rw [List.append_nil]
set_option maxHeartbeats 4000000 in
set_option maxRecDepth 100000 in
/-- the law's call(): what is thrown is caught -/
theorem zl_call (l : Launch) (hfl : l.stackTraces = false) (G : zG) (xX xText xNow xRead xPast xKept xTree xFol xMs xTree2 xMa2 xRun xRan xWo xPa xCo xPr xOd xFi xM0 xM1 xM2 xM3 zo : Nat) (f : Nat → Int64) (arg1 arg2 arg3 : Int32) (tn : Int32) (sg : Nat → Int32) (s0 : Bool) (s1 : Bool) (pn : Int32) (pc : Int32) (P : Nat → Nat → Int32) (K0 : Nat → Int32) (K1 : Nat → Int32) (Rd : Nat → Int32) (n : Int32) (d : Int32) (mg : Int32) (L : Nat → Int32) (F : Nat → Int32) (V : Nat → Int32) (w : va_W) (hw : XS G xX xText xNow xRead xPast xKept xTree xFol xMs xTree2 xMa2 xRun xRan xWo xPa xCo xPr xOd xFi xM0 xM1 xM2 xM3 True tn sg s0 s1 pn pc P K0 K1 Rd n d mg L F V w) : zMx l G (⟨"TraceMachinesLaw", "call", "(LTraceMachines;III[J)I"⟩ : MethodName) (.codeWith (⟨"TraceMachinesLaw", "call", "(LTraceMachines;III[J)I"⟩ : MethodName) method_3_code 6 (some .int) [(0, 12, 15, 13)] :: zW) m_zl_call [.ref xX, .int arg1, .int arg2, .int arg3, .ref zo] (zap [(zo, .inl (G.2 1, 1, .inr (.inl f)))] (zap w [])) (fun v w2 => ∃ (z : Int32) (f1 : Nat → Int64) (w1 : va_W), v = some (.int z) ∧ XS G xX xText xNow xRead xPast xKept xTree xFol xMs xTree2 xMa2 xRun xRan xWo xPa xCo xPr xOd xFi xM0 xM1 xM2 xM3 True tn sg s0 s1 pn pc P K0 K1 Rd n d mg L F V w1 ∧ w2 = zap [(zo, .inl (G.2 1, 1, .inr (.inl f1)))] (zap w1 [])) := by
  intro sz
  refine va_MetW (cc := method_3_code) (maxL := 6) (ret := some .int) (hh := [(0, 12, 15, 13)]) (by decide +kernel) rfl ?_
  intro p e s m args below meth c s₁ B hml hv
  obtain ⟨rfl, ⟨hsz, hP, hD0, hK, hN⟩, hT, hU⟩ := hv
  subst hsz
  rw [lg_entry_eq]
  have hts0 := atoms_spec (ws := .codeWith (⟨"TraceMachinesLaw", "call", "(LTraceMachines;III[J)I"⟩ : MethodName) method_3_code 6 (some .int) [(0, 12, 15, 13)] :: zW) B.pre
  have hts : ∀ w ∈ zW, w.before ([.ref xX, .int arg1, .int arg2, .int arg3, .ref zo] : List Value).toArray s = true := fun w h => hts0 w (List.mem_cons_of_mem _ h)
  have htab := vx_table (x := y_X_call) B (hts0 _ List.mem_cons_self)
  have hown : s.vm.findClass "TraceMachinesLaw" = some m.cls := findClass_of_methodNamed B.named
  have hx := B.exec
  have hb := B.bytes
  have hr := B.returns
  have hlocks := B.notSynchronized
  have Z : zC p s m _ meth c method_3_code 6 "TraceMachinesLaw" G := ⟨hx, hb, hml, hown, hts, hK, hN, hlocks⟩
  have hD := hD0.self (sz := s.heap.size)
  have hl := lv_entry ([.ref xX, .int arg1, .int arg2, .int arg3, .ref zo] : List Value) (n := 6) (Nat.le_of_ble_eq_true rfl)
  generalize (lg_sl ([.ref xX, .int arg1, .int arg2, .int arg3, .ref zo] : List Value) ++ List.replicate (6 - (lg_sl ([.ref xX, .int arg1, .int arg2, .int arg3, .ref zo] : List Value)).length) Slot.unset).toArray = ls at hl ⊢
  have hl : lv_has ls 6 [(0, .ref xX), (1, .int arg1), (2, .int arg2), (3, .int arg3), (4, .ref zo)] := hl
  obtain ⟨fs9, hat9⟩ := XS_at hw
  refine lv_aload hx hb d_lcall_0 (lv_at hl 4 rfl) ?_
  refine lv_iconst (v := 0) hx hb d_lcall_2 (by decide) ?_
  refine lv_aload_n hx hb d_lcall_3 rfl (lv_at hl 0 rfl) ?_
  refine lv_iload_n hx hb d_lcall_4 rfl (lv_at hl 1 rfl) ?_
  refine lv_iload_n hx hb d_lcall_5 rfl (lv_at hl 2 rfl) ?_
  refine lv_iload_n hx hb d_lcall_6 rfl (lv_at hl 3 rfl) ?_
  by_cases hin : 0 ≤ arg1.toInt ∧ arg1.toInt < n.toInt
  · refine z_callV (index := 7) (As := [.int arg1, .int arg2, .int arg3]) (rest := [.int 0, .ref zo]) (wr := []) (A := va_A (zap [(zo, .inl (G.2 1, 1, .inr (.inl f)))] (zap w [])) s.heap.size) Z ((x_call l G xX xText xNow xRead xPast xKept xTree xFol xMs xTree2 xMa2 xRun xRan xWo xPa xCo xPr xOd xFi xM0 xM1 xM2 xM3 arg1 arg2 arg3 tn sg s0 s1 pn pc P K0 K1 Rd n d mg L F V w hin hw).mid [(zo, .inl (G.2 1, 1, .inr (.inl f)))] []) hl.1 q1030 q1031 q1032 q1 q1033 ⟨by decide, by decide, by show _ = some 3; decide +kernel⟩ ⟨Nat.le_of_ble_eq_true rfl, Nat.le_of_ble_eq_true rfl⟩ ⟨Nat.le_of_ble_eq_true rfl, Nat.le_of_ble_eq_true rfl⟩ rfl (Nat.le_of_ble_eq_true rfl) d_lcall_7 hP hD va_S.rf (fun q h => Or.inr h) 1 0 (zw_at1 (a := [(zo, .inl (G.2 1, 1, .inr (.inl f)))]) (b := []) hat9) rfl rfl (List.range _) [] (zw_range _) rfl (zw_nd _) rfl (by intro i h9; cases h9) (fun v w1 H locs hw_1 hP hD hS => ?_)
    obtain ⟨w2, ⟨z, rfl, hw2⟩, rfl⟩ := hw_1
    have hP : va_P G.1 classes (zap [(zo, .inl (G.2 1, 1, .inr (.inl f)))] (zap w2 [])) H := hP
    have hD : va_D (va_A (zap [(zo, .inl (G.2 1, 1, .inr (.inl f)))] (zap w []))  s.heap.size) (zap [(zo, .inl (G.2 1, 1, .inr (.inl f)))] (zap w2 [])) := hD
    obtain ⟨z2, ez2⟩ : ∃ y : Int64, y = z.toInt64 := ⟨_, rfl⟩
    refine lv_i2l (v := z2) hx hb d_lcall_10 ez2.symm ?_
    refine va_last hx hb hK hP hD hS 0 1 rfl rfl (i := 0) (z_in rfl) d_lcall_11 (fun H locs hP hD hS => ?_)
    refine lv_goto (tgt := 19) hx hb d_lcall_12 (by decide) ?_
    refine lv_iconst (v := 0) hx hb d_lcall_19 (by decide) ?_
    exact z_iret hx hb hr hlocks hP hD hS (Nat.le_of_ble_eq_true rfl) (Nat.le_of_ble_eq_true rfl) d_lcall_20 ⟨0, _, w2, rfl, hw2, rfl⟩
  · refine zx_callV (index := 7) (As := [.int arg1, .int arg2, .int arg3]) (rest := [.int 0, .ref zo]) (A := va_A (zap [(zo, .inl (G.2 1, 1, .inr (.inl f)))] (zap w [])) s.heap.size) (wr := [(zo, .inl (G.2 1, 1, .inr (.inl f)))]) (wc := w) Z (zx_call l hfl G xX xText xNow xRead xPast xKept xTree xFol xMs xTree2 xMa2 xRun xRan xWo xPa xCo xPr xOd xFi xM0 xM1 xM2 xM3 arg1 arg2 arg3 tn sg s0 s1 pn pc P K0 K1 Rd n d mg L F V w hin hw) hl.1 q1030 q1031 q1032 q1 q1033 ⟨by decide, by decide, by show _ = some 3; decide +kernel⟩ ⟨Nat.le_of_ble_eq_true rfl, Nat.le_of_ble_eq_true rfl⟩ ⟨Nat.le_of_ble_eq_true rfl, Nat.le_of_ble_eq_true rfl⟩ rfl (Nat.le_of_ble_eq_true rfl) d_lcall_7 (z_permP (zq_out _ _) hP) (z_permD (zq_out _ _) hD) va_S.rf (fun q h => Or.inr h) hT (hU.to va_S.rf (fun q h => ?_)) 0 0 hat9 rfl rfl (fun ce q9 H locs w2 hS hw2 hP hD hce hcv hcl => ?_)
    · rcases h with ⟨k, e, h⟩ | h
      · exact Or.inl ⟨1 + k, e, zw_at1 (a := [(zo, .inl (G.2 1, 1, .inr (.inl f)))]) (b := []) h⟩
      · exact Or.inr h
    · refine vx_catch (own := "TraceMachinesLaw") (name := zNS) (E := zNS) hown [] { startPc := 0, endPc := 12, handlerPc := 15, catchType := 13 } [] htab (fun z hz => nomatch hz) (by decide) (by decide) (hts _ q1029) (va_Nw.use rfl hT.1.2.2.2) hce hcv hcl ?_
      refine lv_astore (lv' := [(5, .ref q9), (0, .ref xX), (1, .int arg1), (2, .int arg2), (3, .int arg3), (4, .ref zo)]) hx hb d_lcall_15 hl (by decide) rfl (fun ls hl => ?_)
      refine lv_iconst (v := 1) hx hb d_lcall_17 (by decide) ?_
      exact z_iret hx hb hr hlocks (z_permP (zq_out _ _).symm hP) (z_permD (zq_out _ _).symm hD) hS (Nat.le_of_ble_eq_true rfl) (Nat.le_of_ble_eq_true rfl) d_lcall_18 ⟨1, _, w2, rfl, hw2, rfl⟩
