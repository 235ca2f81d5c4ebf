abbrev zNS : String := "java/util/NoSuchElementException"
def zTL : List Cond := (zt_atoms "TraceMachines" 172 zNS "java/lang/RuntimeException" 13 prog_25_method_4_code ["java/lang/Exception"]).filter vx_no
def zTB : List Cond := [.declares (Bundle.initS "java/lang/RuntimeException"), .declares (Bundle.initS "java/lang/Exception"), .declares (Bundle.initS Bundle.tN), .castable zNS zNS]
set_option maxRecDepth 100000 in
theorem zTL_1 : zTL.filter goodWord = ([16, 1056, 1065, 1067, 1070, 1072, 1057, 1058, 29, 30, 1059, 1064, 1068, 1088, 1046, 1089, 1048, 1090, 1050, 1060, 1062, 1052, 1084, 1085, 1087, 1052, 1075, 1076, 1077, 1078, 1078, 1079, 1080, 1081, 1081, 1082, 1083, 1084, 1074, 1035, 1043, 1044, 1045, 1047, 1049, 1051, 1055, 1054, 1053] : List Nat).filterMap (fun i => tables_1[i]?) := by decide +kernel
set_option maxRecDepth 100000 in
theorem zTL_2 : ∀ w ∈ zTL.filter (fun w => !goodWord w), w ∈ zTB := by decide +kernel
set_option maxRecDepth 100000 in
theorem zTL_3 : ∀ w ∈ Cond.classLink "TraceMachines" 168 zNS :: Cond.initialized zNS :: zTL, vx_ot w = true := by decide +kernel
theorem zTL_z : ∀ w ∈ zTL.filter goodWord, w ∈ zW := by
  intro w hw
  have g := (List.mem_filter.mp hw).2
  rw [zTL_1] at hw
  obtain ⟨i, -, hi⟩ := List.mem_filterMap.mp hw
  exact zW_t (List.mem_of_getElem? hi) g
/-- what a throw needs of the tables beyond the words, and its text -/
def zTh (U : State) : Prop := (va_Nw (.declares (Bundle.initS "java/lang/RuntimeException")) U ∧ va_Nw (.declares (Bundle.initS "java/lang/Exception")) U ∧ va_Nw (.declares (Bundle.initS Bundle.tN)) U ∧ va_Nw (.castable zNS zNS) U) ∧ ∃ sa : Nat, vk_R "TraceMachines" 170 "no such trace" sa U
theorem zTh.warm {s U : State} (hW : s.WarmedH U.vm) (h : zTh s) : zTh U := by
  obtain ⟨⟨h1, h2, h3, h4⟩, sa, h5⟩ := h
  exact ⟨⟨va_Nw.warmD hW h1, va_Nw.warmD hW h2, va_Nw.warmD hW h3, va_Nw.warmC hW h4⟩, sa, vk_R.warm hW h5⟩
theorem zTh.same {u U : State} (e : u.vm = U.vm) (h : zTh u) : zTh U := by
  obtain ⟨⟨h1, h2, h3, h4⟩, sa, h5⟩ := h
  exact ⟨⟨va_Nw.same rfl e h1, va_Nw.same rfl e h2, va_Nw.same rfl e h3, va_Nw.same rfl e h4⟩, sa, vk_R.same e.symm h5⟩
theorem zTh.hat {args : Array Value} {s : State} (hts : ∀ w ∈ zW, w.before args s = true) (h : zTh s) : ∀ w ∈ zTL, w.before args s = true := by
  obtain ⟨⟨h1, h2, h3, h4⟩, -⟩ := h
  exact vx_hat (B := zTB) (fun w hw => hts w (zTL_z w hw)) zTL_2 (vx_c (va_Nw.use rfl h1) (vx_c (va_Nw.use rfl h2) (vx_c (va_Nw.use rfl h3) (vx_c (va_Nw.use rfl h4) vx_n))))
abbrev zU (A : Nat → Prop) (U : State) (H : Heap) : Prop := vx_Zq Bundle.tN "UNASSIGNED_STACK" Bundle.steD A U H ∧ vx_Zq Bundle.tN "SUPPRESSED_SENTINEL" Bundle.listD A U H
def zPx (G : zG) (w : va_W) (sz : Nat) (U : State) : Prop := zP G w sz U ∧ zTh U ∧ zU (va_A w sz) U U.heap
theorem zx_pre {s : State} {H : Heap} {G : zG} {wc : va_W} {av : List Value} (hPc : va_P G.1 classes wc H) (hDc : va_D (fun _ => True) wc) (hK : va_K G.1 classes (zT G) s) (hN : zN s) (hT : zTh s) (hU : zU (va_A wc H.size) s H) : FrameBlind (va_Pc av (zPx G wc H.size)) ∧ ∀ U : State, U.heap = H → s.WarmedH U.vm → va_Pc av (zPx G wc H.size) av.toArray U :=
  ⟨fun a U g mk q => by
    obtain ⟨q0, ⟨q1, qP, qD, qK, qN⟩, qT, qU, qV⟩ := q
    exact ⟨q0, ⟨q1, qP, qD, va_K.moved (u := U) (U := U.calling g mk a) (Vm.Alike.refl U.vm) qK, qN.same rfl⟩, qT.same rfl, vx_Zq.moved (u := U) (U := U.calling g mk a) (Vm.Alike.refl U.vm) qU, vx_Zq.moved (u := U) (U := U.calling g mk a) (Vm.Alike.refl U.vm) qV⟩,
   fun U hU0 hW => ⟨rfl, ⟨by rw [hU0], by rw [hU0]; exact hPc, hDc, va_K.moved hW.alike hK, hN.warm hW⟩, hT.warm hW, by rw [hU0]; exact vx_Zq.moved hW.alike hU.1, by rw [hU0]; exact vx_Zq.moved hW.alike hU.2⟩⟩
/-- the contract of a method that throws, whatever it does -/
def zXM (l : Launch) (G : zG) (y : MethodName) (cc : ByteArray) (maxL : Nat) (ret : Option FieldType) (rm : Room) (av : List Value) (w : va_W) : Prop :=
  ∀ sz : Nat, vx_Met l y (.code y cc maxL ret :: zW) rm (va_Pc av (zPx G w sz)) (fun _ _ _ _ => False) (fun E st t => E = zNS ∧ va_F (va_A w sz) st t) rm.cells rm.slots (va_A w sz)
theorem zx_start {l : Launch} {G : zG} {y : MethodName} {cc : ByteArray} {maxL : Nat} {ret : Option FieldType} {rm : Room} {av : List Value} {w : va_W}
    (hy : plainName y.cls = true) (hav : (lg_sl av).length ≤ maxL)
    (body : ∀ (p : Program) (e : Env) (s : State) (m : MethodId) (below : List Frame) (meth : Method) (c : Code) (A : Nat → Prop), zC p s m av.toArray meth c cc maxL y.cls G → (∀ x ∈ c.exceptionTable.toList, False) →
      (∀ q : Nat, s.heap.size ≤ q → A q) → va_P G.1 classes w s.heap → va_D A w → va_S A s.heap s.heap [] → zTh s → zU A s s.heap → ∀ ls : Array Slot, lv_has ls maxL (lv_args 0 av) →
      W p l e rm s m av.toArray below meth c s.heap [] 0 0 (vx_MQ below (fun _ _ _ _ => False) (fun E st t => E = zNS ∧ va_F A st t) av.toArray s rm.cells rm.slots A) (F0 m 0 ls [])) : zXM l G y cc maxL ret rm av w := by
  intro sz
  refine vx_ofW (cc := cc) (maxL := maxL) (ret := ret) hy rfl ?_
  intro p e s m args below meth c s₁ B hml htab hv
  obtain ⟨rfl, ⟨hsz, hP, hD0, hK, hN⟩, hT, hU⟩ := hv
  subst hsz
  rw [lg_entry_eq]
  have hts := atoms_spec (ws := .code y cc maxL ret :: zW) B.pre
  exact body p e s m below meth c _ ⟨B.exec, B.bytes, hml, findClass_of_methodNamed B.named, fun w h => hts w (List.mem_cons_of_mem _ h), hK, hN, B.notSynchronized⟩ htab (fun q h => Or.inr h) hP hD0.self va_S.rf hT hU _ (lv_entry av hav)
section ZXON
variable {p : Program} {l : Launch} {e : Env} {R : Room} {s : State} {m : MethodId} {args : Array Value} {below : List Frame} {meth : Method} {c : Code} {H : Heap} {locs : List Loc} {cells slots mc ms : Nat} {Q : State → Prop} {cc : ByteArray} {pc nL : Nat} {ls : Array Slot}
variable {G : zG} {A A1 : Nat → Prop} {own : String} {y : MethodName} {bytes : ByteArray} {maxL index : Nat} {ret : Option FieldType} {rm : Room} {b : Nat} {As rest st0 : List Value} {ws wc : va_W} {H0 : Heap}
/-- behind a call that throws -/
theorem zx_on (hr : vx_Run p l e R s m args below meth c H locs cells slots mc ms (F0 m pc ls st0) rest (fun _ _ _ => False) (fun E st t => E = zNS ∧ va_F A1 st t) A1) (hS : va_S A H0 H locs) (hA1 : ∀ q, A1 q → A q)
    (kx : ∀ (ce : Cell) (q9 : Addr) (H1 : Heap) (locs1 : List Loc), va_S A H0 H1 locs1 → H1[q9]? = some ce → ce.vm = .none → s.vm.findClass zNS = some ce.cls → vx_W p l e R s m args below meth c H1 locs1 (cells + mc) (slots + ms) Q (F0 m pc ls rest) q9) :
    W p l e R s m args below meth c H locs cells slots Q (F0 m pc ls st0) := by
  intro T hT X
  rcases hr T hT X with ⟨v, st₀, t, T', L, h0, X', hL, e1, e2, hf, st⟩ | ⟨q, st₀, t, T', L, E, ce, h0, X', hL, e1, e2, ⟨hE, hF⟩, hce, hcv, hcl, st⟩
  · exact hf.elim
  · subst hE
    have k3 := (vx_keep h0 e1 hS (fun q _ h => hA1 q h) hA1 hL hF).2.2
    obtain ⟨t2, a1, b1⟩ := kx ce q T'.heap (locs ++ L) k3 (by rw [e1]; exact hce) hcv hcl T' rfl X'
    exact ⟨t2, st.trans a1, b1⟩
theorem zx_callV (Z : zC p s m args meth c cc nL own G) (hM : zXM l G y bytes maxL ret rm (.ref b :: As) wc) (hl0 : ls.size = nL)
    (q1 : Cond.methodLink own index y ∈ zW) (q2 : Cond.instanceMethod y ∈ zW) (q3 : Cond.selects y.cls y y ∈ zW) (q4 : Cond.initialized y.cls ∈ zW) (q5 : Cond.code y bytes maxL ret ∈ zW)
    (hd : y.cls ≠ "java/lang/invoke/MethodHandle" ∧ y.cls ≠ "java/lang/invoke/VarHandle" ∧ (parseMethodDescriptor y.desc).map (fun d => d.parameters.length) = some As.length) (hR : rm.frames + 1 ≤ R.frames ∧ 8 + (maxL + 11) + rm.locals ≤ R.locals)
    (hf : cells + rm.cells ≤ R.cells ∧ slots + rm.slots ≤ R.slots) (hst : st0 = As.reverse ++ .ref b :: rest) (hroom : (rest.map fun v => v.category).sum ≤ 8) (hdg : decode cc pc = .ok (.invokevirtual index, 3))
    (hP : va_P G.1 classes ws H) (hD : va_D A ws) (hS : va_S A H0 H locs) (hA : ∀ q, H0.size ≤ q → A q) (hT : zTh s) (hU : zU (va_A wc H.size) s H)
    (q0 ci : Nat) {fs : List Value} {rc : vw_C} (he : ws[q0]? = some (b, .inr (ci, fs))) (hc : classes[ci]? = some rc) (hcy : rc.1 = y.cls)
    (isC : List Nat) (hC : isC.map (fun i => ws[i]?) = wc.map some) (hn0 : va_nd isC = true)
    (kx : ∀ (ce : Cell) (q9 : Addr) (H1 : Heap) (locs1 : List Loc), va_S A H0 H1 locs1 → H1[q9]? = some ce → ce.vm = .none → s.vm.findClass zNS = some ce.cls → vx_W p l e R s m args below meth c H1 locs1 (cells + rm.cells) (slots + rm.slots) Q (F0 m pc ls rest) q9) :
    W p l e R s m args below meth c H locs cells slots Q (F0 m pc ls st0) := by
  obtain ⟨hx, hb, hml, hown, hts, hK, hN, -⟩ := Z
  have hPc := z_sub hP isC hC
  have hDc : va_D (fun _ => True) wc := (hD.sub isC hn0 hC).weaken (fun _ _ _ _ => trivial)
  have hpre := zx_pre (av := .ref b :: As) hPc hDc hK hN hT hU
  refine zx_on (vx_runV (C := y.cls) (As := As) (rest := rest) ⟨hx, hb, hml, hown, hts⟩ (hM H.size) (cwV (bytes := bytes) (maxL := maxL) (ret := ret) As.length hts (zW_good _ ?_) rfl rfl rfl ⟨rfl, hd⟩ hR) ⟨hpre.1, ?_, hpre.2⟩ rfl rfl hl0 hst (lv_room hroom) hdg hf) hS (va_free (wc := wc) hD hS hA isC hC) kx
  · intro w hw
    rcases List.mem_append.mp hw with h | h
    · rcases List.mem_cons.mp h with rfl | h
      · exact q1
      · rcases List.mem_cons.mp h with rfl | h
        · exact q2
        · rcases List.mem_cons.mp h with rfl | h
          · exact q3
          · rcases List.mem_cons.mp h with rfl | h
            · exact q4
            · cases h
    · rcases List.mem_cons.mp h with rfl | h
      · exact q5
      · exact h
  · have h := va_recv hK hP hc he
    rw [hcy] at h
    exact h
end ZXON
/-- the statics of Throwable, as a heap behind holds them -/
theorem zU.to {A B : Nat → Prop} {s : State} {H0 H : Heap} {locs : List Loc} (h : zU A s H0) (hS : va_S A H0 H locs) (hAB : ∀ q, B q → A q) : zU B s H :=
  ⟨(h.1.kept hS.2.1).narrow hAB, (h.2.kept hS.2.1).narrow hAB⟩
theorem d_X_call_0 : decode prog_1_method_9_code 0 = .ok (.aload_n 0, 1) := by decide +kernel
theorem d_X_call_1 : decode prog_1_method_9_code 1 = .ok (.getfield 19, 3) := by decide +kernel
theorem d_X_call_4 : decode prog_1_method_9_code 4 = .ok (.iload_n 1, 1) := by decide +kernel
theorem d_X_call_5 : decode prog_1_method_9_code 5 = .ok (.invokevirtual 146, 3) := by decide +kernel
theorem d_X_call_8 : decode prog_1_method_9_code 8 = .ok (.ifCond .ne 13, 3) := by decide +kernel
theorem d_X_call_11 : decode prog_1_method_9_code 11 = .ok (.new 168, 3) := by decide +kernel
theorem d_X_call_14 : decode prog_1_method_9_code 14 = .ok (.dup, 1) := by decide +kernel
theorem d_X_call_15 : decode prog_1_method_9_code 15 = .ok (.ldc 170, 2) := by decide +kernel
theorem d_X_call_17 : decode prog_1_method_9_code 17 = .ok (.invokespecial 172, 3) := by decide +kernel
theorem d_X_call_20 : decode prog_1_method_9_code 20 = .ok (.athrow, 1) := by decide +kernel
abbrev m_zx_call : Room := { frames := 8, cells := 1, slots := 6, locals := 120 }
set_option maxHeartbeats 4000000 in
set_option maxRecDepth 100000 in
/-- call() of an object without TRACES throws -/
theorem zx_call (l : Launch) (hfl : l.stackTraces = false) (G : zG) (b0 : Nat) (b1 : Nat) (b2 : Nat) (b3 : Nat) (b4 : Nat) (b5 : Nat) (b6 : Nat) (b7 : Nat) (b8 : Nat) (b9 : Nat) (b10 : Nat) (b11 : Nat) (b12 : Nat) (b13 : Nat) (b14 : Nat) (b15 : Nat) (b16 : Nat) (b17 : Nat) (b18 : Nat) (b19 : Nat) (b20 : Nat) (b21 : Nat) (zp0 : Int32) (zp1 : Int32) (zp2 : Int32) : zXM l G y_X_call prog_1_method_9_code 5 (Option.some Jvm.ClassFile.FieldType.int) m_zx_call [.ref b0, .int zp0, .int zp1, .int zp2] [(b0, .inr (0, [.ref b1, .ref b2, .ref b3, .ref b4, .int 0, .int 0, .ref b5, .ref b6, .ref b7, .ref b8, .ref b9, .ref b10, .ref b11, .ref b12, .ref b13, .ref b14, .ref b15, .ref b16, .ref b17, .ref b18])), (b2, .inr (2, [.int 0, .int 1, .int 0, .ref b19, .ref b20, .ref b21]))] := by
  refine zx_start (by decide +kernel) (Nat.le_of_ble_eq_true rfl) ?_
  intro p e s m below meth c A Z htab hA hP hD hS hT hU ls hl
  have Z : zC p s m _ meth c prog_1_method_9_code 5 "TraceMachines" G := Z
  obtain ⟨hx, hb, hml, hown, hts, hK, hN, hlocks⟩ := id Z
  have hl : lv_has ls 5 [(0, .ref b0), (1, .int zp0), (2, .int zp1), (3, .int zp2)] := hl
  refine lv_aload_n hx hb d_X_call_0 rfl (lv_at hl 0 rfl) ?_
  refine va_get (D := G.1) (ci := 0) (v := .ref b2) (C := R_X) (T := F_X) (N := 20) hx hb hts i_X hown hK hP 0 rfl rfl 1 (by decide) (hts _ q418) (fun _ h9 => h9) rfl d_X_call_1 ?_
  refine lv_iload_n hx hb d_X_call_4 rfl (lv_at hl 1 rfl) ?_
  refine z_callV (index := 146) (As := [.int zp0]) (rest := []) (wr := [(b0, .inr (0, [.ref b1, .ref b2, .ref b3, .ref b4, .int 0, .int 0, .ref b5, .ref b6, .ref b7, .ref b8, .ref b9, .ref b10, .ref b11, .ref b12, .ref b13, .ref b14, .ref b15, .ref b16, .ref b17, .ref b18]))]) Z (c1_Traces_has l G (b2) (zp0) (b19) (b20) (b21)) hl.1 q536 q537 q538 q3 q539 ⟨by decide, by decide, by show _ = some 1; decide +kernel⟩ ⟨Nat.le_of_ble_eq_true rfl, Nat.le_of_ble_eq_true rfl⟩ ⟨Nat.le_of_ble_eq_true rfl, Nat.le_of_ble_eq_true rfl⟩ rfl (Nat.le_of_ble_eq_true rfl) d_X_call_5 hP hD hS hA 1 2 rfl rfl rfl [1] [0] rfl rfl rfl rfl (by decide) (fun v w1 H locs hw_1 hP hD hS => ?_)
  obtain ⟨rfl, rfl⟩ := hw_1
  have hP : va_P G.1 classes [(b0, .inr (0, [.ref b1, .ref b2, .ref b3, .ref b4, .int 0, .int 0, .ref b5, .ref b6, .ref b7, .ref b8, .ref b9, .ref b10, .ref b11, .ref b12, .ref b13, .ref b14, .ref b15, .ref b16, .ref b17, .ref b18])), (b2, .inr (2, [.int 0, .int 1, .int 0, .ref b19, .ref b20, .ref b21]))] H := hP
  have hD := z_tie hP hD rfl
  refine W.widen (k := 0) (n := 0) (Nat.le_of_ble_eq_true rfl) (Nat.le_of_ble_eq_true rfl) ?_
  refine lv_if_ne (tgt := 21) hx hb d_X_call_8 (by decide) (fun hc => absurd hc (by decide +kernel)) (fun _ => ?_)
  obtain ⟨sa, hstr⟩ := hT.2
  exact z_throwN (own := "TraceMachines") (cls := zNS) (sup := "java/lang/RuntimeException") (text := "no such trace") (ix := 13) (rx := prog_25_method_4_code) (names := ["java/lang/Exception"]) (ik := 168) (is := 170) (ic := 172) (sa := sa) (A := A) hx hb hfl hown (by decide +kernel) (by decide +kernel) (by decide +kernel) (by decide +kernel) (by decide +kernel) (by decide +kernel) (by decide +kernel) (hts _ q1034) (hts _ q19) hstr (hT.hat hts) zTL_3 hU.1 hU.2 hS (hl.1.trans hml.symm) d_X_call_11 d_X_call_14 d_X_call_15 d_X_call_17 d_X_call_20 (fun x hx => (htab x hx).elim) (Nat.le_of_ble_eq_true rfl) (Nat.le_of_ble_eq_true rfl) (Nat.le_of_ble_eq_true rfl) (Nat.le_of_ble_eq_true rfl) hlocks (fun t _ hz hq => ⟨rfl, Nat.le_trans hS.1 hz, fun q h1 h2 => (hq q (Nat.lt_of_lt_of_le h1 hS.1)).trans (hS.2.1 q h1 h2)⟩) hS.2.2 (Nat.le_of_ble_eq_true rfl) (Nat.le_of_ble_eq_true rfl)
theorem d_lcall_0 : decode method_3_code 0 = .ok (.aload 4, 2) := by decide +kernel
theorem d_lcall_2 : decode method_3_code 2 = .ok (.iconst 0, 1) := by decide +kernel
theorem d_lcall_3 : decode method_3_code 3 = .ok (.aload_n 0, 1) := by decide +kernel
theorem d_lcall_4 : decode method_3_code 4 = .ok (.iload_n 1, 1) := by decide +kernel
theorem d_lcall_5 : decode method_3_code 5 = .ok (.iload_n 2, 1) := by decide +kernel
theorem d_lcall_6 : decode method_3_code 6 = .ok (.iload_n 3, 1) := by decide +kernel
theorem d_lcall_7 : decode method_3_code 7 = .ok (.invokevirtual 7, 3) := by decide +kernel
theorem d_lcall_10 : decode method_3_code 10 = .ok (.i2l, 1) := by decide +kernel
theorem d_lcall_11 : decode method_3_code 11 = .ok (.lastore, 1) := by decide +kernel
theorem d_lcall_12 : decode method_3_code 12 = .ok (.goto 7, 3) := by decide +kernel
theorem d_lcall_15 : decode method_3_code 15 = .ok (.astore 5, 2) := by decide +kernel
theorem d_lcall_17 : decode method_3_code 17 = .ok (.iconst 1, 1) := by decide +kernel
theorem d_lcall_18 : decode method_3_code 18 = .ok (.ireturn, 1) := by decide +kernel
theorem d_lcall_19 : decode method_3_code 19 = .ok (.iconst 0, 1) := by decide +kernel
theorem d_lcall_20 : decode method_3_code 20 = .ok (.ireturn, 1) := by decide +kernel
theorem q_lcall : Cond.codeWith (⟨"TraceMachinesLaw", "call", "(LTraceMachines;III[J)I"⟩ : MethodName) method_3_code 6 (some .int) [(0, 12, 15, 13)] ∈ zW := zW_t (List.mem_of_getElem? (i := 1028) (by decide +kernel)) rfl
abbrev m_zl_call : Room := { frames := 9, cells := 1, slots := 6, locals := 144 }
set_option maxHeartbeats 4000000 in
set_option maxRecDepth 100000 in
/-- the law's call(): what is thrown is caught, 1 -/
theorem zl_call (l : Launch) (hfl : l.stackTraces = false) (G : zG) (b0 : Nat) (b1 : Nat) (b2 : Nat) (b3 : Nat) (b4 : Nat) (b5 : Nat) (b6 : Nat) (b7 : Nat) (b8 : Nat) (b9 : Nat) (b10 : Nat) (b11 : Nat) (b12 : Nat) (b13 : Nat) (b14 : Nat) (b15 : Nat) (b16 : Nat) (b17 : Nat) (b18 : Nat) (b19 : Nat) (b20 : Nat) (b21 : Nat) (zp0 : Int32) (zp1 : Int32) (zp2 : Int32) (zo sz : Nat) : Met l (⟨"TraceMachinesLaw", "call", "(LTraceMachines;III[J)I"⟩ : MethodName) (.codeWith (⟨"TraceMachinesLaw", "call", "(LTraceMachines;III[J)I"⟩ : MethodName) method_3_code 6 (some .int) [(0, 12, 15, 13)] :: zW) m_zl_call (va_Pc [.ref b0, .int zp0, .int zp1, .int zp2, .ref zo] (zPx G [(b0, .inr (0, [.ref b1, .ref b2, .ref b3, .ref b4, .int 0, .int 0, .ref b5, .ref b6, .ref b7, .ref b8, .ref b9, .ref b10, .ref b11, .ref b12, .ref b13, .ref b14, .ref b15, .ref b16, .ref b17, .ref b18])), (b2, .inr (2, [.int 0, .int 1, .int 0, .ref b19, .ref b20, .ref b21]))] sz)) (zQ G (fun v _ => v = some (.int 1)) (va_A [(b0, .inr (0, [.ref b1, .ref b2, .ref b3, .ref b4, .int 0, .int 0, .ref b5, .ref b6, .ref b7, .ref b8, .ref b9, .ref b10, .ref b11, .ref b12, .ref b13, .ref b14, .ref b15, .ref b16, .ref b17, .ref b18])), (b2, .inr (2, [.int 0, .int 1, .int 0, .ref b19, .ref b20, .ref b21]))] sz)) 1 6 (va_A [(b0, .inr (0, [.ref b1, .ref b2, .ref b3, .ref b4, .int 0, .int 0, .ref b5, .ref b6, .ref b7, .ref b8, .ref b9, .ref b10, .ref b11, .ref b12, .ref b13, .ref b14, .ref b15, .ref b16, .ref b17, .ref b18])), (b2, .inr (2, [.int 0, .int 1, .int 0, .ref b19, .ref b20, .ref b21]))] sz) := by
  refine va_MetW (cc := method_3_code) (maxL := 6) (ret := some .int) (hh := [(0, 12, 15, 13)]) (by decide +kernel) rfl ?_
  intro p e s m args below meth c s₁ B hml hv
  obtain ⟨rfl, ⟨hsz, hP, hD0, hK, hN⟩, hT, hU⟩ := hv
  subst hsz
  rw [lg_entry_eq]
  have hts0 := atoms_spec (ws := .codeWith (⟨"TraceMachinesLaw", "call", "(LTraceMachines;III[J)I"⟩ : MethodName) method_3_code 6 (some .int) [(0, 12, 15, 13)] :: zW) B.pre
  have hts : ∀ w ∈ zW, w.before ([.ref b0, .int zp0, .int zp1, .int zp2, .ref zo] : List Value).toArray s = true := fun w h => hts0 w (List.mem_cons_of_mem _ h)
  have htab := vx_table (x := y_X_call) B (hts0 _ List.mem_cons_self)
  have hown : s.vm.findClass "TraceMachinesLaw" = some m.cls := findClass_of_methodNamed B.named
  have hx := B.exec
  have hb := B.bytes
  have hr := B.returns
  have hlocks := B.notSynchronized
  have Z : zC p s m _ meth c method_3_code 6 "TraceMachinesLaw" G := ⟨hx, hb, hml, hown, hts, hK, hN, hlocks⟩
  have hD := hD0.self (sz := s.heap.size)
  have hl := lv_entry ([.ref b0, .int zp0, .int zp1, .int zp2, .ref zo] : List Value) (n := 6) (Nat.le_of_ble_eq_true rfl)
  generalize (lg_sl ([.ref b0, .int zp0, .int zp1, .int zp2, .ref zo] : List Value) ++ List.replicate (6 - (lg_sl ([.ref b0, .int zp0, .int zp1, .int zp2, .ref zo] : List Value)).length) Slot.unset).toArray = ls at hl ⊢
  have hl : lv_has ls 6 [(0, .ref b0), (1, .int zp0), (2, .int zp1), (3, .int zp2), (4, .ref zo)] := hl
  refine lv_aload hx hb d_lcall_0 (lv_at hl 4 rfl) ?_
  refine lv_iconst (v := 0) hx hb d_lcall_2 (by decide) ?_
  refine lv_aload_n hx hb d_lcall_3 rfl (lv_at hl 0 rfl) ?_
  refine lv_iload_n hx hb d_lcall_4 rfl (lv_at hl 1 rfl) ?_
  refine lv_iload_n hx hb d_lcall_5 rfl (lv_at hl 2 rfl) ?_
  refine lv_iload_n hx hb d_lcall_6 rfl (lv_at hl 3 rfl) ?_
  refine zx_callV (index := 7) (As := [.int zp0, .int zp1, .int zp2]) (rest := [.int 0, .ref zo]) (A := va_A [(b0, .inr (0, [.ref b1, .ref b2, .ref b3, .ref b4, .int 0, .int 0, .ref b5, .ref b6, .ref b7, .ref b8, .ref b9, .ref b10, .ref b11, .ref b12, .ref b13, .ref b14, .ref b15, .ref b16, .ref b17, .ref b18])), (b2, .inr (2, [.int 0, .int 1, .int 0, .ref b19, .ref b20, .ref b21]))] s.heap.size) Z (zx_call l hfl G b0 b1 b2 b3 b4 b5 b6 b7 b8 b9 b10 b11 b12 b13 b14 b15 b16 b17 b18 b19 b20 b21 zp0 zp1 zp2) hl.1 q1030 q1031 q1032 q1 q1033 ⟨by decide, by decide, by show _ = some 3; decide +kernel⟩ ⟨Nat.le_of_ble_eq_true rfl, Nat.le_of_ble_eq_true rfl⟩ ⟨Nat.le_of_ble_eq_true rfl, Nat.le_of_ble_eq_true rfl⟩ rfl (Nat.le_of_ble_eq_true rfl) d_lcall_7 hP hD va_S.rf (fun q h => Or.inr h) hT hU 0 0 rfl rfl rfl [0, 1] rfl rfl (fun ce q9 H locs hS hce hcv hcl => ?_)
  refine vx_catch (own := "TraceMachinesLaw") (name := zNS) (E := zNS) hown [] { startPc := 0, endPc := 12, handlerPc := 15, catchType := 13 } [] htab (fun z hz => nomatch hz) (by decide) (by decide) (hts _ q1029) (va_Nw.use rfl hT.1.2.2.2) hce hcv hcl ?_
  refine lv_astore (lv' := [(5, .ref q9), (0, .ref b0), (1, .int zp0), (2, .int zp1), (3, .int zp2), (4, .ref zo)]) hx hb d_lcall_15 hl (by decide) rfl (fun ls hl => ?_)
  refine lv_iconst (v := 1) hx hb d_lcall_17 (by decide) ?_
  exact z_iret (w := []) hx hb hr hlocks (fun k q h => by simp at h) ⟨fun i j p q h => by simp at h, fun k q h => by simp at h⟩ hS (Nat.le_of_ble_eq_true rfl) (Nat.le_of_ble_eq_true rfl) d_lcall_18 rfl
