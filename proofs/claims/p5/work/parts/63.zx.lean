abbrev zNS : String := "java/util/NoSuchElementException"
def zTL : List Cond := (zt_atoms "TraceMachines" 172 zNS "java/lang/RuntimeException" 13 prog_25_method_4_code ["java/lang/Exception"]).filter vx_no
def zTB : List Cond := [.declares (Bundle.initS "java/lang/RuntimeException"), .declares (Bundle.initS "java/lang/Exception"), .declares (Bundle.initS Bundle.tN), .castable zNS zNS]
set_option maxRecDepth 100000 in
theorem zTL_1 : zTL.filter goodWord = ([16, 1056, 1065, 1067, 1070, 1072, 1057, 1058, 29, 30, 1059, 1064, 1068, 1088, 1046, 1089, 1048, 1090, 1050, 1060, 1062, 1052, 1084, 1085, 1087, 1052, 1075, 1076, 1077, 1078, 1078, 1079, 1080, 1081, 1081, 1082, 1083, 1084, 1074, 1035, 1043, 1044, 1045, 1047, 1049, 1051, 1055, 1054, 1053] : List Nat).filterMap (fun i => tables_1[i]?) := by decide +kernel
set_option maxRecDepth 100000 in
theorem zTL_2 : ∀ w ∈ zTL.filter (fun w => !goodWord w), w ∈ zTB := by decide +kernel
set_option maxRecDepth 100000 in
theorem zTL_3 : ∀ w ∈ Cond.classLink "TraceMachines" 168 zNS :: Cond.initialized zNS :: zTL, vx_ot w = true := by decide +kernel
theorem zTL_z : ∀ w ∈ zTL.filter goodWord, w ∈ zW := by
  intro w hw
  have g := (List.mem_filter.mp hw).2
  rw [zTL_1] at hw
  obtain ⟨i, -, hi⟩ := List.mem_filterMap.mp hw
  exact zW_t (List.mem_of_getElem? hi) g
/-- what a throw needs of the tables beyond the words, and its text -/
def zTh (U : State) : Prop := (va_Nw (.declares (Bundle.initS "java/lang/RuntimeException")) U ∧ va_Nw (.declares (Bundle.initS "java/lang/Exception")) U ∧ va_Nw (.declares (Bundle.initS Bundle.tN)) U ∧ va_Nw (.castable zNS zNS) U) ∧ ∃ sa : Nat, vk_R "TraceMachines" 170 "no such trace" sa U
theorem zTh.warm {s U : State} (hW : s.WarmedH U.vm) (h : zTh s) : zTh U := by
  obtain ⟨⟨h1, h2, h3, h4⟩, sa, h5⟩ := h
  exact ⟨⟨va_Nw.warmD hW h1, va_Nw.warmD hW h2, va_Nw.warmD hW h3, va_Nw.warmC hW h4⟩, sa, vk_R.warm hW h5⟩
theorem zTh.same {u U : State} (e : u.vm = U.vm) (h : zTh u) : zTh U := by
  obtain ⟨⟨h1, h2, h3, h4⟩, sa, h5⟩ := h
  exact ⟨⟨va_Nw.same rfl e h1, va_Nw.same rfl e h2, va_Nw.same rfl e h3, va_Nw.same rfl e h4⟩, sa, vk_R.same e.symm h5⟩
theorem zTh.hat {args : Array Value} {s : State} (hts : ∀ w ∈ zW, w.before args s = true) (h : zTh s) : ∀ w ∈ zTL, w.before args s = true := by
  obtain ⟨⟨h1, h2, h3, h4⟩, -⟩ := h
  exact vx_hat (B := zTB) (fun w hw => hts w (zTL_z w hw)) zTL_2 (vx_c (va_Nw.use rfl h1) (vx_c (va_Nw.use rfl h2) (vx_c (va_Nw.use rfl h3) (vx_c (va_Nw.use rfl h4) vx_n))))
abbrev zU (A : Nat → Prop) (U : State) (H : Heap) : Prop := vx_Zq Bundle.tN "UNASSIGNED_STACK" Bundle.steD A U H ∧ vx_Zq Bundle.tN "SUPPRESSED_SENTINEL" Bundle.listD A U H
def zPx (G : zG) (w : va_W) (sz : Nat) (U : State) : Prop := zP G w sz U ∧ zTh U ∧ zU (va_A w sz) U U.heap
theorem zx_pre {s : State} {H : Heap} {G : zG} {wc : va_W} {av : List Value} (hPc : va_P G.1 classes wc H) (hDc : va_D (fun _ => True) wc) (hK : va_K G.1 classes (zT G) s) (hN : zN s) (hT : zTh s) (hU : zU (va_A wc H.size) s H) : FrameBlind (va_Pc av (zPx G wc H.size)) ∧ ∀ U : State, U.heap = H → s.WarmedH U.vm → va_Pc av (zPx G wc H.size) av.toArray U :=
  ⟨fun a U g mk q => by
    obtain ⟨q0, ⟨q1, qP, qD, qK, qN⟩, qT, qU, qV⟩ := q
    exact ⟨q0, ⟨q1, qP, qD, va_K.moved (u := U) (U := U.calling g mk a) (Vm.Alike.refl U.vm) qK, qN.same rfl⟩, qT.same rfl, vx_Zq.moved (u := U) (U := U.calling g mk a) (Vm.Alike.refl U.vm) qU, vx_Zq.moved (u := U) (U := U.calling g mk a) (Vm.Alike.refl U.vm) qV⟩,
   fun U hU0 hW => ⟨rfl, ⟨by rw [hU0], by rw [hU0]; exact hPc, hDc, va_K.moved hW.alike hK, hN.warm hW⟩, hT.warm hW, by rw [hU0]; exact vx_Zq.moved hW.alike hU.1, by rw [hU0]; exact vx_Zq.moved hW.alike hU.2⟩⟩
/-- what is thrown, and the world behind it -/
def zXC (G : zG) (post : va_W → Prop) (A : Nat → Prop) : String → State → State → Prop := fun E st t => E = zNS ∧ va_F A st t ∧ ∃ w1, post w1 ∧ va_P G.1 classes w1 t.heap ∧ va_D A w1
/-- the contract of a method that throws, whatever it does -/
def zXM (l : Launch) (G : zG) (y : MethodName) (cc : ByteArray) (maxL : Nat) (ret : Option FieldType) (rm : Room) (av : List Value) (w : va_W) (post : va_W → Prop) : Prop :=
  ∀ sz : Nat, vx_Met l y (.code y cc maxL ret :: zW) rm (va_Pc av (zPx G w sz)) (fun _ _ _ _ => False) (zXC G post (va_A w sz)) rm.cells rm.slots (va_A w sz)
theorem zx_start {l : Launch} {G : zG} {y : MethodName} {cc : ByteArray} {maxL : Nat} {ret : Option FieldType} {rm : Room} {av : List Value} {w : va_W} {post : va_W → Prop}
    (hy : plainName y.cls = true) (hav : (lg_sl av).length ≤ maxL)
    (body : ∀ (p : Program) (e : Env) (s : State) (m : MethodId) (below : List Frame) (meth : Method) (c : Code) (A : Nat → Prop), zC p s m av.toArray meth c cc maxL y.cls G → (∀ x ∈ c.exceptionTable.toList, False) →
      (∀ q : Nat, s.heap.size ≤ q → A q) → va_P G.1 classes w s.heap → va_D A w → va_S A s.heap s.heap [] → zTh s → zU A s s.heap → ∀ ls : Array Slot, lv_has ls maxL (lv_args 0 av) →
      W p l e rm s m av.toArray below meth c s.heap [] 0 0 (vx_MQ below (fun _ _ _ _ => False) (zXC G post A) av.toArray s rm.cells rm.slots A) (F0 m 0 ls [])) : zXM l G y cc maxL ret rm av w post := by
  intro sz
  refine vx_ofW (cc := cc) (maxL := maxL) (ret := ret) hy rfl ?_
  intro p e s m args below meth c s₁ B hml htab hv
  obtain ⟨rfl, ⟨hsz, hP, hD0, hK, hN⟩, hT, hU⟩ := hv
  subst hsz
  rw [lg_entry_eq]
  have hts := atoms_spec (ws := .code y cc maxL ret :: zW) B.pre
  exact body p e s m below meth c _ ⟨B.exec, B.bytes, hml, findClass_of_methodNamed B.named, fun w h => hts w (List.mem_cons_of_mem _ h), hK, hN, B.notSynchronized⟩ htab (fun q h => Or.inr h) hP hD0.self va_S.rf hT hU _ (lv_entry av hav)
theorem zD_right {A : Nat → Prop} {w t : va_W} (h : va_D A (w ++ t)) : va_D A t := by
  have h1 := zD_pw.mp h
  exact zD_pw.mpr ⟨(List.pairwise_append.mp h1.1).2.1, fun q hq => h1.2 q (List.mem_append_right _ hq)⟩
theorem zP_right {D : va_G} {cl : List vw_C} {w t : va_W} {H : Heap} (h : va_P D cl (w ++ t) H) : va_P D cl t H := fun k q hk => h (w.length + k) q (by rw [List.getElem?_append_right (by omega), Nat.add_sub_cancel_left]; exact hk)
section ZXON
variable {p : Program} {l : Launch} {e : Env} {R : Room} {s : State} {m : MethodId} {args : Array Value} {below : List Frame} {meth : Method} {c : Code} {H : Heap} {locs : List Loc} {cells slots mc ms : Nat} {Q : State → Prop} {cc : ByteArray} {pc nL : Nat} {ls : Array Slot}
variable {G : zG} {A A1 : Nat → Prop} {own : String} {y : MethodName} {bytes : ByteArray} {maxL index : Nat} {ret : Option FieldType} {rm : Room} {b : Nat} {As rest st0 : List Value} {wc wr : va_W} {H0 : Heap} {post : va_W → Prop}
/-- behind a call that throws -/
theorem zx_on (hr : vx_Run p l e R s m args below meth c H locs cells slots mc ms (F0 m pc ls st0) rest (fun _ _ _ => False) (zXC G post A1) A1) (hS : va_S A H0 H locs) (hA1 : ∀ q, A1 q → A q)
    (kx : ∀ (ce : Cell) (q9 : Addr) (H1 : Heap) (locs1 : List Loc) (w1 : va_W), va_S A H0 H1 locs1 → post w1 → va_P G.1 classes w1 H1 → va_D A1 w1 → (∀ q : Nat, q < H.size → ¬ A1 q → H1[q]? = H[q]?) → H1[q9]? = some ce → ce.vm = .none → s.vm.findClass zNS = some ce.cls → vx_W p l e R s m args below meth c H1 locs1 (cells + mc) (slots + ms) Q (F0 m pc ls rest) q9) :
    W p l e R s m args below meth c H locs cells slots Q (F0 m pc ls st0) := by
  intro T hT X
  rcases hr T hT X with ⟨v, st₀, t, T', L, h0, X', hL, e1, e2, hf, st⟩ | ⟨q, st₀, t, T', L, E, ce, h0, X', hL, e1, e2, ⟨hE, hF, w1, hp1, hPw, hDw⟩, hce, hcv, hcl, st⟩
  · exact hf.elim
  · subst hE
    have k3 := vx_keep h0 e1 hS (fun q _ h => hA1 q h) hA1 hL hF
    obtain ⟨t2, a1, b1⟩ := kx ce q T'.heap (locs ++ L) w1 k3.2.2 hp1 (by rw [e1]; exact hPw) hDw k3.2.1 (by rw [e1]; exact hce) hcv hcl T' rfl X'
    exact ⟨t2, st.trans a1, b1⟩
theorem zx_callV (Z : zC p s m args meth c cc nL own G) (hM : zXM l G y bytes maxL ret rm (.ref b :: As) wc post) (hl0 : ls.size = nL)
    (q1 : Cond.methodLink own index y ∈ zW) (q2 : Cond.instanceMethod y ∈ zW) (q3 : Cond.selects y.cls y y ∈ zW) (q4 : Cond.initialized y.cls ∈ zW) (q5 : Cond.code y bytes maxL ret ∈ zW)
    (hd : y.cls ≠ "java/lang/invoke/MethodHandle" ∧ y.cls ≠ "java/lang/invoke/VarHandle" ∧ (parseMethodDescriptor y.desc).map (fun d => d.parameters.length) = some As.length) (hR : rm.frames + 1 ≤ R.frames ∧ 8 + (maxL + 11) + rm.locals ≤ R.locals)
    (hf : cells + rm.cells ≤ R.cells ∧ slots + rm.slots ≤ R.slots) (hst : st0 = As.reverse ++ .ref b :: rest) (hroom : (rest.map fun v => v.category).sum ≤ 8) (hdg : decode cc pc = .ok (.invokevirtual index, 3))
    (hP : va_P G.1 classes (wr ++ wc) H) (hD : va_D A (wr ++ wc)) (hS : va_S A H0 H locs) (hA : ∀ q, H0.size ≤ q → A q) (hT : zTh s) (hU : zU (va_A wc H.size) s H)
    (q0 ci : Nat) {fs : List Value} {rc : vw_C} (he : wc[q0]? = some (b, .inr (ci, fs))) (hc : classes[ci]? = some rc) (hcy : rc.1 = y.cls)
    (kx : ∀ (ce : Cell) (q9 : Addr) (H1 : Heap) (locs1 : List Loc) (w1 : va_W), va_S A H0 H1 locs1 → post w1 → va_P G.1 classes (wr ++ w1) H1 → va_D A (wr ++ w1) → H1[q9]? = some ce → ce.vm = .none → s.vm.findClass zNS = some ce.cls → vx_W p l e R s m args below meth c H1 locs1 (cells + rm.cells) (slots + rm.slots) Q (F0 m pc ls rest) q9) :
    W p l e R s m args below meth c H locs cells slots Q (F0 m pc ls st0) := by
  obtain ⟨hx, hb, hml, hown, hts, hK, hN, -⟩ := Z
  have hPc := zP_right hP
  have hDr := zD_right hD
  have hDc : va_D (fun _ => True) wc := hDr.weaken (fun _ _ _ _ => trivial)
  have hpre := zx_pre (av := .ref b :: As) hPc hDc hK hN hT hU
  have hAc : ∀ q, va_A wc H.size q → A q := by
    intro q h
    rcases h with ⟨k, e, h⟩ | h
    · exact hDr.2 k (q, e) h
    · exact hA q (Nat.le_trans hS.1 h)
  refine zx_on (vx_runV (C := y.cls) (As := As) (rest := rest) ⟨hx, hb, hml, hown, hts⟩ (hM H.size) (cwV (bytes := bytes) (maxL := maxL) (ret := ret) As.length hts (zW_good _ ?_) rfl rfl rfl ⟨rfl, hd⟩ hR) ⟨hpre.1, ?_, hpre.2⟩ rfl rfl hl0 hst (lv_room hroom) hdg hf) hS hAc (fun ce q9 H1 locs1 w1 hS1 hp1 hP1 hD1 hk h1 h2 h3 => ?_)
  · intro w hw
    rcases List.mem_append.mp hw with h | h
    · rcases List.mem_cons.mp h with rfl | h
      · exact q1
      · rcases List.mem_cons.mp h with rfl | h
        · exact q2
        · rcases List.mem_cons.mp h with rfl | h
          · exact q3
          · rcases List.mem_cons.mp h with rfl | h
            · exact q4
            · cases h
    · rcases List.mem_cons.mp h with rfl | h
      · exact q5
      · exact h
  · have h := va_recv hK hPc hc he
    rw [hcy] at h
    exact h
  · have hj := va_joinQ (A0 := A) (X := wc) (cx := wc) (wr := []) (pl := wr) (z_permP List.perm_append_comm hP) (z_permD List.perm_append_comm hD) (List.range _) [] (zw_range wc) rfl rfl (by intro i h9; cases h9) hk hAc hP1 hD1
    exact kx ce q9 H1 locs1 w1 hS1 hp1 (z_permP List.perm_append_comm hj.1) (z_permD List.perm_append_comm hj.2) h1 h2 h3
end ZXON
/-- the statics of Throwable, as a heap behind holds them -/
theorem zU.to {A B : Nat → Prop} {s : State} {H0 H : Heap} {locs : List Loc} (h : zU A s H0) (hS : va_S A H0 H locs) (hAB : ∀ q, B q → A q) : zU B s H :=
  ⟨(h.1.kept hS.2.1).narrow hAB, (h.2.kept hS.2.1).narrow hAB⟩
/-- a contract that may be asked of the throw's statics holds beside what it does not touch -/
def zMx (l : Launch) (G : zG) (y : MethodName) (W0 : List Cond) (rm : Room) (av : List Value) (w : va_W) (post : Option Value → va_W → Prop) : Prop :=
  ∀ sz : Nat, Met l y W0 rm (va_Pc av (zPx G w sz)) (zQ G post (va_A w sz)) rm.cells rm.slots (va_A w sz)
theorem zMx.frame {l : Launch} {G : zG} {y : MethodName} {W0 : List Cond} {rm : Room} {av : List Value} {w : va_W} {post : Option Value → va_W → Prop} (h : zMx l G y W0 rm av w post) (tl : va_W) :
    zMx l G y W0 rm av (w ++ tl) (fun v w2 => ∃ w1, post v w1 ∧ w2 = w1 ++ tl) := by
  intro sz
  have hin : ∀ q, va_A w sz q → va_A (w ++ tl) sz q := by
    intro q hq
    rcases hq with ⟨k, e, hk⟩ | hq
    · exact Or.inl ⟨k, e, by rw [List.getElem?_append_left (List.getElem?_eq_some_iff.mp hk).1]; exact hk⟩
    · exact Or.inr hq
  refine zMet_mono (h sz) ?_ ?_ hin
  · rintro a s ⟨ha, ⟨hz, hP, hD, hK, hN⟩, hT, hU⟩
    exact ⟨ha, ⟨hz, zP_left hP, zD_left hD, hK, hN⟩, hT, ⟨hU.1.narrow hin, hU.2.narrow hin⟩⟩
  · rintro a st o t ⟨ha, ⟨hz, hP, hD, hK, hN⟩, hT, hU⟩ ⟨⟨v, w1, ho, hp, hP1, hD1⟩, hF⟩
    subst hz
    have hj := va_joinQ (A0 := va_A (w ++ tl) st.heap.size) (X := w) (cx := w) (wr := []) (pl := tl) hP hD.self (List.range _) [] (zw_range w) rfl rfl (by intro i h9; cases h9) (fun q h1 h2 => hF.2 q h1 h2) hin hP1 hD1
    exact ⟨⟨v, w1 ++ tl, ho, ⟨w1, hp, rfl⟩, hj.1, hj.2⟩, hF.1, fun q h1 h2 => hF.2 q h1 (fun h3 => h2 (hin q h3))⟩
theorem zM.perm {l : Launch} {G : zG} {y : MethodName} {cc : ByteArray} {maxL : Nat} {ret : Option FieldType} {rm : Room} {av : List Value} {w w' : va_W} {post : Option Value → va_W → Prop} (h : zM l G y cc maxL ret rm av w post) (hp : w.Perm w') : zM l G y cc maxL ret rm av w' post := by
  intro sz
  have hin : ∀ q, va_A w sz q → va_A w' sz q := by
    intro q hq
    rcases hq with ⟨k, e, hk⟩ | hq
    · obtain ⟨i, hi⟩ := List.getElem?_of_mem (hp.mem_iff.mp (List.mem_of_getElem? hk))
      exact Or.inl ⟨i, e, hi⟩
    · exact Or.inr hq
  refine zMet_mono (h sz) ?_ ?_ hin
  · rintro a s ⟨ha, hz, hP, hD, hK, hN⟩
    exact ⟨ha, hz, z_permP hp.symm hP, z_permD hp.symm hD, hK, hN⟩
  · rintro a st o t - ⟨⟨v, w1, ho, h1, hP1, hD1⟩, hF⟩
    exact ⟨⟨v, w1, ho, h1, hP1, hD1.weaken (fun _ q _ h => hin q.1 h)⟩, hF.1, fun q h1 h2 => hF.2 q h1 (fun h3 => h2 (hin q h3))⟩
/-- between two others -/
theorem zM.mid {l : Launch} {G : zG} {y : MethodName} {cc : ByteArray} {maxL : Nat} {ret : Option FieldType} {rm : Room} {av : List Value} {w : va_W} {post : Option Value → va_W → Prop} (h : zM l G y cc maxL ret rm av w post) (a b : va_W) :
    zM l G y cc maxL ret rm av (zap a (zap w b)) (fun v w2 => ∃ w1, post v w1 ∧ w2 = zap a (zap w1 b)) := by
  have h1 := h.frame w [] (a ++ b) (List.range _) [] (zw_range w) rfl (zw_nd _) rfl (by intro i h9; cases h9)
  have h2 := h1.perm (w' := zap a (zap w b)) (zp_1 w a b)
  refine h2.post ?_
  rintro v w2 ⟨w1, hp, rfl⟩
  exact ⟨zap a (zap w1 b), ⟨w1, hp, rfl⟩, zp_1 w1 a b⟩
theorem z_pm (bs bs' : List va_W) (n : Nat) (is : List Nat) (hl : bs.length = n) (hs : is.map (fun i => bs[i]?) = bs'.map some) (hp : is.Perm (List.range n)) : bs.flatten.Perm bs'.flatten := by
  subst hl
  exact zb_flat (zb_perm hs hp)
theorem zw_at1 {a w b : va_W} {k : Nat} {q : Nat × va_E} (h : w[k]? = some q) : (zap a (zap w b))[a.length + k]? = some q := by
  show (a ++ (w ++ b))[a.length + k]? = some q
  rw [List.getElem?_append_right (by omega), Nat.add_sub_cancel_left, List.getElem?_append_left (List.getElem?_eq_some_iff.mp h).1]
  exact h
theorem z_inL {i : Int32} {L : Nat} (h0 : 0 ≤ i.toInt) (h1 : i.toInt < (L : Int)) : vp_in i L := by
  intro h
  have z : (0 : Int32).toInt = 0 := by decide +kernel
  have p := z_pl (zI.wk (l' := 0) (h' := 2147483647) (v := i) (l := i.toInt) (h := i.toInt) ⟨Int.le_refl _, Int.le_refl _⟩ ⟨h0, (zI_all i).2⟩) (Int.le_refl 0)
  rcases h with h | h
  · rw [fa_lt, z] at h
    omega
  · omega
theorem zMx.re {l : Launch} {G : zG} {y : MethodName} {W0 : List Cond} {rm : Room} {av : List Value} {w : va_W} {post post' : Option Value → va_W → Prop} (h : zMx l G y W0 rm av w post) (tl w' : va_W) (hp : (w ++ tl).Perm w') (hq : ∀ v w1, post v w1 → ∃ w2, post' v w2 ∧ (w1 ++ tl).Perm w2) : zMx l G y W0 rm av w' post' := by
  intro sz
  have hin : ∀ q, va_A (w ++ tl) sz q → va_A w' sz q := by
    intro q h9
    rcases h9 with ⟨k, e, hk⟩ | h9
    · obtain ⟨i, hi⟩ := List.getElem?_of_mem (hp.mem_iff.mp (List.mem_of_getElem? hk))
      exact Or.inl ⟨i, e, hi⟩
    · exact Or.inr h9
  refine zMet_mono (h.frame tl sz) ?_ ?_ hin
  · rintro a s ⟨ha, ⟨hz, hP, hD, hK, hN⟩, hT, hU⟩
    exact ⟨ha, ⟨hz, z_permP hp.symm hP, z_permD hp.symm hD, hK, hN⟩, hT, ⟨hU.1.narrow hin, hU.2.narrow hin⟩⟩
  · rintro a st o t - ⟨⟨v, w2, ho, ⟨w1, h1, rfl⟩, hP1, hD1⟩, hF⟩
    obtain ⟨w3, h2, h3⟩ := hq v w1 h1
    exact ⟨⟨v, w3, ho, h2, z_permP h3 hP1, (z_permD h3 hD1).weaken (fun _ q _ h => hin q.1 h)⟩, hF.1, fun q h1 h2 => hF.2 q h1 (fun h3 => h2 (hin q h3))⟩
theorem zM.mid2 {l : Launch} {G : zG} {y : MethodName} {cc : ByteArray} {maxL : Nat} {ret : Option FieldType} {rm : Room} {av : List Value} {w : va_W} {post : Option Value → va_W → Prop} (h : zM l G y cc maxL ret rm av w post) (a x b : va_W) :
    zM l G y cc maxL ret rm av (zap a (zap x (zap w b))) (fun v w2 => ∃ w1, post v w1 ∧ w2 = zap a (zap x (zap w1 b))) := by
  have h1 := h.frame w [] (a ++ (x ++ b)) (List.range _) [] (zw_range w) rfl (zw_nd _) rfl (by intro i h9; cases h9)
  have pr : ∀ u : va_W, (u ++ (a ++ (x ++ b))).Perm (zap a (zap x (zap u b))) := fun u => (zp_1 u a _).trans ((zp_1 u x b).append_left a)
  have h2 := h1.perm (w' := zap a (zap x (zap w b))) (pr w)
  refine h2.post ?_
  rintro v w2 ⟨w1, hp, rfl⟩
  exact ⟨zap a (zap x (zap w1 b)), ⟨w1, hp, rfl⟩, pr w1⟩
theorem zw_at2 {a x w b : va_W} {k : Nat} {q : Nat × va_E} (h : w[k]? = some q) : (zap a (zap x (zap w b)))[a.length + (x.length + k)]? = some q := by
  show (a ++ (x ++ (w ++ b)))[a.length + (x.length + k)]? = some q
  rw [List.getElem?_append_right (by omega), Nat.add_sub_cancel_left, List.getElem?_append_right (by omega), Nat.add_sub_cancel_left, List.getElem?_append_left (List.getElem?_eq_some_iff.mp h).1]
  exact h
