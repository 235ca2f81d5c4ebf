section ZCALL2
variable {p : Program} {l : Launch} {e : Env} {R : Room} {s : State} {m : MethodId} {args : Array Value} {below : List Frame} {meth : Method} {c : Code} {H : Heap} {locs : List Loc} {cells slots : Nat} {Q : State → Prop} {cc : ByteArray} {pc nL : Nat} {ls : Array Slot}
variable {G : zG} {post : Option Value → va_W → Prop} {A : Nat → Prop} {own : String} {y : MethodName} {bytes : ByteArray} {maxL index n : Nat} {ret : Option FieldType} {rm : Room} {b : Nat} {As rest st0 : List Value} {ws wc wr : va_W} {H0 : Heap}
theorem z_callS (Z : zC p s m args meth c cc nL own G) (hM : zM l G y bytes maxL ret rm As wc post) (hl0 : ls.size = nL)
    (q1 : Cond.methodLink own index y ∈ zW) (q2 : Cond.static y ∈ zW) (q4 : Cond.initialized y.cls ∈ zW) (q5 : Cond.code y bytes maxL ret ∈ zW)
    (hd : y.cls ≠ "java/lang/invoke/MethodHandle" ∧ y.cls ≠ "java/lang/invoke/VarHandle" ∧ (parseMethodDescriptor y.desc).map (fun d => d.parameters.length) = some As.length) (hR : rm.frames + 1 ≤ R.frames ∧ 8 + (maxL + 11) + rm.locals ≤ R.locals)
    (hf : cells + rm.cells ≤ R.cells ∧ slots + rm.slots ≤ R.slots) (hst : st0 = As.reverse ++ rest) (hroom : (rest.map fun v => v.category).sum ≤ 8) (hdg : decode cc pc = .ok (.invokestatic index, 3))
    (hP : va_P G.1 classes ws H) (hD : va_D A ws) (hS : va_S A H0 H locs) (hA : ∀ q, H0.size ≤ q → A q)
    (isC isR : List Nat) (hC : isC.map (fun i => ws[i]?) = wc.map some) (hRr : isR.map (fun i => ws[i]?) = wr.map some) (hn0 : va_nd isC = true) (hn : va_nd isR = true) (hdis : ∀ i ∈ isR, i ∉ isC)
    (kk : ∀ (v : Option Value) (w1 : va_W) (H1 : Heap) (locs1 : List Loc), post v w1 → va_P G.1 classes (wr ++ w1) H1 → va_D A (wr ++ w1) → va_S A H0 H1 locs1 → W p l e R s m args below meth c H1 locs1 (cells + rm.cells) (slots + rm.slots) Q (F0 m (pc + 3) ls (v.toList ++ rest))) :
    W p l e R s m args below meth c H locs cells slots Q (F0 m pc ls st0) := by
  obtain ⟨hx, hb, hml, hown, hts, hK, hN, -⟩ := Z
  have hPc := z_sub hP isC hC
  have hDc : va_D (fun _ => True) wc := (hD.sub isC hn0 hC).weaken (fun _ _ _ _ => trivial)
  have hpre := z_pre (av := As) hPc hDc hK hN
  refine z_on (av := As) (va_runS (As := As) (rest := rest) ⟨hx, hb, hml, hown, hts⟩ (hM H.size) (va_cwS (bytes := bytes) (maxL := maxL) (ret := ret) As.length hts (zW_good _ ?_) rfl rfl rfl hd hR) hpre rfl rfl hl0 hst (lv_room hroom) hdg hf) hP hD hS hA isC isR hC hRr hn hdis kk
  intro w hw
  rcases List.mem_append.mp hw with h | h
  · rcases List.mem_cons.mp h with rfl | h
    · exact q1
    · rcases List.mem_cons.mp h with rfl | h
      · exact q2
      · rcases List.mem_cons.mp h with rfl | h
        · exact q4
        · cases h
  · rcases List.mem_cons.mp h with rfl | h
    · exact q5
    · exact h
theorem z_words (q5 : Cond.code y bytes maxL ret ∈ zW) : ∀ w ∈ (Cond.code y bytes maxL ret :: zW), w ∈ zW := by
  intro w hw
  rcases List.mem_cons.mp hw with rfl | h
  · exact q5
  · exact h
theorem z_callI (Z : zC p s m args meth c cc nL own G) (hM : zM l G y bytes maxL none rm (.ref b :: As) wc post) (hl0 : ls.size = nL)
    (q1 : Cond.methodLink own index y ∈ zW) (q2 : Cond.instanceMethod y ∈ zW) (q4 : Cond.initialized y.cls ∈ zW) (q5 : Cond.code y bytes maxL none ∈ zW) (hin : y.name = "<init>")
    (hd : y.cls ≠ "java/lang/invoke/MethodHandle" ∧ y.cls ≠ "java/lang/invoke/VarHandle" ∧ (parseMethodDescriptor y.desc).map (fun d => d.parameters.length) = some As.length) (hR : rm.frames + 1 ≤ R.frames ∧ 8 + (maxL + 11) + rm.locals ≤ R.locals)
    (hf : cells + rm.cells ≤ R.cells ∧ slots + rm.slots ≤ R.slots) (hst : st0 = As.reverse ++ .ref b :: rest) (hroom : (rest.map fun v => v.category).sum ≤ 8) (hdg : decode cc pc = .ok (.invokespecial index, 3))
    (hP : va_P G.1 classes ws H) (hD : va_D A ws) (hS : va_S A H0 H locs) (hA : ∀ q, H0.size ≤ q → A q)
    (isC isR : List Nat) (hC : isC.map (fun i => ws[i]?) = wc.map some) (hRr : isR.map (fun i => ws[i]?) = wr.map some) (hn0 : va_nd isC = true) (hn : va_nd isR = true) (hdis : ∀ i ∈ isR, i ∉ isC)
    (kk : ∀ (v : Option Value) (w1 : va_W) (H1 : Heap) (locs1 : List Loc), post v w1 → va_P G.1 classes (wr ++ w1) H1 → va_D A (wr ++ w1) → va_S A H0 H1 locs1 → W p l e R s m args below meth c H1 locs1 (cells + rm.cells) (slots + rm.slots) Q (F0 m (pc + 3) ls (v.toList ++ rest))) :
    W p l e R s m args below meth c H locs cells slots Q (F0 m pc ls st0) := by
  obtain ⟨hx, hb, hml, hown, hts, hK, hN, -⟩ := Z
  have hPc := z_sub hP isC hC
  have hDc : va_D (fun _ => True) wc := (hD.sub isC hn0 hC).weaken (fun _ _ _ _ => trivial)
  have hpre := z_pre (av := .ref b :: As) hPc hDc hK hN
  exact z_on (av := .ref b :: As) (va_runI (As := As) (rest := rest) ⟨hx, hb, hml, hown, hts⟩ (hM H.size) (cwI (bytes := bytes) (maxL := maxL) As.length hts (zW_good _ (z_words q5)) rfl rfl rfl (hts _ q4) (hts _ q1) (hts _ q2) hin hd hR) hpre rfl rfl hl0 hst (lv_room hroom) hdg hf) hP hD hS hA isC isR hC hRr hn hdis kk
theorem z_callIN {host : String} (Z : zC p s m args meth c cc nL own G) (hM : zM l G y bytes maxL none rm (.ref b :: As) wc post) (hl0 : ls.size = nL)
    (q1 : (own, index, y, host) ∈ zNl) (q2 : Cond.instanceMethod y ∈ zW) (q4 : Cond.initialized y.cls ∈ zW) (q5 : Cond.code y bytes maxL none ∈ zW) (hin : y.name = "<init>")
    (hd : y.cls ≠ "java/lang/invoke/MethodHandle" ∧ y.cls ≠ "java/lang/invoke/VarHandle" ∧ (parseMethodDescriptor y.desc).map (fun d => d.parameters.length) = some As.length) (hR : rm.frames + 1 ≤ R.frames ∧ 8 + (maxL + 11) + rm.locals ≤ R.locals)
    (hf : cells + rm.cells ≤ R.cells ∧ slots + rm.slots ≤ R.slots) (hst : st0 = As.reverse ++ .ref b :: rest) (hroom : (rest.map fun v => v.category).sum ≤ 8) (hdg : decode cc pc = .ok (.invokespecial index, 3))
    (hP : va_P G.1 classes ws H) (hD : va_D A ws) (hS : va_S A H0 H locs) (hA : ∀ q, H0.size ≤ q → A q)
    (isC isR : List Nat) (hC : isC.map (fun i => ws[i]?) = wc.map some) (hRr : isR.map (fun i => ws[i]?) = wr.map some) (hn0 : va_nd isC = true) (hn : va_nd isR = true) (hdis : ∀ i ∈ isR, i ∉ isC)
    (kk : ∀ (v : Option Value) (w1 : va_W) (H1 : Heap) (locs1 : List Loc), post v w1 → va_P G.1 classes (wr ++ w1) H1 → va_D A (wr ++ w1) → va_S A H0 H1 locs1 → W p l e R s m args below meth c H1 locs1 (cells + rm.cells) (slots + rm.slots) Q (F0 m (pc + 3) ls (v.toList ++ rest))) :
    W p l e R s m args below meth c H locs cells slots Q (F0 m pc ls st0) := by
  obtain ⟨hx, hb, hml, hown, hts, hK, hN, -⟩ := Z
  have hPc := z_sub hP isC hC
  have hDc : va_D (fun _ => True) wc := (hD.sub isC hn0 hC).weaken (fun _ _ _ _ => trivial)
  have hpre := z_pre (av := .ref b :: As) hPc hDc hK hN
  exact z_on (av := .ref b :: As) (va_runIN (As := As) (rest := rest) ⟨hx, hb, hml, hown, hts⟩ (hM H.size) ⟨va_cnB (bytes := bytes) (maxL := maxL) (ret := none) As.length hts (zW_good _ (z_words q5)) rfl rfl rfl (hN.1 _ q1) (hts _ q4) hd hR, hin, hts _ q2⟩ hpre rfl rfl hl0 hst (lv_room hroom) hdg hf) hP hD hS hA isC isR hC hRr hn hdis kk
theorem z_callSN {host : String} (Z : zC p s m args meth c cc nL own G) (hM : zM l G y bytes maxL ret rm As wc post) (hl0 : ls.size = nL)
    (q1 : (own, index, y, host) ∈ zNl) (q2 : Cond.static y ∈ zW) (q4 : Cond.initialized y.cls ∈ zW) (q5 : Cond.code y bytes maxL ret ∈ zW)
    (hd : y.cls ≠ "java/lang/invoke/MethodHandle" ∧ y.cls ≠ "java/lang/invoke/VarHandle" ∧ (parseMethodDescriptor y.desc).map (fun d => d.parameters.length) = some As.length) (hR : rm.frames + 1 ≤ R.frames ∧ 8 + (maxL + 11) + rm.locals ≤ R.locals)
    (hf : cells + rm.cells ≤ R.cells ∧ slots + rm.slots ≤ R.slots) (hst : st0 = As.reverse ++ rest) (hroom : (rest.map fun v => v.category).sum ≤ 8) (hdg : decode cc pc = .ok (.invokestatic index, 3))
    (hP : va_P G.1 classes ws H) (hD : va_D A ws) (hS : va_S A H0 H locs) (hA : ∀ q, H0.size ≤ q → A q)
    (isC isR : List Nat) (hC : isC.map (fun i => ws[i]?) = wc.map some) (hRr : isR.map (fun i => ws[i]?) = wr.map some) (hn0 : va_nd isC = true) (hn : va_nd isR = true) (hdis : ∀ i ∈ isR, i ∉ isC)
    (kk : ∀ (v : Option Value) (w1 : va_W) (H1 : Heap) (locs1 : List Loc), post v w1 → va_P G.1 classes (wr ++ w1) H1 → va_D A (wr ++ w1) → va_S A H0 H1 locs1 → W p l e R s m args below meth c H1 locs1 (cells + rm.cells) (slots + rm.slots) Q (F0 m (pc + 3) ls (v.toList ++ rest))) :
    W p l e R s m args below meth c H locs cells slots Q (F0 m pc ls st0) := by
  obtain ⟨hx, hb, hml, hown, hts, hK, hN, -⟩ := Z
  have hPc := z_sub hP isC hC
  have hDc : va_D (fun _ => True) wc := (hD.sub isC hn0 hC).weaken (fun _ _ _ _ => trivial)
  have hpre := z_pre (av := As) hPc hDc hK hN
  exact z_on (av := As) (va_runSN (As := As) (rest := rest) ⟨hx, hb, hml, hown, hts⟩ (hM H.size) ⟨va_cnB (bytes := bytes) (maxL := maxL) (ret := ret) As.length hts (zW_good _ (z_words q5)) rfl rfl rfl (hN.1 _ q1) (hts _ q4) hd hR, hts _ q2, trivial⟩ hpre rfl rfl hl0 hst (lv_room hroom) hdg hf) hP hD hS hA isC isR hC hRr hn hdis kk
/-- a new array of numbers: its class is the one that is known -/
theorem z_newa {atype : ArrayType} {ty : FieldType} (Z : zC p s m args meth c cc nL own G) (hP : va_P G.1 classes ws H) (hD : va_D A ws) (hS : va_S A H0 H locs) (hA : ∀ q, H0.size ≤ q → A q)
    (hw : Cond.arrayClass (newarray.typeOf atype) ∈ zW) (hty : newarray.typeOf atype = ty) (t0 : Nat) {cA0 : ClassId} (ht : (zT G)[t0]? = some (cA0, ty)) (hno : ∀ C, ty ≠ .object C)
    {n : Int32} {N' : Nat} {a0 : vp_A} (ha : ∀ cA : ClassId, vp_cell cA a0 = arrV cA N' (fun _ => defaultValue ty)) (hn : ¬ n < 0) (hN : n.toNatClampNeg = N') (hbytes : N' * componentBytes ty ≤ 536870912) (hcells : cells + 1 ≤ R.cells) (hslots : slots + N' ≤ R.slots) (hdg : decode cc pc = .ok (.newarray atype, 2))
    (kk : ∀ (q : Nat) (H1 : Heap), va_P G.1 classes (ws ++ [(q, .inl (cA0, a0))]) H1 → va_D A (ws ++ [(q, .inl (cA0, a0))]) → va_S A H0 H1 locs → W p l e R s m args below meth c H1 locs (cells + 1) (slots + N') Q (F0 m (pc + 2) ls (.ref q :: rest))) :
    W p l e R s m args below meth c H locs cells slots Q (F0 m pc ls (.int n :: rest)) := by
  obtain ⟨hx, hb, hml, hown, hts, hK, hN0, -⟩ := Z
  refine va_newa hx hb (hts _ hw) hty hK hP hD hS hA ha hn hN hbytes hcells hslots hdg (fun q cA H1 hK1 hP1 hD1 hS1 => ?_)
  have h1 := (hK.2 t0 _ ht).2
  have h2 := (hK1.2 (zT G).length (cA, ty) (by rw [List.getElem?_append_right (Nat.le_refl _), Nat.sub_self]; rfl)).2
  have e : cA = cA0 := by
    cases ty with
    | object C => exact absurd rfl (hno C)
    | _ => exact Option.some.inj (h2.symm.trans h1)
  subst e
  exact kk q H1 hP1 hD1 hS1
theorem z_newq {C : String} (Z : zC p s m args meth c cc nL own G) (hP : va_P G.1 classes ws H) (hD : va_D A ws) (hS : va_S A H0 H locs) (hA : ∀ q, H0.size ≤ q → A q)
    (hw : Cond.classLink own index C ∈ zW) (hao : va_AO C s) (t0 : Nat) {cA0 : ClassId} (ht : (zT G)[t0]? = some (cA0, .object C))
    {n : Int32} {N' : Nat} (hn : ¬ n < 0) (hN : n.toNatClampNeg = N') (hbytes : N' * 4 ≤ 536870912) (hcells : cells + 1 ≤ R.cells) (hslots : slots + N' ≤ R.slots) (hdg : decode cc pc = .ok (.anewarray index, 3))
    (kk : ∀ (q : Nat) (H1 : Heap), va_P G.1 classes (ws ++ [(q, .inl (cA0, N', .inr (.inr (.inr (.inr (fun _ => none))))))]) H1 → va_D A (ws ++ [(q, .inl (cA0, N', .inr (.inr (.inr (.inr (fun _ => none))))))]) → va_S A H0 H1 locs → W p l e R s m args below meth c H1 locs (cells + 1) (slots + N') Q (F0 m (pc + 3) ls (.ref q :: rest))) :
    W p l e R s m args below meth c H locs cells slots Q (F0 m pc ls (.int n :: rest)) := by
  obtain ⟨hx, hb, hml, hown, hts, hK, hN0, -⟩ := Z
  refine va_newq hx hb hown (hts _ hw) hao hK hP hD hS hA hn hN hbytes hcells hslots hdg (fun q cA H1 hK1 hP1 hD1 hS1 => ?_)
  obtain ⟨-, -, -, -, -, h1⟩ := (hK.2 t0 _ ht).2
  obtain ⟨-, -, -, -, -, h2⟩ := (hK1.2 (zT G).length (cA, .object C) (by rw [List.getElem?_append_right (Nat.le_refl _), Nat.sub_self]; rfl)).2
  have e : cA = cA0 := Option.some.inj (h2.symm.trans h1)
  subst e
  exact kk q H1 hP1 hD1 hS1
/-- a number or a reference on top of the stack under another name -/
theorem z_topi {x y : Int32} (h : x = y) (k : W p l e R s m args below meth c H locs cells slots Q (F0 m pc ls (.int y :: rest))) : W p l e R s m args below meth c H locs cells slots Q (F0 m pc ls (.int x :: rest)) := h ▸ k
theorem z_topl {x y : Int64} (h : x = y) (k : W p l e R s m args below meth c H locs cells slots Q (F0 m pc ls (.long y :: rest))) : W p l e R s m args below meth c H locs cells slots Q (F0 m pc ls (.long x :: rest)) := h ▸ k
theorem z_topv {x y : Value} (h : x = y) (k : W p l e R s m args below meth c H locs cells slots Q (F0 m pc ls (y :: rest))) : W p l e R s m args below meth c H locs cells slots Q (F0 m pc ls (x :: rest)) := h ▸ k
end ZCALL2
