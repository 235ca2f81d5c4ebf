theorem z_arrP {args : Array Value} {s : State} {ty : FieldType} (hno : ∀ C, ty ≠ .object C) (h : (Cond.arrayClass ty).before args s = true) : ∃ cA : ClassId, ArrOfT s cA ty ∧ va_RA s cA ty := by
  obtain ⟨cA, kA, comp, h1, h2, h3⟩ := Cond.arrayClass_spec h
  refine ⟨cA, fun n z => ⟨fun k h => (by cases h), kA, h2, comp, h3⟩, ?_⟩
  cases ty with
  | object C => exact absurd rfl (hno C)
  | _ => exact h1
theorem z_arrO {args : Array Value} {s : State} {C : String} (h : (Cond.arrayOver (.object C)).before args s = true) : ∃ cA : ClassId, ArrOfT s cA (.object C) ∧ va_RA s cA (.object C) := by
  obtain ⟨comp, cA, kA, h1, -, h3, h4, h5⟩ := Cond.arrayOver_spec h
  exact ⟨cA, fun n z => ⟨fun k h => (by cases h), kA, h3, comp, h4⟩, kA, comp, h3, h4, h1, h5⟩
set_option maxRecDepth 100000 in
set_option maxHeartbeats 4000000 in
theorem z_known {args : Array Value} {s : State} (h0 : ∀ w ∈ lw_tbl, w.before args s = true) : ∃ G : zG, va_K G.1 classes (zT G) s ∧ zN s := by
  have hts : ∀ w ∈ zW, w.before args s = true := fun w h => h0 w (List.mem_filter.mp h).1
  obtain ⟨c0, i0, hk0⟩ := u_known (C := R_X) (T := F_X) (N := 20) (n := 20) hts i_X (hts _ q24)
  obtain ⟨c1, i1, hk1⟩ := u_known (C := R_Text) (T := F_Text) (N := 2) (n := 2) hts i_Text (hts _ q32)
  obtain ⟨c2, i2, hk2⟩ := u_known (C := R_Traces) (T := F_Traces) (N := 6) (n := 6) hts i_Traces (hts _ q47)
  obtain ⟨c3, i3, hk3⟩ := u_known (C := R_Tree) (T := F_Tree) (N := 11) (n := 11) hts i_Tree (hts _ q90)
  obtain ⟨c4, i4, hk4⟩ := u_known (C := R_Follows) (T := F_Follows) (N := 3) (n := 3) hts i_Follows (hts _ q141)
  obtain ⟨c5, i5, hk5⟩ := u_known (C := R_Machine) (T := F_Machine) (N := 15) (n := 15) hts i_Machine (hts _ q159)
  obtain ⟨c6, i6, hk6⟩ := u_known (C := R_Sets) (T := F_Sets) (N := 5) (n := 5) hts i_Sets (hts _ q234)
  obtain ⟨c7, i7, hk7⟩ := u_known (C := R_Words) (T := F_Words) (N := 8) (n := 8) hts i_Words (hts _ q258)
  obtain ⟨c8, i8, hk8⟩ := u_known (C := R_Parting) (T := F_Parting) (N := 10) (n := 10) hts i_Parting (hts _ q292)
  obtain ⟨c9, i9, hk9⟩ := u_known (C := R_Cover) (T := F_Cover) (N := 5) (n := 5) hts i_Cover (hts _ q334)
  obtain ⟨c10, i10, hk10⟩ := u_known (C := R_Pair) (T := F_Pair) (N := 10) (n := 10) hts i_Pair (hts _ q358)
  obtain ⟨c11, i11, hk11⟩ := u_known (C := R_Odds) (T := F_Odds) (N := 3) (n := 3) hts i_Odds (hts _ q397)
  obtain ⟨c12, i12, hk12⟩ := u_known (C := R_Model) (T := F_Model) (N := 54) (n := 54) hts i_Model (hts _ q1104)
  obtain ⟨a0, ha0⟩ := z_arrP (ty := .int) (fun C h => by cases h) (hts _ q87)
  obtain ⟨a1, ha1⟩ := z_arrP (ty := .long) (fun C h => by cases h) (hts _ q232)
  obtain ⟨a2, ha2⟩ := z_arrP (ty := .char) (fun C h => by cases h) (hts _ q45)
  obtain ⟨a3, ha3⟩ := z_arrP (ty := .byte) (fun C h => by cases h) (hts _ q1099)
  obtain ⟨a4, ha4⟩ := z_arrP (ty := .boolean) (fun C h => by cases h) (hts _ q1272)
  have ho5 := h0 (Jvm.Cond.arrayOver (Jvm.ClassFile.FieldType.object "TraceMachines$Traces")) (List.mem_append_right _ (List.mem_of_getElem? (i := 88) (by decide +kernel)))
  have ho6 := h0 (Jvm.Cond.arrayOver (Jvm.ClassFile.FieldType.object "TraceMachines$Machine")) (List.mem_append_right _ (List.mem_of_getElem? (i := 158) (by decide +kernel)))
  obtain ⟨a5, ha5⟩ := z_arrO (C := "TraceMachines$Traces") ho5
  obtain ⟨a6, ha6⟩ := z_arrO (C := "TraceMachines$Machine") ho6
  refine ⟨((fun k => [c0, c1, c2, c3, c4, c5, c6, c7, c8, c9, c10, c11, c12].getD k c0, fun k => [i0, i1, i2, i3, i4, i5, i6, i7, i8, i9, i10, i11, i12].getD k i0), fun k => [a0, a1, a2, a3, a4, a5, a6].getD k a0), ⟨?_, ?_⟩, ?_, va_AO.of ho5, va_AO.of ho6⟩
  · intro k q hq
    match k, hq with
    | 0, hq => cases hq; exact hk0
    | 1, hq => cases hq; exact hk1
    | 2, hq => cases hq; exact hk2
    | 3, hq => cases hq; exact hk3
    | 4, hq => cases hq; exact hk4
    | 5, hq => cases hq; exact hk5
    | 6, hq => cases hq; exact hk6
    | 7, hq => cases hq; exact hk7
    | 8, hq => cases hq; exact hk8
    | 9, hq => cases hq; exact hk9
    | 10, hq => cases hq; exact hk10
    | 11, hq => cases hq; exact hk11
    | 12, hq => cases hq; exact hk12
    | k + 13, hq => simp [classes] at hq
  · intro k q hq
    match k, hq with
    | 0, hq => cases hq; exact ha0
    | 1, hq => cases hq; exact ha1
    | 2, hq => cases hq; exact ha2
    | 3, hq => cases hq; exact ha3
    | 4, hq => cases hq; exact ha4
    | 5, hq => cases hq; exact ha5
    | 6, hq => cases hq; exact ha6
    | k + 7, hq => simp [zT] at hq
  · exact List.forall_mem_cons.mpr ⟨va_Nw.of rfl (h0 (Jvm.Cond.methodLinkNest "TraceMachines" (11 : Nat) ({ cls := "TraceMachines$Text", name := "<init>", desc := "()V" } : Jvm.MethodName) "TraceMachines") (List.mem_append_right _ (List.mem_of_getElem? (i := 33) (by decide +kernel)))), List.forall_mem_cons.mpr ⟨va_Nw.of rfl (h0 (Jvm.Cond.methodLinkNest "TraceMachines" (18 : Nat) ({ cls := "TraceMachines$Traces", name := "<init>", desc := "()V" } : Jvm.MethodName) "TraceMachines") (List.mem_append_right _ (List.mem_of_getElem? (i := 48) (by decide +kernel)))), List.forall_mem_cons.mpr ⟨va_Nw.of rfl (h0 (Jvm.Cond.methodLinkNest "TraceMachines" (35 : Nat) ({ cls := "TraceMachines$Tree", name := "<init>", desc := "()V" } : Jvm.MethodName) "TraceMachines") (List.mem_append_right _ (List.mem_of_getElem? (i := 91) (by decide +kernel)))), List.forall_mem_cons.mpr ⟨va_Nw.of rfl (h0 (Jvm.Cond.methodLinkNest "TraceMachines" (42 : Nat) ({ cls := "TraceMachines$Follows", name := "<init>", desc := "()V" } : Jvm.MethodName) "TraceMachines") (List.mem_append_right _ (List.mem_of_getElem? (i := 142) (by decide +kernel)))), List.forall_mem_cons.mpr ⟨va_Nw.of rfl (h0 (Jvm.Cond.methodLinkNest "TraceMachines" (56 : Nat) ({ cls := "TraceMachines$Machine", name := "<init>", desc := "()V" } : Jvm.MethodName) "TraceMachines") (List.mem_append_right _ (List.mem_of_getElem? (i := 160) (by decide +kernel)))), List.forall_mem_cons.mpr ⟨va_Nw.of rfl (h0 (Jvm.Cond.methodLinkNest "TraceMachines" (76 : Nat) ({ cls := "TraceMachines$Words", name := "<init>", desc := "()V" } : Jvm.MethodName) "TraceMachines") (List.mem_append_right _ (List.mem_of_getElem? (i := 259) (by decide +kernel)))), List.forall_mem_cons.mpr ⟨va_Nw.of rfl (h0 (Jvm.Cond.methodLinkNest "TraceMachines" (83 : Nat) ({ cls := "TraceMachines$Parting", name := "<init>", desc := "()V" } : Jvm.MethodName) "TraceMachines") (List.mem_append_right _ (List.mem_of_getElem? (i := 293) (by decide +kernel)))), List.forall_mem_cons.mpr ⟨va_Nw.of rfl (h0 (Jvm.Cond.methodLinkNest "TraceMachines" (90 : Nat) ({ cls := "TraceMachines$Cover", name := "<init>", desc := "()V" } : Jvm.MethodName) "TraceMachines") (List.mem_append_right _ (List.mem_of_getElem? (i := 335) (by decide +kernel)))), List.forall_mem_cons.mpr ⟨va_Nw.of rfl (h0 (Jvm.Cond.methodLinkNest "TraceMachines" (97 : Nat) ({ cls := "TraceMachines$Pair", name := "<init>", desc := "()V" } : Jvm.MethodName) "TraceMachines") (List.mem_append_right _ (List.mem_of_getElem? (i := 359) (by decide +kernel)))), List.forall_mem_cons.mpr ⟨va_Nw.of rfl (h0 (Jvm.Cond.methodLinkNest "TraceMachines" (104 : Nat) ({ cls := "TraceMachines$Odds", name := "<init>", desc := "()V" } : Jvm.MethodName) "TraceMachines") (List.mem_append_right _ (List.mem_of_getElem? (i := 398) (by decide +kernel)))), List.forall_mem_cons.mpr ⟨va_Nw.of rfl (h0 (Jvm.Cond.methodLinkNest "TraceMachines$Text" (29 : Nat) ({ cls := "TraceMachines", name := "isLetter", desc := "(I)Z" } : Jvm.MethodName) "TraceMachines") (List.mem_append_right _ (List.mem_of_getElem? (i := 517) (by decide +kernel)))), fun _ h => absurd h List.not_mem_nil⟩⟩⟩⟩⟩⟩⟩⟩⟩⟩⟩
