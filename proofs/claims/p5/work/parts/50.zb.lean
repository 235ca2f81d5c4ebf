/-! Worlds in blocks: parts of a world that a method leaves closed. -/
theorem zw_range {α : Type} (w : List α) : (List.range w.length).map (fun i => w[i]?) = w.map some := by
  refine List.ext_getElem? (fun i => ?_)
  rw [List.getElem?_map, List.getElem?_map]
  by_cases h : i < w.length
  · rw [List.getElem?_range h, List.getElem?_eq_getElem h]
    show some (w[i]?) = some (some w[i])
    rw [List.getElem?_eq_getElem h]
  · have h1 : (List.range w.length)[i]? = none := List.getElem?_eq_none_iff.mpr (by rw [List.length_range]; omega)
    have h2 : w[i]? = none := List.getElem?_eq_none_iff.mpr (by omega)
    rw [h1, h2]
    rfl
theorem zw_ndl : ∀ l : List Nat, l.Nodup → va_nd l = true
  | [], _ => rfl
  | a :: l, h => by
    have h1 := List.nodup_cons.mp h
    simp only [va_nd, Bool.and_eq_true, decide_eq_true_eq]
    exact ⟨h1.1, zw_ndl l h1.2⟩
theorem zw_nd (n : Nat) : va_nd (List.range n) = true := zw_ndl _ List.nodup_range
theorem zD_pw {A : Nat → Prop} {ws : va_W} : va_D A ws ↔ ws.Pairwise (fun p q => p.1 ≠ q.1) ∧ ∀ q ∈ ws, A q.1 := by
  constructor
  · intro h
    refine ⟨List.pairwise_iff_getElem.mpr (fun i j hi hj hij e => ?_), fun q hq => ?_⟩
    · have := h.1 i j _ _ (List.getElem?_eq_getElem hi) (List.getElem?_eq_getElem hj) e
      omega
    · obtain ⟨i, hi⟩ := List.getElem?_of_mem hq
      exact h.2 i q hi
  · intro h
    have key : ∀ (i j : Nat) (p q : Nat × va_E), ws[i]? = some p → ws[j]? = some q → p.1 = q.1 → ¬ i < j := by
      intro i j p q hp hq e hij
      obtain ⟨hi, e1⟩ := List.getElem?_eq_some_iff.mp hp
      obtain ⟨hj, e2⟩ := List.getElem?_eq_some_iff.mp hq
      exact List.pairwise_iff_getElem.mp h.1 i j hi hj hij (by rw [e1, e2]; exact e)
    refine ⟨fun i j p q hp hq e => ?_, fun k q hk => h.2 q (List.mem_of_getElem? hk)⟩
    have h1 := key i j p q hp hq e
    have h2 := key j i q p hq hp e.symm
    omega
theorem z_permP {D : va_G} {cl : List vw_C} {ws ws' : va_W} {H : Heap} (h : ws.Perm ws') (hP : va_P D cl ws H) : va_P D cl ws' H := by
  intro k q hk
  obtain ⟨i, hi⟩ := List.getElem?_of_mem (h.mem_iff.mpr (List.mem_of_getElem? hk))
  exact hP i q hi
theorem z_permD {A : Nat → Prop} {ws ws' : va_W} (h : ws.Perm ws') (hD : va_D A ws) : va_D A ws' := by
  have h1 := zD_pw.mp hD
  exact zD_pw.mpr ⟨(h.pairwise_iff (fun a b => a b.symm)).mp h1.1, fun q hq => h1.2 q (h.mem_iff.mpr hq)⟩
theorem zb_perm {bs bs' : List va_W} {is : List Nat} (hs : is.map (fun i => bs[i]?) = bs'.map some) (hp : is.Perm (List.range bs.length)) : bs.Perm bs' := by
  have h1 : (bs.map some).Perm (bs'.map some) := by
    rw [← hs, ← zw_range bs]
    exact (hp.map _).symm
  have h2 := h1.filterMap id
  have e : ∀ l : List va_W, (l.map some).filterMap id = l := fun l => by
    rw [List.filterMap_map]
    exact List.filterMap_some
  rw [e, e] at h2
  exact h2
theorem zb_flat {bs bs' : List va_W} (h : bs.Perm bs') : bs.flatten.Perm bs'.flatten := h.flatten
/-- blocks change places -/
theorem z_blk {D : va_G} {cl : List vw_C} {H : Heap} {A : Nat → Prop} (bs bs' : List va_W) (n : Nat) (is : List Nat) (hl : bs.length = n) (hs : is.map (fun i => bs[i]?) = bs'.map some) (hp : is.Perm (List.range n)) (hP : va_P D cl bs.flatten H) (hD : va_D A bs.flatten) : va_P D cl bs'.flatten H ∧ va_D A bs'.flatten := by
  subst hl
  exact ⟨z_permP (zb_flat (zb_perm hs hp)) hP, z_permD (zb_flat (zb_perm hs hp)) hD⟩
theorem zP_left {D : va_G} {cl : List vw_C} {w t : va_W} {H : Heap} (h : va_P D cl (w ++ t) H) : va_P D cl w H := fun k q hk => h k q (by rw [List.getElem?_append_left (List.getElem?_eq_some_iff.mp hk).1]; exact hk)
theorem zD_left {A : Nat → Prop} {w t : va_W} (h : va_D A (w ++ t)) : va_D A w := by
  have h1 := zD_pw.mp h
  exact zD_pw.mpr ⟨(List.pairwise_append.mp h1.1).1, fun q hq => h1.2 q (List.mem_append_left _ hq)⟩
theorem zMet_mono {l : Launch} {y : MethodName} {ws : List Cond} {rm : Room} {Pc Pc' : Array Value → State → Prop} {Qc Qc' : Array Value → State → Outcome → State → Prop} {mc ms : Nat} {free free' : Addr → Prop} (h : Met l y ws rm Pc Qc mc ms free)
    (hP : ∀ a s, Pc' a s → Pc a s) (hQ : ∀ a st o t, Pc' a st → Qc a st o t → Qc' a st o t) (hf : ∀ q, free q → free' q) : Met l y ws rm Pc' Qc' mc ms free' := by
  intro p e ha hc hk s m args below hfr happ hp' _
  obtain ⟨n, o, h1, h2, h3, hq, L, hF, hL⟩ := h p e ha hc hk s m args below hfr happ (hP _ _ hp') trivial
  exact ⟨n, o, h1, h2, h3, hQ _ _ _ _ hp' hq, L, hF, fun q hq => hf _ (hL q hq)⟩
/-- a contract holds beside what it does not touch -/
theorem zM.frame {l : Launch} {G : zG} {y : MethodName} {cc : ByteArray} {maxL : Nat} {ret : Option FieldType} {rm : Room} {av : List Value} {wc : va_W} {post : Option Value → va_W → Prop} (h : zM l G y cc maxL ret rm av wc post)
    (ws wr tl : va_W) (isC isR : List Nat) (hC : isC.map (fun i => ws[i]?) = wc.map some) (hR : isR.map (fun i => ws[i]?) = wr.map some) (hn0 : va_nd isC = true) (hn : va_nd isR = true) (hdis : ∀ i ∈ isR, i ∉ isC) :
    zM l G y cc maxL ret rm av (ws ++ tl) (fun v w => ∃ w1, post v w1 ∧ w = (wr ++ w1) ++ tl) := by
  intro sz
  have hin : ∀ q, va_A wc sz q → va_A (ws ++ tl) sz q := by
    intro q hq
    rcases hq with ⟨k, e, hk⟩ | hq
    · obtain ⟨i, -, hi⟩ := va_in_of isC hC hk
      exact Or.inl ⟨i, e, by rw [List.getElem?_append_left (List.getElem?_eq_some_iff.mp hi).1]; exact hi⟩
    · exact Or.inr hq
  refine zMet_mono (h sz) ?_ ?_ hin
  · rintro a s ⟨ha, hz, hP, hD, hK, hN⟩
    exact ⟨ha, hz, z_sub (zP_left hP) isC hC, (zD_left hD).sub isC hn0 hC, hK, hN⟩
  · rintro a st o t ⟨ha, hz, hP, hD, hK, hN⟩ ⟨⟨v, w1, ho, hp, hP1, hD1⟩, hF⟩
    subst hz
    have hj := va_joinQ (A0 := va_A (ws ++ tl) st.heap.size) hP hD.self isC isR hC hR hn hdis (fun q h1 h2 => hF.2 q h1 h2) hin hP1 hD1
    exact ⟨⟨v, _, ho, ⟨w1, hp, rfl⟩, hj.1, hj.2⟩, hF.1, fun q h1 h2 => hF.2 q h1 (fun h3 => h2 (hin q h3))⟩
theorem zM.post {l : Launch} {G : zG} {y : MethodName} {cc : ByteArray} {maxL : Nat} {ret : Option FieldType} {rm : Room} {av : List Value} {w : va_W} {post post' : Option Value → va_W → Prop} (h : zM l G y cc maxL ret rm av w post)
    (hp : ∀ v w1, post v w1 → ∃ w2, post' v w2 ∧ w1.Perm w2) : zM l G y cc maxL ret rm av w post' := by
  intro sz
  refine zMet_mono (h sz) (fun _ _ a => a) ?_ (fun _ a => a)
  rintro a st o t - ⟨⟨v, w1, ho, h1, hP1, hD1⟩, hF⟩
  obtain ⟨w2, h2, h3⟩ := hp v w1 h1
  exact ⟨⟨v, w2, ho, h2, z_permP h3 hP1, z_permD h3 hD1⟩, hF⟩
abbrev zap (a b : va_W) : va_W := a ++ b
theorem zp_eq {a b : va_W} (e : a = b) : a.Perm b := e ▸ List.Perm.refl a
theorem z_open {D : va_G} {cl : List vw_C} {H : Heap} {A : Nat → Prop} (bs : List va_W) (r1 wk : va_W) (b1 r2 : List va_W) (n : Nat) (is : List Nat) (e : wk.Perm b1.flatten) (hl : bs.length = n) (hs : is.map (fun i => bs[i]?) = (r1 :: wk :: r2).map some) (hp : is.Perm (List.range n)) (hP : va_P D cl bs.flatten H) (hD : va_D A bs.flatten) : va_P D cl (r1 :: (b1 ++ r2)).flatten H ∧ va_D A (r1 :: (b1 ++ r2)).flatten := by
  subst hl
  have h := zb_flat (zb_perm hs hp)
  have h2 : (r1 :: wk :: r2).flatten.Perm (r1 :: (b1 ++ r2)).flatten := by
    rw [List.flatten_cons, List.flatten_cons, List.flatten_cons, List.flatten_append]
    exact (e.append_right _).append_left _
  exact ⟨z_permP (h.trans h2) hP, z_permD (h.trans h2) hD⟩
theorem z_fold {D : va_G} {cl : List vw_C} {H : Heap} {A : Nat → Prop} (bs r1 b1 r2 : List va_W) (wn : va_W) (n : Nat) (is : List Nat) (e : wn.Perm b1.flatten) (hl : bs.length = n) (hs : is.map (fun i => bs[i]?) = (r1 ++ (b1 ++ r2)).map some) (hp : is.Perm (List.range n)) (hP : va_P D cl bs.flatten H) (hD : va_D A bs.flatten) : va_P D cl (zap r1.flatten (zap wn r2.flatten)) H ∧ va_D A (zap r1.flatten (zap wn r2.flatten)) := by
  subst hl
  have h := zb_flat (zb_perm hs hp)
  have h2 : (r1 ++ (b1 ++ r2)).flatten.Perm (zap r1.flatten (zap wn r2.flatten)) := by
    rw [List.flatten_append, List.flatten_append]
    exact (e.symm.append_right _).append_left _
  exact ⟨z_permP (h.trans h2) hP, z_permD (h.trans h2) hD⟩
