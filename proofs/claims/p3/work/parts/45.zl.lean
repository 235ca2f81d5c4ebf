/-! both machines, by what they hold -/
/-- VALUES have two digits at most -/
def yVr (R : Nat → Int32) : Prop := ∀ t i : Nat, i < zcR R t → 0 ≤ zvR R t i ∧ zvR R t i ≤ 99
abbrev yMCr (R : Nat → Int32) (b : Int) (k N o3 o4 : Nat) (M E : Int) (so le pf en ed : Nat → Int32) : Prop := yMC (zgR R) (zcR R) (zvR R) b (R 0).toInt.toNat k N M.toNat (yNo so o3) (yNo le o3) (fun s => (pf (o3 + s)).toInt) (fun s => (en (o3 + s)).toInt) E.toNat (fun e => (ed (o4 + 6 * e)).toInt.toNat) (fun e => (ed (o4 + 6 * e + 1)).toInt.toNat) (fun e => (ed (o4 + 6 * e + 2)).toInt.toNat) (fun e => (ed (o4 + 6 * e + 3)).toInt) (fun e => (ed (o4 + 6 * e + 4)).toInt) (fun e => (ed (o4 + 6 * e + 5)).toInt)
abbrev yMCl (R : Nat → Int32) (b : Int) (k N : Nat) (M E : Int) (so le pf en ks su lo hi : Nat → Int32) : Prop := yMC (zgR R) (zcR R) (zvR R) b (R 0).toInt.toNat k N M.toNat (yN so) (yN le) (fun s => (pf s).toInt) (fun s => (en s).toInt) E.toNat (yKf ks) (yKb ks) (yKt ks) (fun e => (su e).toInt) (fun e => (lo e).toInt) (fun e => (hi e).toInt)
section
variable {R so_ le_ pf_ en_ en0 pa ed ed1 : Nat → Int32} {b : Int} {T t i E o2 o3 o4 N k : Nat} {E1 M : Int}
theorem yLy_s (hR : yRw R) (hP : yPL (zgR R) (zcR R) b T o2 pa) (hso : zR so_ 0 240) (ht : t < T ∧ T ≤ 20) (hb : ¬ (t : Int) = b) (hi : i < zcR R t) (h : yRE (zgR R) (zcR R) (zvR R) b (yNo so_ o3) t i E o4 ed)
    (f : ∃ fr by_ to va : Int32, (fr = so_ (o3 + (pa (o2 + 13 * t + i)).toInt.toNat) ∧ by_ = R (21 + (12 * t + i)) ∧ to = so_ (o3 + (pa (o2 + 13 * t + (i + 1))).toInt.toNat) ∧ va = R (261 + (12 * t + i))) ∧ yAE o4 E ed ed1 E1 fr by_ to va) : yRE (zgR R) (zcR R) (zvR R) b (yNo so_ o3) t (i + 1) E1.toNat o4 ed1 := by
  obtain ⟨fr, by_, to, va, ⟨f1, f2, f3, f4⟩, f5⟩ := f
  have e1 := hP t i ht.1 hb (by omega)
  have e2 := hP t (i + 1) ht.1 hb (by omega)
  have c1 := yRw_c hR t
  have g1 := yRw_g hR T t i ht.1 hi
  rw [zgR_at hi] at g1
  have i1 := zcR_in hi
  have q1 := hR.2.2 (12 * t + i) (by have := hR.1; have := hR.2.1 t (by omega); omega)
  have s1 := hso (o3 + ypt (zgR R) (zcR R) b t i)
  have s2 := hso (o3 + ypt (zgR R) (zcR R) b t (i + 1))
  have f1' : fr = so_ (o3 + ypt (zgR R) (zcR R) b t i) := by rw [f1, e1, show ((ypt (zgR R) (zcR R) b t i : Nat) : Int).toNat = ypt (zgR R) (zcR R) b t i by omega]
  have f3' : to = so_ (o3 + ypt (zgR R) (zcR R) b t (i + 1)) := by rw [f3, e2, show ((ypt (zgR R) (zcR R) b t (i + 1) : Nat) : Int).toNat = ypt (zgR R) (zcR R) b t (i + 1) by omega]
  refine yRE_s h (fun t => yRw_c hR t) ⟨by omega, by omega⟩ ?_ ⟨by rw [f1']; exact s1, by rw [f2]; exact ⟨by omega, by omega⟩, by rw [f3']; exact s2⟩ (by rw [f4, zvR_at hi]) f5
  unfold yCd
  rw [zgR_at hi, f1', f2, f3']
  show ((2410 * (so_ (o3 + ypt (zgR R) (zcR R) b t i)).toInt.toNat + 241 * (R (21 + (12 * t + i))).toInt.toNat + (so_ (o3 + ypt (zgR R) (zcR R) b t (i + 1))).toInt.toNat : Nat) : Int) = _
  have a1 := s1.1
  have a2 := s2.1
  omega
/-- what stands of the machine after t TRACES and i CALLS -/
def yLM (R : Nat → Int32) (b : Int) (k t i o3 o4 : Nat) (M E : Int) (so le pf en ed : Nat → Int32) : Prop := ∃ N : Nat, ∃ en0 : Nat → Int32, yTP (zgR R) (zcR R) b (R 0).toInt.toNat (N : Int) ∧ yRS (yAl (ypt (zgR R) (zcR R) b) (fun t9 i9 => ((yk2 (zgR R) (zcR R) t9 i9 k : Nat) : Int)) (yPf (zcR R) b (R 0).toInt.toNat 0)) N M o3 so le pf en0 ∧ yRE (zgR R) (zcR R) (zvR R) b (yNo so o3) t i E.toNat o4 ed ∧ yREn (zgR R) (zcR R) b (yNo so o3) t M.toNat o3 en
theorem yLM_0 (h : ∃ N : Nat, yTP (zgR R) (zcR R) b (R 0).toInt.toNat (N : Int) ∧ yRS (yAl (ypt (zgR R) (zcR R) b) (fun t9 i9 => ((yk2 (zgR R) (zcR R) t9 i9 k : Nat) : Int)) (yPf (zcR R) b (R 0).toInt.toNat 0)) N M o3 so_ le_ pf_ en_) (hE : E1 = 0) : yLM R b k 0 0 o3 o4 M E1 so_ le_ pf_ en_ ed := by
  obtain ⟨N, h1, h2⟩ := h
  subst hE
  exact ⟨N, en_, h1, h2, yRE_0, fun s hs => (h2.2 s hs).2⟩
theorem yLM_s {E2 : Int} (h : yLM R b k t i o3 o4 M E1 so_ le_ pf_ en_ ed) (hR : yRw R) (hP : yPL (zgR R) (zcR R) b (R 0).toInt.toNat o2 pa) (hso : zR so_ 0 240) (ht : t < (R 0).toInt.toNat) (hb : ¬ (t : Int) = b) (hi : i < zcR R t)
    (f : ∃ fr by_ to va : Int32, (fr = so_ (o3 + (pa (o2 + 13 * t + i)).toInt.toNat) ∧ by_ = R (21 + (12 * t + i)) ∧ to = so_ (o3 + (pa (o2 + 13 * t + (i + 1))).toInt.toNat) ∧ va = R (261 + (12 * t + i))) ∧ yAE o4 E1.toNat ed ed1 E2 fr by_ to va) : yLM R b k t (i + 1) o3 o4 M E2 so_ le_ pf_ en_ ed1 := by
  obtain ⟨N, en0, h1, h2, h3, h4⟩ := h
  exact ⟨N, en0, h1, h2, yLy_s hR hP hso ⟨ht, by have := hR.1; omega⟩ hb hi h3 f, h4⟩
theorem yLM_b (h : yLM R b k t 0 o3 o4 M E1 so_ le_ pf_ en_ ed) (hb : (t : Int) = b) : yLM R b k (t + 1) 0 o3 o4 M E1 so_ le_ pf_ en_ ed := by
  obtain ⟨N, en0, h1, h2, h3, h4⟩ := h
  exact ⟨N, en0, h1, h2, yRE_b h3 hb, yREn_b h4 hb⟩
theorem yLM_t {j : Nat} {x y s c9 : Int32} {en1 : Nat → Int32} (h : yLM R b k t i o3 o4 M E1 so_ le_ pf_ en_ ed) (hR : yRw R) (hP : yPL (zgR R) (zcR R) b (R 0).toInt.toNat o2 pa) (hso : zR so_ 0 240) (ht : t < (R 0).toInt.toNat) (hb : ¬ (t : Int) = b) (hi : i = zcR R t) (hs : s = so_ (o3 + (pa (o2 + 13 * t + i)).toInt.toNat)) (hj : (j : Int) = (o3 : Int) + s.toInt) (e1 : x = en_ j) (e2 : y = x + 1) (e3 : en1 = upd en_ j y) : yLM R b k (t + 1) 0 o3 o4 M E1 so_ le_ pf_ en1 ed := by
  obtain ⟨N, en0, h1, h2, h3, h4⟩ := h
  have a1 := hP t i ht hb (by omega)
  have n0 := hR.1
  have s1 := hso (o3 + ypt (zgR R) (zcR R) b t i)
  have hs' : s = so_ (o3 + ypt (zgR R) (zcR R) b t i) := by rw [hs, a1, show ((ypt (zgR R) (zcR R) b t i : Nat) : Int).toNat = ypt (zgR R) (zcR R) b t i by omega]
  refine ⟨N, en0, h1, h2, yRE_t h3 hi hb, yREn_s h4 hb (by omega) (j := j) ?_ e1 e2 e3⟩
  subst hi
  show j = o3 + (so_ (o3 + ypt (zgR R) (zcR R) b t (zcR R t))).toInt.toNat
  rw [← hs']
  rw [← hs'] at s1
  have := s1.1
  omega
theorem yLM_e (h : yLM R b k t 0 o3 o4 M E1 so_ le_ pf_ en_ ed) (hR : yRw R) (ht : t = (R 0).toInt.toNat) (hv : yVr R) : ∃ N : Nat, yTP (zgR R) (zcR R) b (R 0).toInt.toNat (N : Int) ∧ yMCr R b k N o3 o4 M E1 so_ le_ pf_ en_ ed := by
  subst ht
  obtain ⟨N, en0, h1, h2, h3, h4⟩ := h
  exact ⟨N, h1, yMC_r (fun t i x => hv t i x.2.2) (yRw_g hR _) h1 h2 h3 h4⟩
end
