/-! ways() -/
def yMn (x y : Int) : Int := if y < x then y else x
/-- in how many ways a STATE is come to by one LETTER more, after some EDGES -/
def yWx (fr by_ to : Nat → Nat) (x : Nat) (V : Nat → Int) : Nat → Nat → Int
  | 0 => fun _ => 0
  | e + 1 => fun s => if by_ e = x ∧ to e = s then yMn (yWx fr by_ to x V e s + V (fr e)) 1000000 else yWx fr by_ to x V e s
/-- by some LETTERS of a TRACE -/
def yWv (fr by_ to : Nat → Nat) (E : Nat) (g1 : Nat → Nat) : Nat → Nat → Int
  | 0 => fun s => if s = 0 then 1 else 0
  | i + 1 => fun s => yWx fr by_ to (g1 i) (yWv fr by_ to E g1 i) E s
def yWf (en V : Nat → Int) : Nat → Int
  | 0 => 0
  | s + 1 => if 0 < en s then yMn (yWf en V s + V s) 1000000 else yWf en V s
theorem yMn_b {x y : Int} (hx : 0 ≤ x) (hy : 0 ≤ y) : 0 ≤ yMn x y ∧ yMn x y ≤ y ∧ yMn x y ≤ x := by
  unfold yMn
  split <;> omega
section
variable {fr by_ to fr' by' to' : Nat → Nat} {V V' en en' : Nat → Int} {x E i M : Nat} {g1 : Nat → Nat}
theorem yWx_b (hV : ∀ s : Nat, 0 ≤ V s) (e s : Nat) : 0 ≤ yWx fr by_ to x V e s ∧ yWx fr by_ to x V e s ≤ 1000000 := by
  induction e with
  | zero =>
    show (0 : Int) ≤ 0 ∧ (0 : Int) ≤ 1000000
    omega
  | succ e ih =>
    show 0 ≤ (if by_ e = x ∧ to e = s then yMn (yWx fr by_ to x V e s + V (fr e)) 1000000 else yWx fr by_ to x V e s) ∧ (if by_ e = x ∧ to e = s then yMn (yWx fr by_ to x V e s + V (fr e)) 1000000 else yWx fr by_ to x V e s) ≤ 1000000
    have h1 := hV (fr e)
    split
    · have := yMn_b (x := yWx fr by_ to x V e s + V (fr e)) (y := 1000000) (by omega) (by omega)
      omega
    · exact ih
theorem yWv_b (i s : Nat) : 0 ≤ yWv fr by_ to E g1 i s ∧ yWv fr by_ to E g1 i s ≤ 1000000 := by
  induction i generalizing s with
  | zero =>
    show 0 ≤ (if s = 0 then (1 : Int) else 0) ∧ (if s = 0 then (1 : Int) else 0) ≤ 1000000
    split <;> omega
  | succ i ih => exact yWx_b (fun s => (ih s).1) E s
theorem yWx_cg (e : Nat) (h : ∀ j : Nat, j < e → fr j = fr' j ∧ by_ j = by' j ∧ to j = to' j) (hV : ∀ j : Nat, j < e → V (fr j) = V' (fr j)) (s : Nat) : yWx fr by_ to x V e s = yWx fr' by' to' x V' e s := by
  induction e with
  | zero => rfl
  | succ e ih =>
    obtain ⟨a1, a2, a3⟩ := h e (by omega)
    have b := hV e (by omega)
    show (if by_ e = x ∧ to e = s then yMn (yWx fr by_ to x V e s + V (fr e)) 1000000 else yWx fr by_ to x V e s) = if by' e = x ∧ to' e = s then yMn (yWx fr' by' to' x V' e s + V' (fr' e)) 1000000 else yWx fr' by' to' x V' e s
    rw [ih (fun j hj => h j (by omega)) (fun j hj => hV j (by omega)), ← a1, ← a2, ← a3, b]
theorem yWv_cg (i : Nat) (h : ∀ j : Nat, j < E → fr j = fr' j ∧ by_ j = by' j ∧ to j = to' j) (s : Nat) : yWv fr by_ to E g1 i s = yWv fr' by' to' E g1 i s := by
  induction i generalizing s with
  | zero => rfl
  | succ i ih => exact yWx_cg E h (fun j hj => ih (fr j)) s
theorem yWf_cg (M : Nat) (h : ∀ s : Nat, s < M → en s = en' s ∧ V s = V' s) : yWf en V M = yWf en' V' M := by
  induction M with
  | zero => rfl
  | succ M ih =>
    show (if 0 < en M then yMn (yWf en V M + V M) 1000000 else yWf en V M) = if 0 < en' M then yMn (yWf en' V' M + V' M) 1000000 else yWf en' V' M
    rw [ih (fun s hs => h s (by omega)), (h M (by omega)).1, (h M (by omega)).2]
theorem yWf_b (hV : ∀ s : Nat, 0 ≤ V s) (M : Nat) : 0 ≤ yWf en V M ∧ yWf en V M ≤ 1000000 := by
  induction M with
  | zero =>
    show (0 : Int) ≤ 0 ∧ (0 : Int) ≤ 1000000
    omega
  | succ M ih =>
    show 0 ≤ (if 0 < en M then yMn (yWf en V M + V M) 1000000 else yWf en V M) ∧ (if 0 < en M then yMn (yWf en V M + V M) 1000000 else yWf en V M) ≤ 1000000
    have h1 := hV M
    split
    · have := yMn_b (x := yWf en V M + V M) (y := 1000000) (by omega) (by omega)
      omega
    · exact ih
/-- counted whole and cut at the end -/
theorem yWf_s (hV : ∀ s : Nat, 0 ≤ V s) (M : Nat) : yWf en V M = yMn (yS1 (fun s => if 0 < en s then V s else 0) M) 1000000 ∧ 0 ≤ yS1 (fun s => if 0 < en s then V s else 0) M := by
  induction M with
  | zero => exact ⟨rfl, Int.le_refl _⟩
  | succ M ih =>
    have h1 := hV M
    show (if 0 < en M then yMn (yWf en V M + V M) 1000000 else yWf en V M) = yMn (yS1 (fun s => if 0 < en s then V s else 0) M + (if 0 < en M then V M else 0)) 1000000 ∧ 0 ≤ yS1 (fun s => if 0 < en s then V s else 0) M + (if 0 < en M then V M else 0)
    obtain ⟨i1, i2⟩ := ih
    by_cases c9 : 0 < en M
    · rw [if_pos c9, if_pos c9, i1]
      refine ⟨?_, by omega⟩
      unfold yMn
      by_cases c8 : 1000000 < yS1 (fun s => if 0 < en s then V s else 0) M
      · rw [if_pos c8, if_pos (show 1000000 < yS1 (fun s => if 0 < en s then V s else 0) M + V M by omega)]
        split <;> omega
      · rw [if_neg c8]
    · rw [if_neg c9, if_neg c9, i1, Int.add_zero]
      exact ⟨rfl, i2⟩
end
def yWy (K : yMac) (g : Nat → Nat → Nat) (c : Nat → Nat) (n t : Int) : Int := if ¬ (0 ≤ t ∧ t < n) then -1 else yWf (yxEn K) (yWv (yxFr K) (yxBy K) (yxTo K) (yxE K) (g t.toNat) (c t.toNat)) (yxM K)
theorem z_newLu {D : va_G} {cl : List vw_C} {ws : va_W} {H : Heap} {A : Nat → Prop} {a n j : Nat} {cA : ClassId} {g : Nat → Int64} {x : Int64} (k : Nat) (hP : va_P D cl ws H) (hD : va_D A ws) (hk : ws[k]? = some (a, .inl (cA, n, .inr (.inl (vp_updL g j x))))) : ∃ f : Nat → Int64, f = vp_updL g j x ∧ va_P D cl (ws.set k (a, .inl (cA, n, .inr (.inl f)))) H ∧ va_D A (ws.set k (a, .inl (cA, n, .inr (.inl f)))) :=
  ⟨_, rfl, by rw [z_setq hk]; exact hP, by rw [z_setq hk]; exact hD⟩
section
variable {ne ne1 he ks : Nat → Int32} {e x k1 k2 k3 : Nat} {a b sm m cp : Int32}
theorem yWx_n {fr by_ to : Nat → Nat} {V : Nat → Int} (h : ∀ s : Nat, (ne s).toInt = yWx fr by_ to x V e s) (hx : ¬ by_ e = x) : ∀ s : Nat, (ne s).toInt = yWx fr by_ to x V (e + 1) s := fun s => by
  show (ne s).toInt = if by_ e = x ∧ to e = s then yMn (yWx fr by_ to x V e s + V (fr e)) 1000000 else yWx fr by_ to x V e s
  rw [if_neg (fun q => hx q.1)]
  exact h s
theorem yWx_s (h : ∀ s : Nat, (ne s).toInt = yWx (yKf ks) (yKb ks) (yKt ks) x (fun s => (he s).toInt) e s) (hV : ∀ s : Nat, 0 ≤ (he s).toInt ∧ (he s).toInt ≤ 1000000) (hx : yKb ks e = x) (ea : a = ne k1) (h1 : k1 = yKt ks e) (eb : b = he k2) (h2 : k2 = yKf ks e) (es : sm = a + b) (em : m = if cp < sm then cp else sm) (hcp : cp.toInt = 1000000) (e1 : ne1 = upd ne k3 m) (h3 : k3 = yKt ks e) : ∀ s : Nat, (ne1 s).toInt = yWx (yKf ks) (yKb ks) (yKt ks) x (fun s => (he s).toInt) (e + 1) s := fun s => by
  have b1 := yWx_b (fr := yKf ks) (by_ := yKb ks) (to := yKt ks) (x := x) (V := fun s => (he s).toInt) (fun s => (hV s).1) e (yKt ks e)
  have a1 : a.toInt = yWx (yKf ks) (yKb ks) (yKt ks) x (fun s => (he s).toInt) e (yKt ks e) := by rw [ea, h1, h]
  have b2 : b.toInt = (he (yKf ks e)).toInt := by rw [eb, h2]
  have b3 := hV (yKf ks e)
  have s1 := z_addI es ⟨by omega, by omega, by omega, by omega⟩
  have m1 : m.toInt = yMn sm.toInt 1000000 := by
    rw [em]
    unfold yMn
    by_cases c9 : cp < sm
    · rw [if_pos c9, if_pos (by have := (fa_lt _ _).mp c9; omega)]
      exact hcp
    · rw [if_neg c9, if_neg (fun q => c9 ((fa_lt _ _).mpr (by omega)))]
  show (ne1 s).toInt = if yKb ks e = x ∧ yKt ks e = s then yMn (yWx (yKf ks) (yKb ks) (yKt ks) x (fun s => (he s).toInt) e s + (he (yKf ks e)).toInt) 1000000 else yWx (yKf ks) (yKb ks) (yKt ks) x (fun s => (he s).toInt) e s
  rw [e1, h3, z_at]
  by_cases c9 : yKt ks e = s
  · rw [if_pos c9.symm, if_pos ⟨hx, c9⟩, m1, s1, a1, b2, c9]
  · rw [if_neg (fun q => c9 q.symm), if_neg (fun q => c9 q.2)]
    exact h s
theorem yWf_st {en V : Nat → Int} {s s' : Nat} {w w' : Int32} (h : w.toInt = yWf en V s) (hs : s' = s + 1) (e : 0 < en s ∧ w'.toInt = yMn (w.toInt + V s) 1000000 ∨ ¬ 0 < en s ∧ w'.toInt = w.toInt) : w'.toInt = yWf en V s' := by
  subst hs
  show w'.toInt = if 0 < en s then yMn (yWf en V s + V s) 1000000 else yWf en V s
  rcases e with ⟨e1, e2⟩ | ⟨e1, e2⟩
  · rw [if_pos e1, e2, h]
  · rw [if_neg e1, e2, h]
theorem z_minI {cp sm v : Int32} (e : v = if cp < sm then cp else sm) (h : cp.toInt = 1000000) : v.toInt = yMn sm.toInt 1000000 := by
  rw [e]
  unfold yMn
  by_cases c9 : cp < sm
  · rw [if_pos c9, if_pos (by have := (fa_lt _ _).mp c9; omega)]
    exact h
  · rw [if_neg c9, if_neg (fun q => c9 ((fa_lt _ _).mpr (by omega)))]
theorem yWy_n {K : yMac} {g : Nat → Nat → Nat} {c : Nat → Nat} {n t z : Int} (hz : z = -1) (h : ¬ (0 ≤ t ∧ t < n)) : z = yWy K g c n t := by
  unfold yWy
  rw [if_pos h]
  exact hz
theorem yWy_s {K : yMac} {g : Nat → Nat → Nat} {c : Nat → Nat} {n t z : Int} {N M E : Nat} {so le : Nat → Nat} {pf en : Nat → Int} {fr by_ to : Nat → Nat} {su lo hi : Nat → Int} (h : yAr K N M E so le pf en fr by_ to su lo hi) (ht : 0 ≤ t ∧ t < n) (hz : z = yWf en (yWv fr by_ to E (g t.toNat) (c t.toNat)) M) : z = yWy K g c n t := by
  obtain ⟨_, e2, e3, _, e5, e6⟩ := h
  unfold yWy
  rw [if_neg (by omega), hz, e2]
  rw [e2] at e5
  refine yWf_cg _ (fun s hs => ⟨(e5 s hs).2.2, ?_⟩)
  rw [← e3]
  exact yWv_cg _ (fun j hj => (e6 j hj).1) s
theorem yWv_g {fr by_ to : Nat → Nat} {E : Nat} {g1 g2 : Nat → Nat} (i : Nat) (h : ∀ j : Nat, j < i → g1 j = g2 j) : yWv fr by_ to E g1 i = yWv fr by_ to E g2 i := by
  induction i with
  | zero => rfl
  | succ i ih =>
    show (fun s => yWx fr by_ to (g1 i) (yWv fr by_ to E g1 i) E s) = fun s => yWx fr by_ to (g2 i) (yWv fr by_ to E g2 i) E s
    rw [ih (fun j hj => h j (by omega)), h i (by omega)]
end
/-! the reference's, in longs -/
section
variable {fr by_ to : Nat → Nat} {V : Nat → Int} {th th1 no : Nat → Int64} {x e M k1 k2 k3 : Nat} {a b v m : Int64}
theorem zJ_ab {a b v : Int64} (es : v = a + b) (ha : 0 ≤ a.toInt ∧ a.toInt ≤ 1000000000) (hb : 0 ≤ b.toInt ∧ b.toInt ≤ 1000000000) : v.toInt = a.toInt + b.toInt := (zJ_add (l := 0) (h := 2000000000) (show zJ a 0 1000000000 from ha) (show zJ b 0 1000000000 from hb) es (by decide)).1
theorem yWx_rn (h : ∀ s : Nat, s < M → (th s).toInt = yWx fr by_ to x V e s) (hV : ∀ s : Nat, 0 ≤ V s) (ht : to e < M) (hx : ¬ by_ e = x) (ea : a = th k1) (h1 : k1 = to e) (es : v = a + b) (hb : b.toInt = 0) (em : 1000000 < v.toInt ∧ m.toInt = 1000000 ∨ ¬ 1000000 < v.toInt ∧ m = v) (e1 : th1 = vp_updL th k3 m) (h3 : k3 = to e) : ∀ s : Nat, s < M → (th1 s).toInt = yWx fr by_ to x V (e + 1) s := fun s hs => by
  have a1 : a.toInt = yWx fr by_ to x V e (to e) := by rw [ea, h1, h _ ht]
  have b1 := yWx_b (fr := fr) (by_ := by_) (to := to) (x := x) (V := V) hV e (to e)
  have s1 := zJ_ab es (by omega) (by omega)
  have m1 : m.toInt = a.toInt := by
    rcases em with ⟨q, _⟩ | ⟨_, q⟩
    · omega
    · rw [q, s1, hb]
      omega
  show (th1 s).toInt = if by_ e = x ∧ to e = s then yMn (yWx fr by_ to x V e s + V (fr e)) 1000000 else yWx fr by_ to x V e s
  rw [if_neg (fun q => hx q.1), e1, h3]
  show (if s = to e then m else th s).toInt = _
  by_cases c9 : s = to e
  · rw [if_pos c9, m1, a1, c9]
  · rw [if_neg c9]
    exact h s hs
theorem yWx_rs (h : ∀ s : Nat, s < M → (th s).toInt = yWx fr by_ to x V e s) (hV : ∀ s : Nat, 0 ≤ V s) (ht : to e < M) (hx : by_ e = x) (ea : a = th k1) (h1 : k1 = to e) (eb : b = no k2) (hb : (no k2).toInt = V (fr e)) (hb2 : V (fr e) ≤ 1000000) (es : v = a + b) (em : 1000000 < v.toInt ∧ m.toInt = 1000000 ∨ ¬ 1000000 < v.toInt ∧ m = v) (e1 : th1 = vp_updL th k3 m) (h3 : k3 = to e) : ∀ s : Nat, s < M → (th1 s).toInt = yWx fr by_ to x V (e + 1) s := fun s hs => by
  have a1 : a.toInt = yWx fr by_ to x V e (to e) := by rw [ea, h1, h _ ht]
  have b1 := yWx_b (fr := fr) (by_ := by_) (to := to) (x := x) (V := V) hV e (to e)
  have b2 : b.toInt = V (fr e) := by rw [eb, hb]
  have b3 := hV (fr e)
  have s1 := zJ_ab es (by omega) (by omega)
  have m1 : m.toInt = yMn (a.toInt + b.toInt) 1000000 := by
    unfold yMn
    rcases em with ⟨q, q2⟩ | ⟨q, q2⟩
    · rw [if_pos (by omega), q2]
    · rw [if_neg (by omega), q2, s1]
  show (th1 s).toInt = if by_ e = x ∧ to e = s then yMn (yWx fr by_ to x V e s + V (fr e)) 1000000 else yWx fr by_ to x V e s
  rw [e1, h3]
  show (if s = to e then m else th s).toInt = _
  by_cases c9 : s = to e
  · rw [if_pos c9, if_pos ⟨hx, c9.symm⟩, m1, a1, b2, c9]
  · rw [if_neg c9, if_neg (fun q => c9 q.2.symm)]
    exact h s hs
/-- only STATES that there are count -/
theorem yWx_V {V' : Nat → Int} (n : Nat) (h : ∀ j : Nat, j < n → V (fr j) = V' (fr j)) (s : Nat) : yWx fr by_ to x V n s = yWx fr by_ to x V' n s := yWx_cg n (fun _ _ => ⟨rfl, rfl, rfl⟩) h s
end
theorem z_l2i {a : Int64} (h : 0 ≤ a.toInt ∧ a.toInt ≤ 1000000) : a.toInt32.toInt = a.toInt := by
  rw [Int64.toInt_toInt32]
  exact zi_bmod (by omega)
