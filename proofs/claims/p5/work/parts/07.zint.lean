/-! Intervals of numbers, of what a row holds. -/
abbrev zI (v : Int32) (lo hi : Int) : Prop := lo ≤ v.toInt ∧ v.toInt ≤ hi
abbrev zJ (v : Int64) (lo hi : Int) : Prop := lo ≤ v.toInt ∧ v.toInt ≤ hi
def zR (f : Nat → Int32) (lo hi : Int) : Prop := ∀ j : Nat, zI (f j) lo hi
theorem zI_all (v : Int32) : zI v (-2147483648) 2147483647 := ⟨Int32.le_toInt v, Int32.toInt_le v⟩
theorem zJ_all (v : Int64) : zJ v (-9223372036854775808) 9223372036854775807 := ⟨Int64.le_toInt v, Int64.toInt_le v⟩
theorem zI.wk {v : Int32} {l h l' h' : Int} (a : zI v l h) (e : l' ≤ l ∧ h ≤ h') : zI v l' h' := ⟨Int.le_trans e.1 a.1, Int.le_trans a.2 e.2⟩
theorem zJ.wk {v : Int64} {l h l' h' : Int} (a : zJ v l h) (e : l' ≤ l ∧ h ≤ h') : zJ v l' h' := ⟨Int.le_trans e.1 a.1, Int.le_trans a.2 e.2⟩
theorem zR.wk {f : Nat → Int32} {l h l' h' : Int} (a : zR f l h) (e : l' ≤ l ∧ h ≤ h') : zR f l' h' := fun j => (a j).wk e
theorem zI.eq {v w : Int32} {l h : Int} (a : zI v l h) (e : w = v) : zI w l h := e ▸ a
theorem zJ.eq {v w : Int64} {l h : Int} (a : zJ v l h) (e : w = v) : zJ w l h := e ▸ a
theorem zR_c {c : Int32} {l h : Int} (a : zI c l h) : zR (fun _ => c) l h := fun _ => a
theorem zR.upd {f : Nat → Int32} {k : Nat} {x : Int32} {l h : Int} (a : zR f l h) (b : zI x l h) : zR (upd f k x) l h := by
  intro j
  show zI (if j = k then x else f j) l h
  split
  · exact b
  · exact a j
theorem zR.cpy {f g : Nat → Int32} {sp dp n : Nat} {l h : Int} (a : zR f l h) (b : zR g l h) : zR (va_cpy f g sp dp n) l h := by
  intro j
  unfold va_cpy
  split
  · exact a _
  · exact b j
theorem zi_bmod {z : Int} (h : -2147483648 ≤ z ∧ z ≤ 2147483647) : z.bmod (2 ^ 32) = z := by
  rw [Int.bmod_def]; omega
theorem zI_add {a b v : Int32} {l1 h1 l2 h2 l h : Int} (x : zI a l1 h1) (y : zI b l2 h2) (e : v = a + b) (c : (-2147483648 ≤ l ∧ l ≤ l1 + l2) ∧ (h1 + h2 ≤ h ∧ h ≤ 2147483647)) : v.toInt = a.toInt + b.toInt ∧ zI v l h := by
  obtain ⟨x1, x2⟩ := x
  obtain ⟨y1, y2⟩ := y
  have q : v.toInt = a.toInt + b.toInt := by rw [e, Int32.toInt_add]; exact zi_bmod (by omega)
  exact ⟨q, by omega, by omega⟩
theorem zI_sub {a b v : Int32} {l1 h1 l2 h2 l h : Int} (x : zI a l1 h1) (y : zI b l2 h2) (e : v = a - b) (c : (-2147483648 ≤ l ∧ l ≤ l1 - h2) ∧ (h1 - l2 ≤ h ∧ h ≤ 2147483647)) : v.toInt = a.toInt - b.toInt ∧ zI v l h := by
  obtain ⟨x1, x2⟩ := x
  obtain ⟨y1, y2⟩ := y
  have q : v.toInt = a.toInt - b.toInt := by rw [e, Int32.toInt_sub]; exact zi_bmod (by omega)
  exact ⟨q, by omega, by omega⟩
theorem zI_mul {a b v : Int32} {l1 h1 l2 h2 l h : Int} (x : zI a l1 h1) (y : zI b l2 h2) (e : v = a * b) (c : ((0 ≤ l1 ∧ 0 ≤ l2) ∧ (-2147483648 ≤ l ∧ l ≤ l1 * l2)) ∧ (h1 * h2 ≤ h ∧ h ≤ 2147483647)) : v.toInt = a.toInt * b.toInt ∧ zI v l h := by
  obtain ⟨x1, x2⟩ := x
  obtain ⟨y1, y2⟩ := y
  have p1 : l1 * l2 ≤ a.toInt * b.toInt := Int.mul_le_mul x1 y1 c.1.1.2 (by omega)
  have p2 : a.toInt * b.toInt ≤ h1 * h2 := Int.mul_le_mul x2 y2 (by omega) (by omega)
  have q : v.toInt = a.toInt * b.toInt := by rw [e, Int32.toInt_mul]; exact zi_bmod (by omega)
  exact ⟨q, by omega, by omega⟩
/-- a number that isn't negative, as a place -/
theorem zI.nat {v : Int32} {l h : Int} (a : zI v l h) (c : 0 ≤ l) : ∃ n : Nat, v = nI n ∧ (n : Int) = v.toInt ∧ n < 2 ^ 31 := by
  obtain ⟨n, h1, h2⟩ := nI_of (x := v) (by rw [fa_lt]; have := a.1; have h0 : (0 : Int32).toInt = 0 := by decide +kernel
                                           omega)
  exact ⟨n, h2, by rw [h2, nI_toInt h1], h1⟩
theorem zI.inn {v : Int32} {l h : Int} {n : Nat} (a : zI v l h) (c : 0 ≤ l ∧ h < n) : vp_in v n := vp_in_iff.mpr ⟨by have := a.1; omega, by have := a.2; omega⟩
theorem zI_inn {v : Int32} {n : Nat} (c : 0 ≤ v.toInt ∧ v.toInt < n) : vp_in v n := vp_in_iff.mpr c
theorem zI_div {a b v : Int32} {l1 h1 l h : Int} {d : Nat} (x : zI a l1 h1) (hb : b = nI d) (e : v = a / b) (c : ((0 ≤ l1 ∧ (0 < d ∧ d < 2147483648)) ∧ l ≤ l1 / d) ∧ h1 / d ≤ h) : v.toInt = a.toInt / d ∧ zI v l h := by
  obtain ⟨n, hn, hz, hlt⟩ := x.nat c.1.1.1
  obtain ⟨x1, x2⟩ := x
  have q : v.toInt = a.toInt / d := by
    rw [e, hb, hn, pk_div hlt c.1.1.2.1 (by omega), nI_toInt (Nat.lt_of_le_of_lt (Nat.div_le_self _ _) hlt), nI_toInt hlt]
    simp
  have p1 := Int.ediv_le_ediv (c := (d : Int)) (by omega) x1
  have p2 := Int.ediv_le_ediv (c := (d : Int)) (by omega) x2
  exact ⟨q, by omega, by omega⟩
theorem zI_rem {a b v : Int32} {l1 h1 h : Int} {d : Nat} (x : zI a l1 h1) (hb : b = nI d) (e : v = a - a / b * b) (c : (0 ≤ l1 ∧ (0 < d ∧ d < 2147483648)) ∧ (d : Int) - 1 ≤ h) : v.toInt = a.toInt % d ∧ zI v 0 h := by
  obtain ⟨n, hn, hz, hlt⟩ := x.nat c.1.1
  have q : v.toInt = a.toInt % d := by
    rw [e, hb, hn, pk_rem hlt c.1.2.1 (by omega), nI_toInt (Nat.lt_of_le_of_lt (Nat.mod_le _ _) hlt), nI_toInt hlt]
    simp
  have p1 := Int.emod_nonneg a.toInt (b := (d : Int)) (by omega)
  have p2 := Int.emod_lt_of_pos a.toInt (b := (d : Int)) (by omega)
  exact ⟨q, by omega, by omega⟩
theorem zI_and {a b v : Int32} {k : Nat} {h : Int} (hm : b.toBitVec.toNat = 2 ^ k - 1) (e : v = a &&& b) (c : k ≤ 30 ∧ (2 ^ k : Nat) - 1 ≤ h) : zI v 0 h := by
  obtain ⟨j, h1, h2⟩ := pk_andE a k hm
  have h3 : (2 ^ k : Nat) ≤ 2 ^ 30 := Nat.pow_le_pow_right (by omega) c.1
  rw [e, h2]
  unfold zI
  rw [nI_toInt (by omega)]
  omega
theorem zI_shr {a b v : Int32} {l1 h1 l h : Int} {k : Nat} (x : zI a l1 h1) (hs : ((b &&& 31).toBitVec.smod 32).toNat = k) (e : v = a >>> (b &&& 31)) (c : (0 ≤ l1 ∧ l ≤ l1 / (2 ^ k : Nat)) ∧ h1 / (2 ^ k : Nat) ≤ h) : v.toInt = a.toInt / (2 ^ k : Nat) ∧ zI v l h := by
  obtain ⟨n, hn, hz, hlt⟩ := x.nat c.1.1
  obtain ⟨x1, x2⟩ := x
  have hp : 0 < 2 ^ k := Nat.pow_pos (by omega)
  have q : v.toInt = a.toInt / (2 ^ k : Nat) := by
    rw [e, hn, pk_shrN hlt _ k hs, nI_toInt (Nat.lt_of_le_of_lt (Nat.div_le_self _ _) hlt), nI_toInt hlt]
    simp
  have p1 := Int.ediv_le_ediv (c := ((2 ^ k : Nat) : Int)) (by omega) x1
  have p2 := Int.ediv_le_ediv (c := ((2 ^ k : Nat) : Int)) (by omega) x2
  exact ⟨q, by omega, by omega⟩
theorem zI_i2l {a : Int32} {v : Int64} {l h : Int} (x : zI a l h) (e : v = a.toInt64) : v.toInt = a.toInt ∧ zJ v l h := by
  have q : v.toInt = a.toInt := by rw [e, Int32.toInt_toInt64]
  exact ⟨q, by unfold zJ; rw [q]; exact x⟩
/-- what a branch tells -/
theorem zI.lt_l {a b : Int32} {l1 h1 l2 h2 h : Int} (x : zI a l1 h1) (y : zI b l2 h2) (c : a < b) (e : h2 - 1 ≤ h) : zI a l1 h := by
  rw [fa_lt] at c; exact ⟨x.1, by have := y.2; omega⟩
theorem zI.lt_r {a b : Int32} {l1 h1 l2 h2 l : Int} (x : zI a l1 h1) (y : zI b l2 h2) (c : a < b) (e : l ≤ l1 + 1) : zI b l h2 := by
  rw [fa_lt] at c; exact ⟨by have := x.1; omega, y.2⟩
theorem zI.le_l {a b : Int32} {l1 h1 l2 h2 h : Int} (x : zI a l1 h1) (y : zI b l2 h2) (c : a ≤ b) (e : h2 ≤ h) : zI a l1 h := by
  rw [fa_le] at c; exact ⟨x.1, by have := y.2; omega⟩
theorem zI.le_r {a b : Int32} {l1 h1 l2 h2 l : Int} (x : zI a l1 h1) (y : zI b l2 h2) (c : a ≤ b) (e : l ≤ l1) : zI b l h2 := by
  rw [fa_le] at c; exact ⟨by have := x.1; omega, y.2⟩
theorem zi_nlt {a b : Int32} (c : ¬ a < b) : b ≤ a := by rw [fa_lt] at c; rw [fa_le]; omega
theorem zi_nle {a b : Int32} (c : ¬ a ≤ b) : b < a := by rw [fa_le] at c; rw [fa_lt]; omega
theorem zI.ne_lo {a b : Int32} {l1 h1 l2 l : Int} (x : zI a l1 h1) (y : zI b l2 l2) (c : ¬ a = b) (e : l2 = l1 ∧ l ≤ l1 + 1) : zI a l h1 := by
  rw [fa_eq] at c; obtain ⟨x1, x2⟩ := x; obtain ⟨y1, y2⟩ := y; exact ⟨by omega, x2⟩
theorem zI.ne_hi {a b : Int32} {l1 h1 l2 h : Int} (x : zI a l1 h1) (y : zI b l2 l2) (c : ¬ a = b) (e : l2 = h1 ∧ h1 - 1 ≤ h) : zI a l1 h := by
  rw [fa_eq] at c; obtain ⟨x1, x2⟩ := x; obtain ⟨y1, y2⟩ := y; exact ⟨x1, by omega⟩
theorem zI.eq_l {a b : Int32} {l1 h1 l2 h2 : Int} (_ : zI a l1 h1) (y : zI b l2 h2) (c : a = b) : zI a l2 h2 := c ▸ y
/-- branches that can't be -/
theorem zI.no_lt {a b : Int32} {l1 h1 l2 h2 : Int} {P : Prop} (x : zI a l1 h1) (y : zI b l2 h2) (c : a < b) (e : h2 ≤ l1) : P := by
  rw [fa_lt] at c; obtain ⟨x1, x2⟩ := x; obtain ⟨y1, y2⟩ := y; omega
theorem zI.no_le {a b : Int32} {l1 h1 l2 h2 : Int} {P : Prop} (x : zI a l1 h1) (y : zI b l2 h2) (c : a ≤ b) (e : h2 < l1) : P := by
  rw [fa_le] at c; obtain ⟨x1, x2⟩ := x; obtain ⟨y1, y2⟩ := y; omega
theorem zI.no_eq {a b : Int32} {l1 h1 l2 h2 : Int} {P : Prop} (x : zI a l1 h1) (y : zI b l2 h2) (c : a = b) (e : h1 < l2 ∨ h2 < l1) : P := by
  rw [fa_eq] at c; obtain ⟨x1, x2⟩ := x; obtain ⟨y1, y2⟩ := y; omega
theorem zI.no_ne {a b : Int32} {l : Int} {P : Prop} (x : zI a l l) (y : zI b l l) (c : ¬ a = b) : P := by
  rw [fa_eq] at c; obtain ⟨x1, x2⟩ := x; obtain ⟨y1, y2⟩ := y; omega
theorem z_setq {α : Type} {ws : List α} {k : Nat} {x : α} (h : ws[k]? = some x) : ws.set k x = ws := by
  apply List.ext_getElem?
  intro i
  rw [List.getElem?_set]
  by_cases e : k = i
  · subst e
    rw [if_pos rfl, if_pos (List.getElem?_eq_some_iff.mp h).1, h]
  · rw [if_neg e]
/-- what a row holds gets a new name -/
theorem z_newf {D : va_G} {cl : List vw_C} {ws : va_W} {H : Heap} {A : Nat → Prop} {a n : Nat} {cA : ClassId} {g : Nat → Int32} {l h : Int} (k : Nat) (hP : va_P D cl ws H) (hD : va_D A ws) (hk : ws[k]? = some (a, .inl (cA, n, .inl g))) (hg : zR g l h) : ∃ f : Nat → Int32, zR f l h ∧ va_P D cl (ws.set k (a, .inl (cA, n, .inl f))) H ∧ va_D A (ws.set k (a, .inl (cA, n, .inl f))) :=
  ⟨g, hg, by rw [z_setq hk]; exact hP, by rw [z_setq hk]; exact hD⟩
theorem z_newF {D : va_G} {cl : List vw_C} {ws : va_W} {H : Heap} {A : Nat → Prop} {a n : Nat} {cA : ClassId} {g : Nat → Int32} (k : Nat) (hP : va_P D cl ws H) (hD : va_D A ws) (hk : ws[k]? = some (a, .inl (cA, n, .inl g))) : ∃ f : Nat → Int32, va_P D cl (ws.set k (a, .inl (cA, n, .inl f))) H ∧ va_D A (ws.set k (a, .inl (cA, n, .inl f))) :=
  ⟨g, by rw [z_setq hk]; exact hP, by rw [z_setq hk]; exact hD⟩
theorem z_newL {D : va_G} {cl : List vw_C} {ws : va_W} {H : Heap} {A : Nat → Prop} {a n : Nat} {cA : ClassId} {g : Nat → Int64} (k : Nat) (hP : va_P D cl ws H) (hD : va_D A ws) (hk : ws[k]? = some (a, .inl (cA, n, .inr (.inl g)))) : ∃ f : Nat → Int64, va_P D cl (ws.set k (a, .inl (cA, n, .inr (.inl f)))) H ∧ va_D A (ws.set k (a, .inl (cA, n, .inr (.inl f)))) :=
  ⟨g, by rw [z_setq hk]; exact hP, by rw [z_setq hk]; exact hD⟩
/-! measures of loops -/
theorem zm_up {x x' : Int32} {C c : Int} {k : Nat} (e : x'.toInt = x.toInt + c) (hk : C - x.toInt < ((k + 1 : Nat) : Int)) (hc : 1 ≤ c) : C - x'.toInt < (k : Int) := by omega
theorem zm_up0 {x : Int32} {C l : Int} (h : zI x l C) (hk : C - x.toInt < ((0 : Nat) : Int)) : False := by have := h.2; omega
theorem zm_upi {x : Int32} {C l h : Int} {N : Nat} (a : zI x l h) (e : C - l < N) : C - x.toInt < (N : Int) := by have := a.1; omega
theorem zm_dn {x x' : Int32} {C c : Int} {k : Nat} (e : x'.toInt = x.toInt + c) (hk : x.toInt - C < ((k + 1 : Nat) : Int)) (hc : c ≤ -1) : x'.toInt - C < (k : Int) := by omega
theorem zm_dn0 {x : Int32} {C h : Int} (a : zI x C h) (hk : x.toInt - C < ((0 : Nat) : Int)) : False := by have := a.1; omega
theorem zm_dni {x : Int32} {C l h : Int} {N : Nat} (a : zI x l h) (e : h - C < N) : x.toInt - C < (N : Int) := by have := a.2; omega
theorem zi_nn {x : Int32} {l h : Int} (a : zI x l h) (e : 0 ≤ l) : ¬ x < 0 := by
  rw [fa_lt]
  have h0 : (0 : Int32).toInt = 0 := by decide +kernel
  have := a.1
  omega
theorem zi_cpo {x n : Int32} {l1 h1 l2 h2 : Int} {L : Nat} (a : zI x l1 h1) (b : zI n l2 h2) (e1 : 0 ≤ l1) (e2 : 0 ≤ l2) (e : x.toInt + n.toInt ≤ L) : x.toNatClampNeg + n.toNatClampNeg ≤ L := by
  obtain ⟨i, hi, zi, li⟩ := zI.nat a e1
  obtain ⟨j, hj, zj, lj⟩ := zI.nat b e2
  rw [← zi, ← zj] at e
  rw [hi, hj, nI_clamp li, nI_clamp lj]
  omega
theorem zi_cp {x n : Int32} {l1 h1 l2 h2 : Int} {L : Nat} (a : zI x l1 h1) (b : zI n l2 h2) (e1 : 0 ≤ l1) (e2 : 0 ≤ l2) (e : h1 + h2 ≤ L) : x.toNatClampNeg + n.toNatClampNeg ≤ L := zi_cpo a b e1 e2 (by have := a.2; have := b.2; omega)
theorem z_newfu {D : va_G} {cl : List vw_C} {ws : va_W} {H : Heap} {A : Nat → Prop} {a n j : Nat} {cA : ClassId} {g : Nat → Int32} {x : Int32} {l h : Int} (k : Nat) (hP : va_P D cl ws H) (hD : va_D A ws) (hk : ws[k]? = some (a, .inl (cA, n, .inl (upd g j x)))) (hg : zR g l h) (hx : zI x l h) : ∃ f : Nat → Int32, zR f l h ∧ f j = x ∧ f = upd g j x ∧ va_P D cl (ws.set k (a, .inl (cA, n, .inl f))) H ∧ va_D A (ws.set k (a, .inl (cA, n, .inl f))) :=
  ⟨upd g j x, zR.upd hg hx, pk_us, rfl, by rw [z_setq hk]; exact hP, by rw [z_setq hk]; exact hD⟩
theorem z_newFu {D : va_G} {cl : List vw_C} {ws : va_W} {H : Heap} {A : Nat → Prop} {a n j : Nat} {cA : ClassId} {g : Nat → Int32} {x : Int32} (k : Nat) (hP : va_P D cl ws H) (hD : va_D A ws) (hk : ws[k]? = some (a, .inl (cA, n, .inl (upd g j x)))) : ∃ f : Nat → Int32, f j = x ∧ f = upd g j x ∧ va_P D cl (ws.set k (a, .inl (cA, n, .inl f))) H ∧ va_D A (ws.set k (a, .inl (cA, n, .inl f))) :=
  ⟨upd g j x, pk_us, rfl, by rw [z_setq hk]; exact hP, by rw [z_setq hk]; exact hD⟩
theorem zI_max {a b v : Int32} {l1 h1 l2 h2 l h : Int} (x : zI a l1 h1) (y : zI b l2 h2) (e : v = if a < b then b else a) (c : (l ≤ l1 ∨ l ≤ l2) ∧ (h1 ≤ h ∧ h2 ≤ h)) : zI v l h := by
  obtain ⟨x1, x2⟩ := x
  obtain ⟨y1, y2⟩ := y
  by_cases q : a < b
  · rw [e, if_pos q]; rw [fa_lt] at q; exact ⟨by omega, by omega⟩
  · rw [e, if_neg q]; rw [fa_lt] at q; exact ⟨by omega, by omega⟩
theorem zI_min {a b v : Int32} {l1 h1 l2 h2 l h : Int} (x : zI a l1 h1) (y : zI b l2 h2) (e : v = if b < a then b else a) (c : (l ≤ l1 ∧ l ≤ l2) ∧ (h1 ≤ h ∨ h2 ≤ h)) : zI v l h := by
  obtain ⟨x1, x2⟩ := x
  obtain ⟨y1, y2⟩ := y
  by_cases q : b < a
  · rw [e, if_pos q]; rw [fa_lt] at q; exact ⟨by omega, by omega⟩
  · rw [e, if_neg q]; rw [fa_lt] at q; exact ⟨by omega, by omega⟩
/-- rows whose first place is free -/
def zR1 (f : Nat → Int32) (lo hi : Int) : Prop := ∀ j : Nat, 1 ≤ j → zI (f j) lo hi
theorem zR1_c {c : Int32} {l h : Int} (a : zI c l h) : zR1 (fun _ => c) l h := fun _ _ => a
theorem zR1.upd {f : Nat → Int32} {i x : Int32} {l h : Int} (a : zR1 f l h) (b : i.toNatClampNeg = 0 ∨ zI x l h) : zR1 (upd f i.toNatClampNeg x) l h := by
  intro j hj
  show zI (if j = i.toNatClampNeg then x else f j) l h
  split
  · rcases b with b | b
    · omega
    · exact b
  · exact a j hj
theorem zR1.ld {f : Nat → Int32} {i v : Int32} {l h l1 h1 : Int} (a : zR1 f l h) (b : zI i l1 h1) (e : v = f i.toNatClampNeg) (c : 1 ≤ l1) : zI v l h := by
  obtain ⟨n, hn, hz, hlt⟩ := zI.nat b (by omega)
  rw [e]
  exact a _ (by rw [hn, nI_clamp hlt]; have := b.1; omega)
theorem z_newfo {D : va_G} {cl : List vw_C} {ws : va_W} {H : Heap} {A : Nat → Prop} {a n : Nat} {i : Int32} {cA : ClassId} {g : Nat → Int32} {x : Int32} {l h : Int} (k : Nat) (hP : va_P D cl ws H) (hD : va_D A ws) (hk : ws[k]? = some (a, .inl (cA, n, .inl (upd g i.toNatClampNeg x)))) (hg : zR1 g l h) (hx : i.toNatClampNeg = 0 ∨ zI x l h) : ∃ f : Nat → Int32, zR1 f l h ∧ f i.toNatClampNeg = x ∧ f = upd g i.toNatClampNeg x ∧ va_P D cl (ws.set k (a, .inl (cA, n, .inl f))) H ∧ va_D A (ws.set k (a, .inl (cA, n, .inl f))) :=
  ⟨upd g i.toNatClampNeg x, zR1.upd hg hx, pk_us, rfl, by rw [z_setq hk]; exact hP, by rw [z_setq hk]; exact hD⟩
/-- keys of EDGES -/
def zK (f : Nat → Int32) : Prop := ∀ j : Nat, zI (f j) 0 616944 ∧ (f j).toInt % 256 ≤ 240
theorem zK_c {c : Int32} (a : zI c 0 616944) (b : c.toInt % 256 ≤ 240) : zK (fun _ => c) := fun _ => ⟨a, b⟩
theorem zK.ld {f : Nat → Int32} {v : Int32} {j : Nat} (a : zK f) (e : v = f j) : zI v 0 616944 ∧ v.toInt % 256 ≤ 240 := e ▸ a j
theorem zK.cpy {f g : Nat → Int32} {sp dp n : Nat} (a : zK f) (b : zK g) : zK (va_cpy f g sp dp n) := by
  intro j
  unfold va_cpy
  split
  · exact a _
  · exact b j
theorem z_newfk {D : va_G} {cl : List vw_C} {ws : va_W} {H : Heap} {A : Nat → Prop} {a n j : Nat} {cA : ClassId} {g : Nat → Int32} {x : Int32} (k : Nat) (hP : va_P D cl ws H) (hD : va_D A ws) (hk : ws[k]? = some (a, .inl (cA, n, .inl (upd g j x)))) (hg : zK g) (hx : zI x 0 616944) (hm : x.toInt % 256 ≤ 240) : ∃ f : Nat → Int32, zK f ∧ f j = x ∧ f = upd g j x ∧ va_P D cl (ws.set k (a, .inl (cA, n, .inl f))) H ∧ va_D A (ws.set k (a, .inl (cA, n, .inl f))) :=
  ⟨upd g j x, by
    intro i
    show zI (if i = j then x else g i) 0 616944 ∧ (if i = j then x else g i).toInt % 256 ≤ 240
    split
    · exact ⟨hx, hm⟩
    · exact hg i, pk_us, rfl, by rw [z_setq hk]; exact hP, by rw [z_setq hk]; exact hD⟩
theorem z_newfK {D : va_G} {cl : List vw_C} {ws : va_W} {H : Heap} {A : Nat → Prop} {a n : Nat} {cA : ClassId} {g : Nat → Int32} (k : Nat) (hP : va_P D cl ws H) (hD : va_D A ws) (hk : ws[k]? = some (a, .inl (cA, n, .inl g))) (hg : zK g) : ∃ f : Nat → Int32, zK f ∧ f = g ∧ va_P D cl (ws.set k (a, .inl (cA, n, .inl f))) H ∧ va_D A (ws.set k (a, .inl (cA, n, .inl f))) :=
  ⟨g, hg, rfl, by rw [z_setq hk]; exact hP, by rw [z_setq hk]; exact hD⟩
theorem zi_nb {v : Int32} (a : zI v 0 1) : narrow .boolean (.int v) = .int v := by
  have h0 : (0 : Int32).toInt = 0 := by decide +kernel
  have h1 : (1 : Int32).toInt = 1 := by decide +kernel
  have h : v = 0 ∨ v = 1 := by rw [fa_eq, fa_eq, h0, h1]; obtain ⟨a1, a2⟩ := a; omega
  rcases h with rfl | rfl <;> rfl
/-- what a place of the reference's row of TRACES holds; rows of 503 one behind the other -/
def zRk (j : Nat) (v : Int32) : Prop := (j = 0 → zI v 0 20) ∧ (1 ≤ j ∧ j ≤ 20 → zI v 0 12) ∧ (21 ≤ j ∧ j ≤ 260 → zI v 0 9) ∧ (j = 501 → zI v 0 3) ∧ (j = 502 → zI v 0 20)
def zW5 (f : Nat → Int32) : Prop := ∀ j : Nat, zRk (j % 503) (f j)
theorem zRk_0 (j : Nat) : zRk j 0 := by
  have z : ∀ h : Int, 0 ≤ h → zI (0 : Int32) 0 h := fun h e => by
    have h0 : (0 : Int32).toInt = 0 := by decide +kernel
    exact ⟨by omega, by omega⟩
  exact ⟨fun _ => z _ (by decide), fun _ => z _ (by decide), fun _ => z _ (by decide), fun _ => z _ (by decide), fun _ => z _ (by decide)⟩
theorem zW5_c : zW5 (fun _ => 0) := fun _ => zRk_0 _
theorem zW5.upd {f : Nat → Int32} {k : Nat} {x : Int32} (a : zW5 f) (b : zRk (k % 503) x) : zW5 (upd f k x) := by
  intro j
  show zRk (j % 503) (if j = k then x else f j)
  split
  · rename_i h; rw [h]; exact b
  · exact a j
theorem z_pl {i : Int32} {l h : Int} (b : zI i l h) (c : 0 ≤ l) : (i.toNatClampNeg : Int) = i.toInt := by
  obtain ⟨n, hn, hz, hlt⟩ := zI.nat b c
  rw [← hz, hn, nI_clamp hlt]
theorem zW5.ld {f : Nat → Int32} {i v : Int32} {l h a b : Int} (hf : zW5 f) (hi : zI i l h) (e : v = f i.toNatClampNeg) (c : (l = 0 ∧ h = 0 ∧ a = 0 ∧ b = 20) ∨ (1 ≤ l ∧ h ≤ 20 ∧ a = 0 ∧ b = 12) ∨ (21 ≤ l ∧ h ≤ 260 ∧ a = 0 ∧ b = 9) ∨ (l = 501 ∧ h = 501 ∧ a = 0 ∧ b = 3) ∨ (l = 502 ∧ h = 502 ∧ a = 0 ∧ b = 20)) : zI v a b := by
  have p := z_pl hi (by omega)
  obtain ⟨h1, h2⟩ := hi
  have q := hf i.toNatClampNeg
  rw [← e, Nat.mod_eq_of_lt (show i.toNatClampNeg < 503 by omega)] at q
  obtain ⟨q0, q1, q2, q3, q4⟩ := q
  rcases c with ⟨c1, c2, rfl, rfl⟩ | ⟨c1, c2, rfl, rfl⟩ | ⟨c1, c2, rfl, rfl⟩ | ⟨c1, c2, rfl, rfl⟩ | ⟨c1, c2, rfl, rfl⟩
  · exact q0 (by omega)
  · exact q1 (by omega)
  · exact q2 (by omega)
  · exact q3 (by omega)
  · exact q4 (by omega)
/-- a value that fits its place -/
theorem zRk_v {i v : Int32} {l h a b : Int} (hi : zI i l h) (hv : zI v a b) (c : (0 ≤ l ∧ h ≤ 502) ∧ ((l = 0 ∧ h = 0 ∧ 0 ≤ a ∧ b ≤ 20) ∨ (1 ≤ l ∧ h ≤ 20 ∧ 0 ≤ a ∧ b ≤ 12) ∨ (21 ≤ l ∧ h ≤ 260 ∧ 0 ≤ a ∧ b ≤ 9) ∨ (261 ≤ l ∧ h ≤ 500) ∨ (l = 501 ∧ h = 501 ∧ 0 ≤ a ∧ b ≤ 3) ∨ (l = 502 ∧ h = 502 ∧ 0 ≤ a ∧ b ≤ 20))) : zRk (i.toNatClampNeg % 503) v := by
  have p := z_pl hi c.1.1
  obtain ⟨h1, h2⟩ := hi
  rw [Nat.mod_eq_of_lt (show i.toNatClampNeg < 503 by omega)]
  obtain ⟨v1, v2⟩ := hv
  refine ⟨fun e => ⟨?_, ?_⟩, fun e => ⟨?_, ?_⟩, fun e => ⟨?_, ?_⟩, fun e => ⟨?_, ?_⟩, fun e => ⟨?_, ?_⟩⟩ <;> omega
/-- .. that came from a like place -/
theorem zRk_s {f : Nat → Int32} {i j v : Int32} {l h l2 h2 : Int} (hf : zW5 f) (e : v = f i.toNatClampNeg) (hi : zI i l h) (hj : zI j l2 h2) (c : 0 ≤ l ∧ 0 ≤ l2) (q : i.toInt % 503 = j.toInt % 503) : zRk (j.toNatClampNeg % 503) v := by
  have p := z_pl hi c.1
  have p2 := z_pl hj c.2
  have r := hf i.toNatClampNeg
  rw [← e] at r
  rw [show j.toNatClampNeg % 503 = i.toNatClampNeg % 503 by omega]
  exact r
theorem z_newfw {D : va_G} {cl : List vw_C} {ws : va_W} {H : Heap} {A : Nat → Prop} {a n j : Nat} {cA : ClassId} {g : Nat → Int32} {x : Int32} (k : Nat) (hP : va_P D cl ws H) (hD : va_D A ws) (hk : ws[k]? = some (a, .inl (cA, n, .inl (upd g j x)))) (hg : zW5 g) (hx : zRk (j % 503) x) : ∃ f : Nat → Int32, zW5 f ∧ f j = x ∧ f = upd g j x ∧ va_P D cl (ws.set k (a, .inl (cA, n, .inl f))) H ∧ va_D A (ws.set k (a, .inl (cA, n, .inl f))) :=
  ⟨upd g j x, zW5.upd hg hx, pk_us, rfl, by rw [z_setq hk]; exact hP, by rw [z_setq hk]; exact hD⟩
theorem zj_bmod {z : Int} (h : -9223372036854775808 ≤ z ∧ z ≤ 9223372036854775807) : z.bmod (2 ^ 64) = z := by
  rw [Int.bmod_def]; omega
theorem zJ_add {a b v : Int64} {l1 h1 l2 h2 l h : Int} (x : zJ a l1 h1) (y : zJ b l2 h2) (e : v = a + b) (c : (-9223372036854775808 ≤ l ∧ l ≤ l1 + l2) ∧ (h1 + h2 ≤ h ∧ h ≤ 9223372036854775807)) : v.toInt = a.toInt + b.toInt ∧ zJ v l h := by
  obtain ⟨x1, x2⟩ := x
  obtain ⟨y1, y2⟩ := y
  have q : v.toInt = a.toInt + b.toInt := by rw [e, Int64.toInt_add]; exact zj_bmod (by omega)
  exact ⟨q, by omega, by omega⟩
theorem zJ_sub {a b v : Int64} {l1 h1 l2 h2 l h : Int} (x : zJ a l1 h1) (y : zJ b l2 h2) (e : v = a - b) (c : (-9223372036854775808 ≤ l ∧ l ≤ l1 - h2) ∧ (h1 - l2 ≤ h ∧ h ≤ 9223372036854775807)) : v.toInt = a.toInt - b.toInt ∧ zJ v l h := by
  obtain ⟨x1, x2⟩ := x
  obtain ⟨y1, y2⟩ := y
  have q : v.toInt = a.toInt - b.toInt := by rw [e, Int64.toInt_sub]; exact zj_bmod (by omega)
  exact ⟨q, by omega, by omega⟩
theorem z_at (f : Nat → Int32) (j : Nat) (x : Int32) (q : Nat) : upd f j x q = if q = j then x else f q := rfl
/-! rows of which each place keeps what its number says -/
abbrev zqa {α : Type} (Q : Nat → α → Prop) (f : Nat → α) : Prop := ∀ j : Nat, Q j (f j)
theorem z_newq_ {D : va_G} {cl : List vw_C} {ws : va_W} {H : Heap} {A : Nat → Prop} {a n j : Nat} {cA : ClassId} {g : Nat → Int32} {x : Int32} {Q : Nat → Int32 → Prop} (k : Nat) (hP : va_P D cl ws H) (hD : va_D A ws) (hk : ws[k]? = some (a, .inl (cA, n, .inl (upd g j x)))) (hg : zqa Q g) (hx : Q j x) : ∃ f : Nat → Int32, zqa Q f ∧ f j = x ∧ f = upd g j x ∧ va_P D cl (ws.set k (a, .inl (cA, n, .inl f))) H ∧ va_D A (ws.set k (a, .inl (cA, n, .inl f))) :=
  ⟨upd g j x, by
    intro i
    show Q i (if i = j then x else g i)
    split
    · rename_i h; rw [h]; exact hx
    · exact hg i, pk_us, rfl, by rw [z_setq hk]; exact hP, by rw [z_setq hk]; exact hD⟩
/-- places of PREFIXES -/
def qP (j : Nat) (v : Int32) : Prop := zI v 0 240 ∧ v.toInt ≤ ((j % 260 : Nat) : Int)
theorem zQP.ld {f : Nat → Int32} {i v : Int32} {l h : Int} (a : zqa qP f) (b : zI i l h) (e : v = f i.toNatClampNeg) (c : 0 ≤ l) : zI v 0 240 ∧ v.toInt ≤ i.toInt % 260 := by
  have p := z_pl b c
  have q := a i.toNatClampNeg
  rw [← e] at q
  exact ⟨q.1, by have := q.2; omega⟩
theorem qP_v {i v : Int32} {l h : Int} (b : zI i l h) (c : 0 ≤ l) (x : (0 ≤ v.toInt ∧ v.toInt ≤ 240) ∧ v.toInt ≤ i.toInt % 260) : qP i.toNatClampNeg v := by
  have p := z_pl b c
  exact ⟨x.1, by have := x.2; omega⟩
theorem zi_00 : (0 : Int32).toInt = 0 := by decide +kernel
theorem zi_0 {h : Int} (c : 0 ≤ h) : zI (0 : Int32) 0 h := ⟨by rw [zi_00]; exact Int.le_refl 0, by rw [zi_00]; exact c⟩
theorem zQP_c : zqa qP (fun _ => 0) := fun j => ⟨zi_0 (by decide), by show (0 : Int32).toInt ≤ _; rw [zi_00]; omega⟩
/-- how many rows follow a PREFIX -/
def qC (j : Nat) (v : Int32) : Prop := zI v 0 260 ∧ (v.toInt = 0 ∨ v.toInt + ((j % 241 : Nat) : Int) ≤ 260)
theorem zQC.ld {f : Nat → Int32} {i v : Int32} {l h : Int} (a : zqa qC f) (b : zI i l h) (e : v = f i.toNatClampNeg) (c : 0 ≤ l) : zI v 0 260 ∧ (v.toInt = 0 ∨ v.toInt + i.toInt % 241 ≤ 260) := by
  have p := z_pl b c
  have q := a i.toNatClampNeg
  rw [← e] at q
  exact ⟨q.1, by have := q.2; omega⟩
theorem qC_v {i v : Int32} {l h : Int} (b : zI i l h) (c : 0 ≤ l) (x : (0 ≤ v.toInt ∧ v.toInt ≤ 260) ∧ (v.toInt = 0 ∨ v.toInt + i.toInt % 241 ≤ 260)) : qC i.toNatClampNeg v := by
  have p := z_pl b c
  exact ⟨x.1, by have := x.2; omega⟩
theorem zQC_c : zqa qC (fun _ => 0) := fun _ => ⟨zi_0 (by decide), Or.inl zi_00⟩
/-- EDGES of the reference, six places each -/
def qE (j : Nat) (v : Int32) : Prop := (j % 6 = 0 → zI v 0 240) ∧ (j % 6 = 1 → zI v 0 9) ∧ (j % 6 = 2 → zI v 0 240)
theorem zQE.ld {f : Nat → Int32} {i v : Int32} {l h : Int} (a : zqa qE f) (b : zI i l h) (e : v = f i.toNatClampNeg) (c : 0 ≤ l) : (i.toInt % 6 = 0 → zI v 0 240) ∧ (i.toInt % 6 = 1 → zI v 0 9) ∧ (i.toInt % 6 = 2 → zI v 0 240) := by
  have p := z_pl b c
  have q := a i.toNatClampNeg
  rw [← e] at q
  exact ⟨fun h => q.1 (by omega), fun h => q.2.1 (by omega), fun h => q.2.2 (by omega)⟩
theorem qE_v {i v : Int32} {l h : Int} (b : zI i l h) (c : 0 ≤ l) (x : (i.toInt % 6 = 0 → zI v 0 240) ∧ (i.toInt % 6 = 1 → zI v 0 9) ∧ (i.toInt % 6 = 2 → zI v 0 240)) : qE i.toNatClampNeg v := by
  have p := z_pl b c
  exact ⟨fun h => x.1 (by omega), fun h => x.2.1 (by omega), fun h => x.2.2 (by omega)⟩
theorem qE_s {i j v : Int32} {l h l2 h2 : Int} (x : (i.toInt % 6 = 0 → zI v 0 240) ∧ (i.toInt % 6 = 1 → zI v 0 9) ∧ (i.toInt % 6 = 2 → zI v 0 240)) (_ : zI i l h) (b : zI j l2 h2) (c : 0 ≤ l2) (e : i.toInt % 6 = j.toInt % 6) : qE j.toNatClampNeg v := qE_v b c (by rw [← e]; exact x)
theorem zQE_c : zqa qE (fun _ => 0) := fun _ => ⟨fun _ => zi_0 (by decide), fun _ => zi_0 (by decide), fun _ => zi_0 (by decide)⟩
/-- words of sets of STATES: the fourth of each four has no bit above 48 -/
def qB (j : Nat) (v : Int64) : Prop := j % 4 = 3 → v.toBitVec.toNat < 2 ^ 49
theorem zQB.ld {f : Nat → Int64} {i : Int32} {v : Int64} {l h : Int} (a : zqa qB f) (b : zI i l h) (e : v = f i.toNatClampNeg) (c : 0 ≤ l) : i.toInt % 4 = 3 → v.toBitVec.toNat < 2 ^ 49 := by
  have p := z_pl b c
  have q := a i.toNatClampNeg
  rw [← e] at q
  exact fun h => q (by omega)
theorem qB_v {i : Int32} {v : Int64} {l h : Int} (b : zI i l h) (c : 0 ≤ l) (x : i.toInt % 4 = 3 → v.toBitVec.toNat < 2 ^ 49) : qB i.toNatClampNeg v := by
  have p := z_pl b c
  exact fun h => x (by omega)
theorem zi_0B : (0 : Int64).toBitVec.toNat < 2 ^ 49 := by decide +kernel
theorem zQB_c : zqa qB (fun _ => 0) := fun _ _ => zi_0B
theorem z_newlb {D : va_G} {cl : List vw_C} {ws : va_W} {H : Heap} {A : Nat → Prop} {a n j : Nat} {cA : ClassId} {g : Nat → Int64} {x : Int64} {Q : Nat → Int64 → Prop} (k : Nat) (hP : va_P D cl ws H) (hD : va_D A ws) (hk : ws[k]? = some (a, .inl (cA, n, .inr (.inl (vp_updL g j x))))) (hg : zqa Q g) (hx : Q j x) : ∃ f : Nat → Int64, zqa Q f ∧ f = vp_updL g j x ∧ va_P D cl (ws.set k (a, .inl (cA, n, .inr (.inl f)))) H ∧ va_D A (ws.set k (a, .inl (cA, n, .inr (.inl f)))) :=
  ⟨vp_updL g j x, by
    intro i
    show Q i (if i = j then x else g i)
    split
    · rename_i h; rw [h]; exact hx
    · exact hg i, rfl, by rw [z_setq hk]; exact hP, by rw [z_setq hk]; exact hD⟩
theorem z_newlB {D : va_G} {cl : List vw_C} {ws : va_W} {H : Heap} {A : Nat → Prop} {a n : Nat} {cA : ClassId} {g : Nat → Int64} {Q : Nat → Int64 → Prop} (k : Nat) (hP : va_P D cl ws H) (hD : va_D A ws) (hk : ws[k]? = some (a, .inl (cA, n, .inr (.inl g)))) (hg : zqa Q g) : ∃ f : Nat → Int64, zqa Q f ∧ va_P D cl (ws.set k (a, .inl (cA, n, .inr (.inl f)))) H ∧ va_D A (ws.set k (a, .inl (cA, n, .inr (.inl f)))) :=
  ⟨g, hg, by rw [z_setq hk]; exact hP, by rw [z_setq hk]; exact hD⟩
/-! PREFIXES -/
def zLo (lo : Nat → Int32) (n px : Int) : Prop := ∀ q : Nat, (q : Int) < n → (lo q).toInt < px
def zTr (T wo px : Int) (ln pl : Nat → Int32) : Prop := ∀ t i : Nat, (t : Int) < T → (t : Int) ≠ wo → (i : Int) ≤ (ln t).toInt → (pl (13 * t + i)).toInt < px
theorem z_plf {i : Int32} {l h : Int} (b : zI i l h) (c : 0 ≤ l) : i.toNatClampNeg = i.toInt.toNat := by
  have := z_pl b c
  omega
/-! bits -/
theorem zB_or {a b : Int64} (x : a.toBitVec.toNat < 2 ^ 49) (y : b.toBitVec.toNat < 2 ^ 49) : (a ||| b).toBitVec.toNat < 2 ^ 49 := by
  rw [Int64.toBitVec_or, BitVec.toNat_or]
  exact Nat.or_lt_two_pow x y
theorem zB_sh {w v7 : Int32} {v8 : Int64} (e8 : v8 = 1 <<< ((v7 : Int32).toInt64 &&& 63)) (e7 : v7 = w &&& 63) (h : zI w 192 240) : v8.toBitVec.toNat < 2 ^ 49 := by
  obtain ⟨n, hn, hz, hlt⟩ := zI.nat h (by decide)
  have h1 := h.1
  have h2 := h.2
  have key : ∀ k : Fin 49, ((1 : Int64) <<< (((nI (192 + k.val) &&& 63 : Int32)).toInt64 &&& 63)).toBitVec.toNat < 2 ^ 49 := by decide +kernel
  have := key ⟨n - 192, by omega⟩
  rw [e8, e7, hn]
  have e : 192 + (n - 192) = n := by omega
  simp only [e] at this
  exact this
def zsh (x : Int64) (k : Int32) : Int64 := (x.toUInt64 >>> (k.toInt64.toUInt64 &&& Int64.toUInt64 63)).toInt64
def zpop1 (a : Int64) : Int64 := a - (zsh a 1 &&& 6148914691236517205)
def zpop2 (a : Int64) : Int64 := (a &&& 3689348814741910323) + (zsh a 2 &&& 3689348814741910323)
def zpop3 (a : Int64) : Int64 := (a + zsh a 4) &&& 1085102592571150095
def zpop4 (a : Int64) : Int64 := a + zsh a 8
def zpop5 (a : Int64) : Int64 := a + zsh a 16
def zpop6 (a : Int64) : Int64 := a + zsh a 32
def zpop (a : Int64) : Int32 := (zpop6 (zpop5 (zpop4 (zpop3 (zpop2 (zpop1 a)))))).toInt32 &&& 127
theorem z_pop2 : ∀ k : Fin 64, zpop (Int64.ofBitVec (BitVec.twoPow 64 k.val) - 1) = nI k.val := by decide +kernel
theorem z_low2 (v : BitVec 64) (h : v ≠ 0#64) : ∃ k : Nat, k < 64 ∧ v.getLsbD k = true ∧ v &&& -v = BitVec.twoPow 64 k := by
  have ex : ∃ k : Nat, v.getLsbD k = true := by
    apply Classical.byContradiction
    intro hn
    apply h
    apply BitVec.eq_of_getLsbD_eq
    intro i hi
    have : ¬ v.getLsbD i = true := fun hh => hn ⟨i, hh⟩
    simpa using this
  have mn : ∃ k : Nat, v.getLsbD k = true ∧ ∀ j : Nat, j < k → v.getLsbD j = false := by
    obtain ⟨k0, hk0⟩ := ex
    induction k0 using Nat.strongRecOn with
    | ind k ih =>
      by_cases c : ∃ j : Nat, j < k ∧ v.getLsbD j = true
      · obtain ⟨j, h1, h2⟩ := c
        exact ih j h1 h2
      · exact ⟨k, hk0, fun j hj => by
          cases e : v.getLsbD j
          · rfl
          · exact (c ⟨j, hj, e⟩).elim⟩
  obtain ⟨k, h1, h2⟩ := mn
  have hk : k < 64 := by
    apply Classical.byContradiction
    intro hn
    rw [BitVec.getLsbD_of_ge v k (by omega)] at h1
    cases h1
  refine ⟨k, hk, h1, ?_⟩
  apply BitVec.eq_of_getLsbD_eq
  intro i hi
  rw [BitVec.getLsbD_and, BitVec.getLsbD_neg, BitVec.getLsbD_twoPow]
  rcases Nat.lt_trichotomy i k with c | c | c
  · rw [h2 i c]
    have : ¬ k = i := by omega
    simp [this]
  · subst c
    have : ¬ ∃ j : Nat, j < i ∧ v.getLsbD j = true := by
      rintro ⟨j, hj, hv⟩
      rw [h2 j hj] at hv
      cases hv
    simp [h1, this, hi]
  · have : ∃ j : Nat, j < i ∧ v.getLsbD j = true := ⟨k, c, h1⟩
    have h4 : ¬ k = i := by omega
    simp [this, h4, hi]
theorem z_lowest {a n d m : Int64} {r : Int32} (e1 : n = -a) (e2 : d = a &&& n) (e3 : m = d - 1) (er : r = zpop m) (h : a.toInt ≠ 0) : zI r 0 63 ∧ (a.toBitVec.toNat < 2 ^ 49 → r.toInt ≤ 48) := by
  have h0 : a.toBitVec ≠ 0#64 := by
    intro hh
    apply h
    have : a = 0 := by
      apply Int64.toBitVec_inj.mp
      rw [hh]; rfl
    rw [this]; decide +kernel
  obtain ⟨k, hk, hb, hp⟩ := z_low2 a.toBitVec h0
  have hd : d = Int64.ofBitVec (BitVec.twoPow 64 k) := by
    apply Int64.toBitVec_inj.mp
    rw [e2, e1, Int64.toBitVec_and, Int64.toBitVec_neg, hp]; rfl
  have hr : r = nI k := by rw [er, e3, hd]; exact z_pop2 ⟨k, hk⟩
  have hz : r.toInt = (k : Int) := by rw [hr, nI_toInt (by omega)]
  refine ⟨⟨by omega, by omega⟩, fun hl => ?_⟩
  have : 2 ^ k ≤ a.toBitVec.toNat := Nat.ge_two_pow_of_testBit (by rw [← BitVec.getLsbD]; exact hb)
  have : k < 49 := (Nat.pow_lt_pow_iff_right (by decide)).mp (Nat.lt_of_le_of_lt this hl)
  omega
theorem z_dec {a b c : Int64} {k : Nat} (eb : b = a - 1) (ec : c = a &&& b) (h : a.toInt ≠ 0) (hm : a.toBitVec.toNat < k + 1) : c.toBitVec.toNat < k := by
  have h0 : a.toBitVec.toNat ≠ 0 := by
    intro hh
    apply h
    have : a = 0 := by
      apply Int64.toBitVec_inj.mp
      apply BitVec.eq_of_toNat_eq
      rw [hh]; rfl
    rw [this]; decide +kernel
  have h1 : b.toBitVec.toNat = a.toBitVec.toNat - 1 := by
    rw [eb, Int64.toBitVec_sub, BitVec.toNat_sub]
    have h2 := a.toBitVec.isLt
    have h3 : (1 : Int64).toBitVec.toNat = 1 := by decide +kernel
    rw [h3]
    omega
  have h2 : c.toBitVec.toNat ≤ b.toBitVec.toNat := by
    rw [ec, Int64.toBitVec_and, BitVec.toNat_and]
    exact Nat.and_le_right
  omega
theorem z_decB {a b c : Int64} (ec : c = a &&& b) (h : a.toBitVec.toNat < 2 ^ 49) : c.toBitVec.toNat < 2 ^ 49 := by
  have h2 : c.toBitVec.toNat ≤ a.toBitVec.toNat := by
    rw [ec, Int64.toBitVec_and, BitVec.toNat_and]
    exact Nat.and_le_left
  omega
/-! EDGES of the class: the last of their numbers is the greatest -/
def zkey (so pa le : Nat → Int32) (q : Nat) : Int := 2560 * (so (pa q).toNatClampNeg).toInt + 256 * (le q).toInt + (so q).toInt
def zkI (f : Nat → Int32) (e : Nat) : Prop := ∀ j : Nat, j < e → (f j).toInt ≤ (f (e - 1)).toInt
def zkJ (so pa le f : Nat → Int32) (p e : Nat) : Prop := (∀ q : Nat, 1 ≤ q → q < p → zkey so pa le q ≤ (f (e - 1)).toInt) ∧ (2 ≤ p → 1 ≤ e)
theorem zk_ins {f0 f2 : Nat → Int32} {e a a1 n : Nat} {key : Int32} (h : f2 = upd (va_cpy f0 f0 a a1 n) a key) (h1 : a1 = a + 1) (h2 : a + n = e) (I1 : zkI f0 e) (p2 : a < e → key.toInt ≤ (f0 a).toInt) (p3 : a = e → e = 0 ∨ (f0 (e - 1)).toInt < key.toInt) : zkI f2 (e + 1) ∧ (e ≠ 0 → (f0 (e - 1)).toInt ≤ (f2 e).toInt) ∧ key.toInt ≤ (f2 e).toInt := by
  have at_ : ∀ j : Nat, f2 j = if j = a then key else if a1 ≤ j ∧ j < a1 + n then f0 (a + (j - a1)) else f0 j := by
    intro j
    rw [h]
    rfl
  have hmax : ∀ j : Nat, j < e → (f0 j).toInt ≤ (f0 (e - 1)).toInt := I1
  have hlast : (e ≠ 0 → (f0 (e - 1)).toInt ≤ (f2 e).toInt) ∧ key.toInt ≤ (f2 e).toInt := by
    rw [at_ e]
    by_cases c : a = e
    · rw [if_pos c.symm]
      have := p3 c
      exact ⟨fun _ => by omega, Int.le_refl _⟩
    · rw [if_neg (by omega), if_pos (by omega)]
      have e1 : a + (e - a1) = e - 1 := by omega
      rw [e1]
      have h3 := p2 (by omega)
      have h4 := hmax a (by omega)
      exact ⟨fun _ => Int.le_refl _, by omega⟩
  refine ⟨?_, hlast⟩
  intro j hj
  show (f2 j).toInt ≤ (f2 e).toInt
  rw [at_ j]
  split
  · exact hlast.2
  · split
    · rename_i c1 c2
      have h4 := hmax (a + (j - a1)) (by omega)
      have h5 := hlast.1 (by omega)
      omega
    · rename_i c1 c2
      have h4 := hmax j (by omega)
      have h5 := hlast.1 (by omega)
      omega
