/-! EDGES of the reference: sums of SUPPORTS -/
def zsm (F U : Nat → Int) (x : Int) : Nat → Int
  | 0 => 0
  | n + 1 => zsm F U x n + (if F n = x then U n else 0)
theorem zsm_s (F U : Nat → Int) (x : Int) (n : Nat) : zsm F U x (n + 1) = zsm F U x n + (if F n = x then U n else 0) := rfl
theorem zsm_eq {F U F' U' : Nat → Int} {x : Int} (n : Nat) (h : ∀ j : Nat, j < n → F' j = F j ∧ U' j = U j) : zsm F' U' x n = zsm F U x n := by
  induction n with
  | zero => rfl
  | succ n ih =>
    have h1 := ih (fun j hj => h j (by omega))
    have h2 := h n (by omega)
    rw [zsm_s, zsm_s, h1, h2.1, h2.2]
theorem zsm_ins {F U F' U' : Nat → Int} {x fr : Int} {e : Nat} (n : Nat) (he : e ≤ n) (h1 : ∀ j : Nat, j < e → F' j = F j ∧ U' j = U j) (h2 : F' e = fr ∧ U' e = 1) (h3 : ∀ j : Nat, e ≤ j → j < n → F' (j + 1) = F j ∧ U' (j + 1) = U j) : zsm F' U' x (n + 1) = zsm F U x n + (if fr = x then 1 else 0) := by
  induction n with
  | zero =>
    have e0 : e = 0 := by omega
    subst e0
    rw [zsm_s, h2.1, h2.2]
    rfl
  | succ n ih =>
    by_cases c : e = n + 1
    · subst c
      rw [zsm_s, h2.1, h2.2, zsm_eq (n + 1) h1]
    · have h4 := ih (by omega) (fun j a b => h3 j a (by omega))
      have h5 := h3 n (by omega) (by omega)
      rw [zsm_s, h4, h5.1, h5.2, zsm_s]
      omega
theorem zsm_bump {F U F' U' : Nat → Int} {x fr : Int} {e : Nat} (n : Nat) (he : e < n) (hf : F e = fr) (h : ∀ j : Nat, j < n → F' j = F j ∧ U' j = U j + (if j = e then 1 else 0)) : zsm F' U' x n = zsm F U x n + (if fr = x then 1 else 0) := by
  induction n with
  | zero => omega
  | succ n ih =>
    have h5 := h n (by omega)
    by_cases c : e = n
    · subst c
      have h4 : zsm F' U' x e = zsm F U x e := zsm_eq e (fun j hj => by
        have h6 := h j (by omega)
        rw [if_neg (show ¬ j = e by omega)] at h6
        exact ⟨h6.1, by omega⟩)
      rw [zsm_s, zsm_s, h4, h5.1, h5.2, if_pos rfl, ← hf]
      split <;> omega
    · have h4 := ih (by omega) (fun j hj => h j (by omega))
      rw [if_neg (show ¬ n = e by omega)] at h5
      rw [zsm_s, zsm_s, h4, h5.1, h5.2, Int.add_zero]
      omega
theorem zsm_nn {F U : Nat → Int} {x : Int} (n : Nat) (h : ∀ j : Nat, j < n → 0 ≤ U j) : 0 ≤ zsm F U x n := by
  induction n with
  | zero => exact Int.le_refl 0
  | succ n ih =>
    have h1 := ih (fun j hj => h j (by omega))
    have h2 := h n (by omega)
    rw [zsm_s]
    split <;> omega
theorem zsm_mono {F U : Nat → Int} {x : Int} {k : Nat} (n : Nat) (hk : k ≤ n) (h : ∀ j : Nat, j < n → 0 ≤ U j) : zsm F U x k ≤ zsm F U x n := by
  induction n with
  | zero =>
    have : k = 0 := by omega
    subst this
    exact Int.le_refl _
  | succ n ih =>
    by_cases c : k = n + 1
    · subst c; exact Int.le_refl _
    · have h1 := ih (by omega) (fun j hj => h j (by omega))
      have h2 := h n (by omega)
      rw [zsm_s]
      split <;> omega
theorem zsm_all {F U : Nat → Int} {x : Int} (n : Nat) (h : ∀ j : Nat, j < n → 0 ≤ U j) : zsm F U x n ≤ zsm (fun _ => 0) U 0 n := by
  induction n with
  | zero => exact Int.le_refl _
  | succ n ih =>
    have h1 := ih (fun j hj => h j (by omega))
    have h2 := h n (by omega)
    rw [zsm_s, zsm_s, if_pos rfl]
    split <;> omega
abbrev zeF (ed : Nat → Int32) : Nat → Int := fun e => (ed (6 * e)).toInt
abbrev zeT (ed : Nat → Int32) : Nat → Int := fun e => (ed (6 * e + 2)).toInt
abbrev zeU (ed : Nat → Int32) : Nat → Int := fun e => (ed (6 * e + 3)).toInt
/-- an EDGE came in, or one was gone once more -/
def zAdd (ed : Nat → Int32) (n : Nat) (ed' : Nat → Int32) (n' : Nat) (fr to : Int) : Prop :=
  (∃ e : Nat, e ≤ n ∧ n' = n + 1 ∧ (∀ j : Nat, j < e → zeF ed' j = zeF ed j ∧ zeU ed' j = zeU ed j ∧ zeT ed' j = zeT ed j) ∧ (zeF ed' e = fr ∧ zeU ed' e = 1 ∧ zeT ed' e = to) ∧ (∀ j : Nat, e ≤ j → j < n → zeF ed' (j + 1) = zeF ed j ∧ zeU ed' (j + 1) = zeU ed j ∧ zeT ed' (j + 1) = zeT ed j)) ∨
  (∃ e : Nat, e < n ∧ n' = n ∧ zeF ed e = fr ∧ zeT ed e = to ∧ ∀ j : Nat, j < n → zeF ed' j = zeF ed j ∧ zeT ed' j = zeT ed j ∧ zeU ed' j = zeU ed j + (if j = e then 1 else 0))
theorem zAdd.sum {ed ed' : Nat → Int32} {n n' : Nat} {fr to : Int} (h : zAdd ed n ed' n' fr to) (x : Int) : zsm (zeF ed') (zeU ed') x n' = zsm (zeF ed) (zeU ed) x n + (if fr = x then 1 else 0) := by
  rcases h with ⟨e, he, rfl, h1, h2, h3⟩ | ⟨e, he, rfl, hf, _, h⟩
  · exact zsm_ins n he (fun j hj => ⟨(h1 j hj).1, (h1 j hj).2.1⟩) ⟨h2.1, h2.2.1⟩ (fun j a b => ⟨(h3 j a b).1, (h3 j a b).2.1⟩)
  · exact zsm_bump n' he hf (fun j hj => ⟨(h j hj).1, (h j hj).2.2⟩)
theorem zAdd.all {ed ed' : Nat → Int32} {n n' : Nat} {fr to : Int} (h : zAdd ed n ed' n' fr to) : zsm (fun _ => 0) (zeU ed') 0 n' = zsm (fun _ => 0) (zeU ed) 0 n + 1 := by
  rcases h with ⟨e, he, rfl, h1, h2, h3⟩ | ⟨e, he, rfl, hf, _, h⟩
  · have := zsm_ins (F := fun _ => 0) (F' := fun _ => 0) (U := zeU ed) (U' := zeU ed') (x := 0) (fr := 0) n he (fun j hj => ⟨rfl, (h1 j hj).2.1⟩) ⟨rfl, h2.2.1⟩ (fun j a b => ⟨rfl, (h3 j a b).2.1⟩)
    rw [this, if_pos rfl]
  · have := zsm_bump (F := fun _ => 0) (F' := fun _ => 0) (U := zeU ed) (U' := zeU ed') (x := 0) (fr := 0) n' he rfl (fun j hj => ⟨rfl, (h j hj).2.2⟩)
    rw [this, if_pos rfl]
theorem zAdd.nn {ed ed' : Nat → Int32} {n n' : Nat} {fr to : Int} (h : zAdd ed n ed' n' fr to) (hn : ∀ j : Nat, j < n → 0 ≤ zeU ed j) : ∀ j : Nat, j < n' → 0 ≤ zeU ed' j := by
  intro j hj
  rcases h with ⟨e, he, rfl, h1, h2, h3⟩ | ⟨e, he, rfl, hf, _, h⟩
  · rcases Nat.lt_trichotomy j e with c | c | c
    · rw [(h1 j c).2.1]; exact hn j (by omega)
    · rw [c, h2.2.1]; omega
    · have h4 := h3 (j - 1) (by omega) (by omega)
      rw [show j - 1 + 1 = j by omega] at h4
      rw [h4.2.1]; exact hn _ (by omega)
  · rw [(h j hj).2.2]
    have := hn j hj
    split <;> omega
theorem zAdd.to {ed ed' : Nat → Int32} {n n' : Nat} {fr to : Int} (h : zAdd ed n ed' n' fr to) (j : Nat) (hj : j < n') : zeT ed' j = to ∨ ∃ e : Nat, e < n ∧ zeT ed' j = zeT ed e := by
  rcases h with ⟨e, he, rfl, h1, h2, h3⟩ | ⟨e, he, rfl, hf, _, h⟩
  · rcases Nat.lt_trichotomy j e with c | c | c
    · exact Or.inr ⟨j, by omega, (h1 j c).2.2⟩
    · exact Or.inl (by rw [c]; exact h2.2.2)
    · have h4 := h3 (j - 1) (by omega) (by omega)
      rw [show j - 1 + 1 = j by omega] at h4
      exact Or.inr ⟨j - 1, by omega, h4.2.2⟩
  · exact Or.inr ⟨j, hj, (h j hj).2.1⟩
/-- six places behind, then the new one -/
theorem zadd_ins {ed y f6 f9 : Nat → Int32} {n e i0 i1 i2 i3 i4 i5 j3 j4 j5 : Nat} {fr le to z0 a b v x c d : Int32} (he : e ≤ n)
    (hy : ∀ q : Nat, y q = if 6 * e + 5 < q ∧ q < 6 * n + 6 then ed (q - 6) else ed q)
    (h6 : f6 = upd (upd (upd (upd (upd (upd y i0 fr) i1 le) i2 to) i3 z0) i4 a) i5 b) (h9 : f9 = upd (upd (upd f6 j3 x) j4 c) j5 d)
    (k0 : i0 = 6 * e) (k1 : i1 = 6 * e + 1) (k2 : i2 = 6 * e + 2) (k3 : i3 = 6 * e + 3) (k4 : i4 = 6 * e + 4) (k5 : i5 = 6 * e + 5) (m3 : j3 = 6 * e + 3) (m4 : j4 = 6 * e + 4) (m5 : j5 = 6 * e + 5)
    (hz : z0.toInt = 0) (hv : v = f6 j3) (hx : x.toInt = v.toInt + 1) : zAdd ed n f9 (n + 1) fr.toInt to.toInt := by
  subst k0 k1 k2 k3 k4 k5 m3 m4 m5
  have at6 : ∀ q : Nat, f6 q = if q = 6 * e + 5 then b else if q = 6 * e + 4 then a else if q = 6 * e + 3 then z0 else if q = 6 * e + 2 then to else if q = 6 * e + 1 then le else if q = 6 * e then fr else y q := fun q => by rw [h6]; rfl
  have at9 : ∀ q : Nat, f9 q = if q = 6 * e + 5 then d else if q = 6 * e + 4 then c else if q = 6 * e + 3 then x else f6 q := fun q => by rw [h9]; rfl
  have hv0 : v = z0 := by rw [hv, at6, if_neg (by omega), if_neg (by omega), if_pos rfl]
  have lo : ∀ q : Nat, q < 6 * e → f9 q = ed q := by
    intro q hq
    rw [at9, if_neg (by omega), if_neg (by omega), if_neg (by omega), at6, if_neg (by omega), if_neg (by omega), if_neg (by omega), if_neg (by omega), if_neg (by omega), if_neg (by omega), hy, if_neg (by omega)]
  have hi : ∀ q : Nat, 6 * e + 5 < q → q < 6 * n + 6 → f9 q = ed (q - 6) := by
    intro q hq hq2
    rw [at9, if_neg (by omega), if_neg (by omega), if_neg (by omega), at6, if_neg (by omega), if_neg (by omega), if_neg (by omega), if_neg (by omega), if_neg (by omega), if_neg (by omega), hy, if_pos ⟨hq, hq2⟩]
  refine Or.inl ⟨e, he, rfl, ?_, ⟨?_, ?_, ?_⟩, ?_⟩
  · intro j hj
    refine ⟨?_, ?_, ?_⟩
    · show (f9 (6 * j)).toInt = _; rw [lo _ (by omega)]
    · show (f9 (6 * j + 3)).toInt = _; rw [lo _ (by omega)]
    · show (f9 (6 * j + 2)).toInt = _; rw [lo _ (by omega)]
  · show (f9 (6 * e)).toInt = _
    rw [at9, if_neg (by omega), if_neg (by omega), if_neg (by omega), at6, if_neg (by omega), if_neg (by omega), if_neg (by omega), if_neg (by omega), if_neg (by omega), if_pos rfl]
  · show (f9 (6 * e + 3)).toInt = _
    rw [at9, if_neg (by omega), if_neg (by omega), if_pos rfl, hx, hv0, hz]; rfl
  · show (f9 (6 * e + 2)).toInt = _
    rw [at9, if_neg (by omega), if_neg (by omega), if_neg (by omega), at6, if_neg (by omega), if_neg (by omega), if_neg (by omega), if_pos rfl]
  · intro j hj hj2
    refine ⟨?_, ?_, ?_⟩
    · show (f9 (6 * (j + 1))).toInt = _; rw [hi _ (by omega) (by omega), show 6 * (j + 1) - 6 = 6 * j by omega]
    · show (f9 (6 * (j + 1) + 3)).toInt = _; rw [hi _ (by omega) (by omega), show 6 * (j + 1) + 3 - 6 = 6 * j + 3 by omega]
    · show (f9 (6 * (j + 1) + 2)).toInt = _; rw [hi _ (by omega) (by omega), show 6 * (j + 1) + 2 - 6 = 6 * j + 2 by omega]
theorem zadd_bump {ed f9 : Nat → Int32} {n e j3 j4 j5 : Nat} {v x c d : Int32} {fr to : Int} (he : e < n) (h9 : f9 = upd (upd (upd ed j3 x) j4 c) j5 d) (m3 : j3 = 6 * e + 3) (m4 : j4 = 6 * e + 4) (m5 : j5 = 6 * e + 5) (hv : v = ed j3) (hx : x.toInt = v.toInt + 1) (hf : zeF ed e = fr) (ht : zeT ed e = to) : zAdd ed n f9 n fr to := by
  subst m3 m4 m5
  have at9 : ∀ q : Nat, f9 q = if q = 6 * e + 5 then d else if q = 6 * e + 4 then c else if q = 6 * e + 3 then x else ed q := fun q => by rw [h9]; rfl
  refine Or.inr ⟨e, he, rfl, hf, ht, ?_⟩
  intro j hj
  refine ⟨?_, ?_, ?_⟩
  · show (f9 (6 * j)).toInt = _; rw [at9, if_neg (by omega), if_neg (by omega), if_neg (by omega)]
  · show (f9 (6 * j + 2)).toInt = _; rw [at9, if_neg (by omega), if_neg (by omega), if_neg (by omega)]
  · show (f9 (6 * j + 3)).toInt = _
    rw [at9, if_neg (by omega), if_neg (by omega)]
    by_cases c2 : j = e
    · subst c2
      rw [if_pos rfl, if_pos rfl, hx, hv]
    · rw [if_neg (by omega), if_neg c2, Int.add_zero]
/-- a STATE that something leaves or that something ends in -/
def zGd (en : Nat → Int32) (ed : Nat → Int32) (n : Nat) (x : Int) : Prop := 1 ≤ (en x.toNat).toInt + zsm (zeF ed) (zeU ed) x n
def zst (so pa : Nat → Int32) (t i : Nat) : Int := (so (pa (13 * t + i)).toNatClampNeg).toInt
/-- what stands of the machine while it is laid: at CALL i of TRACE t -/
def zWK (ed : Nat → Int32) (n : Nat) (en so pa : Nat → Int32) (sm t i : Int) : Prop :=
  (∀ j : Nat, j < n → 0 ≤ zeU ed j) ∧ zsm (fun _ => 0) (zeU ed) 0 n ≤ 12 * t + i ∧ (∀ s : Nat, (s : Int) < sm → 0 ≤ (en s).toInt ∧ (en s).toInt ≤ t) ∧ (∀ j : Nat, j < n → 0 ≤ zeT ed j ∧ zeT ed j < sm ∧ (zGd en ed n (zeT ed j) ∨ zeT ed j = zst so pa t.toNat i.toNat)) ∧ ((1 ≤ t ∨ 1 ≤ i) → zGd en ed n 0)
theorem zGd.mono {en ed ed' : Nat → Int32} {n n' : Nat} {fr to x : Int} (h : zAdd ed n ed' n' fr to) (g : zGd en ed n x) : zGd en ed' n' x := by
  have := h.sum x
  unfold zGd at g ⊢
  rw [this]
  split <;> omega
theorem zWK.add {ed ed' en so pa : Nat → Int32} {n n' : Nat} {sm t i : Int} (h : zWK ed n en so pa sm t i) (ha : zAdd ed n ed' n' (zst so pa t.toNat i.toNat) (zst so pa t.toNat (i + 1).toNat)) (hi : 0 ≤ i ∧ 0 ≤ t) (hs : 0 ≤ zst so pa t.toNat i.toNat ∧ zst so pa t.toNat i.toNat < sm) (hs2 : 0 ≤ zst so pa t.toNat (i + 1).toNat ∧ zst so pa t.toNat (i + 1).toNat < sm) (h0 : i = 0 → zst so pa t.toNat 0 = 0) : zWK ed' n' en so pa sm t (i + 1) := by
  obtain ⟨a1, a2, a3, a4, a5⟩ := h
  have hfr : zGd en ed' n' (zst so pa t.toNat i.toNat) := by
    have h1 := ha.sum (zst so pa t.toNat i.toNat)
    rw [if_pos rfl] at h1
    have h2 := zsm_nn (F := zeF ed) (x := zst so pa t.toNat i.toNat) n a1
    have h3 := a3 (zst so pa t.toNat i.toNat).toNat (by omega)
    unfold zGd
    rw [h1]
    omega
  refine ⟨ha.nn a1, ?_, a3, ?_, ?_⟩
  · rw [ha.all]; omega
  · intro j hj
    rcases ha.to j hj with h1 | ⟨e, he, h1⟩
    · rw [h1]
      exact ⟨hs2.1, hs2.2, Or.inr rfl⟩
    · have h2 := a4 e he
      rw [h1]
      refine ⟨h2.1, h2.2.1, Or.inl ?_⟩
      rcases h2.2.2 with h3 | h3
      · exact h3.mono ha
      · rw [h3]; exact hfr
  · intro _
    by_cases c : i = 0
    · subst c
      have h1 := h0 rfl
      have h2 : (0 : Int).toNat = 0 := rfl
      rw [h2, h1] at hfr
      exact hfr
    · exact (a5 (by omega)).mono ha
theorem zGd.en {en en' ed : Nat → Int32} {n : Nat} {x : Int} (hm : (en x.toNat).toInt ≤ (en' x.toNat).toInt) (g : zGd en ed n x) : zGd en' ed n x := by
  unfold zGd at g ⊢
  omega
/-- what stands of the machine behind TRACES 0 .. t - 1 -/
def zWF (ed : Nat → Int32) (n : Nat) (en : Nat → Int32) (sm t : Int) : Prop :=
  (∀ j : Nat, j < n → 0 ≤ zeU ed j) ∧ zsm (fun _ => 0) (zeU ed) 0 n ≤ 12 * t ∧ (∀ s : Nat, (s : Int) < sm → 0 ≤ (en s).toInt ∧ (en s).toInt ≤ t) ∧ (∀ j : Nat, j < n → 0 ≤ zeT ed j ∧ zeT ed j < sm ∧ zGd en ed n (zeT ed j)) ∧ (1 ≤ t → zGd en ed n 0 ∧ 0 < sm)
theorem zWF_0 {ed en : Nat → Int32} {n : Nat} {sm t : Int} (hn : n = 0) (ht : t = 0) (h : ∀ s : Nat, (s : Int) < sm → (en s).toInt = 0) : zWF ed n en sm t := by
  subst hn ht
  refine ⟨fun j hj => absurd hj (Nat.not_lt_zero j), Int.le_refl 0, fun s hs => ?_, fun j hj => absurd hj (Nat.not_lt_zero j), fun h1 => absurd h1 (by decide)⟩
  have := h s hs
  omega
theorem zWF.wk {ed en so pa : Nat → Int32} {n : Nat} {sm t t' i : Int} (h : zWF ed n en sm t) (e : t = t') (hi : i = 0) : zWK ed n en so pa sm t' i := by
  subst e hi
  obtain ⟨a1, a2, a3, a4, a5⟩ := h
  exact ⟨a1, by omega, a3, fun j hj => ⟨(a4 j hj).1, (a4 j hj).2.1, Or.inl (a4 j hj).2.2⟩, fun h1 => (a5 (by omega)).1⟩
theorem zWF.cg {ed en : Nat → Int32} {n : Nat} {sm t t' : Int} (h : zWF ed n en sm t) (e : t = t') : zWF ed n en sm t' := e ▸ h
theorem zWK.cg {ed en so pa : Nat → Int32} {n : Nat} {sm t t' i i' : Int} (h : zWK ed n en so pa sm t i) (e : t = t') (e2 : i = i') : zWK ed n en so pa sm t' i' := by
  subst e e2
  exact h
/-- a TRACE ends -/
theorem zWK.fin {ed en en' so pa : Nat → Int32} {n : Nat} {sm t i t' : Int} (h : zWK ed n en so pa sm t i) (ht : 0 ≤ t ∧ 0 ≤ i ∧ i ≤ 12) (e9 : t' = t + 1) (hs : 0 ≤ zst so pa t.toNat i.toNat ∧ zst so pa t.toNat i.toNat < sm) (he : ∀ q : Nat, (en' q).toInt = (en q).toInt + (if (q : Int) = zst so pa t.toNat i.toNat then 1 else 0)) (h0 : i = 0 → zst so pa t.toNat 0 = 0) : zWF ed n en' sm t' := by
  subst e9
  obtain ⟨a1, a2, a3, a4, a5⟩ := h
  have hm : ∀ q : Nat, (en q).toInt ≤ (en' q).toInt := fun q => by have := he q; split at this <;> omega
  have hg : zGd en' ed n (zst so pa t.toNat i.toNat) := by
    have h1 := he (zst so pa t.toNat i.toNat).toNat
    rw [if_pos (by omega)] at h1
    have h2 := zsm_nn (F := zeF ed) (x := zst so pa t.toNat i.toNat) n a1
    have h3 := a3 (zst so pa t.toNat i.toNat).toNat (by omega)
    unfold zGd
    omega
  refine ⟨a1, by omega, ?_, ?_, ?_⟩
  · intro s hss
    have h1 := a3 s hss
    have h2 := he s
    split at h2 <;> omega
  · intro j hj
    have h2 := a4 j hj
    refine ⟨h2.1, h2.2.1, ?_⟩
    rcases h2.2.2 with h3 | h3
    · exact h3.en (hm _)
    · rw [h3]; exact hg
  · intro _
    refine ⟨?_, by omega⟩
    by_cases c : i = 0
    · subst c
      have h1 := h0 rfl
      have h2 : (0 : Int).toNat = 0 := rfl
      rw [h2, h1] at hg
      exact hg
    · exact (a5 (by omega)).en (hm _)
theorem zsm_one {U : Nat → Int} {n j : Nat} (hj : j < n) (h : ∀ j : Nat, j < n → 0 ≤ U j) : U j ≤ zsm (fun _ => 0) U 0 n := by
  have h1 := zsm_mono (F := fun _ => 0) (x := 0) (k := j + 1) n (by omega) h
  have h2 := zsm_nn (F := fun _ => 0) (x := 0) j (fun i hi => h i (by omega))
  have h3 := zsm_s (fun _ => 0) U 0 j
  rw [if_pos rfl] at h3
  omega
theorem zWK.ub {ed en so pa : Nat → Int32} {n : Nat} {sm t i : Int} (h : zWK ed n en so pa sm t i) (ht : t ≤ 20 ∧ i ≤ 20) : ∀ j : Nat, j < n → 0 ≤ zeU ed j ∧ zeU ed j ≤ 1000 := by
  intro j hj
  have h1 := zsm_one hj h.1
  have h2 := h.2.1
  exact ⟨h.1 j hj, by omega⟩
theorem zW5.len {f : Nat → Int32} (h : zW5 f) (t : Nat) (ht : t < 20) : zI (f (1 + t)) 0 12 := by
  have q := h (1 + t)
  rw [show (1 + t) % 503 = 1 + t by omega] at q
  exact q.2.1 (by omega)
theorem zst_r {so pa rw_ : Nat → Int32} {T bu px sm : Int} (hz : zTm T bu px 0 rw_ pa) (hso : ∀ p : Nat, (p : Int) < px → (so p).toInt < sm) (hs0 : zR so 0 240) (hpa : zqa qP pa) (t i : Nat) (h1 : (t : Int) < T) (h2 : (t : Int) ≠ bu) (h3 : (i : Int) ≤ (rw_ (1 + t)).toInt) : 0 ≤ zst so pa t i ∧ zst so pa t i < sm := by
  have a := hz t i h1 h2 h3
  rw [Nat.zero_add] at a
  have b := (hpa (13 * t + i)).1
  have c := z_pl b (by decide)
  have d := hso (pa (13 * t + i)).toNatClampNeg (by omega)
  have e := (hs0 (pa (13 * t + i)).toNatClampNeg).1
  exact ⟨e, d⟩
theorem zst_0 {so pa : Nat → Int32} {t : Nat} (hp : (pa (13 * t)).toInt = 0) (h0 : (so 0).toInt = 0) : zst so pa t 0 = 0 := by
  have h1 : pa (13 * t) = 0 := by
    rw [fa_eq, hp]; rfl
  show (so (pa (13 * t)).toNatClampNeg).toInt = 0
  rw [h1]
  exact h0
theorem zsm_st {F U : Nat → Int} {s : Int} {n e : Nat} {a x v : Int32} (ev : v = a + x) (ha : a.toInt = zsm F U s e) (hx : x.toInt = if F e = s then U e else 0) (hu : ∀ j : Nat, j < n → 0 ≤ U j) (ht : zsm (fun _ => 0) U 0 n ≤ 240) (he : e < n) : v.toInt = zsm F U s (e + 1) := by
  have h0 := zsm_nn (F := F) (x := s) e (fun j hj => hu j (by omega))
  have h1 := zsm_nn (F := F) (x := s) (e + 1) (fun j hj => hu j (by omega))
  have h2 := zsm_all (F := F) (x := s) (e + 1) (fun j hj => hu j (by omega))
  have h3 := zsm_mono (F := fun _ => 0) (x := 0) (k := e + 1) n (by omega) hu
  have h4 := zsm_s F U s e
  rw [← hx, ← ha] at h4
  rw [ev, Int32.toInt_add, zi_bmod (by omega), h4]
/-- a DRAW -/
theorem zw_draw {s s1 s2 s3 : Int64} (hs : zJ s 0 1000002) (e1 : s1 = s * 1103) (e2 : s2 = s1 + 12345) (e3 : s3 = s2 - s2 / 1000003 * 1000003) : zJ s3 0 1000002 := by
  have k1 : (1103 : Int64).toInt = 1103 := by decide +kernel
  have k2 : (12345 : Int64).toInt = 12345 := by decide +kernel
  have k3 : (1000003 : Int64).toInt = 1000003 := by decide +kernel
  obtain ⟨h1, h2⟩ := hs
  have q1 : s1.toInt = s.toInt * 1103 := by rw [e1, Int64.toInt_mul, k1]; exact zj_bmod (by omega)
  have q2 : s2.toInt = s1.toInt + 12345 := by rw [e2, Int64.toInt_add, k2]; exact zj_bmod (by omega)
  have q3 : (s2 / 1000003).toInt = s2.toInt / 1000003 := by
    rw [Int64.toInt_div, k3, Int.tdiv_eq_ediv_of_nonneg (by omega)]; exact zj_bmod (by omega)
  have q4 : (s2 / 1000003 * 1000003).toInt = s2.toInt / 1000003 * 1000003 := by rw [Int64.toInt_mul, q3, k3]; exact zj_bmod (by omega)
  have q5 : s3.toInt = s2.toInt - s2.toInt / 1000003 * 1000003 := by rw [e3, Int64.toInt_sub, q4]; exact zj_bmod (by omega)
  exact ⟨by omega, by omega⟩
theorem zw_rem {s y r : Int64} {a v : Int32} (hs : zJ s 0 1000002) (ey : y = a.toInt64) (hy : 1 ≤ a.toInt ∧ a.toInt ≤ 1000) (e : r = s - s / y * y) (e2 : v = r.toInt32) : 0 ≤ v.toInt ∧ v.toInt < a.toInt := by
  have ky : y.toInt = a.toInt := by rw [ey, Int32.toInt_toInt64]
  obtain ⟨h1, h2⟩ := hs
  have p1 := Int.emod_nonneg s.toInt (show y.toInt ≠ 0 by omega)
  have p2 := Int.emod_lt_of_pos s.toInt (show 0 < y.toInt by omega)
  have p3 := Int.mul_ediv_add_emod s.toInt y.toInt
  have p4 : 0 ≤ s.toInt / y.toInt := Int.ediv_nonneg h1 (by omega)
  have p5 : s.toInt / y.toInt ≤ s.toInt := Int.ediv_le_self _ h1
  have p6 : s.toInt / y.toInt * y.toInt = y.toInt * (s.toInt / y.toInt) := Int.mul_comm _ _
  have q3 : (s / y).toInt = s.toInt / y.toInt := by
    rw [Int64.toInt_div, Int.tdiv_eq_ediv_of_nonneg h1]; exact zj_bmod (by omega)
  have q4 : (s / y * y).toInt = s.toInt / y.toInt * y.toInt := by rw [Int64.toInt_mul, q3]; exact zj_bmod (by omega)
  have q5 : r.toInt = s.toInt % y.toInt := by rw [e, Int64.toInt_sub, q4, p6]; rw [zj_bmod (by omega)]; omega
  have q6 : v.toInt = r.toInt := by rw [e2, Int64.toInt_toInt32]; exact zi_bmod (by omega)
  omega
theorem z_addq {a b v : Int32} (e : v = a + b) (h : -2147483648 ≤ a.toInt + b.toInt ∧ a.toInt + b.toInt ≤ 2147483647) : v.toInt = a.toInt + b.toInt := by
  rw [e, Int32.toInt_add]; exact zi_bmod h
theorem zw_div {ed en : Nat → Int32} {n : Nat} {sm t : Int} {b x z a : Int32} (hw : zWF ed n en sm t) (ht : t ≤ 20) (hg : zGd en ed n b.toInt) (h0 : 0 ≤ b.toInt ∧ b.toInt < sm) (ex : x = en b.toNatClampNeg) (hz : z.toInt = zsm (zeF ed) (zeU ed) b.toInt n) (ea : a = x + z) : (1 ≤ a.toInt ∧ a.toInt ≤ 1000) ∧ a.toInt = x.toInt + z.toInt ∧ 0 ≤ x.toInt ∧ x.toInt ≤ 20 := by
  obtain ⟨a1, a2, a3, -, -⟩ := hw
  have p := z_pl (zI.wk (l' := 0) (h' := 2147483647) (v := b) (l := b.toInt) (h := b.toInt) ⟨Int.le_refl _, Int.le_refl _⟩ ⟨h0.1, (zI_all b).2⟩) (Int.le_refl 0)
  have e1 : b.toNatClampNeg = b.toInt.toNat := by omega
  have h1 := a3 b.toInt.toNat (by omega)
  have h2 := zsm_nn (F := zeF ed) (x := b.toInt) n a1
  have h3 := zsm_all (F := zeF ed) (x := b.toInt) n a1
  have h4 : 1 ≤ (en b.toInt.toNat).toInt + zsm (zeF ed) (zeU ed) b.toInt n := hg
  rw [e1] at ex
  rw [← ex] at h1 h4
  have q : a.toInt = x.toInt + z.toInt := by rw [ea, Int32.toInt_add]; exact zi_bmod (by omega)
  omega
theorem zw_left {s r : Int64} {a x z v left : Int32} (hs : zJ s 0 1000002) (ha : (1 ≤ a.toInt ∧ a.toInt ≤ 1000) ∧ a.toInt = x.toInt + z.toInt ∧ 0 ≤ x.toInt ∧ x.toInt ≤ 20) (e : r = s - s / a.toInt64 * a.toInt64) (e2 : v = r.toInt32) (e3 : left = v - x) : zI left (-20) 1000 ∧ left.toInt < z.toInt := by
  have h1 := zw_rem hs rfl ha.1 e e2
  have q : left.toInt = v.toInt - x.toInt := by rw [e3, Int32.toInt_sub]; exact zi_bmod (by omega)
  exact ⟨⟨by omega, by omega⟩, by omega⟩
theorem z_subq {a b v : Int32} (e : v = a - b) (h : -2147483648 ≤ a.toInt - b.toInt ∧ a.toInt - b.toInt ≤ 2147483647) : v.toInt = a.toInt - b.toInt := by
  rw [e, Int32.toInt_sub]; exact zi_bmod h
