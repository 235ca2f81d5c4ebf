/-! the reference's machine -/
def yRA (S : Nat × (Nat → Int)) (o : Nat) (px : Int) (ch : Nat → Int32) : Prop := px = (S.1 : Int) ∧ ∀ j : Nat, j < 10 * S.1 → (ch (o + j)).toInt = S.2 j
def yRP (g : Nat → Nat → Nat) (c : Nat → Nat) (b : Int) (t i o o2 : Nat) (px : Int) (ch pa : Nat → Int32) (p : Int) : Prop := yRA (ytw (g t) (ytr g c b t) i).1 o px ch ∧ yPL g c b t o2 pa ∧ (∀ i1 : Nat, i1 ≤ i → (pa (o2 + 13 * t + i1)).toInt = (ypt g c b t i1 : Int)) ∧ p = (ypt g c b t i : Int)
section
variable {g : Nat → Nat → Nat} {c : Nat → Nat} {v : Nat → Nat → Int} {b px px1 : Int} {t i o o2 N T k : Nat} {ch ch1 ch2 pa pa1 : Nat → Int32} {S : Nat × (Nat → Int)}
theorem yRA_0 {px : Int} (h : px = 1) (e : ∀ j : Nat, j < 10 → (ch (o + j)).toInt = -1) : yRA (ytr g c b 0) o px ch ∧ yPL g c b 0 o2 pa := by
  refine ⟨⟨h, fun j hj => ?_⟩, fun t1 i1 h1 => by omega⟩
  have hj' : j < 10 * 1 := hj
  exact e j (by omega)
theorem yRA_o {p x : Nat} (h : yRA S o px ch) (hS : yTI S) (hp : p < S.1) (hx : x < 10) (hn : ¬ (ch (o + (10 * p + x))).toInt = -1) : yRA (yt1 S p x).1 o px ch ∧ (ch (o + (10 * p + x))).toInt = (((yt1 S p x).2 : Nat) : Int) := by
  have e1 := h.2 (10 * p + x) (by omega)
  rw [e1] at hn ⊢
  have b4 := (yTI_1 hS hp hx).2.2.2.1
  rw [yt1_o hn] at b4 ⊢
  exact ⟨h, b4⟩
theorem yRA_n {p x : Nat} {w : Int32} (h : yRA S o px ch) (hS : yTI S) (hp : p < S.1) (hx : x < 10) (hn : (ch (o + (10 * p + x))).toInt = -1) (hk : k = o + (10 * p + x)) (e1 : ch1 = upd ch k w) (hw : w.toInt = px) (e2 : ∀ q : Nat, ch2 q = if (o : Int) + 10 * px ≤ (q : Int) ∧ (q : Int) < (o : Int) + 10 * px + 10 then -1 else ch1 q) (h1 : px1 = px + 1) : yRA (yt1 S p x).1 o px1 ch2 ∧ w.toInt = (((yt1 S p x).2 : Nat) : Int) := by
  have m1 : (-1 : Int32).toInt = -1 := by decide +kernel
  have e3 := h.2 (10 * p + x) (by omega)
  rw [e3] at hn
  rw [yt1_n hn]
  refine ⟨⟨?_, fun j hj => ?_⟩, ?_⟩
  · show px1 = ((S.1 + 1 : Nat) : Int)
    have := h.1
    omega
  · have hj' : j < 10 * (S.1 + 1) := hj
    show (ch2 (o + j)).toInt = if j = 10 * p + x then ((S.1 : Nat) : Int) else S.2 j
    have h0 := h.1
    rw [e2, e1, z_at, hk]
    by_cases c9 : j = 10 * p + x
    · rw [if_neg (by omega), if_pos (by omega), if_pos c9, hw]
      exact h.1
    · rw [if_neg c9]
      by_cases c8 : j < 10 * S.1
      · rw [if_neg (by omega), if_neg (by omega)]
        exact h.2 j c8
      · rw [if_pos (by omega), m1]
        rcases hS.2.1 j with q | q
        · exact q.symm
        · exfalso
          omega
  · show w.toInt = ((S.1 : Nat) : Int)
    rw [hw]
    exact h.1
theorem yRP_0 {x : Int32} (h : yRA (ytr g c b t) o px ch) (hp : yPL g c b t o2 pa) (hc : ∀ t : Nat, c t ≤ 12) (e : pa1 = upd pa k x) (hk : k = o2 + 13 * t) (hx : x.toInt = 0) : yRP g c b t 0 o o2 px ch pa1 0 := by
  refine ⟨h, yPL_u hp hc (by omega) e, fun i1 hi => ?_, rfl⟩
  rw [e, z_at, if_pos (by omega), hx, show i1 = 0 by omega]
  rfl
theorem yRP_o {p x at_ r : Int32} {j : Nat} (h : yRP g c b t i o o2 px ch pa p.toInt) (hg : yLt g c T) (hc : ∀ t : Nat, c t ≤ 12) (ht : t < T) (hi : i < c t) (hx : x.toInt = (g t i : Int)) (hat : at_.toInt = (o : Int) + (10 * p.toInt + x.toInt)) (er : r = ch at_.toNatClampNeg) (hn : ¬ r.toInt = -1) (e : pa1 = upd pa j r) (hj : j = o2 + 13 * t + i + 1) : yRP g c b t (i + 1) o o2 px ch pa1 r.toInt := by
  obtain ⟨h1, h2, h3, h4⟩ := h
  have a0 := ytw_ok (ytr_ok (b := b) hg t (by omega)) (fun i hi => hg t i ht hi) i (by omega)
  have ax := hg t i ht hi
  have e0 : at_.toNatClampNeg = o + (10 * ypt g c b t i + g t i) := by
    have := zcl (i := at_) (by omega)
    omega
  rw [e0] at er
  have a2 : ypt g c b t i < (ytw (g t) (ytr g c b t) i).1.1 := a0.2.1
  obtain ⟨k1, k2⟩ := yRA_o h1 a0.1 a2 ax (by rw [← er]; exact hn)
  rw [← er] at k2
  have k3 : r.toInt = (ypt g c b t (i + 1) : Int) := k2
  refine ⟨k1, yPL_u h2 hc (by omega) e, fun i1 hi1 => ?_, k3⟩
  rw [e, z_at]
  by_cases c9 : i1 = i + 1
  · rw [if_pos (by omega), c9]
    exact k3
  · rw [if_neg (by omega)]
    exact h3 i1 (by omega)
theorem yRP_n {p x at_ r r2 w : Int32} {j : Nat} (h : yRP g c b t i o o2 px ch pa p.toInt) (hg : yLt g c T) (hc : ∀ t : Nat, c t ≤ 12) (ht : t < T) (hi : i < c t) (hx : x.toInt = (g t i : Int)) (hat : at_.toInt = (o : Int) + (10 * p.toInt + x.toInt)) (er : w = ch at_.toNatClampNeg) (hn : w.toInt = -1) (e1 : ch1 = upd ch at_.toNatClampNeg r) (hr : r.toInt = px) (e2 : ∀ q : Nat, ch2 q = if (o : Int) + 10 * px ≤ (q : Int) ∧ (q : Int) < (o : Int) + 10 * px + 10 then -1 else ch1 q) (hpx : px1 = px + 1) (e : pa1 = upd pa j r2) (hr2 : r2 = r) (hj : j = o2 + 13 * t + i + 1) : yRP g c b t (i + 1) o o2 px1 ch2 pa1 r2.toInt := by
  rw [hr2] at e ⊢
  obtain ⟨h1, h2, h3, h4⟩ := h
  have a0 := ytw_ok (ytr_ok (b := b) hg t (by omega)) (fun i hi => hg t i ht hi) i (by omega)
  have ax := hg t i ht hi
  have e0 : at_.toNatClampNeg = o + (10 * ypt g c b t i + g t i) := by
    have := zcl (i := at_) (by omega)
    omega
  rw [e0] at er
  have a2 : ypt g c b t i < (ytw (g t) (ytr g c b t) i).1.1 := a0.2.1
  obtain ⟨k1, k2⟩ := yRA_n h1 a0.1 a2 ax (by rw [← er]; exact hn) e0 e1 hr e2 hpx
  have k3 : r.toInt = (ypt g c b t (i + 1) : Int) := k2
  refine ⟨k1, yPL_u h2 hc (by omega) e, fun i1 hi1 => ?_, k3⟩
  rw [e, z_at]
  by_cases c9 : i1 = i + 1
  · rw [if_pos (by omega), c9]
    exact k3
  · rw [if_neg (by omega)]
    exact h3 i1 (by omega)
theorem yRP_e {p : Int} (h : yRP g c b t i o o2 px ch pa p) (e : (t : Int) = b ∧ i = 0 ∨ ¬ (t : Int) = b ∧ i = c t) : yRA (ytr g c b (t + 1)) o px ch ∧ yPL g c b (t + 1) o2 pa := by
  obtain ⟨h1, h2, h3, h4⟩ := h
  rcases e with ⟨hb, hi⟩ | ⟨hb, hi⟩
  · subst hi
    rw [ytr_b hb]
    refine ⟨h1, fun t1 i1 a1 a2 a3 => ?_⟩
    by_cases c9 : t1 = t
    · rw [c9] at a2
      exact absurd hb a2
    · exact h2 t1 i1 (by omega) a2 a3
  · subst hi
    rw [ytr_s hb]
    refine ⟨h1, fun t1 i1 a1 a2 a3 => ?_⟩
    by_cases c9 : t1 = t
    · subst c9
      exact h3 i1 (by omega)
    · exact h2 t1 i1 (by omega) a2 a3
/-! what follows -/
theorem yk2_b (hg : yLt g c T) (ht : t < T) (k : Nat) (hk : k ≤ 2) : yk2 g c t i k ≤ 143 := by
  have b0 := yd2_b hg ht (i + 0)
  have b1 := yd2_b hg ht (i + 1)
  have h : k = 0 ∨ k = 1 ∨ k = 2 := by omega
  rcases h with rfl | rfl | rfl
  · show 0 ≤ 143
    omega
  · show 12 * 0 + yd2 g c t (i + 0) ≤ 143
    omega
  · show 12 * (12 * 0 + yd2 g c t (i + 0)) + yd2 g c t (i + 1) ≤ 143
    omega
theorem yd2_in (h : i < c t) : yd2 g c t i = g t i + 1 := if_pos h
theorem yd2_at (h : i = c t) : yd2 g c t i = 11 := by
  unfold yd2
  rw [if_neg (by omega), if_pos h]
theorem yd2_no (h : c t < i) : yd2 g c t i = 0 := by
  unfold yd2
  rw [if_neg (by omega), if_neg (by omega)]
theorem yk2_s {m : Nat} {row m1 d r1 : Int32} (h : row.toInt = ((yk2 g c t i m : Nat) : Int)) (hg : yLt g c T) (ht : t < T) (hm : m ≤ 2) (e1 : m1 = 12 * row) (e2 : r1 = m1 + d) (hd : d.toInt = ((yd2 g c t (i + m) : Nat) : Int)) (hk : k = m + 1) : r1.toInt = ((yk2 g c t i k : Nat) : Int) := by
  subst hk
  have b1 := yk2_b (i := i) hg ht m hm
  have b2 := yd2_b hg ht (i + m)
  have l1 : (12 : Int32).toInt = 12 := by decide +kernel
  have a1 : m1.toInt = 12 * row.toInt := by
    rw [e1, Int32.toInt_mul, l1]
    exact zi_bmod (by omega)
  have a2 : r1.toInt = m1.toInt + d.toInt := by
    rw [e2, Int32.toInt_add]
    exact zi_bmod (by omega)
  show r1.toInt = ((12 * yk2 g c t i m + yd2 g c t (i + m) : Nat) : Int)
  omega
theorem yGr_s {key : Nat → Nat → Int} {r w x : Int32} {ro co ro1 co1 : Nat → Int32} (hP : yPL g c b T o2 pa) (hg : yLt g c T) (ht : t < T ∧ T ≤ 20) (hb : ¬ (t : Int) = b) (hi : i ≤ c t) (hN : (ytr g c b T).1 = N) (h : yFo (ypt g c b) key c b t i N o ro co) (hr : r = pa (o2 + 13 * t + i)) (hw : w.toInt = (o : Int) + r.toInt) (hx : x.toInt = key t i) (h0 : 0 ≤ (co w.toInt.toNat).toInt) (hin : yIn (20 * w.toInt.toNat) (co w.toInt.toNat).toInt.toNat w.toInt.toNat x ro co ro1 co1) : yFo (ypt g c b) key c b t (i + 1) N o ro1 co1 := by
  have e1 : r.toInt = (ypt g c b t i : Int) := by
    rw [hr]
    exact hP t i ht.1 hb hi
  have e2 := ypt_lt (b := b) hg ht.1 hb hi
  have e3 : w.toInt.toNat = o + ypt g c b t i := by omega
  rw [e3] at hin h0
  refine yFo_s h rfl (by omega) (by omega) (fun i1 h1 => ?_) hx (n := (co (o + ypt g c b t i)).toInt.toNat) (by omega) hin
  have a1 := ypt_up (b := b) hg ht.1 (i := i1) (i - i1) (by omega)
  rw [show i1 + (i - i1) = i by omega] at a1
  omega
end
/-! its STATES -/
abbrev yNo (f : Nat → Int32) (o : Nat) : Nat → Nat := fun j => (f (o + j)).toInt.toNat
def yRS (al : Nat → Nat → Prop) (p : Nat) (M : Int) (o : Nat) (so le pf en : Nat → Int32) : Prop := yST al p M.toNat (yNo so o) (yNo le o) ∧ ∀ s : Nat, s < M.toNat → (pf (o + s)).toInt = yS1 (fun q => if yNo so o q = s then 1 else 0) p ∧ (en (o + s)).toInt = 0
section
variable {al : Nat → Nat → Prop} {p o : Nat} {M M1 : Int} {so so1 le le1 pf pf1 pf2 en en1 : Nat → Int32} {l s pv pv1 : Int32} {k1 k2 k3 k4 k5 : Nat}
theorem yRS_0 (h : M = 0) : yRS al 0 M o so le pf en := by
  subst h
  exact ⟨yST_0, fun s hs => by
    have : s < 0 := hs
    omega⟩
/-- the STATE is there -/
theorem yRS_o (h : yRS al p M o so le pf en) (hp : p ≤ 240) (hs : 0 ≤ s.toInt ∧ s.toInt < M) (ha : al p (yNo le o s.toInt.toNat)) (e1 : so1 = upd so k1 s) (h1 : k1 = o + p) (e2 : pv = pf k2) (e3 : pv1 = pv + 1) (e4 : pf1 = upd pf k2 pv1) (h2 : k2 = o + s.toInt.toNat) : yRS al (p + 1) M o so1 le pf1 en := by
  subst h1 h2
  have q1 : ∀ q : Nat, q < p → yNo so1 o q = yNo so o q := fun q hq => by
    show (so1 (o + q)).toInt.toNat = (so (o + q)).toInt.toNat
    rw [e1, z_at, if_neg (by omega)]
  have q2 : yNo so1 o p = s.toInt.toNat := by
    show (so1 (o + p)).toInt.toNat = _
    rw [e1, z_at, if_pos rfl]
  refine ⟨yST_o h.1 (by omega) ha q1 q2 (fun _ _ => rfl), fun s' hs' => ?_⟩
  obtain ⟨a1, a2⟩ := h.2 s' hs'
  refine ⟨?_, a2⟩
  have b1 := yS1_b (f := fun q => if yNo so o q = s' then 1 else 0) (m := 1) p (fun q _ => by
    show 0 ≤ (if yNo so o q = s' then (1 : Int) else 0) ∧ (if yNo so o q = s' then (1 : Int) else 0) ≤ 1
    split <;> omega)
  rw [yS1_1 (f := fun q => if yNo so o q = s' then 1 else 0) (x := if s.toInt.toNat = s' then 1 else 0) p (fun q hq => by
    show (if yNo so1 o q = s' then (1 : Int) else 0) = (if yNo so o q = s' then (1 : Int) else 0)
    rw [q1 q hq]) (by
    show (if yNo so1 o p = s' then (1 : Int) else 0) = _
    rw [q2]), e4, z_at, ← a1]
  by_cases c9 : s' = s.toInt.toNat
  · subst c9
    rw [if_pos rfl, if_pos rfl, zI1_add e3 (by rw [e2]; omega), e2]
  · rw [if_neg (by omega), if_neg (fun k => c9 k.symm)]
    omega
/-- a new STATE -/
theorem yRS_n (h : yRS al p M o so le pf en) (hp : p ≤ 240) (hr : al p p) (hy : ∀ x y : Nat, al x y → al y x) (hl : l.toInt = (p : Int)) (hs : 0 ≤ s.toInt ∧ s.toInt = M) (hn : ∀ s' : Nat, (s' : Int) < M → ¬ al p (yNo le o s')) (d1 : le1 = upd le k3 l) (h3 : k3 = o + s.toInt.toNat) (d2 : pf1 = upd pf k4 0) (h4 : k4 = o + s.toInt.toNat) (d3 : en1 = upd en k5 0) (h5 : k5 = o + s.toInt.toNat) (hM : M1 = M + 1) (e1 : so1 = upd so k1 s) (h1 : k1 = o + p) (e2 : pv = pf1 k2) (e3 : pv1 = pv + 1) (e4 : pf2 = upd pf1 k2 pv1) (h2 : k2 = o + s.toInt.toNat) : yRS al (p + 1) M1 o so1 le1 pf2 en1 := by
  have z0 : (0 : Int32).toInt = 0 := by decide +kernel
  have q1 : ∀ q : Nat, q < p → yNo so1 o q = yNo so o q := fun q hq => by
    show (so1 (o + q)).toInt.toNat = (so (o + q)).toInt.toNat
    rw [e1, z_at, if_neg (by omega)]
  have q2 : yNo so1 o p = M.toNat := by
    show (so1 (o + p)).toInt.toNat = _
    rw [e1, z_at, if_pos h1.symm]
    omega
  have q3 : ∀ s' : Nat, s' < M.toNat → yNo le1 o s' = yNo le o s' := fun s' hs' => by
    show (le1 (o + s')).toInt.toNat = (le (o + s')).toInt.toNat
    rw [d1, z_at, if_neg (by omega)]
  have q4 : yNo le1 o M.toNat = p := by
    show (le1 (o + M.toNat)).toInt.toNat = p
    rw [d1, z_at, if_pos (by omega)]
    omega
  subst hM
  unfold yRS
  rw [show (M + 1).toNat = M.toNat + 1 by omega]
  refine ⟨yST_n h.1 hr hy (fun s' hs' => hn s' (by omega)) q1 q2 q3 q4, fun s' hs' => ?_⟩
  by_cases c9 : s' = M.toNat
  · have n0 : ∀ q : Nat, q < p → ¬ yNo so o q = s' := fun q hq => by
      have := (h.1.2.2.1 q hq).1
      omega
    have p0 : pv = 0 := by rw [e2, d2, z_at, if_pos (by omega)]
    refine ⟨?_, by rw [d3, z_at, if_pos (by omega)]; exact z0⟩
    rw [yS1_1 (f := fun q => if yNo so o q = s' then 1 else 0) (x := 1) p (fun q hq => by
      show (if yNo so1 o q = s' then (1 : Int) else 0) = (if yNo so o q = s' then (1 : Int) else 0)
      rw [q1 q hq]) (by
      show (if yNo so1 o p = s' then (1 : Int) else 0) = _
      rw [q2, if_pos c9.symm]), e4, z_at, if_pos (by omega), zI1_add e3 (by rw [p0]; omega), p0, z0, yS1_0 p (fun q hq => if_neg (n0 q hq))]
  · obtain ⟨a1, a2⟩ := h.2 s' (by omega)
    refine ⟨?_, by rw [d3, z_at, if_neg (by omega)]; exact a2⟩
    rw [yS1_1 (f := fun q => if yNo so o q = s' then 1 else 0) (x := 0) p (fun q hq => by
      show (if yNo so1 o q = s' then (1 : Int) else 0) = (if yNo so o q = s' then (1 : Int) else 0)
      rw [q1 q hq]) (by
      show (if yNo so1 o p = s' then (1 : Int) else 0) = _
      rw [q2, if_neg (fun k => c9 k.symm)]), e4, z_at, if_neg (by omega), d2, z_at, if_neg (by omega), a1]
    omega
end
/-! its EDGES -/
abbrev yRc (ed : Nat → Int32) (o e : Nat) : Nat := 2410 * (ed (o + 6 * e)).toInt.toNat + 241 * (ed (o + 6 * e + 1)).toInt.toNat + (ed (o + 6 * e + 2)).toInt.toNat
/-- what addEdge() does -/
def yAE (o E : Nat) (ed ed1 : Nat → Int32) (E1 : Int) (fr by_ to v : Int32) : Prop := ∃ e : Nat, e ≤ E ∧ (∀ j : Nat, j < e → (yRc ed o j : Int) < 2410 * fr.toInt + 241 * by_.toInt + to.toInt) ∧
  ((e < E ∧ (yRc ed o e : Int) = 2410 * fr.toInt + 241 * by_.toInt + to.toInt ∧ E1 = (E : Int) ∧ ∀ j : Nat, j < E → (ed1 (o + 6 * j) = ed (o + 6 * j) ∧ ed1 (o + 6 * j + 1) = ed (o + 6 * j + 1) ∧ ed1 (o + 6 * j + 2) = ed (o + 6 * j + 2)) ∧ (∃ u w : Int32, u = ed (o + 6 * j + 3) ∧ (j = e → w = u + 1) ∧ (j ≠ e → w = u) ∧ ed1 (o + 6 * j + 3) = w) ∧
      (ed1 (o + 6 * j + 4)).toInt = (if j = e ∧ v.toInt < (ed (o + 6 * j + 4)).toInt then v.toInt else (ed (o + 6 * j + 4)).toInt) ∧ (ed1 (o + 6 * j + 5)).toInt = (if j = e ∧ (ed (o + 6 * j + 5)).toInt < v.toInt then v.toInt else (ed (o + 6 * j + 5)).toInt)) ∨
   ((e = E ∨ 2410 * fr.toInt + 241 * by_.toInt + to.toInt < (yRc ed o e : Int)) ∧ E1 = (E : Int) + 1 ∧ (∀ q : Nat, o ≤ q → q < o + 6 * e → ed1 q = ed q) ∧ (ed1 (o + 6 * e) = fr ∧ ed1 (o + 6 * e + 1) = by_ ∧ ed1 (o + 6 * e + 2) = to ∧ (ed1 (o + 6 * e + 3)).toInt = 1 ∧ ed1 (o + 6 * e + 4) = v ∧ ed1 (o + 6 * e + 5) = v) ∧ ∀ q : Nat, o + 6 * e ≤ q → q < o + 6 * E → ed1 (q + 6) = ed q))
/-- what an EDGE holds of the CALLS that were gone -/
def yRq (g : Nat → Nat → Nat) (c : Nat → Nat) (v : Nat → Nat → Int) (b : Int) (so : Nat → Nat) (t i o : Nat) (ed : Nat → Int32) (e : Nat) : Prop := ((0 ≤ (ed (o + 6 * e)).toInt ∧ (ed (o + 6 * e)).toInt ≤ 240) ∧ (0 ≤ (ed (o + 6 * e + 1)).toInt ∧ (ed (o + 6 * e + 1)).toInt ≤ 9) ∧ 0 ≤ (ed (o + 6 * e + 2)).toInt ∧ (ed (o + 6 * e + 2)).toInt ≤ 240) ∧
  (ed (o + 6 * e + 3)).toInt = yS2 (fun t1 i1 => if yCd g c b so t1 i1 = (yRc ed o e : Int) then 1 else 0) c b t + yS1 (fun i1 => if yCd g c b so t i1 = (yRc ed o e : Int) then 1 else 0) i ∧
  ((∃ t1 i1 : Nat, (yPr c b t i t1 i1 ∧ yCd g c b so t1 i1 = (yRc ed o e : Int)) ∧ v t1 i1 = (ed (o + 6 * e + 4)).toInt) ∧ ∀ t1 i1 : Nat, yPr c b t i t1 i1 ∧ yCd g c b so t1 i1 = (yRc ed o e : Int) → (ed (o + 6 * e + 4)).toInt ≤ v t1 i1) ∧
  (∃ t1 i1 : Nat, (yPr c b t i t1 i1 ∧ yCd g c b so t1 i1 = (yRc ed o e : Int)) ∧ v t1 i1 = (ed (o + 6 * e + 5)).toInt) ∧ ∀ t1 i1 : Nat, yPr c b t i t1 i1 ∧ yCd g c b so t1 i1 = (yRc ed o e : Int) → v t1 i1 ≤ (ed (o + 6 * e + 5)).toInt
/-- EDGES of the CALLS that were gone -/
def yRE (g : Nat → Nat → Nat) (c : Nat → Nat) (v : Nat → Nat → Int) (b : Int) (so : Nat → Nat) (t i E o : Nat) (ed : Nat → Int32) : Prop := ySl (fun e => (yRc ed o e : Int)) E (fun z => ∃ t1 i1 : Nat, yPr c b t i t1 i1 ∧ yCd g c b so t1 i1 = z) ∧ ∀ e : Nat, e < E → yRq g c v b so t i o ed e
section
variable {g : Nat → Nat → Nat} {c : Nat → Nat} {v : Nat → Nat → Int} {b : Int} {so : Nat → Nat} {t i E o T N : Nat} {ed ed1 : Nat → Int32} {E1 : Int} {fr by_ to val : Int32}
theorem yRE_0 : yRE g c v b so 0 0 0 o ed := ⟨ySl_0 (fun z ⟨t1, i1, h, _⟩ => by rcases h with ⟨h, _⟩ | ⟨_, h⟩ <;> omega), fun e he => by omega⟩
theorem yCt_s (z : Int) : yS2 (fun t1 i1 => if yCd g c b so t1 i1 = z then 1 else 0) c b t + yS1 (fun i1 => if yCd g c b so t i1 = z then 1 else 0) (i + 1) = (yS2 (fun t1 i1 => if yCd g c b so t1 i1 = z then 1 else 0) c b t + yS1 (fun i1 => if yCd g c b so t i1 = z then 1 else 0) i) + (if yCd g c b so t i = z then 1 else 0) := by
  show _ + (yS1 (fun i1 => if yCd g c b so t i1 = z then 1 else 0) i + (if yCd g c b so t i = z then 1 else 0)) = _
  omega
theorem yCt_r (hc : ∀ t : Nat, c t ≤ 12) (z : Int) : 0 ≤ yS2 (fun t1 i1 => if yCd g c b so t1 i1 = z then 1 else 0) c b t + yS1 (fun i1 => if yCd g c b so t i1 = z then 1 else 0) i ∧ yS2 (fun t1 i1 => if yCd g c b so t1 i1 = z then 1 else 0) c b t + yS1 (fun i1 => if yCd g c b so t i1 = z then 1 else 0) i ≤ 12 * (t : Int) + (i : Int) := by
  have a1 := yS2_b (f := fun t1 i1 => if yCd g c b so t1 i1 = z then 1 else 0) (c := c) (b := b) t (fun t1 _ => hc t1) (fun t1 i1 => by
    show 0 ≤ (if yCd g c b so t1 i1 = z then (1 : Int) else 0) ∧ (if yCd g c b so t1 i1 = z then (1 : Int) else 0) ≤ 1
    split <;> omega)
  have a2 := yS1_b (f := fun i1 => if yCd g c b so t i1 = z then 1 else 0) (m := 1) i (fun i1 _ => by
    show 0 ≤ (if yCd g c b so t i1 = z then (1 : Int) else 0) ∧ (if yCd g c b so t i1 = z then (1 : Int) else 0) ≤ 1
    split <;> omega)
  omega
theorem yRE_s (h : yRE g c v b so t i E o ed) (hc : ∀ t : Nat, c t ≤ 12) (ht : t < 20 ∧ i < 12) (hz : yCd g c b so t i = 2410 * fr.toInt + 241 * by_.toInt + to.toInt) (hr : (0 ≤ fr.toInt ∧ fr.toInt ≤ 240) ∧ (0 ≤ by_.toInt ∧ by_.toInt ≤ 9) ∧ 0 ≤ to.toInt ∧ to.toInt ≤ 240) (hv : val.toInt = v t i) (ha : yAE o E ed ed1 E1 fr by_ to val) : yRE g c v b so t (i + 1) E1.toNat o ed1 := by
  obtain ⟨h1, h2⟩ := h
  obtain ⟨e, e1, e2, e3⟩ := ha
  have hP : ∀ (z : Int) (t1 i1 : Nat), (yPr c b t (i + 1) t1 i1 ∧ yCd g c b so t1 i1 = z) ↔ (yPr c b t i t1 i1 ∧ yCd g c b so t1 i1 = z) ∨ (t1 = t ∧ i1 = i ∧ yCd g c b so t i = z) := fun z t1 i1 => by
    rw [yPr_s]
    constructor
    · rintro ⟨x1 | ⟨x1, x2⟩, x3⟩
      · exact Or.inl ⟨x1, x3⟩
      · exact Or.inr ⟨x1, x2, by rw [x1, x2] at x3; exact x3⟩
    · rintro (⟨x1, x2⟩ | ⟨x1, x2, x3⟩)
      · exact ⟨Or.inl x1, x2⟩
      · exact ⟨Or.inr ⟨x1, x2⟩, by rw [x1, x2]; exact x3⟩
  rcases e3 with ⟨k1, k2, k3, k4⟩ | ⟨k1, k3, k4, ⟨m0, m1, m2, m3, m4, m5⟩, k5⟩
  · -- it is gone once more
    have cd : ∀ j : Nat, j < E → yRc ed1 o j = yRc ed o j := fun j hj => by
      obtain ⟨⟨x0, x1, x2⟩, _⟩ := k4 j hj
      show 2410 * (ed1 (o + 6 * j)).toInt.toNat + 241 * (ed1 (o + 6 * j + 1)).toInt.toNat + (ed1 (o + 6 * j + 2)).toInt.toNat = _
      rw [x0, x1, x2]
    rw [show E1.toNat = E by omega]
    refine ⟨ySl_cg h1 (fun j hj => by
      show (yRc ed1 o j : Int) = (yRc ed o j : Int)
      rw [cd j hj]) (fun z => ⟨?_, ?_⟩), fun j hj => ?_⟩
    · rintro ⟨t1, i1, x⟩
      rcases (hP z t1 i1).mp x with x | ⟨x1, x2, x3⟩
      · exact ⟨t1, i1, x⟩
      · exact (h1.2 z).mpr ⟨e, k1, by show (yRc ed o e : Int) = z; rw [k2, ← hz]; exact x3⟩
    · rintro ⟨t1, i1, x⟩
      exact ⟨t1, i1, (hP z t1 i1).mpr (Or.inl x)⟩
    · obtain ⟨r1, r2, ⟨r3, r4⟩, r5, r6⟩ := h2 j hj
      obtain ⟨⟨x0, x1, x2⟩, ⟨u, w, w1, w2, w3, w4⟩, x4, x5⟩ := k4 j hj
      have b9 := yCt_r (g := g) (b := b) (so := so) (t := t) (i := i) hc (yRc ed o j : Int)
      unfold yRq
      rw [cd j hj, x0, x1, x2]
      by_cases c9 : j = e
      · subst c9
        have hzz : yCd g c b so t i = (yRc ed o j : Int) := by rw [k2, hz]
        refine ⟨r1, ?_, ⟨?_, fun t1 i1 x => ?_⟩, ?_, fun t1 i1 x => ?_⟩
        · rw [yCt_s, if_pos hzz, w4, zI1_add (w2 rfl) (by rw [w1]; omega), w1, r2]
        · by_cases d9 : val.toInt < (ed (o + 6 * j + 4)).toInt
          · rw [if_pos ⟨rfl, d9⟩] at x4
            exact ⟨t, i, (hP _ _ _).mpr (Or.inr ⟨rfl, rfl, hzz⟩), by rw [x4, hv]⟩
          · rw [if_neg (fun q => d9 q.2)] at x4
            obtain ⟨t1, i1, y1, y2⟩ := r3
            exact ⟨t1, i1, (hP _ _ _).mpr (Or.inl y1), by rw [x4]; exact y2⟩
        · rw [x4]
          rcases (hP _ t1 i1).mp x with x | ⟨y1, y2, _⟩
          · have := r4 t1 i1 x
            split <;> omega
          · rw [y1, y2, ← hv]
            split <;> omega
        · by_cases d9 : (ed (o + 6 * j + 5)).toInt < val.toInt
          · rw [if_pos ⟨rfl, d9⟩] at x5
            exact ⟨t, i, (hP _ _ _).mpr (Or.inr ⟨rfl, rfl, hzz⟩), by rw [x5, hv]⟩
          · rw [if_neg (fun q => d9 q.2)] at x5
            obtain ⟨t1, i1, y1, y2⟩ := r5
            exact ⟨t1, i1, (hP _ _ _).mpr (Or.inl y1), by rw [x5]; exact y2⟩
        · rw [x5]
          rcases (hP _ t1 i1).mp x with x | ⟨y1, y2, _⟩
          · have := r6 t1 i1 x
            split <;> omega
          · rw [y1, y2, ← hv]
            split <;> omega
      · have hzz : ¬ yCd g c b so t i = (yRc ed o j : Int) := fun q => by
          rw [hz, ← k2] at q
          rcases Nat.lt_trichotomy j e with d9 | d9 | d9
          · have : (yRc ed o j : Int) < (yRc ed o e : Int) := h1.1 j e d9 k1
            omega
          · exact c9 d9
          · have : (yRc ed o e : Int) < (yRc ed o j : Int) := h1.1 e j d9 hj
            omega
        rw [if_neg (fun q => c9 q.1)] at x4 x5
        have hP2 : ∀ t1 i1 : Nat, (yPr c b t (i + 1) t1 i1 ∧ yCd g c b so t1 i1 = (yRc ed o j : Int)) ↔ (yPr c b t i t1 i1 ∧ yCd g c b so t1 i1 = (yRc ed o j : Int)) := fun t1 i1 =>
          ⟨fun x => ((hP _ t1 i1).mp x).elim id (fun y => absurd y.2.2 hzz), fun x => (hP _ t1 i1).mpr (Or.inl x)⟩
        rw [x4, x5, w4, w3 c9, w1]
        refine ⟨r1, ?_, ⟨?_, fun t1 i1 x => r4 t1 i1 ((hP2 t1 i1).mp x)⟩, ?_, fun t1 i1 x => r6 t1 i1 ((hP2 t1 i1).mp x)⟩
        · rw [yCt_s, if_neg hzz, r2]
          omega
        · obtain ⟨t1, i1, y1, y2⟩ := r3
          exact ⟨t1, i1, (hP2 t1 i1).mpr y1, y2⟩
        · obtain ⟨t1, i1, y1, y2⟩ := r5
          exact ⟨t1, i1, (hP2 t1 i1).mpr y1, y2⟩
  · -- a new one
    have lo6 : ∀ j w : Nat, j < e → w < 6 → ed1 (o + 6 * j + w) = ed (o + 6 * j + w) := fun j w hj hw => k4 _ (by omega) (by omega)
    have hi6 : ∀ j w : Nat, e ≤ j → j < E → w < 6 → ed1 (o + 6 * (j + 1) + w) = ed (o + 6 * j + w) := fun j w hj hj2 hw => by
      have := k5 (o + 6 * j + w) (by omega) (by omega)
      rw [show o + 6 * (j + 1) + w = o + 6 * j + w + 6 by omega]
      exact this
    have c1 : ∀ j : Nat, j < e → yRc ed1 o j = yRc ed o j := fun j hj => by
      show 2410 * (ed1 (o + 6 * j)).toInt.toNat + 241 * (ed1 (o + 6 * j + 1)).toInt.toNat + (ed1 (o + 6 * j + 2)).toInt.toNat = _
      have a0 := lo6 j 0 hj (by omega)
      rw [Nat.add_zero] at a0
      rw [a0, lo6 j 1 hj (by omega), lo6 j 2 hj (by omega)]
    have c2 : (yRc ed1 o e : Int) = 2410 * fr.toInt + 241 * by_.toInt + to.toInt := by
      show ((2410 * (ed1 (o + 6 * e)).toInt.toNat + 241 * (ed1 (o + 6 * e + 1)).toInt.toNat + (ed1 (o + 6 * e + 2)).toInt.toNat : Nat) : Int) = _
      rw [m0, m1, m2]
      omega
    have c3 : ∀ j : Nat, e ≤ j → j < E → yRc ed1 o (j + 1) = yRc ed o j := fun j hj hj2 => by
      show 2410 * (ed1 (o + 6 * (j + 1))).toInt.toNat + 241 * (ed1 (o + 6 * (j + 1) + 1)).toInt.toNat + (ed1 (o + 6 * (j + 1) + 2)).toInt.toNat = _
      have a0 : ed1 (o + 6 * (j + 1)) = ed (o + 6 * j) := hi6 j 0 hj hj2 (by omega)
      rw [a0, hi6 j 1 hj hj2 (by omega), hi6 j 2 hj hj2 (by omega)]
    have gt : ∀ j : Nat, e ≤ j → j < E → 2410 * fr.toInt + 241 * by_.toInt + to.toInt < (yRc ed o j : Int) := fun j hj hj2 => by
      rcases k1 with k1 | k1
      · omega
      · by_cases d9 : j = e
        · rw [d9]
          exact k1
        · have : (yRc ed o e : Int) < (yRc ed o j : Int) := h1.1 e j (by omega) hj2
          omega
    rw [show E1.toNat = E + 1 by omega]
    refine ⟨ySl_cg (ySl_in (f' := fun j => (yRc ed1 o j : Int)) (z := 2410 * fr.toInt + 241 * by_.toInt + to.toInt) h1 e1 ?_ gt (fun j hj => ?_)) (fun _ _ => rfl) (fun z => ⟨?_, ?_⟩), fun j hj => ?_⟩
    · by_cases d9 : e = 0
      · exact Or.inl d9
      · exact Or.inr (e2 (e - 1) (by omega))
    · show (yRc ed1 o j : Int) = if j < e then (yRc ed o j : Int) else if j = e then 2410 * fr.toInt + 241 * by_.toInt + to.toInt else (yRc ed o (j - 1) : Int)
      by_cases d9 : j < e
      · rw [if_pos d9, c1 j d9]
      · rw [if_neg d9]
        by_cases d8 : j = e
        · rw [if_pos d8, d8, c2]
        · rw [if_neg d8]
          have a0 := c3 (j - 1) (by omega) (by omega)
          rw [show j - 1 + 1 = j by omega] at a0
          rw [a0]
    · rintro ⟨t1, i1, x⟩
      rcases (hP z t1 i1).mp x with x | ⟨x1, x2, x3⟩
      · exact Or.inl ⟨t1, i1, x⟩
      · exact Or.inr (by rw [← x3, hz])
    · rintro (⟨t1, i1, x⟩ | x)
      · exact ⟨t1, i1, (hP z t1 i1).mpr (Or.inl x)⟩
      · exact ⟨t, i, (hP z t i).mpr (Or.inr ⟨rfl, rfl, by rw [hz, x]⟩)⟩
    · -- what an old one holds
      have old : ∀ j0 j1 : Nat, j0 < E → (∀ w : Nat, w < 6 → ed1 (o + 6 * j1 + w) = ed (o + 6 * j0 + w)) → ¬ yCd g c b so t i = (yRc ed o j0 : Int) → yRq g c v b so t (i + 1) o ed1 j1 := fun j0 j1 hj0 hw hne => by
        have cc : yRc ed1 o j1 = yRc ed o j0 := by
          show 2410 * (ed1 (o + 6 * j1)).toInt.toNat + 241 * (ed1 (o + 6 * j1 + 1)).toInt.toNat + (ed1 (o + 6 * j1 + 2)).toInt.toNat = _
          have a0 : ed1 (o + 6 * j1) = ed (o + 6 * j0) := hw 0 (by omega)
          rw [a0, hw 1 (by omega), hw 2 (by omega)]
        have hP2 : ∀ t1 i1 : Nat, (yPr c b t (i + 1) t1 i1 ∧ yCd g c b so t1 i1 = (yRc ed o j0 : Int)) ↔ (yPr c b t i t1 i1 ∧ yCd g c b so t1 i1 = (yRc ed o j0 : Int)) := fun t1 i1 =>
          ⟨fun x => ((hP _ t1 i1).mp x).elim id (fun y => absurd y.2.2 hne), fun x => (hP _ t1 i1).mpr (Or.inl x)⟩
        obtain ⟨r1, r2, ⟨r3, r4⟩, r5, r6⟩ := h2 j0 hj0
        have a0 : ed1 (o + 6 * j1) = ed (o + 6 * j0) := hw 0 (by omega)
        unfold yRq
        rw [cc, a0, hw 1 (by omega), hw 2 (by omega), hw 3 (by omega), hw 4 (by omega), hw 5 (by omega)]
        refine ⟨r1, ?_, ⟨?_, fun t1 i1 x => r4 t1 i1 ((hP2 t1 i1).mp x)⟩, ?_, fun t1 i1 x => r6 t1 i1 ((hP2 t1 i1).mp x)⟩
        · rw [yCt_s, if_neg hne, r2]
          omega
        · obtain ⟨t1, i1, y1, y2⟩ := r3
          exact ⟨t1, i1, (hP2 t1 i1).mpr y1, y2⟩
        · obtain ⟨t1, i1, y1, y2⟩ := r5
          exact ⟨t1, i1, (hP2 t1 i1).mpr y1, y2⟩
      rcases Nat.lt_trichotomy j e with d9 | d9 | d9
      · exact old j j (by omega) (fun w hw => lo6 j w d9 hw) (fun q => by have := e2 j d9; rw [hz] at q; omega)
      · subst d9
        have hzz : yCd g c b so t i = (yRc ed1 o j : Int) := by rw [c2, hz]
        have no : ∀ t1 i1 : Nat, ¬ (yPr c b t i t1 i1 ∧ yCd g c b so t1 i1 = (yRc ed1 o j : Int)) := fun t1 i1 x => by
          obtain ⟨j0, y1, y2⟩ := (h1.2 _).mp ⟨t1, i1, x⟩
          have y2' : (yRc ed o j0 : Int) = (yRc ed1 o j : Int) := y2
          rw [c2] at y2'
          by_cases d8 : j0 < j
          · have := e2 j0 d8
            omega
          · have := gt j0 (by omega) y1
            omega
        unfold yRq
        rw [m0, m1, m2, m4, m5, hv]
        refine ⟨hr, ?_, ⟨⟨t, i, (hP _ _ _).mpr (Or.inr ⟨rfl, rfl, hzz⟩), rfl⟩, fun t1 i1 x => ?_⟩, ⟨t, i, (hP _ _ _).mpr (Or.inr ⟨rfl, rfl, hzz⟩), rfl⟩, fun t1 i1 x => ?_⟩
        · rw [m3, yCt_s, if_pos hzz]
          have s1 : yS2 (fun t1 i1 => if yCd g c b so t1 i1 = (yRc ed1 o j : Int) then 1 else 0) c b t = 0 := yS2_0 t (fun t1 i1 a1 a2 a3 => if_neg (fun q => no t1 i1 ⟨Or.inl ⟨a1, a2, a3⟩, q⟩))
          have s2 : yS1 (fun i1 => if yCd g c b so t i1 = (yRc ed1 o j : Int) then 1 else 0) i = 0 := yS1_0 i (fun i1 a1 => if_neg (fun q => no t i1 ⟨Or.inr ⟨rfl, a1⟩, q⟩))
          omega
        · rcases (hP _ t1 i1).mp x with x | ⟨y1, y2, _⟩
          · exact absurd x (no t1 i1)
          · rw [y1, y2]
            exact Int.le_refl _
        · rcases (hP _ t1 i1).mp x with x | ⟨y1, y2, _⟩
          · exact absurd x (no t1 i1)
          · rw [y1, y2]
            exact Int.le_refl _
      · have a0 := old (j - 1) j (by omega) (fun w hw => by
          have := hi6 (j - 1) w (by omega) (by omega) hw
          rw [show j - 1 + 1 = j by omega] at this
          exact this) (fun q => by have := gt (j - 1) (by omega) (by omega); rw [hz] at q; omega)
        exact a0
theorem yRE_t (h : yRE g c v b so t i E o ed) (hi : i = c t) (hb : ¬ (t : Int) = b) : yRE g c v b so (t + 1) 0 E o ed := by
  subst hi
  obtain ⟨h1, h2⟩ := h
  refine ⟨ySl_cg h1 (fun _ _ => rfl) (fun z => ⟨fun ⟨t1, i1, x, y⟩ => ⟨t1, i1, (yPr_t hb t1 i1).mp x, y⟩, fun ⟨t1, i1, x, y⟩ => ⟨t1, i1, (yPr_t hb t1 i1).mpr x, y⟩⟩), fun e he => ?_⟩
  obtain ⟨r1, r2, ⟨r3, r4⟩, r5, r6⟩ := h2 e he
  refine ⟨r1, ?_, ⟨?_, fun t1 i1 x => r4 t1 i1 ⟨(yPr_t hb t1 i1).mp x.1, x.2⟩⟩, ?_, fun t1 i1 x => r6 t1 i1 ⟨(yPr_t hb t1 i1).mp x.1, x.2⟩⟩
  · rw [r2]
    show _ = yS2 (fun t1 i1 => if yCd g c b so t1 i1 = (yRc ed o e : Int) then 1 else 0) c b t + (if (t : Int) = b then 0 else yS1 (fun i1 => if yCd g c b so t i1 = (yRc ed o e : Int) then 1 else 0) (c t)) + 0
    rw [if_neg hb]
    omega
  · obtain ⟨t1, i1, y1, y2⟩ := r3
    exact ⟨t1, i1, ⟨(yPr_t hb t1 i1).mpr y1.1, y1.2⟩, y2⟩
  · obtain ⟨t1, i1, y1, y2⟩ := r5
    exact ⟨t1, i1, ⟨(yPr_t hb t1 i1).mpr y1.1, y1.2⟩, y2⟩
theorem yRE_b (h : yRE g c v b so t 0 E o ed) (hb : (t : Int) = b) : yRE g c v b so (t + 1) 0 E o ed := by
  obtain ⟨h1, h2⟩ := h
  refine ⟨ySl_cg h1 (fun _ _ => rfl) (fun z => ⟨fun ⟨t1, i1, x, y⟩ => ⟨t1, i1, (yPr_b hb t1 i1).mp x, y⟩, fun ⟨t1, i1, x, y⟩ => ⟨t1, i1, (yPr_b hb t1 i1).mpr x, y⟩⟩), fun e he => ?_⟩
  obtain ⟨r1, r2, ⟨r3, r4⟩, r5, r6⟩ := h2 e he
  refine ⟨r1, ?_, ⟨?_, fun t1 i1 x => r4 t1 i1 ⟨(yPr_b hb t1 i1).mp x.1, x.2⟩⟩, ?_, fun t1 i1 x => r6 t1 i1 ⟨(yPr_b hb t1 i1).mp x.1, x.2⟩⟩
  · rw [r2]
    show _ = yS2 (fun t1 i1 => if yCd g c b so t1 i1 = (yRc ed o e : Int) then 1 else 0) c b t + (if (t : Int) = b then 0 else yS1 (fun i1 => if yCd g c b so t i1 = (yRc ed o e : Int) then 1 else 0) (c t)) + 0
    rw [if_pos hb]
    show _ + 0 = _
    omega
  · obtain ⟨t1, i1, y1, y2⟩ := r3
    exact ⟨t1, i1, ⟨(yPr_b hb t1 i1).mpr y1.1, y1.2⟩, y2⟩
  · obtain ⟨t1, i1, y1, y2⟩ := r5
    exact ⟨t1, i1, ⟨(yPr_b hb t1 i1).mpr y1.1, y1.2⟩, y2⟩
end
section
variable {o E e i0 i1 i2 i3 i4 i5 j3 j4 j5 : Nat} {ed y f6 f9 : Nat → Int32} {fr by_ to z0 u x cc dd v lw hw : Int32} {E1 : Int}
theorem yAE_i (he : e ≤ E) (hlt : ∀ j : Nat, j < e → (yRc ed o j : Int) < 2410 * fr.toInt + 241 * by_.toInt + to.toInt) (hge : e = E ∨ 2410 * fr.toInt + 241 * by_.toInt + to.toInt < (yRc ed o e : Int)) (hE : E1 = (E : Int) + 1) (hy : ∀ q : Nat, y q = if o + 6 * e + 5 < q ∧ q < o + 6 * E + 6 then ed (q - 6) else ed q)
    (h6 : f6 = upd (upd (upd (upd (upd (upd y i0 fr) i1 by_) i2 to) i3 z0) i4 v) i5 v) (h9 : f9 = upd (upd (upd f6 j3 x) j4 cc) j5 dd) (k0 : i0 = o + 6 * e) (k1 : i1 = o + 6 * e + 1) (k2 : i2 = o + 6 * e + 2) (k3 : i3 = o + 6 * e + 3) (k4 : i4 = o + 6 * e + 4) (k5 : i5 = o + 6 * e + 5) (m3 : j3 = o + 6 * e + 3) (m4 : j4 = o + 6 * e + 4) (m5 : j5 = o + 6 * e + 5)
    (hz : z0.toInt = 0) (hu : u = f6 j3) (hx : x = u + 1) (hc : cc = v ∨ cc = (upd f6 j3 x) j4) (hd : dd = v ∨ dd = (upd (upd f6 j3 x) j4 cc) j5) : yAE o E ed f9 E1 fr by_ to v := by
  subst k0 k1 k2 k3 k4 k5 m3 m4 m5
  have at6 : ∀ q : Nat, f6 q = if q = o + 6 * e + 5 then v else if q = o + 6 * e + 4 then v else if q = o + 6 * e + 3 then z0 else if q = o + 6 * e + 2 then to else if q = o + 6 * e + 1 then by_ else if q = o + 6 * e then fr else y q := fun q => by rw [h6]; rfl
  have at9 : ∀ q : Nat, f9 q = if q = o + 6 * e + 5 then dd else if q = o + 6 * e + 4 then cc else if q = o + 6 * e + 3 then x else f6 q := fun q => by rw [h9]; rfl
  have hc' : cc = v := by
    rcases hc with hc | hc
    · exact hc
    · rw [hc, z_at, if_neg (by omega), at6, if_neg (by omega), if_pos rfl]
  have hd' : dd = v := by
    rcases hd with hd | hd
    · exact hd
    · rw [hd, z_at, if_neg (by omega), z_at, if_neg (by omega), at6, if_pos rfl]
  have hu' : u = z0 := by rw [hu, at6, if_neg (by omega), if_neg (by omega), if_pos rfl]
  refine ⟨e, he, hlt, Or.inr ⟨hge, hE, fun q q1 q2 => ?_, ⟨?_, ?_, ?_, ?_, ?_, ?_⟩, fun q q1 q2 => ?_⟩⟩
  · rw [at9, if_neg (by omega), if_neg (by omega), if_neg (by omega), at6, if_neg (by omega), if_neg (by omega), if_neg (by omega), if_neg (by omega), if_neg (by omega), if_neg (by omega), hy, if_neg (by omega)]
  · rw [at9, if_neg (by omega), if_neg (by omega), if_neg (by omega), at6, if_neg (by omega), if_neg (by omega), if_neg (by omega), if_neg (by omega), if_neg (by omega), if_pos rfl]
  · rw [at9, if_neg (by omega), if_neg (by omega), if_neg (by omega), at6, if_neg (by omega), if_neg (by omega), if_neg (by omega), if_neg (by omega), if_pos rfl]
  · rw [at9, if_neg (by omega), if_neg (by omega), if_neg (by omega), at6, if_neg (by omega), if_neg (by omega), if_neg (by omega), if_pos rfl]
  · rw [at9, if_neg (by omega), if_neg (by omega), if_pos rfl, zI1_add hx (by rw [hu']; omega), hu', hz]
    rfl
  · rw [at9, if_neg (by omega), if_pos rfl, hc']
  · rw [at9, if_pos rfl, hd']
  · rw [at9, if_neg (by omega), if_neg (by omega), if_neg (by omega), at6, if_neg (by omega), if_neg (by omega), if_neg (by omega), if_neg (by omega), if_neg (by omega), if_neg (by omega), hy, if_pos (by omega), show q + 6 - 6 = q by omega]
theorem yAE_b (he : e < E) (hlt : ∀ j : Nat, j < e → (yRc ed o j : Int) < 2410 * fr.toInt + 241 * by_.toInt + to.toInt) (heq : (yRc ed o e : Int) = 2410 * fr.toInt + 241 * by_.toInt + to.toInt) (hE : E1 = (E : Int)) (h9 : f9 = upd (upd (upd ed j3 x) j4 cc) j5 dd) (m3 : j3 = o + 6 * e + 3) (m4 : j4 = o + 6 * e + 4) (m5 : j5 = o + 6 * e + 5) (hu : u = ed j3) (hx : x = u + 1) (hl : lw = (upd ed j3 x) j4) (hc : v.toInt < lw.toInt ∧ cc = v ∨ ¬ v.toInt < lw.toInt ∧ cc = lw) (hh : hw = (upd (upd ed j3 x) j4 cc) j5) (hd : hw.toInt < v.toInt ∧ dd = v ∨ ¬ hw.toInt < v.toInt ∧ dd = hw) : yAE o E ed f9 E1 fr by_ to v := by
  subst m3 m4 m5
  have at9 : ∀ q : Nat, f9 q = if q = o + 6 * e + 5 then dd else if q = o + 6 * e + 4 then cc else if q = o + 6 * e + 3 then x else ed q := fun q => by rw [h9]; rfl
  have hl' : lw = ed (o + 6 * e + 4) := by rw [hl, z_at, if_neg (by omega)]
  have hh' : hw = ed (o + 6 * e + 5) := by rw [hh, z_at, if_neg (by omega), z_at, if_neg (by omega)]
  refine ⟨e, by omega, hlt, Or.inl ⟨he, heq, hE, fun j hj => ⟨⟨?_, ?_, ?_⟩, ⟨ed (o + 6 * j + 3), f9 (o + 6 * j + 3), rfl, fun q => ?_, fun q => ?_, rfl⟩, ?_, ?_⟩⟩⟩
  · rw [at9, if_neg (by omega), if_neg (by omega), if_neg (by omega)]
  · rw [at9, if_neg (by omega), if_neg (by omega), if_neg (by omega)]
  · rw [at9, if_neg (by omega), if_neg (by omega), if_neg (by omega)]
  · subst q
    rw [at9, if_neg (by omega), if_neg (by omega), if_pos rfl, hx, hu]
  · rw [at9, if_neg (by omega), if_neg (by omega), if_neg (by omega)]
  · by_cases c9 : j = e
    · subst c9
      rw [at9, if_neg (by omega), if_pos rfl, ← hl']
      rcases hc with ⟨q1, q2⟩ | ⟨q1, q2⟩
      · rw [if_pos ⟨rfl, q1⟩, q2]
      · rw [if_neg (fun q => q1 q.2), q2]
    · rw [if_neg (fun q => c9 q.1), at9, if_neg (by omega), if_neg (by omega), if_neg (by omega)]
  · by_cases c9 : j = e
    · subst c9
      rw [at9, if_pos rfl, ← hh']
      rcases hd with ⟨q1, q2⟩ | ⟨q1, q2⟩
      · rw [if_pos ⟨rfl, q1⟩, q2]
      · rw [if_neg (fun q => q1 q.2), q2]
    · rw [if_neg (fun q => c9 q.1), at9, if_neg (by omega), if_neg (by omega), if_neg (by omega)]
end
/-! the reference's machine, whole -/
def yREn (g : Nat → Nat → Nat) (c : Nat → Nat) (b : Int) (so : Nat → Nat) (t M o : Nat) (en : Nat → Int32) : Prop := ∀ s : Nat, s < M → (en (o + s)).toInt = yS1 (fun t1 => if (t1 : Int) = b then 0 else if so (ypt g c b t1 (c t1)) = s then 1 else 0) t
section
variable {g : Nat → Nat → Nat} {c : Nat → Nat} {v : Nat → Nat → Int} {b : Int} {so : Nat → Nat} {t T M N k E o o2 : Nat} {en en1 ed so_ le_ pf_ : Nat → Int32} {x y s : Int32}
theorem yREn_b (h : yREn g c b so t M o en) (hb : (t : Int) = b) : yREn g c b so (t + 1) M o en := fun s hs => by
  rw [h s hs]
  show _ = yS1 (fun t1 => if (t1 : Int) = b then 0 else if so (ypt g c b t1 (c t1)) = s then 1 else 0) t + (if (t : Int) = b then 0 else if so (ypt g c b t (c t)) = s then 1 else 0)
  rw [if_pos hb]
  omega
theorem yREn_s (h : yREn g c b so t M o en) (hb : ¬ (t : Int) = b) (ht : t < 20) {j : Nat} (hj : j = o + so (ypt g c b t (c t))) (e1 : x = en j) (e2 : y = x + 1) (e3 : en1 = upd en j y) : yREn g c b so (t + 1) M o en1 := fun s hs => by
  have a1 := h s hs
  have b1 := yS1_b (f := fun t1 => if (t1 : Int) = b then 0 else if so (ypt g c b t1 (c t1)) = s then 1 else 0) (m := 1) t (fun t1 _ => by
    show 0 ≤ (if (t1 : Int) = b then (0 : Int) else if so (ypt g c b t1 (c t1)) = s then 1 else 0) ∧ (if (t1 : Int) = b then (0 : Int) else if so (ypt g c b t1 (c t1)) = s then 1 else 0) ≤ 1
    split
    · omega
    · split <;> omega)
  show (en1 (o + s)).toInt = yS1 (fun t1 => if (t1 : Int) = b then 0 else if so (ypt g c b t1 (c t1)) = s then 1 else 0) t + (if (t : Int) = b then 0 else if so (ypt g c b t (c t)) = s then 1 else 0)
  rw [if_neg hb, e3, z_at, ← a1]
  by_cases c9 : so (ypt g c b t (c t)) = s
  · rw [if_pos (by omega), if_pos c9, zI1_add e2 (by rw [e1, hj, c9]; omega), e1, hj, c9]
  · rw [if_neg (by omega), if_neg c9]
    omega
theorem yMC_r {M1 : Int} (v9 : ∀ t i : Nat, yVd c b T t i → 0 ≤ v t i ∧ v t i ≤ 99) (hg : yLt g c T) (hN : yTP g c b T (N : Int)) (hS : yRS (yAl (ypt g c b) (fun t i => ((yk2 g c t i k : Nat) : Int)) (yPf c b T 0)) N M1 o so_ le_ pf_ en1) (hE : yRE g c v b (yNo so_ o) T 0 E o2 ed) (hen : yREn g c b (yNo so_ o) T M1.toNat o en) :
    yMC g c v b T k N M1.toNat (yNo so_ o) (yNo le_ o) (fun s => (pf_ (o + s)).toInt) (fun s => (en (o + s)).toInt) E (fun e => (ed (o2 + 6 * e)).toInt.toNat) (fun e => (ed (o2 + 6 * e + 1)).toInt.toNat) (fun e => (ed (o2 + 6 * e + 2)).toInt.toNat) (fun e => (ed (o2 + 6 * e + 3)).toInt) (fun e => (ed (o2 + 6 * e + 4)).toInt) (fun e => (ed (o2 + 6 * e + 5)).toInt) := by
  have hP : ∀ t i : Nat, yPr c b T 0 t i ↔ yVd c b T t i := fun t i =>
    ⟨fun x => by
      rcases x with x | ⟨_, x⟩
      · exact x
      · omega, fun x => Or.inl x⟩
  refine ⟨hS.1, fun s hs => ⟨(hS.2 s hs).1, hen s hs⟩, ySl_cg hE.1 (fun _ _ => rfl) (fun z => ⟨fun ⟨t, i, x, y⟩ => ⟨t, i, (hP t i).mpr x, y⟩, fun ⟨t, i, x, y⟩ => ⟨t, i, (hP t i).mp x, y⟩⟩), fun e he => ?_, fun e he => ?_⟩
  · obtain ⟨r1, _⟩ := hE.2 e he
    show (ed (o2 + 6 * e)).toInt.toNat ≤ 240 ∧ (ed (o2 + 6 * e + 1)).toInt.toNat ≤ 9 ∧ (ed (o2 + 6 * e + 2)).toInt.toNat ≤ 240
    omega
  · obtain ⟨r1, r2, ⟨⟨t1, i1, y1, y2⟩, r4⟩, ⟨t2, i2, y3, y4⟩, r6⟩ := hE.2 e he
    have w1 := v9 t1 i1 ((hP t1 i1).mp y1.1)
    have w2 := v9 t2 i2 ((hP t2 i2).mp y3.1)
    refine ⟨?_, ⟨Or.inr ⟨t1, i1, ⟨(hP t1 i1).mp y1.1, y1.2⟩, y2⟩, ?_, fun t i x => r4 t i ⟨(hP t i).mpr x.1, x.2⟩⟩, ⟨Or.inr ⟨t2, i2, ⟨(hP t2 i2).mp y3.1, y3.2⟩, y4⟩, ?_, fun t i x => r6 t i ⟨(hP t i).mpr x.1, x.2⟩⟩⟩
    · show (ed (o2 + 6 * e + 3)).toInt = _
      rw [r2]
      exact Int.add_zero _
    · show (ed (o2 + 6 * e + 4)).toInt ≤ 99
      omega
    · show 0 ≤ (ed (o2 + 6 * e + 5)).toInt
      omega
end
