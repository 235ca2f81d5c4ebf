/-! TRACES of a row, as numbers -/
def zcR (R : Nat → Int32) (t : Nat) : Nat := if (t : Int) < (R 0).toInt then (R (1 + t)).toInt.toNat else 0
def zgR (R : Nat → Int32) (t i : Nat) : Nat := if i < zcR R t then (R (21 + (12 * t + i))).toInt.toNat else 0
def zvR (R : Nat → Int32) (t i : Nat) : Int := if i < zcR R t then (R (261 + (12 * t + i))).toInt else 0
def yRw (R : Nat → Int32) : Prop := (0 ≤ (R 0).toInt ∧ (R 0).toInt ≤ 20) ∧ (∀ t : Nat, t < 20 → 0 ≤ (R (1 + t)).toInt ∧ (R (1 + t)).toInt ≤ 12) ∧ ∀ q : Nat, q < 240 → 0 ≤ (R (21 + q)).toInt ∧ (R (21 + q)).toInt ≤ 9
section
variable {R R' : Nat → Int32} {t i : Nat}
theorem zcR_at (h : (t : Int) < (R 0).toInt) : zcR R t = (R (1 + t)).toInt.toNat := if_pos h
theorem zgR_at (h : i < zcR R t) : zgR R t i = (R (21 + (12 * t + i))).toInt.toNat := if_pos h
theorem zvR_at (h : i < zcR R t) : zvR R t i = (R (261 + (12 * t + i))).toInt := if_pos h
theorem zE_cR (h : zE R R') : zcR R = zcR R' := by
  funext t
  unfold zcR
  rw [h.1]
  by_cases c9 : (t : Int) < (R' 0).toInt
  · rw [if_pos c9, if_pos c9, (h.2.2.2 t (by rw [h.1]; exact c9)).1]
  · rw [if_neg c9, if_neg c9]
theorem zcR_in (h : i < zcR R t) : (t : Int) < (R 0).toInt ∧ (i : Int) < (R (1 + t)).toInt := by
  unfold zcR at h
  by_cases c9 : (t : Int) < (R 0).toInt
  · rw [if_pos c9] at h
    exact ⟨c9, by omega⟩
  · rw [if_neg c9] at h
    omega
theorem zE_gR (h : zE R R') : zgR R = zgR R' := by
  funext t i
  unfold zgR
  rw [zE_cR h]
  by_cases c9 : i < zcR R' t
  · have c8 : i < zcR R t := by rw [zE_cR h]; exact c9
    obtain ⟨h1, h2⟩ := zcR_in c8
    rw [if_pos c9, if_pos c9, ((h.2.2.2 t h1).2 i h2).1]
  · rw [if_neg c9, if_neg c9]
theorem zE_vR (h : zE R R') : zvR R = zvR R' := by
  funext t i
  unfold zvR
  rw [zE_cR h]
  by_cases c9 : i < zcR R' t
  · have c8 : i < zcR R t := by rw [zE_cR h]; exact c9
    obtain ⟨h1, h2⟩ := zcR_in c8
    rw [if_pos c9, if_pos c9, ((h.2.2.2 t h1).2 i h2).2]
  · rw [if_neg c9, if_neg c9]
theorem yRw_c (h : yRw R) (t : Nat) : zcR R t ≤ 12 := by
  unfold zcR
  split
  · rename_i c9
    have h1 := h.2.1 t (by have := h.1; omega)
    omega
  · omega
theorem yRw_g (h : yRw R) (T : Nat) : yLt (zgR R) (zcR R) T := by
  intro t i _ hi
  rw [zgR_at hi]
  have h1 := zcR_in hi
  have h2 := h.2.1 t (by have := h.1; omega)
  have h3 := h.2.2 (12 * t + i) (by have := h.1; omega)
  omega
theorem yRw_row {n d mg : Int32} {L F V : Nat → Int32} (hn : zI n 0 20) (hL : zR L 0 12) (hF : zR F 0 9) : yRw (zrow n d mg L F V) :=
  ⟨hn, fun t ht => by rw [zrow_L ht]; exact hL t, fun q hq => by rw [zrow_F hq]; exact hF q⟩
theorem yRw_W5 (h : zW5 R) : yRw R := ⟨(h 0).1 rfl, fun t ht => by
    have h1 := (h (1 + t)).2.1 (by omega)
    exact h1, fun q hq => by
    have h1 := (h (21 + q)).2.2.1 (by omega)
    exact h1⟩
theorem zcR_row {n d mg : Int32} {L F V : Nat → Int32} (hn : n.toInt ≤ 20) (ht : (t : Int) < n.toInt) : zcR (zrow n d mg L F V) t = (L t).toInt.toNat := by
  rw [zcR_at (by rw [zrow_0]; exact ht), zrow_L (by omega)]
theorem zgR_row {n d mg : Int32} {L F V : Nat → Int32} (hn : n.toInt ≤ 20) (ht : (t : Int) < n.toInt) (hi : (i : Int) < (L t).toInt) (hi2 : i < 12) : zgR (zrow n d mg L F V) t i = (F (12 * t + i)).toInt.toNat := by
  rw [zgR_at (by rw [zcR_row hn ht]; omega), zrow_F (by omega)]
theorem zvR_row {n d mg : Int32} {L F V : Nat → Int32} (hn : n.toInt ≤ 20) (ht : (t : Int) < n.toInt) (hi : (i : Int) < (L t).toInt) (hi2 : i < 12) : zvR (zrow n d mg L F V) t i = (V (12 * t + i)).toInt := by
  rw [zvR_at (by rw [zcR_row hn ht]; omega), zrow_V (by omega)]
end
/-! the class's tree -/
/-- the CALLS that were gone: those of t TRACES, i of the next -/
def yPr (c : Nat → Nat) (b : Int) (t i t1 i1 : Nat) : Prop := t1 < t ∧ ¬ (t1 : Int) = b ∧ i1 < c t1 ∨ t1 = t ∧ i1 < i
def yGo (g : Nat → Nat → Nat) (c : Nat → Nat) (b : Int) (t i q : Nat) : Int := yS2 (fun t1 i1 => if ypt g c b t1 (i1 + 1) = q then 1 else 0) c b t + yS1 (fun i1 => if ypt g c b t (i1 + 1) = q then 1 else 0) i
def yEn (g : Nat → Nat → Nat) (c : Nat → Nat) (b : Int) (t q : Nat) : Int := yS1 (fun t1 => if (t1 : Int) = b then 0 else if ypt g c b t1 (c t1) = q then 1 else 0) t
/-- the least VALUE, 99 at most; the greatest -/
def yMi (P : Nat → Nat → Prop) (v : Nat → Nat → Int) (x : Int) : Prop := (x = 99 ∨ ∃ t i : Nat, P t i ∧ v t i = x) ∧ x ≤ 99 ∧ ∀ t i : Nat, P t i → x ≤ v t i
def yMa (P : Nat → Nat → Prop) (v : Nat → Nat → Int) (x : Int) : Prop := (x = 0 ∨ ∃ t i : Nat, P t i ∧ v t i = x) ∧ 0 ≤ x ∧ ∀ t i : Nat, P t i → v t i ≤ x
def yCA (S : Nat × (Nat → Int)) (px : Int) (pa le lg : Nat → Int32) : Prop := px = (S.1 : Int) ∧ (∀ j : Nat, j < 10 * S.1 → (lg j).toInt = S.2 j) ∧ ∀ q : Nat, 1 ≤ q → q < S.1 → (0 ≤ (pa q).toInt ∧ 0 ≤ (le q).toInt ∧ (le q).toInt ≤ 9) ∧ S.2 (10 * (pa q).toInt.toNat + (le q).toInt.toNat) = (q : Int)
def yCB (g : Nat → Nat → Nat) (c : Nat → Nat) (v : Nat → Nat → Int) (b : Int) (t i N : Nat) (go en lo hi : Nat → Int32) : Prop := (∀ q : Nat, 1 ≤ q → q < N → (go q).toInt = yGo g c b t i q ∧ yMi (fun t1 i1 => yPr c b t i t1 i1 ∧ ypt g c b t1 (i1 + 1) = q) v (lo q).toInt ∧ yMa (fun t1 i1 => yPr c b t i t1 i1 ∧ ypt g c b t1 (i1 + 1) = q) v (hi q).toInt) ∧ ∀ q : Nat, q < N → (en q).toInt = yEn g c b t q
def yCT (g : Nat → Nat → Nat) (c : Nat → Nat) (v : Nat → Nat → Int) (b : Int) (t i : Nat) (px : Int) (pa le go en lo hi lg : Nat → Int32) : Prop := yCA (ytw (g t) (ytr g c b t) i).1 px pa le lg ∧ yCB g c v b t i (ytw (g t) (ytr g c b t) i).1.1 go en lo hi
/-- what stepFrom() leaves -/
def ySF (at_ : Nat) (fr by_ px px1 r : Int32) (pa le go en lo hi lg pa1 le1 go1 en1 lo1 hi1 lg1 : Nat → Int32) : Prop := ¬ (lg at_).toInt = -1 ∧ r = lg at_ ∧ px1 = px ∧ (pa1 = pa ∧ le1 = le ∧ go1 = go ∧ en1 = en ∧ lo1 = lo ∧ hi1 = hi) ∧ lg1 = lg ∨ (lg at_).toInt = -1 ∧ r = px ∧ px1.toInt = px.toInt + 1 ∧ (pa1 = upd pa px.toNatClampNeg fr ∧ le1 = upd le px.toNatClampNeg by_ ∧ go1 = upd go px.toNatClampNeg 0 ∧ en1 = upd en px.toNatClampNeg 0 ∧ lo1 = upd lo px.toNatClampNeg 99 ∧ hi1 = upd hi px.toNatClampNeg 0) ∧ ∀ q : Nat, lg1 q = if q = at_ then px else if 10 * px.toInt ≤ (q : Int) ∧ (q : Int) < 10 * px.toInt + 10 then -1 else lg q
section
variable {g : Nat → Nat → Nat} {c : Nat → Nat} {v : Nat → Nat → Int} {b : Int} {t i N T : Nat} {P P' : Nat → Nat → Prop} {x : Int}
theorem yMi_p {t9 i9 : Nat} {y : Int} (h : yMi P v x) (hP : ∀ t1 i1 : Nat, P' t1 i1 ↔ P t1 i1 ∨ t1 = t9 ∧ i1 = i9) (hy : y = if v t9 i9 < x then v t9 i9 else x) : yMi P' v y := by
  obtain ⟨h1, h2, h3⟩ := h
  by_cases c9 : v t9 i9 < x
  · rw [if_pos c9] at hy
    refine ⟨Or.inr ⟨t9, i9, (hP _ _).mpr (Or.inr ⟨rfl, rfl⟩), hy.symm⟩, by omega, fun t1 i1 hp => ?_⟩
    rcases (hP _ _).mp hp with q | ⟨rfl, rfl⟩
    · have := h3 _ _ q
      omega
    · omega
  · rw [if_neg c9] at hy
    subst hy
    refine ⟨?_, h2, fun t1 i1 hp => ?_⟩
    · rcases h1 with q | ⟨a, e, q1, q2⟩
      · exact Or.inl q
      · exact Or.inr ⟨a, e, (hP _ _).mpr (Or.inl q1), q2⟩
    · rcases (hP _ _).mp hp with q | ⟨rfl, rfl⟩
      · exact h3 _ _ q
      · omega
theorem yMa_p {t9 i9 : Nat} {y : Int} (h : yMa P v x) (hP : ∀ t1 i1 : Nat, P' t1 i1 ↔ P t1 i1 ∨ t1 = t9 ∧ i1 = i9) (hy : y = if x < v t9 i9 then v t9 i9 else x) : yMa P' v y := by
  obtain ⟨h1, h2, h3⟩ := h
  by_cases c9 : x < v t9 i9
  · rw [if_pos c9] at hy
    refine ⟨Or.inr ⟨t9, i9, (hP _ _).mpr (Or.inr ⟨rfl, rfl⟩), hy.symm⟩, by omega, fun t1 i1 hp => ?_⟩
    rcases (hP _ _).mp hp with q | ⟨rfl, rfl⟩
    · have := h3 _ _ q
      omega
    · omega
  · rw [if_neg c9] at hy
    subst hy
    refine ⟨?_, h2, fun t1 i1 hp => ?_⟩
    · rcases h1 with q | ⟨a, e, q1, q2⟩
      · exact Or.inl q
      · exact Or.inr ⟨a, e, (hP _ _).mpr (Or.inl q1), q2⟩
    · rcases (hP _ _).mp hp with q | ⟨rfl, rfl⟩
      · exact h3 _ _ q
      · omega
theorem yMi_cg (h : yMi P v x) (hP : ∀ t1 i1 : Nat, P' t1 i1 ↔ P t1 i1) : yMi P' v x :=
  ⟨h.1.elim Or.inl (fun ⟨a, e, q1, q2⟩ => Or.inr ⟨a, e, (hP _ _).mpr q1, q2⟩), h.2.1, fun _ _ q => h.2.2 _ _ ((hP _ _).mp q)⟩
theorem yMa_cg (h : yMa P v x) (hP : ∀ t1 i1 : Nat, P' t1 i1 ↔ P t1 i1) : yMa P' v x :=
  ⟨h.1.elim Or.inl (fun ⟨a, e, q1, q2⟩ => Or.inr ⟨a, e, (hP _ _).mpr q1, q2⟩), h.2.1, fun _ _ q => h.2.2 _ _ ((hP _ _).mp q)⟩
theorem yMi_0 (h : ∀ t1 i1 : Nat, ¬ P t1 i1) : yMi P v 99 := ⟨Or.inl rfl, Int.le_refl _, fun _ _ q => (h _ _ q).elim⟩
theorem yMa_0 (h : ∀ t1 i1 : Nat, ¬ P t1 i1) : yMa P v 0 := ⟨Or.inl rfl, Int.le_refl _, fun _ _ q => (h _ _ q).elim⟩
theorem yMi_u {y : Int} (h : yMi P v x) (k : yMi P v y) : x = y := by
  obtain ⟨h1, h2, h3⟩ := h
  obtain ⟨k1, k2, k3⟩ := k
  rcases h1 with q | ⟨a, e, q1, q2⟩
  · rcases k1 with r | ⟨a2, e2, r1, r2⟩
    · omega
    · have := h3 _ _ r1
      omega
  · have := k3 _ _ q1
    rcases k1 with r | ⟨a2, e2, r1, r2⟩
    · omega
    · have := h3 _ _ r1
      omega
theorem yMa_u {y : Int} (h : yMa P v x) (k : yMa P v y) : x = y := by
  obtain ⟨h1, h2, h3⟩ := h
  obtain ⟨k1, k2, k3⟩ := k
  rcases h1 with q | ⟨a, e, q1, q2⟩
  · rcases k1 with r | ⟨a2, e2, r1, r2⟩
    · omega
    · have := h3 _ _ r1
      omega
  · have := k3 _ _ q1
    rcases k1 with r | ⟨a2, e2, r1, r2⟩
    · omega
    · have := h3 _ _ r1
      omega
theorem yPr_s (t1 i1 : Nat) : yPr c b t (i + 1) t1 i1 ↔ yPr c b t i t1 i1 ∨ t1 = t ∧ i1 = i := by
  unfold yPr
  constructor
  · rintro (h | ⟨h, h2⟩)
    · exact Or.inl (Or.inl h)
    · by_cases c9 : i1 = i
      · exact Or.inr ⟨h, c9⟩
      · exact Or.inl (Or.inr ⟨h, by omega⟩)
  · rintro ((h | ⟨h, h2⟩) | ⟨h, h2⟩)
    · exact Or.inl h
    · exact Or.inr ⟨h, by omega⟩
    · exact Or.inr ⟨h, by omega⟩
theorem yPr_t (hb : ¬ (t : Int) = b) (t1 i1 : Nat) : yPr c b (t + 1) 0 t1 i1 ↔ yPr c b t (c t) t1 i1 := by
  unfold yPr
  constructor
  · rintro (⟨h1, h2, h3⟩ | ⟨h, h2⟩)
    · by_cases c9 : t1 = t
      · subst c9
        exact Or.inr ⟨rfl, h3⟩
      · exact Or.inl ⟨by omega, h2, h3⟩
    · omega
  · rintro (⟨h1, h2, h3⟩ | ⟨h, h2⟩)
    · exact Or.inl ⟨by omega, h2, h3⟩
    · subst h
      exact Or.inl ⟨by omega, hb, h2⟩
theorem yPr_b (hb : (t : Int) = b) (t1 i1 : Nat) : yPr c b (t + 1) 0 t1 i1 ↔ yPr c b t 0 t1 i1 := by
  unfold yPr
  constructor
  · rintro (⟨h1, h2, h3⟩ | ⟨h, h2⟩)
    · by_cases c9 : t1 = t
      · subst c9
        exact absurd hb h2
      · exact Or.inl ⟨by omega, h2, h3⟩
    · omega
  · rintro (⟨h1, h2, h3⟩ | ⟨h, h2⟩)
    · exact Or.inl ⟨by omega, h2, h3⟩
    · omega
/-- PREFIXES of CALLS that were gone are there -/
theorem yPr_lt {t1 i1 : Nat} (hg : yLt g c T) (ht : t < T) (hi : i ≤ c t) (h : yPr c b t i t1 i1) : ypt g c b t1 (i1 + 1) < (ytw (g t) (ytr g c b t) i).1.1 := by
  have a0 := ytw_ok (ytr_ok (b := b) hg t (by omega)) (fun i hi => hg t i ht hi) i hi
  rcases h with ⟨h1, h2, h3⟩ | ⟨h1, h2⟩
  · have a1 := ypt_lt (b := b) (T := t) (fun t2 i2 q1 q2 => hg t2 i2 (by omega) q2) h1 h2 (i := i1 + 1) (by omega)
    omega
  · subst h1
    have a1 := ytw_ok (ytr_ok (b := b) hg t1 (by omega)) (fun i hi => hg t1 i ht hi) (i1 + 1) (by omega)
    have a2 := ytw_mo (ytr_ok (b := b) hg t1 (by omega)) (fun i hi => hg t1 i ht hi) (i := i1 + 1) (i - (i1 + 1)) (by omega)
    rw [show i1 + 1 + (i - (i1 + 1)) = i by omega] at a2
    show (ytw (g t1) (ytr g c b t1) (i1 + 1)).2 < _
    omega
theorem yEn_lt {t1 : Nat} (hg : yLt g c T) (ht : t < T) (hi : i ≤ c t) (h1 : t1 < t) (h2 : ¬ (t1 : Int) = b) : ypt g c b t1 (c t1) < (ytw (g t) (ytr g c b t) i).1.1 := by
  have a0 := ytw_ok (ytr_ok (b := b) hg t (by omega)) (fun i hi => hg t i ht hi) i hi
  have a1 := ypt_lt (b := b) (T := t) (fun t2 i2 q1 q2 => hg t2 i2 (by omega) q2) h1 h2 (i := c t1) (Nat.le_refl _)
  omega
theorem yGo_s (q : Nat) : yGo g c b t (i + 1) q = yGo g c b t i q + (if ypt g c b t (i + 1) = q then 1 else 0) := by
  show yS2 _ c b t + (yS1 (fun i1 => if ypt g c b t (i1 + 1) = q then 1 else 0) i + (if ypt g c b t (i + 1) = q then 1 else 0)) = (yS2 _ c b t + yS1 (fun i1 => if ypt g c b t (i1 + 1) = q then 1 else 0) i) + (if ypt g c b t (i + 1) = q then 1 else 0)
  omega
theorem yGo_t (hb : ¬ (t : Int) = b) (q : Nat) : yGo g c b (t + 1) 0 q = yGo g c b t (c t) q := by
  show yS2 (fun t1 i1 => if ypt g c b t1 (i1 + 1) = q then 1 else 0) c b t + (if (t : Int) = b then 0 else yS1 (fun i1 => if ypt g c b t (i1 + 1) = q then 1 else 0) (c t)) + 0 = _
  rw [if_neg hb]
  exact Int.add_zero _
theorem yGo_b (hb : (t : Int) = b) (q : Nat) : yGo g c b (t + 1) 0 q = yGo g c b t 0 q := by
  show yS2 (fun t1 i1 => if ypt g c b t1 (i1 + 1) = q then 1 else 0) c b t + (if (t : Int) = b then 0 else yS1 (fun i1 => if ypt g c b t (i1 + 1) = q then 1 else 0) (c t)) + 0 = yS2 (fun t1 i1 => if ypt g c b t1 (i1 + 1) = q then 1 else 0) c b t + 0
  rw [if_pos hb]
  omega
theorem yGo_r (hc : ∀ t : Nat, c t ≤ 12) (q : Nat) : 0 ≤ yGo g c b t i q ∧ yGo g c b t i q ≤ 12 * (t : Int) + (i : Int) := by
  have a1 := yS2_b (f := fun t1 i1 => if ypt g c b t1 (i1 + 1) = q then 1 else 0) (c := c) (b := b) t (fun t1 _ => hc t1) (fun t1 i1 => by
    show 0 ≤ (if ypt g c b t1 (i1 + 1) = q then (1 : Int) else 0) ∧ (if ypt g c b t1 (i1 + 1) = q then (1 : Int) else 0) ≤ 1
    split <;> omega)
  have a2 := yS1_b (f := fun i1 => if ypt g c b t (i1 + 1) = q then 1 else 0) (m := 1) i (fun i1 _ => by
    show 0 ≤ (if ypt g c b t (i1 + 1) = q then (1 : Int) else 0) ∧ (if ypt g c b t (i1 + 1) = q then (1 : Int) else 0) ≤ 1
    split <;> omega)
  unfold yGo
  omega
theorem yEn_s (q : Nat) : yEn g c b (t + 1) q = yEn g c b t q + (if (t : Int) = b then 0 else if ypt g c b t (c t) = q then 1 else 0) := rfl
theorem yEn_r (q : Nat) : 0 ≤ yEn g c b t q ∧ yEn g c b t q ≤ 1 * (t : Int) :=
  yS1_b (f := fun t1 => if (t1 : Int) = b then 0 else if ypt g c b t1 (c t1) = q then 1 else 0) (m := 1) t (fun t1 _ => by
    show 0 ≤ (if (t1 : Int) = b then (0 : Int) else if ypt g c b t1 (c t1) = q then 1 else 0) ∧ (if (t1 : Int) = b then (0 : Int) else if ypt g c b t1 (c t1) = q then 1 else 0) ≤ 1
    split
    · omega
    · split <;> omega)
/-- a new PREFIX that nothing has gone yet -/
theorem yCB_n {go en lo hi : Nat → Int32} (h : yCB g c v b t i N go en lo hi) (h1 : ∀ t1 i1 : Nat, yPr c b t i t1 i1 → ypt g c b t1 (i1 + 1) < N) (h2 : ∀ t1 : Nat, t1 < t → ¬ (t1 : Int) = b → ypt g c b t1 (c t1) < N) : yCB g c v b t i (N + 1) (upd go N 0) (upd en N 0) (upd lo N 99) (upd hi N 0) := by
  have z0 : (0 : Int32).toInt = 0 := by decide +kernel
  have z99 : (99 : Int32).toInt = 99 := by decide +kernel
  refine ⟨fun q q1 q2 => ?_, fun q q2 => ?_⟩
  · rw [z_at, z_at, z_at]
    by_cases c9 : q = N
    · rw [if_pos c9, if_pos c9, if_pos c9, z0, z99]
      have hn : ∀ t1 i1 : Nat, ¬ (yPr c b t i t1 i1 ∧ ypt g c b t1 (i1 + 1) = q) := fun t1 i1 hp => by
        have := h1 t1 i1 hp.1
        omega
      refine ⟨?_, yMi_0 hn, yMa_0 hn⟩
      have s1 : yS2 (fun t1 i1 => if ypt g c b t1 (i1 + 1) = q then 1 else 0) c b t = 0 := yS2_0 t (fun t1 i1 a1 a2 a3 => if_neg (fun e => hn t1 i1 ⟨Or.inl ⟨a1, a2, a3⟩, e⟩))
      have s2 : yS1 (fun i1 => if ypt g c b t (i1 + 1) = q then 1 else 0) i = 0 := yS1_0 i (fun i1 a1 => if_neg (fun e => hn t i1 ⟨Or.inr ⟨rfl, a1⟩, e⟩))
      show (0 : Int) = yS2 (fun t1 i1 => if ypt g c b t1 (i1 + 1) = q then 1 else 0) c b t + yS1 (fun i1 => if ypt g c b t (i1 + 1) = q then 1 else 0) i
      omega
    · rw [if_neg c9, if_neg c9, if_neg c9]
      exact h.1 q q1 (by omega)
  · rw [z_at]
    by_cases c9 : q = N
    · rw [if_pos c9, z0]
      have s1 : yEn g c b t q = 0 := yS1_0 t (fun t1 a1 => by
        show (if (t1 : Int) = b then (0 : Int) else if ypt g c b t1 (c t1) = q then 1 else 0) = 0
        by_cases c8 : (t1 : Int) = b
        · rw [if_pos c8]
        · rw [if_neg c8, if_neg (by have := h2 t1 a1 c8; omega)])
      omega
    · rw [if_neg c9]
      exact h.2 q (by omega)
/-- a CALL goes its PREFIX -/
theorem yCB_p {go en lo hi go2 lo2 hi2 : Nat → Int32} {r gv gv1 lv lv1 hv hv1 val : Int32} (h : yCB g c v b t i N go en lo hi) (hr : r.toInt = (ypt g c b t (i + 1) : Int)) (hr2 : 1 ≤ r.toInt ∧ r.toInt < (N : Int)) (hc : ∀ t : Nat, c t ≤ 12) (ht : t < 20 ∧ i < 12) (hv9 : val.toInt = v t i)
    (e1 : gv = go r.toNatClampNeg) (e2 : gv1 = gv + 1) (e3 : go2 = upd go r.toNatClampNeg gv1) (e4 : lv = lo r.toNatClampNeg) (e5 : lv1 = if val < lv then val else lv) (e6 : lo2 = upd lo r.toNatClampNeg lv1) (e7 : hv = hi r.toNatClampNeg) (e8 : hv1 = if hv < val then val else hv) (e9 : hi2 = upd hi r.toNatClampNeg hv1) : yCB g c v b t (i + 1) N go2 en lo2 hi2 := by
  have hn : r.toNatClampNeg = ypt g c b t (i + 1) := by
    have := zcl (i := r) (by omega)
    omega
  refine ⟨fun q q1 q2 => ?_, h.2⟩
  obtain ⟨a1, a2, a3⟩ := h.1 q q1 q2
  rw [e3, e6, e9, z_at, z_at, z_at, hn]
  by_cases c9 : q = ypt g c b t (i + 1)
  · rw [if_pos c9, if_pos c9, if_pos c9]
    rw [hn, ← c9] at e1 e4 e7
    have r1 := yGo_r (g := g) (b := b) (t := t) (i := i) hc q
    have b1 := zI1_add e2 (by rw [e1]; omega)
    have hP : ∀ t1 i1 : Nat, (yPr c b t (i + 1) t1 i1 ∧ ypt g c b t1 (i1 + 1) = q) ↔ (yPr c b t i t1 i1 ∧ ypt g c b t1 (i1 + 1) = q) ∨ t1 = t ∧ i1 = i := fun t1 i1 => by
      rw [yPr_s]
      constructor
      · rintro ⟨h1 | h1, h2⟩
        · exact Or.inl ⟨h1, h2⟩
        · exact Or.inr h1
      · rintro (⟨h1, h2⟩ | ⟨h1, h2⟩)
        · exact ⟨Or.inl h1, h2⟩
        · exact ⟨Or.inr ⟨h1, h2⟩, by rw [h1, h2]; exact c9.symm⟩
    refine ⟨?_, yMi_p a2 hP ?_, yMa_p a3 hP ?_⟩
    · rw [yGo_s, if_pos c9.symm, b1, e1, a1]
    · rw [e5, ← e4, ← hv9]
      by_cases d9 : val < lv
      · rw [if_pos d9, if_pos ((fa_lt _ _).mp d9)]
      · rw [if_neg d9, if_neg (fun k => d9 ((fa_lt _ _).mpr k))]
    · rw [e8, ← e7, ← hv9]
      by_cases d9 : hv < val
      · rw [if_pos d9, if_pos ((fa_lt _ _).mp d9)]
      · rw [if_neg d9, if_neg (fun k => d9 ((fa_lt _ _).mpr k))]
  · rw [if_neg c9, if_neg c9, if_neg c9]
    have hP : ∀ t1 i1 : Nat, (yPr c b t (i + 1) t1 i1 ∧ ypt g c b t1 (i1 + 1) = q) ↔ (yPr c b t i t1 i1 ∧ ypt g c b t1 (i1 + 1) = q) := fun t1 i1 => by
      rw [yPr_s]
      constructor
      · rintro ⟨h1 | h1, h2⟩
        · exact ⟨h1, h2⟩
        · rw [h1.1, h1.2] at h2
          exact absurd h2.symm c9
      · rintro ⟨h1, h2⟩
        exact ⟨Or.inl h1, h2⟩
    refine ⟨?_, yMi_cg a2 hP, yMa_cg a3 hP⟩
    rw [yGo_s, if_neg (fun k => c9 k.symm), a1]
    omega
/-- a CALL more -/
theorem yCT_s {fr by_ px px1 r gv gv1 lv lv1 hv hv1 val : Int32} {at_ : Nat} {pa le go en lo hi lg pa1 le1 go1 en1 lo1 hi1 lg1 go2 lo2 hi2 : Nat → Int32} (h : yCT g c v b t i px.toInt pa le go en lo hi lg) (hg : yLt g c T) (hc : ∀ t : Nat, c t ≤ 12) (ht : t < T ∧ T ≤ 20) (hi9 : i < c t) (hfr : fr.toInt = (ypt g c b t i : Int)) (hby : by_.toInt = (g t i : Int)) (hat : (at_ : Int) = 10 * fr.toInt + by_.toInt)
    (hs : ySF at_ fr by_ px px1 r pa le go en lo hi lg pa1 le1 go1 en1 lo1 hi1 lg1) (hv9 : val.toInt = v t i)
    (e1 : gv = go1 r.toNatClampNeg) (e2 : gv1 = gv + 1) (e3 : go2 = upd go1 r.toNatClampNeg gv1) (e4 : lv = lo1 r.toNatClampNeg) (e5 : lv1 = if val < lv then val else lv) (e6 : lo2 = upd lo1 r.toNatClampNeg lv1) (e7 : hv = hi1 r.toNatClampNeg) (e8 : hv1 = if hv < val then val else hv) (e9 : hi2 = upd hi1 r.toNatClampNeg hv1) :
    yCT g c v b t (i + 1) px1.toInt pa1 le1 go2 en1 lo2 hi2 lg1 ∧ r.toInt = (ypt g c b t (i + 1) : Int) := by
  have a0 := ytw_ok (ytr_ok (b := b) hg t (by omega)) (fun i hi => hg t i ht.1 hi) i (by omega)
  have ax := hg t i ht.1 hi9
  have an := ytr_n (b := b) hg (fun t _ => hc t) t (by omega)
  have hc9 := hc t
  have p1 : ∀ t1 i1 : Nat, yPr c b t i t1 i1 → ypt g c b t1 (i1 + 1) < (ytw (g t) (ytr g c b t) i).1.1 := fun t1 i1 hp => yPr_lt hg ht.1 (by omega) hp
  have p2 : ∀ t1 : Nat, t1 < t → ¬ (t1 : Int) = b → ypt g c b t1 (c t1) < (ytw (g t) (ytr g c b t) i).1.1 := fun t1 u1 u2 => yEn_lt hg ht.1 (by omega) u1 u2
  have e0 : ypt g c b t (i + 1) = (yt1 (ytw (g t) (ytr g c b t) i).1 (ypt g c b t i) (g t i)).2 := rfl
  unfold yCT at h ⊢
  rw [ytw_s, show (ytw (g t) (ytr g c b t) i).2 = ypt g c b t i from rfl]
  rw [show (ytw (g t) (ytr g c b t) i).2 = ypt g c b t i from rfl] at a0
  generalize (ytw (g t) (ytr g c b t) i).1 = S at h a0 p1 p2 e0 ⊢
  obtain ⟨⟨h1, h2, h3⟩, h4⟩ := h
  obtain ⟨a1, a2, a3, a4, a5⟩ := a0
  obtain ⟨b1, b2, b3, b4, b5, b6⟩ := yTI_1 a1 a2 ax
  have hat2 : at_ = 10 * ypt g c b t i + g t i := by omega
  have hlg : (lg at_).toInt = S.2 (10 * ypt g c b t i + g t i) := by
    rw [hat2]
    exact h2 _ (by omega)
  rcases hs with ⟨k1, k2, k3, ⟨k4, k5, k6, k7, k8, k9⟩, k10⟩ | ⟨k1, k2, k3, ⟨k4, k5, k6, k7, k8, k9⟩, k10⟩
  · rw [hlg] at k1
    have y1 := yt1_o k1
    rw [y1] at b2 e0
    have e0' : ypt g c b t (i + 1) = (S.2 (10 * ypt g c b t i + g t i)).toNat := e0
    have b2' : ypt g c b t i < (S.2 (10 * ypt g c b t i + g t i)).toNat ∧ (S.2 (10 * ypt g c b t i + g t i)).toNat < S.1 := b2
    have hr : r.toInt = (ypt g c b t (i + 1) : Int) := by
      rw [k2, hlg, e0']
      omega
    rw [y1]
    refine ⟨⟨?_, ?_⟩, hr⟩
    · show yCA S px1.toInt pa1 le1 lg1
      rw [k3, k4, k5, k10]
      exact ⟨h1, h2, h3⟩
    · show yCB g c v b t (i + 1) S.1 go2 en1 lo2 hi2
      rw [k6] at e1 e3
      rw [k8] at e4 e6
      rw [k9] at e7 e9
      rw [k7]
      exact yCB_p h4 hr ⟨by omega, by omega⟩ hc ⟨by omega, by omega⟩ hv9 e1 e2 e3 e4 e5 e6 e7 e8 e9
  · rw [hlg] at k1
    have hpx : px.toNatClampNeg = S.1 := by
      have := zcl (i := px) (by omega)
      omega
    rw [hpx] at k4 k5 k6 k7 k8 k9
    have m1 : (-1 : Int32).toInt = -1 := by decide +kernel
    have y1 := yt1_n k1
    rw [y1] at e0
    have e0' : ypt g c b t (i + 1) = S.1 := e0
    have hr : r.toInt = (ypt g c b t (i + 1) : Int) := by rw [k2, h1, e0']
    rw [y1]
    refine ⟨⟨⟨?_, ?_, ?_⟩, ?_⟩, hr⟩
    · show px1.toInt = ((S.1 + 1 : Nat) : Int)
      omega
    · intro j hj
      have hj' : j < 10 * (S.1 + 1) := hj
      show (lg1 j).toInt = if j = 10 * ypt g c b t i + g t i then ((S.1 : Nat) : Int) else S.2 j
      rw [k10 j, ← hat2]
      by_cases d9 : j = at_
      · rw [if_pos d9, if_pos d9, h1]
      · rw [if_neg d9, if_neg d9]
        by_cases d8 : j < 10 * S.1
        · rw [if_neg (by omega)]
          exact h2 j d8
        · rw [if_pos (by omega), m1]
          rcases a1.2.1 j with d7 | d7
          · exact d7.symm
          · exfalso
            omega
    · intro q q1 q2
      have q2' : q < S.1 + 1 := q2
      show (0 ≤ (pa1 q).toInt ∧ 0 ≤ (le1 q).toInt ∧ (le1 q).toInt ≤ 9) ∧ (if 10 * (pa1 q).toInt.toNat + (le1 q).toInt.toNat = 10 * ypt g c b t i + g t i then ((S.1 : Nat) : Int) else S.2 (10 * (pa1 q).toInt.toNat + (le1 q).toInt.toNat)) = (q : Int)
      rw [k4, k5, z_at, z_at]
      by_cases d9 : q = S.1
      · rw [if_pos d9, if_pos d9]
        refine ⟨⟨by omega, by omega, by omega⟩, ?_⟩
        rw [if_pos (by omega)]
        omega
      · rw [if_neg d9, if_neg d9]
        obtain ⟨f1, f2⟩ := h3 q q1 (by omega)
        refine ⟨f1, ?_⟩
        rw [if_neg (fun k => by rw [k, k1] at f2; omega)]
        exact f2
    · show yCB g c v b t (i + 1) (S.1 + 1) go2 en1 lo2 hi2
      have n1 := yCB_n h4 p1 p2
      rw [← k6, ← k7, ← k8, ← k9] at n1
      exact yCB_p n1 hr ⟨by omega, by omega⟩ hc ⟨by omega, by omega⟩ hv9 e1 e2 e3 e4 e5 e6 e7 e8 e9
/-- a TRACE is over -/
theorem yCT_e {px r ev ev1 : Int32} {pa le go en lo hi lg en2 : Nat → Int32} (h : yCT g c v b t i px.toInt pa le go en lo hi lg) (hi9 : i = c t) (hb : ¬ (t : Int) = b) (ht : t < 20) (hr : r.toInt = (ypt g c b t i : Int)) (e1 : ev = en r.toNatClampNeg) (e2 : ev1 = ev + 1) (e3 : en2 = upd en r.toNatClampNeg ev1) : yCT g c v b (t + 1) 0 px.toInt pa le go en2 lo hi lg := by
  subst hi9
  obtain ⟨h1, h2, h3⟩ := h
  have hn : r.toNatClampNeg = ypt g c b t (c t) := by
    have := zcl (i := r) (by omega)
    omega
  have e0 : (ytw (g (t + 1)) (ytr g c b (t + 1)) 0).1 = (ytw (g t) (ytr g c b t) (c t)).1 := by
    show ytr g c b (t + 1) = _
    exact ytr_s hb
  unfold yCT
  rw [e0]
  refine ⟨h1, fun q q1 q2 => ?_, fun q q2 => ?_⟩
  · obtain ⟨a1, a2, a3⟩ := h2 q q1 q2
    exact ⟨by rw [yGo_t hb]; exact a1, yMi_cg a2 (fun t1 i1 => by rw [yPr_t hb]), yMa_cg a3 (fun t1 i1 => by rw [yPr_t hb])⟩
  · have a1 := h3 q q2
    rw [yEn_s, if_neg hb, e3, z_at, hn]
    by_cases c9 : q = ypt g c b t (c t)
    · have r1 := yEn_r (g := g) (c := c) (b := b) (t := t) q
      rw [hn, ← c9] at e1
      have b1 := zI1_add e2 (by rw [e1]; omega)
      rw [if_pos c9, if_pos c9.symm, b1, e1, a1]
    · rw [if_neg c9, if_neg (fun k => c9 k.symm), a1]
      omega
theorem yCT_b {px : Int} {pa le go en lo hi lg : Nat → Int32} (h : yCT g c v b t 0 px pa le go en lo hi lg) (hb : (t : Int) = b) : yCT g c v b (t + 1) 0 px pa le go en lo hi lg := by
  obtain ⟨h1, h2, h3⟩ := h
  have e0 : (ytw (g (t + 1)) (ytr g c b (t + 1)) 0).1 = (ytw (g t) (ytr g c b t) 0).1 := by
    show ytr g c b (t + 1) = ytr g c b t
    exact ytr_b hb
  unfold yCT
  rw [e0]
  refine ⟨h1, fun q q1 q2 => ?_, fun q q2 => ?_⟩
  · obtain ⟨a1, a2, a3⟩ := h2 q q1 q2
    exact ⟨by rw [yGo_b hb]; exact a1, yMi_cg a2 (fun t1 i1 => by rw [yPr_b hb]), yMa_cg a3 (fun t1 i1 => by rw [yPr_b hb])⟩
  · rw [yEn_s, if_pos hb]
    have := h3 q q2
    omega
theorem ytr_e (t : Nat) (h : ∀ t1 : Nat, t1 < t → (t1 : Int) = b) : ytr g c b t = (1, fun _ => -1) := by
  induction t with
  | zero => rfl
  | succ t ih =>
    rw [ytr_b (h t (by omega))]
    exact ih (fun t1 h1 => h t1 (by omega))
/-- the first PREFIX, that of no CALLS -/
theorem yCT_0 {px1 : Int32} {pa le go lo hi lg en1 : Nat → Int32} (h : ∀ t1 : Nat, t1 < t → (t1 : Int) = b) (e1 : px1.toInt = 1) (e2 : (en1 0).toInt = 0) (e3 : ∀ q : Nat, q < 10 → (lg q).toInt = -1) : yCT g c v b t 0 px1.toInt pa le go en1 lo hi lg := by
  have e0 : (ytw (g t) (ytr g c b t) 0).1 = (1, fun _ => -1) := ytr_e t h
  unfold yCT
  rw [e0]
  refine ⟨⟨e1, fun j hj => ?_, fun q q1 q2 => ?_⟩, fun q q1 q2 => ?_, fun q q2 => ?_⟩
  · have hj' : j < 10 * 1 := hj
    exact e3 j (by omega)
  · have q2' : q < 1 := q2
    omega
  · have q2' : q < 1 := q2
    omega
  · have q2' : q < 1 := q2
    have s1 : yEn g c b t q = 0 := yS1_0 t (fun t1 a1 => by
      show (if (t1 : Int) = b then (0 : Int) else if ypt g c b t1 (c t1) = q then 1 else 0) = 0
      rw [if_pos (h t1 a1)])
    rw [show q = 0 by omega] at s1 ⊢
    omega
end
/-- the tree after t TRACES -/
def yCG (g : Nat → Nat → Nat) (c : Nat → Nat) (v : Nat → Nat → Int) (b : Int) (t : Nat) (px : Int) (pa le go en lo hi lg : Nat → Int32) : Prop := px = 0 ∧ (∀ t1 : Nat, t1 < t → (t1 : Int) = b) ∨ (∃ t1 : Nat, t1 < t ∧ ¬ (t1 : Int) = b) ∧ yCT g c v b t 0 px pa le go en lo hi lg
/-- the PREFIXES of t TRACES' places -/
def yPL (g : Nat → Nat → Nat) (c : Nat → Nat) (b : Int) (t o : Nat) (pl : Nat → Int32) : Prop := ∀ t1 i1 : Nat, t1 < t → ¬ (t1 : Int) = b → i1 ≤ c t1 → (pl (o + 13 * t1 + i1)).toInt = (ypt g c b t1 i1 : Int)
section
variable {g : Nat → Nat → Nat} {c : Nat → Nat} {v : Nat → Nat → Int} {b : Int} {t i N T : Nat}
theorem ySF_o {at_ : Nat} {fr by_ px j x : Int32} {pa le go en lo hi lg : Nat → Int32} (ei : j.toNatClampNeg = at_) (e : x = lg j.toNatClampNeg) (hx : ¬ x.toInt = -1) : ySF at_ fr by_ px px x pa le go en lo hi lg pa le go en lo hi lg :=
  Or.inl ⟨by rw [← ei, ← e]; exact hx, by rw [e, ei], rfl, ⟨rfl, rfl, rfl, rfl, rfl, rfl⟩, rfl⟩
theorem ySF_n {at_ : Nat} {fr by_ px px1 j x : Int32} {pa le go en lo hi lg pa1 le1 go1 en1 lo1 hi1 lg1 lg2 : Nat → Int32} (ei : j.toNatClampNeg = at_) (e : x = lg j.toNatClampNeg) (hx : x.toInt = -1) (h1 : px1.toInt = px.toInt + 1) (k1 : pa1 = upd pa px.toNatClampNeg fr) (k2 : le1 = upd le px.toNatClampNeg by_) (k3 : go1 = upd go px.toNatClampNeg 0) (k4 : en1 = upd en px.toNatClampNeg 0) (k5 : lo1 = upd lo px.toNatClampNeg 99) (k6 : hi1 = upd hi px.toNatClampNeg 0)
    (k7 : ∀ q : Nat, lg1 q = if 10 * px.toInt ≤ (q : Int) ∧ (q : Int) < 10 * px.toInt + 10 then -1 else lg q) (k8 : lg2 = upd lg1 j.toNatClampNeg px) : ySF at_ fr by_ px px1 px pa le go en lo hi lg pa1 le1 go1 en1 lo1 hi1 lg2 :=
  Or.inr ⟨by rw [← ei, ← e]; exact hx, rfl, h1, ⟨k1, k2, k3, k4, k5, k6⟩, fun q => by rw [k8, z_at, ei, k7]⟩
/-- within a TRACE -/
def yFI (g : Nat → Nat → Nat) (c : Nat → Nat) (v : Nat → Nat → Int) (b : Int) (t i : Nat) (px : Int) (pa le go en lo hi lg pl : Nat → Int32) (p : Int) : Prop := yCT g c v b t i px pa le go en lo hi lg ∧ yPL g c b t 0 pl ∧ (∀ i1 : Nat, i1 ≤ i → (pl (0 + 13 * t + i1)).toInt = (ypt g c b t i1 : Int)) ∧ p = (ypt g c b t i : Int)
theorem yPL_u {o k : Nat} {x : Int32} {pl pl1 : Nat → Int32} (h : yPL g c b t o pl) (hc : ∀ t : Nat, c t ≤ 12) (hk : o + 13 * t ≤ k) (e : pl1 = upd pl k x) : yPL g c b t o pl1 := fun t1 i1 h1 h2 h3 => by
  have := hc t1
  rw [e, z_at, if_neg (by omega)]
  exact h t1 i1 h1 h2 h3
theorem yFI_s {fr by_ px px1 r gv gv1 lv lv1 hv hv1 val : Int32} {at_ k : Nat} {pa le go en lo hi lg pl pa1 le1 go1 en1 lo1 hi1 lg1 go2 lo2 hi2 pl1 : Nat → Int32} (h : yFI g c v b t i px.toInt pa le go en lo hi lg pl fr.toInt) (hg : yLt g c T) (hc : ∀ t : Nat, c t ≤ 12) (ht : t < T ∧ T ≤ 20) (hi9 : i < c t) (hby : by_.toInt = (g t i : Int)) (hat : (at_ : Int) = 10 * fr.toInt + by_.toInt)
    (hs : ySF at_ fr by_ px px1 r pa le go en lo hi lg pa1 le1 go1 en1 lo1 hi1 lg1) (hpl : pl1 = upd pl k r) (hk : k = 13 * t + i + 1) (hv9 : val.toInt = v t i)
    (e1 : gv = go1 r.toNatClampNeg) (e2 : gv1 = gv + 1) (e3 : go2 = upd go1 r.toNatClampNeg gv1) (e4 : lv = lo1 r.toNatClampNeg) (e5 : lv1 = if val < lv then val else lv) (e6 : lo2 = upd lo1 r.toNatClampNeg lv1) (e7 : hv = hi1 r.toNatClampNeg) (e8 : hv1 = if hv < val then val else hv) (e9 : hi2 = upd hi1 r.toNatClampNeg hv1) :
    yFI g c v b t (i + 1) px1.toInt pa1 le1 go2 en1 lo2 hi2 lg1 pl1 r.toInt := by
  obtain ⟨h1, h2, h3, h4⟩ := h
  obtain ⟨a1, a2⟩ := yCT_s h1 hg hc ht hi9 h4 hby hat hs hv9 e1 e2 e3 e4 e5 e6 e7 e8 e9
  refine ⟨a1, yPL_u h2 hc (by omega) hpl, fun i1 hi1 => ?_, a2⟩
  rw [hpl, z_at]
  by_cases c9 : i1 = i + 1
  · rw [if_pos (by omega), c9]
    exact a2
  · rw [if_neg (by omega)]
    exact h3 i1 (by omega)
theorem yCT_g {px : Int} {pa le go en lo hi lg go2 : Nat → Int32} {x : Int32} (h : yCT g c v b t i px pa le go en lo hi lg) (e : go2 = upd go 0 x) : yCT g c v b t i px pa le go2 en lo hi lg :=
  ⟨h.1, fun q q1 q2 => by rw [e, z_at, if_neg (by omega)]; exact h.2.1 q q1 q2, h.2.2⟩
/-- a TRACE begins: there are PREFIXES -/
theorem yFI_1 {k j : Nat} {x y : Int32} {px : Int} {pa le go en lo hi lg go2 pl pl1 : Nat → Int32} (h : yCG g c v b t px pa le go en lo hi lg) (hp : yPL g c b t 0 pl) (hpx : ¬ px = 0) (hc : ∀ t : Nat, c t ≤ 12) (e : go2 = upd go j x) (hj : j = 0) (e2 : pl1 = upd pl k y) (hk : k = 13 * t) (hy : y.toInt = 0) : yFI g c v b t 0 px pa le go2 en lo hi lg pl1 0 := by
  rcases h with ⟨h1, _⟩ | ⟨_, h1⟩
  · exact absurd h1 hpx
  · subst hj
    refine ⟨yCT_g h1 e, yPL_u hp hc (by omega) e2, fun i1 hi1 => ?_, rfl⟩
    rw [e2, z_at, if_pos (by omega), hy, show i1 = 0 by omega]
    rfl
/-- the first TRACE begins -/
theorem yFI_0 {k j : Nat} {px : Int} {x y px1 : Int32} {pa0 le0 go0 en0 lo0 hi0 lg0 pa le go en lo hi lg go2 pl pl1 : Nat → Int32} (h : yCG g c v b t px pa0 le0 go0 en0 lo0 hi0 lg0) (hpx : px = 0) (hg : yLt g c T) (ht : t < T) (hp : yPL g c b t 0 pl) (hc : ∀ t : Nat, c t ≤ 12) (e0 : px1.toInt = 1) (e1 : (en 0).toInt = 0) (e3 : ∀ q : Nat, q < 10 → (lg q).toInt = -1) (e : go2 = upd go j x) (hj : j = 0) (e2 : pl1 = upd pl k y) (hk : k = 13 * t) (hy : y.toInt = 0) : yFI g c v b t 0 px1.toInt pa le go2 en lo hi lg pl1 0 := by
  have h9 : ∀ t1 : Nat, t1 < t → (t1 : Int) = b := by
    rcases h with ⟨_, h1⟩ | ⟨_, h1, _⟩
    · exact h1
    · exfalso
      have a1 : px = ((ytr g c b t).1 : Int) := h1.1
      have a2 := (ytr_ok (b := b) hg t (by omega)).1
      omega
  subst hj
  refine ⟨yCT_g (yCT_0 h9 e0 e1 e3) e, yPL_u hp hc (by omega) e2, fun i1 hi1 => ?_, rfl⟩
  rw [e2, z_at, if_pos (by omega), hy, show i1 = 0 by omega]
  rfl
end
section
variable {g : Nat → Nat → Nat} {c : Nat → Nat} {v : Nat → Nat → Int} {b : Int} {t i N T : Nat}
theorem yFI_e {px r ev ev1 : Int32} {pa le go en lo hi lg en2 pl : Nat → Int32} (h : yFI g c v b t i px.toInt pa le go en lo hi lg pl r.toInt) (hi9 : i = c t) (hb : ¬ (t : Int) = b) (ht : t < 20) (e1 : ev = en r.toNatClampNeg) (e2 : ev1 = ev + 1) (e3 : en2 = upd en r.toNatClampNeg ev1) : yCG g c v b (t + 1) px.toInt pa le go en2 lo hi lg ∧ yPL g c b (t + 1) 0 pl := by
  obtain ⟨h1, h2, h3, h4⟩ := h
  refine ⟨Or.inr ⟨⟨t, by omega, hb⟩, yCT_e h1 hi9 hb ht h4 e1 e2 e3⟩, fun t1 i1 a1 a2 a3 => ?_⟩
  by_cases c9 : t1 = t
  · subst c9
    exact h3 i1 (by omega)
  · exact h2 t1 i1 (by omega) a2 a3
theorem yCG_0 {px : Int} {pa le go en lo hi lg pl : Nat → Int32} (h : px = 0) : yCG g c v b 0 px pa le go en lo hi lg ∧ yPL g c b 0 0 pl := ⟨Or.inl ⟨h, fun t1 h1 => by omega⟩, fun t1 i1 h1 => by omega⟩
theorem yCG_b {px : Int} {pa le go en lo hi lg pl : Nat → Int32} (h : yCG g c v b t px pa le go en lo hi lg ∧ yPL g c b t 0 pl) (hb : (t : Int) = b) : yCG g c v b (t + 1) px pa le go en lo hi lg ∧ yPL g c b (t + 1) 0 pl := by
  refine ⟨?_, fun t1 i1 a1 a2 a3 => ?_⟩
  · rcases h.1 with ⟨h1, h2⟩ | ⟨⟨t1, h1, h2⟩, h3⟩
    · exact Or.inl ⟨h1, fun t1 ht => by
        by_cases c9 : t1 = t
        · rw [c9]
          exact hb
        · exact h2 t1 (by omega)⟩
    · exact Or.inr ⟨⟨t1, by omega, h2⟩, yCT_b h3 hb⟩
  · by_cases c9 : t1 = t
    · rw [c9] at a2
      exact absurd hb a2
    · exact h.2 t1 i1 (by omega) a2 a3
end
