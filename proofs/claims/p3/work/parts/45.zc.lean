/-! rows in order, each once -/
def ySl (f : Nat → Int) (n : Nat) (P : Int → Prop) : Prop := (∀ i j : Nat, i < j → j < n → f i < f j) ∧ ∀ z : Int, P z ↔ ∃ i : Nat, i < n ∧ f i = z
section
variable {f f' : Nat → Int} {n n' a : Nat} {P P' : Int → Prop} {z : Int}
theorem ySl_h {i : Nat} (h : ySl f n P) (k : ySl f' n' P') (e : ∀ z : Int, P z ↔ P' z) (q : ∀ j : Nat, j < i → f j = f' j) (hi : i < n) : i < n' ∧ f' i ≤ f i := by
  obtain ⟨m, m1, m2⟩ := (k.2 (f i)).mp ((e _).mp ((h.2 _).mpr ⟨i, hi, rfl⟩))
  by_cases c9 : m < i
  · have h1 := h.1 m i c9 hi
    rw [q m c9] at h1
    omega
  · by_cases c8 : m = i
    · rw [c8] at m1 m2
      exact ⟨m1, by omega⟩
    · have h1 := k.1 i m (by omega) m1
      exact ⟨by omega, by omega⟩
theorem ySl_u (h : ySl f n P) (k : ySl f' n' P') (e : ∀ z : Int, P z ↔ P' z) : n = n' ∧ ∀ i : Nat, i < n → f i = f' i := by
  have key : ∀ m i : Nat, i < m → (i < n → i < n' ∧ f i = f' i) ∧ (i < n' → i < n) := by
    intro m
    induction m with
    | zero => intro i hi; omega
    | succ m ih =>
      intro i hi
      by_cases c9 : i < m
      · exact ih i c9
      · refine ⟨fun h1 => ?_, fun h1 => ?_⟩
        · have q : ∀ j : Nat, j < i → f j = f' j := fun j hj => ((ih j (by omega)).1 (by omega)).2
          have a1 := ySl_h h k e q h1
          have a2 := ySl_h k h (fun z => (e z).symm) (fun j hj => (q j hj).symm) a1.1
          exact ⟨a1.1, by omega⟩
        · exact (ySl_h k h (fun z => (e z).symm) (fun j hj => (((ih j (by omega)).1 ((ih j (by omega)).2 (by omega))).2).symm) h1).1
  refine ⟨?_, fun i hi => ((key (i + 1) i (by omega)).1 hi).2⟩
  rcases Nat.lt_trichotomy n n' with c9 | c9 | c9
  · have := (key (n + 1) n (by omega)).2 c9
    omega
  · exact c9
  · have := ((key (n' + 1) n' (by omega)).1 c9).1
    omega
theorem ySl_cg (h : ySl f n P) (e : ∀ i : Nat, i < n → f' i = f i) (p : ∀ z : Int, P' z ↔ P z) : ySl f' n P' := by
  refine ⟨fun i j h1 h2 => by rw [e i (by omega), e j h2]; exact h.1 i j h1 h2, fun z => ?_⟩
  rw [p z, h.2 z]
  constructor
  · rintro ⟨i, h1, h2⟩
    exact ⟨i, h1, by rw [e i h1]; exact h2⟩
  · rintro ⟨i, h1, h2⟩
    exact ⟨i, h1, by rw [← e i h1]; exact h2⟩
theorem ySl_0 (h : ∀ z : Int, ¬ P z) : ySl f 0 P := ⟨fun i j _ h2 => by omega, fun z => ⟨fun q => (h z q).elim, fun ⟨i, h1, _⟩ => by omega⟩⟩
theorem ySl_in (h : ySl f n P) (ha : a ≤ n) (h1 : a = 0 ∨ f (a - 1) < z) (h2 : ∀ j : Nat, a ≤ j → j < n → z < f j) (e : ∀ j : Nat, j ≤ n → f' j = if j < a then f j else if j = a then z else f (j - 1)) : ySl f' (n + 1) (fun y => P y ∨ y = z) := by
  have lo : ∀ j : Nat, j < a → f j < z := fun j hj => by
    rcases h1 with h1 | h1
    · omega
    · by_cases c9 : j = a - 1
      · rw [c9]
        exact h1
      · have := h.1 j (a - 1) (by omega) (by omega)
        omega
  have e1 : ∀ j : Nat, j < a → f' j = f j := fun j hj => by rw [e j (by omega), if_pos hj]
  have e2 : f' a = z := by rw [e a ha, if_neg (by omega), if_pos rfl]
  have e3 : ∀ j : Nat, a < j → j ≤ n → f' j = f (j - 1) := fun j hj hj2 => by rw [e j hj2, if_neg (by omega), if_neg (by omega)]
  refine ⟨fun i j hij hj => ?_, fun y => ⟨fun q => ?_, fun ⟨i, q1, q2⟩ => ?_⟩⟩
  · rcases Nat.lt_trichotomy j a with c9 | c9 | c9
    · rw [e1 i (by omega), e1 j c9]
      exact h.1 i j hij (by omega)
    · rw [e1 i (by omega), c9, e2]
      exact lo i (by omega)
    · rw [e3 j c9 (by omega)]
      rcases Nat.lt_trichotomy i a with d9 | d9 | d9
      · rw [e1 i d9]
        by_cases d8 : a ≤ j - 1
        · have := lo i d9
          have := h2 (j - 1) d8 (by omega)
          omega
        · omega
      · rw [d9, e2]
        exact h2 (j - 1) (by omega) (by omega)
      · rw [e3 i d9 (by omega)]
        exact h.1 (i - 1) (j - 1) (by omega) (by omega)
  · rcases q with q | q
    · obtain ⟨i, q1, q2⟩ := (h.2 y).mp q
      by_cases c9 : i < a
      · exact ⟨i, by omega, by rw [e1 i c9]; exact q2⟩
      · exact ⟨i + 1, by omega, by rw [e3 (i + 1) (by omega) (by omega), show i + 1 - 1 = i by omega]; exact q2⟩
    · exact ⟨a, by omega, by rw [e2, q]⟩
  · rcases Nat.lt_trichotomy i a with c9 | c9 | c9
    · exact Or.inl ((h.2 y).mpr ⟨i, by omega, by rw [← e1 i c9]; exact q2⟩)
    · rw [c9, e2] at q2
      exact Or.inr q2.symm
    · exact Or.inl ((h.2 y).mpr ⟨i - 1, by omega, by rw [← e3 i c9 (by omega)]; exact q2⟩)
end
/-- a row comes among those of a PREFIX: from s on there are n -/
def yIn (s n cp : Nat) (x : Int32) (ro co ro1 co1 : Nat → Int32) : Prop := ∃ a : Nat, a ≤ n ∧ (∀ j : Nat, a ≤ j → j < n → x.toInt < (ro (s + j)).toInt) ∧ ((1 ≤ a ∧ (ro (s + (a - 1))).toInt = x.toInt ∧ ro1 = ro ∧ co1 = co) ∨ ((a = 0 ∨ (ro (s + (a - 1))).toInt < x.toInt) ∧ (∀ q : Nat, ro1 q = if q < s + a ∨ s + n < q then ro q else if q = s + a then x else ro (q - 1)) ∧ ∃ u w : Int32, u = co cp ∧ w = u + 1 ∧ co1 = upd co cp w))
theorem yIn_sl {s n cp : Nat} {x : Int32} {ro co ro1 co1 : Nat → Int32} {P : Int → Prop} (h : yIn s n cp x ro co ro1 co1) (hs : ySl (fun j => (ro (s + j)).toInt) n P) (hn : (co cp).toInt = (n : Int)) (hb : n ≤ 19) : ySl (fun j => (ro1 (s + j)).toInt) (co1 cp).toInt.toNat (fun y => P y ∨ y = x.toInt) ∧ (∀ q : Nat, q < s ∨ s + 20 ≤ q → ro1 q = ro q) ∧ (∀ q : Nat, q ≠ cp → co1 q = co q) ∧ 0 ≤ (co1 cp).toInt ∧ (co1 cp).toInt ≤ (n : Int) + 1 := by
  obtain ⟨a, h1, h2, h3⟩ := h
  rcases h3 with ⟨k1, k2, k3, k4⟩ | ⟨k1, k2, u, w, k3, k4, k5⟩
  · subst k3 k4
    refine ⟨?_, fun _ _ => rfl, fun _ _ => rfl, by omega, by omega⟩
    rw [show (co1 cp).toInt.toNat = n by omega]
    refine ySl_cg hs (fun _ _ => rfl) (fun y => ⟨fun q => ?_, Or.inl⟩)
    rcases q with q | q
    · exact q
    · exact (hs.2 y).mpr ⟨a - 1, by omega, by rw [q]; exact k2⟩
  · have w1 := zI1_add k4 (by rw [k3]; omega)
    have hco : (co1 cp).toInt = (n : Int) + 1 := by rw [k5, z_at, if_pos rfl, w1, k3, hn]
    refine ⟨?_, fun q hq => ?_, fun q hq => by rw [k5, z_at, if_neg hq], by omega, by omega⟩
    · rw [show (co1 cp).toInt.toNat = n + 1 by omega]
      refine ySl_in hs h1 k1 h2 (fun j hj => ?_)
      show (ro1 (s + j)).toInt = if j < a then (ro (s + j)).toInt else if j = a then x.toInt else (ro (s + (j - 1))).toInt
      rw [k2]
      by_cases c9 : j < a
      · rw [if_pos (Or.inl (by omega)), if_pos c9]
      · rw [if_neg (by omega), if_neg c9]
        by_cases c8 : j = a
        · rw [if_pos (by omega), if_pos c8]
        · rw [if_neg (by omega), if_neg c8, show s + j - 1 = s + (j - 1) by omega]
    · rw [k2, if_pos (by omega)]
/-! what follows, as a number: the class's, the reference's -/
def yd1 (g : Nat → Nat → Nat) (c : Nat → Nat) (t j : Nat) : Nat := if j < c t then g t j + 1 else 0
def yd2 (g : Nat → Nat → Nat) (c : Nat → Nat) (t j : Nat) : Nat := if j < c t then g t j + 1 else if j = c t then 11 else 0
def yk1 (g : Nat → Nat → Nat) (c : Nat → Nat) (t i : Nat) : Nat → Nat
  | 0 => 0
  | k + 1 => 11 * yk1 g c t i k + yd1 g c t (i + k)
def yk2 (g : Nat → Nat → Nat) (c : Nat → Nat) (t i : Nat) : Nat → Nat
  | 0 => 0
  | k + 1 => 12 * yk2 g c t i k + yd2 g c t (i + k)
section
variable {g : Nat → Nat → Nat} {c : Nat → Nat} {t i t' i' T : Nat} {b : Int}
theorem yd1_b (hg : yLt g c T) (ht : t < T) (j : Nat) : yd1 g c t j ≤ 10 := by
  unfold yd1
  split
  · rename_i c9
    have := hg t j ht c9
    omega
  · omega
theorem yd2_b (hg : yLt g c T) (ht : t < T) (j : Nat) : yd2 g c t j ≤ 11 := by
  unfold yd2
  split
  · rename_i c9
    have := hg t j ht c9
    omega
  · split <;> omega
theorem yk1_e (hg : yLt g c T) (ht : t < T) (ht' : t' < T) (k : Nat) : yk1 g c t i k = yk1 g c t' i' k ↔ ∀ j : Nat, j < k → yd1 g c t (i + j) = yd1 g c t' (i' + j) := by
  induction k with
  | zero => exact ⟨fun _ j hj => by omega, fun _ => rfl⟩
  | succ k ih =>
    have b1 := yd1_b hg ht (i + k)
    have b2 := yd1_b hg ht' (i' + k)
    show 11 * yk1 g c t i k + yd1 g c t (i + k) = 11 * yk1 g c t' i' k + yd1 g c t' (i' + k) ↔ _
    constructor
    · intro h j hj
      by_cases c9 : j = k
      · rw [c9]
        omega
      · exact ih.mp (by omega) j (by omega)
    · intro h
      have a1 := ih.mpr (fun j hj => h j (by omega))
      have a2 := h k (by omega)
      omega
theorem yk2_e (hg : yLt g c T) (ht : t < T) (ht' : t' < T) (k : Nat) : yk2 g c t i k = yk2 g c t' i' k ↔ ∀ j : Nat, j < k → yd2 g c t (i + j) = yd2 g c t' (i' + j) := by
  induction k with
  | zero => exact ⟨fun _ j hj => by omega, fun _ => rfl⟩
  | succ k ih =>
    have b1 := yd2_b hg ht (i + k)
    have b2 := yd2_b hg ht' (i' + k)
    show 12 * yk2 g c t i k + yd2 g c t (i + k) = 12 * yk2 g c t' i' k + yd2 g c t' (i' + k) ↔ _
    constructor
    · intro h j hj
      by_cases c9 : j = k
      · rw [c9]
        omega
      · exact ih.mp (by omega) j (by omega)
    · intro h
      have a1 := ih.mpr (fun j hj => h j (by omega))
      have a2 := h k (by omega)
      omega
theorem yd_12 (hi : i ≤ c t) (hi' : i' ≤ c t') {k : Nat} (h : ∀ j : Nat, j < k → yd1 g c t (i + j) = yd1 g c t' (i' + j)) (j : Nat) (hj : j < k) : yd2 g c t (i + j) = yd2 g c t' (i' + j) := by
  have lt : ∀ j : Nat, j < k → (i + j < c t ↔ i' + j < c t') := fun j hj => by
    have h1 := h j hj
    unfold yd1 at h1
    by_cases c9 : i + j < c t
    · by_cases c8 : i' + j < c t'
      · exact ⟨fun _ => c8, fun _ => c9⟩
      · rw [if_pos c9, if_neg c8] at h1
        omega
    · by_cases c8 : i' + j < c t'
      · rw [if_neg c9, if_pos c8] at h1
        omega
      · exact ⟨fun q => absurd q c9, fun q => absurd q c8⟩
  have h1 := h j hj
  have l1 := lt j hj
  unfold yd1 at h1
  unfold yd2
  by_cases c9 : i + j < c t
  · rw [if_pos c9, if_pos (l1.mp c9)] at h1 ⊢
    exact h1
  · rw [if_neg c9, if_neg (fun q => c9 (l1.mpr q))]
    have e1 : i + j = c t ↔ i' + j = c t' := by
      by_cases c8 : j = 0
      · omega
      · have l2 := lt (j - 1) (by omega)
        omega
    by_cases c8 : i + j = c t
    · rw [if_pos c8, if_pos (e1.mp c8)]
    · rw [if_neg c8, if_neg (fun q => c8 (e1.mpr q))]
theorem yd_21 (hg : yLt g c T) (ht : t < T) (ht' : t' < T) {j j' : Nat} (h : yd2 g c t j = yd2 g c t' j') : yd1 g c t j = yd1 g c t' j' := by
  unfold yd2 at h
  unfold yd1
  by_cases c9 : j < c t
  · have g1 := hg t j ht c9
    by_cases c8 : j' < c t'
    · rw [if_pos c9, if_pos c8] at h ⊢
      exact h
    · rw [if_pos c9, if_neg c8] at h
      split at h <;> omega
  · by_cases c8 : j' < c t'
    · have g1 := hg t' j' ht' c8
      rw [if_neg c9, if_pos c8] at h
      split at h <;> omega
    · rw [if_neg c9, if_neg c8]
/-- the same rows by either number -/
theorem yk_12 (hg : yLt g c T) (ht : t < T) (ht' : t' < T) (hi : i ≤ c t) (hi' : i' ≤ c t') (k : Nat) : yk1 g c t i k = yk1 g c t' i' k ↔ yk2 g c t i k = yk2 g c t' i' k := by
  rw [yk1_e hg ht ht', yk2_e hg ht ht']
  exact ⟨fun h => yd_12 hi hi' h, fun h j hj => yd_21 hg ht ht' (h j hj)⟩
end
/-! rows that follow PREFIXES -/
/-- the places that were gone: those of t TRACES, i of the next -/
def yPf (c : Nat → Nat) (b : Int) (t i t1 i1 : Nat) : Prop := t1 < t ∧ ¬ (t1 : Int) = b ∧ i1 ≤ c t1 ∨ t1 = t ∧ i1 < i
/-- the rows of a PREFIX -/
def yM (pt : Nat → Nat → Nat) (key : Nat → Nat → Int) (V : Nat → Nat → Prop) (q : Nat) (z : Int) : Prop := ∃ t i : Nat, V t i ∧ pt t i = q ∧ key t i = z
def yFo (pt : Nat → Nat → Nat) (key : Nat → Nat → Int) (c : Nat → Nat) (b : Int) (t i N o : Nat) (ro co : Nat → Int32) : Prop := ∀ q : Nat, q < N → (0 ≤ (co (o + q)).toInt ∧ ((co (o + q)).toInt ≤ (t : Int) ∨ (co (o + q)).toInt ≤ (t : Int) + 1 ∧ ∃ i1 : Nat, i1 < i ∧ pt t i1 = q)) ∧ ySl (fun j => (ro (20 * (o + q) + j)).toInt) (co (o + q)).toInt.toNat (yM pt key (yPf c b t i) q)
section
variable {pt : Nat → Nat → Nat} {key : Nat → Nat → Int} {c : Nat → Nat} {b : Int} {t i N o p : Nat} {ro co ro1 co1 : Nat → Int32} {x : Int32}
theorem yFo_0 (h : ∀ q : Nat, q < N → (co (o + q)).toInt = 0) : yFo pt key c b 0 0 N o ro co := fun q hq => by
  have h1 := h q hq
  rw [h1]
  exact ⟨⟨Int.le_refl _, Or.inl (Int.le_refl _)⟩, ySl_0 (fun z ⟨t, i, h2, _⟩ => by
    rcases h2 with ⟨h3, _⟩ | ⟨_, h3⟩ <;> omega)⟩
theorem yFo_s (h : yFo pt key c b t i N o ro co) (hp : p = pt t i) (hN : p < N) (ht : t < 20) (hst : ∀ i1 : Nat, i1 < i → pt t i1 ≠ pt t i) (hx : x.toInt = key t i) {n : Nat} (hn : (co (o + p)).toInt = (n : Int)) (hin : yIn (20 * (o + p)) n (o + p) x ro co ro1 co1) : yFo pt key c b t (i + 1) N o ro1 co1 := by
  subst hp
  have h0 := h (pt t i) hN
  have hb : n ≤ t := by
    rcases h0.1.2 with h1 | ⟨_, i1, h2, h3⟩
    · omega
    · exact absurd h3 (hst i1 h2)
  have hs := h0.2
  rw [show (co (o + pt t i)).toInt.toNat = n by omega] at hs
  obtain ⟨k1, k2, k3, k4, k5⟩ := yIn_sl hin hs hn (by omega)
  intro q hq
  by_cases c9 : q = pt t i
  · subst c9
    refine ⟨⟨k4, Or.inr ⟨by omega, i, by omega, rfl⟩⟩, ySl_cg k1 (fun _ _ => rfl) (fun z => ⟨?_, ?_⟩)⟩
    · rintro ⟨t1, i1, a1, a2, a3⟩
      rcases a1 with a1 | ⟨a1, a4⟩
      · exact Or.inl ⟨t1, i1, Or.inl a1, a2, a3⟩
      · by_cases d9 : i1 = i
        · exact Or.inr (by rw [hx, ← a3, a1, d9])
        · exact Or.inl ⟨t1, i1, Or.inr ⟨a1, by omega⟩, a2, a3⟩
    · rintro (⟨t1, i1, a1, a2, a3⟩ | a1)
      · refine ⟨t1, i1, ?_, a2, a3⟩
        rcases a1 with a1 | ⟨a1, a4⟩
        · exact Or.inl a1
        · exact Or.inr ⟨a1, by omega⟩
      · exact ⟨t, i, Or.inr ⟨rfl, by omega⟩, rfl, by rw [a1, hx]⟩
  · have h1 := h q hq
    have e1 : co1 (o + q) = co (o + q) := k3 _ (by omega)
    have e2 : ∀ j : Nat, j < (co (o + q)).toInt.toNat → ro1 (20 * (o + q) + j) = ro (20 * (o + q) + j) := fun j hj => by
      have h3 : (co (o + q)).toInt ≤ (t : Int) + 1 := by
        rcases h1.1.2 with h3 | h3
        · omega
        · exact h3.1
      exact k2 _ (by omega)
    refine ⟨⟨by rw [e1]; exact h1.1.1, ?_⟩, ?_⟩
    · rw [e1]
      rcases h1.1.2 with h3 | ⟨h3, i1, h4, h5⟩
      · exact Or.inl h3
      · exact Or.inr ⟨h3, i1, by omega, h5⟩
    · rw [e1]
      refine ySl_cg h1.2 (fun j hj => by
        show (ro1 (20 * (o + q) + j)).toInt = (ro (20 * (o + q) + j)).toInt
        rw [e2 j hj]) (fun z => ⟨?_, ?_⟩)
      · rintro ⟨t1, i1, a1, a2, a3⟩
        rcases a1 with a1 | ⟨a1, a4⟩
        · exact ⟨t1, i1, Or.inl a1, a2, a3⟩
        · by_cases d9 : i1 = i
          · rw [a1, d9] at a2
            exact absurd a2.symm c9
          · exact ⟨t1, i1, Or.inr ⟨a1, by omega⟩, a2, a3⟩
      · rintro ⟨t1, i1, a1, a2, a3⟩
        refine ⟨t1, i1, ?_, a2, a3⟩
        rcases a1 with a1 | ⟨a1, a4⟩
        · exact Or.inl a1
        · exact Or.inr ⟨a1, by omega⟩
theorem yFo_t (h : yFo pt key c b t i N o ro co) (hi : i = c t + 1) (hb : ¬ (t : Int) = b) : yFo pt key c b (t + 1) 0 N o ro co := fun q hq => by
  obtain ⟨⟨h1, h2⟩, h3⟩ := h q hq
  refine ⟨⟨h1, Or.inl ?_⟩, ySl_cg h3 (fun _ _ => rfl) (fun z => ⟨?_, ?_⟩)⟩
  · rcases h2 with h2 | h2 <;> omega
  · rintro ⟨t1, i1, a1, a2, a3⟩
    refine ⟨t1, i1, ?_, a2, a3⟩
    rcases a1 with ⟨a1, a4, a5⟩ | ⟨_, a4⟩
    · by_cases d9 : t1 = t
      · exact Or.inr ⟨d9, by rw [d9] at a5; omega⟩
      · exact Or.inl ⟨by omega, a4, a5⟩
    · omega
  · rintro ⟨t1, i1, a1, a2, a3⟩
    refine ⟨t1, i1, ?_, a2, a3⟩
    rcases a1 with ⟨a1, a4, a5⟩ | ⟨a1, a4⟩
    · exact Or.inl ⟨by omega, a4, a5⟩
    · rw [a1]
      exact Or.inl ⟨by omega, hb, by omega⟩
theorem yFo_b (h : yFo pt key c b t 0 N o ro co) (hb : (t : Int) = b) : yFo pt key c b (t + 1) 0 N o ro co := fun q hq => by
  obtain ⟨⟨h1, h2⟩, h3⟩ := h q hq
  refine ⟨⟨h1, Or.inl ?_⟩, ySl_cg h3 (fun _ _ => rfl) (fun z => ⟨?_, ?_⟩)⟩
  · rcases h2 with h2 | h2 <;> omega
  · rintro ⟨t1, i1, a1, a2, a3⟩
    refine ⟨t1, i1, ?_, a2, a3⟩
    rcases a1 with ⟨a1, a4, a5⟩ | ⟨_, a4⟩
    · by_cases d9 : t1 = t
      · rw [d9] at a4
        exact absurd hb a4
      · exact Or.inl ⟨by omega, a4, a5⟩
    · omega
  · rintro ⟨t1, i1, a1, a2, a3⟩
    refine ⟨t1, i1, ?_, a2, a3⟩
    rcases a1 with ⟨a1, a4, a5⟩ | ⟨_, a4⟩
    · exact Or.inl ⟨by omega, a4, a5⟩
    · omega
end
/-- the same rows, one by one -/
def yLk (s s' : Nat) (n n' : Int) (ro : Nat → Int32) : Prop := n = n' ∧ ∀ j : Nat, (j : Int) < n → ro (s + j) = ro (s' + j)
/-- two PREFIXES are alike -/
def yAl (pt : Nat → Nat → Nat) (key : Nat → Nat → Int) (V : Nat → Nat → Prop) (p q : Nat) : Prop := ∀ z : Int, yM pt key V p z ↔ yM pt key V q z
theorem yAl_r {pt : Nat → Nat → Nat} {key : Nat → Nat → Int} {V : Nat → Nat → Prop} (p : Nat) : yAl pt key V p p := fun _ => Iff.rfl
theorem yAl_s {pt : Nat → Nat → Nat} {key : Nat → Nat → Int} {V : Nat → Nat → Prop} {p q : Nat} (h : yAl pt key V p q) : yAl pt key V q p := fun z => (h z).symm
theorem yAl_t {pt : Nat → Nat → Nat} {key : Nat → Nat → Int} {V : Nat → Nat → Prop} {p q r : Nat} (h : yAl pt key V p q) (k : yAl pt key V q r) : yAl pt key V p r := fun z => (h z).trans (k z)
theorem yLk_al {pt : Nat → Nat → Nat} {key : Nat → Nat → Int} {c : Nat → Nat} {b : Int} {t i N o p q : Nat} {ro co : Nat → Int32} (h : yFo pt key c b t i N o ro co) (hp : p < N) (hq : q < N) : yLk (20 * (o + p)) (20 * (o + q)) (co (o + p)).toInt (co (o + q)).toInt ro ↔ yAl pt key (yPf c b t i) p q := by
  obtain ⟨⟨a1, _⟩, a2⟩ := h p hp
  obtain ⟨⟨b1, _⟩, b2⟩ := h q hq
  constructor
  · rintro ⟨h1, h2⟩ z
    rw [a2.2 z, b2.2 z]
    constructor
    · rintro ⟨j, k1, k2⟩
      exact ⟨j, by omega, by show (ro (20 * (o + q) + j)).toInt = z; rw [← h2 j (by omega)]; exact k2⟩
    · rintro ⟨j, k1, k2⟩
      exact ⟨j, by omega, by show (ro (20 * (o + p) + j)).toInt = z; rw [h2 j (by omega)]; exact k2⟩
  · intro h1
    obtain ⟨k1, k2⟩ := ySl_u a2 b2 h1
    exact ⟨by omega, fun j hj => by rw [fa_eq]; exact k2 j (by omega)⟩
/-- alike by either number -/
theorem yAl_12 {g : Nat → Nat → Nat} {c : Nat → Nat} {b : Int} {T k p q : Nat} {pt : Nat → Nat → Nat} (hg : yLt g c T) : yAl pt (fun t i => (yk1 g c t i k : Int)) (yPf c b T 0) p q ↔ yAl pt (fun t i => (yk2 g c t i k : Int)) (yPf c b T 0) p q := by
  have inn : ∀ t i : Nat, yPf c b T 0 t i → t < T ∧ i ≤ c t := fun t i h => by
    rcases h with ⟨h1, _, h2⟩ | ⟨_, h2⟩
    · exact ⟨h1, h2⟩
    · omega
  have half : ∀ (x y : Nat → Nat → Int), (∀ t i t' i' : Nat, yPf c b T 0 t i → yPf c b T 0 t' i' → (x t i = x t' i' → y t i = y t' i')) → ∀ p q : Nat, (∀ z : Int, yM pt x (yPf c b T 0) p z → yM pt x (yPf c b T 0) q z) → ∀ z : Int, yM pt y (yPf c b T 0) p z → yM pt y (yPf c b T 0) q z := by
    intro x y hxy p q h z
    rintro ⟨t, i, a1, a2, a3⟩
    obtain ⟨t', i', b1, b2, b3⟩ := h (x t i) ⟨t, i, a1, a2, rfl⟩
    exact ⟨t', i', b1, b2, by rw [← a3]; exact hxy t' i' t i b1 a1 b3⟩
  have x12 : ∀ t i t' i' : Nat, yPf c b T 0 t i → yPf c b T 0 t' i' → ((yk1 g c t i k : Int) = (yk1 g c t' i' k : Int) → (yk2 g c t i k : Int) = (yk2 g c t' i' k : Int)) := fun t i t' i' h1 h2 e => by
    have e9 := (yk_12 hg (inn _ _ h1).1 (inn _ _ h2).1 (inn _ _ h1).2 (inn _ _ h2).2 k).mp (by omega)
    omega
  have x21 : ∀ t i t' i' : Nat, yPf c b T 0 t i → yPf c b T 0 t' i' → ((yk2 g c t i k : Int) = (yk2 g c t' i' k : Int) → (yk1 g c t i k : Int) = (yk1 g c t' i' k : Int)) := fun t i t' i' h1 h2 e => by
    have e9 := (yk_12 hg (inn _ _ h1).1 (inn _ _ h2).1 (inn _ _ h1).2 (inn _ _ h2).2 k).mpr (by omega)
    omega
  constructor
  · intro h z
    exact ⟨half _ _ x12 p q (fun z => (h z).mp) z, half _ _ x12 q p (fun z => (h z).mpr) z⟩
  · intro h z
    exact ⟨half _ _ x21 p q (fun z => (h z).mp) z, half _ _ x21 q p (fun z => (h z).mpr) z⟩
/-! STATES -/
/-- the STATES of the first p PREFIXES: M of them, each PREFIX's, the least of each -/
def yST (al : Nat → Nat → Prop) (p M : Nat) (so le : Nat → Nat) : Prop := (∀ s : Nat, s < M → le s < p ∧ so (le s) = s) ∧ (∀ s s' : Nat, s < s' → s' < M → le s < le s') ∧ (∀ q : Nat, q < p → so q < M ∧ al q (le (so q)) ∧ le (so q) ≤ q) ∧ ∀ s s' : Nat, s < M → s' < M → al (le s) (le s') → s = s'
section
variable {al : Nat → Nat → Prop} {p M M' s : Nat} {so le so' le' : Nat → Nat}
theorem yST_0 : yST al 0 0 so le := ⟨fun s h => by omega, fun s s' _ h => by omega, fun q h => by omega, fun s s' h => by omega⟩
theorem yST_n (h : yST al p M so le) (hr : al p p) (hy : ∀ x y : Nat, al x y → al y x) (hn : ∀ s : Nat, s < M → ¬ al p (le s)) (e1 : ∀ q : Nat, q < p → so' q = so q) (e2 : so' p = M) (e3 : ∀ s : Nat, s < M → le' s = le s) (e4 : le' M = p) : yST al (p + 1) (M + 1) so' le' := by
  obtain ⟨h1, h2, h3, h4⟩ := h
  refine ⟨fun s hs => ?_, fun s s' hs hs' => ?_, fun q hq => ?_, fun s s' hs hs' ha => ?_⟩
  · by_cases c9 : s = M
    · rw [c9, e4]
      exact ⟨by omega, e2⟩
    · have a1 := h1 s (by omega)
      rw [e3 s (by omega), e1 _ a1.1]
      exact ⟨by omega, a1.2⟩
  · rw [e3 s (by omega)]
    by_cases c9 : s' = M
    · rw [c9, e4]
      exact (h1 s (by omega)).1
    · rw [e3 s' (by omega)]
      exact h2 s s' hs (by omega)
  · by_cases c9 : q = p
    · rw [c9, e2, e4]
      exact ⟨by omega, hr, Nat.le_refl _⟩
    · have a1 := h3 q (by omega)
      rw [e1 q (by omega), e3 _ a1.1]
      exact ⟨by omega, a1.2⟩
  · by_cases c9 : s = M
    · by_cases c8 : s' = M
      · rw [c9, c8]
      · rw [c9, e4, e3 s' (by omega)] at ha
        exact absurd ha (hn s' (by omega))
    · by_cases c8 : s' = M
      · rw [c8, e4, e3 s (by omega)] at ha
        exact absurd (hy _ _ ha) (hn s (by omega))
      · rw [e3 s (by omega), e3 s' (by omega)] at ha
        exact h4 s s' (by omega) (by omega) ha
theorem yST_o (h : yST al p M so le) (hs : s < M) (ha : al p (le s)) (e1 : ∀ q : Nat, q < p → so' q = so q) (e2 : so' p = s) (e3 : ∀ s : Nat, s < M → le' s = le s) : yST al (p + 1) M so' le' := by
  obtain ⟨h1, h2, h3, h4⟩ := h
  refine ⟨fun s hs => ?_, fun s s' hs hs' => ?_, fun q hq => ?_, fun s s' hs hs' ha => ?_⟩
  · have a1 := h1 s hs
    rw [e3 s hs, e1 _ a1.1]
    exact ⟨by omega, a1.2⟩
  · rw [e3 s (by omega), e3 s' hs']
    exact h2 s s' hs hs'
  · by_cases c9 : q = p
    · rw [c9, e2, e3 s hs]
      exact ⟨hs, ha, by have := (h1 s hs).1; omega⟩
    · have a1 := h3 q (by omega)
      rw [e1 q (by omega), e3 _ a1.1]
      exact a1
  · rw [e3 s hs, e3 s' hs'] at ha
    exact h4 s s' hs hs' ha
/-- what is least of those alike -/
theorem yST_l (h : yST al p M so le) (hy : ∀ x y : Nat, al x y → al y x) (ht : ∀ x y z : Nat, al x y → al y z → al x z) {q q' : Nat} (hq : q < p) (hq' : q' < p) (ha : al q q') : so q = so q' := by
  obtain ⟨h1, h2, h3, h4⟩ := h
  have a1 := h3 q hq
  have a2 := h3 q' hq'
  exact h4 _ _ a1.1 a2.1 (ht _ _ _ (hy _ _ a1.2.1) (ht _ _ _ ha a2.2.1))
theorem yST_f (h : yST al p M so le) (k : yST al p M' so' le') (hy : ∀ x y : Nat, al x y → al y x) (ht : ∀ x y z : Nat, al x y → al y z → al x z) {q : Nat} (hq : q < p) : le (so q) ≤ le' (so' q) := by
  have a1 := k.2.2.1 q hq
  have a2 := k.1 _ a1.1
  rw [yST_l h hy ht hq a2.1 a1.2.1]
  exact (h.2.2.1 _ a2.1).2.2
theorem yST_u (h : yST al p M so le) (k : yST al p M' so' le') (hy : ∀ x y : Nat, al x y → al y x) (ht : ∀ x y z : Nat, al x y → al y z → al x z) : M = M' ∧ (∀ s : Nat, s < M → le s = le' s) ∧ ∀ q : Nat, q < p → so q = so' q := by
  have e9 : ∀ q : Nat, q < p → le (so q) = le' (so' q) := fun q hq => Nat.le_antisymm (yST_f h k hy ht hq) (yST_f k h hy ht hq)
  have s1 : ySl (fun s => (le s : Int)) M (fun z => ∃ q : Nat, q < p ∧ le (so q) = q ∧ (q : Int) = z) := by
    refine ⟨fun i j h1 h2 => by have := h.2.1 i j h1 h2; show (le i : Int) < (le j : Int); omega, fun z => ⟨?_, ?_⟩⟩
    · rintro ⟨q, q1, q2, q3⟩
      exact ⟨so q, (h.2.2.1 q q1).1, by show (le (so q) : Int) = z; rw [q2]; exact q3⟩
    · rintro ⟨s, q1, q2⟩
      have a1 := h.1 s q1
      exact ⟨le s, a1.1, by rw [a1.2], q2⟩
  have s2 : ySl (fun s => (le' s : Int)) M' (fun z => ∃ q : Nat, q < p ∧ le (so q) = q ∧ (q : Int) = z) := by
    refine ⟨fun i j h1 h2 => by have := k.2.1 i j h1 h2; show (le' i : Int) < (le' j : Int); omega, fun z => ⟨?_, ?_⟩⟩
    · rintro ⟨q, q1, q2, q3⟩
      exact ⟨so' q, (k.2.2.1 q q1).1, by show (le' (so' q) : Int) = z; rw [← e9 q q1, q2]; exact q3⟩
    · rintro ⟨s, q1, q2⟩
      have a1 := k.1 s q1
      exact ⟨le' s, a1.1, by rw [e9 _ a1.1, a1.2], q2⟩
  obtain ⟨u1, u2⟩ := ySl_u s1 s2 (fun _ => Iff.rfl)
  have u3 : ∀ s : Nat, s < M → le s = le' s := fun s hs => by
    have := u2 s hs
    have : (le s : Int) = (le' s : Int) := this
    omega
  refine ⟨u1, u3, fun q hq => ?_⟩
  have a1 := h.2.2.1 q hq
  have a2 := k.2.2.1 q hq
  have b1 := (h.1 _ a1.1).2
  have b2 := (h.1 (so' q) (by omega)).2
  rw [← b1, e9 q hq, ← u3 (so' q) (by omega), b2]
end
/-! the class's Follows, step by step -/
section
variable {g : Nat → Nat → Nat} {c : Nat → Nat} {t i m k T N n s p cp : Nat} {b : Int} {x at_ st_ v j r u w : Int32} {ro co ro1 co1 ro2 pl : Nat → Int32}
theorem yk1_b (hg : yLt g c T) (ht : t < T) (k : Nat) (hk : k ≤ 2) : yk1 g c t i k ≤ 120 := by
  have b0 := yd1_b hg ht (i + 0)
  have b1 := yd1_b hg ht (i + 1)
  have h : k = 0 ∨ k = 1 ∨ k = 2 := by omega
  rcases h with rfl | rfl | rfl
  · show 0 ≤ 120
    omega
  · show 11 * 0 + yd1 g c t (i + 0) ≤ 120
    omega
  · show 11 * (11 * 0 + yd1 g c t (i + 0)) + yd1 g c t (i + 1) ≤ 120
    omega
theorem yd1_in (h : i < c t) : yd1 g c t i = g t i + 1 := if_pos h
theorem yd1_no (h : ¬ i < c t) : yd1 g c t i = 0 := if_neg h
theorem yk1_s {row m1 d r1 : Int32} (h : row.toInt = ((yk1 g c t i m : Nat) : Int)) (hg : yLt g c T) (ht : t < T) (hm : m ≤ 2) (e1 : m1 = row * 11) (e2 : r1 = m1 + d) (hd : d.toInt = ((yd1 g c t (i + m) : Nat) : Int)) (hk : k = m + 1) : r1.toInt = ((yk1 g c t i k : Nat) : Int) := by
  subst hk
  have b1 := yk1_b (i := i) hg ht m hm
  have b2 := yd1_b hg ht (i + m)
  have l1 : (11 : Int32).toInt = 11 := by decide +kernel
  have a1 : m1.toInt = row.toInt * 11 := by
    rw [e1, Int32.toInt_mul, l1]
    exact zi_bmod (by omega)
  have a2 : r1.toInt = m1.toInt + d.toInt := by
    rw [e2, Int32.toInt_add]
    exact zi_bmod (by omega)
  show r1.toInt = ((11 * yk1 g c t i m + yd1 g c t (i + m) : Nat) : Int)
  omega
theorem yIn_f (hs : st_.toInt = (s : Int)) (ha : st_.toInt < at_.toInt ∧ at_.toInt ≤ (s : Int) + (n : Int)) (hgt : ∀ q : Nat, at_.toInt ≤ (q : Int) → (q : Int) < (s : Int) + (n : Int) → x.toInt < (ro q).toInt) (ej : j.toInt = at_.toInt - 1) (e : v = ro j.toNatClampNeg) (hv : v.toInt = x.toInt) : yIn s n cp x ro co ro co := by
  have hj := zcl (i := j) (by omega)
  refine ⟨at_.toInt.toNat - s, by omega, fun q h1 h2 => hgt _ (by omega) (by omega), Or.inl ⟨by omega, ?_, rfl, rfl⟩⟩
  rw [show s + (at_.toInt.toNat - s - 1) = j.toNatClampNeg by omega, ← e]
  exact hv
theorem yIn_g (hs : st_.toInt = (s : Int)) (ha : st_.toInt ≤ at_.toInt ∧ at_.toInt ≤ (s : Int) + (n : Int)) (hgt : ∀ q : Nat, at_.toInt ≤ (q : Int) → (q : Int) < (s : Int) + (n : Int) → x.toInt < (ro q).toInt) (hlt : at_.toInt = st_.toInt ∨ st_.toInt < at_.toInt ∧ (ro (at_.toInt.toNat - 1)).toInt < x.toInt) (hq : ∀ q : Nat, ro2 q = if at_.toInt < (q : Int) ∧ (q : Int) ≤ (s : Int) + (n : Int) then ro (q - 1) else ro q) (h1 : ro1 = upd ro2 at_.toNatClampNeg x) (hu : u = co cp) (hw : w = u + 1) (h2 : co1 = upd co cp w) : yIn s n cp x ro co ro1 co1 := by
  have hj := zcl (i := at_) (by omega)
  refine ⟨at_.toInt.toNat - s, by omega, fun q h1 h2 => hgt _ (by omega) (by omega), Or.inr ⟨?_, fun q => ?_, u, w, hu, hw, h2⟩⟩
  · rcases hlt with h3 | ⟨h3, h4⟩
    · exact Or.inl (by omega)
    · refine Or.inr ?_
      rw [show s + (at_.toInt.toNat - s - 1) = at_.toInt.toNat - 1 by omega]
      exact h4
  · rw [h1, z_at, hq q, hj]
    by_cases c9 : q = at_.toInt.toNat
    · rw [if_pos c9, if_neg (by omega), if_pos (by omega)]
    · rw [if_neg c9]
      by_cases c8 : at_.toInt < (q : Int) ∧ (q : Int) ≤ (s : Int) + (n : Int)
      · rw [if_pos c8, if_neg (by omega), if_neg (by omega)]
      · rw [if_neg c8, if_pos (by omega)]
/-- how many PREFIXES there are -/
def yTP (g : Nat → Nat → Nat) (c : Nat → Nat) (b : Int) (T : Nat) (px : Int) : Prop := px = 0 ∧ (∀ t1 : Nat, t1 < T → (t1 : Int) = b) ∨ (∃ t1 : Nat, t1 < T ∧ ¬ (t1 : Int) = b) ∧ px = ((ytr g c b T).1 : Int)
theorem yCG_tp {vv : Nat → Nat → Int} {px : Int} {pa le go en lo hi lg : Nat → Int32} (h : yCG g c vv b T px pa le go en lo hi lg) : yTP g c b T px := by
  rcases h with h | ⟨h1, h2⟩
  · exact Or.inl h
  · exact Or.inr ⟨h1, h2.1.1⟩
theorem yTP_lt {px : Int} (h : yTP g c b T px) (hg : yLt g c T) (ht : t < T) (hb : ¬ (t : Int) = b) (hi : i ≤ c t) : ((ypt g c b t i : Nat) : Int) < px := by
  rcases h with ⟨_, h2⟩ | ⟨_, h2⟩
  · exact absurd (h2 t ht) hb
  · have := ypt_lt hg ht hb hi
    omega
theorem yGa_s {key : Nat → Nat → Int} {px : Int} (hT : yTP g c b T px) (hP : yPL g c b T 0 pl) (hg : yLt g c T) (ht : t < T ∧ T ≤ 20) (hb : ¬ (t : Int) = b) (hi : i ≤ c t) (h : yFo (ypt g c b) key c b t i N 0 ro co) (hN : px = (N : Int)) (hr : r = pl (13 * t + i)) (hx : x.toInt = key t i) (h0 : 0 ≤ (co r.toInt.toNat).toInt) (hin : yIn (20 * (0 + r.toInt.toNat)) (co (0 + r.toInt.toNat)).toInt.toNat (0 + r.toInt.toNat) x ro co ro1 co1) : yFo (ypt g c b) key c b t (i + 1) N 0 ro1 co1 := by
  have e1 : r.toInt = (ypt g c b t i : Int) := by
    rw [hr, show 13 * t + i = 0 + 13 * t + i by omega]
    exact hP t i ht.1 hb hi
  have e2 := yTP_lt hT hg ht.1 hb hi
  have e3 : 0 + r.toInt.toNat = 0 + ypt g c b t i := by omega
  rw [e3] at hin
  rw [show r.toInt.toNat = 0 + ypt g c b t i by omega] at h0
  refine yFo_s h rfl (by omega) (by omega) (fun i1 h1 => ?_) hx (n := (co (0 + ypt g c b t i)).toInt.toNat) (by omega) hin
  have a1 := ypt_up (b := b) hg ht.1 (i := i1) (i - i1) (by omega)
  rw [show i1 + (i - i1) = i by omega] at a1
  omega
end
/-- the hash of a row -/
def yha (f : Nat → Int32) : Nat → Int32
  | 0 => 0
  | n + 1 => 31 * yha f n + f n + 1
def yhx (h : Int32) : Int32 := h ^^^ ((h.toUInt32 >>> ((9 : Int32).toUInt32 &&& Int32.toUInt32 31)).toInt32)
def yhf (s : Nat) (n : Int32) (ro : Nat → Int32) : Int32 := yhx (yha (fun j => ro (s + j)) n.toInt.toNat)
theorem yha_cg {f f' : Nat → Int32} (n : Nat) (h : ∀ j : Nat, j < n → f j = f' j) : yha f n = yha f' n := by
  induction n with
  | zero => rfl
  | succ n ih =>
    show 31 * yha f n + f n + 1 = 31 * yha f' n + f' n + 1
    rw [ih (fun j hj => h j (by omega)), h n (by omega)]
theorem yhf_cg {s s' : Nat} {n n' : Int32} {ro : Nat → Int32} (h : yLk s s' n.toInt n'.toInt ro) : yhf s n ro = yhf s' n' ro := by
  unfold yhf
  rw [show n'.toInt.toNat = n.toInt.toNat by have := h.1; omega, yha_cg (f := fun j => ro (s + j)) (f' := fun j => ro (s' + j)) n.toInt.toNat (fun j hj => h.2 j (by omega))]
/-- the j-th slot asked -/
def ysl (h : Int32) (j : Nat) : Nat := ((h.toInt + (j : Int)) % 512).toNat
theorem zI_and9 {a v : Int32} (e : v = a &&& 511) : v.toInt = a.toInt % 512 := by
  have h1 : v.toBitVec.toNat = a.toBitVec.toNat % 2 ^ 9 := by
    rw [e, Int32.toBitVec_and, BitVec.toNat_and, show (511 : Int32).toBitVec.toNat = 2 ^ 9 - 1 by decide +kernel, Nat.and_two_pow_sub_one_eq_mod]
  have h2 := zi_tn (v := v) (by omega)
  have h3 : a.toInt = (a.toBitVec.toNat : Int) ∨ a.toInt = (a.toBitVec.toNat : Int) - 4294967296 := by
    have h4 : a.toInt = a.toBitVec.toInt := rfl
    rw [h4, BitVec.toInt_eq_toNat_cond]
    split
    · exact Or.inl rfl
    · exact Or.inr rfl
  omega
theorem ysl_e {h i v3 v4 : Int32} (e3 : v3 = h + i) (e4 : v4 = v3 &&& 511) (hi : 0 ≤ i.toInt ∧ i.toInt < 512) : v4.toNatClampNeg = ysl h i.toInt.toNat := by
  have h1 := zI_and9 e4
  have h2 : v3.toInt % 512 = (h.toInt + i.toInt) % 512 := by
    rw [e3, Int32.toInt_add]
    rw [Int.bmod_def]
    split <;> omega
  have h3 := zcl (i := v4) (by omega)
  unfold ysl
  omega
def yFL (h p : Int32) (lk : Nat → Prop) (sl sl1 : Nat → Int32) (r : Int32) : Prop := ∃ i : Nat, i ≤ 512 ∧ (∀ j : Nat, j < i → ¬ (sl (ysl h j)).toInt = -1 ∧ ¬ lk (sl (ysl h j)).toInt.toNat) ∧ (i < 512 ∧ (sl (ysl h i)).toInt = -1 ∧ r = p ∧ sl1 = upd sl (ysl h i) p ∨ i < 512 ∧ ¬ (sl (ysl h i)).toInt = -1 ∧ lk (sl (ysl h i)).toInt.toNat ∧ r = sl (ysl h i) ∧ sl1 = sl ∨ i = 512 ∧ r = p ∧ sl1 = sl)
/-- the slots hold the least PREFIXES of STATES, each to be found from its hash on -/
def yHS (sl : Nat → Int32) (hf : Nat → Int32) (M : Nat) (le : Nat → Nat) : Prop := (∀ j : Nat, j < 512 → (sl j).toInt = -1 ∨ ∃ s : Nat, s < M ∧ (sl j).toInt = (le s : Int)) ∧ (∀ s : Nat, s < M → ∃ i : Nat, i < 512 ∧ (sl (ysl (hf (le s)) i)).toInt = (le s : Int) ∧ ∀ j : Nat, j < i → ¬ (sl (ysl (hf (le s)) j)).toInt = -1) ∧ yS1 (fun j => if (sl j).toInt = -1 then 0 else 1) 512 = (M : Int)
section
variable {sl sl1 : Nat → Int32} {hf : Nat → Int32} {M s p : Nat} {le le' : Nat → Nat} {h P r : Int32} {al : Nat → Prop}
theorem ysl_lt (h : Int32) (j : Nat) : ysl h j < 512 := by
  unfold ysl
  omega
theorem ysl_su (h : Int32) (q : Nat) (hq : q < 512) : ∃ j : Nat, j < 512 ∧ ysl h j = q := by
  refine ⟨(((q : Int) - h.toInt) % 512).toNat, by omega, ?_⟩
  unfold ysl
  omega
theorem yHS_0 (e : ∀ j : Nat, j < 512 → (sl j).toInt = -1) : yHS sl hf 0 le :=
  ⟨fun j hj => Or.inl (e j hj), fun s hs => by omega, yS1_0 512 (fun j hj => if_pos (e j hj))⟩
theorem yS1_fu {f : Nat → Int} (n : Nat) (h : ∀ j : Nat, j < n → f j = 1) : yS1 f n = (n : Int) := by
  induction n with
  | zero => rfl
  | succ n ih =>
    show yS1 f n + f n = ((n + 1 : Nat) : Int)
    have e1 := ih (fun j hj => h j (by omega))
    have e2 := h n (by omega)
    omega
theorem yS1_up {f f' : Nat → Int} {k : Nat} (n : Nat) (hk : k < n) (h0 : f k = 0) (h1 : f' k = 1) (h : ∀ j : Nat, j < n → j ≠ k → f' j = f j) : yS1 f' n = yS1 f n + 1 := by
  induction n with
  | zero => omega
  | succ n ih =>
    show yS1 f' n + f' n = yS1 f n + f n + 1
    by_cases c9 : k = n
    · subst c9
      have e1 := yS1_cg (f := f') (g := f) k (fun j hj => h j (by omega) (by omega))
      omega
    · have e1 := ih (by omega) (fun j hj hj2 => h j (by omega) hj2)
      have e2 := h n (by omega) (fun e => c9 e.symm)
      omega
/-- a STATE that is there, or a new one -/
theorem yHS_f {lk : Nat → Prop} (hs : yHS sl hf M le) (hM : M ≤ 241) (hp : P.toInt = (p : Int)) (hh : h = hf p) (hl : ∀ s : Nat, s < M → (lk (le s) ↔ al (le s))) (ha : ∀ s : Nat, s < M → al (le s) → hf (le s) = hf p) (hn : ∀ s : Nat, s < M → le s ≠ p) (f : yFL h P lk sl sl1 r) : (∃ s : Nat, s < M ∧ al (le s) ∧ r.toInt = (le s : Int) ∧ sl1 = sl) ∨ ((∀ s : Nat, s < M → ¬ al (le s)) ∧ r = P ∧ ∀ le' : Nat → Nat, (∀ s : Nat, s < M → le' s = le s) → le' M = p → yHS sl1 hf (M + 1) le') := by
  obtain ⟨s1, s2, s3⟩ := hs
  obtain ⟨i, i1, i2, i3⟩ := f
  subst hh
  have none_ : ∀ m : Nat, m ≤ i → (m < 512 → (sl (ysl (hf p) m)).toInt = -1) → (m = 512 → False) → ∀ s : Nat, s < M → ¬ al (le s) := by
    intro m hm he hf9 s hs has
    obtain ⟨j, j1, j2, j3⟩ := s2 s hs
    rw [ha s hs has] at j2 j3
    by_cases c9 : j < m
    · have a1 := (i2 j (by omega)).2
      rw [j2, show ((le s : Nat) : Int).toNat = le s by omega] at a1
      exact a1 ((hl s hs).mpr has)
    · by_cases c8 : m < 512
      · have a1 := he c8
        by_cases c7 : j = m
        · rw [c7, a1] at j2
          omega
        · exact j3 m (by omega) a1
      · exact hf9 (by omega)
  rcases i3 with ⟨k1, k2, k3, k4⟩ | ⟨k1, k2, k3, k4, k5⟩ | ⟨k1, k3, k4⟩
  · refine Or.inr ⟨none_ i (Nat.le_refl _) (fun _ => k2) (fun q => by omega), k3, fun le' e1 e2 => ⟨fun j hj => ?_, fun s hs => ?_, ?_⟩⟩
    · rw [k4, z_at]
      by_cases c9 : j = ysl (hf p) i
      · rw [if_pos c9]
        exact Or.inr ⟨M, by omega, by rw [e2]; exact hp⟩
      · rw [if_neg c9]
        rcases s1 j hj with q | ⟨s, q1, q2⟩
        · exact Or.inl q
        · exact Or.inr ⟨s, by omega, by rw [e1 s q1]; exact q2⟩
    · by_cases c9 : s = M
      · rw [c9, e2]
        refine ⟨i, k1, by rw [k4, z_at, if_pos rfl]; exact hp, fun j hj => ?_⟩
        rw [k4, z_at]
        by_cases c8 : ysl (hf p) j = ysl (hf p) i
        · rw [if_pos c8]
          omega
        · rw [if_neg c8]
          exact (i2 j hj).1
      · rw [e1 s (by omega)]
        obtain ⟨j, j1, j2, j3⟩ := s2 s (by omega)
        refine ⟨j, j1, ?_, fun j' hj' => ?_⟩
        · rw [k4, z_at, if_neg (fun q => by rw [q, k2] at j2; omega)]
          exact j2
        · rw [k4, z_at]
          by_cases c8 : ysl (hf (le s)) j' = ysl (hf p) i
          · rw [if_pos c8]
            omega
          · rw [if_neg c8]
            exact j3 j' hj'
    · rw [yS1_up (f := fun j => if (sl j).toInt = -1 then 0 else 1) (k := ysl (hf p) i) 512 (ysl_lt _ _) (if_pos k2) (by
          show (if (sl1 (ysl (hf p) i)).toInt = -1 then (0 : Int) else 1) = 1
          rw [k4, z_at, if_pos rfl, if_neg (by omega)]) (fun j hj hj2 => by
          show (if (sl1 j).toInt = -1 then (0 : Int) else 1) = (if (sl j).toInt = -1 then (0 : Int) else 1)
          rw [k4, z_at, if_neg hj2]), s3]
      omega
  · rcases s1 _ (ysl_lt (hf p) i) with q | ⟨s, q1, q2⟩
    · exact absurd q k2
    · rw [q2, show ((le s : Nat) : Int).toNat = le s by omega] at k3
      exact Or.inl ⟨s, q1, (hl s q1).mp k3, by rw [k4]; exact q2, k5⟩
  · exfalso
    have a1 := yS1_fu (f := fun j => if (sl j).toInt = -1 then 0 else 1) 512 (fun q hq => by
      obtain ⟨j, j1, j2⟩ := ysl_su (hf p) q hq
      have a2 := (i2 j (by omega)).1
      rw [j2] at a2
      exact if_neg a2)
    rw [s3] at a1
    omega
end
