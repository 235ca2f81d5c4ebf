/-! PREFIXES: sums over CALLS; the tree as both sides let it grow -/
/-- a sum -/
def yS1 (f : Nat → Int) : Nat → Int
  | 0 => 0
  | n + 1 => yS1 f n + f n
/-- over the CALLS of TRACES, one left out -/
def yS2 (f : Nat → Nat → Int) (c : Nat → Nat) (b : Int) : Nat → Int
  | 0 => 0
  | t + 1 => yS2 f c b t + (if (t : Int) = b then 0 else yS1 (f t) (c t))
section
theorem yS1_cg {f g : Nat → Int} (n : Nat) (h : ∀ i : Nat, i < n → f i = g i) : yS1 f n = yS1 g n := by
  induction n with
  | zero => rfl
  | succ n ih =>
    show yS1 f n + f n = yS1 g n + g n
    rw [ih (fun i hi => h i (by omega)), h n (by omega)]
theorem yS1_add {f g k : Nat → Int} (n : Nat) (h : ∀ i : Nat, i < n → k i = f i + g i) : yS1 k n = yS1 f n + yS1 g n := by
  induction n with
  | zero => rfl
  | succ n ih =>
    show yS1 k n + k n = (yS1 f n + f n) + (yS1 g n + g n)
    have e1 := ih (fun i hi => h i (by omega))
    have e2 := h n (by omega)
    omega
theorem yS1_0 {f : Nat → Int} (n : Nat) (h : ∀ i : Nat, i < n → f i = 0) : yS1 f n = 0 := by
  induction n with
  | zero => rfl
  | succ n ih =>
    show yS1 f n + f n = 0
    have e1 := ih (fun i hi => h i (by omega))
    have e2 := h n (by omega)
    omega
theorem yS1_b {f : Nat → Int} {m : Int} (n : Nat) (h : ∀ i : Nat, i < n → 0 ≤ f i ∧ f i ≤ m) : 0 ≤ yS1 f n ∧ yS1 f n ≤ m * (n : Int) := by
  induction n with
  | zero => exact ⟨Int.le_refl _, by show (0 : Int) ≤ m * ((0 : Nat) : Int); rw [show ((0 : Nat) : Int) = 0 from rfl, Int.mul_zero]; exact Int.le_refl _⟩
  | succ n ih =>
    show 0 ≤ yS1 f n + f n ∧ yS1 f n + f n ≤ m * ((n + 1 : Nat) : Int)
    have e1 := ih (fun i hi => h i (by omega))
    have e2 := h n (by omega)
    rw [show ((n + 1 : Nat) : Int) = (n : Int) + 1 by omega, Int.mul_add, Int.mul_one]
    omega
theorem yS1_nn {f : Nat → Int} (n : Nat) (h : ∀ i : Nat, i < n → 0 ≤ f i) : 0 ≤ yS1 f n := by
  induction n with
  | zero => exact Int.le_refl _
  | succ n ih =>
    show 0 ≤ yS1 f n + f n
    have e1 := ih (fun i hi => h i (by omega))
    have e2 := h n (by omega)
    omega
theorem yS1_p {f : Nat → Int} {i : Nat} (n : Nat) (h : ∀ j : Nat, j < n → 0 ≤ f j) (hi : i < n) : f i ≤ yS1 f n := by
  induction n with
  | zero => omega
  | succ n ih =>
    show f i ≤ yS1 f n + f n
    have e2 := h n (by omega)
    by_cases c9 : i = n
    · have e3 := yS1_nn (f := f) n (fun j hj => h j (by omega))
      rw [c9]
      omega
    · have e1 := ih (fun j hj => h j (by omega)) (by omega)
      omega
theorem yS2_cg {f g : Nat → Nat → Int} {c : Nat → Nat} {b : Int} (T : Nat) (h : ∀ t i : Nat, t < T → (t : Int) ≠ b → i < c t → f t i = g t i) : yS2 f c b T = yS2 g c b T := by
  induction T with
  | zero => rfl
  | succ T ih =>
    show yS2 f c b T + (if (T : Int) = b then 0 else yS1 (f T) (c T)) = yS2 g c b T + (if (T : Int) = b then 0 else yS1 (g T) (c T))
    rw [ih (fun t i ht hb hi => h t i (by omega) hb hi)]
    by_cases c9 : (T : Int) = b
    · rw [if_pos c9, if_pos c9]
    · rw [if_neg c9, if_neg c9, yS1_cg (f := f T) (g := g T) (c T) (fun i hi => h T i (by omega) c9 hi)]
theorem yS2_add {f g k : Nat → Nat → Int} {c : Nat → Nat} {b : Int} (T : Nat) (h : ∀ t i : Nat, t < T → (t : Int) ≠ b → i < c t → k t i = f t i + g t i) : yS2 k c b T = yS2 f c b T + yS2 g c b T := by
  induction T with
  | zero => rfl
  | succ T ih =>
    show yS2 k c b T + (if (T : Int) = b then 0 else yS1 (k T) (c T)) = yS2 f c b T + (if (T : Int) = b then 0 else yS1 (f T) (c T)) + (yS2 g c b T + (if (T : Int) = b then 0 else yS1 (g T) (c T)))
    have e1 := ih (fun t i ht hb hi => h t i (by omega) hb hi)
    by_cases c9 : (T : Int) = b
    · rw [if_pos c9, if_pos c9, if_pos c9]
      omega
    · rw [if_neg c9, if_neg c9, if_neg c9, yS1_add (f := f T) (g := g T) (k := k T) (c T) (fun i hi => h T i (by omega) c9 hi)]
      omega
theorem yS2_0 {f : Nat → Nat → Int} {c : Nat → Nat} {b : Int} (T : Nat) (h : ∀ t i : Nat, t < T → (t : Int) ≠ b → i < c t → f t i = 0) : yS2 f c b T = 0 := by
  induction T with
  | zero => rfl
  | succ T ih =>
    show yS2 f c b T + (if (T : Int) = b then 0 else yS1 (f T) (c T)) = 0
    rw [ih (fun t i ht hb hi => h t i (by omega) hb hi)]
    by_cases c9 : (T : Int) = b
    · rw [if_pos c9]
      rfl
    · rw [if_neg c9, yS1_0 (f := f T) (c T) (fun i hi => h T i (by omega) c9 hi)]
      rfl
/-- at most twelve a TRACE -/
theorem yS2_b {f : Nat → Nat → Int} {c : Nat → Nat} {b : Int} (T : Nat) (hc : ∀ t : Nat, t < T → c t ≤ 12) (h : ∀ t i : Nat, 0 ≤ f t i ∧ f t i ≤ 1) : 0 ≤ yS2 f c b T ∧ yS2 f c b T ≤ 12 * (T : Int) := by
  induction T with
  | zero => exact ⟨Int.le_refl _, by show (0 : Int) ≤ 12 * ((0 : Nat) : Int); decide⟩
  | succ T ih =>
    show 0 ≤ yS2 f c b T + (if (T : Int) = b then 0 else yS1 (f T) (c T)) ∧ yS2 f c b T + (if (T : Int) = b then 0 else yS1 (f T) (c T)) ≤ 12 * ((T + 1 : Nat) : Int)
    have e1 := ih (fun t ht => hc t (by omega))
    have e2 := hc T (by omega)
    have e3 := yS1_b (f := f T) (m := 1) (c T) (fun i _ => h T i)
    split <;> omega
end
/-- one LETTER more: the tree (how many PREFIXES; its children, ten a PREFIX), where it is -/
def yt1 (S : Nat × (Nat → Int)) (p x : Nat) : (Nat × (Nat → Int)) × Nat := if S.2 (10 * p + x) = -1 then ((S.1 + 1, fun j => if j = 10 * p + x then (S.1 : Int) else S.2 j), S.1) else (S, (S.2 (10 * p + x)).toNat)
/-- the first CALLS of a TRACE -/
def ytw (g : Nat → Nat) (S : Nat × (Nat → Int)) : Nat → (Nat × (Nat → Int)) × Nat
  | 0 => (S, 0)
  | i + 1 => yt1 (ytw g S i).1 (ytw g S i).2 (g i)
/-- the first TRACES, one left out -/
def ytr (g : Nat → Nat → Nat) (c : Nat → Nat) (b : Int) : Nat → Nat × (Nat → Int)
  | 0 => (1, fun _ => -1)
  | t + 1 => if (t : Int) = b then ytr g c b t else (ytw (g t) (ytr g c b t) (c t)).1
/-- the PREFIX of the first CALLS of a TRACE -/
def ypt (g : Nat → Nat → Nat) (c : Nat → Nat) (b : Int) (t i : Nat) : Nat := (ytw (g t) (ytr g c b t) i).2
/-- a tree -/
def yTI (S : Nat × (Nat → Int)) : Prop := 1 ≤ S.1 ∧ (∀ j : Nat, S.2 j = -1 ∨ ((j : Int) < 10 * S.2 j ∧ 1 ≤ S.2 j ∧ S.2 j < (S.1 : Int))) ∧ (∀ i j : Nat, S.2 i = S.2 j → S.2 i ≠ -1 → i = j)
section
variable {S : Nat × (Nat → Int)} {p x q : Nat} {g : Nat → Nat → Nat} {c : Nat → Nat} {b : Int} {g1 : Nat → Nat}
theorem yTI_0 : yTI (1, fun _ => -1) := ⟨Nat.le_refl _, fun _ => Or.inl rfl, fun _ _ _ h => (h rfl).elim⟩
theorem yt1_n (h : S.2 (10 * p + x) = -1) : yt1 S p x = ((S.1 + 1, fun j => if j = 10 * p + x then (S.1 : Int) else S.2 j), S.1) := if_pos h
theorem yt1_o (h : ¬ S.2 (10 * p + x) = -1) : yt1 S p x = (S, (S.2 (10 * p + x)).toNat) := if_neg h
theorem yTI_1 (h : yTI S) (hp : p < S.1) (hx : x < 10) : yTI (yt1 S p x).1 ∧ (p < (yt1 S p x).2 ∧ (yt1 S p x).2 < (yt1 S p x).1.1) ∧ S.1 ≤ (yt1 S p x).1.1 ∧ (yt1 S p x).1.2 (10 * p + x) = ((yt1 S p x).2 : Int) ∧ (∀ j : Nat, S.2 j ≠ -1 → (yt1 S p x).1.2 j = S.2 j) ∧ ((yt1 S p x).1.1 = S.1 ∨ (yt1 S p x).1.1 = S.1 + 1 ∧ (yt1 S p x).2 = S.1) := by
  obtain ⟨h1, h2, h3⟩ := h
  by_cases c9 : S.2 (10 * p + x) = -1
  · rw [yt1_n c9]
    show yTI (S.1 + 1, fun j => if j = 10 * p + x then (S.1 : Int) else S.2 j) ∧ (p < S.1 ∧ S.1 < S.1 + 1) ∧ S.1 ≤ S.1 + 1 ∧ (if 10 * p + x = 10 * p + x then (S.1 : Int) else S.2 (10 * p + x)) = ((S.1 : Nat) : Int) ∧ (∀ j : Nat, S.2 j ≠ -1 → (if j = 10 * p + x then (S.1 : Int) else S.2 j) = S.2 j) ∧ (S.1 + 1 = S.1 ∨ S.1 + 1 = S.1 + 1 ∧ S.1 = S.1)
    refine ⟨⟨?_, ?_, ?_⟩, ⟨hp, by omega⟩, by omega, if_pos rfl, fun j hj => if_neg (fun e => hj (by rw [e]; exact c9)), Or.inr ⟨rfl, rfl⟩⟩
    · show 1 ≤ S.1 + 1
      omega
    · intro j
      show (if j = 10 * p + x then (S.1 : Int) else S.2 j) = -1 ∨ ((j : Int) < 10 * (if j = 10 * p + x then (S.1 : Int) else S.2 j) ∧ 1 ≤ (if j = 10 * p + x then (S.1 : Int) else S.2 j) ∧ (if j = 10 * p + x then (S.1 : Int) else S.2 j) < ((S.1 + 1 : Nat) : Int))
      by_cases c8 : j = 10 * p + x
      · rw [if_pos c8]
        exact Or.inr ⟨by omega, by omega, by omega⟩
      · rw [if_neg c8]
        rcases h2 j with h5 | h5
        · exact Or.inl h5
        · exact Or.inr ⟨by omega, by omega, by omega⟩
    · intro i j
      show (if i = 10 * p + x then (S.1 : Int) else S.2 i) = (if j = 10 * p + x then (S.1 : Int) else S.2 j) → (if i = 10 * p + x then (S.1 : Int) else S.2 i) ≠ -1 → i = j
      have a := h2 i
      have b9 := h2 j
      by_cases c1 : i = 10 * p + x
      · by_cases c2 : j = 10 * p + x
        · intro _ _
          omega
        · rw [if_pos c1, if_neg c2]
          intro e e2
          exfalso
          omega
      · by_cases c2 : j = 10 * p + x
        · rw [if_neg c1, if_pos c2]
          intro e e2
          exfalso
          omega
        · rw [if_neg c1, if_neg c2]
          exact h3 i j
  · rw [yt1_o c9]
    show yTI S ∧ (p < (S.2 (10 * p + x)).toNat ∧ (S.2 (10 * p + x)).toNat < S.1) ∧ S.1 ≤ S.1 ∧ S.2 (10 * p + x) = (((S.2 (10 * p + x)).toNat : Nat) : Int) ∧ (∀ j : Nat, S.2 j ≠ -1 → S.2 j = S.2 j) ∧ (S.1 = S.1 ∨ S.1 = S.1 + 1 ∧ (S.2 (10 * p + x)).toNat = S.1)
    have h5 := h2 (10 * p + x)
    exact ⟨⟨h1, h2, h3⟩, ⟨by omega, by omega⟩, Nat.le_refl _, by omega, fun _ _ => rfl, Or.inl rfl⟩
theorem ytw_s (i : Nat) : ytw g1 S (i + 1) = yt1 (ytw g1 S i).1 (ytw g1 S i).2 (g1 i) := rfl
theorem ytw_ok {n : Nat} (h : yTI S) (hg : ∀ i : Nat, i < n → g1 i < 10) (i : Nat) (hi : i ≤ n) : yTI (ytw g1 S i).1 ∧ (ytw g1 S i).2 < (ytw g1 S i).1.1 ∧ S.1 ≤ (ytw g1 S i).1.1 ∧ (∀ j : Nat, S.2 j ≠ -1 → (ytw g1 S i).1.2 j = S.2 j) ∧ (ytw g1 S i).1.1 ≤ S.1 + i := by
  induction i with
  | zero => exact ⟨h, by have := h.1; show 0 < S.1; omega, Nat.le_refl _, fun _ _ => rfl, Nat.le_refl _⟩
  | succ i ih =>
    obtain ⟨a1, a2, a3, a4, a5⟩ := ih (by omega)
    obtain ⟨e1, e2, e3, e4, e5, e6⟩ := yTI_1 a1 a2 (hg i (by omega))
    rw [ytw_s]
    exact ⟨e1, e2.2, by omega, fun j hj => (e5 j (by rw [a4 j hj]; exact hj)).trans (a4 j hj), by omega⟩
theorem ytw_st {n : Nat} (h : yTI S) (hg : ∀ i : Nat, i < n → g1 i < 10) (i : Nat) (hi : i < n) : (ytw g1 S i).2 < (ytw g1 S (i + 1)).2 ∧ (ytw g1 S (i + 1)).1.2 (10 * (ytw g1 S i).2 + g1 i) = ((ytw g1 S (i + 1)).2 : Int) ∧ (∀ j : Nat, (ytw g1 S i).1.2 j ≠ -1 → (ytw g1 S (i + 1)).1.2 j = (ytw g1 S i).1.2 j) ∧ (ytw g1 S i).1.1 ≤ (ytw g1 S (i + 1)).1.1 ∧ ((ytw g1 S (i + 1)).1.1 = (ytw g1 S i).1.1 ∨ (ytw g1 S (i + 1)).1.1 = (ytw g1 S i).1.1 + 1 ∧ (ytw g1 S (i + 1)).2 = (ytw g1 S i).1.1) := by
  obtain ⟨a1, a2, a3, a4, a5⟩ := ytw_ok h hg i (by omega)
  obtain ⟨e1, e2, e3, e4, e5, e6⟩ := yTI_1 a1 a2 (hg i hi)
  rw [ytw_s]
  exact ⟨e2.1, e4, e5, e3, e6⟩
theorem ytw_mo {n : Nat} (h : yTI S) (hg : ∀ i : Nat, i < n → g1 i < 10) {i : Nat} (k : Nat) (hk : i + k ≤ n) : (∀ j : Nat, (ytw g1 S i).1.2 j ≠ -1 → (ytw g1 S (i + k)).1.2 j = (ytw g1 S i).1.2 j) ∧ (ytw g1 S i).1.1 ≤ (ytw g1 S (i + k)).1.1 ∧ (ytw g1 S i).2 + k ≤ (ytw g1 S (i + k)).2 := by
  induction k with
  | zero => exact ⟨fun _ _ => rfl, Nat.le_refl _, Nat.le_refl _⟩
  | succ k ih =>
    obtain ⟨a1, a2, a3⟩ := ih (by omega)
    obtain ⟨e1, e2, e3, e4, e5⟩ := ytw_st h hg (i + k) (by omega)
    rw [show i + (k + 1) = i + k + 1 by omega]
    exact ⟨fun j hj => (e3 j (by rw [a1 j hj]; exact hj)).trans (a1 j hj), by omega, by omega⟩
theorem ytw_su {n : Nat} (h : yTI S) (hg : ∀ i : Nat, i < n → g1 i < 10) (i : Nat) (hi : i ≤ n) (q : Nat) (h1 : S.1 ≤ q) (h2 : q < (ytw g1 S i).1.1) : ∃ j : Nat, j < i ∧ (ytw g1 S (j + 1)).2 = q := by
  induction i with
  | zero =>
    have h3 : q < S.1 := h2
    omega
  | succ i ih =>
    obtain ⟨e1, e2, e3, e4, e5⟩ := ytw_st h hg i (by omega)
    by_cases c9 : q < (ytw g1 S i).1.1
    · obtain ⟨j, hj, ej⟩ := ih (by omega) c9
      exact ⟨j, by omega, ej⟩
    · exact ⟨i, by omega, by omega⟩
/-- LETTERS are ten -/
def yLt (g : Nat → Nat → Nat) (c : Nat → Nat) (T : Nat) : Prop := ∀ t i : Nat, t < T → i < c t → g t i < 10
theorem ytr_b {t : Nat} (h : (t : Int) = b) : ytr g c b (t + 1) = ytr g c b t := if_pos h
theorem ytr_s {t : Nat} (h : ¬ (t : Int) = b) : ytr g c b (t + 1) = (ytw (g t) (ytr g c b t) (c t)).1 := if_neg h
theorem ytr_ok {T : Nat} (hg : yLt g c T) (t : Nat) (ht : t ≤ T) : yTI (ytr g c b t) := by
  induction t with
  | zero => exact yTI_0
  | succ t ih =>
    by_cases c9 : (t : Int) = b
    · rw [ytr_b c9]
      exact ih (by omega)
    · rw [ytr_s c9]
      exact (ytw_ok (ih (by omega)) (fun i hi => hg t i (by omega) hi) (c t) (Nat.le_refl _)).1
theorem ytr_mo {T : Nat} (hg : yLt g c T) {t : Nat} (k : Nat) (hk : t + k ≤ T) : (∀ j : Nat, (ytr g c b t).2 j ≠ -1 → (ytr g c b (t + k)).2 j = (ytr g c b t).2 j) ∧ (ytr g c b t).1 ≤ (ytr g c b (t + k)).1 := by
  induction k with
  | zero => exact ⟨fun _ _ => rfl, Nat.le_refl _⟩
  | succ k ih =>
    obtain ⟨a1, a2⟩ := ih (by omega)
    rw [show t + (k + 1) = t + k + 1 by omega]
    by_cases c9 : ((t + k : Nat) : Int) = b
    · rw [ytr_b c9]
      exact ⟨a1, a2⟩
    · rw [ytr_s c9]
      obtain ⟨e1, e2, e3, e4, e5⟩ := ytw_ok (ytr_ok (b := b) hg (t + k) (by omega)) (fun i hi => hg (t + k) i (by omega) hi) (c (t + k)) (Nat.le_refl _)
      exact ⟨fun j hj => (e4 j (by rw [a1 j hj]; exact hj)).trans (a1 j hj), by omega⟩
theorem ypt_0 (t : Nat) : ypt g c b t 0 = 0 := rfl
/-- strictly up along a TRACE -/
theorem ypt_up {T t i : Nat} (hg : yLt g c T) (ht : t < T) (k : Nat) (hi : i + k ≤ c t) : ypt g c b t i + k ≤ ypt g c b t (i + k) :=
  (ytw_mo (ytr_ok (b := b) hg t (by omega)) (fun i hi => hg t i ht hi) k hi).2.2
theorem ypt_lt {T t i : Nat} (hg : yLt g c T) (ht : t < T) (hb : ¬ (t : Int) = b) (hi : i ≤ c t) : ypt g c b t i < (ytr g c b T).1 := by
  have a1 := ytw_ok (ytr_ok (b := b) hg t (by omega)) (fun i hi => hg t i ht hi) i hi
  have a2 := ytw_mo (ytr_ok (b := b) hg t (by omega)) (fun i hi => hg t i ht hi) (i := i) (c t - i) (by omega)
  rw [show i + (c t - i) = c t by omega] at a2
  have a3 := ytr_mo (b := b) hg (t := t + 1) (T - (t + 1)) (by omega)
  rw [show t + 1 + (T - (t + 1)) = T by omega, ytr_s hb] at a3
  show (ytw (g t) (ytr g c b t) i).2 < _
  omega
theorem ypt_ch {T t i : Nat} (hg : yLt g c T) (ht : t < T) (hb : ¬ (t : Int) = b) (hi : i < c t) : (ytr g c b T).2 (10 * ypt g c b t i + g t i) = (ypt g c b t (i + 1) : Int) := by
  obtain ⟨e1, e2, e3, e4, e5⟩ := ytw_st (ytr_ok (b := b) hg t (by omega)) (fun i hi => hg t i ht hi) i hi
  have a2 := ytw_mo (ytr_ok (b := b) hg t (by omega)) (fun i hi => hg t i ht hi) (i := i + 1) (c t - (i + 1)) (by omega)
  rw [show i + 1 + (c t - (i + 1)) = c t by omega] at a2
  have a3 := ytr_mo (b := b) hg (t := t + 1) (T - (t + 1)) (by omega)
  rw [show t + 1 + (T - (t + 1)) = T by omega, ytr_s hb] at a3
  show (ytr g c b T).2 (10 * (ytw (g t) (ytr g c b t) i).2 + g t i) = ((ytw (g t) (ytr g c b t) (i + 1)).2 : Int)
  have n1 : (ytw (g t) (ytr g c b t) (i + 1)).1.2 (10 * (ytw (g t) (ytr g c b t) i).2 + g t i) ≠ -1 := by
    rw [e2]
    omega
  have n2 := a2.1 _ n1
  have n3 := a3.1 _ (by rw [n2]; exact n1)
  rw [n3, n2, e2]
theorem ypt_su {T : Nat} (hg : yLt g c T) (q : Nat) (h1 : 1 ≤ q) (h2 : q < (ytr g c b T).1) : ∃ t i : Nat, t < T ∧ ¬ (t : Int) = b ∧ i < c t ∧ ypt g c b t (i + 1) = q := by
  have key : ∀ m : Nat, m ≤ T → q < (ytr g c b m).1 → ∃ t i : Nat, t < m ∧ ¬ (t : Int) = b ∧ i < c t ∧ ypt g c b t (i + 1) = q := by
    intro m
    induction m with
    | zero =>
      intro _ h3
      have h4 : q < 1 := h3
      omega
    | succ m ih =>
      intro hm h3
      by_cases c9 : (m : Int) = b
      · rw [ytr_b c9] at h3
        obtain ⟨t, i, a1, a2⟩ := ih (by omega) h3
        exact ⟨t, i, by omega, a2⟩
      · rw [ytr_s c9] at h3
        by_cases c8 : q < (ytr g c b m).1
        · obtain ⟨t, i, a1, a2⟩ := ih (by omega) c8
          exact ⟨t, i, by omega, a2⟩
        · obtain ⟨j, j1, j2⟩ := ytw_su (ytr_ok (b := b) hg m (by omega)) (fun i hi => hg m i (by omega) hi) (c m) (Nat.le_refl _) q (by omega) h3
          exact ⟨m, j, by omega, c9, j1, j2⟩
  exact key T (Nat.le_refl _) h2
/-- at most one PREFIX a CALL -/
theorem ytr_n {T : Nat} (hg : yLt g c T) (hc : ∀ t : Nat, t < T → c t ≤ 12) (t : Nat) (ht : t ≤ T) : (ytr g c b t).1 ≤ 12 * t + 1 := by
  induction t with
  | zero => exact Nat.le_refl _
  | succ t ih =>
    have a1 := ih (by omega)
    by_cases c9 : (t : Int) = b
    · rw [ytr_b c9]
      omega
    · rw [ytr_s c9]
      have a2 := (ytw_ok (ytr_ok (b := b) hg t (by omega)) (fun i hi => hg t i (by omega) hi) (c t) (Nat.le_refl _)).2.2.2.2
      have a3 := hc t (by omega)
      omega
end
