/-! vague(): pairs of EDGES of one STATE and LETTER whose RANGES meet -/
theorem yS1_tl {f : Nat → Int} {a : Nat} (n : Nat) (ha : a ≤ n) (h : ∀ i : Nat, a ≤ i → i < n → f i = 0) : yS1 f n = yS1 f a := by
  induction n with
  | zero => rw [show a = 0 by omega]
  | succ n ih =>
    by_cases c9 : a = n + 1
    · rw [c9]
    · show yS1 f n + f n = yS1 f a
      rw [ih (by omega) (fun i h1 h2 => h i h1 (by omega)), h n (by omega) (by omega)]
      omega
def yFq (ks lo hi : Nat → Int32) (s : Int) (e o : Nat) : Int := if e < o ∧ (ks o).toInt / 256 = (ks e).toInt / 256 ∧ (lo e).toInt ≤ (hi e).toInt + 2 * s ∧ (lo e).toInt ≤ (hi o).toInt + 2 * s ∧ (lo o).toInt ≤ (hi e).toInt + 2 * s ∧ (lo o).toInt ≤ (hi o).toInt + 2 * s then 1 else 0
def yFs (ks lo hi : Nat → Int32) (s : Int) (e n : Nat) : Int := yS1 (fun o => yFq ks lo hi s e o) n
section
variable {ks lo hi : Nat → Int32} {s A f f' : Int} {e o n E : Nat} {a b c d m g l5 l6 : Int32}
theorem yFs_0 (h : n ≤ e + 1) : yFs ks lo hi s e n = 0 := yS1_0 n (fun i hi => if_neg (fun q => by omega))
theorem yFs_b (hs : ∀ i j : Nat, i < j → j < E → (ks i).toInt ≤ (ks j).toInt) (he : e < o ∧ o ≤ E) (h : o < E → ¬ (ks o).toInt / 256 = (ks e).toInt / 256) : yFs ks lo hi s e E = yFs ks lo hi s e o := by
  refine yS1_tl E he.2 (fun i h1 h2 => if_neg (fun q => ?_))
  have a1 := hs e o he.1 (by omega)
  have a2 := h (by omega)
  have a3 : (ks o).toInt ≤ (ks i).toInt := by
    by_cases c9 : o = i
    · rw [c9]
      exact Int.le_refl _
    · exact hs o i (by omega) h2
  have a4 := q.2.1
  omega
theorem yFs_s (h : f = A + yFs ks lo hi s e o) (heo : e < o) (hk : (ks o).toInt / 256 = (ks e).toInt / 256) (ea : a.toInt = (lo e).toInt) (eb : b.toInt = (lo o).toInt) (ec : c.toInt = (hi e).toInt) (ed : d.toInt = (hi o).toInt) (em : m = if a < b then b else a) (eg : g = if d < c then d else c) (e5 : l5.toInt = m.toInt - s) (e6 : l6.toInt = g.toInt + s) (hf : l5.toInt ≤ l6.toInt ∧ f' = f + 1 ∨ ¬ l5.toInt ≤ l6.toInt ∧ f' = f) : f' = A + yFs ks lo hi s e (o + 1) := by
  show f' = A + (yFs ks lo hi s e o + yFq ks lo hi s e o)
  have m1 : (a.toInt < b.toInt ∧ m.toInt = b.toInt) ∨ (¬ a.toInt < b.toInt ∧ m.toInt = a.toInt) := by
    rw [em]
    by_cases c9 : a < b
    · rw [if_pos c9]
      exact Or.inl ⟨(fa_lt _ _).mp c9, rfl⟩
    · rw [if_neg c9]
      exact Or.inr ⟨fun q => c9 ((fa_lt _ _).mpr q), rfl⟩
  have g1 : (d.toInt < c.toInt ∧ g.toInt = d.toInt) ∨ (¬ d.toInt < c.toInt ∧ g.toInt = c.toInt) := by
    rw [eg]
    by_cases c9 : d < c
    · rw [if_pos c9]
      exact Or.inl ⟨(fa_lt _ _).mp c9, rfl⟩
    · rw [if_neg c9]
      exact Or.inr ⟨fun q => c9 ((fa_lt _ _).mpr q), rfl⟩
  have q : yFq ks lo hi s e o = if l5.toInt ≤ l6.toInt then 1 else 0 := by
    unfold yFq
    by_cases c9 : l5.toInt ≤ l6.toInt
    · rw [if_pos c9, if_pos ⟨heo, hk, by omega, by omega, by omega, by omega⟩]
    · rw [if_neg c9, if_neg (fun ⟨_, _, x1, x2, x3, x4⟩ => c9 (by omega))]
  rw [q]
  rcases hf with ⟨h1, h2⟩ | ⟨h1, h2⟩
  · rw [if_pos h1]
    omega
  · rw [if_neg h1]
    omega
end
/-- the reference's -/
def yGq (ed : Nat → Int32) (w wd : Int) (e o : Nat) : Int := if e < o ∧ (ed (0 + 6 * e)).toInt = (ed (0 + 6 * o)).toInt ∧ (ed (0 + 6 * e + 1)).toInt = (ed (0 + 6 * o + 1)).toInt ∧ (w = 0 ∨ (ed (0 + 6 * e + 4)).toInt ≤ (ed (0 + 6 * o + 5)).toInt + wd ∧ (ed (0 + 6 * o + 4)).toInt ≤ (ed (0 + 6 * e + 5)).toInt + wd) then 1 else 0
def yGs (ed : Nat → Int32) (w wd : Int) (e n : Nat) : Int := yS1 (fun o => yGq ed w wd e o) n
theorem yGs_0 {ed : Nat → Int32} {w wd : Int} {e n : Nat} (h : n ≤ e + 1) : yGs ed w wd e n = 0 := yS1_0 n (fun i hi => if_neg (fun q => by omega))
theorem yGs_s {ed : Nat → Int32} {w wd A f f' z : Int} {e o : Nat} (h : f = A + yGs ed w wd e o) (heo : e < o) (hz : (((ed (0 + 6 * e)).toInt = (ed (0 + 6 * o)).toInt ∧ (ed (0 + 6 * e + 1)).toInt = (ed (0 + 6 * o + 1)).toInt) ∧ (w = 0 ∨ (ed (0 + 6 * e + 4)).toInt ≤ (ed (0 + 6 * o + 5)).toInt + wd ∧ (ed (0 + 6 * o + 4)).toInt ≤ (ed (0 + 6 * e + 5)).toInt + wd)) ∧ f' = f + 1 ∨ ¬ (((ed (0 + 6 * e)).toInt = (ed (0 + 6 * o)).toInt ∧ (ed (0 + 6 * e + 1)).toInt = (ed (0 + 6 * o + 1)).toInt) ∧ (w = 0 ∨ (ed (0 + 6 * e + 4)).toInt ≤ (ed (0 + 6 * o + 5)).toInt + wd ∧ (ed (0 + 6 * o + 4)).toInt ≤ (ed (0 + 6 * e + 5)).toInt + wd)) ∧ f' = f) : f' = A + yGs ed w wd e (o + 1) := by
  show f' = A + (yGs ed w wd e o + yGq ed w wd e o)
  unfold yGq
  rcases hz with ⟨⟨⟨h1, h2⟩, h3⟩, h4⟩ | ⟨h1, h4⟩
  · rw [if_pos ⟨heo, h1, h2, h3⟩]
    omega
  · rw [if_neg (fun ⟨_, x1, x2, x3⟩ => h1 ⟨⟨x1, x2⟩, x3⟩)]
    omega
/-- what is answered -/
def yVg (K : yMac) (wd : Int) : Int := yS1 (fun e => yS1 (fun o => if e < o ∧ yxFr K e = yxFr K o ∧ yxBy K e = yxBy K o ∧ yxLo K e ≤ yxHi K o + wd ∧ yxLo K o ≤ yxHi K e + wd then 1 else 0) (yxE K)) (yxE K)
theorem yMC_lh {g : Nat → Nat → Nat} {c : Nat → Nat} {v : Nat → Nat → Int} {b : Int} {T k N M E : Nat} {so le : Nat → Nat} {pf en : Nat → Int} {fr by_ to : Nat → Nat} {su lo hi : Nat → Int} (h : yMC g c v b T k N M so le pf en E fr by_ to su lo hi) (e : Nat) (he : e < E) : lo e ≤ hi e ∧ lo e ≤ 99 ∧ 0 ≤ hi e := by
  obtain ⟨h1, h2, h3, h4, h5⟩ := h
  obtain ⟨t, i, x1, x2⟩ := (h3.2 _).mpr ⟨e, he, rfl⟩
  obtain ⟨_, b2, b3⟩ := h5 e he
  have a1 := b2.2.2 t i ⟨x1, x2⟩
  have a2 := b3.2.2 t i ⟨x1, x2⟩
  exact ⟨by omega, b2.2.1, b3.2.1⟩
/-- one machine's numbers in order -/
theorem yMC_or {g : Nat → Nat → Nat} {c : Nat → Nat} {v : Nat → Nat → Int} {b : Int} {T k N M E : Nat} {so le : Nat → Nat} {pf en : Nat → Int} {fr by_ to : Nat → Nat} {su lo hi : Nat → Int} (h : yMC g c v b T k N M so le pf en E fr by_ to su lo hi) (i j : Nat) (hij : i < j) (hj : j < E) : fr i < fr j ∨ fr i = fr j ∧ (by_ i < by_ j ∨ by_ i = by_ j ∧ to i < to j) := by
  have a0 : ((2410 * fr i + 241 * by_ i + to i : Nat) : Int) < ((2410 * fr j + 241 * by_ j + to j : Nat) : Int) := h.2.2.1.1 i j hij hj
  have a1 := h.2.2.2.1 i (by omega)
  have a2 := h.2.2.2.1 j hj
  omega
section
variable {R : Nat → Int32} {b : Int} {k : Nat} {M E : Int} {so le pf en ks su lo hi fe ed : Nat → Int32}
theorem yMm_ks (h : yMm R b k M E so le pf en ks su lo hi fe ed) (h0 : ∀ j : Nat, 0 ≤ (ks j).toInt ∧ (ks j).toInt % 256 ≤ 240) (i j : Nat) (hij : i < j) (hj : j < E.toNat) : (ks i).toInt ≤ (ks j).toInt := by
  obtain ⟨N, h1, h2, _⟩ := h
  have a := yMC_or h2 i j hij hj
  have p1 := yKf_e (h0 i).1
  have p2 := yKf_e (h0 j).1
  have q1 := (h0 i).1
  have q2 := (h0 j).1
  omega
theorem yVg_l {s z : Int} (hR : yRw R) (h : yMm R b k M E so le pf en ks su lo hi fe ed) (h0 : ∀ j : Nat, 0 ≤ (ks j).toInt ∧ (ks j).toInt % 256 ≤ 240) (hs : 0 ≤ s) (hz : z = yS1 (fun e => yFs ks lo hi s e E.toNat) E.toNat) : z = yVg (yKR R b k) (2 * s) := by
  obtain ⟨N, K⟩ := yMm_K hR h
  obtain ⟨N', h1, h2, _⟩ := h
  obtain ⟨_, _, e3, _, _, e6⟩ := K
  have e3' : E.toNat = yxE (yKR R b k) := e3
  unfold yVg
  rw [hz, ← e3']
  refine yS1_cg _ (fun e he => yS1_cg _ (fun o ho => ?_))
  obtain ⟨⟨a1, a2, a3⟩, a4, a5, a6⟩ := e6 e he
  obtain ⟨⟨b1, b2, b3⟩, b4, b5, b6⟩ := e6 o ho
  have l1 := (yMC_lh h2 e he).1
  have l2 := (yMC_lh h2 o ho).1
  have k1 := yKf_e (h0 e).1
  have k2 := yKf_e (h0 o).1
  have a5' : (lo e).toInt = yxLo (yKR R b k) e := a5
  have a6' : (hi e).toInt = yxHi (yKR R b k) e := a6
  have b5' : (lo o).toInt = yxLo (yKR R b k) o := b5
  have b6' : (hi o).toInt = yxHi (yKR R b k) o := b6
  have l1' : (lo e).toInt ≤ (hi e).toInt := l1
  have l2' : (lo o).toInt ≤ (hi o).toInt := l2
  show yFq ks lo hi s e o = if e < o ∧ yxFr (yKR R b k) e = yxFr (yKR R b k) o ∧ yxBy (yKR R b k) e = yxBy (yKR R b k) o ∧ yxLo (yKR R b k) e ≤ yxHi (yKR R b k) o + 2 * s ∧ yxLo (yKR R b k) o ≤ yxHi (yKR R b k) e + 2 * s then 1 else 0
  rw [← a1, ← a2, ← b1, ← b2, ← a5', ← a6', ← b5', ← b6']
  unfold yFq
  have q : (e < o ∧ (ks o).toInt / 256 = (ks e).toInt / 256 ∧ (lo e).toInt ≤ (hi e).toInt + 2 * s ∧ (lo e).toInt ≤ (hi o).toInt + 2 * s ∧ (lo o).toInt ≤ (hi e).toInt + 2 * s ∧ (lo o).toInt ≤ (hi o).toInt + 2 * s) ↔ (e < o ∧ yKf ks e = yKf ks o ∧ yKb ks e = yKb ks o ∧ (lo e).toInt ≤ (hi o).toInt + 2 * s ∧ (lo o).toInt ≤ (hi e).toInt + 2 * s) := by
    constructor
    · rintro ⟨x1, x2, x3, x4, x5, x6⟩
      exact ⟨x1, by omega, by omega, x4, x5⟩
    · rintro ⟨x1, x2, x3, x4, x5⟩
      exact ⟨x1, by omega, by omega, x4, x5, by omega⟩
  by_cases c9 : (e < o ∧ (ks o).toInt / 256 = (ks e).toInt / 256 ∧ (lo e).toInt ≤ (hi e).toInt + 2 * s ∧ (lo e).toInt ≤ (hi o).toInt + 2 * s ∧ (lo o).toInt ≤ (hi e).toInt + 2 * s ∧ (lo o).toInt ≤ (hi o).toInt + 2 * s)
  · rw [if_pos c9, if_pos (q.mp c9)]
  · rw [if_neg c9, if_neg (fun x => c9 (q.mpr x))]
end
/-- the reference's counts the same -/
theorem yVg_r {g : Nat → Nat → Nat} {c : Nat → Nat} {v : Nat → Nat → Int} {b : Int} {T k N M E : Nat} {so le : Nat → Nat} {pf en : Nat → Int} {ed : Nat → Int32} {w wd wd' z : Int} (K : yAr (yKm g c v b T k) N M E so le pf en (fun e => (ed (0 + 6 * e)).toInt.toNat) (fun e => (ed (0 + 6 * e + 1)).toInt.toNat) (fun e => (ed (0 + 6 * e + 2)).toInt.toNat) (fun e => (ed (0 + 6 * e + 3)).toInt) (fun e => (ed (0 + 6 * e + 4)).toInt) (fun e => (ed (0 + 6 * e + 5)).toInt)) (h2 : yMC g c v b T k N M so le pf en E (fun e => (ed (0 + 6 * e)).toInt.toNat) (fun e => (ed (0 + 6 * e + 1)).toInt.toNat) (fun e => (ed (0 + 6 * e + 2)).toInt.toNat) (fun e => (ed (0 + 6 * e + 3)).toInt) (fun e => (ed (0 + 6 * e + 4)).toInt) (fun e => (ed (0 + 6 * e + 5)).toInt))
    (hn : ∀ e : Nat, 0 ≤ (ed (0 + 6 * e)).toInt ∧ 0 ≤ (ed (0 + 6 * e + 1)).toInt) (hw : w = 0 ∧ wd' = 200 ∨ w = 1 ∧ wd' = wd) (hz : z = yS1 (fun e => yGs ed w wd e E) E) : z = yVg (yKm g c v b T k) wd' := by
  obtain ⟨_, _, e3, _, _, e6⟩ := K
  unfold yVg
  rw [hz, ← e3]
  refine yS1_cg _ (fun e he => yS1_cg _ (fun o ho => ?_))
  obtain ⟨⟨a1, a2, a3⟩, a4, a5, a6⟩ := e6 e he
  obtain ⟨⟨b1, b2, b3⟩, b4, b5, b6⟩ := e6 o ho
  have l1 : (ed (0 + 6 * e + 4)).toInt ≤ 99 := (yMC_lh h2 e he).2.1
  have l2 : (ed (0 + 6 * o + 4)).toInt ≤ 99 := (yMC_lh h2 o ho).2.1
  have l3 : 0 ≤ (ed (0 + 6 * e + 5)).toInt := (yMC_lh h2 e he).2.2
  have l4 : 0 ≤ (ed (0 + 6 * o + 5)).toInt := (yMC_lh h2 o ho).2.2
  have n1 := hn e
  have n2 := hn o
  have a1' : (ed (0 + 6 * e)).toInt.toNat = yxFr (yKm g c v b T k) e := a1
  have a2' : (ed (0 + 6 * e + 1)).toInt.toNat = yxBy (yKm g c v b T k) e := a2
  have b1' : (ed (0 + 6 * o)).toInt.toNat = yxFr (yKm g c v b T k) o := b1
  have b2' : (ed (0 + 6 * o + 1)).toInt.toNat = yxBy (yKm g c v b T k) o := b2
  have a5' : (ed (0 + 6 * e + 4)).toInt = yxLo (yKm g c v b T k) e := a5
  have a6' : (ed (0 + 6 * e + 5)).toInt = yxHi (yKm g c v b T k) e := a6
  have b5' : (ed (0 + 6 * o + 4)).toInt = yxLo (yKm g c v b T k) o := b5
  have b6' : (ed (0 + 6 * o + 5)).toInt = yxHi (yKm g c v b T k) o := b6
  show yGq ed w wd e o = if e < o ∧ yxFr (yKm g c v b T k) e = yxFr (yKm g c v b T k) o ∧ yxBy (yKm g c v b T k) e = yxBy (yKm g c v b T k) o ∧ yxLo (yKm g c v b T k) e ≤ yxHi (yKm g c v b T k) o + wd' ∧ yxLo (yKm g c v b T k) o ≤ yxHi (yKm g c v b T k) e + wd' then 1 else 0
  rw [← a1', ← a2', ← b1', ← b2', ← a5', ← a6', ← b5', ← b6']
  unfold yGq
  have q : (e < o ∧ (ed (0 + 6 * e)).toInt = (ed (0 + 6 * o)).toInt ∧ (ed (0 + 6 * e + 1)).toInt = (ed (0 + 6 * o + 1)).toInt ∧ (w = 0 ∨ (ed (0 + 6 * e + 4)).toInt ≤ (ed (0 + 6 * o + 5)).toInt + wd ∧ (ed (0 + 6 * o + 4)).toInt ≤ (ed (0 + 6 * e + 5)).toInt + wd)) ↔ (e < o ∧ (ed (0 + 6 * e)).toInt.toNat = (ed (0 + 6 * o)).toInt.toNat ∧ (ed (0 + 6 * e + 1)).toInt.toNat = (ed (0 + 6 * o + 1)).toInt.toNat ∧ (ed (0 + 6 * e + 4)).toInt ≤ (ed (0 + 6 * o + 5)).toInt + wd' ∧ (ed (0 + 6 * o + 4)).toInt ≤ (ed (0 + 6 * e + 5)).toInt + wd') := by
    constructor
    · rintro ⟨x1, x2, x3, x4⟩
      rcases hw with ⟨w1, w2⟩ | ⟨w1, w2⟩
      · exact ⟨x1, by omega, by omega, by omega, by omega⟩
      · rcases x4 with x4 | x4
        · omega
        · exact ⟨x1, by omega, by omega, by omega, by omega⟩
    · rintro ⟨x1, x2, x3, x4, x5⟩
      rcases hw with ⟨w1, w2⟩ | ⟨w1, w2⟩
      · exact ⟨x1, by omega, by omega, Or.inl w1⟩
      · exact ⟨x1, by omega, by omega, Or.inr ⟨by omega, by omega⟩⟩
  by_cases c9 : (e < o ∧ (ed (0 + 6 * e)).toInt = (ed (0 + 6 * o)).toInt ∧ (ed (0 + 6 * e + 1)).toInt = (ed (0 + 6 * o + 1)).toInt ∧ (w = 0 ∨ (ed (0 + 6 * e + 4)).toInt ≤ (ed (0 + 6 * o + 5)).toInt + wd ∧ (ed (0 + 6 * o + 4)).toInt ≤ (ed (0 + 6 * e + 5)).toInt + wd))
  · rw [if_pos c9, if_pos (q.mp c9)]
  · rw [if_neg c9, if_neg (fun x => c9 (q.mpr x))]
def yVgw (K : yMac) (mg w : Int) : Int := if w = 0 then yVg K 200 else if w = 1 then yVg K (2 * mg) else -1
theorem yS1_sv {f : Nat → Int} {n n' : Nat} {x y : Int} (h : x = yS1 f n + y) (hn : n' = n + 1) (hy : f n = y) : x = yS1 f n' := by
  subst hn
  show x = yS1 f n + f n
  omega
theorem yMC_h9 {g : Nat → Nat → Nat} {c : Nat → Nat} {v : Nat → Nat → Int} {b : Int} {T k N M E : Nat} {so le : Nat → Nat} {pf en : Nat → Int} {fr by_ to : Nat → Nat} {su lo hi : Nat → Int} (h : yMC g c v b T k N M so le pf en E fr by_ to su lo hi) (v9 : ∀ t i : Nat, yVd c b T t i → 0 ≤ v t i ∧ v t i ≤ 99) (e : Nat) (he : e < E) : (0 ≤ hi e ∧ hi e ≤ 99) ∧ 0 ≤ lo e ∧ lo e ≤ 99 := by
  obtain ⟨h1, h2, h3, h4, h5⟩ := h
  obtain ⟨t, i, x1, x2⟩ := (h3.2 _).mpr ⟨e, he, rfl⟩
  obtain ⟨_, b2, b3⟩ := h5 e he
  have a2 := b3.2.1
  have a3 := b2.2.1
  refine ⟨⟨a2, ?_⟩, ?_, a3⟩
  · rcases b3.1 with q | ⟨t, i, q1, q2⟩
    · omega
    · have := (v9 t i q1.1).2
      omega
  · rcases b2.1 with q | ⟨t, i, q1, q2⟩
    · omega
    · have := (v9 t i q1.1).1
      omega
theorem yVr_9 {R : Nat → Int32} {b : Int} {T : Nat} (h : yVr R) : ∀ t i : Nat, yVd (zcR R) b T t i → 0 ≤ zvR R t i ∧ zvR R t i ≤ 99 := fun t i q => h t i q.2.2
theorem yVgw_0 {K : yMac} {mg w z : Int} (h : z = yVg K 200) (hw : w = 0) : z = yVgw K mg w := by
  subst hw
  exact h
theorem yVgw_1 {K : yMac} {mg w z : Int} (h : z = yVg K (2 * mg)) (hw : w = 1) : z = yVgw K mg w := by
  subst hw
  exact h
theorem yVgw_n {K : yMac} {mg w z : Int} (h : z = -1) (hw : ¬ (0 ≤ w ∧ w ≤ 1)) : z = yVgw K mg w := by
  unfold yVgw
  rw [if_neg (by omega), if_neg (by omega)]
  exact h
theorem yVgw_r {K : yMac} {mg w z : Int} (h : ∀ wd' : Int, (w = 0 ∧ wd' = 200 ∨ w = 1 ∧ wd' = 2 * mg) → z = yVg K wd') (hw : w = 0 ∨ w = 1) : z = yVgw K mg w := by
  rcases hw with hw | hw
  · exact yVgw_0 (h 200 (Or.inl ⟨hw, rfl⟩)) hw
  · exact yVgw_1 (h (2 * mg) (Or.inr ⟨hw, rfl⟩)) hw
