/-! state() -/
theorem y_pig : ∀ (n m : Nat) (f : Nat → Nat), (∀ i : Nat, i < n → f i < m) → (∀ i j : Nat, i < n → j < n → f i = f j → i = j) → n ≤ m
  | 0, _, _, _, _ => Nat.zero_le _
  | n + 1, 0, f, h, _ => absurd (h 0 (by omega)) (Nat.not_lt_zero _)
  | n + 1, m + 1, f, h, hi => by
    have ih := y_pig n m (fun i => if f i = m then f n else f i) (fun i hin => by
      show (if f i = m then f n else f i) < m
      have a1 := h i (by omega)
      have a2 := h n (by omega)
      by_cases c9 : f i = m
      · rw [if_pos c9]
        have : f n ≠ m := fun q => by
          have := hi i n (by omega) (by omega) (by rw [c9, q])
          omega
        omega
      · rw [if_neg c9]
        omega) (fun i j h1 h2 e => by
      have e' : (if f i = m then f n else f i) = (if f j = m then f n else f j) := e
      by_cases c9 : f i = m
      · by_cases c8 : f j = m
        · exact hi i j (by omega) (by omega) (by rw [c9, c8])
        · rw [if_pos c9, if_neg c8] at e'
          have := hi n j (by omega) (by omega) e'
          omega
      · by_cases c8 : f j = m
        · rw [if_neg c9, if_pos c8] at e'
          have := hi i n (by omega) (by omega) e'
          omega
        · rw [if_neg c9, if_neg c8] at e'
          exact hi i j (by omega) (by omega) e')
    omega
/-- rows told by other numbers are as many -/
theorem ySl_card {pt : Nat → Nat → Nat} {key key' : Nat → Nat → Int} {V : Nat → Nat → Prop} {q n n' : Nat} {f f' : Nat → Int} (h : ySl f n (yM pt key V q)) (k : ySl f' n' (yM pt key' V q)) (e : ∀ t i t' i' : Nat, V t i → V t' i' → key' t i = key' t' i' → key t i = key t' i') : n ≤ n' := by
  have key0 : ∀ j : Nat, ∃ j' : Nat, j < n → j' < n' ∧ ∃ t i : Nat, V t i ∧ key t i = f j ∧ f' j' = key' t i := fun j => by
    by_cases c9 : j < n
    · obtain ⟨t, i, x1, x2, x3⟩ := (h.2 (f j)).mpr ⟨j, c9, rfl⟩
      obtain ⟨j', y1, y2⟩ := (k.2 (key' t i)).mp ⟨t, i, x1, x2, rfl⟩
      exact ⟨j', fun _ => ⟨y1, t, i, x1, x3, y2⟩⟩
    · exact ⟨0, fun q => absurd q c9⟩
  obtain ⟨G, hG⟩ := Classical.axiomOfChoice key0
  refine y_pig n n' G (fun i hi => (hG i hi).1) (fun i j hi hj eg => ?_)
  obtain ⟨_, t, i1, x1, x2, x3⟩ := hG i hi
  obtain ⟨_, t', i1', y1, y2, y3⟩ := hG j hj
  have e1 := e t i1 t' i1' x1 y1 (by rw [← x3, ← y3, eg])
  rw [x2, y2] at e1
  by_cases c9 : i = j
  · exact c9
  · exfalso
    by_cases c8 : i < j
    · have := h.1 i j c8 hj
      omega
    · have := h.1 j i (by omega) hi
      omega
def ySta (K : yMac) (key : Nat → Nat → Int) (g : Nat → Nat → Nat) (c : Nat → Nat) (b : Int) (T : Nat) (s w z : Int) : Prop :=
  (¬ (0 ≤ s ∧ s < (yxM K : Int)) ∨ ¬ (0 ≤ w ∧ w ≤ 6) → z = -1) ∧ (0 ≤ s ∧ s < (yxM K : Int) → (w = 0 → z = (yxLe K s.toNat : Int)) ∧ (w = 1 → z = yxPf K s.toNat) ∧ (w = 2 → z = if 0 < yxEn K s.toNat then 1 else 0) ∧ (w = 3 → z = yxEn K s.toNat) ∧ (w = 4 → z = yS1 (fun e => if (yxFr K e : Int) = s then 1 else 0) (yxE K)) ∧ (w = 5 → z = yS1 (fun e => if (yxFr K e : Int) = s then yxSu K e else 0) (yxE K)) ∧ (w = 6 → 0 ≤ z ∧ ∃ f : Nat → Int, ySl f z.toNat (yM (ypt g c b) key (yPf c b T 0) (yxLe K s.toNat))))
theorem ySta_u {K : yMac} {g : Nat → Nat → Nat} {c : Nat → Nat} {b : Int} {T k : Nat} {s w z z' : Int} (hg : yLt g c T) (h : ySta K (fun t i => ((yk1 g c t i k : Nat) : Int)) g c b T s w z) (h' : ySta K (fun t i => ((yk2 g c t i k : Nat) : Int)) g c b T s w z') : z = z' := by
  by_cases c9 : ¬ (0 ≤ s ∧ s < (yxM K : Int)) ∨ ¬ (0 ≤ w ∧ w ≤ 6)
  · rw [h.1 c9, h'.1 c9]
  · have hs : 0 ≤ s ∧ s < (yxM K : Int) := by omega
    obtain ⟨a0, a1, a2, a3, a4, a5, a6⟩ := h.2 hs
    obtain ⟨b0, b1, b2, b3, b4, b5, b6⟩ := h'.2 hs
    have hw : w = 0 ∨ w = 1 ∨ w = 2 ∨ w = 3 ∨ w = 4 ∨ w = 5 ∨ w = 6 := by omega
    rcases hw with q | q | q | q | q | q | q
    · rw [a0 q, b0 q]
    · rw [a1 q, b1 q]
    · rw [a2 q, b2 q]
    · rw [a3 q, b3 q]
    · rw [a4 q, b4 q]
    · rw [a5 q, b5 q]
    · obtain ⟨z0, f, x⟩ := a6 q
      obtain ⟨z1, f', y⟩ := b6 q
      have V : ∀ t i : Nat, yPf c b T 0 t i → t < T ∧ i ≤ c t := fun t i v => by
        rcases v with ⟨v1, v2, v3⟩ | ⟨_, v⟩
        · exact ⟨v1, v3⟩
        · omega
      have e1 := ySl_card x y (fun t i t' i' v v' e => by
        have v1 := V t i v
        have v2 := V t' i' v'
        have e' : ((yk2 g c t i k : Nat) : Int) = ((yk2 g c t' i' k : Nat) : Int) := e
        have := (yk_12 hg v1.1 v2.1 v1.2 v2.2 k).mpr (by omega)
        show ((yk1 g c t i k : Nat) : Int) = ((yk1 g c t' i' k : Nat) : Int)
        rw [this])
      have e2 := ySl_card y x (fun t i t' i' v v' e => by
        have v1 := V t i v
        have v2 := V t' i' v'
        have e' : ((yk1 g c t i k : Nat) : Int) = ((yk1 g c t' i' k : Nat) : Int) := e
        have := (yk_12 hg v1.1 v2.1 v1.2 v2.2 k).mp (by omega)
        show ((yk2 g c t i k : Nat) : Int) = ((yk2 g c t' i' k : Nat) : Int)
        rw [this])
      omega
theorem ySta_n {K : yMac} {key : Nat → Nat → Int} {g : Nat → Nat → Nat} {c : Nat → Nat} {b : Int} {T : Nat} {s w z : Int} {N M E : Nat} {so le : Nat → Nat} {pf en : Nat → Int} {fr by_ to : Nat → Nat} {su lo hi : Nat → Int} (h : yAr K N M E so le pf en fr by_ to su lo hi) (hz : z = -1) (hs : ¬ (0 ≤ s ∧ s < (M : Int)) ∨ ¬ (0 ≤ w ∧ w ≤ 6)) : ySta K key g c b T s w z := by
  have e := h.2.1
  rw [e] at hs
  exact ⟨fun _ => hz, fun q => ⟨fun _ => by omega, fun _ => by omega, fun _ => by omega, fun _ => by omega, fun _ => by omega, fun _ => by omega, fun _ => by omega⟩⟩
theorem ySta_s {K : yMac} {key : Nat → Nat → Int} {g : Nat → Nat → Nat} {c : Nat → Nat} {b : Int} {T : Nat} {s w z : Int} {N M E : Nat} {so le : Nat → Nat} {pf en : Nat → Int} {fr by_ to : Nat → Nat} {su lo hi : Nat → Int} (h : yAr K N M E so le pf en fr by_ to su lo hi) (hs : 0 ≤ s ∧ s < (M : Int)) (hz : w = 0 ∧ z = (le s.toNat : Int) ∨ w = 1 ∧ z = pf s.toNat ∨ w = 2 ∧ (0 < en s.toNat ∧ z = 1 ∨ ¬ 0 < en s.toNat ∧ z = 0) ∨ w = 3 ∧ z = en s.toNat ∨ w = 4 ∧ z = yS1 (fun e => if (fr e : Int) = s then 1 else 0) E ∨ w = 5 ∧ z = yS1 (fun e => if (fr e : Int) = s then su e else 0) E ∨ w = 6 ∧ 0 ≤ z ∧ ∃ f : Nat → Int, ySl f z.toNat (yM (ypt g c b) key (yPf c b T 0) (le s.toNat))) : ySta K key g c b T s w z := by
  obtain ⟨_, e2, e3, _, e5, e6⟩ := h
  obtain ⟨q1, q2, q3⟩ := e5 s.toNat (by omega)
  have s4 : yS1 (fun e => if (fr e : Int) = s then 1 else 0) E = yS1 (fun e => if (yxFr K e : Int) = s then 1 else 0) (yxE K) := by
    rw [← e3]
    exact yS1_cg _ (fun e he => by
      show (if (fr e : Int) = s then (1 : Int) else 0) = if (yxFr K e : Int) = s then 1 else 0
      rw [(e6 e he).1.1])
  have s5 : yS1 (fun e => if (fr e : Int) = s then su e else 0) E = yS1 (fun e => if (yxFr K e : Int) = s then yxSu K e else 0) (yxE K) := by
    rw [← e3]
    exact yS1_cg _ (fun e he => by
      show (if (fr e : Int) = s then su e else 0) = if (yxFr K e : Int) = s then yxSu K e else 0
      rw [(e6 e he).1.1, (e6 e he).2.1])
  refine ⟨fun q => ?_, fun _ => ⟨fun w0 => ?_, fun w0 => ?_, fun w0 => ?_, fun w0 => ?_, fun w0 => ?_, fun w0 => ?_, fun w0 => ?_⟩⟩
  · exfalso
    have : 0 ≤ w ∧ w ≤ 6 := by
      rcases hz with ⟨x, _⟩ | ⟨x, _⟩ | ⟨x, _⟩ | ⟨x, _⟩ | ⟨x, _⟩ | ⟨x, _⟩ | ⟨x, _⟩ <;> omega
    rw [← e2] at q
    omega
  · rcases hz with ⟨x, y⟩ | ⟨x, _⟩ | ⟨x, _⟩ | ⟨x, _⟩ | ⟨x, _⟩ | ⟨x, _⟩ | ⟨x, _⟩
    · rw [y, q1]
    all_goals omega
  · rcases hz with ⟨x, _⟩ | ⟨x, y⟩ | ⟨x, _⟩ | ⟨x, _⟩ | ⟨x, _⟩ | ⟨x, _⟩ | ⟨x, _⟩
    · omega
    · rw [y, q2]
    all_goals omega
  · rcases hz with ⟨x, _⟩ | ⟨x, _⟩ | ⟨x, y⟩ | ⟨x, _⟩ | ⟨x, _⟩ | ⟨x, _⟩ | ⟨x, _⟩
    · omega
    · omega
    · rw [← q3]
      rcases y with ⟨y1, y2⟩ | ⟨y1, y2⟩
      · rw [if_pos y1, y2]
      · rw [if_neg y1, y2]
    all_goals omega
  · rcases hz with ⟨x, _⟩ | ⟨x, _⟩ | ⟨x, _⟩ | ⟨x, y⟩ | ⟨x, _⟩ | ⟨x, _⟩ | ⟨x, _⟩
    · omega
    · omega
    · omega
    · rw [y, q3]
    all_goals omega
  · rcases hz with ⟨x, _⟩ | ⟨x, _⟩ | ⟨x, _⟩ | ⟨x, _⟩ | ⟨x, y⟩ | ⟨x, _⟩ | ⟨x, _⟩
    · omega
    · omega
    · omega
    · omega
    · rw [y, s4]
    all_goals omega
  · rcases hz with ⟨x, _⟩ | ⟨x, _⟩ | ⟨x, _⟩ | ⟨x, _⟩ | ⟨x, _⟩ | ⟨x, y⟩ | ⟨x, _⟩
    · omega
    · omega
    · omega
    · omega
    · omega
    · rw [y, s5]
    · omega
  · rcases hz with ⟨x, _⟩ | ⟨x, _⟩ | ⟨x, _⟩ | ⟨x, _⟩ | ⟨x, _⟩ | ⟨x, _⟩ | ⟨x, y⟩
    · omega
    · omega
    · omega
    · omega
    · omega
    · omega
    · rw [← q1]
      exact y
/-- EDGES of one STATE lie side by side -/
theorem yFE_sum {fr F : Nat → Int} {E s : Nat} {x y : Int} (h1 : yFE fr E s x) (h2 : yFE fr E (s + 1) y) : yS1 (fun e => if x ≤ (e : Int) then F e else 0) y.toNat = yS1 (fun e => if fr e = (s : Int) then F e else 0) E := by
  have hy := h2.1
  have hy2 := h2.2.1
  rw [yS1_tl (f := fun e => if fr e = (s : Int) then F e else 0) (a := y.toNat) E (by omega) (fun i i1 i2 => if_neg (fun q => by
    have := (h2.2.2 i i2).mp (by omega)
    omega))]
  refine yS1_cg _ (fun e he => ?_)
  have a1 := h1.2.2 e (by omega)
  have a2 := (h2.2.2 e (by omega)).mpr (by omega)
  show (if x ≤ (e : Int) then F e else 0) = if fr e = (s : Int) then F e else 0
  by_cases c9 : x ≤ (e : Int)
  · rw [if_pos c9, if_pos (by omega)]
  · rw [if_neg c9, if_neg (by omega)]
theorem yS1_ge {x : Int} (hx : 0 ≤ x) (n : Nat) : yS1 (fun e => if x ≤ (e : Int) then 1 else 0) n = if x ≤ (n : Int) then (n : Int) - x else 0 := by
  induction n with
  | zero =>
    show (0 : Int) = _
    split <;> omega
  | succ n ih =>
    show yS1 (fun e => if x ≤ (e : Int) then 1 else 0) n + (if x ≤ (n : Int) then 1 else 0) = _
    rw [ih]
    by_cases c9 : x ≤ (n : Int)
    · rw [if_pos c9, if_pos c9, if_pos (by omega)]
      omega
    · rw [if_neg c9, if_neg c9]
      split <;> omega
theorem yFE_cnt {fr : Nat → Int} {E s : Nat} {x y : Int} (h1 : yFE fr E s x) (h2 : yFE fr E (s + 1) y) : y - x = yS1 (fun e => if fr e = (s : Int) then 1 else 0) E ∧ x ≤ y := by
  have l : x ≤ y := by
    by_cases c9 : x ≤ y
    · exact c9
    · exfalso
      have hy := h2.1
      have hx := h1.2.1
      have a1 := (h1.2.2 y.toNat (by omega)).mpr (by omega)
      have a2 := (h2.2.2 y.toNat (by omega)).mp (by omega)
      omega
  have q := yFE_sum (F := fun _ => 1) h1 h2
  refine ⟨?_, l⟩
  rw [← q, yS1_ge h1.1, if_pos (by have := h2.1; omega)]
  have := h2.1
  omega
theorem yMC_s9 {g : Nat → Nat → Nat} {c : Nat → Nat} {v : Nat → Nat → Int} {b : Int} {T k N M E : Nat} {so le : Nat → Nat} {pf en : Nat → Int} {fr by_ to : Nat → Nat} {su lo hi : Nat → Int} (h : yMC g c v b T k N M so le pf en E fr by_ to su lo hi) (hc : ∀ t : Nat, c t ≤ 12) (hT : T ≤ 20) (e : Nat) (he : e < E) : 1 ≤ su e ∧ su e ≤ 240 := by
  refine ⟨yMC_su h e he, ?_⟩
  rw [(h.2.2.2.2 e he).1]
  have a := yS2_b (f := fun t i => if yCd g c b so t i = ((2410 * fr e + 241 * by_ e + to e : Nat) : Int) then 1 else 0) (c := c) (b := b) T (fun t _ => hc t) (fun t i => by
    show 0 ≤ (if yCd g c b so t i = ((2410 * fr e + 241 * by_ e + to e : Nat) : Int) then (1 : Int) else 0) ∧ (if yCd g c b so t i = ((2410 * fr e + 241 * by_ e + to e : Nat) : Int) then (1 : Int) else 0) ≤ 1
    split <;> omega)
  omega
section
variable {R : Nat → Int32} {b : Int} {k : Nat} {M E : Int} {so le pf en ks su lo hi fe ed : Nat → Int32}
theorem yMm_su (hR : yRw R) (h : yMm R b k M E so le pf en ks su lo hi fe ed) (e : Nat) (he : e < E.toNat) : 0 ≤ (su e).toInt ∧ (su e).toInt ≤ 1000 := by
  obtain ⟨N, h1, h2, _⟩ := h
  have a : 1 ≤ (su e).toInt ∧ (su e).toInt ≤ 240 := yMC_s9 h2 (fun t => yRw_c hR t) (by have := hR.1; omega) e he
  omega
theorem yMm_fe (h : yMm R b k M E so le pf en ks su lo hi fe ed) (s : Nat) (hs : s ≤ M.toNat) : yFE (fun e9 => (ks e9).toInt / 2560) E.toNat s (fe s).toInt := by
  obtain ⟨N, h1, h2, h3, h4⟩ := h
  exact h4 s hs
theorem yKf_s {s : Int} {F : Nat → Int} {n : Nat} (h0 : ∀ j : Nat, 0 ≤ (ks j).toInt) : yS1 (fun e => if (ks e).toInt / 2560 = s then F e else 0) n = yS1 (fun e => if ((yKf ks e : Nat) : Int) = s then F e else 0) n := yS1_cg n (fun e _ => by
  show (if (ks e).toInt / 2560 = s then F e else 0) = if ((yKf ks e : Nat) : Int) = s then F e else 0
  rw [(yKf_e (h0 e)).1])
end
/-- rows that follow a STATE's least PREFIX, in the reference's row -/
theorem yFo_at {g : Nat → Nat → Nat} {c : Nat → Nat} {v : Nat → Nat → Int} {b : Int} {T k N M E o : Nat} {so le : Nat → Nat} {pf en : Nat → Int} {fr by_ to : Nat → Nat} {su lo hi : Nat → Int} {key : Nat → Nat → Int} {fo co : Nat → Int32} {pm : Int} (n1 : yTP g c b T (N : Int)) (n2 : yMC g c v b T k N M so le pf en E fr by_ to su lo hi) (hf : yFo (ypt g c b) key c b T 0 pm.toNat o fo co) (hp : pm = ((ytr g c b T).1 : Int)) (s : Nat) (hs : s < M) : 0 ≤ (co (o + le s)).toInt ∧ ∃ f : Nat → Int, ySl f (co (o + le s)).toInt.toNat (yM (ypt g c b) key (yPf c b T 0) (le s)) := by
  have a := (n2.1.1 s hs).1
  have q : le s < pm.toNat := by
    rcases n1 with ⟨h1, h2⟩ | ⟨_, h2⟩ <;> omega
  have r := hf (le s) q
  exact ⟨r.1.1, _, r.2⟩
