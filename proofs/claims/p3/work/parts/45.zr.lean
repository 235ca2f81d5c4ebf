/-! odd(), oddest() -/
/-- SUPPORT of the EDGE that a CALL goes -/
def ySp (g : Nat → Nat → Nat) (c : Nat → Nat) (b : Int) (so : Nat → Nat) (T t i : Nat) : Int := yS2 (fun t1 i1 => if yCd g c b so t1 i1 = yCd g c b so t i then 1 else 0) c b T
/-- WEAKNESS, and how many CALLS go an EDGE of just that SUPPORT -/
def yWk (f : Nat → Int) : Nat → Int × Int
  | 0 => (999, 0)
  | n + 1 => if f n < (yWk f n).1 then (f n, 1) else if f n = (yWk f n).1 then ((yWk f n).1, (yWk f n).2 + 1) else yWk f n
theorem yWk_cg {f f' : Nat → Int} (n : Nat) (h : ∀ i : Nat, i < n → f i = f' i) : yWk f n = yWk f' n := by
  induction n with
  | zero => rfl
  | succ n ih =>
    have e := ih (fun i hi => h i (by omega))
    show (if f n < (yWk f n).1 then (f n, 1) else if f n = (yWk f n).1 then ((yWk f n).1, (yWk f n).2 + 1) else yWk f n) = (if f' n < (yWk f' n).1 then (f' n, 1) else if f' n = (yWk f' n).1 then ((yWk f' n).1, (yWk f' n).2 + 1) else yWk f' n)
    rw [e, h n (by omega)]
theorem yWk_b (f : Nat → Int) (n : Nat) : 0 ≤ (yWk f n).2 ∧ (yWk f n).2 ≤ (n : Int) := by
  induction n with
  | zero => exact ⟨Int.le_refl _, Int.le_refl _⟩
  | succ n ih =>
    show 0 ≤ (if f n < (yWk f n).1 then (f n, (1 : Int)) else if f n = (yWk f n).1 then ((yWk f n).1, (yWk f n).2 + 1) else yWk f n).2 ∧ (if f n < (yWk f n).1 then (f n, (1 : Int)) else if f n = (yWk f n).1 then ((yWk f n).1, (yWk f n).2 + 1) else yWk f n).2 ≤ ((n + 1 : Nat) : Int)
    by_cases c9 : f n < (yWk f n).1
    · rw [if_pos c9]
      show (0 : Int) ≤ 1 ∧ (1 : Int) ≤ ((n + 1 : Nat) : Int)
      omega
    · rw [if_neg c9]
      by_cases c8 : f n = (yWk f n).1
      · rw [if_pos c8]
        show 0 ≤ (yWk f n).2 + 1 ∧ (yWk f n).2 + 1 ≤ ((n + 1 : Nat) : Int)
        omega
      · rw [if_neg c8]
        omega
theorem yWk_s {f : Nat → Int} {n : Nat} {w x w' x' y : Int} (h : w = (yWk f n).1 ∧ x = (yWk f n).2) (hy : f n = y) (e : y < w ∧ w' = y ∧ x' = 1 ∨ ¬ y < w ∧ w' = w ∧ (y = w ∧ x' = x + 1 ∨ ¬ y = w ∧ x' = x)) : w' = (yWk f (n + 1)).1 ∧ x' = (yWk f (n + 1)).2 := by
  obtain ⟨h1, h2⟩ := h
  show w' = (if f n < (yWk f n).1 then (f n, 1) else if f n = (yWk f n).1 then ((yWk f n).1, (yWk f n).2 + 1) else yWk f n).1 ∧ x' = (if f n < (yWk f n).1 then (f n, 1) else if f n = (yWk f n).1 then ((yWk f n).1, (yWk f n).2 + 1) else yWk f n).2
  rw [hy]
  rcases e with ⟨e1, e2, e3⟩ | ⟨e1, e2, ⟨e3, e4⟩ | ⟨e3, e4⟩⟩
  · rw [if_pos (by omega)]
    exact ⟨e2, e3⟩
  · rw [if_neg (by omega), if_pos (by omega)]
    exact ⟨by omega, by omega⟩
  · rw [if_neg (by omega), if_neg (by omega)]
    exact ⟨by omega, by omega⟩
/-- whether a TRACE is odder -/
def yOd (W : Nat → Int × Int) (o t : Nat) : Int := if (W o).1 < (W t).1 ∨ (W o).1 = (W t).1 ∧ ((W t).2 < (W o).2 ∨ (W o).2 = (W t).2 ∧ o < t) then 1 else 0
def yOp (W : Nat → Int × Int) (T t : Nat) : Int := yS1 (fun o => yOd W o t) T
theorem yOp_cg {W W' : Nat → Int × Int} {T t : Nat} (h : ∀ o : Nat, o < T → W o = W' o) (ht : t < T) : yOp W T t = yOp W' T t := yS1_cg T (fun o ho => by
  show yOd W o t = yOd W' o t
  unfold yOd
  rw [h o ho, h t ht])
theorem yOd_b (W : Nat → Int × Int) (o t : Nat) : 0 ≤ yOd W o t ∧ yOd W o t ≤ 1 := by
  unfold yOd
  split <;> omega
theorem yOd_r (W : Nat → Int × Int) (t : Nat) : yOd W t t = 0 := if_neg (fun q => by
  rcases q with q | ⟨_, q | ⟨_, q⟩⟩ <;> omega)
/-- its place is below their number -/
theorem yOp_b {W : Nat → Int × Int} {t : Nat} (T : Nat) (ht : t < T) : 0 ≤ yOp W T t ∧ yOp W T t < (T : Int) := by
  have key : ∀ n : Nat, 0 ≤ yS1 (fun o => yOd W o t) n ∧ yS1 (fun o => yOd W o t) n ≤ (n : Int) - (if t < n then 1 else 0) := fun n => by
    induction n with
    | zero =>
      show (0 : Int) ≤ 0 ∧ (0 : Int) ≤ _
      rw [if_neg (by omega)]
      omega
    | succ n ih =>
      show 0 ≤ yS1 (fun o => yOd W o t) n + yOd W n t ∧ yS1 (fun o => yOd W o t) n + yOd W n t ≤ _
      have b := yOd_b W n t
      by_cases c9 : t = n
      · rw [c9] at ih ⊢
        rw [yOd_r]
        rw [if_neg (by omega)] at ih
        rw [if_pos (by omega)]
        omega
      · by_cases c8 : t < n
        · rw [if_pos c8] at ih
          rw [if_pos (by omega)]
          omega
        · rw [if_neg c8] at ih
          rw [if_neg (by omega)]
          omega
  have a := key T
  rw [if_pos ht] at a
  exact ⟨a.1, by show yS1 (fun o => yOd W o t) T < (T : Int); omega⟩
theorem yOp_s {W : Nat → Int × Int} {o o' t : Nat} {x x' z : Int} (h : x = yS1 (fun o => yOd W o t) o) (ho : o' = o + 1) (hz : z = yOd W o t) (e : x' = x + z) : x' = yS1 (fun o => yOd W o t) o' := yS1_st h ho rfl (by omega)
noncomputable abbrev yWR (K : yMac) (R : Nat → Int32) : Nat → Int × Int := fun t => yWk (fun i => ySp (zgR R) (zcR R) (-1) (yxSo K) (R 0).toInt.toNat t i) (zcR R t)
theorem yWR_E {K : yMac} {R R' : Nat → Int32} (h : zE R R') : yWR K R = yWR K R' := by
  have h0 := congrArg Int32.toInt h.1
  show (fun t => yWk (fun i => ySp (zgR R) (zcR R) (-1) (yxSo K) (R 0).toInt.toNat t i) (zcR R t)) = fun t => yWk (fun i => ySp (zgR R') (zcR R') (-1) (yxSo K) (R' 0).toInt.toNat t i) (zcR R' t)
  rw [zE_gR h, zE_cR h, h0]
def yOdd (W : Nat → Int × Int) (n t w : Int) : Int :=
  if ¬ (0 ≤ t ∧ t < n) ∨ ¬ (0 ≤ w ∧ w ≤ 2) then -1
  else if w = 0 then (W t.toNat).1
  else if w = 1 then (W t.toNat).2
  else yOp W n.toNat t.toNat
theorem yOdd_n {W : Nat → Int × Int} {n t w z : Int} (hz : z = -1) (h : ¬ (0 ≤ t ∧ t < n) ∨ ¬ (0 ≤ w ∧ w ≤ 2)) : z = yOdd W n t w := by
  unfold yOdd
  rw [if_pos h]
  exact hz
theorem yOdd_s {W : Nat → Int × Int} {n t w z : Int} (ht : 0 ≤ t ∧ t < n) (h : w = 0 ∧ z = (W t.toNat).1 ∨ w = 1 ∧ z = (W t.toNat).2 ∨ w = 2 ∧ z = yOp W n.toNat t.toNat) : z = yOdd W n t w := by
  unfold yOdd
  rw [if_neg (by omega)]
  rcases h with ⟨rfl, h⟩ | ⟨rfl, h⟩ | ⟨rfl, h⟩
  · exact h
  · exact h
  · exact h
/-- the TRACE at a place -/
def yOst (W : Nat → Int × Int) (n i z : Int) : Prop := (0 ≤ z ∧ z < n ∧ yOp W n.toNat z.toNat = i ∧ ∀ t : Nat, (t : Int) < z → ¬ yOp W n.toNat t = i) ∨ (z = -1 ∧ ∀ t : Nat, (t : Int) < n → ¬ yOp W n.toNat t = i)
theorem yOst_u {W : Nat → Int × Int} {n i z z' : Int} (h : yOst W n i z) (k : yOst W n i z') : z = z' := by
  rcases h with ⟨h1, h2, h3, h4⟩ | ⟨h1, h2⟩
  · rcases k with ⟨k1, k2, k3, k4⟩ | ⟨k1, k2⟩
    · by_cases c9 : z < z'
      · exact absurd h3 (k4 z.toNat (by omega))
      · by_cases c8 : z' < z
        · exact absurd k3 (h4 z'.toNat (by omega))
        · omega
    · exact absurd h3 (k2 z.toNat (by omega))
  · rcases k with ⟨k1, k2, k3, k4⟩ | ⟨k1, k2⟩
    · exact absurd k3 (h2 z'.toNat (by omega))
    · omega
theorem yOst_o {W : Nat → Int × Int} {n i : Int} (h : ¬ (0 ≤ i ∧ i < n)) : yOst W n i (-1) := Or.inr ⟨rfl, fun t ht q => by
  have := yOp_b (W := W) n.toNat (t := t) (by omega)
  omega⟩
/-! the class's -/
/-- SUPPORT by what the class holds -/
def yWr (su ed pl : Nat → Int32) (t i : Nat) : Int := (su (ed (pl (13 * t + (i + 1))).toInt.toNat).toInt.toNat).toInt
theorem ySp_cg {g : Nat → Nat → Nat} {c : Nat → Nat} {b : Int} {so so' : Nat → Nat} {T t i N : Nat} (hN : ∀ t i : Nat, t < T → ¬ (t : Int) = b → i ≤ c t → ypt g c b t i < N) (h : ∀ q : Nat, q < N → so q = so' q) (hv : yVd c b T t i) : ySp g c b so T t i = ySp g c b so' T t i := by
  have cd : ∀ t i : Nat, yVd c b T t i → yCd g c b so t i = yCd g c b so' t i := fun t i hv => by
    unfold yCd
    rw [h _ (hN t i hv.1 hv.2.1 (by have := hv.2.2; omega)), h _ (hN t (i + 1) hv.1 hv.2.1 (by have := hv.2.2; omega))]
  unfold ySp
  exact yS2_cg T (fun t1 i1 x1 x2 x3 => by
    show (if yCd g c b so t1 i1 = yCd g c b so t i then (1 : Int) else 0) = if yCd g c b so' t1 i1 = yCd g c b so' t i then 1 else 0
    rw [cd t1 i1 ⟨x1, x2, x3⟩, cd t i hv])
section
variable {R : Nat → Int32} {b : Int} {k : Nat} {M E : Int} {so le pf en ks su lo hi fe ed pl : Nat → Int32}
theorem yWr_l (hR : yRw R) (h : yMm R b k M E so le pf en ks su lo hi fe ed) (hp : yPL (zgR R) (zcR R) b (R 0).toInt.toNat 0 pl) (t i : Nat) (hv : yVd (zcR R) b (R 0).toInt.toNat t i) : yWr su ed pl t i = ySp (zgR R) (zcR R) b (yxSo (yKR R b k)) (R 0).toInt.toNat t i := by
  obtain ⟨N, h1, h2, h3, _⟩ := h
  have K := yMC_K (yRw_g hR _) h1 h2
  obtain ⟨q1, q2, q3⟩ := h3 t i hv
  have p9 := hp t (i + 1) hv.1 hv.2.1 (by have := hv.2.2; omega)
  rw [show 0 + 13 * t + (i + 1) = 13 * t + (i + 1) by omega] at p9
  unfold yWr
  rw [p9, show (((ypt (zgR R) (zcR R) b t (i + 1) : Nat) : Int)).toNat = ypt (zgR R) (zcR R) b t (i + 1) by omega]
  have e1 := (h2.2.2.2.2 (ed (ypt (zgR R) (zcR R) b t (i + 1))).toInt.toNat (by omega)).1
  have e2 : (su (ed (ypt (zgR R) (zcR R) b t (i + 1))).toInt.toNat).toInt = ySp (zgR R) (zcR R) b (yN so) (R 0).toInt.toNat t i := by
    unfold ySp
    rw [q3]
    exact e1
  rw [e2]
  refine ySp_cg (N := N) (fun t i x1 x2 x3 => by
    have := yTP_lt h1 (yRw_g hR _) x1 x2 x3
    omega) (fun q hq => K.2.2.2.1 q hq) hv
theorem yWR_l {we ca : Nat → Int32} (hR : yRw R) (h : yMm R (-1) k M E so le pf en ks su lo hi fe ed) (hp : yPL (zgR R) (zcR R) (-1) (R 0).toInt.toNat 0 pl) (hw : ∀ t : Nat, (t : Int) < (R 0).toInt → (we t).toInt = (yWk (yWr su ed pl t) (zcR R t)).1 ∧ (ca t).toInt = (yWk (yWr su ed pl t) (zcR R t)).2) (t : Nat) (ht : (t : Int) < (R 0).toInt) : ((we t).toInt, (ca t).toInt) = yWR (yKR R (-1) k) R t := by
  obtain ⟨a1, a2⟩ := hw t ht
  have e : yWk (yWr su ed pl t) (zcR R t) = yWk (fun i => ySp (zgR R) (zcR R) (-1) (yxSo (yKR R (-1) k)) (R 0).toInt.toNat t i) (zcR R t) := yWk_cg _ (fun i hi => yWr_l hR h hp t i ⟨by omega, by omega, hi⟩)
  rw [e] at a1 a2
  show _ = yWk (fun i => ySp (zgR R) (zcR R) (-1) (yxSo (yKR R (-1) k)) (R 0).toInt.toNat t i) (zcR R t)
  rw [a1, a2]
end
/-- rows of numbers as what is told of TRACES -/
abbrev yWa (we ca : Nat → Int32) : Nat → Int × Int := fun t => ((we t).toInt, (ca t).toInt)
/-! the reference's -/
theorem ySp_r {g : Nat → Nat → Nat} {c : Nat → Nat} {v : Nat → Nat → Int} {b : Int} {T k N M E : Nat} {so le : Nat → Nat} {pf en : Nat → Int} {fr by_ to : Nat → Nat} {su lo hi : Nat → Int} {r : Nat} {code : Int} {t i : Nat} (hg : yLt g c T) (h1 : yTP g c b T (N : Int)) (h2 : yMC g c v b T k N M so le pf en E fr by_ to su lo hi) (hv : yVd c b T t i) (hc : code = yCd g c b so t i) (hlt : ∀ j : Nat, j < r → ((2410 * fr j + 241 * by_ j + to j : Nat) : Int) < code) (hr : r < E ∧ ((2410 * fr r + 241 * by_ r + to r : Nat) : Int) = code ∨ r = E ∨ r < E ∧ code < ((2410 * fr r + 241 * by_ r + to r : Nat) : Int)) : r < E ∧ su r = ySp g c b (yxSo (yKm g c v b T k)) T t i := by
  have K := yMC_K hg h1 h2
  obtain ⟨e, e1, e2⟩ := (h2.2.2.1.2 code).mp ⟨t, i, hv, hc.symm⟩
  have e2' : ((2410 * fr e + 241 * by_ e + to e : Nat) : Int) = code := e2
  have hre : r < E ∧ ((2410 * fr r + 241 * by_ r + to r : Nat) : Int) = code := by
    have ner : ¬ e < r := fun q => by
      have := hlt e q
      omega
    rcases hr with hr | hr | hr
    · exact hr
    · omega
    · exfalso
      by_cases c9 : r = e
      · rw [c9] at hr
        omega
      · have : ((2410 * fr r + 241 * by_ r + to r : Nat) : Int) < ((2410 * fr e + 241 * by_ e + to e : Nat) : Int) := h2.2.2.1.1 r e (by omega) e1
        omega
  refine ⟨hre.1, ?_⟩
  rw [(h2.2.2.2.2 r hre.1).1, hre.2, hc]
  exact ySp_cg (N := N) (fun t i x1 x2 x3 => by
    have := yTP_lt h1 hg x1 x2 x3
    omega) (fun q hq => K.2.2.2.1 q hq) hv
/-- a CALL met -/
def yMt (we ca we1 ca1 : Nat → Int32) (t : Nat) (s : Int) : Prop := (∀ q : Nat, q ≠ t → we1 q = we q ∧ ca1 q = ca q) ∧ (s < (we t).toInt ∧ (we1 t).toInt = s ∧ (ca1 t).toInt = 1 ∨ ¬ s < (we t).toInt ∧ (we1 t).toInt = (we t).toInt ∧ (s = (we t).toInt ∧ (ca1 t).toInt = (ca t).toInt + 1 ∨ ¬ s = (we t).toInt ∧ (ca1 t).toInt = (ca t).toInt))
section
variable {we ca we1 ca0 ca1 : Nat → Int32} {t k1 k2 k3 k4 : Nat} {s x y : Int32}
theorem yMt_a (e1 : we1 = upd we k1 s) (e2 : ca0 = upd ca k2 0) (hy : y.toInt = 1) (e5 : ca1 = upd ca0 k4 y) (h1 : k1 = t) (h2 : k2 = t) (h4 : k4 = t) (hlt : s.toInt < (we t).toInt) : yMt we ca we1 ca1 t s.toInt := by
  rw [h1] at e1
  rw [h2] at e2
  rw [h4] at e5
  refine ⟨fun q hq => ⟨by rw [e1, z_at, if_neg hq], by rw [e5, z_at, if_neg hq, e2, z_at, if_neg hq]⟩, Or.inl ⟨hlt, by rw [e1, z_at, if_pos rfl], ?_⟩⟩
  rw [e5, z_at, if_pos rfl, hy]
theorem yMt_b (e3 : x = ca k3) (e4 : y = x + 1) (e5 : ca1 = upd ca k4 y) (h3 : k3 = t) (h4 : k4 = t) (hn : ¬ s.toInt < (we t).toInt) (he : s.toInt = (we t).toInt) (hc : 0 ≤ (ca t).toInt ∧ (ca t).toInt ≤ 1000) : yMt we ca we ca1 t s.toInt := by
  subst h3 h4
  refine ⟨fun q hq => ⟨rfl, by rw [e5, z_at, if_neg hq]⟩, Or.inr ⟨hn, rfl, Or.inl ⟨he, ?_⟩⟩⟩
  rw [e5, z_at, if_pos rfl, zI1_add e4 (by rw [e3]; omega), e3]
theorem yMt_c (hn : ¬ s.toInt < (we t).toInt) (he : ¬ s.toInt = (we t).toInt) : yMt we ca we ca t s.toInt := ⟨fun _ _ => ⟨rfl, rfl⟩, Or.inr ⟨hn, rfl, Or.inr ⟨he, rfl⟩⟩⟩
theorem yOd_1 {a b : Nat} (h : (we a).toInt < (we b).toInt ∨ (we a).toInt = (we b).toInt ∧ ((ca b).toInt < (ca a).toInt ∨ (ca a).toInt = (ca b).toInt ∧ a < b)) : 1 = yOd (yWa we ca) a b := (if_pos h).symm
theorem yOd_0 {a b : Nat} (h : ¬ ((we a).toInt < (we b).toInt ∨ (we a).toInt = (we b).toInt ∧ ((ca b).toInt < (ca a).toInt ∨ (ca a).toInt = (ca b).toInt ∧ a < b))) : 0 = yOd (yWa we ca) a b := (if_neg h).symm
end
/-- what stands behind some TRACES, and CALLS of the next -/
def yWi (we ca : Nat → Int32) (F : Nat → Nat → Int) (c : Nat → Nat) (t : Int) : Prop := ∀ t9 : Nat, (t9 : Int) < t → (we t9).toInt = (yWk (F t9) (c t9)).1 ∧ (ca t9).toInt = (yWk (F t9) (c t9)).2
def yWj (we ca : Nat → Int32) (F : Nat → Nat → Int) (c : Nat → Nat) (t i : Nat) : Prop := yWi we ca F c (t : Int) ∧ (we t).toInt = (yWk (F t) i).1 ∧ (ca t).toInt = (yWk (F t) i).2
section
variable {we ca we1 ca1 : Nat → Int32} {F : Nat → Nat → Int} {c : Nat → Nat} {t i i' k1 k2 : Nat} {s : Int} {x y : Int32}
theorem yWi_0 : yWi we ca F c 0 := fun t9 h => by omega
theorem yWj_0 (h : yWi we ca F c (t : Int)) (e1 : we1 = upd we k1 x) (e2 : ca1 = upd ca k2 y) (h1 : k1 = t) (h2 : k2 = t) (hx : x.toInt = 999) (hy : y.toInt = 0) : yWj we1 ca1 F c t 0 := by
  subst h1
  rw [h2] at e2
  refine ⟨fun t9 h9 => ?_, by rw [e1, z_at, if_pos rfl]; exact hx, by rw [e2, z_at, if_pos rfl]; exact hy⟩
  rw [e1, e2, z_at, z_at, if_neg (by omega), if_neg (by omega)]
  exact h t9 h9
theorem yWj_s (h : yWj we ca F c t i) (m : yMt we ca we1 ca1 t s) (hs : F t i = s) (hi : i' = i + 1) : yWj we1 ca1 F c t i' := by
  subst hi
  obtain ⟨h1, h2, h3⟩ := h
  obtain ⟨m1, m2⟩ := m
  refine ⟨fun t9 h9 => ?_, ?_⟩
  · obtain ⟨a, b⟩ := m1 t9 (by omega)
    rw [a, b]
    exact h1 t9 h9
  · exact yWk_s ⟨h2, h3⟩ hs m2
theorem yWj_e {t' : Int} (h : yWj we ca F c t i) (hi : i = c t) (ht : t' = (t : Int) + 1) : yWi we ca F c t' := fun t9 h9 => by
  by_cases c9 : t9 = t
  · rw [c9, ← hi]
    exact h.2
  · exact h.1 t9 (by omega)
theorem yWj_b (h : yWj we ca F c t i) : 0 ≤ (ca t).toInt ∧ (ca t).toInt ≤ (i : Int) := by
  have := yWk_b (F t) i
  rw [← h.2.2] at this
  exact this
end
/-- the EDGE that a CALL goes, by the reference's rows -/
theorem yCd_r {R so_ pa : Nat → Int32} {b : Int} {T t i o2 o3 : Nat} {fr by_ to : Int32} (hR : yRw R) (hP : yPL (zgR R) (zcR R) b T o2 pa) (hso : zR so_ 0 240) (ht : t < T ∧ T ≤ 20) (hb : ¬ (t : Int) = b) (hi : i < zcR R t) (f1 : fr = so_ (o3 + (pa (o2 + 13 * t + i)).toInt.toNat)) (f2 : by_ = R (21 + (12 * t + i))) (f3 : to = so_ (o3 + (pa (o2 + 13 * t + (i + 1))).toInt.toNat)) : 2410 * fr.toInt + 241 * by_.toInt + to.toInt = yCd (zgR R) (zcR R) b (yNo so_ o3) t i := by
  have e1 := hP t i ht.1 hb (by omega)
  have e2 := hP t (i + 1) ht.1 hb (by omega)
  have g1 := yRw_g hR T t i ht.1 hi
  rw [zgR_at hi] at g1
  have i1 := zcR_in hi
  have c1 := yRw_c hR t
  have q1 := hR.2.2 (12 * t + i) (by have := hR.1; omega)
  have s1 := hso (o3 + ypt (zgR R) (zcR R) b t i)
  have s2 := hso (o3 + ypt (zgR R) (zcR R) b t (i + 1))
  have f1' : fr = so_ (o3 + ypt (zgR R) (zcR R) b t i) := by rw [f1, e1, show ((ypt (zgR R) (zcR R) b t i : Nat) : Int).toNat = ypt (zgR R) (zcR R) b t i by omega]
  have f3' : to = so_ (o3 + ypt (zgR R) (zcR R) b t (i + 1)) := by rw [f3, e2, show ((ypt (zgR R) (zcR R) b t (i + 1) : Nat) : Int).toNat = ypt (zgR R) (zcR R) b t (i + 1) by omega]
  unfold yCd
  rw [zgR_at hi, f1', f2, f3']
  show _ = ((2410 * (so_ (o3 + ypt (zgR R) (zcR R) b t i)).toInt.toNat + 241 * (R (21 + (12 * t + i))).toInt.toNat + (so_ (o3 + ypt (zgR R) (zcR R) b t (i + 1))).toInt.toNat : Nat) : Int)
  have a1 := s1.1
  have a2 := s2.1
  omega
theorem ySp_r2 {R so_ le_ pf_ en_ ed : Nat → Int32} {b : Int} {T k N M E t i : Nat} {code Ei z : Int} {r : Int32} (hR : yRw R) (n1 : yTP (zgR R) (zcR R) b T (N : Int)) (n2 : yMC (zgR R) (zcR R) (zvR R) b T k N M (yNo so_ 0) (yNo le_ 0) (fun s => (pf_ (0 + s)).toInt) (fun s => (en_ (0 + s)).toInt) E (fun e => (ed (0 + 6 * e)).toInt.toNat) (fun e => (ed (0 + 6 * e + 1)).toInt.toNat) (fun e => (ed (0 + 6 * e + 2)).toInt.toNat) (fun e => (ed (0 + 6 * e + 3)).toInt) (fun e => (ed (0 + 6 * e + 4)).toInt) (fun e => (ed (0 + 6 * e + 5)).toInt))
    (hv : yVd (zcR R) b T t i) (hc : code = yCd (zgR R) (zcR R) b (yNo so_ 0) t i) (hr0 : 0 ≤ r.toInt ∧ r.toInt ≤ Ei) (h1 : ∀ j : Nat, (j : Int) < r.toInt → ((yRc ed 0 j : Nat) : Int) < code) (h2 : z = 1 ∧ r.toInt < Ei ∧ ((yRc ed 0 r.toInt.toNat : Nat) : Int) = code ∨ z = 0 ∧ (r.toInt = Ei ∨ code < ((yRc ed 0 r.toInt.toNat : Nat) : Int))) (hE : Ei = (E : Int)) : (ed (0 + 6 * r.toInt.toNat + 3)).toInt = ySp (zgR R) (zcR R) b (yxSo (yKm (zgR R) (zcR R) (zvR R) b T k)) T t i := by
  exact (ySp_r (r := r.toInt.toNat) (yRw_g hR T) n1 n2 hv hc (fun j hj => h1 j (by omega)) (by
    rcases h2 with ⟨_, q1, q2⟩ | ⟨_, q1⟩
    · exact Or.inl ⟨by omega, q2⟩
    · by_cases c9 : r.toInt = Ei
      · exact Or.inr (Or.inl (by omega))
      · rcases q1 with q1 | q1
        · exact absurd q1 c9
        · exact Or.inr (Or.inr ⟨by omega, q1⟩))).2
theorem yWm {we ca we1 ca1 : Nat → Int32} {t k1 k2 : Nat} {s : Int} {x y : Int32} (e1 : we1 = upd we k1 x) (e2 : ca1 = upd ca k2 y) (h1 : k1 = t) (h2 : k2 = t) (h : s < (we t).toInt ∧ x.toInt = s ∧ y.toInt = 1 ∨ ¬ s < (we t).toInt ∧ x.toInt = (we t).toInt ∧ (s = (we t).toInt ∧ y.toInt = (ca t).toInt + 1 ∨ ¬ s = (we t).toInt ∧ y.toInt = (ca t).toInt)) : yMt we ca we1 ca1 t s := by
  rw [h1] at e1
  rw [h2] at e2
  refine ⟨fun q hq => ⟨by rw [e1, z_at, if_neg hq], by rw [e2, z_at, if_neg hq]⟩, ?_⟩
  rw [e1, e2, z_at, z_at, if_pos rfl, if_pos rfl]
  exact h
theorem yWR_x {n d mg : Int32} {L F V : Nat → Int32} {k : Nat} {M E : Int} {so le pf en ks su lo hi fe ed pl we ca : Nat → Int32} (hn : zI n 0 20) (hR : yRw (zrow n d mg L F V)) (h : yMm (zrow n d mg L F V) (-1) k M E so le pf en ks su lo hi fe ed) (hp : yPL (zgR (zrow n d mg L F V)) (zcR (zrow n d mg L F V)) (-1) (zrow n d mg L F V 0).toInt.toNat 0 pl) (hw : yWi we ca (yWr su ed pl) (fun t9 => (L t9).toInt.toNat) n.toInt) (t : Nat) (ht : (t : Int) < n.toInt) : yWa we ca t = yWR (yKR (zrow n d mg L F V) (-1) k) (zrow n d mg L F V) t :=
  yWR_l hR h hp (fun t9 h9 => by
    rw [zcR_row hn.2 h9]
    exact hw t9 h9) t ht
