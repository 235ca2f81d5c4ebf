/-! THE machine of TRACES (one left out) by a DEPTH -/
abbrev yMac : Type := (Nat × Nat × Nat) × ((Nat → Nat) × (Nat → Nat)) × ((Nat → Int) × (Nat → Int)) × ((Nat → Nat) × (Nat → Nat) × (Nat → Nat)) × ((Nat → Int) × (Nat → Int) × (Nat → Int))
abbrev yxN (K : yMac) : Nat := K.1.1
abbrev yxM (K : yMac) : Nat := K.1.2.1
abbrev yxE (K : yMac) : Nat := K.1.2.2
abbrev yxSo (K : yMac) : Nat → Nat := K.2.1.1
abbrev yxLe (K : yMac) : Nat → Nat := K.2.1.2
abbrev yxPf (K : yMac) : Nat → Int := K.2.2.1.1
abbrev yxEn (K : yMac) : Nat → Int := K.2.2.1.2
abbrev yxFr (K : yMac) : Nat → Nat := K.2.2.2.1.1
abbrev yxBy (K : yMac) : Nat → Nat := K.2.2.2.1.2.1
abbrev yxTo (K : yMac) : Nat → Nat := K.2.2.2.1.2.2
abbrev yxSu (K : yMac) : Nat → Int := K.2.2.2.2.1
abbrev yxLo (K : yMac) : Nat → Int := K.2.2.2.2.2.1
abbrev yxHi (K : yMac) : Nat → Int := K.2.2.2.2.2.2
def yIs (g : Nat → Nat → Nat) (c : Nat → Nat) (v : Nat → Nat → Int) (b : Int) (T k : Nat) (K : yMac) : Prop := yTP g c b T (yxN K : Int) ∧ yMC g c v b T k (yxN K) (yxM K) (yxSo K) (yxLe K) (yxPf K) (yxEn K) (yxE K) (yxFr K) (yxBy K) (yxTo K) (yxSu K) (yxLo K) (yxHi K)
noncomputable def yKm (g : Nat → Nat → Nat) (c : Nat → Nat) (v : Nat → Nat → Int) (b : Int) (T k : Nat) : yMac := Classical.epsilon (yIs g c v b T k)
noncomputable abbrev yKR (R : Nat → Int32) (b : Int) (k : Nat) : yMac := yKm (zgR R) (zcR R) (zvR R) b (R 0).toInt.toNat k
/-- numbers in arrays are those of a machine, as far as they go -/
def yAr (K : yMac) (N M E : Nat) (so le : Nat → Nat) (pf en : Nat → Int) (fr by_ to : Nat → Nat) (su lo hi : Nat → Int) : Prop := N = yxN K ∧ M = yxM K ∧ E = yxE K ∧ (∀ q : Nat, q < N → so q = yxSo K q) ∧ (∀ s : Nat, s < M → le s = yxLe K s ∧ pf s = yxPf K s ∧ en s = yxEn K s) ∧ ∀ e : Nat, e < E → (fr e = yxFr K e ∧ by_ e = yxBy K e ∧ to e = yxTo K e) ∧ su e = yxSu K e ∧ lo e = yxLo K e ∧ hi e = yxHi K e
section
variable {g : Nat → Nat → Nat} {c : Nat → Nat} {v : Nat → Nat → Int} {b : Int} {T k N M E : Nat} {so le : Nat → Nat} {pf en : Nat → Int} {fr by_ to : Nat → Nat} {su lo hi : Nat → Int} {K : yMac}
theorem yTP_u {x y : Int} (h : yTP g c b T x) (k : yTP g c b T y) : x = y := by
  rcases h with ⟨h1, h2⟩ | ⟨⟨t, h1, h2⟩, h3⟩
  · rcases k with ⟨k1, k2⟩ | ⟨⟨t, k1, k2⟩, k3⟩
    · omega
    · exact absurd (h2 t k1) k2
  · rcases k with ⟨k1, k2⟩ | ⟨k1, k2⟩
    · exact absurd (k2 t h1) h2
    · omega
theorem yKm_is (h : yIs g c v b T k K) : yIs g c v b T k (yKm g c v b T k) := Classical.epsilon_spec (p := yIs g c v b T k) ⟨K, h⟩
theorem yMC_is (hN : yTP g c b T (N : Int)) (h : yMC g c v b T k N M so le pf en E fr by_ to su lo hi) : yIs g c v b T k (yKm g c v b T k) :=
  yKm_is (K := ((N, M, E), (so, le), (pf, en), (fr, by_, to), (su, lo, hi))) ⟨hN, h⟩
theorem yMC_K (hg : yLt g c T) (hN : yTP g c b T (N : Int)) (h : yMC g c v b T k N M so le pf en E fr by_ to su lo hi) : yAr (yKm g c v b T k) N M E so le pf en fr by_ to su lo hi := by
  have h0 := yMC_is hN h
  have hn : N = yxN (yKm g c v b T k) := by
    have := yTP_u hN h0.1
    omega
  have h1 := h0.2
  rw [← hn] at h1
  obtain ⟨a1, a2, a3, a4, a5⟩ := yMC_u h h1 (fun t i x1 x2 x3 => by
    have := yTP_lt hN hg x1 x2 x3
    omega)
  exact ⟨hn, a1, a2, a3, a4, a5⟩
/-- STATES and LETTERS of EDGES, their order, SUPPORT at least 1 -/
theorem yMC_su (h : yMC g c v b T k N M so le pf en E fr by_ to su lo hi) (e : Nat) (he : e < E) : 1 ≤ su e := by
  obtain ⟨h1, h2, h3, h4, h5⟩ := h
  obtain ⟨t, i, x1, x2⟩ := (h3.2 _).mpr ⟨e, he, rfl⟩
  have e1 := (h5 e he).1
  have n0 : ∀ (z : Int) (T : Nat), 0 ≤ yS2 (fun t i => if yCd g c b so t i = z then 1 else 0) c b T := fun z T => by
    induction T with
    | zero => exact Int.le_refl _
    | succ T ih =>
      show 0 ≤ yS2 (fun t i => if yCd g c b so t i = z then 1 else 0) c b T + (if (T : Int) = b then 0 else yS1 (fun i => if yCd g c b so T i = z then 1 else 0) (c T))
      split
      · omega
      · have := yS1_nn (f := fun i => if yCd g c b so T i = z then (1 : Int) else 0) (c T) (fun i _ => by
          show (0 : Int) ≤ if yCd g c b so T i = z then 1 else 0
          split <;> omega)
        omega
  have n1 : ∀ (z : Int) (T : Nat), t < T → yCd g c b so t i = z → 1 ≤ yS2 (fun t i => if yCd g c b so t i = z then 1 else 0) c b T := fun z T => by
    induction T with
    | zero => exact fun q => absurd q (Nat.not_lt_zero _)
    | succ T ih =>
      intro q1 q2
      show 1 ≤ yS2 (fun t i => if yCd g c b so t i = z then 1 else 0) c b T + (if (T : Int) = b then 0 else yS1 (fun i => if yCd g c b so T i = z then 1 else 0) (c T))
      have p0 := n0 z T
      by_cases c9 : t = T
      · subst c9
        rw [if_neg x1.2.1]
        have := yS1_p (f := fun i => if yCd g c b so t i = z then (1 : Int) else 0) (i := i) (c t) (fun i _ => by
          show (0 : Int) ≤ if yCd g c b so t i = z then 1 else 0
          split <;> omega) x1.2.2
        have k9 : (if yCd g c b so t i = z then (1 : Int) else 0) ≤ yS1 (fun i => if yCd g c b so t i = z then 1 else 0) (c t) := this
        rw [if_pos q2] at k9
        omega
      · have := ih (by omega) q2
        split
        · omega
        · have := yS1_nn (f := fun i => if yCd g c b so T i = z then (1 : Int) else 0) (c T) (fun i _ => by
            show (0 : Int) ≤ if yCd g c b so T i = z then 1 else 0
            split <;> omega)
          omega
  rw [e1]
  exact n1 _ T x1.1 x2
end
theorem yKR_E {R R' : Nat → Int32} {b : Int} {k : Nat} (h : zE R R') : yKR R b k = yKR R' b k := by
  have h0 := congrArg Int32.toInt h.1
  show yKm (zgR R) (zcR R) (zvR R) b (R 0).toInt.toNat k = yKm (zgR R') (zcR R') (zvR R') b (R' 0).toInt.toNat k
  rw [zE_gR h, zE_cR h, zE_vR h, h0]
theorem yMm_K {R : Nat → Int32} {b : Int} {k : Nat} {M E : Int} {so le pf en ks su lo hi fe ed : Nat → Int32} (hR : yRw R) (h : yMm R b k M E so le pf en ks su lo hi fe ed) : ∃ N : Nat, yAr (yKR R b k) N M.toNat E.toNat (yN so) (yN le) (fun s => (pf s).toInt) (fun s => (en s).toInt) (yKf ks) (yKb ks) (yKt ks) (fun e => (su e).toInt) (fun e => (lo e).toInt) (fun e => (hi e).toInt) := by
  obtain ⟨N, h1, h2, _⟩ := h
  exact ⟨N, yMC_K (yRw_g hR _) h1 h2⟩
theorem yMm_is {R : Nat → Int32} {b : Int} {k : Nat} {M E : Int} {so le pf en ks su lo hi fe ed : Nat → Int32} (h : yMm R b k M E so le pf en ks su lo hi fe ed) : yIs (zgR R) (zcR R) (zvR R) b (R 0).toInt.toNat k (yKR R b k) := by
  obtain ⟨N, h1, h2, _⟩ := h
  exact yMC_is h1 h2
/-! what is asked of machines -/
theorem yS1_st {f : Nat → Int} {n n' : Nat} {x x' y : Int} (h : x = yS1 f n) (hn : n' = n + 1) (hy : f n = y) (e : x' = x + y) : x' = yS1 f n' := by
  subst hn
  show x' = yS1 f n + f n
  omega
def yCnt (K : yMac) (R : Nat → Int32) (tn pc w : Int) : Int :=
  if w = 0 then (R 0).toInt
  else if w = 1 then yS1 (fun t => (R (1 + t)).toInt) (R 0).toInt.toNat
  else if w = 2 then (if (R 0).toInt = 0 then 0 else ((ytr (zgR R) (zcR R) (-1) (R 0).toInt.toNat).1 : Int))
  else if w = 3 then (yxM K : Int)
  else if w = 4 then (yxE K : Int)
  else if w = 5 then yS1 (fun s => if 0 < yxEn K s then 1 else 0) (yxM K)
  else if w = 6 then (R 501).toInt
  else if w = 7 then (R 502).toInt
  else if w = 8 then tn
  else if w = 9 then pc
  else -1
section
variable {K : yMac} {R R' : Nat → Int32} {tn pc w z x : Int} {N M E : Nat} {so le : Nat → Nat} {pf en : Nat → Int} {fr by_ to : Nat → Nat} {su lo hi : Nat → Int}
theorem yCnt_0 (hz : z = (R 0).toInt) (hw : w = 0) : z = yCnt K R tn pc w := by
  subst hw
  exact hz
theorem yCnt_1 (hz : z = yS1 (fun t => (R (1 + t)).toInt) (R 0).toInt.toNat) (hw : w = 1) : z = yCnt K R tn pc w := by
  subst hw
  exact hz
theorem yCnt_2 (h : yTP (zgR R) (zcR R) (-1) (R 0).toInt.toNat x) (h0 : 0 ≤ (R 0).toInt) (hz : z = x) (hw : w = 2) : z = yCnt K R tn pc w := by
  subst hw
  show z = if (R 0).toInt = 0 then 0 else ((ytr (zgR R) (zcR R) (-1) (R 0).toInt.toNat).1 : Int)
  rcases h with ⟨h1, h2⟩ | ⟨⟨t, h1, h2⟩, h3⟩
  · by_cases c9 : (R 0).toInt = 0
    · rw [if_pos c9]
      omega
    · have := h2 0 (by omega)
      omega
  · rw [if_neg (by omega)]
    omega
theorem yCnt_2r (hz : (R 0).toInt = 0 ∧ z = 0 ∨ ¬ (R 0).toInt = 0 ∧ z = ((ytr (zgR R) (zcR R) (-1) (R 0).toInt.toNat).1 : Int)) (hw : w = 2) : z = yCnt K R tn pc w := by
  subst hw
  show z = if (R 0).toInt = 0 then 0 else ((ytr (zgR R) (zcR R) (-1) (R 0).toInt.toNat).1 : Int)
  rcases hz with ⟨h1, h2⟩ | ⟨h1, h2⟩
  · rw [if_pos h1, h2]
  · rw [if_neg h1, h2]
theorem yCnt_3 (h : yAr K N M E so le pf en fr by_ to su lo hi) (hz : z = (M : Int)) (hw : w = 3) : z = yCnt K R tn pc w := by
  subst hw
  have e := h.2.1
  subst e
  exact hz
theorem yCnt_4 (h : yAr K N M E so le pf en fr by_ to su lo hi) (hz : z = (E : Int)) (hw : w = 4) : z = yCnt K R tn pc w := by
  subst hw
  have e := h.2.2.1
  subst e
  exact hz
theorem yCnt_5 (h : yAr K N M E so le pf en fr by_ to su lo hi) (hz : z = yS1 (fun s => if 0 < en s then 1 else 0) M) (hw : w = 5) : z = yCnt K R tn pc w := by
  subst hw
  have e := h.2.1
  subst e
  rw [hz]
  exact yS1_cg _ (fun s hs => by
    show (if 0 < en s then (1 : Int) else 0) = if 0 < yxEn K s then 1 else 0
    rw [(h.2.2.2.2.1 s hs).2.2])
theorem yCnt_6 (hz : z = (R 501).toInt) (hw : w = 6) : z = yCnt K R tn pc w := by
  subst hw
  exact hz
theorem yCnt_7 (hz : z = (R 502).toInt) (hw : w = 7) : z = yCnt K R tn pc w := by
  subst hw
  exact hz
theorem yCnt_8 (hz : z = tn) (hw : w = 8) : z = yCnt K R tn pc w := by
  subst hw
  exact hz
theorem yCnt_9 (hz : z = pc) (hw : w = 9) : z = yCnt K R tn pc w := by
  subst hw
  exact hz
theorem yCnt_n (hz : z = -1) (hw : ¬ (0 ≤ w ∧ w ≤ 9)) : z = yCnt K R tn pc w := by
  unfold yCnt
  rw [if_neg (by omega), if_neg (by omega), if_neg (by omega), if_neg (by omega), if_neg (by omega), if_neg (by omega), if_neg (by omega), if_neg (by omega), if_neg (by omega), if_neg (by omega)]
  exact hz
/-- what is told of one row of TRACES is told of one like it -/
theorem yCnt_E (h : zE R R') (hn : (R 0).toInt ≤ 20) : yCnt K R tn pc w = yCnt K R' tn pc w := by
  have e0 := h.1
  unfold yCnt
  rw [e0, h.2.1, h.2.2.1, zE_gR h, zE_cR h, yS1_cg (f := fun t => (R (1 + t)).toInt) (g := fun t => (R' (1 + t)).toInt) (R' 0).toInt.toNat (fun t ht => by
    have := (h.2.2.2 t (by rw [e0]; omega)).1
    show (R (1 + t)).toInt = (R' (1 + t)).toInt
    rw [this])]
end
theorem yMm_at {R : Nat → Int32} {b : Int} {ix k : Nat} {M E kn : Int} {so le pf en ks su lo hi fe ed rw_ : Nat → Int32} (h : kn = 0 ∨ yMm R b ix M E so le pf en ks su lo hi fe ed ∧ yMr R b ix M le rw_) (hk : ¬ kn = 0) (e : ix = k) : yMm R b k M E so le pf en ks su lo hi fe ed ∧ yMr R b k M le rw_ := by
  subst e
  exact h.resolve_left hk
theorem yCnt_1x {K : yMac} {n d mg : Int32} {L F V : Nat → Int32} {tn pc w z : Int} (hn : zI n 0 20) (hz : z = yS1 (fun t => (L t).toInt) n.toInt.toNat) (hw : w = 1) : z = yCnt K (zrow n d mg L F V) tn pc w := by
  refine yCnt_1 ?_ hw
  rw [hz]
  show _ = yS1 (fun t => (zrow n d mg L F V (1 + t)).toInt) n.toInt.toNat
  refine yS1_cg _ (fun t ht => ?_)
  have e : zrow n d mg L F V (1 + t) = L t := by
    have := hn.2
    unfold zrow
    rw [if_neg (by omega), if_pos (by omega), show 1 + t - 1 = t by omega]
  show (L t).toInt = (zrow n d mg L F V (1 + t)).toInt
  rw [e]
