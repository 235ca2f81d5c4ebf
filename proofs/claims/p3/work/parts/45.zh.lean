/-! STATES, step by step over what follows -/
section
variable {pt : Nat → Nat → Nat} {key : Nat → Nat → Int} {c : Nat → Nat} {b : Int} {T N : Nat} {ro tE co so le sl pf en rw_ so1 so2 le1 sl1 pf1 pf2 en1 en2 rw1 : Nat → Int32} {M M1 l l' like st pv pv1 ev ev1 te cv : Int32}
abbrev yHF (ro co : Nat → Int32) : Nat → Int32 := fun q9 => yhf (20 * (0 + q9)) (co (0 + q9)) ro
abbrev yLK (ro co : Nat → Int32) (p : Nat) : Nat → Prop := fun q9 => yLk (20 * (0 + p)) (20 * (0 + q9)) (co (0 + p)).toInt (co (0 + q9)).toInt ro
theorem yFS_o2 (hF : yFo pt key c b T 0 N 0 ro co) (hs : yFS (yAl pt key (yPf c b T 0)) (yHF ro co) tE co l.toInt.toNat M.toInt so le sl pf en rw_) (hM : 0 ≤ M.toInt ∧ M.toInt ≤ 241) (hl : 0 ≤ l.toInt ∧ l.toInt ≤ 240) (hN : l.toInt.toNat < N) (hso : zR so 0 240) (hle : zR le 0 240) (ht : ∀ q : Nat, q < N → 0 ≤ (tE q).toInt ∧ (tE q).toInt ≤ 1000) (f : yFL (yhf (20 * (0 + l.toInt.toNat)) (co (0 + l.toInt.toNat)) ro) l (yLK ro co l.toInt.toNat) sl sl1 like) (hne : ¬ like.toInt = l.toInt)
    (e1 : st = so like.toNatClampNeg) (e2 : so2 = upd so l.toNatClampNeg st) (e3 : pv = pf st.toNatClampNeg) (e4 : pv1 = pv + 1) (e5 : pf2 = upd pf st.toNatClampNeg pv1) (e6 : ev = en st.toNatClampNeg) (e7 : te = tE l.toNatClampNeg) (e8 : ev1 = ev + te) (e9 : en2 = upd en st.toNatClampNeg ev1) (hl' : l'.toInt = l.toInt + 1) : yFS (yAl pt key (yPf c b T 0)) (yHF ro co) tE co l'.toInt.toNat M.toInt so2 le sl1 pf2 en2 rw_ := by
  rw [show l'.toInt.toNat = l.toInt.toNat + 1 by omega]
  have hq : ∀ s : Nat, s < M.toInt.toNat → yN le s < N := fun s h1 => by
    have := (hs.1.1 s h1).1
    omega
  exact yFS_o hs hM (by omega) (by omega) (fun q => ⟨(hso q).1, (hle q).1⟩) rfl (fun s h1 => yLk_al hF hN (hq s h1)) (fun s h1 ha => (yhf_cg ((yLk_al hF hN (hq s h1)).mpr ha)).symm) (fun q h1 => ht q (by omega)) f hne e1 e2 e3 e4 e5 e6 e7 e8 e9
theorem yFS_n2 (hF : yFo pt key c b T 0 N 0 ro co) (hs : yFS (yAl pt key (yPf c b T 0)) (yHF ro co) tE co l.toInt.toNat M.toInt so le sl pf en rw_) (hM : 0 ≤ M.toInt ∧ M.toInt ≤ 240) (hl : 0 ≤ l.toInt ∧ l.toInt ≤ 240) (hN : l.toInt.toNat < N) (hso : zR so 0 240) (hle : zR le 0 240) (ht : ∀ q : Nat, q < N → 0 ≤ (tE q).toInt ∧ (tE q).toInt ≤ 1000) (f : yFL (yhf (20 * (0 + l.toInt.toNat)) (co (0 + l.toInt.toNat)) ro) l (yLK ro co l.toInt.toNat) sl sl1 like) (hne : like.toInt = l.toInt)
    (d1 : so1 = upd so l.toNatClampNeg M) (d2 : le1 = upd le M.toNatClampNeg l) (d3 : pf1 = upd pf M.toNatClampNeg 0) (d4 : en1 = upd en M.toNatClampNeg 0) (d6 : cv = co l.toNatClampNeg) (d5 : rw1 = upd rw_ M.toNatClampNeg cv) (d7 : M1.toInt = M.toInt + 1)
    (e1 : st = so1 like.toNatClampNeg) (e2 : so2 = upd so1 l.toNatClampNeg st) (e3 : pv = pf1 st.toNatClampNeg) (e4 : pv1 = pv + 1) (e5 : pf2 = upd pf1 st.toNatClampNeg pv1) (e6 : ev = en1 st.toNatClampNeg) (e7 : te = tE l.toNatClampNeg) (e8 : ev1 = ev + te) (e9 : en2 = upd en1 st.toNatClampNeg ev1) (hl' : l'.toInt = l.toInt + 1) : yFS (yAl pt key (yPf c b T 0)) (yHF ro co) tE co l'.toInt.toNat M1.toInt so2 le1 sl1 pf2 en2 rw1 := by
  rw [show l'.toInt.toNat = l.toInt.toNat + 1 by omega]
  have hq : ∀ s : Nat, s < M.toInt.toNat → yN le s < N := fun s h1 => by
    have := (hs.1.1 s h1).1
    omega
  exact yFS_n hs hM (by omega) (by omega) (yAl_r _) (fun _ _ => yAl_s) (fun q => ⟨(hso q).1, (hle q).1⟩) rfl (fun s h1 => yLk_al hF hN (hq s h1)) (fun s h1 ha => (yhf_cg ((yLk_al hF hN (hq s h1)).mpr ha)).symm) (fun q h1 => ht q (by omega)) f hne d1 d2 d3 d4 d6 d5 d7 e1 e2 e3 e4 e5 e6 e7 e8 e9
end
/-! the first EDGE of each STATE -/
section
variable {fr : Nat → Int} {E s a : Nat} {x : Int} {P : Int → Prop}
theorem yFE_0 (h : ∀ e : Nat, e < E → 0 ≤ fr e) : yFE fr E 0 0 := ⟨Int.le_refl _, by omega, fun e he => ⟨fun q => by have := h e he; omega, fun q => by omega⟩⟩
/-- all EDGES of a STATE were passed -/
theorem yFE_s (h : ∀ e : Nat, (e : Int) < x → fr e ≤ (s : Int)) (hx : 0 ≤ x ∧ x ≤ (E : Int)) (hm : ∀ i j : Nat, i < j → j < E → fr i ≤ fr j) (h2 : x = (E : Int) ∨ x < (E : Int) ∧ ¬ fr x.toNat = (s : Int)) (h3 : ∀ e : Nat, x ≤ (e : Int) → e < E → (s : Int) ≤ fr e) : yFE fr E (s + 1) x := by
  refine ⟨hx.1, hx.2, fun e he => ⟨fun q => ?_, fun q => ?_⟩⟩
  · rcases h2 with h2 | ⟨h2, h4⟩
    · omega
    · by_cases c9 : (e : Int) < x
      · exact c9
      · exfalso
        have a1 := h3 e (by omega) he
        have a2 := h3 x.toNat (by omega) (by omega)
        by_cases c8 : e = x.toNat
        · rw [c8] at q
          omega
        · have a3 := hm x.toNat e (by omega) he
          omega
  · have := h e q
    omega
end
/-! what both sides find: the machine -/
def yCd (g : Nat → Nat → Nat) (c : Nat → Nat) (b : Int) (so : Nat → Nat) (t i : Nat) : Int := ((2410 * so (ypt g c b t i) + 241 * g t i + so (ypt g c b t (i + 1)) : Nat) : Int)
/-- CALLS of TRACES, one left out -/
def yVd (c : Nat → Nat) (b : Int) (T t i : Nat) : Prop := t < T ∧ ¬ (t : Int) = b ∧ i < c t
def yMC (g : Nat → Nat → Nat) (c : Nat → Nat) (v : Nat → Nat → Int) (b : Int) (T k N M : Nat) (so le : Nat → Nat) (pf en : Nat → Int) (E : Nat) (fr by_ to : Nat → Nat) (su lo hi : Nat → Int) : Prop :=
  yST (yAl (ypt g c b) (fun t i => ((yk2 g c t i k : Nat) : Int)) (yPf c b T 0)) N M so le ∧
  (∀ s : Nat, s < M → pf s = yS1 (fun q => if so q = s then 1 else 0) N ∧ en s = yS1 (fun t => if (t : Int) = b then 0 else if so (ypt g c b t (c t)) = s then 1 else 0) T) ∧
  ySl (fun e => ((2410 * fr e + 241 * by_ e + to e : Nat) : Int)) E (fun z => ∃ t i : Nat, yVd c b T t i ∧ yCd g c b so t i = z) ∧
  (∀ e : Nat, e < E → fr e ≤ 240 ∧ by_ e ≤ 9 ∧ to e ≤ 240) ∧
  ∀ e : Nat, e < E → su e = yS2 (fun t i => if yCd g c b so t i = ((2410 * fr e + 241 * by_ e + to e : Nat) : Int) then 1 else 0) c b T ∧ yMi (fun t i => yVd c b T t i ∧ yCd g c b so t i = ((2410 * fr e + 241 * by_ e + to e : Nat) : Int)) v (lo e) ∧ yMa (fun t i => yVd c b T t i ∧ yCd g c b so t i = ((2410 * fr e + 241 * by_ e + to e : Nat) : Int)) v (hi e)
section
variable {g : Nat → Nat → Nat} {c : Nat → Nat} {v : Nat → Nat → Int} {b : Int} {T k N M E M' E' : Nat} {so le so' le' : Nat → Nat} {pf en pf' en' : Nat → Int} {fr by_ to fr' by' to' : Nat → Nat} {su lo hi su' lo' hi' : Nat → Int}
/-- there is one such machine -/
theorem yMC_u (h : yMC g c v b T k N M so le pf en E fr by_ to su lo hi) (h' : yMC g c v b T k N M' so' le' pf' en' E' fr' by' to' su' lo' hi') (hN : ∀ t i : Nat, t < T → ¬ (t : Int) = b → i ≤ c t → ypt g c b t i < N) : M = M' ∧ E = E' ∧ (∀ q : Nat, q < N → so q = so' q) ∧ (∀ s : Nat, s < M → le s = le' s ∧ pf s = pf' s ∧ en s = en' s) ∧ ∀ e : Nat, e < E → (fr e = fr' e ∧ by_ e = by' e ∧ to e = to' e) ∧ su e = su' e ∧ lo e = lo' e ∧ hi e = hi' e := by
  obtain ⟨h1, h2, h3, h4, h5⟩ := h
  obtain ⟨k1, k2, k3, k4, k5⟩ := h'
  obtain ⟨u1, u2, u3⟩ := yST_u h1 k1 (fun _ _ => yAl_s) (fun _ _ _ => yAl_t)
  have cd : ∀ t i : Nat, yVd c b T t i → yCd g c b so t i = yCd g c b so' t i := fun t i hv => by
    unfold yCd
    rw [u3 _ (hN t i hv.1 hv.2.1 (by have := hv.2.2; omega)), u3 _ (hN t (i + 1) hv.1 hv.2.1 (by have := hv.2.2; omega))]
  obtain ⟨e1, e2⟩ := ySl_u h3 k3 (fun z => ⟨fun ⟨t, i, a1, a2⟩ => ⟨t, i, a1, by rw [← cd t i a1]; exact a2⟩, fun ⟨t, i, a1, a2⟩ => ⟨t, i, a1, by rw [cd t i a1]; exact a2⟩⟩)
  refine ⟨u1, e1, u3, fun s hs => ⟨u2 s hs, ?_, ?_⟩, fun e he => ?_⟩
  · rw [(h2 s hs).1, (k2 s (by omega)).1]
    exact yS1_cg N (fun q hq => by rw [u3 q hq])
  · rw [(h2 s hs).2, (k2 s (by omega)).2]
    refine yS1_cg T (fun t ht => ?_)
    by_cases c9 : (t : Int) = b
    · rw [if_pos c9, if_pos c9]
    · rw [if_neg c9, if_neg c9, u3 _ (hN t (c t) ht c9 (Nat.le_refl _))]
  · have a1 := h4 e he
    have a2 := k4 e (by omega)
    have a3 := e2 e he
    have a4 : 2410 * fr e + 241 * by_ e + to e = 2410 * fr' e + 241 * by' e + to' e := by
      have : ((2410 * fr e + 241 * by_ e + to e : Nat) : Int) = ((2410 * fr' e + 241 * by' e + to' e : Nat) : Int) := a3
      omega
    obtain ⟨b1, b2, b3⟩ := h5 e he
    obtain ⟨d1, d2, d3⟩ := k5 e (by omega)
    rw [← a4] at d1 d2 d3
    have hP : ∀ t i : Nat, (yVd c b T t i ∧ yCd g c b so' t i = ((2410 * fr e + 241 * by_ e + to e : Nat) : Int)) ↔ (yVd c b T t i ∧ yCd g c b so t i = ((2410 * fr e + 241 * by_ e + to e : Nat) : Int)) := fun t i =>
      ⟨fun ⟨x1, x2⟩ => ⟨x1, by rw [cd t i x1]; exact x2⟩, fun ⟨x1, x2⟩ => ⟨x1, by rw [← cd t i x1]; exact x2⟩⟩
    refine ⟨⟨by omega, by omega, by omega⟩, ?_, yMi_u b2 (yMi_cg d2 (fun t i => (hP t i).symm)), yMa_u b3 (yMa_cg d3 (fun t i => (hP t i).symm))⟩
    rw [b1, d1]
    exact yS2_cg T (fun t i x1 x2 x3 => by rw [cd t i ⟨x1, x2, x3⟩])
end
/-- EDGES go from STATES to STATES -/
theorem yMC_fr {g : Nat → Nat → Nat} {c : Nat → Nat} {v : Nat → Nat → Int} {b : Int} {T k N M E : Nat} {so le : Nat → Nat} {pf en : Nat → Int} {fr by_ to : Nat → Nat} {su lo hi : Nat → Int} (h : yMC g c v b T k N M so le pf en E fr by_ to su lo hi) (hg : yLt g c T) (hN : ∀ t i : Nat, t < T → ¬ (t : Int) = b → i ≤ c t → ypt g c b t i < N) (hM : M ≤ 241) (e : Nat) (he : e < E) : fr e < M ∧ to e < M := by
  obtain ⟨h1, h2, h3, h4, h5⟩ := h
  obtain ⟨t, i, hv, hz⟩ := (h3.2 _).mpr ⟨e, he, rfl⟩
  have a1 := (h1.2.2.1 _ (hN t i hv.1 hv.2.1 (by have := hv.2.2; omega))).1
  have a2 := (h1.2.2.1 _ (hN t (i + 1) hv.1 hv.2.1 (by have := hv.2.2; omega))).1
  have a3 := hg t i hv.1 hv.2.2
  have a4 := h4 e he
  have hz' : yCd g c b so t i = ((2410 * fr e + 241 * by_ e + to e : Nat) : Int) := hz
  unfold yCd at hz'
  have a5 := a1
  omega
/-! the class's -/
section
variable {g : Nat → Nat → Nat} {c : Nat → Nat} {v : Nat → Nat → Int} {b : Int} {T k N E : Nat}
theorem yST_cg {al al' : Nat → Nat → Prop} {p M : Nat} {so le : Nat → Nat} (h : yST al p M so le) (e : ∀ x y : Nat, al x y ↔ al' x y) : yST al' p M so le :=
  ⟨h.1, h.2.1, fun q hq => ⟨(h.2.2.1 q hq).1, (e _ _).mp (h.2.2.1 q hq).2.1, (h.2.2.1 q hq).2.2⟩, fun s s' h1 h2 ha => h.2.2.2 s s' h1 h2 ((e _ _).mpr ha)⟩
/-- one of them is picked -/
theorem yS1_pk {f : Nat → Int} {q0 : Nat} (n : Nat) : yS1 (fun q => if q0 = q then f q else 0) n = if q0 < n then f q0 else 0 := by
  induction n with
  | zero => exact (if_neg (by omega)).symm
  | succ n ih =>
    show yS1 (fun q => if q0 = q then f q else 0) n + (if q0 = n then f n else 0) = _
    rw [ih]
    by_cases c9 : q0 = n
    · rw [if_neg (by omega), if_pos c9, if_pos (by omega), c9]
      omega
    · rw [if_neg c9]
      by_cases c8 : q0 < n
      · rw [if_pos c8, if_pos (by omega)]
        omega
      · rw [if_neg c8, if_neg (by omega)]
        omega
/-- sums over PREFIXES of sums over what goes them -/
theorem yS1_x1 {A : Nat → Prop} [∀ q : Nat, Decidable (A q)] {f : Nat → Nat} (m : Nat) (h : ∀ t : Nat, t < m → f t < N) : yS1 (fun q => if A q then yS1 (fun t => if f t = q then 1 else 0) m else 0) N = yS1 (fun t => if A (f t) then 1 else 0) m := by
  induction m with
  | zero => exact yS1_0 N (fun q _ => by
      show (if A q then (0 : Int) else 0) = 0
      split <;> rfl)
  | succ m ih =>
    have e1 := ih (fun t ht => h t (by omega))
    have e2 := yS1_pk (f := fun q => if A q then (1 : Int) else 0) (q0 := f m) N
    rw [if_pos (h m (by omega))] at e2
    show _ = yS1 (fun t => if A (f t) then 1 else 0) m + (if A (f m) then 1 else 0)
    rw [← e1, ← e2]
    refine yS1_add N (fun q _ => ?_)
    show (if A q then yS1 (fun t => if f t = q then 1 else 0) m + (if f m = q then 1 else 0) else 0) = (if A q then yS1 (fun t => if f t = q then 1 else 0) m else 0) + (if f m = q then (if A q then (1 : Int) else 0) else 0)
    by_cases c9 : A q
    · rw [if_pos c9, if_pos c9, if_pos c9]
    · rw [if_neg c9, if_neg c9, if_neg c9]
      split <;> rfl
theorem yS1_x1b {A : Nat → Prop} [∀ q : Nat, Decidable (A q)] {f : Nat → Nat} (m : Nat) (h : ∀ t : Nat, t < m → ¬ (t : Int) = b → f t < N) : yS1 (fun q => if A q then yS1 (fun t => if (t : Int) = b then 0 else if f t = q then 1 else 0) m else 0) N = yS1 (fun t => if (t : Int) = b then 0 else if A (f t) then 1 else 0) m := by
  induction m with
  | zero => exact yS1_0 N (fun q _ => by
      show (if A q then (0 : Int) else 0) = 0
      split <;> rfl)
  | succ m ih =>
    have e1 := ih (fun t ht => h t (by omega))
    show _ = yS1 (fun t => if (t : Int) = b then 0 else if A (f t) then 1 else 0) m + (if (m : Int) = b then 0 else if A (f m) then 1 else 0)
    rw [← e1]
    by_cases c8 : (m : Int) = b
    · rw [if_pos c8, Int.add_zero]
      refine yS1_cg N (fun q _ => ?_)
      show (if A q then yS1 (fun t => if (t : Int) = b then 0 else if f t = q then 1 else 0) m + (if (m : Int) = b then 0 else if f m = q then 1 else 0) else 0) = _
      rw [if_pos c8, Int.add_zero]
    · have e2 := yS1_pk (f := fun q => if A q then (1 : Int) else 0) (q0 := f m) N
      rw [if_pos (h m (by omega) c8)] at e2
      rw [if_neg c8, ← e2]
      refine yS1_add N (fun q _ => ?_)
      show (if A q then yS1 (fun t => if (t : Int) = b then 0 else if f t = q then 1 else 0) m + (if (m : Int) = b then 0 else if f m = q then 1 else 0) else 0) = (if A q then yS1 (fun t => if (t : Int) = b then 0 else if f t = q then 1 else 0) m else 0) + (if f m = q then (if A q then (1 : Int) else 0) else 0)
      rw [if_neg c8]
      by_cases c9 : A q
      · rw [if_pos c9, if_pos c9, if_pos c9]
      · rw [if_neg c9, if_neg c9, if_neg c9]
        split <;> rfl
theorem yS1_x2 {A : Nat → Prop} [∀ q : Nat, Decidable (A q)] {f : Nat → Nat → Nat} (m : Nat) (h : ∀ t i : Nat, t < m → ¬ (t : Int) = b → i < c t → f t i < N) : yS1 (fun q => if A q then yS2 (fun t i => if f t i = q then 1 else 0) c b m else 0) N = yS2 (fun t i => if A (f t i) then 1 else 0) c b m := by
  induction m with
  | zero => exact yS1_0 N (fun q _ => by
      show (if A q then (0 : Int) else 0) = 0
      split <;> rfl)
  | succ m ih =>
    have e1 := ih (fun t i ht => h t i (by omega))
    show _ = yS2 (fun t i => if A (f t i) then 1 else 0) c b m + (if (m : Int) = b then 0 else yS1 (fun i => if A (f m i) then 1 else 0) (c m))
    rw [← e1]
    by_cases c8 : (m : Int) = b
    · rw [if_pos c8, Int.add_zero]
      refine yS1_cg N (fun q _ => ?_)
      show (if A q then yS2 (fun t i => if f t i = q then 1 else 0) c b m + (if (m : Int) = b then 0 else yS1 (fun i => if f m i = q then 1 else 0) (c m)) else 0) = _
      rw [if_pos c8, Int.add_zero]
    · have e2 := yS1_x1 (A := A) (N := N) (f := f m) (c m) (fun i hi => h m i (by omega) c8 hi)
      rw [if_neg c8, ← e2]
      refine yS1_add N (fun q _ => ?_)
      show (if A q then yS2 (fun t i => if f t i = q then 1 else 0) c b m + (if (m : Int) = b then 0 else yS1 (fun i => if f m i = q then 1 else 0) (c m)) else 0) = (if A q then yS2 (fun t i => if f t i = q then 1 else 0) c b m else 0) + (if A q then yS1 (fun i => if f m i = q then 1 else 0) (c m) else 0)
      rw [if_neg c8]
      by_cases c9 : A q
      · rw [if_pos c9, if_pos c9, if_pos c9]
      · rw [if_neg c9, if_neg c9, if_neg c9]
        rfl
/-- what a key of the class's stands for -/
theorem yKy {z a x y : Int} (e : z = 2560 * a + 256 * x + y) (hx : 0 ≤ x ∧ x ≤ 9) (hy : 0 ≤ y ∧ y ≤ 240) : z / 2560 = a ∧ z / 256 % 10 = x ∧ z % 256 = y := by omega
abbrev yKf (ks : Nat → Int32) (e : Nat) : Nat := (ks e).toInt.toNat / 2560
abbrev yKb (ks : Nat → Int32) (e : Nat) : Nat := (ks e).toInt.toNat / 256 % 10
abbrev yKt (ks : Nat → Int32) (e : Nat) : Nat := (ks e).toInt.toNat % 256
theorem yMC_x {px M : Int} {pa le go en lo hi lg so ls sl pf en2 rw_ ks su lo2 hi2 ed co ro : Nat → Int32} (hg : yLt g c T) (hG : yCG g c v b T px pa le go en lo hi lg) (hN : px = (N : Int))
    (hS : yFS (yAl (ypt g c b) (fun t i => ((yk1 g c t i k : Nat) : Int)) (yPf c b T 0)) (yHF ro co) en co N M so ls sl pf en2 rw_) (hso : zR so 0 240) (hK : ySl (fun e => (ks e).toInt) E (yKs so pa le N)) (hE : yER so pa le go lo hi ks su lo2 hi2 ed N E) :
    yMC g c v b T k N M.toNat (yN so) (yN ls) (fun s => (pf s).toInt) (fun s => (en2 s).toInt) E (yKf ks) (yKb ks) (yKt ks) (fun e => (su e).toInt) (fun e => (lo2 e).toInt) (fun e => (hi2 e).toInt) ∧ ∀ t i : Nat, yVd c b T t i → 0 ≤ (ed (ypt g c b t (i + 1))).toInt ∧ (ed (ypt g c b t (i + 1))).toInt < (E : Int) ∧ yCd g c b (yN so) t i = ((2410 * yKf ks (ed (ypt g c b t (i + 1))).toInt.toNat + 241 * yKb ks (ed (ypt g c b t (i + 1))).toInt.toNat + yKt ks (ed (ypt g c b t (i + 1))).toInt.toNat : Nat) : Int) := by
  have hlt : ∀ t i : Nat, t < T → ¬ (t : Int) = b → i ≤ c t → ypt g c b t i < N := fun t i h1 h2 h3 => by
    have := yTP_lt (yCG_tp hG) hg h1 h2 h3
    omega
  -- a PREFIX and the CALL by which it is come to
  have hky : ∀ t i : Nat, yVd c b T t i → zkey so pa le (ypt g c b t (i + 1)) = 2560 * ((yN so (ypt g c b t i) : Nat) : Int) + 256 * (g t i : Int) + ((yN so (ypt g c b t (i + 1)) : Nat) : Int) ∧ 1 ≤ ypt g c b t (i + 1) := fun t i ⟨h1, h2, h3⟩ => by
    have u1 := ypt_up (b := b) hg h1 (i := i) 1 (by omega)
    rcases hG with ⟨_, k2⟩ | ⟨_, k2⟩
    · exact absurd (k2 t h1) h2
    · have k3 : yCA (ytr g c b T) px pa le lg := k2.1
      obtain ⟨k4, k5, k6⟩ := k3
      have c1 := ypt_ch hg h1 h2 h3
      have l1 := ypt_lt (b := b) hg h1 h2 (i := i + 1) (by omega)
      obtain ⟨⟨p1, p2, p3⟩, p4⟩ := k6 (ypt g c b t (i + 1)) (by omega) l1
      have inj := (ytr_ok (b := b) hg T (Nat.le_refl _)).2.2 _ _ (p4.trans c1.symm) (by rw [p4]; omega)
      have g1 := hg t i h1 h3
      have s1 := (hso (ypt g c b t i)).1
      have s2 := (hso (ypt g c b t (i + 1))).1
      refine ⟨?_, by omega⟩
      unfold zkey
      rw [zcl p1, show (pa (ypt g c b t (i + 1))).toInt.toNat = ypt g c b t i by omega]
      show _ = 2560 * (((so (ypt g c b t i)).toInt.toNat : Nat) : Int) + 256 * (g t i : Int) + (((so (ypt g c b t (i + 1))).toInt.toNat : Nat) : Int)
      omega
  have hcd : ∀ t i : Nat, yVd c b T t i → ∀ e : Nat, (zkey so pa le (ypt g c b t (i + 1)) = (ks e).toInt → yCd g c b (yN so) t i = ((2410 * yKf ks e + 241 * yKb ks e + yKt ks e : Nat) : Int)) := fun t i hv e he => by
    have k1 := (hky t i hv).1
    have g1 := hg t i hv.1 hv.2.2
    have s2 := (hso (ypt g c b t (i + 1))).2
    have n2 : yN so (ypt g c b t (i + 1)) ≤ 240 := by
      show (so (ypt g c b t (i + 1))).toInt.toNat ≤ 240
      omega
    have k2 := yKy k1 ⟨by omega, by omega⟩ ⟨by omega, by omega⟩
    rw [he] at k2 k1
    unfold yCd
    show ((2410 * yN so (ypt g c b t i) + 241 * g t i + yN so (ypt g c b t (i + 1)) : Nat) : Int) = ((2410 * ((ks e).toInt.toNat / 2560) + 241 * ((ks e).toInt.toNat / 256 % 10) + (ks e).toInt.toNat % 256 : Nat) : Int)
    omega
  -- each key is a PREFIX's, so a CALL's
  have hks : ∀ e : Nat, e < E → ∃ t i : Nat, yVd c b T t i ∧ zkey so pa le (ypt g c b t (i + 1)) = (ks e).toInt := fun e he => by
    obtain ⟨q, q1, q2, q3⟩ := (hK.2 (ks e).toInt).mpr ⟨e, he, rfl⟩
    have hq : q < (ytr g c b T).1 := by
      rcases hG with ⟨k1, _⟩ | ⟨_, k2⟩
      · omega
      · have k3 : px = ((ytr g c b T).1 : Int) := k2.1.1
        omega
    obtain ⟨t, i, a1, a2, a3, a4⟩ := ypt_su (b := b) hg q q1 hq
    exact ⟨t, i, ⟨a1, a2, a3⟩, by rw [a4]; exact q3⟩
  have hrg : ∀ e : Nat, e < E → (0 ≤ (ks e).toInt ∧ (ks e).toInt % 256 ≤ 240) ∧ yKf ks e ≤ 240 ∧ yKb ks e ≤ 9 ∧ yKt ks e ≤ 240 := fun e he => by
    obtain ⟨t, i, hv, k0⟩ := hks e he
    have k1 := (hky t i hv).1
    have g1 := hg t i hv.1 hv.2.2
    have s1 := (hso (ypt g c b t i)).2
    have s2 := (hso (ypt g c b t (i + 1))).2
    have n1 : yN so (ypt g c b t i) ≤ 240 := by
      show (so (ypt g c b t i)).toInt.toNat ≤ 240
      omega
    have n2 : yN so (ypt g c b t (i + 1)) ≤ 240 := by
      show (so (ypt g c b t (i + 1))).toInt.toNat ≤ 240
      omega
    show (0 ≤ (ks e).toInt ∧ (ks e).toInt % 256 ≤ 240) ∧ (ks e).toInt.toNat / 2560 ≤ 240 ∧ (ks e).toInt.toNat / 256 % 10 ≤ 9 ∧ (ks e).toInt.toNat % 256 ≤ 240
    omega
  have hiff : ∀ t i : Nat, yVd c b T t i → ∀ e : Nat, e < E → (zkey so pa le (ypt g c b t (i + 1)) = (ks e).toInt ↔ yCd g c b (yN so) t i = ((2410 * yKf ks e + 241 * yKb ks e + yKt ks e : Nat) : Int)) := fun t i hv e he => by
    refine ⟨hcd t i hv e, fun h9 => ?_⟩
    obtain ⟨t', i', hv', k0⟩ := hks e he
    have k1 := hcd t' i' hv' e k0
    rw [← k0, (hky t i hv).1, (hky t' i' hv').1]
    rw [← k1] at h9
    unfold yCd at h9
    have g1 := hg t i hv.1 hv.2.2
    have g2 := hg t' i' hv'.1 hv'.2.2
    have s1 := (hso (ypt g c b t (i + 1))).2
    have s2 := (hso (ypt g c b t' (i' + 1))).2
    have n1 : yN so (ypt g c b t (i + 1)) ≤ 240 := by
      show (so (ypt g c b t (i + 1))).toInt.toNat ≤ 240
      omega
    have n2 : yN so (ypt g c b t' (i' + 1)) ≤ 240 := by
      show (so (ypt g c b t' (i' + 1))).toInt.toNat ≤ 240
      omega
    omega
  refine ⟨?_, fun t i hv => by
    have k1 := (hky t i hv).2
    obtain ⟨q1, q2, q3⟩ := hE.2 _ k1 (hlt t (i + 1) hv.1 hv.2.1 (by have := hv.2.2; omega))
    exact ⟨q1, q2, hcd t i hv _ q3.symm⟩⟩
  refine ⟨yST_cg hS.1 (fun x y => yAl_12 hg), fun s hs => ?_, ⟨fun i j hij hj => ?_, fun z => ⟨fun ⟨t, i, hv, hz⟩ => ?_, fun ⟨e, he, hz⟩ => ?_⟩⟩, fun e he => (hrg e he).2, fun e he => ?_⟩
  · obtain ⟨a1, a2, _⟩ := hS.2.2 s hs
    refine ⟨a1, ?_⟩
    show (en2 s).toInt = _
    rw [a2, ← yS1_x1b (A := fun q => yN so q = s) (f := fun t => ypt g c b t (c t)) T (fun t h1 h2 => hlt t (c t) h1 h2 (Nat.le_refl _))]
    refine yS1_cg N (fun q hq => ?_)
    show (if yN so q = s then (en q).toInt else 0) = (if yN so q = s then yS1 (fun t => if (t : Int) = b then 0 else if ypt g c b t (c t) = q then 1 else 0) T else 0)
    rcases hG with ⟨k1, _⟩ | ⟨_, k2⟩
    · omega
    · have k3 : px = ((ytr g c b T).1 : Int) := k2.1.1
      have k4 := k2.2.2 q (by show q < (ytr g c b T).1; omega)
      rw [k4]
      rfl
  · have a1 : (ks i).toInt < (ks j).toInt := hK.1 i j hij hj
    obtain ⟨t1, i1, v1, w1⟩ := hks i (by omega)
    obtain ⟨t2, i2, v2, w2⟩ := hks j hj
    have x1 := hcd t1 i1 v1 i w1
    have x2 := hcd t2 i2 v2 j w2
    have y1 := (hky t1 i1 v1).1
    have y2 := (hky t2 i2 v2).1
    have g1 := hg t1 i1 v1.1 v1.2.2
    have g2 := hg t2 i2 v2.1 v2.2.2
    have s1 := (hso (ypt g c b t1 (i1 + 1))).2
    have s2 := (hso (ypt g c b t2 (i2 + 1))).2
    have n1 : yN so (ypt g c b t1 (i1 + 1)) ≤ 240 := by
      show (so (ypt g c b t1 (i1 + 1))).toInt.toNat ≤ 240
      omega
    have n2 : yN so (ypt g c b t2 (i2 + 1)) ≤ 240 := by
      show (so (ypt g c b t2 (i2 + 1))).toInt.toNat ≤ 240
      omega
    show ((2410 * yKf ks i + 241 * yKb ks i + yKt ks i : Nat) : Int) < ((2410 * yKf ks j + 241 * yKb ks j + yKt ks j : Nat) : Int)
    rw [← x1, ← x2]
    unfold yCd
    rw [w1] at y1
    rw [w2] at y2
    omega
  · have k1 := (hky t i hv).2
    obtain ⟨e, he, h9⟩ := (hK.2 (zkey so pa le (ypt g c b t (i + 1)))).mp ⟨_, k1, hlt t (i + 1) hv.1 hv.2.1 (by have := hv.2.2; omega), rfl⟩
    exact ⟨e, he, by rw [← hz]; exact (hcd t i hv e h9.symm).symm⟩
  · obtain ⟨t, i, hv, k0⟩ := hks e he
    exact ⟨t, i, hv, by rw [← hz]; exact hcd t i hv e k0⟩
  · obtain ⟨a1, a2, a3⟩ := hE.1 e he
    have hgo : ∀ q : Nat, 1 ≤ q → q < N → (go q).toInt = yS2 (fun t i => if ypt g c b t (i + 1) = q then 1 else 0) c b T ∧ yMi (fun t i => yVd c b T t i ∧ ypt g c b t (i + 1) = q) v (lo q).toInt ∧ yMa (fun t i => yVd c b T t i ∧ ypt g c b t (i + 1) = q) v (hi q).toInt := fun q q1 q2 => by
      rcases hG with ⟨k1, _⟩ | ⟨_, k2⟩
      · omega
      · have k3 : px = ((ytr g c b T).1 : Int) := k2.1.1
        obtain ⟨m1, m2, m3⟩ := k2.2.1 q q1 (by show q < (ytr g c b T).1; omega)
        have hP : ∀ t i : Nat, (yVd c b T t i ∧ ypt g c b t (i + 1) = q) ↔ (yPr c b T 0 t i ∧ ypt g c b t (i + 1) = q) := fun t i => by
          constructor
          · rintro ⟨x1, x2⟩
            exact ⟨Or.inl x1, x2⟩
          · rintro ⟨x1 | ⟨_, x1⟩, x2⟩
            · exact ⟨x1, x2⟩
            · omega
        refine ⟨?_, yMi_cg m2 hP, yMa_cg m3 hP⟩
        rw [m1]
        show yS2 (fun t i => if ypt g c b t (i + 1) = q then 1 else 0) c b T + 0 = _
        exact Int.add_zero _
    refine ⟨?_, ⟨?_, a2.2.1, fun t i ⟨hv, hz⟩ => ?_⟩, ⟨?_, a3.2.1, fun t i ⟨hv, hz⟩ => ?_⟩⟩
    · show (su e).toInt = _
      rw [a1]
      have x2 := yS1_x2 (A := fun q => 1 ≤ q ∧ zkey so pa le q = (ks e).toInt) (N := N) (f := fun t i => ypt g c b t (i + 1)) T (c := c) (b := b) (fun t i h1 h2 h3 => hlt t (i + 1) h1 h2 (by omega))
      have x3 : yS1 (fun q => if 1 ≤ q ∧ zkey so pa le q = (ks e).toInt then (go q).toInt else 0) N = yS1 (fun q => if 1 ≤ q ∧ zkey so pa le q = (ks e).toInt then yS2 (fun t i => if ypt g c b t (i + 1) = q then 1 else 0) c b T else 0) N := yS1_cg N (fun q hq => by
        by_cases c9 : 1 ≤ q ∧ zkey so pa le q = (ks e).toInt
        · rw [if_pos c9, if_pos c9, (hgo q c9.1 hq).1]
        · rw [if_neg c9, if_neg c9])
      rw [x3, x2]
      refine yS2_cg T (fun t i h1 h2 h3 => ?_)
      have y1 := (hky t i ⟨h1, h2, h3⟩).2
      have y2 := hiff t i ⟨h1, h2, h3⟩ e he
      by_cases c9 : zkey so pa le (ypt g c b t (i + 1)) = (ks e).toInt
      · rw [if_pos ⟨y1, c9⟩, if_pos (y2.mp c9)]
      · rw [if_neg (fun q => c9 q.2), if_neg (fun q => c9 (y2.mpr q))]
    · rcases a2.1 with q | ⟨q, j, ⟨_, ⟨q1, q2⟩, q3⟩, q4⟩
      · exact Or.inl q
      · have q4' : (lo q).toInt = (lo2 e).toInt := q4
        rcases (hgo q q1 q2).2.1.1 with r | ⟨t, i, ⟨r1, r2⟩, r3⟩
        · exact Or.inl (by show (lo2 e).toInt = 99; omega)
        · exact Or.inr ⟨t, i, ⟨r1, (hiff t i r1 e he).mp (by rw [r2]; exact q3)⟩, by show v t i = (lo2 e).toInt; omega⟩
    · have y1 := (hky t i hv).2
      have y2 : (lo2 e).toInt ≤ (lo (ypt g c b t (i + 1))).toInt := a2.2.2 _ 0 ⟨rfl, ⟨y1, hlt t (i + 1) hv.1 hv.2.1 (by have := hv.2.2; omega)⟩, (hiff t i hv e he).mpr hz⟩
      have y3 := (hgo _ y1 (hlt t (i + 1) hv.1 hv.2.1 (by have := hv.2.2; omega))).2.1.2.2 t i ⟨hv, rfl⟩
      show (lo2 e).toInt ≤ v t i
      omega
    · rcases a3.1 with q | ⟨q, j, ⟨_, ⟨q1, q2⟩, q3⟩, q4⟩
      · exact Or.inl q
      · have q4' : (hi q).toInt = (hi2 e).toInt := q4
        rcases (hgo q q1 q2).2.2.1 with r | ⟨t, i, ⟨r1, r2⟩, r3⟩
        · exact Or.inl (by show (hi2 e).toInt = 0; omega)
        · exact Or.inr ⟨t, i, ⟨r1, (hiff t i r1 e he).mp (by rw [r2]; exact q3)⟩, by show v t i = (hi2 e).toInt; omega⟩
    · have y1 := (hky t i hv).2
      have y2 : (hi (ypt g c b t (i + 1))).toInt ≤ (hi2 e).toInt := a3.2.2 _ 0 ⟨rfl, ⟨y1, hlt t (i + 1) hv.1 hv.2.1 (by have := hv.2.2; omega)⟩, (hiff t i hv e he).mpr hz⟩
      have y3 := (hgo _ y1 (hlt t (i + 1) hv.1 hv.2.1 (by have := hv.2.2; omega))).2.2.2.2 t i ⟨hv, rfl⟩
      show v t i ≤ (hi2 e).toInt
      omega
end
/-! fold(), whole -/
section
variable {R : Nat → Int32} {b : Int} {k E : Nat} {px M : Int} {pa le go en lo hi lg pl ro co sl sl1 so ls pf en2 rw_ ks su0 lo0 hi0 su lo2 hi2 ed0 ed : Nat → Int32}
theorem yCG_b1 {g : Nat → Nat → Nat} {c : Nat → Nat} {v : Nat → Nat → Int} {T : Nat} (h : yCG g c v b T px pa le go en lo hi lg) (hc : ∀ t : Nat, c t ≤ 12) (hT : T ≤ 20) : (∀ q : Nat, q < px.toNat → 0 ≤ (en q).toInt ∧ (en q).toInt ≤ 1000) ∧ ∀ q : Nat, 1 ≤ q → q < px.toNat → 0 ≤ (go q).toInt ∧ (go q).toInt ≤ 1000 := by
  rcases h with ⟨h1, _⟩ | ⟨_, h1, h2⟩
  · exact ⟨fun q hq => by omega, fun q _ hq => by omega⟩
  · have h3 : px = ((ytr g c b T).1 : Int) := h1.1
    refine ⟨fun q hq => ?_, fun q q1 hq => ?_⟩
    · have a1 := h2.2 q (by show q < (ytr g c b T).1; omega)
      have a2 := yEn_r (g := g) (c := c) (b := b) (t := T) q
      omega
    · have a1 := (h2.1 q q1 (by show q < (ytr g c b T).1; omega)).1
      have a2 := yGo_r (g := g) (b := b) (t := T) (i := 0) hc q
      omega
theorem yFold (hR : yRw R) (hG : yCG (zgR R) (zcR R) (zvR R) b (R 0).toInt.toNat px pa le go en lo hi lg) (hP : yPL (zgR R) (zcR R) b (R 0).toInt.toNat 0 pl) (hpx : 0 ≤ px) (hF : yTP (zgR R) (zcR R) b (R 0).toInt.toNat px → yPL (zgR R) (zcR R) b (R 0).toInt.toNat 0 pl → yFo (ypt (zgR R) (zcR R) b) (fun t9 i9 => ((yk1 (zgR R) (zcR R) t9 i9 k : Nat) : Int)) (zcR R) b (R 0).toInt.toNat 0 px.toNat 0 ro co) (hsl : ∀ j : Nat, (sl j).toInt = -1)
    (hS : ∀ (pt : Nat → Nat → Nat) (key : Nat → Nat → Int) (cc : Nat → Nat) (bu : Int) (TT : Nat), yFo pt key cc bu TT 0 px.toNat 0 ro co → (∀ j : Nat, j < 512 → (sl j).toInt = -1) → (∀ q : Nat, q < px.toNat → 0 ≤ (en q).toInt ∧ (en q).toInt ≤ 1000) → yFS (yAl pt key (yPf cc bu TT 0)) (yHF ro co) en co px.toNat M so ls sl1 pf en2 rw_) (hso : zR so 0 240)
    (hK : ySl (fun e9 => (ks e9).toInt) E (yKs so pa le px.toNat) ∧ yE0 su0 lo0 hi0 E)
    (hE : ySl (fun e9 => (ks e9).toInt) E (yKs so pa le px.toNat) → yE0 su0 lo0 hi0 E → (∀ q : Nat, 1 ≤ q → q < px.toNat → 0 ≤ (go q).toInt ∧ (go q).toInt ≤ 1000) → yER so pa le go lo hi ks su lo2 hi2 ed px.toNat E) :
    yMC (zgR R) (zcR R) (zvR R) b (R 0).toInt.toNat k px.toNat M.toNat (yN so) (yN ls) (fun s => (pf s).toInt) (fun s => (en2 s).toInt) E (yKf ks) (yKb ks) (yKt ks) (fun e => (su e).toInt) (fun e => (lo2 e).toInt) (fun e => (hi2 e).toInt) ∧ (∀ t i : Nat, yVd (zcR R) b (R 0).toInt.toNat t i → 0 ≤ (ed (ypt (zgR R) (zcR R) b t (i + 1))).toInt ∧ (ed (ypt (zgR R) (zcR R) b t (i + 1))).toInt < (E : Int) ∧ yCd (zgR R) (zcR R) b (yN so) t i = ((2410 * yKf ks (ed (ypt (zgR R) (zcR R) b t (i + 1))).toInt.toNat + 241 * yKb ks (ed (ypt (zgR R) (zcR R) b t (i + 1))).toInt.toNat + yKt ks (ed (ypt (zgR R) (zcR R) b t (i + 1))).toInt.toNat : Nat) : Int)) ∧ yFS (yAl (ypt (zgR R) (zcR R) b) (fun t9 i9 => ((yk1 (zgR R) (zcR R) t9 i9 k : Nat) : Int)) (yPf (zcR R) b (R 0).toInt.toNat 0)) (yHF ro co) en co px.toNat M so ls sl1 pf en2 rw_ ∧ yER so pa le go lo hi ks su lo2 hi2 ed px.toNat E := by
  obtain ⟨b1, b2⟩ := yCG_b1 hG (fun t => yRw_c hR t) (by have := hR.1; omega)
  have f1 := hF (yCG_tp hG) hP
  have s1 := hS _ _ _ _ _ f1 (fun j _ => hsl j) b1
  have e1 := hE hK.1 hK.2 b2
  have m1 := yMC_x (yRw_g hR _) hG (by omega) s1 hso hK.1 e1
  exact ⟨m1.1, m1.2, s1, e1⟩
end
/-- the class's machine of TRACES, one left out, by a DEPTH -/
def yMm (R : Nat → Int32) (b : Int) (k : Nat) (M E : Int) (so le pf en ks su lo hi fe ed : Nat → Int32) : Prop := ∃ N : Nat, yTP (zgR R) (zcR R) b (R 0).toInt.toNat (N : Int) ∧
  yMC (zgR R) (zcR R) (zvR R) b (R 0).toInt.toNat k N M.toNat (yN so) (yN le) (fun s => (pf s).toInt) (fun s => (en s).toInt) E.toNat (yKf ks) (yKb ks) (yKt ks) (fun e => (su e).toInt) (fun e => (lo e).toInt) (fun e => (hi e).toInt) ∧
  (∀ t i : Nat, yVd (zcR R) b (R 0).toInt.toNat t i → 0 ≤ (ed (ypt (zgR R) (zcR R) b t (i + 1))).toInt ∧ (ed (ypt (zgR R) (zcR R) b t (i + 1))).toInt < E ∧ yCd (zgR R) (zcR R) b (yN so) t i = ((2410 * yKf ks (ed (ypt (zgR R) (zcR R) b t (i + 1))).toInt.toNat + 241 * yKb ks (ed (ypt (zgR R) (zcR R) b t (i + 1))).toInt.toNat + yKt ks (ed (ypt (zgR R) (zcR R) b t (i + 1))).toInt.toNat : Nat) : Int)) ∧
  ∀ s : Nat, s ≤ M.toNat → yFE (fun e9 => (ks e9).toInt / 2560) E.toNat s (fe s).toInt
section
variable {R : Nat → Int32} {b : Int} {k E : Nat} {px M E1 : Int} {pa le go en lo hi lg pl ro co sl sl1 so ls pf en2 rw_ ks su0 lo0 hi0 su lo2 hi2 ed0 ed fe : Nat → Int32}
theorem yFoldM (hR : yRw R) (hG : yCG (zgR R) (zcR R) (zvR R) b (R 0).toInt.toNat px pa le go en lo hi lg) (hP : yPL (zgR R) (zcR R) b (R 0).toInt.toNat 0 pl) (hpx : 0 ≤ px) (hF : yTP (zgR R) (zcR R) b (R 0).toInt.toNat px → yPL (zgR R) (zcR R) b (R 0).toInt.toNat 0 pl → yFo (ypt (zgR R) (zcR R) b) (fun t9 i9 => ((yk1 (zgR R) (zcR R) t9 i9 k : Nat) : Int)) (zcR R) b (R 0).toInt.toNat 0 px.toNat 0 ro co) (hsl : ∀ j : Nat, (sl j).toInt = -1)
    (hS : ∀ (pt : Nat → Nat → Nat) (key : Nat → Nat → Int) (cc : Nat → Nat) (bu : Int) (TT : Nat), yFo pt key cc bu TT 0 px.toNat 0 ro co → (∀ j : Nat, j < 512 → (sl j).toInt = -1) → (∀ q : Nat, q < px.toNat → 0 ≤ (en q).toInt ∧ (en q).toInt ≤ 1000) → yFS (yAl pt key (yPf cc bu TT 0)) (yHF ro co) en co px.toNat M so ls sl1 pf en2 rw_) (hso : zR so 0 240)
    (hK : ySl (fun e9 => (ks e9).toInt) E1.toNat (yKs so pa le px.toNat) ∧ yE0 su0 lo0 hi0 E1.toNat)
    (hE : ySl (fun e9 => (ks e9).toInt) E1.toNat (yKs so pa le px.toNat) → yE0 su0 lo0 hi0 E1.toNat → (∀ q : Nat, 1 ≤ q → q < px.toNat → 0 ≤ (go q).toInt ∧ (go q).toInt ≤ 1000) → yER so pa le go lo hi ks su lo2 hi2 ed px.toNat E1.toNat)
    (hFF : (∀ i9 j9 : Nat, i9 < j9 → j9 < E1.toNat → (ks i9).toInt ≤ (ks j9).toInt) → (∀ e9 : Nat, e9 < E1.toNat → 0 ≤ (ks e9).toInt ∧ (ks e9).toInt / 2560 < M) → ∀ s9 : Nat, s9 ≤ M.toNat → yFE (fun e9 => (ks e9).toInt / 2560) E1.toNat s9 (fe s9).toInt) (hM : 0 ≤ M ∧ M ≤ 241) (hE1 : 0 ≤ E1) : yMm R b k M E1 so ls pf en2 ks su lo2 hi2 fe ed := by
  obtain ⟨m1, m2, s1, e1⟩ := yFold hR hG hP hpx hF hsl hS hso hK hE
  have hlt : ∀ t i : Nat, t < (R 0).toInt.toNat → ¬ (t : Int) = b → i ≤ zcR R t → ypt (zgR R) (zcR R) b t i < px.toNat := fun t i h1 h2 h3 => by
    have := yTP_lt (yCG_tp hG) (yRw_g hR _) h1 h2 h3
    omega
  refine ⟨px.toNat, by rw [show ((px.toNat : Nat) : Int) = px by omega]; exact yCG_tp hG, m1, fun t i hv => ?_, hFF (fun i j hij hj => ?_) (fun e he => ?_)⟩
  · obtain ⟨q1, q2, q3⟩ := m2 t i hv
    exact ⟨q1, by omega, q3⟩
  · have : (ks i).toInt < (ks j).toInt := hK.1.1 i j hij hj
    omega
  · obtain ⟨q, q1, q2, q3⟩ := (hK.1.2 (ks e).toInt).mpr ⟨e, he, rfl⟩
    have a1 := (yMC_fr m1 (yRw_g hR _) hlt (by omega) e he).1
    have a2 : (ks e).toInt.toNat / 2560 < M.toNat := a1
    have a3 : 0 ≤ (ks e).toInt := by
      rcases hG with ⟨k1, _⟩ | ⟨_, k2⟩
      · omega
      · have k3 : yCA (ytr (zgR R) (zcR R) b (R 0).toInt.toNat) px pa le lg := k2.1
        obtain ⟨⟨p1, p2, p3⟩, _⟩ := k3.2.2 q q1 (by have := k3.1; omega)
        have b1 := (hso (pa q).toNatClampNeg).1
        have b2 := (hso q).1
        rw [← q3]
        unfold zkey
        omega
    omega
end
/-- how many rows follow a STATE's least PREFIX -/
def yMr (R : Nat → Int32) (b : Int) (k : Nat) (M : Int) (le rw_ : Nat → Int32) : Prop := ∀ s : Nat, s < M.toNat → 0 ≤ (rw_ s).toInt ∧ ∃ f : Nat → Int, ySl f (rw_ s).toInt.toNat (yM (ypt (zgR R) (zcR R) b) (fun t9 i9 => ((yk1 (zgR R) (zcR R) t9 i9 k : Nat) : Int)) (yPf (zcR R) b (R 0).toInt.toNat 0) (yN le s))
section
variable {R : Nat → Int32} {b : Int} {k E : Nat} {px M : Int} {pa le go en lo hi lg pl ro co sl sl1 so ls pf en2 rw_ ks su0 lo0 hi0 su lo2 hi2 ed : Nat → Int32}
theorem yFoldR (hR : yRw R) (hG : yCG (zgR R) (zcR R) (zvR R) b (R 0).toInt.toNat px pa le go en lo hi lg) (hP : yPL (zgR R) (zcR R) b (R 0).toInt.toNat 0 pl) (hpx : 0 ≤ px) (hF : yTP (zgR R) (zcR R) b (R 0).toInt.toNat px → yPL (zgR R) (zcR R) b (R 0).toInt.toNat 0 pl → yFo (ypt (zgR R) (zcR R) b) (fun t9 i9 => ((yk1 (zgR R) (zcR R) t9 i9 k : Nat) : Int)) (zcR R) b (R 0).toInt.toNat 0 px.toNat 0 ro co) (hsl : ∀ j : Nat, (sl j).toInt = -1)
    (hS : ∀ (pt : Nat → Nat → Nat) (key : Nat → Nat → Int) (cc : Nat → Nat) (bu : Int) (TT : Nat), yFo pt key cc bu TT 0 px.toNat 0 ro co → (∀ j : Nat, j < 512 → (sl j).toInt = -1) → (∀ q : Nat, q < px.toNat → 0 ≤ (en q).toInt ∧ (en q).toInt ≤ 1000) → yFS (yAl pt key (yPf cc bu TT 0)) (yHF ro co) en co px.toNat M so ls sl1 pf en2 rw_) (hso : zR so 0 240)
    (hK : ySl (fun e9 => (ks e9).toInt) E (yKs so pa le px.toNat) ∧ yE0 su0 lo0 hi0 E)
    (hE : ySl (fun e9 => (ks e9).toInt) E (yKs so pa le px.toNat) → yE0 su0 lo0 hi0 E → (∀ q : Nat, 1 ≤ q → q < px.toNat → 0 ≤ (go q).toInt ∧ (go q).toInt ≤ 1000) → yER so pa le go lo hi ks su lo2 hi2 ed px.toNat E) : yMr R b k M ls rw_ := by
  obtain ⟨_, _, s1, _⟩ := yFold hR hG hP hpx hF hsl hS hso hK hE
  have f1 := hF (yCG_tp hG) hP
  intro s hs
  have a := (s1.1.1 s hs).1
  have b9 := f1 (yN ls s) a
  have r := (s1.2.2 s hs).2.2
  rw [r]
  exact ⟨b9.1.1, _, b9.2⟩
end
