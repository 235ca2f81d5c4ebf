/-! the class's Machine: STATES -/
abbrev yN (f : Nat → Int32) : Nat → Nat := fun j => (f j).toInt.toNat
def yFS (al : Nat → Nat → Prop) (hf : Nat → Int32) (tE co : Nat → Int32) (p : Nat) (M : Int) (so le sl pf en rw_ : Nat → Int32) : Prop := yST al p M.toNat (yN so) (yN le) ∧ yHS sl hf M.toNat (yN le) ∧ ∀ s : Nat, s < M.toNat → (pf s).toInt = yS1 (fun q => if yN so q = s then 1 else 0) p ∧ (en s).toInt = yS1 (fun q => if yN so q = s then (tE q).toInt else 0) p ∧ rw_ s = co (0 + yN le s)
section
variable {al : Nat → Nat → Prop} {hf : Nat → Int32} {tE co so le sl pf en rw_ so1 so2 le1 sl1 pf1 pf2 en1 en2 rw1 : Nat → Int32} {p : Nat} {M M1 l like st pv pv1 ev ev1 te cv : Int32} {lk : Nat → Prop} {h : Int32}
theorem yS1_1 {f f' : Nat → Int} {x : Int} (p : Nat) (h : ∀ q : Nat, q < p → f' q = f q) (e : f' p = x) : yS1 f' (p + 1) = yS1 f p + x := by
  show yS1 f' p + f' p = _
  rw [yS1_cg (f := f') (g := f) p h, e]
theorem yFS_0 (e : ∀ j : Nat, j < 512 → (sl j).toInt = -1) : yFS al hf tE co 0 0 so le sl pf en rw_ := ⟨yST_0, yHS_0 e, fun s hs => by
  have hs' : s < 0 := hs
  omega⟩
theorem yN_b {f : Nat → Int32} {x : Int32} {q k : Nat} (hx : x.toInt = (k : Int)) (e : f q = x) : yN f q = k := by
  show (f q).toInt.toNat = k
  rw [e]
  omega
theorem z_addI {a b v : Int32} (e : v = a + b) (h : 0 ≤ a.toInt ∧ a.toInt ≤ 1000000 ∧ 0 ≤ b.toInt ∧ b.toInt ≤ 1000000) : v.toInt = a.toInt + b.toInt := by
  rw [e, Int32.toInt_add]
  exact zi_bmod (by omega)
/-- how large the counts are -/
theorem yFS_b (h : yFS al hf tE co p M.toInt so le sl pf en rw_) (hp : p ≤ 241) (ht : ∀ q : Nat, q < p → 0 ≤ (tE q).toInt ∧ (tE q).toInt ≤ 1000) {s : Nat} (hs : s < M.toInt.toNat) : (0 ≤ (pf s).toInt ∧ (pf s).toInt ≤ 241) ∧ 0 ≤ (en s).toInt ∧ (en s).toInt ≤ 241000 := by
  obtain ⟨a1, a2, a3⟩ := h.2.2 s hs
  have b1 := yS1_b (f := fun q => if yN so q = s then 1 else 0) (m := 1) p (fun q _ => by
    show 0 ≤ (if yN so q = s then (1 : Int) else 0) ∧ (if yN so q = s then (1 : Int) else 0) ≤ 1
    split <;> omega)
  have b2 := yS1_b (f := fun q => if yN so q = s then (tE q).toInt else 0) (m := 1000) p (fun q hq => by
    show 0 ≤ (if yN so q = s then (tE q).toInt else 0) ∧ (if yN so q = s then (tE q).toInt else 0) ≤ 1000
    have := ht q hq
    split <;> omega)
  omega
/-- the PREFIX's STATE is there -/
theorem yFS_o (hs : yFS al hf tE co p M.toInt so le sl pf en rw_) (hM : 0 ≤ M.toInt ∧ M.toInt ≤ 241) (hl : l.toInt = (p : Int)) (hp : p ≤ 240) (hr0 : ∀ q : Nat, 0 ≤ (so q).toInt ∧ 0 ≤ (le q).toInt) (hh : h = hf p) (h1 : ∀ s : Nat, s < M.toInt.toNat → (lk (yN le s) ↔ al p (yN le s))) (h2 : ∀ s : Nat, s < M.toInt.toNat → al p (yN le s) → hf (yN le s) = hf p) (ht : ∀ q : Nat, q ≤ p → 0 ≤ (tE q).toInt ∧ (tE q).toInt ≤ 1000) (f : yFL h l lk sl sl1 like) (hne : ¬ like.toInt = l.toInt)
    (e1 : st = so like.toNatClampNeg) (e2 : so2 = upd so l.toNatClampNeg st) (e3 : pv = pf st.toNatClampNeg) (e4 : pv1 = pv + 1) (e5 : pf2 = upd pf st.toNatClampNeg pv1) (e6 : ev = en st.toNatClampNeg) (e7 : te = tE l.toNatClampNeg) (e8 : ev1 = ev + te) (e9 : en2 = upd en st.toNatClampNeg ev1) : yFS al hf tE co (p + 1) M.toInt so2 le sl1 pf2 en2 rw_ := by
  have hlp : l.toNatClampNeg = p := by
    have := zcl (i := l) (by omega)
    omega
  rcases yHS_f (al := al p) hs.2.1 (by omega) hl hh h1 h2 (fun s hs' => by have := (hs.1.1 s hs').1; omega) f with ⟨s, s1, s2, s3, s4⟩ | ⟨_, k2, _⟩
  · have hst : st = so (yN le s) := by
      rw [e1, show like.toNatClampNeg = yN le s by have := zcl (i := like) (by omega); omega]
    have hst2 : st.toInt = (s : Int) := by
      have a1 := (hs.1.1 s s1).2
      have a2 := (hr0 (yN le s)).1
      rw [hst]
      have a3 : (so (yN le s)).toInt.toNat = s := a1
      omega
    have hsn : st.toNatClampNeg = s := by
      have := zcl (i := st) (by omega)
      omega
    rw [hlp] at e2 e7
    rw [hsn] at e3 e5 e6 e9
    have q1 : ∀ q : Nat, q < p → yN so2 q = yN so q := fun q hq => by
      show (so2 q).toInt.toNat = (so q).toInt.toNat
      rw [e2, z_at, if_neg (by omega)]
    have q2 : yN so2 p = s := by
      show (so2 p).toInt.toNat = s
      rw [e2, z_at, if_pos rfl]
      omega
    refine ⟨yST_o hs.1 s1 s2 q1 q2 (fun _ _ => rfl), by rw [s4]; exact hs.2.1, fun s' hs' => ?_⟩
    obtain ⟨a1, a2, a3⟩ := hs.2.2 s' hs'
    obtain ⟨b1, b2⟩ := yFS_b hs (by omega) (fun q hq => ht q (by omega)) hs'
    have t9 := ht p (Nat.le_refl _)
    refine ⟨?_, ?_, a3⟩
    · rw [yS1_1 (f := fun q => if yN so q = s' then 1 else 0) (x := if s = s' then 1 else 0) p (fun q hq => by
        show (if yN so2 q = s' then (1 : Int) else 0) = (if yN so q = s' then (1 : Int) else 0)
        rw [q1 q hq]) (by
        show (if yN so2 p = s' then (1 : Int) else 0) = _
        rw [q2]), e5, z_at, ← a1]
      by_cases c9 : s' = s
      · subst c9
        rw [if_pos rfl, if_pos rfl, zI1_add e4 (by rw [e3]; omega), e3]
      · rw [if_neg c9, if_neg (fun k => c9 k.symm)]
        omega
    · rw [yS1_1 (f := fun q => if yN so q = s' then (tE q).toInt else 0) (x := if s = s' then (tE p).toInt else 0) p (fun q hq => by
        show (if yN so2 q = s' then (tE q).toInt else 0) = (if yN so q = s' then (tE q).toInt else 0)
        rw [q1 q hq]) (by
        show (if yN so2 p = s' then (tE p).toInt else 0) = _
        rw [q2]), e9, z_at, ← a2]
      by_cases c9 : s' = s
      · subst c9
        rw [if_pos rfl, if_pos rfl, z_addI e8 (by rw [e6, e7]; omega), e6, e7]
      · rw [if_neg c9, if_neg (fun k => c9 k.symm)]
        omega
  · exact absurd (by rw [k2]) hne
/-- a new STATE -/
theorem yFS_n (hs : yFS al hf tE co p M.toInt so le sl pf en rw_) (hM : 0 ≤ M.toInt ∧ M.toInt ≤ 240) (hl : l.toInt = (p : Int)) (hp : p ≤ 240) (hr : al p p) (hy : ∀ x y : Nat, al x y → al y x) (hr0 : ∀ q : Nat, 0 ≤ (so q).toInt ∧ 0 ≤ (le q).toInt) (hh : h = hf p) (h1 : ∀ s : Nat, s < M.toInt.toNat → (lk (yN le s) ↔ al p (yN le s))) (h2 : ∀ s : Nat, s < M.toInt.toNat → al p (yN le s) → hf (yN le s) = hf p) (ht : ∀ q : Nat, q ≤ p → 0 ≤ (tE q).toInt ∧ (tE q).toInt ≤ 1000) (f : yFL h l lk sl sl1 like) (hne : like.toInt = l.toInt)
    (d1 : so1 = upd so l.toNatClampNeg M) (d2 : le1 = upd le M.toNatClampNeg l) (d3 : pf1 = upd pf M.toNatClampNeg 0) (d4 : en1 = upd en M.toNatClampNeg 0) (d6 : cv = co l.toNatClampNeg) (d5 : rw1 = upd rw_ M.toNatClampNeg cv) (d7 : M1.toInt = M.toInt + 1)
    (e1 : st = so1 like.toNatClampNeg) (e2 : so2 = upd so1 l.toNatClampNeg st) (e3 : pv = pf1 st.toNatClampNeg) (e4 : pv1 = pv + 1) (e5 : pf2 = upd pf1 st.toNatClampNeg pv1) (e6 : ev = en1 st.toNatClampNeg) (e7 : te = tE l.toNatClampNeg) (e8 : ev1 = ev + te) (e9 : en2 = upd en1 st.toNatClampNeg ev1) : yFS al hf tE co (p + 1) M1.toInt so2 le1 sl1 pf2 en2 rw1 := by
  have z0 : (0 : Int32).toInt = 0 := by decide +kernel
  have hlp : l.toNatClampNeg = p := by
    have := zcl (i := l) (by omega)
    omega
  have hMn : M.toNatClampNeg = M.toInt.toNat := zcl hM.1
  have hlk : like.toNatClampNeg = p := by
    have := zcl (i := like) (by omega)
    omega
  rw [hlp] at d1 d6 e2 e7
  rw [hMn] at d2 d3 d4 d5
  have hst : st = M := by rw [e1, hlk, d1, z_at, if_pos rfl]
  subst hst
  rw [hMn] at e3 e5 e6 e9
  rcases yHS_f (al := al p) hs.2.1 (by omega) hl hh h1 h2 (fun s hs' => by have := (hs.1.1 s hs').1; omega) f with ⟨s, s1, s2, s3, s4⟩ | ⟨k1, k2, k3⟩
  · exfalso
    have := (hs.1.1 s s1).1
    omega
  · have q1 : ∀ q : Nat, q < p → yN so2 q = yN so q := fun q hq => by
      show (so2 q).toInt.toNat = (so q).toInt.toNat
      rw [e2, z_at, if_neg (by omega), d1, z_at, if_neg (by omega)]
    have q2 : yN so2 p = st.toInt.toNat := by
      show (so2 p).toInt.toNat = _
      rw [e2, z_at, if_pos rfl]
    have q3 : ∀ s : Nat, s < st.toInt.toNat → yN le1 s = yN le s := fun s hs' => by
      show (le1 s).toInt.toNat = (le s).toInt.toNat
      rw [d2, z_at, if_neg (by omega)]
    have q4 : yN le1 st.toInt.toNat = p := by
      show (le1 st.toInt.toNat).toInt.toNat = p
      rw [d2, z_at, if_pos rfl]
      omega
    rw [show M1.toInt = st.toInt + 1 by omega]
    unfold yFS
    rw [show (st.toInt + 1).toNat = st.toInt.toNat + 1 by omega]
    refine ⟨yST_n hs.1 hr hy k1 q1 q2 q3 q4, k3 (yN le1) q3 q4, fun s' hs' => ?_⟩
    have t9 := ht p (Nat.le_refl _)
    by_cases c9 : s' = st.toInt.toNat
    · subst c9
      have n0 : ∀ q : Nat, q < p → ¬ yN so q = st.toInt.toNat := fun q hq => by
        have := (hs.1.2.2.1 q hq).1
        omega
      have p0 : pv = 0 := by rw [e3, d3, z_at, if_pos rfl]
      have v0 : ev = 0 := by rw [e6, d4, z_at, if_pos rfl]
      refine ⟨?_, ?_, ?_⟩
      · rw [yS1_1 (f := fun q => if yN so q = st.toInt.toNat then 1 else 0) (x := 1) p (fun q hq => by
          show (if yN so2 q = st.toInt.toNat then (1 : Int) else 0) = (if yN so q = st.toInt.toNat then (1 : Int) else 0)
          rw [q1 q hq]) (by
          show (if yN so2 p = st.toInt.toNat then (1 : Int) else 0) = _
          rw [if_pos q2]), e5, z_at, if_pos rfl, zI1_add e4 (by rw [p0]; omega), p0, z0, yS1_0 p (fun q hq => if_neg (n0 q hq))]
      · rw [yS1_1 (f := fun q => if yN so q = st.toInt.toNat then (tE q).toInt else 0) (x := (tE p).toInt) p (fun q hq => by
          show (if yN so2 q = st.toInt.toNat then (tE q).toInt else 0) = (if yN so q = st.toInt.toNat then (tE q).toInt else 0)
          rw [q1 q hq]) (by
          show (if yN so2 p = st.toInt.toNat then (tE p).toInt else 0) = _
          rw [if_pos q2]), e9, z_at, if_pos rfl, z_addI e8 (by rw [v0, e7]; omega), v0, z0, e7, yS1_0 p (fun q hq => if_neg (n0 q hq))]
      · rw [d5, z_at, if_pos rfl, d6, q4, show 0 + p = p by omega]
    · obtain ⟨a1, a2, a3⟩ := hs.2.2 s' (by omega)
      refine ⟨?_, ?_, ?_⟩
      · rw [yS1_1 (f := fun q => if yN so q = s' then 1 else 0) (x := 0) p (fun q hq => by
          show (if yN so2 q = s' then (1 : Int) else 0) = (if yN so q = s' then (1 : Int) else 0)
          rw [q1 q hq]) (by
          show (if yN so2 p = s' then (1 : Int) else 0) = _
          rw [q2, if_neg (fun k => c9 k.symm)]), e5, z_at, if_neg c9, d3, z_at, if_neg c9, a1]
        omega
      · rw [yS1_1 (f := fun q => if yN so q = s' then (tE q).toInt else 0) (x := 0) p (fun q hq => by
          show (if yN so2 q = s' then (tE q).toInt else 0) = (if yN so q = s' then (tE q).toInt else 0)
          rw [q1 q hq]) (by
          show (if yN so2 p = s' then (tE p).toInt else 0) = _
          rw [q2, if_neg (fun k => c9 k.symm)]), e9, z_at, if_neg c9, d4, z_at, if_neg c9, a2]
        omega
      · rw [d5, z_at, if_neg c9, q3 s' (by omega)]
        exact a3
end
/-! the class's Machine: EDGES -/
/-- keys of PREFIXES below p -/
def yKs (so pa le : Nat → Int32) (p : Nat) (z : Int) : Prop := ∃ q : Nat, 1 ≤ q ∧ q < p ∧ zkey so pa le q = z
section
variable {so pa le ks ks1 ks2 su su1 lo lo1 hi hi1 : Nat → Int32} {p E a sp dp n i3 : Nat} {z : Int} {key at_ : Int32}
theorem ySl_pl {f : Nat → Int} {P : Int → Prop} (h : ySl f E P) (hz : P z) (h1 : (a : Int) < (E : Int) → z ≤ f a) (h2 : a = 0 ∨ f (a - 1) < z) (ha : a ≤ E) : a < E ∧ f a = z := by
  obtain ⟨m, m1, m2⟩ := (h.2 z).mp hz
  have h3 : a ≤ m := by
    rcases h2 with h2 | h2
    · omega
    · by_cases c9 : a ≤ m
      · exact c9
      · exfalso
        by_cases c8 : m = a - 1
        · rw [c8] at m2
          omega
        · have := h.1 m (a - 1) (by omega) (by omega)
          omega
  have h4 := h1 (by omega)
  by_cases c9 : a = m
  · exact ⟨by omega, by rw [c9]; exact m2⟩
  · have := h.1 a m (by omega) m1
    omega
theorem yKs_o (h : ySl (fun e => (ks e).toInt) E (yKs so pa le p)) (hk : ∃ e : Nat, e < E ∧ (ks e).toInt = zkey so pa le p) : ySl (fun e => (ks e).toInt) E (yKs so pa le (p + 1)) := by
  refine ySl_cg h (fun _ _ => rfl) (fun y => ⟨fun ⟨q, q1, q2, q3⟩ => ?_, fun ⟨q, q1, q2, q3⟩ => ⟨q, q1, by omega, q3⟩⟩)
  by_cases c9 : q = p
  · obtain ⟨e, e1, e2⟩ := hk
    exact (h.2 y).mpr ⟨e, e1, by show (ks e).toInt = y; rw [e2, ← c9]; exact q3⟩
  · exact ⟨q, q1, by omega, q3⟩
theorem yKs_n (h : ySl (fun e => (ks e).toInt) E (yKs so pa le p)) (hp : 1 ≤ p) (hk : key.toInt = zkey so pa le p) (ha : a ≤ E) (h1 : (a : Int) < (E : Int) → key.toInt ≤ (ks a).toInt) (h2 : a = 0 ∨ (ks (a - 1)).toInt < key.toInt) (h3 : a = E ∨ ¬ (ks a).toInt = key.toInt) (e1 : ks1 = va_cpy ks ks sp dp n) (e2 : ks2 = upd ks1 i3 key) (hi3 : i3 = a) (hs : sp = a) (hd : dp = a + 1) (hn : a + n = E) : ySl (fun e => (ks2 e).toInt) (E + 1) (yKs so pa le (p + 1)) := by
  subst hs hd hi3
  refine ySl_cg (ySl_in (f' := fun e => (ks2 e).toInt) (z := key.toInt) h ha h2 (fun j j1 j2 => ?_) (fun j hj => ?_)) (fun _ _ => rfl) (fun y => ⟨fun ⟨q, q1, q2, q3⟩ => ?_, fun q => ?_⟩)
  · show key.toInt < (ks j).toInt
    have a1 := h1 (by omega)
    have a2 : ¬ (ks i3).toInt = key.toInt := by
      rcases h3 with h3 | h3
      · omega
      · exact h3
    by_cases c9 : j = i3
    · rw [c9]
      omega
    · have a3 : (ks i3).toInt < (ks j).toInt := h.1 i3 j (by omega) j2
      omega
  · show (ks2 j).toInt = if j < i3 then (ks j).toInt else if j = i3 then key.toInt else (ks (j - 1)).toInt
    rw [e2, z_at, e1]
    unfold va_cpy
    by_cases c9 : j = i3
    · rw [if_pos c9, if_neg (by omega), if_pos c9]
    · rw [if_neg c9]
      by_cases c8 : j < i3
      · rw [if_neg (by omega), if_pos c8]
      · rw [if_pos (by omega), if_neg c8, if_neg c9, show i3 + (j - (i3 + 1)) = j - 1 by omega]
  · by_cases c9 : q = p
    · exact Or.inr (by rw [hk, ← c9, q3])
    · exact Or.inl ⟨q, q1, by omega, q3⟩
  · rcases q with ⟨q, q1, q2, q3⟩ | q
    · exact ⟨q, q1, by omega, q3⟩
    · exact ⟨p, hp, by omega, by rw [← hk, q]⟩
/-- new EDGES hold nothing yet -/
def yE0 (su lo hi : Nat → Int32) (E : Nat) : Prop := ∀ e : Nat, e < E → (su e).toInt = 0 ∧ (lo e).toInt = 99 ∧ (hi e).toInt = 0
theorem yE0_n {j1 j2 j3 : Nat} (h : yE0 su lo hi E) (e1 : su1 = upd su j1 0) (e2 : lo1 = upd lo j2 99) (e3 : hi1 = upd hi j3 0) (h1 : j1 = E) (h2 : j2 = E) (h3 : j3 = E) : yE0 su1 lo1 hi1 (E + 1) := fun e he => by
  have z0 : (0 : Int32).toInt = 0 := by decide +kernel
  have z9 : (99 : Int32).toInt = 99 := by decide +kernel
  subst h1
  rw [e1, e2, e3, z_at, z_at, z_at, h2, h3]
  by_cases c9 : e = j1
  · rw [if_pos c9, if_pos c9, if_pos c9]
    exact ⟨z0, z9, z0⟩
  · rw [if_neg c9, if_neg c9, if_neg c9]
    exact h e (by omega)
end
/-- what EDGES hold of the PREFIXES below p -/
def yER (so pa le go tl th ks su lo hi ed : Nat → Int32) (p E : Nat) : Prop := (∀ e : Nat, e < E → (su e).toInt = yS1 (fun q => if 1 ≤ q ∧ zkey so pa le q = (ks e).toInt then (go q).toInt else 0) p ∧ yMi (fun q j => j = 0 ∧ (1 ≤ q ∧ q < p) ∧ zkey so pa le q = (ks e).toInt) (fun q _ => (tl q).toInt) (lo e).toInt ∧ yMa (fun q j => j = 0 ∧ (1 ≤ q ∧ q < p) ∧ zkey so pa le q = (ks e).toInt) (fun q _ => (th q).toInt) (hi e).toInt) ∧ ∀ q : Nat, 1 ≤ q → q < p → 0 ≤ (ed q).toInt ∧ (ed q).toInt < (E : Int) ∧ (ks (ed q).toInt.toNat).toInt = zkey so pa le q
section
variable {so pa le go tl th ks su lo hi ed su1 lo1 hi1 ed1 : Nat → Int32} {p E : Nat} {l at_ key sv sv1 gv lv lv1 tv hv hv1 uv : Int32}
theorem yER_0 (h : yE0 su lo hi E) : yER so pa le go tl th ks su lo hi ed 1 E := by
  refine ⟨fun e he => ?_, fun q q1 q2 => by omega⟩
  obtain ⟨a1, a2, a3⟩ := h e he
  rw [a1, a2, a3]
  refine ⟨?_, yMi_0 (fun q j hq => by have := hq.2.1; omega), yMa_0 (fun q j hq => by have := hq.2.1; omega)⟩
  exact (yS1_0 1 (fun q hq => if_neg (fun k => by have := k.1; omega))).symm
theorem yER_s (h : yER so pa le go tl th ks su lo hi ed p E) {P : Int → Prop} (hk : ySl (fun e => (ks e).toInt) E P) (hP9 : P (zkey so pa le p)) (hp : 1 ≤ p ∧ p ≤ 240) (hl : l.toInt = (p : Int)) (hkey : key.toInt = zkey so pa le p) (h0 : 0 ≤ at_.toInt ∧ at_.toInt ≤ (E : Int)) (h1 : at_.toInt < (E : Int) → key.toInt ≤ (ks at_.toInt.toNat).toInt) (h2 : at_.toInt = 0 ∨ (ks (at_.toInt - 1).toNat).toInt < key.toInt) (hg : ∀ q : Nat, 1 ≤ q → q ≤ p → 0 ≤ (go q).toInt ∧ (go q).toInt ≤ 1000)
    (e0 : ed1 = upd ed l.toNatClampNeg at_) (e1 : sv = su at_.toNatClampNeg) (e2 : gv = go l.toNatClampNeg) (e3 : sv1 = sv + gv) (e4 : su1 = upd su at_.toNatClampNeg sv1) (e5 : lv = lo at_.toNatClampNeg) (e6 : tv = tl l.toNatClampNeg) (e7 : lv1 = if tv < lv then tv else lv) (e8 : lo1 = upd lo at_.toNatClampNeg lv1) (e9 : hv = hi at_.toNatClampNeg) (f1 : uv = th l.toNatClampNeg) (f2 : hv1 = if hv < uv then uv else hv) (f3 : hi1 = upd hi at_.toNatClampNeg hv1) : yER so pa le go tl th ks su1 lo1 hi1 ed1 (p + 1) E := by
  have hlp : l.toNatClampNeg = p := by
    have := zcl (i := l) (by omega)
    omega
  have han : at_.toNatClampNeg = at_.toInt.toNat := zcl h0.1
  obtain ⟨a1, a2⟩ := ySl_pl (a := at_.toInt.toNat) hk (z := key.toInt) (by rw [hkey]; exact hP9) (fun q => h1 (by omega)) (by
    rcases h2 with h2 | h2
    · exact Or.inl (by omega)
    · refine Or.inr ?_
      show (ks (at_.toInt.toNat - 1)).toInt < key.toInt
      rw [show at_.toInt.toNat - 1 = (at_.toInt - 1).toNat by omega]
      exact h2) (by omega)
  have a2' : (ks at_.toInt.toNat).toInt = key.toInt := a2
  rw [hlp] at e0 e2 e6 f1
  rw [han] at e1 e4 e5 e8 e9 f3
  have g9 := hg p hp.1 (Nat.le_refl _)
  refine ⟨fun e he => ?_, fun q q1 q2 => ?_⟩
  · obtain ⟨b1, b2, b3⟩ := h.1 e he
    have hb := yS1_b (f := fun q => if 1 ≤ q ∧ zkey so pa le q = (ks e).toInt then (go q).toInt else 0) (m := 1000) p (fun q hq => by
      show 0 ≤ (if 1 ≤ q ∧ zkey so pa le q = (ks e).toInt then (go q).toInt else 0) ∧ (if 1 ≤ q ∧ zkey so pa le q = (ks e).toInt then (go q).toInt else 0) ≤ 1000
      by_cases c9 : 1 ≤ q ∧ zkey so pa le q = (ks e).toInt
      · rw [if_pos c9]
        exact hg q c9.1 (by omega)
      · rw [if_neg c9]
        omega)
    rw [e4, e8, f3, z_at, z_at, z_at]
    by_cases c9 : e = at_.toInt.toNat
    · subst c9
      rw [if_pos rfl, if_pos rfl, if_pos rfl]
      have hkk : zkey so pa le p = (ks at_.toInt.toNat).toInt := by rw [a2', hkey]
      have hP : ∀ q j : Nat, (j = 0 ∧ (1 ≤ q ∧ q < p + 1) ∧ zkey so pa le q = (ks at_.toInt.toNat).toInt) ↔ (j = 0 ∧ (1 ≤ q ∧ q < p) ∧ zkey so pa le q = (ks at_.toInt.toNat).toInt) ∨ q = p ∧ j = 0 := fun q j => by
        constructor
        · rintro ⟨k1, k2, k3⟩
          by_cases d9 : q = p
          · exact Or.inr ⟨d9, k1⟩
          · exact Or.inl ⟨k1, ⟨k2.1, by omega⟩, k3⟩
        · rintro (⟨k1, k2, k3⟩ | ⟨k1, k2⟩)
          · exact ⟨k1, ⟨k2.1, by omega⟩, k3⟩
          · exact ⟨k2, ⟨by omega, by omega⟩, by rw [k1]; exact hkk⟩
      refine ⟨?_, yMi_p b2 hP ?_, yMa_p b3 hP ?_⟩
      · show sv1.toInt = yS1 (fun q => if 1 ≤ q ∧ zkey so pa le q = (ks at_.toInt.toNat).toInt then (go q).toInt else 0) p + (if 1 ≤ p ∧ zkey so pa le p = (ks at_.toInt.toNat).toInt then (go p).toInt else 0)
        rw [if_pos ⟨hp.1, hkk⟩, z_addI e3 (by rw [e1, e2]; omega), e1, e2, b1]
      · show lv1.toInt = if (tl p).toInt < (lo at_.toInt.toNat).toInt then (tl p).toInt else (lo at_.toInt.toNat).toInt
        rw [e7, ← e5, ← e6]
        by_cases d9 : tv < lv
        · rw [if_pos d9, if_pos ((fa_lt _ _).mp d9)]
        · rw [if_neg d9, if_neg (fun k => d9 ((fa_lt _ _).mpr k))]
      · show hv1.toInt = if (hi at_.toInt.toNat).toInt < (th p).toInt then (th p).toInt else (hi at_.toInt.toNat).toInt
        rw [f2, ← e9, ← f1]
        by_cases d9 : hv < uv
        · rw [if_pos d9, if_pos ((fa_lt _ _).mp d9)]
        · rw [if_neg d9, if_neg (fun k => d9 ((fa_lt _ _).mpr k))]
    · rw [if_neg c9, if_neg c9, if_neg c9]
      have hkk : ¬ zkey so pa le p = (ks e).toInt := fun k => by
        rw [← hkey, ← a2'] at k
        rcases Nat.lt_trichotomy e at_.toInt.toNat with d9 | d9 | d9
        · have : (ks e).toInt < (ks at_.toInt.toNat).toInt := hk.1 e _ d9 a1
          omega
        · exact c9 d9
        · have : (ks at_.toInt.toNat).toInt < (ks e).toInt := hk.1 _ e d9 he
          omega
      have hP : ∀ q j : Nat, (j = 0 ∧ (1 ≤ q ∧ q < p + 1) ∧ zkey so pa le q = (ks e).toInt) ↔ (j = 0 ∧ (1 ≤ q ∧ q < p) ∧ zkey so pa le q = (ks e).toInt) := fun q j => by
        constructor
        · rintro ⟨k1, k2, k3⟩
          by_cases d9 : q = p
          · rw [d9] at k3
            exact absurd k3 hkk
          · exact ⟨k1, ⟨k2.1, by omega⟩, k3⟩
        · rintro ⟨k1, k2, k3⟩
          exact ⟨k1, ⟨k2.1, by omega⟩, k3⟩
      refine ⟨?_, yMi_cg b2 hP, yMa_cg b3 hP⟩
      show (su e).toInt = yS1 (fun q => if 1 ≤ q ∧ zkey so pa le q = (ks e).toInt then (go q).toInt else 0) p + (if 1 ≤ p ∧ zkey so pa le p = (ks e).toInt then (go p).toInt else 0)
      rw [if_neg (fun k => hkk k.2), b1]
      omega
  · rw [e0, z_at]
    by_cases c9 : q = p
    · rw [if_pos c9, c9]
      exact ⟨h0.1, by omega, by rw [a2', hkey]⟩
    · rw [if_neg c9]
      exact h.2 q q1 (by omega)
end
/-- the first EDGE of each STATE -/
def yFE (fr : Nat → Int) (E : Nat) (s : Nat) (x : Int) : Prop := 0 ≤ x ∧ x ≤ (E : Int) ∧ ∀ e : Nat, e < E → (fr e < (s : Int) ↔ (e : Int) < x)
/-- the PREFIXES may be none -/
theorem yER_N {so pa le go tl th ks su lo hi ed : Nat → Int32} {p N E : Nat} (h : yER so pa le go tl th ks su lo hi ed p E) (e : p = N ∨ p = 1 ∧ N = 0) : yER so pa le go tl th ks su lo hi ed N E := by
  rcases e with e | ⟨e1, e2⟩
  · rw [← e]
    exact h
  · subst e1 e2
    refine ⟨fun e he => ?_, fun q q1 q2 => by omega⟩
    obtain ⟨a1, a2, a3⟩ := h.1 e he
    refine ⟨?_, yMi_cg a2 (fun q j => ⟨fun ⟨k1, k2, k3⟩ => by omega, fun ⟨k1, k2, k3⟩ => by omega⟩), yMa_cg a3 (fun q j => ⟨fun ⟨k1, k2, k3⟩ => by omega, fun ⟨k1, k2, k3⟩ => by omega⟩)⟩
    rw [a1]
    exact yS1_0 1 (fun q hq => if_neg (fun k => by omega))
