/-! TRACES as one row of 503; how THE TEXT is read, sign by sign. -/
def zrow (n d mg : Int32) (L F V : Nat → Int32) : Nat → Int32 := fun j => if j = 0 then n else if j < 21 then L (j - 1) else if j < 261 then F (j - 21) else if j < 501 then V (j - 261) else if j = 501 then d else if j = 502 then mg else 0
section
variable {n d mg x : Int32} {L F V : Nat → Int32}
theorem zrow_0 : zrow n d mg L F V 0 = n := rfl
theorem zrow_501 : zrow n d mg L F V 501 = d := rfl
theorem zrow_502 : zrow n d mg L F V 502 = mg := rfl
theorem zrow_L {t : Nat} (h : t < 20) : zrow n d mg L F V (1 + t) = L t := by
  unfold zrow
  rw [if_neg (by omega), if_pos (by omega), show 1 + t - 1 = t by omega]
theorem zrow_F {i : Nat} (h : i < 240) : zrow n d mg L F V (21 + i) = F i := by
  unfold zrow
  rw [if_neg (by omega), if_neg (by omega), if_pos (by omega), show 21 + i - 21 = i by omega]
theorem zrow_V {i : Nat} (h : i < 240) : zrow n d mg L F V (261 + i) = V i := by
  unfold zrow
  rw [if_neg (by omega), if_neg (by omega), if_neg (by omega), if_pos (by omega), show 261 + i - 261 = i by omega]
theorem zrow_u0 : upd (zrow n d mg L F V) 0 x = zrow x d mg L F V := by
  funext j
  simp only [upd, zrow]
  by_cases h : j = 0
  · rw [if_pos h, if_pos h]
  · rw [if_neg h, if_neg h, if_neg h]
theorem zrow_uL {t : Nat} (ht : t < 20) : upd (zrow n d mg L F V) (1 + t) x = zrow n d mg (upd L t x) F V := by
  funext j
  simp only [upd, zrow]
  by_cases h : j = 1 + t
  · rw [if_pos h, if_neg (show ¬ j = 0 by omega), if_pos (show j < 21 by omega), if_pos (show j - 1 = t by omega)]
  · rw [if_neg h]
    by_cases h0 : j = 0
    · rw [if_pos h0, if_pos h0]
    · rw [if_neg h0, if_neg h0]
      by_cases h1 : j < 21
      · rw [if_pos h1, if_pos h1, if_neg (show ¬ j - 1 = t by omega)]
      · rw [if_neg h1, if_neg h1]
theorem zrow_uF {i : Nat} (hi : i < 240) : upd (zrow n d mg L F V) (21 + i) x = zrow n d mg L (upd F i x) V := by
  funext j
  simp only [upd, zrow]
  by_cases h : j = 21 + i
  · rw [if_pos h, if_neg (show ¬ j = 0 by omega), if_neg (show ¬ j < 21 by omega), if_pos (show j < 261 by omega), if_pos (show j - 21 = i by omega)]
  · rw [if_neg h]
    by_cases h0 : j < 21
    · by_cases h1 : j = 0
      · rw [if_pos h1, if_pos h1]
      · rw [if_neg h1, if_neg h1, if_pos h0, if_pos h0]
    · rw [if_neg (show ¬ j = 0 by omega), if_neg (show ¬ j = 0 by omega), if_neg h0, if_neg h0]
      by_cases h1 : j < 261
      · rw [if_pos h1, if_pos h1, if_neg (show ¬ j - 21 = i by omega)]
      · rw [if_neg h1, if_neg h1]
theorem zrow_uV {i : Nat} (hi : i < 240) : upd (zrow n d mg L F V) (261 + i) x = zrow n d mg L F (upd V i x) := by
  funext j
  simp only [upd, zrow]
  by_cases h : j = 261 + i
  · rw [if_pos h, if_neg (show ¬ j = 0 by omega), if_neg (show ¬ j < 21 by omega), if_neg (show ¬ j < 261 by omega), if_pos (show j < 501 by omega), if_pos (show j - 261 = i by omega)]
  · rw [if_neg h]
    by_cases h0 : j < 261
    · by_cases h1 : j = 0
      · rw [if_pos h1, if_pos h1]
      · rw [if_neg h1, if_neg h1]
        by_cases h2 : j < 21
        · rw [if_pos h2, if_pos h2]
        · rw [if_neg h2, if_neg h2, if_pos h0, if_pos h0]
    · rw [if_neg (show ¬ j = 0 by omega), if_neg (show ¬ j = 0 by omega), if_neg (show ¬ j < 21 by omega), if_neg (show ¬ j < 21 by omega), if_neg h0, if_neg h0]
      by_cases h1 : j < 501
      · rw [if_pos h1, if_pos h1, if_neg (show ¬ j - 261 = i by omega)]
      · rw [if_neg h1, if_neg h1]
end
/-- a row's last TRACE, how many CALLS it has -/
def zlt (R : Nat → Int32) : Nat := (R 0).toInt.toNat - 1
def zll (R : Nat → Int32) : Int := (R (1 + zlt R)).toInt
def zop (R : Nat → Int32) : Nat → Int32 := upd (upd R 0 (R 0 + 1)) (1 + (R 0).toInt.toNat) 0
def zad (R : Nat → Int32) (x : Int32) : Nat → Int32 := upd (upd (upd R (21 + (12 * zlt R + (zll R).toNat)) x) (261 + (12 * zlt R + (zll R).toNat)) 0) (1 + zlt R) (R (1 + zlt R) + 1)
def zdg (R : Nat → Int32) (x : Int32) : Nat → Int32 := if 1 ≤ (R 0).toInt ∧ 0 < zll R then upd R (261 + (12 * zlt R + ((zll R).toNat - 1))) (10 * R (261 + (12 * zlt R + ((zll R).toNat - 1))) + x) else R
def zrm (R : Nat → Int32) (k : Nat) : Nat → Int32 := fun j => if j = 0 then R 0 - 1 else if j < 21 then (if j - 1 < k then R j else R (j + 1)) else if j < 261 then (if j - 21 < 12 * k then R j else R (j + 12)) else if j < 501 then (if j - 261 < 12 * k then R j else R (j + 12)) else R j
theorem zcl {i : Int32} (h : 0 ≤ i.toInt) : i.toNatClampNeg = i.toInt.toNat := z_plf (l := i.toInt) (h := i.toInt) ⟨Int.le_refl _, Int.le_refl _⟩ h
theorem zrow_op {n n' d mg : Int32} {L L' F V : Nat → Int32} (e : n' = n + 1) (hn : 0 ≤ n.toInt ∧ n.toInt ≤ 19) (hL : L' = upd L n.toNatClampNeg 0) : zrow n' d mg L' F V = zop (zrow n d mg L F V) := by
  unfold zop
  rw [zrow_0, zrow_u0, zrow_uL (by omega), e, hL, zcl hn.1]
theorem zll_row {n d mg : Int32} {L F V : Nat → Int32} (hn : 0 ≤ n.toInt ∧ n.toInt ≤ 20) : zll (zrow n d mg L F V) = (L (n.toInt.toNat - 1)).toInt := by
  show (zrow n d mg L F V (1 + (n.toInt.toNat - 1))).toInt = _
  rw [zrow_L (by omega)]
theorem zll_ld {n d mg la lv : Int32} {L F V : Nat → Int32} (hn : 1 ≤ n.toInt ∧ n.toInt ≤ 20) (e0 : la.toInt = n.toInt - 1) (elv : lv = L la.toNatClampNeg) : zll (zrow n d mg L F V) = lv.toInt := by
  rw [zll_row (by omega), elv, zcl (i := la) (by omega), show n.toInt.toNat - 1 = la.toInt.toNat by omega]
theorem zrow_ad {n d mg la lv l1 at_ x : Int32} {L F V L' F' V' : Nat → Int32} (hn : 1 ≤ n.toInt ∧ n.toInt ≤ 20) (e0 : la.toInt = n.toInt - 1) (elv : lv = L la.toNatClampNeg) (hlv : 0 ≤ lv.toInt ∧ lv.toInt ≤ 11) (ha : at_.toInt = 12 * la.toInt + lv.toInt)
    (eF : F' = upd F at_.toNatClampNeg x) (eV : V' = upd V at_.toNatClampNeg 0) (eL : L' = upd L la.toNatClampNeg l1) (e1 : l1 = lv + 1) : (1 ≤ ((zrow n d mg L F V) 0).toInt ∧ zll (zrow n d mg L F V) ≠ 12) ∧ zrow n d mg L' F' V' = zad (zrow n d mg L F V) x := by
  have hla := zcl (i := la) (by omega)
  have hat := zcl (i := at_) (by omega)
  have hz : zlt (zrow n d mg L F V) = la.toInt.toNat := by show n.toInt.toNat - 1 = _; omega
  have hl : zll (zrow n d mg L F V) = lv.toInt := by
    show (zrow n d mg L F V (1 + zlt (zrow n d mg L F V))).toInt = _
    rw [hz, zrow_L (by omega), elv, hla]
  refine ⟨⟨hn.1, by omega⟩, ?_⟩
  unfold zad
  rw [hl, hz, zrow_uF (by omega), zrow_uV (by omega), zrow_L (by omega), zrow_uL (by omega), eF, eV, eL, e1, elv, hla, hat]
  have h9 : at_.toInt.toNat = 12 * la.toInt.toNat + (L la.toInt.toNat).toInt.toNat := by rw [← hla, ← elv]; omega
  rw [h9]
theorem zrow_dg {n d mg la lv at_ x v m y : Int32} {L F V V' : Nat → Int32} (hn : 1 ≤ n.toInt ∧ n.toInt ≤ 20) (e0 : la.toInt = n.toInt - 1) (elv : lv = L la.toNatClampNeg) (hlv : 1 ≤ lv.toInt ∧ lv.toInt ≤ 12) (ha : at_.toInt = 12 * la.toInt + lv.toInt - 1)
    (ev : v = V at_.toNatClampNeg) (em : m = 10 * v) (ey : y = m + x) (eV : V' = upd V at_.toNatClampNeg y) : zrow n d mg L F V' = zdg (zrow n d mg L F V) x := by
  have hla := zcl (i := la) (by omega)
  have hat := zcl (i := at_) (by omega)
  have hz : zlt (zrow n d mg L F V) = la.toInt.toNat := by show n.toInt.toNat - 1 = _; omega
  have hl : zll (zrow n d mg L F V) = lv.toInt := by
    show (zrow n d mg L F V (1 + zlt (zrow n d mg L F V))).toInt = _
    rw [hz, zrow_L (by omega), elv, hla]
  unfold zdg
  rw [if_pos (show 1 ≤ ((zrow n d mg L F V) 0).toInt ∧ 0 < zll (zrow n d mg L F V) from ⟨hn.1, by omega⟩), hl, hz, zrow_V (by omega), zrow_uV (by omega), eV, ey, em, ev, hat]
  have h9 : at_.toInt.toNat = 12 * la.toInt.toNat + (lv.toInt.toNat - 1) := by omega
  rw [h9]
theorem zrow_dn {n d mg : Int32} {x : Int32} {L F V : Nat → Int32} (h : ¬ (1 ≤ n.toInt ∧ 0 < zll (zrow n d mg L F V))) : zrow n d mg L F V = zdg (zrow n d mg L F V) x := by
  unfold zdg
  exact (if_neg h).symm
/-- the same TRACES, DEPTH, MARGIN -/
def zE (R R' : Nat → Int32) : Prop := R 0 = R' 0 ∧ R 501 = R' 501 ∧ R 502 = R' 502 ∧ ∀ t : Nat, (t : Int) < (R 0).toInt → R (1 + t) = R' (1 + t) ∧ ∀ i : Nat, (i : Int) < (R (1 + t)).toInt → R (21 + (12 * t + i)) = R' (21 + (12 * t + i)) ∧ R (261 + (12 * t + i)) = R' (261 + (12 * t + i))
theorem zE.refl (R : Nat → Int32) : zE R R := ⟨rfl, rfl, rfl, fun _ _ => ⟨rfl, fun _ _ => ⟨rfl, rfl⟩⟩⟩
theorem zE.symm {R R' : Nat → Int32} (h : zE R R') : zE R' R := by
  obtain ⟨h0, h1, h2, h3⟩ := h
  refine ⟨h0.symm, h1.symm, h2.symm, fun t ht => ?_⟩
  rw [← h0] at ht
  obtain ⟨a, b⟩ := h3 t ht
  refine ⟨a.symm, fun i hi => ?_⟩
  rw [← a] at hi
  exact ⟨(b i hi).1.symm, (b i hi).2.symm⟩
theorem zE.trans {R S T : Nat → Int32} (h : zE R S) (g : zE S T) : zE R T := by
  obtain ⟨h0, h1, h2, h3⟩ := h
  obtain ⟨g0, g1, g2, g3⟩ := g
  refine ⟨h0.trans g0, h1.trans g1, h2.trans g2, fun t ht => ?_⟩
  obtain ⟨a, b⟩ := h3 t ht
  obtain ⟨c, e⟩ := g3 t (by rw [← h0]; exact ht)
  refine ⟨a.trans c, fun i hi => ?_⟩
  have q := e i (by rw [← a]; exact hi)
  exact ⟨(b i hi).1.trans q.1, (b i hi).2.trans q.2⟩
theorem zE_all {R R' : Nat → Int32} (h : ∀ j : Nat, j < 503 → R j = R' j) (hn : (R 0).toInt ≤ 20) (hl : ∀ t : Nat, t < 20 → (R (1 + t)).toInt ≤ 12) : zE R R' :=
  ⟨h _ (by decide), h _ (by decide), h _ (by decide), fun t ht => ⟨h _ (by omega), fun i hi => by have := hl t (by omega); exact ⟨h _ (by omega), h _ (by omega)⟩⟩⟩
theorem zE_cpy {n d mg : Int32} {L F V L2 F2 V2 L' F' V' : Nat → Int32} {a b c : Nat} {s0 t0 s1 t1 s2 t2 : Nat} (hL : L' = va_cpy L L2 s0 t0 a) (hF : F' = va_cpy F F2 s1 t1 b) (hV : V' = va_cpy V V2 s2 t2 c) (z : (s0 = 0 ∧ t0 = 0 ∧ s1 = 0 ∧ t1 = 0) ∧ s2 = 0 ∧ t2 = 0) (hn : n.toInt ≤ 20 ∧ (a : Int) = n.toInt ∧ (b : Int) = 12 * n.toInt ∧ (c : Int) = 12 * n.toInt) (hl : zR L 0 12) : zE (zrow n d mg L' F' V') (zrow n d mg L F V) := by
  obtain ⟨⟨rfl, rfl, rfl, rfl⟩, rfl, rfl⟩ := z
  refine ⟨rfl, rfl, rfl, fun t ht => ?_⟩
  rw [zrow_0] at ht
  have e1 : L' t = L t := by
    rw [hL]
    unfold va_cpy
    rw [if_pos (by omega), show 0 + (t - 0) = t by omega]
  have h12 := (hl t).2
  rw [zrow_L (by omega), zrow_L (by omega)]
  refine ⟨e1, fun i hi => ?_⟩
  rw [e1] at hi
  rw [zrow_F (by omega), zrow_F (by omega), zrow_V (by omega), zrow_V (by omega), hF, hV]
  unfold va_cpy
  rw [if_pos (by omega), if_pos (by omega), show 0 + (12 * t + i - 0) = 12 * t + i by omega]
  exact ⟨rfl, rfl⟩
theorem z_newfe {D : va_G} {cl : List vw_C} {ws : va_W} {H : Heap} {A : Nat → Prop} {a n : Nat} {cA : ClassId} {g : Nat → Int32} {l h : Int} (k : Nat) (hP : va_P D cl ws H) (hD : va_D A ws) (hk : ws[k]? = some (a, .inl (cA, n, .inl g))) (hg : zR g l h) : ∃ f : Nat → Int32, zR f l h ∧ f = g ∧ va_P D cl (ws.set k (a, .inl (cA, n, .inl f))) H ∧ va_D A (ws.set k (a, .inl (cA, n, .inl f))) :=
  ⟨g, hg, rfl, by rw [z_setq hk]; exact hP, by rw [z_setq hk]; exact hD⟩
theorem z_newFe {D : va_G} {cl : List vw_C} {ws : va_W} {H : Heap} {A : Nat → Prop} {a n : Nat} {cA : ClassId} {g : Nat → Int32} (k : Nat) (hP : va_P D cl ws H) (hD : va_D A ws) (hk : ws[k]? = some (a, .inl (cA, n, .inl g))) : ∃ f : Nat → Int32, f = g ∧ va_P D cl (ws.set k (a, .inl (cA, n, .inl f))) H ∧ va_D A (ws.set k (a, .inl (cA, n, .inl f))) :=
  ⟨g, rfl, by rw [z_setq hk]; exact hP, by rw [z_setq hk]; exact hD⟩
/-! how THE TEXT is read: (FAULT or -1, a TRACE is begun, digits left, TRACES) -/
abbrev zS : Type := Int × Int × Int × (Nat → Int32)
def zo1 (o : Int) (R : Nat → Int32) : Nat → Int32 := if o = 0 then zop R else R
def zstp (si p : Int) (c : Int32) (s : zS) : zS :=
  if s.1 ≠ -1 then s
  else if 0 < s.2.2.1 ∧ 48 ≤ c.toInt ∧ c.toInt ≤ 57 then (-1, s.2.1, s.2.2.1 - 1, zdg s.2.2.2 (c - 48))
  else if c.toInt = 32 then (-1, s.2.1, 0, s.2.2.2)
  else if s.2.1 = 0 ∧ (s.2.2.2 0).toInt = 20 then (p, s.2.1, 0, s.2.2.2)
  else if c.toInt = 59 ∧ si = 0 then (-1, 0, 0, zo1 s.2.1 s.2.2.2)
  else if (97 ≤ c.toInt ∧ c.toInt ≤ 106) ∧ 1 ≤ (zo1 s.2.1 s.2.2.2 0).toInt ∧ zll (zo1 s.2.1 s.2.2.2) ≠ 12 then (-1, 1, 2, zad (zo1 s.2.1 s.2.2.2) (c - 97))
  else (p, 1, 0, zo1 s.2.1 s.2.2.2)
def zrun (si : Int) (sg R : Nat → Int32) : Nat → zS
  | 0 => (-1, 0, 0, R)
  | p + 1 => zstp si (p : Int) (sg p) (zrun si sg R p)
def zfi (len : Nat) (s : zS) : Int × (Nat → Int32) := if s.1 ≠ -1 then (s.1, s.2.2.2) else if s.2.1 = 0 ∧ (s.2.2.2 0).toInt = 20 then ((len : Int), s.2.2.2) else (-1, zo1 s.2.1 s.2.2.2)
def zfin (si : Int) (sg R : Nat → Int32) (len : Nat) : Int × (Nat → Int32) := zfi len (zrun si sg R len)
section
variable {si o k k' o' : Int} {sg R S S' : Nat → Int32} {p p' : Nat} {c : Int32}
theorem zrun_n (h : zrun si sg R p = (-1, o, k, S)) (hp : p' = p + 1) (hc : c = sg p) : zrun si sg R p' = zstp si (p : Int) c (-1, o, k, S) := by
  subst hp
  show zstp si (p : Int) (sg p) (zrun si sg R p) = _
  rw [h, ← hc]
theorem zrun_d (h : zrun si sg R p = (-1, o, k, S)) (hp : p' = p + 1) (hc : c = sg p) (hd : 0 < k ∧ 48 ≤ c.toInt ∧ c.toInt ≤ 57) (e1 : k' = k - 1) (e3 : S' = zdg S (c - 48)) : zrun si sg R p' = (-1, o, k', S') := by
  rw [zrun_n h hp hc, e1, e3]
  unfold zstp
  dsimp only
  rw [if_neg (fun q => q rfl), if_pos hd]
theorem zrun_b (h : zrun si sg R p = (-1, o, k, S)) (hp : p' = p + 1) (hc : c = sg p) (hd : ¬ (0 < k ∧ 48 ≤ c.toInt ∧ c.toInt ≤ 57)) (h32 : c.toInt = 32) (e1 : k' = 0) : zrun si sg R p' = (-1, o, k', S) := by
  rw [zrun_n h hp hc, e1]
  unfold zstp
  dsimp only
  rw [if_neg (fun q => q rfl), if_neg hd, if_pos h32]
theorem zrun_x (h : zrun si sg R p = (-1, o, k, S)) (hp : p' = p + 1) (hc : c = sg p) (hd : ¬ (0 < k ∧ 48 ≤ c.toInt ∧ c.toInt ≤ 57)) (h32 : ¬ c.toInt = 32) (ho : o = 0 ∧ (S 0).toInt = 20) : (zrun si sg R p').1 = (p : Int) := by
  rw [zrun_n h hp hc]
  unfold zstp
  dsimp only
  rw [if_neg (fun q => q rfl), if_neg hd, if_neg h32, if_pos ho]
theorem zrun_s (h : zrun si sg R p = (-1, o, k, S)) (hp : p' = p + 1) (hc : c = sg p) (hs : c.toInt = 59 ∧ si = 0) (ho : ¬ (o = 0 ∧ (S 0).toInt = 20)) (e1 : o' = 0) (e2 : k' = 0) (e3 : S' = zo1 o S) : zrun si sg R p' = (-1, o', k', S') := by
  rw [zrun_n h hp hc, e1, e2, e3]
  unfold zstp
  dsimp only
  rw [if_neg (fun q => q rfl), if_neg (by omega), if_neg (by omega), if_neg ho, if_pos hs]
theorem zrun_l (h : zrun si sg R p = (-1, o, k, S)) (hp : p' = p + 1) (hc : c = sg p) (hl : 97 ≤ c.toInt ∧ c.toInt ≤ 106) (ho : ¬ (o = 0 ∧ (S 0).toInt = 20)) (hr : 1 ≤ (zo1 o S 0).toInt ∧ zll (zo1 o S) ≠ 12) (e1 : o' = 1) (e2 : k' = 2) (e3 : S' = zad (zo1 o S) (c - 97)) : zrun si sg R p' = (-1, o', k', S') := by
  rw [zrun_n h hp hc, e1, e2, e3]
  unfold zstp
  dsimp only
  rw [if_neg (fun q => q rfl), if_neg (by omega), if_neg (by omega), if_neg ho, if_neg (by omega), if_pos ⟨hl, hr⟩]
theorem zrun_w (h : zrun si sg R p = (-1, o, k, S)) (hp : p' = p + 1) (hc : c = sg p) (hd : ¬ (0 < k ∧ 48 ≤ c.toInt ∧ c.toInt ≤ 57)) (h32 : ¬ c.toInt = 32) (ho : ¬ (o = 0 ∧ (S 0).toInt = 20)) (hs : ¬ (c.toInt = 59 ∧ si = 0)) (hl : ¬ ((97 ≤ c.toInt ∧ c.toInt ≤ 106) ∧ 1 ≤ (zo1 o S 0).toInt ∧ zll (zo1 o S) ≠ 12)) : (zrun si sg R p').1 = (p : Int) := by
  rw [zrun_n h hp hc]
  unfold zstp
  dsimp only
  rw [if_neg (fun q => q rfl), if_neg hd, if_neg h32, if_neg ho, if_neg hs, if_neg hl]
theorem zrun_st (h : (zrun si sg R p).1 ≠ -1) : ∀ m : Nat, (zrun si sg R (p + m)).1 = (zrun si sg R p).1
  | 0 => rfl
  | m + 1 => by
    have ih := zrun_st h m
    show (zstp si ((p + m : Nat) : Int) (sg (p + m)) (zrun si sg R (p + m))).1 = _
    unfold zstp
    rw [if_pos (by rw [ih]; exact h), ih]
theorem zfin_f {len : Nat} (h : (zrun si sg R p').1 = (p : Int)) (hp : p' ≤ len) : (zfin si sg R len).1 = (p : Int) := by
  have h1 := zrun_st (m := len - p') (show (zrun si sg R p').1 ≠ -1 by omega)
  rw [show p' + (len - p') = len by omega, h] at h1
  unfold zfin zfi
  rw [if_pos (by omega)]
  exact h1
theorem zfin_g {len : Nat} (h : zrun si sg R len = (-1, o, k, S)) (ho : ¬ (o = 0 ∧ (S 0).toInt = 20)) : zfin si sg R len = (-1, zo1 o S) := by
  unfold zfin zfi
  rw [h]
  dsimp only
  rw [if_neg (fun q => q rfl), if_neg ho]
theorem zfin_e {len : Nat} (h : zrun si sg R len = (-1, o, k, S)) (ho : o = 0 ∧ (S 0).toInt = 20) : (zfin si sg R len).1 = (len : Int) := by
  unfold zfin zfi
  rw [h]
  dsimp only
  rw [if_neg (fun q => q rfl), if_pos ho]
end
theorem zo1_0 {R : Nat → Int32} {o : Int} (h : o = 0) : zo1 o R = zop R := if_pos h
theorem zo1_1 {R : Nat → Int32} {o : Int} (h : ¬ o = 0) : zo1 o R = R := if_neg h
theorem zrm_F {R : Nat → Int32} {k j : Nat} (h : j < 240) : zrm R k (21 + j) = if j < 12 * k then R (21 + j) else R (21 + j + 12) := by
  unfold zrm
  rw [if_neg (by omega), if_neg (by omega), if_pos (by omega), show 21 + j - 21 = j by omega]
theorem zrm_V {R : Nat → Int32} {k j : Nat} (h : j < 240) : zrm R k (261 + j) = if j < 12 * k then R (261 + j) else R (261 + j + 12) := by
  unfold zrm
  rw [if_neg (by omega), if_neg (by omega), if_neg (by omega), if_pos (by omega), show 261 + j - 261 = j by omega]
theorem zrm_5 {R : Nat → Int32} {k j : Nat} (h : 501 ≤ j) : zrm R k j = R j := by
  unfold zrm
  rw [if_neg (by omega), if_neg (by omega), if_neg (by omega), if_neg (by omega)]
theorem zE_rm {n n' d mg : Int32} {L F V L' F' V' : Nat → Int32} {k a b c s0 t0 s1 t1 s2 t2 : Nat} (hL : L' = va_cpy L L s0 t0 a) (hF : F' = va_cpy F F s1 t1 b) (hV : V' = va_cpy V V s2 t2 c) (hk : (k : Int) < n.toInt ∧ n.toInt ≤ 20) (en : n' = n - 1)
    (z0 : s0 = k + 1 ∧ t0 = k ∧ (a : Int) = n.toInt - k - 1) (z1 : s1 = 12 * k + 12 ∧ t1 = 12 * k ∧ b = 12 * a) (z2 : s2 = 12 * k + 12 ∧ t2 = 12 * k ∧ c = 12 * a) (hl : zR L 0 12) : zE (zrow n' d mg L' F' V') (zrm (zrow n d mg L F V) k) := by
  obtain ⟨rfl, z9, ha⟩ := z0
  have z9 := z9.symm
  subst z9
  obtain ⟨rfl, rfl, rfl⟩ := z1
  obtain ⟨rfl, rfl, rfl⟩ := z2
  have h1 : (1 : Int32).toInt = 1 := by decide +kernel
  have hn : n'.toInt = n.toInt - 1 := by rw [en, Int32.toInt_sub, h1]; exact zi_bmod (by omega)
  have eL : ∀ t : Nat, (t : Int) < n'.toInt → L' t = if t < k then L t else L (t + 1) := by
    intro t ht
    rw [hL]
    unfold va_cpy
    by_cases c1 : t < k
    · rw [if_neg (by omega), if_pos c1]
    · rw [if_pos (by omega), if_neg c1, show k + 1 + (t - k) = t + 1 by omega]
  have eF : ∀ (g g' : Nat → Int32) (i : Nat), g' = va_cpy g g (12 * k + 12) (12 * k) (12 * a) → (i : Int) < 12 * n'.toInt → g' i = if i < 12 * k then g i else g (i + 12) := by
    intro g g' i hg hi
    rw [hg]
    unfold va_cpy
    by_cases c1 : i < 12 * k
    · rw [if_neg (by omega), if_pos c1]
    · rw [if_pos (by omega), if_neg c1, show 12 * k + 12 + (i - 12 * k) = i + 12 by omega]
  refine ⟨?_, ?_, ?_, fun t ht => ?_⟩
  · show n' = zrow n d mg L F V 0 - 1
    rw [zrow_0, en]
  · rfl
  · rfl
  · rw [zrow_0] at ht
    have h12 : (L' t).toInt ≤ 12 := by
      rw [eL t ht]
      split
      · exact (hl t).2
      · exact (hl _).2
    have e1 : zrm (zrow n d mg L F V) k (1 + t) = L' t := by
      unfold zrm
      rw [if_neg (by omega), if_pos (by omega), eL t ht, show 1 + t - 1 = t by omega, show 1 + t + 1 = 1 + (t + 1) by omega, zrow_L (by omega), zrow_L (by omega)]
    rw [zrow_L (by omega), e1]
    refine ⟨rfl, fun i hi => ?_⟩
    rw [zrow_F (by omega), zrow_V (by omega), eF F F' _ hF (by omega), eF V V' _ hV (by omega), zrm_F (by omega), zrm_V (by omega)]
    by_cases c1 : 12 * t + i < 12 * k
    · rw [if_pos c1, if_pos c1, if_pos c1, if_pos c1, zrow_F (by omega), zrow_V (by omega)]
      exact ⟨rfl, rfl⟩
    · rw [if_neg c1, if_neg c1, if_neg c1, if_neg c1, show 21 + (12 * t + i) + 12 = 21 + (12 * t + i + 12) by omega, show 261 + (12 * t + i) + 12 = 261 + (12 * t + i + 12) by omega, zrow_F (by omega), zrow_V (by omega)]
      exact ⟨rfl, rfl⟩
theorem zE_rm2 {R S : Nat → Int32} {k : Nat} (h : zE R S) (hk : (k : Int) < (R 0).toInt ∧ (R 0).toInt ≤ 20) (hl : ∀ t : Nat, t < 20 → (R (1 + t)).toInt ≤ 12) : zE (zrm R k) (zrm S k) := by
  obtain ⟨h0, h1, h2, h3⟩ := h
  have q1 : (1 : Int32).toInt = 1 := by decide +kernel
  have hn : (R 0 - 1 : Int32).toInt = (R 0).toInt - 1 := by rw [Int32.toInt_sub, q1]; exact zi_bmod (by omega)
  refine ⟨?_, h1, h2, fun t ht => ?_⟩
  · show R 0 - 1 = S 0 - 1
    rw [h0]
  · have ht : (t : Int) < (R 0).toInt - 1 := by rw [← hn]; exact ht
    have aux : ∀ T : Nat → Int32, zrm T k (1 + t) = if t < k then T (1 + t) else T (1 + (t + 1)) := fun T => by
      unfold zrm
      rw [if_neg (by omega), if_pos (by omega), show 1 + t - 1 = t by omega, show 1 + t + 1 = 1 + (t + 1) by omega]
    have auF : ∀ (T : Nat → Int32) (i : Nat), i < 12 → zrm T k (21 + (12 * t + i)) = if t < k then T (21 + (12 * t + i)) else T (21 + (12 * (t + 1) + i)) := fun T i hi => by
      unfold zrm
      rw [if_neg (by omega), if_neg (by omega), if_pos (by omega)]
      by_cases c1 : t < k
      · rw [if_pos c1, if_pos (by omega)]
      · rw [if_neg c1, if_neg (by omega), show 21 + (12 * t + i) + 12 = 21 + (12 * (t + 1) + i) by omega]
    have auV : ∀ (T : Nat → Int32) (i : Nat), i < 12 → zrm T k (261 + (12 * t + i)) = if t < k then T (261 + (12 * t + i)) else T (261 + (12 * (t + 1) + i)) := fun T i hi => by
      unfold zrm
      rw [if_neg (by omega), if_neg (by omega), if_neg (by omega), if_pos (by omega)]
      by_cases c1 : t < k
      · rw [if_pos c1, if_pos (by omega)]
      · rw [if_neg c1, if_neg (by omega), show 261 + (12 * t + i) + 12 = 261 + (12 * (t + 1) + i) by omega]
    rw [aux R, aux S]
    by_cases c1 : t < k
    · obtain ⟨a, b⟩ := h3 t (by omega)
      have hl1 := hl t (by omega)
      rw [if_pos c1, if_pos c1]
      refine ⟨a, fun i hi => ?_⟩
      rw [auF R i (by omega), auF S i (by omega), auV R i (by omega), auV S i (by omega), if_pos c1, if_pos c1, if_pos c1, if_pos c1]
      exact b i hi
    · obtain ⟨a, b⟩ := h3 (t + 1) (by omega)
      have hl1 := hl (t + 1) (by omega)
      rw [if_neg c1, if_neg c1]
      refine ⟨a, fun i hi => ?_⟩
      rw [auF R i (by omega), auF S i (by omega), auV R i (by omega), auV S i (by omega), if_neg c1, if_neg c1, if_neg c1, if_neg c1]
      exact b i hi
/-! the signs of THE TEXT -/
def zsq (c b : Int32) : Prop := c.toInt = b.toInt ∨ 128 ≤ c.toInt ∧ b.toInt < 0
def zSg (n : Int) (sg tb : Nat → Int32) : Prop := ∀ j : Nat, (j : Int) < n → zsq (sg j) (tb j)
def zsg4 (sg : Nat → Int32) (n : Nat) (a b c e : Int32) : Nat → Int32 := upd (upd (upd (upd sg n a) (n + 1) b) (n + 2) c) (n + 3) e
def zus (v s : Int32) : Int32 := (v.toUInt32 >>> (s.toUInt32 &&& Int32.toUInt32 31)).toInt32
def zch (v s : Int32) : Int32 := vp_nar .char (((zus v s &&& 255).toUInt32 % 65536).toInt32)
def zby (v s : Int32) : Int32 := vp_nar .byte ((zus v s).toInt8.toInt32)
theorem zsg4_mk {f0 f1 f2 f3 f4 : Nat → Int32} {i0 i1 i2 i3 x0 x1 x2 x3 a b c e : Int32} (u1 : f1 = upd f0 i0.toNatClampNeg x0) (u2 : f2 = upd f1 i1.toNatClampNeg x1) (u3 : f3 = upd f2 i2.toNatClampNeg x2) (u4 : f4 = upd f3 i3.toNatClampNeg x3)
    (hi : 0 ≤ i0.toInt ∧ i1.toInt = i0.toInt + 1 ∧ i2.toInt = i0.toInt + 2 ∧ i3.toInt = i0.toInt + 3) (q0 : x0 = a) (q1 : x1 = b) (q2 : x2 = c) (q3 : x3 = e) : f4 = zsg4 f0 i0.toInt.toNat a b c e := by
  subst q0 q1 q2 q3
  rw [u4, u3, u2, u1, zcl (i := i0) (by omega), zcl (i := i1) (by omega), zcl (i := i2) (by omega), zcl (i := i3) (by omega), show i1.toInt.toNat = i0.toInt.toNat + 1 by omega, show i2.toInt.toNat = i0.toInt.toNat + 2 by omega, show i3.toInt.toNat = i0.toInt.toNat + 3 by omega]
  rfl
theorem zSg.mono {n m : Int} {sg tb : Nat → Int32} (h : zSg n sg tb) (e : m ≤ n) : zSg m sg tb := fun j hj => h j (by omega)
theorem zSg_4 {n : Int} {sg tb : Nat → Int32} {a b c e a' b' c' e' : Int32} (h : zSg n sg tb) (hn : 0 ≤ n) (ha : zsq a a') (hb : zsq b b') (hc : zsq c c') (he : zsq e e') : zSg (n + 4) (zsg4 sg n.toNat a b c e) (zsg4 tb n.toNat a' b' c' e') := by
  intro j hj
  unfold zsg4
  simp only [upd]
  by_cases c3 : j = n.toNat + 3
  · rw [if_pos c3, if_pos c3]; exact he
  · rw [if_neg c3, if_neg c3]
    by_cases c2 : j = n.toNat + 2
    · rw [if_pos c2, if_pos c2]; exact hc
    · rw [if_neg c2, if_neg c2]
      by_cases c1 : j = n.toNat + 1
      · rw [if_pos c1, if_pos c1]; exact hb
      · rw [if_neg c1, if_neg c1]
        by_cases c0 : j = n.toNat
        · rw [if_pos c0, if_pos c0]; exact ha
        · rw [if_neg c0, if_neg c0]; exact h j (by omega)
theorem zsq_cb (v s : Int32) : zsq (zch v s) (zby v s) := by
  unfold zch zby
  generalize zus v s = w
  rw [vp_nar_char, vp_nar_byte]
  have e1 : ((w.toInt8.toInt32).toInt8.toInt32).toInt = w.toInt.bmod 256 := by
    rw [Int8.toInt_toInt32, Int32.toInt_toInt8, Int8.toInt_toInt32, Int32.toInt_toInt8]
    exact Int.bmod_bmod
  have e2 : (((w &&& 255).toUInt32 % 65536).toInt32).toUInt32.toUInt16.toUInt32.toInt32 = w &&& 255 := by
    have k := pk_andE w 8 (m := 255) (by decide +kernel)
    obtain ⟨j, h1, h2⟩ := k
    rw [h2]
    have key : ∀ q : Fin 256, (((nI q.val).toUInt32 % 65536).toInt32).toUInt32.toUInt16.toUInt32.toInt32 = nI q.val := by decide +kernel
    exact key ⟨j, h1⟩
  have e3 : (w &&& 255).toInt = ((w.toBitVec.toNat % 256 : Nat) : Int) := by
    have h1 : (w &&& 255).toBitVec.toNat = w.toBitVec.toNat % 256 := by
      rw [Int32.toBitVec_and, BitVec.toNat_and, show (255 : Int32).toBitVec.toNat = 2 ^ 8 - 1 by decide +kernel, Nat.and_two_pow_sub_one_eq_mod]
    rw [zi_tn (by rw [h1]; omega), h1]
  have e4 : w.toInt = (w.toBitVec.toNat : Int) ∨ w.toInt = (w.toBitVec.toNat : Int) - 4294967296 := by
    have h1 : w.toInt = w.toBitVec.toInt := rfl
    rw [h1, BitVec.toInt_eq_toNat_cond]
    split
    · exact Or.inl rfl
    · exact Or.inr rfl
  unfold zsq
  rw [e1, e2, e3, Int.bmod_def]
  omega
theorem zstp_q {si p : Int} {c b : Int32} {s : zS} (h : zsq c b) : zstp si p c s = zstp si p b s := by
  rcases h with h | ⟨h1, h2⟩
  · rw [(fa_eq c b).mpr h]
  · unfold zstp
    by_cases g1 : s.1 ≠ -1
    · rw [if_pos g1, if_pos g1]
    · rw [if_neg g1, if_neg g1, if_neg (show ¬ (0 < s.2.2.1 ∧ 48 ≤ c.toInt ∧ c.toInt ≤ 57) by omega), if_neg (show ¬ (0 < s.2.2.1 ∧ 48 ≤ b.toInt ∧ b.toInt ≤ 57) by omega), if_neg (show ¬ c.toInt = 32 by omega), if_neg (show ¬ b.toInt = 32 by omega)]
      by_cases g2 : s.2.1 = 0 ∧ (s.2.2.2 0).toInt = 20
      · rw [if_pos g2, if_pos g2]
      · rw [if_neg g2, if_neg g2, if_neg (show ¬ (c.toInt = 59 ∧ si = 0) by omega), if_neg (show ¬ (b.toInt = 59 ∧ si = 0) by omega), if_neg (fun q => absurd q.1 (by omega)), if_neg (fun q => absurd q.1 (by omega))]
theorem zrun_q {si : Int} {sg tb R : Nat → Int32} {n : Int} (h : zSg n sg tb) : ∀ p : Nat, (p : Int) ≤ n → zrun si sg R p = zrun si tb R p
  | 0, _ => rfl
  | p + 1, hp => by
    show zstp si (p : Int) (sg p) (zrun si sg R p) = zstp si (p : Int) (tb p) (zrun si tb R p)
    rw [zrun_q h p (by omega), zstp_q (h p (by omega))]
theorem zfin_q {si : Int} {sg tb R : Nat → Int32} {n : Int} {p : Nat} (h : zSg n sg tb) (hp : (p : Int) ≤ n) : zfin si sg R p = zfin si tb R p := by
  unfold zfin
  rw [zrun_q h p hp]
theorem zrow_u501 {n d mg x : Int32} {L F V : Nat → Int32} : upd (zrow n d mg L F V) 501 x = zrow n x mg L F V := by
  funext j
  simp only [upd, zrow]
  by_cases h : j = 501
  · rw [if_pos h, if_neg (show ¬ j = 0 by omega), if_neg (show ¬ j < 21 by omega), if_neg (show ¬ j < 261 by omega), if_neg (show ¬ j < 501 by omega), if_pos h]
  · rw [if_neg h, if_neg h, if_neg h]
theorem zrow_u502 {n d mg x : Int32} {L F V : Nat → Int32} : upd (zrow n d mg L F V) 502 x = zrow n d x L F V := by
  funext j
  simp only [upd, zrow]
  by_cases h : j = 502
  · rw [if_pos h, if_neg (show ¬ j = 0 by omega), if_neg (show ¬ j < 21 by omega), if_neg (show ¬ j < 261 by omega), if_neg (show ¬ j < 501 by omega), if_neg (show ¬ j = 501 by omega), if_pos h]
  · rw [if_neg h, if_neg h, if_neg h]
theorem zE.eq {R S T : Nat → Int32} (h : zE R S) (e : S = T) : zE R T := e ▸ h
/-- the ring of past TRACES -/
def zup (P : Nat → Nat → Int32) (c : Nat) (r : Nat → Int32) : Nat → Nat → Int32 := fun i => cond (Nat.beq i c) r (P i)
def zPr (pn pc : Int32) (P : Nat → Nat → Int32) (r : Nat → Int32) (pn1 pc1 : Int32) (P1 : Nat → Nat → Int32) : Prop := (pn1.toInt = if pn.toInt = 7 then 0 else pn.toInt + 1) ∧ (pc1.toInt = if pc.toInt = 8 then 8 else pc.toInt + 1) ∧ P1 = zup P pn.toInt.toNat r
theorem zs97 {v w : Int32} (e : w = v - 97) : (0 ≤ w.toInt ∧ w.toInt ≤ 9 ∧ 97 ≤ v.toInt ∧ v.toInt ≤ 106) ∨ (¬ (0 ≤ w.toInt ∧ w.toInt ≤ 9) ∧ ¬ (97 ≤ v.toInt ∧ v.toInt ≤ 106)) := by
  have h1 : (97 : Int32).toInt = 97 := by decide +kernel
  have h2 := zI_all v
  have h3 : w.toInt = (v.toInt - 97).bmod (2 ^ 32) := by rw [e, Int32.toInt_sub, h1]
  rw [Int.bmod_def] at h3
  have h4 := h2.1
  have h5 := h2.2
  omega
