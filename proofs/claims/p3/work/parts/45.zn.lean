/-! VALUES have two digits at most -/
def yJv (k : Int) (S : Nat → Int32) : Prop := (0 ≤ (S 0).toInt ∧ (S 0).toInt ≤ 20) ∧ (0 ≤ k ∧ k ≤ 2) ∧ ∀ t : Nat, (t : Int) < (S 0).toInt → (0 ≤ (S (1 + t)).toInt ∧ (S (1 + t)).toInt ≤ 12) ∧ ∀ i : Nat, (i : Int) < (S (1 + t)).toInt → 0 ≤ (S (261 + (12 * t + i))).toInt ∧ (S (261 + (12 * t + i))).toInt ≤ 99 ∧ ((t : Int) + 1 = (S 0).toInt → (i : Int) + 1 = (S (1 + t)).toInt → (k = 2 → (S (261 + (12 * t + i))).toInt = 0) ∧ (k = 1 → (S (261 + (12 * t + i))).toInt ≤ 9))
section
variable {k k' o si p : Int} {S R R' : Nat → Int32} {c x : Int32}
theorem yJv_0 (h : yJv k S) : yJv 0 S := ⟨h.1, by omega, fun t ht => ⟨(h.2.2 t ht).1, fun i hi => ⟨((h.2.2 t ht).2 i hi).1, ((h.2.2 t ht).2 i hi).2.1, fun _ _ => ⟨fun q => by omega, fun q => by omega⟩⟩⟩⟩
theorem yJv_op (h : yJv k S) (hn : (S 0).toInt ≤ 19) : yJv 0 (zop S) := by
  obtain ⟨h1, h2, h3⟩ := h
  have one : (1 : Int32).toInt = 1 := by decide +kernel
  have zer : (0 : Int32).toInt = 0 := by decide +kernel
  have e0 : (zop S 0).toInt = (S 0).toInt + 1 := by
    unfold zop
    rw [z_at, if_neg (by omega), z_at, if_pos rfl, Int32.toInt_add, one]
    exact zi_bmod (by omega)
  have ek : ∀ j : Nat, j ≠ 0 → j ≠ 1 + (S 0).toInt.toNat → zop S j = S j := fun j a b => by
    unfold zop
    rw [z_at, if_neg b, z_at, if_neg a]
  have el : (zop S (1 + (S 0).toInt.toNat)).toInt = 0 := by
    unfold zop
    rw [z_at, if_pos rfl, zer]
  refine ⟨by omega, by omega, fun t ht => ?_⟩
  by_cases c9 : t = (S 0).toInt.toNat
  · subst c9
    rw [el]
    exact ⟨by omega, fun i hi => by omega⟩
  · have a := h3 t (by omega)
    rw [ek (1 + t) (by omega) (by omega)]
    refine ⟨a.1, fun i hi => ?_⟩
    rw [ek (261 + (12 * t + i)) (by omega) (by omega)]
    exact ⟨(a.2 i hi).1, (a.2 i hi).2.1, fun _ _ => ⟨fun q => by omega, fun q => by omega⟩⟩
theorem yJv_o1 (h : yJv k S) (hn : ¬ (o = 0 ∧ (S 0).toInt = 20)) : yJv 0 (zo1 o S) := by
  by_cases c9 : o = 0
  · rw [zo1_0 c9]
    exact yJv_op h (by have := h.1; omega)
  · rw [zo1_1 c9]
    exact yJv_0 h
theorem yJv_ad (h : yJv k S) (h1 : 1 ≤ (S 0).toInt ∧ zll S ≠ 12) : yJv 2 (zad S x) := by
  obtain ⟨⟨g1, g2⟩, _, h3⟩ := h
  have one : (1 : Int32).toInt = 1 := by decide +kernel
  have zer : (0 : Int32).toInt = 0 := by decide +kernel
  have hl := h3 (zlt S) (by unfold zlt; omega)
  have l1 : 0 ≤ zll S ∧ zll S ≤ 11 := by
    have := hl.1
    have := h1.2
    unfold zll at this ⊢
    omega
  have lt : zlt S ≤ 19 := by
    unfold zlt
    omega
  have e0 : zad S x 0 = S 0 := by
    unfold zad
    rw [z_at, if_neg (by omega), z_at, if_neg (by omega), z_at, if_neg (by omega)]
  have el : (zad S x (1 + zlt S)).toInt = zll S + 1 := by
    unfold zad
    rw [z_at, if_pos rfl, Int32.toInt_add, one]
    exact zi_bmod (by have : zll S = (S (1 + zlt S)).toInt := rfl; omega)
  have ek : ∀ t : Nat, t < 20 → t ≠ zlt S → zad S x (1 + t) = S (1 + t) := fun t a b => by
    unfold zad
    rw [z_at, if_neg (by omega), z_at, if_neg (by omega), z_at, if_neg (by omega)]
  have ev : zad S x (261 + (12 * zlt S + (zll S).toNat)) = 0 := by
    unfold zad
    rw [z_at, if_neg (by omega), z_at, if_pos rfl]
  have en : ∀ j : Nat, j ≠ 12 * zlt S + (zll S).toNat → zad S x (261 + j) = S (261 + j) := fun j a => by
    unfold zad
    rw [z_at, if_neg (by omega), z_at, if_neg (by omega), z_at, if_neg (by omega)]
  refine ⟨by rw [e0]; exact ⟨g1, g2⟩, by omega, fun t ht => ?_⟩
  rw [e0] at ht
  by_cases c9 : t = zlt S
  · subst c9
    rw [el]
    refine ⟨by omega, fun i hi => ?_⟩
    by_cases c8 : i = (zll S).toNat
    · subst c8
      rw [ev, zer]
      exact ⟨by omega, by omega, fun _ _ => ⟨fun _ => rfl, fun q => by omega⟩⟩
    · have a := hl.2 i (by have : zll S = (S (1 + zlt S)).toInt := rfl; omega)
      rw [en _ (by omega)]
      exact ⟨a.1, a.2.1, fun _ q => by omega⟩
  · have a := h3 t ht
    rw [ek t (by omega) c9]
    refine ⟨a.1, fun i hi => ?_⟩
    have b := a.2 i hi
    rw [en _ (by have := a.1; omega)]
    exact ⟨b.1, b.2.1, fun q _ => by exfalso; rw [e0] at q; unfold zlt at c9; omega⟩
theorem yJv_dg (h : yJv k S) (hk : 0 < k) (hx : 0 ≤ x.toInt ∧ x.toInt ≤ 9) : yJv (k - 1) (zdg S x) := by
  obtain ⟨⟨g1, g2⟩, hk2, h3⟩ := h
  unfold zdg
  by_cases c9 : 1 ≤ (S 0).toInt ∧ 0 < zll S
  · rw [if_pos c9]
    have ten : (10 : Int32).toInt = 10 := by decide +kernel
    have hl := h3 (zlt S) (by unfold zlt; omega)
    have l1 : zll S ≤ 12 := hl.1.2
    have lt : zlt S ≤ 19 ∧ (zlt S : Int) + 1 = (S 0).toInt := by
      unfold zlt
      omega
    have eq9 : zll S = (S (1 + zlt S)).toInt := rfl
    have b := hl.2 ((zll S).toNat - 1) (by omega)
    have b2 := b.2.2 lt.2 (by omega)
    have ev : (10 * S (261 + (12 * zlt S + ((zll S).toNat - 1))) + x).toInt = 10 * (S (261 + (12 * zlt S + ((zll S).toNat - 1)))).toInt + x.toInt := by
      have m9 : (10 * S (261 + (12 * zlt S + ((zll S).toNat - 1)))).toInt = 10 * (S (261 + (12 * zlt S + ((zll S).toNat - 1)))).toInt := by
        rw [Int32.toInt_mul, ten]
        exact zi_bmod (by omega)
      rw [Int32.toInt_add, m9]
      exact zi_bmod (by omega)
    have k12 : k = 1 ∨ k = 2 := by omega
    refine ⟨by rw [z_at, if_neg (by omega)]; exact ⟨g1, g2⟩, by omega, fun t ht => ?_⟩
    rw [z_at, if_neg (by omega)] at ht
    have a := h3 t ht
    rw [z_at, if_neg (by omega)]
    refine ⟨a.1, fun i hi => ?_⟩
    rw [z_at]
    by_cases c8 : 261 + (12 * t + i) = 261 + (12 * zlt S + ((zll S).toNat - 1))
    · rw [if_pos c8, ev]
      rcases k12 with rfl | rfl
      · have := b2.2 rfl
        exact ⟨by omega, by omega, fun _ _ => ⟨fun q => by omega, fun q => by omega⟩⟩
      · have := b2.1 rfl
        exact ⟨by omega, by omega, fun _ _ => ⟨fun q => by omega, fun q => by omega⟩⟩
    · rw [if_neg c8]
      have d := a.2 i hi
      refine ⟨d.1, d.2.1, fun q1 q2 => ?_⟩
      rw [z_at, if_neg (by omega)] at q1
      have t9 : t = zlt S := by omega
      subst t9
      omega
  · rw [if_neg c9]
    refine ⟨⟨g1, g2⟩, by omega, fun t ht => ⟨(h3 t ht).1, fun i hi => ⟨((h3 t ht).2 i hi).1, ((h3 t ht).2 i hi).2.1, fun q1 q2 => ?_⟩⟩⟩
    exfalso
    refine c9 ⟨by omega, ?_⟩
    unfold zll
    rw [show zlt S = t by unfold zlt; omega]
    omega
theorem yJv_st {s : zS} (hp : 0 ≤ p) (h : s.1 = -1 → yJv s.2.2.1 s.2.2.2) : (zstp si p c s).1 = -1 → yJv (zstp si p c s).2.2.1 (zstp si p c s).2.2.2 := by
  unfold zstp
  by_cases c1 : s.1 ≠ -1
  · rw [if_pos c1]
    exact h
  rw [if_neg c1]
  have h1 := h (by omega)
  by_cases c2 : 0 < s.2.2.1 ∧ 48 ≤ c.toInt ∧ c.toInt ≤ 57
  · rw [if_pos c2]
    intro _
    have e48 : (48 : Int32).toInt = 48 := by decide +kernel
    have e9 : (c - 48).toInt = c.toInt - 48 := by
      rw [Int32.toInt_sub, e48]
      exact zi_bmod (by omega)
    exact yJv_dg h1 c2.1 (by omega)
  rw [if_neg c2]
  by_cases c3 : c.toInt = 32
  · rw [if_pos c3]
    exact fun _ => yJv_0 h1
  rw [if_neg c3]
  by_cases c4 : s.2.1 = 0 ∧ (s.2.2.2 0).toInt = 20
  · rw [if_pos c4]
    intro q
    have q' : p = -1 := q
    omega
  rw [if_neg c4]
  have h2 := yJv_o1 h1 c4
  by_cases c5 : c.toInt = 59 ∧ si = 0
  · rw [if_pos c5]
    exact fun _ => h2
  rw [if_neg c5]
  by_cases c6 : (97 ≤ c.toInt ∧ c.toInt ≤ 106) ∧ 1 ≤ (zo1 s.2.1 s.2.2.2 0).toInt ∧ zll (zo1 s.2.1 s.2.2.2) ≠ 12
  · rw [if_pos c6]
    exact fun _ => yJv_ad h2 c6.2
  rw [if_neg c6]
  intro q
  have q' : p = -1 := q
  omega
theorem yJv_run {sg : Nat → Int32} (h : yJv 0 R) : ∀ n : Nat, (zrun si sg R n).1 = -1 → yJv (zrun si sg R n).2.2.1 (zrun si sg R n).2.2.2
  | 0 => fun _ => h
  | n + 1 => yJv_st (by omega) (yJv_run h n)
theorem yJv_fin {sg : Nat → Int32} {n : Nat} (h : yJv 0 R) (e : (zfin si sg R n).1 = -1) : yJv 0 (zfin si sg R n).2 := by
  have h1 := yJv_run (si := si) (sg := sg) h n
  unfold zfin zfi at e ⊢
  by_cases c1 : (zrun si sg R n).1 ≠ -1
  · rw [if_pos c1] at e
    exact absurd e c1
  rw [if_neg c1] at e ⊢
  by_cases c2 : (zrun si sg R n).2.1 = 0 ∧ ((zrun si sg R n).2.2.2 0).toInt = 20
  · rw [if_pos c2] at e
    have e' : (n : Int) = -1 := e
    omega
  rw [if_neg c2]
  exact yJv_o1 (h1 (by omega)) c2
theorem yJv_E (h : zE R R') (j : yJv 0 R) : yJv 0 R' := by
  obtain ⟨g0, _, _, g3⟩ := h
  obtain ⟨j1, j2, j3⟩ := j
  rw [g0] at j1 j3 g3
  refine ⟨j1, j2, fun t ht => ?_⟩
  have a := j3 t ht
  have b := g3 t ht
  rw [b.1] at a b
  refine ⟨a.1, fun i hi => ?_⟩
  have d := a.2 i hi
  rw [(b.2 i hi).2] at d
  exact ⟨d.1, d.2.1, fun _ _ => ⟨fun q => by omega, fun q => by omega⟩⟩
theorem yJv_V (j : yJv 0 R) : yVr R := fun t i hi => by
  have a := zcR_in hi
  rw [zvR_at hi]
  have b := (j.2.2 t a.1).2 i a.2
  exact ⟨b.1, b.2.1⟩
/-- what acts keep -/
theorem yJv_rm {q : Nat} (j : yJv 0 R) (hq : (q : Int) < (R 0).toInt) : yJv 0 (zrm R q) := by
  obtain ⟨j1, j2, j3⟩ := j
  have one : (1 : Int32).toInt = 1 := by decide +kernel
  have e0 : (zrm R q 0).toInt = (R 0).toInt - 1 := by
    unfold zrm
    rw [if_pos rfl, Int32.toInt_sub, one]
    exact zi_bmod (by omega)
  have el : ∀ t : Nat, t < 20 → zrm R q (1 + t) = if t < q then R (1 + t) else R (1 + (t + 1)) := fun t ht => by
    unfold zrm
    rw [if_neg (by omega), if_pos (by omega), show 1 + t - 1 = t by omega, show 1 + t + 1 = 1 + (t + 1) by omega]
  refine ⟨by omega, j2, fun t ht => ?_⟩
  rw [e0] at ht
  rw [el t (by omega)]
  by_cases c9 : t < q
  · rw [if_pos c9]
    have a := j3 t (by omega)
    refine ⟨a.1, fun i hi => ?_⟩
    have b := a.2 i hi
    rw [zrm_V (by have := a.1; omega), if_pos (by have := a.1; omega)]
    exact ⟨b.1, b.2.1, fun _ _ => ⟨fun x => by omega, fun x => by omega⟩⟩
  · rw [if_neg c9]
    have a := j3 (t + 1) (by omega)
    refine ⟨a.1, fun i hi => ?_⟩
    have b := a.2 i hi
    rw [zrm_V (by have := a.1; omega), if_neg (by omega), show 261 + (12 * t + i) + 12 = 261 + (12 * (t + 1) + i) by omega]
    exact ⟨b.1, b.2.1, fun _ _ => ⟨fun x => by omega, fun x => by omega⟩⟩
theorem yJv_set {at_ : Nat} (j : yJv 0 R) (ha : at_ = 501 ∨ at_ = 502) : yJv 0 (upd R at_ x) := by
  obtain ⟨j1, j2, j3⟩ := j
  have key : ∀ q : Nat, q < 501 → upd R at_ x q = R q := fun q hq => by rw [z_at, if_neg (by omega)]
  refine ⟨by rw [key 0 (by omega)]; exact j1, j2, fun t ht => ?_⟩
  rw [key 0 (by omega)] at ht
  have a := j3 t ht
  rw [key (1 + t) (by omega)]
  refine ⟨a.1, fun i hi => ?_⟩
  have b := a.2 i hi
  rw [key _ (by have := a.1; omega)]
  exact ⟨b.1, b.2.1, fun _ _ => ⟨fun x => by omega, fun x => by omega⟩⟩
theorem yJv_row0 : yJv 0 (zrow 0 1 0 (fun _ => 0) (fun _ => 0) (fun _ => 0)) := by
  have h0 := zi_00
  have e0 : (zrow 0 1 0 (fun _ => 0) (fun _ => 0) (fun _ => 0) 0).toInt = 0 := by rw [zrow_0]; exact h0
  exact ⟨by omega, by omega, fun t ht => by omega⟩
end
