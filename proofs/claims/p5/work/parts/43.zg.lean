/-! the reference's way through THE TEXT, against the run of it -/
/-- at p a TRACE is begun (o) and stands as in S; no digit can come (or it doesn't) -/
def zA (si : Int) (sg R0 : Nat → Int32) (len p o : Int) (S : Nat → Int32) : Prop := ∃ k : Int, zrun si sg R0 p.toNat = (-1, o, k, S) ∧ (k = 0 ∨ len ≤ p ∨ ¬ (48 ≤ (sg p.toNat).toInt ∧ (sg p.toNat).toInt ≤ 57))
/-- S is R and one TRACE more, of k CALLS -/
def zWr (R : Nat → Int32) (k : Int) (a b S : Nat → Int32) : Prop := S 0 = R 0 + 1 ∧ (S (1 + (R 0).toInt.toNat)).toInt = k ∧ (∀ i : Nat, (i : Int) < k → S (21 + (12 * (R 0).toInt.toNat + i)) = a i ∧ S (261 + (12 * (R 0).toInt.toNat + i)) = b i) ∧ (S 501 = R 501 ∧ S 502 = R 502) ∧
  ∀ t : Nat, t < (R 0).toInt.toNat → S (1 + t) = R (1 + t) ∧ ∀ i : Nat, i < 12 → S (21 + (12 * t + i)) = R (21 + (12 * t + i)) ∧ S (261 + (12 * t + i)) = R (261 + (12 * t + i))
def zCr (si : Int) (sg R0 : Nat → Int32) (len : Int) (R : Nat → Int32) (p k : Int) (a b : Nat → Int32) : Prop := (k = 0 ∧ zA si sg R0 len p 0 R) ∨ (1 ≤ k ∧ ∃ S : Nat → Int32, zA si sg R0 len p 1 S ∧ zWr R k a b S)
def zX (si : Int) (sg R0 : Nat → Int32) (len f : Int) : Prop := 0 ≤ f ∧ f ≤ len ∧ (zfin si sg R0 len.toNat).1 = f
section
variable {si len p p' o k v j : Int} {sg R0 R S a b : Nat → Int32} {c : Int32}
theorem zA_blanks (h : zA si sg R0 len p o S) (hp : 0 ≤ p) : ∀ m : Nat, p + (m : Int) ≤ len → (∀ q : Nat, p ≤ (q : Int) → (q : Int) < p + (m : Int) → (sg q).toInt = 32) → zA si sg R0 len (p + (m : Int)) o S
  | 0, _, _ => by rw [show p + ((0 : Nat) : Int) = p by omega]; exact h
  | m + 1, hl, hb => by
    obtain ⟨k, h1, h2⟩ := zA_blanks h hp m (by omega) (fun q hq1 hq2 => hb q hq1 (by omega))
    have h3 := hb (p + (m : Int)).toNat (by omega) (by omega)
    refine ⟨0, zrun_b h1 (by omega) rfl (fun h9 => ?_) h3 rfl, Or.inl rfl⟩
    omega
theorem zA_to (h : zA si sg R0 len p o S) (hp : 0 ≤ p ∧ p ≤ p' ∧ (p' ≤ p ∨ p' ≤ len)) (hb : ∀ q : Nat, p ≤ (q : Int) → (q : Int) < p' → (sg q).toInt = 32) : zA si sg R0 len p' o S := by
  rcases hp.2.2 with h9 | h9
  · rw [show p' = p by omega]; exact h
  · have h1 := zA_blanks h hp.1 (p' - p).toNat (by omega) (fun q h1 h2 => hb q h1 (by omega))
    rw [show p + ((p' - p).toNat : Int) = p' by omega] at h1
    exact h1
theorem zC_to (h : zCr si sg R0 len R p k a b) (hp : 0 ≤ p ∧ p ≤ p' ∧ (p' ≤ p ∨ p' ≤ len)) (hb : ∀ q : Nat, p ≤ (q : Int) → (q : Int) < p' → (sg q).toInt = 32) : zCr si sg R0 len R p' k a b := by
  rcases h with ⟨h0, h⟩ | ⟨h0, S, h, hw⟩
  · exact Or.inl ⟨h0, zA_to h hp hb⟩
  · exact Or.inr ⟨h0, S, zA_to h hp hb, hw⟩
theorem zWr_0 (hn : 0 ≤ (R 0).toInt ∧ (R 0).toInt ≤ 19) : zWr R 0 a b (zop R) := by
  have z0 : (0 : Int32).toInt = 0 := by decide +kernel
  have e0 : zop R 0 = R 0 + 1 := by
    unfold zop
    rw [z_at, z_at, if_neg (by omega), if_pos rfl]
  have e1 : ∀ q : Nat, q ≠ 0 → q ≠ 1 + (R 0).toInt.toNat → zop R q = R q := fun q h1 h2 => by
    unfold zop
    rw [z_at, z_at, if_neg h2, if_neg h1]
  refine ⟨e0, ?_, fun i hi => absurd hi (by omega), ⟨e1 _ (by omega) (by omega), e1 _ (by omega) (by omega)⟩, fun t ht => ⟨e1 _ (by omega) (by omega), fun i hi => ⟨e1 _ (by omega) (by omega), e1 _ (by omega) (by omega)⟩⟩⟩
  unfold zop
  rw [z_at, if_pos rfl, z0]
theorem zWr_n (h : zWr R k a b S) (hn : 0 ≤ (R 0).toInt ∧ (R 0).toInt ≤ 19) : (S 0).toInt = (R 0).toInt + 1 ∧ zlt S = (R 0).toInt.toNat ∧ zll S = k := by
  have h1 : (1 : Int32).toInt = 1 := by decide +kernel
  have e0 : (S 0).toInt = (R 0).toInt + 1 := by rw [h.1, Int32.toInt_add, h1]; exact zi_bmod (by omega)
  have e1 : zlt S = (R 0).toInt.toNat := by unfold zlt; omega
  refine ⟨e0, e1, ?_⟩
  unfold zll
  rw [e1]
  exact h.2.1
theorem zWr_ad {x : Int32} (h : zWr R k a b S) (hn : 0 ≤ (R 0).toInt ∧ (R 0).toInt ≤ 19) (hk : 0 ≤ k ∧ k ≤ 11) : zWr R (k + 1) (upd a k.toNat x) (upd b k.toNat 0) (zad S x) := by
  obtain ⟨e0, e1, e2⟩ := zWr_n h hn
  obtain ⟨w0, w1, w2, w3, w4⟩ := h
  have q1 : (1 : Int32).toInt = 1 := by decide +kernel
  have key : ∀ q : Nat, zad S x q = if q = 1 + (R 0).toInt.toNat then S (1 + (R 0).toInt.toNat) + 1 else if q = 261 + (12 * (R 0).toInt.toNat + k.toNat) then 0 else if q = 21 + (12 * (R 0).toInt.toNat + k.toNat) then x else S q := fun q => by
    unfold zad
    rw [e1, e2, z_at, z_at, z_at]
  refine ⟨?_, ?_, fun i hi => ?_, ⟨?_, ?_⟩, fun t ht => ⟨?_, fun i hi => ⟨?_, ?_⟩⟩⟩
  · rw [key, if_neg (by omega), if_neg (by omega), if_neg (by omega)]; exact w0
  · rw [key, if_pos rfl, Int32.toInt_add, q1, w1]; exact zi_bmod (by omega)
  · rw [z_at, z_at]
    by_cases c1 : i = k.toNat
    · rw [if_pos c1, if_pos c1]
      refine ⟨?_, ?_⟩
      · rw [key, if_neg (by omega), if_neg (by omega), if_pos (by omega)]
      · rw [key, if_neg (by omega), if_pos (by omega)]
    · rw [if_neg c1, if_neg c1]
      refine ⟨?_, ?_⟩
      · rw [key, if_neg (by omega), if_neg (by omega), if_neg (by omega)]; exact (w2 i (by omega)).1
      · rw [key, if_neg (by omega), if_neg (by omega), if_neg (by omega)]; exact (w2 i (by omega)).2
  · rw [key, if_neg (by omega), if_neg (by omega), if_neg (by omega)]; exact w3.1
  · rw [key, if_neg (by omega), if_neg (by omega), if_neg (by omega)]; exact w3.2
  · rw [key, if_neg (by omega), if_neg (by omega), if_neg (by omega)]; exact (w4 t ht).1
  · rw [key, if_neg (by omega), if_neg (by omega), if_neg (by omega)]; exact ((w4 t ht).2 i hi).1
  · rw [key, if_neg (by omega), if_neg (by omega), if_neg (by omega)]; exact ((w4 t ht).2 i hi).2
theorem zWr_dg {x y w : Int32} (h : zWr R (k + 1) a (upd b k.toNat y) S) (hn : 0 ≤ (R 0).toInt ∧ (R 0).toInt ≤ 19) (hk : 0 ≤ k ∧ k ≤ 11) (ew : w = 10 * y + x) : zWr R (k + 1) a (upd b k.toNat w) (zdg S x) := by
  obtain ⟨e0, e1, e2⟩ := zWr_n h hn
  obtain ⟨w0, w1, w2, w3, w4⟩ := h
  have ek : (k + 1).toNat - 1 = k.toNat := by omega
  have ev := (w2 k.toNat (by omega)).2
  rw [z_at, if_pos rfl] at ev
  have key : ∀ q : Nat, zdg S x q = if q = 261 + (12 * (R 0).toInt.toNat + k.toNat) then w else S q := fun q => by
    unfold zdg
    rw [if_pos (show 1 ≤ (S 0).toInt ∧ 0 < zll S from ⟨by omega, by omega⟩), e1, e2, ek, ev, z_at, ew]
  refine ⟨?_, ?_, fun i hi => ?_, ⟨?_, ?_⟩, fun t ht => ⟨?_, fun i hi => ⟨?_, ?_⟩⟩⟩
  · rw [key, if_neg (by omega)]; exact w0
  · rw [key, if_neg (by omega)]; exact w1
  · have w5 := w2 i hi
    rw [z_at] at w5 ⊢
    rw [key, key, if_neg (show ¬ 21 + (12 * (R 0).toInt.toNat + i) = 261 + (12 * (R 0).toInt.toNat + k.toNat) by omega)]
    by_cases c1 : i = k.toNat
    · rw [if_pos (by omega), if_pos c1]
      exact ⟨w5.1, rfl⟩
    · rw [if_neg (by omega), if_neg c1]
      rw [if_neg c1] at w5
      exact w5
  · rw [key, if_neg (by omega)]; exact w3.1
  · rw [key, if_neg (by omega)]; exact w3.2
  · rw [key, if_neg (by omega)]; exact (w4 t ht).1
  · rw [key, if_neg (by omega)]; exact ((w4 t ht).2 i hi).1
  · rw [key, if_neg (by omega)]; exact ((w4 t ht).2 i hi).2
/-- a LETTER comes -/
theorem zC_let {x : Int32} {a' : Nat → Int32} (h : zCr si sg R0 len R p k a b) (hp : 0 ≤ p ∧ p < len) (hc : c = sg p.toNat) (hl : 97 ≤ c.toInt ∧ c.toInt ≤ 106) (hn : 0 ≤ (R 0).toInt ∧ (R 0).toInt ≤ 19) (hk : 0 ≤ k ∧ k ≤ 11) (hp' : p' = p + 1) (ex : x = c - 97) (ea : a' = upd a k.toNat x) (hj : j = 2) :
    ∃ S : Nat → Int32, zrun si sg R0 p'.toNat = (-1, 1, j, S) ∧ zWr R (k + 1) a' (upd b k.toNat 0) S := by
  subst ea ex hj
  rcases h with ⟨h0, ⟨m, h1, -⟩⟩ | ⟨h0, S, ⟨m, h1, -⟩, hw⟩
  · have hw := zWr_0 (a := a) (b := b) hn
    obtain ⟨g0, g1, g2⟩ := zWr_n hw hn
    rw [← h0] at hw g2
    exact ⟨_, zrun_l h1 (by omega) hc hl (by omega) (by rw [zo1_0 rfl]; exact ⟨by omega, by omega⟩) rfl rfl rfl, by rw [zo1_0 rfl]; exact zWr_ad hw hn hk⟩
  · obtain ⟨g0, g1, g2⟩ := zWr_n hw hn
    exact ⟨_, zrun_l h1 (by omega) hc hl (by omega) (by rw [zo1_1 (by decide)]; exact ⟨by omega, by omega⟩) rfl rfl rfl, by rw [zo1_1 (by decide)]; exact zWr_ad hw hn hk⟩
/-- a LETTER for which there is no room -/
theorem zC_13 {f : Int} (h : zCr si sg R0 len R p k a b) (hp : 0 ≤ p ∧ p < len) (hc : c = sg p.toNat) (hl : 97 ≤ c.toInt ∧ c.toInt ≤ 106) (hn : 0 ≤ (R 0).toInt ∧ (R 0).toInt ≤ 19) (hk : k = 12) (hf : f = p) : zX si sg R0 len f := by
  rcases h with ⟨h0, _⟩ | ⟨h0, S, ⟨m, h1, h2⟩, hw⟩
  · omega
  · obtain ⟨g0, g1, g2⟩ := zWr_n hw hn
    have h3 := zrun_w h1 rfl hc (by omega) (by omega) (by omega) (by omega) (fun h9 => h9.2.2 (by rw [zo1_1 (by decide)]; omega))
    have h4 := zfin_f (len := len.toNat) h3 (by omega)
    unfold zX
    omega
/-- a digit comes -/
theorem zD_dig {y v1 v2 v3 : Int32} {S : Nat → Int32} (h : zrun si sg R0 p.toNat = (-1, 1, j, S)) (hw : zWr R (k + 1) a (upd b k.toNat y) S) (hp : 0 ≤ p) (hj : 0 < j) (hc : c = sg p.toNat) (hd : 48 ≤ c.toInt ∧ c.toInt ≤ 57) (hn : 0 ≤ (R 0).toInt ∧ (R 0).toInt ≤ 19) (hk : 0 ≤ k ∧ k ≤ 11) (hp' : p' = p + 1) (hj' : v = j - 1)
    (e1 : v1 = 10 * y) (e2 : v2 = v1 + c) (e3 : v3 = v2 - 48) : ∃ S' : Nat → Int32, zrun si sg R0 p'.toNat = (-1, 1, v, S') ∧ zWr R (k + 1) a (upd b k.toNat v3) S' := by
  refine ⟨_, zrun_d h (by omega) hc ⟨hj, hd.1, hd.2⟩ hj' rfl, zWr_dg hw hn hk ?_⟩
  rw [e3, e2, e1, Int32.sub_eq_add_neg, Int32.sub_eq_add_neg, Int32.add_assoc]
/-- a digit that can't stand there -/
theorem zD_no {f : Int} (h : zrun si sg R0 p.toNat = (-1, 1, j, S)) (hp : 0 ≤ p ∧ p < len) (hj : j ≤ 0) (hd : 48 ≤ (sg p.toNat).toInt ∧ (sg p.toNat).toInt ≤ 57) (hf : f = p) : zX si sg R0 len f := by
  have h3 := zrun_w h rfl rfl (by omega) (by omega) (by omega) (by omega) (by omega)
  have h4 := zfin_f (len := len.toNat) h3 (by omega)
  unfold zX
  omega
theorem zD_end {k1 : Int} {b' : Nat → Int32} {y : Int32} (h : zrun si sg R0 p.toNat = (-1, 1, j, S)) (hw : zWr R (k + 1) a (upd b k.toNat y) S) (hj : j ≤ 0 ∨ len ≤ p ∨ ¬ (48 ≤ (sg p.toNat).toInt ∧ (sg p.toNat).toInt ≤ 57)) (hj0 : 0 ≤ j) (ek : k1 = k + 1) (hk : 0 ≤ k) (eb : b' = upd b k.toNat y) : zCr si sg R0 len R p k1 a b' := by
  subst ek eb
  exact Or.inr ⟨by omega, S, ⟨j, h, by omega⟩, hw⟩
end
/-- what stands behind a TRACE that was read -/
def zB (si : Int) (sg R0 : Nat → Int32) (len p : Int) (D : Nat → Int32) : Prop := ∃ (o : Int) (S : Nat → Int32), zA si sg R0 len p o S ∧ zE (zo1 o S) D ∧ ¬ (o = 0 ∧ (S 0).toInt = 20) ∧ (o = 0 ∨ o = 1)
section
variable {si len p p' o k v j : Int} {sg R0 R S a b D D' : Nat → Int32} {c : Int32}
theorem zE_wr {d1 : Int32} (h : zWr R k a b S) (hE : zE R D) (hn : 0 ≤ (R 0).toInt ∧ (R 0).toInt ≤ 19) (hk : 0 ≤ k ∧ k ≤ 12) (hl : ∀ t : Nat, t < 20 → (D (1 + t)).toInt ≤ 12)
    (d0 : D' 0 = d1) (e0 : d1 = D 0 + 1) (dl : (D' (1 + (D 0).toInt.toNat)).toInt = k) (dr : ∀ i : Nat, (i : Int) < k → D' (21 + (12 * (D 0).toInt.toNat + i)) = a i ∧ D' (261 + (12 * (D 0).toInt.toNat + i)) = b i) (dm : D' 501 = D 501 ∧ D' 502 = D 502)
    (dt : ∀ t : Nat, t < (D 0).toInt.toNat → D' (1 + t) = D (1 + t) ∧ ∀ i : Nat, i < 12 → D' (21 + (12 * t + i)) = D (21 + (12 * t + i)) ∧ D' (261 + (12 * t + i)) = D (261 + (12 * t + i))) : zE S D' := by
  obtain ⟨g0, -, -⟩ := zWr_n h hn
  obtain ⟨w0, w1, w2, w3, w4⟩ := h
  obtain ⟨h0, h1, h2, h3⟩ := hE
  rw [← h0] at dl dr dt e0
  refine ⟨by rw [d0, e0, w0], w3.1.trans (h1.trans dm.1.symm), w3.2.trans (h2.trans dm.2.symm), fun t ht => ?_⟩
  by_cases c1 : t < (R 0).toInt.toNat
  · obtain ⟨a1, a2⟩ := w4 t c1
    obtain ⟨b1, b2⟩ := h3 t (by omega)
    obtain ⟨f1, f2⟩ := dt t c1
    have h12 := hl t (by omega)
    refine ⟨a1.trans (b1.trans f1.symm), fun i hi => ?_⟩
    rw [a1] at hi
    have b3 := b2 i hi
    rw [b1] at hi
    have a3 := a2 i (by omega)
    have f3 := f2 i (by omega)
    exact ⟨a3.1.trans (b3.1.trans f3.1.symm), a3.2.trans (b3.2.trans f3.2.symm)⟩
  · have e : t = (R 0).toInt.toNat := by omega
    subst e
    refine ⟨(fa_eq _ _).mpr (w1.trans dl.symm), fun i hi => ?_⟩
    have a3 := w2 i (by omega)
    have f3 := dr i (by omega)
    exact ⟨a3.1.trans f3.1.symm, a3.2.trans f3.2.symm⟩
theorem zB_mk {d1 : Int32} (h : zCr si sg R0 len R p k a b) (hE : zE R D) (hn : 0 ≤ (R 0).toInt ∧ (R 0).toInt ≤ 19) (hk : 0 ≤ k ∧ k ≤ 12) (hl : ∀ t : Nat, t < 20 → (D (1 + t)).toInt ≤ 12)
    (d0 : D' 0 = d1) (e0 : d1 = D 0 + 1) (dl : (D' (1 + (D 0).toInt.toNat)).toInt = k) (dr : ∀ i : Nat, (i : Int) < k → D' (21 + (12 * (D 0).toInt.toNat + i)) = a i ∧ D' (261 + (12 * (D 0).toInt.toNat + i)) = b i) (dm : D' 501 = D 501 ∧ D' 502 = D 502)
    (dt : ∀ t : Nat, t < (D 0).toInt.toNat → D' (1 + t) = D (1 + t) ∧ ∀ i : Nat, i < 12 → D' (21 + (12 * t + i)) = D (21 + (12 * t + i)) ∧ D' (261 + (12 * t + i)) = D (261 + (12 * t + i))) : zB si sg R0 len p D' := by
  rcases h with ⟨h0, h⟩ | ⟨h0, S, h, hw⟩
  · have hw := zWr_0 (a := a) (b := b) hn
    rw [← h0] at hw
    exact ⟨0, R, h, by rw [zo1_0 rfl]; exact zE_wr hw hE hn hk hl d0 e0 dl dr dm dt, by omega, Or.inl rfl⟩
  · exact ⟨1, S, h, by rw [zo1_1 (by decide)]; exact zE_wr hw hE hn hk hl d0 e0 dl dr dm dt, by omega, Or.inr rfl⟩
theorem zB_to (h : zB si sg R0 len p D) (hp : 0 ≤ p ∧ p ≤ p' ∧ (p' ≤ p ∨ p' ≤ len)) (hb : ∀ q : Nat, p ≤ (q : Int) → (q : Int) < p' → (sg q).toInt = 32) : zB si sg R0 len p' D := by
  obtain ⟨o, S, h1, h2⟩ := h
  exact ⟨o, S, zA_to h1 hp hb, h2⟩
/-- ; comes -/
theorem zB_sem (h : zB 0 sg R0 len p D) (hp : 0 ≤ p ∧ p < len) (hc : c = sg p.toNat) (h59 : c.toInt = 59) (hp' : p' = p + 1) : ∃ S : Nat → Int32, zA 0 sg R0 len p' 0 S ∧ zE S D := by
  obtain ⟨o, S, ⟨k, h1, -⟩, h2, h3, -⟩ := h
  exact ⟨_, ⟨0, zrun_s h1 (by omega) hc ⟨h59, rfl⟩ h3 rfl rfl rfl, Or.inl rfl⟩, h2⟩
/-- no room for a TRACE -/
theorem zA_full {f : Int} (h : zA si sg R0 len p 0 S) (hp : 0 ≤ p ∧ p ≤ len) (h20 : (S 0).toInt = 20) (hb : p < len → ¬ (sg p.toNat).toInt = 32) (hf : f = p) : zX si sg R0 len f := by
  obtain ⟨k, h1, h2⟩ := h
  unfold zX
  by_cases c1 : p < len
  · have h3 := zrun_x h1 rfl rfl (by omega) (hb c1) ⟨rfl, h20⟩
    have h4 := zfin_f (len := len.toNat) h3 (by omega)
    omega
  · have e : p = len := by omega
    subst e
    have h4 := zfin_e h1 ⟨rfl, h20⟩
    omega
/-- a sign that can't stand behind a TRACE -/
theorem zB_no {f : Int} (h : zB si sg R0 len p D) (hp : 0 ≤ p ∧ p < len) (h32 : ¬ (sg p.toNat).toInt = 32) (hs : ¬ ((sg p.toNat).toInt = 59 ∧ si = 0)) (hl : ¬ (97 ≤ (sg p.toNat).toInt ∧ (sg p.toNat).toInt ≤ 106)) (hf : f = p) : zX si sg R0 len f := by
  obtain ⟨o, S, ⟨k, h1, h2⟩, h3, h4, h5⟩ := h
  have h6 := zrun_w h1 rfl rfl (by omega) h32 h4 hs (fun h9 => hl h9.1)
  have h7 := zfin_f (len := len.toNat) h6 (by omega)
  unfold zX
  omega
/-- THE TEXT is at its end -/
theorem zB_end (h : zB si sg R0 len p D) (hp : p = len) : (zfin si sg R0 len.toNat).1 = -1 ∧ zE (zfin si sg R0 len.toNat).2 D := by
  subst hp
  obtain ⟨o, S, ⟨k, h1, h2⟩, h3, h4, h5⟩ := h
  rw [zfin_g h1 h4]
  exact ⟨rfl, h3⟩
theorem zA_0 : zA si sg R len 0 0 R := ⟨0, rfl, Or.inl rfl⟩
end
/-- a TRACE of k CALLS, its first n laid behind D0's -/
def zDr (t n k : Int) (rl : Int32) (a b D0 D : Nat → Int32) : Prop := (∀ i : Nat, (i : Int) < n → (i : Int) < k → D (21 + (12 * t.toNat + i)) = a i ∧ D (261 + (12 * t.toNat + i)) = b i) ∧
  ∀ q : Nat, ¬ (21 + 12 * t ≤ (q : Int) ∧ (q : Int) < 21 + 12 * t + n) → ¬ (261 + 12 * t ≤ (q : Int) ∧ (q : Int) < 261 + 12 * t + n) → D q = if (q : Int) = 1 + t then rl else D0 q
theorem zDr_0 {t n k : Int} {rl i : Int32} {a b D0 D : Nat → Int32} (u : D = upd D0 i.toNatClampNeg rl) (hi : i.toInt = 1 + t) (ht : 0 ≤ t) (hn : n = 0) : zDr t n k rl a b D0 D := by
  subst hn
  refine ⟨fun i h1 => absurd h1 (by omega), fun q _ _ => ?_⟩
  have p9 := zcl (i := i) (by omega)
  rw [u, z_at]
  by_cases c : q = i.toNatClampNeg
  · rw [if_pos c, if_pos (by omega)]
  · rw [if_neg c, if_neg (by omega)]
theorem zDr_s {t n n' k : Int} {rl i1 i2 w1 w2 : Int32} {a b D0 D Da Db : Nat → Int32} (h : zDr t n k rl a b D0 D) (ua : Da = upd D i1.toNatClampNeg w1) (ub : Db = upd Da i2.toNatClampNeg w2) (h1 : i1.toInt = 21 + 12 * t + n) (h2 : i2.toInt = 261 + 12 * t + n) (hn : 0 ≤ n ∧ n ≤ 11) (ht : 0 ≤ t ∧ t ≤ 19)
    (w1e : n < k → w1 = a n.toNat) (w2e : n < k → w2 = b n.toNat) (e : n' = n + 1) : zDr t n' k rl a b D0 Db := by
  subst e
  obtain ⟨g1, g2⟩ := h
  have p1 := zcl (i := i1) (by omega)
  have p2 := zcl (i := i2) (by omega)
  have key : ∀ q : Nat, Db q = if q = i2.toInt.toNat then w2 else if q = i1.toInt.toNat then w1 else D q := fun q => by rw [ub, ua, z_at, z_at, p1, p2]
  refine ⟨fun i c1 c2 => ?_, fun q c1 c2 => ?_⟩
  · rw [key, key]
    by_cases c3 : (i : Int) = n
    · rw [if_neg (by omega), if_pos (by omega), if_pos (by omega), w1e (by omega), w2e (by omega), show n.toNat = i by omega]
      exact ⟨rfl, rfl⟩
    · rw [if_neg (by omega), if_neg (by omega), if_neg (by omega), if_neg (by omega)]
      exact g1 i (by omega) c2
  · rw [key, if_neg (by omega), if_neg (by omega)]
    exact g2 q (by omega) (by omega)
theorem zB_dr {si len p k t : Int} {sg R0 R a b D0 D D' : Nat → Int32} {z v d1 rl : Int32} (h : zCr si sg R0 len R p k a b) (hE : zE R D0) (hn : 0 ≤ (R 0).toInt ∧ (R 0).toInt ≤ 19) (hk : 0 ≤ k ∧ k ≤ 12) (hl : zW5 D0) (ht : t = (D0 0).toInt) (hD : zDr t 12 k rl a b D0 D) (hr : rl.toInt = k)
    (u : D' = upd D z.toNatClampNeg d1) (hz : z.toInt = 0) (ev : v = D 0) (e0 : d1 = v + 1) : zB si sg R0 len p D' := by
  have p9 := zcl (i := z) (by omega)
  have e9 : z.toNatClampNeg = 0 := by omega
  have hR : (R 0).toInt = t := by rw [hE.1, ht]
  have key : ∀ q : Nat, D' q = if q = 0 then d1 else D q := fun q => by rw [u, z_at, e9]
  obtain ⟨g1, g2⟩ := hD
  subst ht
  refine zB_mk (d1 := d1) h hE hn hk (fun t ht => (zW5.len hl t ht).2) (by rw [key, if_pos rfl]) ?_ ?_ (fun i hi => ?_) ⟨?_, ?_⟩ (fun t ht => ⟨?_, fun i hi => ⟨?_, ?_⟩⟩)
  · rw [e0, ev, g2 0 (by omega) (by omega), if_neg (by omega)]
  · rw [key, if_neg (by omega), g2 _ (by omega) (by omega), if_pos (by omega)]
    exact hr
  · rw [key, key, if_neg (by omega), if_neg (by omega)]
    exact g1 i (by omega) hi
  · rw [key, if_neg (by omega), g2 _ (by omega) (by omega), if_neg (by omega)]
  · rw [key, if_neg (by omega), g2 _ (by omega) (by omega), if_neg (by omega)]
  · rw [key, if_neg (by omega), g2 _ (by omega) (by omega), if_neg (by omega)]
  · rw [key, if_neg (by omega), g2 _ (by omega) (by omega), if_neg (by omega)]
  · rw [key, if_neg (by omega), g2 _ (by omega) (by omega), if_neg (by omega)]
/-- an act is remembered -/
def zRem (row un : Nat → Int32) (nu : Int) (un' : Nat → Int32) (nu' : Int) : Prop := nu' = (if nu = 8 then 8 else nu + 1) ∧ (∀ j : Nat, j < 503 → un' (503 * (nu' - 1).toNat + j) = row j) ∧ ∀ j : Nat, (j : Int) < 503 * (nu' - 1) → un' j = un (j + if nu = 8 then 503 else 0)
/-- TRACES from k on are moved: lengths below a, letters below b, values below c -/
def zdp (R : Nat → Int32) (d0 : Int32) (k a b c : Int) : Nat → Int32 := fun j => if j = 0 then d0 else if j < 21 then (if k ≤ (j : Int) - 1 ∧ (j : Int) - 1 < a then R (j + 1) else R j) else if j < 261 then (if 12 * k ≤ (j : Int) - 21 ∧ (j : Int) - 21 < b then R (j + 12) else R j) else if j < 501 then (if 12 * k ≤ (j : Int) - 261 ∧ (j : Int) - 261 < c then R (j + 12) else R j) else R j
theorem zdp_0 {R D : Nat → Int32} {d0 z : Int32} {k a b c : Int} (u : D = upd R z.toNatClampNeg d0) (hz : z.toInt = 0) (ha : a ≤ k ∧ b ≤ 12 * k ∧ c ≤ 12 * k) : ∀ q : Nat, D q = zdp R d0 k a b c q := by
  intro q
  have p9 := zcl (i := z) (by omega)
  rw [u, z_at]
  unfold zdp
  by_cases c0 : q = 0
  · rw [if_pos (by omega), if_pos c0]
  · rw [if_neg (by omega), if_neg c0]
    by_cases c1 : q < 21
    · rw [if_pos c1, if_neg (by omega)]
    · rw [if_neg c1]
      by_cases c2 : q < 261
      · rw [if_pos c2, if_neg (by omega)]
      · rw [if_neg c2]
        by_cases c3 : q < 501
        · rw [if_pos c3, if_neg (by omega)]
        · rw [if_neg c3]
theorem zdp_a {R D D' : Nat → Int32} {d0 i i2 v : Int32} {k a a' b c b' c' : Int} (h : ∀ q : Nat, D q = zdp R d0 k a b c q) (u : D' = upd D i.toNatClampNeg v) (ev : v = D i2.toNatClampNeg) (hi : i.toInt = 1 + a ∧ i2.toInt = 2 + a) (ha : 0 ≤ k ∧ k ≤ a ∧ a ≤ 18) (e : a' = a + 1 ∧ b = b' ∧ c = c') : ∀ q : Nat, D' q = zdp R d0 k a' b' c' q := by
  intro q
  obtain ⟨rfl, rfl, rfl⟩ := e
  have p1 := zcl (i := i) (by omega)
  have p2 := zcl (i := i2) (by omega)
  rw [u, z_at, ev, h, h, p1, p2]
  unfold zdp
  by_cases c0 : q = i.toInt.toNat
  · rw [if_pos c0, if_neg (by omega), if_pos (by omega), if_neg (by omega), if_neg (by omega), if_pos (by omega), if_pos (by omega), show i2.toInt.toNat = q + 1 by omega]
  · rw [if_neg c0]
    by_cases c1 : q = 0
    · rw [if_pos c1, if_pos c1]
    · rw [if_neg c1, if_neg c1]
      by_cases c2 : q < 21
      · rw [if_pos c2, if_pos c2]
        by_cases c3 : k ≤ (q : Int) - 1 ∧ (q : Int) - 1 < a
        · rw [if_pos c3, if_pos (by omega)]
        · rw [if_neg c3, if_neg (by omega)]
      · rw [if_neg c2, if_neg c2]
theorem zdp_b {R D D1 D' : Nat → Int32} {d0 i i2 j j2 v w : Int32} {k a b c a' b' c' : Int} (h : ∀ q : Nat, D q = zdp R d0 k a b c q) (u : D1 = upd D i.toNatClampNeg v) (ev : v = D i2.toNatClampNeg) (u2 : D' = upd D1 j.toNatClampNeg w) (ew : w = D1 j2.toNatClampNeg) (hi : i.toInt = 21 + b ∧ i2.toInt = 33 + b ∧ j.toInt = 261 + c ∧ j2.toInt = 273 + c) (ha : 0 ≤ k ∧ 12 * k ≤ b ∧ b ≤ 227 ∧ b = c) (e : a = a' ∧ b' = b + 1 ∧ c' = c + 1) : ∀ q : Nat, D' q = zdp R d0 k a' b' c' q := by
  intro q
  obtain ⟨rfl, rfl, rfl⟩ := e
  have p1 := zcl (i := i) (by omega)
  have p2 := zcl (i := i2) (by omega)
  have p3 := zcl (i := j) (by omega)
  have p4 := zcl (i := j2) (by omega)
  have key : ∀ q : Nat, D1 q = if q = i.toInt.toNat then zdp R d0 k a b c i2.toInt.toNat else zdp R d0 k a b c q := fun q => by rw [u, z_at, ev, h, h, p1, p2]
  rw [u2, z_at, ew, key, key, p3, p4, if_neg (show ¬ j2.toInt.toNat = i.toInt.toNat by omega)]
  unfold zdp
  by_cases c0 : q = j.toInt.toNat
  · rw [if_pos c0, if_neg (by omega), if_neg (by omega), if_neg (by omega), if_pos (by omega), if_neg (by omega), if_neg (by omega), if_neg (by omega), if_neg (by omega), if_pos (by omega), if_pos (by omega), show j2.toInt.toNat = q + 12 by omega]
  · rw [if_neg c0]
    by_cases c1 : q = i.toInt.toNat
    · rw [if_pos c1, if_neg (by omega), if_neg (by omega), if_pos (by omega), if_neg (by omega), if_neg (by omega), if_neg (by omega), if_pos (by omega), if_pos (by omega), show i2.toInt.toNat = q + 12 by omega]
    · rw [if_neg c1]
      by_cases c2 : q = 0
      · rw [if_pos c2, if_pos c2]
      · rw [if_neg c2, if_neg c2]
        by_cases c3 : q < 21
        · rw [if_pos c3, if_pos c3]
        · rw [if_neg c3, if_neg c3]
          by_cases c4 : q < 261
          · rw [if_pos c4, if_pos c4]
            by_cases c5 : 12 * k ≤ (q : Int) - 21 ∧ (q : Int) - 21 < b
            · rw [if_pos c5, if_pos (by omega)]
            · rw [if_neg c5, if_neg (by omega)]
          · rw [if_neg c4, if_neg c4]
            by_cases c6 : q < 501
            · rw [if_pos c6, if_pos c6]
              by_cases c5 : 12 * k ≤ (q : Int) - 261 ∧ (q : Int) - 261 < c
              · rw [if_pos c5, if_pos (by omega)]
              · rw [if_neg c5, if_neg (by omega)]
            · rw [if_neg c6, if_neg c6]
theorem zdp_fin {R D : Nat → Int32} {d0 v : Int32} {k a b c : Int} (h : ∀ q : Nat, D q = zdp R d0 k a b c q) (ev : v = R 0) (e0 : d0 = v - 1) (hk : 0 ≤ k ∧ k < v.toInt ∧ v.toInt ≤ 20) (ha : a = v.toInt - 1 ∧ b = 12 * a ∧ c = 12 * a) (hl : zW5 R) : zE D (zrm R k.toNat) := by
  obtain ⟨e1, e2, e3⟩ := ha
  have h1 : (1 : Int32).toInt = 1 := by decide +kernel
  have hd : d0.toInt = v.toInt - 1 := by rw [e0, Int32.toInt_sub, h1]; exact zi_bmod (by omega)
  refine ⟨?_, ?_, ?_, fun t ht => ?_⟩
  · rw [h 0]
    show d0 = R 0 - 1
    rw [e0, ev]
  · rw [h 501, zrm_5 (by omega)]
    unfold zdp
    rw [if_neg (by omega), if_neg (by omega), if_neg (by omega), if_neg (by omega)]
  · rw [h 502, zrm_5 (by omega)]
    unfold zdp
    rw [if_neg (by omega), if_neg (by omega), if_neg (by omega), if_neg (by omega)]
  · have ht : (t : Int) < d0.toInt := by
      have h9 : D 0 = d0 := by rw [h 0]; rfl
      rw [h9] at ht
      exact ht
    have l1 := (zW5.len hl t (by omega)).2
    have l2 : (R (1 + (t + 1))).toInt ≤ 12 := (zW5.len hl (t + 1) (by omega)).2
    have eq0 : zrm R k.toNat (1 + t) = if t < k.toNat then R (1 + t) else R (1 + (t + 1)) := by
      unfold zrm
      rw [if_neg (by omega), if_pos (by omega), show 1 + t - 1 = t by omega, show 1 + t + 1 = 1 + (t + 1) by omega]
    have eq1 : D (1 + t) = zrm R k.toNat (1 + t) := by
      rw [h, eq0]
      unfold zdp
      rw [if_neg (by omega), if_pos (by omega), show 1 + t + 1 = 1 + (t + 1) by omega]
      by_cases c1 : (t : Int) < k
      · rw [if_neg (show ¬ (k ≤ ((1 + t : Nat) : Int) - 1 ∧ ((1 + t : Nat) : Int) - 1 < a) by omega), if_pos (show t < k.toNat by omega)]
      · rw [if_pos (show k ≤ ((1 + t : Nat) : Int) - 1 ∧ ((1 + t : Nat) : Int) - 1 < a by omega), if_neg (show ¬ t < k.toNat by omega)]
    have h12 : (D (1 + t)).toInt ≤ 12 := by
      rw [eq1, eq0]
      split
      · exact l1
      · exact l2
    refine ⟨eq1, fun i hi => ⟨?_, ?_⟩⟩
    · rw [h, zrm_F (by omega)]
      unfold zdp
      rw [if_neg (by omega), if_neg (by omega), if_pos (by omega)]
      by_cases c1 : (t : Int) < k
      · rw [if_neg (show ¬ (12 * k ≤ ((21 + (12 * t + i) : Nat) : Int) - 21 ∧ ((21 + (12 * t + i) : Nat) : Int) - 21 < b) by omega), if_pos (show 12 * t + i < 12 * k.toNat by omega)]
      · rw [if_pos (show 12 * k ≤ ((21 + (12 * t + i) : Nat) : Int) - 21 ∧ ((21 + (12 * t + i) : Nat) : Int) - 21 < b by omega), if_neg (show ¬ 12 * t + i < 12 * k.toNat by omega)]
    · rw [h, zrm_V (by omega)]
      unfold zdp
      rw [if_neg (by omega), if_neg (by omega), if_neg (by omega), if_pos (by omega)]
      by_cases c1 : (t : Int) < k
      · rw [if_neg (show ¬ (12 * k ≤ ((261 + (12 * t + i) : Nat) : Int) - 261 ∧ ((261 + (12 * t + i) : Nat) : Int) - 261 < c) by omega), if_pos (show 12 * t + i < 12 * k.toNat by omega)]
      · rw [if_pos (show 12 * k ≤ ((261 + (12 * t + i) : Nat) : Int) - 261 ∧ ((261 + (12 * t + i) : Nat) : Int) - 261 < c by omega), if_neg (show ¬ 12 * t + i < 12 * k.toNat by omega)]
theorem z_n0 : (0 : Int32).toNatClampNeg = 0 := by decide +kernel
theorem z_n501 : (501 : Int32).toNatClampNeg = 501 := by decide +kernel
theorem z_n502 : (502 : Int32).toNatClampNeg = 502 := by decide +kernel
theorem zW5_0 {f : Nat → Int32} (h : zW5 f) : 0 ≤ (f 0).toInt ∧ (f 0).toInt ≤ 20 := (h 0).1 rfl
theorem zdp_cg {R D : Nat → Int32} {d0 : Int32} {k a b c a' b' c' : Int} (h : ∀ q : Nat, D q = zdp R d0 k a b c q) (e : a = a' ∧ b = b' ∧ c = c') : ∀ q : Nat, D q = zdp R d0 k a' b' c' q := by
  obtain ⟨rfl, rfl, rfl⟩ := e
  exact h
theorem zdp_n {R : Nat → Int32} {m : Int32} (h : 0 ≤ (R 0).toInt ∧ (R 0).toInt ≤ 20) (e : m = R 0 - 1) : m.toInt = (R 0).toInt - 1 := by
  have h1 : (1 : Int32).toInt = 1 := by decide +kernel
  rw [e, Int32.toInt_sub, h1]
  exact zi_bmod (by omega)
