/-! what edge(), call() .. answer, told of THE machine -/
def yEdg (K : yMac) (i w : Int) : Int :=
  if ¬ (0 ≤ i ∧ i < (yxE K : Int)) ∨ ¬ (0 ≤ w ∧ w ≤ 5) then -1
  else if w = 0 then (yxFr K i.toNat : Int)
  else if w = 1 then 97 + (yxBy K i.toNat : Int)
  else if w = 2 then (yxTo K i.toNat : Int)
  else if w = 3 then yxSu K i.toNat
  else if w = 4 then yxLo K i.toNat
  else yxHi K i.toNat
section
variable {K : yMac} {w z i : Int} {N M E : Nat} {so le : Nat → Nat} {pf en : Nat → Int} {fr by_ to : Nat → Nat} {su lo hi : Nat → Int}
theorem yEdg_n (h : yAr K N M E so le pf en fr by_ to su lo hi) (hz : z = -1) (hi : ¬ (0 ≤ i ∧ i < (E : Int)) ∨ ¬ (0 ≤ w ∧ w ≤ 5)) : z = yEdg K i w := by
  have e := h.2.2.1
  subst e
  unfold yEdg
  rw [if_pos hi]
  exact hz
theorem yEdg_s (h : yAr K N M E so le pf en fr by_ to su lo hi) (hi9 : 0 ≤ i ∧ i < (E : Int)) (hz : w = 0 ∧ z = (fr i.toNat : Int) ∨ w = 1 ∧ z = 97 + (by_ i.toNat : Int) ∨ w = 2 ∧ z = (to i.toNat : Int) ∨ w = 3 ∧ z = su i.toNat ∨ w = 4 ∧ z = lo i.toNat ∨ w = 5 ∧ z = hi i.toNat) : z = yEdg K i w := by
  have e := h.2.2.1
  obtain ⟨⟨a1, a2, a3⟩, a4, a5, a6⟩ := h.2.2.2.2.2 i.toNat (by omega)
  subst e
  unfold yEdg
  rw [if_neg (by omega), ← a1, ← a2, ← a3, ← a4, ← a5, ← a6]
  rcases hz with ⟨rfl, hz⟩ | ⟨rfl, hz⟩ | ⟨rfl, hz⟩ | ⟨rfl, hz⟩ | ⟨rfl, hz⟩ | ⟨rfl, hz⟩
  · exact hz
  · exact hz
  · exact hz
  · exact hz
  · exact hz
  · exact hz
end
/-- an EDGE of the reference's row, whichever of its numbers -/
theorem yEdg_r {K : yMac} {i w : Int} {z : Int32} {N M E o4 : Nat} {so le : Nat → Nat} {pf en : Nat → Int} {ed : Nat → Int32} (h : yAr K N M E so le pf en (fun e => (ed (o4 + 6 * e)).toInt.toNat) (fun e => (ed (o4 + 6 * e + 1)).toInt.toNat) (fun e => (ed (o4 + 6 * e + 2)).toInt.toNat) (fun e => (ed (o4 + 6 * e + 3)).toInt) (fun e => (ed (o4 + 6 * e + 4)).toInt) (fun e => (ed (o4 + 6 * e + 5)).toInt)) (hi9 : 0 ≤ i ∧ i < (E : Int)) (hn : 0 ≤ (ed (o4 + 6 * i.toNat)).toInt ∧ 0 ≤ (ed (o4 + 6 * i.toNat + 2)).toInt) (hw : 0 ≤ w ∧ w ≤ 5 ∧ ¬ w = 1) (hz : z = ed (o4 + 6 * i.toNat + w.toNat)) : z.toInt = yEdg K i w := by
  have hc : w = 0 ∨ w = 2 ∨ w = 3 ∨ w = 4 ∨ w = 5 := by omega
  rcases hc with rfl | rfl | rfl | rfl | rfl
  · refine yEdg_s h hi9 (Or.inl ⟨rfl, ?_⟩)
    show z.toInt = (((ed (o4 + 6 * i.toNat)).toInt.toNat : Nat) : Int)
    rw [hz, show o4 + 6 * i.toNat + (0 : Int).toNat = o4 + 6 * i.toNat from rfl]
    omega
  · refine yEdg_s h hi9 (Or.inr (Or.inr (Or.inl ⟨rfl, ?_⟩)))
    show z.toInt = (((ed (o4 + 6 * i.toNat + 2)).toInt.toNat : Nat) : Int)
    rw [hz, show o4 + 6 * i.toNat + (2 : Int).toNat = o4 + 6 * i.toNat + 2 from rfl]
    omega
  · exact yEdg_s h hi9 (Or.inr (Or.inr (Or.inr (Or.inl ⟨rfl, congrArg Int32.toInt hz⟩))))
  · exact yEdg_s h hi9 (Or.inr (Or.inr (Or.inr (Or.inr (Or.inl ⟨rfl, congrArg Int32.toInt hz⟩)))))
  · exact yEdg_s h hi9 (Or.inr (Or.inr (Or.inr (Or.inr (Or.inr ⟨rfl, congrArg Int32.toInt hz⟩)))))
theorem z_sg {a z : Int32} (e : z = 97 + a) (h : 0 ≤ a.toInt ∧ a.toInt ≤ 9) : z.toInt = 97 + a.toInt := by
  have q : (97 : Int32).toInt = 97 := by decide +kernel
  rw [e, Int32.toInt_add, q]
  exact zi_bmod (by omega)
theorem yKf_e {ks : Nat → Int32} {e : Nat} (h : 0 ≤ (ks e).toInt) : ((yKf ks e : Nat) : Int) = (ks e).toInt / 2560 ∧ ((yKb ks e : Nat) : Int) = (ks e).toInt / 256 % 10 ∧ ((yKt ks e : Nat) : Int) = (ks e).toInt % 256 := by
  show (((ks e).toInt.toNat / 2560 : Nat) : Int) = _ ∧ (((ks e).toInt.toNat / 256 % 10 : Nat) : Int) = _ ∧ (((ks e).toInt.toNat % 256 : Nat) : Int) = _
  omega
/-! call() -/
def yCal (K : yMac) (R : Nat → Int32) (t i w : Int) : Int :=
  if i = -1 ∧ w = 0 then (R (1 + t.toNat)).toInt
  else if ¬ (0 ≤ i ∧ i < (R (1 + t.toNat)).toInt) then -1
  else if w = 0 then 97 + (R (21 + (12 * t.toNat + i.toNat))).toInt
  else if w = 1 then (R (261 + (12 * t.toNat + i.toNat))).toInt
  else if w = 2 then (ypt (zgR R) (zcR R) (-1) t.toNat (i.toNat + 1) : Int)
  else if w = 3 then (yxSo K (ypt (zgR R) (zcR R) (-1) t.toNat (i.toNat + 1)) : Int)
  else -1
section
variable {K : yMac} {R R' : Nat → Int32} {w z i t : Int} {N M E : Nat} {so le : Nat → Nat} {pf en : Nat → Int} {fr by_ to : Nat → Nat} {su lo hi : Nat → Int}
theorem yCal_l (hz : z = (R (1 + t.toNat)).toInt) (hi : i = -1) (hw : w = 0) : z = yCal K R t i w := by
  unfold yCal
  rw [if_pos ⟨hi, hw⟩]
  exact hz
theorem yCal_n (hz : z = -1) (h : ¬ (i = -1 ∧ w = 0)) (hi : ¬ (0 ≤ i ∧ i < (R (1 + t.toNat)).toInt) ∨ ¬ (0 ≤ w ∧ w ≤ 3)) : z = yCal K R t i w := by
  unfold yCal
  rw [if_neg h]
  by_cases c9 : ¬ (0 ≤ i ∧ i < (R (1 + t.toNat)).toInt)
  · rw [if_pos c9]
    exact hz
  · rw [if_neg c9, if_neg (by omega), if_neg (by omega), if_neg (by omega), if_neg (by omega)]
    exact hz
theorem yCal_s (hi : 0 ≤ i ∧ i < (R (1 + t.toNat)).toInt) (hz : w = 0 ∧ z = 97 + (R (21 + (12 * t.toNat + i.toNat))).toInt ∨ w = 1 ∧ z = (R (261 + (12 * t.toNat + i.toNat))).toInt ∨ w = 2 ∧ z = (ypt (zgR R) (zcR R) (-1) t.toNat (i.toNat + 1) : Int) ∨ w = 3 ∧ z = (yxSo K (ypt (zgR R) (zcR R) (-1) t.toNat (i.toNat + 1)) : Int)) : z = yCal K R t i w := by
  unfold yCal
  rw [if_neg (by omega), if_neg (by omega)]
  rcases hz with ⟨rfl, hz⟩ | ⟨rfl, hz⟩ | ⟨rfl, hz⟩ | ⟨rfl, hz⟩
  · exact hz
  · exact hz
  · exact hz
  · exact hz
theorem yCal_E (h : zE R R') (ht : 0 ≤ t ∧ t < (R 0).toInt) : yCal K R t i w = yCal K R' t i w := by
  have a := h.2.2.2 t.toNat (by omega)
  unfold yCal
  rw [zE_gR h, zE_cR h, a.1]
  by_cases c9 : 0 ≤ i ∧ i < (R' (1 + t.toNat)).toInt
  · have b := a.2 i.toNat (by rw [a.1]; omega)
    rw [b.1, b.2]
  · rw [if_pos c9, if_pos c9]
end
/-- the PREFIX at a place of a TRACE -/
theorem yPL_at {g : Nat → Nat → Nat} {c : Nat → Nat} {b : Int} {T o : Nat} {pl : Nat → Int32} {t i : Nat} (h : yPL g c b T o pl) (ht : t < T) (hb : ¬ (t : Int) = b) (hi : i ≤ c t) : (pl (o + 13 * t + i)).toInt = (ypt g c b t i : Int) := h t i ht hb hi
theorem yMm_so {R : Nat → Int32} {b : Int} {k : Nat} {M E : Int} {so le pf en ks su lo hi fe ed : Nat → Int32} (hR : yRw R) (h : yMm R b k M E so le pf en ks su lo hi fe ed) (t i : Nat) (ht : t < (R 0).toInt.toNat) (hb : ¬ (t : Int) = b) (hi : i ≤ zcR R t) : yN so (ypt (zgR R) (zcR R) b t i) = yxSo (yKR R b k) (ypt (zgR R) (zcR R) b t i) := by
  obtain ⟨N, h1, h2, _⟩ := h
  have K := yMC_K (yRw_g hR _) h1 h2
  have q := yTP_lt h1 (yRw_g hR _) ht hb hi
  exact K.2.2.2.1 _ (by omega)
theorem yMr_so {R : Nat → Int32} {b : Int} {k N M E : Nat} {so le : Nat → Nat} {pf en : Nat → Int} {fr by_ to : Nat → Nat} {su lo hi : Nat → Int} (hR : yRw R) (h1 : yTP (zgR R) (zcR R) b (R 0).toInt.toNat (N : Int)) (h2 : yMC (zgR R) (zcR R) (zvR R) b (R 0).toInt.toNat k N M so le pf en E fr by_ to su lo hi) (t i : Nat) (ht : t < (R 0).toInt.toNat) (hb : ¬ (t : Int) = b) (hi : i ≤ zcR R t) : so (ypt (zgR R) (zcR R) b t i) = yxSo (yKR R b k) (ypt (zgR R) (zcR R) b t i) := by
  have K := yMC_K (yRw_g hR _) h1 h2
  have q := yTP_lt h1 (yRw_g hR _) ht hb hi
  exact K.2.2.2.1 _ (by omega)
