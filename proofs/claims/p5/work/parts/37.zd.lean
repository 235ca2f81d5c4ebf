/-- a power of two divides -/
def zdv (a b : Int32) : Prop := ((2 ^ b.toInt.toNat : Nat) : Int) ∣ a.toInt
theorem zdv_0 {a b : Int32} (h : b.toInt = 0) : zdv a b := by
  unfold zdv
  rw [h]
  exact ⟨a.toInt, by simp⟩
theorem zdv_le {a b : Int32} {l h : Int} (hd : zdv a b) (ha : zI a l h) (hl : 1 ≤ l ∧ h ≤ 1023) : b.toInt ≤ 9 := by
  have h1 := ha.1
  have h2 := ha.2
  have h3 : ((2 ^ b.toInt.toNat : Nat) : Int) ≤ a.toInt := Int.le_of_dvd (by omega) hd
  rcases Decidable.em (b.toInt ≤ 9) with c | c
  · exact c
  · have h4 : 2 ^ 10 ≤ 2 ^ b.toInt.toNat := Nat.pow_le_pow_right (by decide) (by omega)
    have h5 : (2 : Nat) ^ 10 = 1024 := by decide
    omega
theorem zdv_s {a b v t b2 : Int32} {l h l2 h2 : Int} (hd : zdv a b) (ha : zI a l h) (hl : 0 ≤ l) (hb : zI b l2 h2) (hl2 : 0 ≤ l2 ∧ h2 ≤ 10) (e1 : v = a >>> (b &&& 31)) (e2 : t = v &&& 1) (h0 : t.toInt = 0) (hb2 : b2.toInt = b.toInt + 1) : zdv a b2 := by
  obtain ⟨n, hn, hz, hlt⟩ := hb.nat hl2.1
  have hn2 := hb.2
  have key : ∀ k : Fin 11, (((nI k.val) &&& 31).toBitVec.smod 32).toNat = k.val := by decide +kernel
  have hs : ((b &&& 31).toBitVec.smod 32).toNat = n := by
    rw [hn]
    exact key ⟨n, by omega⟩
  obtain ⟨q, hv⟩ := zI_shr (l := 0) (h := h) (k := n) ha hs e1 ⟨⟨hl, Int.ediv_nonneg hl (Int.natCast_nonneg _)⟩, Int.ediv_le_self _ (by have := ha.1; have := ha.2; omega)⟩
  have q2 := zI_andq (k := 1) hv (Int.le_refl 0) (by decide +kernel) e2
  obtain ⟨m, hm⟩ := hd
  have e3 : b.toInt.toNat = n := by omega
  rw [e3] at hm
  have hp : (0 : Int) < ((2 ^ n : Nat) : Int) := by
    have := Nat.pow_pos (n := n) (show 0 < 2 by decide)
    omega
  have e4 : v.toInt = m := by
    rw [q, hm]
    exact Int.mul_ediv_cancel_left m (by omega)
  rw [e4, h0] at q2
  have e5 : m = 2 * (m / 2) := by
    have h9 : (((2 : Nat) ^ 1 : Nat) : Int) = 2 := by decide
    rw [h9] at q2
    omega
  unfold zdv
  have e6 : b2.toInt.toNat = n + 1 := by omega
  rw [e6, hm]
  refine ⟨m / 2, ?_⟩
  rw [Nat.pow_succ, Int.natCast_mul, Int.mul_assoc]
  congr 1
