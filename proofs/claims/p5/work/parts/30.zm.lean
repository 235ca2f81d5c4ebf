/-! PREFIXES of the reference -/
def zLm (ch : Nat → Int32) (o n px : Int) : Prop := ∀ q : Nat, o ≤ (q : Int) → (q : Int) < o + n → (ch q).toInt < px
def zTm (T bu px : Int) (o : Nat) (rw_ pa : Nat → Int32) : Prop := ∀ t i : Nat, (t : Int) < T → (t : Int) ≠ bu → (i : Int) ≤ (rw_ (1 + t)).toInt → (pa (o + 13 * t + i)).toInt < px
def zTw (tm : Int) (tl tf : Nat → Int32) : Prop := ∀ j : Nat, (j : Int) < tm → (tl j).toInt ≤ 0 ∨ (0 ≤ (tf j).toInt ∧ (tf j).toInt < (j : Int))
theorem zi_tn {v : Int32} (h : v.toBitVec.toNat < 2 ^ 31) : v.toInt = (v.toBitVec.toNat : Int) := by
  show v.toBitVec.toInt = _
  exact BitVec.toInt_eq_toNat_of_lt (by omega)
theorem zi_nt {v : Int32} (h : 0 ≤ v.toInt) : (v.toBitVec.toNat : Int) = v.toInt ∧ v.toBitVec.toNat < 2 ^ 31 := by
  obtain ⟨n, hn, hz, hlt⟩ := zI.nat (v := v) (l := 0) (h := 2147483647) ⟨h, (zI_all v).2⟩ (by decide)
  have e : v.toBitVec.toNat = n := by
    rw [hn]
    show (BitVec.ofNat 32 n).toNat = n
    rw [BitVec.toNat_ofNat]
    exact Nat.mod_eq_of_lt (by omega)
  exact ⟨by rw [e]; exact hz, by omega⟩
theorem zI_andl {a b v : Int32} {l h : Int} (x : zI a l h) (c : 0 ≤ l) (e : v = a &&& b) : zI v 0 h := by
  obtain ⟨h1, h2⟩ := zi_nt (v := a) (by have := x.1; omega)
  have h3 : v.toBitVec.toNat ≤ a.toBitVec.toNat := by
    rw [e, Int32.toBitVec_and, BitVec.toNat_and]
    exact Nat.and_le_left
  have h4 := zi_tn (v := v) (by omega)
  have := x.2
  exact ⟨by omega, by omega⟩
theorem zI_andq {a b v : Int32} {l h : Int} {k : Nat} (x : zI a l h) (c : 0 ≤ l) (hm : b.toBitVec.toNat = 2 ^ k - 1) (e : v = a &&& b) : v.toInt = a.toInt % (2 ^ k : Nat) := by
  obtain ⟨h1, h2⟩ := zi_nt (v := a) (by have := x.1; omega)
  have h3 : v.toBitVec.toNat = a.toBitVec.toNat % 2 ^ k := by
    rw [e, Int32.toBitVec_and, BitVec.toNat_and, hm, Nat.and_two_pow_sub_one_eq_mod]
  have h5 : v.toBitVec.toNat ≤ a.toBitVec.toNat := by rw [h3]; exact Nat.mod_le _ _
  have h4 := zi_tn (v := v) (by omega)
  rw [h4, h3, ← h1]
  simp
theorem zI_shl1 {m v : Int32} {l h : Int} (x : zI m l h) (e : v = 1 <<< (m &&& 31)) (c : 0 ≤ l ∧ h ≤ 20) : zI v 1 1048576 := by
  obtain ⟨n, hn, hz, hlt⟩ := zI.nat x c.1
  have h2 := x.2
  have key : ∀ k : Fin 21, zI ((1 : Int32) <<< (nI k.val &&& 31)) 1 1048576 := by decide +kernel
  have := key ⟨n, by omega⟩
  rw [e, hn]
  exact this
