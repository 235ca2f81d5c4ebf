/-! more of rows and bits -/
theorem zQB.cpy {f g : Nat → Int64} {sp dp n : Nat} (a : zqa qB f) (b : zqa qB g) (e : sp % 4 = dp % 4) : zqa qB (va_cpy f g sp dp n) := by
  intro j
  unfold va_cpy
  split
  · rename_i c
    intro h
    exact a _ (by omega)
  · exact b j
theorem zI_remv {a b v : Int32} {l h : Int} (x : zI a l h) (c : 0 ≤ l) (y : 0 < b.toInt) (e : v = a - a / b * b) : v.toInt = a.toInt % b.toInt := by
  obtain ⟨n, hn, hz, hlt⟩ := x.nat c
  obtain ⟨d, hd, hzd, hltd⟩ := zI.nat (v := b) (l := 1) (h := 2147483647) ⟨by omega, (zI_all b).2⟩ (by decide)
  rw [e, hd, hn, pk_rem hlt (by omega) (by omega), nI_toInt (Nat.lt_of_le_of_lt (Nat.mod_le _ _) hlt), nI_toInt hlt, nI_toInt hltd]
  simp
theorem z_draw {al en r t s0 rest : Int32} {l h : Int} (e1 : al = en + r) (hr : r.toInt = 0) (ha : 0 < al.toInt) (e2 : t = s0 - s0 / al * al) (hs : zI s0 l h) (c : 0 ≤ l) (e3 : rest = t - en) : rest.toInt < 0 := by
  have h0 : r = 0 := by rw [fa_eq, zi_00]; exact hr
  have h1 : en = al := by rw [e1, h0, Int32.add_zero]
  have h2 := zI_remv hs c ha e2
  have h3 := Int.emod_nonneg s0.toInt (b := al.toInt) (by omega)
  have h4 := Int.emod_lt_of_pos s0.toInt (b := al.toInt) ha
  have h5 := (zI_all al).2
  have h6 : rest.toInt = t.toInt - en.toInt := by rw [e3, Int32.toInt_sub]; exact zi_bmod (by rw [h1]; omega)
  rw [h6, h1]
  omega
theorem z_dec32 {a b c : Int32} {k : Nat} (eb : b = a - 1) (ec : c = a &&& b) (h : a.toInt ≠ 0) (hm : a.toBitVec.toNat < k + 1) : c.toBitVec.toNat < k := by
  have h0 : a.toBitVec.toNat ≠ 0 := by
    intro hh
    apply h
    have : a = 0 := by
      apply Int32.toBitVec_inj.mp
      apply BitVec.eq_of_toNat_eq
      rw [hh]; rfl
    rw [this]; decide +kernel
  have h1 : b.toBitVec.toNat = a.toBitVec.toNat - 1 := by
    rw [eb, Int32.toBitVec_sub, BitVec.toNat_sub]
    have h2 := a.toBitVec.isLt
    have h3 : (1 : Int32).toBitVec.toNat = 1 := by decide +kernel
    rw [h3]
    omega
  have h2 : c.toBitVec.toNat ≤ b.toBitVec.toNat := by
    rw [ec, Int32.toBitVec_and, BitVec.toNat_and]
    exact Nat.and_le_right
  omega
