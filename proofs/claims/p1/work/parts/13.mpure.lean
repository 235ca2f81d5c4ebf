theorem z_lowA : ((List.range 1024).all (fun i => decide (i = 0 ∨ (List.range 10).any (fun t => decide (¬ (nI i >>> (nI t &&& 31)) &&& 1 = 0)) = true))) = true := by decide +kernel
/-- the lowest bit of a number below 1024 -/
theorem z_low (i : Nat) (h : i < 1024) (h1 : 1 ≤ i) : ∃ T : Nat, T < 10 ∧ (¬ (nI i >>> (nI T &&& 31)) &&& 1 = 0) ∧ ∀ t, t < T → (nI i >>> (nI t &&& 31)) &&& 1 = 0 := by
  have h2 := co_dec (P := fun i => i = 0 ∨ (List.range 10).any (fun t => decide (¬ (nI i >>> (nI t &&& 31)) &&& 1 = 0)) = true) z_lowA h
  rcases h2 with h2 | h2
  · omega
  · obtain ⟨t, ht, hp⟩ := List.any_eq_true.mp h2
    have hp := of_decide_eq_true hp
    obtain ⟨T, hT, hl⟩ := pk_least (fun t => ¬ (nI i >>> (nI t &&& 31)) &&& 1 = 0) ⟨t, hp⟩
    have ht := List.mem_range.mp ht
    exact ⟨T, Nat.lt_of_not_le (fun hge => hl t (by omega) hp), hT, fun j hj => Classical.not_not.mp (hl j hj)⟩
theorem z_restA : ((List.range 1024).all (fun i => decide (i = 0 ∨ ((nI i &&& (nI i - 1)).toNatClampNeg < 1024 ∧ nI i &&& (nI i - 1) = nI (nI i &&& (nI i - 1)).toNatClampNeg)))) = true := by decide +kernel
theorem z_rest (i : Nat) (h : i < 1024) (h1 : 1 ≤ i) : ∃ r : Nat, r < 1024 ∧ nI i &&& (nI i - 1) = nI r := by
  have h2 := co_dec (P := fun i => i = 0 ∨ ((nI i &&& (nI i - 1)).toNatClampNeg < 1024 ∧ nI i &&& (nI i - 1) = nI (nI i &&& (nI i - 1)).toNatClampNeg)) z_restA h
  rcases h2 with h2 | h2
  · omega
  · exact ⟨_, h2.1, h2.2⟩
