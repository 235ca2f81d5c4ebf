/-! RULES of two LETTERS over one TRACE: g its LETTERS, N how many -/
def zcn (g : Nat → Int32) (x : Int32) : Nat → Int
  | 0 => 0
  | m + 1 => zcn g x m + (if g m = x then 1 else 0)
def zfs (g : Nat → Int32) (x : Int32) : Nat → Int
  | 0 => -1
  | m + 1 => if zfs g x m = -1 ∧ g m = x then (m : Int) else zfs g x m
def zls (g : Nat → Int32) (x : Int32) : Nat → Int
  | 0 => -1
  | m + 1 => if g m = x then (m : Int) else zls g x m
def zrb (g : Nat → Int32) (N : Nat) (x y : Int32) : Nat → Int
  | 0 => 1
  | m + 1 => if g m = x ∧ ¬ (m + 1 < N ∧ g (m + 1) = y) then 0 else zrb g N x y m
def zit (g : Nat → Int32) (x y : Int32) : Nat → Int
  | 0 => 1
  | m + 1 => if (g m = x ∧ zcn g x m ≠ zcn g y m) ∨ (g m ≠ x ∧ g m = y ∧ zcn g x m ≠ zcn g y m + 1) then 0 else zit g x y m
def zAk (k : Int) (g : Nat → Int32) (N : Nat) (x y : Int32) : Int := if k = 1 then (if 0 < zcn g y N then 1 else 0) else if k ≤ 3 then (if 0 < zcn g x N then 1 else 0) else (if 0 < zcn g x N ∨ 0 < zcn g y N then 1 else 0)
def zSo (k : Int) (g : Nat → Int32) (N : Nat) (x y : Int32) : Int := if k = 0 then (if zls g x N < zls g y N then 1 else 0) else if k = 1 then (if 0 < zcn g x N ∧ zfs g x N < zfs g y N then 1 else 0) else if k = 2 then (if zls g y N < zfs g x N then 1 else 0) else if k = 3 then zrb g N x y N else if k = 4 then (if zcn g x N = zcn g y N then 1 else 0) else (if zit g x y N = 1 ∧ zcn g x N = zcn g y N then 1 else 0)
/-- of how many of T TRACES a RULE is ASKED (s = 0), so of them (s = 1); F: LETTERS, twelve a TRACE, from o on; L: how many, from l on -/
def zas (k : Int) (F : Nat → Int32) (o : Nat) (L : Nat → Int32) (l : Nat) (x y : Int32) (s : Int) : Nat → Int
  | 0 => 0
  | t + 1 => zas k F o L l x y s t + (if zAk k (fun i => F (o + (12 * t + i))) (L (l + t)).toInt.toNat x y = 1 ∧ (s = 0 ∨ zSo k (fun i => F (o + (12 * t + i))) (L (l + t)).toInt.toNat x y = 1) then 1 else 0)
section
variable {g g' : Nat → Int32} {x y : Int32}
theorem zcn_b (m : Nat) : 0 ≤ zcn g x m ∧ zcn g x m ≤ (m : Int) := by
  induction m with
  | zero => exact ⟨Int.le_refl _, Int.le_refl _⟩
  | succ m ih =>
    show 0 ≤ zcn g x m + (if g m = x then 1 else 0) ∧ zcn g x m + (if g m = x then 1 else 0) ≤ _
    split <;> omega
theorem zcn_cg {m9 : Nat} (h : ∀ i : Nat, i < m9 → g i = g' i) (m : Nat) (hm : m ≤ m9) : zcn g x m = zcn g' x m := by
  induction m with
  | zero => rfl
  | succ m ih =>
    show zcn g x m + _ = zcn g' x m + _
    rw [ih (by omega), h m (by omega)]
theorem zfs_cg {m9 : Nat} (h : ∀ i : Nat, i < m9 → g i = g' i) (m : Nat) (hm : m ≤ m9) : zfs g x m = zfs g' x m := by
  induction m with
  | zero => rfl
  | succ m ih =>
    show (if zfs g x m = -1 ∧ g m = x then (m : Int) else zfs g x m) = (if zfs g' x m = -1 ∧ g' m = x then (m : Int) else zfs g' x m)
    rw [ih (by omega), h m (by omega)]
theorem zls_cg {m9 : Nat} (h : ∀ i : Nat, i < m9 → g i = g' i) (m : Nat) (hm : m ≤ m9) : zls g x m = zls g' x m := by
  induction m with
  | zero => rfl
  | succ m ih =>
    show (if g m = x then (m : Int) else zls g x m) = (if g' m = x then (m : Int) else zls g' x m)
    rw [ih (by omega), h m (by omega)]
theorem zrb_cg {N : Nat} (h : ∀ i : Nat, i < N → g i = g' i) (m : Nat) (hm : m ≤ N) : zrb g N x y m = zrb g' N x y m := by
  induction m with
  | zero => rfl
  | succ m ih =>
    show (if g m = x ∧ ¬ (m + 1 < N ∧ g (m + 1) = y) then 0 else zrb g N x y m) = (if g' m = x ∧ ¬ (m + 1 < N ∧ g' (m + 1) = y) then 0 else zrb g' N x y m)
    rw [ih (by omega), h m (by omega)]
    by_cases c9 : m + 1 < N
    · rw [h (m + 1) c9]
    · have e1 : ¬ (m + 1 < N ∧ g (m + 1) = y) := fun q => c9 q.1
      have e2 : ¬ (m + 1 < N ∧ g' (m + 1) = y) := fun q => c9 q.1
      by_cases c8 : g' m = x
      · rw [if_pos ⟨c8, e1⟩, if_pos ⟨c8, e2⟩]
      · rw [if_neg (fun q => c8 q.1), if_neg (fun q => c8 q.1)]
theorem zit_cg {N : Nat} (h : ∀ i : Nat, i < N → g i = g' i) (m : Nat) (hm : m ≤ N) : zit g x y m = zit g' x y m := by
  induction m with
  | zero => rfl
  | succ m ih =>
    show (if (g m = x ∧ zcn g x m ≠ zcn g y m) ∨ (g m ≠ x ∧ g m = y ∧ zcn g x m ≠ zcn g y m + 1) then 0 else zit g x y m) = (if (g' m = x ∧ zcn g' x m ≠ zcn g' y m) ∨ (g' m ≠ x ∧ g' m = y ∧ zcn g' x m ≠ zcn g' y m + 1) then 0 else zit g' x y m)
    rw [ih (by omega), h m (by omega), zcn_cg h m (by omega), zcn_cg (x := y) h m (by omega)]
theorem zAk_cg {N : Nat} {k : Int} (h : ∀ i : Nat, i < N → g i = g' i) : zAk k g N x y = zAk k g' N x y := by
  unfold zAk
  rw [zcn_cg (x := x) h N (Nat.le_refl _), zcn_cg (x := y) h N (Nat.le_refl _)]
theorem zSo_cg {N : Nat} {k : Int} (h : ∀ i : Nat, i < N → g i = g' i) : zSo k g N x y = zSo k g' N x y := by
  unfold zSo
  rw [zcn_cg (x := x) h N (Nat.le_refl _), zcn_cg (x := y) h N (Nat.le_refl _), zls_cg (x := x) h N (Nat.le_refl _), zls_cg (x := y) h N (Nat.le_refl _), zfs_cg (x := x) h N (Nat.le_refl _), zfs_cg (x := y) h N (Nat.le_refl _), zrb_cg h N (Nat.le_refl _), zit_cg h N (Nat.le_refl _)]
theorem zas_cg {k s : Int} {F L F' L' : Nat → Int32} {o l o' l' : Nat} {T : Nat} (h : ∀ t : Nat, t < T → L (l + t) = L' (l' + t) ∧ ∀ i : Nat, (i : Int) < (L (l + t)).toInt → F (o + (12 * t + i)) = F' (o' + (12 * t + i))) : zas k F o L l x y s T = zas k F' o' L' l' x y s T := by
  induction T with
  | zero => rfl
  | succ T ih =>
    obtain ⟨a, b⟩ := h T (by omega)
    have hg : ∀ i : Nat, i < (L (l + T)).toInt.toNat → (fun i => F (o + (12 * T + i))) i = (fun i => F' (o' + (12 * T + i))) i := fun i hi => b i (by omega)
    show zas k F o L l x y s T + (if zAk k (fun i => F (o + (12 * T + i))) (L (l + T)).toInt.toNat x y = 1 ∧ (s = 0 ∨ zSo k (fun i => F (o + (12 * T + i))) (L (l + T)).toInt.toNat x y = 1) then 1 else 0) = zas k F' o' L' l' x y s T + (if zAk k (fun i => F' (o' + (12 * T + i))) (L' (l' + T)).toInt.toNat x y = 1 ∧ (s = 0 ∨ zSo k (fun i => F' (o' + (12 * T + i))) (L' (l' + T)).toInt.toNat x y = 1) then 1 else 0)
    rw [ih (fun t ht => h t (by omega)), zAk_cg hg, zSo_cg hg, a]
/-! the reference's first, last -/
theorem zfs_no (m : Nat) (h : ∀ i : Nat, i < m → g i ≠ x) : zfs g x m = -1 := by
  induction m with
  | zero => rfl
  | succ m ih =>
    show (if zfs g x m = -1 ∧ g m = x then (m : Int) else zfs g x m) = -1
    rw [if_neg (fun q => h m (by omega) q.2)]
    exact ih (fun i hi => h i (by omega))
theorem zfs_at {i : Nat} (h : ∀ j : Nat, j < i → g j ≠ x) (hi : g i = x) (m : Nat) (hm : i < m) : zfs g x m = (i : Int) := by
  induction m with
  | zero => omega
  | succ m ih =>
    show (if zfs g x m = -1 ∧ g m = x then (m : Int) else zfs g x m) = _
    by_cases c9 : m = i
    · subst c9
      rw [if_pos ⟨zfs_no m h, hi⟩]
    · have e9 := ih (by omega)
      rw [if_neg (by omega), e9]
theorem zls_no (m : Nat) (h : ∀ i : Nat, i < m → g i ≠ x) : zls g x m = -1 := by
  induction m with
  | zero => rfl
  | succ m ih =>
    show (if g m = x then (m : Int) else zls g x m) = -1
    rw [if_neg (h m (by omega))]
    exact ih (fun i hi => h i (by omega))
theorem zls_at {i : Nat} (hi : g i = x) (m : Nat) (hm : i < m) (h : ∀ j : Nat, i < j → j < m → g j ≠ x) : zls g x m = (i : Int) := by
  induction m with
  | zero => omega
  | succ m ih =>
    show (if g m = x then (m : Int) else zls g x m) = _
    by_cases c9 : m = i
    · subst c9
      rw [if_pos hi]
    · rw [if_neg (h m (by omega) (by omega))]
      exact ih (by omega) (fun j h1 h2 => h j h1 (by omega))
theorem zcn_no (m : Nat) (h : ∀ i : Nat, i < m → g i ≠ x) : zcn g x m = 0 := by
  induction m with
  | zero => rfl
  | succ m ih =>
    show zcn g x m + (if g m = x then 1 else 0) = 0
    rw [if_neg (h m (by omega)), ih (fun i hi => h i (by omega))]
    rfl
theorem zcn_p {i : Nat} (hi : g i = x) (m : Nat) (hm : i < m) : 0 < zcn g x m := by
  induction m with
  | zero => omega
  | succ m ih =>
    show 0 < zcn g x m + (if g m = x then 1 else 0)
    have b9 := zcn_b (g := g) (x := x) m
    by_cases c9 : m = i
    · subst c9
      rw [if_pos hi]
      omega
    · have := ih (by omega)
      split <;> omega
end
/-! the class's look at a TRACE -/
def zLk (cx cy fx lx fy ly rb it : Int) (g : Nat → Int32) (N : Nat) (x y : Int32) (m : Nat) : Prop := (cx = zcn g x m ∧ cy = zcn g y m) ∧ (fx = zfs g x m ∧ lx = zls g x m) ∧ (fy = zfs g y m ∧ ly = zls g y m) ∧ rb = zrb g N x y m ∧ it = zit g x y m
section
variable {g : Nat → Int32} {N m m' : Nat} {x y a i cx cy fx lx fy ly rb it cx1 cy1 fx1 lx1 fy1 ly1 rb1 it1 : Int32}
theorem zLk_0 (h0 : cx.toInt = 0 ∧ cy.toInt = 0) (h1 : fx.toInt = -1 ∧ lx.toInt = -1 ∧ fy.toInt = -1 ∧ ly.toInt = -1) (h2 : rb.toInt = 1 ∧ it.toInt = 1) (hm : m = 0) : zLk cx.toInt cy.toInt fx.toInt lx.toInt fy.toInt ly.toInt rb.toInt it.toInt g N x y m := by
  subst hm
  exact ⟨h0, ⟨h1.1, h1.2.1⟩, ⟨h1.2.2.1, h1.2.2.2⟩, h2⟩
theorem zfs_c (m : Nat) : zcn g x m = 0 ∧ zfs g x m = -1 ∨ 0 < zcn g x m ∧ 0 ≤ zfs g x m := by
  induction m with
  | zero => exact Or.inl ⟨rfl, rfl⟩
  | succ m ih =>
    show zcn g x m + (if g m = x then 1 else 0) = 0 ∧ (if zfs g x m = -1 ∧ g m = x then (m : Int) else zfs g x m) = -1 ∨ 0 < zcn g x m + (if g m = x then 1 else 0) ∧ 0 ≤ (if zfs g x m = -1 ∧ g m = x then (m : Int) else zfs g x m)
    by_cases c9 : g m = x
    · rw [if_pos c9]
      rcases ih with ⟨h1, h2⟩ | ⟨h1, h2⟩
      · rw [if_pos ⟨h2, c9⟩]
        exact Or.inr ⟨by omega, by omega⟩
      · rw [if_neg (fun q => by omega)]
        exact Or.inr ⟨by omega, h2⟩
    · rw [if_neg c9, if_neg (fun q => c9 q.2)]
      rcases ih with ⟨h1, h2⟩ | ⟨h1, h2⟩
      · exact Or.inl ⟨by omega, h2⟩
      · exact Or.inr ⟨by omega, h2⟩
theorem zI1_add {u v : Int32} (e : v = u + 1) (h : 0 ≤ u.toInt ∧ u.toInt ≤ 1000) : v.toInt = u.toInt + 1 := by
  have h1 : (1 : Int32).toInt = 1 := by decide +kernel
  rw [e, Int32.toInt_add, h1]
  exact zi_bmod (by omega)
theorem zLk_x (h : zLk cx.toInt cy.toInt fx.toInt lx.toInt fy.toInt ly.toInt rb.toInt it.toInt g N x y m) (hm : m ≤ 12) (hg : g m = x) (hne : ¬ x = y) (e1 : cx1 = cx + 1) (e2 : cx.toInt = 0 → fx1 = i) (e3 : ¬ cx.toInt = 0 → fx1 = fx) (e4 : cx.toInt = cy.toInt → it1 = it) (e5 : ¬ cx.toInt = cy.toInt → it1.toInt = 0) (hi : i.toInt = (m : Int))
    (e6 : (m + 1 < N ∧ g (m + 1) = y) ∧ rb1 = rb ∨ ¬ (m + 1 < N ∧ g (m + 1) = y) ∧ rb1.toInt = 0) (hm' : m' = m + 1) : zLk cx1.toInt cy.toInt fx1.toInt i.toInt fy.toInt ly.toInt rb1.toInt it1.toInt g N x y m' := by
  subst hm'
  obtain ⟨⟨h1, h2⟩, ⟨h3, h4⟩, ⟨h5, h6⟩, h7, h8⟩ := h
  have b9 := zcn_b (g := g) (x := x) m
  have hy : ¬ g m = y := fun q => hne (hg.symm.trans q)
  have q1 := zI1_add e1 (by omega)
  have q0 := zfs_c (g := g) (x := x) m
  refine ⟨⟨?_, ?_⟩, ⟨?_, ?_⟩, ⟨?_, ?_⟩, ?_, ?_⟩
  · show cx1.toInt = zcn g x m + (if g m = x then 1 else 0)
    rw [if_pos hg]
    omega
  · show cy.toInt = zcn g y m + (if g m = y then 1 else 0)
    rw [if_neg hy]
    omega
  · show fx1.toInt = (if zfs g x m = -1 ∧ g m = x then (m : Int) else zfs g x m)
    by_cases c9 : cx.toInt = 0
    · rw [if_pos ⟨by omega, hg⟩, e2 c9, hi]
    · rw [if_neg (fun q => by omega), e3 c9, h3]
  · show i.toInt = (if g m = x then (m : Int) else zls g x m)
    rw [if_pos hg, hi]
  · show fy.toInt = (if zfs g y m = -1 ∧ g m = y then (m : Int) else zfs g y m)
    rw [if_neg (fun q => hy q.2), h5]
  · show ly.toInt = (if g m = y then (m : Int) else zls g y m)
    rw [if_neg hy, h6]
  · show rb1.toInt = (if g m = x ∧ ¬ (m + 1 < N ∧ g (m + 1) = y) then 0 else zrb g N x y m)
    rcases e6 with ⟨c9, e6⟩ | ⟨c9, e6⟩
    · rw [if_neg (fun q => q.2 c9), e6, h7]
    · rw [if_pos ⟨hg, c9⟩, e6]
  · show it1.toInt = (if (g m = x ∧ zcn g x m ≠ zcn g y m) ∨ (g m ≠ x ∧ g m = y ∧ zcn g x m ≠ zcn g y m + 1) then 0 else zit g x y m)
    by_cases c9 : cx.toInt = cy.toInt
    · rw [if_neg (fun q => by rcases q with q | q; exact q.2 (by omega); exact q.1 hg), e4 c9, h8]
    · rw [if_pos (Or.inl ⟨hg, fun q => c9 (by omega)⟩), e5 c9]
theorem zLk_y (h : zLk cx.toInt cy.toInt fx.toInt lx.toInt fy.toInt ly.toInt rb.toInt it.toInt g N x y m) (hm : m ≤ 12) (hx : ¬ g m = x) (hg : g m = y) (e1 : cy1 = cy + 1) (e2 : cy.toInt = 0 → fy1 = i) (e3 : ¬ cy.toInt = 0 → fy1 = fy) (e4 : cx = cy + 1 → it1 = it) (e5 : ¬ cx = cy + 1 → it1.toInt = 0) (hi : i.toInt = (m : Int)) (hm' : m' = m + 1) :
    zLk cx.toInt cy1.toInt fx.toInt lx.toInt fy1.toInt i.toInt rb.toInt it1.toInt g N x y m' := by
  subst hm'
  obtain ⟨⟨h1, h2⟩, ⟨h3, h4⟩, ⟨h5, h6⟩, h7, h8⟩ := h
  have b9 := zcn_b (g := g) (x := y) m
  have q1 := zI1_add e1 (by omega)
  have q2 := zI1_add (v := cy + 1) rfl (u := cy) (by omega)
  have q0 := zfs_c (g := g) (x := y) m
  refine ⟨⟨?_, ?_⟩, ⟨?_, ?_⟩, ⟨?_, ?_⟩, ?_, ?_⟩
  · show cx.toInt = zcn g x m + (if g m = x then 1 else 0)
    rw [if_neg hx]
    omega
  · show cy1.toInt = zcn g y m + (if g m = y then 1 else 0)
    rw [if_pos hg]
    omega
  · show fx.toInt = (if zfs g x m = -1 ∧ g m = x then (m : Int) else zfs g x m)
    rw [if_neg (fun q => hx q.2), h3]
  · show lx.toInt = (if g m = x then (m : Int) else zls g x m)
    rw [if_neg hx, h4]
  · show fy1.toInt = (if zfs g y m = -1 ∧ g m = y then (m : Int) else zfs g y m)
    by_cases c9 : cy.toInt = 0
    · rw [if_pos ⟨by omega, hg⟩, e2 c9, hi]
    · rw [if_neg (fun q => by omega), e3 c9, h5]
  · show i.toInt = (if g m = y then (m : Int) else zls g y m)
    rw [if_pos hg, hi]
  · show rb.toInt = (if g m = x ∧ ¬ (m + 1 < N ∧ g (m + 1) = y) then 0 else zrb g N x y m)
    rw [if_neg (fun q => hx q.1), h7]
  · show it1.toInt = (if (g m = x ∧ zcn g x m ≠ zcn g y m) ∨ (g m ≠ x ∧ g m = y ∧ zcn g x m ≠ zcn g y m + 1) then 0 else zit g x y m)
    by_cases c9 : cx = cy + 1
    · have c8 := congrArg Int32.toInt c9
      rw [if_neg (fun q => by rcases q with q | q; exact hx q.1; exact q.2.2 (by omega)), e4 c9, h8]
    · have c8 : ¬ cx.toInt = cy.toInt + 1 := fun q => c9 ((fa_eq _ _).mpr (by omega))
      rw [if_pos (Or.inr ⟨hx, hg, fun q => c8 (by omega)⟩), e5 c9]
theorem zLk_n (h : zLk cx.toInt cy.toInt fx.toInt lx.toInt fy.toInt ly.toInt rb.toInt it.toInt g N x y m) (hx : ¬ g m = x) (hy : ¬ g m = y) (hm' : m' = m + 1) : zLk cx.toInt cy.toInt fx.toInt lx.toInt fy.toInt ly.toInt rb.toInt it.toInt g N x y m' := by
  subst hm'
  obtain ⟨⟨h1, h2⟩, ⟨h3, h4⟩, ⟨h5, h6⟩, h7, h8⟩ := h
  refine ⟨⟨?_, ?_⟩, ⟨?_, ?_⟩, ⟨?_, ?_⟩, ?_, ?_⟩
  · show cx.toInt = zcn g x m + (if g m = x then 1 else 0)
    rw [if_neg hx]
    omega
  · show cy.toInt = zcn g y m + (if g m = y then 1 else 0)
    rw [if_neg hy]
    omega
  · show fx.toInt = (if zfs g x m = -1 ∧ g m = x then (m : Int) else zfs g x m)
    rw [if_neg (fun q => hx q.2), h3]
  · show lx.toInt = (if g m = x then (m : Int) else zls g x m)
    rw [if_neg hx, h4]
  · show fy.toInt = (if zfs g y m = -1 ∧ g m = y then (m : Int) else zfs g y m)
    rw [if_neg (fun q => hy q.2), h5]
  · show ly.toInt = (if g m = y then (m : Int) else zls g y m)
    rw [if_neg hy, h6]
  · show rb.toInt = (if g m = x ∧ ¬ (m + 1 < N ∧ g (m + 1) = y) then 0 else zrb g N x y m)
    rw [if_neg (fun q => hx q.1), h7]
  · show it.toInt = (if (g m = x ∧ zcn g x m ≠ zcn g y m) ∨ (g m ≠ x ∧ g m = y ∧ zcn g x m ≠ zcn g y m + 1) then 0 else zit g x y m)
    rw [if_neg (fun q => by rcases q with q | q; exact hx q.1; exact hy q.2.1), h8]
end
/-- what a look leaves -/
def zLf (cx cy fx lx fy ly rb it : Int) (g : Nat → Int32) (N : Nat) (x y : Int32) : Prop := (cx = zcn g x N ∧ cy = zcn g y N) ∧ (fx = zfs g x N ∧ lx = zls g x N) ∧ (fy = zfs g y N ∧ ly = zls g y N) ∧ rb = zrb g N x y N ∧ it = (if zit g x y N = 1 ∧ zcn g x N = zcn g y N then 1 else 0)
theorem zLf_mk {cx cy fx lx fy ly rb it it1 : Int} {g : Nat → Int32} {N m : Nat} {x y : Int32} (h : zLk cx cy fx lx fy ly rb it g N x y m) (hm : m = N) (h1 : 0 ≤ it ∧ it ≤ 1) (e : cx = cy ∧ it1 = it ∨ ¬ cx = cy ∧ it1 = 0) : zLf cx cy fx lx fy ly rb it1 g N x y := by
  subst hm
  obtain ⟨h2, h3, h4, h5, h6⟩ := h
  refine ⟨h2, h3, h4, h5, ?_⟩
  rcases e with ⟨e1, e2⟩ | ⟨e1, e2⟩
  · by_cases c9 : it = 1
    · rw [if_pos ⟨by omega, by omega⟩, e2, c9]
    · rw [if_neg (fun q => c9 (by omega)), e2]
      omega
  · rw [if_neg (fun q => e1 (by omega)), e2]
theorem zrb_01 {g : Nat → Int32} {N : Nat} {x y : Int32} (m : Nat) : zrb g N x y m = 0 ∨ zrb g N x y m = 1 := by
  induction m with
  | zero => exact Or.inr rfl
  | succ m ih =>
    show (if g m = x ∧ ¬ (m + 1 < N ∧ g (m + 1) = y) then 0 else zrb g N x y m) = 0 ∨ (if g m = x ∧ ¬ (m + 1 < N ∧ g (m + 1) = y) then 0 else zrb g N x y m) = 1
    split
    · exact Or.inl rfl
    · exact ih
/-- asked of a TRACE, so of it: by what a look left -/
def zIa (k cx cy : Int) : Int := if k = 1 then (if 0 < cy then 1 else 0) else if k ≤ 3 then (if 0 < cx then 1 else 0) else (if 0 < cx ∨ 0 < cy then 1 else 0)
def zIs (k cx cy fx lx fy ly rb it : Int) : Int := if k = 0 then (if lx < ly then 1 else 0) else if k = 1 then (if 0 < cx ∧ fx < fy then 1 else 0) else if k = 2 then (if ly < fx then 1 else 0) else if k = 3 then rb else if k = 4 then (if cx = cy then 1 else 0) else it
theorem zLf_a {k cx cy fx lx fy ly rb it : Int} {g : Nat → Int32} {N : Nat} {x y : Int32} (h : zLf cx cy fx lx fy ly rb it g N x y) : zIa k cx cy = zAk k g N x y ∧ zIs k cx cy fx lx fy ly rb it = zSo k g N x y := by
  obtain ⟨⟨rfl, rfl⟩, ⟨rfl, rfl⟩, ⟨rfl, rfl⟩, rfl, rfl⟩ := h
  exact ⟨rfl, rfl⟩
theorem zas_b (k : Int) (F : Nat → Int32) (o : Nat) (L : Nat → Int32) (l : Nat) (x y : Int32) (s : Int) (T : Nat) : 0 ≤ zas k F o L l x y s T ∧ zas k F o L l x y s T ≤ (T : Int) := by
  induction T with
  | zero => exact ⟨Int.le_refl _, Int.le_refl _⟩
  | succ T ih =>
    show 0 ≤ zas k F o L l x y s T + (if _ then 1 else 0) ∧ zas k F o L l x y s T + (if _ then 1 else 0) ≤ _
    split <;> omega
theorem zas_s {k : Int} {F L : Nat → Int32} {o l t t' : Nat} {x y as as' so so' : Int32} {ra rs : Int} (i1 : as.toInt = zas k F o L l x y 0 t) (i2 : so.toInt = zas k F o L l x y 1 t) (ht : t ≤ 100) (ha : ra = zAk k (fun i => F (o + (12 * t + i))) (L (l + t)).toInt.toNat x y)
    (e : (¬ ra = 1 ∧ as' = as ∧ so' = so) ∨ (ra = 1 ∧ as' = as + 1 ∧ rs = zSo k (fun i => F (o + (12 * t + i))) (L (l + t)).toInt.toNat x y ∧ ¬ rs = 1 ∧ so' = so) ∨ (ra = 1 ∧ as' = as + 1 ∧ rs = zSo k (fun i => F (o + (12 * t + i))) (L (l + t)).toInt.toNat x y ∧ rs = 1 ∧ so' = so + 1)) (ht' : t' = t + 1) :
    as'.toInt = zas k F o L l x y 0 t' ∧ so'.toInt = zas k F o L l x y 1 t' := by
  subst ht' ha
  have b1 := zas_b k F o L l x y 0 t
  have b2 := zas_b k F o L l x y 1 t
  show as'.toInt = zas k F o L l x y 0 t + (if zAk k (fun i => F (o + (12 * t + i))) (L (l + t)).toInt.toNat x y = 1 ∧ ((0 : Int) = 0 ∨ zSo k (fun i => F (o + (12 * t + i))) (L (l + t)).toInt.toNat x y = 1) then 1 else 0) ∧ so'.toInt = zas k F o L l x y 1 t + (if zAk k (fun i => F (o + (12 * t + i))) (L (l + t)).toInt.toNat x y = 1 ∧ ((1 : Int) = 0 ∨ zSo k (fun i => F (o + (12 * t + i))) (L (l + t)).toInt.toNat x y = 1) then 1 else 0)
  rcases e with ⟨e1, rfl, rfl⟩ | ⟨e1, e2, e3, e4, rfl⟩ | ⟨e1, e2, e3, e4, e5⟩
  · rw [if_neg (fun q => e1 q.1), if_neg (fun q => e1 q.1)]
    omega
  · subst e3
    have q1 := zI1_add e2 (by omega)
    rw [if_pos ⟨e1, Or.inl rfl⟩, if_neg (fun q => q.2.elim (by decide) e4)]
    omega
  · subst e3
    have q1 := zI1_add e2 (by omega)
    have q2 := zI1_add e5 (by omega)
    rw [if_pos ⟨e1, Or.inl rfl⟩, if_pos ⟨e1, Or.inr e4⟩]
    omega
/-! the reference's looks -/
section
variable {g : Nat → Int32} {N m m' : Nat} {x y so so' u v due due' : Int32}
theorem zhl_s (h : so.toInt = if 0 < zcn g x m then 1 else 0) (e : (so.toInt = 1 ∧ so'.toInt = 1) ∨ (g m = x ∧ so'.toInt = 1) ∨ (¬ so.toInt = 1 ∧ ¬ g m = x ∧ so'.toInt = 0)) (hm' : m' = m + 1) : so'.toInt = if 0 < zcn g x m' then 1 else 0 := by
  subst hm'
  have b9 := zcn_b (g := g) (x := x) m
  show so'.toInt = if 0 < zcn g x m + (if g m = x then 1 else 0) then 1 else 0
  rcases e with ⟨e1, e2⟩ | ⟨e1, e2⟩ | ⟨e1, e2, e3⟩
  · by_cases c9 : 0 < zcn g x m
    · rw [if_pos (by split <;> omega), e2]
    · rw [if_neg c9] at h
      omega
  · rw [if_pos e1, if_pos (by omega), e2]
  · rw [if_neg e2]
    by_cases c9 : 0 < zcn g x m
    · rw [if_pos c9] at h
      omega
    · rw [if_neg (by omega), e3]
theorem zcn_s (h : u.toInt = zcn g x m) (hm : m ≤ 12) (e : (g m = x ∧ v = u + 1) ∨ (¬ g m = x ∧ v = u + 0)) (hm' : m' = m + 1) : v.toInt = zcn g x m' := by
  subst hm'
  have b9 := zcn_b (g := g) (x := x) m
  show v.toInt = zcn g x m + (if g m = x then 1 else 0)
  rcases e with ⟨e1, e2⟩ | ⟨e1, e2⟩
  · rw [if_pos e1, zI1_add e2 (by omega), h]
  · rw [if_neg e1, e2, Int32.add_zero, h]
    omega
theorem zrb_s (h : so.toInt = zrb g N x y m) (e : (so.toInt = 0 ∧ so'.toInt = 0) ∨ (¬ so.toInt = 0 ∧ ¬ g m = x ∧ so'.toInt = 1) ∨ (¬ so.toInt = 0 ∧ (m + 1 < N ∧ g (m + 1) = y) ∧ so'.toInt = 1) ∨ (g m = x ∧ ¬ (m + 1 < N ∧ g (m + 1) = y) ∧ so'.toInt = 0)) (hm' : m' = m + 1) : so'.toInt = zrb g N x y m' := by
  subst hm'
  have b9 := zrb_01 (g := g) (N := N) (x := x) (y := y) m
  show so'.toInt = if g m = x ∧ ¬ (m + 1 < N ∧ g (m + 1) = y) then 0 else zrb g N x y m
  rcases e with ⟨e1, e2⟩ | ⟨e1, e2, e3⟩ | ⟨e1, e2, e3⟩ | ⟨e1, e2, e3⟩
  · split <;> omega
  · rw [if_neg (fun q => e2 q.1)]
    omega
  · rw [if_neg (fun q => q.2 e2)]
    omega
  · rw [if_pos ⟨e1, e2⟩, e3]
theorem zit_01 (m : Nat) : zit g x y m = 0 ∨ zit g x y m = 1 := by
  induction m with
  | zero => exact Or.inr rfl
  | succ m ih =>
    show (if (g m = x ∧ zcn g x m ≠ zcn g y m) ∨ (g m ≠ x ∧ g m = y ∧ zcn g x m ≠ zcn g y m + 1) then 0 else zit g x y m) = 0 ∨ (if (g m = x ∧ zcn g x m ≠ zcn g y m) ∨ (g m ≠ x ∧ g m = y ∧ zcn g x m ≠ zcn g y m + 1) then 0 else zit g x y m) = 1
    split
    · exact Or.inl rfl
    · exact ih
/-- LETTERS in turn, and which is due -/
def zTu (so : Int) (due : Int32) (g : Nat → Int32) (x y : Int32) (m : Nat) : Prop := so = zit g x y m ∧ (so = 1 → (due = x ∧ zcn g x m = zcn g y m) ∨ (due = y ∧ zcn g x m = zcn g y m + 1))
theorem zTu_n (h : zTu so.toInt due g x y m) (hx : ¬ g m = x) (hy : ¬ g m = y) (hm' : m' = m + 1) : zTu so.toInt due g x y m' := by
  subst hm'
  obtain ⟨h1, h2⟩ := h
  have ex : zcn g x (m + 1) = zcn g x m := by show zcn g x m + (if g m = x then 1 else 0) = _; rw [if_neg hx]; omega
  have ey : zcn g y (m + 1) = zcn g y m := by show zcn g y m + (if g m = y then 1 else 0) = _; rw [if_neg hy]; omega
  refine ⟨?_, fun q => ?_⟩
  · show so.toInt = if (g m = x ∧ zcn g x m ≠ zcn g y m) ∨ (g m ≠ x ∧ g m = y ∧ zcn g x m ≠ zcn g y m + 1) then 0 else zit g x y m
    rw [if_neg (fun q => by rcases q with q | q; exact hx q.1; exact hy q.2.1), h1]
  · rw [ex, ey]
    exact h2 q
theorem zTu_x (h : zTu so.toInt due g x y m) (hne : ¬ x = y) (hg : g m = x) (e : ((so.toInt = 1 ∧ due = x) ∧ so'.toInt = 1) ∨ (¬ (so.toInt = 1 ∧ due = x) ∧ so'.toInt = 0)) (hd : due' = y) (hm' : m' = m + 1) : zTu so'.toInt due' g x y m' := by
  have hd9 := hd.symm
  subst hm' hd9
  obtain ⟨h1, h2⟩ := h
  have hy : ¬ g m = y := fun q => hne (hg.symm.trans q)
  have ex : zcn g x (m + 1) = zcn g x m + 1 := by show zcn g x m + (if g m = x then 1 else 0) = _; rw [if_pos hg]
  have ey : zcn g y (m + 1) = zcn g y m := by show zcn g y m + (if g m = y then 1 else 0) = _; rw [if_neg hy]; omega
  have b9 := zit_01 (g := g) (x := x) (y := y) m
  have ei : zit g x y (m + 1) = if (g m = x ∧ zcn g x m ≠ zcn g y m) ∨ (g m ≠ x ∧ g m = y ∧ zcn g x m ≠ zcn g y m + 1) then 0 else zit g x y m := rfl
  rcases e with ⟨⟨e1, e2⟩, e3⟩ | ⟨e1, e3⟩
  · have h3 : zcn g x m = zcn g y m := by
      rcases h2 e1 with q | q
      · exact q.2
      · exact absurd (e2.symm.trans q.1) hne
    refine ⟨?_, fun _ => Or.inr ⟨rfl, by rw [ex, ey, h3]⟩⟩
    rw [ei, if_neg (fun q => by rcases q with q | q; exact q.2 h3; exact q.1 hg), e3]
    omega
  · refine ⟨?_, fun q => by omega⟩
    rw [e3, ei]
    by_cases c9 : zcn g x m = zcn g y m
    · rw [if_neg (fun q => by rcases q with q | q; exact q.2 c9; exact q.1 hg)]
      rcases b9 with b9 | b9
      · exact b9.symm
      · exfalso
        have q1 : so.toInt = 1 := by omega
        rcases h2 q1 with q | q
        · exact e1 ⟨q1, q.1⟩
        · omega
    · rw [if_pos (Or.inl ⟨hg, c9⟩)]
theorem zTu_y (h : zTu so.toInt due g x y m) (hne : ¬ x = y) (hg : g m = y) (e : ((so.toInt = 1 ∧ due = y) ∧ so'.toInt = 1) ∨ (¬ (so.toInt = 1 ∧ due = y) ∧ so'.toInt = 0)) (hd : due' = x) (hm' : m' = m + 1) : zTu so'.toInt due' g x y m' := by
  subst hm' hd
  obtain ⟨h1, h2⟩ := h
  have hx : ¬ g m = due' := fun q => hne (q.symm.trans hg)
  have ex : zcn g due' (m + 1) = zcn g due' m := by show zcn g due' m + (if g m = due' then 1 else 0) = _; rw [if_neg hx]; omega
  have ey : zcn g y (m + 1) = zcn g y m + 1 := by show zcn g y m + (if g m = y then 1 else 0) = _; rw [if_pos hg]
  have b9 := zit_01 (g := g) (x := due') (y := y) m
  have ei : zit g due' y (m + 1) = if (g m = due' ∧ zcn g due' m ≠ zcn g y m) ∨ (g m ≠ due' ∧ g m = y ∧ zcn g due' m ≠ zcn g y m + 1) then 0 else zit g due' y m := rfl
  rcases e with ⟨⟨e1, e2⟩, e3⟩ | ⟨e1, e3⟩
  · have h3 : zcn g due' m = zcn g y m + 1 := by
      rcases h2 e1 with q | q
      · exact absurd (q.1.symm.trans e2) hne
      · exact q.2
    refine ⟨?_, fun _ => Or.inl ⟨rfl, by rw [ex, ey, h3]⟩⟩
    rw [ei, if_neg (fun q => by rcases q with q | q; exact hx q.1; exact q.2.2 h3), e3]
    omega
  · refine ⟨?_, fun q => by omega⟩
    rw [e3, ei]
    by_cases c9 : zcn g due' m = zcn g y m + 1
    · rw [if_neg (fun q => by rcases q with q | q; exact hx q.1; exact q.2.2 c9)]
      rcases b9 with b9 | b9
      · exact b9.symm
      · exfalso
        have q1 : so.toInt = 1 := by omega
        rcases h2 q1 with q | q
        · omega
        · exact e1 ⟨q1, q.1⟩
    · rw [if_pos (Or.inr ⟨hx, hg, c9⟩)]
end
theorem zTu_f {so r : Int} {due : Int32} {g : Nat → Int32} {N : Nat} {x y : Int32} (h : zTu so due g x y N) (hne : ¬ x = y) (e : (so = 1 ∧ due = x ∧ r = 1) ∨ (¬ (so = 1 ∧ due = x) ∧ r = 0)) : r = if zit g x y N = 1 ∧ zcn g x N = zcn g y N then 1 else 0 := by
  obtain ⟨h1, h2⟩ := h
  rcases e with ⟨e1, e2, e3⟩ | ⟨e1, e3⟩
  · have h3 : zcn g x N = zcn g y N := by
      rcases h2 e1 with q | q
      · exact q.2
      · exact absurd (e2.symm.trans q.1) hne
    rw [if_pos ⟨by omega, h3⟩, e3]
  · rw [if_neg (fun q => ?_), e3]
    have q1 : so = 1 := by omega
    rcases h2 q1 with w9 | w9
    · exact e1 ⟨q1, w9.1⟩
    · omega
/-- the first place of a LETTER, N if it is not there -/
def zFo (r : Int) (g : Nat → Int32) (N : Nat) (x : Int32) : Prop := (zcn g x N = 0 ∧ r = (N : Int)) ∨ (0 < zcn g x N ∧ r = zfs g x N)
theorem zfs_lt {g : Nat → Int32} {x : Int32} (m : Nat) : zfs g x m = -1 ∨ zfs g x m < (m : Int) := by
  induction m with
  | zero => exact Or.inl rfl
  | succ m ih =>
    show (if zfs g x m = -1 ∧ g m = x then (m : Int) else zfs g x m) = -1 ∨ (if zfs g x m = -1 ∧ g m = x then (m : Int) else zfs g x m) < _
    split <;> omega
/-- whether it is so, as the reference finds it where the RULE is ASKED -/
theorem zSo_r {k r fx fy lx ly cx cy rb it : Int} {g : Nat → Int32} {N : Nat} {x y : Int32} (hk : 0 ≤ k ∧ k ≤ 5) (ha : zAk k g N x y = 1)
    (h : (k = 0 ∧ lx = zls g x N ∧ ly = zls g y N ∧ r = if lx < ly then 1 else 0) ∨ (k = 1 ∧ zFo fx g N x ∧ zFo fy g N y ∧ r = if fx < fy then 1 else 0) ∨ (k = 2 ∧ zFo fx g N x ∧ ly = zls g y N ∧ r = if ly < fx then 1 else 0) ∨ (k = 3 ∧ r = zrb g N x y N) ∨ (k = 4 ∧ cx = zcn g x N ∧ cy = zcn g y N ∧ r = if cx = cy then 1 else 0) ∨ (k = 5 ∧ r = if zit g x y N = 1 ∧ zcn g x N = zcn g y N then 1 else 0)) : r = zSo k g N x y := by
  have bx := zcn_b (g := g) (x := x) N
  have by_ := zcn_b (g := g) (x := y) N
  have fx0 := zfs_c (g := g) (x := x) N
  have fy0 := zfs_c (g := g) (x := y) N
  have ltx := zfs_lt (g := g) (x := x) N
  have lty := zfs_lt (g := g) (x := y) N
  unfold zAk at ha
  unfold zSo
  rcases h with ⟨rfl, rfl, rfl, h⟩ | ⟨rfl, h1, h2, h⟩ | ⟨rfl, h1, rfl, h⟩ | ⟨rfl, h⟩ | ⟨rfl, rfl, rfl, h⟩ | ⟨rfl, h⟩
  · rw [if_pos rfl]
    exact h
  · rw [if_neg (by decide), if_pos rfl, h]
    rw [if_pos rfl] at ha
    have hy : 0 < zcn g y N := by
      rcases Decidable.em (0 < zcn g y N) with q | q
      · exact q
      · rw [if_neg q] at ha
        omega
    rcases h1 with ⟨a1, a2⟩ | ⟨a1, a2⟩
    · rcases h2 with ⟨b1, b2⟩ | ⟨b1, b2⟩
      · omega
      · rw [if_neg (by omega), if_neg (by omega)]
    · rcases h2 with ⟨b1, b2⟩ | ⟨b1, b2⟩
      · omega
      · rw [a2, b2]
        by_cases q : zfs g x N < zfs g y N
        · rw [if_pos q, if_pos ⟨a1, q⟩]
        · rw [if_neg q, if_neg (fun w => q w.2)]
  · rw [if_neg (by decide), if_neg (by decide), if_pos rfl, h]
    rw [if_neg (by decide), if_pos (by decide)] at ha
    rcases h1 with ⟨a1, a2⟩ | ⟨a1, a2⟩
    · rw [if_neg (by omega)] at ha
      omega
    · rw [a2]
  · rw [if_neg (by decide), if_neg (by decide), if_neg (by decide), if_pos rfl]
    exact h
  · rw [if_neg (by decide), if_neg (by decide), if_neg (by decide), if_neg (by decide), if_pos rfl]
    exact h
  · rw [if_neg (by decide), if_neg (by decide), if_neg (by decide), if_neg (by decide), if_neg (by decide)]
    exact h
theorem zas_r {k s : Int} {F L : Nat → Int32} {o l t t' : Nat} {x y n n' : Int32} {ra rs : Int} (i1 : n.toInt = zas k F o L l x y s t) (ht : t ≤ 100) (ha : ra = zAk k (fun i => F (o + (12 * t + i))) (L (l + t)).toInt.toNat x y) (hs : ra = 1 → rs = zSo k (fun i => F (o + (12 * t + i))) (L (l + t)).toInt.toNat x y)
    (e : ((ra = 1 ∧ (s = 0 ∨ rs = 1)) ∧ n' = n + 1) ∨ (¬ (ra = 1 ∧ (s = 0 ∨ rs = 1)) ∧ n' = n + 0)) (ht' : t' = t + 1) : n'.toInt = zas k F o L l x y s t' := by
  subst ht' ha
  have b1 := zas_b k F o L l x y s t
  show n'.toInt = zas k F o L l x y s t + (if zAk k (fun i => F (o + (12 * t + i))) (L (l + t)).toInt.toNat x y = 1 ∧ (s = 0 ∨ zSo k (fun i => F (o + (12 * t + i))) (L (l + t)).toInt.toNat x y = 1) then 1 else 0)
  rcases e with ⟨⟨e1, e2⟩, e3⟩ | ⟨e1, e3⟩
  · rw [if_pos ⟨e1, by rw [← hs e1]; exact e2⟩, zI1_add e3 (by omega), i1]
  · rw [if_neg (fun q => e1 ⟨q.1, by rw [hs q.1]; exact q.2⟩), e3, Int32.add_zero, i1]
    omega
/-! RULES that stand, code by code -/
def zrx (k le : Int) (F : Nat → Int32) (o : Nat) (L : Nat → Int32) (l T c : Nat) : Int := if c / 10 ≠ c % 10 ∧ le ≤ zas k F o L l (nI (c / 10)) (nI (c % 10)) 0 T ∧ zas k F o L l (nI (c / 10)) (nI (c % 10)) 1 T = zas k F o L l (nI (c / 10)) (nI (c % 10)) 0 T then 1 else 0
def zrc (k le : Int) (F : Nat → Int32) (o : Nat) (L : Nat → Int32) (l T : Nat) : Nat → Int
  | 0 => 0
  | c + 1 => zrc k le F o L l T c + zrx k le F o L l T c
/-- the i-th code that stands (i -1: how many) -/
def zrr (k le : Int) (F : Nat → Int32) (o : Nat) (L : Nat → Int32) (l T : Nat) (i z : Int) : Prop := (∃ c : Nat, c < 100 ∧ (zrx k le F o L l T c = 1 ∧ zrc k le F o L l T c = i) ∧ z = (c : Int)) ∨ ((∀ c : Nat, c < 100 → ¬ (zrx k le F o L l T c = 1 ∧ zrc k le F o L l T c = i)) ∧ z = if i = -1 then zrc k le F o L l T 100 else -1)
section
variable {k le : Int} {F L F' L' : Nat → Int32} {o l o' l' T T' : Nat}
theorem zrx_01 (c : Nat) : zrx k le F o L l T c = 0 ∨ zrx k le F o L l T c = 1 := by
  unfold zrx
  split
  · exact Or.inr rfl
  · exact Or.inl rfl
theorem zrc_m (c d : Nat) : zrc k le F o L l T c ≤ zrc k le F o L l T (c + d) := by
  induction d with
  | zero => exact Int.le_refl _
  | succ d ih =>
    have h9 := zrx_01 (k := k) (le := le) (F := F) (o := o) (L := L) (l := l) (T := T) (c + d)
    show zrc k le F o L l T c ≤ zrc k le F o L l T (c + d) + zrx k le F o L l T (c + d)
    omega
theorem zrc_b (c : Nat) : 0 ≤ zrc k le F o L l T c ∧ zrc k le F o L l T c ≤ (c : Int) := by
  induction c with
  | zero => exact ⟨Int.le_refl _, Int.le_refl _⟩
  | succ c ih =>
    have h9 := zrx_01 (k := k) (le := le) (F := F) (o := o) (L := L) (l := l) (T := T) c
    show 0 ≤ zrc k le F o L l T c + zrx k le F o L l T c ∧ zrc k le F o L l T c + zrx k le F o L l T c ≤ _
    omega
theorem zrc_u {i : Int} {c e : Nat} (h1 : zrx k le F o L l T c = 1 ∧ zrc k le F o L l T c = i) (h2 : zrx k le F o L l T e = 1 ∧ zrc k le F o L l T e = i) : c = e := by
  have key : ∀ a b : Nat, zrx k le F o L l T a = 1 → a < b → zrc k le F o L l T a < zrc k le F o L l T b := fun a b ha hab => by
    have m9 := zrc_m (k := k) (le := le) (F := F) (o := o) (L := L) (l := l) (T := T) (a + 1) (b - (a + 1))
    rw [show a + 1 + (b - (a + 1)) = b by omega] at m9
    have e9 : zrc k le F o L l T (a + 1) = zrc k le F o L l T a + zrx k le F o L l T a := rfl
    omega
  rcases Nat.lt_trichotomy c e with q | q | q
  · have := key c e h1.1 q
    omega
  · exact q
  · have := key e c h2.1 q
    omega
theorem zrr_u {i z z' : Int} (h : zrr k le F o L l T i z) (h' : zrr k le F o L l T i z') : z = z' := by
  rcases h with ⟨c, c1, c2, c3⟩ | ⟨c1, c2⟩
  · rcases h' with ⟨e, e1, e2, e3⟩ | ⟨e1, e2⟩
    · rw [c3, e3, zrc_u c2 e2]
    · exact absurd c2 (e1 c c1)
  · rcases h' with ⟨e, e1, e2, e3⟩ | ⟨e1, e2⟩
    · exact absurd e2 (c1 e e1)
    · rw [c2, e2]
theorem zrx_cg (h : ∀ (x y : Int32) (s : Int), zas k F o L l x y s T = zas k F' o' L' l' x y s T') (c : Nat) : zrx k le F o L l T c = zrx k le F' o' L' l' T' c := by
  unfold zrx
  rw [h, h]
theorem zrc_cg (h : ∀ (x y : Int32) (s : Int), zas k F o L l x y s T = zas k F' o' L' l' x y s T') (c : Nat) : zrc k le F o L l T c = zrc k le F' o' L' l' T' c := by
  induction c with
  | zero => rfl
  | succ c ih =>
    show zrc k le F o L l T c + zrx k le F o L l T c = zrc k le F' o' L' l' T' c + zrx k le F' o' L' l' T' c
    rw [ih, zrx_cg h]
theorem zrr_cg {i z : Int} (h : ∀ (x y : Int32) (s : Int), zas k F o L l x y s T = zas k F' o' L' l' x y s T') (g : zrr k le F o L l T i z) : zrr k le F' o' L' l' T' i z := by
  rcases g with ⟨c, c1, c2, c3⟩ | ⟨c1, c2⟩
  · exact Or.inl ⟨c, c1, by rw [← zrx_cg h, ← zrc_cg h]; exact c2, c3⟩
  · exact Or.inr ⟨fun c hc => by rw [← zrx_cg h, ← zrc_cg h]; exact c1 c hc, by rw [← zrc_cg h]; exact c2⟩
theorem z_nIe {v : Int32} {m : Nat} (e : v.toInt = (m : Int)) (hm : m < 1000) : v = nI m := by
  rw [fa_eq, e, nI_toInt (by omega)]
/-- a code is looked at -/
theorem zrc_st {f f' x y c c' : Int32} {i : Int} {lev : Int} (hl : lev = le) (h1 : f.toInt = zrc k le F o L l T c.toInt.toNat) (h2 : ∀ e : Nat, (e : Int) < c.toInt → ¬ (zrx k le F o L l T e = 1 ∧ zrc k le F o L l T e = i)) (hc : 0 ≤ c.toInt ∧ c.toInt ≤ 99) (ex : x.toInt = c.toInt / 10) (ey : y.toInt = c.toInt % 10) (hc' : c'.toInt = c.toInt + 1)
    (e : (¬ (¬ x = y ∧ lev ≤ zas k F o L l x y 0 T ∧ zas k F o L l x y 1 T = zas k F o L l x y 0 T) ∧ f' = f) ∨ ((¬ x = y ∧ lev ≤ zas k F o L l x y 0 T ∧ zas k F o L l x y 1 T = zas k F o L l x y 0 T) ∧ ¬ f.toInt = i ∧ f' = f + 1)) :
    f'.toInt = zrc k le F o L l T c'.toInt.toNat ∧ ∀ e : Nat, (e : Int) < c'.toInt → ¬ (zrx k le F o L l T e = 1 ∧ zrc k le F o L l T e = i) := by
  subst hl
  have qx : x = nI (c.toInt.toNat / 10) := z_nIe (by omega) (by omega)
  have qy : y = nI (c.toInt.toNat % 10) := z_nIe (by omega) (by omega)
  have hne : x = y ↔ c.toInt.toNat / 10 = c.toInt.toNat % 10 := by rw [fa_eq]; omega
  have b9 := zrc_b (k := k) (le := lev) (F := F) (o := o) (L := L) (l := l) (T := T) c.toInt.toNat
  have e9 : zrc k lev F o L l T c'.toInt.toNat = zrc k lev F o L l T c.toInt.toNat + zrx k lev F o L l T c.toInt.toNat := by rw [show c'.toInt.toNat = c.toInt.toNat + 1 by omega]; rfl
  have hz : zrx k lev F o L l T c.toInt.toNat = if ¬ x = y ∧ lev ≤ zas k F o L l x y 0 T ∧ zas k F o L l x y 1 T = zas k F o L l x y 0 T then 1 else 0 := by
    unfold zrx
    rw [← qx, ← qy]
    by_cases w9 : ¬ x = y ∧ lev ≤ zas k F o L l x y 0 T ∧ zas k F o L l x y 1 T = zas k F o L l x y 0 T
    · rw [if_pos w9, if_pos ⟨fun q => w9.1 (hne.mpr q), w9.2⟩]
    · rw [if_neg w9, if_neg (fun q => w9 ⟨fun r => q.1 (hne.mp r), q.2⟩)]
  rcases e with ⟨e1, rfl⟩ | ⟨e1, e2, e3⟩
  · rw [if_neg e1] at hz
    refine ⟨by omega, fun e he => ?_⟩
    by_cases w9 : (e : Int) < c.toInt
    · exact h2 e w9
    · rw [show e = c.toInt.toNat by omega]
      exact fun q => by omega
  · rw [if_pos e1] at hz
    refine ⟨by rw [zI1_add e3 (by omega)]; omega, fun e he => ?_⟩
    by_cases w9 : (e : Int) < c.toInt
    · exact h2 e w9
    · rw [show e = c.toInt.toNat by omega]
      exact fun q => e2 (by omega)
theorem zrr_at {f x y c : Int32} {i z : Int} {lev : Int} (hl : lev = le) (h1 : f.toInt = zrc k le F o L l T c.toInt.toNat) (hc : 0 ≤ c.toInt ∧ c.toInt ≤ 99) (ex : x.toInt = c.toInt / 10) (ey : y.toInt = c.toInt % 10) (e1 : ¬ x = y ∧ lev ≤ zas k F o L l x y 0 T ∧ zas k F o L l x y 1 T = zas k F o L l x y 0 T) (hf : f.toInt = i) (hz : z = c.toInt) : zrr k le F o L l T i z := by
  subst hl
  have qx : x = nI (c.toInt.toNat / 10) := z_nIe (by omega) (by omega)
  have qy : y = nI (c.toInt.toNat % 10) := z_nIe (by omega) (by omega)
  refine Or.inl ⟨c.toInt.toNat, by omega, ⟨?_, by omega⟩, by omega⟩
  unfold zrx
  rw [← qx, ← qy]
  exact if_pos ⟨fun q => e1.1 (by rw [fa_eq]; omega), e1.2⟩
theorem zrr_no {f c : Int32} {i z : Int} (h1 : f.toInt = zrc k le F o L l T c.toInt.toNat) (h2 : ∀ e : Nat, (e : Int) < c.toInt → ¬ (zrx k le F o L l T e = 1 ∧ zrc k le F o L l T e = i)) (hc : c.toInt = 100) (hz : (i = -1 ∧ z = f.toInt) ∨ (¬ i = -1 ∧ z = -1)) : zrr k le F o L l T i z := by
  refine Or.inr ⟨fun e he => h2 e (by omega), ?_⟩
  rw [show c.toInt.toNat = 100 by omega] at h1
  rcases hz with ⟨q1, q2⟩ | ⟨q1, q2⟩
  · rw [if_pos q1, q2, h1]
  · rw [if_neg q1, q2]
end
/-! class and reference: the same RULES -/
theorem zas_E {k s : Int} {n d mg x y : Int32} {L F V R : Nat → Int32} (h : zE (zrow n d mg L F V) R) (hn : 0 ≤ n.toInt ∧ n.toInt ≤ 20) (hR : zW5 R) : zas k F 0 L 0 x y s n.toInt.toNat = zas k R 21 R 1 x y s (R 0).toInt.toNat := by
  have e0 : n = R 0 := h.1
  rw [← e0]
  refine zas_cg (fun t ht => ?_)
  obtain ⟨a9, b9⟩ := h.2.2.2 t (by rw [zrow_0]; omega)
  rw [zrow_L (by omega)] at a9 b9
  have l9 := (zW5.len hR t (by omega)).2
  rw [show 0 + t = t by omega]
  refine ⟨a9, fun i hi => ?_⟩
  have c9 := (b9 i hi).1
  have l8 := congrArg Int32.toInt a9
  rw [zrow_F (by omega)] at c9
  rw [show 0 + (12 * t + i) = 12 * t + i by omega]
  exact c9
theorem zRL_rule {a b c e a' b' c' e' zx zm n n' : Int32} {F L R : Nat → Int32} (hE : ∀ (k : Int) (x y : Int32) (s : Int), zas k F 0 L 0 x y s n.toInt.toNat = zas k R 21 R 1 x y s n'.toInt.toNat) (h1 : a = a') (h2 : b = b') (h3 : c = c') (h4 : e = e')
    (fx : ¬ (((0 ≤ a.toInt ∧ a.toInt ≤ 5) ∧ (0 ≤ b.toInt ∧ b.toInt ≤ 9) ∧ (0 ≤ c.toInt ∧ c.toInt ≤ 9)) ∧ ¬ b.toInt = c.toInt ∧ 0 ≤ e.toInt ∧ e.toInt ≤ 1) ∧ zx.toInt = -1 ∨ (((0 ≤ a.toInt ∧ a.toInt ≤ 5) ∧ (0 ≤ b.toInt ∧ b.toInt ≤ 9) ∧ (0 ≤ c.toInt ∧ c.toInt ≤ 9)) ∧ ¬ b.toInt = c.toInt ∧ 0 ≤ e.toInt ∧ e.toInt ≤ 1) ∧ zx.toInt = zas a.toInt F 0 L 0 b c e.toInt n.toInt.toNat)
    (fm : ¬ (((0 ≤ a'.toInt ∧ a'.toInt ≤ 5) ∧ (0 ≤ b'.toInt ∧ b'.toInt ≤ 9) ∧ (0 ≤ c'.toInt ∧ c'.toInt ≤ 9)) ∧ ¬ b'.toInt = c'.toInt ∧ 0 ≤ e'.toInt ∧ e'.toInt ≤ 1) ∧ zm.toInt = -1 ∨ (((0 ≤ a'.toInt ∧ a'.toInt ≤ 5) ∧ (0 ≤ b'.toInt ∧ b'.toInt ≤ 9) ∧ (0 ≤ c'.toInt ∧ c'.toInt ≤ 9)) ∧ ¬ b'.toInt = c'.toInt ∧ 0 ≤ e'.toInt ∧ e'.toInt ≤ 1) ∧ zm.toInt = zas a'.toInt R 21 R 1 b' c' e'.toInt n'.toInt.toNat) : zx.toInt = zm.toInt := by
  rw [← h1, ← h2, ← h3, ← h4] at fm
  rcases fx with ⟨p1, p2⟩ | ⟨p1, p2⟩
  · rcases fm with ⟨q1, q2⟩ | ⟨q1, q2⟩
    · omega
    · exact absurd q1 p1
  · rcases fm with ⟨q1, q2⟩ | ⟨q1, q2⟩
    · exact absurd p1 q1
    · rw [p2, q2, hE]
theorem zRL_rules {a b c a' b' c' zx zm n n' : Int32} {F L R : Nat → Int32} (hE : ∀ (k : Int) (x y : Int32) (s : Int), zas k F 0 L 0 x y s n.toInt.toNat = zas k R 21 R 1 x y s n'.toInt.toNat) (h1 : a = a') (h2 : b = b') (h3 : c = c')
    (fx : ¬ ((0 ≤ a.toInt ∧ a.toInt ≤ 5) ∧ (1 ≤ b.toInt ∧ b.toInt ≤ 20) ∧ -1 ≤ c.toInt) ∧ zx.toInt = -1 ∨ ((0 ≤ a.toInt ∧ a.toInt ≤ 5) ∧ (1 ≤ b.toInt ∧ b.toInt ≤ 20) ∧ -1 ≤ c.toInt) ∧ zrr a.toInt b.toInt F 0 L 0 n.toInt.toNat c.toInt zx.toInt)
    (fm : ¬ ((0 ≤ a'.toInt ∧ a'.toInt ≤ 5) ∧ (1 ≤ b'.toInt ∧ b'.toInt ≤ 20) ∧ -1 ≤ c'.toInt) ∧ zm.toInt = -1 ∨ ((0 ≤ a'.toInt ∧ a'.toInt ≤ 5) ∧ (1 ≤ b'.toInt ∧ b'.toInt ≤ 20) ∧ -1 ≤ c'.toInt) ∧ zrr a'.toInt b'.toInt R 21 R 1 n'.toInt.toNat c'.toInt zm.toInt) : zx.toInt = zm.toInt := by
  rw [← h1, ← h2, ← h3] at fm
  rcases fx with ⟨p1, p2⟩ | ⟨p1, p2⟩
  · rcases fm with ⟨q1, q2⟩ | ⟨q1, q2⟩
    · omega
    · exact absurd q1 p1
  · rcases fm with ⟨q1, q2⟩ | ⟨q1, q2⟩
    · exact absurd p1 q1
    · exact zrr_u (zrr_cg (hE a.toInt) p2) q2
