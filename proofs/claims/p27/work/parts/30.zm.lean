/-! PREFIXES of the reference -/
def zLm (ch : Nat → Int32) (o n px : Int) : Prop := ∀ q : Nat, o ≤ (q : Int) → (q : Int) < o + n → (ch q).toInt < px
def zTm (T bu px : Int) (o : Nat) (rw_ pa : Nat → Int32) : Prop := ∀ t i : Nat, (t : Int) < T → (t : Int) ≠ bu → (i : Int) ≤ (rw_ (1 + t)).toInt → (pa (o + 13 * t + i)).toInt < px
