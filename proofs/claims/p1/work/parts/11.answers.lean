def a_sign (v : Int32) : Int32 := 4
def a_end (n : Int32) : Int32 := if n.toInt = 0 then 1 else 0
def a_traces : Int32 := 1
def a_drop (t : Int32) : Int32 := -2
def a_depth (k : Int32) : Int32 := if k.toInt < 0 ∨ 3 < k.toInt then -1 else if k.toInt = 1 then -3 else 1
def a_margin (w : Int32) : Int32 := if w.toInt < 0 ∨ 20 < w.toInt then -1 else if w.toInt = 0 then -3 else 0
def a_undo : Int32 := -3
def a_state (a b : Int32) : Int32 := -1
def a_edge (a b : Int32) : Int32 := -1
def a_vague (a : Int32) : Int32 := if 0 ≤ a.toInt ∧ a.toInt ≤ 1 then 0 else -1
def a_run (g : Int32) : Int32 := 0
def a_ran (a : Int32) : Int32 := -1
def a_cover (a : Int32) : Int32 := if 0 ≤ a.toInt ∧ a.toInt ≤ 1 then 0 else -1
def a_ways (a : Int32) : Int32 := -1
def a_words (n : Int32) : Int32 := if 0 ≤ n.toInt ∧ n.toInt ≤ 8 then 0 else -1
def a_apart (a b c : Int32) : Int32 := -1
def a_walk (a b : Int32) : Int32 := -1
def a_rule (k x y w : Int32) : Int32 := if (0 ≤ k.toInt ∧ k.toInt ≤ 5) ∧ (0 ≤ x.toInt ∧ x.toInt ≤ 9) ∧ (0 ≤ y.toInt ∧ y.toInt ≤ 9) ∧ (¬ x.toInt = y.toInt) ∧ (0 ≤ w.toInt ∧ w.toInt ≤ 1) then 0 else -1
def a_rules (k l i : Int32) : Int32 := if (0 ≤ k.toInt ∧ k.toInt ≤ 5) ∧ (1 ≤ l.toInt ∧ l.toInt ≤ 20) ∧ i.toInt = -1 then 0 else -1
def a_odd (a b : Int32) : Int32 := -1
def a_oddest (a : Int32) : Int32 := -1
def a_held (a b g : Int32) : Int32 := -1
def a_fit (k w : Int32) : Int32 := if (0 ≤ k.toInt ∧ k.toInt ≤ 3) ∧ (0 ≤ w.toInt ∧ w.toInt ≤ 2) then 0 else -1
def a_best (a : Int32) : Int32 := -1
def a_keep (k : Int32) : Int32 := if 0 ≤ k.toInt ∧ k.toInt ≤ 1 then 1 else 0
def a_again (k : Int32) : Int32 := 0
def a_count (w : Int32) : Int32 := if w.toInt = 6 then 1 else if 0 ≤ w.toInt ∧ w.toInt ≤ 9 then 0 else -1
