/-! ===== where larks can be: sets of cells as bits ===== -/
def adj (s k : Nat) : Bool := (decide (0 < k % 4) && s.testBit (k - 1)) || (decide (k % 4 < 3) && s.testBit (k + 1)) || (decide (4 ≤ k) && s.testBit (k - 4)) || (decide (k < 8) && s.testBit (k + 4))
theorem nb_c {s : Nat} (hs : s < 4096) : sX3_neighbours (nI s) = nI (bt (adj s) 12) := co_dec (N := 4096) (P := fun s => sX3_neighbours (nI s) = nI (bt (adj s) 12)) (by decide +kernel) hs
def gtP (c w k : Nat) : Bool := (decide (w = 0) && decide (c = k)) || (decide (w = 1) && decide (0 < c % 4) && decide (k + 1 = c)) || (decide (w = 2) && decide (c % 4 < 3) && decide (k = c + 1)) || (decide (w = 3) && decide (4 ≤ c) && decide (k + 4 = c)) || (decide (w = 4) && decide (c < 8) && decide (k = c + 4))
theorem gt_iff {c w k : Nat} (hc : c < 12) (hw : w < 5) (hk : k < 12) : decide (sX9_goneTo (nI c) (nI w) = nI k) = gtP c w k := by
  have h : ((List.range 12).all fun c => (List.range 5).all fun w => (List.range 12).all fun k => decide (decide (sX9_goneTo (nI c) (nI w) = nI k) = gtP c w k)) = true := by decide +kernel
  exact of_decide_eq_true (List.all_eq_true.mp (List.all_eq_true.mp (List.all_eq_true.mp h c (List.mem_range.mpr hc)) w (List.mem_range.mpr hw)) k (List.mem_range.mpr hk))
