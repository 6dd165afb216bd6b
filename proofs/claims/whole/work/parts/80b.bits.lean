/-! sets of bridges -/
theorem br_mask {n : Nat} (hn : n ≤ 6) (x : Int32) : (x &&& (((1 <<< (nI n &&& 31)) - 1) ^^^ (-1))) = 0 ↔ (0 ≤ x ∧ x ≤ (1 <<< (nI n &&& 31)) - 1) := by
  sorry
