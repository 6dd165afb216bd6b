theorem pure_law (sc : Nat → Int32) (L : Nat) (hL : L ≤ 3072) (S : Hp) (h : Ini S) : ∃ S', f_law sc L 1000 S (some (zA S 0)) (some (zA S 229)) 0 = some ((1 : Int32), S') := by
  sorry
