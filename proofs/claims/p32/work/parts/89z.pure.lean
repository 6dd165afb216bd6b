theorem pure_law (sc : Nat → Int32) (L : Nat) (hL : L ≤ 260) (S : Hp) (h : Ini S) : ∃ S9, f_L_law sc L S (some (zA S 0)) = some ((1 : Int32), S9) := sorry
