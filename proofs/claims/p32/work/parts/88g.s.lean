/-! the acts, one by one: the history, the snapshot, the text -/
section ACTS9
variable {E : Hp} {i : Nat → Nat → Int32} {j : Nat → Nat → Int64} {d : Nat → Nat → UInt64} {N : Nat → Int32} {r : Nat → UInt64} {B : Nat} {H : List Rw} {s : Option Rw}
theorem snoc {α : Type} (l : List α) : l = [] ∨ ∃ L b, l = L ++ [b] := by
  induction l with
  | nil => exact Or.inl rfl
  | cons a l ih =>
    rcases ih with rfl | ⟨L, b, rfl⟩
    · exact Or.inr ⟨[], a, rfl⟩
    · exact Or.inr ⟨a :: L, b, rfl⟩
theorem WQ.zN (w : WQ N r) {x : Nat} (hx : 180 ≤ x) : N x = 0 := w.2.2.2.1.1 x hx
theorem WQ.zr (w : WQ N r) {x : Nat} (hx : 17 ≤ x) : r x = 0 := w.2.2.2.1.2 x hx
end ACTS9
