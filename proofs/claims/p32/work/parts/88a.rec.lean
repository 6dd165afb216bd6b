/-! what the reference keeps: states before the latest acts, a snapshot -/
abbrev Rw : Type := (Nat → Int32) × (Nat → UInt64)
def push (H : List Rw) (q : Rw) : List Rw := if H.length = 5 then H.tail ++ [q] else H ++ [q]
theorem push_len {H : List Rw} {q : Rw} (h : H.length ≤ 5) : (push H q).length = if H.length = 5 then 5 else H.length + 1 := by
  unfold push
  split
  · rename_i e; rw [List.length_append, List.length_tail, e]; rfl
  · rw [List.length_append]; rfl
section REC
variable {E : Hp} {i : Nat → Nat → Int32} {j : Nat → Nat → Int64} {d : Nat → Nat → UInt64} {H : List Rw}
theorem cp0_id {α : Type} (i : Nat → Nat → α) (a : Nat) (f : Nat → α) (b : Nat) : r2 i a (cp f (i a) b 0) = i := by rw [cp_0, r2_id]
end REC
