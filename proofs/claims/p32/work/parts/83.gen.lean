/-! the reference's small methods -/
section REF1
variable {E : Hp} {i : Nat → Nat → Int32} {j : Nat → Nat → Int64} {d : Nat → Nat → UInt64}
theorem bI_1 {b : Prop} [Decidable b] (h : b) : bI b = 1 := if_pos h
theorem bI_0 {b : Prop} [Decidable b] (h : ¬ b) : bI b = 0 := if_neg h
theorem bI_e0 {b : Prop} [Decidable b] : (bI b = 0) = ¬ b := by
  unfold bI; by_cases h : b <;> simp [h]
theorem y_in3 {S : Hp} (x a b : Int32) : (if x < a then some ((0 : Int32), S) else if b < x then some ((0 : Int32), S) else some ((1 : Int32), S)) = some (bI (a ≤ x ∧ x ≤ b), S) := by
  by_cases h1 : x < a
  · rw [if_pos h1, bI_0 (fun q => absurd h1 (Int32.not_lt.mpr q.1))]
  · rw [if_neg h1]
    by_cases h2 : b < x
    · rw [if_pos h2, bI_0 (fun q => absurd h2 (Int32.not_lt.mpr q.2))]
    · rw [if_neg h2, bI_1 ⟨Int32.not_lt.mp h1, Int32.not_lt.mp h2⟩]
theorem i_pred {x : Int32} {n : Nat} (hn : n < 2 ^ 30) : (0 ≤ x ∧ x ≤ nI n - 1) ↔ ∃ t, t < n ∧ x = nI t := by
  constructor
  · intro ⟨h0, h1⟩
    obtain ⟨t, ht, rfl⟩ := nI_of (Int32.not_lt.mpr h0)
    refine ⟨t, ?_, rfl⟩
    cases n with
    | zero =>
      exfalso
      have : nI t ≤ -1 := h1
      exact absurd (Int32.le_trans (nI_pos' ht) this) (by decide)
    | succ n => rw [nI_pred] at h1; have := (nI_leI ht (by omega)).mp h1; omega
  · rintro ⟨t, ht, rfl⟩
    refine ⟨nI_pos' (by omega), ?_⟩
    cases n with
    | zero => omega
    | succ n => rw [nI_pred]; exact (nI_leI (by omega) (by omega)).mpr (by omega)
end REF1
