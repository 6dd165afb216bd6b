/-! sets of bridges -/
theorem br_mask {n : Nat} (hn : n ≤ 6) (x : Int32) : (x &&& (((1 <<< (nI n &&& 31)) - 1) ^^^ (-1))) = 0 ↔ (0 ≤ x ∧ x ≤ (1 <<< (nI n &&& 31)) - 1) := by
  have A : ∀ n, n ≤ 6 → (((1 : Int32) <<< (nI n &&& 31)) - 1 = nI (2 ^ n - 1)) ∧ ((((1 : Int32) <<< (nI n &&& 31)) - 1) ^^^ (-1)).toBitVec.toNat = 2 ^ 32 - 2 ^ n := by decide
  obtain ⟨a1, a2⟩ := A n hn
  have p6 : 2 ^ n ≤ 2 ^ 6 := Nat.pow_le_pow_right (by decide) hn
  have p0 := Nat.two_pow_pos n
  have hx : x.toBitVec.toNat < 2 ^ 32 := x.toBitVec.isLt
  have B := br_bits x.toBitVec.toNat hx n (by omega)
  have C : (x &&& (((1 <<< (nI n &&& 31)) - 1) ^^^ (-1))) = 0 ↔ x.toBitVec.toNat &&& (2 ^ 32 - 2 ^ n) = 0 := by
    constructor
    · intro h
      have h1 := congrArg (fun z : Int32 => z.toBitVec.toNat) h
      have h2 : (x &&& (((1 <<< (nI n &&& 31)) - 1) ^^^ (-1))).toBitVec.toNat = x.toBitVec.toNat &&& (((1 <<< (nI n &&& 31)) - 1) ^^^ (-1)).toBitVec.toNat := rfl
      rw [← a2, ← h2]; exact h1
    · intro h
      have h2 : (x &&& (((1 <<< (nI n &&& 31)) - 1) ^^^ (-1))).toBitVec.toNat = x.toBitVec.toNat &&& (((1 <<< (nI n &&& 31)) - 1) ^^^ (-1)).toBitVec.toNat := rfl
      rw [a2, h] at h2
      exact Int32.toBitVec_inj.mp (BitVec.eq_of_toNat_eq h2)
  rw [C, B, a1]
  constructor
  · intro h
    have e : x = nI x.toBitVec.toNat := by
      refine Int32.toBitVec_inj.mp (BitVec.eq_of_toNat_eq ?_)
      exact (pk_tn hx).symm
    rw [e]
    exact ⟨nI_pos' (by omega), nI_le (by omega) (by omega)⟩
  · rintro ⟨h0, h1⟩
    obtain ⟨m, hm, rfl⟩ := nI_of (Int32.not_lt.mpr h0)
    have := (nI_leI hm (by omega)).mp h1
    rw [pk_tn (by omega)]; omega
