/-! doubles: bits, order, sets of bits -/
theorem fn_n64 (r : UInt64) : vf_n64 r ↔ FP.Core.val64 r ≠ .nan := by
  unfold vf_n64
  rw [UInt64.le_iff_toNat_le, FP.Core.mask_toNat, FP.Core.ne_nan]
  exact Iff.rfl
theorem fn_cmp {a b : UInt64} (ha : FP.Core.val64 a ≠ .nan) (hb : FP.Core.val64 b ≠ .nan) :
    (Op.cmpValue (FP.dcmp a b) CmpOp.l ≤ 0 ↔ FP.Core.dkey a ≤ FP.Core.dkey b) ∧ (0 ≤ Op.cmpValue (FP.dcmp a b) CmpOp.g ↔ FP.Core.dkey b ≤ FP.Core.dkey a) ∧
    (Op.cmpValue (FP.dcmp a b) CmpOp.l < 0 ↔ FP.Core.dkey a < FP.Core.dkey b) ∧ (0 < Op.cmpValue (FP.dcmp a b) CmpOp.g ↔ FP.Core.dkey b < FP.Core.dkey a) ∧
    (Op.cmpValue (FP.dcmp a b) CmpOp.l = 0 ↔ FP.Core.dkey a = FP.Core.dkey b) := by
  have h1 := FP.Core.dcmp_lt_key ha hb
  have h2 := FP.Core.dcmp_eq_key ha hb
  have h3 := FP.Core.dcmp_gt_key ha hb
  have h4 := FP.Core.dcmp_key ha hb
  show (Op.cmpValue (FP.Core.dcmp a b) CmpOp.l ≤ 0 ↔ _) ∧ (0 ≤ Op.cmpValue (FP.Core.dcmp a b) CmpOp.g ↔ _) ∧ (Op.cmpValue (FP.Core.dcmp a b) CmpOp.l < 0 ↔ _) ∧ (0 < Op.cmpValue (FP.Core.dcmp a b) CmpOp.g ↔ _) ∧ (Op.cmpValue (FP.Core.dcmp a b) CmpOp.l = 0 ↔ _)
  generalize FP.Core.dcmp a b = o at h1 h2 h3 h4
  rw [h4] at h1 h2 h3
  subst h4
  generalize compare (FP.Core.dkey a) (FP.Core.dkey b) = q at h1 h2 h3 ⊢
  cases q
  · have := h1.mp rfl
    refine ⟨⟨fun _ => by omega, fun _ => by decide⟩, ⟨fun z => absurd z (by decide), fun z => by omega⟩, ⟨fun _ => this, fun _ => by decide⟩, ⟨fun z => absurd z (by decide), fun z => by omega⟩, ⟨fun z => absurd z (by decide), fun z => by omega⟩⟩
  · have := h2.mp rfl
    refine ⟨⟨fun _ => by omega, fun _ => by decide⟩, ⟨fun z => by omega, fun z => by decide⟩, ⟨fun z => absurd z (by decide), fun z => by omega⟩, ⟨fun z => absurd z (by decide), fun z => by omega⟩, ⟨fun z => this, fun z => by decide⟩⟩
  · have := h3.mp rfl
    refine ⟨⟨fun z => absurd z (by decide), fun z => by omega⟩, ⟨fun z => by omega, fun z => by decide⟩, ⟨fun z => absurd z (by decide), fun z => by omega⟩, ⟨fun z => this, fun z => by decide⟩, ⟨fun z => absurd z (by decide), fun z => by omega⟩⟩
theorem fn_pos {a : UInt64} (h : a.toNat < 2 ^ 63) : FP.Core.dkey a = (a.toNat : Int) := by
  unfold FP.Core.dkey; rw [if_neg (by omega)]
theorem fn_neg {a : UInt64} (h : 2 ^ 63 ≤ a.toNat) : FP.Core.dkey a = (2 ^ 63 : Int) - (a.toNat : Int) := by
  unfold FP.Core.dkey; rw [if_pos h]; rfl
theorem fn_nn {a : UInt64} (h : a.toNat ≤ 9218868437227405312) : FP.Core.val64 a ≠ .nan := by
  rw [FP.Core.ne_nan]; omega
theorem i64c (b : Int64) : b.toInt = if 2 * b.toUInt64.toNat < 2 ^ 64 then (b.toUInt64.toNat : Int) else (b.toUInt64.toNat : Int) - ((2 ^ 64 : Nat) : Int) := BitVec.toInt_eq_toNat_cond b.toBitVec
theorem i64p (b : Int64) (h : 0 ≤ b) : (b.toUInt64.toNat : Int) = b.toInt ∧ b.toUInt64.toNat < 2 ^ 63 := by
  have h1 := i64c b
  have h2 := b.toUInt64.toNat_lt
  have h3 := Int64.le_iff_toInt_le.mp h
  have h4 : (0 : Int64).toInt = 0 := rfl
  split at h1 <;> omega
theorem i64n (b : Int64) (h : ¬ 0 ≤ b) : (b.toUInt64.toNat : Int) = b.toInt + 2 ^ 64 ∧ 2 ^ 63 ≤ b.toUInt64.toNat := by
  have h1 := i64c b
  have h2 := b.toUInt64.toNat_lt
  have h3 : ¬ (0 : Int64).toInt ≤ b.toInt := fun z => h (Int64.le_iff_toInt_le.mpr z)
  have h4 : (0 : Int64).toInt = 0 := rfl
  split at h1 <;> omega
theorem fn_le {b c : Int64} (hb : 0 ≤ b) (hc : 0 ≤ c) : b ≤ c ↔ b.toUInt64.toNat ≤ c.toUInt64.toNat := by
  rw [Int64.le_iff_toInt_le]
  have := (i64p b hb).1
  have := (i64p c hc).1
  omega
theorem fn_eq0 (a b : UInt64) : (Op.cmpValue (FP.dcmp a b) CmpOp.l) = 0 ↔ (Op.cmpValue (FP.dcmp b a) CmpOp.l) = 0 := by
  rw [show FP.dcmp b a = (FP.dcmp a b).map Ordering.swap from FP.Core.dcmp_swap a b]
  cases FP.dcmp a b with
  | none => rfl
  | some o => cases o <;> decide
theorem fn_snl (b : Int64) (h : FP.Core.val64 b.toUInt64 ≠ .nan) : vn_snl2d b = false := by
  have h1 : b.toUInt64 &&& 0x7fffffffffffffff ≤ 0x7ff0000000000000 := (fn_n64 _).mpr h
  unfold vn_snl2d
  rw [decide_eq_false (fun z => absurd h1 (UInt64.not_le.mpr z))]; rfl
theorem fn_mask (b : Int64) : (b &&& 9223372036854775807).toInt = ((b.toUInt64.toNat % 2 ^ 63 : Nat) : Int) ∧ 0 ≤ b &&& 9223372036854775807 := by
  have h1 : (b &&& 9223372036854775807).toUInt64.toNat = b.toUInt64.toNat % 2 ^ 63 := FP.Core.mask_toNat b.toUInt64
  have h2 := i64c (b &&& 9223372036854775807)
  rw [h1] at h2
  rw [if_pos (by omega)] at h2
  refine ⟨h2, ?_⟩
  rw [Int64.le_iff_toInt_le, h2]
  show (0 : Int) ≤ _
  omega
theorem fn_zero {S : Hp} (c b : Int64) : f_X5_isFromZeroTo S c b = some (if 0 ≤ b ∧ b ≤ c then 1 else 0, S) := by
  unfold f_X5_isFromZeroTo
  by_cases h1 : 0 ≤ b
  · rw [if_neg (fun z => absurd ((lg_cmp_lt _ _).mp z) (Int64.not_lt.mpr h1))]
    by_cases h2 : b ≤ c
    · rw [if_neg (fun z => absurd ((lg_cmp_gt _ _).mp z) (Int64.not_lt.mpr h2)), if_pos ⟨h1, h2⟩]
    · rw [if_pos ((lg_cmp_gt _ _).mpr (Int64.not_le.mp h2)), if_neg (fun z => h2 z.2)]
  · rw [if_pos ((lg_cmp_lt _ _).mpr (Int64.not_le.mp h1)), if_neg (fun z => h1 z.1)]
/-! sets of bridges -/
theorem br_bits (x : Nat) (hx : x < 2 ^ 32) (n : Nat) (hn : n ≤ 32) : x &&& (2 ^ 32 - 2 ^ n) = 0 ↔ x < 2 ^ n := by
  have e : 2 ^ 32 - 2 ^ n = 2 ^ n * (2 ^ (32 - n) - 1) := by
    rw [Nat.mul_sub, ← Nat.pow_add, Nat.mul_one, show n + (32 - n) = 32 by omega]
  rw [e]
  constructor
  · intro h
    refine Nat.lt_pow_two_of_testBit x (fun i hi => ?_)
    by_cases i32 : i < 32
    · have := congrArg (fun z => z.testBit i) h
      simp only [Nat.testBit_and, Nat.zero_testBit] at this
      rw [Nat.testBit_two_pow_mul, Nat.testBit_two_pow_sub_one] at this
      rw [decide_eq_true hi, decide_eq_true (show i - n < 32 - n by omega)] at this
      simpa using this
    · exact Nat.testBit_lt_two_pow (Nat.lt_of_lt_of_le hx (Nat.pow_le_pow_right (by decide) (by omega)))
  · intro h
    refine Nat.eq_of_testBit_eq (fun i => ?_)
    rw [Nat.testBit_and, Nat.zero_testBit, Nat.testBit_two_pow_mul]
    by_cases hi : n ≤ i
    · rw [Nat.testBit_lt_two_pow (Nat.lt_of_lt_of_le h (Nat.pow_le_pow_right (by decide) hi)), Bool.false_and]
    · rw [decide_eq_false (by omega), Bool.false_and, Bool.and_false]
