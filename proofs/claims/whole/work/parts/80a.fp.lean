/-! doubles: what is asked of them -/
def bI (b : Prop) [Decidable b] : Int32 := if b then 1 else 0
def dT (e : UInt64) : Prop := e.toNat ≤ 4629137466983448576 ∨ 9223372036854775808 ≤ e.toNat ∧ e.toNat ≤ 13854198353698488320
def dB (e : UInt64) : Prop := e.toNat ≤ 4647503709213818880
def sCold (g x : UInt64) : UInt64 := FP.dsub x (FP.dmul 4598175219545276416 g)
def sWarm (g x : UInt64) : UInt64 := FP.dsub x (FP.dmul 4609434218613702656 g)
/-- a bridge's thickness a day later -/
def sLater (g x : UInt64) : UInt64 :=
  if (Op.cmpValue (FP.dcmp g FP.dconst0) CmpOp.l) ≤ 0 then
    if 0 ≤ (Op.cmpValue (FP.dcmp g FP.dconst0) CmpOp.g) then x
    else if (Op.cmpValue (FP.dcmp (sCold g x) 4647503709213818880) CmpOp.l) ≤ 0 then sCold g x else 4647503709213818880
  else if 0 ≤ (Op.cmpValue (FP.dcmp (sWarm g x) FP.dconst0) CmpOp.g) then sWarm g x else FP.dconst0
theorem fp_later {g x : UInt64} (hg : dT g) (hx : dB x) : dB (sLater g x) := by
  sorry
theorem fp_cold {g x : UInt64} (hg : dT g) (hx : dB x) : vf_n64 (FP.dmul 4598175219545276416 g) ∧ vf_n64 (sCold g x) := by
  sorry
theorem fp_warm {g x : UInt64} (hg : dT g) (hx : dB x) : vf_n64 (FP.dmul 4609434218613702656 g) ∧ vf_n64 (sWarm g x) := by
  sorry
theorem fp_up500 {S : Hp} (b : Int64) : f_X6_isUpTo S b 4647503709213818880 = some (bI (0 ≤ b ∧ b ≤ (4647503709213818880 : Int64)), S) := by
  sorry
theorem fp_up60 {S : Hp} (b : Int64) : f_X6_isUpTo S b 4633641066610819072 = some (bI (0 ≤ b ∧ b ≤ (4633641066610819072 : Int64)), S) := by
  sorry
theorem fp_zero {S : Hp} (c b : Int64) : f_X5_isFromZeroTo S c b = some (bI (0 ≤ b ∧ b ≤ c), S) := by
  sorry
theorem fp_dB (b : Int64) : (0 ≤ b ∧ b ≤ (4647503709213818880 : Int64)) → dB b.toUInt64 := by
  sorry
theorem fp_dS (b : Int64) : (0 ≤ b ∧ b ≤ (4633641066610819072 : Int64)) → dB b.toUInt64 := by
  sorry
theorem fp_snl (b : Int64) (h : dB b.toUInt64 ∨ dT b.toUInt64) : vn_snl2d b = false := by
  sorry
theorem fp_num {S : Hp} (b : Int64) (h : dB b.toUInt64 ∨ dT b.toUInt64) : f_X5_numberOf S b = some (b.toUInt64, S) := by
  sorry
theorem fp_temp (b : Int64) : ((lg_cmp (b &&& 9223372036854775807) 9218868437227405312) ≤ 0 ∧ ¬ (Op.cmpValue (FP.dcmp b.toUInt64 13854198353698488320) CmpOp.l) < 0 ∧ ¬ 0 < (Op.cmpValue (FP.dcmp b.toUInt64 4629137466983448576) CmpOp.g)) ↔ dT b.toUInt64 := by
  sorry
theorem fp_snl2 (b : Int64) (h : (lg_cmp (b &&& 9223372036854775807) 9218868437227405312) ≤ 0) : vn_snl2d b = false := by
  sorry
theorem fp_isTemp1 {S : Hp} (b : Int64) (h : dT b.toUInt64) : f_X5_isTemperature S b = some (1, S) := by
  sorry
theorem fp_isTemp0 {S : Hp} (b : Int64) (h : ¬ dT b.toUInt64) : f_X5_isTemperature S b = some (0, S) := by
  sorry
theorem fp_bits {S : Hp} (e : UInt64) (h : dT e) : f_Jxe99ae_doubleToLongBits_ccdee S e = some (e.toInt64, S) := by
  sorry
theorem fp_eq0 (a b : UInt64) : (Op.cmpValue (FP.dcmp a b) CmpOp.l) = 0 ↔ (Op.cmpValue (FP.dcmp b a) CmpOp.l) = 0 := by
  sorry
def sShare (x : Int32) : UInt64 := if x < 14 then if x < 7 then if x < 3 then FP.dconst0 else 4602678819172646912 else 4604930618986332160 else FP.dconst1
theorem fp_refund (p g l : Nat) (x : Int32) (hp : p ≤ 67108864) (hl : 1 ≤ l) (hg : l ≤ g) (h12 : g ≤ 12) :
    vf_n64 (FP.ddiv (FP.i2d (nI p)) (FP.i2d (nI g))) ∧ vf_n64 (FP.dmul (FP.ddiv (FP.i2d (nI p)) (FP.i2d (nI g))) (FP.i2d (nI l))) ∧ vf_n64 (FP.dmul (FP.dmul (FP.ddiv (FP.i2d (nI p)) (FP.i2d (nI g))) (FP.i2d (nI l))) (sShare x)) ∧ ∃ q : Nat, q ≤ p ∧ FP.d2i (FP.dmul (FP.dmul (FP.ddiv (FP.i2d (nI p)) (FP.i2d (nI g))) (FP.i2d (nI l))) (sShare x)) = nI q := by
  sorry
