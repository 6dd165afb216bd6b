/-! doubles: what is asked of them -/
def bI (b : Prop) [Decidable b] : Int32 := if b then 1 else 0
def dT (e : UInt64) : Prop := e.toNat ≤ 4629137466983448576 ∨ 9223372036854775808 ≤ e.toNat ∧ e.toNat ≤ 13854198353698488320
def dB (e : UInt64) : Prop := e.toNat ≤ 4647503709213818880
def sCold (g x : UInt64) : UInt64 := FP.dsub x (FP.dmul 4598175219545276416 g)
def sWarm (g x : UInt64) : UInt64 := FP.dsub x (FP.dmul 4609434218613702656 g)
/-- a bridge's thickness a day later -/
def sLater (g x : UInt64) : UInt64 :=
  if (Op.cmpValue (FP.dcmp g FP.dconst0) CmpOp.l) ≤ 0 then
    if 0 ≤ (Op.cmpValue (FP.dcmp g FP.dconst0) CmpOp.g) then x
    else if (Op.cmpValue (FP.dcmp (sCold g x) 4647503709213818880) CmpOp.l) ≤ 0 then sCold g x else 4647503709213818880
  else if 0 ≤ (Op.cmpValue (FP.dcmp (sWarm g x) FP.dconst0) CmpOp.g) then sWarm g x else FP.dconst0
theorem fn_T {e : UInt64} (h : dT e) : e.toNat % 2 ^ 63 ≤ 4630826316843712512 := by
  rcases h with h | h <;> omega
theorem fn_Tf {e : UInt64} (h : dT e) : FP.Core.DFin e := (FP.Core.fin_bits e).mpr (by have := fn_T h; omega)
theorem fn_Bf {e : UInt64} (h : dB e) : FP.Core.DFin e := (FP.Core.fin_bits e).mpr (by unfold dB at h; omega)
theorem fn_z {a b : UInt64} (ha : FP.Core.val64 a ≠ .nan) (hb : FP.Core.val64 b ≠ .nan) : FP.Core.dkey a < FP.Core.dkey b ↔ FP.Core.zval FP.Core.b64 (FP.Core.val64 a) < FP.Core.zval FP.Core.b64 (FP.Core.val64 b) := by
  rw [← FP.Core.dcmp_lt_key ha hb, FP.Core.dcmp_lt]
  exact ⟨fun z => z.2.2, fun z => ⟨ha, hb, z⟩⟩
theorem fn_zl {a b : UInt64} (ha : FP.Core.val64 a ≠ .nan) (hb : FP.Core.val64 b ≠ .nan) : FP.Core.dkey a ≤ FP.Core.dkey b ↔ FP.Core.zval FP.Core.b64 (FP.Core.val64 a) ≤ FP.Core.zval FP.Core.b64 (FP.Core.val64 b) := by
  have := fn_z hb ha
  omega
theorem fn_shape {a : UInt64} (h : FP.Core.DFin a) : ∃ c q, FP.Core.val64 a = .fin (decide (2 ^ 63 ≤ a.toNat)) c q := by
  obtain ⟨s, c, q, e⟩ := h
  have hn : FP.Core.val64 a ≠ .nan := by rw [e]; exact FP.Core.Datum.noConfusion
  have := FP.Core.sgn_bits hn
  rw [e] at this
  have : s = decide (2 ^ 63 ≤ a.toNat) := this
  exact ⟨c, q, by rw [e, this]⟩
theorem fn_sg {a : UInt64} (hn : FP.Core.val64 a ≠ .nan) (h : FP.Core.sgn (FP.Core.val64 a) = false) : a.toNat < 2 ^ 63 := by
  have := FP.Core.sgn_bits hn
  rw [h] at this
  have := of_decide_eq_false this.symm
  omega
theorem fp_cold {g x : UInt64} (hg : dT g) (hx : dB x) : vf_n64 (FP.dmul 4598175219545276416 g) ∧ vf_n64 (sCold g x) := by
  have h1 := FP.Core.dmul_out (a := 4598175219545276416) ((FP.Core.fin_bits _).mpr (by decide)) (fn_Tf hg)
  have h2 := FP.Core.dsub_out' (fn_Bf hx) h1
  exact ⟨(fn_n64 _).mpr ((FP.Core.notNaN_iff _).mp h1), (fn_n64 _).mpr ((FP.Core.notNaN_iff _).mp h2)⟩
theorem fp_warm {g x : UInt64} (hg : dT g) (hx : dB x) : vf_n64 (FP.dmul 4609434218613702656 g) ∧ vf_n64 (sWarm g x) := by
  have h1 := FP.Core.dmul_out (a := 4609434218613702656) ((FP.Core.fin_bits _).mpr (by decide)) (fn_Tf hg)
  have h2 := FP.Core.dsub_out' (fn_Bf hx) h1
  exact ⟨(fn_n64 _).mpr ((FP.Core.notNaN_iff _).mp h1), (fn_n64 _).mpr ((FP.Core.notNaN_iff _).mp h2)⟩
theorem fn_coldS {g x : UInt64} (hg : dT g) (hx : dB x) (h : 2 ^ 63 ≤ g.toNat) : (sCold g x).toNat < 2 ^ 63 := by
  have hn := (fn_n64 _).mp (fp_cold hg hx).2
  refine fn_sg hn ?_
  obtain ⟨cg, qg, eg⟩ := fn_shape (fn_Tf hg)
  obtain ⟨cx, qx, ex⟩ := fn_shape (fn_Bf hx)
  rw [decide_eq_true h] at eg
  rw [decide_eq_false (by unfold dB at hx; omega)] at ex
  have e4 : FP.Core.val64 4598175219545276416 = .fin false 4503599627370496 (-54) := by decide +kernel
  have ey : FP.Core.val64 (FP.Core.dmul 4598175219545276416 g) = FP.Core.roundRatio FP.Core.b64 true (4503599627370496 * cg) 1 (-54 + qg) := by
    rw [FP.Core.val64_dmul, e4, eg]; rfl
  show FP.Core.sgn (FP.Core.val64 (FP.Core.dsub x (FP.Core.dmul 4598175219545276416 g))) = false
  rw [FP.Core.val64_dsub, ey, ex]
  rcases FP.Core.roundRatio_cases FP.Core.b64 true (4503599627370496 * cg) 1 (-54 + qg) with ⟨c, q, hR⟩ | hR
  · rw [hR]
    show FP.Core.sgn (FP.Core.roundRatio FP.Core.b64 (FP.Core.sumSign false false (FP.Core.sumUnits false cx qx false c q (min qx q))) _ 1 _) = false
    rw [FP.Core.sgn_roundRatio]
    have : 0 ≤ FP.Core.sumUnits false cx qx false c q (min qx q) := by
      show 0 ≤ ((FP.Core.inUnits cx qx (min qx q) : Nat) : Int) + ((FP.Core.inUnits c q (min qx q) : Nat) : Int)
      omega
    unfold FP.Core.sumSign
    split
    · rfl
    · exact decide_eq_false (by omega)
  · rw [hR]; rfl
theorem fp_later {g x : UInt64} (hg : dT g) (hx : dB x) : dB (sLater g x) := by
  have ng := (fn_Tf hg).ne_nan
  have n0 : FP.Core.val64 FP.dconst0 ≠ .nan := fn_nn (by decide)
  have k0 : FP.Core.dkey FP.dconst0 = 0 := by decide +kernel
  have n5 : FP.Core.val64 4647503709213818880 ≠ .nan := fn_nn (by decide)
  have k5 : FP.Core.dkey 4647503709213818880 = 4647503709213818880 := by decide +kernel
  have nx := (fn_Bf hx).ne_nan
  have xx : x.toNat < 2 ^ 63 := by unfold dB at hx; omega
  have kx := fn_pos xx
  obtain ⟨p1, p2, -, -, -⟩ := fn_cmp ng n0
  unfold sLater
  by_cases a1 : (Op.cmpValue (FP.dcmp g FP.dconst0) CmpOp.l) ≤ 0
  · rw [if_pos a1]
    by_cases a2 : 0 ≤ (Op.cmpValue (FP.dcmp g FP.dconst0) CmpOp.g)
    · rw [if_pos a2]; exact hx
    · rw [if_neg a2]
      have nc := (fn_n64 _).mp (fp_cold hg hx).2
      by_cases a3 : (Op.cmpValue (FP.dcmp (sCold g x) 4647503709213818880) CmpOp.l) ≤ 0
      · rw [if_pos a3]
        have g63 : 2 ^ 63 ≤ g.toNat := by
          have z : ¬ FP.Core.dkey FP.dconst0 ≤ FP.Core.dkey g := fun z => a2 (p2.mpr z)
          by_cases y : 2 ^ 63 ≤ g.toNat
          · exact y
          · rw [k0, fn_pos (a := g) (by omega)] at z; omega
        have s1 := fn_coldS hg hx g63
        have := (fn_cmp nc n5).1.mp a3
        rw [k5, fn_pos s1] at this
        unfold dB; omega
      · rw [if_neg a3]; exact Nat.le_refl _
  · rw [if_neg a1]
    by_cases a2 : 0 ≤ (Op.cmpValue (FP.dcmp (sWarm g x) FP.dconst0) CmpOp.g)
    · rw [if_pos a2]
      have nw := (fn_n64 _).mp (fp_warm hg hx).2
      have kw := (fn_cmp nw n0).2.1.mp a2
      have g63 : g.toNat < 2 ^ 63 := by
        by_cases y : g.toNat < 2 ^ 63
        · exact y
        · have z : ¬ FP.Core.dkey g ≤ FP.Core.dkey FP.dconst0 := fun z => a1 (p1.mpr z)
          rw [k0, fn_neg (a := g) (by omega)] at z; omega
      have gT := fn_T hg
      have fy : FP.Core.DFin (FP.Core.dmul 4609434218613702656 g) := FP.Core.fin_of_lt (FP.Core.dmul_mag (a := 4609434218613702656) (b := g) (Ka := 1024) (Kb := 1030) (by decide) (by omega) (by decide) (by decide)) (by decide)
      obtain ⟨cg, qg, eg⟩ := fn_shape (fn_Tf hg)
      obtain ⟨cx, qx, ex⟩ := fn_shape (fn_Bf hx)
      obtain ⟨cy, qy, ey⟩ := fn_shape fy
      rw [decide_eq_false (by omega)] at eg ex
      have e4 : FP.Core.val64 4609434218613702656 = .fin false 6755399441055744 (-52) := by decide +kernel
      have sy : decide (2 ^ 63 ≤ (FP.Core.dmul 4609434218613702656 g).toNat) = false := by
        have h1 : FP.Core.val64 (FP.Core.dmul 4609434218613702656 g) = FP.Core.roundRatio FP.Core.b64 false (6755399441055744 * cg) 1 (-52 + qg) := by
          rw [FP.Core.val64_dmul, e4, eg]; rfl
        have h2 := FP.Core.sgn_roundRatio FP.Core.b64 false (6755399441055744 * cg) 1 (-52 + qg)
        rw [← h1, ey] at h2
        exact h2
      rw [sy] at ey
      have fitx := FP.Core.val64_fits x
      have fity := FP.Core.negate_fits (FP.Core.val64_fits (FP.Core.dmul 4609434218613702656 g))
      have ew : FP.Core.val64 (sWarm g x) = FP.Core.round FP.Core.b64 (FP.Core.exactSum (FP.Core.val64 x) (FP.Core.negate (FP.Core.val64 (FP.Core.dmul 4609434218613702656 g)))) := FP.Core.val64_dsub x (FP.Core.dmul 4609434218613702656 g)
      have zy : FP.Core.zval FP.Core.b64 (FP.Core.negate (FP.Core.val64 (FP.Core.dmul 4609434218613702656 g))) ≤ 0 := by
        rw [ey]
        show -((FP.Core.inUnits cy qy _ : Nat) : Int) ≤ 0
        omega
      have z5 : FP.Core.zval FP.Core.b64 (FP.Core.val64 (sWarm g x)) ≤ FP.Core.zval FP.Core.b64 (FP.Core.val64 4647503709213818880) := by
        rw [ew]
        have zx := (fn_zl nx n5).mp (by rw [k5, kx]; unfold dB at hx; omega)
        exact FP.Core.sum_le FP.Core.good_b64 ⟨_, _, _, ex⟩ ⟨true, cy, qy, by rw [ey]; rfl⟩ fitx fity (FP.Core.val64_fits _) n5 (by omega)
      have k6 := (fn_zl nw n5).mpr z5
      have sw : FP.Core.sgn (FP.Core.val64 (sWarm g x)) = false := by
        rw [ew, ex, ey]
        show FP.Core.sgn (FP.Core.roundRatio FP.Core.b64 (FP.Core.sumSign false true (FP.Core.sumUnits false cx qx true cy qy (min qx qy))) (FP.Core.sumUnits false cx qx true cy qy (min qx qy)).natAbs 1 (min qx qy)) = false
        rw [FP.Core.sgn_roundRatio]
        by_cases v0 : FP.Core.sumUnits false cx qx true cy qy (min qx qy) < 0
        · exfalso
          have fV : FP.Core.fits FP.Core.b64 (.fin true 1 FP.Core.b64.qmin) := ⟨by decide, Int.le_refl _, by decide, Or.inl rfl⟩
          have hq : FP.Core.b64.qmin ≤ min qx qy := by
            rw [ex] at fitx
            rw [ey] at fity
            have := fitx.2.1
            have := fity.2.1
            omega
          have L : FP.Core.zval FP.Core.b64 (FP.Core.round FP.Core.b64 (.fin true (FP.Core.sumUnits false cx qx true cy qy (min qx qy)).natAbs (min qx qy))) ≤ FP.Core.zval FP.Core.b64 (.fin true 1 FP.Core.b64.qmin) := by
            refine FP.Core.zval_round_le FP.Core.good_b64 fV FP.Core.Datum.noConfusion (Int.le_refl _) hq ?_
            have zV : FP.Core.zval FP.Core.b64 (.fin true 1 FP.Core.b64.qmin) = -1 := by decide +kernel
            rw [zV, Int.sub_self]
            show -((FP.Core.inUnits _ _ _ : Nat) : Int) ≤ -1 * ((1 : Nat) : Int)
            have : 0 < FP.Core.inUnits (FP.Core.sumUnits false cx qx true cy qy (min qx qy)).natAbs (min qx qy) FP.Core.b64.qmin := Nat.mul_pos (by omega) (Nat.two_pow_pos _)
            omega
          have e2 : FP.Core.val64 (sWarm g x) = FP.Core.round FP.Core.b64 (.fin true (FP.Core.sumUnits false cx qx true cy qy (min qx qy)).natAbs (min qx qy)) := by
            rw [ew, ex, ey]
            show FP.Core.round FP.Core.b64 (.fin (FP.Core.sumSign false true (FP.Core.sumUnits false cx qx true cy qy (min qx qy))) _ _) = _
            have : FP.Core.sumSign false true (FP.Core.sumUnits false cx qx true cy qy (min qx qy)) = true := by
              unfold FP.Core.sumSign
              rw [if_neg (by omega)]
              exact decide_eq_true v0
            rw [this]; rfl
          rw [← e2] at L
          have zV : FP.Core.zval FP.Core.b64 (.fin true 1 FP.Core.b64.qmin) = -1 := by decide +kernel
          rw [zV] at L
          have z0 : FP.Core.zval FP.Core.b64 (FP.Core.val64 FP.dconst0) = 0 := by decide +kernel
          have := (fn_zl n0 nw).mp kw
          omega
        · unfold FP.Core.sumSign
          split
          · rfl
          · exact decide_eq_false v0
      have s1 := fn_sg nw sw
      rw [k5, fn_pos s1] at k6
      unfold dB; omega
    · rw [if_neg a2]; exact Nat.zero_le _
theorem fp_zero {S : Hp} (c b : Int64) : f_X5_isFromZeroTo S c b = some (bI (0 ≤ b ∧ b ≤ c), S) := fn_zero c b
theorem fp_dB (b : Int64) : (0 ≤ b ∧ b ≤ (4647503709213818880 : Int64)) → dB b.toUInt64 := fun h => by
  have := (fn_le h.1 (c := 4647503709213818880) (by decide)).mp h.2
  exact this
theorem fp_dS (b : Int64) : (0 ≤ b ∧ b ≤ (4633641066610819072 : Int64)) → dB b.toUInt64 := fun h => by
  have := (fn_le h.1 (c := 4633641066610819072) (by decide)).mp h.2
  have : b.toUInt64.toNat ≤ 4633641066610819072 := this
  unfold dB; omega
theorem fp_snl (b : Int64) (h : dB b.toUInt64 ∨ dT b.toUInt64) : vn_snl2d b = false := fn_snl b (h.elim (fun h => (fn_Bf h).ne_nan) (fun h => (fn_Tf h).ne_nan))
theorem fn_inf (b : Int64) : (lg_cmp (b &&& 9223372036854775807) 9218868437227405312) ≤ 0 ↔ FP.Core.val64 b.toUInt64 ≠ .nan := by
  have h := fn_mask b
  rw [lg_cmp_le, FP.Core.ne_nan, Int64.le_iff_toInt_le, h.1]
  show ((_ : Nat) : Int) ≤ 9218868437227405312 ↔ _
  omega
theorem fp_temp (b : Int64) : ((lg_cmp (b &&& 9223372036854775807) 9218868437227405312) ≤ 0 ∧ ¬ (Op.cmpValue (FP.dcmp b.toUInt64 13854198353698488320) CmpOp.l) < 0 ∧ ¬ 0 < (Op.cmpValue (FP.dcmp b.toUInt64 4629137466983448576) CmpOp.g)) ↔ dT b.toUInt64 := by
  have n1 : FP.Core.val64 13854198353698488320 ≠ .nan := by decide +kernel
  have k1 : FP.Core.dkey 13854198353698488320 = -4630826316843712512 := by decide +kernel
  have n2 : FP.Core.val64 4629137466983448576 ≠ .nan := by decide +kernel
  have k2 : FP.Core.dkey 4629137466983448576 = 4629137466983448576 := by decide +kernel
  rw [fn_inf]
  constructor
  · rintro ⟨h1, h2, h3⟩
    have q2 : ¬ FP.Core.dkey b.toUInt64 < FP.Core.dkey 13854198353698488320 := fun z => h2 ((fn_cmp h1 n1).2.2.1.mpr z)
    have q3 : ¬ FP.Core.dkey 4629137466983448576 < FP.Core.dkey b.toUInt64 := fun z => h3 ((fn_cmp h1 n2).2.2.2.1.mpr z)
    rw [k1] at q2
    rw [k2] at q3
    unfold dT
    by_cases c : b.toUInt64.toNat < 2 ^ 63
    · rw [fn_pos c] at q2 q3; omega
    · rw [fn_neg (by omega)] at q2 q3; omega
  · intro h
    have h1 := (fn_Tf h).ne_nan
    refine ⟨h1, fun z => ?_, fun z => ?_⟩
    · have := (fn_cmp h1 n1).2.2.1.mp z
      rw [k1] at this
      rcases h with h | h
      · rw [fn_pos (by omega)] at this; omega
      · rw [fn_neg (by omega)] at this; omega
    · have := (fn_cmp h1 n2).2.2.2.1.mp z
      rw [k2] at this
      rcases h with h | h
      · rw [fn_pos (by omega)] at this; omega
      · rw [fn_neg (by omega)] at this; omega
theorem fp_snl2 (b : Int64) (h : (lg_cmp (b &&& 9223372036854775807) 9218868437227405312) ≤ 0) : vn_snl2d b = false := fn_snl b ((fn_inf b).mp h)
theorem fn_isTemp {S : Hp} (b : Int64) : ∃ v : Int32, f_X5_isTemperature S b = some (v, S) ∧ (v = 0 ∨ v = 1) ∧ (v = 1 ↔ dT b.toUInt64) := by
  unfold f_X5_isTemperature
  by_cases h : 0 ≤ b
  · have p := i64p b h
    rw [if_pos ((lg_cmp_ge _ _).mpr h), fn_zero, cl_go]
    by_cases c : b ≤ 4629137466983448576
    · rw [if_pos ⟨h, c⟩, gd_go (Or.inr rfl)]
      have c2 : b.toUInt64.toNat ≤ 4629137466983448576 := (fn_le h (c := 4629137466983448576) (by decide)).mp c
      exact ⟨1, rfl, Or.inr rfl, ⟨fun _ => Or.inl c2, fun _ => rfl⟩⟩
    · rw [if_neg (fun z => c z.2), gd_go (Or.inl rfl)]
      refine ⟨0, rfl, Or.inl rfl, ⟨fun z => absurd z (by decide), fun z => ?_⟩⟩
      have c2 : ¬ b.toUInt64.toNat ≤ 4629137466983448576 := fun z => c ((fn_le h (c := 4629137466983448576) (by decide)).mpr z)
      rcases z with z | z <;> omega
  · have p := i64n b h
    have m := fn_mask b
    rw [if_neg (fun z => h ((lg_cmp_ge _ _).mp z)), fn_zero, cl_go]
    by_cases c : b &&& 9223372036854775807 ≤ 4630826316843712512
    · rw [if_pos ⟨m.2, c⟩, gd_go (Or.inr rfl)]
      refine ⟨1, rfl, Or.inr rfl, ⟨fun _ => Or.inr ?_, fun _ => rfl⟩⟩
      rw [Int64.le_iff_toInt_le, m.1] at c
      have c2 : ((b.toUInt64.toNat % 2 ^ 63 : Nat) : Int) ≤ 4630826316843712512 := c
      have := b.toUInt64.toNat_lt
      omega
    · rw [if_neg (fun z => c z.2), gd_go (Or.inl rfl)]
      refine ⟨0, rfl, Or.inl rfl, ⟨fun z => absurd z (by decide), fun z => ?_⟩⟩
      rw [Int64.le_iff_toInt_le, m.1] at c
      have c2 : ¬ ((b.toUInt64.toNat % 2 ^ 63 : Nat) : Int) ≤ 4630826316843712512 := c
      have := b.toUInt64.toNat_lt
      rcases z with z | z <;> omega
theorem fp_isTemp1 {S : Hp} (b : Int64) (h : dT b.toUInt64) : f_X5_isTemperature S b = some (1, S) := by
  obtain ⟨v, e, -, q⟩ := fn_isTemp (S := S) b
  rw [e, q.mpr h]
theorem fp_isTemp0 {S : Hp} (b : Int64) (h : ¬ dT b.toUInt64) : f_X5_isTemperature S b = some (0, S) := by
  obtain ⟨v, e, o, q⟩ := fn_isTemp (S := S) b
  rcases o with rfl | rfl
  · exact e
  · exact absurd (q.mp rfl) h
theorem fp_eq0 (a b : UInt64) : (Op.cmpValue (FP.dcmp a b) CmpOp.l) = 0 ↔ (Op.cmpValue (FP.dcmp b a) CmpOp.l) = 0 := fn_eq0 a b
