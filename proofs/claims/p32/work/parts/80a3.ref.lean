/-! doubles: the part that is refunded -/
def sShare (x : Int32) : UInt64 := if x < 14 then if x < 7 then if x < 3 then FP.dconst0 else 4602678819172646912 else 4604930618986332160 else FP.dconst1
theorem m4 (a b c d : Nat) : a * b * c * d = (a * c) * (b * d) := by ac_rfl
theorem m5 (p Q d R : Nat) : (p * Q) * (d * R) = p * d * R * Q := by ac_rfl
/-- a number from 0 on, at most U of the least ones -/
def Bd (a : UInt64) (U : Nat) : Prop := ∃ c q, FP.Core.val64 a = .fin false c q ∧ FP.Core.zmag FP.Core.b64 (FP.Core.val64 a) ≤ U
theorem Bd.n64 {a : UInt64} {U : Nat} (h : Bd a U) : vf_n64 a := by
  obtain ⟨c, q, e, -⟩ := h
  exact (fn_n64 a).mpr (by rw [e]; exact FP.Core.Datum.noConfusion)
theorem Vx.bd {a : UInt64} {C n U : Nat} (h : Vx a C n) (hU : C * 2 ^ (1074 - n) ≤ U) : Bd a U := by
  obtain ⟨-, c, q, e, -⟩ := id h
  exact ⟨c, q, e, by rw [h.z.1]; exact hU⟩
theorem Vx.i2d {p : Nat} (hp : p < 2 ^ 31) : Vx (FP.i2d (nI p)) p 0 := by
  rw [show FP.i2d (nI p) = FP.l2d (nI p).toInt64 from FP.Core.i2d_l2d (nI p)]
  exact Vx.l2d _ (by rw [Int32.toInt_toInt64, nI_toInt hp]) (by omega)
theorem bd_V {M : Nat} (hM : M < 2 ^ 53) : ∃ c q, FP.Core.fits FP.Core.b64 (.fin false c q) ∧ FP.Core.zmag FP.Core.b64 (.fin false c q) = M * 2 ^ 1054 := by
  have qm := FP.Core.qmin_b64
  obtain ⟨c, q, e1, e2⟩ := FP.Core.round_exact FP.Core.good_b64 false (c := M) (q := -20) hM (by omega) (by decide)
  have F := FP.Core.round_fits FP.Core.good_b64 (.fin false M (-20))
  rw [e1] at F
  refine ⟨c, q, F, ?_⟩
  show FP.Core.inUnits c q FP.Core.b64.qmin = _
  rw [e2]
  unfold FP.Core.inUnits
  rw [qm]; rfl
theorem bd_round {a : UInt64} {A B M : Nat} {e e0 : Int} (hE : FP.Core.val64 a = FP.Core.roundRatio FP.Core.b64 false A B e) (hB : 0 < B) (hM : M < 2 ^ 53) (h0 : e0 ≤ FP.Core.b64.qmin) (h0e : e0 ≤ e) (h : FP.Core.inUnits A e e0 ≤ M * 2 ^ 1054 * 2 ^ (FP.Core.b64.qmin - e0).toNat * B) : Bd a (M * 2 ^ 1054) := by
  obtain ⟨c, q, F, z⟩ := bd_V hM
  have L := FP.Core.zmag_roundRatio_le FP.Core.good_b64 (s := false) (A := A) hB F FP.Core.Datum.noConfusion h0 h0e (by rw [z]; exact h)
  have top := FP.Core.zmag_lt_top FP.Core.good_b64 F
  rw [z] at L
  rcases FP.Core.roundRatio_cases FP.Core.b64 false A B e with ⟨c', q', hR⟩ | hR
  · exact ⟨c', q', hE.trans hR, by rw [hE]; exact L⟩
  · exfalso
    rw [hR] at L
    have z2 : FP.Core.inUnits c q FP.Core.b64.qmin = M * 2 ^ 1054 := z
    rw [z2] at top
    exact Nat.lt_irrefl _ (Nat.lt_of_lt_of_le top L)
theorem bd_div {a b : UInt64} {p g m : Nat} (ha : Vx a p 0) (hb : Vx b g 0) (hg : 0 < g) (hm : p * 2 ^ 20 ≤ m * g) (hM : m < 2 ^ 53) : Bd (FP.ddiv a b) (m * 2 ^ 1054) := by
  obtain ⟨-, c, q, e1, l1, v1⟩ := ha
  obtain ⟨-, d, r, e2, l2, v2⟩ := hb
  have qm := FP.Core.qmin_b64
  have d0 : ¬ d = 0 := by
    rintro rfl
    rw [Nat.zero_mul] at v2
    have := Nat.mul_pos hg (Nat.two_pow_pos (1074 - 0))
    omega
  have E : FP.Core.val64 (FP.Core.ddiv a b) = FP.Core.roundRatio FP.Core.b64 false p g 0 := by
    rw [FP.Core.val64_ddiv, e1, e2]
    show (if d = 0 then _ else FP.Core.roundRatio FP.Core.b64 false c d (q - r)) = _
    rw [if_neg d0]
    refine FP.Core.roundRatio_congr (by omega) hg ?_
    have H : c * g * 2 ^ (q + 1074).toNat = p * d * 2 ^ (r + 1074).toNat := by
      refine Nat.eq_of_mul_eq_mul_right (Nat.two_pow_pos (1074 - 0)) ?_
      calc c * g * 2 ^ (q + 1074).toNat * 2 ^ (1074 - 0) = (c * 2 ^ (q + 1074).toNat) * (g * 2 ^ (1074 - 0)) := m4 _ _ _ _
        _ = (p * 2 ^ (1074 - 0)) * (d * 2 ^ (r + 1074).toNat) := by rw [v1, v2]
        _ = p * d * 2 ^ (r + 1074).toNat * 2 ^ (1074 - 0) := m5 _ _ _ _
    have := pw_shift H
    rw [show (q - r - 0).toNat = (q + 1074).toNat - (r + 1074).toNat by omega, show (0 - (q - r)).toNat = (r + 1074).toNat - (q + 1074).toNat by omega]
    exact this
  refine bd_round E hg hM (Int.le_refl _) (by omega) ?_
  rw [Int.sub_self, Int.toNat_zero, Nat.pow_zero, Nat.mul_one]
  unfold FP.Core.inUnits
  rw [qm, show (0 - -1074 : Int).toNat = 20 + 1054 from rfl, Nat.pow_add]
  calc p * (2 ^ 20 * 2 ^ 1054) = p * 2 ^ 20 * 2 ^ 1054 := (Nat.mul_assoc _ _ _).symm
    _ ≤ m * g * 2 ^ 1054 := Nat.mul_le_mul_right _ hm
    _ = m * 2 ^ 1054 * g := Nat.mul_right_comm _ _ _
theorem bd_mul {a b : UInt64} {U W M : Nat} (ha : Bd a U) (hb : Bd b W) (h : U * W ≤ M * 2 ^ 1054 * 2 ^ 1074) (hM : M < 2 ^ 53) : Bd (FP.dmul a b) (M * 2 ^ 1054) := by
  obtain ⟨c, q, e1, z1⟩ := ha
  obtain ⟨d, r, e2, z2⟩ := hb
  have qm := FP.Core.qmin_b64
  have F1 := FP.Core.val64_fits a
  have F2 := FP.Core.val64_fits b
  rw [e1] at F1 z1
  rw [e2] at F2 z2
  obtain ⟨p1, p2, p3⟩ := FP.Core.product_units F1 F2
  have E : FP.Core.val64 (FP.Core.dmul a b) = FP.Core.roundRatio FP.Core.b64 false (c * d) 1 (q + r) := by
    rw [FP.Core.val64_dmul, e1, e2, p1]; rfl
  refine bd_round E (by decide) hM (e0 := 2 * FP.Core.b64.qmin) (by omega) p2 ?_
  rw [p3, Nat.mul_one, show (FP.Core.b64.qmin - 2 * FP.Core.b64.qmin).toNat = 1074 by rw [qm]; rfl]
  exact Nat.le_trans (Nat.mul_le_mul z1 z2) h
theorem bd_share (x : Int32) : Bd (sShare x) (2 ^ 1074) := by
  unfold sShare
  have h3 : Vx 4604930618986332160 3 2 := by
    refine ⟨by decide, 6755399441055744, -53, by decide +kernel, by decide, ?_⟩
    rw [show ((-53 : Int) + 1074).toNat = 1021 from rfl, show (6755399441055744 : Nat) = 3 * 2 ^ 51 from rfl, Nat.mul_assoc, ← Nat.pow_add]
  split
  · split
    · split
      · have e0 : FP.Core.val64 FP.dconst0 = .fin false 0 FP.Core.b64.qmin := FP.Core.val64_dconst0
        exact ⟨0, _, e0, by rw [e0]; show 0 * _ ≤ _; rw [Nat.zero_mul]; exact Nat.zero_le _⟩
      · exact Vx.half.bd (by rw [Nat.one_mul]; exact Nat.pow_le_pow_right (by decide) (by decide))
    · refine h3.bd ?_
      rw [show 1074 - 2 = 1072 from rfl, show 1074 = 2 + 1072 from rfl, Nat.pow_add]
      exact Nat.mul_le_mul_right _ (by decide)
  · exact Vx.one.bd (by rw [Nat.one_mul]; exact Nat.le_refl _)
theorem fp_refund (p g l : Nat) (x : Int32) (hp : p ≤ 67108864) (hl : 1 ≤ l) (hg : l ≤ g) (h12 : g ≤ 12) :
    vf_n64 (FP.ddiv (FP.i2d (nI p)) (FP.i2d (nI g))) ∧ vf_n64 (FP.dmul (FP.ddiv (FP.i2d (nI p)) (FP.i2d (nI g))) (FP.i2d (nI l))) ∧ vf_n64 (FP.dmul (FP.dmul (FP.ddiv (FP.i2d (nI p)) (FP.i2d (nI g))) (FP.i2d (nI l))) (sShare x)) ∧ ∃ q : Nat, q ≤ p ∧ FP.d2i (FP.dmul (FP.dmul (FP.ddiv (FP.i2d (nI p)) (FP.i2d (nI g))) (FP.i2d (nI l))) (sShare x)) = nI q := by
  have hm := Nat.div_add_mod (p * 2 ^ 20 + g - 1) g
  have hr := Nat.mod_lt (p * 2 ^ 20 + g - 1) (show 0 < g by omega)
  obtain ⟨m, em⟩ : ∃ m, m = (p * 2 ^ 20 + g - 1) / g := ⟨_, rfl⟩
  rw [← em] at hm
  have hm1 : p * 2 ^ 20 ≤ m * g := by rw [Nat.mul_comm m g]; omega
  have hm2 : m * g ≤ p * 2 ^ 20 + 11 := by rw [Nat.mul_comm m g]; omega
  have hml : m * l ≤ m * g := Nat.mul_le_mul_left _ hg
  have hm3 : m ≤ m * l := Nat.le_mul_of_pos_right _ hl
  have b1 := bd_div (m := m) (Vx.i2d (p := p) (by omega)) (Vx.i2d (p := g) (by omega)) (by omega) hm1 (by omega)
  have bl : Bd (FP.i2d (nI l)) (l * 2 ^ 1074) := (Vx.i2d (p := l) (by omega)).bd (Nat.le_refl _)
  have b2 := bd_mul (M := m * l) b1 bl (Nat.le_of_eq (m4 m l (2 ^ 1054) (2 ^ 1074)).symm) (by omega)
  have b3 := bd_mul (M := m * l) b2 (bd_share x) (Nat.le_refl _) (by omega)
  refine ⟨b1.n64, b2.n64, b3.n64, ?_⟩
  have n3 := (fn_n64 _).mp b3.n64
  have dv := FP.Core.d2i_val n3
  obtain ⟨c, q, e, z⟩ := b3
  have sg : FP.Core.sgn (FP.Core.val64 (FP.dmul (FP.dmul (FP.ddiv (FP.i2d (nI p)) (FP.i2d (nI g))) (FP.i2d (nI l))) (sShare x))) = false := by rw [e]; rfl
  rw [sg] at dv
  generalize FP.Core.zmag FP.Core.b64 (FP.Core.val64 (FP.dmul (FP.dmul (FP.ddiv (FP.i2d (nI p)) (FP.i2d (nI g))) (FP.i2d (nI l))) (sShare x))) = k at z dv
  have hk : k / FP.Core.one64 < p + 1 := by
    refine (Nat.div_lt_iff_lt_mul FP.Core.one64_pos).mpr (Nat.lt_of_le_of_lt z ?_)
    unfold FP.Core.one64
    rw [show 1074 = 20 + 1054 from rfl, Nat.pow_add, ← Nat.mul_assoc]
    exact Nat.mul_lt_mul_of_pos_right (by omega) (Nat.two_pow_pos _)
  generalize k / FP.Core.one64 = w at hk dv
  refine ⟨w, by omega, Int32.toInt.inj ?_⟩
  rw [nI_toInt (by omega), show (FP.d2i (FP.dmul (FP.dmul (FP.ddiv (FP.i2d (nI p)) (FP.i2d (nI g))) (FP.i2d (nI l))) (sShare x))).toInt = _ from dv]
  show max (-2 ^ 31) (min (2 ^ 31 - 1) (w : Int)) = _
  omega
