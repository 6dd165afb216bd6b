/-! doubles out of bits: numberOf -/
/-- the double stands for C / 2^n, just so -/
def Vx (a : UInt64) (C n : Nat) : Prop := n ≤ 1074 ∧ ∃ c q, FP.Core.val64 a = .fin false c q ∧ FP.Core.b64.qmin ≤ q ∧ c * 2 ^ (q + 1074).toNat = C * 2 ^ (1074 - n)
theorem Vx.fin {a : UInt64} {C n : Nat} (h : Vx a C n) : FP.Core.DFin a := by
  obtain ⟨-, c, q, e, -⟩ := h
  exact ⟨_, _, _, e⟩
theorem pw_shift {A B u v : Nat} (h : A * 2 ^ u = B * 2 ^ v) : A * 2 ^ (u - v) = B * 2 ^ (v - u) := by
  by_cases c : u ≤ v
  · rw [show u - v = 0 by omega, Nat.pow_zero, Nat.mul_one]
    refine Nat.eq_of_mul_eq_mul_right (Nat.two_pow_pos u) ?_
    rw [h, Nat.mul_assoc, ← Nat.pow_add, show v - u + u = v by omega]
  · rw [show v - u = 0 by omega, Nat.pow_zero, Nat.mul_one]
    refine Nat.eq_of_mul_eq_mul_right (Nat.two_pow_pos v) ?_
    rw [← h, Nat.mul_assoc, ← Nat.pow_add, show u - v + v = u by omega]
theorem Vx.mul {a b : UInt64} {C D n m : Nat} (ha : Vx a C n) (hb : Vx b D m) (hnm : n + m ≤ 1074) (hC : C * D < 2 ^ 53) : Vx (FP.dmul a b) (C * D) (n + m) := by
  obtain ⟨n1, c, q, e1, l1, v1⟩ := ha
  obtain ⟨m1, d, r, e2, l2, v2⟩ := hb
  have qm := FP.Core.qmin_b64
  have E : FP.Core.val64 (FP.Core.dmul a b) = FP.Core.round FP.Core.b64 (.fin false (C * D) (-((n + m : Nat) : Int))) := by
    rw [FP.Core.val64_dmul, e1, e2]
    show FP.Core.roundRatio FP.Core.b64 false (c * d) 1 (q + r) = FP.Core.roundRatio FP.Core.b64 false (C * D) 1 (-((n + m : Nat) : Int))
    refine FP.Core.roundRatio_congr (by decide) (by decide) ?_
    have H : c * d * 2 ^ ((q + 1074).toNat + (r + 1074).toNat) = C * D * 2 ^ ((1074 - n) + (1074 - m)) := by
      rw [Nat.pow_add, Nat.pow_add, Nat.mul_mul_mul_comm, v1, v2, Nat.mul_mul_mul_comm]
    have := pw_shift H
    rw [Nat.mul_one, Nat.mul_one, show (q + r - -((n + m : Nat) : Int)).toNat = (q + 1074).toNat + (r + 1074).toNat - ((1074 - n) + (1074 - m)) by omega, show (-((n + m : Nat) : Int) - (q + r)).toNat = (1074 - n) + (1074 - m) - ((q + 1074).toNat + (r + 1074).toNat) by omega]
    exact this
  have F := FP.Core.val64_fits (FP.Core.dmul a b)
  obtain ⟨c', q', e3, e4⟩ := FP.Core.round_exact FP.Core.good_b64 false (c := C * D) (q := -((n + m : Nat) : Int)) hC (by omega) (by have z : FP.Core.b64.qmax = 971 := (by decide); omega)
  rw [E, e3] at F
  refine ⟨hnm, c', q', E.trans e3, F.2.1, ?_⟩
  unfold FP.Core.inUnits at e4
  rw [qm] at e4
  rw [show (q' + 1074).toNat = (q' - -1074).toNat by omega, e4, show (-((n + m : Nat) : Int) - -1074).toNat = 1074 - (n + m) by omega]
theorem Vx.z {a : UInt64} {C n : Nat} (h : Vx a C n) : FP.Core.zmag FP.Core.b64 (FP.Core.val64 a) = C * 2 ^ (1074 - n) ∧ a.toNat < 2 ^ 63 ∧ FP.Core.val64 a ≠ .nan := by
  obtain ⟨n1, c, q, e1, l1, v1⟩ := h
  have hn : FP.Core.val64 a ≠ .nan := by rw [e1]; exact FP.Core.Datum.noConfusion
  refine ⟨?_, fn_sg hn (by rw [e1]; rfl), hn⟩
  rw [e1]
  show c * 2 ^ (q - FP.Core.b64.qmin).toNat = _
  rw [FP.Core.qmin_b64, show q - -1074 = q + 1074 by omega, v1]
theorem Vx.eq {a b : UInt64} {C n : Nat} (ha : Vx a C n) (hb : Vx b C n) : a = b := by
  obtain ⟨a1, a2, a3⟩ := ha.z
  obtain ⟨b1, b2, b3⟩ := hb.z
  rw [FP.Core.zmag_bits a3] at a1
  rw [FP.Core.zmag_bits b3] at b1
  have h1 := FP.Core.unitsOf_le_iff.mp (Nat.le_of_eq (a1.trans b1.symm))
  have h2 := FP.Core.unitsOf_le_iff.mp (Nat.le_of_eq (b1.trans a1.symm))
  exact UInt64.toNat_inj.mp (by omega)
theorem Vx.l2d (j : Int64) {J : Nat} (h : j.toInt = (J : Int)) (hJ : J < 2 ^ 53) : Vx (FP.l2d j) J 0 := by
  have qm := FP.Core.qmin_b64
  have E : FP.Core.val64 (FP.Core.l2d j) = FP.Core.round FP.Core.b64 (.fin false J 0) := by
    rw [FP.Core.val64_l2d, h]
    unfold FP.Core.ofInt
    rw [decide_eq_false (by omega), Int.natAbs_natCast]
  have F := FP.Core.val64_fits (FP.Core.l2d j)
  obtain ⟨c', q', e3, e4⟩ := FP.Core.round_exact FP.Core.good_b64 false (c := J) (q := 0) hJ (by omega) (by decide)
  rw [E, e3] at F
  refine ⟨by omega, c', q', E.trans e3, F.2.1, ?_⟩
  unfold FP.Core.inUnits at e4
  rw [qm] at e4
  rw [show (q' + 1074).toNat = (q' - -1074).toNat by omega, e4]
  rfl
theorem Vx.one : Vx FP.dconst1 1 0 := by
  refine ⟨by decide, 2 ^ 52, -52, FP.Core.val64_dconst1, by decide, ?_⟩
  rw [show ((-52 : Int) + 1074).toNat = 1022 from rfl, ← Nat.pow_add, Nat.one_mul]
theorem Vx.half : Vx 4602678819172646912 1 1 := by
  refine ⟨by decide, 2 ^ 52, -53, by decide +kernel, by decide, ?_⟩
  rw [show ((-53 : Int) + 1074).toNat = 1021 from rfl, ← Nat.pow_add, Nat.one_mul]
theorem y_halved_L {S : Hp} {n : Nat} (hn : n ≤ 1074) : ∀ m k fuel (y1 y3 : UInt64), k + m = 11 → m < fuel → Vx y1 1 (n % 2 ^ k) → FP.Core.DFin y3 → (k ≤ 10 → Vx y3 1 (2 ^ k)) → ∃ e, f_X5_halved_L9 fuel S (nI n) y1 y3 (nI k) = some (e, S) ∧ Vx e 1 n := by
  intro m
  induction m with
  | zero =>
    intro k fuel y1 y3 hk hf h1 hF h3
    obtain ⟨f, rfl⟩ : ∃ f, fuel = f + 1 := ⟨fuel - 1, by omega⟩
    show ∃ e, f_X5_halved_L9_b (f_X5_halved_L9 f) _ _ _ _ _ = _ ∧ _
    unfold f_X5_halved_L9_b
    have hk : k = 11 := by omega
    subst hk
    rw [if_pos (show (11 : Int32) ≤ nI 11 by decide)]
    rw [Nat.mod_eq_of_lt (show n < 2 ^ 11 by omega)] at h1
    exact ⟨y1, rfl, h1⟩
  | succ m ih =>
    intro k fuel y1 y3 hk hf h1 hF h3
    obtain ⟨f, rfl⟩ : ∃ f, fuel = f + 1 := ⟨fuel - 1, by omega⟩
    show ∃ e, f_X5_halved_L9_b (f_X5_halved_L9 f) _ _ _ _ _ = _ ∧ _
    unfold f_X5_halved_L9_b
    have S1 : ∀ k, k < 11 → ((nI k).toBitVec.smod 32).toNat = k := by decide
    have b1 : nI k &&& 31 = nI k := by
      rw [pk_andN (by omega) 5 (by decide), Nat.mod_eq_of_lt (by omega)]
    have b2 : ((nI n >>> (nI k &&& 31)) &&& 1) = nI (n / 2 ^ k % 2) := by
      rw [b1, pk_shrN (by omega) (nI k) k (S1 k (by omega)), pk_andN (Nat.lt_of_le_of_lt (Nat.div_le_self _ _) (by omega)) 1 (by decide)]
    have step := Nat.mod_pow_succ (x := n) (b := 2) (k := k)
    have v3 := h3 (by omega)
    have nsq : vf_n64 (FP.dmul y3 y3) := (fn_n64 _).mpr ((FP.Core.notNaN_iff _).mp (FP.Core.dmul_out v3.fin v3.fin))
    have sq : k + 1 ≤ 10 → Vx (FP.dmul y3 y3) 1 (2 ^ (k + 1)) := fun hk => by
      have p : 2 ^ (k + 1) ≤ 2 ^ 10 := Nat.pow_le_pow_right (by decide) hk
      have e : 2 ^ (k + 1) = 2 ^ k + 2 ^ k := by rw [Nat.pow_succ]; omega
      have := v3.mul v3 (by omega) (by decide)
      rw [e]; exact this
    have fsq : FP.Core.DFin (FP.dmul y3 y3) := by
      refine FP.Core.fin_of_lt (FP.Core.dmul_mag (a := y3) (b := y3) (Ka := 1024) (Kb := 1024) ?_ ?_ (by decide) (by decide)) (by decide)
      all_goals
        obtain ⟨z1, z2, z3⟩ := v3.z
        rw [FP.Core.zmag_bits z3] at z1
        refine Nat.lt_of_not_le (fun w => ?_)
        have w2 := (FP.Core.unitsOf_le_iff (f := FP.Core.b64)).mpr w
        rw [z1] at w2
        have w3 := FP.Core.unitsOf_start (f := FP.Core.b64) (K := 1024) (by decide)
        rw [FP.Core.tails_b64, show 1024 - 1 = 1023 from rfl] at w3
        rw [w3, Nat.one_mul, ← Nat.pow_add] at w2
        have := (Nat.pow_le_pow_iff_right (by decide : 1 < 2)).mp w2
        have := Nat.two_pow_pos k
        omega
    rw [if_neg (show ¬ (11 : Int32) ≤ nI k from nI_ge (b := 11) (by omega) (by decide)), b2]
    have m2 := Nat.mod_lt (n / 2 ^ k) (by decide : 0 < 2)
    by_cases c : n / 2 ^ k % 2 = 0
    · rw [if_pos (by rw [c]; rfl), fpg_go nsq, show ∀ {α β : Type} (x : α) (k : α → Option β), bnd x k = k x from fun _ _ => rfl, show ∀ {α β : Type} (x : α) (k : α → Option β), bnd x k = k x from fun _ _ => rfl, nI_1]
      rw [c, Nat.mul_zero, Nat.add_zero] at step
      exact ih (k + 1) f y1 (FP.dmul y3 y3) (by omega) (by omega) (by rw [step]; exact h1) fsq sq
    · have c1 : n / 2 ^ k % 2 = 1 := by omega
      rw [c1, Nat.mul_one] at step
      have lim : n % 2 ^ k + 2 ^ k ≤ 1074 := by rw [← step]; exact Nat.le_trans (Nat.mod_le _ _) hn
      have h4 := h1.mul v3 lim (by decide)
      have n4 : vf_n64 (FP.dmul y1 y3) := (fn_n64 _).mpr ((FP.Core.notNaN_iff _).mp (FP.Core.dmul_out h1.fin v3.fin))
      rw [if_neg (by rw [c1]; decide), fpg_go n4, show ∀ {α β : Type} (x : α) (k : α → Option β), bnd x k = k x from fun _ _ => rfl, fpg_go nsq, show ∀ {α β : Type} (x : α) (k : α → Option β), bnd x k = k x from fun _ _ => rfl, show ∀ {α β : Type} (x : α) (k : α → Option β), bnd x k = k x from fun _ _ => rfl, nI_1]
      exact ih (k + 1) f (FP.dmul y1 y3) (FP.dmul y3 y3) (by omega) (by omega) (by rw [step]; exact h4) fsq sq
theorem y_halved {S : Hp} {n : Nat} (hn : n ≤ 1074) : ∃ e, f_X5_halved S (nI n) = some (e, S) ∧ Vx e 1 n := by
  refine y_halved_L (S := S) hn 11 0 1000 FP.dconst1 4602678819172646912 (by omega) (by omega) ?_ Vx.half.fin (fun _ => Vx.half)
  rw [Nat.pow_zero, Nat.mod_one]; exact Vx.one
theorem num_exp (x : Int64) : ((((x.toUInt64 >>> ((52 : Int32).toInt64.toUInt64 &&& Int64.toUInt64 63)).toInt64).toInt32) &&& 2047) = nI (x.toUInt64.toNat / 2 ^ 52 % 2 ^ 11) := by
  rw [pk_and _ 11 (by decide)]
  have s : ((52 : Int32).toInt64.toUInt64 &&& Int64.toUInt64 63) = 52 := by decide
  rw [s]
  have e : (x.toUInt64 >>> 52).toNat = x.toUInt64.toNat / 2 ^ 52 := by
    rw [UInt64.toNat_shiftRight, show (52 : UInt64).toNat % 64 = 52 from rfl, Nat.shiftRight_eq_div_pow]
  have e2 : ((x.toUInt64 >>> 52).toInt64.toInt32).toBitVec.toNat = (x.toUInt64 >>> 52).toNat % 2 ^ 32 := by
    rw [Int64.toBitVec_toInt32]
    rw [BitVec.signExtend_eq_setWidth_of_le _ (by decide), BitVec.toNat_setWidth]
    rfl
  rw [e2, e, Nat.mod_mod_of_dvd _ (by decide : 2 ^ 11 ∣ 2 ^ 32)]
theorem num_frac (x : Int64) : (x &&& 4503599627370495).toInt = ((x.toUInt64.toNat % 2 ^ 52 : Nat) : Int) := by
  have h := i64c (x &&& 4503599627370495)
  have e : (x &&& 4503599627370495).toUInt64.toNat = x.toUInt64.toNat % 2 ^ 52 := by
    show x.toUInt64.toNat &&& (2 ^ 52 - 1) = _
    exact Nat.and_two_pow_sub_one_eq_mod _ 52
  rw [e, if_pos (by omega)] at h
  exact h
theorem num_or (x : Int64) : ((x &&& 4503599627370495) ||| 4503599627370496).toInt = ((2 ^ 52 + x.toUInt64.toNat % 2 ^ 52 : Nat) : Int) := by
  have h := i64c ((x &&& 4503599627370495) ||| 4503599627370496)
  have e : ((x &&& 4503599627370495) ||| 4503599627370496).toUInt64.toNat = 2 ^ 52 + x.toUInt64.toNat % 2 ^ 52 := by
    show (x.toUInt64.toNat &&& (2 ^ 52 - 1)) ||| 2 ^ 52 = _
    rw [Nat.and_two_pow_sub_one_eq_mod, Nat.or_comm]
    have := Nat.two_pow_add_eq_or_of_lt (Nat.mod_lt x.toUInt64.toNat (Nat.two_pow_pos 52)) 1
    rw [Nat.mul_one] at this
    exact this.symm
  rw [e, if_pos (by omega)] at h
  exact h
/-- what the bits stand for, without their sign -/
theorem Vx.bits {a : UInt64} (h : a.toNat < 2 ^ 63) (h2 : a.toNat / 2 ^ 52 ≤ 1074) : (a.toNat / 2 ^ 52 = 0 → Vx a (a.toNat % 2 ^ 52) 1074) ∧ (1 ≤ a.toNat / 2 ^ 52 → Vx a (2 ^ 52 + a.toNat % 2 ^ 52) (1075 - a.toNat / 2 ^ 52)) := by
  have t : FP.Core.b64.tails = 2 ^ 52 := by decide
  have x : FP.Core.b64.exps = 2048 := by decide
  have fT : FP.Core.fieldT FP.Core.b64 a.toNat = a.toNat % 2 ^ 52 := by unfold FP.Core.fieldT; rw [t]
  have fE : FP.Core.fieldE FP.Core.b64 a.toNat = a.toNat / 2 ^ 52 := by unfold FP.Core.fieldE; rw [t, x, Nat.mod_eq_of_lt (by omega)]
  have fS : FP.Core.fieldS FP.Core.b64 a.toNat = false := by
    unfold FP.Core.fieldS
    rw [t, x, show a.toNat / 2 ^ 52 / 2048 % 2 = 0 by omega]; rfl
  have qm := FP.Core.qmin_b64
  have D : FP.Core.val64 a = if a.toNat / 2 ^ 52 = 0 then .fin false (a.toNat % 2 ^ 52) FP.Core.b64.qmin else .fin false (2 ^ 52 + a.toNat % 2 ^ 52) (FP.Core.b64.qmin + (((a.toNat / 2 ^ 52 : Nat) : Int) - 1)) := by
    show FP.Core.decode FP.Core.b64 a.toNat = _
    unfold FP.Core.decode
    rw [fE, fT, fS, t, x, if_neg (by omega)]
  constructor
  · intro z
    rw [if_pos z] at D
    refine ⟨Nat.le_refl _, _, _, D, Int.le_refl _, ?_⟩
    rw [qm]; rfl
  · intro z
    rw [if_neg (by omega)] at D
    refine ⟨by omega, _, _, D, by omega, ?_⟩
    rw [qm, show (-1074 + (((a.toNat / 2 ^ 52 : Nat) : Int) - 1) + 1074).toNat = 1074 - (1075 - a.toNat / 2 ^ 52) by omega]
theorem fp_num {S : Hp} (b : Int64) (h : dB b.toUInt64 ∨ dT b.toUInt64) : f_X5_numberOf S b = some (b.toUInt64, S) := by
  have lt := b.toUInt64.toNat_lt
  have H : b.toUInt64.toNat % 2 ^ 63 ≤ 4647503709213818880 ∧ b.toUInt64.toNat < 2 ^ 64 := by
    rcases h with h | h
    · unfold dB at h; omega
    · have := fn_T h; omega
  -- the bits without their sign
  obtain ⟨a, ha⟩ : ∃ a : UInt64, a.toNat = b.toUInt64.toNat % 2 ^ 63 := ⟨b.toUInt64 &&& 0x7fffffffffffffff, FP.Core.mask_toNat _⟩
  have a63 : a.toNat < 2 ^ 63 := by omega
  have hE : b.toUInt64.toNat / 2 ^ 52 % 2 ^ 11 = a.toNat / 2 ^ 52 := by omega
  have hT : b.toUInt64.toNat % 2 ^ 52 = a.toNat % 2 ^ 52 := by omega
  have eL : a.toNat / 2 ^ 52 ≤ 1031 := by omega
  obtain ⟨V0, V1⟩ := Vx.bits a63 (by omega)
  have an : FP.Core.val64 a ≠ .nan := fn_nn (by omega)
  -- the sign back
  have sgn : (if 0 ≤ (lg_cmp b 0) then some (a, S) else some ((FP.dneg a), S)) = some (b.toUInt64, S) := by
    by_cases c : 0 ≤ b
    · have p := i64p b c
      rw [if_pos ((lg_cmp_ge _ _).mpr c)]
      have : a = b.toUInt64 := UInt64.toNat_inj.mp (by omega)
      rw [this]
    · have p := i64n b c
      rw [if_neg (fun z => c ((lg_cmp_ge _ _).mp z))]
      have e1 : FP.Core.val64 b.toUInt64 = FP.Core.negate (FP.Core.val64 a) := FP.Core.val64_neg_bits (Or.inr (by omega))
      have e2 : FP.Core.val64 (FP.dneg a) = FP.Core.negate (FP.Core.val64 a) := FP.val64_dneg a
      have : FP.dneg a = b.toUInt64 := FP.Core.val64_inj (by rw [e2]; exact FP.Core.negate_ne_nan an) (e2.trans e1.symm)
      rw [this]
  unfold f_X5_numberOf
  rw [show ∀ {α β : Type} (x : α) (k : α → Option β), bnd x k = k x from fun _ _ => rfl, show ∀ {α β : Type} (x : α) (k : α → Option β), bnd x k = k x from fun _ _ => rfl, num_exp, hE]
  by_cases z : a.toNat / 2 ^ 52 = 0
  · obtain ⟨e, he, ve⟩ := y_halved (S := S) (n := 1074) (Nat.le_refl _)
    have vj : Vx (FP.l2d (b &&& 4503599627370495)) (a.toNat % 2 ^ 52) 0 := Vx.l2d _ (by rw [num_frac, hT]) (by omega)
    have vp := vj.mul ve (by omega) (by omega)
    rw [Nat.mul_one, Nat.zero_add] at vp
    have ea : FP.dmul (FP.l2d (b &&& 4503599627370495)) e = a := vp.eq (V0 z)
    rw [if_pos (by rw [z]; rfl), show f_X5_halved S (1074 : Int32) = _ from he, cl_go, ea, fpg_go ((fn_n64 _).mpr an), show ∀ {α β : Type} (x : α) (k : α → Option β), bnd x k = k x from fun _ _ => rfl]
    exact sgn
  · obtain ⟨e, he, ve⟩ := y_halved (S := S) (n := 1075 - a.toNat / 2 ^ 52) (by omega)
    have vj : Vx (FP.l2d ((b &&& 4503599627370495) ||| 4503599627370496)) (2 ^ 52 + a.toNat % 2 ^ 52) 0 := Vx.l2d _ (by rw [num_or, hT]) (by omega)
    have vp := vj.mul ve (by omega) (by omega)
    rw [Nat.mul_one, Nat.zero_add] at vp
    have ea : FP.dmul (FP.l2d ((b &&& 4503599627370495) ||| 4503599627370496)) e = a := vp.eq (V1 (by omega))
    rw [if_neg (nI_ne0 (by omega) (by omega)), show (1075 : Int32) - nI (a.toNat / 2 ^ 52) = nI (1075 - a.toNat / 2 ^ 52) from pk_sub (a := 1075) (by omega), he, cl_go, ea, fpg_go ((fn_n64 _).mpr an), show ∀ {α β : Type} (x : α) (k : α → Option β), bnd x k = k x from fun _ _ => rfl]
    exact sgn
