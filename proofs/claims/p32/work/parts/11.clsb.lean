abbrev rm_X2_dayLater : Room := { frames := 0, cells := 0, slots := 0, locals := 0 }
theorem dsX2_dayLater : yX2_dayLater.cls = RX2 ∧ yX2_dayLater.cls ≠ "java/lang/invoke/MethodHandle" ∧ yX2_dayLater.cls ≠ "java/lang/invoke/VarHandle" ∧ (parseMethodDescriptor yX2_dayLater.desc).map (fun d => d.parameters.length) = some 1 := by decide +kernel
def f_X2_dayLater (S : Hp) (x0 : Nat) (x1 : UInt64) : Option (UInt64 × Hp) :=
 ob S 2 (some x0) fun _ =>
 if (Op.cmpValue (FP.dcmp (zD S x0 8) FP.dconst0) CmpOp.l) ≤ 0 then
 if 0 ≤ (Op.cmpValue (FP.dcmp (zD S x0 8) FP.dconst0) CmpOp.g) then
 some (x1, S)
 else
 fpg (FP.dmul 4598175219545276416 (zD S x0 8)) <|
 fpg (FP.dsub x1 (FP.dmul 4598175219545276416 (zD S x0 8))) <|
 bnd ((FP.dsub x1 (FP.dmul 4598175219545276416 (zD S x0 8)))) fun e1 =>
 if (Op.cmpValue (FP.dcmp e1 4647503709213818880) CmpOp.l) ≤ 0 then
 some (e1, S)
 else
 some (4647503709213818880, S)
 else
 fpg (FP.dmul 4609434218613702656 (zD S x0 8)) <|
 fpg (FP.dsub x1 (FP.dmul 4609434218613702656 (zD S x0 8))) <|
 bnd ((FP.dsub x1 (FP.dmul 4609434218613702656 (zD S x0 8)))) fun e2 =>
 if 0 ≤ (Op.cmpValue (FP.dcmp e2 FP.dconst0) CmpOp.g) then
 some (e2, S)
 else
 some (FP.dconst0, S)
set_option maxHeartbeats 4000000 in
set_option maxRecDepth 100000 in
theorem c_X2_dayLater (S : Hp) (x0 : Nat) (x1 : UInt64) (o : UInt64 × Hp) (h : f_X2_dayLater S x0 x1 = some o) : CtD yX2_dayLater cX2_dayLater 5 (some .double) rm_X2_dayLater 0 0 [va_rf (some x0), .double x1] S o := by
  refine ct_D (own := RX2) (by decide) rfl (Nat.le_of_ble_eq_true rfl) (fun X C hn hQ => ?_)
  have hn4 : 4 < xn X := by rw [hn]; decide
  unfold f_X2_dayLater at h
  show GW X 0 0 S 0 [(0, va_rf (some x0)), (1, .double x1)] []
  refine g_aload_n C (q := 0) dX2_dayLater_0 rfl rfl ?_
  refine g_ogetSD C (ci := 2) (slot := 8) rfl (by decide) inlX2 (by decide) rfl q122 dX2_dayLater_1 h (fun h hLa1 hKa1 => ?_)
  refine g_dconst0 C dX2_dayLater_4 ?_
  refine g_dcmp C dX2_dayLater_5 ?_
  refine g_if_le C (tgt := 32) dX2_dayLater_6 (by decide) h (fun h => ?_) (fun h => ?_)
  · refine g_aload_n C (q := 0) dX2_dayLater_32 rfl rfl ?_
    refine g_getED C (ci := 2) (slot := 8) rfl (by decide) inlX2 (by decide) rfl q122 dX2_dayLater_33 rfl hLa1 hKa1 ?_
    refine g_dconst0 C dX2_dayLater_36 ?_
    refine g_dcmp C dX2_dayLater_37 ?_
    refine g_if_ge C (tgt := 68) dX2_dayLater_38 (by decide) h (fun h => ?_) (fun h => ?_)
    · refine g_dload_n C (q := 1) dX2_dayLater_68 rfl rfl ?_
      exact g_dret C hQ dX2_dayLater_69 h
    · refine g_dload_n C (q := 1) dX2_dayLater_41 rfl rfl ?_
      refine g_ldc2d C q559 dX2_dayLater_42 ?_
      refine g_aload_n C (q := 0) dX2_dayLater_45 rfl rfl ?_
      refine g_getED C (ci := 2) (slot := 8) rfl (by decide) inlX2 (by decide) rfl q122 dX2_dayLater_46 rfl hLa1 hKa1 ?_
      refine g_dmul C dX2_dayLater_49 h (fun h => ?_)
      refine g_dsub C dX2_dayLater_50 h (fun h => ?_)
      refine g_nmD h (fun e1 h => ?_)
      refine g_dstore_n C (i := 3) (lv' := [(3, .double e1), (0, va_rf (some x0)), (1, .double x1)]) dX2_dayLater_51 rfl hn4 rfl ?_
      refine g_dload_n C (q := 0) dX2_dayLater_52 rfl rfl ?_
      refine g_ldc2d C q560 dX2_dayLater_53 ?_
      refine g_dcmp C dX2_dayLater_56 ?_
      refine g_if_le C (tgt := 66) dX2_dayLater_57 (by decide) h (fun h => ?_) (fun h => ?_)
      · refine g_dload_n C (q := 0) dX2_dayLater_66 rfl rfl ?_
        exact g_dret C hQ dX2_dayLater_67 h
      · refine g_ldc2d C q560 dX2_dayLater_60 ?_
        refine g_goto C (tgt := 67) dX2_dayLater_63 (by decide) ?_
        exact g_dret C hQ dX2_dayLater_67 h
  · refine g_dload_n C (q := 1) dX2_dayLater_9 rfl rfl ?_
    refine g_ldc2d C q558 dX2_dayLater_10 ?_
    refine g_aload_n C (q := 0) dX2_dayLater_13 rfl rfl ?_
    refine g_getED C (ci := 2) (slot := 8) rfl (by decide) inlX2 (by decide) rfl q122 dX2_dayLater_14 rfl hLa1 hKa1 ?_
    refine g_dmul C dX2_dayLater_17 h (fun h => ?_)
    refine g_dsub C dX2_dayLater_18 h (fun h => ?_)
    refine g_nmD h (fun e2 h => ?_)
    refine g_dstore_n C (i := 3) (lv' := [(3, .double e2), (0, va_rf (some x0)), (1, .double x1)]) dX2_dayLater_19 rfl hn4 rfl ?_
    refine g_dload_n C (q := 0) dX2_dayLater_20 rfl rfl ?_
    refine g_dconst0 C dX2_dayLater_21 ?_
    refine g_dcmp C dX2_dayLater_22 ?_
    refine g_if_ge C (tgt := 30) dX2_dayLater_23 (by decide) h (fun h => ?_) (fun h => ?_)
    · refine g_dload_n C (q := 0) dX2_dayLater_30 rfl rfl ?_
      exact g_dret C hQ dX2_dayLater_31 h
    · refine g_dconst0 C dX2_dayLater_26 ?_
      refine g_goto C (tgt := 31) dX2_dayLater_27 (by decide) ?_
      exact g_dret C hQ dX2_dayLater_31 h

abbrev rm_X2_allGuidesAreValid : Room := { frames := 1, cells := 0, slots := 0, locals := 21 }
theorem dsX2_allGuidesAreValid : yX2_allGuidesAreValid.cls = RX2 ∧ yX2_allGuidesAreValid.cls ≠ "java/lang/invoke/MethodHandle" ∧ yX2_allGuidesAreValid.cls ≠ "java/lang/invoke/VarHandle" ∧ (parseMethodDescriptor yX2_allGuidesAreValid.desc).map (fun d => d.parameters.length) = some 1 := by decide +kernel
def f_X2_allGuidesAreValid_L2_b (rec : Hp → Nat → Option Nat → Int32 → Option (Int32 × Hp)) (S : Hp) (x0 : Nat) (y1 : Option Nat) (y2 : Int32) : Option (Int32 × Hp) :=
 ob S 4 y1 fun a1 =>
 if (zI S a1 7) ≤ y2 then
 some ((1 : Int32), S)
 else
 ob S 2 (some x0) fun _ =>
 ar S 9 (zR S a1 0) y2 fun a3 i1 =>
 ar S 10 (zR S x0 0) (zI S a3 i1) fun a4 i2 =>
 ob S 0 (zR S a4 i2) fun b1 => cl (f_X0_isValidOn S b1 (zI S a1 1)) fun v1 S1 =>
 if v1 = 0 then
 some ((0 : Int32), S1)
 else
 bnd (y2 + 1) fun v2 =>
 rec S1 x0 y1 v2
def f_X2_allGuidesAreValid_L2 : Nat → Hp → Nat → Option Nat → Int32 → Option (Int32 × Hp)
  | 0 => fun _ _ _ _ => none
  | n + 1 => f_X2_allGuidesAreValid_L2_b (f_X2_allGuidesAreValid_L2 n)
def f_X2_allGuidesAreValid (S : Hp) (x0 : Nat) (x1 : Option Nat) : Option (Int32 × Hp) :=
 f_X2_allGuidesAreValid_L2 1000 S x0 x1 (0 : Int32)
set_option maxHeartbeats 4000000 in
set_option maxRecDepth 100000 in
theorem w_X2_allGuidesAreValid_L2 {X : Cx} (C : CxOK X cX2_allGuidesAreValid RX2 rm_X2_allGuidesAreValid) (hn : xn X = 3) {S0 : Hp} {o : Int32 × Hp} (hQ : QI X (some .boolean) S0 0 0 o) : ∀ (fuel : Nat) (S : Hp) (x0 : Nat) (y1 : Option Nat) (y2 : Int32), f_X2_allGuidesAreValid_L2 fuel S x0 y1 y2 = some o → GW X 0 0 S 2 [(0, va_rf (some x0)), (1, va_rf y1), (2, .int y2)] [] := by
  have hn2 : 2 < xn X := by rw [hn]; decide
  intro fuel
  induction fuel with
  | zero => intro S x0 y1 y2 h; cases (show none = some o from h)
  | succ fuel ih =>
    intro S x0 y1 y2 h
    have h : f_X2_allGuidesAreValid_L2_b (f_X2_allGuidesAreValid_L2 fuel) S x0 y1 y2 = some o := h
    unfold f_X2_allGuidesAreValid_L2_b at h
    refine g_iload_n C (q := 2) dX2_allGuidesAreValid_2 rfl rfl ?_
    refine g_aload_n C (q := 1) dX2_allGuidesAreValid_3 rfl rfl ?_
    refine g_ogetI C (ci := 4) (slot := 7) rfl (by decide) inlX4 (by decide) rfl q86 dX2_allGuidesAreValid_4 h (fun a1 hra1 h hLa1 hKa1 => ?_)
    refine g_icmp_ge C (tgt := 39) dX2_allGuidesAreValid_7 (by decide) h (fun h => ?_) (fun h => ?_)
    · refine g_iconst C (v := 1) dX2_allGuidesAreValid_39 (by decide) ?_
      exact g_zret C hQ (by decide) dX2_allGuidesAreValid_40 h
    · refine g_aload_n C (q := 0) dX2_allGuidesAreValid_10 rfl rfl ?_
      refine g_ogetSR C (ci := 2) (slot := 0) rfl (by decide) inlX2 (by decide) rfl q27 dX2_allGuidesAreValid_11 h (fun h hLa2 hKa2 => ?_)
      refine g_aload_n C (q := 1) dX2_allGuidesAreValid_14 rfl rfl ?_
      refine g_getER C (ci := 4) (slot := 0) rfl (by decide) inlX4 (by decide) rfl q93 dX2_allGuidesAreValid_15 hra1 hLa1 hKa1 ?_
      refine g_iload_n C (q := 2) dX2_allGuidesAreValid_18 rfl rfl ?_
      refine g_iald C dX2_allGuidesAreValid_19 h (fun a3 i1 h => ?_)
      refine g_aald10 C dX2_allGuidesAreValid_20 h (fun a4 i2 h => ?_)
      refine g_aload_n C (q := 1) dX2_allGuidesAreValid_21 rfl rfl ?_
      refine g_getEI C (ci := 4) (slot := 1) rfl (by decide) inlX4 (by decide) rfl q313 dX2_allGuidesAreValid_22 hra1 hLa1 hKa1 ?_
      refine g_callVI C (ci := 0) (As := [.int (zI S a1 1)]) (np := 1) (st := []) (r := (zR S a4 i2)) rfl (by decide) (fun b1 q hq => c_X0_isValidOn S b1 (zI S a1 1) q hq) gv_RX2_X0_isValidOn rfl rfl dsX0_isValidOn rfl ⟨Nat.le_of_ble_eq_true rfl, Nat.le_of_ble_eq_true rfl⟩ rfl (cat_sum (Nat.le_of_ble_eq_true rfl)) ⟨Nat.zero_le _, Nat.zero_le _⟩ dX2_allGuidesAreValid_25 h (fun v1 S1 h => ?_)
      refine g_if_ne C (tgt := 33) dX2_allGuidesAreValid_28 (by decide) h (fun h => ?_) (fun h => ?_)
      · refine g_iconst C (v := 0) dX2_allGuidesAreValid_31 (by decide) ?_
        exact g_zret C hQ (by decide) dX2_allGuidesAreValid_32 h
      · obtain ⟨v2, ev2, h⟩ := bnd_ex h
        refine g_iinc C (i := 2) (lv' := [(2, .int v2), (0, va_rf (some x0)), (1, va_rf y1)]) (q := 2) v2 dX2_allGuidesAreValid_33 rfl ev2 hn2 (by simp [va_rf_cat, catI, catJ, catD]) ?_
        refine g_goto C (tgt := 2) dX2_allGuidesAreValid_36 (by decide) ?_
        refine g_sub (lv' := [(0, va_rf (some x0)), (1, va_rf y1), (2, .int v2)]) [1, 2, 0] rfl ?_
        exact ih S1 x0 y1 v2 h
set_option maxHeartbeats 4000000 in
set_option maxRecDepth 100000 in
theorem c_X2_allGuidesAreValid (S : Hp) (x0 : Nat) (x1 : Option Nat) (o : Int32 × Hp) (h : f_X2_allGuidesAreValid S x0 x1 = some o) : CtI yX2_allGuidesAreValid cX2_allGuidesAreValid 3 (some .boolean) rm_X2_allGuidesAreValid 0 0 [va_rf (some x0), va_rf x1] S o := by
  refine ct_I (own := RX2) (by decide) rfl (by simp [lg_sl, va_rf_cat, catI, catJ, catD]) (fun X C hn hQ => ?_)
  have hn2 : 2 < xn X := by rw [hn]; decide
  unfold f_X2_allGuidesAreValid at h
  rw [show lv_args 0 [va_rf (some x0), va_rf x1] = [(0, va_rf (some x0)), (1, va_rf x1)] by simp [lv_args, va_rf_cat, catI, catJ, catD]]
  refine g_iconst C (v := 0) dX2_allGuidesAreValid_0 (by decide) ?_
  refine g_istore_n C (i := 2) (lv' := [(2, .int 0), (0, va_rf (some x0)), (1, va_rf x1)]) dX2_allGuidesAreValid_1 rfl hn2 (by simp [va_rf_cat, catI, catJ, catD]) ?_
  refine g_sub (lv' := [(0, va_rf (some x0)), (1, va_rf x1), (2, .int 0)]) [1, 2, 0] rfl ?_
  exact w_X2_allGuidesAreValid_L2 C hn hQ 1000 S x0 x1 (0 : Int32) h

abbrev rm_X2_causeAgainst : Room := { frames := 4, cells := 0, slots := 0, locals := 96 }
theorem dsX2_causeAgainst : yX2_causeAgainst.cls = RX2 ∧ yX2_causeAgainst.cls ≠ "java/lang/invoke/MethodHandle" ∧ yX2_causeAgainst.cls ≠ "java/lang/invoke/VarHandle" ∧ (parseMethodDescriptor yX2_causeAgainst.desc).map (fun d => d.parameters.length) = some 1 := by decide +kernel
theorem gv_RX2_X2_allBridgesHold : GoodIn wsL_law (wsV RX2 121 RX2 yX2_allBridgesHold (.code yX2_allBridgesHold cX2_allBridgesHold 5 (some .boolean) :: wsL_law)) := good_V q411 q412 q413 q11 q414
theorem gv_RX2_X2_allGuidesAreValid : GoodIn wsL_law (wsV RX2 125 RX2 yX2_allGuidesAreValid (.code yX2_allGuidesAreValid cX2_allGuidesAreValid 3 (some .boolean) :: wsL_law)) := good_V q417 q418 q419 q11 q420
def f_X2_causeAgainst (S : Hp) (x0 : Nat) (x1 : Option Nat) : Option (Int32 × Hp) :=
 ob S 4 x1 fun a1 =>
 if (zI S a1 6) = 0 then
 some ((1 : Int32), S)
 else
 ob S 2 (some x0) fun b1 => cl (f_X2_allBridgesHold S b1 x1) fun v1 S1 =>
 if v1 = 0 then
 some ((2 : Int32), S1)
 else
 ob S1 4 x1 fun a2 =>
 ob S1 2 (some x0) fun b2 => cl (f_X2_leftAfter S1 b2 x1 (zI S1 a2 7)) fun v2 S2 =>
 if 0 < v2 then
 some ((3 : Int32), S2)
 else
 ob S2 2 (some x0) fun b3 => cl (f_X2_allGuidesAreValid S2 b3 x1) fun v3 S3 =>
 if v3 = 0 then
 some ((3 : Int32), S3)
 else
 some ((0 : Int32), S3)
set_option maxHeartbeats 4000000 in
set_option maxRecDepth 100000 in
theorem c_X2_causeAgainst (S : Hp) (x0 : Nat) (x1 : Option Nat) (o : Int32 × Hp) (h : f_X2_causeAgainst S x0 x1 = some o) : CtI yX2_causeAgainst cX2_causeAgainst 2 (some .int) rm_X2_causeAgainst 0 0 [va_rf (some x0), va_rf x1] S o := by
  refine ct_I (own := RX2) (by decide) rfl (by simp [lg_sl, va_rf_cat, catI, catJ, catD]) (fun X C hn hQ => ?_)
  unfold f_X2_causeAgainst at h
  rw [show lv_args 0 [va_rf (some x0), va_rf x1] = [(0, va_rf (some x0)), (1, va_rf x1)] by simp [lv_args, va_rf_cat, catI, catJ, catD]]
  refine g_aload_n C (q := 1) dX2_causeAgainst_0 rfl rfl ?_
  refine g_ogetI C (ci := 4) (slot := 6) rfl (by decide) inlX4 (by decide) rfl q85 dX2_causeAgainst_1 h (fun a1 hra1 h hLa1 hKa1 => ?_)
  refine g_if_ne C (tgt := 9) dX2_causeAgainst_4 (by decide) h (fun h => ?_) (fun h => ?_)
  · refine g_iconst C (v := 1) dX2_causeAgainst_7 (by decide) ?_
    exact g_iret C hQ dX2_causeAgainst_8 h
  · refine g_aload_n C (q := 0) dX2_causeAgainst_9 rfl rfl ?_
    refine g_aload_n C (q := 1) dX2_causeAgainst_10 rfl rfl ?_
    refine g_callVI C (ci := 2) (As := [va_rf x1]) (np := 1) (st := []) (r := (some x0)) rfl (by decide) (fun b1 q hq => c_X2_allBridgesHold S b1 x1 q hq) gv_RX2_X2_allBridgesHold rfl rfl dsX2_allBridgesHold rfl ⟨Nat.le_of_ble_eq_true rfl, Nat.le_of_ble_eq_true rfl⟩ rfl (cat_sum (Nat.le_of_ble_eq_true rfl)) ⟨Nat.zero_le _, Nat.zero_le _⟩ dX2_causeAgainst_11 h (fun v1 S1 h => ?_)
    refine g_if_ne C (tgt := 19) dX2_causeAgainst_14 (by decide) h (fun h => ?_) (fun h => ?_)
    · refine g_iconst C (v := 2) dX2_causeAgainst_17 (by decide) ?_
      exact g_iret C hQ dX2_causeAgainst_18 h
    · refine g_aload_n C (q := 0) dX2_causeAgainst_19 rfl rfl ?_
      refine g_aload_n C (q := 1) dX2_causeAgainst_20 rfl rfl ?_
      refine g_aload_n C (q := 1) dX2_causeAgainst_21 rfl rfl ?_
      refine g_ogetI C (ci := 4) (slot := 7) rfl (by decide) inlX4 (by decide) rfl q86 dX2_causeAgainst_22 h (fun a2 hra2 h hLa2 hKa2 => ?_)
      refine g_callVI C (ci := 2) (As := [va_rf x1, .int (zI S1 a2 7)]) (np := 2) (st := []) (r := (some x0)) rfl (by decide) (fun b2 q hq => c_X2_leftAfter S1 b2 x1 (zI S1 a2 7) q hq) gv_RX2_X2_leftAfter rfl rfl dsX2_leftAfter rfl ⟨Nat.le_of_ble_eq_true rfl, Nat.le_of_ble_eq_true rfl⟩ rfl (cat_sum (Nat.le_of_ble_eq_true rfl)) ⟨Nat.zero_le _, Nat.zero_le _⟩ dX2_causeAgainst_25 h (fun v2 S2 h => ?_)
      refine g_if_gt C (tgt := 39) dX2_causeAgainst_28 (by decide) h (fun h => ?_) (fun h => ?_)
      · refine g_iconst C (v := 3) dX2_causeAgainst_39 (by decide) ?_
        exact g_iret C hQ dX2_causeAgainst_40 h
      · refine g_aload_n C (q := 0) dX2_causeAgainst_31 rfl rfl ?_
        refine g_aload_n C (q := 1) dX2_causeAgainst_32 rfl rfl ?_
        refine g_callVI C (ci := 2) (As := [va_rf x1]) (np := 1) (st := []) (r := (some x0)) rfl (by decide) (fun b3 q hq => c_X2_allGuidesAreValid S2 b3 x1 q hq) gv_RX2_X2_allGuidesAreValid rfl rfl dsX2_allGuidesAreValid rfl ⟨Nat.le_of_ble_eq_true rfl, Nat.le_of_ble_eq_true rfl⟩ rfl (cat_sum (Nat.le_of_ble_eq_true rfl)) ⟨Nat.zero_le _, Nat.zero_le _⟩ dX2_causeAgainst_33 h (fun v3 S3 h => ?_)
        refine g_if_ne C (tgt := 41) dX2_causeAgainst_36 (by decide) h (fun h => ?_) (fun h => ?_)
        · refine g_iconst C (v := 3) dX2_causeAgainst_39 (by decide) ?_
          exact g_iret C hQ dX2_causeAgainst_40 h
        · refine g_iconst C (v := 0) dX2_causeAgainst_41 (by decide) ?_
          exact g_iret C hQ dX2_causeAgainst_42 h

abbrev rm_X2_letGo : Room := { frames := 3, cells := 0, slots := 0, locals := 69 }
theorem dsX2_letGo : yX2_letGo.cls = RX2 ∧ yX2_letGo.cls ≠ "java/lang/invoke/MethodHandle" ∧ yX2_letGo.cls ≠ "java/lang/invoke/VarHandle" ∧ (parseMethodDescriptor yX2_letGo.desc).map (fun d => d.parameters.length) = some 1 := by decide +kernel
theorem gv_RX2_X0_haveLed : GoodIn wsL_law (wsV RX2 145 RX0 yX0_haveLed (.code yX0_haveLed cX0_haveLed 2 none :: wsL_law)) := good_V q575 q576 q577 q29 q578
theorem gv_RX2_X2_guestsOnRope : GoodIn wsL_law (wsV RX2 142 RX2 yX2_guestsOnRope (.code yX2_guestsOnRope cX2_guestsOnRope 3 (some .int) :: wsL_law)) := good_V q574 q427 q428 q11 q429
def f_X2_letGo_L7_b (rec : Hp → Nat → Option Nat → Int32 → Option (Unit × Hp)) (S : Hp) (x0 : Nat) (y1 : Option Nat) (y2 : Int32) : Option (Unit × Hp) :=
 ob S 4 y1 fun a1 =>
 if (zI S a1 7) ≤ y2 then
 some ((), S)
 else
 ob S 2 (some x0) fun _ =>
 ar S 9 (zR S a1 0) y2 fun a3 i1 =>
 ar S 10 (zR S x0 0) (zI S a3 i1) fun a4 i2 =>
 ob S 2 (some x0) fun b1 => cl (f_X2_guestsOnRope S b1 y1 y2) fun v1 S1 =>
 ob S1 0 (zR S a4 i2) fun b2 => cl (f_X0_haveLed S1 b2 v1) fun _ S2 =>
 bnd (y2 + 1) fun v2 =>
 rec S2 x0 y1 v2
def f_X2_letGo_L7 : Nat → Hp → Nat → Option Nat → Int32 → Option (Unit × Hp)
  | 0 => fun _ _ _ _ => none
  | n + 1 => f_X2_letGo_L7_b (f_X2_letGo_L7 n)
def f_X2_letGo (S : Hp) (x0 : Nat) (x1 : Option Nat) : Option (Unit × Hp) :=
 ob S 4 x1 fun a1 => bnd (wI S a1 9 (1 : Int32)) fun S1 =>
 f_X2_letGo_L7 1000 S1 x0 x1 (0 : Int32)
set_option maxHeartbeats 4000000 in
set_option maxRecDepth 100000 in
theorem w_X2_letGo_L7 {X : Cx} (C : CxOK X cX2_letGo RX2 rm_X2_letGo) (hn : xn X = 3) {S0 : Hp} {o : Unit × Hp} (hQ : QV X none S0 0 0 o) : ∀ (fuel : Nat) (S : Hp) (x0 : Nat) (y1 : Option Nat) (y2 : Int32), f_X2_letGo_L7 fuel S x0 y1 y2 = some o → GW X 0 0 S 7 [(0, va_rf (some x0)), (1, va_rf y1), (2, .int y2)] [] := by
  have hn2 : 2 < xn X := by rw [hn]; decide
  intro fuel
  induction fuel with
  | zero => intro S x0 y1 y2 h; cases (show none = some o from h)
  | succ fuel ih =>
    intro S x0 y1 y2 h
    have h : f_X2_letGo_L7_b (f_X2_letGo_L7 fuel) S x0 y1 y2 = some o := h
    unfold f_X2_letGo_L7_b at h
    refine g_iload_n C (q := 2) dX2_letGo_7 rfl rfl ?_
    refine g_aload_n C (q := 1) dX2_letGo_8 rfl rfl ?_
    refine g_ogetI C (ci := 4) (slot := 7) rfl (by decide) inlX4 (by decide) rfl q86 dX2_letGo_9 h (fun a1 hra1 h hLa1 hKa1 => ?_)
    refine g_icmp_ge C (tgt := 41) dX2_letGo_12 (by decide) h (fun h => ?_) (fun h => ?_)
    · exact g_vret C hQ dX2_letGo_41 h
    · refine g_aload_n C (q := 0) dX2_letGo_15 rfl rfl ?_
      refine g_ogetSR C (ci := 2) (slot := 0) rfl (by decide) inlX2 (by decide) rfl q27 dX2_letGo_16 h (fun h hLa2 hKa2 => ?_)
      refine g_aload_n C (q := 1) dX2_letGo_19 rfl rfl ?_
      refine g_getER C (ci := 4) (slot := 0) rfl (by decide) inlX4 (by decide) rfl q93 dX2_letGo_20 hra1 hLa1 hKa1 ?_
      refine g_iload_n C (q := 2) dX2_letGo_23 rfl rfl ?_
      refine g_iald C dX2_letGo_24 h (fun a3 i1 h => ?_)
      refine g_aald10 C dX2_letGo_25 h (fun a4 i2 h => ?_)
      refine g_aload_n C (q := 0) dX2_letGo_26 rfl rfl ?_
      refine g_aload_n C (q := 1) dX2_letGo_27 rfl rfl ?_
      refine g_iload_n C (q := 2) dX2_letGo_28 rfl rfl ?_
      refine g_callVI C (ci := 2) (As := [va_rf y1, .int y2]) (np := 2) (st := [va_rf (zR S a4 i2)]) (r := (some x0)) rfl (by decide) (fun b1 q hq => c_X2_guestsOnRope S b1 y1 y2 q hq) gv_RX2_X2_guestsOnRope rfl rfl dsX2_guestsOnRope rfl ⟨Nat.le_of_ble_eq_true rfl, Nat.le_of_ble_eq_true rfl⟩ rfl (cat_sum (Nat.le_of_ble_eq_true rfl)) ⟨Nat.zero_le _, Nat.zero_le _⟩ dX2_letGo_29 h (fun v1 S1 h => ?_)
      refine g_callVV C (ci := 0) (As := [.int v1]) (np := 1) (st := []) (r := (zR S a4 i2)) rfl (by decide) (fun b2 q hq => c_X0_haveLed S1 b2 v1 q hq) gv_RX2_X0_haveLed rfl rfl dsX0_haveLed rfl ⟨Nat.le_of_ble_eq_true rfl, Nat.le_of_ble_eq_true rfl⟩ rfl (cat_sum (Nat.le_of_ble_eq_true rfl)) ⟨Nat.zero_le _, Nat.zero_le _⟩ dX2_letGo_32 h (fun S2 h => ?_)
      obtain ⟨v2, ev2, h⟩ := bnd_ex h
      refine g_iinc C (i := 2) (lv' := [(2, .int v2), (0, va_rf (some x0)), (1, va_rf y1)]) (q := 2) v2 dX2_letGo_35 rfl ev2 hn2 (by simp [va_rf_cat, catI, catJ, catD]) ?_
      refine g_goto C (tgt := 7) dX2_letGo_38 (by decide) ?_
      refine g_sub (lv' := [(0, va_rf (some x0)), (1, va_rf y1), (2, .int v2)]) [1, 2, 0] rfl ?_
      exact ih S2 x0 y1 v2 h
set_option maxHeartbeats 4000000 in
set_option maxRecDepth 100000 in
theorem c_X2_letGo (S : Hp) (x0 : Nat) (x1 : Option Nat) (o : Unit × Hp) (h : f_X2_letGo S x0 x1 = some o) : CtV yX2_letGo cX2_letGo 3 none rm_X2_letGo 0 0 [va_rf (some x0), va_rf x1] S o := by
  refine ct_V (own := RX2) (by decide) rfl (by simp [lg_sl, va_rf_cat, catI, catJ, catD]) (fun X C hn hQ => ?_)
  have hn2 : 2 < xn X := by rw [hn]; decide
  unfold f_X2_letGo at h
  rw [show lv_args 0 [va_rf (some x0), va_rf x1] = [(0, va_rf (some x0)), (1, va_rf x1)] by simp [lv_args, va_rf_cat, catI, catJ, catD]]
  refine g_aload_n C (q := 1) dX2_letGo_0 rfl rfl ?_
  refine g_iconst C (v := 1) dX2_letGo_1 (by decide) ?_
  refine g_oputI C (ci := 4) (slot := 9) tyX4 tyX4_ok nmX4 rfl (by decide) inlX4 (by decide) rfl q312 rfl dX2_letGo_2 rfl rfl h (fun a1 S1 h => ?_)
  refine g_iconst C (v := 0) dX2_letGo_5 (by decide) ?_
  refine g_istore_n C (i := 2) (lv' := [(2, .int 0), (0, va_rf (some x0)), (1, va_rf x1)]) dX2_letGo_6 rfl hn2 (by simp [va_rf_cat, catI, catJ, catD]) ?_
  refine g_sub (lv' := [(0, va_rf (some x0)), (1, va_rf x1), (2, .int 0)]) [1, 2, 0] rfl ?_
  exact w_X2_letGo_L7 C hn hQ 1000 S1 x0 x1 (0 : Int32) h

abbrev rm_X2_payBack : Room := { frames := 0, cells := 0, slots := 0, locals := 0 }
theorem dsX2_payBack : yX2_payBack.cls = RX2 ∧ yX2_payBack.cls ≠ "java/lang/invoke/MethodHandle" ∧ yX2_payBack.cls ≠ "java/lang/invoke/VarHandle" ∧ (parseMethodDescriptor yX2_payBack.desc).map (fun d => d.parameters.length) = some 2 := by decide +kernel
def f_X2_payBack (S : Hp) (x0 : Nat) (x1 : Option Nat) (x2 : Int32) : Option (Unit × Hp) :=
 ob S 4 x1 fun a1 =>
 ob S 4 x1 fun a2 => bnd (wI S a2 8 ((zI S a1 8) - x2)) fun S1 =>
 ob S1 2 (some x0) fun _ =>
 ob S1 2 (some x0) fun a4 => bnd (wI S1 a4 9 ((zI S1 x0 9) + x2)) fun S2 =>
 some ((), S2)
set_option maxHeartbeats 4000000 in
set_option maxRecDepth 100000 in
theorem c_X2_payBack (S : Hp) (x0 : Nat) (x1 : Option Nat) (x2 : Int32) (o : Unit × Hp) (h : f_X2_payBack S x0 x1 x2 = some o) : CtV yX2_payBack cX2_payBack 3 none rm_X2_payBack 0 0 [va_rf (some x0), va_rf x1, .int x2] S o := by
  refine ct_V (own := RX2) (by decide) rfl (by simp [lg_sl, va_rf_cat, catI, catJ, catD]) (fun X C hn hQ => ?_)
  unfold f_X2_payBack at h
  rw [show lv_args 0 [va_rf (some x0), va_rf x1, .int x2] = [(0, va_rf (some x0)), (1, va_rf x1), (2, .int x2)] by simp [lv_args, va_rf_cat, catI, catJ, catD]]
  refine g_aload_n C (q := 1) dX2_payBack_0 rfl rfl ?_
  refine g_dup C dX2_payBack_1 (va_rf_cat _) ?_
  refine g_ogetI C (ci := 4) (slot := 8) rfl (by decide) inlX4 (by decide) rfl q282 dX2_payBack_2 h (fun a1 hra1 h hLa1 hKa1 => ?_)
  refine g_iload_n C (q := 2) dX2_payBack_5 rfl rfl ?_
  refine g_isub C dX2_payBack_6 ?_
  refine g_oputI C (ci := 4) (slot := 8) tyX4 tyX4_ok nmX4 rfl (by decide) inlX4 (by decide) rfl q282 rfl dX2_payBack_7 rfl rfl h (fun a2 S1 h => ?_)
  refine g_aload_n C (q := 0) dX2_payBack_10 rfl rfl ?_
  refine g_dup C dX2_payBack_11 (va_rf_cat _) ?_
  refine g_ogetSI C (ci := 2) (slot := 9) rfl (by decide) inlX2 (by decide) rfl q123 dX2_payBack_12 h (fun h hLa3 hKa3 => ?_)
  refine g_iload_n C (q := 2) dX2_payBack_15 rfl rfl ?_
  refine g_iadd C dX2_payBack_16 ?_
  refine g_oputI C (ci := 2) (slot := 9) tyX2 tyX2_ok nmX2 rfl (by decide) inlX2 (by decide) rfl q123 rfl dX2_payBack_17 rfl rfl h (fun a4 S2 h => ?_)
  exact g_vret C hQ dX2_payBack_20 h

abbrev rm_X2_callOff : Room := { frames := 1, cells := 0, slots := 0, locals := 22 }
theorem dsX2_callOff : yX2_callOff.cls = RX2 ∧ yX2_callOff.cls ≠ "java/lang/invoke/MethodHandle" ∧ yX2_callOff.cls ≠ "java/lang/invoke/VarHandle" ∧ (parseMethodDescriptor yX2_callOff.desc).map (fun d => d.parameters.length) = some 2 := by decide +kernel
theorem gv_RX2_X2_payBack : GoodIn wsL_law (wsV RX2 155 RX2 yX2_payBack (.code yX2_payBack cX2_payBack 3 none :: wsL_law)) := good_V q337 q279 q280 q11 q281
def f_X2_callOff (S : Hp) (x0 : Nat) (x1 : Option Nat) (x2 : Int32) : Option (Int32 × Hp) :=
 ob S 4 x1 fun a1 =>
 bnd ((zI S a1 8)) fun v1 =>
 ob S 4 x1 fun a2 => bnd (wI S a2 9 (2 : Int32)) fun S1 =>
 ob S1 4 x1 fun a3 => bnd (wI S1 a3 10 x2) fun S2 =>
 ob S2 2 (some x0) fun b1 => cl (f_X2_payBack S2 b1 x1 v1) fun _ S3 =>
 some (v1, S3)
set_option maxHeartbeats 4000000 in
set_option maxRecDepth 100000 in
theorem c_X2_callOff (S : Hp) (x0 : Nat) (x1 : Option Nat) (x2 : Int32) (o : Int32 × Hp) (h : f_X2_callOff S x0 x1 x2 = some o) : CtI yX2_callOff cX2_callOff 4 (some .int) rm_X2_callOff 0 0 [va_rf (some x0), va_rf x1, .int x2] S o := by
  refine ct_I (own := RX2) (by decide) rfl (by simp [lg_sl, va_rf_cat, catI, catJ, catD]) (fun X C hn hQ => ?_)
  have hn3 : 3 < xn X := by rw [hn]; decide
  unfold f_X2_callOff at h
  rw [show lv_args 0 [va_rf (some x0), va_rf x1, .int x2] = [(0, va_rf (some x0)), (1, va_rf x1), (2, .int x2)] by simp [lv_args, va_rf_cat, catI, catJ, catD]]
  refine g_aload_n C (q := 1) dX2_callOff_0 rfl rfl ?_
  refine g_ogetI C (ci := 4) (slot := 8) rfl (by decide) inlX4 (by decide) rfl q282 dX2_callOff_1 h (fun a1 hra1 h hLa1 hKa1 => ?_)
  refine g_nmI h (fun v1 h => ?_)
  refine g_istore_n C (i := 3) (lv' := [(3, .int v1), (0, va_rf (some x0)), (1, va_rf x1), (2, .int x2)]) dX2_callOff_4 rfl hn3 rfl ?_
  refine g_aload_n C (q := 2) dX2_callOff_5 rfl rfl ?_
  refine g_iconst C (v := 2) dX2_callOff_6 (by decide) ?_
  refine g_oputI C (ci := 4) (slot := 9) tyX4 tyX4_ok nmX4 rfl (by decide) inlX4 (by decide) rfl q312 rfl dX2_callOff_7 rfl rfl h (fun a2 S1 h => ?_)
  refine g_aload_n C (q := 2) dX2_callOff_10 rfl rfl ?_
  refine g_iload_n C (q := 3) dX2_callOff_11 rfl rfl ?_
  refine g_oputI C (ci := 4) (slot := 10) tyX4 tyX4_ok nmX4 rfl (by decide) inlX4 (by decide) rfl q336 rfl dX2_callOff_12 rfl rfl h (fun a3 S2 h => ?_)
  refine g_aload_n C (q := 1) dX2_callOff_15 rfl rfl ?_
  refine g_aload_n C (q := 2) dX2_callOff_16 rfl rfl ?_
  refine g_iload_n C (q := 0) dX2_callOff_17 rfl rfl ?_
  refine g_callVV C (ci := 2) (As := [va_rf x1, .int v1]) (np := 2) (st := []) (r := (some x0)) rfl (by decide) (fun b1 q hq => c_X2_payBack S2 b1 x1 v1 q hq) gv_RX2_X2_payBack rfl rfl dsX2_payBack rfl ⟨Nat.le_of_ble_eq_true rfl, Nat.le_of_ble_eq_true rfl⟩ rfl (cat_sum (Nat.le_of_ble_eq_true rfl)) ⟨Nat.zero_le _, Nat.zero_le _⟩ dX2_callOff_18 h (fun S3 h => ?_)
  refine g_iload_n C (q := 0) dX2_callOff_21 rfl rfl ?_
  exact g_iret C hQ dX2_callOff_22 h

abbrev rm_X2_passDay : Room := { frames := 5, cells := 0, slots := 0, locals := 117 }
theorem dsX2_passDay : yX2_passDay.cls = RX2 ∧ yX2_passDay.cls ≠ "java/lang/invoke/MethodHandle" ∧ yX2_passDay.cls ≠ "java/lang/invoke/VarHandle" ∧ (parseMethodDescriptor yX2_passDay.desc).map (fun d => d.parameters.length) = some 0 := by decide +kernel
theorem gv_RX2_X2_callOff : GoodIn wsL_law (wsV RX2 135 RX2 yX2_callOff (.code yX2_callOff cX2_callOff 4 (some .int) :: wsL_law)) := good_V q579 q333 q334 q11 q335
theorem gv_RX2_X2_causeAgainst : GoodIn wsL_law (wsV RX2 128 RX2 yX2_causeAgainst (.code yX2_causeAgainst cX2_causeAgainst 2 (some .int) :: wsL_law)) := good_V q569 q408 q409 q11 q410
theorem gv_RX2_X2_dayLater : GoodIn wsL_law (wsV RX2 138 RX2 yX2_dayLater (.code yX2_dayLater cX2_dayLater 5 (some .double) :: wsL_law)) := good_V q580 q555 q556 q11 q557
theorem gv_RX2_X2_letGo : GoodIn wsL_law (wsV RX2 132 RX2 yX2_letGo (.code yX2_letGo cX2_letGo 3 none :: wsL_law)) := good_V q570 q571 q572 q11 q573
def f_X2_passDay_L76_b (rec : Hp → Nat → Int32 → Int32 → Option (Int32 × Hp)) (S : Hp) (x0 : Nat) (y1 : Int32) (y2 : Int32) : Option (Int32 × Hp) :=
 ob S 2 (some x0) fun _ =>
 if (zI S x0 4) ≤ y2 then
 ob S 2 (some x0) fun a2 => bnd (wI S a2 6 ((zI S x0 6) + 1)) fun S1 =>
 some (y1, S1)
 else
 ar S 8 (zR S x0 1) y2 fun a3 i1 =>
 ob S 2 (some x0) fun b1 => cl (f_X2_dayLater S b1 (zD S a3 i1)) fun e1 S2 =>
 ar S2 8 (zR S x0 1) y2 fun a4 i2 => bnd (wD S2 a4 i2 e1) fun S3 =>
 bnd (y2 + 1) fun v1 =>
 rec S3 x0 y1 v1
def f_X2_passDay_L76 : Nat → Hp → Nat → Int32 → Int32 → Option (Int32 × Hp)
  | 0 => fun _ _ _ _ => none
  | n + 1 => f_X2_passDay_L76_b (f_X2_passDay_L76 n)

def f_X2_passDay_L4_b (rec : Hp → Nat → Int32 → Int32 → Option (Int32 × Hp)) (S : Hp) (x0 : Nat) (y1 : Int32) (y2 : Int32) : Option (Int32 × Hp) :=
 ob S 2 (some x0) fun _ =>
 if (zI S x0 5) ≤ y2 then
 f_X2_passDay_L76 1000 S x0 y1 (0 : Int32)
 else
 ar S 12 (zR S x0 2) y2 fun a2 i1 =>
 bnd ((zR S a2 i1)) fun r1 =>
 ob S 4 r1 fun a3 =>
 if (zI S a3 9) = 0 then
 if (zI S a3 1) = (zI S x0 6) then
 ob S 2 (some x0) fun b1 => cl (f_X2_causeAgainst S b1 r1) fun v1 S1 =>
 if v1 = 0 then
 ob S1 2 (some x0) fun b2 => cl (f_X2_letGo S1 b2 r1) fun _ S2 =>
 bnd (y1 + 1) fun v2 =>
 bnd (y2 + 1) fun v3 =>
 rec S2 x0 v2 v3
 else
 ob S1 2 (some x0) fun b3 => cl (f_X2_callOff S1 b3 r1 v1) fun v4 S3 =>
 bnd (y2 + 1) fun v5 =>
 rec S3 x0 y1 v5
 else
 bnd (y2 + 1) fun v6 =>
 rec S x0 y1 v6
 else
 bnd (y2 + 1) fun v7 =>
 rec S x0 y1 v7
def f_X2_passDay_L4 : Nat → Hp → Nat → Int32 → Int32 → Option (Int32 × Hp)
  | 0 => fun _ _ _ _ => none
  | n + 1 => f_X2_passDay_L4_b (f_X2_passDay_L4 n)
def f_X2_passDay (S : Hp) (x0 : Nat) : Option (Int32 × Hp) :=
 f_X2_passDay_L4 1000 S x0 (0 : Int32) (0 : Int32)
set_option maxHeartbeats 4000000 in
set_option maxRecDepth 100000 in
theorem w_X2_passDay_L76 {X : Cx} (C : CxOK X cX2_passDay RX2 rm_X2_passDay) (hn : xn X = 5) {S0 : Hp} {o : Int32 × Hp} (hQ : QI X (some .int) S0 0 0 o) : ∀ (fuel : Nat) (S : Hp) (x0 : Nat) (y1 : Int32) (y2 : Int32), f_X2_passDay_L76 fuel S x0 y1 y2 = some o → GW X 0 0 S 76 [(0, va_rf (some x0)), (1, .int y1), (2, .int y2)] [] := by
  have hn2 : 2 < xn X := by rw [hn]; decide
  intro fuel
  induction fuel with
  | zero => intro S x0 y1 y2 h; cases (show none = some o from h)
  | succ fuel ih =>
    intro S x0 y1 y2 h
    have h : f_X2_passDay_L76_b (f_X2_passDay_L76 fuel) S x0 y1 y2 = some o := h
    unfold f_X2_passDay_L76_b at h
    refine g_iload_n C (q := 2) dX2_passDay_76 rfl rfl ?_
    refine g_aload_n C (q := 0) dX2_passDay_77 rfl rfl ?_
    refine g_ogetSI C (ci := 2) (slot := 4) rfl (by decide) inlX2 (by decide) rfl q67 dX2_passDay_78 h (fun h hLa1 hKa1 => ?_)
    refine g_icmp_ge C (tgt := 106) dX2_passDay_81 (by decide) h (fun h => ?_) (fun h => ?_)
    · refine g_aload_n C (q := 0) dX2_passDay_106 rfl rfl ?_
      refine g_dup C dX2_passDay_107 (va_rf_cat _) ?_
      refine g_getEI C (ci := 2) (slot := 6) rfl (by decide) inlX2 (by decide) rfl q120 dX2_passDay_108 rfl hLa1 hKa1 ?_
      refine g_iconst C (v := 1) dX2_passDay_111 (by decide) ?_
      refine g_iadd C dX2_passDay_112 ?_
      refine g_oputI C (ci := 2) (slot := 6) tyX2 tyX2_ok nmX2 rfl (by decide) inlX2 (by decide) rfl q120 rfl dX2_passDay_113 rfl rfl h (fun a2 S1 h => ?_)
      refine g_iload_n C (q := 1) dX2_passDay_116 rfl rfl ?_
      exact g_iret C hQ dX2_passDay_117 h
    · refine g_aload_n C (q := 0) dX2_passDay_84 rfl rfl ?_
      refine g_getER C (ci := 2) (slot := 1) rfl (by decide) inlX2 (by decide) rfl q31 dX2_passDay_85 rfl hLa1 hKa1 ?_
      refine g_iload_n C (q := 2) dX2_passDay_88 rfl rfl ?_
      refine g_aload_n C (q := 0) dX2_passDay_89 rfl rfl ?_
      refine g_aload_n C (q := 0) dX2_passDay_90 rfl rfl ?_
      refine g_getER C (ci := 2) (slot := 1) rfl (by decide) inlX2 (by decide) rfl q31 dX2_passDay_91 rfl hLa1 hKa1 ?_
      refine g_iload_n C (q := 2) dX2_passDay_94 rfl rfl ?_
      refine g_dald C dX2_passDay_95 h (fun a3 i1 h => ?_)
      refine g_callVD C (ci := 2) (As := [.double (zD S a3 i1)]) (np := 1) (st := [.int y2, va_rf (zR S x0 1)]) (r := (some x0)) rfl (by decide) (fun b1 q hq => c_X2_dayLater S b1 (zD S a3 i1) q hq) gv_RX2_X2_dayLater rfl rfl dsX2_dayLater rfl ⟨Nat.le_of_ble_eq_true rfl, Nat.le_of_ble_eq_true rfl⟩ rfl (cat_sum (Nat.le_of_ble_eq_true rfl)) ⟨Nat.zero_le _, Nat.zero_le _⟩ dX2_passDay_96 h (fun e1 S2 h => ?_)
      refine g_dast C dX2_passDay_99 h (fun a4 i2 S3 h => ?_)
      obtain ⟨v1, ev1, h⟩ := bnd_ex h
      refine g_iinc C (i := 2) (lv' := [(2, .int v1), (0, va_rf (some x0)), (1, .int y1)]) (q := 2) v1 dX2_passDay_100 rfl ev1 hn2 rfl ?_
      refine g_goto C (tgt := 76) dX2_passDay_103 (by decide) ?_
      refine g_sub (lv' := [(0, va_rf (some x0)), (1, .int y1), (2, .int v1)]) [1, 2, 0] rfl ?_
      exact ih S3 x0 y1 v1 h

set_option maxHeartbeats 4000000 in
set_option maxRecDepth 100000 in
theorem w_X2_passDay_L4 {X : Cx} (C : CxOK X cX2_passDay RX2 rm_X2_passDay) (hn : xn X = 5) {S0 : Hp} {o : Int32 × Hp} (hQ : QI X (some .int) S0 0 0 o) : ∀ (fuel : Nat) (S : Hp) (x0 : Nat) (y1 : Int32) (y2 : Int32), f_X2_passDay_L4 fuel S x0 y1 y2 = some o → GW X 0 0 S 4 [(0, va_rf (some x0)), (1, .int y1), (2, .int y2)] [] := by
  have hn1 : 1 < xn X := by rw [hn]; decide
  have hn2 : 2 < xn X := by rw [hn]; decide
  have hn3 : 3 < xn X := by rw [hn]; decide
  have hn4 : 4 < xn X := by rw [hn]; decide
  intro fuel
  induction fuel with
  | zero => intro S x0 y1 y2 h; cases (show none = some o from h)
  | succ fuel ih =>
    intro S x0 y1 y2 h
    have h : f_X2_passDay_L4_b (f_X2_passDay_L4 fuel) S x0 y1 y2 = some o := h
    unfold f_X2_passDay_L4_b at h
    refine g_iload_n C (q := 2) dX2_passDay_4 rfl rfl ?_
    refine g_aload_n C (q := 0) dX2_passDay_5 rfl rfl ?_
    refine g_ogetSI C (ci := 2) (slot := 5) rfl (by decide) inlX2 (by decide) rfl q80 dX2_passDay_6 h (fun h hLa1 hKa1 => ?_)
    refine g_icmp_ge C (tgt := 74) dX2_passDay_9 (by decide) h (fun h => ?_) (fun h => ?_)
    · refine g_iconst C (v := 0) dX2_passDay_74 (by decide) ?_
      refine g_istore_n C (i := 2) (lv' := [(2, .int 0), (0, va_rf (some x0)), (1, .int y1)]) dX2_passDay_75 rfl hn2 rfl ?_
      refine g_sub (lv' := [(0, va_rf (some x0)), (1, .int y1), (2, .int 0)]) [1, 2, 0] rfl ?_
      exact w_X2_passDay_L76 C hn hQ 1000 S x0 y1 (0 : Int32) h
    · refine g_aload_n C (q := 0) dX2_passDay_12 rfl rfl ?_
      refine g_getER C (ci := 2) (slot := 2) rfl (by decide) inlX2 (by decide) rfl q33 dX2_passDay_13 rfl hLa1 hKa1 ?_
      refine g_iload_n C (q := 2) dX2_passDay_16 rfl rfl ?_
      refine g_aald12 C dX2_passDay_17 h (fun a2 i1 h => ?_)
      refine g_nmR h (fun r1 h => ?_)
      refine g_astore_n C (i := 3) (lv' := [(3, va_rf r1), (0, va_rf (some x0)), (1, .int y1), (2, .int y2)]) dX2_passDay_18 rfl hn3 rfl ?_
      refine g_aload_n C (q := 0) dX2_passDay_19 rfl rfl ?_
      refine g_ogetI C (ci := 4) (slot := 9) rfl (by decide) inlX4 (by decide) rfl q312 dX2_passDay_20 h (fun a3 hra3 h hLa3 hKa3 => ?_)
      refine g_if_ne C (tgt := 68) dX2_passDay_23 (by decide) h (fun h => ?_) (fun h => ?_)
      · refine g_aload_n C (q := 0) dX2_passDay_26 rfl rfl ?_
        refine g_getEI C (ci := 4) (slot := 1) rfl (by decide) inlX4 (by decide) rfl q313 dX2_passDay_27 hra3 hLa3 hKa3 ?_
        refine g_aload_n C (q := 1) dX2_passDay_30 rfl rfl ?_
        refine g_getEI C (ci := 2) (slot := 6) rfl (by decide) inlX2 (by decide) rfl q120 dX2_passDay_31 rfl hLa1 hKa1 ?_
        refine g_icmp_ne C (tgt := 68) dX2_passDay_34 (by decide) h (fun h => ?_) (fun h => ?_)
        · refine g_aload_n C (q := 1) dX2_passDay_37 rfl rfl ?_
          refine g_aload_n C (q := 0) dX2_passDay_38 rfl rfl ?_
          refine g_callVI C (ci := 2) (As := [va_rf r1]) (np := 1) (st := []) (r := (some x0)) rfl (by decide) (fun b1 q hq => c_X2_causeAgainst S b1 r1 q hq) gv_RX2_X2_causeAgainst rfl rfl dsX2_causeAgainst rfl ⟨Nat.le_of_ble_eq_true rfl, Nat.le_of_ble_eq_true rfl⟩ rfl (cat_sum (Nat.le_of_ble_eq_true rfl)) ⟨Nat.zero_le _, Nat.zero_le _⟩ dX2_passDay_39 h (fun v1 S1 h => ?_)
          refine g_istore C (i := 4) (lv' := [(4, .int v1), (3, va_rf r1), (0, va_rf (some x0)), (1, .int y1), (2, .int y2)]) dX2_passDay_42 hn4 (by simp [va_rf_cat, catI, catJ, catD]) ?_
          refine g_iload C (q := 0) dX2_passDay_44 rfl ?_
          refine g_if_ne C (tgt := 60) dX2_passDay_46 (by decide) h (fun h => ?_) (fun h => ?_)
          · refine g_aload_n C (q := 2) dX2_passDay_49 rfl rfl ?_
            refine g_aload_n C (q := 1) dX2_passDay_50 rfl rfl ?_
            refine g_callVV C (ci := 2) (As := [va_rf r1]) (np := 1) (st := []) (r := (some x0)) rfl (by decide) (fun b2 q hq => c_X2_letGo S1 b2 r1 q hq) gv_RX2_X2_letGo rfl rfl dsX2_letGo rfl ⟨Nat.le_of_ble_eq_true rfl, Nat.le_of_ble_eq_true rfl⟩ rfl (cat_sum (Nat.le_of_ble_eq_true rfl)) ⟨Nat.zero_le _, Nat.zero_le _⟩ dX2_passDay_51 h (fun S2 h => ?_)
            obtain ⟨v2, ev2, h⟩ := bnd_ex h
            refine g_iinc C (i := 1) (lv' := [(1, .int v2), (4, .int v1), (3, va_rf r1), (0, va_rf (some x0)), (2, .int y2)]) (q := 3) v2 dX2_passDay_54 rfl ev2 hn1 (by simp [va_rf_cat, catI, catJ, catD]) ?_
            refine g_goto C (tgt := 68) dX2_passDay_57 (by decide) ?_
            obtain ⟨v3, ev3, h⟩ := bnd_ex h
            refine g_iinc C (i := 2) (lv' := [(2, .int v3), (1, .int v2), (4, .int v1), (3, va_rf r1), (0, va_rf (some x0))]) (q := 4) v3 dX2_passDay_68 rfl ev3 hn2 rfl ?_
            refine g_goto C (tgt := 4) dX2_passDay_71 (by decide) ?_
            refine g_sub (lv' := [(0, va_rf (some x0)), (1, .int v2), (2, .int v3)]) [4, 1, 0] rfl ?_
            exact ih S2 x0 v2 v3 h
          · refine g_aload_n C (q := 2) dX2_passDay_60 rfl rfl ?_
            refine g_aload_n C (q := 1) dX2_passDay_61 rfl rfl ?_
            refine g_iload C (q := 0) dX2_passDay_62 rfl ?_
            refine g_callVI C (ci := 2) (As := [va_rf r1, .int v1]) (np := 2) (st := []) (r := (some x0)) rfl (by decide) (fun b3 q hq => c_X2_callOff S1 b3 r1 v1 q hq) gv_RX2_X2_callOff rfl rfl dsX2_callOff rfl ⟨Nat.le_of_ble_eq_true rfl, Nat.le_of_ble_eq_true rfl⟩ rfl (cat_sum (Nat.le_of_ble_eq_true rfl)) ⟨Nat.zero_le _, Nat.zero_le _⟩ dX2_passDay_64 h (fun v4 S3 h => ?_)
            refine g_pop C dX2_passDay_67 rfl ?_
            obtain ⟨v5, ev5, h⟩ := bnd_ex h
            refine g_iinc C (i := 2) (lv' := [(2, .int v5), (4, .int v1), (3, va_rf r1), (0, va_rf (some x0)), (1, .int y1)]) (q := 4) v5 dX2_passDay_68 rfl ev5 hn2 rfl ?_
            refine g_goto C (tgt := 4) dX2_passDay_71 (by decide) ?_
            refine g_sub (lv' := [(0, va_rf (some x0)), (1, .int y1), (2, .int v5)]) [3, 4, 0] rfl ?_
            exact ih S3 x0 y1 v5 h
        · obtain ⟨v6, ev6, h⟩ := bnd_ex h
          refine g_iinc C (i := 2) (lv' := [(2, .int v6), (3, va_rf r1), (0, va_rf (some x0)), (1, .int y1)]) (q := 3) v6 dX2_passDay_68 rfl ev6 hn2 rfl ?_
          refine g_goto C (tgt := 4) dX2_passDay_71 (by decide) ?_
          refine g_sub (lv' := [(0, va_rf (some x0)), (1, .int y1), (2, .int v6)]) [2, 3, 0] rfl ?_
          exact ih S x0 y1 v6 h
      · obtain ⟨v7, ev7, h⟩ := bnd_ex h
        refine g_iinc C (i := 2) (lv' := [(2, .int v7), (3, va_rf r1), (0, va_rf (some x0)), (1, .int y1)]) (q := 3) v7 dX2_passDay_68 rfl ev7 hn2 rfl ?_
        refine g_goto C (tgt := 4) dX2_passDay_71 (by decide) ?_
        refine g_sub (lv' := [(0, va_rf (some x0)), (1, .int y1), (2, .int v7)]) [2, 3, 0] rfl ?_
        exact ih S x0 y1 v7 h
set_option maxHeartbeats 4000000 in
set_option maxRecDepth 100000 in
theorem c_X2_passDay (S : Hp) (x0 : Nat) (o : Int32 × Hp) (h : f_X2_passDay S x0 = some o) : CtI yX2_passDay cX2_passDay 5 (some .int) rm_X2_passDay 0 0 [va_rf (some x0)] S o := by
  refine ct_I (own := RX2) (by decide) rfl (Nat.le_of_ble_eq_true rfl) (fun X C hn hQ => ?_)
  have hn1 : 1 < xn X := by rw [hn]; decide
  have hn2 : 2 < xn X := by rw [hn]; decide
  unfold f_X2_passDay at h
  show GW X 0 0 S 0 [(0, va_rf (some x0))] []
  refine g_iconst C (v := 0) dX2_passDay_0 (by decide) ?_
  refine g_istore_n C (i := 1) (lv' := [(1, .int 0), (0, va_rf (some x0))]) dX2_passDay_1 rfl hn1 (by simp [va_rf_cat, catI, catJ, catD]) ?_
  refine g_iconst C (v := 0) dX2_passDay_2 (by decide) ?_
  refine g_istore_n C (i := 2) (lv' := [(2, .int 0), (1, .int 0), (0, va_rf (some x0))]) dX2_passDay_3 rfl hn2 rfl ?_
  refine g_sub (lv' := [(0, va_rf (some x0)), (1, .int 0), (2, .int 0)]) [2, 1, 0] rfl ?_
  exact w_X2_passDay_L4 C hn hQ 1000 S x0 (0 : Int32) (0 : Int32) h

abbrev rm_X2_toursThatAre : Room := { frames := 0, cells := 0, slots := 0, locals := 0 }
theorem dsX2_toursThatAre : yX2_toursThatAre.cls = RX2 ∧ yX2_toursThatAre.cls ≠ "java/lang/invoke/MethodHandle" ∧ yX2_toursThatAre.cls ≠ "java/lang/invoke/VarHandle" ∧ (parseMethodDescriptor yX2_toursThatAre.desc).map (fun d => d.parameters.length) = some 1 := by decide +kernel
def f_X2_toursThatAre_L4_b (rec : Hp → Nat → Int32 → Int32 → Int32 → Option (Int32 × Hp)) (S : Hp) (x0 : Nat) (y1 : Int32) (y2 : Int32) (y3 : Int32) : Option (Int32 × Hp) :=
 ob S 2 (some x0) fun _ =>
 if (zI S x0 5) ≤ y3 then
 some (y2, S)
 else
 ar S 12 (zR S x0 2) y3 fun a2 i1 =>
 ob S 4 (zR S a2 i1) fun a3 =>
 if (zI S a3 9) = y1 then
 bnd (y2 + 1) fun v1 =>
 bnd (y3 + 1) fun v2 =>
 rec S x0 y1 v1 v2
 else
 bnd (y3 + 1) fun v3 =>
 rec S x0 y1 y2 v3
def f_X2_toursThatAre_L4 : Nat → Hp → Nat → Int32 → Int32 → Int32 → Option (Int32 × Hp)
  | 0 => fun _ _ _ _ _ => none
  | n + 1 => f_X2_toursThatAre_L4_b (f_X2_toursThatAre_L4 n)
def f_X2_toursThatAre (S : Hp) (x0 : Nat) (x1 : Int32) : Option (Int32 × Hp) :=
 f_X2_toursThatAre_L4 1000 S x0 x1 (0 : Int32) (0 : Int32)
set_option maxHeartbeats 4000000 in
set_option maxRecDepth 100000 in
theorem w_X2_toursThatAre_L4 {X : Cx} (C : CxOK X cX2_toursThatAre RX2 rm_X2_toursThatAre) (hn : xn X = 4) {S0 : Hp} {o : Int32 × Hp} (hQ : QI X (some .int) S0 0 0 o) : ∀ (fuel : Nat) (S : Hp) (x0 : Nat) (y1 : Int32) (y2 : Int32) (y3 : Int32), f_X2_toursThatAre_L4 fuel S x0 y1 y2 y3 = some o → GW X 0 0 S 4 [(0, va_rf (some x0)), (1, .int y1), (2, .int y2), (3, .int y3)] [] := by
  have hn2 : 2 < xn X := by rw [hn]; decide
  have hn3 : 3 < xn X := by rw [hn]; decide
  intro fuel
  induction fuel with
  | zero => intro S x0 y1 y2 y3 h; cases (show none = some o from h)
  | succ fuel ih =>
    intro S x0 y1 y2 y3 h
    have h : f_X2_toursThatAre_L4_b (f_X2_toursThatAre_L4 fuel) S x0 y1 y2 y3 = some o := h
    unfold f_X2_toursThatAre_L4_b at h
    refine g_iload_n C (q := 3) dX2_toursThatAre_4 rfl rfl ?_
    refine g_aload_n C (q := 0) dX2_toursThatAre_5 rfl rfl ?_
    refine g_ogetSI C (ci := 2) (slot := 5) rfl (by decide) inlX2 (by decide) rfl q80 dX2_toursThatAre_6 h (fun h hLa1 hKa1 => ?_)
    refine g_icmp_ge C (tgt := 34) dX2_toursThatAre_9 (by decide) h (fun h => ?_) (fun h => ?_)
    · refine g_iload_n C (q := 2) dX2_toursThatAre_34 rfl rfl ?_
      exact g_iret C hQ dX2_toursThatAre_35 h
    · refine g_aload_n C (q := 0) dX2_toursThatAre_12 rfl rfl ?_
      refine g_getER C (ci := 2) (slot := 2) rfl (by decide) inlX2 (by decide) rfl q33 dX2_toursThatAre_13 rfl hLa1 hKa1 ?_
      refine g_iload_n C (q := 3) dX2_toursThatAre_16 rfl rfl ?_
      refine g_aald12 C dX2_toursThatAre_17 h (fun a2 i1 h => ?_)
      refine g_ogetI C (ci := 4) (slot := 9) rfl (by decide) inlX4 (by decide) rfl q312 dX2_toursThatAre_18 h (fun a3 hra3 h hLa3 hKa3 => ?_)
      refine g_iload_n C (q := 1) dX2_toursThatAre_21 rfl rfl ?_
      refine g_icmp_ne C (tgt := 28) dX2_toursThatAre_22 (by decide) h (fun h => ?_) (fun h => ?_)
      · obtain ⟨v1, ev1, h⟩ := bnd_ex h
        refine g_iinc C (i := 2) (lv' := [(2, .int v1), (0, va_rf (some x0)), (1, .int y1), (3, .int y3)]) (q := 2) v1 dX2_toursThatAre_25 rfl ev1 hn2 rfl ?_
        obtain ⟨v2, ev2, h⟩ := bnd_ex h
        refine g_iinc C (i := 3) (lv' := [(3, .int v2), (2, .int v1), (0, va_rf (some x0)), (1, .int y1)]) (q := 3) v2 dX2_toursThatAre_28 rfl ev2 hn3 rfl ?_
        refine g_goto C (tgt := 4) dX2_toursThatAre_31 (by decide) ?_
        refine g_sub (lv' := [(0, va_rf (some x0)), (1, .int y1), (2, .int v1), (3, .int v2)]) [2, 3, 1, 0] rfl ?_
        exact ih S x0 y1 v1 v2 h
      · obtain ⟨v3, ev3, h⟩ := bnd_ex h
        refine g_iinc C (i := 3) (lv' := [(3, .int v3), (0, va_rf (some x0)), (1, .int y1), (2, .int y2)]) (q := 3) v3 dX2_toursThatAre_28 rfl ev3 hn3 rfl ?_
        refine g_goto C (tgt := 4) dX2_toursThatAre_31 (by decide) ?_
        refine g_sub (lv' := [(0, va_rf (some x0)), (1, .int y1), (2, .int y2), (3, .int v3)]) [1, 2, 3, 0] rfl ?_
        exact ih S x0 y1 y2 v3 h
set_option maxHeartbeats 4000000 in
set_option maxRecDepth 100000 in
theorem c_X2_toursThatAre (S : Hp) (x0 : Nat) (x1 : Int32) (o : Int32 × Hp) (h : f_X2_toursThatAre S x0 x1 = some o) : CtI yX2_toursThatAre cX2_toursThatAre 4 (some .int) rm_X2_toursThatAre 0 0 [va_rf (some x0), .int x1] S o := by
  refine ct_I (own := RX2) (by decide) rfl (Nat.le_of_ble_eq_true rfl) (fun X C hn hQ => ?_)
  have hn2 : 2 < xn X := by rw [hn]; decide
  have hn3 : 3 < xn X := by rw [hn]; decide
  unfold f_X2_toursThatAre at h
  show GW X 0 0 S 0 [(0, va_rf (some x0)), (1, .int x1)] []
  refine g_iconst C (v := 0) dX2_toursThatAre_0 (by decide) ?_
  refine g_istore_n C (i := 2) (lv' := [(2, .int 0), (0, va_rf (some x0)), (1, .int x1)]) dX2_toursThatAre_1 rfl hn2 rfl ?_
  refine g_iconst C (v := 0) dX2_toursThatAre_2 (by decide) ?_
  refine g_istore_n C (i := 3) (lv' := [(3, .int 0), (2, .int 0), (0, va_rf (some x0)), (1, .int x1)]) dX2_toursThatAre_3 rfl hn3 rfl ?_
  refine g_sub (lv' := [(0, va_rf (some x0)), (1, .int x1), (2, .int 0), (3, .int 0)]) [2, 3, 1, 0] rfl ?_
  exact w_X2_toursThatAre_L4 C hn hQ 1000 S x0 x1 (0 : Int32) (0 : Int32) h

abbrev rm_X2_allPaid : Room := { frames := 0, cells := 0, slots := 0, locals := 0 }
theorem dsX2_allPaid : yX2_allPaid.cls = RX2 ∧ yX2_allPaid.cls ≠ "java/lang/invoke/MethodHandle" ∧ yX2_allPaid.cls ≠ "java/lang/invoke/VarHandle" ∧ (parseMethodDescriptor yX2_allPaid.desc).map (fun d => d.parameters.length) = some 0 := by decide +kernel
def f_X2_allPaid_L4_b (rec : Hp → Nat → Int32 → Int32 → Option (Int32 × Hp)) (S : Hp) (x0 : Nat) (y1 : Int32) (y2 : Int32) : Option (Int32 × Hp) :=
 ob S 2 (some x0) fun _ =>
 if (zI S x0 5) ≤ y2 then
 some (y1, S)
 else
 ar S 12 (zR S x0 2) y2 fun a2 i1 =>
 ob S 4 (zR S a2 i1) fun a3 =>
 bnd ((y1 + (zI S a3 8))) fun v1 =>
 bnd (y2 + 1) fun v2 =>
 rec S x0 v1 v2
def f_X2_allPaid_L4 : Nat → Hp → Nat → Int32 → Int32 → Option (Int32 × Hp)
  | 0 => fun _ _ _ _ => none
  | n + 1 => f_X2_allPaid_L4_b (f_X2_allPaid_L4 n)
def f_X2_allPaid (S : Hp) (x0 : Nat) : Option (Int32 × Hp) :=
 f_X2_allPaid_L4 1000 S x0 (0 : Int32) (0 : Int32)
set_option maxHeartbeats 4000000 in
set_option maxRecDepth 100000 in
theorem w_X2_allPaid_L4 {X : Cx} (C : CxOK X cX2_allPaid RX2 rm_X2_allPaid) (hn : xn X = 3) {S0 : Hp} {o : Int32 × Hp} (hQ : QI X (some .int) S0 0 0 o) : ∀ (fuel : Nat) (S : Hp) (x0 : Nat) (y1 : Int32) (y2 : Int32), f_X2_allPaid_L4 fuel S x0 y1 y2 = some o → GW X 0 0 S 4 [(0, va_rf (some x0)), (1, .int y1), (2, .int y2)] [] := by
  have hn1 : 1 < xn X := by rw [hn]; decide
  have hn2 : 2 < xn X := by rw [hn]; decide
  intro fuel
  induction fuel with
  | zero => intro S x0 y1 y2 h; cases (show none = some o from h)
  | succ fuel ih =>
    intro S x0 y1 y2 h
    have h : f_X2_allPaid_L4_b (f_X2_allPaid_L4 fuel) S x0 y1 y2 = some o := h
    unfold f_X2_allPaid_L4_b at h
    refine g_iload_n C (q := 2) dX2_allPaid_4 rfl rfl ?_
    refine g_aload_n C (q := 0) dX2_allPaid_5 rfl rfl ?_
    refine g_ogetSI C (ci := 2) (slot := 5) rfl (by decide) inlX2 (by decide) rfl q80 dX2_allPaid_6 h (fun h hLa1 hKa1 => ?_)
    refine g_icmp_ge C (tgt := 30) dX2_allPaid_9 (by decide) h (fun h => ?_) (fun h => ?_)
    · refine g_iload_n C (q := 1) dX2_allPaid_30 rfl rfl ?_
      exact g_iret C hQ dX2_allPaid_31 h
    · refine g_iload_n C (q := 1) dX2_allPaid_12 rfl rfl ?_
      refine g_aload_n C (q := 0) dX2_allPaid_13 rfl rfl ?_
      refine g_getER C (ci := 2) (slot := 2) rfl (by decide) inlX2 (by decide) rfl q33 dX2_allPaid_14 rfl hLa1 hKa1 ?_
      refine g_iload_n C (q := 2) dX2_allPaid_17 rfl rfl ?_
      refine g_aald12 C dX2_allPaid_18 h (fun a2 i1 h => ?_)
      refine g_ogetI C (ci := 4) (slot := 8) rfl (by decide) inlX4 (by decide) rfl q282 dX2_allPaid_19 h (fun a3 hra3 h hLa3 hKa3 => ?_)
      refine g_iadd C dX2_allPaid_22 ?_
      refine g_nmI h (fun v1 h => ?_)
      refine g_istore_n C (i := 1) (lv' := [(1, .int v1), (0, va_rf (some x0)), (2, .int y2)]) dX2_allPaid_23 rfl hn1 (by simp [va_rf_cat, catI, catJ, catD]) ?_
      obtain ⟨v2, ev2, h⟩ := bnd_ex h
      refine g_iinc C (i := 2) (lv' := [(2, .int v2), (1, .int v1), (0, va_rf (some x0))]) (q := 2) v2 dX2_allPaid_24 rfl ev2 hn2 rfl ?_
      refine g_goto C (tgt := 4) dX2_allPaid_27 (by decide) ?_
      refine g_sub (lv' := [(0, va_rf (some x0)), (1, .int v1), (2, .int v2)]) [2, 1, 0] rfl ?_
      exact ih S x0 v1 v2 h
set_option maxHeartbeats 4000000 in
set_option maxRecDepth 100000 in
theorem c_X2_allPaid (S : Hp) (x0 : Nat) (o : Int32 × Hp) (h : f_X2_allPaid S x0 = some o) : CtI yX2_allPaid cX2_allPaid 3 (some .int) rm_X2_allPaid 0 0 [va_rf (some x0)] S o := by
  refine ct_I (own := RX2) (by decide) rfl (Nat.le_of_ble_eq_true rfl) (fun X C hn hQ => ?_)
  have hn1 : 1 < xn X := by rw [hn]; decide
  have hn2 : 2 < xn X := by rw [hn]; decide
  unfold f_X2_allPaid at h
  show GW X 0 0 S 0 [(0, va_rf (some x0))] []
  refine g_iconst C (v := 0) dX2_allPaid_0 (by decide) ?_
  refine g_istore_n C (i := 1) (lv' := [(1, .int 0), (0, va_rf (some x0))]) dX2_allPaid_1 rfl hn1 (by simp [va_rf_cat, catI, catJ, catD]) ?_
  refine g_iconst C (v := 0) dX2_allPaid_2 (by decide) ?_
  refine g_istore_n C (i := 2) (lv' := [(2, .int 0), (1, .int 0), (0, va_rf (some x0))]) dX2_allPaid_3 rfl hn2 rfl ?_
  refine g_sub (lv' := [(0, va_rf (some x0)), (1, .int 0), (2, .int 0)]) [2, 1, 0] rfl ?_
  exact w_X2_allPaid_L4 C hn hQ 1000 S x0 (0 : Int32) (0 : Int32) h

abbrev rm_X2_guestsGone : Room := { frames := 0, cells := 0, slots := 0, locals := 0 }
theorem dsX2_guestsGone : yX2_guestsGone.cls = RX2 ∧ yX2_guestsGone.cls ≠ "java/lang/invoke/MethodHandle" ∧ yX2_guestsGone.cls ≠ "java/lang/invoke/VarHandle" ∧ (parseMethodDescriptor yX2_guestsGone.desc).map (fun d => d.parameters.length) = some 0 := by decide +kernel
def f_X2_guestsGone_L4_b (rec : Hp → Nat → Int32 → Int32 → Option (Int32 × Hp)) (S : Hp) (x0 : Nat) (y1 : Int32) (y2 : Int32) : Option (Int32 × Hp) :=
 ob S 2 (some x0) fun _ =>
 if (zI S x0 5) ≤ y2 then
 some (y1, S)
 else
 ar S 12 (zR S x0 2) y2 fun a2 i1 =>
 ob S 4 (zR S a2 i1) fun a3 =>
 if (zI S a3 9) = 1 then
 ar S 12 (zR S x0 2) y2 fun a4 i2 =>
 ob S 4 (zR S a4 i2) fun a5 =>
 bnd ((y1 + (zI S a5 6))) fun v1 =>
 bnd (y2 + 1) fun v2 =>
 rec S x0 v1 v2
 else
 bnd (y2 + 1) fun v3 =>
 rec S x0 y1 v3
def f_X2_guestsGone_L4 : Nat → Hp → Nat → Int32 → Int32 → Option (Int32 × Hp)
  | 0 => fun _ _ _ _ => none
  | n + 1 => f_X2_guestsGone_L4_b (f_X2_guestsGone_L4 n)
def f_X2_guestsGone (S : Hp) (x0 : Nat) : Option (Int32 × Hp) :=
 f_X2_guestsGone_L4 1000 S x0 (0 : Int32) (0 : Int32)
set_option maxHeartbeats 4000000 in
set_option maxRecDepth 100000 in
theorem w_X2_guestsGone_L4 {X : Cx} (C : CxOK X cX2_guestsGone RX2 rm_X2_guestsGone) (hn : xn X = 3) {S0 : Hp} {o : Int32 × Hp} (hQ : QI X (some .int) S0 0 0 o) : ∀ (fuel : Nat) (S : Hp) (x0 : Nat) (y1 : Int32) (y2 : Int32), f_X2_guestsGone_L4 fuel S x0 y1 y2 = some o → GW X 0 0 S 4 [(0, va_rf (some x0)), (1, .int y1), (2, .int y2)] [] := by
  have hn1 : 1 < xn X := by rw [hn]; decide
  have hn2 : 2 < xn X := by rw [hn]; decide
  intro fuel
  induction fuel with
  | zero => intro S x0 y1 y2 h; cases (show none = some o from h)
  | succ fuel ih =>
    intro S x0 y1 y2 h
    have h : f_X2_guestsGone_L4_b (f_X2_guestsGone_L4 fuel) S x0 y1 y2 = some o := h
    unfold f_X2_guestsGone_L4_b at h
    refine g_iload_n C (q := 2) dX2_guestsGone_4 rfl rfl ?_
    refine g_aload_n C (q := 0) dX2_guestsGone_5 rfl rfl ?_
    refine g_ogetSI C (ci := 2) (slot := 5) rfl (by decide) inlX2 (by decide) rfl q80 dX2_guestsGone_6 h (fun h hLa1 hKa1 => ?_)
    refine g_icmp_ge C (tgt := 43) dX2_guestsGone_9 (by decide) h (fun h => ?_) (fun h => ?_)
    · refine g_iload_n C (q := 1) dX2_guestsGone_43 rfl rfl ?_
      exact g_iret C hQ dX2_guestsGone_44 h
    · refine g_aload_n C (q := 0) dX2_guestsGone_12 rfl rfl ?_
      refine g_getER C (ci := 2) (slot := 2) rfl (by decide) inlX2 (by decide) rfl q33 dX2_guestsGone_13 rfl hLa1 hKa1 ?_
      refine g_iload_n C (q := 2) dX2_guestsGone_16 rfl rfl ?_
      refine g_aald12 C dX2_guestsGone_17 h (fun a2 i1 h => ?_)
      refine g_ogetI C (ci := 4) (slot := 9) rfl (by decide) inlX4 (by decide) rfl q312 dX2_guestsGone_18 h (fun a3 hra3 h hLa3 hKa3 => ?_)
      refine g_iconst C (v := 1) dX2_guestsGone_21 (by decide) ?_
      refine g_icmp_ne C (tgt := 37) dX2_guestsGone_22 (by decide) h (fun h => ?_) (fun h => ?_)
      · refine g_iload_n C (q := 1) dX2_guestsGone_25 rfl rfl ?_
        refine g_aload_n C (q := 0) dX2_guestsGone_26 rfl rfl ?_
        refine g_getER C (ci := 2) (slot := 2) rfl (by decide) inlX2 (by decide) rfl q33 dX2_guestsGone_27 rfl hLa1 hKa1 ?_
        refine g_iload_n C (q := 2) dX2_guestsGone_30 rfl rfl ?_
        refine g_aald12 C dX2_guestsGone_31 h (fun a4 i2 h => ?_)
        refine g_ogetI C (ci := 4) (slot := 6) rfl (by decide) inlX4 (by decide) rfl q85 dX2_guestsGone_32 h (fun a5 hra5 h hLa5 hKa5 => ?_)
        refine g_iadd C dX2_guestsGone_35 ?_
        refine g_nmI h (fun v1 h => ?_)
        refine g_istore_n C (i := 1) (lv' := [(1, .int v1), (0, va_rf (some x0)), (2, .int y2)]) dX2_guestsGone_36 rfl hn1 (by simp [va_rf_cat, catI, catJ, catD]) ?_
        obtain ⟨v2, ev2, h⟩ := bnd_ex h
        refine g_iinc C (i := 2) (lv' := [(2, .int v2), (1, .int v1), (0, va_rf (some x0))]) (q := 2) v2 dX2_guestsGone_37 rfl ev2 hn2 rfl ?_
        refine g_goto C (tgt := 4) dX2_guestsGone_40 (by decide) ?_
        refine g_sub (lv' := [(0, va_rf (some x0)), (1, .int v1), (2, .int v2)]) [2, 1, 0] rfl ?_
        exact ih S x0 v1 v2 h
      · obtain ⟨v3, ev3, h⟩ := bnd_ex h
        refine g_iinc C (i := 2) (lv' := [(2, .int v3), (0, va_rf (some x0)), (1, .int y1)]) (q := 2) v3 dX2_guestsGone_37 rfl ev3 hn2 rfl ?_
        refine g_goto C (tgt := 4) dX2_guestsGone_40 (by decide) ?_
        refine g_sub (lv' := [(0, va_rf (some x0)), (1, .int y1), (2, .int v3)]) [1, 2, 0] rfl ?_
        exact ih S x0 y1 v3 h
set_option maxHeartbeats 4000000 in
set_option maxRecDepth 100000 in
theorem c_X2_guestsGone (S : Hp) (x0 : Nat) (o : Int32 × Hp) (h : f_X2_guestsGone S x0 = some o) : CtI yX2_guestsGone cX2_guestsGone 3 (some .int) rm_X2_guestsGone 0 0 [va_rf (some x0)] S o := by
  refine ct_I (own := RX2) (by decide) rfl (Nat.le_of_ble_eq_true rfl) (fun X C hn hQ => ?_)
  have hn1 : 1 < xn X := by rw [hn]; decide
  have hn2 : 2 < xn X := by rw [hn]; decide
  unfold f_X2_guestsGone at h
  show GW X 0 0 S 0 [(0, va_rf (some x0))] []
  refine g_iconst C (v := 0) dX2_guestsGone_0 (by decide) ?_
  refine g_istore_n C (i := 1) (lv' := [(1, .int 0), (0, va_rf (some x0))]) dX2_guestsGone_1 rfl hn1 (by simp [va_rf_cat, catI, catJ, catD]) ?_
  refine g_iconst C (v := 0) dX2_guestsGone_2 (by decide) ?_
  refine g_istore_n C (i := 2) (lv' := [(2, .int 0), (1, .int 0), (0, va_rf (some x0))]) dX2_guestsGone_3 rfl hn2 rfl ?_
  refine g_sub (lv' := [(0, va_rf (some x0)), (1, .int 0), (2, .int 0)]) [2, 1, 0] rfl ?_
  exact w_X2_guestsGone_L4 C hn hQ 1000 S x0 (0 : Int32) (0 : Int32) h

abbrev rm_X3_wordLength : Room := { frames := 0, cells := 0, slots := 0, locals := 0 }
theorem dsX3_wordLength : yX3_wordLength.cls = RX3 ∧ yX3_wordLength.cls ≠ "java/lang/invoke/MethodHandle" ∧ yX3_wordLength.cls ≠ "java/lang/invoke/VarHandle" ∧ (parseMethodDescriptor yX3_wordLength.desc).map (fun d => d.parameters.length) = some 0 := by decide +kernel
def f_X3_wordLength_L2_b (rec : Hp → Nat → Int32 → Option (Int32 × Hp)) (S : Hp) (x0 : Nat) (y1 : Int32) : Option (Int32 × Hp) :=
 ob S 3 (some x0) fun _ =>
 if (zI S x0 1) ≤ y1 then
 some (y1, S)
 else
 ar S 7 (zR S x0 0) y1 fun a2 i1 =>
 if (zI S a2 i1) < 97 then
 some (y1, S)
 else
 ar S 7 (zR S x0 0) y1 fun a3 i2 =>
 if 122 < (zI S a3 i2) then
 some (y1, S)
 else
 bnd (y1 + 1) fun v1 =>
 rec S x0 v1
def f_X3_wordLength_L2 : Nat → Hp → Nat → Int32 → Option (Int32 × Hp)
  | 0 => fun _ _ _ => none
  | n + 1 => f_X3_wordLength_L2_b (f_X3_wordLength_L2 n)
def f_X3_wordLength (S : Hp) (x0 : Nat) : Option (Int32 × Hp) :=
 f_X3_wordLength_L2 1000 S x0 (0 : Int32)
set_option maxHeartbeats 4000000 in
set_option maxRecDepth 100000 in
theorem w_X3_wordLength_L2 {X : Cx} (C : CxOK X cX3_wordLength RX3 rm_X3_wordLength) (hn : xn X = 2) {S0 : Hp} {o : Int32 × Hp} (hQ : QI X (some .int) S0 0 0 o) : ∀ (fuel : Nat) (S : Hp) (x0 : Nat) (y1 : Int32), f_X3_wordLength_L2 fuel S x0 y1 = some o → GW X 0 0 S 2 [(0, va_rf (some x0)), (1, .int y1)] [] := by
  have hn1 : 1 < xn X := by rw [hn]; decide
  intro fuel
  induction fuel with
  | zero => intro S x0 y1 h; cases (show none = some o from h)
  | succ fuel ih =>
    intro S x0 y1 h
    have h : f_X3_wordLength_L2_b (f_X3_wordLength_L2 fuel) S x0 y1 = some o := h
    unfold f_X3_wordLength_L2_b at h
    refine g_iload_n C (q := 1) dX3_wordLength_2 rfl rfl ?_
    refine g_aload_n C (q := 0) dX3_wordLength_3 rfl rfl ?_
    refine g_ogetSI C (ci := 3) (slot := 1) rfl (by decide) inlX3 (by decide) rfl q174 dX3_wordLength_4 h (fun h hLa1 hKa1 => ?_)
    refine g_icmp_ge C (tgt := 38) dX3_wordLength_7 (by decide) h (fun h => ?_) (fun h => ?_)
    · refine g_iload_n C (q := 1) dX3_wordLength_38 rfl rfl ?_
      exact g_iret C hQ dX3_wordLength_39 h
    · refine g_aload_n C (q := 0) dX3_wordLength_10 rfl rfl ?_
      refine g_getER C (ci := 3) (slot := 0) rfl (by decide) inlX3 (by decide) rfl q57 dX3_wordLength_11 rfl hLa1 hKa1 ?_
      refine g_iload_n C (q := 1) dX3_wordLength_14 rfl rfl ?_
      refine g_cald C dX3_wordLength_15 h (fun a2 i1 h => ?_)
      refine g_bipush C (v := 97) dX3_wordLength_16 (by decide) ?_
      refine g_icmp_lt C (tgt := 38) dX3_wordLength_18 (by decide) h (fun h => ?_) (fun h => ?_)
      · refine g_iload_n C (q := 1) dX3_wordLength_38 rfl rfl ?_
        exact g_iret C hQ dX3_wordLength_39 h
      · refine g_aload_n C (q := 0) dX3_wordLength_21 rfl rfl ?_
        refine g_getER C (ci := 3) (slot := 0) rfl (by decide) inlX3 (by decide) rfl q57 dX3_wordLength_22 rfl hLa1 hKa1 ?_
        refine g_iload_n C (q := 1) dX3_wordLength_25 rfl rfl ?_
        refine g_cald C dX3_wordLength_26 h (fun a3 i2 h => ?_)
        refine g_bipush C (v := 122) dX3_wordLength_27 (by decide) ?_
        refine g_icmp_gt C (tgt := 38) dX3_wordLength_29 (by decide) h (fun h => ?_) (fun h => ?_)
        · refine g_iload_n C (q := 1) dX3_wordLength_38 rfl rfl ?_
          exact g_iret C hQ dX3_wordLength_39 h
        · obtain ⟨v1, ev1, h⟩ := bnd_ex h
          refine g_iinc C (i := 1) (lv' := [(1, .int v1), (0, va_rf (some x0))]) (q := 1) v1 dX3_wordLength_32 rfl ev1 hn1 (by simp [va_rf_cat, catI, catJ, catD]) ?_
          refine g_goto C (tgt := 2) dX3_wordLength_35 (by decide) ?_
          refine g_sub (lv' := [(0, va_rf (some x0)), (1, .int v1)]) [1, 0] rfl ?_
          exact ih S x0 v1 h
set_option maxHeartbeats 4000000 in
set_option maxRecDepth 100000 in
theorem c_X3_wordLength (S : Hp) (x0 : Nat) (o : Int32 × Hp) (h : f_X3_wordLength S x0 = some o) : CtI yX3_wordLength cX3_wordLength 2 (some .int) rm_X3_wordLength 0 0 [va_rf (some x0)] S o := by
  refine ct_I (own := RX3) (by decide) rfl (Nat.le_of_ble_eq_true rfl) (fun X C hn hQ => ?_)
  have hn1 : 1 < xn X := by rw [hn]; decide
  unfold f_X3_wordLength at h
  show GW X 0 0 S 0 [(0, va_rf (some x0))] []
  refine g_iconst C (v := 0) dX3_wordLength_0 (by decide) ?_
  refine g_istore_n C (i := 1) (lv' := [(1, .int 0), (0, va_rf (some x0))]) dX3_wordLength_1 rfl hn1 (by simp [va_rf_cat, catI, catJ, catD]) ?_
  refine g_sub (lv' := [(0, va_rf (some x0)), (1, .int 0)]) [1, 0] rfl ?_
  exact w_X3_wordLength_L2 C hn hQ 1000 S x0 (0 : Int32) h

abbrev rm_X3_isBlankAt : Room := { frames := 0, cells := 0, slots := 0, locals := 0 }
theorem dsX3_isBlankAt : yX3_isBlankAt.cls = RX3 ∧ yX3_isBlankAt.cls ≠ "java/lang/invoke/MethodHandle" ∧ yX3_isBlankAt.cls ≠ "java/lang/invoke/VarHandle" ∧ (parseMethodDescriptor yX3_isBlankAt.desc).map (fun d => d.parameters.length) = some 1 := by decide +kernel
def f_X3_isBlankAt (S : Hp) (x0 : Nat) (x1 : Int32) : Option (Int32 × Hp) :=
 ob S 3 (some x0) fun _ =>
 if (zI S x0 1) ≤ x1 then
 some ((0 : Int32), S)
 else
 ar S 7 (zR S x0 0) x1 fun a2 i1 =>
 if (zI S a2 i1) = 32 then
 some ((1 : Int32), S)
 else
 some ((0 : Int32), S)
set_option maxHeartbeats 4000000 in
set_option maxRecDepth 100000 in
theorem c_X3_isBlankAt (S : Hp) (x0 : Nat) (x1 : Int32) (o : Int32 × Hp) (h : f_X3_isBlankAt S x0 x1 = some o) : CtI yX3_isBlankAt cX3_isBlankAt 2 (some .boolean) rm_X3_isBlankAt 0 0 [va_rf (some x0), .int x1] S o := by
  refine ct_I (own := RX3) (by decide) rfl (Nat.le_of_ble_eq_true rfl) (fun X C hn hQ => ?_)
  unfold f_X3_isBlankAt at h
  show GW X 0 0 S 0 [(0, va_rf (some x0)), (1, .int x1)] []
  refine g_iload_n C (q := 1) dX3_isBlankAt_0 rfl rfl ?_
  refine g_aload_n C (q := 0) dX3_isBlankAt_1 rfl rfl ?_
  refine g_ogetSI C (ci := 3) (slot := 1) rfl (by decide) inlX3 (by decide) rfl q174 dX3_isBlankAt_2 h (fun h hLa1 hKa1 => ?_)
  refine g_icmp_ge C (tgt := 23) dX3_isBlankAt_5 (by decide) h (fun h => ?_) (fun h => ?_)
  · refine g_iconst C (v := 0) dX3_isBlankAt_23 (by decide) ?_
    exact g_zret C hQ (by decide) dX3_isBlankAt_24 h
  · refine g_aload_n C (q := 0) dX3_isBlankAt_8 rfl rfl ?_
    refine g_getER C (ci := 3) (slot := 0) rfl (by decide) inlX3 (by decide) rfl q57 dX3_isBlankAt_9 rfl hLa1 hKa1 ?_
    refine g_iload_n C (q := 1) dX3_isBlankAt_12 rfl rfl ?_
    refine g_cald C dX3_isBlankAt_13 h (fun a2 i1 h => ?_)
    refine g_bipush C (v := 32) dX3_isBlankAt_14 (by decide) ?_
    refine g_icmp_ne C (tgt := 23) dX3_isBlankAt_16 (by decide) h (fun h => ?_) (fun h => ?_)
    · refine g_iconst C (v := 1) dX3_isBlankAt_19 (by decide) ?_
      refine g_goto C (tgt := 24) dX3_isBlankAt_20 (by decide) ?_
      exact g_zret C hQ (by decide) dX3_isBlankAt_24 h
    · refine g_iconst C (v := 0) dX3_isBlankAt_23 (by decide) ?_
      exact g_zret C hQ (by decide) dX3_isBlankAt_24 h

abbrev rm_X3_isDigitAt : Room := { frames := 0, cells := 0, slots := 0, locals := 0 }
theorem dsX3_isDigitAt : yX3_isDigitAt.cls = RX3 ∧ yX3_isDigitAt.cls ≠ "java/lang/invoke/MethodHandle" ∧ yX3_isDigitAt.cls ≠ "java/lang/invoke/VarHandle" ∧ (parseMethodDescriptor yX3_isDigitAt.desc).map (fun d => d.parameters.length) = some 1 := by decide +kernel
def f_X3_isDigitAt (S : Hp) (x0 : Nat) (x1 : Int32) : Option (Int32 × Hp) :=
 ob S 3 (some x0) fun _ =>
 if (zI S x0 1) ≤ x1 then
 some ((0 : Int32), S)
 else
 ar S 7 (zR S x0 0) x1 fun a2 i1 =>
 if (zI S a2 i1) < 48 then
 some ((0 : Int32), S)
 else
 ar S 7 (zR S x0 0) x1 fun a3 i2 =>
 if 57 < (zI S a3 i2) then
 some ((0 : Int32), S)
 else
 some ((1 : Int32), S)
set_option maxHeartbeats 4000000 in
set_option maxRecDepth 100000 in
theorem c_X3_isDigitAt (S : Hp) (x0 : Nat) (x1 : Int32) (o : Int32 × Hp) (h : f_X3_isDigitAt S x0 x1 = some o) : CtI yX3_isDigitAt cX3_isDigitAt 2 (some .boolean) rm_X3_isDigitAt 0 0 [va_rf (some x0), .int x1] S o := by
  refine ct_I (own := RX3) (by decide) rfl (Nat.le_of_ble_eq_true rfl) (fun X C hn hQ => ?_)
  unfold f_X3_isDigitAt at h
  show GW X 0 0 S 0 [(0, va_rf (some x0)), (1, .int x1)] []
  refine g_iload_n C (q := 1) dX3_isDigitAt_0 rfl rfl ?_
  refine g_aload_n C (q := 0) dX3_isDigitAt_1 rfl rfl ?_
  refine g_ogetSI C (ci := 3) (slot := 1) rfl (by decide) inlX3 (by decide) rfl q174 dX3_isDigitAt_2 h (fun h hLa1 hKa1 => ?_)
  refine g_icmp_ge C (tgt := 34) dX3_isDigitAt_5 (by decide) h (fun h => ?_) (fun h => ?_)
  · refine g_iconst C (v := 0) dX3_isDigitAt_34 (by decide) ?_
    exact g_zret C hQ (by decide) dX3_isDigitAt_35 h
  · refine g_aload_n C (q := 0) dX3_isDigitAt_8 rfl rfl ?_
    refine g_getER C (ci := 3) (slot := 0) rfl (by decide) inlX3 (by decide) rfl q57 dX3_isDigitAt_9 rfl hLa1 hKa1 ?_
    refine g_iload_n C (q := 1) dX3_isDigitAt_12 rfl rfl ?_
    refine g_cald C dX3_isDigitAt_13 h (fun a2 i1 h => ?_)
    refine g_bipush C (v := 48) dX3_isDigitAt_14 (by decide) ?_
    refine g_icmp_lt C (tgt := 34) dX3_isDigitAt_16 (by decide) h (fun h => ?_) (fun h => ?_)
    · refine g_iconst C (v := 0) dX3_isDigitAt_34 (by decide) ?_
      exact g_zret C hQ (by decide) dX3_isDigitAt_35 h
    · refine g_aload_n C (q := 0) dX3_isDigitAt_19 rfl rfl ?_
      refine g_getER C (ci := 3) (slot := 0) rfl (by decide) inlX3 (by decide) rfl q57 dX3_isDigitAt_20 rfl hLa1 hKa1 ?_
      refine g_iload_n C (q := 1) dX3_isDigitAt_23 rfl rfl ?_
      refine g_cald C dX3_isDigitAt_24 h (fun a3 i2 h => ?_)
      refine g_bipush C (v := 57) dX3_isDigitAt_25 (by decide) ?_
      refine g_icmp_gt C (tgt := 34) dX3_isDigitAt_27 (by decide) h (fun h => ?_) (fun h => ?_)
      · refine g_iconst C (v := 0) dX3_isDigitAt_34 (by decide) ?_
        exact g_zret C hQ (by decide) dX3_isDigitAt_35 h
      · refine g_iconst C (v := 1) dX3_isDigitAt_30 (by decide) ?_
        refine g_goto C (tgt := 35) dX3_isDigitAt_31 (by decide) ?_
        exact g_zret C hQ (by decide) dX3_isDigitAt_35 h

abbrev rm_X3_digitsAt : Room := { frames := 1, cells := 0, slots := 0, locals := 21 }
theorem dsX3_digitsAt : yX3_digitsAt.cls = RX3 ∧ yX3_digitsAt.cls ≠ "java/lang/invoke/MethodHandle" ∧ yX3_digitsAt.cls ≠ "java/lang/invoke/VarHandle" ∧ (parseMethodDescriptor yX3_digitsAt.desc).map (fun d => d.parameters.length) = some 1 := by decide +kernel
theorem gv_RX3_X3_isDigitAt : GoodIn wsL_law (wsV RX3 34 RX3 yX3_isDigitAt (.code yX3_isDigitAt cX3_isDigitAt 2 (some .boolean) :: wsL_law)) := good_V q240 q241 q242 q20 q243
def f_X3_digitsAt (S : Hp) (x0 : Nat) (x1 : Int32) : Option (Int32 × Hp) :=
 ob S 3 (some x0) fun _ =>
 ar S 7 (zR S x0 0) x1 fun a2 i1 =>
 if (zI S a2 i1) = 48 then
 some ((1 : Int32), S)
 else
 ob S 3 (some x0) fun b1 => cl (f_X3_isDigitAt S b1 (x1 + 1)) fun v1 S1 =>
 if v1 = 0 then
 some ((1 : Int32), S1)
 else
 some ((2 : Int32), S1)
set_option maxHeartbeats 4000000 in
set_option maxRecDepth 100000 in
theorem c_X3_digitsAt (S : Hp) (x0 : Nat) (x1 : Int32) (o : Int32 × Hp) (h : f_X3_digitsAt S x0 x1 = some o) : CtI yX3_digitsAt cX3_digitsAt 2 (some .int) rm_X3_digitsAt 0 0 [va_rf (some x0), .int x1] S o := by
  refine ct_I (own := RX3) (by decide) rfl (Nat.le_of_ble_eq_true rfl) (fun X C hn hQ => ?_)
  unfold f_X3_digitsAt at h
  show GW X 0 0 S 0 [(0, va_rf (some x0)), (1, .int x1)] []
  refine g_aload_n C (q := 0) dX3_digitsAt_0 rfl rfl ?_
  refine g_ogetSR C (ci := 3) (slot := 0) rfl (by decide) inlX3 (by decide) rfl q57 dX3_digitsAt_1 h (fun h hLa1 hKa1 => ?_)
  refine g_iload_n C (q := 1) dX3_digitsAt_4 rfl rfl ?_
  refine g_cald C dX3_digitsAt_5 h (fun a2 i1 h => ?_)
  refine g_bipush C (v := 48) dX3_digitsAt_6 (by decide) ?_
  refine g_icmp_eq C (tgt := 25) dX3_digitsAt_8 (by decide) h (fun h => ?_) (fun h => ?_)
  · refine g_iconst C (v := 1) dX3_digitsAt_25 (by decide) ?_
    exact g_iret C hQ dX3_digitsAt_26 h
  · refine g_aload_n C (q := 0) dX3_digitsAt_11 rfl rfl ?_
    refine g_iload_n C (q := 1) dX3_digitsAt_12 rfl rfl ?_
    refine g_iconst C (v := 1) dX3_digitsAt_13 (by decide) ?_
    refine g_iadd C dX3_digitsAt_14 ?_
    refine g_callVI C (ci := 3) (As := [.int (x1 + 1)]) (np := 1) (st := []) (r := (some x0)) rfl (by decide) (fun b1 q hq => c_X3_isDigitAt S b1 (x1 + 1) q hq) gv_RX3_X3_isDigitAt rfl rfl dsX3_isDigitAt rfl ⟨Nat.le_of_ble_eq_true rfl, Nat.le_of_ble_eq_true rfl⟩ rfl (cat_sum (Nat.le_of_ble_eq_true rfl)) ⟨Nat.zero_le _, Nat.zero_le _⟩ dX3_digitsAt_15 h (fun v1 S1 h => ?_)
    refine g_if_eq C (tgt := 25) dX3_digitsAt_18 (by decide) h (fun h => ?_) (fun h => ?_)
    · refine g_iconst C (v := 1) dX3_digitsAt_25 (by decide) ?_
      exact g_iret C hQ dX3_digitsAt_26 h
    · refine g_iconst C (v := 2) dX3_digitsAt_21 (by decide) ?_
      refine g_goto C (tgt := 26) dX3_digitsAt_22 (by decide) ?_
      exact g_iret C hQ dX3_digitsAt_26 h

abbrev rm_X3_keepNumber : Room := { frames := 0, cells := 0, slots := 0, locals := 0 }
theorem dsX3_keepNumber : yX3_keepNumber.cls = RX3 ∧ yX3_keepNumber.cls ≠ "java/lang/invoke/MethodHandle" ∧ yX3_keepNumber.cls ≠ "java/lang/invoke/VarHandle" ∧ (parseMethodDescriptor yX3_keepNumber.desc).map (fun d => d.parameters.length) = some 3 := by decide +kernel
def f_X3_keepNumber (S : Hp) (x0 : Nat) (x1 : Int32) (x2 : Int32) (x3 : Int32) : Option (Unit × Hp) :=
 ob S 3 (some x0) fun _ =>
 ar S 7 (zR S x0 0) x2 fun a2 i1 =>
 bnd (((zI S a2 i1) - 48)) fun v1 =>
 if x3 = 2 then
 ar S 7 (zR S x0 0) (x2 + 1) fun a3 i2 =>
 bnd ((((10 * v1) + (zI S a3 i2)) - 48)) fun v2 =>
 if x1 = 0 then
 ob S 3 (some x0) fun a4 => bnd (wI S a4 3 v2) fun S1 =>
 some ((), S1)
 else
 ob S 3 (some x0) fun a5 => bnd (wI S a5 4 v2) fun S2 =>
 some ((), S2)
 else
 if x1 = 0 then
 ob S 3 (some x0) fun a6 => bnd (wI S a6 3 v1) fun S3 =>
 some ((), S3)
 else
 ob S 3 (some x0) fun a7 => bnd (wI S a7 4 v1) fun S4 =>
 some ((), S4)
set_option maxHeartbeats 4000000 in
set_option maxRecDepth 100000 in
theorem c_X3_keepNumber (S : Hp) (x0 : Nat) (x1 : Int32) (x2 : Int32) (x3 : Int32) (o : Unit × Hp) (h : f_X3_keepNumber S x0 x1 x2 x3 = some o) : CtV yX3_keepNumber cX3_keepNumber 5 none rm_X3_keepNumber 0 0 [va_rf (some x0), .int x1, .int x2, .int x3] S o := by
  refine ct_V (own := RX3) (by decide) rfl (Nat.le_of_ble_eq_true rfl) (fun X C hn hQ => ?_)
  have hn4 : 4 < xn X := by rw [hn]; decide
  unfold f_X3_keepNumber at h
  show GW X 0 0 S 0 [(0, va_rf (some x0)), (1, .int x1), (2, .int x2), (3, .int x3)] []
  refine g_aload_n C (q := 0) dX3_keepNumber_0 rfl rfl ?_
  refine g_ogetSR C (ci := 3) (slot := 0) rfl (by decide) inlX3 (by decide) rfl q57 dX3_keepNumber_1 h (fun h hLa1 hKa1 => ?_)
  refine g_iload_n C (q := 2) dX3_keepNumber_4 rfl rfl ?_
  refine g_cald C dX3_keepNumber_5 h (fun a2 i1 h => ?_)
  refine g_bipush C (v := 48) dX3_keepNumber_6 (by decide) ?_
  refine g_isub C dX3_keepNumber_8 ?_
  refine g_nmI h (fun v1 h => ?_)
  refine g_istore C (i := 4) (lv' := [(4, .int v1), (0, va_rf (some x0)), (1, .int x1), (2, .int x2), (3, .int x3)]) dX3_keepNumber_9 hn4 rfl ?_
  refine g_iload_n C (q := 4) dX3_keepNumber_11 rfl rfl ?_
  refine g_iconst C (v := 2) dX3_keepNumber_12 (by decide) ?_
  refine g_icmp_ne C (tgt := 35) dX3_keepNumber_13 (by decide) h (fun h => ?_) (fun h => ?_)
  · refine g_bipush C (v := 10) dX3_keepNumber_16 (by decide) ?_
    refine g_iload C (q := 0) dX3_keepNumber_18 rfl ?_
    refine g_imul C dX3_keepNumber_20 ?_
    refine g_aload_n C (q := 1) dX3_keepNumber_21 rfl rfl ?_
    refine g_getER C (ci := 3) (slot := 0) rfl (by decide) inlX3 (by decide) rfl q57 dX3_keepNumber_22 rfl hLa1 hKa1 ?_
    refine g_iload_n C (q := 3) dX3_keepNumber_25 rfl rfl ?_
    refine g_iconst C (v := 1) dX3_keepNumber_26 (by decide) ?_
    refine g_iadd C dX3_keepNumber_27 ?_
    refine g_cald C dX3_keepNumber_28 h (fun a3 i2 h => ?_)
    refine g_iadd C dX3_keepNumber_29 ?_
    refine g_bipush C (v := 48) dX3_keepNumber_30 (by decide) ?_
    refine g_isub C dX3_keepNumber_32 ?_
    refine g_nmI h (fun v2 h => ?_)
    refine g_istore C (i := 4) (lv' := [(4, .int v2), (0, va_rf (some x0)), (1, .int x1), (2, .int x2), (3, .int x3)]) dX3_keepNumber_33 hn4 rfl ?_
    refine g_iload_n C (q := 2) dX3_keepNumber_35 rfl rfl ?_
    refine g_if_ne C (tgt := 48) dX3_keepNumber_36 (by decide) h (fun h => ?_) (fun h => ?_)
    · refine g_aload_n C (q := 1) dX3_keepNumber_39 rfl rfl ?_
      refine g_iload C (q := 0) dX3_keepNumber_40 rfl ?_
      refine g_oputI C (ci := 3) (slot := 3) tyX3 tyX3_ok nmX3 rfl (by decide) inlX3 (by decide) rfl q252 rfl dX3_keepNumber_42 rfl rfl h (fun a4 S1 h => ?_)
      refine g_goto C (tgt := 54) dX3_keepNumber_45 (by decide) ?_
      exact g_vret C hQ dX3_keepNumber_54 h
    · refine g_aload_n C (q := 1) dX3_keepNumber_48 rfl rfl ?_
      refine g_iload C (q := 0) dX3_keepNumber_49 rfl ?_
      refine g_oputI C (ci := 3) (slot := 4) tyX3 tyX3_ok nmX3 rfl (by decide) inlX3 (by decide) rfl q253 rfl dX3_keepNumber_51 rfl rfl h (fun a5 S2 h => ?_)
      exact g_vret C hQ dX3_keepNumber_54 h
  · refine g_iload_n C (q := 2) dX3_keepNumber_35 rfl rfl ?_
    refine g_if_ne C (tgt := 48) dX3_keepNumber_36 (by decide) h (fun h => ?_) (fun h => ?_)
    · refine g_aload_n C (q := 1) dX3_keepNumber_39 rfl rfl ?_
      refine g_iload C (q := 0) dX3_keepNumber_40 rfl ?_
      refine g_oputI C (ci := 3) (slot := 3) tyX3 tyX3_ok nmX3 rfl (by decide) inlX3 (by decide) rfl q252 rfl dX3_keepNumber_42 rfl rfl h (fun a6 S3 h => ?_)
      refine g_goto C (tgt := 54) dX3_keepNumber_45 (by decide) ?_
      exact g_vret C hQ dX3_keepNumber_54 h
    · refine g_aload_n C (q := 1) dX3_keepNumber_48 rfl rfl ?_
      refine g_iload C (q := 0) dX3_keepNumber_49 rfl ?_
      refine g_oputI C (ci := 3) (slot := 4) tyX3 tyX3_ok nmX3 rfl (by decide) inlX3 (by decide) rfl q253 rfl dX3_keepNumber_51 rfl rfl h (fun a7 S4 h => ?_)
      exact g_vret C hQ dX3_keepNumber_54 h

abbrev rm_X4_baseOf : Room := { frames := 0, cells := 0, slots := 0, locals := 0 }
theorem dsX4_baseOf : yX4_baseOf.cls ≠ "java/lang/invoke/MethodHandle" ∧ yX4_baseOf.cls ≠ "java/lang/invoke/VarHandle" ∧ (parseMethodDescriptor yX4_baseOf.desc).map (fun d => d.parameters.length) = some 1 := by decide +kernel
def f_X4_baseOf (S : Hp) (x0 : UInt64) : Option (Int32 × Hp) :=
 if 0 ≤ (Op.cmpValue (FP.dcmp x0 4624633867356078080) CmpOp.g) then
 if 0 ≤ (Op.cmpValue (FP.dcmp x0 4629137466983448576) CmpOp.g) then
 if 0 ≤ (Op.cmpValue (FP.dcmp x0 4631530004285489152) CmpOp.g) then
 some ((1 : Int32), S)
 else
 some ((3 : Int32), S)
 else
 some ((5 : Int32), S)
 else
 some ((7 : Int32), S)
set_option maxHeartbeats 4000000 in
set_option maxRecDepth 100000 in
theorem c_X4_baseOf (S : Hp) (x0 : UInt64) (o : Int32 × Hp) (h : f_X4_baseOf S x0 = some o) : CtI yX4_baseOf cX4_baseOf 2 (some .int) rm_X4_baseOf 0 0 [.double x0] S o := by
  refine ct_I (own := RX4) (by decide) rfl (Nat.le_of_ble_eq_true rfl) (fun X C hn hQ => ?_)
  unfold f_X4_baseOf at h
  show GW X 0 0 S 0 [(0, .double x0)] []
  refine g_dload_n C (q := 0) dX4_baseOf_0 rfl rfl ?_
  refine g_ldc2d C q516 dX4_baseOf_1 ?_
  refine g_dcmp C dX4_baseOf_4 ?_
  refine g_if_ge C (tgt := 11) dX4_baseOf_5 (by decide) h (fun h => ?_) (fun h => ?_)
  · refine g_dload_n C (q := 0) dX4_baseOf_11 rfl rfl ?_
    refine g_ldc2d C q517 dX4_baseOf_12 ?_
    refine g_dcmp C dX4_baseOf_15 ?_
    refine g_if_ge C (tgt := 21) dX4_baseOf_16 (by decide) h (fun h => ?_) (fun h => ?_)
    · refine g_dload_n C (q := 0) dX4_baseOf_21 rfl rfl ?_
      refine g_ldc2d C q518 dX4_baseOf_22 ?_
      refine g_dcmp C dX4_baseOf_25 ?_
      refine g_if_ge C (tgt := 33) dX4_baseOf_26 (by decide) h (fun h => ?_) (fun h => ?_)
      · refine g_iconst C (v := 1) dX4_baseOf_33 (by decide) ?_
        exact g_iret C hQ dX4_baseOf_34 h
      · refine g_iconst C (v := 3) dX4_baseOf_29 (by decide) ?_
        refine g_goto C (tgt := 34) dX4_baseOf_30 (by decide) ?_
        exact g_iret C hQ dX4_baseOf_34 h
    · refine g_iconst C (v := 5) dX4_baseOf_19 (by decide) ?_
      exact g_iret C hQ dX4_baseOf_20 h
  · refine g_bipush C (v := 7) dX4_baseOf_8 (by decide) ?_
    exact g_iret C hQ dX4_baseOf_10 h

abbrev rm_X4_begin : Room := { frames := 1, cells := 0, slots := 0, locals := 21 }
theorem dsX4_begin : yX4_begin.cls = RX4 ∧ yX4_begin.cls ≠ "java/lang/invoke/MethodHandle" ∧ yX4_begin.cls ≠ "java/lang/invoke/VarHandle" ∧ (parseMethodDescriptor yX4_begin.desc).map (fun d => d.parameters.length) = some 4 := by decide +kernel
theorem gs_RX4_X4_baseOf : GoodIn wsL_law (va_wsS RX4 23 yX4_baseOf (.code yX4_baseOf cX4_baseOf 2 (some .int) :: wsL_law)) := good_S q513 q514 q35 q515
def f_X4_begin (S : Hp) (x0 : Nat) (x1 : Int32) (x2 : UInt64) (x4 : Int32) (x5 : Int32) : Option (Unit × Hp) :=
 ob S 4 (some x0) fun a1 => bnd (wI S a1 1 x1) fun S1 =>
 ob S1 4 (some x0) fun a2 => bnd (wD S1 a2 2 x2) fun S2 =>
 cl (f_X4_baseOf S2 x2) fun v1 S3 =>
 ob S3 4 (some x0) fun a3 => bnd (wI S3 a3 3 v1) fun S4 =>
 ob S4 4 (some x0) fun a4 => bnd (wI S4 a4 4 x4) fun S5 =>
 ob S5 4 (some x0) fun a5 => bnd (wI S5 a5 5 x5) fun S6 =>
 ob S6 4 (some x0) fun a6 => bnd (wI S6 a6 6 (0 : Int32)) fun S7 =>
 ob S7 4 (some x0) fun a7 => bnd (wI S7 a7 7 (0 : Int32)) fun S8 =>
 ob S8 4 (some x0) fun a8 => bnd (wI S8 a8 8 (0 : Int32)) fun S9 =>
 ob S9 4 (some x0) fun a9 => bnd (wI S9 a9 9 (0 : Int32)) fun S10 =>
 ob S10 4 (some x0) fun a10 => bnd (wI S10 a10 10 (0 : Int32)) fun S11 =>
 some ((), S11)
set_option maxHeartbeats 4000000 in
set_option maxRecDepth 100000 in
theorem c_X4_begin (S : Hp) (x0 : Nat) (x1 : Int32) (x2 : UInt64) (x4 : Int32) (x5 : Int32) (o : Unit × Hp) (h : f_X4_begin S x0 x1 x2 x4 x5 = some o) : CtV yX4_begin cX4_begin 6 none rm_X4_begin 0 0 [va_rf (some x0), .int x1, .double x2, .int x4, .int x5] S o := by
  refine ct_V (own := RX4) (by decide) rfl (Nat.le_of_ble_eq_true rfl) (fun X C hn hQ => ?_)
  unfold f_X4_begin at h
  show GW X 0 0 S 0 [(0, va_rf (some x0)), (1, .int x1), (2, .double x2), (4, .int x4), (5, .int x5)] []
  refine g_aload_n C (q := 0) dX4_begin_0 rfl rfl ?_
  refine g_iload_n C (q := 1) dX4_begin_1 rfl rfl ?_
  refine g_oputI C (ci := 4) (slot := 1) tyX4 tyX4_ok nmX4 rfl (by decide) inlX4 (by decide) rfl q141 rfl dX4_begin_2 rfl rfl h (fun a1 S1 h => ?_)
  refine g_aload_n C (q := 0) dX4_begin_5 rfl rfl ?_
  refine g_dload_n C (q := 2) dX4_begin_6 rfl rfl ?_
  refine g_oputD C (ci := 4) (slot := 2) tyX4 tyX4_ok nmX4 rfl (by decide) inlX4 (by decide) rfl q142 rfl dX4_begin_7 rfl rfl h (fun a2 S2 h => ?_)
  refine g_aload_n C (q := 0) dX4_begin_10 rfl rfl ?_
  refine g_dload_n C (q := 2) dX4_begin_11 rfl rfl ?_
  refine g_callSI C (As := [.double x2]) (np := 1) (st := [va_rf (some x0)]) (fun q hq => c_X4_baseOf S2 x2 q hq) gs_RX4_X4_baseOf rfl rfl dsX4_baseOf rfl ⟨Nat.le_of_ble_eq_true rfl, Nat.le_of_ble_eq_true rfl⟩ rfl (cat_sum (Nat.le_of_ble_eq_true rfl)) ⟨Nat.zero_le _, Nat.zero_le _⟩ dX4_begin_12 h (fun v1 S3 h => ?_)
  refine g_oputI C (ci := 4) (slot := 3) tyX4 tyX4_ok nmX4 rfl (by decide) inlX4 (by decide) rfl q143 rfl dX4_begin_15 rfl rfl h (fun a3 S4 h => ?_)
  refine g_aload_n C (q := 0) dX4_begin_18 rfl rfl ?_
  refine g_iload C (q := 3) dX4_begin_19 rfl ?_
  refine g_oputI C (ci := 4) (slot := 4) tyX4 tyX4_ok nmX4 rfl (by decide) inlX4 (by decide) rfl q144 rfl dX4_begin_21 rfl rfl h (fun a4 S5 h => ?_)
  refine g_aload_n C (q := 0) dX4_begin_24 rfl rfl ?_
  refine g_iload C (q := 4) dX4_begin_25 rfl ?_
  refine g_oputI C (ci := 4) (slot := 5) tyX4 tyX4_ok nmX4 rfl (by decide) inlX4 (by decide) rfl q145 rfl dX4_begin_27 rfl rfl h (fun a5 S6 h => ?_)
  refine g_aload_n C (q := 0) dX4_begin_30 rfl rfl ?_
  refine g_iconst C (v := 0) dX4_begin_31 (by decide) ?_
  refine g_oputI C (ci := 4) (slot := 6) tyX4 tyX4_ok nmX4 rfl (by decide) inlX4 (by decide) rfl q146 rfl dX4_begin_32 rfl rfl h (fun a6 S7 h => ?_)
  refine g_aload_n C (q := 0) dX4_begin_35 rfl rfl ?_
  refine g_iconst C (v := 0) dX4_begin_36 (by decide) ?_
  refine g_oputI C (ci := 4) (slot := 7) tyX4 tyX4_ok nmX4 rfl (by decide) inlX4 (by decide) rfl q147 rfl dX4_begin_37 rfl rfl h (fun a7 S8 h => ?_)
  refine g_aload_n C (q := 0) dX4_begin_40 rfl rfl ?_
  refine g_iconst C (v := 0) dX4_begin_41 (by decide) ?_
  refine g_oputI C (ci := 4) (slot := 8) tyX4 tyX4_ok nmX4 rfl (by decide) inlX4 (by decide) rfl q148 rfl dX4_begin_42 rfl rfl h (fun a8 S9 h => ?_)
  refine g_aload_n C (q := 0) dX4_begin_45 rfl rfl ?_
  refine g_iconst C (v := 0) dX4_begin_46 (by decide) ?_
  refine g_oputI C (ci := 4) (slot := 9) tyX4 tyX4_ok nmX4 rfl (by decide) inlX4 (by decide) rfl q149 rfl dX4_begin_47 rfl rfl h (fun a9 S10 h => ?_)
  refine g_aload_n C (q := 0) dX4_begin_50 rfl rfl ?_
  refine g_iconst C (v := 0) dX4_begin_51 (by decide) ?_
  refine g_oputI C (ci := 4) (slot := 10) tyX4 tyX4_ok nmX4 rfl (by decide) inlX4 (by decide) rfl q150 rfl dX4_begin_52 rfl rfl h (fun a10 S11 h => ?_)
  exact g_vret C hQ dX4_begin_55 h

abbrev rm_X4_addToRow : Room := { frames := 0, cells := 0, slots := 0, locals := 0 }
theorem dsX4_addToRow : yX4_addToRow.cls = RX4 ∧ yX4_addToRow.cls ≠ "java/lang/invoke/MethodHandle" ∧ yX4_addToRow.cls ≠ "java/lang/invoke/VarHandle" ∧ (parseMethodDescriptor yX4_addToRow.desc).map (fun d => d.parameters.length) = some 1 := by decide +kernel
def f_X4_addToRow (S : Hp) (x0 : Nat) (x1 : Int32) : Option (Unit × Hp) :=
 ob S 4 (some x0) fun _ =>
 if 4 ≤ (zI S x0 7) then
 some ((), S)
 else
 ar S 9 (zR S x0 0) (zI S x0 7) fun a2 i1 => bnd (wI S a2 i1 x1) fun S1 =>
 ob S1 4 (some x0) fun _ =>
 ob S1 4 (some x0) fun a4 => bnd (wI S1 a4 7 ((zI S1 x0 7) + 1)) fun S2 =>
 some ((), S2)
set_option maxHeartbeats 4000000 in
set_option maxRecDepth 100000 in
theorem c_X4_addToRow (S : Hp) (x0 : Nat) (x1 : Int32) (o : Unit × Hp) (h : f_X4_addToRow S x0 x1 = some o) : CtV yX4_addToRow cX4_addToRow 2 none rm_X4_addToRow 0 0 [va_rf (some x0), .int x1] S o := by
  refine ct_V (own := RX4) (by decide) rfl (Nat.le_of_ble_eq_true rfl) (fun X C hn hQ => ?_)
  unfold f_X4_addToRow at h
  show GW X 0 0 S 0 [(0, va_rf (some x0)), (1, .int x1)] []
  refine g_aload_n C (q := 0) dX4_addToRow_0 rfl rfl ?_
  refine g_ogetSI C (ci := 4) (slot := 7) rfl (by decide) inlX4 (by decide) rfl q147 dX4_addToRow_1 h (fun h hLa1 hKa1 => ?_)
  refine g_iconst C (v := 4) dX4_addToRow_4 (by decide) ?_
  refine g_icmp_ge C (tgt := 28) dX4_addToRow_5 (by decide) h (fun h => ?_) (fun h => ?_)
  · exact g_vret C hQ dX4_addToRow_28 h
  · refine g_aload_n C (q := 0) dX4_addToRow_8 rfl rfl ?_
    refine g_getER C (ci := 4) (slot := 0) rfl (by decide) inlX4 (by decide) rfl q44 dX4_addToRow_9 rfl hLa1 hKa1 ?_
    refine g_aload_n C (q := 0) dX4_addToRow_12 rfl rfl ?_
    refine g_getEI C (ci := 4) (slot := 7) rfl (by decide) inlX4 (by decide) rfl q147 dX4_addToRow_13 rfl hLa1 hKa1 ?_
    refine g_iload_n C (q := 1) dX4_addToRow_16 rfl rfl ?_
    refine g_iast C dX4_addToRow_17 h (fun a2 i1 S1 h => ?_)
    refine g_aload_n C (q := 0) dX4_addToRow_18 rfl rfl ?_
    refine g_dup C dX4_addToRow_19 (va_rf_cat _) ?_
    refine g_ogetSI C (ci := 4) (slot := 7) rfl (by decide) inlX4 (by decide) rfl q147 dX4_addToRow_20 h (fun h hLa3 hKa3 => ?_)
    refine g_iconst C (v := 1) dX4_addToRow_23 (by decide) ?_
    refine g_iadd C dX4_addToRow_24 ?_
    refine g_oputI C (ci := 4) (slot := 7) tyX4 tyX4_ok nmX4 rfl (by decide) inlX4 (by decide) rfl q147 rfl dX4_addToRow_25 rfl rfl h (fun a4 S2 h => ?_)
    exact g_vret C hQ dX4_addToRow_28 h

abbrev rm_X4_takeFromRow : Room := { frames := 0, cells := 0, slots := 0, locals := 0 }
theorem dsX4_takeFromRow : yX4_takeFromRow.cls = RX4 ∧ yX4_takeFromRow.cls ≠ "java/lang/invoke/MethodHandle" ∧ yX4_takeFromRow.cls ≠ "java/lang/invoke/VarHandle" ∧ (parseMethodDescriptor yX4_takeFromRow.desc).map (fun d => d.parameters.length) = some 1 := by decide +kernel
def f_X4_takeFromRow_L4_b (rec : Hp → Nat → Int32 → Int32 → Int32 → Option (Unit × Hp)) (S : Hp) (x0 : Nat) (y1 : Int32) (y2 : Int32) (y3 : Int32) : Option (Unit × Hp) :=
 ob S 4 (some x0) fun _ =>
 if (zI S x0 7) ≤ y3 then
 ob S 4 (some x0) fun a2 => bnd (wI S a2 7 y2) fun S1 =>
 some ((), S1)
 else
 ar S 9 (zR S x0 0) y3 fun a3 i1 =>
 if (zI S a3 i1) = y1 then
 bnd (y3 + 1) fun v1 =>
 rec S x0 y1 y2 v1
 else
 ar S 9 (zR S x0 0) y3 fun a4 i2 =>
 ar S 9 (zR S x0 0) y2 fun a5 i3 => bnd (wI S a5 i3 (zI S a4 i2)) fun S2 =>
 bnd (y2 + 1) fun v2 =>
 bnd (y3 + 1) fun v3 =>
 rec S2 x0 y1 v2 v3
def f_X4_takeFromRow_L4 : Nat → Hp → Nat → Int32 → Int32 → Int32 → Option (Unit × Hp)
  | 0 => fun _ _ _ _ _ => none
  | n + 1 => f_X4_takeFromRow_L4_b (f_X4_takeFromRow_L4 n)
def f_X4_takeFromRow (S : Hp) (x0 : Nat) (x1 : Int32) : Option (Unit × Hp) :=
 f_X4_takeFromRow_L4 1000 S x0 x1 (0 : Int32) (0 : Int32)
set_option maxHeartbeats 4000000 in
set_option maxRecDepth 100000 in
theorem w_X4_takeFromRow_L4 {X : Cx} (C : CxOK X cX4_takeFromRow RX4 rm_X4_takeFromRow) (hn : xn X = 4) {S0 : Hp} {o : Unit × Hp} (hQ : QV X none S0 0 0 o) : ∀ (fuel : Nat) (S : Hp) (x0 : Nat) (y1 : Int32) (y2 : Int32) (y3 : Int32), f_X4_takeFromRow_L4 fuel S x0 y1 y2 y3 = some o → GW X 0 0 S 4 [(0, va_rf (some x0)), (1, .int y1), (2, .int y2), (3, .int y3)] [] := by
  have hn2 : 2 < xn X := by rw [hn]; decide
  have hn3 : 3 < xn X := by rw [hn]; decide
  intro fuel
  induction fuel with
  | zero => intro S x0 y1 y2 y3 h; cases (show none = some o from h)
  | succ fuel ih =>
    intro S x0 y1 y2 y3 h
    have h : f_X4_takeFromRow_L4_b (f_X4_takeFromRow_L4 fuel) S x0 y1 y2 y3 = some o := h
    unfold f_X4_takeFromRow_L4_b at h
    refine g_iload_n C (q := 3) dX4_takeFromRow_4 rfl rfl ?_
    refine g_aload_n C (q := 0) dX4_takeFromRow_5 rfl rfl ?_
    refine g_ogetSI C (ci := 4) (slot := 7) rfl (by decide) inlX4 (by decide) rfl q147 dX4_takeFromRow_6 h (fun h hLa1 hKa1 => ?_)
    refine g_icmp_ge C (tgt := 43) dX4_takeFromRow_9 (by decide) h (fun h => ?_) (fun h => ?_)
    · refine g_aload_n C (q := 0) dX4_takeFromRow_43 rfl rfl ?_
      refine g_iload_n C (q := 2) dX4_takeFromRow_44 rfl rfl ?_
      refine g_oputI C (ci := 4) (slot := 7) tyX4 tyX4_ok nmX4 rfl (by decide) inlX4 (by decide) rfl q147 rfl dX4_takeFromRow_45 rfl rfl h (fun a2 S1 h => ?_)
      exact g_vret C hQ dX4_takeFromRow_48 h
    · refine g_aload_n C (q := 0) dX4_takeFromRow_12 rfl rfl ?_
      refine g_getER C (ci := 4) (slot := 0) rfl (by decide) inlX4 (by decide) rfl q44 dX4_takeFromRow_13 rfl hLa1 hKa1 ?_
      refine g_iload_n C (q := 3) dX4_takeFromRow_16 rfl rfl ?_
      refine g_iald C dX4_takeFromRow_17 h (fun a3 i1 h => ?_)
      refine g_iload_n C (q := 1) dX4_takeFromRow_18 rfl rfl ?_
      refine g_icmp_eq C (tgt := 37) dX4_takeFromRow_19 (by decide) h (fun h => ?_) (fun h => ?_)
      · obtain ⟨v1, ev1, h⟩ := bnd_ex h
        refine g_iinc C (i := 3) (lv' := [(3, .int v1), (0, va_rf (some x0)), (1, .int y1), (2, .int y2)]) (q := 3) v1 dX4_takeFromRow_37 rfl ev1 hn3 rfl ?_
        refine g_goto C (tgt := 4) dX4_takeFromRow_40 (by decide) ?_
        refine g_sub (lv' := [(0, va_rf (some x0)), (1, .int y1), (2, .int y2), (3, .int v1)]) [1, 2, 3, 0] rfl ?_
        exact ih S x0 y1 y2 v1 h
      · refine g_aload_n C (q := 0) dX4_takeFromRow_22 rfl rfl ?_
        refine g_getER C (ci := 4) (slot := 0) rfl (by decide) inlX4 (by decide) rfl q44 dX4_takeFromRow_23 rfl hLa1 hKa1 ?_
        refine g_iload_n C (q := 2) dX4_takeFromRow_26 rfl rfl ?_
        refine g_aload_n C (q := 0) dX4_takeFromRow_27 rfl rfl ?_
        refine g_getER C (ci := 4) (slot := 0) rfl (by decide) inlX4 (by decide) rfl q44 dX4_takeFromRow_28 rfl hLa1 hKa1 ?_
        refine g_iload_n C (q := 3) dX4_takeFromRow_31 rfl rfl ?_
        refine g_iald C dX4_takeFromRow_32 h (fun a4 i2 h => ?_)
        refine g_iast C dX4_takeFromRow_33 h (fun a5 i3 S2 h => ?_)
        obtain ⟨v2, ev2, h⟩ := bnd_ex h
        refine g_iinc C (i := 2) (lv' := [(2, .int v2), (0, va_rf (some x0)), (1, .int y1), (3, .int y3)]) (q := 2) v2 dX4_takeFromRow_34 rfl ev2 hn2 rfl ?_
        obtain ⟨v3, ev3, h⟩ := bnd_ex h
        refine g_iinc C (i := 3) (lv' := [(3, .int v3), (2, .int v2), (0, va_rf (some x0)), (1, .int y1)]) (q := 3) v3 dX4_takeFromRow_37 rfl ev3 hn3 rfl ?_
        refine g_goto C (tgt := 4) dX4_takeFromRow_40 (by decide) ?_
        refine g_sub (lv' := [(0, va_rf (some x0)), (1, .int y1), (2, .int v2), (3, .int v3)]) [2, 3, 1, 0] rfl ?_
        exact ih S2 x0 y1 v2 v3 h
set_option maxHeartbeats 4000000 in
set_option maxRecDepth 100000 in
theorem c_X4_takeFromRow (S : Hp) (x0 : Nat) (x1 : Int32) (o : Unit × Hp) (h : f_X4_takeFromRow S x0 x1 = some o) : CtV yX4_takeFromRow cX4_takeFromRow 4 none rm_X4_takeFromRow 0 0 [va_rf (some x0), .int x1] S o := by
  refine ct_V (own := RX4) (by decide) rfl (Nat.le_of_ble_eq_true rfl) (fun X C hn hQ => ?_)
  have hn2 : 2 < xn X := by rw [hn]; decide
  have hn3 : 3 < xn X := by rw [hn]; decide
  unfold f_X4_takeFromRow at h
  show GW X 0 0 S 0 [(0, va_rf (some x0)), (1, .int x1)] []
  refine g_iconst C (v := 0) dX4_takeFromRow_0 (by decide) ?_
  refine g_istore_n C (i := 2) (lv' := [(2, .int 0), (0, va_rf (some x0)), (1, .int x1)]) dX4_takeFromRow_1 rfl hn2 rfl ?_
  refine g_iconst C (v := 0) dX4_takeFromRow_2 (by decide) ?_
  refine g_istore_n C (i := 3) (lv' := [(3, .int 0), (2, .int 0), (0, va_rf (some x0)), (1, .int x1)]) dX4_takeFromRow_3 rfl hn3 rfl ?_
  refine g_sub (lv' := [(0, va_rf (some x0)), (1, .int x1), (2, .int 0), (3, .int 0)]) [2, 3, 1, 0] rfl ?_
  exact w_X4_takeFromRow_L4 C hn hQ 1000 S x0 x1 (0 : Int32) (0 : Int32) h

abbrev rm_X4_shareAt : Room := { frames := 0, cells := 0, slots := 0, locals := 0 }
theorem dsX4_shareAt : yX4_shareAt.cls ≠ "java/lang/invoke/MethodHandle" ∧ yX4_shareAt.cls ≠ "java/lang/invoke/VarHandle" ∧ (parseMethodDescriptor yX4_shareAt.desc).map (fun d => d.parameters.length) = some 1 := by decide +kernel
def f_X4_shareAt (S : Hp) (x0 : Int32) : Option (UInt64 × Hp) :=
 if x0 < 14 then
 if x0 < 7 then
 if x0 < 3 then
 some (FP.dconst0, S)
 else
 some (4602678819172646912, S)
 else
 some (4604930618986332160, S)
 else
 some (FP.dconst1, S)
set_option maxHeartbeats 4000000 in
set_option maxRecDepth 100000 in
theorem c_X4_shareAt (S : Hp) (x0 : Int32) (o : UInt64 × Hp) (h : f_X4_shareAt S x0 = some o) : CtD yX4_shareAt cX4_shareAt 1 (some .double) rm_X4_shareAt 0 0 [.int x0] S o := by
  refine ct_D (own := RX4) (by decide) rfl (Nat.le_of_ble_eq_true rfl) (fun X C hn hQ => ?_)
  unfold f_X4_shareAt at h
  show GW X 0 0 S 0 [(0, .int x0)] []
  refine g_iload_n C (q := 0) dX4_shareAt_0 rfl rfl ?_
  refine g_bipush C (v := 14) dX4_shareAt_1 (by decide) ?_
  refine g_icmp_lt C (tgt := 8) dX4_shareAt_3 (by decide) h (fun h => ?_) (fun h => ?_)
  · refine g_iload_n C (q := 0) dX4_shareAt_8 rfl rfl ?_
    refine g_bipush C (v := 7) dX4_shareAt_9 (by decide) ?_
    refine g_icmp_lt C (tgt := 18) dX4_shareAt_11 (by decide) h (fun h => ?_) (fun h => ?_)
    · refine g_iload_n C (q := 0) dX4_shareAt_18 rfl rfl ?_
      refine g_iconst C (v := 3) dX4_shareAt_19 (by decide) ?_
      refine g_icmp_lt C (tgt := 29) dX4_shareAt_20 (by decide) h (fun h => ?_) (fun h => ?_)
      · refine g_dconst0 C dX4_shareAt_29 ?_
        exact g_dret C hQ dX4_shareAt_30 h
      · refine g_ldc2d C q277 dX4_shareAt_23 ?_
        refine g_goto C (tgt := 30) dX4_shareAt_26 (by decide) ?_
        exact g_dret C hQ dX4_shareAt_30 h
    · refine g_ldc2d C q276 dX4_shareAt_14 ?_
      exact g_dret C hQ dX4_shareAt_17 h
  · refine g_dconst1 C dX4_shareAt_6 ?_
    exact g_dret C hQ dX4_shareAt_7 h

abbrev rm_X4_refundFor : Room := { frames := 1, cells := 0, slots := 0, locals := 20 }
theorem dsX4_refundFor : yX4_refundFor.cls = RX4 ∧ yX4_refundFor.cls ≠ "java/lang/invoke/MethodHandle" ∧ yX4_refundFor.cls ≠ "java/lang/invoke/VarHandle" ∧ (parseMethodDescriptor yX4_refundFor.desc).map (fun d => d.parameters.length) = some 2 := by decide +kernel
theorem gs_RX4_X4_shareAt : GoodIn wsL_law (va_wsS RX4 63 yX4_shareAt (.code yX4_shareAt cX4_shareAt 1 (some .double) :: wsL_law)) := good_S q273 q274 q35 q275
def f_X4_refundFor (S : Hp) (x0 : Nat) (x1 : Int32) (x2 : Int32) : Option (Int32 × Hp) :=
 ob S 4 (some x0) fun _ =>
 if 0 < (zI S x0 6) then
 fpg (FP.ddiv (FP.i2d (zI S x0 8)) (FP.i2d (zI S x0 6))) <|
 fpg (FP.dmul (FP.ddiv (FP.i2d (zI S x0 8)) (FP.i2d (zI S x0 6))) (FP.i2d x1)) <|
 cl (f_X4_shareAt S ((zI S x0 1) - x2)) fun e1 S1 =>
 fpg (FP.dmul (FP.dmul (FP.ddiv (FP.i2d (zI S x0 8)) (FP.i2d (zI S x0 6))) (FP.i2d x1)) e1) <|
 some ((FP.d2i (FP.dmul (FP.dmul (FP.ddiv (FP.i2d (zI S x0 8)) (FP.i2d (zI S x0 6))) (FP.i2d x1)) e1)), S1)
 else
 some ((0 : Int32), S)
set_option maxHeartbeats 4000000 in
set_option maxRecDepth 100000 in
theorem c_X4_refundFor (S : Hp) (x0 : Nat) (x1 : Int32) (x2 : Int32) (o : Int32 × Hp) (h : f_X4_refundFor S x0 x1 x2 = some o) : CtI yX4_refundFor cX4_refundFor 3 (some .int) rm_X4_refundFor 0 0 [va_rf (some x0), .int x1, .int x2] S o := by
  refine ct_I (own := RX4) (by decide) rfl (Nat.le_of_ble_eq_true rfl) (fun X C hn hQ => ?_)
  unfold f_X4_refundFor at h
  show GW X 0 0 S 0 [(0, va_rf (some x0)), (1, .int x1), (2, .int x2)] []
  refine g_aload_n C (q := 0) dX4_refundFor_0 rfl rfl ?_
  refine g_ogetSI C (ci := 4) (slot := 6) rfl (by decide) inlX4 (by decide) rfl q146 dX4_refundFor_1 h (fun h hLa1 hKa1 => ?_)
  refine g_if_gt C (tgt := 9) dX4_refundFor_4 (by decide) h (fun h => ?_) (fun h => ?_)
  · refine g_aload_n C (q := 0) dX4_refundFor_9 rfl rfl ?_
    refine g_getEI C (ci := 4) (slot := 8) rfl (by decide) inlX4 (by decide) rfl q148 dX4_refundFor_10 rfl hLa1 hKa1 ?_
    refine g_i2d C dX4_refundFor_13 ?_
    refine g_aload_n C (q := 0) dX4_refundFor_14 rfl rfl ?_
    refine g_getEI C (ci := 4) (slot := 6) rfl (by decide) inlX4 (by decide) rfl q146 dX4_refundFor_15 rfl hLa1 hKa1 ?_
    refine g_i2d C dX4_refundFor_18 ?_
    refine g_ddiv C dX4_refundFor_19 h (fun h => ?_)
    refine g_iload_n C (q := 1) dX4_refundFor_20 rfl rfl ?_
    refine g_i2d C dX4_refundFor_21 ?_
    refine g_dmul C dX4_refundFor_22 h (fun h => ?_)
    refine g_aload_n C (q := 0) dX4_refundFor_23 rfl rfl ?_
    refine g_getEI C (ci := 4) (slot := 1) rfl (by decide) inlX4 (by decide) rfl q141 dX4_refundFor_24 rfl hLa1 hKa1 ?_
    refine g_iload_n C (q := 2) dX4_refundFor_27 rfl rfl ?_
    refine g_isub C dX4_refundFor_28 ?_
    refine g_callSD C (As := [.int ((zI S x0 1) - x2)]) (np := 1) (st := [.double (FP.dmul (FP.ddiv (FP.i2d (zI S x0 8)) (FP.i2d (zI S x0 6))) (FP.i2d x1))]) (fun q hq => c_X4_shareAt S ((zI S x0 1) - x2) q hq) gs_RX4_X4_shareAt rfl rfl dsX4_shareAt rfl ⟨Nat.le_of_ble_eq_true rfl, Nat.le_of_ble_eq_true rfl⟩ rfl (cat_sum (Nat.le_of_ble_eq_true rfl)) ⟨Nat.zero_le _, Nat.zero_le _⟩ dX4_refundFor_29 h (fun e1 S1 h => ?_)
    refine g_dmul C dX4_refundFor_32 h (fun h => ?_)
    refine g_d2i C dX4_refundFor_33 ?_
    exact g_iret C hQ dX4_refundFor_34 h
  · refine g_iconst C (v := 0) dX4_refundFor_7 (by decide) ?_
    exact g_iret C hQ dX4_refundFor_8 h

abbrev rm_X4_fitsInto : Room := { frames := 0, cells := 0, slots := 0, locals := 0 }
theorem dsX4_fitsInto : yX4_fitsInto.cls = RX4 ∧ yX4_fitsInto.cls ≠ "java/lang/invoke/MethodHandle" ∧ yX4_fitsInto.cls ≠ "java/lang/invoke/VarHandle" ∧ (parseMethodDescriptor yX4_fitsInto.desc).map (fun d => d.parameters.length) = some 1 := by decide +kernel
def f_X4_fitsInto (S : Hp) (x0 : Nat) (x1 : Option Nat) : Option (Int32 × Hp) :=
 ob S 4 (some x0) fun _ =>
 if (zI S x0 9) = 0 then
 ob S 4 x1 fun a2 =>
 if (zI S a2 9) = 0 then
 if (zI S x0 1) = (zI S a2 1) then
 if 0 < (Op.cmpValue (FP.dcmp (zD S a2 2) (zD S x0 2)) CmpOp.g) then
 some ((0 : Int32), S)
 else
 if ((zI S a2 5) &&& ((zI S x0 5) ^^^ (-1))) = 0 then
 if 12 < ((zI S x0 6) + (zI S a2 6)) then
 some ((0 : Int32), S)
 else
 some ((1 : Int32), S)
 else
 some ((0 : Int32), S)
 else
 some ((0 : Int32), S)
 else
 some ((0 : Int32), S)
 else
 some ((0 : Int32), S)
set_option maxHeartbeats 4000000 in
set_option maxRecDepth 100000 in
theorem c_X4_fitsInto (S : Hp) (x0 : Nat) (x1 : Option Nat) (o : Int32 × Hp) (h : f_X4_fitsInto S x0 x1 = some o) : CtI yX4_fitsInto cX4_fitsInto 2 (some .boolean) rm_X4_fitsInto 0 0 [va_rf (some x0), va_rf x1] S o := by
  refine ct_I (own := RX4) (by decide) rfl (by simp [lg_sl, va_rf_cat, catI, catJ, catD]) (fun X C hn hQ => ?_)
  unfold f_X4_fitsInto at h
  rw [show lv_args 0 [va_rf (some x0), va_rf x1] = [(0, va_rf (some x0)), (1, va_rf x1)] by simp [lv_args, va_rf_cat, catI, catJ, catD]]
  refine g_aload_n C (q := 0) dX4_fitsInto_0 rfl rfl ?_
  refine g_ogetSI C (ci := 4) (slot := 9) rfl (by decide) inlX4 (by decide) rfl q149 dX4_fitsInto_1 h (fun h hLa1 hKa1 => ?_)
  refine g_if_ne C (tgt := 69) dX4_fitsInto_4 (by decide) h (fun h => ?_) (fun h => ?_)
  · refine g_aload_n C (q := 1) dX4_fitsInto_7 rfl rfl ?_
    refine g_ogetI C (ci := 4) (slot := 9) rfl (by decide) inlX4 (by decide) rfl q149 dX4_fitsInto_8 h (fun a2 hra2 h hLa2 hKa2 => ?_)
    refine g_if_ne C (tgt := 69) dX4_fitsInto_11 (by decide) h (fun h => ?_) (fun h => ?_)
    · refine g_aload_n C (q := 0) dX4_fitsInto_14 rfl rfl ?_
      refine g_getEI C (ci := 4) (slot := 1) rfl (by decide) inlX4 (by decide) rfl q141 dX4_fitsInto_15 rfl hLa1 hKa1 ?_
      refine g_aload_n C (q := 1) dX4_fitsInto_18 rfl rfl ?_
      refine g_getEI C (ci := 4) (slot := 1) rfl (by decide) inlX4 (by decide) rfl q141 dX4_fitsInto_19 hra2 hLa2 hKa2 ?_
      refine g_icmp_ne C (tgt := 69) dX4_fitsInto_22 (by decide) h (fun h => ?_) (fun h => ?_)
      · refine g_aload_n C (q := 1) dX4_fitsInto_25 rfl rfl ?_
        refine g_getED C (ci := 4) (slot := 2) rfl (by decide) inlX4 (by decide) rfl q142 dX4_fitsInto_26 hra2 hLa2 hKa2 ?_
        refine g_aload_n C (q := 0) dX4_fitsInto_29 rfl rfl ?_
        refine g_getED C (ci := 4) (slot := 2) rfl (by decide) inlX4 (by decide) rfl q142 dX4_fitsInto_30 rfl hLa1 hKa1 ?_
        refine g_dcmp C dX4_fitsInto_33 ?_
        refine g_if_gt C (tgt := 69) dX4_fitsInto_34 (by decide) h (fun h => ?_) (fun h => ?_)
        · refine g_iconst C (v := 0) dX4_fitsInto_69 (by decide) ?_
          exact g_zret C hQ (by decide) dX4_fitsInto_70 h
        · refine g_aload_n C (q := 1) dX4_fitsInto_37 rfl rfl ?_
          refine g_getEI C (ci := 4) (slot := 5) rfl (by decide) inlX4 (by decide) rfl q145 dX4_fitsInto_38 hra2 hLa2 hKa2 ?_
          refine g_aload_n C (q := 0) dX4_fitsInto_41 rfl rfl ?_
          refine g_getEI C (ci := 4) (slot := 5) rfl (by decide) inlX4 (by decide) rfl q145 dX4_fitsInto_42 rfl hLa1 hKa1 ?_
          refine g_iconst C (v := (-1)) dX4_fitsInto_45 (by decide) ?_
          refine g_ixor C dX4_fitsInto_46 ?_
          refine g_iand C dX4_fitsInto_47 ?_
          refine g_if_ne C (tgt := 69) dX4_fitsInto_48 (by decide) h (fun h => ?_) (fun h => ?_)
          · refine g_aload_n C (q := 0) dX4_fitsInto_51 rfl rfl ?_
            refine g_getEI C (ci := 4) (slot := 6) rfl (by decide) inlX4 (by decide) rfl q146 dX4_fitsInto_52 rfl hLa1 hKa1 ?_
            refine g_aload_n C (q := 1) dX4_fitsInto_55 rfl rfl ?_
            refine g_getEI C (ci := 4) (slot := 6) rfl (by decide) inlX4 (by decide) rfl q146 dX4_fitsInto_56 hra2 hLa2 hKa2 ?_
            refine g_iadd C dX4_fitsInto_59 ?_
            refine g_bipush C (v := 12) dX4_fitsInto_60 (by decide) ?_
            refine g_icmp_gt C (tgt := 69) dX4_fitsInto_62 (by decide) h (fun h => ?_) (fun h => ?_)
            · refine g_iconst C (v := 0) dX4_fitsInto_69 (by decide) ?_
              exact g_zret C hQ (by decide) dX4_fitsInto_70 h
            · refine g_iconst C (v := 1) dX4_fitsInto_65 (by decide) ?_
              refine g_goto C (tgt := 70) dX4_fitsInto_66 (by decide) ?_
              exact g_zret C hQ (by decide) dX4_fitsInto_70 h
          · refine g_iconst C (v := 0) dX4_fitsInto_69 (by decide) ?_
            exact g_zret C hQ (by decide) dX4_fitsInto_70 h
      · refine g_iconst C (v := 0) dX4_fitsInto_69 (by decide) ?_
        exact g_zret C hQ (by decide) dX4_fitsInto_70 h
    · refine g_iconst C (v := 0) dX4_fitsInto_69 (by decide) ?_
      exact g_zret C hQ (by decide) dX4_fitsInto_70 h
  · refine g_iconst C (v := 0) dX4_fitsInto_69 (by decide) ?_
    exact g_zret C hQ (by decide) dX4_fitsInto_70 h
