abbrev rm_X5_isClass : Room := { frames := 0, cells := 0, slots := 0, locals := 0 }
theorem dsX5_isClass : yX5_isClass.cls ≠ "java/lang/invoke/MethodHandle" ∧ yX5_isClass.cls ≠ "java/lang/invoke/VarHandle" ∧ (parseMethodDescriptor yX5_isClass.desc).map (fun d => d.parameters.length) = some 1 := by decide +kernel
def f_X5_isClass (S : Hp) (x0 : Int32) : Option (Int32 × Hp) :=
 if x0 < 1 then
 some ((0 : Int32), S)
 else
 if 3 < x0 then
 some ((0 : Int32), S)
 else
 some ((1 : Int32), S)
set_option maxHeartbeats 4000000 in
set_option maxRecDepth 100000 in
theorem c_X5_isClass (S : Hp) (x0 : Int32) (o : Int32 × Hp) (h : f_X5_isClass S x0 = some o) : CtI yX5_isClass cX5_isClass 1 (some .boolean) rm_X5_isClass 0 0 [.int x0] S o := by
  refine ct_I (own := RX5) (by decide) rfl (Nat.le_of_ble_eq_true rfl) (fun X C hn hQ => ?_)
  unfold f_X5_isClass at h
  show GW X 0 0 S 0 [(0, .int x0)] []
  refine g_iload_n C (q := 0) dX5_isClass_0 rfl rfl ?_
  refine g_iconst C (v := 1) dX5_isClass_1 (by decide) ?_
  refine g_icmp_lt C (tgt := 14) dX5_isClass_2 (by decide) h (fun h => ?_) (fun h => ?_)
  · refine g_iconst C (v := 0) dX5_isClass_14 (by decide) ?_
    exact g_zret C hQ (by decide) dX5_isClass_15 h
  · refine g_iload_n C (q := 0) dX5_isClass_5 rfl rfl ?_
    refine g_iconst C (v := 3) dX5_isClass_6 (by decide) ?_
    refine g_icmp_gt C (tgt := 14) dX5_isClass_7 (by decide) h (fun h => ?_) (fun h => ?_)
    · refine g_iconst C (v := 0) dX5_isClass_14 (by decide) ?_
      exact g_zret C hQ (by decide) dX5_isClass_15 h
    · refine g_iconst C (v := 1) dX5_isClass_10 (by decide) ?_
      refine g_goto C (tgt := 15) dX5_isClass_11 (by decide) ?_
      exact g_zret C hQ (by decide) dX5_isClass_15 h

abbrev rm_X5_isLastDay : Room := { frames := 0, cells := 0, slots := 0, locals := 0 }
theorem dsX5_isLastDay : yX5_isLastDay.cls ≠ "java/lang/invoke/MethodHandle" ∧ yX5_isLastDay.cls ≠ "java/lang/invoke/VarHandle" ∧ (parseMethodDescriptor yX5_isLastDay.desc).map (fun d => d.parameters.length) = some 1 := by decide +kernel
def f_X5_isLastDay (S : Hp) (x0 : Int32) : Option (Int32 × Hp) :=
 if x0 < 0 then
 some ((0 : Int32), S)
 else
 if 999 < x0 then
 some ((0 : Int32), S)
 else
 some ((1 : Int32), S)
set_option maxHeartbeats 4000000 in
set_option maxRecDepth 100000 in
theorem c_X5_isLastDay (S : Hp) (x0 : Int32) (o : Int32 × Hp) (h : f_X5_isLastDay S x0 = some o) : CtI yX5_isLastDay cX5_isLastDay 1 (some .boolean) rm_X5_isLastDay 0 0 [.int x0] S o := by
  refine ct_I (own := RX5) (by decide) rfl (Nat.le_of_ble_eq_true rfl) (fun X C hn hQ => ?_)
  unfold f_X5_isLastDay at h
  show GW X 0 0 S 0 [(0, .int x0)] []
  refine g_iload_n C (q := 0) dX5_isLastDay_0 rfl rfl ?_
  refine g_if_lt C (tgt := 15) dX5_isLastDay_1 (by decide) h (fun h => ?_) (fun h => ?_)
  · refine g_iconst C (v := 0) dX5_isLastDay_15 (by decide) ?_
    exact g_zret C hQ (by decide) dX5_isLastDay_16 h
  · refine g_iload_n C (q := 0) dX5_isLastDay_4 rfl rfl ?_
    refine g_sipush C (v := 999) dX5_isLastDay_5 (by decide) ?_
    refine g_icmp_gt C (tgt := 15) dX5_isLastDay_8 (by decide) h (fun h => ?_) (fun h => ?_)
    · refine g_iconst C (v := 0) dX5_isLastDay_15 (by decide) ?_
      exact g_zret C hQ (by decide) dX5_isLastDay_16 h
    · refine g_iconst C (v := 1) dX5_isLastDay_11 (by decide) ?_
      refine g_goto C (tgt := 16) dX5_isLastDay_12 (by decide) ?_
      exact g_zret C hQ (by decide) dX5_isLastDay_16 h

abbrev rm_X5_addGuide : Room := { frames := 4, cells := 0, slots := 0, locals := 90 }
theorem dsX5_addGuide : yX5_addGuide.cls = RX5 ∧ yX5_addGuide.cls ≠ "java/lang/invoke/MethodHandle" ∧ yX5_addGuide.cls ≠ "java/lang/invoke/VarHandle" ∧ (parseMethodDescriptor yX5_addGuide.desc).map (fun d => d.parameters.length) = some 2 := by decide +kernel
theorem gv_RX5_X0_begin : GoodIn wsL_law (wsV RX5 52 RX0 yX0_begin (.code yX0_begin cX0_begin 3 none :: wsL_law)) := good_V q459 q460 q461 q29 q462
theorem gv_RX5_X1_record : GoodIn wsL_law (wsV RX5 44 RX1 yX1_record (.code yX1_record cX1_record 2 none :: wsL_law)) := good_V q157 q158 q159 q16 q160
theorem gs_RX5_X5_isClass : GoodIn wsL_law (va_wsS RX5 33 yX5_isClass (.code yX5_isClass cX5_isClass 1 (some .boolean) :: wsL_law)) := good_S q453 q454 q2 q455
theorem gs_RX5_X5_isLastDay : GoodIn wsL_law (va_wsS RX5 37 yX5_isLastDay (.code yX5_isLastDay cX5_isLastDay 1 (some .boolean) :: wsL_law)) := good_S q456 q457 q2 q458
def f_X5_addGuide (S : Hp) (x0 : Nat) (x1 : Int32) (x2 : Int32) : Option (Int32 × Hp) :=
 cl (f_X5_isClass S x1) fun v1 S1 =>
 if v1 = 0 then
 some ((-2 : Int32), S1)
 else
 cl (f_X5_isLastDay S1 x2) fun v2 S2 =>
 if v2 = 0 then
 some ((-2 : Int32), S2)
 else
 ob S2 5 (some x0) fun _ =>
 ob S2 2 (zR S2 x0 0) fun a2 =>
 if (zI S2 a2 3) < 8 then
 ob S2 1 (zR S2 x0 2) fun b1 => cl (f_X1_record S2 b1 (zR S2 x0 0)) fun _ S3 =>
 ob S3 5 (some x0) fun _ =>
 ob S3 2 (zR S3 x0 0) fun a4 =>
 bnd ((zI S3 a4 3)) fun v3 =>
 ar S3 10 (zR S3 a4 0) v3 fun a5 i1 =>
 ob S3 0 (zR S3 a5 i1) fun b2 => cl (f_X0_begin S3 b2 x1 x2) fun _ S4 =>
 ob S4 5 (some x0) fun _ =>
 ob S4 2 (zR S4 x0 0) fun a7 =>
 ob S4 2 (zR S4 x0 0) fun a8 => bnd (wI S4 a8 3 ((zI S4 a7 3) + 1)) fun S5 =>
 some (v3, S5)
 else
 some ((-3 : Int32), S2)
set_option maxHeartbeats 4000000 in
set_option maxRecDepth 100000 in
theorem c_X5_addGuide (S : Hp) (x0 : Nat) (x1 : Int32) (x2 : Int32) (o : Int32 × Hp) (h : f_X5_addGuide S x0 x1 x2 = some o) : CtI yX5_addGuide cX5_addGuide 4 (some .int) rm_X5_addGuide 0 0 [va_rf (some x0), .int x1, .int x2] S o := by
  refine ct_I (own := RX5) (by decide) rfl (Nat.le_of_ble_eq_true rfl) (fun X C hn hQ => ?_)
  have hn3 : 3 < xn X := by rw [hn]; decide
  unfold f_X5_addGuide at h
  show GW X 0 0 S 0 [(0, va_rf (some x0)), (1, .int x1), (2, .int x2)] []
  refine g_iload_n C (q := 1) dX5_addGuide_0 rfl rfl ?_
  refine g_callSI C (As := [.int x1]) (np := 1) (st := []) (fun q hq => c_X5_isClass S x1 q hq) gs_RX5_X5_isClass rfl rfl dsX5_isClass rfl ⟨Nat.le_of_ble_eq_true rfl, Nat.le_of_ble_eq_true rfl⟩ rfl (cat_sum (Nat.le_of_ble_eq_true rfl)) ⟨Nat.zero_le _, Nat.zero_le _⟩ dX5_addGuide_1 h (fun v1 S1 h => ?_)
  refine g_if_eq C (tgt := 14) dX5_addGuide_4 (by decide) h (fun h => ?_) (fun h => ?_)
  · refine g_bipush C (v := (-2)) dX5_addGuide_14 (by decide) ?_
    exact g_iret C hQ dX5_addGuide_16 h
  · refine g_iload_n C (q := 2) dX5_addGuide_7 rfl rfl ?_
    refine g_callSI C (As := [.int x2]) (np := 1) (st := []) (fun q hq => c_X5_isLastDay S1 x2 q hq) gs_RX5_X5_isLastDay rfl rfl dsX5_isLastDay rfl ⟨Nat.le_of_ble_eq_true rfl, Nat.le_of_ble_eq_true rfl⟩ rfl (cat_sum (Nat.le_of_ble_eq_true rfl)) ⟨Nat.zero_le _, Nat.zero_le _⟩ dX5_addGuide_8 h (fun v2 S2 h => ?_)
    refine g_if_ne C (tgt := 17) dX5_addGuide_11 (by decide) h (fun h => ?_) (fun h => ?_)
    · refine g_bipush C (v := (-2)) dX5_addGuide_14 (by decide) ?_
      exact g_iret C hQ dX5_addGuide_16 h
    · refine g_aload_n C (q := 0) dX5_addGuide_17 rfl rfl ?_
      refine g_ogetSR C (ci := 5) (slot := 0) rfl (by decide) inlX5 (by decide) rfl q12 dX5_addGuide_18 h (fun h hLa1 hKa1 => ?_)
      refine g_ogetI C (ci := 2) (slot := 3) rfl (by decide) inlX2 (by decide) rfl q343 dX5_addGuide_21 h (fun a2 hra2 h hLa2 hKa2 => ?_)
      refine g_bipush C (v := 8) dX5_addGuide_24 (by decide) ?_
      refine g_icmp_lt C (tgt := 32) dX5_addGuide_26 (by decide) h (fun h => ?_) (fun h => ?_)
      · refine g_aload_n C (q := 0) dX5_addGuide_32 rfl rfl ?_
        refine g_getER C (ci := 5) (slot := 2) rfl (by decide) inlX5 (by decide) rfl q17 dX5_addGuide_33 rfl hLa1 hKa1 ?_
        refine g_aload_n C (q := 0) dX5_addGuide_36 rfl rfl ?_
        refine g_getER C (ci := 5) (slot := 0) rfl (by decide) inlX5 (by decide) rfl q12 dX5_addGuide_37 rfl hLa1 hKa1 ?_
        refine g_callVV C (ci := 1) (As := [va_rf (zR S2 x0 0)]) (np := 1) (st := []) (r := (zR S2 x0 2)) rfl (by decide) (fun b1 q hq => c_X1_record S2 b1 (zR S2 x0 0) q hq) gv_RX5_X1_record rfl rfl dsX1_record rfl ⟨Nat.le_of_ble_eq_true rfl, Nat.le_of_ble_eq_true rfl⟩ rfl (cat_sum (Nat.le_of_ble_eq_true rfl)) ⟨Nat.zero_le _, Nat.zero_le _⟩ dX5_addGuide_40 h (fun S3 h => ?_)
        refine g_aload_n C (q := 0) dX5_addGuide_43 rfl rfl ?_
        refine g_ogetSR C (ci := 5) (slot := 0) rfl (by decide) inlX5 (by decide) rfl q12 dX5_addGuide_44 h (fun h hLa3 hKa3 => ?_)
        refine g_ogetI C (ci := 2) (slot := 3) rfl (by decide) inlX2 (by decide) rfl q343 dX5_addGuide_47 h (fun a4 hra4 h hLa4 hKa4 => ?_)
        refine g_nmI h (fun v3 h => ?_)
        refine g_istore_n C (i := 3) (lv' := [(3, .int v3), (0, va_rf (some x0)), (1, .int x1), (2, .int x2)]) dX5_addGuide_50 rfl hn3 rfl ?_
        refine g_aload_n C (q := 1) dX5_addGuide_51 rfl rfl ?_
        refine g_getER C (ci := 5) (slot := 0) rfl (by decide) inlX5 (by decide) rfl q12 dX5_addGuide_52 rfl hLa3 hKa3 ?_
        refine g_getER C (ci := 2) (slot := 0) rfl (by decide) inlX2 (by decide) rfl q452 dX5_addGuide_55 hra4 hLa4 hKa4 ?_
        refine g_iload_n C (q := 0) dX5_addGuide_58 rfl rfl ?_
        refine g_aald10 C dX5_addGuide_59 h (fun a5 i1 h => ?_)
        refine g_iload_n C (q := 2) dX5_addGuide_60 rfl rfl ?_
        refine g_iload_n C (q := 3) dX5_addGuide_61 rfl rfl ?_
        refine g_callVV C (ci := 0) (As := [.int x1, .int x2]) (np := 2) (st := []) (r := (zR S3 a5 i1)) rfl (by decide) (fun b2 q hq => c_X0_begin S3 b2 x1 x2 q hq) gv_RX5_X0_begin rfl rfl dsX0_begin rfl ⟨Nat.le_of_ble_eq_true rfl, Nat.le_of_ble_eq_true rfl⟩ rfl (cat_sum (Nat.le_of_ble_eq_true rfl)) ⟨Nat.zero_le _, Nat.zero_le _⟩ dX5_addGuide_62 h (fun S4 h => ?_)
        refine g_aload_n C (q := 1) dX5_addGuide_65 rfl rfl ?_
        refine g_ogetSR C (ci := 5) (slot := 0) rfl (by decide) inlX5 (by decide) rfl q12 dX5_addGuide_66 h (fun h hLa6 hKa6 => ?_)
        refine g_dup C dX5_addGuide_69 (va_rf_cat _) ?_
        refine g_ogetI C (ci := 2) (slot := 3) rfl (by decide) inlX2 (by decide) rfl q343 dX5_addGuide_70 h (fun a7 hra7 h hLa7 hKa7 => ?_)
        refine g_iconst C (v := 1) dX5_addGuide_73 (by decide) ?_
        refine g_iadd C dX5_addGuide_74 ?_
        refine g_oputI C (ci := 2) (slot := 3) tyX2 tyX2_ok nmX2 rfl (by decide) inlX2 (by decide) rfl q343 rfl dX5_addGuide_75 rfl rfl h (fun a8 S5 h => ?_)
        refine g_iload_n C (q := 0) dX5_addGuide_78 rfl rfl ?_
        exact g_iret C hQ dX5_addGuide_79 h
      · refine g_bipush C (v := (-3)) dX5_addGuide_29 (by decide) ?_
        exact g_iret C hQ dX5_addGuide_31 h

abbrev rm_X5_isFromZeroTo : Room := { frames := 0, cells := 0, slots := 0, locals := 0 }
theorem dsX5_isFromZeroTo : yX5_isFromZeroTo.cls ≠ "java/lang/invoke/MethodHandle" ∧ yX5_isFromZeroTo.cls ≠ "java/lang/invoke/VarHandle" ∧ (parseMethodDescriptor yX5_isFromZeroTo.desc).map (fun d => d.parameters.length) = some 2 := by decide +kernel
def f_X5_isFromZeroTo (S : Hp) (x0 : Int64) (x2 : Int64) : Option (Int32 × Hp) :=
 if (lg_cmp x2 0) < 0 then
 some ((0 : Int32), S)
 else
 if 0 < (lg_cmp x2 x0) then
 some ((0 : Int32), S)
 else
 some ((1 : Int32), S)
set_option maxHeartbeats 4000000 in
set_option maxRecDepth 100000 in
theorem c_X5_isFromZeroTo (S : Hp) (x0 : Int64) (x2 : Int64) (o : Int32 × Hp) (h : f_X5_isFromZeroTo S x0 x2 = some o) : CtI yX5_isFromZeroTo cX5_isFromZeroTo 4 (some .boolean) rm_X5_isFromZeroTo 0 0 [.long x0, .long x2] S o := by
  refine ct_I (own := RX5) (by decide) rfl (Nat.le_of_ble_eq_true rfl) (fun X C hn hQ => ?_)
  unfold f_X5_isFromZeroTo at h
  show GW X 0 0 S 0 [(0, .long x0), (2, .long x2)] []
  refine g_lload_n C (q := 1) dX5_isFromZeroTo_0 rfl rfl ?_
  refine g_lconst C (v := 0) dX5_isFromZeroTo_1 (by decide) ?_
  refine g_lcmp C dX5_isFromZeroTo_2 ?_
  refine g_if_lt C (tgt := 16) dX5_isFromZeroTo_3 (by decide) h (fun h => ?_) (fun h => ?_)
  · refine g_iconst C (v := 0) dX5_isFromZeroTo_16 (by decide) ?_
    exact g_zret C hQ (by decide) dX5_isFromZeroTo_17 h
  · refine g_lload_n C (q := 1) dX5_isFromZeroTo_6 rfl rfl ?_
    refine g_lload_n C (q := 0) dX5_isFromZeroTo_7 rfl rfl ?_
    refine g_lcmp C dX5_isFromZeroTo_8 ?_
    refine g_if_gt C (tgt := 16) dX5_isFromZeroTo_9 (by decide) h (fun h => ?_) (fun h => ?_)
    · refine g_iconst C (v := 0) dX5_isFromZeroTo_16 (by decide) ?_
      exact g_zret C hQ (by decide) dX5_isFromZeroTo_17 h
    · refine g_iconst C (v := 1) dX5_isFromZeroTo_12 (by decide) ?_
      refine g_goto C (tgt := 17) dX5_isFromZeroTo_13 (by decide) ?_
      exact g_zret C hQ (by decide) dX5_isFromZeroTo_17 h

abbrev rm_X5_halved : Room := { frames := 0, cells := 0, slots := 0, locals := 0 }
theorem dsX5_halved : yX5_halved.cls ≠ "java/lang/invoke/MethodHandle" ∧ yX5_halved.cls ≠ "java/lang/invoke/VarHandle" ∧ (parseMethodDescriptor yX5_halved.desc).map (fun d => d.parameters.length) = some 1 := by decide +kernel
def f_X5_halved_L9_b (rec : Hp → Int32 → UInt64 → UInt64 → Int32 → Option (UInt64 × Hp)) (S : Hp) (y0 : Int32) (y1 : UInt64) (y3 : UInt64) (y5 : Int32) : Option (UInt64 × Hp) :=
 if 11 ≤ y5 then
 some (y1, S)
 else
 if ((y0 >>> (y5 &&& 31)) &&& 1) = 0 then
 fpg (FP.dmul y3 y3) <|
 bnd ((FP.dmul y3 y3)) fun e1 =>
 bnd (y5 + 1) fun v1 =>
 rec S y0 y1 e1 v1
 else
 fpg (FP.dmul y1 y3) <|
 bnd ((FP.dmul y1 y3)) fun e2 =>
 fpg (FP.dmul y3 y3) <|
 bnd ((FP.dmul y3 y3)) fun e3 =>
 bnd (y5 + 1) fun v2 =>
 rec S y0 e2 e3 v2
def f_X5_halved_L9 : Nat → Hp → Int32 → UInt64 → UInt64 → Int32 → Option (UInt64 × Hp)
  | 0 => fun _ _ _ _ _ => none
  | n + 1 => f_X5_halved_L9_b (f_X5_halved_L9 n)
def f_X5_halved (S : Hp) (x0 : Int32) : Option (UInt64 × Hp) :=
 bnd (FP.dconst1) fun e1 =>
 f_X5_halved_L9 1000 S x0 e1 4602678819172646912 (0 : Int32)
set_option maxHeartbeats 4000000 in
set_option maxRecDepth 100000 in
theorem w_X5_halved_L9 {X : Cx} (C : CxOK X cX5_halved RX5 rm_X5_halved) (hn : xn X = 6) {S0 : Hp} {o : UInt64 × Hp} (hQ : QD X (some .double) S0 0 0 o) : ∀ (fuel : Nat) (S : Hp) (y0 : Int32) (y1 : UInt64) (y3 : UInt64) (y5 : Int32), f_X5_halved_L9 fuel S y0 y1 y3 y5 = some o → GW X 0 0 S 9 [(0, .int y0), (1, .double y1), (3, .double y3), (5, .int y5)] [] := by
  have hn2 : 2 < xn X := by rw [hn]; decide
  have hn4 : 4 < xn X := by rw [hn]; decide
  have hn5 : 5 < xn X := by rw [hn]; decide
  intro fuel
  induction fuel with
  | zero => intro S y0 y1 y3 y5 h; cases (show none = some o from h)
  | succ fuel ih =>
    intro S y0 y1 y3 y5 h
    have h : f_X5_halved_L9_b (f_X5_halved_L9 fuel) S y0 y1 y3 y5 = some o := h
    unfold f_X5_halved_L9_b at h
    refine g_iload C (q := 3) dX5_halved_9 rfl ?_
    refine g_bipush C (v := 11) dX5_halved_11 (by decide) ?_
    refine g_icmp_ge C (tgt := 39) dX5_halved_13 (by decide) h (fun h => ?_) (fun h => ?_)
    · refine g_dload_n C (q := 1) dX5_halved_39 rfl rfl ?_
      exact g_dret C hQ dX5_halved_40 h
    · refine g_iload_n C (q := 0) dX5_halved_16 rfl rfl ?_
      refine g_iload C (q := 3) dX5_halved_17 rfl ?_
      refine g_ishr C dX5_halved_19 ?_
      refine g_iconst C (v := 1) dX5_halved_20 (by decide) ?_
      refine g_iand C dX5_halved_21 ?_
      refine g_if_eq C (tgt := 29) dX5_halved_22 (by decide) h (fun h => ?_) (fun h => ?_)
      · refine g_dload_n C (q := 2) dX5_halved_29 rfl rfl ?_
        refine g_dload_n C (q := 2) dX5_halved_30 rfl rfl ?_
        refine g_dmul C dX5_halved_31 h (fun h => ?_)
        refine g_nmD h (fun e1 h => ?_)
        refine g_dstore_n C (i := 3) (lv' := [(3, .double e1), (0, .int y0), (1, .double y1), (5, .int y5)]) dX5_halved_32 rfl hn4 rfl ?_
        obtain ⟨v1, ev1, h⟩ := bnd_ex h
        refine g_iinc C (i := 5) (lv' := [(5, .int v1), (3, .double e1), (0, .int y0), (1, .double y1)]) (q := 3) v1 dX5_halved_33 rfl ev1 hn5 rfl ?_
        refine g_goto C (tgt := 9) dX5_halved_36 (by decide) ?_
        refine g_sub (lv' := [(0, .int y0), (1, .double y1), (3, .double e1), (5, .int v1)]) [2, 3, 1, 0] rfl ?_
        exact ih S y0 y1 e1 v1 h
      · refine g_dload_n C (q := 1) dX5_halved_25 rfl rfl ?_
        refine g_dload_n C (q := 2) dX5_halved_26 rfl rfl ?_
        refine g_dmul C dX5_halved_27 h (fun h => ?_)
        refine g_nmD h (fun e2 h => ?_)
        refine g_dstore_n C (i := 1) (lv' := [(1, .double e2), (0, .int y0), (3, .double y3), (5, .int y5)]) dX5_halved_28 rfl hn2 rfl ?_
        refine g_dload_n C (q := 2) dX5_halved_29 rfl rfl ?_
        refine g_dload_n C (q := 2) dX5_halved_30 rfl rfl ?_
        refine g_dmul C dX5_halved_31 h (fun h => ?_)
        refine g_nmD h (fun e3 h => ?_)
        refine g_dstore_n C (i := 3) (lv' := [(3, .double e3), (1, .double e2), (0, .int y0), (5, .int y5)]) dX5_halved_32 rfl hn4 rfl ?_
        obtain ⟨v2, ev2, h⟩ := bnd_ex h
        refine g_iinc C (i := 5) (lv' := [(5, .int v2), (3, .double e3), (1, .double e2), (0, .int y0)]) (q := 3) v2 dX5_halved_33 rfl ev2 hn5 rfl ?_
        refine g_goto C (tgt := 9) dX5_halved_36 (by decide) ?_
        refine g_sub (lv' := [(0, .int y0), (1, .double e2), (3, .double e3), (5, .int v2)]) [3, 2, 1, 0] rfl ?_
        exact ih S y0 e2 e3 v2 h
set_option maxHeartbeats 4000000 in
set_option maxRecDepth 100000 in
theorem c_X5_halved (S : Hp) (x0 : Int32) (o : UInt64 × Hp) (h : f_X5_halved S x0 = some o) : CtD yX5_halved cX5_halved 6 (some .double) rm_X5_halved 0 0 [.int x0] S o := by
  refine ct_D (own := RX5) (by decide) rfl (Nat.le_of_ble_eq_true rfl) (fun X C hn hQ => ?_)
  have hn2 : 2 < xn X := by rw [hn]; decide
  have hn4 : 4 < xn X := by rw [hn]; decide
  have hn5 : 5 < xn X := by rw [hn]; decide
  unfold f_X5_halved at h
  show GW X 0 0 S 0 [(0, .int x0)] []
  refine g_dconst1 C dX5_halved_0 ?_
  refine g_nmD h (fun e1 h => ?_)
  refine g_dstore_n C (i := 1) (lv' := [(1, .double e1), (0, .int x0)]) dX5_halved_1 rfl hn2 rfl ?_
  refine g_ldc2d C q479 dX5_halved_2 ?_
  refine g_dstore_n C (i := 3) (lv' := [(3, .double 4602678819172646912), (1, .double e1), (0, .int x0)]) dX5_halved_5 rfl hn4 rfl ?_
  refine g_iconst C (v := 0) dX5_halved_6 (by decide) ?_
  refine g_istore C (i := 5) (lv' := [(5, .int 0), (3, .double 4602678819172646912), (1, .double e1), (0, .int x0)]) dX5_halved_7 hn5 rfl ?_
  refine g_sub (lv' := [(0, .int x0), (1, .double e1), (3, .double 4602678819172646912), (5, .int 0)]) [3, 2, 1, 0] rfl ?_
  exact w_X5_halved_L9 C hn hQ 1000 S x0 e1 4602678819172646912 (0 : Int32) h

abbrev rm_X5_numberOf : Room := { frames := 1, cells := 0, slots := 0, locals := 25 }
theorem dsX5_numberOf : yX5_numberOf.cls ≠ "java/lang/invoke/MethodHandle" ∧ yX5_numberOf.cls ≠ "java/lang/invoke/VarHandle" ∧ (parseMethodDescriptor yX5_numberOf.desc).map (fun d => d.parameters.length) = some 1 := by decide +kernel
theorem gs_RX5_X5_halved : GoodIn wsL_law (va_wsS RX5 302 yX5_halved (.code yX5_halved cX5_halved 6 (some .double) :: wsL_law)) := good_S q476 q477 q2 q478
def f_X5_numberOf (S : Hp) (x0 : Int64) : Option (UInt64 × Hp) :=
 bnd (((((x0.toUInt64 >>> ((52 : Int32).toInt64.toUInt64 &&& Int64.toUInt64 63)).toInt64).toInt32) &&& 2047)) fun v1 =>
 bnd ((x0 &&& 4503599627370495)) fun j1 =>
 if v1 = 0 then
 cl (f_X5_halved S (1074 : Int32)) fun e1 S1 =>
 fpg (FP.dmul (FP.l2d j1) e1) <|
 bnd ((FP.dmul (FP.l2d j1) e1)) fun e2 =>
 if 0 ≤ (lg_cmp x0 0) then
 some (e2, S1)
 else
 some ((FP.dneg e2), S1)
 else
 cl (f_X5_halved S (1075 - v1)) fun e3 S2 =>
 fpg (FP.dmul (FP.l2d (j1 ||| 4503599627370496)) e3) <|
 bnd ((FP.dmul (FP.l2d (j1 ||| 4503599627370496)) e3)) fun e4 =>
 if 0 ≤ (lg_cmp x0 0) then
 some (e4, S2)
 else
 some ((FP.dneg e4), S2)
set_option maxHeartbeats 4000000 in
set_option maxRecDepth 100000 in
theorem c_X5_numberOf (S : Hp) (x0 : Int64) (o : UInt64 × Hp) (h : f_X5_numberOf S x0 = some o) : CtD yX5_numberOf cX5_numberOf 7 (some .double) rm_X5_numberOf 0 0 [.long x0] S o := by
  refine ct_D (own := RX5) (by decide) rfl (Nat.le_of_ble_eq_true rfl) (fun X C hn hQ => ?_)
  have hn2 : 2 < xn X := by rw [hn]; decide
  have hn4 : 4 < xn X := by rw [hn]; decide
  have hn6 : 6 < xn X := by rw [hn]; decide
  unfold f_X5_numberOf at h
  show GW X 0 0 S 0 [(0, .long x0)] []
  refine g_lload_n C (q := 0) dX5_numberOf_0 rfl rfl ?_
  refine g_bipush C (v := 52) dX5_numberOf_1 (by decide) ?_
  refine g_lushr C dX5_numberOf_3 ?_
  refine g_l2i C dX5_numberOf_4 ?_
  refine g_sipush C (v := 2047) dX5_numberOf_5 (by decide) ?_
  refine g_iand C dX5_numberOf_8 ?_
  refine g_nmI h (fun v1 h => ?_)
  refine g_istore_n C (i := 2) (lv' := [(2, .int v1), (0, .long x0)]) dX5_numberOf_9 rfl hn2 rfl ?_
  refine g_lload_n C (q := 1) dX5_numberOf_10 rfl rfl ?_
  refine g_ldc2l C q474 dX5_numberOf_11 ?_
  refine g_land C dX5_numberOf_14 ?_
  refine g_nmJ h (fun j1 h => ?_)
  refine g_lstore_n C (i := 3) (lv' := [(3, .long j1), (2, .int v1), (0, .long x0)]) dX5_numberOf_15 rfl hn4 rfl ?_
  refine g_iload_n C (q := 1) dX5_numberOf_16 rfl rfl ?_
  refine g_if_ne C (tgt := 34) dX5_numberOf_17 (by decide) h (fun h => ?_) (fun h => ?_)
  · refine g_lload_n C (q := 0) dX5_numberOf_20 rfl rfl ?_
    refine g_l2d C dX5_numberOf_21 ?_
    refine g_sipush C (v := 1074) dX5_numberOf_22 (by decide) ?_
    refine g_callSD C (As := [.int 1074]) (np := 1) (st := [.double (FP.l2d j1)]) (fun q hq => c_X5_halved S (1074 : Int32) q hq) gs_RX5_X5_halved rfl rfl dsX5_halved rfl ⟨Nat.le_of_ble_eq_true rfl, Nat.le_of_ble_eq_true rfl⟩ rfl (cat_sum (Nat.le_of_ble_eq_true rfl)) ⟨Nat.zero_le _, Nat.zero_le _⟩ dX5_numberOf_25 h (fun e1 S1 h => ?_)
    refine g_dmul C dX5_numberOf_28 h (fun h => ?_)
    refine g_nmD h (fun e2 h => ?_)
    refine g_dstore C (i := 5) (lv' := [(5, .double e2), (3, .long j1), (2, .int v1), (0, .long x0)]) dX5_numberOf_29 hn6 rfl ?_
    refine g_goto C (tgt := 51) dX5_numberOf_31 (by decide) ?_
    refine g_lload_n C (q := 3) dX5_numberOf_51 rfl rfl ?_
    refine g_lconst C (v := 0) dX5_numberOf_52 (by decide) ?_
    refine g_lcmp C dX5_numberOf_53 ?_
    refine g_if_ge C (tgt := 63) dX5_numberOf_54 (by decide) h (fun h => ?_) (fun h => ?_)
    · refine g_dload C (q := 0) dX5_numberOf_63 rfl ?_
      exact g_dret C hQ dX5_numberOf_65 h
    · refine g_dload C (q := 0) dX5_numberOf_57 rfl ?_
      refine g_dneg C dX5_numberOf_59 ?_
      refine g_goto C (tgt := 65) dX5_numberOf_60 (by decide) ?_
      exact g_dret C hQ dX5_numberOf_65 h
  · refine g_lload_n C (q := 0) dX5_numberOf_34 rfl rfl ?_
    refine g_ldc2l C q475 dX5_numberOf_35 ?_
    refine g_lor C dX5_numberOf_38 ?_
    refine g_l2d C dX5_numberOf_39 ?_
    refine g_sipush C (v := 1075) dX5_numberOf_40 (by decide) ?_
    refine g_iload_n C (q := 1) dX5_numberOf_43 rfl rfl ?_
    refine g_isub C dX5_numberOf_44 ?_
    refine g_callSD C (As := [.int (1075 - v1)]) (np := 1) (st := [.double (FP.l2d (j1 ||| 4503599627370496))]) (fun q hq => c_X5_halved S (1075 - v1) q hq) gs_RX5_X5_halved rfl rfl dsX5_halved rfl ⟨Nat.le_of_ble_eq_true rfl, Nat.le_of_ble_eq_true rfl⟩ rfl (cat_sum (Nat.le_of_ble_eq_true rfl)) ⟨Nat.zero_le _, Nat.zero_le _⟩ dX5_numberOf_45 h (fun e3 S2 h => ?_)
    refine g_dmul C dX5_numberOf_48 h (fun h => ?_)
    refine g_nmD h (fun e4 h => ?_)
    refine g_dstore C (i := 5) (lv' := [(5, .double e4), (3, .long j1), (2, .int v1), (0, .long x0)]) dX5_numberOf_49 hn6 rfl ?_
    refine g_lload_n C (q := 3) dX5_numberOf_51 rfl rfl ?_
    refine g_lconst C (v := 0) dX5_numberOf_52 (by decide) ?_
    refine g_lcmp C dX5_numberOf_53 ?_
    refine g_if_ge C (tgt := 63) dX5_numberOf_54 (by decide) h (fun h => ?_) (fun h => ?_)
    · refine g_dload C (q := 0) dX5_numberOf_63 rfl ?_
      exact g_dret C hQ dX5_numberOf_65 h
    · refine g_dload C (q := 0) dX5_numberOf_57 rfl ?_
      refine g_dneg C dX5_numberOf_59 ?_
      refine g_goto C (tgt := 65) dX5_numberOf_60 (by decide) ?_
      exact g_dret C hQ dX5_numberOf_65 h

abbrev rm_X5_addBridge : Room := { frames := 4, cells := 0, slots := 0, locals := 90 }
theorem dsX5_addBridge : yX5_addBridge.cls = RX5 ∧ yX5_addBridge.cls ≠ "java/lang/invoke/MethodHandle" ∧ yX5_addBridge.cls ≠ "java/lang/invoke/VarHandle" ∧ (parseMethodDescriptor yX5_addBridge.desc).map (fun d => d.parameters.length) = some 1 := by decide +kernel
theorem gs_RX5_X5_isFromZeroTo : GoodIn wsL_law (va_wsS RX5 73 yX5_isFromZeroTo (.code yX5_isFromZeroTo cX5_isFromZeroTo 4 (some .boolean) :: wsL_law)) := good_S q468 q469 q2 q470
theorem gs_RX5_X5_numberOf : GoodIn wsL_law (va_wsS RX5 84 yX5_numberOf (.code yX5_numberOf cX5_numberOf 7 (some .double) :: wsL_law)) := good_S q471 q472 q2 q473
def f_X5_addBridge (S : Hp) (x0 : Nat) (x1 : Int64) : Option (Int32 × Hp) :=
 cl (f_X5_isFromZeroTo S 4647503709213818880 x1) fun v1 S1 =>
 if v1 = 0 then
 some ((-2 : Int32), S1)
 else
 ob S1 5 (some x0) fun _ =>
 ob S1 2 (zR S1 x0 0) fun a2 =>
 if (zI S1 a2 4) < 6 then
 ob S1 1 (zR S1 x0 2) fun b1 => cl (f_X1_record S1 b1 (zR S1 x0 0)) fun _ S2 =>
 ob S2 5 (some x0) fun _ =>
 ob S2 2 (zR S2 x0 0) fun a4 =>
 bnd ((zI S2 a4 4)) fun v2 =>
 cl (f_X5_numberOf S2 x1) fun e1 S3 =>
 ar S3 8 (zR S2 a4 1) v2 fun a5 i1 => bnd (wD S3 a5 i1 e1) fun S4 =>
 ob S4 5 (some x0) fun _ =>
 ob S4 2 (zR S4 x0 0) fun a7 =>
 ob S4 2 (zR S4 x0 0) fun a8 => bnd (wI S4 a8 4 ((zI S4 a7 4) + 1)) fun S5 =>
 some (v2, S5)
 else
 some ((-3 : Int32), S1)
set_option maxHeartbeats 4000000 in
set_option maxRecDepth 100000 in
theorem c_X5_addBridge (S : Hp) (x0 : Nat) (x1 : Int64) (o : Int32 × Hp) (h : f_X5_addBridge S x0 x1 = some o) : CtI yX5_addBridge cX5_addBridge 4 (some .int) rm_X5_addBridge 0 0 [va_rf (some x0), .long x1] S o := by
  refine ct_I (own := RX5) (by decide) rfl (Nat.le_of_ble_eq_true rfl) (fun X C hn hQ => ?_)
  have hn3 : 3 < xn X := by rw [hn]; decide
  unfold f_X5_addBridge at h
  show GW X 0 0 S 0 [(0, va_rf (some x0)), (1, .long x1)] []
  refine g_ldc2l C q467 dX5_addBridge_0 ?_
  refine g_lload_n C (q := 1) dX5_addBridge_3 rfl rfl ?_
  refine g_callSI C (As := [.long 4647503709213818880, .long x1]) (np := 2) (st := []) (fun q hq => c_X5_isFromZeroTo S 4647503709213818880 x1 q hq) gs_RX5_X5_isFromZeroTo rfl rfl dsX5_isFromZeroTo rfl ⟨Nat.le_of_ble_eq_true rfl, Nat.le_of_ble_eq_true rfl⟩ rfl (cat_sum (Nat.le_of_ble_eq_true rfl)) ⟨Nat.zero_le _, Nat.zero_le _⟩ dX5_addBridge_4 h (fun v1 S1 h => ?_)
  refine g_if_ne C (tgt := 13) dX5_addBridge_7 (by decide) h (fun h => ?_) (fun h => ?_)
  · refine g_bipush C (v := (-2)) dX5_addBridge_10 (by decide) ?_
    exact g_iret C hQ dX5_addBridge_12 h
  · refine g_aload_n C (q := 0) dX5_addBridge_13 rfl rfl ?_
    refine g_ogetSR C (ci := 5) (slot := 0) rfl (by decide) inlX5 (by decide) rfl q12 dX5_addBridge_14 h (fun h hLa1 hKa1 => ?_)
    refine g_ogetI C (ci := 2) (slot := 4) rfl (by decide) inlX2 (by decide) rfl q362 dX5_addBridge_17 h (fun a2 hra2 h hLa2 hKa2 => ?_)
    refine g_bipush C (v := 6) dX5_addBridge_20 (by decide) ?_
    refine g_icmp_lt C (tgt := 28) dX5_addBridge_22 (by decide) h (fun h => ?_) (fun h => ?_)
    · refine g_aload_n C (q := 0) dX5_addBridge_28 rfl rfl ?_
      refine g_getER C (ci := 5) (slot := 2) rfl (by decide) inlX5 (by decide) rfl q17 dX5_addBridge_29 rfl hLa1 hKa1 ?_
      refine g_aload_n C (q := 0) dX5_addBridge_32 rfl rfl ?_
      refine g_getER C (ci := 5) (slot := 0) rfl (by decide) inlX5 (by decide) rfl q12 dX5_addBridge_33 rfl hLa1 hKa1 ?_
      refine g_callVV C (ci := 1) (As := [va_rf (zR S1 x0 0)]) (np := 1) (st := []) (r := (zR S1 x0 2)) rfl (by decide) (fun b1 q hq => c_X1_record S1 b1 (zR S1 x0 0) q hq) gv_RX5_X1_record rfl rfl dsX1_record rfl ⟨Nat.le_of_ble_eq_true rfl, Nat.le_of_ble_eq_true rfl⟩ rfl (cat_sum (Nat.le_of_ble_eq_true rfl)) ⟨Nat.zero_le _, Nat.zero_le _⟩ dX5_addBridge_36 h (fun S2 h => ?_)
      refine g_aload_n C (q := 0) dX5_addBridge_39 rfl rfl ?_
      refine g_ogetSR C (ci := 5) (slot := 0) rfl (by decide) inlX5 (by decide) rfl q12 dX5_addBridge_40 h (fun h hLa3 hKa3 => ?_)
      refine g_ogetI C (ci := 2) (slot := 4) rfl (by decide) inlX2 (by decide) rfl q362 dX5_addBridge_43 h (fun a4 hra4 h hLa4 hKa4 => ?_)
      refine g_nmI h (fun v2 h => ?_)
      refine g_istore_n C (i := 3) (lv' := [(3, .int v2), (0, va_rf (some x0)), (1, .long x1)]) dX5_addBridge_46 rfl hn3 rfl ?_
      refine g_aload_n C (q := 1) dX5_addBridge_47 rfl rfl ?_
      refine g_getER C (ci := 5) (slot := 0) rfl (by decide) inlX5 (by decide) rfl q12 dX5_addBridge_48 rfl hLa3 hKa3 ?_
      refine g_getER C (ci := 2) (slot := 1) rfl (by decide) inlX2 (by decide) rfl q62 dX5_addBridge_51 hra4 hLa4 hKa4 ?_
      refine g_iload_n C (q := 0) dX5_addBridge_54 rfl rfl ?_
      refine g_lload_n C (q := 2) dX5_addBridge_55 rfl rfl ?_
      refine g_callSD C (As := [.long x1]) (np := 1) (st := [.int v2, va_rf (zR S2 a4 1)]) (fun q hq => c_X5_numberOf S2 x1 q hq) gs_RX5_X5_numberOf rfl rfl dsX5_numberOf rfl ⟨Nat.le_of_ble_eq_true rfl, Nat.le_of_ble_eq_true rfl⟩ rfl (cat_sum (Nat.le_of_ble_eq_true rfl)) ⟨Nat.zero_le _, Nat.zero_le _⟩ dX5_addBridge_56 h (fun e1 S3 h => ?_)
      refine g_dast C dX5_addBridge_59 h (fun a5 i1 S4 h => ?_)
      refine g_aload_n C (q := 1) dX5_addBridge_60 rfl rfl ?_
      refine g_ogetSR C (ci := 5) (slot := 0) rfl (by decide) inlX5 (by decide) rfl q12 dX5_addBridge_61 h (fun h hLa6 hKa6 => ?_)
      refine g_dup C dX5_addBridge_64 (va_rf_cat _) ?_
      refine g_ogetI C (ci := 2) (slot := 4) rfl (by decide) inlX2 (by decide) rfl q362 dX5_addBridge_65 h (fun a7 hra7 h hLa7 hKa7 => ?_)
      refine g_iconst C (v := 1) dX5_addBridge_68 (by decide) ?_
      refine g_iadd C dX5_addBridge_69 ?_
      refine g_oputI C (ci := 2) (slot := 4) tyX2 tyX2_ok nmX2 rfl (by decide) inlX2 (by decide) rfl q362 rfl dX5_addBridge_70 rfl rfl h (fun a8 S5 h => ?_)
      refine g_iload_n C (q := 0) dX5_addBridge_73 rfl rfl ?_
      exact g_iret C hQ dX5_addBridge_74 h
    · refine g_bipush C (v := (-3)) dX5_addBridge_25 (by decide) ?_
      exact g_iret C hQ dX5_addBridge_27 h

abbrev rm_X5_isTemperature : Room := { frames := 1, cells := 0, slots := 0, locals := 23 }
theorem dsX5_isTemperature : yX5_isTemperature.cls ≠ "java/lang/invoke/MethodHandle" ∧ yX5_isTemperature.cls ≠ "java/lang/invoke/VarHandle" ∧ (parseMethodDescriptor yX5_isTemperature.desc).map (fun d => d.parameters.length) = some 1 := by decide +kernel
def f_X5_isTemperature (S : Hp) (x0 : Int64) : Option (Int32 × Hp) :=
 if 0 ≤ (lg_cmp x0 0) then
 cl (f_X5_isFromZeroTo S 4629137466983448576 x0) fun v1 S1 =>
 gd (v1 = 0 ∨ v1 = 1) <| some (v1, S1)
 else
 cl (f_X5_isFromZeroTo S 4630826316843712512 (x0 &&& 9223372036854775807)) fun v2 S2 =>
 gd (v2 = 0 ∨ v2 = 1) <| some (v2, S2)
set_option maxHeartbeats 4000000 in
set_option maxRecDepth 100000 in
theorem c_X5_isTemperature (S : Hp) (x0 : Int64) (o : Int32 × Hp) (h : f_X5_isTemperature S x0 = some o) : CtI yX5_isTemperature cX5_isTemperature 2 (some .boolean) rm_X5_isTemperature 0 0 [.long x0] S o := by
  refine ct_I (own := RX5) (by decide) rfl (Nat.le_of_ble_eq_true rfl) (fun X C hn hQ => ?_)
  unfold f_X5_isTemperature at h
  show GW X 0 0 S 0 [(0, .long x0)] []
  refine g_lload_n C (q := 0) dX5_isTemperature_0 rfl rfl ?_
  refine g_lconst C (v := 0) dX5_isTemperature_1 (by decide) ?_
  refine g_lcmp C dX5_isTemperature_2 ?_
  refine g_if_ge C (tgt := 20) dX5_isTemperature_3 (by decide) h (fun h => ?_) (fun h => ?_)
  · refine g_ldc2l C q490 dX5_isTemperature_20 ?_
    refine g_lload_n C (q := 0) dX5_isTemperature_23 rfl rfl ?_
    refine g_callSI C (As := [.long 4629137466983448576, .long x0]) (np := 2) (st := []) (fun q hq => c_X5_isFromZeroTo S 4629137466983448576 x0 q hq) gs_RX5_X5_isFromZeroTo rfl rfl dsX5_isFromZeroTo rfl ⟨Nat.le_of_ble_eq_true rfl, Nat.le_of_ble_eq_true rfl⟩ rfl (cat_sum (Nat.le_of_ble_eq_true rfl)) ⟨Nat.zero_le _, Nat.zero_le _⟩ dX5_isTemperature_24 h (fun v1 S1 h => ?_)
    exact g_zretg C hQ dX5_isTemperature_27 h
  · refine g_ldc2l C q488 dX5_isTemperature_6 ?_
    refine g_lload_n C (q := 0) dX5_isTemperature_9 rfl rfl ?_
    refine g_ldc2l C q489 dX5_isTemperature_10 ?_
    refine g_land C dX5_isTemperature_13 ?_
    refine g_callSI C (As := [.long 4630826316843712512, .long (x0 &&& 9223372036854775807)]) (np := 2) (st := []) (fun q hq => c_X5_isFromZeroTo S 4630826316843712512 (x0 &&& 9223372036854775807) q hq) gs_RX5_X5_isFromZeroTo rfl rfl dsX5_isFromZeroTo rfl ⟨Nat.le_of_ble_eq_true rfl, Nat.le_of_ble_eq_true rfl⟩ rfl (cat_sum (Nat.le_of_ble_eq_true rfl)) ⟨Nat.zero_le _, Nat.zero_le _⟩ dX5_isTemperature_14 h (fun v2 S2 h => ?_)
    refine g_goto C (tgt := 27) dX5_isTemperature_17 (by decide) ?_
    exact g_zretg C hQ dX5_isTemperature_27 h

abbrev rm_X5_setTemperature : Room := { frames := 4, cells := 0, slots := 0, locals := 90 }
theorem dsX5_setTemperature : yX5_setTemperature.cls = RX5 ∧ yX5_setTemperature.cls ≠ "java/lang/invoke/MethodHandle" ∧ yX5_setTemperature.cls ≠ "java/lang/invoke/VarHandle" ∧ (parseMethodDescriptor yX5_setTemperature.desc).map (fun d => d.parameters.length) = some 1 := by decide +kernel
theorem gs_RX5_X5_isTemperature : GoodIn wsL_law (va_wsS RX5 88 yX5_isTemperature (.code yX5_isTemperature cX5_isTemperature 2 (some .boolean) :: wsL_law)) := good_S q485 q486 q2 q487
def f_X5_setTemperature (S : Hp) (x0 : Nat) (x1 : Int64) : Option (Int32 × Hp) :=
 cl (f_X5_isTemperature S x1) fun v1 S1 =>
 if v1 = 0 then
 some ((-2 : Int32), S1)
 else
 cl (f_X5_numberOf S1 x1) fun e1 S2 =>
 ob S2 5 (some x0) fun _ =>
 ob S2 2 (zR S2 x0 0) fun a2 =>
 if (Op.cmpValue (FP.dcmp e1 (zD S2 a2 8)) CmpOp.l) = 0 then
 some ((-5 : Int32), S2)
 else
 ob S2 1 (zR S2 x0 2) fun b1 => cl (f_X1_record S2 b1 (zR S2 x0 0)) fun _ S3 =>
 ob S3 5 (some x0) fun _ =>
 ob S3 2 (zR S3 x0 0) fun a4 => bnd (wD S3 a4 8 e1) fun S4 =>
 ob S4 5 (some x0) fun _ =>
 ob S4 2 (zR S4 x0 0) fun a6 => bnd (wJ S4 a6 7 x1) fun S5 =>
 some ((1 : Int32), S5)
set_option maxHeartbeats 4000000 in
set_option maxRecDepth 100000 in
theorem c_X5_setTemperature (S : Hp) (x0 : Nat) (x1 : Int64) (o : Int32 × Hp) (h : f_X5_setTemperature S x0 x1 = some o) : CtI yX5_setTemperature cX5_setTemperature 5 (some .int) rm_X5_setTemperature 0 0 [va_rf (some x0), .long x1] S o := by
  refine ct_I (own := RX5) (by decide) rfl (Nat.le_of_ble_eq_true rfl) (fun X C hn hQ => ?_)
  have hn4 : 4 < xn X := by rw [hn]; decide
  unfold f_X5_setTemperature at h
  show GW X 0 0 S 0 [(0, va_rf (some x0)), (1, .long x1)] []
  refine g_lload_n C (q := 1) dX5_setTemperature_0 rfl rfl ?_
  refine g_callSI C (As := [.long x1]) (np := 1) (st := []) (fun q hq => c_X5_isTemperature S x1 q hq) gs_RX5_X5_isTemperature rfl rfl dsX5_isTemperature rfl ⟨Nat.le_of_ble_eq_true rfl, Nat.le_of_ble_eq_true rfl⟩ rfl (cat_sum (Nat.le_of_ble_eq_true rfl)) ⟨Nat.zero_le _, Nat.zero_le _⟩ dX5_setTemperature_1 h (fun v1 S1 h => ?_)
  refine g_if_ne C (tgt := 10) dX5_setTemperature_4 (by decide) h (fun h => ?_) (fun h => ?_)
  · refine g_bipush C (v := (-2)) dX5_setTemperature_7 (by decide) ?_
    exact g_iret C hQ dX5_setTemperature_9 h
  · refine g_lload_n C (q := 1) dX5_setTemperature_10 rfl rfl ?_
    refine g_callSD C (As := [.long x1]) (np := 1) (st := []) (fun q hq => c_X5_numberOf S1 x1 q hq) gs_RX5_X5_numberOf rfl rfl dsX5_numberOf rfl ⟨Nat.le_of_ble_eq_true rfl, Nat.le_of_ble_eq_true rfl⟩ rfl (cat_sum (Nat.le_of_ble_eq_true rfl)) ⟨Nat.zero_le _, Nat.zero_le _⟩ dX5_setTemperature_11 h (fun e1 S2 h => ?_)
    refine g_dstore_n C (i := 3) (lv' := [(3, .double e1), (0, va_rf (some x0)), (1, .long x1)]) dX5_setTemperature_14 rfl hn4 rfl ?_
    refine g_dload_n C (q := 0) dX5_setTemperature_15 rfl rfl ?_
    refine g_aload_n C (q := 1) dX5_setTemperature_16 rfl rfl ?_
    refine g_ogetSR C (ci := 5) (slot := 0) rfl (by decide) inlX5 (by decide) rfl q12 dX5_setTemperature_17 h (fun h hLa1 hKa1 => ?_)
    refine g_ogetD C (ci := 2) (slot := 8) rfl (by decide) inlX2 (by decide) rfl q484 dX5_setTemperature_20 h (fun a2 hra2 h hLa2 hKa2 => ?_)
    refine g_dcmp C dX5_setTemperature_23 ?_
    refine g_if_ne C (tgt := 30) dX5_setTemperature_24 (by decide) h (fun h => ?_) (fun h => ?_)
    · refine g_bipush C (v := (-5)) dX5_setTemperature_27 (by decide) ?_
      exact g_iret C hQ dX5_setTemperature_29 h
    · refine g_aload_n C (q := 1) dX5_setTemperature_30 rfl rfl ?_
      refine g_getER C (ci := 5) (slot := 2) rfl (by decide) inlX5 (by decide) rfl q17 dX5_setTemperature_31 rfl hLa1 hKa1 ?_
      refine g_aload_n C (q := 1) dX5_setTemperature_34 rfl rfl ?_
      refine g_getER C (ci := 5) (slot := 0) rfl (by decide) inlX5 (by decide) rfl q12 dX5_setTemperature_35 rfl hLa1 hKa1 ?_
      refine g_callVV C (ci := 1) (As := [va_rf (zR S2 x0 0)]) (np := 1) (st := []) (r := (zR S2 x0 2)) rfl (by decide) (fun b1 q hq => c_X1_record S2 b1 (zR S2 x0 0) q hq) gv_RX5_X1_record rfl rfl dsX1_record rfl ⟨Nat.le_of_ble_eq_true rfl, Nat.le_of_ble_eq_true rfl⟩ rfl (cat_sum (Nat.le_of_ble_eq_true rfl)) ⟨Nat.zero_le _, Nat.zero_le _⟩ dX5_setTemperature_38 h (fun S3 h => ?_)
      refine g_aload_n C (q := 1) dX5_setTemperature_41 rfl rfl ?_
      refine g_ogetSR C (ci := 5) (slot := 0) rfl (by decide) inlX5 (by decide) rfl q12 dX5_setTemperature_42 h (fun h hLa3 hKa3 => ?_)
      refine g_dload_n C (q := 0) dX5_setTemperature_45 rfl rfl ?_
      refine g_oputD C (ci := 2) (slot := 8) tyX2 tyX2_ok nmX2 rfl (by decide) inlX2 (by decide) rfl q484 rfl dX5_setTemperature_46 rfl rfl h (fun a4 S4 h => ?_)
      refine g_aload_n C (q := 1) dX5_setTemperature_49 rfl rfl ?_
      refine g_ogetSR C (ci := 5) (slot := 0) rfl (by decide) inlX5 (by decide) rfl q12 dX5_setTemperature_50 h (fun h hLa5 hKa5 => ?_)
      refine g_lload_n C (q := 2) dX5_setTemperature_53 rfl rfl ?_
      refine g_oputJ C (ci := 2) (slot := 7) tyX2 tyX2_ok nmX2 rfl (by decide) inlX2 (by decide) rfl q348 rfl dX5_setTemperature_54 rfl rfl h (fun a6 S5 h => ?_)
      refine g_iconst C (v := 1) dX5_setTemperature_57 (by decide) ?_
      exact g_iret C hQ dX5_setTemperature_58 h

abbrev rm_X5_addTour : Room := { frames := 4, cells := 0, slots := 0, locals := 90 }
theorem dsX5_addTour : yX5_addTour.cls = RX5 ∧ yX5_addTour.cls ≠ "java/lang/invoke/MethodHandle" ∧ yX5_addTour.cls ≠ "java/lang/invoke/VarHandle" ∧ (parseMethodDescriptor yX5_addTour.desc).map (fun d => d.parameters.length) = some 4 := by decide +kernel
theorem gv_RX5_X2_hasBridges : GoodIn wsL_law (wsV RX5 105 RX2 yX2_hasBridges (.code yX2_hasBridges cX2_hasBridges 2 (some .boolean) :: wsL_law)) := good_V q505 q506 q507 q11 q508
theorem gv_RX5_X4_begin : GoodIn wsL_law (wsV RX5 115 RX4 yX4_begin (.code yX4_begin cX4_begin 6 none :: wsL_law)) := good_V q509 q510 q511 q35 q512
def f_X5_addTour (S : Hp) (x0 : Nat) (x1 : Int32) (x2 : Int64) (x4 : Int32) (x5 : Int32) : Option (Int32 × Hp) :=
 ob S 5 (some x0) fun _ =>
 ob S 2 (zR S x0 0) fun a2 =>
 if x1 < (zI S a2 6) then
 some ((-2 : Int32), S)
 else
 if 999 < x1 then
 some ((-2 : Int32), S)
 else
 cl (f_X5_isFromZeroTo S 4633641066610819072 x2) fun v1 S1 =>
 if v1 = 0 then
 some ((-2 : Int32), S1)
 else
 if x4 < 1 then
 some ((-2 : Int32), S1)
 else
 if 9999 < x4 then
 some ((-2 : Int32), S1)
 else
 ob S1 5 (some x0) fun _ =>
 ob S1 2 (zR S1 x0 0) fun b1 => cl (f_X2_hasBridges S1 b1 x5) fun v2 S2 =>
 if v2 = 0 then
 some ((-2 : Int32), S2)
 else
 ob S2 5 (some x0) fun _ =>
 ob S2 2 (zR S2 x0 0) fun a5 =>
 if (zI S2 a5 5) < 10 then
 ob S2 1 (zR S2 x0 2) fun b2 => cl (f_X1_record S2 b2 (zR S2 x0 0)) fun _ S3 =>
 ob S3 5 (some x0) fun _ =>
 ob S3 2 (zR S3 x0 0) fun a7 =>
 bnd ((zI S3 a7 5)) fun v3 =>
 ar S3 12 (zR S3 a7 2) v3 fun a8 i1 =>
 cl (f_X5_numberOf S3 x2) fun e1 S4 =>
 ob S4 4 (zR S3 a8 i1) fun b3 => cl (f_X4_begin S4 b3 x1 e1 x4 x5) fun _ S5 =>
 ob S5 5 (some x0) fun _ =>
 ob S5 2 (zR S5 x0 0) fun a10 =>
 ob S5 2 (zR S5 x0 0) fun a11 => bnd (wI S5 a11 5 ((zI S5 a10 5) + 1)) fun S6 =>
 some (v3, S6)
 else
 some ((-3 : Int32), S2)
set_option maxHeartbeats 4000000 in
set_option maxRecDepth 100000 in
theorem c_X5_addTour (S : Hp) (x0 : Nat) (x1 : Int32) (x2 : Int64) (x4 : Int32) (x5 : Int32) (o : Int32 × Hp) (h : f_X5_addTour S x0 x1 x2 x4 x5 = some o) : CtI yX5_addTour cX5_addTour 7 (some .int) rm_X5_addTour 0 0 [va_rf (some x0), .int x1, .long x2, .int x4, .int x5] S o := by
  refine ct_I (own := RX5) (by decide) rfl (Nat.le_of_ble_eq_true rfl) (fun X C hn hQ => ?_)
  have hn6 : 6 < xn X := by rw [hn]; decide
  unfold f_X5_addTour at h
  show GW X 0 0 S 0 [(0, va_rf (some x0)), (1, .int x1), (2, .long x2), (4, .int x4), (5, .int x5)] []
  refine g_iload_n C (q := 1) dX5_addTour_0 rfl rfl ?_
  refine g_aload_n C (q := 0) dX5_addTour_1 rfl rfl ?_
  refine g_ogetSR C (ci := 5) (slot := 0) rfl (by decide) inlX5 (by decide) rfl q12 dX5_addTour_2 h (fun h hLa1 hKa1 => ?_)
  refine g_ogetI C (ci := 2) (slot := 6) rfl (by decide) inlX2 (by decide) rfl q156 dX5_addTour_5 h (fun a2 hra2 h hLa2 hKa2 => ?_)
  refine g_icmp_lt C (tgt := 28) dX5_addTour_8 (by decide) h (fun h => ?_) (fun h => ?_)
  · refine g_bipush C (v := (-2)) dX5_addTour_28 (by decide) ?_
    exact g_iret C hQ dX5_addTour_30 h
  · refine g_iload_n C (q := 1) dX5_addTour_11 rfl rfl ?_
    refine g_sipush C (v := 999) dX5_addTour_12 (by decide) ?_
    refine g_icmp_gt C (tgt := 28) dX5_addTour_15 (by decide) h (fun h => ?_) (fun h => ?_)
    · refine g_bipush C (v := (-2)) dX5_addTour_28 (by decide) ?_
      exact g_iret C hQ dX5_addTour_30 h
    · refine g_ldc2l C q503 dX5_addTour_18 ?_
      refine g_lload_n C (q := 2) dX5_addTour_21 rfl rfl ?_
      refine g_callSI C (As := [.long 4633641066610819072, .long x2]) (np := 2) (st := []) (fun q hq => c_X5_isFromZeroTo S 4633641066610819072 x2 q hq) gs_RX5_X5_isFromZeroTo rfl rfl dsX5_isFromZeroTo rfl ⟨Nat.le_of_ble_eq_true rfl, Nat.le_of_ble_eq_true rfl⟩ rfl (cat_sum (Nat.le_of_ble_eq_true rfl)) ⟨Nat.zero_le _, Nat.zero_le _⟩ dX5_addTour_22 h (fun v1 S1 h => ?_)
      refine g_if_ne C (tgt := 31) dX5_addTour_25 (by decide) h (fun h => ?_) (fun h => ?_)
      · refine g_bipush C (v := (-2)) dX5_addTour_28 (by decide) ?_
        exact g_iret C hQ dX5_addTour_30 h
      · refine g_iload C (q := 3) dX5_addTour_31 rfl ?_
        refine g_iconst C (v := 1) dX5_addTour_33 (by decide) ?_
        refine g_icmp_lt C (tgt := 57) dX5_addTour_34 (by decide) h (fun h => ?_) (fun h => ?_)
        · refine g_bipush C (v := (-2)) dX5_addTour_57 (by decide) ?_
          exact g_iret C hQ dX5_addTour_59 h
        · refine g_iload C (q := 3) dX5_addTour_37 rfl ?_
          refine g_sipush C (v := 9999) dX5_addTour_39 (by decide) ?_
          refine g_icmp_gt C (tgt := 57) dX5_addTour_42 (by decide) h (fun h => ?_) (fun h => ?_)
          · refine g_bipush C (v := (-2)) dX5_addTour_57 (by decide) ?_
            exact g_iret C hQ dX5_addTour_59 h
          · refine g_aload_n C (q := 0) dX5_addTour_45 rfl rfl ?_
            refine g_ogetSR C (ci := 5) (slot := 0) rfl (by decide) inlX5 (by decide) rfl q12 dX5_addTour_46 h (fun h hLa3 hKa3 => ?_)
            refine g_iload C (q := 4) dX5_addTour_49 rfl ?_
            refine g_callVI C (ci := 2) (As := [.int x5]) (np := 1) (st := []) (r := (zR S1 x0 0)) rfl (by decide) (fun b1 q hq => c_X2_hasBridges S1 b1 x5 q hq) gv_RX5_X2_hasBridges rfl rfl dsX2_hasBridges rfl ⟨Nat.le_of_ble_eq_true rfl, Nat.le_of_ble_eq_true rfl⟩ rfl (cat_sum (Nat.le_of_ble_eq_true rfl)) ⟨Nat.zero_le _, Nat.zero_le _⟩ dX5_addTour_51 h (fun v2 S2 h => ?_)
            refine g_if_ne C (tgt := 60) dX5_addTour_54 (by decide) h (fun h => ?_) (fun h => ?_)
            · refine g_bipush C (v := (-2)) dX5_addTour_57 (by decide) ?_
              exact g_iret C hQ dX5_addTour_59 h
            · refine g_aload_n C (q := 0) dX5_addTour_60 rfl rfl ?_
              refine g_ogetSR C (ci := 5) (slot := 0) rfl (by decide) inlX5 (by decide) rfl q12 dX5_addTour_61 h (fun h hLa4 hKa4 => ?_)
              refine g_ogetI C (ci := 2) (slot := 5) rfl (by decide) inlX2 (by decide) rfl q363 dX5_addTour_64 h (fun a5 hra5 h hLa5 hKa5 => ?_)
              refine g_bipush C (v := 10) dX5_addTour_67 (by decide) ?_
              refine g_icmp_lt C (tgt := 75) dX5_addTour_69 (by decide) h (fun h => ?_) (fun h => ?_)
              · refine g_aload_n C (q := 0) dX5_addTour_75 rfl rfl ?_
                refine g_getER C (ci := 5) (slot := 2) rfl (by decide) inlX5 (by decide) rfl q17 dX5_addTour_76 rfl hLa4 hKa4 ?_
                refine g_aload_n C (q := 0) dX5_addTour_79 rfl rfl ?_
                refine g_getER C (ci := 5) (slot := 0) rfl (by decide) inlX5 (by decide) rfl q12 dX5_addTour_80 rfl hLa4 hKa4 ?_
                refine g_callVV C (ci := 1) (As := [va_rf (zR S2 x0 0)]) (np := 1) (st := []) (r := (zR S2 x0 2)) rfl (by decide) (fun b2 q hq => c_X1_record S2 b2 (zR S2 x0 0) q hq) gv_RX5_X1_record rfl rfl dsX1_record rfl ⟨Nat.le_of_ble_eq_true rfl, Nat.le_of_ble_eq_true rfl⟩ rfl (cat_sum (Nat.le_of_ble_eq_true rfl)) ⟨Nat.zero_le _, Nat.zero_le _⟩ dX5_addTour_83 h (fun S3 h => ?_)
                refine g_aload_n C (q := 0) dX5_addTour_86 rfl rfl ?_
                refine g_ogetSR C (ci := 5) (slot := 0) rfl (by decide) inlX5 (by decide) rfl q12 dX5_addTour_87 h (fun h hLa6 hKa6 => ?_)
                refine g_ogetI C (ci := 2) (slot := 5) rfl (by decide) inlX2 (by decide) rfl q363 dX5_addTour_90 h (fun a7 hra7 h hLa7 hKa7 => ?_)
                refine g_nmI h (fun v3 h => ?_)
                refine g_istore C (i := 6) (lv' := [(6, .int v3), (0, va_rf (some x0)), (1, .int x1), (2, .long x2), (4, .int x4), (5, .int x5)]) dX5_addTour_93 hn6 rfl ?_
                refine g_aload_n C (q := 1) dX5_addTour_95 rfl rfl ?_
                refine g_getER C (ci := 5) (slot := 0) rfl (by decide) inlX5 (by decide) rfl q12 dX5_addTour_96 rfl hLa6 hKa6 ?_
                refine g_getER C (ci := 2) (slot := 2) rfl (by decide) inlX2 (by decide) rfl q504 dX5_addTour_99 hra7 hLa7 hKa7 ?_
                refine g_iload C (q := 0) dX5_addTour_102 rfl ?_
                refine g_aald12 C dX5_addTour_104 h (fun a8 i1 h => ?_)
                refine g_iload_n C (q := 2) dX5_addTour_105 rfl rfl ?_
                refine g_lload_n C (q := 3) dX5_addTour_106 rfl rfl ?_
                refine g_callSD C (As := [.long x2]) (np := 1) (st := [.int x1, va_rf (zR S3 a8 i1)]) (fun q hq => c_X5_numberOf S3 x2 q hq) gs_RX5_X5_numberOf rfl rfl dsX5_numberOf rfl ⟨Nat.le_of_ble_eq_true rfl, Nat.le_of_ble_eq_true rfl⟩ rfl (cat_sum (Nat.le_of_ble_eq_true rfl)) ⟨Nat.zero_le _, Nat.zero_le _⟩ dX5_addTour_107 h (fun e1 S4 h => ?_)
                refine g_iload C (q := 4) dX5_addTour_110 rfl ?_
                refine g_iload C (q := 5) dX5_addTour_112 rfl ?_
                refine g_callVV C (ci := 4) (As := [.int x1, .double e1, .int x4, .int x5]) (np := 4) (st := []) (r := (zR S3 a8 i1)) rfl (by decide) (fun b3 q hq => c_X4_begin S4 b3 x1 e1 x4 x5 q hq) gv_RX5_X4_begin rfl rfl dsX4_begin rfl ⟨Nat.le_of_ble_eq_true rfl, Nat.le_of_ble_eq_true rfl⟩ rfl (cat_sum (Nat.le_of_ble_eq_true rfl)) ⟨Nat.zero_le _, Nat.zero_le _⟩ dX5_addTour_114 h (fun S5 h => ?_)
                refine g_aload_n C (q := 1) dX5_addTour_117 rfl rfl ?_
                refine g_ogetSR C (ci := 5) (slot := 0) rfl (by decide) inlX5 (by decide) rfl q12 dX5_addTour_118 h (fun h hLa9 hKa9 => ?_)
                refine g_dup C dX5_addTour_121 (va_rf_cat _) ?_
                refine g_ogetI C (ci := 2) (slot := 5) rfl (by decide) inlX2 (by decide) rfl q363 dX5_addTour_122 h (fun a10 hra10 h hLa10 hKa10 => ?_)
                refine g_iconst C (v := 1) dX5_addTour_125 (by decide) ?_
                refine g_iadd C dX5_addTour_126 ?_
                refine g_oputI C (ci := 2) (slot := 5) tyX2 tyX2_ok nmX2 rfl (by decide) inlX2 (by decide) rfl q363 rfl dX5_addTour_127 rfl rfl h (fun a11 S6 h => ?_)
                refine g_iload C (q := 0) dX5_addTour_130 rfl ?_
                exact g_iret C hQ dX5_addTour_132 h
              · refine g_bipush C (v := (-3)) dX5_addTour_72 (by decide) ?_
                exact g_iret C hQ dX5_addTour_74 h

abbrev rm_X5_isGuests : Room := { frames := 0, cells := 0, slots := 0, locals := 0 }
theorem dsX5_isGuests : yX5_isGuests.cls ≠ "java/lang/invoke/MethodHandle" ∧ yX5_isGuests.cls ≠ "java/lang/invoke/VarHandle" ∧ (parseMethodDescriptor yX5_isGuests.desc).map (fun d => d.parameters.length) = some 1 := by decide +kernel
def f_X5_isGuests (S : Hp) (x0 : Int32) : Option (Int32 × Hp) :=
 if x0 < 1 then
 some ((0 : Int32), S)
 else
 if 12 < x0 then
 some ((0 : Int32), S)
 else
 some ((1 : Int32), S)
set_option maxHeartbeats 4000000 in
set_option maxRecDepth 100000 in
theorem c_X5_isGuests (S : Hp) (x0 : Int32) (o : Int32 × Hp) (h : f_X5_isGuests S x0 = some o) : CtI yX5_isGuests cX5_isGuests 1 (some .boolean) rm_X5_isGuests 0 0 [.int x0] S o := by
  refine ct_I (own := RX5) (by decide) rfl (Nat.le_of_ble_eq_true rfl) (fun X C hn hQ => ?_)
  unfold f_X5_isGuests at h
  show GW X 0 0 S 0 [(0, .int x0)] []
  refine g_iload_n C (q := 0) dX5_isGuests_0 rfl rfl ?_
  refine g_iconst C (v := 1) dX5_isGuests_1 (by decide) ?_
  refine g_icmp_lt C (tgt := 15) dX5_isGuests_2 (by decide) h (fun h => ?_) (fun h => ?_)
  · refine g_iconst C (v := 0) dX5_isGuests_15 (by decide) ?_
    exact g_zret C hQ (by decide) dX5_isGuests_16 h
  · refine g_iload_n C (q := 0) dX5_isGuests_5 rfl rfl ?_
    refine g_bipush C (v := 12) dX5_isGuests_6 (by decide) ?_
    refine g_icmp_gt C (tgt := 15) dX5_isGuests_8 (by decide) h (fun h => ?_) (fun h => ?_)
    · refine g_iconst C (v := 0) dX5_isGuests_15 (by decide) ?_
      exact g_zret C hQ (by decide) dX5_isGuests_16 h
    · refine g_iconst C (v := 1) dX5_isGuests_11 (by decide) ?_
      refine g_goto C (tgt := 16) dX5_isGuests_12 (by decide) ?_
      exact g_zret C hQ (by decide) dX5_isGuests_16 h

abbrev rm_X5_book : Room := { frames := 4, cells := 0, slots := 0, locals := 90 }
theorem dsX5_book : yX5_book.cls = RX5 ∧ yX5_book.cls ≠ "java/lang/invoke/MethodHandle" ∧ yX5_book.cls ≠ "java/lang/invoke/VarHandle" ∧ (parseMethodDescriptor yX5_book.desc).map (fun d => d.parameters.length) = some 2 := by decide +kernel
theorem gv_RX5_X2_tourAt : GoodIn wsL_law (wsV RX5 120 RX2 yX2_tourAt (.code yX2_tourAt cX2_tourAt 2 (some (.object "GlacierGuides$Tour")) :: wsL_law)) := good_V q76 q77 q78 q11 q79
theorem gs_RX5_X5_isGuests : GoodIn wsL_law (va_wsS RX5 124 yX5_isGuests (.code yX5_isGuests cX5_isGuests 1 (some .boolean) :: wsL_law)) := good_S q262 q263 q2 q264
def f_X5_book (S : Hp) (x0 : Nat) (x1 : Int32) (x2 : Int32) : Option (Int32 × Hp) :=
 ob S 5 (some x0) fun _ =>
 ob S 2 (zR S x0 0) fun b1 => cl (f_X2_tourAt S b1 x1) fun r1 S1 =>
 if r1 = none then
 some ((-1 : Int32), S1)
 else
 cl (f_X5_isGuests S1 x2) fun v1 S2 =>
 if v1 = 0 then
 some ((-2 : Int32), S2)
 else
 ob S2 4 r1 fun a2 =>
 if (zI S2 a2 9) = 0 then
 if ((zI S2 a2 6) + x2) ≤ 12 then
 ob S2 5 (some x0) fun _ =>
 ob S2 1 (zR S2 x0 2) fun b2 => cl (f_X1_record S2 b2 (zR S2 x0 0)) fun _ S3 =>
 ob S3 4 r1 fun a4 =>
 bnd (((zI S3 a4 4) * x2)) fun v2 =>
 ob S3 4 r1 fun a5 => bnd (wI S3 a5 6 ((zI S3 a4 6) + x2)) fun S4 =>
 ob S4 4 r1 fun a6 =>
 ob S4 4 r1 fun a7 => bnd (wI S4 a7 8 ((zI S4 a6 8) + v2)) fun S5 =>
 some (v2, S5)
 else
 some ((-3 : Int32), S2)
 else
 some ((-4 : Int32), S2)
set_option maxHeartbeats 4000000 in
set_option maxRecDepth 100000 in
theorem c_X5_book (S : Hp) (x0 : Nat) (x1 : Int32) (x2 : Int32) (o : Int32 × Hp) (h : f_X5_book S x0 x1 x2 = some o) : CtI yX5_book cX5_book 5 (some .int) rm_X5_book 0 0 [va_rf (some x0), .int x1, .int x2] S o := by
  refine ct_I (own := RX5) (by decide) rfl (Nat.le_of_ble_eq_true rfl) (fun X C hn hQ => ?_)
  have hn3 : 3 < xn X := by rw [hn]; decide
  have hn4 : 4 < xn X := by rw [hn]; decide
  unfold f_X5_book at h
  show GW X 0 0 S 0 [(0, va_rf (some x0)), (1, .int x1), (2, .int x2)] []
  refine g_aload_n C (q := 0) dX5_book_0 rfl rfl ?_
  refine g_ogetSR C (ci := 5) (slot := 0) rfl (by decide) inlX5 (by decide) rfl q12 dX5_book_1 h (fun h hLa1 hKa1 => ?_)
  refine g_iload_n C (q := 1) dX5_book_4 rfl rfl ?_
  refine g_callVR C (ci := 2) (As := [.int x1]) (np := 1) (st := []) (r := (zR S x0 0)) rfl (by decide) (fun b1 q hq => c_X2_tourAt S b1 x1 q hq) gv_RX5_X2_tourAt rfl rfl dsX2_tourAt rfl ⟨Nat.le_of_ble_eq_true rfl, Nat.le_of_ble_eq_true rfl⟩ rfl (cat_sum (Nat.le_of_ble_eq_true rfl)) ⟨Nat.zero_le _, Nat.zero_le _⟩ dX5_book_5 h (fun r1 S1 h => ?_)
  refine g_astore_n C (i := 3) (lv' := [(3, va_rf r1), (0, va_rf (some x0)), (1, .int x1), (2, .int x2)]) dX5_book_8 rfl hn3 rfl ?_
  refine g_aload_n C (q := 0) dX5_book_9 rfl rfl ?_
  refine g_ifnonnull C (tgt := 15) dX5_book_10 (by decide) h (fun h => ?_) (fun h => ?_)
  · refine g_iconst C (v := (-1)) dX5_book_13 (by decide) ?_
    exact g_iret C hQ dX5_book_14 h
  · refine g_iload_n C (q := 3) dX5_book_15 rfl rfl ?_
    refine g_callSI C (As := [.int x2]) (np := 1) (st := []) (fun q hq => c_X5_isGuests S1 x2 q hq) gs_RX5_X5_isGuests rfl rfl dsX5_isGuests rfl ⟨Nat.le_of_ble_eq_true rfl, Nat.le_of_ble_eq_true rfl⟩ rfl (cat_sum (Nat.le_of_ble_eq_true rfl)) ⟨Nat.zero_le _, Nat.zero_le _⟩ dX5_book_16 h (fun v1 S2 h => ?_)
    refine g_if_ne C (tgt := 25) dX5_book_19 (by decide) h (fun h => ?_) (fun h => ?_)
    · refine g_bipush C (v := (-2)) dX5_book_22 (by decide) ?_
      exact g_iret C hQ dX5_book_24 h
    · refine g_aload_n C (q := 0) dX5_book_25 rfl rfl ?_
      refine g_ogetI C (ci := 4) (slot := 9) rfl (by decide) inlX4 (by decide) rfl q258 dX5_book_26 h (fun a2 hra2 h hLa2 hKa2 => ?_)
      refine g_if_eq C (tgt := 35) dX5_book_29 (by decide) h (fun h => ?_) (fun h => ?_)
      · refine g_aload_n C (q := 0) dX5_book_35 rfl rfl ?_
        refine g_getEI C (ci := 4) (slot := 6) rfl (by decide) inlX4 (by decide) rfl q259 dX5_book_36 hra2 hLa2 hKa2 ?_
        refine g_iload_n C (q := 3) dX5_book_39 rfl rfl ?_
        refine g_iadd C dX5_book_40 ?_
        refine g_bipush C (v := 12) dX5_book_41 (by decide) ?_
        refine g_icmp_le C (tgt := 49) dX5_book_43 (by decide) h (fun h => ?_) (fun h => ?_)
        · refine g_aload_n C (q := 1) dX5_book_49 rfl rfl ?_
          refine g_ogetSR C (ci := 5) (slot := 2) rfl (by decide) inlX5 (by decide) rfl q17 dX5_book_50 h (fun h hLa3 hKa3 => ?_)
          refine g_aload_n C (q := 1) dX5_book_53 rfl rfl ?_
          refine g_getER C (ci := 5) (slot := 0) rfl (by decide) inlX5 (by decide) rfl q12 dX5_book_54 rfl hLa3 hKa3 ?_
          refine g_callVV C (ci := 1) (As := [va_rf (zR S2 x0 0)]) (np := 1) (st := []) (r := (zR S2 x0 2)) rfl (by decide) (fun b2 q hq => c_X1_record S2 b2 (zR S2 x0 0) q hq) gv_RX5_X1_record rfl rfl dsX1_record rfl ⟨Nat.le_of_ble_eq_true rfl, Nat.le_of_ble_eq_true rfl⟩ rfl (cat_sum (Nat.le_of_ble_eq_true rfl)) ⟨Nat.zero_le _, Nat.zero_le _⟩ dX5_book_57 h (fun S3 h => ?_)
          refine g_aload_n C (q := 0) dX5_book_60 rfl rfl ?_
          refine g_ogetI C (ci := 4) (slot := 4) rfl (by decide) inlX4 (by decide) rfl q260 dX5_book_61 h (fun a4 hra4 h hLa4 hKa4 => ?_)
          refine g_iload_n C (q := 3) dX5_book_64 rfl rfl ?_
          refine g_imul C dX5_book_65 ?_
          refine g_nmI h (fun v2 h => ?_)
          refine g_istore C (i := 4) (lv' := [(4, .int v2), (3, va_rf r1), (0, va_rf (some x0)), (1, .int x1), (2, .int x2)]) dX5_book_66 hn4 (by simp [va_rf_cat, catI, catJ, catD]) ?_
          refine g_aload_n C (q := 1) dX5_book_68 rfl rfl ?_
          refine g_dup C dX5_book_69 (va_rf_cat _) ?_
          refine g_getEI C (ci := 4) (slot := 6) rfl (by decide) inlX4 (by decide) rfl q259 dX5_book_70 hra4 hLa4 hKa4 ?_
          refine g_iload_n C (q := 4) dX5_book_73 rfl rfl ?_
          refine g_iadd C dX5_book_74 ?_
          refine g_oputI C (ci := 4) (slot := 6) tyX4 tyX4_ok nmX4 rfl (by decide) inlX4 (by decide) rfl q259 rfl dX5_book_75 rfl rfl h (fun a5 S4 h => ?_)
          refine g_aload_n C (q := 1) dX5_book_78 rfl rfl ?_
          refine g_dup C dX5_book_79 (va_rf_cat _) ?_
          refine g_ogetI C (ci := 4) (slot := 8) rfl (by decide) inlX4 (by decide) rfl q261 dX5_book_80 h (fun a6 hra6 h hLa6 hKa6 => ?_)
          refine g_iload C (q := 0) dX5_book_83 rfl ?_
          refine g_iadd C dX5_book_85 ?_
          refine g_oputI C (ci := 4) (slot := 8) tyX4 tyX4_ok nmX4 rfl (by decide) inlX4 (by decide) rfl q261 rfl dX5_book_86 rfl rfl h (fun a7 S5 h => ?_)
          refine g_iload C (q := 0) dX5_book_89 rfl ?_
          exact g_iret C hQ dX5_book_91 h
        · refine g_bipush C (v := (-3)) dX5_book_46 (by decide) ?_
          exact g_iret C hQ dX5_book_48 h
      · refine g_bipush C (v := (-4)) dX5_book_32 (by decide) ?_
        exact g_iret C hQ dX5_book_34 h

abbrev rm_X5_leave : Room := { frames := 4, cells := 0, slots := 0, locals := 90 }
theorem dsX5_leave : yX5_leave.cls = RX5 ∧ yX5_leave.cls ≠ "java/lang/invoke/MethodHandle" ∧ yX5_leave.cls ≠ "java/lang/invoke/VarHandle" ∧ (parseMethodDescriptor yX5_leave.desc).map (fun d => d.parameters.length) = some 2 := by decide +kernel
theorem gv_RX5_X2_payBack : GoodIn wsL_law (wsV RX5 143 RX2 yX2_payBack (.code yX2_payBack cX2_payBack 3 none :: wsL_law)) := good_V q278 q279 q280 q11 q281
theorem gv_RX5_X4_refundFor : GoodIn wsL_law (wsV RX5 139 RX4 yX4_refundFor (.code yX4_refundFor cX4_refundFor 3 (some .int) :: wsL_law)) := good_V q269 q270 q271 q35 q272
def f_X5_leave (S : Hp) (x0 : Nat) (x1 : Int32) (x2 : Int32) : Option (Int32 × Hp) :=
 ob S 5 (some x0) fun _ =>
 ob S 2 (zR S x0 0) fun b1 => cl (f_X2_tourAt S b1 x1) fun r1 S1 =>
 if r1 = none then
 some ((-1 : Int32), S1)
 else
 cl (f_X5_isGuests S1 x2) fun v1 S2 =>
 if v1 = 0 then
 some ((-2 : Int32), S2)
 else
 ob S2 4 r1 fun a2 =>
 if (zI S2 a2 9) = 0 then
 if x2 ≤ (zI S2 a2 6) then
 ob S2 5 (some x0) fun _ =>
 ob S2 1 (zR S2 x0 2) fun b2 => cl (f_X1_record S2 b2 (zR S2 x0 0)) fun _ S3 =>
 ob S3 5 (some x0) fun _ =>
 ob S3 2 (zR S3 x0 0) fun a5 =>
 ob S3 4 r1 fun b3 => cl (f_X4_refundFor S3 b3 x2 (zI S3 a5 6)) fun v2 S4 =>
 ob S4 4 r1 fun a6 =>
 ob S4 4 r1 fun a7 => bnd (wI S4 a7 6 ((zI S4 a6 6) - x2)) fun S5 =>
 ob S5 5 (some x0) fun _ =>
 ob S5 2 (zR S5 x0 0) fun b4 => cl (f_X2_payBack S5 b4 r1 v2) fun _ S6 =>
 some (v2, S6)
 else
 some ((-4 : Int32), S2)
 else
 some ((-4 : Int32), S2)
set_option maxHeartbeats 4000000 in
set_option maxRecDepth 100000 in
theorem c_X5_leave (S : Hp) (x0 : Nat) (x1 : Int32) (x2 : Int32) (o : Int32 × Hp) (h : f_X5_leave S x0 x1 x2 = some o) : CtI yX5_leave cX5_leave 5 (some .int) rm_X5_leave 0 0 [va_rf (some x0), .int x1, .int x2] S o := by
  refine ct_I (own := RX5) (by decide) rfl (Nat.le_of_ble_eq_true rfl) (fun X C hn hQ => ?_)
  have hn3 : 3 < xn X := by rw [hn]; decide
  have hn4 : 4 < xn X := by rw [hn]; decide
  unfold f_X5_leave at h
  show GW X 0 0 S 0 [(0, va_rf (some x0)), (1, .int x1), (2, .int x2)] []
  refine g_aload_n C (q := 0) dX5_leave_0 rfl rfl ?_
  refine g_ogetSR C (ci := 5) (slot := 0) rfl (by decide) inlX5 (by decide) rfl q12 dX5_leave_1 h (fun h hLa1 hKa1 => ?_)
  refine g_iload_n C (q := 1) dX5_leave_4 rfl rfl ?_
  refine g_callVR C (ci := 2) (As := [.int x1]) (np := 1) (st := []) (r := (zR S x0 0)) rfl (by decide) (fun b1 q hq => c_X2_tourAt S b1 x1 q hq) gv_RX5_X2_tourAt rfl rfl dsX2_tourAt rfl ⟨Nat.le_of_ble_eq_true rfl, Nat.le_of_ble_eq_true rfl⟩ rfl (cat_sum (Nat.le_of_ble_eq_true rfl)) ⟨Nat.zero_le _, Nat.zero_le _⟩ dX5_leave_5 h (fun r1 S1 h => ?_)
  refine g_astore_n C (i := 3) (lv' := [(3, va_rf r1), (0, va_rf (some x0)), (1, .int x1), (2, .int x2)]) dX5_leave_8 rfl hn3 rfl ?_
  refine g_aload_n C (q := 0) dX5_leave_9 rfl rfl ?_
  refine g_ifnonnull C (tgt := 15) dX5_leave_10 (by decide) h (fun h => ?_) (fun h => ?_)
  · refine g_iconst C (v := (-1)) dX5_leave_13 (by decide) ?_
    exact g_iret C hQ dX5_leave_14 h
  · refine g_iload_n C (q := 3) dX5_leave_15 rfl rfl ?_
    refine g_callSI C (As := [.int x2]) (np := 1) (st := []) (fun q hq => c_X5_isGuests S1 x2 q hq) gs_RX5_X5_isGuests rfl rfl dsX5_isGuests rfl ⟨Nat.le_of_ble_eq_true rfl, Nat.le_of_ble_eq_true rfl⟩ rfl (cat_sum (Nat.le_of_ble_eq_true rfl)) ⟨Nat.zero_le _, Nat.zero_le _⟩ dX5_leave_16 h (fun v1 S2 h => ?_)
    refine g_if_ne C (tgt := 25) dX5_leave_19 (by decide) h (fun h => ?_) (fun h => ?_)
    · refine g_bipush C (v := (-2)) dX5_leave_22 (by decide) ?_
      exact g_iret C hQ dX5_leave_24 h
    · refine g_aload_n C (q := 0) dX5_leave_25 rfl rfl ?_
      refine g_ogetI C (ci := 4) (slot := 9) rfl (by decide) inlX4 (by decide) rfl q258 dX5_leave_26 h (fun a2 hra2 h hLa2 hKa2 => ?_)
      refine g_if_ne C (tgt := 40) dX5_leave_29 (by decide) h (fun h => ?_) (fun h => ?_)
      · refine g_aload_n C (q := 0) dX5_leave_32 rfl rfl ?_
        refine g_getEI C (ci := 4) (slot := 6) rfl (by decide) inlX4 (by decide) rfl q259 dX5_leave_33 hra2 hLa2 hKa2 ?_
        refine g_iload_n C (q := 3) dX5_leave_36 rfl rfl ?_
        refine g_icmp_ge C (tgt := 43) dX5_leave_37 (by decide) h (fun h => ?_) (fun h => ?_)
        · refine g_aload_n C (q := 1) dX5_leave_43 rfl rfl ?_
          refine g_ogetSR C (ci := 5) (slot := 2) rfl (by decide) inlX5 (by decide) rfl q17 dX5_leave_44 h (fun h hLa3 hKa3 => ?_)
          refine g_aload_n C (q := 1) dX5_leave_47 rfl rfl ?_
          refine g_getER C (ci := 5) (slot := 0) rfl (by decide) inlX5 (by decide) rfl q12 dX5_leave_48 rfl hLa3 hKa3 ?_
          refine g_callVV C (ci := 1) (As := [va_rf (zR S2 x0 0)]) (np := 1) (st := []) (r := (zR S2 x0 2)) rfl (by decide) (fun b2 q hq => c_X1_record S2 b2 (zR S2 x0 0) q hq) gv_RX5_X1_record rfl rfl dsX1_record rfl ⟨Nat.le_of_ble_eq_true rfl, Nat.le_of_ble_eq_true rfl⟩ rfl (cat_sum (Nat.le_of_ble_eq_true rfl)) ⟨Nat.zero_le _, Nat.zero_le _⟩ dX5_leave_51 h (fun S3 h => ?_)
          refine g_aload_n C (q := 0) dX5_leave_54 rfl rfl ?_
          refine g_iload_n C (q := 3) dX5_leave_55 rfl rfl ?_
          refine g_aload_n C (q := 1) dX5_leave_56 rfl rfl ?_
          refine g_ogetSR C (ci := 5) (slot := 0) rfl (by decide) inlX5 (by decide) rfl q12 dX5_leave_57 h (fun h hLa4 hKa4 => ?_)
          refine g_ogetI C (ci := 2) (slot := 6) rfl (by decide) inlX2 (by decide) rfl q156 dX5_leave_60 h (fun a5 hra5 h hLa5 hKa5 => ?_)
          refine g_callVI C (ci := 4) (As := [.int x2, .int (zI S3 a5 6)]) (np := 2) (st := []) (r := r1) rfl (by decide) (fun b3 q hq => c_X4_refundFor S3 b3 x2 (zI S3 a5 6) q hq) gv_RX5_X4_refundFor rfl rfl dsX4_refundFor rfl ⟨Nat.le_of_ble_eq_true rfl, Nat.le_of_ble_eq_true rfl⟩ rfl (cat_sum (Nat.le_of_ble_eq_true rfl)) ⟨Nat.zero_le _, Nat.zero_le _⟩ dX5_leave_63 h (fun v2 S4 h => ?_)
          refine g_istore C (i := 4) (lv' := [(4, .int v2), (3, va_rf r1), (0, va_rf (some x0)), (1, .int x1), (2, .int x2)]) dX5_leave_66 hn4 (by simp [va_rf_cat, catI, catJ, catD]) ?_
          refine g_aload_n C (q := 1) dX5_leave_68 rfl rfl ?_
          refine g_dup C dX5_leave_69 (va_rf_cat _) ?_
          refine g_ogetI C (ci := 4) (slot := 6) rfl (by decide) inlX4 (by decide) rfl q259 dX5_leave_70 h (fun a6 hra6 h hLa6 hKa6 => ?_)
          refine g_iload_n C (q := 4) dX5_leave_73 rfl rfl ?_
          refine g_isub C dX5_leave_74 ?_
          refine g_oputI C (ci := 4) (slot := 6) tyX4 tyX4_ok nmX4 rfl (by decide) inlX4 (by decide) rfl q259 rfl dX5_leave_75 rfl rfl h (fun a7 S5 h => ?_)
          refine g_aload_n C (q := 2) dX5_leave_78 rfl rfl ?_
          refine g_ogetSR C (ci := 5) (slot := 0) rfl (by decide) inlX5 (by decide) rfl q12 dX5_leave_79 h (fun h hLa8 hKa8 => ?_)
          refine g_aload_n C (q := 1) dX5_leave_82 rfl rfl ?_
          refine g_iload C (q := 0) dX5_leave_83 rfl ?_
          refine g_callVV C (ci := 2) (As := [va_rf r1, .int v2]) (np := 2) (st := []) (r := (zR S5 x0 0)) rfl (by decide) (fun b4 q hq => c_X2_payBack S5 b4 r1 v2 q hq) gv_RX5_X2_payBack rfl rfl dsX2_payBack rfl ⟨Nat.le_of_ble_eq_true rfl, Nat.le_of_ble_eq_true rfl⟩ rfl (cat_sum (Nat.le_of_ble_eq_true rfl)) ⟨Nat.zero_le _, Nat.zero_le _⟩ dX5_leave_85 h (fun S6 h => ?_)
          refine g_iload C (q := 0) dX5_leave_88 rfl ?_
          exact g_iret C hQ dX5_leave_90 h
        · refine g_bipush C (v := (-4)) dX5_leave_40 (by decide) ?_
          exact g_iret C hQ dX5_leave_42 h
      · refine g_bipush C (v := (-4)) dX5_leave_40 (by decide) ?_
        exact g_iret C hQ dX5_leave_42 h

abbrev rm_X5_lead : Room := { frames := 4, cells := 0, slots := 0, locals := 90 }
theorem dsX5_lead : yX5_lead.cls = RX5 ∧ yX5_lead.cls ≠ "java/lang/invoke/MethodHandle" ∧ yX5_lead.cls ≠ "java/lang/invoke/VarHandle" ∧ (parseMethodDescriptor yX5_lead.desc).map (fun d => d.parameters.length) = some 2 := by decide +kernel
theorem gv_RX5_X2_guideAt : GoodIn wsL_law (wsV RX5 58 RX2 yX2_guideAt (.code yX2_guideAt cX2_guideAt 2 (some (.object "GlacierGuides$Guide")) :: wsL_law)) := good_V q304 q305 q306 q11 q307
theorem gv_RX5_X2_mayLead : GoodIn wsL_law (wsV RX5 147 RX2 yX2_mayLead (.code yX2_mayLead cX2_mayLead 3 (some .boolean) :: wsL_law)) := good_V q308 q309 q310 q11 q311
theorem gv_RX5_X2_ratioOf : GoodIn wsL_law (wsV RX5 157 RX2 yX2_ratioOf (.code yX2_ratioOf cX2_ratioOf 4 (some .int) :: wsL_law)) := good_V q327 q95 q96 q11 q97
theorem gv_RX5_X4_addToRow : GoodIn wsL_law (wsV RX5 153 RX4 yX4_addToRow (.code yX4_addToRow cX4_addToRow 2 none :: wsL_law)) := good_V q326 q296 q297 q35 q298
def f_X5_lead (S : Hp) (x0 : Nat) (x1 : Int32) (x2 : Int32) : Option (Int32 × Hp) :=
 ob S 5 (some x0) fun _ =>
 ob S 2 (zR S x0 0) fun b1 => cl (f_X2_tourAt S b1 x2) fun r1 S1 =>
 ob S1 5 (some x0) fun _ =>
 ob S1 2 (zR S1 x0 0) fun b2 => cl (f_X2_guideAt S1 b2 x1) fun r2 S2 =>
 if r2 = none then
 some ((-1 : Int32), S2)
 else
 if r1 = none then
 some ((-1 : Int32), S2)
 else
 ob S2 5 (some x0) fun _ =>
 ob S2 2 (zR S2 x0 0) fun b3 => cl (f_X2_mayLead S2 b3 x1 r1) fun v1 S3 =>
 if v1 = 0 then
 some ((-4 : Int32), S3)
 else
 ob S3 4 r1 fun a4 =>
 if (zI S3 a4 7) < 4 then
 ob S3 5 (some x0) fun _ =>
 ob S3 1 (zR S3 x0 2) fun b4 => cl (f_X1_record S3 b4 (zR S3 x0 0)) fun _ S4 =>
 ob S4 4 r1 fun b5 => cl (f_X4_addToRow S4 b5 x1) fun _ S5 =>
 ob S5 5 (some x0) fun _ =>
 ob S5 2 (zR S5 x0 0) fun b6 => cl (f_X2_ratioOf S5 b6 x1 r1) fun v2 S6 =>
 some (v2, S6)
 else
 some ((-3 : Int32), S3)
set_option maxHeartbeats 4000000 in
set_option maxRecDepth 100000 in
theorem c_X5_lead (S : Hp) (x0 : Nat) (x1 : Int32) (x2 : Int32) (o : Int32 × Hp) (h : f_X5_lead S x0 x1 x2 = some o) : CtI yX5_lead cX5_lead 4 (some .int) rm_X5_lead 0 0 [va_rf (some x0), .int x1, .int x2] S o := by
  refine ct_I (own := RX5) (by decide) rfl (Nat.le_of_ble_eq_true rfl) (fun X C hn hQ => ?_)
  have hn3 : 3 < xn X := by rw [hn]; decide
  unfold f_X5_lead at h
  show GW X 0 0 S 0 [(0, va_rf (some x0)), (1, .int x1), (2, .int x2)] []
  refine g_aload_n C (q := 0) dX5_lead_0 rfl rfl ?_
  refine g_ogetSR C (ci := 5) (slot := 0) rfl (by decide) inlX5 (by decide) rfl q12 dX5_lead_1 h (fun h hLa1 hKa1 => ?_)
  refine g_iload_n C (q := 2) dX5_lead_4 rfl rfl ?_
  refine g_callVR C (ci := 2) (As := [.int x2]) (np := 1) (st := []) (r := (zR S x0 0)) rfl (by decide) (fun b1 q hq => c_X2_tourAt S b1 x2 q hq) gv_RX5_X2_tourAt rfl rfl dsX2_tourAt rfl ⟨Nat.le_of_ble_eq_true rfl, Nat.le_of_ble_eq_true rfl⟩ rfl (cat_sum (Nat.le_of_ble_eq_true rfl)) ⟨Nat.zero_le _, Nat.zero_le _⟩ dX5_lead_5 h (fun r1 S1 h => ?_)
  refine g_astore_n C (i := 3) (lv' := [(3, va_rf r1), (0, va_rf (some x0)), (1, .int x1), (2, .int x2)]) dX5_lead_8 rfl hn3 rfl ?_
  refine g_aload_n C (q := 1) dX5_lead_9 rfl rfl ?_
  refine g_ogetSR C (ci := 5) (slot := 0) rfl (by decide) inlX5 (by decide) rfl q12 dX5_lead_10 h (fun h hLa2 hKa2 => ?_)
  refine g_iload_n C (q := 2) dX5_lead_13 rfl rfl ?_
  refine g_callVR C (ci := 2) (As := [.int x1]) (np := 1) (st := []) (r := (zR S1 x0 0)) rfl (by decide) (fun b2 q hq => c_X2_guideAt S1 b2 x1 q hq) gv_RX5_X2_guideAt rfl rfl dsX2_guideAt rfl ⟨Nat.le_of_ble_eq_true rfl, Nat.le_of_ble_eq_true rfl⟩ rfl (cat_sum (Nat.le_of_ble_eq_true rfl)) ⟨Nat.zero_le _, Nat.zero_le _⟩ dX5_lead_14 h (fun r2 S2 h => ?_)
  refine g_ifnull C (tgt := 24) dX5_lead_17 (by decide) h (fun h => ?_) (fun h => ?_)
  · refine g_iconst C (v := (-1)) dX5_lead_24 (by decide) ?_
    exact g_iret C hQ dX5_lead_25 h
  · refine g_aload_n C (q := 0) dX5_lead_20 rfl rfl ?_
    refine g_ifnonnull C (tgt := 26) dX5_lead_21 (by decide) h (fun h => ?_) (fun h => ?_)
    · refine g_iconst C (v := (-1)) dX5_lead_24 (by decide) ?_
      exact g_iret C hQ dX5_lead_25 h
    · refine g_aload_n C (q := 1) dX5_lead_26 rfl rfl ?_
      refine g_ogetSR C (ci := 5) (slot := 0) rfl (by decide) inlX5 (by decide) rfl q12 dX5_lead_27 h (fun h hLa3 hKa3 => ?_)
      refine g_iload_n C (q := 2) dX5_lead_30 rfl rfl ?_
      refine g_aload_n C (q := 0) dX5_lead_31 rfl rfl ?_
      refine g_callVI C (ci := 2) (As := [.int x1, va_rf r1]) (np := 2) (st := []) (r := (zR S2 x0 0)) rfl (by decide) (fun b3 q hq => c_X2_mayLead S2 b3 x1 r1 q hq) gv_RX5_X2_mayLead rfl rfl dsX2_mayLead rfl ⟨Nat.le_of_ble_eq_true rfl, Nat.le_of_ble_eq_true rfl⟩ rfl (cat_sum (Nat.le_of_ble_eq_true rfl)) ⟨Nat.zero_le _, Nat.zero_le _⟩ dX5_lead_32 h (fun v1 S3 h => ?_)
      refine g_if_ne C (tgt := 41) dX5_lead_35 (by decide) h (fun h => ?_) (fun h => ?_)
      · refine g_bipush C (v := (-4)) dX5_lead_38 (by decide) ?_
        exact g_iret C hQ dX5_lead_40 h
      · refine g_aload_n C (q := 0) dX5_lead_41 rfl rfl ?_
        refine g_ogetI C (ci := 4) (slot := 7) rfl (by decide) inlX4 (by decide) rfl q303 dX5_lead_42 h (fun a4 hra4 h hLa4 hKa4 => ?_)
        refine g_iconst C (v := 4) dX5_lead_45 (by decide) ?_
        refine g_icmp_lt C (tgt := 52) dX5_lead_46 (by decide) h (fun h => ?_) (fun h => ?_)
        · refine g_aload_n C (q := 1) dX5_lead_52 rfl rfl ?_
          refine g_ogetSR C (ci := 5) (slot := 2) rfl (by decide) inlX5 (by decide) rfl q17 dX5_lead_53 h (fun h hLa5 hKa5 => ?_)
          refine g_aload_n C (q := 1) dX5_lead_56 rfl rfl ?_
          refine g_getER C (ci := 5) (slot := 0) rfl (by decide) inlX5 (by decide) rfl q12 dX5_lead_57 rfl hLa5 hKa5 ?_
          refine g_callVV C (ci := 1) (As := [va_rf (zR S3 x0 0)]) (np := 1) (st := []) (r := (zR S3 x0 2)) rfl (by decide) (fun b4 q hq => c_X1_record S3 b4 (zR S3 x0 0) q hq) gv_RX5_X1_record rfl rfl dsX1_record rfl ⟨Nat.le_of_ble_eq_true rfl, Nat.le_of_ble_eq_true rfl⟩ rfl (cat_sum (Nat.le_of_ble_eq_true rfl)) ⟨Nat.zero_le _, Nat.zero_le _⟩ dX5_lead_60 h (fun S4 h => ?_)
          refine g_aload_n C (q := 0) dX5_lead_63 rfl rfl ?_
          refine g_iload_n C (q := 2) dX5_lead_64 rfl rfl ?_
          refine g_callVV C (ci := 4) (As := [.int x1]) (np := 1) (st := []) (r := r1) rfl (by decide) (fun b5 q hq => c_X4_addToRow S4 b5 x1 q hq) gv_RX5_X4_addToRow rfl rfl dsX4_addToRow rfl ⟨Nat.le_of_ble_eq_true rfl, Nat.le_of_ble_eq_true rfl⟩ rfl (cat_sum (Nat.le_of_ble_eq_true rfl)) ⟨Nat.zero_le _, Nat.zero_le _⟩ dX5_lead_65 h (fun S5 h => ?_)
          refine g_aload_n C (q := 1) dX5_lead_68 rfl rfl ?_
          refine g_ogetSR C (ci := 5) (slot := 0) rfl (by decide) inlX5 (by decide) rfl q12 dX5_lead_69 h (fun h hLa6 hKa6 => ?_)
          refine g_iload_n C (q := 2) dX5_lead_72 rfl rfl ?_
          refine g_aload_n C (q := 0) dX5_lead_73 rfl rfl ?_
          refine g_callVI C (ci := 2) (As := [.int x1, va_rf r1]) (np := 2) (st := []) (r := (zR S5 x0 0)) rfl (by decide) (fun b6 q hq => c_X2_ratioOf S5 b6 x1 r1 q hq) gv_RX5_X2_ratioOf rfl rfl dsX2_ratioOf rfl ⟨Nat.le_of_ble_eq_true rfl, Nat.le_of_ble_eq_true rfl⟩ rfl (cat_sum (Nat.le_of_ble_eq_true rfl)) ⟨Nat.zero_le _, Nat.zero_le _⟩ dX5_lead_74 h (fun v2 S6 h => ?_)
          exact g_iret C hQ dX5_lead_77 h
        · refine g_bipush C (v := (-3)) dX5_lead_49 (by decide) ?_
          exact g_iret C hQ dX5_lead_51 h

abbrev rm_X5_release : Room := { frames := 4, cells := 0, slots := 0, locals := 90 }
theorem dsX5_release : yX5_release.cls = RX5 ∧ yX5_release.cls ≠ "java/lang/invoke/MethodHandle" ∧ yX5_release.cls ≠ "java/lang/invoke/VarHandle" ∧ (parseMethodDescriptor yX5_release.desc).map (fun d => d.parameters.length) = some 2 := by decide +kernel
theorem gv_RX5_X2_leftAfter : GoodIn wsL_law (wsV RX5 167 RX2 yX2_leftAfter (.code yX2_leftAfter cX2_leftAfter 5 (some .int) :: wsL_law)) := good_V q406 q90 q91 q11 q92
theorem gv_RX5_X4_hasInRow : GoodIn wsL_law (wsV RX5 161 RX4 yX4_hasInRow (.code yX4_hasInRow cX4_hasInRow 3 (some .boolean) :: wsL_law)) := good_V q534 q323 q324 q35 q325
theorem gv_RX5_X4_takeFromRow : GoodIn wsL_law (wsV RX5 164 RX4 yX4_takeFromRow (.code yX4_takeFromRow cX4_takeFromRow 4 none :: wsL_law)) := good_V q535 q536 q537 q35 q538
def f_X5_release (S : Hp) (x0 : Nat) (x1 : Int32) (x2 : Int32) : Option (Int32 × Hp) :=
 ob S 5 (some x0) fun _ =>
 ob S 2 (zR S x0 0) fun b1 => cl (f_X2_tourAt S b1 x2) fun r1 S1 =>
 ob S1 5 (some x0) fun _ =>
 ob S1 2 (zR S1 x0 0) fun b2 => cl (f_X2_guideAt S1 b2 x1) fun r2 S2 =>
 if r2 = none then
 some ((-1 : Int32), S2)
 else
 if r1 = none then
 some ((-1 : Int32), S2)
 else
 ob S2 4 r1 fun a3 =>
 if (zI S2 a3 9) = 0 then
 ob S2 4 r1 fun b3 => cl (f_X4_hasInRow S2 b3 x1) fun v1 S3 =>
 if v1 = 0 then
 some ((-5 : Int32), S3)
 else
 ob S3 5 (some x0) fun _ =>
 ob S3 1 (zR S3 x0 2) fun b4 => cl (f_X1_record S3 b4 (zR S3 x0 0)) fun _ S4 =>
 ob S4 4 r1 fun b5 => cl (f_X4_takeFromRow S4 b5 x1) fun _ S5 =>
 ob S5 5 (some x0) fun _ =>
 ob S5 4 r1 fun a6 =>
 ob S5 2 (zR S5 x0 0) fun b6 => cl (f_X2_leftAfter S5 b6 r1 (zI S5 a6 7)) fun v2 S6 =>
 some (v2, S6)
 else
 some ((-4 : Int32), S2)
set_option maxHeartbeats 4000000 in
set_option maxRecDepth 100000 in
theorem c_X5_release (S : Hp) (x0 : Nat) (x1 : Int32) (x2 : Int32) (o : Int32 × Hp) (h : f_X5_release S x0 x1 x2 = some o) : CtI yX5_release cX5_release 4 (some .int) rm_X5_release 0 0 [va_rf (some x0), .int x1, .int x2] S o := by
  refine ct_I (own := RX5) (by decide) rfl (Nat.le_of_ble_eq_true rfl) (fun X C hn hQ => ?_)
  have hn3 : 3 < xn X := by rw [hn]; decide
  unfold f_X5_release at h
  show GW X 0 0 S 0 [(0, va_rf (some x0)), (1, .int x1), (2, .int x2)] []
  refine g_aload_n C (q := 0) dX5_release_0 rfl rfl ?_
  refine g_ogetSR C (ci := 5) (slot := 0) rfl (by decide) inlX5 (by decide) rfl q12 dX5_release_1 h (fun h hLa1 hKa1 => ?_)
  refine g_iload_n C (q := 2) dX5_release_4 rfl rfl ?_
  refine g_callVR C (ci := 2) (As := [.int x2]) (np := 1) (st := []) (r := (zR S x0 0)) rfl (by decide) (fun b1 q hq => c_X2_tourAt S b1 x2 q hq) gv_RX5_X2_tourAt rfl rfl dsX2_tourAt rfl ⟨Nat.le_of_ble_eq_true rfl, Nat.le_of_ble_eq_true rfl⟩ rfl (cat_sum (Nat.le_of_ble_eq_true rfl)) ⟨Nat.zero_le _, Nat.zero_le _⟩ dX5_release_5 h (fun r1 S1 h => ?_)
  refine g_astore_n C (i := 3) (lv' := [(3, va_rf r1), (0, va_rf (some x0)), (1, .int x1), (2, .int x2)]) dX5_release_8 rfl hn3 rfl ?_
  refine g_aload_n C (q := 1) dX5_release_9 rfl rfl ?_
  refine g_ogetSR C (ci := 5) (slot := 0) rfl (by decide) inlX5 (by decide) rfl q12 dX5_release_10 h (fun h hLa2 hKa2 => ?_)
  refine g_iload_n C (q := 2) dX5_release_13 rfl rfl ?_
  refine g_callVR C (ci := 2) (As := [.int x1]) (np := 1) (st := []) (r := (zR S1 x0 0)) rfl (by decide) (fun b2 q hq => c_X2_guideAt S1 b2 x1 q hq) gv_RX5_X2_guideAt rfl rfl dsX2_guideAt rfl ⟨Nat.le_of_ble_eq_true rfl, Nat.le_of_ble_eq_true rfl⟩ rfl (cat_sum (Nat.le_of_ble_eq_true rfl)) ⟨Nat.zero_le _, Nat.zero_le _⟩ dX5_release_14 h (fun r2 S2 h => ?_)
  refine g_ifnull C (tgt := 24) dX5_release_17 (by decide) h (fun h => ?_) (fun h => ?_)
  · refine g_iconst C (v := (-1)) dX5_release_24 (by decide) ?_
    exact g_iret C hQ dX5_release_25 h
  · refine g_aload_n C (q := 0) dX5_release_20 rfl rfl ?_
    refine g_ifnonnull C (tgt := 26) dX5_release_21 (by decide) h (fun h => ?_) (fun h => ?_)
    · refine g_iconst C (v := (-1)) dX5_release_24 (by decide) ?_
      exact g_iret C hQ dX5_release_25 h
    · refine g_aload_n C (q := 0) dX5_release_26 rfl rfl ?_
      refine g_ogetI C (ci := 4) (slot := 9) rfl (by decide) inlX4 (by decide) rfl q258 dX5_release_27 h (fun a3 hra3 h hLa3 hKa3 => ?_)
      refine g_if_eq C (tgt := 36) dX5_release_30 (by decide) h (fun h => ?_) (fun h => ?_)
      · refine g_aload_n C (q := 0) dX5_release_36 rfl rfl ?_
        refine g_iload_n C (q := 2) dX5_release_37 rfl rfl ?_
        refine g_callVI C (ci := 4) (As := [.int x1]) (np := 1) (st := []) (r := r1) rfl (by decide) (fun b3 q hq => c_X4_hasInRow S2 b3 x1 q hq) gv_RX5_X4_hasInRow rfl rfl dsX4_hasInRow rfl ⟨Nat.le_of_ble_eq_true rfl, Nat.le_of_ble_eq_true rfl⟩ rfl (cat_sum (Nat.le_of_ble_eq_true rfl)) ⟨Nat.zero_le _, Nat.zero_le _⟩ dX5_release_38 h (fun v1 S3 h => ?_)
        refine g_if_ne C (tgt := 47) dX5_release_41 (by decide) h (fun h => ?_) (fun h => ?_)
        · refine g_bipush C (v := (-5)) dX5_release_44 (by decide) ?_
          exact g_iret C hQ dX5_release_46 h
        · refine g_aload_n C (q := 1) dX5_release_47 rfl rfl ?_
          refine g_ogetSR C (ci := 5) (slot := 2) rfl (by decide) inlX5 (by decide) rfl q17 dX5_release_48 h (fun h hLa4 hKa4 => ?_)
          refine g_aload_n C (q := 1) dX5_release_51 rfl rfl ?_
          refine g_getER C (ci := 5) (slot := 0) rfl (by decide) inlX5 (by decide) rfl q12 dX5_release_52 rfl hLa4 hKa4 ?_
          refine g_callVV C (ci := 1) (As := [va_rf (zR S3 x0 0)]) (np := 1) (st := []) (r := (zR S3 x0 2)) rfl (by decide) (fun b4 q hq => c_X1_record S3 b4 (zR S3 x0 0) q hq) gv_RX5_X1_record rfl rfl dsX1_record rfl ⟨Nat.le_of_ble_eq_true rfl, Nat.le_of_ble_eq_true rfl⟩ rfl (cat_sum (Nat.le_of_ble_eq_true rfl)) ⟨Nat.zero_le _, Nat.zero_le _⟩ dX5_release_55 h (fun S4 h => ?_)
          refine g_aload_n C (q := 0) dX5_release_58 rfl rfl ?_
          refine g_iload_n C (q := 2) dX5_release_59 rfl rfl ?_
          refine g_callVV C (ci := 4) (As := [.int x1]) (np := 1) (st := []) (r := r1) rfl (by decide) (fun b5 q hq => c_X4_takeFromRow S4 b5 x1 q hq) gv_RX5_X4_takeFromRow rfl rfl dsX4_takeFromRow rfl ⟨Nat.le_of_ble_eq_true rfl, Nat.le_of_ble_eq_true rfl⟩ rfl (cat_sum (Nat.le_of_ble_eq_true rfl)) ⟨Nat.zero_le _, Nat.zero_le _⟩ dX5_release_60 h (fun S5 h => ?_)
          refine g_aload_n C (q := 1) dX5_release_63 rfl rfl ?_
          refine g_ogetSR C (ci := 5) (slot := 0) rfl (by decide) inlX5 (by decide) rfl q12 dX5_release_64 h (fun h hLa5 hKa5 => ?_)
          refine g_aload_n C (q := 0) dX5_release_67 rfl rfl ?_
          refine g_aload_n C (q := 0) dX5_release_68 rfl rfl ?_
          refine g_ogetI C (ci := 4) (slot := 7) rfl (by decide) inlX4 (by decide) rfl q303 dX5_release_69 h (fun a6 hra6 h hLa6 hKa6 => ?_)
          refine g_callVI C (ci := 2) (As := [va_rf r1, .int (zI S5 a6 7)]) (np := 2) (st := []) (r := (zR S5 x0 0)) rfl (by decide) (fun b6 q hq => c_X2_leftAfter S5 b6 r1 (zI S5 a6 7) q hq) gv_RX5_X2_leftAfter rfl rfl dsX2_leftAfter rfl ⟨Nat.le_of_ble_eq_true rfl, Nat.le_of_ble_eq_true rfl⟩ rfl (cat_sum (Nat.le_of_ble_eq_true rfl)) ⟨Nat.zero_le _, Nat.zero_le _⟩ dX5_release_72 h (fun v2 S6 h => ?_)
          exact g_iret C hQ dX5_release_75 h
      · refine g_bipush C (v := (-4)) dX5_release_33 (by decide) ?_
        exact g_iret C hQ dX5_release_35 h

abbrev rm_X5_merge : Room := { frames := 4, cells := 0, slots := 0, locals := 90 }
theorem dsX5_merge : yX5_merge.cls = RX5 ∧ yX5_merge.cls ≠ "java/lang/invoke/MethodHandle" ∧ yX5_merge.cls ≠ "java/lang/invoke/VarHandle" ∧ (parseMethodDescriptor yX5_merge.desc).map (fun d => d.parameters.length) = some 2 := by decide +kernel
theorem gv_RX5_X4_fitsInto : GoodIn wsL_law (wsV RX5 171 RX4 yX4_fitsInto (.code yX4_fitsInto cX4_fitsInto 2 (some .boolean) :: wsL_law)) := good_V q287 q288 q289 q35 q290
theorem gv_RX5_X4_moveInto : GoodIn wsL_law (wsV RX5 175 RX4 yX4_moveInto (.code yX4_moveInto cX4_moveInto 3 none :: wsL_law)) := good_V q291 q292 q293 q35 q294
def f_X5_merge (S : Hp) (x0 : Nat) (x1 : Int32) (x2 : Int32) : Option (Int32 × Hp) :=
 ob S 5 (some x0) fun _ =>
 ob S 2 (zR S x0 0) fun b1 => cl (f_X2_tourAt S b1 x1) fun r1 S1 =>
 ob S1 5 (some x0) fun _ =>
 ob S1 2 (zR S1 x0 0) fun b2 => cl (f_X2_tourAt S1 b2 x2) fun r2 S2 =>
 if r1 = none then
 some ((-1 : Int32), S2)
 else
 if r2 = none then
 some ((-1 : Int32), S2)
 else
 if x1 = x2 then
 some ((-2 : Int32), S2)
 else
 ob S2 4 r1 fun b3 => cl (f_X4_fitsInto S2 b3 r2) fun v1 S3 =>
 if v1 = 0 then
 some ((-4 : Int32), S3)
 else
 ob S3 5 (some x0) fun _ =>
 ob S3 1 (zR S3 x0 2) fun b4 => cl (f_X1_record S3 b4 (zR S3 x0 0)) fun _ S4 =>
 ob S4 4 r2 fun a4 =>
 ob S4 4 r1 fun a5 =>
 bnd (((zI S4 a4 4) * (zI S4 a5 6))) fun v2 =>
 if (zI S4 a5 8) ≤ v2 then
 ob S4 5 (some x0) fun _ =>
 ob S4 2 (zR S4 x0 0) fun b5 => cl (f_X2_payBack S4 b5 r1 (0 : Int32)) fun _ S5 =>
 ob S5 4 r1 fun b6 => cl (f_X4_moveInto S5 b6 r2) fun _ S6 =>
 some ((0 : Int32), S6)
 else
 bnd (((zI S4 a5 8) - v2)) fun v3 =>
 ob S4 5 (some x0) fun _ =>
 ob S4 2 (zR S4 x0 0) fun b7 => cl (f_X2_payBack S4 b7 r1 v3) fun _ S7 =>
 ob S7 4 r1 fun b8 => cl (f_X4_moveInto S7 b8 r2) fun _ S8 =>
 some (v3, S8)
set_option maxHeartbeats 4000000 in
set_option maxRecDepth 100000 in
theorem c_X5_merge (S : Hp) (x0 : Nat) (x1 : Int32) (x2 : Int32) (o : Int32 × Hp) (h : f_X5_merge S x0 x1 x2 = some o) : CtI yX5_merge cX5_merge 7 (some .int) rm_X5_merge 0 0 [va_rf (some x0), .int x1, .int x2] S o := by
  refine ct_I (own := RX5) (by decide) rfl (Nat.le_of_ble_eq_true rfl) (fun X C hn hQ => ?_)
  have hn3 : 3 < xn X := by rw [hn]; decide
  have hn4 : 4 < xn X := by rw [hn]; decide
  have hn5 : 5 < xn X := by rw [hn]; decide
  have hn6 : 6 < xn X := by rw [hn]; decide
  unfold f_X5_merge at h
  show GW X 0 0 S 0 [(0, va_rf (some x0)), (1, .int x1), (2, .int x2)] []
  refine g_aload_n C (q := 0) dX5_merge_0 rfl rfl ?_
  refine g_ogetSR C (ci := 5) (slot := 0) rfl (by decide) inlX5 (by decide) rfl q12 dX5_merge_1 h (fun h hLa1 hKa1 => ?_)
  refine g_iload_n C (q := 1) dX5_merge_4 rfl rfl ?_
  refine g_callVR C (ci := 2) (As := [.int x1]) (np := 1) (st := []) (r := (zR S x0 0)) rfl (by decide) (fun b1 q hq => c_X2_tourAt S b1 x1 q hq) gv_RX5_X2_tourAt rfl rfl dsX2_tourAt rfl ⟨Nat.le_of_ble_eq_true rfl, Nat.le_of_ble_eq_true rfl⟩ rfl (cat_sum (Nat.le_of_ble_eq_true rfl)) ⟨Nat.zero_le _, Nat.zero_le _⟩ dX5_merge_5 h (fun r1 S1 h => ?_)
  refine g_astore_n C (i := 3) (lv' := [(3, va_rf r1), (0, va_rf (some x0)), (1, .int x1), (2, .int x2)]) dX5_merge_8 rfl hn3 rfl ?_
  refine g_aload_n C (q := 1) dX5_merge_9 rfl rfl ?_
  refine g_ogetSR C (ci := 5) (slot := 0) rfl (by decide) inlX5 (by decide) rfl q12 dX5_merge_10 h (fun h hLa2 hKa2 => ?_)
  refine g_iload_n C (q := 3) dX5_merge_13 rfl rfl ?_
  refine g_callVR C (ci := 2) (As := [.int x2]) (np := 1) (st := []) (r := (zR S1 x0 0)) rfl (by decide) (fun b2 q hq => c_X2_tourAt S1 b2 x2 q hq) gv_RX5_X2_tourAt rfl rfl dsX2_tourAt rfl ⟨Nat.le_of_ble_eq_true rfl, Nat.le_of_ble_eq_true rfl⟩ rfl (cat_sum (Nat.le_of_ble_eq_true rfl)) ⟨Nat.zero_le _, Nat.zero_le _⟩ dX5_merge_14 h (fun r2 S2 h => ?_)
  refine g_astore C (i := 4) (lv' := [(4, va_rf r2), (3, va_rf r1), (0, va_rf (some x0)), (1, .int x1), (2, .int x2)]) dX5_merge_17 hn4 (by simp [va_rf_cat, catI, catJ, catD]) ?_
  refine g_aload_n C (q := 1) dX5_merge_19 rfl rfl ?_
  refine g_ifnull C (tgt := 28) dX5_merge_20 (by decide) h (fun h => ?_) (fun h => ?_)
  · refine g_iconst C (v := (-1)) dX5_merge_28 (by decide) ?_
    exact g_iret C hQ dX5_merge_29 h
  · refine g_aload C (q := 0) dX5_merge_23 rfl ?_
    refine g_ifnonnull C (tgt := 30) dX5_merge_25 (by decide) h (fun h => ?_) (fun h => ?_)
    · refine g_iconst C (v := (-1)) dX5_merge_28 (by decide) ?_
      exact g_iret C hQ dX5_merge_29 h
    · refine g_iload_n C (q := 3) dX5_merge_30 rfl rfl ?_
      refine g_iload_n C (q := 4) dX5_merge_31 rfl rfl ?_
      refine g_icmp_ne C (tgt := 38) dX5_merge_32 (by decide) h (fun h => ?_) (fun h => ?_)
      · refine g_bipush C (v := (-2)) dX5_merge_35 (by decide) ?_
        exact g_iret C hQ dX5_merge_37 h
      · refine g_aload_n C (q := 1) dX5_merge_38 rfl rfl ?_
        refine g_aload C (q := 0) dX5_merge_39 rfl ?_
        refine g_callVI C (ci := 4) (As := [va_rf r2]) (np := 1) (st := []) (r := r1) rfl (by decide) (fun b3 q hq => c_X4_fitsInto S2 b3 r2 q hq) gv_RX5_X4_fitsInto rfl rfl dsX4_fitsInto rfl ⟨Nat.le_of_ble_eq_true rfl, Nat.le_of_ble_eq_true rfl⟩ rfl (cat_sum (Nat.le_of_ble_eq_true rfl)) ⟨Nat.zero_le _, Nat.zero_le _⟩ dX5_merge_41 h (fun v1 S3 h => ?_)
        refine g_if_ne C (tgt := 50) dX5_merge_44 (by decide) h (fun h => ?_) (fun h => ?_)
        · refine g_bipush C (v := (-4)) dX5_merge_47 (by decide) ?_
          exact g_iret C hQ dX5_merge_49 h
        · refine g_aload_n C (q := 2) dX5_merge_50 rfl rfl ?_
          refine g_ogetSR C (ci := 5) (slot := 2) rfl (by decide) inlX5 (by decide) rfl q17 dX5_merge_51 h (fun h hLa3 hKa3 => ?_)
          refine g_aload_n C (q := 2) dX5_merge_54 rfl rfl ?_
          refine g_getER C (ci := 5) (slot := 0) rfl (by decide) inlX5 (by decide) rfl q12 dX5_merge_55 rfl hLa3 hKa3 ?_
          refine g_callVV C (ci := 1) (As := [va_rf (zR S3 x0 0)]) (np := 1) (st := []) (r := (zR S3 x0 2)) rfl (by decide) (fun b4 q hq => c_X1_record S3 b4 (zR S3 x0 0) q hq) gv_RX5_X1_record rfl rfl dsX1_record rfl ⟨Nat.le_of_ble_eq_true rfl, Nat.le_of_ble_eq_true rfl⟩ rfl (cat_sum (Nat.le_of_ble_eq_true rfl)) ⟨Nat.zero_le _, Nat.zero_le _⟩ dX5_merge_58 h (fun S4 h => ?_)
          refine g_aload C (q := 0) dX5_merge_61 rfl ?_
          refine g_ogetI C (ci := 4) (slot := 4) rfl (by decide) inlX4 (by decide) rfl q260 dX5_merge_63 h (fun a4 hra4 h hLa4 hKa4 => ?_)
          refine g_aload_n C (q := 1) dX5_merge_66 rfl rfl ?_
          refine g_ogetI C (ci := 4) (slot := 6) rfl (by decide) inlX4 (by decide) rfl q259 dX5_merge_67 h (fun a5 hra5 h hLa5 hKa5 => ?_)
          refine g_imul C dX5_merge_70 ?_
          refine g_nmI h (fun v2 h => ?_)
          refine g_istore C (i := 5) (lv' := [(5, .int v2), (4, va_rf r2), (3, va_rf r1), (0, va_rf (some x0)), (1, .int x1), (2, .int x2)]) dX5_merge_71 hn5 (by simp [va_rf_cat, catI, catJ, catD]) ?_
          refine g_aload_n C (q := 2) dX5_merge_73 rfl rfl ?_
          refine g_getEI C (ci := 4) (slot := 8) rfl (by decide) inlX4 (by decide) rfl q261 dX5_merge_74 hra5 hLa5 hKa5 ?_
          refine g_iload C (q := 0) dX5_merge_77 rfl ?_
          refine g_icmp_le C (tgt := 92) dX5_merge_79 (by decide) h (fun h => ?_) (fun h => ?_)
          · refine g_iconst C (v := 0) dX5_merge_92 (by decide) ?_
            refine g_istore C (i := 6) (lv' := [(6, .int 0), (5, .int v2), (4, va_rf r2), (3, va_rf r1), (0, va_rf (some x0)), (1, .int x1), (2, .int x2)]) dX5_merge_93 hn6 rfl ?_
            refine g_aload_n C (q := 4) dX5_merge_95 rfl rfl ?_
            refine g_ogetSR C (ci := 5) (slot := 0) rfl (by decide) inlX5 (by decide) rfl q12 dX5_merge_96 h (fun h hLa6 hKa6 => ?_)
            refine g_aload_n C (q := 3) dX5_merge_99 rfl rfl ?_
            refine g_iload C (q := 0) dX5_merge_100 rfl ?_
            refine g_callVV C (ci := 2) (As := [va_rf r1, .int 0]) (np := 2) (st := []) (r := (zR S4 x0 0)) rfl (by decide) (fun b5 q hq => c_X2_payBack S4 b5 r1 (0 : Int32) q hq) gv_RX5_X2_payBack rfl rfl dsX2_payBack rfl ⟨Nat.le_of_ble_eq_true rfl, Nat.le_of_ble_eq_true rfl⟩ rfl (cat_sum (Nat.le_of_ble_eq_true rfl)) ⟨Nat.zero_le _, Nat.zero_le _⟩ dX5_merge_102 h (fun S5 h => ?_)
            refine g_aload_n C (q := 3) dX5_merge_105 rfl rfl ?_
            refine g_aload C (q := 2) dX5_merge_106 rfl ?_
            refine g_callVV C (ci := 4) (As := [va_rf r2]) (np := 1) (st := []) (r := r1) rfl (by decide) (fun b6 q hq => c_X4_moveInto S5 b6 r2 q hq) gv_RX5_X4_moveInto rfl rfl dsX4_moveInto rfl ⟨Nat.le_of_ble_eq_true rfl, Nat.le_of_ble_eq_true rfl⟩ rfl (cat_sum (Nat.le_of_ble_eq_true rfl)) ⟨Nat.zero_le _, Nat.zero_le _⟩ dX5_merge_108 h (fun S6 h => ?_)
            refine g_iload C (q := 0) dX5_merge_111 rfl ?_
            exact g_iret C hQ dX5_merge_113 h
          · refine g_aload_n C (q := 2) dX5_merge_82 rfl rfl ?_
            refine g_getEI C (ci := 4) (slot := 8) rfl (by decide) inlX4 (by decide) rfl q261 dX5_merge_83 hra5 hLa5 hKa5 ?_
            refine g_iload C (q := 0) dX5_merge_86 rfl ?_
            refine g_isub C dX5_merge_88 ?_
            refine g_goto C (tgt := 93) dX5_merge_89 (by decide) ?_
            refine g_nmI h (fun v3 h => ?_)
            refine g_istore C (i := 6) (lv' := [(6, .int v3), (5, .int v2), (4, va_rf r2), (3, va_rf r1), (0, va_rf (some x0)), (1, .int x1), (2, .int x2)]) dX5_merge_93 hn6 rfl ?_
            refine g_aload_n C (q := 4) dX5_merge_95 rfl rfl ?_
            refine g_ogetSR C (ci := 5) (slot := 0) rfl (by decide) inlX5 (by decide) rfl q12 dX5_merge_96 h (fun h hLa7 hKa7 => ?_)
            refine g_aload_n C (q := 3) dX5_merge_99 rfl rfl ?_
            refine g_iload C (q := 0) dX5_merge_100 rfl ?_
            refine g_callVV C (ci := 2) (As := [va_rf r1, .int v3]) (np := 2) (st := []) (r := (zR S4 x0 0)) rfl (by decide) (fun b7 q hq => c_X2_payBack S4 b7 r1 v3 q hq) gv_RX5_X2_payBack rfl rfl dsX2_payBack rfl ⟨Nat.le_of_ble_eq_true rfl, Nat.le_of_ble_eq_true rfl⟩ rfl (cat_sum (Nat.le_of_ble_eq_true rfl)) ⟨Nat.zero_le _, Nat.zero_le _⟩ dX5_merge_102 h (fun S7 h => ?_)
            refine g_aload_n C (q := 3) dX5_merge_105 rfl rfl ?_
            refine g_aload C (q := 2) dX5_merge_106 rfl ?_
            refine g_callVV C (ci := 4) (As := [va_rf r2]) (np := 1) (st := []) (r := r1) rfl (by decide) (fun b8 q hq => c_X4_moveInto S7 b8 r2 q hq) gv_RX5_X4_moveInto rfl rfl dsX4_moveInto rfl ⟨Nat.le_of_ble_eq_true rfl, Nat.le_of_ble_eq_true rfl⟩ rfl (cat_sum (Nat.le_of_ble_eq_true rfl)) ⟨Nat.zero_le _, Nat.zero_le _⟩ dX5_merge_108 h (fun S8 h => ?_)
            refine g_iload C (q := 0) dX5_merge_111 rfl ?_
            exact g_iret C hQ dX5_merge_113 h

abbrev rm_X5_cancel : Room := { frames := 4, cells := 0, slots := 0, locals := 90 }
theorem dsX5_cancel : yX5_cancel.cls = RX5 ∧ yX5_cancel.cls ≠ "java/lang/invoke/MethodHandle" ∧ yX5_cancel.cls ≠ "java/lang/invoke/VarHandle" ∧ (parseMethodDescriptor yX5_cancel.desc).map (fun d => d.parameters.length) = some 1 := by decide +kernel
theorem gv_RX5_X2_callOff : GoodIn wsL_law (wsV RX5 179 RX2 yX2_callOff (.code yX2_callOff cX2_callOff 4 (some .int) :: wsL_law)) := good_V q332 q333 q334 q11 q335
def f_X5_cancel (S : Hp) (x0 : Nat) (x1 : Int32) : Option (Int32 × Hp) :=
 ob S 5 (some x0) fun _ =>
 ob S 2 (zR S x0 0) fun b1 => cl (f_X2_tourAt S b1 x1) fun r1 S1 =>
 if r1 = none then
 some ((-1 : Int32), S1)
 else
 ob S1 4 r1 fun a2 =>
 if (zI S1 a2 9) = 0 then
 ob S1 5 (some x0) fun _ =>
 ob S1 1 (zR S1 x0 2) fun b2 => cl (f_X1_record S1 b2 (zR S1 x0 0)) fun _ S2 =>
 ob S2 5 (some x0) fun _ =>
 ob S2 2 (zR S2 x0 0) fun b3 => cl (f_X2_callOff S2 b3 r1 (4 : Int32)) fun v1 S3 =>
 some (v1, S3)
 else
 some ((-4 : Int32), S1)
set_option maxHeartbeats 4000000 in
set_option maxRecDepth 100000 in
theorem c_X5_cancel (S : Hp) (x0 : Nat) (x1 : Int32) (o : Int32 × Hp) (h : f_X5_cancel S x0 x1 = some o) : CtI yX5_cancel cX5_cancel 3 (some .int) rm_X5_cancel 0 0 [va_rf (some x0), .int x1] S o := by
  refine ct_I (own := RX5) (by decide) rfl (Nat.le_of_ble_eq_true rfl) (fun X C hn hQ => ?_)
  have hn2 : 2 < xn X := by rw [hn]; decide
  unfold f_X5_cancel at h
  show GW X 0 0 S 0 [(0, va_rf (some x0)), (1, .int x1)] []
  refine g_aload_n C (q := 0) dX5_cancel_0 rfl rfl ?_
  refine g_ogetSR C (ci := 5) (slot := 0) rfl (by decide) inlX5 (by decide) rfl q12 dX5_cancel_1 h (fun h hLa1 hKa1 => ?_)
  refine g_iload_n C (q := 1) dX5_cancel_4 rfl rfl ?_
  refine g_callVR C (ci := 2) (As := [.int x1]) (np := 1) (st := []) (r := (zR S x0 0)) rfl (by decide) (fun b1 q hq => c_X2_tourAt S b1 x1 q hq) gv_RX5_X2_tourAt rfl rfl dsX2_tourAt rfl ⟨Nat.le_of_ble_eq_true rfl, Nat.le_of_ble_eq_true rfl⟩ rfl (cat_sum (Nat.le_of_ble_eq_true rfl)) ⟨Nat.zero_le _, Nat.zero_le _⟩ dX5_cancel_5 h (fun r1 S1 h => ?_)
  refine g_astore_n C (i := 2) (lv' := [(2, va_rf r1), (0, va_rf (some x0)), (1, .int x1)]) dX5_cancel_8 rfl hn2 rfl ?_
  refine g_aload_n C (q := 0) dX5_cancel_9 rfl rfl ?_
  refine g_ifnonnull C (tgt := 15) dX5_cancel_10 (by decide) h (fun h => ?_) (fun h => ?_)
  · refine g_iconst C (v := (-1)) dX5_cancel_13 (by decide) ?_
    exact g_iret C hQ dX5_cancel_14 h
  · refine g_aload_n C (q := 0) dX5_cancel_15 rfl rfl ?_
    refine g_ogetI C (ci := 4) (slot := 9) rfl (by decide) inlX4 (by decide) rfl q258 dX5_cancel_16 h (fun a2 hra2 h hLa2 hKa2 => ?_)
    refine g_if_eq C (tgt := 25) dX5_cancel_19 (by decide) h (fun h => ?_) (fun h => ?_)
    · refine g_aload_n C (q := 1) dX5_cancel_25 rfl rfl ?_
      refine g_ogetSR C (ci := 5) (slot := 2) rfl (by decide) inlX5 (by decide) rfl q17 dX5_cancel_26 h (fun h hLa3 hKa3 => ?_)
      refine g_aload_n C (q := 1) dX5_cancel_29 rfl rfl ?_
      refine g_getER C (ci := 5) (slot := 0) rfl (by decide) inlX5 (by decide) rfl q12 dX5_cancel_30 rfl hLa3 hKa3 ?_
      refine g_callVV C (ci := 1) (As := [va_rf (zR S1 x0 0)]) (np := 1) (st := []) (r := (zR S1 x0 2)) rfl (by decide) (fun b2 q hq => c_X1_record S1 b2 (zR S1 x0 0) q hq) gv_RX5_X1_record rfl rfl dsX1_record rfl ⟨Nat.le_of_ble_eq_true rfl, Nat.le_of_ble_eq_true rfl⟩ rfl (cat_sum (Nat.le_of_ble_eq_true rfl)) ⟨Nat.zero_le _, Nat.zero_le _⟩ dX5_cancel_33 h (fun S2 h => ?_)
      refine g_aload_n C (q := 1) dX5_cancel_36 rfl rfl ?_
      refine g_ogetSR C (ci := 5) (slot := 0) rfl (by decide) inlX5 (by decide) rfl q12 dX5_cancel_37 h (fun h hLa4 hKa4 => ?_)
      refine g_aload_n C (q := 0) dX5_cancel_40 rfl rfl ?_
      refine g_iconst C (v := 4) dX5_cancel_41 (by decide) ?_
      refine g_callVI C (ci := 2) (As := [va_rf r1, .int 4]) (np := 2) (st := []) (r := (zR S2 x0 0)) rfl (by decide) (fun b3 q hq => c_X2_callOff S2 b3 r1 (4 : Int32) q hq) gv_RX5_X2_callOff rfl rfl dsX2_callOff rfl ⟨Nat.le_of_ble_eq_true rfl, Nat.le_of_ble_eq_true rfl⟩ rfl (cat_sum (Nat.le_of_ble_eq_true rfl)) ⟨Nat.zero_le _, Nat.zero_le _⟩ dX5_cancel_42 h (fun v1 S3 h => ?_)
      exact g_iret C hQ dX5_cancel_45 h
    · refine g_bipush C (v := (-4)) dX5_cancel_22 (by decide) ?_
      exact g_iret C hQ dX5_cancel_24 h

abbrev rm_X5_pass : Room := { frames := 6, cells := 0, slots := 0, locals := 141 }
theorem dsX5_pass : yX5_pass.cls = RX5 ∧ yX5_pass.cls ≠ "java/lang/invoke/MethodHandle" ∧ yX5_pass.cls ≠ "java/lang/invoke/VarHandle" ∧ (parseMethodDescriptor yX5_pass.desc).map (fun d => d.parameters.length) = some 1 := by decide +kernel
theorem gv_RX5_X2_passDay : GoodIn wsL_law (wsV RX5 182 RX2 yX2_passDay (.code yX2_passDay cX2_passDay 5 (some .int) :: wsL_law)) := good_V q565 q566 q567 q11 q568
def f_X5_pass_L47_b (rec : Hp → Nat → Int32 → Int32 → Int32 → Option (Int32 × Hp)) (S : Hp) (x0 : Nat) (y1 : Int32) (y2 : Int32) (y3 : Int32) : Option (Int32 × Hp) :=
 if y1 ≤ y3 then
 some (y2, S)
 else
 ob S 5 (some x0) fun _ =>
 ob S 2 (zR S x0 0) fun b1 => cl (f_X2_passDay S b1 ) fun v1 S1 =>
 bnd ((y2 + v1)) fun v2 =>
 bnd (y3 + 1) fun v3 =>
 rec S1 x0 y1 v2 v3
def f_X5_pass_L47 : Nat → Hp → Nat → Int32 → Int32 → Int32 → Option (Int32 × Hp)
  | 0 => fun _ _ _ _ _ => none
  | n + 1 => f_X5_pass_L47_b (f_X5_pass_L47 n)
def f_X5_pass (S : Hp) (x0 : Nat) (x1 : Int32) : Option (Int32 × Hp) :=
 if x1 < 1 then
 some ((-2 : Int32), S)
 else
 if x1 ≤ 30 then
 ob S 5 (some x0) fun _ =>
 ob S 2 (zR S x0 0) fun a2 =>
 if ((zI S a2 6) + x1) ≤ 1000 then
 ob S 1 (zR S x0 2) fun b1 => cl (f_X1_record S b1 (zR S x0 0)) fun _ S1 =>
 f_X5_pass_L47 1000 S1 x0 x1 (0 : Int32) (0 : Int32)
 else
 some ((-4 : Int32), S)
 else
 some ((-2 : Int32), S)
set_option maxHeartbeats 4000000 in
set_option maxRecDepth 100000 in
theorem w_X5_pass_L47 {X : Cx} (C : CxOK X cX5_pass RX5 rm_X5_pass) (hn : xn X = 4) {S0 : Hp} {o : Int32 × Hp} (hQ : QI X (some .int) S0 0 0 o) : ∀ (fuel : Nat) (S : Hp) (x0 : Nat) (y1 : Int32) (y2 : Int32) (y3 : Int32), f_X5_pass_L47 fuel S x0 y1 y2 y3 = some o → GW X 0 0 S 47 [(0, va_rf (some x0)), (1, .int y1), (2, .int y2), (3, .int y3)] [] := by
  have hn2 : 2 < xn X := by rw [hn]; decide
  have hn3 : 3 < xn X := by rw [hn]; decide
  intro fuel
  induction fuel with
  | zero => intro S x0 y1 y2 y3 h; cases (show none = some o from h)
  | succ fuel ih =>
    intro S x0 y1 y2 y3 h
    have h : f_X5_pass_L47_b (f_X5_pass_L47 fuel) S x0 y1 y2 y3 = some o := h
    unfold f_X5_pass_L47_b at h
    refine g_iload_n C (q := 3) dX5_pass_47 rfl rfl ?_
    refine g_iload_n C (q := 1) dX5_pass_48 rfl rfl ?_
    refine g_icmp_ge C (tgt := 68) dX5_pass_49 (by decide) h (fun h => ?_) (fun h => ?_)
    · refine g_iload_n C (q := 2) dX5_pass_68 rfl rfl ?_
      exact g_iret C hQ dX5_pass_69 h
    · refine g_iload_n C (q := 2) dX5_pass_52 rfl rfl ?_
      refine g_aload_n C (q := 0) dX5_pass_53 rfl rfl ?_
      refine g_ogetSR C (ci := 5) (slot := 0) rfl (by decide) inlX5 (by decide) rfl q12 dX5_pass_54 h (fun h hLa1 hKa1 => ?_)
      refine g_callVI C (ci := 2) (As := []) (np := 0) (st := [.int y2]) (r := (zR S x0 0)) rfl (by decide) (fun b1 q hq => c_X2_passDay S b1  q hq) gv_RX5_X2_passDay rfl rfl dsX2_passDay rfl ⟨Nat.le_of_ble_eq_true rfl, Nat.le_of_ble_eq_true rfl⟩ rfl (cat_sum (Nat.le_of_ble_eq_true rfl)) ⟨Nat.zero_le _, Nat.zero_le _⟩ dX5_pass_57 h (fun v1 S1 h => ?_)
      refine g_iadd C dX5_pass_60 ?_
      refine g_nmI h (fun v2 h => ?_)
      refine g_istore_n C (i := 2) (lv' := [(2, .int v2), (0, va_rf (some x0)), (1, .int y1), (3, .int y3)]) dX5_pass_61 rfl hn2 rfl ?_
      obtain ⟨v3, ev3, h⟩ := bnd_ex h
      refine g_iinc C (i := 3) (lv' := [(3, .int v3), (2, .int v2), (0, va_rf (some x0)), (1, .int y1)]) (q := 3) v3 dX5_pass_62 rfl ev3 hn3 rfl ?_
      refine g_goto C (tgt := 47) dX5_pass_65 (by decide) ?_
      refine g_sub (lv' := [(0, va_rf (some x0)), (1, .int y1), (2, .int v2), (3, .int v3)]) [2, 3, 1, 0] rfl ?_
      exact ih S1 x0 y1 v2 v3 h
set_option maxHeartbeats 4000000 in
set_option maxRecDepth 100000 in
theorem c_X5_pass (S : Hp) (x0 : Nat) (x1 : Int32) (o : Int32 × Hp) (h : f_X5_pass S x0 x1 = some o) : CtI yX5_pass cX5_pass 4 (some .int) rm_X5_pass 0 0 [va_rf (some x0), .int x1] S o := by
  refine ct_I (own := RX5) (by decide) rfl (Nat.le_of_ble_eq_true rfl) (fun X C hn hQ => ?_)
  have hn2 : 2 < xn X := by rw [hn]; decide
  have hn3 : 3 < xn X := by rw [hn]; decide
  unfold f_X5_pass at h
  show GW X 0 0 S 0 [(0, va_rf (some x0)), (1, .int x1)] []
  refine g_iload_n C (q := 1) dX5_pass_0 rfl rfl ?_
  refine g_iconst C (v := 1) dX5_pass_1 (by decide) ?_
  refine g_icmp_lt C (tgt := 11) dX5_pass_2 (by decide) h (fun h => ?_) (fun h => ?_)
  · refine g_bipush C (v := (-2)) dX5_pass_11 (by decide) ?_
    exact g_iret C hQ dX5_pass_13 h
  · refine g_iload_n C (q := 1) dX5_pass_5 rfl rfl ?_
    refine g_bipush C (v := 30) dX5_pass_6 (by decide) ?_
    refine g_icmp_le C (tgt := 14) dX5_pass_8 (by decide) h (fun h => ?_) (fun h => ?_)
    · refine g_aload_n C (q := 0) dX5_pass_14 rfl rfl ?_
      refine g_ogetSR C (ci := 5) (slot := 0) rfl (by decide) inlX5 (by decide) rfl q12 dX5_pass_15 h (fun h hLa1 hKa1 => ?_)
      refine g_ogetI C (ci := 2) (slot := 6) rfl (by decide) inlX2 (by decide) rfl q156 dX5_pass_18 h (fun a2 hra2 h hLa2 hKa2 => ?_)
      refine g_iload_n C (q := 1) dX5_pass_21 rfl rfl ?_
      refine g_iadd C dX5_pass_22 ?_
      refine g_sipush C (v := 1000) dX5_pass_23 (by decide) ?_
      refine g_icmp_le C (tgt := 32) dX5_pass_26 (by decide) h (fun h => ?_) (fun h => ?_)
      · refine g_aload_n C (q := 0) dX5_pass_32 rfl rfl ?_
        refine g_getER C (ci := 5) (slot := 2) rfl (by decide) inlX5 (by decide) rfl q17 dX5_pass_33 rfl hLa1 hKa1 ?_
        refine g_aload_n C (q := 0) dX5_pass_36 rfl rfl ?_
        refine g_getER C (ci := 5) (slot := 0) rfl (by decide) inlX5 (by decide) rfl q12 dX5_pass_37 rfl hLa1 hKa1 ?_
        refine g_callVV C (ci := 1) (As := [va_rf (zR S x0 0)]) (np := 1) (st := []) (r := (zR S x0 2)) rfl (by decide) (fun b1 q hq => c_X1_record S b1 (zR S x0 0) q hq) gv_RX5_X1_record rfl rfl dsX1_record rfl ⟨Nat.le_of_ble_eq_true rfl, Nat.le_of_ble_eq_true rfl⟩ rfl (cat_sum (Nat.le_of_ble_eq_true rfl)) ⟨Nat.zero_le _, Nat.zero_le _⟩ dX5_pass_40 h (fun S1 h => ?_)
        refine g_iconst C (v := 0) dX5_pass_43 (by decide) ?_
        refine g_istore_n C (i := 2) (lv' := [(2, .int 0), (0, va_rf (some x0)), (1, .int x1)]) dX5_pass_44 rfl hn2 rfl ?_
        refine g_iconst C (v := 0) dX5_pass_45 (by decide) ?_
        refine g_istore_n C (i := 3) (lv' := [(3, .int 0), (2, .int 0), (0, va_rf (some x0)), (1, .int x1)]) dX5_pass_46 rfl hn3 rfl ?_
        refine g_sub (lv' := [(0, va_rf (some x0)), (1, .int x1), (2, .int 0), (3, .int 0)]) [2, 3, 1, 0] rfl ?_
        exact w_X5_pass_L47 C hn hQ 1000 S1 x0 x1 (0 : Int32) (0 : Int32) h
      · refine g_bipush C (v := (-4)) dX5_pass_29 (by decide) ?_
        exact g_iret C hQ dX5_pass_31 h
    · refine g_bipush C (v := (-2)) dX5_pass_11 (by decide) ?_
      exact g_iret C hQ dX5_pass_13 h

abbrev rm_X5_undo : Room := { frames := 4, cells := 0, slots := 0, locals := 90 }
theorem dsX5_undo : yX5_undo.cls = RX5 ∧ yX5_undo.cls ≠ "java/lang/invoke/MethodHandle" ∧ yX5_undo.cls ≠ "java/lang/invoke/VarHandle" ∧ (parseMethodDescriptor yX5_undo.desc).map (fun d => d.parameters.length) = some 0 := by decide +kernel
theorem gv_RX5_X1_takeBack : GoodIn wsL_law (wsV RX5 224 RX1 yX1_takeBack (.code yX1_takeBack cX1_takeBack 2 none :: wsL_law)) := good_V q105 q106 q107 q16 q108
def f_X5_undo (S : Hp) (x0 : Nat) : Option (Int32 × Hp) :=
 ob S 5 (some x0) fun _ =>
 ob S 1 (zR S x0 2) fun a2 =>
 if (zI S a2 2) = 0 then
 some ((-5 : Int32), S)
 else
 ob S 1 (zR S x0 2) fun b1 => cl (f_X1_takeBack S b1 (zR S x0 0)) fun _ S1 =>
 ob S1 5 (some x0) fun _ =>
 ob S1 1 (zR S1 x0 2) fun a4 =>
 some ((zI S1 a4 2), S1)
set_option maxHeartbeats 4000000 in
set_option maxRecDepth 100000 in
theorem c_X5_undo (S : Hp) (x0 : Nat) (o : Int32 × Hp) (h : f_X5_undo S x0 = some o) : CtI yX5_undo cX5_undo 1 (some .int) rm_X5_undo 0 0 [va_rf (some x0)] S o := by
  refine ct_I (own := RX5) (by decide) rfl (Nat.le_of_ble_eq_true rfl) (fun X C hn hQ => ?_)
  unfold f_X5_undo at h
  show GW X 0 0 S 0 [(0, va_rf (some x0))] []
  refine g_aload_n C (q := 0) dX5_undo_0 rfl rfl ?_
  refine g_ogetSR C (ci := 5) (slot := 2) rfl (by decide) inlX5 (by decide) rfl q17 dX5_undo_1 h (fun h hLa1 hKa1 => ?_)
  refine g_ogetI C (ci := 1) (slot := 2) rfl (by decide) inlX1 (by decide) rfl q104 dX5_undo_4 h (fun a2 hra2 h hLa2 hKa2 => ?_)
  refine g_if_ne C (tgt := 13) dX5_undo_7 (by decide) h (fun h => ?_) (fun h => ?_)
  · refine g_bipush C (v := (-5)) dX5_undo_10 (by decide) ?_
    exact g_iret C hQ dX5_undo_12 h
  · refine g_aload_n C (q := 0) dX5_undo_13 rfl rfl ?_
    refine g_getER C (ci := 5) (slot := 2) rfl (by decide) inlX5 (by decide) rfl q17 dX5_undo_14 rfl hLa1 hKa1 ?_
    refine g_aload_n C (q := 0) dX5_undo_17 rfl rfl ?_
    refine g_getER C (ci := 5) (slot := 0) rfl (by decide) inlX5 (by decide) rfl q12 dX5_undo_18 rfl hLa1 hKa1 ?_
    refine g_callVV C (ci := 1) (As := [va_rf (zR S x0 0)]) (np := 1) (st := []) (r := (zR S x0 2)) rfl (by decide) (fun b1 q hq => c_X1_takeBack S b1 (zR S x0 0) q hq) gv_RX5_X1_takeBack rfl rfl dsX1_takeBack rfl ⟨Nat.le_of_ble_eq_true rfl, Nat.le_of_ble_eq_true rfl⟩ rfl (cat_sum (Nat.le_of_ble_eq_true rfl)) ⟨Nat.zero_le _, Nat.zero_le _⟩ dX5_undo_21 h (fun S1 h => ?_)
    refine g_aload_n C (q := 0) dX5_undo_24 rfl rfl ?_
    refine g_ogetSR C (ci := 5) (slot := 2) rfl (by decide) inlX5 (by decide) rfl q17 dX5_undo_25 h (fun h hLa3 hKa3 => ?_)
    refine g_ogetI C (ci := 1) (slot := 2) rfl (by decide) inlX1 (by decide) rfl q104 dX5_undo_28 h (fun a4 hra4 h hLa4 hKa4 => ?_)
    exact g_iret C hQ dX5_undo_31 h

abbrev rm_X5_keep : Room := { frames := 3, cells := 0, slots := 0, locals := 69 }
theorem dsX5_keep : yX5_keep.cls = RX5 ∧ yX5_keep.cls ≠ "java/lang/invoke/MethodHandle" ∧ yX5_keep.cls ≠ "java/lang/invoke/VarHandle" ∧ (parseMethodDescriptor yX5_keep.desc).map (fun d => d.parameters.length) = some 0 := by decide +kernel
theorem gv_RX5_X2_copyFrom : GoodIn wsL_law (wsV RX5 227 RX2 yX2_copyFrom (.code yX2_copyFrom cX2_copyFrom 3 none :: wsL_law)) := good_V q161 q112 q113 q11 q114
def f_X5_keep (S : Hp) (x0 : Nat) : Option (Int32 × Hp) :=
 ob S 5 (some x0) fun _ =>
 ob S 2 (zR S x0 1) fun b1 => cl (f_X2_copyFrom S b1 (zR S x0 0)) fun _ S1 =>
 ob S1 5 (some x0) fun a2 => bnd (wI S1 a2 4 (1 : Int32)) fun S2 =>
 ob S2 5 (some x0) fun _ =>
 ob S2 2 (zR S2 x0 0) fun a4 =>
 some ((zI S2 a4 6), S2)
set_option maxHeartbeats 4000000 in
set_option maxRecDepth 100000 in
theorem c_X5_keep (S : Hp) (x0 : Nat) (o : Int32 × Hp) (h : f_X5_keep S x0 = some o) : CtI yX5_keep cX5_keep 1 (some .int) rm_X5_keep 0 0 [va_rf (some x0)] S o := by
  refine ct_I (own := RX5) (by decide) rfl (Nat.le_of_ble_eq_true rfl) (fun X C hn hQ => ?_)
  unfold f_X5_keep at h
  show GW X 0 0 S 0 [(0, va_rf (some x0))] []
  refine g_aload_n C (q := 0) dX5_keep_0 rfl rfl ?_
  refine g_ogetSR C (ci := 5) (slot := 1) rfl (by decide) inlX5 (by decide) rfl q13 dX5_keep_1 h (fun h hLa1 hKa1 => ?_)
  refine g_aload_n C (q := 0) dX5_keep_4 rfl rfl ?_
  refine g_getER C (ci := 5) (slot := 0) rfl (by decide) inlX5 (by decide) rfl q12 dX5_keep_5 rfl hLa1 hKa1 ?_
  refine g_callVV C (ci := 2) (As := [va_rf (zR S x0 0)]) (np := 1) (st := []) (r := (zR S x0 1)) rfl (by decide) (fun b1 q hq => c_X2_copyFrom S b1 (zR S x0 0) q hq) gv_RX5_X2_copyFrom rfl rfl dsX2_copyFrom rfl ⟨Nat.le_of_ble_eq_true rfl, Nat.le_of_ble_eq_true rfl⟩ rfl (cat_sum (Nat.le_of_ble_eq_true rfl)) ⟨Nat.zero_le _, Nat.zero_le _⟩ dX5_keep_8 h (fun S1 h => ?_)
  refine g_aload_n C (q := 0) dX5_keep_11 rfl rfl ?_
  refine g_iconst C (v := 1) dX5_keep_12 (by decide) ?_
  refine g_oputI C (ci := 5) (slot := 4) tyX5 tyX5_ok nmX5 rfl (by decide) inlX5 (by decide) rfl q155 rfl dX5_keep_13 (by decide +kernel) (by decide +kernel) h (fun a2 S2 h => ?_)
  refine g_aload_n C (q := 0) dX5_keep_16 rfl rfl ?_
  refine g_ogetSR C (ci := 5) (slot := 0) rfl (by decide) inlX5 (by decide) rfl q12 dX5_keep_17 h (fun h hLa3 hKa3 => ?_)
  refine g_ogetI C (ci := 2) (slot := 6) rfl (by decide) inlX2 (by decide) rfl q156 dX5_keep_20 h (fun a4 hra4 h hLa4 hKa4 => ?_)
  exact g_iret C hQ dX5_keep_23 h

abbrev rm_X5_restore : Room := { frames := 4, cells := 0, slots := 0, locals := 90 }
theorem dsX5_restore : yX5_restore.cls = RX5 ∧ yX5_restore.cls ≠ "java/lang/invoke/MethodHandle" ∧ yX5_restore.cls ≠ "java/lang/invoke/VarHandle" ∧ (parseMethodDescriptor yX5_restore.desc).map (fun d => d.parameters.length) = some 0 := by decide +kernel
def f_X5_restore (S : Hp) (x0 : Nat) : Option (Int32 × Hp) :=
 ob S 5 (some x0) fun _ =>
 if (zI S x0 4) = 0 then
 some ((-5 : Int32), S)
 else
 ob S 1 (zR S x0 2) fun b1 => cl (f_X1_record S b1 (zR S x0 0)) fun _ S1 =>
 ob S1 5 (some x0) fun _ =>
 ob S1 2 (zR S1 x0 0) fun b2 => cl (f_X2_copyFrom S1 b2 (zR S1 x0 1)) fun _ S2 =>
 ob S2 5 (some x0) fun _ =>
 ob S2 2 (zR S2 x0 0) fun a4 =>
 some ((zI S2 a4 6), S2)
set_option maxHeartbeats 4000000 in
set_option maxRecDepth 100000 in
theorem c_X5_restore (S : Hp) (x0 : Nat) (o : Int32 × Hp) (h : f_X5_restore S x0 = some o) : CtI yX5_restore cX5_restore 1 (some .int) rm_X5_restore 0 0 [va_rf (some x0)] S o := by
  refine ct_I (own := RX5) (by decide) rfl (Nat.le_of_ble_eq_true rfl) (fun X C hn hQ => ?_)
  unfold f_X5_restore at h
  show GW X 0 0 S 0 [(0, va_rf (some x0))] []
  refine g_aload_n C (q := 0) dX5_restore_0 rfl rfl ?_
  refine g_ogetSI C (ci := 5) (slot := 4) rfl (by decide) inlX5 (by decide) rfl q155 dX5_restore_1 h (fun h hLa1 hKa1 => ?_)
  refine g_if_ne C (tgt := 10) dX5_restore_4 (by decide) h (fun h => ?_) (fun h => ?_)
  · refine g_bipush C (v := (-5)) dX5_restore_7 (by decide) ?_
    exact g_iret C hQ dX5_restore_9 h
  · refine g_aload_n C (q := 0) dX5_restore_10 rfl rfl ?_
    refine g_getER C (ci := 5) (slot := 2) rfl (by decide) inlX5 (by decide) rfl q17 dX5_restore_11 rfl hLa1 hKa1 ?_
    refine g_aload_n C (q := 0) dX5_restore_14 rfl rfl ?_
    refine g_getER C (ci := 5) (slot := 0) rfl (by decide) inlX5 (by decide) rfl q12 dX5_restore_15 rfl hLa1 hKa1 ?_
    refine g_callVV C (ci := 1) (As := [va_rf (zR S x0 0)]) (np := 1) (st := []) (r := (zR S x0 2)) rfl (by decide) (fun b1 q hq => c_X1_record S b1 (zR S x0 0) q hq) gv_RX5_X1_record rfl rfl dsX1_record rfl ⟨Nat.le_of_ble_eq_true rfl, Nat.le_of_ble_eq_true rfl⟩ rfl (cat_sum (Nat.le_of_ble_eq_true rfl)) ⟨Nat.zero_le _, Nat.zero_le _⟩ dX5_restore_18 h (fun S1 h => ?_)
    refine g_aload_n C (q := 0) dX5_restore_21 rfl rfl ?_
    refine g_ogetSR C (ci := 5) (slot := 0) rfl (by decide) inlX5 (by decide) rfl q12 dX5_restore_22 h (fun h hLa2 hKa2 => ?_)
    refine g_aload_n C (q := 0) dX5_restore_25 rfl rfl ?_
    refine g_getER C (ci := 5) (slot := 1) rfl (by decide) inlX5 (by decide) rfl q13 dX5_restore_26 rfl hLa2 hKa2 ?_
    refine g_callVV C (ci := 2) (As := [va_rf (zR S1 x0 1)]) (np := 1) (st := []) (r := (zR S1 x0 0)) rfl (by decide) (fun b2 q hq => c_X2_copyFrom S1 b2 (zR S1 x0 1) q hq) gv_RX5_X2_copyFrom rfl rfl dsX2_copyFrom rfl ⟨Nat.le_of_ble_eq_true rfl, Nat.le_of_ble_eq_true rfl⟩ rfl (cat_sum (Nat.le_of_ble_eq_true rfl)) ⟨Nat.zero_le _, Nat.zero_le _⟩ dX5_restore_29 h (fun S2 h => ?_)
    refine g_aload_n C (q := 0) dX5_restore_32 rfl rfl ?_
    refine g_ogetSR C (ci := 5) (slot := 0) rfl (by decide) inlX5 (by decide) rfl q12 dX5_restore_33 h (fun h hLa3 hKa3 => ?_)
    refine g_ogetI C (ci := 2) (slot := 6) rfl (by decide) inlX2 (by decide) rfl q156 dX5_restore_36 h (fun a4 hra4 h hLa4 hKa4 => ?_)
    exact g_iret C hQ dX5_restore_39 h

abbrev rm_X5_guide : Room := { frames := 2, cells := 0, slots := 0, locals := 44 }
theorem dsX5_guide : yX5_guide.cls = RX5 ∧ yX5_guide.cls ≠ "java/lang/invoke/MethodHandle" ∧ yX5_guide.cls ≠ "java/lang/invoke/VarHandle" ∧ (parseMethodDescriptor yX5_guide.desc).map (fun d => d.parameters.length) = some 2 := by decide +kernel
theorem gv_RX5_X0_isValidOn : GoodIn wsL_law (wsV RX5 234 RX0 yX0_isValidOn (.code yX0_isValidOn cX0_isValidOn 2 (some .boolean) :: wsL_law)) := good_V q393 q315 q316 q29 q317
theorem gv_RX5_X2_firstOpenTourOf : GoodIn wsL_law (wsV RX5 237 RX2 yX2_firstOpenTourOf (.code yX2_firstOpenTourOf cX2_firstOpenTourOf 3 (some .int) :: wsL_law)) := good_V q394 q395 q396 q11 q397
def f_X5_guide (S : Hp) (x0 : Nat) (x1 : Int32) (x2 : Int32) : Option (Int32 × Hp) :=
 ob S 5 (some x0) fun _ =>
 ob S 2 (zR S x0 0) fun b1 => cl (f_X2_guideAt S b1 x1) fun r1 S1 =>
 if r1 = none then
 some ((-1 : Int32), S1)
 else
 if x2 = 0 then
 ob S1 0 r1 fun a2 =>
 some ((zI S1 a2 0), S1)
 else if x2 = 1 then
 ob S1 0 r1 fun a3 =>
 some ((zI S1 a3 1), S1)
 else if x2 = 2 then
 ob S1 5 (some x0) fun _ =>
 ob S1 2 (zR S1 x0 0) fun a5 =>
 ob S1 0 r1 fun b2 => cl (f_X0_isValidOn S1 b2 (zI S1 a5 6)) fun v1 S2 =>
 if v1 = 0 then
 some ((0 : Int32), S2)
 else
 some ((1 : Int32), S2)
 else if x2 = 3 then
 ob S1 5 (some x0) fun _ =>
 ob S1 2 (zR S1 x0 0) fun b3 => cl (f_X2_firstOpenTourOf S1 b3 x1) fun v2 S3 =>
 some (v2, S3)
 else if x2 = 4 then
 ob S1 0 r1 fun a7 =>
 some ((zI S1 a7 2), S1)
 else if x2 = 5 then
 ob S1 0 r1 fun a8 =>
 some ((zI S1 a8 3), S1)
 else some ((-2 : Int32), S1)
set_option maxHeartbeats 4000000 in
set_option maxRecDepth 100000 in
theorem c_X5_guide (S : Hp) (x0 : Nat) (x1 : Int32) (x2 : Int32) (o : Int32 × Hp) (h : f_X5_guide S x0 x1 x2 = some o) : CtI yX5_guide cX5_guide 4 (some .int) rm_X5_guide 0 0 [va_rf (some x0), .int x1, .int x2] S o := by
  refine ct_I (own := RX5) (by decide) rfl (Nat.le_of_ble_eq_true rfl) (fun X C hn hQ => ?_)
  have hn3 : 3 < xn X := by rw [hn]; decide
  unfold f_X5_guide at h
  show GW X 0 0 S 0 [(0, va_rf (some x0)), (1, .int x1), (2, .int x2)] []
  refine g_aload_n C (q := 0) dX5_guide_0 rfl rfl ?_
  refine g_ogetSR C (ci := 5) (slot := 0) rfl (by decide) inlX5 (by decide) rfl q12 dX5_guide_1 h (fun h hLa1 hKa1 => ?_)
  refine g_iload_n C (q := 1) dX5_guide_4 rfl rfl ?_
  refine g_callVR C (ci := 2) (As := [.int x1]) (np := 1) (st := []) (r := (zR S x0 0)) rfl (by decide) (fun b1 q hq => c_X2_guideAt S b1 x1 q hq) gv_RX5_X2_guideAt rfl rfl dsX2_guideAt rfl ⟨Nat.le_of_ble_eq_true rfl, Nat.le_of_ble_eq_true rfl⟩ rfl (cat_sum (Nat.le_of_ble_eq_true rfl)) ⟨Nat.zero_le _, Nat.zero_le _⟩ dX5_guide_5 h (fun r1 S1 h => ?_)
  refine g_astore_n C (i := 3) (lv' := [(3, va_rf r1), (0, va_rf (some x0)), (1, .int x1), (2, .int x2)]) dX5_guide_8 rfl hn3 rfl ?_
  refine g_aload_n C (q := 0) dX5_guide_9 rfl rfl ?_
  refine g_ifnonnull C (tgt := 15) dX5_guide_10 (by decide) h (fun h => ?_) (fun h => ?_)
  · refine g_iconst C (v := (-1)) dX5_guide_13 (by decide) ?_
    exact g_iret C hQ dX5_guide_14 h
  · refine g_iload_n C (q := 3) dX5_guide_15 rfl rfl ?_
    by_cases c1 : x2 = 0
    · have h := if_el1 h c1
      refine g_tswIn C (v := 0) (tgt := 56) dX5_guide_16 c1 (by decide) (by decide) rfl (by decide) ?_
      refine g_aload_n C (q := 0) dX5_guide_56 rfl rfl ?_
      refine g_ogetI C (ci := 0) (slot := 0) rfl (by decide) inlX0 (by decide) rfl q389 dX5_guide_57 h (fun a2 hra2 h hLa2 hKa2 => ?_)
      exact g_iret C hQ dX5_guide_60 h
    have h := if_el2 h c1
    by_cases c2 : x2 = 1
    · have h := if_el1 h c2
      refine g_tswIn C (v := 1) (tgt := 61) dX5_guide_16 c2 (by decide) (by decide) rfl (by decide) ?_
      refine g_aload_n C (q := 0) dX5_guide_61 rfl rfl ?_
      refine g_ogetI C (ci := 0) (slot := 1) rfl (by decide) inlX0 (by decide) rfl q390 dX5_guide_62 h (fun a3 hra3 h hLa3 hKa3 => ?_)
      exact g_iret C hQ dX5_guide_65 h
    have h := if_el2 h c2
    by_cases c3 : x2 = 2
    · have h := if_el1 h c3
      refine g_tswIn C (v := 2) (tgt := 66) dX5_guide_16 c3 (by decide) (by decide) rfl (by decide) ?_
      refine g_aload_n C (q := 0) dX5_guide_66 rfl rfl ?_
      refine g_aload_n C (q := 1) dX5_guide_67 rfl rfl ?_
      refine g_ogetSR C (ci := 5) (slot := 0) rfl (by decide) inlX5 (by decide) rfl q12 dX5_guide_68 h (fun h hLa4 hKa4 => ?_)
      refine g_ogetI C (ci := 2) (slot := 6) rfl (by decide) inlX2 (by decide) rfl q156 dX5_guide_71 h (fun a5 hra5 h hLa5 hKa5 => ?_)
      refine g_callVI C (ci := 0) (As := [.int (zI S1 a5 6)]) (np := 1) (st := []) (r := r1) rfl (by decide) (fun b2 q hq => c_X0_isValidOn S1 b2 (zI S1 a5 6) q hq) gv_RX5_X0_isValidOn rfl rfl dsX0_isValidOn rfl ⟨Nat.le_of_ble_eq_true rfl, Nat.le_of_ble_eq_true rfl⟩ rfl (cat_sum (Nat.le_of_ble_eq_true rfl)) ⟨Nat.zero_le _, Nat.zero_le _⟩ dX5_guide_74 h (fun v1 S2 h => ?_)
      refine g_if_eq C (tgt := 84) dX5_guide_77 (by decide) h (fun h => ?_) (fun h => ?_)
      · refine g_iconst C (v := 0) dX5_guide_84 (by decide) ?_
        exact g_iret C hQ dX5_guide_85 h
      · refine g_iconst C (v := 1) dX5_guide_80 (by decide) ?_
        refine g_goto C (tgt := 85) dX5_guide_81 (by decide) ?_
        exact g_iret C hQ dX5_guide_85 h
    have h := if_el2 h c3
    by_cases c4 : x2 = 3
    · have h := if_el1 h c4
      refine g_tswIn C (v := 3) (tgt := 86) dX5_guide_16 c4 (by decide) (by decide) rfl (by decide) ?_
      refine g_aload_n C (q := 1) dX5_guide_86 rfl rfl ?_
      refine g_ogetSR C (ci := 5) (slot := 0) rfl (by decide) inlX5 (by decide) rfl q12 dX5_guide_87 h (fun h hLa6 hKa6 => ?_)
      refine g_iload_n C (q := 2) dX5_guide_90 rfl rfl ?_
      refine g_callVI C (ci := 2) (As := [.int x1]) (np := 1) (st := []) (r := (zR S1 x0 0)) rfl (by decide) (fun b3 q hq => c_X2_firstOpenTourOf S1 b3 x1 q hq) gv_RX5_X2_firstOpenTourOf rfl rfl dsX2_firstOpenTourOf rfl ⟨Nat.le_of_ble_eq_true rfl, Nat.le_of_ble_eq_true rfl⟩ rfl (cat_sum (Nat.le_of_ble_eq_true rfl)) ⟨Nat.zero_le _, Nat.zero_le _⟩ dX5_guide_91 h (fun v2 S3 h => ?_)
      exact g_iret C hQ dX5_guide_94 h
    have h := if_el2 h c4
    by_cases c5 : x2 = 4
    · have h := if_el1 h c5
      refine g_tswIn C (v := 4) (tgt := 95) dX5_guide_16 c5 (by decide) (by decide) rfl (by decide) ?_
      refine g_aload_n C (q := 0) dX5_guide_95 rfl rfl ?_
      refine g_ogetI C (ci := 0) (slot := 2) rfl (by decide) inlX0 (by decide) rfl q391 dX5_guide_96 h (fun a7 hra7 h hLa7 hKa7 => ?_)
      exact g_iret C hQ dX5_guide_99 h
    have h := if_el2 h c5
    by_cases c6 : x2 = 5
    · have h := if_el1 h c6
      refine g_tswIn C (v := 5) (tgt := 100) dX5_guide_16 c6 (by decide) (by decide) rfl (by decide) ?_
      refine g_aload_n C (q := 0) dX5_guide_100 rfl rfl ?_
      refine g_ogetI C (ci := 0) (slot := 3) rfl (by decide) inlX0 (by decide) rfl q392 dX5_guide_101 h (fun a8 hra8 h hLa8 hKa8 => ?_)
      exact g_iret C hQ dX5_guide_104 h
    have h := if_el2 h c6
    refine g_tswOut C (tgt := 105) dX5_guide_16 (sw_out (x := x2) 0 6 (by decide) (h := (lt_s (lt_s (lt_s (lt_s (lt_s (lt_s lt_0 c1) c2) c3) c4) c5) c6))) (by decide) ?_
    refine g_bipush C (v := (-2)) dX5_guide_105 (by decide) ?_
    exact g_iret C hQ dX5_guide_107 h
