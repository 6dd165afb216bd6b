abbrev rm_X0_certify : Room := { frames := 0, cells := 0, slots := 0, locals := 0 }
theorem dsX0_certify : yX0_certify.cls = RX0 ∧ yX0_certify.cls ≠ "java/lang/invoke/MethodHandle" ∧ yX0_certify.cls ≠ "java/lang/invoke/VarHandle" ∧ (parseMethodDescriptor yX0_certify.desc).map (fun d => d.parameters.length) = some 2 := by decide +kernel
def f_X0_certify (S : Hp) (x0 : Nat) (x1 : Int32) (x2 : Int32) : Option (Unit × Hp) :=
 ob S 0 (some x0) fun a1 => bnd (wI S a1 0 x1) fun S1 =>
 ob S1 0 (some x0) fun a2 => bnd (wI S1 a2 1 x2) fun S2 =>
 some ((), S2)
set_option maxHeartbeats 4000000 in
set_option maxRecDepth 100000 in
theorem c_X0_certify (S : Hp) (x0 : Nat) (x1 : Int32) (x2 : Int32) (o : Unit × Hp) (h : f_X0_certify S x0 x1 x2 = some o) : CtV yX0_certify cX0_certify 3 none rm_X0_certify 0 0 [va_rf (some x0), .int x1, .int x2] S o := by
  refine ct_V (own := RX0) (by decide) rfl (Nat.le_of_ble_eq_true rfl) (fun X C hn hQ => ?_)
  unfold f_X0_certify at h
  show GW X 0 0 S 0 [(0, va_rf (some x0)), (1, .int x1), (2, .int x2)] []
  refine g_aload_n C (q := 0) dX0_certify_0 rfl rfl ?_
  refine g_iload_n C (q := 1) dX0_certify_1 rfl rfl ?_
  refine g_oputI C (ci := 0) (slot := 0) tyX0 tyX0_ok nmX0 rfl (by decide) inlX0 (by decide) rfl q128 rfl dX0_certify_2 rfl rfl h (fun a1 S1 h => ?_)
  refine g_aload_n C (q := 0) dX0_certify_5 rfl rfl ?_
  refine g_iload_n C (q := 2) dX0_certify_6 rfl rfl ?_
  refine g_oputI C (ci := 0) (slot := 1) tyX0 tyX0_ok nmX0 rfl (by decide) inlX0 (by decide) rfl q129 rfl dX0_certify_7 rfl rfl h (fun a2 S2 h => ?_)
  exact g_vret C hQ dX0_certify_10 h

abbrev rm_X0_begin : Room := { frames := 1, cells := 0, slots := 0, locals := 22 }
theorem dsX0_begin : yX0_begin.cls = RX0 ∧ yX0_begin.cls ≠ "java/lang/invoke/MethodHandle" ∧ yX0_begin.cls ≠ "java/lang/invoke/VarHandle" ∧ (parseMethodDescriptor yX0_begin.desc).map (fun d => d.parameters.length) = some 2 := by decide +kernel
theorem gv_RX0_X0_certify : GoodIn wsL_law (wsV RX0 7 RX0 yX0_certify (.code yX0_certify cX0_certify 3 none :: wsL_law)) := good_V q132 q133 q134 q29 q135
def f_X0_begin (S : Hp) (x0 : Nat) (x1 : Int32) (x2 : Int32) : Option (Unit × Hp) :=
 ob S 0 (some x0) fun b1 => cl (f_X0_certify S b1 x1 x2) fun _ S1 =>
 ob S1 0 (some x0) fun a1 => bnd (wI S1 a1 2 (0 : Int32)) fun S2 =>
 ob S2 0 (some x0) fun a2 => bnd (wI S2 a2 3 (0 : Int32)) fun S3 =>
 some ((), S3)
set_option maxHeartbeats 4000000 in
set_option maxRecDepth 100000 in
theorem c_X0_begin (S : Hp) (x0 : Nat) (x1 : Int32) (x2 : Int32) (o : Unit × Hp) (h : f_X0_begin S x0 x1 x2 = some o) : CtV yX0_begin cX0_begin 3 none rm_X0_begin 0 0 [va_rf (some x0), .int x1, .int x2] S o := by
  refine ct_V (own := RX0) (by decide) rfl (Nat.le_of_ble_eq_true rfl) (fun X C hn hQ => ?_)
  unfold f_X0_begin at h
  show GW X 0 0 S 0 [(0, va_rf (some x0)), (1, .int x1), (2, .int x2)] []
  refine g_aload_n C (q := 0) dX0_begin_0 rfl rfl ?_
  refine g_iload_n C (q := 1) dX0_begin_1 rfl rfl ?_
  refine g_iload_n C (q := 2) dX0_begin_2 rfl rfl ?_
  refine g_callVV C (ci := 0) (As := [.int x1, .int x2]) (np := 2) (st := []) (r := (some x0)) rfl (by decide) (fun b1 q hq => c_X0_certify S b1 x1 x2 q hq) gv_RX0_X0_certify rfl rfl dsX0_certify rfl ⟨Nat.le_of_ble_eq_true rfl, Nat.le_of_ble_eq_true rfl⟩ rfl (cat_sum (Nat.le_of_ble_eq_true rfl)) ⟨Nat.zero_le _, Nat.zero_le _⟩ dX0_begin_3 h (fun S1 h => ?_)
  refine g_aload_n C (q := 0) dX0_begin_6 rfl rfl ?_
  refine g_iconst C (v := 0) dX0_begin_7 (by decide) ?_
  refine g_oputI C (ci := 0) (slot := 2) tyX0 tyX0_ok nmX0 rfl (by decide) inlX0 (by decide) rfl q130 rfl dX0_begin_8 rfl rfl h (fun a1 S2 h => ?_)
  refine g_aload_n C (q := 0) dX0_begin_11 rfl rfl ?_
  refine g_iconst C (v := 0) dX0_begin_12 (by decide) ?_
  refine g_oputI C (ci := 0) (slot := 3) tyX0 tyX0_ok nmX0 rfl (by decide) inlX0 (by decide) rfl q131 rfl dX0_begin_13 rfl rfl h (fun a2 S3 h => ?_)
  exact g_vret C hQ dX0_begin_16 h

abbrev rm_X0_copyFrom : Room := { frames := 1, cells := 0, slots := 0, locals := 22 }
theorem dsX0_copyFrom : yX0_copyFrom.cls = RX0 ∧ yX0_copyFrom.cls ≠ "java/lang/invoke/MethodHandle" ∧ yX0_copyFrom.cls ≠ "java/lang/invoke/VarHandle" ∧ (parseMethodDescriptor yX0_copyFrom.desc).map (fun d => d.parameters.length) = some 1 := by decide +kernel
def f_X0_copyFrom (S : Hp) (x0 : Nat) (x1 : Option Nat) : Option (Unit × Hp) :=
 ob S 0 x1 fun a1 =>
 ob S 0 (some x0) fun b1 => cl (f_X0_certify S b1 (zI S a1 0) (zI S a1 1)) fun _ S1 =>
 ob S1 0 x1 fun a2 =>
 ob S1 0 (some x0) fun a3 => bnd (wI S1 a3 2 (zI S1 a2 2)) fun S2 =>
 ob S2 0 x1 fun a4 =>
 ob S2 0 (some x0) fun a5 => bnd (wI S2 a5 3 (zI S2 a4 3)) fun S3 =>
 some ((), S3)
set_option maxHeartbeats 4000000 in
set_option maxRecDepth 100000 in
theorem c_X0_copyFrom (S : Hp) (x0 : Nat) (x1 : Option Nat) (o : Unit × Hp) (h : f_X0_copyFrom S x0 x1 = some o) : CtV yX0_copyFrom cX0_copyFrom 2 none rm_X0_copyFrom 0 0 [va_rf (some x0), va_rf x1] S o := by
  refine ct_V (own := RX0) (by decide) rfl (by simp [lg_sl, va_rf_cat, catI, catJ, catD]) (fun X C hn hQ => ?_)
  unfold f_X0_copyFrom at h
  rw [show lv_args 0 [va_rf (some x0), va_rf x1] = [(0, va_rf (some x0)), (1, va_rf x1)] by simp [lv_args, va_rf_cat, catI, catJ, catD]]
  refine g_aload_n C (q := 0) dX0_copyFrom_0 rfl rfl ?_
  refine g_aload_n C (q := 1) dX0_copyFrom_1 rfl rfl ?_
  refine g_ogetI C (ci := 0) (slot := 0) rfl (by decide) inlX0 (by decide) rfl q128 dX0_copyFrom_2 h (fun a1 hra1 h hLa1 hKa1 => ?_)
  refine g_aload_n C (q := 1) dX0_copyFrom_5 rfl rfl ?_
  refine g_getEI C (ci := 0) (slot := 1) rfl (by decide) inlX0 (by decide) rfl q129 dX0_copyFrom_6 hra1 hLa1 hKa1 ?_
  refine g_callVV C (ci := 0) (As := [.int (zI S a1 0), .int (zI S a1 1)]) (np := 2) (st := []) (r := (some x0)) rfl (by decide) (fun b1 q hq => c_X0_certify S b1 (zI S a1 0) (zI S a1 1) q hq) gv_RX0_X0_certify rfl rfl dsX0_certify rfl ⟨Nat.le_of_ble_eq_true rfl, Nat.le_of_ble_eq_true rfl⟩ rfl (cat_sum (Nat.le_of_ble_eq_true rfl)) ⟨Nat.zero_le _, Nat.zero_le _⟩ dX0_copyFrom_9 h (fun S1 h => ?_)
  refine g_aload_n C (q := 0) dX0_copyFrom_12 rfl rfl ?_
  refine g_aload_n C (q := 1) dX0_copyFrom_13 rfl rfl ?_
  refine g_ogetI C (ci := 0) (slot := 2) rfl (by decide) inlX0 (by decide) rfl q130 dX0_copyFrom_14 h (fun a2 hra2 h hLa2 hKa2 => ?_)
  refine g_oputI C (ci := 0) (slot := 2) tyX0 tyX0_ok nmX0 rfl (by decide) inlX0 (by decide) rfl q130 rfl dX0_copyFrom_17 rfl rfl h (fun a3 S2 h => ?_)
  refine g_aload_n C (q := 0) dX0_copyFrom_20 rfl rfl ?_
  refine g_aload_n C (q := 1) dX0_copyFrom_21 rfl rfl ?_
  refine g_ogetI C (ci := 0) (slot := 3) rfl (by decide) inlX0 (by decide) rfl q131 dX0_copyFrom_22 h (fun a4 hra4 h hLa4 hKa4 => ?_)
  refine g_oputI C (ci := 0) (slot := 3) tyX0 tyX0_ok nmX0 rfl (by decide) inlX0 (by decide) rfl q131 rfl dX0_copyFrom_25 rfl rfl h (fun a5 S3 h => ?_)
  exact g_vret C hQ dX0_copyFrom_28 h

abbrev rm_X0_haveLed : Room := { frames := 0, cells := 0, slots := 0, locals := 0 }
theorem dsX0_haveLed : yX0_haveLed.cls = RX0 ∧ yX0_haveLed.cls ≠ "java/lang/invoke/MethodHandle" ∧ yX0_haveLed.cls ≠ "java/lang/invoke/VarHandle" ∧ (parseMethodDescriptor yX0_haveLed.desc).map (fun d => d.parameters.length) = some 1 := by decide +kernel
def f_X0_haveLed (S : Hp) (x0 : Nat) (x1 : Int32) : Option (Unit × Hp) :=
 ob S 0 (some x0) fun _ =>
 ob S 0 (some x0) fun a2 => bnd (wI S a2 2 ((zI S x0 2) + 1)) fun S1 =>
 ob S1 0 (some x0) fun _ =>
 ob S1 0 (some x0) fun a4 => bnd (wI S1 a4 3 ((zI S1 x0 3) + x1)) fun S2 =>
 some ((), S2)
set_option maxHeartbeats 4000000 in
set_option maxRecDepth 100000 in
theorem c_X0_haveLed (S : Hp) (x0 : Nat) (x1 : Int32) (o : Unit × Hp) (h : f_X0_haveLed S x0 x1 = some o) : CtV yX0_haveLed cX0_haveLed 2 none rm_X0_haveLed 0 0 [va_rf (some x0), .int x1] S o := by
  refine ct_V (own := RX0) (by decide) rfl (Nat.le_of_ble_eq_true rfl) (fun X C hn hQ => ?_)
  unfold f_X0_haveLed at h
  show GW X 0 0 S 0 [(0, va_rf (some x0)), (1, .int x1)] []
  refine g_aload_n C (q := 0) dX0_haveLed_0 rfl rfl ?_
  refine g_dup C dX0_haveLed_1 (va_rf_cat _) ?_
  refine g_ogetSI C (ci := 0) (slot := 2) rfl (by decide) inlX0 (by decide) rfl q130 dX0_haveLed_2 h (fun h hLa1 hKa1 => ?_)
  refine g_iconst C (v := 1) dX0_haveLed_5 (by decide) ?_
  refine g_iadd C dX0_haveLed_6 ?_
  refine g_oputI C (ci := 0) (slot := 2) tyX0 tyX0_ok nmX0 rfl (by decide) inlX0 (by decide) rfl q130 rfl dX0_haveLed_7 rfl rfl h (fun a2 S1 h => ?_)
  refine g_aload_n C (q := 0) dX0_haveLed_10 rfl rfl ?_
  refine g_dup C dX0_haveLed_11 (va_rf_cat _) ?_
  refine g_ogetSI C (ci := 0) (slot := 3) rfl (by decide) inlX0 (by decide) rfl q131 dX0_haveLed_12 h (fun h hLa3 hKa3 => ?_)
  refine g_iload_n C (q := 1) dX0_haveLed_15 rfl rfl ?_
  refine g_iadd C dX0_haveLed_16 ?_
  refine g_oputI C (ci := 0) (slot := 3) tyX0 tyX0_ok nmX0 rfl (by decide) inlX0 (by decide) rfl q131 rfl dX0_haveLed_17 rfl rfl h (fun a4 S2 h => ?_)
  exact g_vret C hQ dX0_haveLed_20 h

abbrev rm_X0_isValidOn : Room := { frames := 0, cells := 0, slots := 0, locals := 0 }
theorem dsX0_isValidOn : yX0_isValidOn.cls = RX0 ∧ yX0_isValidOn.cls ≠ "java/lang/invoke/MethodHandle" ∧ yX0_isValidOn.cls ≠ "java/lang/invoke/VarHandle" ∧ (parseMethodDescriptor yX0_isValidOn.desc).map (fun d => d.parameters.length) = some 1 := by decide +kernel
def f_X0_isValidOn (S : Hp) (x0 : Nat) (x1 : Int32) : Option (Int32 × Hp) :=
 ob S 0 (some x0) fun _ =>
 if (zI S x0 1) < x1 then
 some ((0 : Int32), S)
 else
 some ((1 : Int32), S)
set_option maxHeartbeats 4000000 in
set_option maxRecDepth 100000 in
theorem c_X0_isValidOn (S : Hp) (x0 : Nat) (x1 : Int32) (o : Int32 × Hp) (h : f_X0_isValidOn S x0 x1 = some o) : CtI yX0_isValidOn cX0_isValidOn 2 (some .boolean) rm_X0_isValidOn 0 0 [va_rf (some x0), .int x1] S o := by
  refine ct_I (own := RX0) (by decide) rfl (Nat.le_of_ble_eq_true rfl) (fun X C hn hQ => ?_)
  unfold f_X0_isValidOn at h
  show GW X 0 0 S 0 [(0, va_rf (some x0)), (1, .int x1)] []
  refine g_iload_n C (q := 1) dX0_isValidOn_0 rfl rfl ?_
  refine g_aload_n C (q := 0) dX0_isValidOn_1 rfl rfl ?_
  refine g_ogetSI C (ci := 0) (slot := 1) rfl (by decide) inlX0 (by decide) rfl q129 dX0_isValidOn_2 h (fun h hLa1 hKa1 => ?_)
  refine g_icmp_gt C (tgt := 12) dX0_isValidOn_5 (by decide) h (fun h => ?_) (fun h => ?_)
  · refine g_iconst C (v := 0) dX0_isValidOn_12 (by decide) ?_
    exact g_zret C hQ (by decide) dX0_isValidOn_13 h
  · refine g_iconst C (v := 1) dX0_isValidOn_8 (by decide) ?_
    refine g_goto C (tgt := 13) dX0_isValidOn_9 (by decide) ?_
    exact g_zret C hQ (by decide) dX0_isValidOn_13 h

abbrev rm_X4_copyFrom : Room := { frames := 1, cells := 0, slots := 0, locals := 26 }
theorem dsX4_copyFrom : yX4_copyFrom.cls = RX4 ∧ yX4_copyFrom.cls ≠ "java/lang/invoke/MethodHandle" ∧ yX4_copyFrom.cls ≠ "java/lang/invoke/VarHandle" ∧ (parseMethodDescriptor yX4_copyFrom.desc).map (fun d => d.parameters.length) = some 1 := by decide +kernel
def f_X4_copyFrom (S : Hp) (x0 : Nat) (x1 : Option Nat) : Option (Unit × Hp) :=
 ob S 4 x1 fun a1 =>
 ob S 4 (some x0) fun _ =>
 cpy S 9 (zR S a1 0) (zR S x0 0) 4 fun a3 a4 => bnd (rI S a4 (va_cpy (zI S a3) (zI S a4) 0 0 4)) fun S1 =>
 ob S1 4 x1 fun a5 =>
 ob S1 4 (some x0) fun a6 => bnd (wI S1 a6 1 (zI S1 a5 1)) fun S2 =>
 ob S2 4 x1 fun a7 =>
 ob S2 4 (some x0) fun a8 => bnd (wD S2 a8 2 (zD S2 a7 2)) fun S3 =>
 ob S3 4 x1 fun a9 =>
 ob S3 4 (some x0) fun a10 => bnd (wI S3 a10 3 (zI S3 a9 3)) fun S4 =>
 ob S4 4 x1 fun a11 =>
 ob S4 4 (some x0) fun a12 => bnd (wI S4 a12 4 (zI S4 a11 4)) fun S5 =>
 ob S5 4 x1 fun a13 =>
 ob S5 4 (some x0) fun a14 => bnd (wI S5 a14 5 (zI S5 a13 5)) fun S6 =>
 ob S6 4 x1 fun a15 =>
 ob S6 4 (some x0) fun a16 => bnd (wI S6 a16 6 (zI S6 a15 6)) fun S7 =>
 ob S7 4 x1 fun a17 =>
 ob S7 4 (some x0) fun a18 => bnd (wI S7 a18 7 (zI S7 a17 7)) fun S8 =>
 ob S8 4 x1 fun a19 =>
 ob S8 4 (some x0) fun a20 => bnd (wI S8 a20 8 (zI S8 a19 8)) fun S9 =>
 ob S9 4 x1 fun a21 =>
 ob S9 4 (some x0) fun a22 => bnd (wI S9 a22 9 (zI S9 a21 9)) fun S10 =>
 ob S10 4 x1 fun a23 =>
 ob S10 4 (some x0) fun a24 => bnd (wI S10 a24 10 (zI S10 a23 10)) fun S11 =>
 some ((), S11)
set_option maxHeartbeats 4000000 in
set_option maxRecDepth 100000 in
theorem c_X4_copyFrom (S : Hp) (x0 : Nat) (x1 : Option Nat) (o : Unit × Hp) (h : f_X4_copyFrom S x0 x1 = some o) : CtV yX4_copyFrom cX4_copyFrom 2 none rm_X4_copyFrom 0 0 [va_rf (some x0), va_rf x1] S o := by
  refine ct_V (own := RX4) (by decide) rfl (by simp [lg_sl, va_rf_cat, catI, catJ, catD]) (fun X C hn hQ => ?_)
  unfold f_X4_copyFrom at h
  rw [show lv_args 0 [va_rf (some x0), va_rf x1] = [(0, va_rf (some x0)), (1, va_rf x1)] by simp [lv_args, va_rf_cat, catI, catJ, catD]]
  refine g_aload_n C (q := 1) dX4_copyFrom_0 rfl rfl ?_
  refine g_ogetR C (ci := 4) (slot := 0) rfl (by decide) inlX4 (by decide) rfl q44 dX4_copyFrom_1 h (fun a1 hra1 h hLa1 hKa1 => ?_)
  refine g_iconst C (v := 0) dX4_copyFrom_4 (by decide) ?_
  refine g_aload_n C (q := 0) dX4_copyFrom_5 rfl rfl ?_
  refine g_ogetSR C (ci := 4) (slot := 0) rfl (by decide) inlX4 (by decide) rfl q44 dX4_copyFrom_6 h (fun h hLa2 hKa2 => ?_)
  refine g_iconst C (v := 0) dX4_copyFrom_9 (by decide) ?_
  refine g_iconst C (v := 4) dX4_copyFrom_10 (by decide) ?_
  refine g_copyi C (m := 4) rfl rfl (by decide) (by decide) q140 q117 q118 q119 (by decide) (by decide) dX4_copyFrom_11 h (fun a3 a4 S1 h => ?_)
  refine g_aload_n C (q := 0) dX4_copyFrom_14 rfl rfl ?_
  refine g_aload_n C (q := 1) dX4_copyFrom_15 rfl rfl ?_
  refine g_ogetI C (ci := 4) (slot := 1) rfl (by decide) inlX4 (by decide) rfl q141 dX4_copyFrom_16 h (fun a5 hra5 h hLa5 hKa5 => ?_)
  refine g_oputI C (ci := 4) (slot := 1) tyX4 tyX4_ok nmX4 rfl (by decide) inlX4 (by decide) rfl q141 rfl dX4_copyFrom_19 rfl rfl h (fun a6 S2 h => ?_)
  refine g_aload_n C (q := 0) dX4_copyFrom_22 rfl rfl ?_
  refine g_aload_n C (q := 1) dX4_copyFrom_23 rfl rfl ?_
  refine g_ogetD C (ci := 4) (slot := 2) rfl (by decide) inlX4 (by decide) rfl q142 dX4_copyFrom_24 h (fun a7 hra7 h hLa7 hKa7 => ?_)
  refine g_oputD C (ci := 4) (slot := 2) tyX4 tyX4_ok nmX4 rfl (by decide) inlX4 (by decide) rfl q142 rfl dX4_copyFrom_27 rfl rfl h (fun a8 S3 h => ?_)
  refine g_aload_n C (q := 0) dX4_copyFrom_30 rfl rfl ?_
  refine g_aload_n C (q := 1) dX4_copyFrom_31 rfl rfl ?_
  refine g_ogetI C (ci := 4) (slot := 3) rfl (by decide) inlX4 (by decide) rfl q143 dX4_copyFrom_32 h (fun a9 hra9 h hLa9 hKa9 => ?_)
  refine g_oputI C (ci := 4) (slot := 3) tyX4 tyX4_ok nmX4 rfl (by decide) inlX4 (by decide) rfl q143 rfl dX4_copyFrom_35 rfl rfl h (fun a10 S4 h => ?_)
  refine g_aload_n C (q := 0) dX4_copyFrom_38 rfl rfl ?_
  refine g_aload_n C (q := 1) dX4_copyFrom_39 rfl rfl ?_
  refine g_ogetI C (ci := 4) (slot := 4) rfl (by decide) inlX4 (by decide) rfl q144 dX4_copyFrom_40 h (fun a11 hra11 h hLa11 hKa11 => ?_)
  refine g_oputI C (ci := 4) (slot := 4) tyX4 tyX4_ok nmX4 rfl (by decide) inlX4 (by decide) rfl q144 rfl dX4_copyFrom_43 rfl rfl h (fun a12 S5 h => ?_)
  refine g_aload_n C (q := 0) dX4_copyFrom_46 rfl rfl ?_
  refine g_aload_n C (q := 1) dX4_copyFrom_47 rfl rfl ?_
  refine g_ogetI C (ci := 4) (slot := 5) rfl (by decide) inlX4 (by decide) rfl q145 dX4_copyFrom_48 h (fun a13 hra13 h hLa13 hKa13 => ?_)
  refine g_oputI C (ci := 4) (slot := 5) tyX4 tyX4_ok nmX4 rfl (by decide) inlX4 (by decide) rfl q145 rfl dX4_copyFrom_51 rfl rfl h (fun a14 S6 h => ?_)
  refine g_aload_n C (q := 0) dX4_copyFrom_54 rfl rfl ?_
  refine g_aload_n C (q := 1) dX4_copyFrom_55 rfl rfl ?_
  refine g_ogetI C (ci := 4) (slot := 6) rfl (by decide) inlX4 (by decide) rfl q146 dX4_copyFrom_56 h (fun a15 hra15 h hLa15 hKa15 => ?_)
  refine g_oputI C (ci := 4) (slot := 6) tyX4 tyX4_ok nmX4 rfl (by decide) inlX4 (by decide) rfl q146 rfl dX4_copyFrom_59 rfl rfl h (fun a16 S7 h => ?_)
  refine g_aload_n C (q := 0) dX4_copyFrom_62 rfl rfl ?_
  refine g_aload_n C (q := 1) dX4_copyFrom_63 rfl rfl ?_
  refine g_ogetI C (ci := 4) (slot := 7) rfl (by decide) inlX4 (by decide) rfl q147 dX4_copyFrom_64 h (fun a17 hra17 h hLa17 hKa17 => ?_)
  refine g_oputI C (ci := 4) (slot := 7) tyX4 tyX4_ok nmX4 rfl (by decide) inlX4 (by decide) rfl q147 rfl dX4_copyFrom_67 rfl rfl h (fun a18 S8 h => ?_)
  refine g_aload_n C (q := 0) dX4_copyFrom_70 rfl rfl ?_
  refine g_aload_n C (q := 1) dX4_copyFrom_71 rfl rfl ?_
  refine g_ogetI C (ci := 4) (slot := 8) rfl (by decide) inlX4 (by decide) rfl q148 dX4_copyFrom_72 h (fun a19 hra19 h hLa19 hKa19 => ?_)
  refine g_oputI C (ci := 4) (slot := 8) tyX4 tyX4_ok nmX4 rfl (by decide) inlX4 (by decide) rfl q148 rfl dX4_copyFrom_75 rfl rfl h (fun a20 S9 h => ?_)
  refine g_aload_n C (q := 0) dX4_copyFrom_78 rfl rfl ?_
  refine g_aload_n C (q := 1) dX4_copyFrom_79 rfl rfl ?_
  refine g_ogetI C (ci := 4) (slot := 9) rfl (by decide) inlX4 (by decide) rfl q149 dX4_copyFrom_80 h (fun a21 hra21 h hLa21 hKa21 => ?_)
  refine g_oputI C (ci := 4) (slot := 9) tyX4 tyX4_ok nmX4 rfl (by decide) inlX4 (by decide) rfl q149 rfl dX4_copyFrom_83 rfl rfl h (fun a22 S10 h => ?_)
  refine g_aload_n C (q := 0) dX4_copyFrom_86 rfl rfl ?_
  refine g_aload_n C (q := 1) dX4_copyFrom_87 rfl rfl ?_
  refine g_ogetI C (ci := 4) (slot := 10) rfl (by decide) inlX4 (by decide) rfl q150 dX4_copyFrom_88 h (fun a23 hra23 h hLa23 hKa23 => ?_)
  refine g_oputI C (ci := 4) (slot := 10) tyX4 tyX4_ok nmX4 rfl (by decide) inlX4 (by decide) rfl q150 rfl dX4_copyFrom_91 rfl rfl h (fun a24 S11 h => ?_)
  exact g_vret C hQ dX4_copyFrom_94 h

abbrev rm_X2_copyFrom : Room := { frames := 2, cells := 0, slots := 0, locals := 47 }
theorem dsX2_copyFrom : yX2_copyFrom.cls = RX2 ∧ yX2_copyFrom.cls ≠ "java/lang/invoke/MethodHandle" ∧ yX2_copyFrom.cls ≠ "java/lang/invoke/VarHandle" ∧ (parseMethodDescriptor yX2_copyFrom.desc).map (fun d => d.parameters.length) = some 1 := by decide +kernel
theorem gv_RX2_X0_copyFrom : GoodIn wsL_law (wsV RX2 33 RX0 yX0_copyFrom (.code yX0_copyFrom cX0_copyFrom 2 none :: wsL_law)) := good_V q124 q125 q126 q29 q127
theorem gv_RX2_X4_copyFrom : GoodIn wsL_law (wsV RX2 46 RX4 yX4_copyFrom (.code yX4_copyFrom cX4_copyFrom 2 none :: wsL_law)) := good_V q136 q137 q138 q35 q139
def f_X2_copyFrom_L48_b (rec : Hp → Nat → Option Nat → Int32 → Option (Unit × Hp)) (S : Hp) (x0 : Nat) (y1 : Option Nat) (y2 : Int32) : Option (Unit × Hp) :=
 ob S 2 y1 fun a1 =>
 if (zI S a1 5) ≤ y2 then
 ob S 2 (some x0) fun a2 => bnd (wI S a2 3 (zI S a1 3)) fun S1 =>
 ob S1 2 y1 fun a3 =>
 ob S1 2 (some x0) fun a4 => bnd (wI S1 a4 4 (zI S1 a3 4)) fun S2 =>
 ob S2 2 y1 fun a5 =>
 ob S2 2 (some x0) fun a6 => bnd (wI S2 a6 5 (zI S2 a5 5)) fun S3 =>
 ob S3 2 y1 fun a7 =>
 ob S3 2 (some x0) fun a8 => bnd (wI S3 a8 6 (zI S3 a7 6)) fun S4 =>
 ob S4 2 y1 fun a9 =>
 ob S4 2 (some x0) fun a10 => bnd (wJ S4 a10 7 (zJ S4 a9 7)) fun S5 =>
 ob S5 2 y1 fun a11 =>
 ob S5 2 (some x0) fun a12 => bnd (wD S5 a12 8 (zD S5 a11 8)) fun S6 =>
 ob S6 2 y1 fun a13 =>
 ob S6 2 (some x0) fun a14 => bnd (wI S6 a14 9 (zI S6 a13 9)) fun S7 =>
 some ((), S7)
 else
 ob S 2 (some x0) fun _ =>
 ar S 12 (zR S x0 2) y2 fun a16 i1 =>
 ar S 12 (zR S a1 2) y2 fun a17 i2 =>
 ob S 4 (zR S a16 i1) fun b1 => cl (f_X4_copyFrom S b1 (zR S a17 i2)) fun _ S8 =>
 bnd (y2 + 1) fun v1 =>
 rec S8 x0 y1 v1
def f_X2_copyFrom_L48 : Nat → Hp → Nat → Option Nat → Int32 → Option (Unit × Hp)
  | 0 => fun _ _ _ _ => none
  | n + 1 => f_X2_copyFrom_L48_b (f_X2_copyFrom_L48 n)

def f_X2_copyFrom_L2_b (rec : Hp → Nat → Option Nat → Int32 → Option (Unit × Hp)) (S : Hp) (x0 : Nat) (y1 : Option Nat) (y2 : Int32) : Option (Unit × Hp) :=
 ob S 2 y1 fun a1 =>
 if (zI S a1 3) ≤ y2 then
 ob S 2 (some x0) fun _ =>
 cpy S 8 (zR S a1 1) (zR S x0 1) 6 fun a3 a4 => bnd (rD S a4 (va_cpy (zD S a3) (zD S a4) 0 0 6)) fun S1 =>
 f_X2_copyFrom_L48 1000 S1 x0 y1 (0 : Int32)
 else
 ob S 2 (some x0) fun _ =>
 ar S 10 (zR S x0 0) y2 fun a6 i1 =>
 ar S 10 (zR S a1 0) y2 fun a7 i2 =>
 ob S 0 (zR S a6 i1) fun b1 => cl (f_X0_copyFrom S b1 (zR S a7 i2)) fun _ S2 =>
 bnd (y2 + 1) fun v1 =>
 rec S2 x0 y1 v1
def f_X2_copyFrom_L2 : Nat → Hp → Nat → Option Nat → Int32 → Option (Unit × Hp)
  | 0 => fun _ _ _ _ => none
  | n + 1 => f_X2_copyFrom_L2_b (f_X2_copyFrom_L2 n)
def f_X2_copyFrom (S : Hp) (x0 : Nat) (x1 : Option Nat) : Option (Unit × Hp) :=
 f_X2_copyFrom_L2 1000 S x0 x1 (0 : Int32)
set_option maxHeartbeats 4000000 in
set_option maxRecDepth 100000 in
theorem w_X2_copyFrom_L48 {X : Cx} (C : CxOK X cX2_copyFrom RX2 rm_X2_copyFrom) (hn : xn X = 3) {S0 : Hp} {o : Unit × Hp} (hQ : QV X none S0 0 0 o) : ∀ (fuel : Nat) (S : Hp) (x0 : Nat) (y1 : Option Nat) (y2 : Int32), f_X2_copyFrom_L48 fuel S x0 y1 y2 = some o → GW X 0 0 S 48 [(0, va_rf (some x0)), (1, va_rf y1), (2, .int y2)] [] := by
  have hn2 : 2 < xn X := by rw [hn]; decide
  intro fuel
  induction fuel with
  | zero => intro S x0 y1 y2 h; cases (show none = some o from h)
  | succ fuel ih =>
    intro S x0 y1 y2 h
    have h : f_X2_copyFrom_L48_b (f_X2_copyFrom_L48 fuel) S x0 y1 y2 = some o := h
    unfold f_X2_copyFrom_L48_b at h
    refine g_iload_n C (q := 2) dX2_copyFrom_48 rfl rfl ?_
    refine g_aload_n C (q := 1) dX2_copyFrom_49 rfl rfl ?_
    refine g_ogetI C (ci := 2) (slot := 5) rfl (by decide) inlX2 (by decide) rfl q80 dX2_copyFrom_50 h (fun a1 hra1 h hLa1 hKa1 => ?_)
    refine g_icmp_ge C (tgt := 77) dX2_copyFrom_53 (by decide) h (fun h => ?_) (fun h => ?_)
    · refine g_aload_n C (q := 0) dX2_copyFrom_77 rfl rfl ?_
      refine g_aload_n C (q := 1) dX2_copyFrom_78 rfl rfl ?_
      refine g_getEI C (ci := 2) (slot := 3) rfl (by decide) inlX2 (by decide) rfl q115 dX2_copyFrom_79 hra1 hLa1 hKa1 ?_
      refine g_oputI C (ci := 2) (slot := 3) tyX2 tyX2_ok nmX2 rfl (by decide) inlX2 (by decide) rfl q115 rfl dX2_copyFrom_82 rfl rfl h (fun a2 S1 h => ?_)
      refine g_aload_n C (q := 0) dX2_copyFrom_85 rfl rfl ?_
      refine g_aload_n C (q := 1) dX2_copyFrom_86 rfl rfl ?_
      refine g_ogetI C (ci := 2) (slot := 4) rfl (by decide) inlX2 (by decide) rfl q67 dX2_copyFrom_87 h (fun a3 hra3 h hLa3 hKa3 => ?_)
      refine g_oputI C (ci := 2) (slot := 4) tyX2 tyX2_ok nmX2 rfl (by decide) inlX2 (by decide) rfl q67 rfl dX2_copyFrom_90 rfl rfl h (fun a4 S2 h => ?_)
      refine g_aload_n C (q := 0) dX2_copyFrom_93 rfl rfl ?_
      refine g_aload_n C (q := 1) dX2_copyFrom_94 rfl rfl ?_
      refine g_ogetI C (ci := 2) (slot := 5) rfl (by decide) inlX2 (by decide) rfl q80 dX2_copyFrom_95 h (fun a5 hra5 h hLa5 hKa5 => ?_)
      refine g_oputI C (ci := 2) (slot := 5) tyX2 tyX2_ok nmX2 rfl (by decide) inlX2 (by decide) rfl q80 rfl dX2_copyFrom_98 rfl rfl h (fun a6 S3 h => ?_)
      refine g_aload_n C (q := 0) dX2_copyFrom_101 rfl rfl ?_
      refine g_aload_n C (q := 1) dX2_copyFrom_102 rfl rfl ?_
      refine g_ogetI C (ci := 2) (slot := 6) rfl (by decide) inlX2 (by decide) rfl q120 dX2_copyFrom_103 h (fun a7 hra7 h hLa7 hKa7 => ?_)
      refine g_oputI C (ci := 2) (slot := 6) tyX2 tyX2_ok nmX2 rfl (by decide) inlX2 (by decide) rfl q120 rfl dX2_copyFrom_106 rfl rfl h (fun a8 S4 h => ?_)
      refine g_aload_n C (q := 0) dX2_copyFrom_109 rfl rfl ?_
      refine g_aload_n C (q := 1) dX2_copyFrom_110 rfl rfl ?_
      refine g_ogetJ C (ci := 2) (slot := 7) rfl (by decide) inlX2 (by decide) rfl q121 dX2_copyFrom_111 h (fun a9 hra9 h hLa9 hKa9 => ?_)
      refine g_oputJ C (ci := 2) (slot := 7) tyX2 tyX2_ok nmX2 rfl (by decide) inlX2 (by decide) rfl q121 rfl dX2_copyFrom_114 rfl rfl h (fun a10 S5 h => ?_)
      refine g_aload_n C (q := 0) dX2_copyFrom_117 rfl rfl ?_
      refine g_aload_n C (q := 1) dX2_copyFrom_118 rfl rfl ?_
      refine g_ogetD C (ci := 2) (slot := 8) rfl (by decide) inlX2 (by decide) rfl q122 dX2_copyFrom_119 h (fun a11 hra11 h hLa11 hKa11 => ?_)
      refine g_oputD C (ci := 2) (slot := 8) tyX2 tyX2_ok nmX2 rfl (by decide) inlX2 (by decide) rfl q122 rfl dX2_copyFrom_122 rfl rfl h (fun a12 S6 h => ?_)
      refine g_aload_n C (q := 0) dX2_copyFrom_125 rfl rfl ?_
      refine g_aload_n C (q := 1) dX2_copyFrom_126 rfl rfl ?_
      refine g_ogetI C (ci := 2) (slot := 9) rfl (by decide) inlX2 (by decide) rfl q123 dX2_copyFrom_127 h (fun a13 hra13 h hLa13 hKa13 => ?_)
      refine g_oputI C (ci := 2) (slot := 9) tyX2 tyX2_ok nmX2 rfl (by decide) inlX2 (by decide) rfl q123 rfl dX2_copyFrom_130 rfl rfl h (fun a14 S7 h => ?_)
      exact g_vret C hQ dX2_copyFrom_133 h
    · refine g_aload_n C (q := 0) dX2_copyFrom_56 rfl rfl ?_
      refine g_ogetSR C (ci := 2) (slot := 2) rfl (by decide) inlX2 (by decide) rfl q33 dX2_copyFrom_57 h (fun h hLa15 hKa15 => ?_)
      refine g_iload_n C (q := 2) dX2_copyFrom_60 rfl rfl ?_
      refine g_aald12 C dX2_copyFrom_61 h (fun a16 i1 h => ?_)
      refine g_aload_n C (q := 1) dX2_copyFrom_62 rfl rfl ?_
      refine g_getER C (ci := 2) (slot := 2) rfl (by decide) inlX2 (by decide) rfl q33 dX2_copyFrom_63 hra1 hLa1 hKa1 ?_
      refine g_iload_n C (q := 2) dX2_copyFrom_66 rfl rfl ?_
      refine g_aald12 C dX2_copyFrom_67 h (fun a17 i2 h => ?_)
      refine g_callVV C (ci := 4) (As := [va_rf (zR S a17 i2)]) (np := 1) (st := []) (r := (zR S a16 i1)) rfl (by decide) (fun b1 q hq => c_X4_copyFrom S b1 (zR S a17 i2) q hq) gv_RX2_X4_copyFrom rfl rfl dsX4_copyFrom rfl ⟨Nat.le_of_ble_eq_true rfl, Nat.le_of_ble_eq_true rfl⟩ rfl (cat_sum (Nat.le_of_ble_eq_true rfl)) ⟨Nat.zero_le _, Nat.zero_le _⟩ dX2_copyFrom_68 h (fun S8 h => ?_)
      obtain ⟨v1, ev1, h⟩ := bnd_ex h
      refine g_iinc C (i := 2) (lv' := [(2, .int v1), (0, va_rf (some x0)), (1, va_rf y1)]) (q := 2) v1 dX2_copyFrom_71 rfl ev1 hn2 (by simp [va_rf_cat, catI, catJ, catD]) ?_
      refine g_goto C (tgt := 48) dX2_copyFrom_74 (by decide) ?_
      refine g_sub (lv' := [(0, va_rf (some x0)), (1, va_rf y1), (2, .int v1)]) [1, 2, 0] rfl ?_
      exact ih S8 x0 y1 v1 h

set_option maxHeartbeats 4000000 in
set_option maxRecDepth 100000 in
theorem w_X2_copyFrom_L2 {X : Cx} (C : CxOK X cX2_copyFrom RX2 rm_X2_copyFrom) (hn : xn X = 3) {S0 : Hp} {o : Unit × Hp} (hQ : QV X none S0 0 0 o) : ∀ (fuel : Nat) (S : Hp) (x0 : Nat) (y1 : Option Nat) (y2 : Int32), f_X2_copyFrom_L2 fuel S x0 y1 y2 = some o → GW X 0 0 S 2 [(0, va_rf (some x0)), (1, va_rf y1), (2, .int y2)] [] := by
  have hn2 : 2 < xn X := by rw [hn]; decide
  intro fuel
  induction fuel with
  | zero => intro S x0 y1 y2 h; cases (show none = some o from h)
  | succ fuel ih =>
    intro S x0 y1 y2 h
    have h : f_X2_copyFrom_L2_b (f_X2_copyFrom_L2 fuel) S x0 y1 y2 = some o := h
    unfold f_X2_copyFrom_L2_b at h
    refine g_iload_n C (q := 2) dX2_copyFrom_2 rfl rfl ?_
    refine g_aload_n C (q := 1) dX2_copyFrom_3 rfl rfl ?_
    refine g_ogetI C (ci := 2) (slot := 3) rfl (by decide) inlX2 (by decide) rfl q115 dX2_copyFrom_4 h (fun a1 hra1 h hLa1 hKa1 => ?_)
    refine g_icmp_ge C (tgt := 31) dX2_copyFrom_7 (by decide) h (fun h => ?_) (fun h => ?_)
    · refine g_aload_n C (q := 1) dX2_copyFrom_31 rfl rfl ?_
      refine g_getER C (ci := 2) (slot := 1) rfl (by decide) inlX2 (by decide) rfl q31 dX2_copyFrom_32 hra1 hLa1 hKa1 ?_
      refine g_iconst C (v := 0) dX2_copyFrom_35 (by decide) ?_
      refine g_aload_n C (q := 0) dX2_copyFrom_36 rfl rfl ?_
      refine g_ogetSR C (ci := 2) (slot := 1) rfl (by decide) inlX2 (by decide) rfl q31 dX2_copyFrom_37 h (fun h hLa2 hKa2 => ?_)
      refine g_iconst C (v := 0) dX2_copyFrom_40 (by decide) ?_
      refine g_bipush C (v := 6) dX2_copyFrom_41 (by decide) ?_
      refine g_copyd C (m := 6) rfl rfl (by decide) (by decide) q116 q117 q118 q119 (by decide) (by decide) dX2_copyFrom_43 h (fun a3 a4 S1 h => ?_)
      refine g_iconst C (v := 0) dX2_copyFrom_46 (by decide) ?_
      refine g_istore_n C (i := 2) (lv' := [(2, .int 0), (0, va_rf (some x0)), (1, va_rf y1)]) dX2_copyFrom_47 rfl hn2 (by simp [va_rf_cat, catI, catJ, catD]) ?_
      refine g_sub (lv' := [(0, va_rf (some x0)), (1, va_rf y1), (2, .int 0)]) [1, 2, 0] rfl ?_
      exact w_X2_copyFrom_L48 C hn hQ 1000 S1 x0 y1 (0 : Int32) h
    · refine g_aload_n C (q := 0) dX2_copyFrom_10 rfl rfl ?_
      refine g_ogetSR C (ci := 2) (slot := 0) rfl (by decide) inlX2 (by decide) rfl q27 dX2_copyFrom_11 h (fun h hLa5 hKa5 => ?_)
      refine g_iload_n C (q := 2) dX2_copyFrom_14 rfl rfl ?_
      refine g_aald10 C dX2_copyFrom_15 h (fun a6 i1 h => ?_)
      refine g_aload_n C (q := 1) dX2_copyFrom_16 rfl rfl ?_
      refine g_getER C (ci := 2) (slot := 0) rfl (by decide) inlX2 (by decide) rfl q27 dX2_copyFrom_17 hra1 hLa1 hKa1 ?_
      refine g_iload_n C (q := 2) dX2_copyFrom_20 rfl rfl ?_
      refine g_aald10 C dX2_copyFrom_21 h (fun a7 i2 h => ?_)
      refine g_callVV C (ci := 0) (As := [va_rf (zR S a7 i2)]) (np := 1) (st := []) (r := (zR S a6 i1)) rfl (by decide) (fun b1 q hq => c_X0_copyFrom S b1 (zR S a7 i2) q hq) gv_RX2_X0_copyFrom rfl rfl dsX0_copyFrom rfl ⟨Nat.le_of_ble_eq_true rfl, Nat.le_of_ble_eq_true rfl⟩ rfl (cat_sum (Nat.le_of_ble_eq_true rfl)) ⟨Nat.zero_le _, Nat.zero_le _⟩ dX2_copyFrom_22 h (fun S2 h => ?_)
      obtain ⟨v1, ev1, h⟩ := bnd_ex h
      refine g_iinc C (i := 2) (lv' := [(2, .int v1), (0, va_rf (some x0)), (1, va_rf y1)]) (q := 2) v1 dX2_copyFrom_25 rfl ev1 hn2 (by simp [va_rf_cat, catI, catJ, catD]) ?_
      refine g_goto C (tgt := 2) dX2_copyFrom_28 (by decide) ?_
      refine g_sub (lv' := [(0, va_rf (some x0)), (1, va_rf y1), (2, .int v1)]) [1, 2, 0] rfl ?_
      exact ih S2 x0 y1 v1 h
set_option maxHeartbeats 4000000 in
set_option maxRecDepth 100000 in
theorem c_X2_copyFrom (S : Hp) (x0 : Nat) (x1 : Option Nat) (o : Unit × Hp) (h : f_X2_copyFrom S x0 x1 = some o) : CtV yX2_copyFrom cX2_copyFrom 3 none rm_X2_copyFrom 0 0 [va_rf (some x0), va_rf x1] S o := by
  refine ct_V (own := RX2) (by decide) rfl (by simp [lg_sl, va_rf_cat, catI, catJ, catD]) (fun X C hn hQ => ?_)
  have hn2 : 2 < xn X := by rw [hn]; decide
  unfold f_X2_copyFrom at h
  rw [show lv_args 0 [va_rf (some x0), va_rf x1] = [(0, va_rf (some x0)), (1, va_rf x1)] by simp [lv_args, va_rf_cat, catI, catJ, catD]]
  refine g_iconst C (v := 0) dX2_copyFrom_0 (by decide) ?_
  refine g_istore_n C (i := 2) (lv' := [(2, .int 0), (0, va_rf (some x0)), (1, va_rf x1)]) dX2_copyFrom_1 rfl hn2 (by simp [va_rf_cat, catI, catJ, catD]) ?_
  refine g_sub (lv' := [(0, va_rf (some x0)), (1, va_rf x1), (2, .int 0)]) [1, 2, 0] rfl ?_
  exact w_X2_copyFrom_L2 C hn hQ 1000 S x0 x1 (0 : Int32) h

abbrev rm_X1_record : Room := { frames := 3, cells := 0, slots := 0, locals := 69 }
theorem dsX1_record : yX1_record.cls = RX1 ∧ yX1_record.cls ≠ "java/lang/invoke/MethodHandle" ∧ yX1_record.cls ≠ "java/lang/invoke/VarHandle" ∧ (parseMethodDescriptor yX1_record.desc).map (fun d => d.parameters.length) = some 1 := by decide +kernel
theorem gv_RX1_X2_copyFrom : GoodIn wsL_law (wsV RX1 25 RX2 yX2_copyFrom (.code yX2_copyFrom cX2_copyFrom 3 none :: wsL_law)) := good_V q111 q112 q113 q11 q114
def f_X1_record (S : Hp) (x0 : Nat) (x1 : Option Nat) : Option (Unit × Hp) :=
 ob S 1 (some x0) fun _ =>
 if (zI S x0 2) = 5 then
 gd (¬ (5 : Int32) = 0) <|
 ob S 1 (some x0) fun a2 => bnd (wI S a2 1 (((zI S x0 1) + 1) - ((zI S x0 1) + 1) / 5 * 5)) fun S1 =>
 ob S1 1 (some x0) fun _ =>
 ob S1 1 (some x0) fun a4 => bnd (wI S1 a4 2 ((zI S1 x0 2) - 1)) fun S2 =>
 ob S2 1 (some x0) fun _ =>
 gd (¬ (5 : Int32) = 0) <|
 ar S2 11 (zR S2 x0 0) (((zI S2 x0 1) + (zI S2 x0 2)) - ((zI S2 x0 1) + (zI S2 x0 2)) / 5 * 5) fun a6 i1 =>
 ob S2 2 (zR S2 a6 i1) fun b1 => cl (f_X2_copyFrom S2 b1 x1) fun _ S3 =>
 ob S3 1 (some x0) fun _ =>
 ob S3 1 (some x0) fun a8 => bnd (wI S3 a8 2 ((zI S3 x0 2) + 1)) fun S4 =>
 some ((), S4)
 else
 gd (¬ (5 : Int32) = 0) <|
 ar S 11 (zR S x0 0) (((zI S x0 1) + (zI S x0 2)) - ((zI S x0 1) + (zI S x0 2)) / 5 * 5) fun a9 i2 =>
 ob S 2 (zR S a9 i2) fun b2 => cl (f_X2_copyFrom S b2 x1) fun _ S5 =>
 ob S5 1 (some x0) fun _ =>
 ob S5 1 (some x0) fun a11 => bnd (wI S5 a11 2 ((zI S5 x0 2) + 1)) fun S6 =>
 some ((), S6)
set_option maxHeartbeats 4000000 in
set_option maxRecDepth 100000 in
theorem c_X1_record (S : Hp) (x0 : Nat) (x1 : Option Nat) (o : Unit × Hp) (h : f_X1_record S x0 x1 = some o) : CtV yX1_record cX1_record 2 none rm_X1_record 0 0 [va_rf (some x0), va_rf x1] S o := by
  refine ct_V (own := RX1) (by decide) rfl (by simp [lg_sl, va_rf_cat, catI, catJ, catD]) (fun X C hn hQ => ?_)
  unfold f_X1_record at h
  rw [show lv_args 0 [va_rf (some x0), va_rf x1] = [(0, va_rf (some x0)), (1, va_rf x1)] by simp [lv_args, va_rf_cat, catI, catJ, catD]]
  refine g_aload_n C (q := 0) dX1_record_0 rfl rfl ?_
  refine g_ogetSI C (ci := 1) (slot := 2) rfl (by decide) inlX1 (by decide) rfl q109 dX1_record_1 h (fun h hLa1 hKa1 => ?_)
  refine g_iconst C (v := 5) dX1_record_4 (by decide) ?_
  refine g_icmp_ne C (tgt := 30) dX1_record_5 (by decide) h (fun h => ?_) (fun h => ?_)
  · refine g_aload_n C (q := 0) dX1_record_8 rfl rfl ?_
    refine g_aload_n C (q := 0) dX1_record_9 rfl rfl ?_
    refine g_getEI C (ci := 1) (slot := 1) rfl (by decide) inlX1 (by decide) rfl q110 dX1_record_10 rfl hLa1 hKa1 ?_
    refine g_iconst C (v := 1) dX1_record_13 (by decide) ?_
    refine g_iadd C dX1_record_14 ?_
    refine g_iconst C (v := 5) dX1_record_15 (by decide) ?_
    refine g_irem C dX1_record_16 h (fun h => ?_)
    refine g_oputI C (ci := 1) (slot := 1) tyX1 tyX1_ok nmX1 rfl (by decide) inlX1 (by decide) rfl q110 rfl dX1_record_17 rfl rfl h (fun a2 S1 h => ?_)
    refine g_aload_n C (q := 0) dX1_record_20 rfl rfl ?_
    refine g_dup C dX1_record_21 (va_rf_cat _) ?_
    refine g_ogetSI C (ci := 1) (slot := 2) rfl (by decide) inlX1 (by decide) rfl q109 dX1_record_22 h (fun h hLa3 hKa3 => ?_)
    refine g_iconst C (v := 1) dX1_record_25 (by decide) ?_
    refine g_isub C dX1_record_26 ?_
    refine g_oputI C (ci := 1) (slot := 2) tyX1 tyX1_ok nmX1 rfl (by decide) inlX1 (by decide) rfl q109 rfl dX1_record_27 rfl rfl h (fun a4 S2 h => ?_)
    refine g_aload_n C (q := 0) dX1_record_30 rfl rfl ?_
    refine g_ogetSR C (ci := 1) (slot := 0) rfl (by decide) inlX1 (by decide) rfl q50 dX1_record_31 h (fun h hLa5 hKa5 => ?_)
    refine g_aload_n C (q := 0) dX1_record_34 rfl rfl ?_
    refine g_getEI C (ci := 1) (slot := 1) rfl (by decide) inlX1 (by decide) rfl q110 dX1_record_35 rfl hLa5 hKa5 ?_
    refine g_aload_n C (q := 0) dX1_record_38 rfl rfl ?_
    refine g_getEI C (ci := 1) (slot := 2) rfl (by decide) inlX1 (by decide) rfl q109 dX1_record_39 rfl hLa5 hKa5 ?_
    refine g_iadd C dX1_record_42 ?_
    refine g_iconst C (v := 5) dX1_record_43 (by decide) ?_
    refine g_irem C dX1_record_44 h (fun h => ?_)
    refine g_aald11 C dX1_record_45 h (fun a6 i1 h => ?_)
    refine g_aload_n C (q := 1) dX1_record_46 rfl rfl ?_
    refine g_callVV C (ci := 2) (As := [va_rf x1]) (np := 1) (st := []) (r := (zR S2 a6 i1)) rfl (by decide) (fun b1 q hq => c_X2_copyFrom S2 b1 x1 q hq) gv_RX1_X2_copyFrom rfl rfl dsX2_copyFrom rfl ⟨Nat.le_of_ble_eq_true rfl, Nat.le_of_ble_eq_true rfl⟩ rfl (cat_sum (Nat.le_of_ble_eq_true rfl)) ⟨Nat.zero_le _, Nat.zero_le _⟩ dX1_record_47 h (fun S3 h => ?_)
    refine g_aload_n C (q := 0) dX1_record_50 rfl rfl ?_
    refine g_dup C dX1_record_51 (va_rf_cat _) ?_
    refine g_ogetSI C (ci := 1) (slot := 2) rfl (by decide) inlX1 (by decide) rfl q109 dX1_record_52 h (fun h hLa7 hKa7 => ?_)
    refine g_iconst C (v := 1) dX1_record_55 (by decide) ?_
    refine g_iadd C dX1_record_56 ?_
    refine g_oputI C (ci := 1) (slot := 2) tyX1 tyX1_ok nmX1 rfl (by decide) inlX1 (by decide) rfl q109 rfl dX1_record_57 rfl rfl h (fun a8 S4 h => ?_)
    exact g_vret C hQ dX1_record_60 h
  · refine g_aload_n C (q := 0) dX1_record_30 rfl rfl ?_
    refine g_getER C (ci := 1) (slot := 0) rfl (by decide) inlX1 (by decide) rfl q50 dX1_record_31 rfl hLa1 hKa1 ?_
    refine g_aload_n C (q := 0) dX1_record_34 rfl rfl ?_
    refine g_getEI C (ci := 1) (slot := 1) rfl (by decide) inlX1 (by decide) rfl q110 dX1_record_35 rfl hLa1 hKa1 ?_
    refine g_aload_n C (q := 0) dX1_record_38 rfl rfl ?_
    refine g_getEI C (ci := 1) (slot := 2) rfl (by decide) inlX1 (by decide) rfl q109 dX1_record_39 rfl hLa1 hKa1 ?_
    refine g_iadd C dX1_record_42 ?_
    refine g_iconst C (v := 5) dX1_record_43 (by decide) ?_
    refine g_irem C dX1_record_44 h (fun h => ?_)
    refine g_aald11 C dX1_record_45 h (fun a9 i2 h => ?_)
    refine g_aload_n C (q := 1) dX1_record_46 rfl rfl ?_
    refine g_callVV C (ci := 2) (As := [va_rf x1]) (np := 1) (st := []) (r := (zR S a9 i2)) rfl (by decide) (fun b2 q hq => c_X2_copyFrom S b2 x1 q hq) gv_RX1_X2_copyFrom rfl rfl dsX2_copyFrom rfl ⟨Nat.le_of_ble_eq_true rfl, Nat.le_of_ble_eq_true rfl⟩ rfl (cat_sum (Nat.le_of_ble_eq_true rfl)) ⟨Nat.zero_le _, Nat.zero_le _⟩ dX1_record_47 h (fun S5 h => ?_)
    refine g_aload_n C (q := 0) dX1_record_50 rfl rfl ?_
    refine g_dup C dX1_record_51 (va_rf_cat _) ?_
    refine g_ogetSI C (ci := 1) (slot := 2) rfl (by decide) inlX1 (by decide) rfl q109 dX1_record_52 h (fun h hLa10 hKa10 => ?_)
    refine g_iconst C (v := 1) dX1_record_55 (by decide) ?_
    refine g_iadd C dX1_record_56 ?_
    refine g_oputI C (ci := 1) (slot := 2) tyX1 tyX1_ok nmX1 rfl (by decide) inlX1 (by decide) rfl q109 rfl dX1_record_57 rfl rfl h (fun a11 S6 h => ?_)
    exact g_vret C hQ dX1_record_60 h

abbrev rm_X1_takeBack : Room := { frames := 3, cells := 0, slots := 0, locals := 69 }
theorem dsX1_takeBack : yX1_takeBack.cls = RX1 ∧ yX1_takeBack.cls ≠ "java/lang/invoke/MethodHandle" ∧ yX1_takeBack.cls ≠ "java/lang/invoke/VarHandle" ∧ (parseMethodDescriptor yX1_takeBack.desc).map (fun d => d.parameters.length) = some 1 := by decide +kernel
def f_X1_takeBack (S : Hp) (x0 : Nat) (x1 : Option Nat) : Option (Unit × Hp) :=
 ob S 1 (some x0) fun _ =>
 if (zI S x0 2) ≤ 0 then
 some ((), S)
 else
 ob S 1 (some x0) fun a2 => bnd (wI S a2 2 ((zI S x0 2) - 1)) fun S1 =>
 ob S1 1 (some x0) fun _ =>
 gd (¬ (5 : Int32) = 0) <|
 ar S1 11 (zR S1 x0 0) (((zI S1 x0 1) + (zI S1 x0 2)) - ((zI S1 x0 1) + (zI S1 x0 2)) / 5 * 5) fun a4 i1 =>
 ob S1 2 x1 fun b1 => cl (f_X2_copyFrom S1 b1 (zR S1 a4 i1)) fun _ S2 =>
 some ((), S2)
set_option maxHeartbeats 4000000 in
set_option maxRecDepth 100000 in
theorem c_X1_takeBack (S : Hp) (x0 : Nat) (x1 : Option Nat) (o : Unit × Hp) (h : f_X1_takeBack S x0 x1 = some o) : CtV yX1_takeBack cX1_takeBack 2 none rm_X1_takeBack 0 0 [va_rf (some x0), va_rf x1] S o := by
  refine ct_V (own := RX1) (by decide) rfl (by simp [lg_sl, va_rf_cat, catI, catJ, catD]) (fun X C hn hQ => ?_)
  unfold f_X1_takeBack at h
  rw [show lv_args 0 [va_rf (some x0), va_rf x1] = [(0, va_rf (some x0)), (1, va_rf x1)] by simp [lv_args, va_rf_cat, catI, catJ, catD]]
  refine g_aload_n C (q := 0) dX1_takeBack_0 rfl rfl ?_
  refine g_ogetSI C (ci := 1) (slot := 2) rfl (by decide) inlX1 (by decide) rfl q109 dX1_takeBack_1 h (fun h hLa1 hKa1 => ?_)
  refine g_if_le C (tgt := 37) dX1_takeBack_4 (by decide) h (fun h => ?_) (fun h => ?_)
  · exact g_vret C hQ dX1_takeBack_37 h
  · refine g_aload_n C (q := 0) dX1_takeBack_7 rfl rfl ?_
    refine g_dup C dX1_takeBack_8 (va_rf_cat _) ?_
    refine g_getEI C (ci := 1) (slot := 2) rfl (by decide) inlX1 (by decide) rfl q109 dX1_takeBack_9 rfl hLa1 hKa1 ?_
    refine g_iconst C (v := 1) dX1_takeBack_12 (by decide) ?_
    refine g_isub C dX1_takeBack_13 ?_
    refine g_oputI C (ci := 1) (slot := 2) tyX1 tyX1_ok nmX1 rfl (by decide) inlX1 (by decide) rfl q109 rfl dX1_takeBack_14 rfl rfl h (fun a2 S1 h => ?_)
    refine g_aload_n C (q := 1) dX1_takeBack_17 rfl rfl ?_
    refine g_aload_n C (q := 0) dX1_takeBack_18 rfl rfl ?_
    refine g_ogetSR C (ci := 1) (slot := 0) rfl (by decide) inlX1 (by decide) rfl q50 dX1_takeBack_19 h (fun h hLa3 hKa3 => ?_)
    refine g_aload_n C (q := 0) dX1_takeBack_22 rfl rfl ?_
    refine g_getEI C (ci := 1) (slot := 1) rfl (by decide) inlX1 (by decide) rfl q110 dX1_takeBack_23 rfl hLa3 hKa3 ?_
    refine g_aload_n C (q := 0) dX1_takeBack_26 rfl rfl ?_
    refine g_getEI C (ci := 1) (slot := 2) rfl (by decide) inlX1 (by decide) rfl q109 dX1_takeBack_27 rfl hLa3 hKa3 ?_
    refine g_iadd C dX1_takeBack_30 ?_
    refine g_iconst C (v := 5) dX1_takeBack_31 (by decide) ?_
    refine g_irem C dX1_takeBack_32 h (fun h => ?_)
    refine g_aald11 C dX1_takeBack_33 h (fun a4 i1 h => ?_)
    refine g_callVV C (ci := 2) (As := [va_rf (zR S1 a4 i1)]) (np := 1) (st := []) (r := x1) rfl (by decide) (fun b1 q hq => c_X2_copyFrom S1 b1 (zR S1 a4 i1) q hq) gv_RX1_X2_copyFrom rfl rfl dsX2_copyFrom rfl ⟨Nat.le_of_ble_eq_true rfl, Nat.le_of_ble_eq_true rfl⟩ rfl (cat_sum (Nat.le_of_ble_eq_true rfl)) ⟨Nat.zero_le _, Nat.zero_le _⟩ dX1_takeBack_34 h (fun S2 h => ?_)
    exact g_vret C hQ dX1_takeBack_37 h

abbrev rm_X2_guideAt : Room := { frames := 0, cells := 0, slots := 0, locals := 0 }
theorem dsX2_guideAt : yX2_guideAt.cls = RX2 ∧ yX2_guideAt.cls ≠ "java/lang/invoke/MethodHandle" ∧ yX2_guideAt.cls ≠ "java/lang/invoke/VarHandle" ∧ (parseMethodDescriptor yX2_guideAt.desc).map (fun d => d.parameters.length) = some 1 := by decide +kernel
def f_X2_guideAt (S : Hp) (x0 : Nat) (x1 : Int32) : Option (Option Nat × Hp) :=
 if x1 < 0 then
 some (none, S)
 else
 ob S 2 (some x0) fun _ =>
 if (zI S x0 3) ≤ x1 then
 some (none, S)
 else
 ar S 10 (zR S x0 0) x1 fun a2 i1 =>
 some ((zR S a2 i1), S)
set_option maxHeartbeats 4000000 in
set_option maxRecDepth 100000 in
theorem c_X2_guideAt (S : Hp) (x0 : Nat) (x1 : Int32) (o : Option Nat × Hp) (h : f_X2_guideAt S x0 x1 = some o) : CtR yX2_guideAt cX2_guideAt 2 (some (.object "GlacierGuides$Guide")) rm_X2_guideAt 0 0 [va_rf (some x0), .int x1] S o := by
  refine ct_R (own := RX2) (by decide) rfl (Nat.le_of_ble_eq_true rfl) (fun X C hn hQ => ?_)
  unfold f_X2_guideAt at h
  show GW X 0 0 S 0 [(0, va_rf (some x0)), (1, .int x1)] []
  refine g_iload_n C (q := 1) dX2_guideAt_0 rfl rfl ?_
  refine g_if_lt C (tgt := 21) dX2_guideAt_1 (by decide) h (fun h => ?_) (fun h => ?_)
  · refine g_null C dX2_guideAt_21 ?_
    exact g_aret C hQ dX2_guideAt_22 h
  · refine g_iload_n C (q := 1) dX2_guideAt_4 rfl rfl ?_
    refine g_aload_n C (q := 0) dX2_guideAt_5 rfl rfl ?_
    refine g_ogetSI C (ci := 2) (slot := 3) rfl (by decide) inlX2 (by decide) rfl q115 dX2_guideAt_6 h (fun h hLa1 hKa1 => ?_)
    refine g_icmp_ge C (tgt := 21) dX2_guideAt_9 (by decide) h (fun h => ?_) (fun h => ?_)
    · refine g_null C dX2_guideAt_21 ?_
      exact g_aret C hQ dX2_guideAt_22 h
    · refine g_aload_n C (q := 0) dX2_guideAt_12 rfl rfl ?_
      refine g_getER C (ci := 2) (slot := 0) rfl (by decide) inlX2 (by decide) rfl q27 dX2_guideAt_13 rfl hLa1 hKa1 ?_
      refine g_iload_n C (q := 1) dX2_guideAt_16 rfl rfl ?_
      refine g_aald10 C dX2_guideAt_17 h (fun a2 i1 h => ?_)
      refine g_goto C (tgt := 22) dX2_guideAt_18 (by decide) ?_
      exact g_aret C hQ dX2_guideAt_22 h

abbrev rm_X2_tourAt : Room := { frames := 0, cells := 0, slots := 0, locals := 0 }
theorem dsX2_tourAt : yX2_tourAt.cls = RX2 ∧ yX2_tourAt.cls ≠ "java/lang/invoke/MethodHandle" ∧ yX2_tourAt.cls ≠ "java/lang/invoke/VarHandle" ∧ (parseMethodDescriptor yX2_tourAt.desc).map (fun d => d.parameters.length) = some 1 := by decide +kernel
def f_X2_tourAt (S : Hp) (x0 : Nat) (x1 : Int32) : Option (Option Nat × Hp) :=
 if x1 < 0 then
 some (none, S)
 else
 ob S 2 (some x0) fun _ =>
 if (zI S x0 5) ≤ x1 then
 some (none, S)
 else
 ar S 12 (zR S x0 2) x1 fun a2 i1 =>
 some ((zR S a2 i1), S)
set_option maxHeartbeats 4000000 in
set_option maxRecDepth 100000 in
theorem c_X2_tourAt (S : Hp) (x0 : Nat) (x1 : Int32) (o : Option Nat × Hp) (h : f_X2_tourAt S x0 x1 = some o) : CtR yX2_tourAt cX2_tourAt 2 (some (.object "GlacierGuides$Tour")) rm_X2_tourAt 0 0 [va_rf (some x0), .int x1] S o := by
  refine ct_R (own := RX2) (by decide) rfl (Nat.le_of_ble_eq_true rfl) (fun X C hn hQ => ?_)
  unfold f_X2_tourAt at h
  show GW X 0 0 S 0 [(0, va_rf (some x0)), (1, .int x1)] []
  refine g_iload_n C (q := 1) dX2_tourAt_0 rfl rfl ?_
  refine g_if_lt C (tgt := 21) dX2_tourAt_1 (by decide) h (fun h => ?_) (fun h => ?_)
  · refine g_null C dX2_tourAt_21 ?_
    exact g_aret C hQ dX2_tourAt_22 h
  · refine g_iload_n C (q := 1) dX2_tourAt_4 rfl rfl ?_
    refine g_aload_n C (q := 0) dX2_tourAt_5 rfl rfl ?_
    refine g_ogetSI C (ci := 2) (slot := 5) rfl (by decide) inlX2 (by decide) rfl q80 dX2_tourAt_6 h (fun h hLa1 hKa1 => ?_)
    refine g_icmp_ge C (tgt := 21) dX2_tourAt_9 (by decide) h (fun h => ?_) (fun h => ?_)
    · refine g_null C dX2_tourAt_21 ?_
      exact g_aret C hQ dX2_tourAt_22 h
    · refine g_aload_n C (q := 0) dX2_tourAt_12 rfl rfl ?_
      refine g_getER C (ci := 2) (slot := 2) rfl (by decide) inlX2 (by decide) rfl q33 dX2_tourAt_13 rfl hLa1 hKa1 ?_
      refine g_iload_n C (q := 1) dX2_tourAt_16 rfl rfl ?_
      refine g_aald12 C dX2_tourAt_17 h (fun a2 i1 h => ?_)
      refine g_goto C (tgt := 22) dX2_tourAt_18 (by decide) ?_
      exact g_aret C hQ dX2_tourAt_22 h

abbrev rm_X2_hasBridge : Room := { frames := 0, cells := 0, slots := 0, locals := 0 }
theorem dsX2_hasBridge : yX2_hasBridge.cls = RX2 ∧ yX2_hasBridge.cls ≠ "java/lang/invoke/MethodHandle" ∧ yX2_hasBridge.cls ≠ "java/lang/invoke/VarHandle" ∧ (parseMethodDescriptor yX2_hasBridge.desc).map (fun d => d.parameters.length) = some 1 := by decide +kernel
def f_X2_hasBridge (S : Hp) (x0 : Nat) (x1 : Int32) : Option (Int32 × Hp) :=
 if x1 < 0 then
 some ((0 : Int32), S)
 else
 ob S 2 (some x0) fun _ =>
 if (zI S x0 4) ≤ x1 then
 some ((0 : Int32), S)
 else
 some ((1 : Int32), S)
set_option maxHeartbeats 4000000 in
set_option maxRecDepth 100000 in
theorem c_X2_hasBridge (S : Hp) (x0 : Nat) (x1 : Int32) (o : Int32 × Hp) (h : f_X2_hasBridge S x0 x1 = some o) : CtI yX2_hasBridge cX2_hasBridge 2 (some .boolean) rm_X2_hasBridge 0 0 [va_rf (some x0), .int x1] S o := by
  refine ct_I (own := RX2) (by decide) rfl (Nat.le_of_ble_eq_true rfl) (fun X C hn hQ => ?_)
  unfold f_X2_hasBridge at h
  show GW X 0 0 S 0 [(0, va_rf (some x0)), (1, .int x1)] []
  refine g_iload_n C (q := 1) dX2_hasBridge_0 rfl rfl ?_
  refine g_if_lt C (tgt := 16) dX2_hasBridge_1 (by decide) h (fun h => ?_) (fun h => ?_)
  · refine g_iconst C (v := 0) dX2_hasBridge_16 (by decide) ?_
    exact g_zret C hQ (by decide) dX2_hasBridge_17 h
  · refine g_iload_n C (q := 1) dX2_hasBridge_4 rfl rfl ?_
    refine g_aload_n C (q := 0) dX2_hasBridge_5 rfl rfl ?_
    refine g_ogetSI C (ci := 2) (slot := 4) rfl (by decide) inlX2 (by decide) rfl q67 dX2_hasBridge_6 h (fun h hLa1 hKa1 => ?_)
    refine g_icmp_ge C (tgt := 16) dX2_hasBridge_9 (by decide) h (fun h => ?_) (fun h => ?_)
    · refine g_iconst C (v := 0) dX2_hasBridge_16 (by decide) ?_
      exact g_zret C hQ (by decide) dX2_hasBridge_17 h
    · refine g_iconst C (v := 1) dX2_hasBridge_12 (by decide) ?_
      refine g_goto C (tgt := 17) dX2_hasBridge_13 (by decide) ?_
      exact g_zret C hQ (by decide) dX2_hasBridge_17 h

abbrev rm_X2_hasBridges : Room := { frames := 0, cells := 0, slots := 0, locals := 0 }
theorem dsX2_hasBridges : yX2_hasBridges.cls = RX2 ∧ yX2_hasBridges.cls ≠ "java/lang/invoke/MethodHandle" ∧ yX2_hasBridges.cls ≠ "java/lang/invoke/VarHandle" ∧ (parseMethodDescriptor yX2_hasBridges.desc).map (fun d => d.parameters.length) = some 1 := by decide +kernel
def f_X2_hasBridges (S : Hp) (x0 : Nat) (x1 : Int32) : Option (Int32 × Hp) :=
 ob S 2 (some x0) fun _ =>
 if (x1 &&& (((1 <<< ((zI S x0 4) &&& 31)) - 1) ^^^ (-1))) = 0 then
 some ((1 : Int32), S)
 else
 some ((0 : Int32), S)
set_option maxHeartbeats 4000000 in
set_option maxRecDepth 100000 in
theorem c_X2_hasBridges (S : Hp) (x0 : Nat) (x1 : Int32) (o : Int32 × Hp) (h : f_X2_hasBridges S x0 x1 = some o) : CtI yX2_hasBridges cX2_hasBridges 2 (some .boolean) rm_X2_hasBridges 0 0 [va_rf (some x0), .int x1] S o := by
  refine ct_I (own := RX2) (by decide) rfl (Nat.le_of_ble_eq_true rfl) (fun X C hn hQ => ?_)
  unfold f_X2_hasBridges at h
  show GW X 0 0 S 0 [(0, va_rf (some x0)), (1, .int x1)] []
  refine g_iload_n C (q := 1) dX2_hasBridges_0 rfl rfl ?_
  refine g_iconst C (v := 1) dX2_hasBridges_1 (by decide) ?_
  refine g_aload_n C (q := 0) dX2_hasBridges_2 rfl rfl ?_
  refine g_ogetSI C (ci := 2) (slot := 4) rfl (by decide) inlX2 (by decide) rfl q67 dX2_hasBridges_3 h (fun h hLa1 hKa1 => ?_)
  refine g_ishl C dX2_hasBridges_6 ?_
  refine g_iconst C (v := 1) dX2_hasBridges_7 (by decide) ?_
  refine g_isub C dX2_hasBridges_8 ?_
  refine g_iconst C (v := (-1)) dX2_hasBridges_9 (by decide) ?_
  refine g_ixor C dX2_hasBridges_10 ?_
  refine g_iand C dX2_hasBridges_11 ?_
  refine g_if_ne C (tgt := 19) dX2_hasBridges_12 (by decide) h (fun h => ?_) (fun h => ?_)
  · refine g_iconst C (v := 1) dX2_hasBridges_15 (by decide) ?_
    refine g_goto C (tgt := 20) dX2_hasBridges_16 (by decide) ?_
    exact g_zret C hQ (by decide) dX2_hasBridges_20 h
  · refine g_iconst C (v := 0) dX2_hasBridges_19 (by decide) ?_
    exact g_zret C hQ (by decide) dX2_hasBridges_20 h

abbrev rm_X4_hasInRow : Room := { frames := 0, cells := 0, slots := 0, locals := 0 }
theorem dsX4_hasInRow : yX4_hasInRow.cls = RX4 ∧ yX4_hasInRow.cls ≠ "java/lang/invoke/MethodHandle" ∧ yX4_hasInRow.cls ≠ "java/lang/invoke/VarHandle" ∧ (parseMethodDescriptor yX4_hasInRow.desc).map (fun d => d.parameters.length) = some 1 := by decide +kernel
def f_X4_hasInRow_L2_b (rec : Hp → Nat → Int32 → Int32 → Option (Int32 × Hp)) (S : Hp) (x0 : Nat) (y1 : Int32) (y2 : Int32) : Option (Int32 × Hp) :=
 ob S 4 (some x0) fun _ =>
 if (zI S x0 7) ≤ y2 then
 some ((0 : Int32), S)
 else
 ar S 9 (zR S x0 0) y2 fun a2 i1 =>
 if (zI S a2 i1) = y1 then
 some ((1 : Int32), S)
 else
 bnd (y2 + 1) fun v1 =>
 rec S x0 y1 v1
def f_X4_hasInRow_L2 : Nat → Hp → Nat → Int32 → Int32 → Option (Int32 × Hp)
  | 0 => fun _ _ _ _ => none
  | n + 1 => f_X4_hasInRow_L2_b (f_X4_hasInRow_L2 n)
def f_X4_hasInRow (S : Hp) (x0 : Nat) (x1 : Int32) : Option (Int32 × Hp) :=
 f_X4_hasInRow_L2 1000 S x0 x1 (0 : Int32)
set_option maxHeartbeats 4000000 in
set_option maxRecDepth 100000 in
theorem w_X4_hasInRow_L2 {X : Cx} (C : CxOK X cX4_hasInRow RX4 rm_X4_hasInRow) (hn : xn X = 3) {S0 : Hp} {o : Int32 × Hp} (hQ : QI X (some .boolean) S0 0 0 o) : ∀ (fuel : Nat) (S : Hp) (x0 : Nat) (y1 : Int32) (y2 : Int32), f_X4_hasInRow_L2 fuel S x0 y1 y2 = some o → GW X 0 0 S 2 [(0, va_rf (some x0)), (1, .int y1), (2, .int y2)] [] := by
  have hn2 : 2 < xn X := by rw [hn]; decide
  intro fuel
  induction fuel with
  | zero => intro S x0 y1 y2 h; cases (show none = some o from h)
  | succ fuel ih =>
    intro S x0 y1 y2 h
    have h : f_X4_hasInRow_L2_b (f_X4_hasInRow_L2 fuel) S x0 y1 y2 = some o := h
    unfold f_X4_hasInRow_L2_b at h
    refine g_iload_n C (q := 2) dX4_hasInRow_2 rfl rfl ?_
    refine g_aload_n C (q := 0) dX4_hasInRow_3 rfl rfl ?_
    refine g_ogetSI C (ci := 4) (slot := 7) rfl (by decide) inlX4 (by decide) rfl q147 dX4_hasInRow_4 h (fun h hLa1 hKa1 => ?_)
    refine g_icmp_ge C (tgt := 28) dX4_hasInRow_7 (by decide) h (fun h => ?_) (fun h => ?_)
    · refine g_iconst C (v := 0) dX4_hasInRow_28 (by decide) ?_
      exact g_zret C hQ (by decide) dX4_hasInRow_29 h
    · refine g_aload_n C (q := 0) dX4_hasInRow_10 rfl rfl ?_
      refine g_getER C (ci := 4) (slot := 0) rfl (by decide) inlX4 (by decide) rfl q44 dX4_hasInRow_11 rfl hLa1 hKa1 ?_
      refine g_iload_n C (q := 2) dX4_hasInRow_14 rfl rfl ?_
      refine g_iald C dX4_hasInRow_15 h (fun a2 i1 h => ?_)
      refine g_iload_n C (q := 1) dX4_hasInRow_16 rfl rfl ?_
      refine g_icmp_ne C (tgt := 22) dX4_hasInRow_17 (by decide) h (fun h => ?_) (fun h => ?_)
      · refine g_iconst C (v := 1) dX4_hasInRow_20 (by decide) ?_
        exact g_zret C hQ (by decide) dX4_hasInRow_21 h
      · obtain ⟨v1, ev1, h⟩ := bnd_ex h
        refine g_iinc C (i := 2) (lv' := [(2, .int v1), (0, va_rf (some x0)), (1, .int y1)]) (q := 2) v1 dX4_hasInRow_22 rfl ev1 hn2 rfl ?_
        refine g_goto C (tgt := 2) dX4_hasInRow_25 (by decide) ?_
        refine g_sub (lv' := [(0, va_rf (some x0)), (1, .int y1), (2, .int v1)]) [1, 2, 0] rfl ?_
        exact ih S x0 y1 v1 h
set_option maxHeartbeats 4000000 in
set_option maxRecDepth 100000 in
theorem c_X4_hasInRow (S : Hp) (x0 : Nat) (x1 : Int32) (o : Int32 × Hp) (h : f_X4_hasInRow S x0 x1 = some o) : CtI yX4_hasInRow cX4_hasInRow 3 (some .boolean) rm_X4_hasInRow 0 0 [va_rf (some x0), .int x1] S o := by
  refine ct_I (own := RX4) (by decide) rfl (Nat.le_of_ble_eq_true rfl) (fun X C hn hQ => ?_)
  have hn2 : 2 < xn X := by rw [hn]; decide
  unfold f_X4_hasInRow at h
  show GW X 0 0 S 0 [(0, va_rf (some x0)), (1, .int x1)] []
  refine g_iconst C (v := 0) dX4_hasInRow_0 (by decide) ?_
  refine g_istore_n C (i := 2) (lv' := [(2, .int 0), (0, va_rf (some x0)), (1, .int x1)]) dX4_hasInRow_1 rfl hn2 rfl ?_
  refine g_sub (lv' := [(0, va_rf (some x0)), (1, .int x1), (2, .int 0)]) [1, 2, 0] rfl ?_
  exact w_X4_hasInRow_L2 C hn hQ 1000 S x0 x1 (0 : Int32) h

abbrev rm_X2_isBusyOn : Room := { frames := 1, cells := 0, slots := 0, locals := 22 }
theorem dsX2_isBusyOn : yX2_isBusyOn.cls = RX2 ∧ yX2_isBusyOn.cls ≠ "java/lang/invoke/MethodHandle" ∧ yX2_isBusyOn.cls ≠ "java/lang/invoke/VarHandle" ∧ (parseMethodDescriptor yX2_isBusyOn.desc).map (fun d => d.parameters.length) = some 2 := by decide +kernel
theorem gv_RX2_X4_hasInRow : GoodIn wsL_law (wsV RX2 78 RX4 yX4_hasInRow (.code yX4_hasInRow cX4_hasInRow 3 (some .boolean) :: wsL_law)) := good_V q322 q323 q324 q35 q325
def f_X2_isBusyOn_L2_b (rec : Hp → Nat → Int32 → Int32 → Int32 → Option (Int32 × Hp)) (S : Hp) (x0 : Nat) (y1 : Int32) (y2 : Int32) (y3 : Int32) : Option (Int32 × Hp) :=
 ob S 2 (some x0) fun _ =>
 if (zI S x0 5) ≤ y3 then
 some ((0 : Int32), S)
 else
 ar S 12 (zR S x0 2) y3 fun a2 i1 =>
 ob S 4 (zR S a2 i1) fun a3 =>
 if (zI S a3 9) = 0 then
 ar S 12 (zR S x0 2) y3 fun a4 i2 =>
 ob S 4 (zR S a4 i2) fun a5 =>
 if (zI S a5 1) = y1 then
 ar S 12 (zR S x0 2) y3 fun a6 i3 =>
 ob S 4 (zR S a6 i3) fun b1 => cl (f_X4_hasInRow S b1 y2) fun v1 S1 =>
 if v1 = 0 then
 bnd (y3 + 1) fun v2 =>
 rec S1 x0 y1 y2 v2
 else
 some ((1 : Int32), S1)
 else
 bnd (y3 + 1) fun v3 =>
 rec S x0 y1 y2 v3
 else
 bnd (y3 + 1) fun v4 =>
 rec S x0 y1 y2 v4
def f_X2_isBusyOn_L2 : Nat → Hp → Nat → Int32 → Int32 → Int32 → Option (Int32 × Hp)
  | 0 => fun _ _ _ _ _ => none
  | n + 1 => f_X2_isBusyOn_L2_b (f_X2_isBusyOn_L2 n)
def f_X2_isBusyOn (S : Hp) (x0 : Nat) (x1 : Int32) (x2 : Int32) : Option (Int32 × Hp) :=
 f_X2_isBusyOn_L2 1000 S x0 x1 x2 (0 : Int32)
set_option maxHeartbeats 4000000 in
set_option maxRecDepth 100000 in
theorem w_X2_isBusyOn_L2 {X : Cx} (C : CxOK X cX2_isBusyOn RX2 rm_X2_isBusyOn) (hn : xn X = 4) {S0 : Hp} {o : Int32 × Hp} (hQ : QI X (some .boolean) S0 0 0 o) : ∀ (fuel : Nat) (S : Hp) (x0 : Nat) (y1 : Int32) (y2 : Int32) (y3 : Int32), f_X2_isBusyOn_L2 fuel S x0 y1 y2 y3 = some o → GW X 0 0 S 2 [(0, va_rf (some x0)), (1, .int y1), (2, .int y2), (3, .int y3)] [] := by
  have hn3 : 3 < xn X := by rw [hn]; decide
  intro fuel
  induction fuel with
  | zero => intro S x0 y1 y2 y3 h; cases (show none = some o from h)
  | succ fuel ih =>
    intro S x0 y1 y2 y3 h
    have h : f_X2_isBusyOn_L2_b (f_X2_isBusyOn_L2 fuel) S x0 y1 y2 y3 = some o := h
    unfold f_X2_isBusyOn_L2_b at h
    refine g_iload_n C (q := 3) dX2_isBusyOn_2 rfl rfl ?_
    refine g_aload_n C (q := 0) dX2_isBusyOn_3 rfl rfl ?_
    refine g_ogetSI C (ci := 2) (slot := 5) rfl (by decide) inlX2 (by decide) rfl q80 dX2_isBusyOn_4 h (fun h hLa1 hKa1 => ?_)
    refine g_icmp_ge C (tgt := 56) dX2_isBusyOn_7 (by decide) h (fun h => ?_) (fun h => ?_)
    · refine g_iconst C (v := 0) dX2_isBusyOn_56 (by decide) ?_
      exact g_zret C hQ (by decide) dX2_isBusyOn_57 h
    · refine g_aload_n C (q := 0) dX2_isBusyOn_10 rfl rfl ?_
      refine g_getER C (ci := 2) (slot := 2) rfl (by decide) inlX2 (by decide) rfl q33 dX2_isBusyOn_11 rfl hLa1 hKa1 ?_
      refine g_iload_n C (q := 3) dX2_isBusyOn_14 rfl rfl ?_
      refine g_aald12 C dX2_isBusyOn_15 h (fun a2 i1 h => ?_)
      refine g_ogetI C (ci := 4) (slot := 9) rfl (by decide) inlX4 (by decide) rfl q312 dX2_isBusyOn_16 h (fun a3 hra3 h hLa3 hKa3 => ?_)
      refine g_if_ne C (tgt := 50) dX2_isBusyOn_19 (by decide) h (fun h => ?_) (fun h => ?_)
      · refine g_aload_n C (q := 0) dX2_isBusyOn_22 rfl rfl ?_
        refine g_getER C (ci := 2) (slot := 2) rfl (by decide) inlX2 (by decide) rfl q33 dX2_isBusyOn_23 rfl hLa1 hKa1 ?_
        refine g_iload_n C (q := 3) dX2_isBusyOn_26 rfl rfl ?_
        refine g_aald12 C dX2_isBusyOn_27 h (fun a4 i2 h => ?_)
        refine g_ogetI C (ci := 4) (slot := 1) rfl (by decide) inlX4 (by decide) rfl q313 dX2_isBusyOn_28 h (fun a5 hra5 h hLa5 hKa5 => ?_)
        refine g_iload_n C (q := 1) dX2_isBusyOn_31 rfl rfl ?_
        refine g_icmp_ne C (tgt := 50) dX2_isBusyOn_32 (by decide) h (fun h => ?_) (fun h => ?_)
        · refine g_aload_n C (q := 0) dX2_isBusyOn_35 rfl rfl ?_
          refine g_getER C (ci := 2) (slot := 2) rfl (by decide) inlX2 (by decide) rfl q33 dX2_isBusyOn_36 rfl hLa1 hKa1 ?_
          refine g_iload_n C (q := 3) dX2_isBusyOn_39 rfl rfl ?_
          refine g_aald12 C dX2_isBusyOn_40 h (fun a6 i3 h => ?_)
          refine g_iload_n C (q := 2) dX2_isBusyOn_41 rfl rfl ?_
          refine g_callVI C (ci := 4) (As := [.int y2]) (np := 1) (st := []) (r := (zR S a6 i3)) rfl (by decide) (fun b1 q hq => c_X4_hasInRow S b1 y2 q hq) gv_RX2_X4_hasInRow rfl rfl dsX4_hasInRow rfl ⟨Nat.le_of_ble_eq_true rfl, Nat.le_of_ble_eq_true rfl⟩ rfl (cat_sum (Nat.le_of_ble_eq_true rfl)) ⟨Nat.zero_le _, Nat.zero_le _⟩ dX2_isBusyOn_42 h (fun v1 S1 h => ?_)
          refine g_if_eq C (tgt := 50) dX2_isBusyOn_45 (by decide) h (fun h => ?_) (fun h => ?_)
          · obtain ⟨v2, ev2, h⟩ := bnd_ex h
            refine g_iinc C (i := 3) (lv' := [(3, .int v2), (0, va_rf (some x0)), (1, .int y1), (2, .int y2)]) (q := 3) v2 dX2_isBusyOn_50 rfl ev2 hn3 rfl ?_
            refine g_goto C (tgt := 2) dX2_isBusyOn_53 (by decide) ?_
            refine g_sub (lv' := [(0, va_rf (some x0)), (1, .int y1), (2, .int y2), (3, .int v2)]) [1, 2, 3, 0] rfl ?_
            exact ih S1 x0 y1 y2 v2 h
          · refine g_iconst C (v := 1) dX2_isBusyOn_48 (by decide) ?_
            exact g_zret C hQ (by decide) dX2_isBusyOn_49 h
        · obtain ⟨v3, ev3, h⟩ := bnd_ex h
          refine g_iinc C (i := 3) (lv' := [(3, .int v3), (0, va_rf (some x0)), (1, .int y1), (2, .int y2)]) (q := 3) v3 dX2_isBusyOn_50 rfl ev3 hn3 rfl ?_
          refine g_goto C (tgt := 2) dX2_isBusyOn_53 (by decide) ?_
          refine g_sub (lv' := [(0, va_rf (some x0)), (1, .int y1), (2, .int y2), (3, .int v3)]) [1, 2, 3, 0] rfl ?_
          exact ih S x0 y1 y2 v3 h
      · obtain ⟨v4, ev4, h⟩ := bnd_ex h
        refine g_iinc C (i := 3) (lv' := [(3, .int v4), (0, va_rf (some x0)), (1, .int y1), (2, .int y2)]) (q := 3) v4 dX2_isBusyOn_50 rfl ev4 hn3 rfl ?_
        refine g_goto C (tgt := 2) dX2_isBusyOn_53 (by decide) ?_
        refine g_sub (lv' := [(0, va_rf (some x0)), (1, .int y1), (2, .int y2), (3, .int v4)]) [1, 2, 3, 0] rfl ?_
        exact ih S x0 y1 y2 v4 h
set_option maxHeartbeats 4000000 in
set_option maxRecDepth 100000 in
theorem c_X2_isBusyOn (S : Hp) (x0 : Nat) (x1 : Int32) (x2 : Int32) (o : Int32 × Hp) (h : f_X2_isBusyOn S x0 x1 x2 = some o) : CtI yX2_isBusyOn cX2_isBusyOn 4 (some .boolean) rm_X2_isBusyOn 0 0 [va_rf (some x0), .int x1, .int x2] S o := by
  refine ct_I (own := RX2) (by decide) rfl (Nat.le_of_ble_eq_true rfl) (fun X C hn hQ => ?_)
  have hn3 : 3 < xn X := by rw [hn]; decide
  unfold f_X2_isBusyOn at h
  show GW X 0 0 S 0 [(0, va_rf (some x0)), (1, .int x1), (2, .int x2)] []
  refine g_iconst C (v := 0) dX2_isBusyOn_0 (by decide) ?_
  refine g_istore_n C (i := 3) (lv' := [(3, .int 0), (0, va_rf (some x0)), (1, .int x1), (2, .int x2)]) dX2_isBusyOn_1 rfl hn3 rfl ?_
  refine g_sub (lv' := [(0, va_rf (some x0)), (1, .int x1), (2, .int x2), (3, .int 0)]) [1, 2, 3, 0] rfl ?_
  exact w_X2_isBusyOn_L2 C hn hQ 1000 S x0 x1 x2 (0 : Int32) h

abbrev rm_X2_mayLead : Room := { frames := 2, cells := 0, slots := 0, locals := 45 }
theorem dsX2_mayLead : yX2_mayLead.cls = RX2 ∧ yX2_mayLead.cls ≠ "java/lang/invoke/MethodHandle" ∧ yX2_mayLead.cls ≠ "java/lang/invoke/VarHandle" ∧ (parseMethodDescriptor yX2_mayLead.desc).map (fun d => d.parameters.length) = some 2 := by decide +kernel
theorem gv_RX2_X0_isValidOn : GoodIn wsL_law (wsV RX2 70 RX0 yX0_isValidOn (.code yX0_isValidOn cX0_isValidOn 2 (some .boolean) :: wsL_law)) := good_V q314 q315 q316 q29 q317
theorem gv_RX2_X2_isBusyOn : GoodIn wsL_law (wsV RX2 74 RX2 yX2_isBusyOn (.code yX2_isBusyOn cX2_isBusyOn 4 (some .boolean) :: wsL_law)) := good_V q318 q319 q320 q11 q321
def f_X2_mayLead (S : Hp) (x0 : Nat) (x1 : Int32) (x2 : Option Nat) : Option (Int32 × Hp) :=
 ob S 4 x2 fun a1 =>
 if (zI S a1 9) = 0 then
 ob S 2 (some x0) fun _ =>
 ar S 10 (zR S x0 0) x1 fun a3 i1 =>
 ob S 0 (zR S a3 i1) fun b1 => cl (f_X0_isValidOn S b1 (zI S a1 1)) fun v1 S1 =>
 if v1 = 0 then
 some ((0 : Int32), S1)
 else
 ob S1 4 x2 fun a4 =>
 ob S1 2 (some x0) fun b2 => cl (f_X2_isBusyOn S1 b2 (zI S1 a4 1) x1) fun v2 S2 =>
 if v2 = 0 then
 some ((1 : Int32), S2)
 else
 some ((0 : Int32), S2)
 else
 some ((0 : Int32), S)
set_option maxHeartbeats 4000000 in
set_option maxRecDepth 100000 in
theorem c_X2_mayLead (S : Hp) (x0 : Nat) (x1 : Int32) (x2 : Option Nat) (o : Int32 × Hp) (h : f_X2_mayLead S x0 x1 x2 = some o) : CtI yX2_mayLead cX2_mayLead 3 (some .boolean) rm_X2_mayLead 0 0 [va_rf (some x0), .int x1, va_rf x2] S o := by
  refine ct_I (own := RX2) (by decide) rfl (by simp [lg_sl, va_rf_cat, catI, catJ, catD]) (fun X C hn hQ => ?_)
  unfold f_X2_mayLead at h
  rw [show lv_args 0 [va_rf (some x0), .int x1, va_rf x2] = [(0, va_rf (some x0)), (1, .int x1), (2, va_rf x2)] by simp [lv_args, va_rf_cat, catI, catJ, catD]]
  refine g_aload_n C (q := 2) dX2_mayLead_0 rfl rfl ?_
  refine g_ogetI C (ci := 4) (slot := 9) rfl (by decide) inlX4 (by decide) rfl q312 dX2_mayLead_1 h (fun a1 hra1 h hLa1 hKa1 => ?_)
  refine g_if_ne C (tgt := 39) dX2_mayLead_4 (by decide) h (fun h => ?_) (fun h => ?_)
  · refine g_aload_n C (q := 0) dX2_mayLead_7 rfl rfl ?_
    refine g_ogetSR C (ci := 2) (slot := 0) rfl (by decide) inlX2 (by decide) rfl q27 dX2_mayLead_8 h (fun h hLa2 hKa2 => ?_)
    refine g_iload_n C (q := 1) dX2_mayLead_11 rfl rfl ?_
    refine g_aald10 C dX2_mayLead_12 h (fun a3 i1 h => ?_)
    refine g_aload_n C (q := 2) dX2_mayLead_13 rfl rfl ?_
    refine g_getEI C (ci := 4) (slot := 1) rfl (by decide) inlX4 (by decide) rfl q313 dX2_mayLead_14 hra1 hLa1 hKa1 ?_
    refine g_callVI C (ci := 0) (As := [.int (zI S a1 1)]) (np := 1) (st := []) (r := (zR S a3 i1)) rfl (by decide) (fun b1 q hq => c_X0_isValidOn S b1 (zI S a1 1) q hq) gv_RX2_X0_isValidOn rfl rfl dsX0_isValidOn rfl ⟨Nat.le_of_ble_eq_true rfl, Nat.le_of_ble_eq_true rfl⟩ rfl (cat_sum (Nat.le_of_ble_eq_true rfl)) ⟨Nat.zero_le _, Nat.zero_le _⟩ dX2_mayLead_17 h (fun v1 S1 h => ?_)
    refine g_if_eq C (tgt := 39) dX2_mayLead_20 (by decide) h (fun h => ?_) (fun h => ?_)
    · refine g_iconst C (v := 0) dX2_mayLead_39 (by decide) ?_
      exact g_zret C hQ (by decide) dX2_mayLead_40 h
    · refine g_aload_n C (q := 0) dX2_mayLead_23 rfl rfl ?_
      refine g_aload_n C (q := 2) dX2_mayLead_24 rfl rfl ?_
      refine g_ogetI C (ci := 4) (slot := 1) rfl (by decide) inlX4 (by decide) rfl q313 dX2_mayLead_25 h (fun a4 hra4 h hLa4 hKa4 => ?_)
      refine g_iload_n C (q := 1) dX2_mayLead_28 rfl rfl ?_
      refine g_callVI C (ci := 2) (As := [.int (zI S1 a4 1), .int x1]) (np := 2) (st := []) (r := (some x0)) rfl (by decide) (fun b2 q hq => c_X2_isBusyOn S1 b2 (zI S1 a4 1) x1 q hq) gv_RX2_X2_isBusyOn rfl rfl dsX2_isBusyOn rfl ⟨Nat.le_of_ble_eq_true rfl, Nat.le_of_ble_eq_true rfl⟩ rfl (cat_sum (Nat.le_of_ble_eq_true rfl)) ⟨Nat.zero_le _, Nat.zero_le _⟩ dX2_mayLead_29 h (fun v2 S2 h => ?_)
      refine g_if_ne C (tgt := 39) dX2_mayLead_32 (by decide) h (fun h => ?_) (fun h => ?_)
      · refine g_iconst C (v := 1) dX2_mayLead_35 (by decide) ?_
        refine g_goto C (tgt := 40) dX2_mayLead_36 (by decide) ?_
        exact g_zret C hQ (by decide) dX2_mayLead_40 h
      · refine g_iconst C (v := 0) dX2_mayLead_39 (by decide) ?_
        exact g_zret C hQ (by decide) dX2_mayLead_40 h
  · refine g_iconst C (v := 0) dX2_mayLead_39 (by decide) ?_
    exact g_zret C hQ (by decide) dX2_mayLead_40 h

abbrev rm_X2_ratioOf : Room := { frames := 0, cells := 0, slots := 0, locals := 0 }
theorem dsX2_ratioOf : yX2_ratioOf.cls = RX2 ∧ yX2_ratioOf.cls ≠ "java/lang/invoke/MethodHandle" ∧ yX2_ratioOf.cls ≠ "java/lang/invoke/VarHandle" ∧ (parseMethodDescriptor yX2_ratioOf.desc).map (fun d => d.parameters.length) = some 2 := by decide +kernel
def f_X2_ratioOf (S : Hp) (x0 : Nat) (x1 : Int32) (x2 : Option Nat) : Option (Int32 × Hp) :=
 ob S 4 x2 fun a1 =>
 ob S 2 (some x0) fun _ =>
 ar S 10 (zR S x0 0) x1 fun a3 i1 =>
 ob S 0 (zR S a3 i1) fun a4 =>
 bnd ((((zI S a1 3) + (zI S a4 0)) - 2)) fun v1 =>
 if 1 ≤ v1 then
 some (v1, S)
 else
 some ((1 : Int32), S)
set_option maxHeartbeats 4000000 in
set_option maxRecDepth 100000 in
theorem c_X2_ratioOf (S : Hp) (x0 : Nat) (x1 : Int32) (x2 : Option Nat) (o : Int32 × Hp) (h : f_X2_ratioOf S x0 x1 x2 = some o) : CtI yX2_ratioOf cX2_ratioOf 4 (some .int) rm_X2_ratioOf 0 0 [va_rf (some x0), .int x1, va_rf x2] S o := by
  refine ct_I (own := RX2) (by decide) rfl (by simp [lg_sl, va_rf_cat, catI, catJ, catD]) (fun X C hn hQ => ?_)
  have hn3 : 3 < xn X := by rw [hn]; decide
  unfold f_X2_ratioOf at h
  rw [show lv_args 0 [va_rf (some x0), .int x1, va_rf x2] = [(0, va_rf (some x0)), (1, .int x1), (2, va_rf x2)] by simp [lv_args, va_rf_cat, catI, catJ, catD]]
  refine g_aload_n C (q := 2) dX2_ratioOf_0 rfl rfl ?_
  refine g_ogetI C (ci := 4) (slot := 3) rfl (by decide) inlX4 (by decide) rfl q98 dX2_ratioOf_1 h (fun a1 hra1 h hLa1 hKa1 => ?_)
  refine g_aload_n C (q := 0) dX2_ratioOf_4 rfl rfl ?_
  refine g_ogetSR C (ci := 2) (slot := 0) rfl (by decide) inlX2 (by decide) rfl q27 dX2_ratioOf_5 h (fun h hLa2 hKa2 => ?_)
  refine g_iload_n C (q := 1) dX2_ratioOf_8 rfl rfl ?_
  refine g_aald10 C dX2_ratioOf_9 h (fun a3 i1 h => ?_)
  refine g_ogetI C (ci := 0) (slot := 0) rfl (by decide) inlX0 (by decide) rfl q99 dX2_ratioOf_10 h (fun a4 hra4 h hLa4 hKa4 => ?_)
  refine g_iadd C dX2_ratioOf_13 ?_
  refine g_iconst C (v := 2) dX2_ratioOf_14 (by decide) ?_
  refine g_isub C dX2_ratioOf_15 ?_
  refine g_nmI h (fun v1 h => ?_)
  refine g_istore_n C (i := 3) (lv' := [(3, .int v1), (0, va_rf (some x0)), (1, .int x1), (2, va_rf x2)]) dX2_ratioOf_16 rfl hn3 (by simp [va_rf_cat, catI, catJ, catD]) ?_
  refine g_iload_n C (q := 0) dX2_ratioOf_17 rfl rfl ?_
  refine g_iconst C (v := 1) dX2_ratioOf_18 (by decide) ?_
  refine g_icmp_ge C (tgt := 26) dX2_ratioOf_19 (by decide) h (fun h => ?_) (fun h => ?_)
  · refine g_iload_n C (q := 0) dX2_ratioOf_26 rfl rfl ?_
    exact g_iret C hQ dX2_ratioOf_27 h
  · refine g_iconst C (v := 1) dX2_ratioOf_22 (by decide) ?_
    refine g_goto C (tgt := 27) dX2_ratioOf_23 (by decide) ?_
    exact g_iret C hQ dX2_ratioOf_27 h

abbrev rm_X2_leftAfter : Room := { frames := 1, cells := 0, slots := 0, locals := 23 }
theorem dsX2_leftAfter : yX2_leftAfter.cls = RX2 ∧ yX2_leftAfter.cls ≠ "java/lang/invoke/MethodHandle" ∧ yX2_leftAfter.cls ≠ "java/lang/invoke/VarHandle" ∧ (parseMethodDescriptor yX2_leftAfter.desc).map (fun d => d.parameters.length) = some 2 := by decide +kernel
theorem gv_RX2_X2_ratioOf : GoodIn wsL_law (wsV RX2 94 RX2 yX2_ratioOf (.code yX2_ratioOf cX2_ratioOf 4 (some .int) :: wsL_law)) := good_V q94 q95 q96 q11 q97
def f_X2_leftAfter_L8_b (rec : Hp → Nat → Option Nat → Int32 → Int32 → Int32 → Option (Int32 × Hp)) (S : Hp) (x0 : Nat) (y1 : Option Nat) (y2 : Int32) (y3 : Int32) (y4 : Int32) : Option (Int32 × Hp) :=
 if y2 ≤ y4 then
 if 0 ≤ y3 then
 some (y3, S)
 else
 some ((0 : Int32), S)
 else
 ob S 4 y1 fun a1 =>
 ar S 9 (zR S a1 0) y4 fun a2 i1 =>
 ob S 2 (some x0) fun b1 => cl (f_X2_ratioOf S b1 (zI S a2 i1) y1) fun v1 S1 =>
 bnd ((y3 - v1)) fun v2 =>
 bnd (y4 + 1) fun v3 =>
 rec S1 x0 y1 y2 v2 v3
def f_X2_leftAfter_L8 : Nat → Hp → Nat → Option Nat → Int32 → Int32 → Int32 → Option (Int32 × Hp)
  | 0 => fun _ _ _ _ _ _ => none
  | n + 1 => f_X2_leftAfter_L8_b (f_X2_leftAfter_L8 n)
def f_X2_leftAfter (S : Hp) (x0 : Nat) (x1 : Option Nat) (x2 : Int32) : Option (Int32 × Hp) :=
 ob S 4 x1 fun a1 =>
 bnd ((zI S a1 6)) fun v1 =>
 f_X2_leftAfter_L8 1000 S x0 x1 x2 v1 (0 : Int32)
set_option maxHeartbeats 4000000 in
set_option maxRecDepth 100000 in
theorem w_X2_leftAfter_L8 {X : Cx} (C : CxOK X cX2_leftAfter RX2 rm_X2_leftAfter) (hn : xn X = 5) {S0 : Hp} {o : Int32 × Hp} (hQ : QI X (some .int) S0 0 0 o) : ∀ (fuel : Nat) (S : Hp) (x0 : Nat) (y1 : Option Nat) (y2 : Int32) (y3 : Int32) (y4 : Int32), f_X2_leftAfter_L8 fuel S x0 y1 y2 y3 y4 = some o → GW X 0 0 S 8 [(0, va_rf (some x0)), (1, va_rf y1), (2, .int y2), (3, .int y3), (4, .int y4)] [] := by
  have hn3 : 3 < xn X := by rw [hn]; decide
  have hn4 : 4 < xn X := by rw [hn]; decide
  intro fuel
  induction fuel with
  | zero => intro S x0 y1 y2 y3 y4 h; cases (show none = some o from h)
  | succ fuel ih =>
    intro S x0 y1 y2 y3 y4 h
    have h : f_X2_leftAfter_L8_b (f_X2_leftAfter_L8 fuel) S x0 y1 y2 y3 y4 = some o := h
    unfold f_X2_leftAfter_L8_b at h
    refine g_iload C (q := 4) dX2_leftAfter_8 rfl ?_
    refine g_iload_n C (q := 2) dX2_leftAfter_10 rfl rfl ?_
    refine g_icmp_ge C (tgt := 35) dX2_leftAfter_11 (by decide) h (fun h => ?_) (fun h => ?_)
    · refine g_iload_n C (q := 3) dX2_leftAfter_35 rfl rfl ?_
      refine g_if_ge C (tgt := 43) dX2_leftAfter_36 (by decide) h (fun h => ?_) (fun h => ?_)
      · refine g_iload_n C (q := 3) dX2_leftAfter_43 rfl rfl ?_
        exact g_iret C hQ dX2_leftAfter_44 h
      · refine g_iconst C (v := 0) dX2_leftAfter_39 (by decide) ?_
        refine g_goto C (tgt := 44) dX2_leftAfter_40 (by decide) ?_
        exact g_iret C hQ dX2_leftAfter_44 h
    · refine g_iload_n C (q := 3) dX2_leftAfter_14 rfl rfl ?_
      refine g_aload_n C (q := 0) dX2_leftAfter_15 rfl rfl ?_
      refine g_aload_n C (q := 1) dX2_leftAfter_16 rfl rfl ?_
      refine g_ogetR C (ci := 4) (slot := 0) rfl (by decide) inlX4 (by decide) rfl q93 dX2_leftAfter_17 h (fun a1 hra1 h hLa1 hKa1 => ?_)
      refine g_iload C (q := 4) dX2_leftAfter_20 rfl ?_
      refine g_iald C dX2_leftAfter_22 h (fun a2 i1 h => ?_)
      refine g_aload_n C (q := 1) dX2_leftAfter_23 rfl rfl ?_
      refine g_callVI C (ci := 2) (As := [.int (zI S a2 i1), va_rf y1]) (np := 2) (st := [.int y3]) (r := (some x0)) rfl (by decide) (fun b1 q hq => c_X2_ratioOf S b1 (zI S a2 i1) y1 q hq) gv_RX2_X2_ratioOf rfl rfl dsX2_ratioOf rfl ⟨Nat.le_of_ble_eq_true rfl, Nat.le_of_ble_eq_true rfl⟩ rfl (cat_sum (Nat.le_of_ble_eq_true rfl)) ⟨Nat.zero_le _, Nat.zero_le _⟩ dX2_leftAfter_24 h (fun v1 S1 h => ?_)
      refine g_isub C dX2_leftAfter_27 ?_
      refine g_nmI h (fun v2 h => ?_)
      refine g_istore_n C (i := 3) (lv' := [(3, .int v2), (0, va_rf (some x0)), (1, va_rf y1), (2, .int y2), (4, .int y4)]) dX2_leftAfter_28 rfl hn3 rfl ?_
      obtain ⟨v3, ev3, h⟩ := bnd_ex h
      refine g_iinc C (i := 4) (lv' := [(4, .int v3), (3, .int v2), (0, va_rf (some x0)), (1, va_rf y1), (2, .int y2)]) (q := 4) v3 dX2_leftAfter_29 rfl ev3 hn4 rfl ?_
      refine g_goto C (tgt := 8) dX2_leftAfter_32 (by decide) ?_
      refine g_sub (lv' := [(0, va_rf (some x0)), (1, va_rf y1), (2, .int y2), (3, .int v2), (4, .int v3)]) [2, 3, 4, 1, 0] rfl ?_
      exact ih S1 x0 y1 y2 v2 v3 h
set_option maxHeartbeats 4000000 in
set_option maxRecDepth 100000 in
theorem c_X2_leftAfter (S : Hp) (x0 : Nat) (x1 : Option Nat) (x2 : Int32) (o : Int32 × Hp) (h : f_X2_leftAfter S x0 x1 x2 = some o) : CtI yX2_leftAfter cX2_leftAfter 5 (some .int) rm_X2_leftAfter 0 0 [va_rf (some x0), va_rf x1, .int x2] S o := by
  refine ct_I (own := RX2) (by decide) rfl (by simp [lg_sl, va_rf_cat, catI, catJ, catD]) (fun X C hn hQ => ?_)
  have hn3 : 3 < xn X := by rw [hn]; decide
  have hn4 : 4 < xn X := by rw [hn]; decide
  unfold f_X2_leftAfter at h
  rw [show lv_args 0 [va_rf (some x0), va_rf x1, .int x2] = [(0, va_rf (some x0)), (1, va_rf x1), (2, .int x2)] by simp [lv_args, va_rf_cat, catI, catJ, catD]]
  refine g_aload_n C (q := 1) dX2_leftAfter_0 rfl rfl ?_
  refine g_ogetI C (ci := 4) (slot := 6) rfl (by decide) inlX4 (by decide) rfl q85 dX2_leftAfter_1 h (fun a1 hra1 h hLa1 hKa1 => ?_)
  refine g_nmI h (fun v1 h => ?_)
  refine g_istore_n C (i := 3) (lv' := [(3, .int v1), (0, va_rf (some x0)), (1, va_rf x1), (2, .int x2)]) dX2_leftAfter_4 rfl hn3 rfl ?_
  refine g_iconst C (v := 0) dX2_leftAfter_5 (by decide) ?_
  refine g_istore C (i := 4) (lv' := [(4, .int 0), (3, .int v1), (0, va_rf (some x0)), (1, va_rf x1), (2, .int x2)]) dX2_leftAfter_6 hn4 rfl ?_
  refine g_sub (lv' := [(0, va_rf (some x0)), (1, va_rf x1), (2, .int x2), (3, .int v1), (4, .int 0)]) [2, 3, 4, 1, 0] rfl ?_
  exact w_X2_leftAfter_L8 C hn hQ 1000 S x0 x1 x2 v1 (0 : Int32) h

abbrev rm_X2_guestsOnRope : Room := { frames := 2, cells := 0, slots := 0, locals := 47 }
theorem dsX2_guestsOnRope : yX2_guestsOnRope.cls = RX2 ∧ yX2_guestsOnRope.cls ≠ "java/lang/invoke/MethodHandle" ∧ yX2_guestsOnRope.cls ≠ "java/lang/invoke/VarHandle" ∧ (parseMethodDescriptor yX2_guestsOnRope.desc).map (fun d => d.parameters.length) = some 2 := by decide +kernel
theorem gv_RX2_X2_leftAfter : GoodIn wsL_law (wsV RX2 98 RX2 yX2_leftAfter (.code yX2_leftAfter cX2_leftAfter 5 (some .int) :: wsL_law)) := good_V q89 q90 q91 q11 q92
def f_X2_guestsOnRope (S : Hp) (x0 : Nat) (x1 : Option Nat) (x2 : Int32) : Option (Int32 × Hp) :=
 ob S 2 (some x0) fun b1 => cl (f_X2_leftAfter S b1 x1 x2) fun v1 S1 =>
 ob S1 2 (some x0) fun b2 => cl (f_X2_leftAfter S1 b2 x1 (x2 + 1)) fun v2 S2 =>
 some ((v1 - v2), S2)
set_option maxHeartbeats 4000000 in
set_option maxRecDepth 100000 in
theorem c_X2_guestsOnRope (S : Hp) (x0 : Nat) (x1 : Option Nat) (x2 : Int32) (o : Int32 × Hp) (h : f_X2_guestsOnRope S x0 x1 x2 = some o) : CtI yX2_guestsOnRope cX2_guestsOnRope 3 (some .int) rm_X2_guestsOnRope 0 0 [va_rf (some x0), va_rf x1, .int x2] S o := by
  refine ct_I (own := RX2) (by decide) rfl (by simp [lg_sl, va_rf_cat, catI, catJ, catD]) (fun X C hn hQ => ?_)
  unfold f_X2_guestsOnRope at h
  rw [show lv_args 0 [va_rf (some x0), va_rf x1, .int x2] = [(0, va_rf (some x0)), (1, va_rf x1), (2, .int x2)] by simp [lv_args, va_rf_cat, catI, catJ, catD]]
  refine g_aload_n C (q := 0) dX2_guestsOnRope_0 rfl rfl ?_
  refine g_aload_n C (q := 1) dX2_guestsOnRope_1 rfl rfl ?_
  refine g_iload_n C (q := 2) dX2_guestsOnRope_2 rfl rfl ?_
  refine g_callVI C (ci := 2) (As := [va_rf x1, .int x2]) (np := 2) (st := []) (r := (some x0)) rfl (by decide) (fun b1 q hq => c_X2_leftAfter S b1 x1 x2 q hq) gv_RX2_X2_leftAfter rfl rfl dsX2_leftAfter rfl ⟨Nat.le_of_ble_eq_true rfl, Nat.le_of_ble_eq_true rfl⟩ rfl (cat_sum (Nat.le_of_ble_eq_true rfl)) ⟨Nat.zero_le _, Nat.zero_le _⟩ dX2_guestsOnRope_3 h (fun v1 S1 h => ?_)
  refine g_aload_n C (q := 0) dX2_guestsOnRope_6 rfl rfl ?_
  refine g_aload_n C (q := 1) dX2_guestsOnRope_7 rfl rfl ?_
  refine g_iload_n C (q := 2) dX2_guestsOnRope_8 rfl rfl ?_
  refine g_iconst C (v := 1) dX2_guestsOnRope_9 (by decide) ?_
  refine g_iadd C dX2_guestsOnRope_10 ?_
  refine g_callVI C (ci := 2) (As := [va_rf x1, .int (x2 + 1)]) (np := 2) (st := [.int v1]) (r := (some x0)) rfl (by decide) (fun b2 q hq => c_X2_leftAfter S1 b2 x1 (x2 + 1) q hq) gv_RX2_X2_leftAfter rfl rfl dsX2_leftAfter rfl ⟨Nat.le_of_ble_eq_true rfl, Nat.le_of_ble_eq_true rfl⟩ rfl (cat_sum (Nat.le_of_ble_eq_true rfl)) ⟨Nat.zero_le _, Nat.zero_le _⟩ dX2_guestsOnRope_11 h (fun v2 S2 h => ?_)
  refine g_isub C dX2_guestsOnRope_14 ?_
  exact g_iret C hQ dX2_guestsOnRope_15 h

abbrev rm_X2_firstOpenTourOf : Room := { frames := 1, cells := 0, slots := 0, locals := 22 }
theorem dsX2_firstOpenTourOf : yX2_firstOpenTourOf.cls = RX2 ∧ yX2_firstOpenTourOf.cls ≠ "java/lang/invoke/MethodHandle" ∧ yX2_firstOpenTourOf.cls ≠ "java/lang/invoke/VarHandle" ∧ (parseMethodDescriptor yX2_firstOpenTourOf.desc).map (fun d => d.parameters.length) = some 1 := by decide +kernel
def f_X2_firstOpenTourOf_L2_b (rec : Hp → Nat → Int32 → Int32 → Option (Int32 × Hp)) (S : Hp) (x0 : Nat) (y1 : Int32) (y2 : Int32) : Option (Int32 × Hp) :=
 ob S 2 (some x0) fun _ =>
 if (zI S x0 5) ≤ y2 then
 some ((-5 : Int32), S)
 else
 ar S 12 (zR S x0 2) y2 fun a2 i1 =>
 ob S 4 (zR S a2 i1) fun a3 =>
 if (zI S a3 9) = 0 then
 ar S 12 (zR S x0 2) y2 fun a4 i2 =>
 ob S 4 (zR S a4 i2) fun b1 => cl (f_X4_hasInRow S b1 y1) fun v1 S1 =>
 if v1 = 0 then
 bnd (y2 + 1) fun v2 =>
 rec S1 x0 y1 v2
 else
 some (y2, S1)
 else
 bnd (y2 + 1) fun v3 =>
 rec S x0 y1 v3
def f_X2_firstOpenTourOf_L2 : Nat → Hp → Nat → Int32 → Int32 → Option (Int32 × Hp)
  | 0 => fun _ _ _ _ => none
  | n + 1 => f_X2_firstOpenTourOf_L2_b (f_X2_firstOpenTourOf_L2 n)
def f_X2_firstOpenTourOf (S : Hp) (x0 : Nat) (x1 : Int32) : Option (Int32 × Hp) :=
 f_X2_firstOpenTourOf_L2 1000 S x0 x1 (0 : Int32)
set_option maxHeartbeats 4000000 in
set_option maxRecDepth 100000 in
theorem w_X2_firstOpenTourOf_L2 {X : Cx} (C : CxOK X cX2_firstOpenTourOf RX2 rm_X2_firstOpenTourOf) (hn : xn X = 3) {S0 : Hp} {o : Int32 × Hp} (hQ : QI X (some .int) S0 0 0 o) : ∀ (fuel : Nat) (S : Hp) (x0 : Nat) (y1 : Int32) (y2 : Int32), f_X2_firstOpenTourOf_L2 fuel S x0 y1 y2 = some o → GW X 0 0 S 2 [(0, va_rf (some x0)), (1, .int y1), (2, .int y2)] [] := by
  have hn2 : 2 < xn X := by rw [hn]; decide
  intro fuel
  induction fuel with
  | zero => intro S x0 y1 y2 h; cases (show none = some o from h)
  | succ fuel ih =>
    intro S x0 y1 y2 h
    have h : f_X2_firstOpenTourOf_L2_b (f_X2_firstOpenTourOf_L2 fuel) S x0 y1 y2 = some o := h
    unfold f_X2_firstOpenTourOf_L2_b at h
    refine g_iload_n C (q := 2) dX2_firstOpenTourOf_2 rfl rfl ?_
    refine g_aload_n C (q := 0) dX2_firstOpenTourOf_3 rfl rfl ?_
    refine g_ogetSI C (ci := 2) (slot := 5) rfl (by decide) inlX2 (by decide) rfl q80 dX2_firstOpenTourOf_4 h (fun h hLa1 hKa1 => ?_)
    refine g_icmp_ge C (tgt := 43) dX2_firstOpenTourOf_7 (by decide) h (fun h => ?_) (fun h => ?_)
    · refine g_bipush C (v := (-5)) dX2_firstOpenTourOf_43 (by decide) ?_
      exact g_iret C hQ dX2_firstOpenTourOf_45 h
    · refine g_aload_n C (q := 0) dX2_firstOpenTourOf_10 rfl rfl ?_
      refine g_getER C (ci := 2) (slot := 2) rfl (by decide) inlX2 (by decide) rfl q33 dX2_firstOpenTourOf_11 rfl hLa1 hKa1 ?_
      refine g_iload_n C (q := 2) dX2_firstOpenTourOf_14 rfl rfl ?_
      refine g_aald12 C dX2_firstOpenTourOf_15 h (fun a2 i1 h => ?_)
      refine g_ogetI C (ci := 4) (slot := 9) rfl (by decide) inlX4 (by decide) rfl q312 dX2_firstOpenTourOf_16 h (fun a3 hra3 h hLa3 hKa3 => ?_)
      refine g_if_ne C (tgt := 37) dX2_firstOpenTourOf_19 (by decide) h (fun h => ?_) (fun h => ?_)
      · refine g_aload_n C (q := 0) dX2_firstOpenTourOf_22 rfl rfl ?_
        refine g_getER C (ci := 2) (slot := 2) rfl (by decide) inlX2 (by decide) rfl q33 dX2_firstOpenTourOf_23 rfl hLa1 hKa1 ?_
        refine g_iload_n C (q := 2) dX2_firstOpenTourOf_26 rfl rfl ?_
        refine g_aald12 C dX2_firstOpenTourOf_27 h (fun a4 i2 h => ?_)
        refine g_iload_n C (q := 1) dX2_firstOpenTourOf_28 rfl rfl ?_
        refine g_callVI C (ci := 4) (As := [.int y1]) (np := 1) (st := []) (r := (zR S a4 i2)) rfl (by decide) (fun b1 q hq => c_X4_hasInRow S b1 y1 q hq) gv_RX2_X4_hasInRow rfl rfl dsX4_hasInRow rfl ⟨Nat.le_of_ble_eq_true rfl, Nat.le_of_ble_eq_true rfl⟩ rfl (cat_sum (Nat.le_of_ble_eq_true rfl)) ⟨Nat.zero_le _, Nat.zero_le _⟩ dX2_firstOpenTourOf_29 h (fun v1 S1 h => ?_)
        refine g_if_eq C (tgt := 37) dX2_firstOpenTourOf_32 (by decide) h (fun h => ?_) (fun h => ?_)
        · obtain ⟨v2, ev2, h⟩ := bnd_ex h
          refine g_iinc C (i := 2) (lv' := [(2, .int v2), (0, va_rf (some x0)), (1, .int y1)]) (q := 2) v2 dX2_firstOpenTourOf_37 rfl ev2 hn2 rfl ?_
          refine g_goto C (tgt := 2) dX2_firstOpenTourOf_40 (by decide) ?_
          refine g_sub (lv' := [(0, va_rf (some x0)), (1, .int y1), (2, .int v2)]) [1, 2, 0] rfl ?_
          exact ih S1 x0 y1 v2 h
        · refine g_iload_n C (q := 2) dX2_firstOpenTourOf_35 rfl rfl ?_
          exact g_iret C hQ dX2_firstOpenTourOf_36 h
      · obtain ⟨v3, ev3, h⟩ := bnd_ex h
        refine g_iinc C (i := 2) (lv' := [(2, .int v3), (0, va_rf (some x0)), (1, .int y1)]) (q := 2) v3 dX2_firstOpenTourOf_37 rfl ev3 hn2 rfl ?_
        refine g_goto C (tgt := 2) dX2_firstOpenTourOf_40 (by decide) ?_
        refine g_sub (lv' := [(0, va_rf (some x0)), (1, .int y1), (2, .int v3)]) [1, 2, 0] rfl ?_
        exact ih S x0 y1 v3 h
set_option maxHeartbeats 4000000 in
set_option maxRecDepth 100000 in
theorem c_X2_firstOpenTourOf (S : Hp) (x0 : Nat) (x1 : Int32) (o : Int32 × Hp) (h : f_X2_firstOpenTourOf S x0 x1 = some o) : CtI yX2_firstOpenTourOf cX2_firstOpenTourOf 3 (some .int) rm_X2_firstOpenTourOf 0 0 [va_rf (some x0), .int x1] S o := by
  refine ct_I (own := RX2) (by decide) rfl (Nat.le_of_ble_eq_true rfl) (fun X C hn hQ => ?_)
  have hn2 : 2 < xn X := by rw [hn]; decide
  unfold f_X2_firstOpenTourOf at h
  show GW X 0 0 S 0 [(0, va_rf (some x0)), (1, .int x1)] []
  refine g_iconst C (v := 0) dX2_firstOpenTourOf_0 (by decide) ?_
  refine g_istore_n C (i := 2) (lv' := [(2, .int 0), (0, va_rf (some x0)), (1, .int x1)]) dX2_firstOpenTourOf_1 rfl hn2 rfl ?_
  refine g_sub (lv' := [(0, va_rf (some x0)), (1, .int x1), (2, .int 0)]) [1, 2, 0] rfl ?_
  exact w_X2_firstOpenTourOf_L2 C hn hQ 1000 S x0 x1 (0 : Int32) h

abbrev rm_X2_neededBy : Room := { frames := 2, cells := 0, slots := 0, locals := 47 }
theorem dsX2_neededBy : yX2_neededBy.cls = RX2 ∧ yX2_neededBy.cls ≠ "java/lang/invoke/MethodHandle" ∧ yX2_neededBy.cls ≠ "java/lang/invoke/VarHandle" ∧ (parseMethodDescriptor yX2_neededBy.desc).map (fun d => d.parameters.length) = some 1 := by decide +kernel
def f_X2_neededBy_L10_b (rec : Hp → Nat → Option Nat → Int32 → Int32 → Int32 → Option (UInt64 × Hp)) (S : Hp) (x0 : Nat) (y1 : Option Nat) (y2 : Int32) (y3 : Int32) (y4 : Int32) : Option (UInt64 × Hp) :=
 ob S 4 y1 fun a1 =>
 if (zI S a1 7) ≤ y4 then
 fpg (FP.dmul 4612811918334230528 (FP.i2d (y2 + 1))) <|
 fpg (FP.dadd 4624633867356078080 (FP.dmul 4612811918334230528 (FP.i2d (y2 + 1)))) <|
 some ((FP.dadd 4624633867356078080 (FP.dmul 4612811918334230528 (FP.i2d (y2 + 1)))), S)
 else
 ob S 2 (some x0) fun b1 => cl (f_X2_leftAfter S b1 y1 (y4 + 1)) fun v1 S1 =>
 if (y3 - v1) ≤ y2 then
 bnd (y4 + 1) fun v2 =>
 rec S1 x0 y1 y2 v1 v2
 else
 bnd ((y3 - v1)) fun v3 =>
 bnd (y4 + 1) fun v4 =>
 rec S1 x0 y1 v3 v1 v4
def f_X2_neededBy_L10 : Nat → Hp → Nat → Option Nat → Int32 → Int32 → Int32 → Option (UInt64 × Hp)
  | 0 => fun _ _ _ _ _ _ => none
  | n + 1 => f_X2_neededBy_L10_b (f_X2_neededBy_L10 n)
def f_X2_neededBy (S : Hp) (x0 : Nat) (x1 : Option Nat) : Option (UInt64 × Hp) :=
 ob S 4 x1 fun a1 =>
 bnd ((zI S a1 6)) fun v1 =>
 f_X2_neededBy_L10 1000 S x0 x1 (0 : Int32) v1 (0 : Int32)
set_option maxHeartbeats 4000000 in
set_option maxRecDepth 100000 in
theorem w_X2_neededBy_L10 {X : Cx} (C : CxOK X cX2_neededBy RX2 rm_X2_neededBy) (hn : xn X = 6) {S0 : Hp} {o : UInt64 × Hp} (hQ : QD X (some .double) S0 0 0 o) : ∀ (fuel : Nat) (S : Hp) (x0 : Nat) (y1 : Option Nat) (y2 : Int32) (y3 : Int32) (y4 : Int32), f_X2_neededBy_L10 fuel S x0 y1 y2 y3 y4 = some o → GW X 0 0 S 10 [(0, va_rf (some x0)), (1, va_rf y1), (2, .int y2), (3, .int y3), (4, .int y4)] [] := by
  have hn2 : 2 < xn X := by rw [hn]; decide
  have hn3 : 3 < xn X := by rw [hn]; decide
  have hn4 : 4 < xn X := by rw [hn]; decide
  have hn5 : 5 < xn X := by rw [hn]; decide
  intro fuel
  induction fuel with
  | zero => intro S x0 y1 y2 y3 y4 h; cases (show none = some o from h)
  | succ fuel ih =>
    intro S x0 y1 y2 y3 y4 h
    have h : f_X2_neededBy_L10_b (f_X2_neededBy_L10 fuel) S x0 y1 y2 y3 y4 = some o := h
    unfold f_X2_neededBy_L10_b at h
    refine g_iload C (q := 4) dX2_neededBy_10 rfl ?_
    refine g_aload_n C (q := 1) dX2_neededBy_12 rfl rfl ?_
    refine g_ogetI C (ci := 4) (slot := 7) rfl (by decide) inlX4 (by decide) rfl q86 dX2_neededBy_13 h (fun a1 hra1 h hLa1 hKa1 => ?_)
    refine g_icmp_ge C (tgt := 56) dX2_neededBy_16 (by decide) h (fun h => ?_) (fun h => ?_)
    · refine g_ldc2d C q87 dX2_neededBy_56 ?_
      refine g_ldc2d C q88 dX2_neededBy_59 ?_
      refine g_iload_n C (q := 2) dX2_neededBy_62 rfl rfl ?_
      refine g_iconst C (v := 1) dX2_neededBy_63 (by decide) ?_
      refine g_iadd C dX2_neededBy_64 ?_
      refine g_i2d C dX2_neededBy_65 ?_
      refine g_dmul C dX2_neededBy_66 h (fun h => ?_)
      refine g_dadd C dX2_neededBy_67 h (fun h => ?_)
      exact g_dret C hQ dX2_neededBy_68 h
    · refine g_aload_n C (q := 0) dX2_neededBy_19 rfl rfl ?_
      refine g_aload_n C (q := 1) dX2_neededBy_20 rfl rfl ?_
      refine g_iload C (q := 4) dX2_neededBy_21 rfl ?_
      refine g_iconst C (v := 1) dX2_neededBy_23 (by decide) ?_
      refine g_iadd C dX2_neededBy_24 ?_
      refine g_callVI C (ci := 2) (As := [va_rf y1, .int (y4 + 1)]) (np := 2) (st := []) (r := (some x0)) rfl (by decide) (fun b1 q hq => c_X2_leftAfter S b1 y1 (y4 + 1) q hq) gv_RX2_X2_leftAfter rfl rfl dsX2_leftAfter rfl ⟨Nat.le_of_ble_eq_true rfl, Nat.le_of_ble_eq_true rfl⟩ rfl (cat_sum (Nat.le_of_ble_eq_true rfl)) ⟨Nat.zero_le _, Nat.zero_le _⟩ dX2_neededBy_25 h (fun v1 S1 h => ?_)
      refine g_istore C (i := 5) (lv' := [(5, .int v1), (0, va_rf (some x0)), (1, va_rf y1), (2, .int y2), (3, .int y3), (4, .int y4)]) dX2_neededBy_28 hn5 rfl ?_
      refine g_iload_n C (q := 4) dX2_neededBy_30 rfl rfl ?_
      refine g_iload C (q := 0) dX2_neededBy_31 rfl ?_
      refine g_isub C dX2_neededBy_33 ?_
      refine g_iload_n C (q := 3) dX2_neededBy_34 rfl rfl ?_
      refine g_icmp_le C (tgt := 45) dX2_neededBy_35 (by decide) h (fun h => ?_) (fun h => ?_)
      · refine g_iload_n C (q := 3) dX2_neededBy_45 rfl rfl ?_
        refine g_istore_n C (i := 2) (lv' := [(2, .int y2), (5, .int v1), (0, va_rf (some x0)), (1, va_rf y1), (3, .int y3), (4, .int y4)]) dX2_neededBy_46 rfl hn2 (by simp [va_rf_cat, catI, catJ, catD]) ?_
        refine g_iload C (q := 1) dX2_neededBy_47 rfl ?_
        refine g_istore_n C (i := 3) (lv' := [(3, .int v1), (2, .int y2), (5, .int v1), (0, va_rf (some x0)), (1, va_rf y1), (4, .int y4)]) dX2_neededBy_49 rfl hn3 rfl ?_
        obtain ⟨v2, ev2, h⟩ := bnd_ex h
        refine g_iinc C (i := 4) (lv' := [(4, .int v2), (3, .int v1), (2, .int y2), (5, .int v1), (0, va_rf (some x0)), (1, va_rf y1)]) (q := 5) v2 dX2_neededBy_50 rfl ev2 hn4 rfl ?_
        refine g_goto C (tgt := 10) dX2_neededBy_53 (by decide) ?_
        refine g_sub (lv' := [(0, va_rf (some x0)), (1, va_rf y1), (2, .int y2), (3, .int v1), (4, .int v2)]) [4, 5, 2, 1, 0] rfl ?_
        exact ih S1 x0 y1 y2 v1 v2 h
      · refine g_iload_n C (q := 4) dX2_neededBy_38 rfl rfl ?_
        refine g_iload C (q := 0) dX2_neededBy_39 rfl ?_
        refine g_isub C dX2_neededBy_41 ?_
        refine g_goto C (tgt := 46) dX2_neededBy_42 (by decide) ?_
        refine g_nmI h (fun v3 h => ?_)
        refine g_istore_n C (i := 2) (lv' := [(2, .int v3), (5, .int v1), (0, va_rf (some x0)), (1, va_rf y1), (3, .int y3), (4, .int y4)]) dX2_neededBy_46 rfl hn2 (by simp [va_rf_cat, catI, catJ, catD]) ?_
        refine g_iload C (q := 1) dX2_neededBy_47 rfl ?_
        refine g_istore_n C (i := 3) (lv' := [(3, .int v1), (2, .int v3), (5, .int v1), (0, va_rf (some x0)), (1, va_rf y1), (4, .int y4)]) dX2_neededBy_49 rfl hn3 rfl ?_
        obtain ⟨v4, ev4, h⟩ := bnd_ex h
        refine g_iinc C (i := 4) (lv' := [(4, .int v4), (3, .int v1), (2, .int v3), (5, .int v1), (0, va_rf (some x0)), (1, va_rf y1)]) (q := 5) v4 dX2_neededBy_50 rfl ev4 hn4 rfl ?_
        refine g_goto C (tgt := 10) dX2_neededBy_53 (by decide) ?_
        refine g_sub (lv' := [(0, va_rf (some x0)), (1, va_rf y1), (2, .int v3), (3, .int v1), (4, .int v4)]) [4, 5, 2, 1, 0] rfl ?_
        exact ih S1 x0 y1 v3 v1 v4 h
set_option maxHeartbeats 4000000 in
set_option maxRecDepth 100000 in
theorem c_X2_neededBy (S : Hp) (x0 : Nat) (x1 : Option Nat) (o : UInt64 × Hp) (h : f_X2_neededBy S x0 x1 = some o) : CtD yX2_neededBy cX2_neededBy 6 (some .double) rm_X2_neededBy 0 0 [va_rf (some x0), va_rf x1] S o := by
  refine ct_D (own := RX2) (by decide) rfl (by simp [lg_sl, va_rf_cat, catI, catJ, catD]) (fun X C hn hQ => ?_)
  have hn2 : 2 < xn X := by rw [hn]; decide
  have hn3 : 3 < xn X := by rw [hn]; decide
  have hn4 : 4 < xn X := by rw [hn]; decide
  unfold f_X2_neededBy at h
  rw [show lv_args 0 [va_rf (some x0), va_rf x1] = [(0, va_rf (some x0)), (1, va_rf x1)] by simp [lv_args, va_rf_cat, catI, catJ, catD]]
  refine g_iconst C (v := 0) dX2_neededBy_0 (by decide) ?_
  refine g_istore_n C (i := 2) (lv' := [(2, .int 0), (0, va_rf (some x0)), (1, va_rf x1)]) dX2_neededBy_1 rfl hn2 (by simp [va_rf_cat, catI, catJ, catD]) ?_
  refine g_aload_n C (q := 2) dX2_neededBy_2 rfl rfl ?_
  refine g_ogetI C (ci := 4) (slot := 6) rfl (by decide) inlX4 (by decide) rfl q85 dX2_neededBy_3 h (fun a1 hra1 h hLa1 hKa1 => ?_)
  refine g_nmI h (fun v1 h => ?_)
  refine g_istore_n C (i := 3) (lv' := [(3, .int v1), (2, .int 0), (0, va_rf (some x0)), (1, va_rf x1)]) dX2_neededBy_6 rfl hn3 rfl ?_
  refine g_iconst C (v := 0) dX2_neededBy_7 (by decide) ?_
  refine g_istore C (i := 4) (lv' := [(4, .int 0), (3, .int v1), (2, .int 0), (0, va_rf (some x0)), (1, va_rf x1)]) dX2_neededBy_8 hn4 rfl ?_
  refine g_sub (lv' := [(0, va_rf (some x0)), (1, va_rf x1), (2, .int 0), (3, .int v1), (4, .int 0)]) [3, 4, 2, 1, 0] rfl ?_
  exact w_X2_neededBy_L10 C hn hQ 1000 S x0 x1 (0 : Int32) v1 (0 : Int32) h

abbrev rm_X2_allBridgesHold : Room := { frames := 3, cells := 0, slots := 0, locals := 72 }
theorem dsX2_allBridgesHold : yX2_allBridgesHold.cls = RX2 ∧ yX2_allBridgesHold.cls ≠ "java/lang/invoke/MethodHandle" ∧ yX2_allBridgesHold.cls ≠ "java/lang/invoke/VarHandle" ∧ (parseMethodDescriptor yX2_allBridgesHold.desc).map (fun d => d.parameters.length) = some 1 := by decide +kernel
theorem gv_RX2_X2_neededBy : GoodIn wsL_law (wsV RX2 108 RX2 yX2_neededBy (.code yX2_neededBy cX2_neededBy 6 (some .double) :: wsL_law)) := good_V q416 q82 q83 q11 q84
def f_X2_allBridgesHold_L9_b (rec : Hp → Nat → Option Nat → UInt64 → Int32 → Option (Int32 × Hp)) (S : Hp) (x0 : Nat) (y1 : Option Nat) (y2 : UInt64) (y4 : Int32) : Option (Int32 × Hp) :=
 ob S 2 (some x0) fun _ =>
 if (zI S x0 4) ≤ y4 then
 some ((1 : Int32), S)
 else
 ob S 4 y1 fun a2 =>
 if (((zI S a2 5) >>> (y4 &&& 31)) &&& 1) = 0 then
 bnd (y4 + 1) fun v1 =>
 rec S x0 y1 y2 v1
 else
 ar S 8 (zR S x0 1) y4 fun a3 i1 =>
 if 0 ≤ (Op.cmpValue (FP.dcmp (zD S a3 i1) y2) CmpOp.l) then
 bnd (y4 + 1) fun v2 =>
 rec S x0 y1 y2 v2
 else
 some ((0 : Int32), S)
def f_X2_allBridgesHold_L9 : Nat → Hp → Nat → Option Nat → UInt64 → Int32 → Option (Int32 × Hp)
  | 0 => fun _ _ _ _ _ => none
  | n + 1 => f_X2_allBridgesHold_L9_b (f_X2_allBridgesHold_L9 n)
def f_X2_allBridgesHold (S : Hp) (x0 : Nat) (x1 : Option Nat) : Option (Int32 × Hp) :=
 ob S 2 (some x0) fun b1 => cl (f_X2_neededBy S b1 x1) fun e1 S1 =>
 f_X2_allBridgesHold_L9 1000 S1 x0 x1 e1 (0 : Int32)
set_option maxHeartbeats 4000000 in
set_option maxRecDepth 100000 in
theorem w_X2_allBridgesHold_L9 {X : Cx} (C : CxOK X cX2_allBridgesHold RX2 rm_X2_allBridgesHold) (hn : xn X = 5) {S0 : Hp} {o : Int32 × Hp} (hQ : QI X (some .boolean) S0 0 0 o) : ∀ (fuel : Nat) (S : Hp) (x0 : Nat) (y1 : Option Nat) (y2 : UInt64) (y4 : Int32), f_X2_allBridgesHold_L9 fuel S x0 y1 y2 y4 = some o → GW X 0 0 S 9 [(0, va_rf (some x0)), (1, va_rf y1), (2, .double y2), (4, .int y4)] [] := by
  have hn4 : 4 < xn X := by rw [hn]; decide
  intro fuel
  induction fuel with
  | zero => intro S x0 y1 y2 y4 h; cases (show none = some o from h)
  | succ fuel ih =>
    intro S x0 y1 y2 y4 h
    have h : f_X2_allBridgesHold_L9_b (f_X2_allBridgesHold_L9 fuel) S x0 y1 y2 y4 = some o := h
    unfold f_X2_allBridgesHold_L9_b at h
    refine g_iload C (q := 3) dX2_allBridgesHold_9 rfl ?_
    refine g_aload_n C (q := 0) dX2_allBridgesHold_11 rfl rfl ?_
    refine g_ogetSI C (ci := 2) (slot := 4) rfl (by decide) inlX2 (by decide) rfl q67 dX2_allBridgesHold_12 h (fun h hLa1 hKa1 => ?_)
    refine g_icmp_ge C (tgt := 50) dX2_allBridgesHold_15 (by decide) h (fun h => ?_) (fun h => ?_)
    · refine g_iconst C (v := 1) dX2_allBridgesHold_50 (by decide) ?_
      exact g_zret C hQ (by decide) dX2_allBridgesHold_51 h
    · refine g_aload_n C (q := 1) dX2_allBridgesHold_18 rfl rfl ?_
      refine g_ogetI C (ci := 4) (slot := 5) rfl (by decide) inlX4 (by decide) rfl q415 dX2_allBridgesHold_19 h (fun a2 hra2 h hLa2 hKa2 => ?_)
      refine g_iload C (q := 3) dX2_allBridgesHold_22 rfl ?_
      refine g_ishr C dX2_allBridgesHold_24 ?_
      refine g_iconst C (v := 1) dX2_allBridgesHold_25 (by decide) ?_
      refine g_iand C dX2_allBridgesHold_26 ?_
      refine g_if_eq C (tgt := 44) dX2_allBridgesHold_27 (by decide) h (fun h => ?_) (fun h => ?_)
      · obtain ⟨v1, ev1, h⟩ := bnd_ex h
        refine g_iinc C (i := 4) (lv' := [(4, .int v1), (0, va_rf (some x0)), (1, va_rf y1), (2, .double y2)]) (q := 3) v1 dX2_allBridgesHold_44 rfl ev1 hn4 rfl ?_
        refine g_goto C (tgt := 9) dX2_allBridgesHold_47 (by decide) ?_
        refine g_sub (lv' := [(0, va_rf (some x0)), (1, va_rf y1), (2, .double y2), (4, .int v1)]) [1, 2, 3, 0] rfl ?_
        exact ih S x0 y1 y2 v1 h
      · refine g_aload_n C (q := 0) dX2_allBridgesHold_30 rfl rfl ?_
        refine g_getER C (ci := 2) (slot := 1) rfl (by decide) inlX2 (by decide) rfl q31 dX2_allBridgesHold_31 rfl hLa1 hKa1 ?_
        refine g_iload C (q := 3) dX2_allBridgesHold_34 rfl ?_
        refine g_dald C dX2_allBridgesHold_36 h (fun a3 i1 h => ?_)
        refine g_dload_n C (q := 2) dX2_allBridgesHold_37 rfl rfl ?_
        refine g_dcmp C dX2_allBridgesHold_38 ?_
        refine g_if_ge C (tgt := 44) dX2_allBridgesHold_39 (by decide) h (fun h => ?_) (fun h => ?_)
        · obtain ⟨v2, ev2, h⟩ := bnd_ex h
          refine g_iinc C (i := 4) (lv' := [(4, .int v2), (0, va_rf (some x0)), (1, va_rf y1), (2, .double y2)]) (q := 3) v2 dX2_allBridgesHold_44 rfl ev2 hn4 rfl ?_
          refine g_goto C (tgt := 9) dX2_allBridgesHold_47 (by decide) ?_
          refine g_sub (lv' := [(0, va_rf (some x0)), (1, va_rf y1), (2, .double y2), (4, .int v2)]) [1, 2, 3, 0] rfl ?_
          exact ih S x0 y1 y2 v2 h
        · refine g_iconst C (v := 0) dX2_allBridgesHold_42 (by decide) ?_
          exact g_zret C hQ (by decide) dX2_allBridgesHold_43 h
set_option maxHeartbeats 4000000 in
set_option maxRecDepth 100000 in
theorem c_X2_allBridgesHold (S : Hp) (x0 : Nat) (x1 : Option Nat) (o : Int32 × Hp) (h : f_X2_allBridgesHold S x0 x1 = some o) : CtI yX2_allBridgesHold cX2_allBridgesHold 5 (some .boolean) rm_X2_allBridgesHold 0 0 [va_rf (some x0), va_rf x1] S o := by
  refine ct_I (own := RX2) (by decide) rfl (by simp [lg_sl, va_rf_cat, catI, catJ, catD]) (fun X C hn hQ => ?_)
  have hn3 : 3 < xn X := by rw [hn]; decide
  have hn4 : 4 < xn X := by rw [hn]; decide
  unfold f_X2_allBridgesHold at h
  rw [show lv_args 0 [va_rf (some x0), va_rf x1] = [(0, va_rf (some x0)), (1, va_rf x1)] by simp [lv_args, va_rf_cat, catI, catJ, catD]]
  refine g_aload_n C (q := 0) dX2_allBridgesHold_0 rfl rfl ?_
  refine g_aload_n C (q := 1) dX2_allBridgesHold_1 rfl rfl ?_
  refine g_callVD C (ci := 2) (As := [va_rf x1]) (np := 1) (st := []) (r := (some x0)) rfl (by decide) (fun b1 q hq => c_X2_neededBy S b1 x1 q hq) gv_RX2_X2_neededBy rfl rfl dsX2_neededBy rfl ⟨Nat.le_of_ble_eq_true rfl, Nat.le_of_ble_eq_true rfl⟩ rfl (cat_sum (Nat.le_of_ble_eq_true rfl)) ⟨Nat.zero_le _, Nat.zero_le _⟩ dX2_allBridgesHold_2 h (fun e1 S1 h => ?_)
  refine g_dstore_n C (i := 2) (lv' := [(2, .double e1), (0, va_rf (some x0)), (1, va_rf x1)]) dX2_allBridgesHold_5 rfl hn3 (by simp [va_rf_cat, catI, catJ, catD]) ?_
  refine g_iconst C (v := 0) dX2_allBridgesHold_6 (by decide) ?_
  refine g_istore C (i := 4) (lv' := [(4, .int 0), (2, .double e1), (0, va_rf (some x0)), (1, va_rf x1)]) dX2_allBridgesHold_7 hn4 rfl ?_
  refine g_sub (lv' := [(0, va_rf (some x0)), (1, va_rf x1), (2, .double e1), (4, .int 0)]) [2, 3, 1, 0] rfl ?_
  exact w_X2_allBridgesHold_L9 C hn hQ 1000 S1 x0 x1 e1 (0 : Int32) h
