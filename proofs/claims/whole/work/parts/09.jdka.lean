abbrev rm_Jxe99ae_isNaN_b9ae7 : Room := { frames := 0, cells := 0, slots := 0, locals := 0 }
theorem dsJxe99ae_isNaN_b9ae7 : yJxe99ae_isNaN_b9ae7.cls ≠ "java/lang/invoke/MethodHandle" ∧ yJxe99ae_isNaN_b9ae7.cls ≠ "java/lang/invoke/VarHandle" ∧ (parseMethodDescriptor yJxe99ae_isNaN_b9ae7.desc).map (fun d => d.parameters.length) = some 1 := by decide +kernel
def f_Jxe99ae_isNaN_b9ae7 (S : Hp) (x0 : UInt64) : Option (Int32 × Hp) :=
 if (Op.cmpValue (FP.dcmp x0 x0) CmpOp.l) = 0 then
 some ((0 : Int32), S)
 else
 some ((1 : Int32), S)
set_option maxHeartbeats 4000000 in
set_option maxRecDepth 100000 in
theorem c_Jxe99ae_isNaN_b9ae7 (S : Hp) (x0 : UInt64) (o : Int32 × Hp) (h : f_Jxe99ae_isNaN_b9ae7 S x0 = some o) : CtI yJxe99ae_isNaN_b9ae7 cJxe99ae_isNaN_b9ae7 2 (some .boolean) rm_Jxe99ae_isNaN_b9ae7 0 0 [.double x0] S o := by
  refine ct_I (own := RJxe99ae) (by decide) rfl (Nat.le_of_ble_eq_true rfl) (fun X C hn hQ => ?_)
  unfold f_Jxe99ae_isNaN_b9ae7 at h
  show GW X 0 0 S 0 [(0, .double x0)] []
  refine g_dload_n C (q := 0) dJxe99ae_isNaN_b9ae7_0 rfl rfl ?_
  refine g_dload_n C (q := 0) dJxe99ae_isNaN_b9ae7_1 rfl rfl ?_
  refine g_dcmp C dJxe99ae_isNaN_b9ae7_2 ?_
  refine g_if_eq C (tgt := 10) dJxe99ae_isNaN_b9ae7_3 (by decide) h (fun h => ?_) (fun h => ?_)
  · refine g_iconst C (v := 0) dJxe99ae_isNaN_b9ae7_10 (by decide) ?_
    exact g_zret C hQ (by decide) dJxe99ae_isNaN_b9ae7_11 h
  · refine g_iconst C (v := 1) dJxe99ae_isNaN_b9ae7_6 (by decide) ?_
    refine g_goto C (tgt := 11) dJxe99ae_isNaN_b9ae7_7 (by decide) ?_
    exact g_zret C hQ (by decide) dJxe99ae_isNaN_b9ae7_11 h

abbrev rm_Jxe99ae_doubleToLongBits_ccdee : Room := { frames := 1, cells := 0, slots := 0, locals := 23 }
theorem dsJxe99ae_doubleToLongBits_ccdee : yJxe99ae_doubleToLongBits_ccdee.cls ≠ "java/lang/invoke/MethodHandle" ∧ yJxe99ae_doubleToLongBits_ccdee.cls ≠ "java/lang/invoke/VarHandle" ∧ (parseMethodDescriptor yJxe99ae_doubleToLongBits_ccdee.desc).map (fun d => d.parameters.length) = some 1 := by decide +kernel
theorem gs_RJxe99ae_Jxe99ae_isNaN_b9ae7 : GoodIn wsL_law (va_wsS RJxe99ae 122 yJxe99ae_isNaN_b9ae7 (.code yJxe99ae_isNaN_b9ae7 cJxe99ae_isNaN_b9ae7 2 (some .boolean) :: wsL_law)) := good_S q858 q859 q852 q860
def f_Jxe99ae_doubleToLongBits_ccdee (S : Hp) (x0 : UInt64) : Option (Int64 × Hp) :=
 cl (f_Jxe99ae_isNaN_b9ae7 S x0) fun v1 S1 =>
 if v1 = 0 then
 some ((x0.toInt64), S1)
 else
 some (9221120237041090560, S1)
set_option maxHeartbeats 4000000 in
set_option maxRecDepth 100000 in
theorem c_Jxe99ae_doubleToLongBits_ccdee (S : Hp) (x0 : UInt64) (o : Int64 × Hp) (h : f_Jxe99ae_doubleToLongBits_ccdee S x0 = some o) : CtJ yJxe99ae_doubleToLongBits_ccdee cJxe99ae_doubleToLongBits_ccdee 2 (some .long) rm_Jxe99ae_doubleToLongBits_ccdee 0 0 [.double x0] S o := by
  refine ct_J (own := RJxe99ae) (by decide) rfl (Nat.le_of_ble_eq_true rfl) (fun X C hn hQ => ?_)
  unfold f_Jxe99ae_doubleToLongBits_ccdee at h
  show GW X 0 0 S 0 [(0, .double x0)] []
  refine g_dload_n C (q := 0) dJxe99ae_doubleToLongBits_ccdee_0 rfl rfl ?_
  refine g_callSI C (As := [.double x0]) (np := 1) (st := []) (fun q hq => c_Jxe99ae_isNaN_b9ae7 S x0 q hq) gs_RJxe99ae_Jxe99ae_isNaN_b9ae7 rfl rfl dsJxe99ae_isNaN_b9ae7 rfl ⟨Nat.le_of_ble_eq_true rfl, Nat.le_of_ble_eq_true rfl⟩ rfl (cat_sum (Nat.le_of_ble_eq_true rfl)) ⟨Nat.zero_le _, Nat.zero_le _⟩ dJxe99ae_doubleToLongBits_ccdee_1 h (fun v1 S1 h => ?_)
  refine g_if_ne C (tgt := 12) dJxe99ae_doubleToLongBits_ccdee_4 (by decide) h (fun h => ?_) (fun h => ?_)
  · refine g_dload_n C (q := 0) dJxe99ae_doubleToLongBits_ccdee_7 rfl rfl ?_
    refine g_d2lb C q854 q855 q856 q852 (by decide) (by decide) (cat_sum (Nat.le_of_ble_eq_true rfl)) dJxe99ae_doubleToLongBits_ccdee_8 ?_
    exact g_lret C hQ dJxe99ae_doubleToLongBits_ccdee_11 h
  · refine g_ldc2l C q857 dJxe99ae_doubleToLongBits_ccdee_12 ?_
    exact g_lret C hQ dJxe99ae_doubleToLongBits_ccdee_15 h
