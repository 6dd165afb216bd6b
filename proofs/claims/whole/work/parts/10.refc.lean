abbrev rm_X6_number : Room := { frames := 1, cells := 0, slots := 0, locals := 22 }
theorem dsX6_number : yX6_number.cls = RX6 ∧ yX6_number.cls ≠ "java/lang/invoke/MethodHandle" ∧ yX6_number.cls ≠ "java/lang/invoke/VarHandle" ∧ (parseMethodDescriptor yX6_number.desc).map (fun d => d.parameters.length) = some 0 := by decide +kernel
def f_X6_number (S : Hp) (x0 : Nat) : Option (Int32 × Hp) :=
 ob S 6 (some x0) fun _ =>
 if (zI S x0 8) ≤ (zI S x0 10) then
 some ((-5 : Int32), S)
 else
 ar S 7 (zR S x0 9) (zI S x0 10) fun a2 i1 =>
 if (zI S a2 i1) = 32 then
 ob S 6 (some x0) fun a3 => bnd (wI S a3 10 ((zI S x0 10) + 1)) fun S1 =>
 ob S1 6 (some x0) fun _ =>
 if (zI S1 x0 8) ≤ (zI S1 x0 10) then
 some ((-5 : Int32), S1)
 else
 ar S1 7 (zR S1 x0 9) (zI S1 x0 10) fun a5 i2 =>
 cl (f_X6_in S1 (zI S1 a5 i2) (48 : Int32) (57 : Int32)) fun v1 S2 =>
 if v1 = 0 then
 some ((-5 : Int32), S2)
 else
 ob S2 6 (some x0) fun _ =>
 ar S2 7 (zR S2 x0 9) (zI S2 x0 10) fun a7 i3 =>
 bnd (((zI S2 a7 i3) - 48)) fun v2 =>
 ob S2 6 (some x0) fun a8 => bnd (wI S2 a8 10 ((zI S2 x0 10) + 1)) fun S3 =>
 if v2 ≤ 0 then
 some (v2, S3)
 else
 ob S3 6 (some x0) fun _ =>
 if (zI S3 x0 8) ≤ (zI S3 x0 10) then
 some (v2, S3)
 else
 ar S3 7 (zR S3 x0 9) (zI S3 x0 10) fun a10 i4 =>
 cl (f_X6_in S3 (zI S3 a10 i4) (48 : Int32) (57 : Int32)) fun v3 S4 =>
 if v3 = 0 then
 some (v2, S4)
 else
 ob S4 6 (some x0) fun _ =>
 ar S4 7 (zR S4 x0 9) (zI S4 x0 10) fun a12 i5 =>
 bnd ((((10 * v2) + (zI S4 a12 i5)) - 48)) fun v4 =>
 ob S4 6 (some x0) fun a13 => bnd (wI S4 a13 10 ((zI S4 x0 10) + 1)) fun S5 =>
 some (v4, S5)
 else
 some ((-5 : Int32), S)
set_option maxHeartbeats 4000000 in
set_option maxRecDepth 100000 in
theorem c_X6_number (S : Hp) (x0 : Nat) (o : Int32 × Hp) (h : f_X6_number S x0 = some o) : CtI yX6_number cX6_number 2 (some .int) rm_X6_number 0 0 [va_rf (some x0)] S o := by
  refine ct_I (own := RX6) (by decide) rfl (Nat.le_of_ble_eq_true rfl) (fun X C hn hQ => ?_)
  have hn1 : 1 < xn X := by rw [hn]; decide
  unfold f_X6_number at h
  show GW X 0 0 S 0 [(0, va_rf (some x0))] []
  refine g_aload_n C (q := 0) dX6_number_0 rfl rfl ?_
  refine g_ogetSI C (ci := 6) (slot := 10) rfl (by decide) inlX6 (by decide) rfl q650 dX6_number_1 h (fun h hLa1 hKa1 => ?_)
  refine g_aload_n C (q := 0) dX6_number_4 rfl rfl ?_
  refine g_getEI C (ci := 6) (slot := 8) rfl (by decide) inlX6 (by decide) rfl q540 dX6_number_5 rfl hLa1 hKa1 ?_
  refine g_icmp_ge C (tgt := 25) dX6_number_8 (by decide) h (fun h => ?_) (fun h => ?_)
  · refine g_bipush C (v := (-5)) dX6_number_25 (by decide) ?_
    exact g_iret C hQ dX6_number_27 h
  · refine g_aload_n C (q := 0) dX6_number_11 rfl rfl ?_
    refine g_getER C (ci := 6) (slot := 9) rfl (by decide) inlX6 (by decide) rfl q72 dX6_number_12 rfl hLa1 hKa1 ?_
    refine g_aload_n C (q := 0) dX6_number_15 rfl rfl ?_
    refine g_getEI C (ci := 6) (slot := 10) rfl (by decide) inlX6 (by decide) rfl q650 dX6_number_16 rfl hLa1 hKa1 ?_
    refine g_cald C dX6_number_19 h (fun a2 i1 h => ?_)
    refine g_bipush C (v := 32) dX6_number_20 (by decide) ?_
    refine g_icmp_eq C (tgt := 28) dX6_number_22 (by decide) h (fun h => ?_) (fun h => ?_)
    · refine g_aload_n C (q := 0) dX6_number_28 rfl rfl ?_
      refine g_dup C dX6_number_29 (va_rf_cat _) ?_
      refine g_getEI C (ci := 6) (slot := 10) rfl (by decide) inlX6 (by decide) rfl q650 dX6_number_30 rfl hLa1 hKa1 ?_
      refine g_iconst C (v := 1) dX6_number_33 (by decide) ?_
      refine g_iadd C dX6_number_34 ?_
      refine g_oputI C (ci := 6) (slot := 10) tyX6 tyX6_ok nmX6 rfl (by decide) inlX6 (by decide) rfl q650 rfl dX6_number_35 rfl rfl h (fun a3 S1 h => ?_)
      refine g_aload_n C (q := 0) dX6_number_38 rfl rfl ?_
      refine g_ogetSI C (ci := 6) (slot := 10) rfl (by decide) inlX6 (by decide) rfl q650 dX6_number_39 h (fun h hLa4 hKa4 => ?_)
      refine g_aload_n C (q := 0) dX6_number_42 rfl rfl ?_
      refine g_getEI C (ci := 6) (slot := 8) rfl (by decide) inlX6 (by decide) rfl q540 dX6_number_43 rfl hLa4 hKa4 ?_
      refine g_icmp_ge C (tgt := 68) dX6_number_46 (by decide) h (fun h => ?_) (fun h => ?_)
      · refine g_bipush C (v := (-5)) dX6_number_68 (by decide) ?_
        exact g_iret C hQ dX6_number_70 h
      · refine g_aload_n C (q := 0) dX6_number_49 rfl rfl ?_
        refine g_getER C (ci := 6) (slot := 9) rfl (by decide) inlX6 (by decide) rfl q72 dX6_number_50 rfl hLa4 hKa4 ?_
        refine g_aload_n C (q := 0) dX6_number_53 rfl rfl ?_
        refine g_getEI C (ci := 6) (slot := 10) rfl (by decide) inlX6 (by decide) rfl q650 dX6_number_54 rfl hLa4 hKa4 ?_
        refine g_cald C dX6_number_57 h (fun a5 i2 h => ?_)
        refine g_bipush C (v := 48) dX6_number_58 (by decide) ?_
        refine g_bipush C (v := 57) dX6_number_60 (by decide) ?_
        refine g_callSI C (As := [.int (zI S1 a5 i2), .int 48, .int 57]) (np := 3) (st := []) (fun q hq => c_X6_in S1 (zI S1 a5 i2) (48 : Int32) (57 : Int32) q hq) gs_RX6_X6_in rfl rfl dsX6_in rfl ⟨Nat.le_of_ble_eq_true rfl, Nat.le_of_ble_eq_true rfl⟩ rfl (cat_sum (Nat.le_of_ble_eq_true rfl)) ⟨Nat.zero_le _, Nat.zero_le _⟩ dX6_number_62 h (fun v1 S2 h => ?_)
        refine g_if_ne C (tgt := 71) dX6_number_65 (by decide) h (fun h => ?_) (fun h => ?_)
        · refine g_bipush C (v := (-5)) dX6_number_68 (by decide) ?_
          exact g_iret C hQ dX6_number_70 h
        · refine g_aload_n C (q := 0) dX6_number_71 rfl rfl ?_
          refine g_ogetSR C (ci := 6) (slot := 9) rfl (by decide) inlX6 (by decide) rfl q72 dX6_number_72 h (fun h hLa6 hKa6 => ?_)
          refine g_aload_n C (q := 0) dX6_number_75 rfl rfl ?_
          refine g_getEI C (ci := 6) (slot := 10) rfl (by decide) inlX6 (by decide) rfl q650 dX6_number_76 rfl hLa6 hKa6 ?_
          refine g_cald C dX6_number_79 h (fun a7 i3 h => ?_)
          refine g_bipush C (v := 48) dX6_number_80 (by decide) ?_
          refine g_isub C dX6_number_82 ?_
          refine g_nmI h (fun v2 h => ?_)
          refine g_istore_n C (i := 1) (lv' := [(1, .int v2), (0, va_rf (some x0))]) dX6_number_83 rfl hn1 (by simp [va_rf_cat, catI, catJ, catD]) ?_
          refine g_aload_n C (q := 1) dX6_number_84 rfl rfl ?_
          refine g_dup C dX6_number_85 (va_rf_cat _) ?_
          refine g_getEI C (ci := 6) (slot := 10) rfl (by decide) inlX6 (by decide) rfl q650 dX6_number_86 rfl hLa6 hKa6 ?_
          refine g_iconst C (v := 1) dX6_number_89 (by decide) ?_
          refine g_iadd C dX6_number_90 ?_
          refine g_oputI C (ci := 6) (slot := 10) tyX6 tyX6_ok nmX6 rfl (by decide) inlX6 (by decide) rfl q650 rfl dX6_number_91 rfl rfl h (fun a8 S3 h => ?_)
          refine g_iload_n C (q := 0) dX6_number_94 rfl rfl ?_
          refine g_if_le C (tgt := 156) dX6_number_95 (by decide) h (fun h => ?_) (fun h => ?_)
          · refine g_iload_n C (q := 0) dX6_number_156 rfl rfl ?_
            exact g_iret C hQ dX6_number_157 h
          · refine g_aload_n C (q := 1) dX6_number_98 rfl rfl ?_
            refine g_ogetSI C (ci := 6) (slot := 10) rfl (by decide) inlX6 (by decide) rfl q650 dX6_number_99 h (fun h hLa9 hKa9 => ?_)
            refine g_aload_n C (q := 1) dX6_number_102 rfl rfl ?_
            refine g_getEI C (ci := 6) (slot := 8) rfl (by decide) inlX6 (by decide) rfl q540 dX6_number_103 rfl hLa9 hKa9 ?_
            refine g_icmp_ge C (tgt := 156) dX6_number_106 (by decide) h (fun h => ?_) (fun h => ?_)
            · refine g_iload_n C (q := 0) dX6_number_156 rfl rfl ?_
              exact g_iret C hQ dX6_number_157 h
            · refine g_aload_n C (q := 1) dX6_number_109 rfl rfl ?_
              refine g_getER C (ci := 6) (slot := 9) rfl (by decide) inlX6 (by decide) rfl q72 dX6_number_110 rfl hLa9 hKa9 ?_
              refine g_aload_n C (q := 1) dX6_number_113 rfl rfl ?_
              refine g_getEI C (ci := 6) (slot := 10) rfl (by decide) inlX6 (by decide) rfl q650 dX6_number_114 rfl hLa9 hKa9 ?_
              refine g_cald C dX6_number_117 h (fun a10 i4 h => ?_)
              refine g_bipush C (v := 48) dX6_number_118 (by decide) ?_
              refine g_bipush C (v := 57) dX6_number_120 (by decide) ?_
              refine g_callSI C (As := [.int (zI S3 a10 i4), .int 48, .int 57]) (np := 3) (st := []) (fun q hq => c_X6_in S3 (zI S3 a10 i4) (48 : Int32) (57 : Int32) q hq) gs_RX6_X6_in rfl rfl dsX6_in rfl ⟨Nat.le_of_ble_eq_true rfl, Nat.le_of_ble_eq_true rfl⟩ rfl (cat_sum (Nat.le_of_ble_eq_true rfl)) ⟨Nat.zero_le _, Nat.zero_le _⟩ dX6_number_122 h (fun v3 S4 h => ?_)
              refine g_if_eq C (tgt := 156) dX6_number_125 (by decide) h (fun h => ?_) (fun h => ?_)
              · refine g_iload_n C (q := 0) dX6_number_156 rfl rfl ?_
                exact g_iret C hQ dX6_number_157 h
              · refine g_bipush C (v := 10) dX6_number_128 (by decide) ?_
                refine g_iload_n C (q := 0) dX6_number_130 rfl rfl ?_
                refine g_imul C dX6_number_131 ?_
                refine g_aload_n C (q := 1) dX6_number_132 rfl rfl ?_
                refine g_ogetSR C (ci := 6) (slot := 9) rfl (by decide) inlX6 (by decide) rfl q72 dX6_number_133 h (fun h hLa11 hKa11 => ?_)
                refine g_aload_n C (q := 1) dX6_number_136 rfl rfl ?_
                refine g_getEI C (ci := 6) (slot := 10) rfl (by decide) inlX6 (by decide) rfl q650 dX6_number_137 rfl hLa11 hKa11 ?_
                refine g_cald C dX6_number_140 h (fun a12 i5 h => ?_)
                refine g_iadd C dX6_number_141 ?_
                refine g_bipush C (v := 48) dX6_number_142 (by decide) ?_
                refine g_isub C dX6_number_144 ?_
                refine g_nmI h (fun v4 h => ?_)
                refine g_istore_n C (i := 1) (lv' := [(1, .int v4), (0, va_rf (some x0))]) dX6_number_145 rfl hn1 (by simp [va_rf_cat, catI, catJ, catD]) ?_
                refine g_aload_n C (q := 1) dX6_number_146 rfl rfl ?_
                refine g_dup C dX6_number_147 (va_rf_cat _) ?_
                refine g_getEI C (ci := 6) (slot := 10) rfl (by decide) inlX6 (by decide) rfl q650 dX6_number_148 rfl hLa11 hKa11 ?_
                refine g_iconst C (v := 1) dX6_number_151 (by decide) ?_
                refine g_iadd C dX6_number_152 ?_
                refine g_oputI C (ci := 6) (slot := 10) tyX6 tyX6_ok nmX6 rfl (by decide) inlX6 (by decide) rfl q650 rfl dX6_number_153 rfl rfl h (fun a13 S5 h => ?_)
                refine g_iload_n C (q := 0) dX6_number_156 rfl rfl ?_
                exact g_iret C hQ dX6_number_157 h
    · refine g_bipush C (v := (-5)) dX6_number_25 (by decide) ?_
      exact g_iret C hQ dX6_number_27 h

abbrev rm_X6_perform : Room := { frames := 6, cells := 0, slots := 0, locals := 134 }
theorem dsX6_perform : yX6_perform.cls = RX6 ∧ yX6_perform.cls ≠ "java/lang/invoke/MethodHandle" ∧ yX6_perform.cls ≠ "java/lang/invoke/VarHandle" ∧ (parseMethodDescriptor yX6_perform.desc).map (fun d => d.parameters.length) = some 0 := by decide +kernel
theorem gv_RX6_X6_book : GoodIn wsL_law (wsV RX6 184 RX6 yX6_book (.code yX6_book cX6_book 4 (some .int) :: wsL_law)) := good_V q664 q273 q274 q5 q275
theorem gv_RX6_X6_cancel : GoodIn wsL_law (wsV RX6 193 RX6 yX6_cancel (.code yX6_cancel cX6_cancel 2 (some .int) :: wsL_law)) := good_V q667 q439 q440 q5 q441
theorem gv_RX6_X6_lead : GoodIn wsL_law (wsV RX6 196 RX6 yX6_lead (.code yX6_lead cX6_lead 3 (some .int) :: wsL_law)) := good_V q668 q350 q351 q5 q352
theorem gv_RX6_X6_leave : GoodIn wsL_law (wsV RX6 187 RX6 yX6_leave (.code yX6_leave cX6_leave 7 (some .int) :: wsL_law)) := good_V q665 q307 q308 q5 q309
theorem gv_RX6_X6_merge : GoodIn wsL_law (wsV RX6 190 RX6 yX6_merge (.code yX6_merge cX6_merge 6 (some .int) :: wsL_law)) := good_V q666 q421 q422 q5 q423
theorem gv_RX6_X6_number : GoodIn wsL_law (wsV RX6 175 RX6 yX6_number (.code yX6_number cX6_number 2 (some .int) :: wsL_law)) := good_V q660 q661 q662 q5 q663
theorem gv_RX6_X6_word : GoodIn wsL_law (wsV RX6 172 RX6 yX6_word (.code yX6_word cX6_word 1 (some .int) :: wsL_law)) := good_V q652 q653 q654 q5 q655
def f_X6_perform (S : Hp) (x0 : Nat) : Option (Int32 × Hp) :=
 ob S 6 (some x0) fun b1 => cl (f_X6_word S b1 ) fun v1 S1 =>
 if v1 = (-5) then
 some ((-100 : Int32), S1)
 else
 ob S1 6 (some x0) fun b2 => cl (f_X6_number S1 b2 ) fun v2 S2 =>
 ob S2 6 (some x0) fun a1 => bnd (wI S2 a1 11 v2) fun S3 =>
 ob S3 6 (some x0) fun _ =>
 if (zI S3 x0 11) = (-5) then
 some (((-100) - (zI S3 x0 10)), S3)
 else
 if v1 = 3 then
 ob S3 6 (some x0) fun a3 => bnd (wI S3 a3 12 (0 : Int32)) fun S4 =>
 ob S4 6 (some x0) fun _ =>
 if (zI S4 x0 12) = (-5) then
 some (((-100) - (zI S4 x0 10)), S4)
 else
 if (zI S4 x0 10) = (zI S4 x0 8) then
 if v1 = 0 then
 ob S4 6 (some x0) fun b3 => cl (f_X6_book S4 b3 (zI S4 x0 11) (zI S4 x0 12)) fun v3 S5 =>
 some (v3, S5)
 else if v1 = 1 then
 ob S4 6 (some x0) fun b4 => cl (f_X6_leave S4 b4 (zI S4 x0 11) (zI S4 x0 12)) fun v4 S6 =>
 some (v4, S6)
 else if v1 = 2 then
 ob S4 6 (some x0) fun b5 => cl (f_X6_merge S4 b5 (zI S4 x0 11) (zI S4 x0 12)) fun v5 S7 =>
 some (v5, S7)
 else if v1 = 3 then
 ob S4 6 (some x0) fun b6 => cl (f_X6_cancel S4 b6 (zI S4 x0 11)) fun v6 S8 =>
 some (v6, S8)
 else ob S4 6 (some x0) fun b7 => cl (f_X6_lead S4 b7 (zI S4 x0 11) (zI S4 x0 12)) fun v7 S9 =>
 some (v7, S9)
 else
 some (((-100) - (zI S4 x0 10)), S4)
 else
 ob S3 6 (some x0) fun b8 => cl (f_X6_number S3 b8 ) fun v8 S10 =>
 ob S10 6 (some x0) fun a5 => bnd (wI S10 a5 12 v8) fun S11 =>
 ob S11 6 (some x0) fun _ =>
 if (zI S11 x0 12) = (-5) then
 some (((-100) - (zI S11 x0 10)), S11)
 else
 if (zI S11 x0 10) = (zI S11 x0 8) then
 if v1 = 0 then
 ob S11 6 (some x0) fun b9 => cl (f_X6_book S11 b9 (zI S11 x0 11) (zI S11 x0 12)) fun v9 S12 =>
 some (v9, S12)
 else if v1 = 1 then
 ob S11 6 (some x0) fun b10 => cl (f_X6_leave S11 b10 (zI S11 x0 11) (zI S11 x0 12)) fun v10 S13 =>
 some (v10, S13)
 else if v1 = 2 then
 ob S11 6 (some x0) fun b11 => cl (f_X6_merge S11 b11 (zI S11 x0 11) (zI S11 x0 12)) fun v11 S14 =>
 some (v11, S14)
 else if v1 = 3 then
 ob S11 6 (some x0) fun b12 => cl (f_X6_cancel S11 b12 (zI S11 x0 11)) fun v12 S15 =>
 some (v12, S15)
 else ob S11 6 (some x0) fun b13 => cl (f_X6_lead S11 b13 (zI S11 x0 11) (zI S11 x0 12)) fun v13 S16 =>
 some (v13, S16)
 else
 some (((-100) - (zI S11 x0 10)), S11)
set_option maxHeartbeats 4000000 in
set_option maxRecDepth 100000 in
theorem c_X6_perform (S : Hp) (x0 : Nat) (o : Int32 × Hp) (h : f_X6_perform S x0 = some o) : CtI yX6_perform cX6_perform 2 (some .int) rm_X6_perform 0 0 [va_rf (some x0)] S o := by
  refine ct_I (own := RX6) (by decide) rfl (Nat.le_of_ble_eq_true rfl) (fun X C hn hQ => ?_)
  have hn1 : 1 < xn X := by rw [hn]; decide
  unfold f_X6_perform at h
  show GW X 0 0 S 0 [(0, va_rf (some x0))] []
  refine g_aload_n C (q := 0) dX6_perform_0 rfl rfl ?_
  refine g_callVI C (ci := 6) (As := []) (np := 0) (st := []) (r := (some x0)) rfl (by decide) (fun b1 q hq => c_X6_word S b1  q hq) gv_RX6_X6_word rfl rfl dsX6_word rfl ⟨Nat.le_of_ble_eq_true rfl, Nat.le_of_ble_eq_true rfl⟩ rfl (cat_sum (Nat.le_of_ble_eq_true rfl)) ⟨Nat.zero_le _, Nat.zero_le _⟩ dX6_perform_1 h (fun v1 S1 h => ?_)
  refine g_istore_n C (i := 1) (lv' := [(1, .int v1), (0, va_rf (some x0))]) dX6_perform_4 rfl hn1 (by simp [va_rf_cat, catI, catJ, catD]) ?_
  refine g_iload_n C (q := 0) dX6_perform_5 rfl rfl ?_
  refine g_bipush C (v := (-5)) dX6_perform_6 (by decide) ?_
  refine g_icmp_ne C (tgt := 14) dX6_perform_8 (by decide) h (fun h => ?_) (fun h => ?_)
  · refine g_bipush C (v := (-100)) dX6_perform_11 (by decide) ?_
    exact g_iret C hQ dX6_perform_13 h
  · refine g_aload_n C (q := 1) dX6_perform_14 rfl rfl ?_
    refine g_aload_n C (q := 1) dX6_perform_15 rfl rfl ?_
    refine g_callVI C (ci := 6) (As := []) (np := 0) (st := [va_rf (some x0)]) (r := (some x0)) rfl (by decide) (fun b2 q hq => c_X6_number S1 b2  q hq) gv_RX6_X6_number rfl rfl dsX6_number rfl ⟨Nat.le_of_ble_eq_true rfl, Nat.le_of_ble_eq_true rfl⟩ rfl (cat_sum (Nat.le_of_ble_eq_true rfl)) ⟨Nat.zero_le _, Nat.zero_le _⟩ dX6_perform_16 h (fun v2 S2 h => ?_)
    refine g_oputI C (ci := 6) (slot := 11) tyX6 tyX6_ok nmX6 rfl (by decide) inlX6 (by decide) rfl q649 rfl dX6_perform_19 rfl rfl h (fun a1 S3 h => ?_)
    refine g_aload_n C (q := 1) dX6_perform_22 rfl rfl ?_
    refine g_ogetSI C (ci := 6) (slot := 11) rfl (by decide) inlX6 (by decide) rfl q649 dX6_perform_23 h (fun h hLa2 hKa2 => ?_)
    refine g_bipush C (v := (-5)) dX6_perform_26 (by decide) ?_
    refine g_icmp_ne C (tgt := 39) dX6_perform_28 (by decide) h (fun h => ?_) (fun h => ?_)
    · refine g_bipush C (v := (-100)) dX6_perform_31 (by decide) ?_
      refine g_aload_n C (q := 1) dX6_perform_33 rfl rfl ?_
      refine g_getEI C (ci := 6) (slot := 10) rfl (by decide) inlX6 (by decide) rfl q650 dX6_perform_34 rfl hLa2 hKa2 ?_
      refine g_isub C dX6_perform_37 ?_
      exact g_iret C hQ dX6_perform_38 h
    · refine g_aload_n C (q := 1) dX6_perform_39 rfl rfl ?_
      refine g_iload_n C (q := 0) dX6_perform_40 rfl rfl ?_
      refine g_iconst C (v := 3) dX6_perform_41 (by decide) ?_
      refine g_icmp_ne C (tgt := 49) dX6_perform_42 (by decide) h (fun h => ?_) (fun h => ?_)
      · refine g_iconst C (v := 0) dX6_perform_45 (by decide) ?_
        refine g_goto C (tgt := 53) dX6_perform_46 (by decide) ?_
        refine g_oputI C (ci := 6) (slot := 12) tyX6 tyX6_ok nmX6 rfl (by decide) inlX6 (by decide) rfl q651 rfl dX6_perform_53 rfl rfl h (fun a3 S4 h => ?_)
        refine g_aload_n C (q := 1) dX6_perform_56 rfl rfl ?_
        refine g_ogetSI C (ci := 6) (slot := 12) rfl (by decide) inlX6 (by decide) rfl q651 dX6_perform_57 h (fun h hLa4 hKa4 => ?_)
        refine g_bipush C (v := (-5)) dX6_perform_60 (by decide) ?_
        refine g_icmp_eq C (tgt := 76) dX6_perform_62 (by decide) h (fun h => ?_) (fun h => ?_)
        · refine g_bipush C (v := (-100)) dX6_perform_76 (by decide) ?_
          refine g_aload_n C (q := 1) dX6_perform_78 rfl rfl ?_
          refine g_getEI C (ci := 6) (slot := 10) rfl (by decide) inlX6 (by decide) rfl q650 dX6_perform_79 rfl hLa4 hKa4 ?_
          refine g_isub C dX6_perform_82 ?_
          exact g_iret C hQ dX6_perform_83 h
        · refine g_aload_n C (q := 1) dX6_perform_65 rfl rfl ?_
          refine g_getEI C (ci := 6) (slot := 10) rfl (by decide) inlX6 (by decide) rfl q650 dX6_perform_66 rfl hLa4 hKa4 ?_
          refine g_aload_n C (q := 1) dX6_perform_69 rfl rfl ?_
          refine g_getEI C (ci := 6) (slot := 8) rfl (by decide) inlX6 (by decide) rfl q540 dX6_perform_70 rfl hLa4 hKa4 ?_
          refine g_icmp_eq C (tgt := 84) dX6_perform_73 (by decide) h (fun h => ?_) (fun h => ?_)
          · refine g_iload_n C (q := 0) dX6_perform_84 rfl rfl ?_
            by_cases c1 : v1 = 0
            · have h := if_el1 h c1
              refine g_tswIn C (v := 0) (tgt := 116) dX6_perform_85 c1 (by decide) (by decide) rfl (by decide) ?_
              refine g_aload_n C (q := 1) dX6_perform_116 rfl rfl ?_
              refine g_aload_n C (q := 1) dX6_perform_117 rfl rfl ?_
              refine g_getEI C (ci := 6) (slot := 11) rfl (by decide) inlX6 (by decide) rfl q649 dX6_perform_118 rfl hLa4 hKa4 ?_
              refine g_aload_n C (q := 1) dX6_perform_121 rfl rfl ?_
              refine g_getEI C (ci := 6) (slot := 12) rfl (by decide) inlX6 (by decide) rfl q651 dX6_perform_122 rfl hLa4 hKa4 ?_
              refine g_callVI C (ci := 6) (As := [.int (zI S4 x0 11), .int (zI S4 x0 12)]) (np := 2) (st := []) (r := (some x0)) rfl (by decide) (fun b3 q hq => c_X6_book S4 b3 (zI S4 x0 11) (zI S4 x0 12) q hq) gv_RX6_X6_book rfl rfl dsX6_book rfl ⟨Nat.le_of_ble_eq_true rfl, Nat.le_of_ble_eq_true rfl⟩ rfl (cat_sum (Nat.le_of_ble_eq_true rfl)) ⟨Nat.zero_le _, Nat.zero_le _⟩ dX6_perform_125 h (fun v3 S5 h => ?_)
              exact g_iret C hQ dX6_perform_128 h
            have h := if_el2 h c1
            by_cases c2 : v1 = 1
            · have h := if_el1 h c2
              refine g_tswIn C (v := 1) (tgt := 129) dX6_perform_85 c2 (by decide) (by decide) rfl (by decide) ?_
              refine g_aload_n C (q := 1) dX6_perform_129 rfl rfl ?_
              refine g_aload_n C (q := 1) dX6_perform_130 rfl rfl ?_
              refine g_getEI C (ci := 6) (slot := 11) rfl (by decide) inlX6 (by decide) rfl q649 dX6_perform_131 rfl hLa4 hKa4 ?_
              refine g_aload_n C (q := 1) dX6_perform_134 rfl rfl ?_
              refine g_getEI C (ci := 6) (slot := 12) rfl (by decide) inlX6 (by decide) rfl q651 dX6_perform_135 rfl hLa4 hKa4 ?_
              refine g_callVI C (ci := 6) (As := [.int (zI S4 x0 11), .int (zI S4 x0 12)]) (np := 2) (st := []) (r := (some x0)) rfl (by decide) (fun b4 q hq => c_X6_leave S4 b4 (zI S4 x0 11) (zI S4 x0 12) q hq) gv_RX6_X6_leave rfl rfl dsX6_leave rfl ⟨Nat.le_of_ble_eq_true rfl, Nat.le_of_ble_eq_true rfl⟩ rfl (cat_sum (Nat.le_of_ble_eq_true rfl)) ⟨Nat.zero_le _, Nat.zero_le _⟩ dX6_perform_138 h (fun v4 S6 h => ?_)
              exact g_iret C hQ dX6_perform_141 h
            have h := if_el2 h c2
            by_cases c3 : v1 = 2
            · have h := if_el1 h c3
              refine g_tswIn C (v := 2) (tgt := 142) dX6_perform_85 c3 (by decide) (by decide) rfl (by decide) ?_
              refine g_aload_n C (q := 1) dX6_perform_142 rfl rfl ?_
              refine g_aload_n C (q := 1) dX6_perform_143 rfl rfl ?_
              refine g_getEI C (ci := 6) (slot := 11) rfl (by decide) inlX6 (by decide) rfl q649 dX6_perform_144 rfl hLa4 hKa4 ?_
              refine g_aload_n C (q := 1) dX6_perform_147 rfl rfl ?_
              refine g_getEI C (ci := 6) (slot := 12) rfl (by decide) inlX6 (by decide) rfl q651 dX6_perform_148 rfl hLa4 hKa4 ?_
              refine g_callVI C (ci := 6) (As := [.int (zI S4 x0 11), .int (zI S4 x0 12)]) (np := 2) (st := []) (r := (some x0)) rfl (by decide) (fun b5 q hq => c_X6_merge S4 b5 (zI S4 x0 11) (zI S4 x0 12) q hq) gv_RX6_X6_merge rfl rfl dsX6_merge rfl ⟨Nat.le_of_ble_eq_true rfl, Nat.le_of_ble_eq_true rfl⟩ rfl (cat_sum (Nat.le_of_ble_eq_true rfl)) ⟨Nat.zero_le _, Nat.zero_le _⟩ dX6_perform_151 h (fun v5 S7 h => ?_)
              exact g_iret C hQ dX6_perform_154 h
            have h := if_el2 h c3
            by_cases c4 : v1 = 3
            · have h := if_el1 h c4
              refine g_tswIn C (v := 3) (tgt := 155) dX6_perform_85 c4 (by decide) (by decide) rfl (by decide) ?_
              refine g_aload_n C (q := 1) dX6_perform_155 rfl rfl ?_
              refine g_aload_n C (q := 1) dX6_perform_156 rfl rfl ?_
              refine g_getEI C (ci := 6) (slot := 11) rfl (by decide) inlX6 (by decide) rfl q649 dX6_perform_157 rfl hLa4 hKa4 ?_
              refine g_callVI C (ci := 6) (As := [.int (zI S4 x0 11)]) (np := 1) (st := []) (r := (some x0)) rfl (by decide) (fun b6 q hq => c_X6_cancel S4 b6 (zI S4 x0 11) q hq) gv_RX6_X6_cancel rfl rfl dsX6_cancel rfl ⟨Nat.le_of_ble_eq_true rfl, Nat.le_of_ble_eq_true rfl⟩ rfl (cat_sum (Nat.le_of_ble_eq_true rfl)) ⟨Nat.zero_le _, Nat.zero_le _⟩ dX6_perform_160 h (fun v6 S8 h => ?_)
              exact g_iret C hQ dX6_perform_163 h
            have h := if_el2 h c4
            refine g_tswOut C (tgt := 164) dX6_perform_85 (sw_out (x := v1) 0 4 (by decide) (h := (lt_s (lt_s (lt_s (lt_s lt_0 c1) c2) c3) c4))) (by decide) ?_
            refine g_aload_n C (q := 1) dX6_perform_164 rfl rfl ?_
            refine g_aload_n C (q := 1) dX6_perform_165 rfl rfl ?_
            refine g_getEI C (ci := 6) (slot := 11) rfl (by decide) inlX6 (by decide) rfl q649 dX6_perform_166 rfl hLa4 hKa4 ?_
            refine g_aload_n C (q := 1) dX6_perform_169 rfl rfl ?_
            refine g_getEI C (ci := 6) (slot := 12) rfl (by decide) inlX6 (by decide) rfl q651 dX6_perform_170 rfl hLa4 hKa4 ?_
            refine g_callVI C (ci := 6) (As := [.int (zI S4 x0 11), .int (zI S4 x0 12)]) (np := 2) (st := []) (r := (some x0)) rfl (by decide) (fun b7 q hq => c_X6_lead S4 b7 (zI S4 x0 11) (zI S4 x0 12) q hq) gv_RX6_X6_lead rfl rfl dsX6_lead rfl ⟨Nat.le_of_ble_eq_true rfl, Nat.le_of_ble_eq_true rfl⟩ rfl (cat_sum (Nat.le_of_ble_eq_true rfl)) ⟨Nat.zero_le _, Nat.zero_le _⟩ dX6_perform_173 h (fun v7 S9 h => ?_)
            exact g_iret C hQ dX6_perform_176 h
          · refine g_bipush C (v := (-100)) dX6_perform_76 (by decide) ?_
            refine g_aload_n C (q := 1) dX6_perform_78 rfl rfl ?_
            refine g_getEI C (ci := 6) (slot := 10) rfl (by decide) inlX6 (by decide) rfl q650 dX6_perform_79 rfl hLa4 hKa4 ?_
            refine g_isub C dX6_perform_82 ?_
            exact g_iret C hQ dX6_perform_83 h
      · refine g_aload_n C (q := 1) dX6_perform_49 rfl rfl ?_
        refine g_callVI C (ci := 6) (As := []) (np := 0) (st := [va_rf (some x0)]) (r := (some x0)) rfl (by decide) (fun b8 q hq => c_X6_number S3 b8  q hq) gv_RX6_X6_number rfl rfl dsX6_number rfl ⟨Nat.le_of_ble_eq_true rfl, Nat.le_of_ble_eq_true rfl⟩ rfl (cat_sum (Nat.le_of_ble_eq_true rfl)) ⟨Nat.zero_le _, Nat.zero_le _⟩ dX6_perform_50 h (fun v8 S10 h => ?_)
        refine g_oputI C (ci := 6) (slot := 12) tyX6 tyX6_ok nmX6 rfl (by decide) inlX6 (by decide) rfl q651 rfl dX6_perform_53 rfl rfl h (fun a5 S11 h => ?_)
        refine g_aload_n C (q := 1) dX6_perform_56 rfl rfl ?_
        refine g_ogetSI C (ci := 6) (slot := 12) rfl (by decide) inlX6 (by decide) rfl q651 dX6_perform_57 h (fun h hLa6 hKa6 => ?_)
        refine g_bipush C (v := (-5)) dX6_perform_60 (by decide) ?_
        refine g_icmp_eq C (tgt := 76) dX6_perform_62 (by decide) h (fun h => ?_) (fun h => ?_)
        · refine g_bipush C (v := (-100)) dX6_perform_76 (by decide) ?_
          refine g_aload_n C (q := 1) dX6_perform_78 rfl rfl ?_
          refine g_getEI C (ci := 6) (slot := 10) rfl (by decide) inlX6 (by decide) rfl q650 dX6_perform_79 rfl hLa6 hKa6 ?_
          refine g_isub C dX6_perform_82 ?_
          exact g_iret C hQ dX6_perform_83 h
        · refine g_aload_n C (q := 1) dX6_perform_65 rfl rfl ?_
          refine g_getEI C (ci := 6) (slot := 10) rfl (by decide) inlX6 (by decide) rfl q650 dX6_perform_66 rfl hLa6 hKa6 ?_
          refine g_aload_n C (q := 1) dX6_perform_69 rfl rfl ?_
          refine g_getEI C (ci := 6) (slot := 8) rfl (by decide) inlX6 (by decide) rfl q540 dX6_perform_70 rfl hLa6 hKa6 ?_
          refine g_icmp_eq C (tgt := 84) dX6_perform_73 (by decide) h (fun h => ?_) (fun h => ?_)
          · refine g_iload_n C (q := 0) dX6_perform_84 rfl rfl ?_
            by_cases c5 : v1 = 0
            · have h := if_el1 h c5
              refine g_tswIn C (v := 0) (tgt := 116) dX6_perform_85 c5 (by decide) (by decide) rfl (by decide) ?_
              refine g_aload_n C (q := 1) dX6_perform_116 rfl rfl ?_
              refine g_aload_n C (q := 1) dX6_perform_117 rfl rfl ?_
              refine g_getEI C (ci := 6) (slot := 11) rfl (by decide) inlX6 (by decide) rfl q649 dX6_perform_118 rfl hLa6 hKa6 ?_
              refine g_aload_n C (q := 1) dX6_perform_121 rfl rfl ?_
              refine g_getEI C (ci := 6) (slot := 12) rfl (by decide) inlX6 (by decide) rfl q651 dX6_perform_122 rfl hLa6 hKa6 ?_
              refine g_callVI C (ci := 6) (As := [.int (zI S11 x0 11), .int (zI S11 x0 12)]) (np := 2) (st := []) (r := (some x0)) rfl (by decide) (fun b9 q hq => c_X6_book S11 b9 (zI S11 x0 11) (zI S11 x0 12) q hq) gv_RX6_X6_book rfl rfl dsX6_book rfl ⟨Nat.le_of_ble_eq_true rfl, Nat.le_of_ble_eq_true rfl⟩ rfl (cat_sum (Nat.le_of_ble_eq_true rfl)) ⟨Nat.zero_le _, Nat.zero_le _⟩ dX6_perform_125 h (fun v9 S12 h => ?_)
              exact g_iret C hQ dX6_perform_128 h
            have h := if_el2 h c5
            by_cases c6 : v1 = 1
            · have h := if_el1 h c6
              refine g_tswIn C (v := 1) (tgt := 129) dX6_perform_85 c6 (by decide) (by decide) rfl (by decide) ?_
              refine g_aload_n C (q := 1) dX6_perform_129 rfl rfl ?_
              refine g_aload_n C (q := 1) dX6_perform_130 rfl rfl ?_
              refine g_getEI C (ci := 6) (slot := 11) rfl (by decide) inlX6 (by decide) rfl q649 dX6_perform_131 rfl hLa6 hKa6 ?_
              refine g_aload_n C (q := 1) dX6_perform_134 rfl rfl ?_
              refine g_getEI C (ci := 6) (slot := 12) rfl (by decide) inlX6 (by decide) rfl q651 dX6_perform_135 rfl hLa6 hKa6 ?_
              refine g_callVI C (ci := 6) (As := [.int (zI S11 x0 11), .int (zI S11 x0 12)]) (np := 2) (st := []) (r := (some x0)) rfl (by decide) (fun b10 q hq => c_X6_leave S11 b10 (zI S11 x0 11) (zI S11 x0 12) q hq) gv_RX6_X6_leave rfl rfl dsX6_leave rfl ⟨Nat.le_of_ble_eq_true rfl, Nat.le_of_ble_eq_true rfl⟩ rfl (cat_sum (Nat.le_of_ble_eq_true rfl)) ⟨Nat.zero_le _, Nat.zero_le _⟩ dX6_perform_138 h (fun v10 S13 h => ?_)
              exact g_iret C hQ dX6_perform_141 h
            have h := if_el2 h c6
            by_cases c7 : v1 = 2
            · have h := if_el1 h c7
              refine g_tswIn C (v := 2) (tgt := 142) dX6_perform_85 c7 (by decide) (by decide) rfl (by decide) ?_
              refine g_aload_n C (q := 1) dX6_perform_142 rfl rfl ?_
              refine g_aload_n C (q := 1) dX6_perform_143 rfl rfl ?_
              refine g_getEI C (ci := 6) (slot := 11) rfl (by decide) inlX6 (by decide) rfl q649 dX6_perform_144 rfl hLa6 hKa6 ?_
              refine g_aload_n C (q := 1) dX6_perform_147 rfl rfl ?_
              refine g_getEI C (ci := 6) (slot := 12) rfl (by decide) inlX6 (by decide) rfl q651 dX6_perform_148 rfl hLa6 hKa6 ?_
              refine g_callVI C (ci := 6) (As := [.int (zI S11 x0 11), .int (zI S11 x0 12)]) (np := 2) (st := []) (r := (some x0)) rfl (by decide) (fun b11 q hq => c_X6_merge S11 b11 (zI S11 x0 11) (zI S11 x0 12) q hq) gv_RX6_X6_merge rfl rfl dsX6_merge rfl ⟨Nat.le_of_ble_eq_true rfl, Nat.le_of_ble_eq_true rfl⟩ rfl (cat_sum (Nat.le_of_ble_eq_true rfl)) ⟨Nat.zero_le _, Nat.zero_le _⟩ dX6_perform_151 h (fun v11 S14 h => ?_)
              exact g_iret C hQ dX6_perform_154 h
            have h := if_el2 h c7
            by_cases c8 : v1 = 3
            · have h := if_el1 h c8
              refine g_tswIn C (v := 3) (tgt := 155) dX6_perform_85 c8 (by decide) (by decide) rfl (by decide) ?_
              refine g_aload_n C (q := 1) dX6_perform_155 rfl rfl ?_
              refine g_aload_n C (q := 1) dX6_perform_156 rfl rfl ?_
              refine g_getEI C (ci := 6) (slot := 11) rfl (by decide) inlX6 (by decide) rfl q649 dX6_perform_157 rfl hLa6 hKa6 ?_
              refine g_callVI C (ci := 6) (As := [.int (zI S11 x0 11)]) (np := 1) (st := []) (r := (some x0)) rfl (by decide) (fun b12 q hq => c_X6_cancel S11 b12 (zI S11 x0 11) q hq) gv_RX6_X6_cancel rfl rfl dsX6_cancel rfl ⟨Nat.le_of_ble_eq_true rfl, Nat.le_of_ble_eq_true rfl⟩ rfl (cat_sum (Nat.le_of_ble_eq_true rfl)) ⟨Nat.zero_le _, Nat.zero_le _⟩ dX6_perform_160 h (fun v12 S15 h => ?_)
              exact g_iret C hQ dX6_perform_163 h
            have h := if_el2 h c8
            refine g_tswOut C (tgt := 164) dX6_perform_85 (sw_out (x := v1) 0 4 (by decide) (h := (lt_s (lt_s (lt_s (lt_s lt_0 c5) c6) c7) c8))) (by decide) ?_
            refine g_aload_n C (q := 1) dX6_perform_164 rfl rfl ?_
            refine g_aload_n C (q := 1) dX6_perform_165 rfl rfl ?_
            refine g_getEI C (ci := 6) (slot := 11) rfl (by decide) inlX6 (by decide) rfl q649 dX6_perform_166 rfl hLa6 hKa6 ?_
            refine g_aload_n C (q := 1) dX6_perform_169 rfl rfl ?_
            refine g_getEI C (ci := 6) (slot := 12) rfl (by decide) inlX6 (by decide) rfl q651 dX6_perform_170 rfl hLa6 hKa6 ?_
            refine g_callVI C (ci := 6) (As := [.int (zI S11 x0 11), .int (zI S11 x0 12)]) (np := 2) (st := []) (r := (some x0)) rfl (by decide) (fun b13 q hq => c_X6_lead S11 b13 (zI S11 x0 11) (zI S11 x0 12) q hq) gv_RX6_X6_lead rfl rfl dsX6_lead rfl ⟨Nat.le_of_ble_eq_true rfl, Nat.le_of_ble_eq_true rfl⟩ rfl (cat_sum (Nat.le_of_ble_eq_true rfl)) ⟨Nat.zero_le _, Nat.zero_le _⟩ dX6_perform_173 h (fun v13 S16 h => ?_)
            exact g_iret C hQ dX6_perform_176 h
          · refine g_bipush C (v := (-100)) dX6_perform_76 (by decide) ?_
            refine g_aload_n C (q := 1) dX6_perform_78 rfl rfl ?_
            refine g_getEI C (ci := 6) (slot := 10) rfl (by decide) inlX6 (by decide) rfl q650 dX6_perform_79 rfl hLa6 hKa6 ?_
            refine g_isub C dX6_perform_82 ?_
            exact g_iret C hQ dX6_perform_83 h

abbrev rm_X6_undo : Room := { frames := 0, cells := 0, slots := 0, locals := 0 }
theorem dsX6_undo : yX6_undo.cls = RX6 ∧ yX6_undo.cls ≠ "java/lang/invoke/MethodHandle" ∧ yX6_undo.cls ≠ "java/lang/invoke/VarHandle" ∧ (parseMethodDescriptor yX6_undo.desc).map (fun d => d.parameters.length) = some 0 := by decide +kernel
def f_X6_undo_L58_b (rec : Hp → Nat → Int32 → Option (Int32 × Hp)) (S : Hp) (x0 : Nat) (y1 : Int32) : Option (Int32 × Hp) :=
 if 17 ≤ y1 then
 ob S 6 (some x0) fun _ =>
 some ((zI S x0 6), S)
 else
 ob S 6 (some x0) fun _ =>
 ar S 8 (zR S x0 4) ((17 * (zI S x0 6)) + y1) fun a3 i1 =>
 ar S 8 (zR S x0 3) y1 fun a4 i2 => bnd (wD S a4 i2 (zD S a3 i1)) fun S1 =>
 bnd (y1 + 1) fun v1 =>
 rec S1 x0 v1
def f_X6_undo_L58 : Nat → Hp → Nat → Int32 → Option (Int32 × Hp)
  | 0 => fun _ _ _ => none
  | n + 1 => f_X6_undo_L58_b (f_X6_undo_L58 n)

def f_X6_undo_L22_b (rec : Hp → Nat → Int32 → Option (Int32 × Hp)) (S : Hp) (x0 : Nat) (y1 : Int32) : Option (Int32 × Hp) :=
 if 180 ≤ y1 then
 f_X6_undo_L58 1000 S x0 (0 : Int32)
 else
 ob S 6 (some x0) fun _ =>
 ar S 9 (zR S x0 1) ((180 * (zI S x0 6)) + y1) fun a2 i1 =>
 ar S 9 (zR S x0 0) y1 fun a3 i2 => bnd (wI S a3 i2 (zI S a2 i1)) fun S1 =>
 bnd (y1 + 1) fun v1 =>
 rec S1 x0 v1
def f_X6_undo_L22 : Nat → Hp → Nat → Int32 → Option (Int32 × Hp)
  | 0 => fun _ _ _ => none
  | n + 1 => f_X6_undo_L22_b (f_X6_undo_L22 n)
def f_X6_undo (S : Hp) (x0 : Nat) : Option (Int32 × Hp) :=
 ob S 6 (some x0) fun _ =>
 if (zI S x0 6) = 0 then
 some ((-5 : Int32), S)
 else
 ob S 6 (some x0) fun a2 => bnd (wI S a2 6 ((zI S x0 6) - 1)) fun S1 =>
 f_X6_undo_L22 1000 S1 x0 (0 : Int32)
set_option maxHeartbeats 4000000 in
set_option maxRecDepth 100000 in
theorem w_X6_undo_L58 {X : Cx} (C : CxOK X cX6_undo RX6 rm_X6_undo) (hn : xn X = 2) {S0 : Hp} {o : Int32 × Hp} (hQ : QI X (some .int) S0 0 0 o) : ∀ (fuel : Nat) (S : Hp) (x0 : Nat) (y1 : Int32), f_X6_undo_L58 fuel S x0 y1 = some o → GW X 0 0 S 58 [(0, va_rf (some x0)), (1, .int y1)] [] := by
  have hn1 : 1 < xn X := by rw [hn]; decide
  intro fuel
  induction fuel with
  | zero => intro S x0 y1 h; cases (show none = some o from h)
  | succ fuel ih =>
    intro S x0 y1 h
    have h : f_X6_undo_L58_b (f_X6_undo_L58 fuel) S x0 y1 = some o := h
    unfold f_X6_undo_L58_b at h
    refine g_iload_n C (q := 1) dX6_undo_58 rfl rfl ?_
    refine g_bipush C (v := 17) dX6_undo_59 (by decide) ?_
    refine g_icmp_ge C (tgt := 90) dX6_undo_61 (by decide) h (fun h => ?_) (fun h => ?_)
    · refine g_aload_n C (q := 0) dX6_undo_90 rfl rfl ?_
      refine g_ogetSI C (ci := 6) (slot := 6) rfl (by decide) inlX6 (by decide) rfl q151 dX6_undo_91 h (fun h hLa1 hKa1 => ?_)
      exact g_iret C hQ dX6_undo_94 h
    · refine g_aload_n C (q := 0) dX6_undo_64 rfl rfl ?_
      refine g_ogetSR C (ci := 6) (slot := 3) rfl (by decide) inlX6 (by decide) rfl q69 dX6_undo_65 h (fun h hLa2 hKa2 => ?_)
      refine g_iload_n C (q := 1) dX6_undo_68 rfl rfl ?_
      refine g_aload_n C (q := 0) dX6_undo_69 rfl rfl ?_
      refine g_getER C (ci := 6) (slot := 4) rfl (by decide) inlX6 (by decide) rfl q70 dX6_undo_70 rfl hLa2 hKa2 ?_
      refine g_bipush C (v := 17) dX6_undo_73 (by decide) ?_
      refine g_aload_n C (q := 0) dX6_undo_75 rfl rfl ?_
      refine g_getEI C (ci := 6) (slot := 6) rfl (by decide) inlX6 (by decide) rfl q151 dX6_undo_76 rfl hLa2 hKa2 ?_
      refine g_imul C dX6_undo_79 ?_
      refine g_iload_n C (q := 1) dX6_undo_80 rfl rfl ?_
      refine g_iadd C dX6_undo_81 ?_
      refine g_dald C dX6_undo_82 h (fun a3 i1 h => ?_)
      refine g_dast C dX6_undo_83 h (fun a4 i2 S1 h => ?_)
      obtain ⟨v1, ev1, h⟩ := bnd_ex h
      refine g_iinc C (i := 1) (lv' := [(1, .int v1), (0, va_rf (some x0))]) (q := 1) v1 dX6_undo_84 rfl ev1 hn1 (by simp [va_rf_cat, catI, catJ, catD]) ?_
      refine g_goto C (tgt := 58) dX6_undo_87 (by decide) ?_
      refine g_sub (lv' := [(0, va_rf (some x0)), (1, .int v1)]) [1, 0] rfl ?_
      exact ih S1 x0 v1 h

set_option maxHeartbeats 4000000 in
set_option maxRecDepth 100000 in
theorem w_X6_undo_L22 {X : Cx} (C : CxOK X cX6_undo RX6 rm_X6_undo) (hn : xn X = 2) {S0 : Hp} {o : Int32 × Hp} (hQ : QI X (some .int) S0 0 0 o) : ∀ (fuel : Nat) (S : Hp) (x0 : Nat) (y1 : Int32), f_X6_undo_L22 fuel S x0 y1 = some o → GW X 0 0 S 22 [(0, va_rf (some x0)), (1, .int y1)] [] := by
  have hn1 : 1 < xn X := by rw [hn]; decide
  intro fuel
  induction fuel with
  | zero => intro S x0 y1 h; cases (show none = some o from h)
  | succ fuel ih =>
    intro S x0 y1 h
    have h : f_X6_undo_L22_b (f_X6_undo_L22 fuel) S x0 y1 = some o := h
    unfold f_X6_undo_L22_b at h
    refine g_iload_n C (q := 1) dX6_undo_22 rfl rfl ?_
    refine g_sipush C (v := 180) dX6_undo_23 (by decide) ?_
    refine g_icmp_ge C (tgt := 56) dX6_undo_26 (by decide) h (fun h => ?_) (fun h => ?_)
    · refine g_iconst C (v := 0) dX6_undo_56 (by decide) ?_
      refine g_istore_n C (i := 1) (lv' := [(1, .int 0), (0, va_rf (some x0))]) dX6_undo_57 rfl hn1 (by simp [va_rf_cat, catI, catJ, catD]) ?_
      refine g_sub (lv' := [(0, va_rf (some x0)), (1, .int 0)]) [1, 0] rfl ?_
      exact w_X6_undo_L58 C hn hQ 1000 S x0 (0 : Int32) h
    · refine g_aload_n C (q := 0) dX6_undo_29 rfl rfl ?_
      refine g_ogetSR C (ci := 6) (slot := 0) rfl (by decide) inlX6 (by decide) rfl q66 dX6_undo_30 h (fun h hLa1 hKa1 => ?_)
      refine g_iload_n C (q := 1) dX6_undo_33 rfl rfl ?_
      refine g_aload_n C (q := 0) dX6_undo_34 rfl rfl ?_
      refine g_getER C (ci := 6) (slot := 1) rfl (by decide) inlX6 (by decide) rfl q67 dX6_undo_35 rfl hLa1 hKa1 ?_
      refine g_sipush C (v := 180) dX6_undo_38 (by decide) ?_
      refine g_aload_n C (q := 0) dX6_undo_41 rfl rfl ?_
      refine g_getEI C (ci := 6) (slot := 6) rfl (by decide) inlX6 (by decide) rfl q151 dX6_undo_42 rfl hLa1 hKa1 ?_
      refine g_imul C dX6_undo_45 ?_
      refine g_iload_n C (q := 1) dX6_undo_46 rfl rfl ?_
      refine g_iadd C dX6_undo_47 ?_
      refine g_iald C dX6_undo_48 h (fun a2 i1 h => ?_)
      refine g_iast C dX6_undo_49 h (fun a3 i2 S1 h => ?_)
      obtain ⟨v1, ev1, h⟩ := bnd_ex h
      refine g_iinc C (i := 1) (lv' := [(1, .int v1), (0, va_rf (some x0))]) (q := 1) v1 dX6_undo_50 rfl ev1 hn1 (by simp [va_rf_cat, catI, catJ, catD]) ?_
      refine g_goto C (tgt := 22) dX6_undo_53 (by decide) ?_
      refine g_sub (lv' := [(0, va_rf (some x0)), (1, .int v1)]) [1, 0] rfl ?_
      exact ih S1 x0 v1 h
set_option maxHeartbeats 4000000 in
set_option maxRecDepth 100000 in
theorem c_X6_undo (S : Hp) (x0 : Nat) (o : Int32 × Hp) (h : f_X6_undo S x0 = some o) : CtI yX6_undo cX6_undo 2 (some .int) rm_X6_undo 0 0 [va_rf (some x0)] S o := by
  refine ct_I (own := RX6) (by decide) rfl (Nat.le_of_ble_eq_true rfl) (fun X C hn hQ => ?_)
  have hn1 : 1 < xn X := by rw [hn]; decide
  unfold f_X6_undo at h
  show GW X 0 0 S 0 [(0, va_rf (some x0))] []
  refine g_aload_n C (q := 0) dX6_undo_0 rfl rfl ?_
  refine g_ogetSI C (ci := 6) (slot := 6) rfl (by decide) inlX6 (by decide) rfl q151 dX6_undo_1 h (fun h hLa1 hKa1 => ?_)
  refine g_if_ne C (tgt := 10) dX6_undo_4 (by decide) h (fun h => ?_) (fun h => ?_)
  · refine g_bipush C (v := (-5)) dX6_undo_7 (by decide) ?_
    exact g_iret C hQ dX6_undo_9 h
  · refine g_aload_n C (q := 0) dX6_undo_10 rfl rfl ?_
    refine g_dup C dX6_undo_11 (va_rf_cat _) ?_
    refine g_getEI C (ci := 6) (slot := 6) rfl (by decide) inlX6 (by decide) rfl q151 dX6_undo_12 rfl hLa1 hKa1 ?_
    refine g_iconst C (v := 1) dX6_undo_15 (by decide) ?_
    refine g_isub C dX6_undo_16 ?_
    refine g_oputI C (ci := 6) (slot := 6) tyX6 tyX6_ok nmX6 rfl (by decide) inlX6 (by decide) rfl q151 rfl dX6_undo_17 rfl rfl h (fun a2 S1 h => ?_)
    refine g_iconst C (v := 0) dX6_undo_20 (by decide) ?_
    refine g_istore_n C (i := 1) (lv' := [(1, .int 0), (0, va_rf (some x0))]) dX6_undo_21 rfl hn1 (by simp [va_rf_cat, catI, catJ, catD]) ?_
    refine g_sub (lv' := [(0, va_rf (some x0)), (1, .int 0)]) [1, 0] rfl ?_
    exact w_X6_undo_L22 C hn hQ 1000 S1 x0 (0 : Int32) h

abbrev rm_X6_keep : Room := { frames := 0, cells := 0, slots := 0, locals := 0 }
theorem dsX6_keep : yX6_keep.cls = RX6 ∧ yX6_keep.cls ≠ "java/lang/invoke/MethodHandle" ∧ yX6_keep.cls ≠ "java/lang/invoke/VarHandle" ∧ (parseMethodDescriptor yX6_keep.desc).map (fun d => d.parameters.length) = some 0 := by decide +kernel
def f_X6_keep_L29_b (rec : Hp → Nat → Int32 → Option (Int32 × Hp)) (S : Hp) (x0 : Nat) (y1 : Int32) : Option (Int32 × Hp) :=
 if 17 ≤ y1 then
 ob S 6 (some x0) fun a1 => bnd (wI S a1 7 (1 : Int32)) fun S1 =>
 ob S1 6 (some x0) fun _ =>
 ar S1 9 (zR S1 x0 0) (0 : Int32) fun a3 i1 =>
 some ((zI S1 a3 i1), S1)
 else
 ob S 6 (some x0) fun _ =>
 ar S 8 (zR S x0 3) y1 fun a5 i2 =>
 ar S 8 (zR S x0 5) y1 fun a6 i3 => bnd (wD S a6 i3 (zD S a5 i2)) fun S2 =>
 bnd (y1 + 1) fun v1 =>
 rec S2 x0 v1
def f_X6_keep_L29 : Nat → Hp → Nat → Int32 → Option (Int32 × Hp)
  | 0 => fun _ _ _ => none
  | n + 1 => f_X6_keep_L29_b (f_X6_keep_L29 n)

def f_X6_keep_L2_b (rec : Hp → Nat → Int32 → Option (Int32 × Hp)) (S : Hp) (x0 : Nat) (y1 : Int32) : Option (Int32 × Hp) :=
 if 180 ≤ y1 then
 f_X6_keep_L29 1000 S x0 (0 : Int32)
 else
 ob S 6 (some x0) fun _ =>
 ar S 9 (zR S x0 0) y1 fun a2 i1 =>
 ar S 9 (zR S x0 2) y1 fun a3 i2 => bnd (wI S a3 i2 (zI S a2 i1)) fun S1 =>
 bnd (y1 + 1) fun v1 =>
 rec S1 x0 v1
def f_X6_keep_L2 : Nat → Hp → Nat → Int32 → Option (Int32 × Hp)
  | 0 => fun _ _ _ => none
  | n + 1 => f_X6_keep_L2_b (f_X6_keep_L2 n)
def f_X6_keep (S : Hp) (x0 : Nat) : Option (Int32 × Hp) :=
 f_X6_keep_L2 1000 S x0 (0 : Int32)
set_option maxHeartbeats 4000000 in
set_option maxRecDepth 100000 in
theorem w_X6_keep_L29 {X : Cx} (C : CxOK X cX6_keep RX6 rm_X6_keep) (hn : xn X = 2) {S0 : Hp} {o : Int32 × Hp} (hQ : QI X (some .int) S0 0 0 o) : ∀ (fuel : Nat) (S : Hp) (x0 : Nat) (y1 : Int32), f_X6_keep_L29 fuel S x0 y1 = some o → GW X 0 0 S 29 [(0, va_rf (some x0)), (1, .int y1)] [] := by
  have hn1 : 1 < xn X := by rw [hn]; decide
  intro fuel
  induction fuel with
  | zero => intro S x0 y1 h; cases (show none = some o from h)
  | succ fuel ih =>
    intro S x0 y1 h
    have h : f_X6_keep_L29_b (f_X6_keep_L29 fuel) S x0 y1 = some o := h
    unfold f_X6_keep_L29_b at h
    refine g_iload_n C (q := 1) dX6_keep_29 rfl rfl ?_
    refine g_bipush C (v := 17) dX6_keep_30 (by decide) ?_
    refine g_icmp_ge C (tgt := 53) dX6_keep_32 (by decide) h (fun h => ?_) (fun h => ?_)
    · refine g_aload_n C (q := 0) dX6_keep_53 rfl rfl ?_
      refine g_iconst C (v := 1) dX6_keep_54 (by decide) ?_
      refine g_oputI C (ci := 6) (slot := 7) tyX6 tyX6_ok nmX6 rfl (by decide) inlX6 (by decide) rfl q692 rfl dX6_keep_55 (by decide +kernel) (by decide +kernel) h (fun a1 S1 h => ?_)
      refine g_aload_n C (q := 0) dX6_keep_58 rfl rfl ?_
      refine g_ogetSR C (ci := 6) (slot := 0) rfl (by decide) inlX6 (by decide) rfl q66 dX6_keep_59 h (fun h hLa2 hKa2 => ?_)
      refine g_iconst C (v := 0) dX6_keep_62 (by decide) ?_
      refine g_iald C dX6_keep_63 h (fun a3 i1 h => ?_)
      exact g_iret C hQ dX6_keep_64 h
    · refine g_aload_n C (q := 0) dX6_keep_35 rfl rfl ?_
      refine g_ogetSR C (ci := 6) (slot := 5) rfl (by decide) inlX6 (by decide) rfl q71 dX6_keep_36 h (fun h hLa4 hKa4 => ?_)
      refine g_iload_n C (q := 1) dX6_keep_39 rfl rfl ?_
      refine g_aload_n C (q := 0) dX6_keep_40 rfl rfl ?_
      refine g_getER C (ci := 6) (slot := 3) rfl (by decide) inlX6 (by decide) rfl q69 dX6_keep_41 rfl hLa4 hKa4 ?_
      refine g_iload_n C (q := 1) dX6_keep_44 rfl rfl ?_
      refine g_dald C dX6_keep_45 h (fun a5 i2 h => ?_)
      refine g_dast C dX6_keep_46 h (fun a6 i3 S2 h => ?_)
      obtain ⟨v1, ev1, h⟩ := bnd_ex h
      refine g_iinc C (i := 1) (lv' := [(1, .int v1), (0, va_rf (some x0))]) (q := 1) v1 dX6_keep_47 rfl ev1 hn1 (by simp [va_rf_cat, catI, catJ, catD]) ?_
      refine g_goto C (tgt := 29) dX6_keep_50 (by decide) ?_
      refine g_sub (lv' := [(0, va_rf (some x0)), (1, .int v1)]) [1, 0] rfl ?_
      exact ih S2 x0 v1 h

set_option maxHeartbeats 4000000 in
set_option maxRecDepth 100000 in
theorem w_X6_keep_L2 {X : Cx} (C : CxOK X cX6_keep RX6 rm_X6_keep) (hn : xn X = 2) {S0 : Hp} {o : Int32 × Hp} (hQ : QI X (some .int) S0 0 0 o) : ∀ (fuel : Nat) (S : Hp) (x0 : Nat) (y1 : Int32), f_X6_keep_L2 fuel S x0 y1 = some o → GW X 0 0 S 2 [(0, va_rf (some x0)), (1, .int y1)] [] := by
  have hn1 : 1 < xn X := by rw [hn]; decide
  intro fuel
  induction fuel with
  | zero => intro S x0 y1 h; cases (show none = some o from h)
  | succ fuel ih =>
    intro S x0 y1 h
    have h : f_X6_keep_L2_b (f_X6_keep_L2 fuel) S x0 y1 = some o := h
    unfold f_X6_keep_L2_b at h
    refine g_iload_n C (q := 1) dX6_keep_2 rfl rfl ?_
    refine g_sipush C (v := 180) dX6_keep_3 (by decide) ?_
    refine g_icmp_ge C (tgt := 27) dX6_keep_6 (by decide) h (fun h => ?_) (fun h => ?_)
    · refine g_iconst C (v := 0) dX6_keep_27 (by decide) ?_
      refine g_istore_n C (i := 1) (lv' := [(1, .int 0), (0, va_rf (some x0))]) dX6_keep_28 rfl hn1 (by simp [va_rf_cat, catI, catJ, catD]) ?_
      refine g_sub (lv' := [(0, va_rf (some x0)), (1, .int 0)]) [1, 0] rfl ?_
      exact w_X6_keep_L29 C hn hQ 1000 S x0 (0 : Int32) h
    · refine g_aload_n C (q := 0) dX6_keep_9 rfl rfl ?_
      refine g_ogetSR C (ci := 6) (slot := 2) rfl (by decide) inlX6 (by decide) rfl q68 dX6_keep_10 h (fun h hLa1 hKa1 => ?_)
      refine g_iload_n C (q := 1) dX6_keep_13 rfl rfl ?_
      refine g_aload_n C (q := 0) dX6_keep_14 rfl rfl ?_
      refine g_getER C (ci := 6) (slot := 0) rfl (by decide) inlX6 (by decide) rfl q66 dX6_keep_15 rfl hLa1 hKa1 ?_
      refine g_iload_n C (q := 1) dX6_keep_18 rfl rfl ?_
      refine g_iald C dX6_keep_19 h (fun a2 i1 h => ?_)
      refine g_iast C dX6_keep_20 h (fun a3 i2 S1 h => ?_)
      obtain ⟨v1, ev1, h⟩ := bnd_ex h
      refine g_iinc C (i := 1) (lv' := [(1, .int v1), (0, va_rf (some x0))]) (q := 1) v1 dX6_keep_21 rfl ev1 hn1 (by simp [va_rf_cat, catI, catJ, catD]) ?_
      refine g_goto C (tgt := 2) dX6_keep_24 (by decide) ?_
      refine g_sub (lv' := [(0, va_rf (some x0)), (1, .int v1)]) [1, 0] rfl ?_
      exact ih S1 x0 v1 h
set_option maxHeartbeats 4000000 in
set_option maxRecDepth 100000 in
theorem c_X6_keep (S : Hp) (x0 : Nat) (o : Int32 × Hp) (h : f_X6_keep S x0 = some o) : CtI yX6_keep cX6_keep 2 (some .int) rm_X6_keep 0 0 [va_rf (some x0)] S o := by
  refine ct_I (own := RX6) (by decide) rfl (Nat.le_of_ble_eq_true rfl) (fun X C hn hQ => ?_)
  have hn1 : 1 < xn X := by rw [hn]; decide
  unfold f_X6_keep at h
  show GW X 0 0 S 0 [(0, va_rf (some x0))] []
  refine g_iconst C (v := 0) dX6_keep_0 (by decide) ?_
  refine g_istore_n C (i := 1) (lv' := [(1, .int 0), (0, va_rf (some x0))]) dX6_keep_1 rfl hn1 (by simp [va_rf_cat, catI, catJ, catD]) ?_
  refine g_sub (lv' := [(0, va_rf (some x0)), (1, .int 0)]) [1, 0] rfl ?_
  exact w_X6_keep_L2 C hn hQ 1000 S x0 (0 : Int32) h

abbrev rm_X6_restore : Room := { frames := 1, cells := 0, slots := 0, locals := 21 }
theorem dsX6_restore : yX6_restore.cls = RX6 ∧ yX6_restore.cls ≠ "java/lang/invoke/MethodHandle" ∧ yX6_restore.cls ≠ "java/lang/invoke/VarHandle" ∧ (parseMethodDescriptor yX6_restore.desc).map (fun d => d.parameters.length) = some 0 := by decide +kernel
def f_X6_restore_L43_b (rec : Hp → Nat → Int32 → Option (Int32 × Hp)) (S : Hp) (x0 : Nat) (y1 : Int32) : Option (Int32 × Hp) :=
 if 17 ≤ y1 then
 ob S 6 (some x0) fun _ =>
 ar S 9 (zR S x0 0) (0 : Int32) fun a2 i1 =>
 some ((zI S a2 i1), S)
 else
 ob S 6 (some x0) fun _ =>
 ar S 8 (zR S x0 5) y1 fun a4 i2 =>
 ar S 8 (zR S x0 3) y1 fun a5 i3 => bnd (wD S a5 i3 (zD S a4 i2)) fun S1 =>
 bnd (y1 + 1) fun v1 =>
 rec S1 x0 v1
def f_X6_restore_L43 : Nat → Hp → Nat → Int32 → Option (Int32 × Hp)
  | 0 => fun _ _ _ => none
  | n + 1 => f_X6_restore_L43_b (f_X6_restore_L43 n)

def f_X6_restore_L16_b (rec : Hp → Nat → Int32 → Option (Int32 × Hp)) (S : Hp) (x0 : Nat) (y1 : Int32) : Option (Int32 × Hp) :=
 if 180 ≤ y1 then
 f_X6_restore_L43 1000 S x0 (0 : Int32)
 else
 ob S 6 (some x0) fun _ =>
 ar S 9 (zR S x0 2) y1 fun a2 i1 =>
 ar S 9 (zR S x0 0) y1 fun a3 i2 => bnd (wI S a3 i2 (zI S a2 i1)) fun S1 =>
 bnd (y1 + 1) fun v1 =>
 rec S1 x0 v1
def f_X6_restore_L16 : Nat → Hp → Nat → Int32 → Option (Int32 × Hp)
  | 0 => fun _ _ _ => none
  | n + 1 => f_X6_restore_L16_b (f_X6_restore_L16 n)
def f_X6_restore (S : Hp) (x0 : Nat) : Option (Int32 × Hp) :=
 ob S 6 (some x0) fun _ =>
 if (zI S x0 7) = 0 then
 some ((-5 : Int32), S)
 else
 ob S 6 (some x0) fun b1 => cl (f_X6_record S b1 ) fun _ S1 =>
 f_X6_restore_L16 1000 S1 x0 (0 : Int32)
set_option maxHeartbeats 4000000 in
set_option maxRecDepth 100000 in
theorem w_X6_restore_L43 {X : Cx} (C : CxOK X cX6_restore RX6 rm_X6_restore) (hn : xn X = 2) {S0 : Hp} {o : Int32 × Hp} (hQ : QI X (some .int) S0 0 0 o) : ∀ (fuel : Nat) (S : Hp) (x0 : Nat) (y1 : Int32), f_X6_restore_L43 fuel S x0 y1 = some o → GW X 0 0 S 43 [(0, va_rf (some x0)), (1, .int y1)] [] := by
  have hn1 : 1 < xn X := by rw [hn]; decide
  intro fuel
  induction fuel with
  | zero => intro S x0 y1 h; cases (show none = some o from h)
  | succ fuel ih =>
    intro S x0 y1 h
    have h : f_X6_restore_L43_b (f_X6_restore_L43 fuel) S x0 y1 = some o := h
    unfold f_X6_restore_L43_b at h
    refine g_iload_n C (q := 1) dX6_restore_43 rfl rfl ?_
    refine g_bipush C (v := 17) dX6_restore_44 (by decide) ?_
    refine g_icmp_ge C (tgt := 67) dX6_restore_46 (by decide) h (fun h => ?_) (fun h => ?_)
    · refine g_aload_n C (q := 0) dX6_restore_67 rfl rfl ?_
      refine g_ogetSR C (ci := 6) (slot := 0) rfl (by decide) inlX6 (by decide) rfl q66 dX6_restore_68 h (fun h hLa1 hKa1 => ?_)
      refine g_iconst C (v := 0) dX6_restore_71 (by decide) ?_
      refine g_iald C dX6_restore_72 h (fun a2 i1 h => ?_)
      exact g_iret C hQ dX6_restore_73 h
    · refine g_aload_n C (q := 0) dX6_restore_49 rfl rfl ?_
      refine g_ogetSR C (ci := 6) (slot := 3) rfl (by decide) inlX6 (by decide) rfl q69 dX6_restore_50 h (fun h hLa3 hKa3 => ?_)
      refine g_iload_n C (q := 1) dX6_restore_53 rfl rfl ?_
      refine g_aload_n C (q := 0) dX6_restore_54 rfl rfl ?_
      refine g_getER C (ci := 6) (slot := 5) rfl (by decide) inlX6 (by decide) rfl q71 dX6_restore_55 rfl hLa3 hKa3 ?_
      refine g_iload_n C (q := 1) dX6_restore_58 rfl rfl ?_
      refine g_dald C dX6_restore_59 h (fun a4 i2 h => ?_)
      refine g_dast C dX6_restore_60 h (fun a5 i3 S1 h => ?_)
      obtain ⟨v1, ev1, h⟩ := bnd_ex h
      refine g_iinc C (i := 1) (lv' := [(1, .int v1), (0, va_rf (some x0))]) (q := 1) v1 dX6_restore_61 rfl ev1 hn1 (by simp [va_rf_cat, catI, catJ, catD]) ?_
      refine g_goto C (tgt := 43) dX6_restore_64 (by decide) ?_
      refine g_sub (lv' := [(0, va_rf (some x0)), (1, .int v1)]) [1, 0] rfl ?_
      exact ih S1 x0 v1 h

set_option maxHeartbeats 4000000 in
set_option maxRecDepth 100000 in
theorem w_X6_restore_L16 {X : Cx} (C : CxOK X cX6_restore RX6 rm_X6_restore) (hn : xn X = 2) {S0 : Hp} {o : Int32 × Hp} (hQ : QI X (some .int) S0 0 0 o) : ∀ (fuel : Nat) (S : Hp) (x0 : Nat) (y1 : Int32), f_X6_restore_L16 fuel S x0 y1 = some o → GW X 0 0 S 16 [(0, va_rf (some x0)), (1, .int y1)] [] := by
  have hn1 : 1 < xn X := by rw [hn]; decide
  intro fuel
  induction fuel with
  | zero => intro S x0 y1 h; cases (show none = some o from h)
  | succ fuel ih =>
    intro S x0 y1 h
    have h : f_X6_restore_L16_b (f_X6_restore_L16 fuel) S x0 y1 = some o := h
    unfold f_X6_restore_L16_b at h
    refine g_iload_n C (q := 1) dX6_restore_16 rfl rfl ?_
    refine g_sipush C (v := 180) dX6_restore_17 (by decide) ?_
    refine g_icmp_ge C (tgt := 41) dX6_restore_20 (by decide) h (fun h => ?_) (fun h => ?_)
    · refine g_iconst C (v := 0) dX6_restore_41 (by decide) ?_
      refine g_istore_n C (i := 1) (lv' := [(1, .int 0), (0, va_rf (some x0))]) dX6_restore_42 rfl hn1 (by simp [va_rf_cat, catI, catJ, catD]) ?_
      refine g_sub (lv' := [(0, va_rf (some x0)), (1, .int 0)]) [1, 0] rfl ?_
      exact w_X6_restore_L43 C hn hQ 1000 S x0 (0 : Int32) h
    · refine g_aload_n C (q := 0) dX6_restore_23 rfl rfl ?_
      refine g_ogetSR C (ci := 6) (slot := 0) rfl (by decide) inlX6 (by decide) rfl q66 dX6_restore_24 h (fun h hLa1 hKa1 => ?_)
      refine g_iload_n C (q := 1) dX6_restore_27 rfl rfl ?_
      refine g_aload_n C (q := 0) dX6_restore_28 rfl rfl ?_
      refine g_getER C (ci := 6) (slot := 2) rfl (by decide) inlX6 (by decide) rfl q68 dX6_restore_29 rfl hLa1 hKa1 ?_
      refine g_iload_n C (q := 1) dX6_restore_32 rfl rfl ?_
      refine g_iald C dX6_restore_33 h (fun a2 i1 h => ?_)
      refine g_iast C dX6_restore_34 h (fun a3 i2 S1 h => ?_)
      obtain ⟨v1, ev1, h⟩ := bnd_ex h
      refine g_iinc C (i := 1) (lv' := [(1, .int v1), (0, va_rf (some x0))]) (q := 1) v1 dX6_restore_35 rfl ev1 hn1 (by simp [va_rf_cat, catI, catJ, catD]) ?_
      refine g_goto C (tgt := 16) dX6_restore_38 (by decide) ?_
      refine g_sub (lv' := [(0, va_rf (some x0)), (1, .int v1)]) [1, 0] rfl ?_
      exact ih S1 x0 v1 h
set_option maxHeartbeats 4000000 in
set_option maxRecDepth 100000 in
theorem c_X6_restore (S : Hp) (x0 : Nat) (o : Int32 × Hp) (h : f_X6_restore S x0 = some o) : CtI yX6_restore cX6_restore 2 (some .int) rm_X6_restore 0 0 [va_rf (some x0)] S o := by
  refine ct_I (own := RX6) (by decide) rfl (Nat.le_of_ble_eq_true rfl) (fun X C hn hQ => ?_)
  have hn1 : 1 < xn X := by rw [hn]; decide
  unfold f_X6_restore at h
  show GW X 0 0 S 0 [(0, va_rf (some x0))] []
  refine g_aload_n C (q := 0) dX6_restore_0 rfl rfl ?_
  refine g_ogetSI C (ci := 6) (slot := 7) rfl (by decide) inlX6 (by decide) rfl q692 dX6_restore_1 h (fun h hLa1 hKa1 => ?_)
  refine g_if_ne C (tgt := 10) dX6_restore_4 (by decide) h (fun h => ?_) (fun h => ?_)
  · refine g_bipush C (v := (-5)) dX6_restore_7 (by decide) ?_
    exact g_iret C hQ dX6_restore_9 h
  · refine g_aload_n C (q := 0) dX6_restore_10 rfl rfl ?_
    refine g_callVV C (ci := 6) (As := []) (np := 0) (st := []) (r := (some x0)) rfl (by decide) (fun b1 q hq => c_X6_record S b1  q hq) gv_RX6_X6_record rfl rfl dsX6_record rfl ⟨Nat.le_of_ble_eq_true rfl, Nat.le_of_ble_eq_true rfl⟩ rfl (cat_sum (Nat.le_of_ble_eq_true rfl)) ⟨Nat.zero_le _, Nat.zero_le _⟩ dX6_restore_11 h (fun S1 h => ?_)
    refine g_iconst C (v := 0) dX6_restore_14 (by decide) ?_
    refine g_istore_n C (i := 1) (lv' := [(1, .int 0), (0, va_rf (some x0))]) dX6_restore_15 rfl hn1 (by simp [va_rf_cat, catI, catJ, catD]) ?_
    refine g_sub (lv' := [(0, va_rf (some x0)), (1, .int 0)]) [1, 0] rfl ?_
    exact w_X6_restore_L16 C hn hQ 1000 S1 x0 (0 : Int32) h

abbrev rm_X6_lowestTour : Room := { frames := 3, cells := 0, slots := 0, locals := 67 }
theorem dsX6_lowestTour : yX6_lowestTour.cls = RX6 ∧ yX6_lowestTour.cls ≠ "java/lang/invoke/MethodHandle" ∧ yX6_lowestTour.cls ≠ "java/lang/invoke/VarHandle" ∧ (parseMethodDescriptor yX6_lowestTour.desc).map (fun d => d.parameters.length) = some 1 := by decide +kernel
def f_X6_lowestTour_L2_b (rec : Hp → Nat → Int32 → Int32 → Option (Int32 × Hp)) (S : Hp) (x0 : Nat) (y1 : Int32) (y2 : Int32) : Option (Int32 × Hp) :=
 ob S 6 (some x0) fun _ =>
 ar S 9 (zR S x0 0) (3 : Int32) fun a2 i1 =>
 if (zI S a2 i1) ≤ y2 then
 some ((-5 : Int32), S)
 else
 ob S 6 (some x0) fun b1 => cl (f_X6_isOpen S b1 y2) fun v1 S1 =>
 if v1 = 0 then
 bnd (y2 + 1) fun v2 =>
 rec S1 x0 y1 v2
 else
 ob S1 6 (some x0) fun b2 => cl (f_X6_leads S1 b2 y1 y2) fun v3 S2 =>
 if v3 = 0 then
 bnd (y2 + 1) fun v4 =>
 rec S2 x0 y1 v4
 else
 some (y2, S2)
def f_X6_lowestTour_L2 : Nat → Hp → Nat → Int32 → Int32 → Option (Int32 × Hp)
  | 0 => fun _ _ _ _ => none
  | n + 1 => f_X6_lowestTour_L2_b (f_X6_lowestTour_L2 n)
def f_X6_lowestTour (S : Hp) (x0 : Nat) (x1 : Int32) : Option (Int32 × Hp) :=
 f_X6_lowestTour_L2 1000 S x0 x1 (0 : Int32)
set_option maxHeartbeats 4000000 in
set_option maxRecDepth 100000 in
theorem w_X6_lowestTour_L2 {X : Cx} (C : CxOK X cX6_lowestTour RX6 rm_X6_lowestTour) (hn : xn X = 3) {S0 : Hp} {o : Int32 × Hp} (hQ : QI X (some .int) S0 0 0 o) : ∀ (fuel : Nat) (S : Hp) (x0 : Nat) (y1 : Int32) (y2 : Int32), f_X6_lowestTour_L2 fuel S x0 y1 y2 = some o → GW X 0 0 S 2 [(0, va_rf (some x0)), (1, .int y1), (2, .int y2)] [] := by
  have hn2 : 2 < xn X := by rw [hn]; decide
  intro fuel
  induction fuel with
  | zero => intro S x0 y1 y2 h; cases (show none = some o from h)
  | succ fuel ih =>
    intro S x0 y1 y2 h
    have h : f_X6_lowestTour_L2_b (f_X6_lowestTour_L2 fuel) S x0 y1 y2 = some o := h
    unfold f_X6_lowestTour_L2_b at h
    refine g_iload_n C (q := 2) dX6_lowestTour_2 rfl rfl ?_
    refine g_aload_n C (q := 0) dX6_lowestTour_3 rfl rfl ?_
    refine g_ogetSR C (ci := 6) (slot := 0) rfl (by decide) inlX6 (by decide) rfl q66 dX6_lowestTour_4 h (fun h hLa1 hKa1 => ?_)
    refine g_iconst C (v := 3) dX6_lowestTour_7 (by decide) ?_
    refine g_iald C dX6_lowestTour_8 h (fun a2 i1 h => ?_)
    refine g_icmp_ge C (tgt := 37) dX6_lowestTour_9 (by decide) h (fun h => ?_) (fun h => ?_)
    · refine g_bipush C (v := (-5)) dX6_lowestTour_37 (by decide) ?_
      exact g_iret C hQ dX6_lowestTour_39 h
    · refine g_aload_n C (q := 0) dX6_lowestTour_12 rfl rfl ?_
      refine g_iload_n C (q := 2) dX6_lowestTour_13 rfl rfl ?_
      refine g_callVI C (ci := 6) (As := [.int y2]) (np := 1) (st := []) (r := (some x0)) rfl (by decide) (fun b1 q hq => c_X6_isOpen S b1 y2 q hq) gv_RX6_X6_isOpen rfl rfl dsX6_isOpen rfl ⟨Nat.le_of_ble_eq_true rfl, Nat.le_of_ble_eq_true rfl⟩ rfl (cat_sum (Nat.le_of_ble_eq_true rfl)) ⟨Nat.zero_le _, Nat.zero_le _⟩ dX6_lowestTour_14 h (fun v1 S1 h => ?_)
      refine g_if_eq C (tgt := 31) dX6_lowestTour_17 (by decide) h (fun h => ?_) (fun h => ?_)
      · obtain ⟨v2, ev2, h⟩ := bnd_ex h
        refine g_iinc C (i := 2) (lv' := [(2, .int v2), (0, va_rf (some x0)), (1, .int y1)]) (q := 2) v2 dX6_lowestTour_31 rfl ev2 hn2 rfl ?_
        refine g_goto C (tgt := 2) dX6_lowestTour_34 (by decide) ?_
        refine g_sub (lv' := [(0, va_rf (some x0)), (1, .int y1), (2, .int v2)]) [1, 2, 0] rfl ?_
        exact ih S1 x0 y1 v2 h
      · refine g_aload_n C (q := 0) dX6_lowestTour_20 rfl rfl ?_
        refine g_iload_n C (q := 1) dX6_lowestTour_21 rfl rfl ?_
        refine g_iload_n C (q := 2) dX6_lowestTour_22 rfl rfl ?_
        refine g_callVI C (ci := 6) (As := [.int y1, .int y2]) (np := 2) (st := []) (r := (some x0)) rfl (by decide) (fun b2 q hq => c_X6_leads S1 b2 y1 y2 q hq) gv_RX6_X6_leads rfl rfl dsX6_leads rfl ⟨Nat.le_of_ble_eq_true rfl, Nat.le_of_ble_eq_true rfl⟩ rfl (cat_sum (Nat.le_of_ble_eq_true rfl)) ⟨Nat.zero_le _, Nat.zero_le _⟩ dX6_lowestTour_23 h (fun v3 S2 h => ?_)
        refine g_if_eq C (tgt := 31) dX6_lowestTour_26 (by decide) h (fun h => ?_) (fun h => ?_)
        · obtain ⟨v4, ev4, h⟩ := bnd_ex h
          refine g_iinc C (i := 2) (lv' := [(2, .int v4), (0, va_rf (some x0)), (1, .int y1)]) (q := 2) v4 dX6_lowestTour_31 rfl ev4 hn2 rfl ?_
          refine g_goto C (tgt := 2) dX6_lowestTour_34 (by decide) ?_
          refine g_sub (lv' := [(0, va_rf (some x0)), (1, .int y1), (2, .int v4)]) [1, 2, 0] rfl ?_
          exact ih S2 x0 y1 v4 h
        · refine g_iload_n C (q := 2) dX6_lowestTour_29 rfl rfl ?_
          exact g_iret C hQ dX6_lowestTour_30 h
set_option maxHeartbeats 4000000 in
set_option maxRecDepth 100000 in
theorem c_X6_lowestTour (S : Hp) (x0 : Nat) (x1 : Int32) (o : Int32 × Hp) (h : f_X6_lowestTour S x0 x1 = some o) : CtI yX6_lowestTour cX6_lowestTour 3 (some .int) rm_X6_lowestTour 0 0 [va_rf (some x0), .int x1] S o := by
  refine ct_I (own := RX6) (by decide) rfl (Nat.le_of_ble_eq_true rfl) (fun X C hn hQ => ?_)
  have hn2 : 2 < xn X := by rw [hn]; decide
  unfold f_X6_lowestTour at h
  show GW X 0 0 S 0 [(0, va_rf (some x0)), (1, .int x1)] []
  refine g_iconst C (v := 0) dX6_lowestTour_0 (by decide) ?_
  refine g_istore_n C (i := 2) (lv' := [(2, .int 0), (0, va_rf (some x0)), (1, .int x1)]) dX6_lowestTour_1 rfl hn2 rfl ?_
  refine g_sub (lv' := [(0, va_rf (some x0)), (1, .int x1), (2, .int 0)]) [1, 2, 0] rfl ?_
  exact w_X6_lowestTour_L2 C hn hQ 1000 S x0 x1 (0 : Int32) h

abbrev rm_X6_guide : Room := { frames := 4, cells := 0, slots := 0, locals := 89 }
theorem dsX6_guide : yX6_guide.cls = RX6 ∧ yX6_guide.cls ≠ "java/lang/invoke/MethodHandle" ∧ yX6_guide.cls ≠ "java/lang/invoke/VarHandle" ∧ (parseMethodDescriptor yX6_guide.desc).map (fun d => d.parameters.length) = some 2 := by decide +kernel
theorem gv_RX6_X6_lowestTour : GoodIn wsL_law (wsV RX6 203 RX6 yX6_lowestTour (.code yX6_lowestTour cX6_lowestTour 3 (some .int) :: wsL_law)) := good_V q716 q717 q718 q5 q719
def f_X6_guide (S : Hp) (x0 : Nat) (x1 : Int32) (x2 : Int32) : Option (Int32 × Hp) :=
 ob S 6 (some x0) fun b1 => cl (f_X6_noGuide S b1 x1) fun v1 S1 =>
 if v1 = 0 then
 if x2 = 0 then
 ob S1 6 (some x0) fun b2 => cl (f_X6_ofGuide S1 b2 x1 (0 : Int32)) fun v2 S2 =>
 some (v2, S2)
 else if x2 = 1 then
 ob S1 6 (some x0) fun b3 => cl (f_X6_ofGuide S1 b3 x1 (1 : Int32)) fun v3 S3 =>
 some (v3, S3)
 else if x2 = 2 then
 ob S1 6 (some x0) fun b4 => cl (f_X6_ofGuide S1 b4 x1 (1 : Int32)) fun v4 S4 =>
 ob S4 6 (some x0) fun _ =>
 ar S4 9 (zR S4 x0 0) (0 : Int32) fun a2 i1 =>
 if v4 < (zI S4 a2 i1) then
 some ((0 : Int32), S4)
 else
 some ((1 : Int32), S4)
 else if x2 = 3 then
 ob S1 6 (some x0) fun b5 => cl (f_X6_lowestTour S1 b5 x1) fun v5 S5 =>
 some (v5, S5)
 else if x2 = 4 then
 ob S1 6 (some x0) fun b6 => cl (f_X6_ofGuide S1 b6 x1 (2 : Int32)) fun v6 S6 =>
 some (v6, S6)
 else if x2 = 5 then
 ob S1 6 (some x0) fun b7 => cl (f_X6_ofGuide S1 b7 x1 (3 : Int32)) fun v7 S7 =>
 some (v7, S7)
 else some ((-2 : Int32), S1)
 else
 some ((-1 : Int32), S1)
set_option maxHeartbeats 4000000 in
set_option maxRecDepth 100000 in
theorem c_X6_guide (S : Hp) (x0 : Nat) (x1 : Int32) (x2 : Int32) (o : Int32 × Hp) (h : f_X6_guide S x0 x1 x2 = some o) : CtI yX6_guide cX6_guide 3 (some .int) rm_X6_guide 0 0 [va_rf (some x0), .int x1, .int x2] S o := by
  refine ct_I (own := RX6) (by decide) rfl (Nat.le_of_ble_eq_true rfl) (fun X C hn hQ => ?_)
  unfold f_X6_guide at h
  show GW X 0 0 S 0 [(0, va_rf (some x0)), (1, .int x1), (2, .int x2)] []
  refine g_aload_n C (q := 0) dX6_guide_0 rfl rfl ?_
  refine g_iload_n C (q := 1) dX6_guide_1 rfl rfl ?_
  refine g_callVI C (ci := 6) (As := [.int x1]) (np := 1) (st := []) (r := (some x0)) rfl (by decide) (fun b1 q hq => c_X6_noGuide S b1 x1 q hq) gv_RX6_X6_noGuide rfl rfl dsX6_noGuide rfl ⟨Nat.le_of_ble_eq_true rfl, Nat.le_of_ble_eq_true rfl⟩ rfl (cat_sum (Nat.le_of_ble_eq_true rfl)) ⟨Nat.zero_le _, Nat.zero_le _⟩ dX6_guide_2 h (fun v1 S1 h => ?_)
  refine g_if_eq C (tgt := 10) dX6_guide_5 (by decide) h (fun h => ?_) (fun h => ?_)
  · refine g_iload_n C (q := 2) dX6_guide_10 rfl rfl ?_
    by_cases c1 : x2 = 0
    · have h := if_el1 h c1
      refine g_tswIn C (v := 0) (tgt := 48) dX6_guide_11 c1 (by decide) (by decide) rfl (by decide) ?_
      refine g_aload_n C (q := 0) dX6_guide_48 rfl rfl ?_
      refine g_iload_n C (q := 1) dX6_guide_49 rfl rfl ?_
      refine g_iconst C (v := 0) dX6_guide_50 (by decide) ?_
      refine g_callVI C (ci := 6) (As := [.int x1, .int 0]) (np := 2) (st := []) (r := (some x0)) rfl (by decide) (fun b2 q hq => c_X6_ofGuide S1 b2 x1 (0 : Int32) q hq) gv_RX6_X6_ofGuide rfl rfl dsX6_ofGuide rfl ⟨Nat.le_of_ble_eq_true rfl, Nat.le_of_ble_eq_true rfl⟩ rfl (cat_sum (Nat.le_of_ble_eq_true rfl)) ⟨Nat.zero_le _, Nat.zero_le _⟩ dX6_guide_51 h (fun v2 S2 h => ?_)
      exact g_iret C hQ dX6_guide_54 h
    have h := if_el2 h c1
    by_cases c2 : x2 = 1
    · have h := if_el1 h c2
      refine g_tswIn C (v := 1) (tgt := 55) dX6_guide_11 c2 (by decide) (by decide) rfl (by decide) ?_
      refine g_aload_n C (q := 0) dX6_guide_55 rfl rfl ?_
      refine g_iload_n C (q := 1) dX6_guide_56 rfl rfl ?_
      refine g_iconst C (v := 1) dX6_guide_57 (by decide) ?_
      refine g_callVI C (ci := 6) (As := [.int x1, .int 1]) (np := 2) (st := []) (r := (some x0)) rfl (by decide) (fun b3 q hq => c_X6_ofGuide S1 b3 x1 (1 : Int32) q hq) gv_RX6_X6_ofGuide rfl rfl dsX6_ofGuide rfl ⟨Nat.le_of_ble_eq_true rfl, Nat.le_of_ble_eq_true rfl⟩ rfl (cat_sum (Nat.le_of_ble_eq_true rfl)) ⟨Nat.zero_le _, Nat.zero_le _⟩ dX6_guide_58 h (fun v3 S3 h => ?_)
      exact g_iret C hQ dX6_guide_61 h
    have h := if_el2 h c2
    by_cases c3 : x2 = 2
    · have h := if_el1 h c3
      refine g_tswIn C (v := 2) (tgt := 62) dX6_guide_11 c3 (by decide) (by decide) rfl (by decide) ?_
      refine g_aload_n C (q := 0) dX6_guide_62 rfl rfl ?_
      refine g_iload_n C (q := 1) dX6_guide_63 rfl rfl ?_
      refine g_iconst C (v := 1) dX6_guide_64 (by decide) ?_
      refine g_callVI C (ci := 6) (As := [.int x1, .int 1]) (np := 2) (st := []) (r := (some x0)) rfl (by decide) (fun b4 q hq => c_X6_ofGuide S1 b4 x1 (1 : Int32) q hq) gv_RX6_X6_ofGuide rfl rfl dsX6_ofGuide rfl ⟨Nat.le_of_ble_eq_true rfl, Nat.le_of_ble_eq_true rfl⟩ rfl (cat_sum (Nat.le_of_ble_eq_true rfl)) ⟨Nat.zero_le _, Nat.zero_le _⟩ dX6_guide_65 h (fun v4 S4 h => ?_)
      refine g_aload_n C (q := 0) dX6_guide_68 rfl rfl ?_
      refine g_ogetSR C (ci := 6) (slot := 0) rfl (by decide) inlX6 (by decide) rfl q66 dX6_guide_69 h (fun h hLa1 hKa1 => ?_)
      refine g_iconst C (v := 0) dX6_guide_72 (by decide) ?_
      refine g_iald C dX6_guide_73 h (fun a2 i1 h => ?_)
      refine g_icmp_lt C (tgt := 81) dX6_guide_74 (by decide) h (fun h => ?_) (fun h => ?_)
      · refine g_iconst C (v := 0) dX6_guide_81 (by decide) ?_
        exact g_iret C hQ dX6_guide_82 h
      · refine g_iconst C (v := 1) dX6_guide_77 (by decide) ?_
        refine g_goto C (tgt := 82) dX6_guide_78 (by decide) ?_
        exact g_iret C hQ dX6_guide_82 h
    have h := if_el2 h c3
    by_cases c4 : x2 = 3
    · have h := if_el1 h c4
      refine g_tswIn C (v := 3) (tgt := 83) dX6_guide_11 c4 (by decide) (by decide) rfl (by decide) ?_
      refine g_aload_n C (q := 0) dX6_guide_83 rfl rfl ?_
      refine g_iload_n C (q := 1) dX6_guide_84 rfl rfl ?_
      refine g_callVI C (ci := 6) (As := [.int x1]) (np := 1) (st := []) (r := (some x0)) rfl (by decide) (fun b5 q hq => c_X6_lowestTour S1 b5 x1 q hq) gv_RX6_X6_lowestTour rfl rfl dsX6_lowestTour rfl ⟨Nat.le_of_ble_eq_true rfl, Nat.le_of_ble_eq_true rfl⟩ rfl (cat_sum (Nat.le_of_ble_eq_true rfl)) ⟨Nat.zero_le _, Nat.zero_le _⟩ dX6_guide_85 h (fun v5 S5 h => ?_)
      exact g_iret C hQ dX6_guide_88 h
    have h := if_el2 h c4
    by_cases c5 : x2 = 4
    · have h := if_el1 h c5
      refine g_tswIn C (v := 4) (tgt := 89) dX6_guide_11 c5 (by decide) (by decide) rfl (by decide) ?_
      refine g_aload_n C (q := 0) dX6_guide_89 rfl rfl ?_
      refine g_iload_n C (q := 1) dX6_guide_90 rfl rfl ?_
      refine g_iconst C (v := 2) dX6_guide_91 (by decide) ?_
      refine g_callVI C (ci := 6) (As := [.int x1, .int 2]) (np := 2) (st := []) (r := (some x0)) rfl (by decide) (fun b6 q hq => c_X6_ofGuide S1 b6 x1 (2 : Int32) q hq) gv_RX6_X6_ofGuide rfl rfl dsX6_ofGuide rfl ⟨Nat.le_of_ble_eq_true rfl, Nat.le_of_ble_eq_true rfl⟩ rfl (cat_sum (Nat.le_of_ble_eq_true rfl)) ⟨Nat.zero_le _, Nat.zero_le _⟩ dX6_guide_92 h (fun v6 S6 h => ?_)
      exact g_iret C hQ dX6_guide_95 h
    have h := if_el2 h c5
    by_cases c6 : x2 = 5
    · have h := if_el1 h c6
      refine g_tswIn C (v := 5) (tgt := 96) dX6_guide_11 c6 (by decide) (by decide) rfl (by decide) ?_
      refine g_aload_n C (q := 0) dX6_guide_96 rfl rfl ?_
      refine g_iload_n C (q := 1) dX6_guide_97 rfl rfl ?_
      refine g_iconst C (v := 3) dX6_guide_98 (by decide) ?_
      refine g_callVI C (ci := 6) (As := [.int x1, .int 3]) (np := 2) (st := []) (r := (some x0)) rfl (by decide) (fun b7 q hq => c_X6_ofGuide S1 b7 x1 (3 : Int32) q hq) gv_RX6_X6_ofGuide rfl rfl dsX6_ofGuide rfl ⟨Nat.le_of_ble_eq_true rfl, Nat.le_of_ble_eq_true rfl⟩ rfl (cat_sum (Nat.le_of_ble_eq_true rfl)) ⟨Nat.zero_le _, Nat.zero_le _⟩ dX6_guide_99 h (fun v7 S7 h => ?_)
      exact g_iret C hQ dX6_guide_102 h
    have h := if_el2 h c6
    refine g_tswOut C (tgt := 103) dX6_guide_11 (sw_out (x := x2) 0 6 (by decide) (h := (lt_s (lt_s (lt_s (lt_s (lt_s (lt_s lt_0 c1) c2) c3) c4) c5) c6))) (by decide) ?_
    refine g_bipush C (v := (-2)) dX6_guide_103 (by decide) ?_
    exact g_iret C hQ dX6_guide_105 h
  · refine g_iconst C (v := (-1)) dX6_guide_8 (by decide) ?_
    exact g_iret C hQ dX6_guide_9 h

abbrev rm_X6_tour : Room := { frames := 6, cells := 0, slots := 0, locals := 139 }
theorem dsX6_tour : yX6_tour.cls = RX6 ∧ yX6_tour.cls ≠ "java/lang/invoke/MethodHandle" ∧ yX6_tour.cls ≠ "java/lang/invoke/VarHandle" ∧ (parseMethodDescriptor yX6_tour.desc).map (fun d => d.parameters.length) = some 2 := by decide +kernel
def f_X6_tour (S : Hp) (x0 : Nat) (x1 : Int32) (x2 : Int32) : Option (Int32 × Hp) :=
 ob S 6 (some x0) fun b1 => cl (f_X6_noTour S b1 x1) fun v1 S1 =>
 if v1 = 0 then
 cl (f_X6_in S1 x2 (0 : Int32) (6 : Int32)) fun v2 S2 =>
 if v2 = 0 then
 if x2 = 7 then
 ob S2 6 (some x0) fun b2 => cl (f_X6_of S2 b2 x1 (6 : Int32)) fun v3 S3 =>
 if v3 = 2 then
 ob S3 6 (some x0) fun b3 => cl (f_X6_of S3 b3 x1 (7 : Int32)) fun v4 S4 =>
 some (v4, S4)
 else
 some ((-5 : Int32), S3)
 else if x2 = 8 then
 ob S2 6 (some x0) fun b4 => cl (f_X6_leftOver S2 b4 x1) fun v5 S5 =>
 some (v5, S5)
 else if x2 = 9 then
 ob S2 6 (some x0) fun b5 => cl (f_X6_baseOf S2 b5 x1) fun v6 S6 =>
 some (v6, S6)
 else if x2 = 10 then
 ob S2 6 (some x0) fun b6 => cl (f_X6_isOpen S2 b6 x1) fun v7 S7 =>
 if v7 = 0 then
 some ((-5 : Int32), S7)
 else
 ob S7 6 (some x0) fun b7 => cl (f_X6_causeOf S7 b7 x1) fun v8 S8 =>
 some (v8, S8)
 else some ((-2 : Int32), S2)
 else
 ob S2 6 (some x0) fun b8 => cl (f_X6_of S2 b8 x1 x2) fun v9 S9 =>
 some (v9, S9)
 else
 some ((-1 : Int32), S1)
set_option maxHeartbeats 4000000 in
set_option maxRecDepth 100000 in
theorem c_X6_tour (S : Hp) (x0 : Nat) (x1 : Int32) (x2 : Int32) (o : Int32 × Hp) (h : f_X6_tour S x0 x1 x2 = some o) : CtI yX6_tour cX6_tour 3 (some .int) rm_X6_tour 0 0 [va_rf (some x0), .int x1, .int x2] S o := by
  refine ct_I (own := RX6) (by decide) rfl (Nat.le_of_ble_eq_true rfl) (fun X C hn hQ => ?_)
  unfold f_X6_tour at h
  show GW X 0 0 S 0 [(0, va_rf (some x0)), (1, .int x1), (2, .int x2)] []
  refine g_aload_n C (q := 0) dX6_tour_0 rfl rfl ?_
  refine g_iload_n C (q := 1) dX6_tour_1 rfl rfl ?_
  refine g_callVI C (ci := 6) (As := [.int x1]) (np := 1) (st := []) (r := (some x0)) rfl (by decide) (fun b1 q hq => c_X6_noTour S b1 x1 q hq) gv_RX6_X6_noTour rfl rfl dsX6_noTour rfl ⟨Nat.le_of_ble_eq_true rfl, Nat.le_of_ble_eq_true rfl⟩ rfl (cat_sum (Nat.le_of_ble_eq_true rfl)) ⟨Nat.zero_le _, Nat.zero_le _⟩ dX6_tour_2 h (fun v1 S1 h => ?_)
  refine g_if_eq C (tgt := 10) dX6_tour_5 (by decide) h (fun h => ?_) (fun h => ?_)
  · refine g_iload_n C (q := 2) dX6_tour_10 rfl rfl ?_
    refine g_iconst C (v := 0) dX6_tour_11 (by decide) ?_
    refine g_bipush C (v := 6) dX6_tour_12 (by decide) ?_
    refine g_callSI C (As := [.int x2, .int 0, .int 6]) (np := 3) (st := []) (fun q hq => c_X6_in S1 x2 (0 : Int32) (6 : Int32) q hq) gs_RX6_X6_in rfl rfl dsX6_in rfl ⟨Nat.le_of_ble_eq_true rfl, Nat.le_of_ble_eq_true rfl⟩ rfl (cat_sum (Nat.le_of_ble_eq_true rfl)) ⟨Nat.zero_le _, Nat.zero_le _⟩ dX6_tour_14 h (fun v2 S2 h => ?_)
    refine g_if_eq C (tgt := 27) dX6_tour_17 (by decide) h (fun h => ?_) (fun h => ?_)
    · refine g_iload_n C (q := 2) dX6_tour_27 rfl rfl ?_
      by_cases c1 : x2 = 7
      · have h := if_el1 h c1
        refine g_tswIn C (v := 7) (tgt := 60) dX6_tour_28 c1 (by decide) (by decide) rfl (by decide) ?_
        refine g_aload_n C (q := 0) dX6_tour_60 rfl rfl ?_
        refine g_iload_n C (q := 1) dX6_tour_61 rfl rfl ?_
        refine g_bipush C (v := 6) dX6_tour_62 (by decide) ?_
        refine g_callVI C (ci := 6) (As := [.int x1, .int 6]) (np := 2) (st := []) (r := (some x0)) rfl (by decide) (fun b2 q hq => c_X6_of S2 b2 x1 (6 : Int32) q hq) gv_RX6_X6_of rfl rfl dsX6_of rfl ⟨Nat.le_of_ble_eq_true rfl, Nat.le_of_ble_eq_true rfl⟩ rfl (cat_sum (Nat.le_of_ble_eq_true rfl)) ⟨Nat.zero_le _, Nat.zero_le _⟩ dX6_tour_64 h (fun v3 S3 h => ?_)
        refine g_iconst C (v := 2) dX6_tour_67 (by decide) ?_
        refine g_icmp_ne C (tgt := 81) dX6_tour_68 (by decide) h (fun h => ?_) (fun h => ?_)
        · refine g_aload_n C (q := 0) dX6_tour_71 rfl rfl ?_
          refine g_iload_n C (q := 1) dX6_tour_72 rfl rfl ?_
          refine g_bipush C (v := 7) dX6_tour_73 (by decide) ?_
          refine g_callVI C (ci := 6) (As := [.int x1, .int 7]) (np := 2) (st := []) (r := (some x0)) rfl (by decide) (fun b3 q hq => c_X6_of S3 b3 x1 (7 : Int32) q hq) gv_RX6_X6_of rfl rfl dsX6_of rfl ⟨Nat.le_of_ble_eq_true rfl, Nat.le_of_ble_eq_true rfl⟩ rfl (cat_sum (Nat.le_of_ble_eq_true rfl)) ⟨Nat.zero_le _, Nat.zero_le _⟩ dX6_tour_75 h (fun v4 S4 h => ?_)
          refine g_goto C (tgt := 83) dX6_tour_78 (by decide) ?_
          exact g_iret C hQ dX6_tour_83 h
        · refine g_bipush C (v := (-5)) dX6_tour_81 (by decide) ?_
          exact g_iret C hQ dX6_tour_83 h
      have h := if_el2 h c1
      by_cases c2 : x2 = 8
      · have h := if_el1 h c2
        refine g_tswIn C (v := 8) (tgt := 84) dX6_tour_28 c2 (by decide) (by decide) rfl (by decide) ?_
        refine g_aload_n C (q := 0) dX6_tour_84 rfl rfl ?_
        refine g_iload_n C (q := 1) dX6_tour_85 rfl rfl ?_
        refine g_callVI C (ci := 6) (As := [.int x1]) (np := 1) (st := []) (r := (some x0)) rfl (by decide) (fun b4 q hq => c_X6_leftOver S2 b4 x1 q hq) gv_RX6_X6_leftOver rfl rfl dsX6_leftOver rfl ⟨Nat.le_of_ble_eq_true rfl, Nat.le_of_ble_eq_true rfl⟩ rfl (cat_sum (Nat.le_of_ble_eq_true rfl)) ⟨Nat.zero_le _, Nat.zero_le _⟩ dX6_tour_86 h (fun v5 S5 h => ?_)
        exact g_iret C hQ dX6_tour_89 h
      have h := if_el2 h c2
      by_cases c3 : x2 = 9
      · have h := if_el1 h c3
        refine g_tswIn C (v := 9) (tgt := 90) dX6_tour_28 c3 (by decide) (by decide) rfl (by decide) ?_
        refine g_aload_n C (q := 0) dX6_tour_90 rfl rfl ?_
        refine g_iload_n C (q := 1) dX6_tour_91 rfl rfl ?_
        refine g_callVI C (ci := 6) (As := [.int x1]) (np := 1) (st := []) (r := (some x0)) rfl (by decide) (fun b5 q hq => c_X6_baseOf S2 b5 x1 q hq) gv_RX6_X6_baseOf rfl rfl dsX6_baseOf rfl ⟨Nat.le_of_ble_eq_true rfl, Nat.le_of_ble_eq_true rfl⟩ rfl (cat_sum (Nat.le_of_ble_eq_true rfl)) ⟨Nat.zero_le _, Nat.zero_le _⟩ dX6_tour_92 h (fun v6 S6 h => ?_)
        exact g_iret C hQ dX6_tour_95 h
      have h := if_el2 h c3
      by_cases c4 : x2 = 10
      · have h := if_el1 h c4
        refine g_tswIn C (v := 10) (tgt := 96) dX6_tour_28 c4 (by decide) (by decide) rfl (by decide) ?_
        refine g_aload_n C (q := 0) dX6_tour_96 rfl rfl ?_
        refine g_iload_n C (q := 1) dX6_tour_97 rfl rfl ?_
        refine g_callVI C (ci := 6) (As := [.int x1]) (np := 1) (st := []) (r := (some x0)) rfl (by decide) (fun b6 q hq => c_X6_isOpen S2 b6 x1 q hq) gv_RX6_X6_isOpen rfl rfl dsX6_isOpen rfl ⟨Nat.le_of_ble_eq_true rfl, Nat.le_of_ble_eq_true rfl⟩ rfl (cat_sum (Nat.le_of_ble_eq_true rfl)) ⟨Nat.zero_le _, Nat.zero_le _⟩ dX6_tour_98 h (fun v7 S7 h => ?_)
        refine g_if_eq C (tgt := 112) dX6_tour_101 (by decide) h (fun h => ?_) (fun h => ?_)
        · refine g_bipush C (v := (-5)) dX6_tour_112 (by decide) ?_
          exact g_iret C hQ dX6_tour_114 h
        · refine g_aload_n C (q := 0) dX6_tour_104 rfl rfl ?_
          refine g_iload_n C (q := 1) dX6_tour_105 rfl rfl ?_
          refine g_callVI C (ci := 6) (As := [.int x1]) (np := 1) (st := []) (r := (some x0)) rfl (by decide) (fun b7 q hq => c_X6_causeOf S7 b7 x1 q hq) gv_RX6_X6_causeOf rfl rfl dsX6_causeOf rfl ⟨Nat.le_of_ble_eq_true rfl, Nat.le_of_ble_eq_true rfl⟩ rfl (cat_sum (Nat.le_of_ble_eq_true rfl)) ⟨Nat.zero_le _, Nat.zero_le _⟩ dX6_tour_106 h (fun v8 S8 h => ?_)
          refine g_goto C (tgt := 114) dX6_tour_109 (by decide) ?_
          exact g_iret C hQ dX6_tour_114 h
      have h := if_el2 h c4
      refine g_tswOut C (tgt := 115) dX6_tour_28 (sw_out (x := x2) 7 4 (by decide) (h := (lt_s (lt_s (lt_s (lt_s lt_0 c1) c2) c3) c4))) (by decide) ?_
      refine g_bipush C (v := (-2)) dX6_tour_115 (by decide) ?_
      exact g_iret C hQ dX6_tour_117 h
    · refine g_aload_n C (q := 0) dX6_tour_20 rfl rfl ?_
      refine g_iload_n C (q := 1) dX6_tour_21 rfl rfl ?_
      refine g_iload_n C (q := 2) dX6_tour_22 rfl rfl ?_
      refine g_callVI C (ci := 6) (As := [.int x1, .int x2]) (np := 2) (st := []) (r := (some x0)) rfl (by decide) (fun b8 q hq => c_X6_of S2 b8 x1 x2 q hq) gv_RX6_X6_of rfl rfl dsX6_of rfl ⟨Nat.le_of_ble_eq_true rfl, Nat.le_of_ble_eq_true rfl⟩ rfl (cat_sum (Nat.le_of_ble_eq_true rfl)) ⟨Nat.zero_le _, Nat.zero_le _⟩ dX6_tour_23 h (fun v9 S9 h => ?_)
      exact g_iret C hQ dX6_tour_26 h
  · refine g_iconst C (v := (-1)) dX6_tour_8 (by decide) ?_
    exact g_iret C hQ dX6_tour_9 h

abbrev rm_X6_rope : Room := { frames := 3, cells := 0, slots := 0, locals := 71 }
theorem dsX6_rope : yX6_rope.cls = RX6 ∧ yX6_rope.cls ≠ "java/lang/invoke/MethodHandle" ∧ yX6_rope.cls ≠ "java/lang/invoke/VarHandle" ∧ (parseMethodDescriptor yX6_rope.desc).map (fun d => d.parameters.length) = some 3 := by decide +kernel
def f_X6_rope (S : Hp) (x0 : Nat) (x1 : Int32) (x2 : Int32) (x3 : Int32) : Option (Int32 × Hp) :=
 ob S 6 (some x0) fun b1 => cl (f_X6_noTour S b1 x1) fun v1 S1 =>
 if v1 = 0 then
 if x2 < 0 then
 some ((-2 : Int32), S1)
 else
 cl (f_X6_in S1 x3 (0 : Int32) (2 : Int32)) fun v2 S2 =>
 if v2 = 0 then
 some ((-2 : Int32), S2)
 else
 ob S2 6 (some x0) fun b2 => cl (f_X6_of S2 b2 x1 (4 : Int32)) fun v3 S3 =>
 if x2 < v3 then
 ob S3 6 (some x0) fun b3 => cl (f_X6_guideOn S3 b3 x1 x2) fun v4 S4 =>
 if x3 = 0 then
 some (v4, S4)
 else
 if x3 = 1 then
 ob S4 6 (some x0) fun b4 => cl (f_X6_ratio S4 b4 x1 v4) fun v5 S5 =>
 some (v5, S5)
 else
 ob S4 6 (some x0) fun b5 => cl (f_X6_onRope S4 b5 x1 x2) fun v6 S6 =>
 some (v6, S6)
 else
 some ((-5 : Int32), S3)
 else
 some ((-1 : Int32), S1)
set_option maxHeartbeats 4000000 in
set_option maxRecDepth 100000 in
theorem c_X6_rope (S : Hp) (x0 : Nat) (x1 : Int32) (x2 : Int32) (x3 : Int32) (o : Int32 × Hp) (h : f_X6_rope S x0 x1 x2 x3 = some o) : CtI yX6_rope cX6_rope 5 (some .int) rm_X6_rope 0 0 [va_rf (some x0), .int x1, .int x2, .int x3] S o := by
  refine ct_I (own := RX6) (by decide) rfl (Nat.le_of_ble_eq_true rfl) (fun X C hn hQ => ?_)
  have hn4 : 4 < xn X := by rw [hn]; decide
  unfold f_X6_rope at h
  show GW X 0 0 S 0 [(0, va_rf (some x0)), (1, .int x1), (2, .int x2), (3, .int x3)] []
  refine g_aload_n C (q := 0) dX6_rope_0 rfl rfl ?_
  refine g_iload_n C (q := 1) dX6_rope_1 rfl rfl ?_
  refine g_callVI C (ci := 6) (As := [.int x1]) (np := 1) (st := []) (r := (some x0)) rfl (by decide) (fun b1 q hq => c_X6_noTour S b1 x1 q hq) gv_RX6_X6_noTour rfl rfl dsX6_noTour rfl ⟨Nat.le_of_ble_eq_true rfl, Nat.le_of_ble_eq_true rfl⟩ rfl (cat_sum (Nat.le_of_ble_eq_true rfl)) ⟨Nat.zero_le _, Nat.zero_le _⟩ dX6_rope_2 h (fun v1 S1 h => ?_)
  refine g_if_eq C (tgt := 10) dX6_rope_5 (by decide) h (fun h => ?_) (fun h => ?_)
  · refine g_iload_n C (q := 2) dX6_rope_10 rfl rfl ?_
    refine g_if_lt C (tgt := 23) dX6_rope_11 (by decide) h (fun h => ?_) (fun h => ?_)
    · refine g_bipush C (v := (-2)) dX6_rope_23 (by decide) ?_
      exact g_iret C hQ dX6_rope_25 h
    · refine g_iload_n C (q := 3) dX6_rope_14 rfl rfl ?_
      refine g_iconst C (v := 0) dX6_rope_15 (by decide) ?_
      refine g_iconst C (v := 2) dX6_rope_16 (by decide) ?_
      refine g_callSI C (As := [.int x3, .int 0, .int 2]) (np := 3) (st := []) (fun q hq => c_X6_in S1 x3 (0 : Int32) (2 : Int32) q hq) gs_RX6_X6_in rfl rfl dsX6_in rfl ⟨Nat.le_of_ble_eq_true rfl, Nat.le_of_ble_eq_true rfl⟩ rfl (cat_sum (Nat.le_of_ble_eq_true rfl)) ⟨Nat.zero_le _, Nat.zero_le _⟩ dX6_rope_17 h (fun v2 S2 h => ?_)
      refine g_if_ne C (tgt := 26) dX6_rope_20 (by decide) h (fun h => ?_) (fun h => ?_)
      · refine g_bipush C (v := (-2)) dX6_rope_23 (by decide) ?_
        exact g_iret C hQ dX6_rope_25 h
      · refine g_iload_n C (q := 2) dX6_rope_26 rfl rfl ?_
        refine g_aload_n C (q := 0) dX6_rope_27 rfl rfl ?_
        refine g_iload_n C (q := 1) dX6_rope_28 rfl rfl ?_
        refine g_iconst C (v := 4) dX6_rope_29 (by decide) ?_
        refine g_callVI C (ci := 6) (As := [.int x1, .int 4]) (np := 2) (st := [.int x2]) (r := (some x0)) rfl (by decide) (fun b2 q hq => c_X6_of S2 b2 x1 (4 : Int32) q hq) gv_RX6_X6_of rfl rfl dsX6_of rfl ⟨Nat.le_of_ble_eq_true rfl, Nat.le_of_ble_eq_true rfl⟩ rfl (cat_sum (Nat.le_of_ble_eq_true rfl)) ⟨Nat.zero_le _, Nat.zero_le _⟩ dX6_rope_30 h (fun v3 S3 h => ?_)
        refine g_icmp_lt C (tgt := 39) dX6_rope_33 (by decide) h (fun h => ?_) (fun h => ?_)
        · refine g_aload_n C (q := 0) dX6_rope_39 rfl rfl ?_
          refine g_iload_n C (q := 1) dX6_rope_40 rfl rfl ?_
          refine g_iload_n C (q := 2) dX6_rope_41 rfl rfl ?_
          refine g_callVI C (ci := 6) (As := [.int x1, .int x2]) (np := 2) (st := []) (r := (some x0)) rfl (by decide) (fun b3 q hq => c_X6_guideOn S3 b3 x1 x2 q hq) gv_RX6_X6_guideOn rfl rfl dsX6_guideOn rfl ⟨Nat.le_of_ble_eq_true rfl, Nat.le_of_ble_eq_true rfl⟩ rfl (cat_sum (Nat.le_of_ble_eq_true rfl)) ⟨Nat.zero_le _, Nat.zero_le _⟩ dX6_rope_42 h (fun v4 S4 h => ?_)
          refine g_istore C (i := 4) (lv' := [(4, .int v4), (0, va_rf (some x0)), (1, .int x1), (2, .int x2), (3, .int x3)]) dX6_rope_45 hn4 rfl ?_
          refine g_iload_n C (q := 4) dX6_rope_47 rfl rfl ?_
          refine g_if_ne C (tgt := 56) dX6_rope_48 (by decide) h (fun h => ?_) (fun h => ?_)
          · refine g_iload C (q := 0) dX6_rope_51 rfl ?_
            refine g_goto C (tgt := 77) dX6_rope_53 (by decide) ?_
            exact g_iret C hQ dX6_rope_77 h
          · refine g_iload_n C (q := 4) dX6_rope_56 rfl rfl ?_
            refine g_iconst C (v := 1) dX6_rope_57 (by decide) ?_
            refine g_icmp_ne C (tgt := 71) dX6_rope_58 (by decide) h (fun h => ?_) (fun h => ?_)
            · refine g_aload_n C (q := 1) dX6_rope_61 rfl rfl ?_
              refine g_iload_n C (q := 2) dX6_rope_62 rfl rfl ?_
              refine g_iload C (q := 0) dX6_rope_63 rfl ?_
              refine g_callVI C (ci := 6) (As := [.int x1, .int v4]) (np := 2) (st := []) (r := (some x0)) rfl (by decide) (fun b4 q hq => c_X6_ratio S4 b4 x1 v4 q hq) gv_RX6_X6_ratio rfl rfl dsX6_ratio rfl ⟨Nat.le_of_ble_eq_true rfl, Nat.le_of_ble_eq_true rfl⟩ rfl (cat_sum (Nat.le_of_ble_eq_true rfl)) ⟨Nat.zero_le _, Nat.zero_le _⟩ dX6_rope_65 h (fun v5 S5 h => ?_)
              refine g_goto C (tgt := 77) dX6_rope_68 (by decide) ?_
              exact g_iret C hQ dX6_rope_77 h
            · refine g_aload_n C (q := 1) dX6_rope_71 rfl rfl ?_
              refine g_iload_n C (q := 2) dX6_rope_72 rfl rfl ?_
              refine g_iload_n C (q := 3) dX6_rope_73 rfl rfl ?_
              refine g_callVI C (ci := 6) (As := [.int x1, .int x2]) (np := 2) (st := []) (r := (some x0)) rfl (by decide) (fun b5 q hq => c_X6_onRope S4 b5 x1 x2 q hq) gv_RX6_X6_onRope rfl rfl dsX6_onRope rfl ⟨Nat.le_of_ble_eq_true rfl, Nat.le_of_ble_eq_true rfl⟩ rfl (cat_sum (Nat.le_of_ble_eq_true rfl)) ⟨Nat.zero_le _, Nat.zero_le _⟩ dX6_rope_74 h (fun v6 S6 h => ?_)
              exact g_iret C hQ dX6_rope_77 h
        · refine g_bipush C (v := (-5)) dX6_rope_36 (by decide) ?_
          exact g_iret C hQ dX6_rope_38 h
  · refine g_iconst C (v := (-1)) dX6_rope_8 (by decide) ?_
    exact g_iret C hQ dX6_rope_9 h

abbrev rm_X6_nothing : Room := { frames := 0, cells := 0, slots := 0, locals := 0 }
theorem dsX6_nothing : yX6_nothing.cls ≠ "java/lang/invoke/MethodHandle" ∧ yX6_nothing.cls ≠ "java/lang/invoke/VarHandle" ∧ (parseMethodDescriptor yX6_nothing.desc).map (fun d => d.parameters.length) = some 0 := by decide +kernel
def f_X6_nothing (S : Hp)  : Option (UInt64 × Hp) :=
 some (9221120237041090560, S)
set_option maxHeartbeats 4000000 in
set_option maxRecDepth 100000 in
theorem c_X6_nothing (S : Hp)  (o : UInt64 × Hp) (h : f_X6_nothing S  = some o) : CtD yX6_nothing cX6_nothing 0 (some .double) rm_X6_nothing 0 0 [] S o := by
  refine ct_D (own := RX6) (by decide) rfl (Nat.le_of_ble_eq_true rfl) (fun X C hn hQ => ?_)
  unfold f_X6_nothing at h
  show GW X 0 0 S 0 [] []
  refine g_ldc2d C q766 dX6_nothing_0 ?_
  exact g_dret C hQ dX6_nothing_3 h

abbrev rm_X6_thickness : Room := { frames := 2, cells := 0, slots := 0, locals := 43 }
theorem dsX6_thickness : yX6_thickness.cls = RX6 ∧ yX6_thickness.cls ≠ "java/lang/invoke/MethodHandle" ∧ yX6_thickness.cls ≠ "java/lang/invoke/VarHandle" ∧ (parseMethodDescriptor yX6_thickness.desc).map (fun d => d.parameters.length) = some 1 := by decide +kernel
theorem gv_RX6_X6_noBridge : GoodIn wsL_law (wsV RX6 208 RX6 yX6_noBridge (.code yX6_noBridge cX6_noBridge 2 (some .boolean) :: wsL_law)) := good_V q759 q760 q761 q5 q762
theorem gs_RX6_X6_nothing : GoodIn wsL_law (va_wsS RX6 211 yX6_nothing (.code yX6_nothing cX6_nothing 0 (some .double) :: wsL_law)) := good_S q763 q764 q5 q765
def f_X6_thickness (S : Hp) (x0 : Nat) (x1 : Int32) : Option (UInt64 × Hp) :=
 ob S 6 (some x0) fun b1 => cl (f_X6_noBridge S b1 x1) fun v1 S1 =>
 if v1 = 0 then
 ob S1 6 (some x0) fun _ =>
 ar S1 8 (zR S1 x0 3) (1 + x1) fun a2 i1 =>
 some ((zD S1 a2 i1), S1)
 else
 cl (f_X6_nothing S1 ) fun e1 S2 =>
 some (e1, S2)
set_option maxHeartbeats 4000000 in
set_option maxRecDepth 100000 in
theorem c_X6_thickness (S : Hp) (x0 : Nat) (x1 : Int32) (o : UInt64 × Hp) (h : f_X6_thickness S x0 x1 = some o) : CtD yX6_thickness cX6_thickness 2 (some .double) rm_X6_thickness 0 0 [va_rf (some x0), .int x1] S o := by
  refine ct_D (own := RX6) (by decide) rfl (Nat.le_of_ble_eq_true rfl) (fun X C hn hQ => ?_)
  unfold f_X6_thickness at h
  show GW X 0 0 S 0 [(0, va_rf (some x0)), (1, .int x1)] []
  refine g_aload_n C (q := 0) dX6_thickness_0 rfl rfl ?_
  refine g_iload_n C (q := 1) dX6_thickness_1 rfl rfl ?_
  refine g_callVI C (ci := 6) (As := [.int x1]) (np := 1) (st := []) (r := (some x0)) rfl (by decide) (fun b1 q hq => c_X6_noBridge S b1 x1 q hq) gv_RX6_X6_noBridge rfl rfl dsX6_noBridge rfl ⟨Nat.le_of_ble_eq_true rfl, Nat.le_of_ble_eq_true rfl⟩ rfl (cat_sum (Nat.le_of_ble_eq_true rfl)) ⟨Nat.zero_le _, Nat.zero_le _⟩ dX6_thickness_2 h (fun v1 S1 h => ?_)
  refine g_if_eq C (tgt := 14) dX6_thickness_5 (by decide) h (fun h => ?_) (fun h => ?_)
  · refine g_aload_n C (q := 0) dX6_thickness_14 rfl rfl ?_
    refine g_ogetSR C (ci := 6) (slot := 3) rfl (by decide) inlX6 (by decide) rfl q69 dX6_thickness_15 h (fun h hLa1 hKa1 => ?_)
    refine g_iconst C (v := 1) dX6_thickness_18 (by decide) ?_
    refine g_iload_n C (q := 1) dX6_thickness_19 rfl rfl ?_
    refine g_iadd C dX6_thickness_20 ?_
    refine g_dald C dX6_thickness_21 h (fun a2 i1 h => ?_)
    exact g_dret C hQ dX6_thickness_22 h
  · refine g_callSD C (As := []) (np := 0) (st := []) (fun q hq => c_X6_nothing S1  q hq) gs_RX6_X6_nothing rfl rfl dsX6_nothing rfl ⟨Nat.le_of_ble_eq_true rfl, Nat.le_of_ble_eq_true rfl⟩ rfl (cat_sum (Nat.le_of_ble_eq_true rfl)) ⟨Nat.zero_le _, Nat.zero_le _⟩ dX6_thickness_8 h (fun e1 S2 h => ?_)
    refine g_goto C (tgt := 22) dX6_thickness_11 (by decide) ?_
    exact g_dret C hQ dX6_thickness_22 h

abbrev rm_X6_foretold : Room := { frames := 2, cells := 0, slots := 0, locals := 43 }
theorem dsX6_foretold : yX6_foretold.cls = RX6 ∧ yX6_foretold.cls ≠ "java/lang/invoke/MethodHandle" ∧ yX6_foretold.cls ≠ "java/lang/invoke/VarHandle" ∧ (parseMethodDescriptor yX6_foretold.desc).map (fun d => d.parameters.length) = some 2 := by decide +kernel
def f_X6_foretold_L34_b (rec : Hp → Nat → Int32 → Int32 → UInt64 → Int32 → Option (UInt64 × Hp)) (S : Hp) (x0 : Nat) (y1 : Int32) (y2 : Int32) (y3 : UInt64) (y5 : Int32) : Option (UInt64 × Hp) :=
 if y2 ≤ y5 then
 some (y3, S)
 else
 ob S 6 (some x0) fun b1 => cl (f_X6_changed S b1 y3) fun e1 S1 =>
 bnd (y5 + 1) fun v1 =>
 rec S1 x0 y1 y2 e1 v1
def f_X6_foretold_L34 : Nat → Hp → Nat → Int32 → Int32 → UInt64 → Int32 → Option (UInt64 × Hp)
  | 0 => fun _ _ _ _ _ _ => none
  | n + 1 => f_X6_foretold_L34_b (f_X6_foretold_L34 n)
def f_X6_foretold (S : Hp) (x0 : Nat) (x1 : Int32) (x2 : Int32) : Option (UInt64 × Hp) :=
 ob S 6 (some x0) fun b1 => cl (f_X6_noBridge S b1 x1) fun v1 S1 =>
 if v1 = 0 then
 cl (f_X6_in S1 x2 (0 : Int32) (30 : Int32)) fun v2 S2 =>
 if v2 = 0 then
 cl (f_X6_nothing S2 ) fun e1 S3 =>
 some (e1, S3)
 else
 ob S2 6 (some x0) fun _ =>
 ar S2 8 (zR S2 x0 3) (1 + x1) fun a2 i1 =>
 bnd ((zD S2 a2 i1)) fun e2 =>
 f_X6_foretold_L34 1000 S2 x0 x1 x2 e2 (0 : Int32)
 else
 cl (f_X6_nothing S1 ) fun e3 S4 =>
 some (e3, S4)
set_option maxHeartbeats 4000000 in
set_option maxRecDepth 100000 in
theorem w_X6_foretold_L34 {X : Cx} (C : CxOK X cX6_foretold RX6 rm_X6_foretold) (hn : xn X = 6) {S0 : Hp} {o : UInt64 × Hp} (hQ : QD X (some .double) S0 0 0 o) : ∀ (fuel : Nat) (S : Hp) (x0 : Nat) (y1 : Int32) (y2 : Int32) (y3 : UInt64) (y5 : Int32), f_X6_foretold_L34 fuel S x0 y1 y2 y3 y5 = some o → GW X 0 0 S 34 [(0, va_rf (some x0)), (1, .int y1), (2, .int y2), (3, .double y3), (5, .int y5)] [] := by
  have hn4 : 4 < xn X := by rw [hn]; decide
  have hn5 : 5 < xn X := by rw [hn]; decide
  intro fuel
  induction fuel with
  | zero => intro S x0 y1 y2 y3 y5 h; cases (show none = some o from h)
  | succ fuel ih =>
    intro S x0 y1 y2 y3 y5 h
    have h : f_X6_foretold_L34_b (f_X6_foretold_L34 fuel) S x0 y1 y2 y3 y5 = some o := h
    unfold f_X6_foretold_L34_b at h
    refine g_iload C (q := 4) dX6_foretold_34 rfl ?_
    refine g_iload_n C (q := 2) dX6_foretold_36 rfl rfl ?_
    refine g_icmp_ge C (tgt := 52) dX6_foretold_37 (by decide) h (fun h => ?_) (fun h => ?_)
    · refine g_dload_n C (q := 3) dX6_foretold_52 rfl rfl ?_
      exact g_dret C hQ dX6_foretold_53 h
    · refine g_aload_n C (q := 0) dX6_foretold_40 rfl rfl ?_
      refine g_dload_n C (q := 3) dX6_foretold_41 rfl rfl ?_
      refine g_callVD C (ci := 6) (As := [.double y3]) (np := 1) (st := []) (r := (some x0)) rfl (by decide) (fun b1 q hq => c_X6_changed S b1 y3 q hq) gv_RX6_X6_changed rfl rfl dsX6_changed rfl ⟨Nat.le_of_ble_eq_true rfl, Nat.le_of_ble_eq_true rfl⟩ rfl (cat_sum (Nat.le_of_ble_eq_true rfl)) ⟨Nat.zero_le _, Nat.zero_le _⟩ dX6_foretold_42 h (fun e1 S1 h => ?_)
      refine g_dstore_n C (i := 3) (lv' := [(3, .double e1), (0, va_rf (some x0)), (1, .int y1), (2, .int y2), (5, .int y5)]) dX6_foretold_45 rfl hn4 rfl ?_
      obtain ⟨v1, ev1, h⟩ := bnd_ex h
      refine g_iinc C (i := 5) (lv' := [(5, .int v1), (3, .double e1), (0, va_rf (some x0)), (1, .int y1), (2, .int y2)]) (q := 4) v1 dX6_foretold_46 rfl ev1 hn5 rfl ?_
      refine g_goto C (tgt := 34) dX6_foretold_49 (by decide) ?_
      refine g_sub (lv' := [(0, va_rf (some x0)), (1, .int y1), (2, .int y2), (3, .double e1), (5, .int v1)]) [2, 3, 4, 1, 0] rfl ?_
      exact ih S1 x0 y1 y2 e1 v1 h
set_option maxHeartbeats 4000000 in
set_option maxRecDepth 100000 in
theorem c_X6_foretold (S : Hp) (x0 : Nat) (x1 : Int32) (x2 : Int32) (o : UInt64 × Hp) (h : f_X6_foretold S x0 x1 x2 = some o) : CtD yX6_foretold cX6_foretold 6 (some .double) rm_X6_foretold 0 0 [va_rf (some x0), .int x1, .int x2] S o := by
  refine ct_D (own := RX6) (by decide) rfl (Nat.le_of_ble_eq_true rfl) (fun X C hn hQ => ?_)
  have hn4 : 4 < xn X := by rw [hn]; decide
  have hn5 : 5 < xn X := by rw [hn]; decide
  unfold f_X6_foretold at h
  show GW X 0 0 S 0 [(0, va_rf (some x0)), (1, .int x1), (2, .int x2)] []
  refine g_aload_n C (q := 0) dX6_foretold_0 rfl rfl ?_
  refine g_iload_n C (q := 1) dX6_foretold_1 rfl rfl ?_
  refine g_callVI C (ci := 6) (As := [.int x1]) (np := 1) (st := []) (r := (some x0)) rfl (by decide) (fun b1 q hq => c_X6_noBridge S b1 x1 q hq) gv_RX6_X6_noBridge rfl rfl dsX6_noBridge rfl ⟨Nat.le_of_ble_eq_true rfl, Nat.le_of_ble_eq_true rfl⟩ rfl (cat_sum (Nat.le_of_ble_eq_true rfl)) ⟨Nat.zero_le _, Nat.zero_le _⟩ dX6_foretold_2 h (fun v1 S1 h => ?_)
  refine g_if_ne C (tgt := 18) dX6_foretold_5 (by decide) h (fun h => ?_) (fun h => ?_)
  · refine g_iload_n C (q := 2) dX6_foretold_8 rfl rfl ?_
    refine g_iconst C (v := 0) dX6_foretold_9 (by decide) ?_
    refine g_bipush C (v := 30) dX6_foretold_10 (by decide) ?_
    refine g_callSI C (As := [.int x2, .int 0, .int 30]) (np := 3) (st := []) (fun q hq => c_X6_in S1 x2 (0 : Int32) (30 : Int32) q hq) gs_RX6_X6_in rfl rfl dsX6_in rfl ⟨Nat.le_of_ble_eq_true rfl, Nat.le_of_ble_eq_true rfl⟩ rfl (cat_sum (Nat.le_of_ble_eq_true rfl)) ⟨Nat.zero_le _, Nat.zero_le _⟩ dX6_foretold_12 h (fun v2 S2 h => ?_)
    refine g_if_ne C (tgt := 22) dX6_foretold_15 (by decide) h (fun h => ?_) (fun h => ?_)
    · refine g_callSD C (As := []) (np := 0) (st := []) (fun q hq => c_X6_nothing S2  q hq) gs_RX6_X6_nothing rfl rfl dsX6_nothing rfl ⟨Nat.le_of_ble_eq_true rfl, Nat.le_of_ble_eq_true rfl⟩ rfl (cat_sum (Nat.le_of_ble_eq_true rfl)) ⟨Nat.zero_le _, Nat.zero_le _⟩ dX6_foretold_18 h (fun e1 S3 h => ?_)
      exact g_dret C hQ dX6_foretold_21 h
    · refine g_aload_n C (q := 0) dX6_foretold_22 rfl rfl ?_
      refine g_ogetSR C (ci := 6) (slot := 3) rfl (by decide) inlX6 (by decide) rfl q69 dX6_foretold_23 h (fun h hLa1 hKa1 => ?_)
      refine g_iconst C (v := 1) dX6_foretold_26 (by decide) ?_
      refine g_iload_n C (q := 1) dX6_foretold_27 rfl rfl ?_
      refine g_iadd C dX6_foretold_28 ?_
      refine g_dald C dX6_foretold_29 h (fun a2 i1 h => ?_)
      refine g_nmD h (fun e2 h => ?_)
      refine g_dstore_n C (i := 3) (lv' := [(3, .double e2), (0, va_rf (some x0)), (1, .int x1), (2, .int x2)]) dX6_foretold_30 rfl hn4 rfl ?_
      refine g_iconst C (v := 0) dX6_foretold_31 (by decide) ?_
      refine g_istore C (i := 5) (lv' := [(5, .int 0), (3, .double e2), (0, va_rf (some x0)), (1, .int x1), (2, .int x2)]) dX6_foretold_32 hn5 rfl ?_
      refine g_sub (lv' := [(0, va_rf (some x0)), (1, .int x1), (2, .int x2), (3, .double e2), (5, .int 0)]) [2, 3, 4, 1, 0] rfl ?_
      exact w_X6_foretold_L34 C hn hQ 1000 S2 x0 x1 x2 e2 (0 : Int32) h
  · refine g_callSD C (As := []) (np := 0) (st := []) (fun q hq => c_X6_nothing S1  q hq) gs_RX6_X6_nothing rfl rfl dsX6_nothing rfl ⟨Nat.le_of_ble_eq_true rfl, Nat.le_of_ble_eq_true rfl⟩ rfl (cat_sum (Nat.le_of_ble_eq_true rfl)) ⟨Nat.zero_le _, Nat.zero_le _⟩ dX6_foretold_18 h (fun e3 S4 h => ?_)
    exact g_dret C hQ dX6_foretold_21 h

abbrev rm_X6_needed : Room := { frames := 4, cells := 0, slots := 0, locals := 94 }
theorem dsX6_needed : yX6_needed.cls = RX6 ∧ yX6_needed.cls ≠ "java/lang/invoke/MethodHandle" ∧ yX6_needed.cls ≠ "java/lang/invoke/VarHandle" ∧ (parseMethodDescriptor yX6_needed.desc).map (fun d => d.parameters.length) = some 1 := by decide +kernel
def f_X6_needed (S : Hp) (x0 : Nat) (x1 : Int32) : Option (UInt64 × Hp) :=
 ob S 6 (some x0) fun b1 => cl (f_X6_noTour S b1 x1) fun v1 S1 =>
 if v1 = 0 then
 ob S1 6 (some x0) fun b2 => cl (f_X6_neededBy S1 b2 x1) fun e1 S2 =>
 some (e1, S2)
 else
 cl (f_X6_nothing S1 ) fun e2 S3 =>
 some (e2, S3)
set_option maxHeartbeats 4000000 in
set_option maxRecDepth 100000 in
theorem c_X6_needed (S : Hp) (x0 : Nat) (x1 : Int32) (o : UInt64 × Hp) (h : f_X6_needed S x0 x1 = some o) : CtD yX6_needed cX6_needed 2 (some .double) rm_X6_needed 0 0 [va_rf (some x0), .int x1] S o := by
  refine ct_D (own := RX6) (by decide) rfl (Nat.le_of_ble_eq_true rfl) (fun X C hn hQ => ?_)
  unfold f_X6_needed at h
  show GW X 0 0 S 0 [(0, va_rf (some x0)), (1, .int x1)] []
  refine g_aload_n C (q := 0) dX6_needed_0 rfl rfl ?_
  refine g_iload_n C (q := 1) dX6_needed_1 rfl rfl ?_
  refine g_callVI C (ci := 6) (As := [.int x1]) (np := 1) (st := []) (r := (some x0)) rfl (by decide) (fun b1 q hq => c_X6_noTour S b1 x1 q hq) gv_RX6_X6_noTour rfl rfl dsX6_noTour rfl ⟨Nat.le_of_ble_eq_true rfl, Nat.le_of_ble_eq_true rfl⟩ rfl (cat_sum (Nat.le_of_ble_eq_true rfl)) ⟨Nat.zero_le _, Nat.zero_le _⟩ dX6_needed_2 h (fun v1 S1 h => ?_)
  refine g_if_eq C (tgt := 14) dX6_needed_5 (by decide) h (fun h => ?_) (fun h => ?_)
  · refine g_aload_n C (q := 0) dX6_needed_14 rfl rfl ?_
    refine g_iload_n C (q := 1) dX6_needed_15 rfl rfl ?_
    refine g_callVD C (ci := 6) (As := [.int x1]) (np := 1) (st := []) (r := (some x0)) rfl (by decide) (fun b2 q hq => c_X6_neededBy S1 b2 x1 q hq) gv_RX6_X6_neededBy rfl rfl dsX6_neededBy rfl ⟨Nat.le_of_ble_eq_true rfl, Nat.le_of_ble_eq_true rfl⟩ rfl (cat_sum (Nat.le_of_ble_eq_true rfl)) ⟨Nat.zero_le _, Nat.zero_le _⟩ dX6_needed_16 h (fun e1 S2 h => ?_)
    exact g_dret C hQ dX6_needed_19 h
  · refine g_callSD C (As := []) (np := 0) (st := []) (fun q hq => c_X6_nothing S1  q hq) gs_RX6_X6_nothing rfl rfl dsX6_nothing rfl ⟨Nat.le_of_ble_eq_true rfl, Nat.le_of_ble_eq_true rfl⟩ rfl (cat_sum (Nat.le_of_ble_eq_true rfl)) ⟨Nat.zero_le _, Nat.zero_le _⟩ dX6_needed_8 h (fun e2 S3 h => ?_)
    refine g_goto C (tgt := 19) dX6_needed_11 (by decide) ?_
    exact g_dret C hQ dX6_needed_19 h

abbrev rm_X6_holds : Room := { frames := 5, cells := 0, slots := 0, locals := 116 }
theorem dsX6_holds : yX6_holds.cls = RX6 ∧ yX6_holds.cls ≠ "java/lang/invoke/MethodHandle" ∧ yX6_holds.cls ≠ "java/lang/invoke/VarHandle" ∧ (parseMethodDescriptor yX6_holds.desc).map (fun d => d.parameters.length) = some 2 := by decide +kernel
def f_X6_holds (S : Hp) (x0 : Nat) (x1 : Int32) (x2 : Int32) : Option (Int32 × Hp) :=
 ob S 6 (some x0) fun b1 => cl (f_X6_noTour S b1 x1) fun v1 S1 =>
 if v1 = 0 then
 ob S1 6 (some x0) fun b2 => cl (f_X6_noBridge S1 b2 x2) fun v2 S2 =>
 if v2 = 0 then
 ob S2 6 (some x0) fun b3 => cl (f_X6_isHeld S2 b3 x1 x2) fun v3 S3 =>
 if v3 = 0 then
 some ((0 : Int32), S3)
 else
 some ((1 : Int32), S3)
 else
 some ((-1 : Int32), S2)
 else
 some ((-1 : Int32), S1)
set_option maxHeartbeats 4000000 in
set_option maxRecDepth 100000 in
theorem c_X6_holds (S : Hp) (x0 : Nat) (x1 : Int32) (x2 : Int32) (o : Int32 × Hp) (h : f_X6_holds S x0 x1 x2 = some o) : CtI yX6_holds cX6_holds 3 (some .int) rm_X6_holds 0 0 [va_rf (some x0), .int x1, .int x2] S o := by
  refine ct_I (own := RX6) (by decide) rfl (Nat.le_of_ble_eq_true rfl) (fun X C hn hQ => ?_)
  unfold f_X6_holds at h
  show GW X 0 0 S 0 [(0, va_rf (some x0)), (1, .int x1), (2, .int x2)] []
  refine g_aload_n C (q := 0) dX6_holds_0 rfl rfl ?_
  refine g_iload_n C (q := 1) dX6_holds_1 rfl rfl ?_
  refine g_callVI C (ci := 6) (As := [.int x1]) (np := 1) (st := []) (r := (some x0)) rfl (by decide) (fun b1 q hq => c_X6_noTour S b1 x1 q hq) gv_RX6_X6_noTour rfl rfl dsX6_noTour rfl ⟨Nat.le_of_ble_eq_true rfl, Nat.le_of_ble_eq_true rfl⟩ rfl (cat_sum (Nat.le_of_ble_eq_true rfl)) ⟨Nat.zero_le _, Nat.zero_le _⟩ dX6_holds_2 h (fun v1 S1 h => ?_)
  refine g_if_ne C (tgt := 16) dX6_holds_5 (by decide) h (fun h => ?_) (fun h => ?_)
  · refine g_aload_n C (q := 0) dX6_holds_8 rfl rfl ?_
    refine g_iload_n C (q := 2) dX6_holds_9 rfl rfl ?_
    refine g_callVI C (ci := 6) (As := [.int x2]) (np := 1) (st := []) (r := (some x0)) rfl (by decide) (fun b2 q hq => c_X6_noBridge S1 b2 x2 q hq) gv_RX6_X6_noBridge rfl rfl dsX6_noBridge rfl ⟨Nat.le_of_ble_eq_true rfl, Nat.le_of_ble_eq_true rfl⟩ rfl (cat_sum (Nat.le_of_ble_eq_true rfl)) ⟨Nat.zero_le _, Nat.zero_le _⟩ dX6_holds_10 h (fun v2 S2 h => ?_)
    refine g_if_eq C (tgt := 20) dX6_holds_13 (by decide) h (fun h => ?_) (fun h => ?_)
    · refine g_aload_n C (q := 0) dX6_holds_20 rfl rfl ?_
      refine g_iload_n C (q := 1) dX6_holds_21 rfl rfl ?_
      refine g_iload_n C (q := 2) dX6_holds_22 rfl rfl ?_
      refine g_callVI C (ci := 6) (As := [.int x1, .int x2]) (np := 2) (st := []) (r := (some x0)) rfl (by decide) (fun b3 q hq => c_X6_isHeld S2 b3 x1 x2 q hq) gv_RX6_X6_isHeld rfl rfl dsX6_isHeld rfl ⟨Nat.le_of_ble_eq_true rfl, Nat.le_of_ble_eq_true rfl⟩ rfl (cat_sum (Nat.le_of_ble_eq_true rfl)) ⟨Nat.zero_le _, Nat.zero_le _⟩ dX6_holds_23 h (fun v3 S3 h => ?_)
      refine g_if_eq C (tgt := 33) dX6_holds_26 (by decide) h (fun h => ?_) (fun h => ?_)
      · refine g_iconst C (v := 0) dX6_holds_33 (by decide) ?_
        exact g_iret C hQ dX6_holds_34 h
      · refine g_iconst C (v := 1) dX6_holds_29 (by decide) ?_
        refine g_goto C (tgt := 34) dX6_holds_30 (by decide) ?_
        exact g_iret C hQ dX6_holds_34 h
    · refine g_iconst C (v := (-1)) dX6_holds_16 (by decide) ?_
      refine g_goto C (tgt := 34) dX6_holds_17 (by decide) ?_
      exact g_iret C hQ dX6_holds_34 h
  · refine g_iconst C (v := (-1)) dX6_holds_16 (by decide) ?_
    refine g_goto C (tgt := 34) dX6_holds_17 (by decide) ?_
    exact g_iret C hQ dX6_holds_34 h

abbrev rm_X6_bestGuide : Room := { frames := 5, cells := 0, slots := 0, locals := 112 }
theorem dsX6_bestGuide : yX6_bestGuide.cls = RX6 ∧ yX6_bestGuide.cls ≠ "java/lang/invoke/MethodHandle" ∧ yX6_bestGuide.cls ≠ "java/lang/invoke/VarHandle" ∧ (parseMethodDescriptor yX6_bestGuide.desc).map (fun d => d.parameters.length) = some 1 := by decide +kernel
def f_X6_bestGuide_L15_b (rec : Hp → Nat → Int32 → Int32 → Int32 → Option (Int32 × Hp)) (S : Hp) (x0 : Nat) (y1 : Int32) (y2 : Int32) (y3 : Int32) : Option (Int32 × Hp) :=
 ob S 6 (some x0) fun _ =>
 ar S 9 (zR S x0 0) (1 : Int32) fun a2 i1 =>
 if (zI S a2 i1) ≤ y3 then
 some (y2, S)
 else
 ob S 6 (some x0) fun b1 => cl (f_X6_mayLead S b1 y3 y1) fun v1 S1 =>
 if v1 = 0 then
 if (0 : Int32) = 0 then
 bnd (y3 + 1) fun v2 =>
 rec S1 x0 y1 y2 v2
 else
 if y2 = (-5) then
 bnd (y3 + 1) fun v3 =>
 rec S1 x0 y1 y3 v3
 else
 ob S1 6 (some x0) fun b2 => cl (f_X6_ratio S1 b2 y1 y3) fun v4 S2 =>
 ob S2 6 (some x0) fun b3 => cl (f_X6_ratio S2 b3 y1 y2) fun v5 S3 =>
 if v4 ≤ v5 then
 bnd (y3 + 1) fun v6 =>
 rec S3 x0 y1 y2 v6
 else
 bnd (y3 + 1) fun v7 =>
 rec S3 x0 y1 y3 v7
 else
 ob S1 6 (some x0) fun b4 => cl (f_X6_of S1 b4 y1 (4 : Int32)) fun v8 S4 =>
 if 4 ≤ v8 then
 if (0 : Int32) = 0 then
 bnd (y3 + 1) fun v9 =>
 rec S4 x0 y1 y2 v9
 else
 if y2 = (-5) then
 bnd (y3 + 1) fun v10 =>
 rec S4 x0 y1 y3 v10
 else
 ob S4 6 (some x0) fun b5 => cl (f_X6_ratio S4 b5 y1 y3) fun v11 S5 =>
 ob S5 6 (some x0) fun b6 => cl (f_X6_ratio S5 b6 y1 y2) fun v12 S6 =>
 if v11 ≤ v12 then
 bnd (y3 + 1) fun v13 =>
 rec S6 x0 y1 y2 v13
 else
 bnd (y3 + 1) fun v14 =>
 rec S6 x0 y1 y3 v14
 else
 if (1 : Int32) = 0 then
 bnd (y3 + 1) fun v15 =>
 rec S4 x0 y1 y2 v15
 else
 if y2 = (-5) then
 bnd (y3 + 1) fun v16 =>
 rec S4 x0 y1 y3 v16
 else
 ob S4 6 (some x0) fun b7 => cl (f_X6_ratio S4 b7 y1 y3) fun v17 S7 =>
 ob S7 6 (some x0) fun b8 => cl (f_X6_ratio S7 b8 y1 y2) fun v18 S8 =>
 if v17 ≤ v18 then
 bnd (y3 + 1) fun v19 =>
 rec S8 x0 y1 y2 v19
 else
 bnd (y3 + 1) fun v20 =>
 rec S8 x0 y1 y3 v20
def f_X6_bestGuide_L15 : Nat → Hp → Nat → Int32 → Int32 → Int32 → Option (Int32 × Hp)
  | 0 => fun _ _ _ _ _ => none
  | n + 1 => f_X6_bestGuide_L15_b (f_X6_bestGuide_L15 n)
def f_X6_bestGuide (S : Hp) (x0 : Nat) (x1 : Int32) : Option (Int32 × Hp) :=
 ob S 6 (some x0) fun b1 => cl (f_X6_noTour S b1 x1) fun v1 S1 =>
 if v1 = 0 then
 f_X6_bestGuide_L15 1000 S1 x0 x1 (-5 : Int32) (0 : Int32)
 else
 some ((-1 : Int32), S1)
set_option maxHeartbeats 4000000 in
set_option maxRecDepth 100000 in
theorem w_X6_bestGuide_L15 {X : Cx} (C : CxOK X cX6_bestGuide RX6 rm_X6_bestGuide) (hn : xn X = 5) {S0 : Hp} {o : Int32 × Hp} (hQ : QI X (some .int) S0 0 0 o) : ∀ (fuel : Nat) (S : Hp) (x0 : Nat) (y1 : Int32) (y2 : Int32) (y3 : Int32), f_X6_bestGuide_L15 fuel S x0 y1 y2 y3 = some o → GW X 0 0 S 15 [(0, va_rf (some x0)), (1, .int y1), (2, .int y2), (3, .int y3)] [] := by
  have hn2 : 2 < xn X := by rw [hn]; decide
  have hn3 : 3 < xn X := by rw [hn]; decide
  have hn4 : 4 < xn X := by rw [hn]; decide
  intro fuel
  induction fuel with
  | zero => intro S x0 y1 y2 y3 h; cases (show none = some o from h)
  | succ fuel ih =>
    intro S x0 y1 y2 y3 h
    have h : f_X6_bestGuide_L15_b (f_X6_bestGuide_L15 fuel) S x0 y1 y2 y3 = some o := h
    unfold f_X6_bestGuide_L15_b at h
    refine g_iload_n C (q := 3) dX6_bestGuide_15 rfl rfl ?_
    refine g_aload_n C (q := 0) dX6_bestGuide_16 rfl rfl ?_
    refine g_ogetSR C (ci := 6) (slot := 0) rfl (by decide) inlX6 (by decide) rfl q66 dX6_bestGuide_17 h (fun h hLa1 hKa1 => ?_)
    refine g_iconst C (v := 1) dX6_bestGuide_20 (by decide) ?_
    refine g_iald C dX6_bestGuide_21 h (fun a2 i1 h => ?_)
    refine g_icmp_ge C (tgt := 89) dX6_bestGuide_22 (by decide) h (fun h => ?_) (fun h => ?_)
    · refine g_iload_n C (q := 2) dX6_bestGuide_89 rfl rfl ?_
      exact g_iret C hQ dX6_bestGuide_90 h
    · refine g_aload_n C (q := 0) dX6_bestGuide_25 rfl rfl ?_
      refine g_iload_n C (q := 3) dX6_bestGuide_26 rfl rfl ?_
      refine g_iload_n C (q := 1) dX6_bestGuide_27 rfl rfl ?_
      refine g_callVI C (ci := 6) (As := [.int y3, .int y1]) (np := 2) (st := []) (r := (some x0)) rfl (by decide) (fun b1 q hq => c_X6_mayLead S b1 y3 y1 q hq) gv_RX6_X6_mayLead rfl rfl dsX6_mayLead rfl ⟨Nat.le_of_ble_eq_true rfl, Nat.le_of_ble_eq_true rfl⟩ rfl (cat_sum (Nat.le_of_ble_eq_true rfl)) ⟨Nat.zero_le _, Nat.zero_le _⟩ dX6_bestGuide_28 h (fun v1 S1 h => ?_)
      refine g_if_eq C (tgt := 48) dX6_bestGuide_31 (by decide) h (fun h => ?_) (fun h => ?_)
      · refine g_iconst C (v := 0) dX6_bestGuide_48 (by decide) ?_
        refine g_istore C (i := 4) (lv' := [(4, .int 0), (0, va_rf (some x0)), (1, .int y1), (2, .int y2), (3, .int y3)]) dX6_bestGuide_49 hn4 rfl ?_
        refine g_iload C (q := 0) dX6_bestGuide_51 rfl ?_
        refine g_if_eq C (tgt := 81) dX6_bestGuide_53 (by decide) h (fun h => ?_) (fun h => ?_)
        · refine g_iload_n C (q := 3) dX6_bestGuide_81 rfl rfl ?_
          refine g_istore_n C (i := 2) (lv' := [(2, .int y2), (4, .int 0), (0, va_rf (some x0)), (1, .int y1), (3, .int y3)]) dX6_bestGuide_82 rfl hn2 rfl ?_
          obtain ⟨v2, ev2, h⟩ := bnd_ex h
          refine g_iinc C (i := 3) (lv' := [(3, .int v2), (2, .int y2), (4, .int 0), (0, va_rf (some x0)), (1, .int y1)]) (q := 4) v2 dX6_bestGuide_83 rfl ev2 hn3 rfl ?_
          refine g_goto C (tgt := 15) dX6_bestGuide_86 (by decide) ?_
          refine g_sub (lv' := [(0, va_rf (some x0)), (1, .int y1), (2, .int y2), (3, .int v2)]) [3, 4, 1, 0] rfl ?_
          exact ih S1 x0 y1 y2 v2 h
        · refine g_iload_n C (q := 3) dX6_bestGuide_56 rfl rfl ?_
          refine g_bipush C (v := (-5)) dX6_bestGuide_57 (by decide) ?_
          refine g_icmp_eq C (tgt := 77) dX6_bestGuide_59 (by decide) h (fun h => ?_) (fun h => ?_)
          · refine g_iload_n C (q := 4) dX6_bestGuide_77 rfl rfl ?_
            refine g_goto C (tgt := 82) dX6_bestGuide_78 (by decide) ?_
            refine g_istore_n C (i := 2) (lv' := [(2, .int y3), (4, .int 0), (0, va_rf (some x0)), (1, .int y1), (3, .int y3)]) dX6_bestGuide_82 rfl hn2 rfl ?_
            obtain ⟨v3, ev3, h⟩ := bnd_ex h
            refine g_iinc C (i := 3) (lv' := [(3, .int v3), (2, .int y3), (4, .int 0), (0, va_rf (some x0)), (1, .int y1)]) (q := 4) v3 dX6_bestGuide_83 rfl ev3 hn3 rfl ?_
            refine g_goto C (tgt := 15) dX6_bestGuide_86 (by decide) ?_
            refine g_sub (lv' := [(0, va_rf (some x0)), (1, .int y1), (2, .int y3), (3, .int v3)]) [3, 4, 1, 0] rfl ?_
            exact ih S1 x0 y1 y3 v3 h
          · refine g_aload_n C (q := 1) dX6_bestGuide_62 rfl rfl ?_
            refine g_iload_n C (q := 2) dX6_bestGuide_63 rfl rfl ?_
            refine g_iload_n C (q := 4) dX6_bestGuide_64 rfl rfl ?_
            refine g_callVI C (ci := 6) (As := [.int y1, .int y3]) (np := 2) (st := []) (r := (some x0)) rfl (by decide) (fun b2 q hq => c_X6_ratio S1 b2 y1 y3 q hq) gv_RX6_X6_ratio rfl rfl dsX6_ratio rfl ⟨Nat.le_of_ble_eq_true rfl, Nat.le_of_ble_eq_true rfl⟩ rfl (cat_sum (Nat.le_of_ble_eq_true rfl)) ⟨Nat.zero_le _, Nat.zero_le _⟩ dX6_bestGuide_65 h (fun v4 S2 h => ?_)
            refine g_aload_n C (q := 1) dX6_bestGuide_68 rfl rfl ?_
            refine g_iload_n C (q := 2) dX6_bestGuide_69 rfl rfl ?_
            refine g_iload_n C (q := 3) dX6_bestGuide_70 rfl rfl ?_
            refine g_callVI C (ci := 6) (As := [.int y1, .int y2]) (np := 2) (st := [.int v4]) (r := (some x0)) rfl (by decide) (fun b3 q hq => c_X6_ratio S2 b3 y1 y2 q hq) gv_RX6_X6_ratio rfl rfl dsX6_ratio rfl ⟨Nat.le_of_ble_eq_true rfl, Nat.le_of_ble_eq_true rfl⟩ rfl (cat_sum (Nat.le_of_ble_eq_true rfl)) ⟨Nat.zero_le _, Nat.zero_le _⟩ dX6_bestGuide_71 h (fun v5 S3 h => ?_)
            refine g_icmp_le C (tgt := 81) dX6_bestGuide_74 (by decide) h (fun h => ?_) (fun h => ?_)
            · refine g_iload_n C (q := 3) dX6_bestGuide_81 rfl rfl ?_
              refine g_istore_n C (i := 2) (lv' := [(2, .int y2), (4, .int 0), (0, va_rf (some x0)), (1, .int y1), (3, .int y3)]) dX6_bestGuide_82 rfl hn2 rfl ?_
              obtain ⟨v6, ev6, h⟩ := bnd_ex h
              refine g_iinc C (i := 3) (lv' := [(3, .int v6), (2, .int y2), (4, .int 0), (0, va_rf (some x0)), (1, .int y1)]) (q := 4) v6 dX6_bestGuide_83 rfl ev6 hn3 rfl ?_
              refine g_goto C (tgt := 15) dX6_bestGuide_86 (by decide) ?_
              refine g_sub (lv' := [(0, va_rf (some x0)), (1, .int y1), (2, .int y2), (3, .int v6)]) [3, 4, 1, 0] rfl ?_
              exact ih S3 x0 y1 y2 v6 h
            · refine g_iload_n C (q := 4) dX6_bestGuide_77 rfl rfl ?_
              refine g_goto C (tgt := 82) dX6_bestGuide_78 (by decide) ?_
              refine g_istore_n C (i := 2) (lv' := [(2, .int y3), (4, .int 0), (0, va_rf (some x0)), (1, .int y1), (3, .int y3)]) dX6_bestGuide_82 rfl hn2 rfl ?_
              obtain ⟨v7, ev7, h⟩ := bnd_ex h
              refine g_iinc C (i := 3) (lv' := [(3, .int v7), (2, .int y3), (4, .int 0), (0, va_rf (some x0)), (1, .int y1)]) (q := 4) v7 dX6_bestGuide_83 rfl ev7 hn3 rfl ?_
              refine g_goto C (tgt := 15) dX6_bestGuide_86 (by decide) ?_
              refine g_sub (lv' := [(0, va_rf (some x0)), (1, .int y1), (2, .int y3), (3, .int v7)]) [3, 4, 1, 0] rfl ?_
              exact ih S3 x0 y1 y3 v7 h
      · refine g_aload_n C (q := 0) dX6_bestGuide_34 rfl rfl ?_
        refine g_iload_n C (q := 1) dX6_bestGuide_35 rfl rfl ?_
        refine g_iconst C (v := 4) dX6_bestGuide_36 (by decide) ?_
        refine g_callVI C (ci := 6) (As := [.int y1, .int 4]) (np := 2) (st := []) (r := (some x0)) rfl (by decide) (fun b4 q hq => c_X6_of S1 b4 y1 (4 : Int32) q hq) gv_RX6_X6_of rfl rfl dsX6_of rfl ⟨Nat.le_of_ble_eq_true rfl, Nat.le_of_ble_eq_true rfl⟩ rfl (cat_sum (Nat.le_of_ble_eq_true rfl)) ⟨Nat.zero_le _, Nat.zero_le _⟩ dX6_bestGuide_37 h (fun v8 S4 h => ?_)
        refine g_iconst C (v := 4) dX6_bestGuide_40 (by decide) ?_
        refine g_icmp_ge C (tgt := 48) dX6_bestGuide_41 (by decide) h (fun h => ?_) (fun h => ?_)
        · refine g_iconst C (v := 0) dX6_bestGuide_48 (by decide) ?_
          refine g_istore C (i := 4) (lv' := [(4, .int 0), (0, va_rf (some x0)), (1, .int y1), (2, .int y2), (3, .int y3)]) dX6_bestGuide_49 hn4 rfl ?_
          refine g_iload C (q := 0) dX6_bestGuide_51 rfl ?_
          refine g_if_eq C (tgt := 81) dX6_bestGuide_53 (by decide) h (fun h => ?_) (fun h => ?_)
          · refine g_iload_n C (q := 3) dX6_bestGuide_81 rfl rfl ?_
            refine g_istore_n C (i := 2) (lv' := [(2, .int y2), (4, .int 0), (0, va_rf (some x0)), (1, .int y1), (3, .int y3)]) dX6_bestGuide_82 rfl hn2 rfl ?_
            obtain ⟨v9, ev9, h⟩ := bnd_ex h
            refine g_iinc C (i := 3) (lv' := [(3, .int v9), (2, .int y2), (4, .int 0), (0, va_rf (some x0)), (1, .int y1)]) (q := 4) v9 dX6_bestGuide_83 rfl ev9 hn3 rfl ?_
            refine g_goto C (tgt := 15) dX6_bestGuide_86 (by decide) ?_
            refine g_sub (lv' := [(0, va_rf (some x0)), (1, .int y1), (2, .int y2), (3, .int v9)]) [3, 4, 1, 0] rfl ?_
            exact ih S4 x0 y1 y2 v9 h
          · refine g_iload_n C (q := 3) dX6_bestGuide_56 rfl rfl ?_
            refine g_bipush C (v := (-5)) dX6_bestGuide_57 (by decide) ?_
            refine g_icmp_eq C (tgt := 77) dX6_bestGuide_59 (by decide) h (fun h => ?_) (fun h => ?_)
            · refine g_iload_n C (q := 4) dX6_bestGuide_77 rfl rfl ?_
              refine g_goto C (tgt := 82) dX6_bestGuide_78 (by decide) ?_
              refine g_istore_n C (i := 2) (lv' := [(2, .int y3), (4, .int 0), (0, va_rf (some x0)), (1, .int y1), (3, .int y3)]) dX6_bestGuide_82 rfl hn2 rfl ?_
              obtain ⟨v10, ev10, h⟩ := bnd_ex h
              refine g_iinc C (i := 3) (lv' := [(3, .int v10), (2, .int y3), (4, .int 0), (0, va_rf (some x0)), (1, .int y1)]) (q := 4) v10 dX6_bestGuide_83 rfl ev10 hn3 rfl ?_
              refine g_goto C (tgt := 15) dX6_bestGuide_86 (by decide) ?_
              refine g_sub (lv' := [(0, va_rf (some x0)), (1, .int y1), (2, .int y3), (3, .int v10)]) [3, 4, 1, 0] rfl ?_
              exact ih S4 x0 y1 y3 v10 h
            · refine g_aload_n C (q := 1) dX6_bestGuide_62 rfl rfl ?_
              refine g_iload_n C (q := 2) dX6_bestGuide_63 rfl rfl ?_
              refine g_iload_n C (q := 4) dX6_bestGuide_64 rfl rfl ?_
              refine g_callVI C (ci := 6) (As := [.int y1, .int y3]) (np := 2) (st := []) (r := (some x0)) rfl (by decide) (fun b5 q hq => c_X6_ratio S4 b5 y1 y3 q hq) gv_RX6_X6_ratio rfl rfl dsX6_ratio rfl ⟨Nat.le_of_ble_eq_true rfl, Nat.le_of_ble_eq_true rfl⟩ rfl (cat_sum (Nat.le_of_ble_eq_true rfl)) ⟨Nat.zero_le _, Nat.zero_le _⟩ dX6_bestGuide_65 h (fun v11 S5 h => ?_)
              refine g_aload_n C (q := 1) dX6_bestGuide_68 rfl rfl ?_
              refine g_iload_n C (q := 2) dX6_bestGuide_69 rfl rfl ?_
              refine g_iload_n C (q := 3) dX6_bestGuide_70 rfl rfl ?_
              refine g_callVI C (ci := 6) (As := [.int y1, .int y2]) (np := 2) (st := [.int v11]) (r := (some x0)) rfl (by decide) (fun b6 q hq => c_X6_ratio S5 b6 y1 y2 q hq) gv_RX6_X6_ratio rfl rfl dsX6_ratio rfl ⟨Nat.le_of_ble_eq_true rfl, Nat.le_of_ble_eq_true rfl⟩ rfl (cat_sum (Nat.le_of_ble_eq_true rfl)) ⟨Nat.zero_le _, Nat.zero_le _⟩ dX6_bestGuide_71 h (fun v12 S6 h => ?_)
              refine g_icmp_le C (tgt := 81) dX6_bestGuide_74 (by decide) h (fun h => ?_) (fun h => ?_)
              · refine g_iload_n C (q := 3) dX6_bestGuide_81 rfl rfl ?_
                refine g_istore_n C (i := 2) (lv' := [(2, .int y2), (4, .int 0), (0, va_rf (some x0)), (1, .int y1), (3, .int y3)]) dX6_bestGuide_82 rfl hn2 rfl ?_
                obtain ⟨v13, ev13, h⟩ := bnd_ex h
                refine g_iinc C (i := 3) (lv' := [(3, .int v13), (2, .int y2), (4, .int 0), (0, va_rf (some x0)), (1, .int y1)]) (q := 4) v13 dX6_bestGuide_83 rfl ev13 hn3 rfl ?_
                refine g_goto C (tgt := 15) dX6_bestGuide_86 (by decide) ?_
                refine g_sub (lv' := [(0, va_rf (some x0)), (1, .int y1), (2, .int y2), (3, .int v13)]) [3, 4, 1, 0] rfl ?_
                exact ih S6 x0 y1 y2 v13 h
              · refine g_iload_n C (q := 4) dX6_bestGuide_77 rfl rfl ?_
                refine g_goto C (tgt := 82) dX6_bestGuide_78 (by decide) ?_
                refine g_istore_n C (i := 2) (lv' := [(2, .int y3), (4, .int 0), (0, va_rf (some x0)), (1, .int y1), (3, .int y3)]) dX6_bestGuide_82 rfl hn2 rfl ?_
                obtain ⟨v14, ev14, h⟩ := bnd_ex h
                refine g_iinc C (i := 3) (lv' := [(3, .int v14), (2, .int y3), (4, .int 0), (0, va_rf (some x0)), (1, .int y1)]) (q := 4) v14 dX6_bestGuide_83 rfl ev14 hn3 rfl ?_
                refine g_goto C (tgt := 15) dX6_bestGuide_86 (by decide) ?_
                refine g_sub (lv' := [(0, va_rf (some x0)), (1, .int y1), (2, .int y3), (3, .int v14)]) [3, 4, 1, 0] rfl ?_
                exact ih S6 x0 y1 y3 v14 h
        · refine g_iconst C (v := 1) dX6_bestGuide_44 (by decide) ?_
          refine g_goto C (tgt := 49) dX6_bestGuide_45 (by decide) ?_
          refine g_istore C (i := 4) (lv' := [(4, .int 1), (0, va_rf (some x0)), (1, .int y1), (2, .int y2), (3, .int y3)]) dX6_bestGuide_49 hn4 rfl ?_
          refine g_iload C (q := 0) dX6_bestGuide_51 rfl ?_
          refine g_if_eq C (tgt := 81) dX6_bestGuide_53 (by decide) h (fun h => ?_) (fun h => ?_)
          · refine g_iload_n C (q := 3) dX6_bestGuide_81 rfl rfl ?_
            refine g_istore_n C (i := 2) (lv' := [(2, .int y2), (4, .int 1), (0, va_rf (some x0)), (1, .int y1), (3, .int y3)]) dX6_bestGuide_82 rfl hn2 rfl ?_
            obtain ⟨v15, ev15, h⟩ := bnd_ex h
            refine g_iinc C (i := 3) (lv' := [(3, .int v15), (2, .int y2), (4, .int 1), (0, va_rf (some x0)), (1, .int y1)]) (q := 4) v15 dX6_bestGuide_83 rfl ev15 hn3 rfl ?_
            refine g_goto C (tgt := 15) dX6_bestGuide_86 (by decide) ?_
            refine g_sub (lv' := [(0, va_rf (some x0)), (1, .int y1), (2, .int y2), (3, .int v15)]) [3, 4, 1, 0] rfl ?_
            exact ih S4 x0 y1 y2 v15 h
          · refine g_iload_n C (q := 3) dX6_bestGuide_56 rfl rfl ?_
            refine g_bipush C (v := (-5)) dX6_bestGuide_57 (by decide) ?_
            refine g_icmp_eq C (tgt := 77) dX6_bestGuide_59 (by decide) h (fun h => ?_) (fun h => ?_)
            · refine g_iload_n C (q := 4) dX6_bestGuide_77 rfl rfl ?_
              refine g_goto C (tgt := 82) dX6_bestGuide_78 (by decide) ?_
              refine g_istore_n C (i := 2) (lv' := [(2, .int y3), (4, .int 1), (0, va_rf (some x0)), (1, .int y1), (3, .int y3)]) dX6_bestGuide_82 rfl hn2 rfl ?_
              obtain ⟨v16, ev16, h⟩ := bnd_ex h
              refine g_iinc C (i := 3) (lv' := [(3, .int v16), (2, .int y3), (4, .int 1), (0, va_rf (some x0)), (1, .int y1)]) (q := 4) v16 dX6_bestGuide_83 rfl ev16 hn3 rfl ?_
              refine g_goto C (tgt := 15) dX6_bestGuide_86 (by decide) ?_
              refine g_sub (lv' := [(0, va_rf (some x0)), (1, .int y1), (2, .int y3), (3, .int v16)]) [3, 4, 1, 0] rfl ?_
              exact ih S4 x0 y1 y3 v16 h
            · refine g_aload_n C (q := 1) dX6_bestGuide_62 rfl rfl ?_
              refine g_iload_n C (q := 2) dX6_bestGuide_63 rfl rfl ?_
              refine g_iload_n C (q := 4) dX6_bestGuide_64 rfl rfl ?_
              refine g_callVI C (ci := 6) (As := [.int y1, .int y3]) (np := 2) (st := []) (r := (some x0)) rfl (by decide) (fun b7 q hq => c_X6_ratio S4 b7 y1 y3 q hq) gv_RX6_X6_ratio rfl rfl dsX6_ratio rfl ⟨Nat.le_of_ble_eq_true rfl, Nat.le_of_ble_eq_true rfl⟩ rfl (cat_sum (Nat.le_of_ble_eq_true rfl)) ⟨Nat.zero_le _, Nat.zero_le _⟩ dX6_bestGuide_65 h (fun v17 S7 h => ?_)
              refine g_aload_n C (q := 1) dX6_bestGuide_68 rfl rfl ?_
              refine g_iload_n C (q := 2) dX6_bestGuide_69 rfl rfl ?_
              refine g_iload_n C (q := 3) dX6_bestGuide_70 rfl rfl ?_
              refine g_callVI C (ci := 6) (As := [.int y1, .int y2]) (np := 2) (st := [.int v17]) (r := (some x0)) rfl (by decide) (fun b8 q hq => c_X6_ratio S7 b8 y1 y2 q hq) gv_RX6_X6_ratio rfl rfl dsX6_ratio rfl ⟨Nat.le_of_ble_eq_true rfl, Nat.le_of_ble_eq_true rfl⟩ rfl (cat_sum (Nat.le_of_ble_eq_true rfl)) ⟨Nat.zero_le _, Nat.zero_le _⟩ dX6_bestGuide_71 h (fun v18 S8 h => ?_)
              refine g_icmp_le C (tgt := 81) dX6_bestGuide_74 (by decide) h (fun h => ?_) (fun h => ?_)
              · refine g_iload_n C (q := 3) dX6_bestGuide_81 rfl rfl ?_
                refine g_istore_n C (i := 2) (lv' := [(2, .int y2), (4, .int 1), (0, va_rf (some x0)), (1, .int y1), (3, .int y3)]) dX6_bestGuide_82 rfl hn2 rfl ?_
                obtain ⟨v19, ev19, h⟩ := bnd_ex h
                refine g_iinc C (i := 3) (lv' := [(3, .int v19), (2, .int y2), (4, .int 1), (0, va_rf (some x0)), (1, .int y1)]) (q := 4) v19 dX6_bestGuide_83 rfl ev19 hn3 rfl ?_
                refine g_goto C (tgt := 15) dX6_bestGuide_86 (by decide) ?_
                refine g_sub (lv' := [(0, va_rf (some x0)), (1, .int y1), (2, .int y2), (3, .int v19)]) [3, 4, 1, 0] rfl ?_
                exact ih S8 x0 y1 y2 v19 h
              · refine g_iload_n C (q := 4) dX6_bestGuide_77 rfl rfl ?_
                refine g_goto C (tgt := 82) dX6_bestGuide_78 (by decide) ?_
                refine g_istore_n C (i := 2) (lv' := [(2, .int y3), (4, .int 1), (0, va_rf (some x0)), (1, .int y1), (3, .int y3)]) dX6_bestGuide_82 rfl hn2 rfl ?_
                obtain ⟨v20, ev20, h⟩ := bnd_ex h
                refine g_iinc C (i := 3) (lv' := [(3, .int v20), (2, .int y3), (4, .int 1), (0, va_rf (some x0)), (1, .int y1)]) (q := 4) v20 dX6_bestGuide_83 rfl ev20 hn3 rfl ?_
                refine g_goto C (tgt := 15) dX6_bestGuide_86 (by decide) ?_
                refine g_sub (lv' := [(0, va_rf (some x0)), (1, .int y1), (2, .int y3), (3, .int v20)]) [3, 4, 1, 0] rfl ?_
                exact ih S8 x0 y1 y3 v20 h
set_option maxHeartbeats 4000000 in
set_option maxRecDepth 100000 in
theorem c_X6_bestGuide (S : Hp) (x0 : Nat) (x1 : Int32) (o : Int32 × Hp) (h : f_X6_bestGuide S x0 x1 = some o) : CtI yX6_bestGuide cX6_bestGuide 5 (some .int) rm_X6_bestGuide 0 0 [va_rf (some x0), .int x1] S o := by
  refine ct_I (own := RX6) (by decide) rfl (Nat.le_of_ble_eq_true rfl) (fun X C hn hQ => ?_)
  have hn2 : 2 < xn X := by rw [hn]; decide
  have hn3 : 3 < xn X := by rw [hn]; decide
  unfold f_X6_bestGuide at h
  show GW X 0 0 S 0 [(0, va_rf (some x0)), (1, .int x1)] []
  refine g_aload_n C (q := 0) dX6_bestGuide_0 rfl rfl ?_
  refine g_iload_n C (q := 1) dX6_bestGuide_1 rfl rfl ?_
  refine g_callVI C (ci := 6) (As := [.int x1]) (np := 1) (st := []) (r := (some x0)) rfl (by decide) (fun b1 q hq => c_X6_noTour S b1 x1 q hq) gv_RX6_X6_noTour rfl rfl dsX6_noTour rfl ⟨Nat.le_of_ble_eq_true rfl, Nat.le_of_ble_eq_true rfl⟩ rfl (cat_sum (Nat.le_of_ble_eq_true rfl)) ⟨Nat.zero_le _, Nat.zero_le _⟩ dX6_bestGuide_2 h (fun v1 S1 h => ?_)
  refine g_if_eq C (tgt := 10) dX6_bestGuide_5 (by decide) h (fun h => ?_) (fun h => ?_)
  · refine g_bipush C (v := (-5)) dX6_bestGuide_10 (by decide) ?_
    refine g_istore_n C (i := 2) (lv' := [(2, .int (-5)), (0, va_rf (some x0)), (1, .int x1)]) dX6_bestGuide_12 rfl hn2 rfl ?_
    refine g_iconst C (v := 0) dX6_bestGuide_13 (by decide) ?_
    refine g_istore_n C (i := 3) (lv' := [(3, .int 0), (2, .int (-5)), (0, va_rf (some x0)), (1, .int x1)]) dX6_bestGuide_14 rfl hn3 rfl ?_
    refine g_sub (lv' := [(0, va_rf (some x0)), (1, .int x1), (2, .int (-5)), (3, .int 0)]) [2, 3, 1, 0] rfl ?_
    exact w_X6_bestGuide_L15 C hn hQ 1000 S1 x0 x1 (-5 : Int32) (0 : Int32) h
  · refine g_iconst C (v := (-1)) dX6_bestGuide_8 (by decide) ?_
    exact g_iret C hQ dX6_bestGuide_9 h

abbrev rm_X6_takes : Room := { frames := 2, cells := 0, slots := 0, locals := 43 }
theorem dsX6_takes : yX6_takes.cls = RX6 ∧ yX6_takes.cls ≠ "java/lang/invoke/MethodHandle" ∧ yX6_takes.cls ≠ "java/lang/invoke/VarHandle" ∧ (parseMethodDescriptor yX6_takes.desc).map (fun d => d.parameters.length) = some 2 := by decide +kernel
def f_X6_takes (S : Hp) (x0 : Nat) (x1 : Int32) (x2 : Int32) : Option (Int32 × Hp) :=
 ob S 6 (some x0) fun b1 => cl (f_X6_noGuide S b1 x2) fun v1 S1 =>
 if v1 = 0 then
 cl (f_X6_in S1 x1 (1 : Int32) (3 : Int32)) fun v2 S2 =>
 if v2 = 0 then
 some ((-2 : Int32), S2)
 else
 ob S2 6 (some x0) fun b2 => cl (f_X6_ofGuide S2 b2 x2 (0 : Int32)) fun v3 S3 =>
 if v3 = x1 then
 some ((1 : Int32), S3)
 else
 some ((0 : Int32), S3)
 else
 some ((-1 : Int32), S1)
set_option maxHeartbeats 4000000 in
set_option maxRecDepth 100000 in
theorem c_X6_takes (S : Hp) (x0 : Nat) (x1 : Int32) (x2 : Int32) (o : Int32 × Hp) (h : f_X6_takes S x0 x1 x2 = some o) : CtI yX6_takes cX6_takes 3 (some .int) rm_X6_takes 0 0 [va_rf (some x0), .int x1, .int x2] S o := by
  refine ct_I (own := RX6) (by decide) rfl (Nat.le_of_ble_eq_true rfl) (fun X C hn hQ => ?_)
  unfold f_X6_takes at h
  show GW X 0 0 S 0 [(0, va_rf (some x0)), (1, .int x1), (2, .int x2)] []
  refine g_aload_n C (q := 0) dX6_takes_0 rfl rfl ?_
  refine g_iload_n C (q := 2) dX6_takes_1 rfl rfl ?_
  refine g_callVI C (ci := 6) (As := [.int x2]) (np := 1) (st := []) (r := (some x0)) rfl (by decide) (fun b1 q hq => c_X6_noGuide S b1 x2 q hq) gv_RX6_X6_noGuide rfl rfl dsX6_noGuide rfl ⟨Nat.le_of_ble_eq_true rfl, Nat.le_of_ble_eq_true rfl⟩ rfl (cat_sum (Nat.le_of_ble_eq_true rfl)) ⟨Nat.zero_le _, Nat.zero_le _⟩ dX6_takes_2 h (fun v1 S1 h => ?_)
  refine g_if_eq C (tgt := 10) dX6_takes_5 (by decide) h (fun h => ?_) (fun h => ?_)
  · refine g_iload_n C (q := 1) dX6_takes_10 rfl rfl ?_
    refine g_iconst C (v := 1) dX6_takes_11 (by decide) ?_
    refine g_iconst C (v := 3) dX6_takes_12 (by decide) ?_
    refine g_callSI C (As := [.int x1, .int 1, .int 3]) (np := 3) (st := []) (fun q hq => c_X6_in S1 x1 (1 : Int32) (3 : Int32) q hq) gs_RX6_X6_in rfl rfl dsX6_in rfl ⟨Nat.le_of_ble_eq_true rfl, Nat.le_of_ble_eq_true rfl⟩ rfl (cat_sum (Nat.le_of_ble_eq_true rfl)) ⟨Nat.zero_le _, Nat.zero_le _⟩ dX6_takes_13 h (fun v2 S2 h => ?_)
    refine g_if_ne C (tgt := 24) dX6_takes_16 (by decide) h (fun h => ?_) (fun h => ?_)
    · refine g_bipush C (v := (-2)) dX6_takes_19 (by decide) ?_
      refine g_goto C (tgt := 39) dX6_takes_21 (by decide) ?_
      exact g_iret C hQ dX6_takes_39 h
    · refine g_aload_n C (q := 0) dX6_takes_24 rfl rfl ?_
      refine g_iload_n C (q := 2) dX6_takes_25 rfl rfl ?_
      refine g_iconst C (v := 0) dX6_takes_26 (by decide) ?_
      refine g_callVI C (ci := 6) (As := [.int x2, .int 0]) (np := 2) (st := []) (r := (some x0)) rfl (by decide) (fun b2 q hq => c_X6_ofGuide S2 b2 x2 (0 : Int32) q hq) gv_RX6_X6_ofGuide rfl rfl dsX6_ofGuide rfl ⟨Nat.le_of_ble_eq_true rfl, Nat.le_of_ble_eq_true rfl⟩ rfl (cat_sum (Nat.le_of_ble_eq_true rfl)) ⟨Nat.zero_le _, Nat.zero_le _⟩ dX6_takes_27 h (fun v3 S3 h => ?_)
      refine g_iload_n C (q := 1) dX6_takes_30 rfl rfl ?_
      refine g_icmp_ne C (tgt := 38) dX6_takes_31 (by decide) h (fun h => ?_) (fun h => ?_)
      · refine g_iconst C (v := 1) dX6_takes_34 (by decide) ?_
        refine g_goto C (tgt := 39) dX6_takes_35 (by decide) ?_
        exact g_iret C hQ dX6_takes_39 h
      · refine g_iconst C (v := 0) dX6_takes_38 (by decide) ?_
        exact g_iret C hQ dX6_takes_39 h
  · refine g_iconst C (v := (-1)) dX6_takes_8 (by decide) ?_
    exact g_iret C hQ dX6_takes_9 h

abbrev rm_X6_inState : Room := { frames := 1, cells := 0, slots := 0, locals := 22 }
theorem dsX6_inState : yX6_inState.cls = RX6 ∧ yX6_inState.cls ≠ "java/lang/invoke/MethodHandle" ∧ yX6_inState.cls ≠ "java/lang/invoke/VarHandle" ∧ (parseMethodDescriptor yX6_inState.desc).map (fun d => d.parameters.length) = some 1 := by decide +kernel
def f_X6_inState_L4_b (rec : Hp → Nat → Int32 → Int32 → Int32 → Option (Int32 × Hp)) (S : Hp) (x0 : Nat) (y1 : Int32) (y2 : Int32) (y3 : Int32) : Option (Int32 × Hp) :=
 ob S 6 (some x0) fun _ =>
 ar S 9 (zR S x0 0) (3 : Int32) fun a2 i1 =>
 if (zI S a2 i1) ≤ y3 then
 some (y2, S)
 else
 ob S 6 (some x0) fun b1 => cl (f_X6_of S b1 y3 (6 : Int32)) fun v1 S1 =>
 if v1 = y1 then
 bnd ((y2 + 1)) fun v2 =>
 bnd (y3 + 1) fun v3 =>
 rec S1 x0 y1 v2 v3
 else
 bnd ((y2 + 0)) fun v4 =>
 bnd (y3 + 1) fun v5 =>
 rec S1 x0 y1 v4 v5
def f_X6_inState_L4 : Nat → Hp → Nat → Int32 → Int32 → Int32 → Option (Int32 × Hp)
  | 0 => fun _ _ _ _ _ => none
  | n + 1 => f_X6_inState_L4_b (f_X6_inState_L4 n)
def f_X6_inState (S : Hp) (x0 : Nat) (x1 : Int32) : Option (Int32 × Hp) :=
 f_X6_inState_L4 1000 S x0 x1 (0 : Int32) (0 : Int32)
set_option maxHeartbeats 4000000 in
set_option maxRecDepth 100000 in
theorem w_X6_inState_L4 {X : Cx} (C : CxOK X cX6_inState RX6 rm_X6_inState) (hn : xn X = 4) {S0 : Hp} {o : Int32 × Hp} (hQ : QI X (some .int) S0 0 0 o) : ∀ (fuel : Nat) (S : Hp) (x0 : Nat) (y1 : Int32) (y2 : Int32) (y3 : Int32), f_X6_inState_L4 fuel S x0 y1 y2 y3 = some o → GW X 0 0 S 4 [(0, va_rf (some x0)), (1, .int y1), (2, .int y2), (3, .int y3)] [] := by
  have hn2 : 2 < xn X := by rw [hn]; decide
  have hn3 : 3 < xn X := by rw [hn]; decide
  intro fuel
  induction fuel with
  | zero => intro S x0 y1 y2 y3 h; cases (show none = some o from h)
  | succ fuel ih =>
    intro S x0 y1 y2 y3 h
    have h : f_X6_inState_L4_b (f_X6_inState_L4 fuel) S x0 y1 y2 y3 = some o := h
    unfold f_X6_inState_L4_b at h
    refine g_iload_n C (q := 3) dX6_inState_4 rfl rfl ?_
    refine g_aload_n C (q := 0) dX6_inState_5 rfl rfl ?_
    refine g_ogetSR C (ci := 6) (slot := 0) rfl (by decide) inlX6 (by decide) rfl q66 dX6_inState_6 h (fun h hLa1 hKa1 => ?_)
    refine g_iconst C (v := 3) dX6_inState_9 (by decide) ?_
    refine g_iald C dX6_inState_10 h (fun a2 i1 h => ?_)
    refine g_icmp_ge C (tgt := 39) dX6_inState_11 (by decide) h (fun h => ?_) (fun h => ?_)
    · refine g_iload_n C (q := 2) dX6_inState_39 rfl rfl ?_
      exact g_iret C hQ dX6_inState_40 h
    · refine g_iload_n C (q := 2) dX6_inState_14 rfl rfl ?_
      refine g_aload_n C (q := 0) dX6_inState_15 rfl rfl ?_
      refine g_iload_n C (q := 3) dX6_inState_16 rfl rfl ?_
      refine g_bipush C (v := 6) dX6_inState_17 (by decide) ?_
      refine g_callVI C (ci := 6) (As := [.int y3, .int 6]) (np := 2) (st := [.int y2]) (r := (some x0)) rfl (by decide) (fun b1 q hq => c_X6_of S b1 y3 (6 : Int32) q hq) gv_RX6_X6_of rfl rfl dsX6_of rfl ⟨Nat.le_of_ble_eq_true rfl, Nat.le_of_ble_eq_true rfl⟩ rfl (cat_sum (Nat.le_of_ble_eq_true rfl)) ⟨Nat.zero_le _, Nat.zero_le _⟩ dX6_inState_19 h (fun v1 S1 h => ?_)
      refine g_iload_n C (q := 1) dX6_inState_22 rfl rfl ?_
      refine g_icmp_ne C (tgt := 30) dX6_inState_23 (by decide) h (fun h => ?_) (fun h => ?_)
      · refine g_iconst C (v := 1) dX6_inState_26 (by decide) ?_
        refine g_goto C (tgt := 31) dX6_inState_27 (by decide) ?_
        refine g_iadd C dX6_inState_31 ?_
        refine g_nmI h (fun v2 h => ?_)
        refine g_istore_n C (i := 2) (lv' := [(2, .int v2), (0, va_rf (some x0)), (1, .int y1), (3, .int y3)]) dX6_inState_32 rfl hn2 rfl ?_
        obtain ⟨v3, ev3, h⟩ := bnd_ex h
        refine g_iinc C (i := 3) (lv' := [(3, .int v3), (2, .int v2), (0, va_rf (some x0)), (1, .int y1)]) (q := 3) v3 dX6_inState_33 rfl ev3 hn3 rfl ?_
        refine g_goto C (tgt := 4) dX6_inState_36 (by decide) ?_
        refine g_sub (lv' := [(0, va_rf (some x0)), (1, .int y1), (2, .int v2), (3, .int v3)]) [2, 3, 1, 0] rfl ?_
        exact ih S1 x0 y1 v2 v3 h
      · refine g_iconst C (v := 0) dX6_inState_30 (by decide) ?_
        refine g_iadd C dX6_inState_31 ?_
        refine g_nmI h (fun v4 h => ?_)
        refine g_istore_n C (i := 2) (lv' := [(2, .int v4), (0, va_rf (some x0)), (1, .int y1), (3, .int y3)]) dX6_inState_32 rfl hn2 rfl ?_
        obtain ⟨v5, ev5, h⟩ := bnd_ex h
        refine g_iinc C (i := 3) (lv' := [(3, .int v5), (2, .int v4), (0, va_rf (some x0)), (1, .int y1)]) (q := 3) v5 dX6_inState_33 rfl ev5 hn3 rfl ?_
        refine g_goto C (tgt := 4) dX6_inState_36 (by decide) ?_
        refine g_sub (lv' := [(0, va_rf (some x0)), (1, .int y1), (2, .int v4), (3, .int v5)]) [2, 3, 1, 0] rfl ?_
        exact ih S1 x0 y1 v4 v5 h
set_option maxHeartbeats 4000000 in
set_option maxRecDepth 100000 in
theorem c_X6_inState (S : Hp) (x0 : Nat) (x1 : Int32) (o : Int32 × Hp) (h : f_X6_inState S x0 x1 = some o) : CtI yX6_inState cX6_inState 4 (some .int) rm_X6_inState 0 0 [va_rf (some x0), .int x1] S o := by
  refine ct_I (own := RX6) (by decide) rfl (Nat.le_of_ble_eq_true rfl) (fun X C hn hQ => ?_)
  have hn2 : 2 < xn X := by rw [hn]; decide
  have hn3 : 3 < xn X := by rw [hn]; decide
  unfold f_X6_inState at h
  show GW X 0 0 S 0 [(0, va_rf (some x0)), (1, .int x1)] []
  refine g_iconst C (v := 0) dX6_inState_0 (by decide) ?_
  refine g_istore_n C (i := 2) (lv' := [(2, .int 0), (0, va_rf (some x0)), (1, .int x1)]) dX6_inState_1 rfl hn2 rfl ?_
  refine g_iconst C (v := 0) dX6_inState_2 (by decide) ?_
  refine g_istore_n C (i := 3) (lv' := [(3, .int 0), (2, .int 0), (0, va_rf (some x0)), (1, .int x1)]) dX6_inState_3 rfl hn3 rfl ?_
  refine g_sub (lv' := [(0, va_rf (some x0)), (1, .int x1), (2, .int 0), (3, .int 0)]) [2, 3, 1, 0] rfl ?_
  exact w_X6_inState_L4 C hn hQ 1000 S x0 x1 (0 : Int32) (0 : Int32) h

abbrev rm_X6_paidAll : Room := { frames := 1, cells := 0, slots := 0, locals := 22 }
theorem dsX6_paidAll : yX6_paidAll.cls = RX6 ∧ yX6_paidAll.cls ≠ "java/lang/invoke/MethodHandle" ∧ yX6_paidAll.cls ≠ "java/lang/invoke/VarHandle" ∧ (parseMethodDescriptor yX6_paidAll.desc).map (fun d => d.parameters.length) = some 0 := by decide +kernel
def f_X6_paidAll_L4_b (rec : Hp → Nat → Int32 → Int32 → Option (Int32 × Hp)) (S : Hp) (x0 : Nat) (y1 : Int32) (y2 : Int32) : Option (Int32 × Hp) :=
 ob S 6 (some x0) fun _ =>
 ar S 9 (zR S x0 0) (3 : Int32) fun a2 i1 =>
 if (zI S a2 i1) ≤ y2 then
 some (y1, S)
 else
 ob S 6 (some x0) fun b1 => cl (f_X6_of S b1 y2 (5 : Int32)) fun v1 S1 =>
 bnd ((y1 + v1)) fun v2 =>
 bnd (y2 + 1) fun v3 =>
 rec S1 x0 v2 v3
def f_X6_paidAll_L4 : Nat → Hp → Nat → Int32 → Int32 → Option (Int32 × Hp)
  | 0 => fun _ _ _ _ => none
  | n + 1 => f_X6_paidAll_L4_b (f_X6_paidAll_L4 n)
def f_X6_paidAll (S : Hp) (x0 : Nat) : Option (Int32 × Hp) :=
 f_X6_paidAll_L4 1000 S x0 (0 : Int32) (0 : Int32)
set_option maxHeartbeats 4000000 in
set_option maxRecDepth 100000 in
theorem w_X6_paidAll_L4 {X : Cx} (C : CxOK X cX6_paidAll RX6 rm_X6_paidAll) (hn : xn X = 3) {S0 : Hp} {o : Int32 × Hp} (hQ : QI X (some .int) S0 0 0 o) : ∀ (fuel : Nat) (S : Hp) (x0 : Nat) (y1 : Int32) (y2 : Int32), f_X6_paidAll_L4 fuel S x0 y1 y2 = some o → GW X 0 0 S 4 [(0, va_rf (some x0)), (1, .int y1), (2, .int y2)] [] := by
  have hn1 : 1 < xn X := by rw [hn]; decide
  have hn2 : 2 < xn X := by rw [hn]; decide
  intro fuel
  induction fuel with
  | zero => intro S x0 y1 y2 h; cases (show none = some o from h)
  | succ fuel ih =>
    intro S x0 y1 y2 h
    have h : f_X6_paidAll_L4_b (f_X6_paidAll_L4 fuel) S x0 y1 y2 = some o := h
    unfold f_X6_paidAll_L4_b at h
    refine g_iload_n C (q := 2) dX6_paidAll_4 rfl rfl ?_
    refine g_aload_n C (q := 0) dX6_paidAll_5 rfl rfl ?_
    refine g_ogetSR C (ci := 6) (slot := 0) rfl (by decide) inlX6 (by decide) rfl q66 dX6_paidAll_6 h (fun h hLa1 hKa1 => ?_)
    refine g_iconst C (v := 3) dX6_paidAll_9 (by decide) ?_
    refine g_iald C dX6_paidAll_10 h (fun a2 i1 h => ?_)
    refine g_icmp_ge C (tgt := 29) dX6_paidAll_11 (by decide) h (fun h => ?_) (fun h => ?_)
    · refine g_iload_n C (q := 1) dX6_paidAll_29 rfl rfl ?_
      exact g_iret C hQ dX6_paidAll_30 h
    · refine g_iload_n C (q := 1) dX6_paidAll_14 rfl rfl ?_
      refine g_aload_n C (q := 0) dX6_paidAll_15 rfl rfl ?_
      refine g_iload_n C (q := 2) dX6_paidAll_16 rfl rfl ?_
      refine g_iconst C (v := 5) dX6_paidAll_17 (by decide) ?_
      refine g_callVI C (ci := 6) (As := [.int y2, .int 5]) (np := 2) (st := [.int y1]) (r := (some x0)) rfl (by decide) (fun b1 q hq => c_X6_of S b1 y2 (5 : Int32) q hq) gv_RX6_X6_of rfl rfl dsX6_of rfl ⟨Nat.le_of_ble_eq_true rfl, Nat.le_of_ble_eq_true rfl⟩ rfl (cat_sum (Nat.le_of_ble_eq_true rfl)) ⟨Nat.zero_le _, Nat.zero_le _⟩ dX6_paidAll_18 h (fun v1 S1 h => ?_)
      refine g_iadd C dX6_paidAll_21 ?_
      refine g_nmI h (fun v2 h => ?_)
      refine g_istore_n C (i := 1) (lv' := [(1, .int v2), (0, va_rf (some x0)), (2, .int y2)]) dX6_paidAll_22 rfl hn1 (by simp [va_rf_cat, catI, catJ, catD]) ?_
      obtain ⟨v3, ev3, h⟩ := bnd_ex h
      refine g_iinc C (i := 2) (lv' := [(2, .int v3), (1, .int v2), (0, va_rf (some x0))]) (q := 2) v3 dX6_paidAll_23 rfl ev3 hn2 rfl ?_
      refine g_goto C (tgt := 4) dX6_paidAll_26 (by decide) ?_
      refine g_sub (lv' := [(0, va_rf (some x0)), (1, .int v2), (2, .int v3)]) [2, 1, 0] rfl ?_
      exact ih S1 x0 v2 v3 h
set_option maxHeartbeats 4000000 in
set_option maxRecDepth 100000 in
theorem c_X6_paidAll (S : Hp) (x0 : Nat) (o : Int32 × Hp) (h : f_X6_paidAll S x0 = some o) : CtI yX6_paidAll cX6_paidAll 3 (some .int) rm_X6_paidAll 0 0 [va_rf (some x0)] S o := by
  refine ct_I (own := RX6) (by decide) rfl (Nat.le_of_ble_eq_true rfl) (fun X C hn hQ => ?_)
  have hn1 : 1 < xn X := by rw [hn]; decide
  have hn2 : 2 < xn X := by rw [hn]; decide
  unfold f_X6_paidAll at h
  show GW X 0 0 S 0 [(0, va_rf (some x0))] []
  refine g_iconst C (v := 0) dX6_paidAll_0 (by decide) ?_
  refine g_istore_n C (i := 1) (lv' := [(1, .int 0), (0, va_rf (some x0))]) dX6_paidAll_1 rfl hn1 (by simp [va_rf_cat, catI, catJ, catD]) ?_
  refine g_iconst C (v := 0) dX6_paidAll_2 (by decide) ?_
  refine g_istore_n C (i := 2) (lv' := [(2, .int 0), (1, .int 0), (0, va_rf (some x0))]) dX6_paidAll_3 rfl hn2 rfl ?_
  refine g_sub (lv' := [(0, va_rf (some x0)), (1, .int 0), (2, .int 0)]) [2, 1, 0] rfl ?_
  exact w_X6_paidAll_L4 C hn hQ 1000 S x0 (0 : Int32) (0 : Int32) h

abbrev rm_X6_goneGuests : Room := { frames := 1, cells := 0, slots := 0, locals := 22 }
theorem dsX6_goneGuests : yX6_goneGuests.cls = RX6 ∧ yX6_goneGuests.cls ≠ "java/lang/invoke/MethodHandle" ∧ yX6_goneGuests.cls ≠ "java/lang/invoke/VarHandle" ∧ (parseMethodDescriptor yX6_goneGuests.desc).map (fun d => d.parameters.length) = some 0 := by decide +kernel
def f_X6_goneGuests_L4_b (rec : Hp → Nat → Int32 → Int32 → Option (Int32 × Hp)) (S : Hp) (x0 : Nat) (y1 : Int32) (y2 : Int32) : Option (Int32 × Hp) :=
 ob S 6 (some x0) fun _ =>
 ar S 9 (zR S x0 0) (3 : Int32) fun a2 i1 =>
 if (zI S a2 i1) ≤ y2 then
 some (y1, S)
 else
 ob S 6 (some x0) fun b1 => cl (f_X6_of S b1 y2 (6 : Int32)) fun v1 S1 =>
 if v1 = 1 then
 ob S1 6 (some x0) fun b2 => cl (f_X6_of S1 b2 y2 (3 : Int32)) fun v2 S2 =>
 bnd ((y1 + v2)) fun v3 =>
 bnd (y2 + 1) fun v4 =>
 rec S2 x0 v3 v4
 else
 bnd ((y1 + 0)) fun v5 =>
 bnd (y2 + 1) fun v6 =>
 rec S1 x0 v5 v6
def f_X6_goneGuests_L4 : Nat → Hp → Nat → Int32 → Int32 → Option (Int32 × Hp)
  | 0 => fun _ _ _ _ => none
  | n + 1 => f_X6_goneGuests_L4_b (f_X6_goneGuests_L4 n)
def f_X6_goneGuests (S : Hp) (x0 : Nat) : Option (Int32 × Hp) :=
 f_X6_goneGuests_L4 1000 S x0 (0 : Int32) (0 : Int32)
set_option maxHeartbeats 4000000 in
set_option maxRecDepth 100000 in
theorem w_X6_goneGuests_L4 {X : Cx} (C : CxOK X cX6_goneGuests RX6 rm_X6_goneGuests) (hn : xn X = 3) {S0 : Hp} {o : Int32 × Hp} (hQ : QI X (some .int) S0 0 0 o) : ∀ (fuel : Nat) (S : Hp) (x0 : Nat) (y1 : Int32) (y2 : Int32), f_X6_goneGuests_L4 fuel S x0 y1 y2 = some o → GW X 0 0 S 4 [(0, va_rf (some x0)), (1, .int y1), (2, .int y2)] [] := by
  have hn1 : 1 < xn X := by rw [hn]; decide
  have hn2 : 2 < xn X := by rw [hn]; decide
  intro fuel
  induction fuel with
  | zero => intro S x0 y1 y2 h; cases (show none = some o from h)
  | succ fuel ih =>
    intro S x0 y1 y2 h
    have h : f_X6_goneGuests_L4_b (f_X6_goneGuests_L4 fuel) S x0 y1 y2 = some o := h
    unfold f_X6_goneGuests_L4_b at h
    refine g_iload_n C (q := 2) dX6_goneGuests_4 rfl rfl ?_
    refine g_aload_n C (q := 0) dX6_goneGuests_5 rfl rfl ?_
    refine g_ogetSR C (ci := 6) (slot := 0) rfl (by decide) inlX6 (by decide) rfl q66 dX6_goneGuests_6 h (fun h hLa1 hKa1 => ?_)
    refine g_iconst C (v := 3) dX6_goneGuests_9 (by decide) ?_
    refine g_iald C dX6_goneGuests_10 h (fun a2 i1 h => ?_)
    refine g_icmp_ge C (tgt := 44) dX6_goneGuests_11 (by decide) h (fun h => ?_) (fun h => ?_)
    · refine g_iload_n C (q := 1) dX6_goneGuests_44 rfl rfl ?_
      exact g_iret C hQ dX6_goneGuests_45 h
    · refine g_iload_n C (q := 1) dX6_goneGuests_14 rfl rfl ?_
      refine g_aload_n C (q := 0) dX6_goneGuests_15 rfl rfl ?_
      refine g_iload_n C (q := 2) dX6_goneGuests_16 rfl rfl ?_
      refine g_bipush C (v := 6) dX6_goneGuests_17 (by decide) ?_
      refine g_callVI C (ci := 6) (As := [.int y2, .int 6]) (np := 2) (st := [.int y1]) (r := (some x0)) rfl (by decide) (fun b1 q hq => c_X6_of S b1 y2 (6 : Int32) q hq) gv_RX6_X6_of rfl rfl dsX6_of rfl ⟨Nat.le_of_ble_eq_true rfl, Nat.le_of_ble_eq_true rfl⟩ rfl (cat_sum (Nat.le_of_ble_eq_true rfl)) ⟨Nat.zero_le _, Nat.zero_le _⟩ dX6_goneGuests_19 h (fun v1 S1 h => ?_)
      refine g_iconst C (v := 1) dX6_goneGuests_22 (by decide) ?_
      refine g_icmp_ne C (tgt := 35) dX6_goneGuests_23 (by decide) h (fun h => ?_) (fun h => ?_)
      · refine g_aload_n C (q := 0) dX6_goneGuests_26 rfl rfl ?_
        refine g_iload_n C (q := 2) dX6_goneGuests_27 rfl rfl ?_
        refine g_iconst C (v := 3) dX6_goneGuests_28 (by decide) ?_
        refine g_callVI C (ci := 6) (As := [.int y2, .int 3]) (np := 2) (st := [.int y1]) (r := (some x0)) rfl (by decide) (fun b2 q hq => c_X6_of S1 b2 y2 (3 : Int32) q hq) gv_RX6_X6_of rfl rfl dsX6_of rfl ⟨Nat.le_of_ble_eq_true rfl, Nat.le_of_ble_eq_true rfl⟩ rfl (cat_sum (Nat.le_of_ble_eq_true rfl)) ⟨Nat.zero_le _, Nat.zero_le _⟩ dX6_goneGuests_29 h (fun v2 S2 h => ?_)
        refine g_goto C (tgt := 36) dX6_goneGuests_32 (by decide) ?_
        refine g_iadd C dX6_goneGuests_36 ?_
        refine g_nmI h (fun v3 h => ?_)
        refine g_istore_n C (i := 1) (lv' := [(1, .int v3), (0, va_rf (some x0)), (2, .int y2)]) dX6_goneGuests_37 rfl hn1 (by simp [va_rf_cat, catI, catJ, catD]) ?_
        obtain ⟨v4, ev4, h⟩ := bnd_ex h
        refine g_iinc C (i := 2) (lv' := [(2, .int v4), (1, .int v3), (0, va_rf (some x0))]) (q := 2) v4 dX6_goneGuests_38 rfl ev4 hn2 rfl ?_
        refine g_goto C (tgt := 4) dX6_goneGuests_41 (by decide) ?_
        refine g_sub (lv' := [(0, va_rf (some x0)), (1, .int v3), (2, .int v4)]) [2, 1, 0] rfl ?_
        exact ih S2 x0 v3 v4 h
      · refine g_iconst C (v := 0) dX6_goneGuests_35 (by decide) ?_
        refine g_iadd C dX6_goneGuests_36 ?_
        refine g_nmI h (fun v5 h => ?_)
        refine g_istore_n C (i := 1) (lv' := [(1, .int v5), (0, va_rf (some x0)), (2, .int y2)]) dX6_goneGuests_37 rfl hn1 (by simp [va_rf_cat, catI, catJ, catD]) ?_
        obtain ⟨v6, ev6, h⟩ := bnd_ex h
        refine g_iinc C (i := 2) (lv' := [(2, .int v6), (1, .int v5), (0, va_rf (some x0))]) (q := 2) v6 dX6_goneGuests_38 rfl ev6 hn2 rfl ?_
        refine g_goto C (tgt := 4) dX6_goneGuests_41 (by decide) ?_
        refine g_sub (lv' := [(0, va_rf (some x0)), (1, .int v5), (2, .int v6)]) [2, 1, 0] rfl ?_
        exact ih S1 x0 v5 v6 h
set_option maxHeartbeats 4000000 in
set_option maxRecDepth 100000 in
theorem c_X6_goneGuests (S : Hp) (x0 : Nat) (o : Int32 × Hp) (h : f_X6_goneGuests S x0 = some o) : CtI yX6_goneGuests cX6_goneGuests 3 (some .int) rm_X6_goneGuests 0 0 [va_rf (some x0)] S o := by
  refine ct_I (own := RX6) (by decide) rfl (Nat.le_of_ble_eq_true rfl) (fun X C hn hQ => ?_)
  have hn1 : 1 < xn X := by rw [hn]; decide
  have hn2 : 2 < xn X := by rw [hn]; decide
  unfold f_X6_goneGuests at h
  show GW X 0 0 S 0 [(0, va_rf (some x0))] []
  refine g_iconst C (v := 0) dX6_goneGuests_0 (by decide) ?_
  refine g_istore_n C (i := 1) (lv' := [(1, .int 0), (0, va_rf (some x0))]) dX6_goneGuests_1 rfl hn1 (by simp [va_rf_cat, catI, catJ, catD]) ?_
  refine g_iconst C (v := 0) dX6_goneGuests_2 (by decide) ?_
  refine g_istore_n C (i := 2) (lv' := [(2, .int 0), (1, .int 0), (0, va_rf (some x0))]) dX6_goneGuests_3 rfl hn2 rfl ?_
  refine g_sub (lv' := [(0, va_rf (some x0)), (1, .int 0), (2, .int 0)]) [2, 1, 0] rfl ?_
  exact w_X6_goneGuests_L4 C hn hQ 1000 S x0 (0 : Int32) (0 : Int32) h

abbrev rm_X6_count : Room := { frames := 2, cells := 0, slots := 0, locals := 45 }
theorem dsX6_count : yX6_count.cls = RX6 ∧ yX6_count.cls ≠ "java/lang/invoke/MethodHandle" ∧ yX6_count.cls ≠ "java/lang/invoke/VarHandle" ∧ (parseMethodDescriptor yX6_count.desc).map (fun d => d.parameters.length) = some 1 := by decide +kernel
theorem gv_RX6_X6_goneGuests : GoodIn wsL_law (wsV RX6 221 RX6 yX6_goneGuests (.code yX6_goneGuests cX6_goneGuests 3 (some .int) :: wsL_law)) := good_V q838 q839 q840 q5 q841
theorem gv_RX6_X6_inState : GoodIn wsL_law (wsV RX6 215 RX6 yX6_inState (.code yX6_inState cX6_inState 4 (some .int) :: wsL_law)) := good_V q830 q831 q832 q5 q833
theorem gv_RX6_X6_paidAll : GoodIn wsL_law (wsV RX6 218 RX6 yX6_paidAll (.code yX6_paidAll cX6_paidAll 3 (some .int) :: wsL_law)) := good_V q834 q835 q836 q5 q837
def f_X6_count (S : Hp) (x0 : Nat) (x1 : Int32) : Option (Int32 × Hp) :=
 if x1 = 0 then
 ob S 6 (some x0) fun _ =>
 ar S 9 (zR S x0 0) x1 fun a2 i1 =>
 some ((zI S a2 i1), S)
 else if x1 = 1 then
 ob S 6 (some x0) fun _ =>
 ar S 9 (zR S x0 0) x1 fun a4 i2 =>
 some ((zI S a4 i2), S)
 else if x1 = 2 then
 ob S 6 (some x0) fun _ =>
 ar S 9 (zR S x0 0) x1 fun a6 i3 =>
 some ((zI S a6 i3), S)
 else if x1 = 3 then
 ob S 6 (some x0) fun _ =>
 ar S 9 (zR S x0 0) x1 fun a8 i4 =>
 some ((zI S a8 i4), S)
 else if x1 = 4 then
 ob S 6 (some x0) fun b1 => cl (f_X6_inState S b1 (x1 - 4)) fun v1 S1 =>
 some (v1, S1)
 else if x1 = 5 then
 ob S 6 (some x0) fun b2 => cl (f_X6_inState S b2 (x1 - 4)) fun v2 S2 =>
 some (v2, S2)
 else if x1 = 6 then
 ob S 6 (some x0) fun b3 => cl (f_X6_inState S b3 (x1 - 4)) fun v3 S3 =>
 some (v3, S3)
 else if x1 = 7 then
 ob S 6 (some x0) fun b4 => cl (f_X6_inState S b4 (x1 - 4)) fun v4 S4 =>
 some (v4, S4)
 else if x1 = 8 then
 ob S 6 (some x0) fun b5 => cl (f_X6_paidAll S b5 ) fun v5 S5 =>
 some (v5, S5)
 else if x1 = 9 then
 ob S 6 (some x0) fun _ =>
 ar S 9 (zR S x0 0) (4 : Int32) fun a10 i5 =>
 some ((zI S a10 i5), S)
 else if x1 = 10 then
 ob S 6 (some x0) fun b6 => cl (f_X6_goneGuests S b6 ) fun v6 S6 =>
 some (v6, S6)
 else if x1 = 11 then
 ob S 6 (some x0) fun _ =>
 some ((zI S x0 6), S)
 else if x1 = 12 then
 ob S 6 (some x0) fun _ =>
 some ((zI S x0 8), S)
 else some ((-2 : Int32), S)
set_option maxHeartbeats 4000000 in
set_option maxRecDepth 100000 in
theorem c_X6_count (S : Hp) (x0 : Nat) (x1 : Int32) (o : Int32 × Hp) (h : f_X6_count S x0 x1 = some o) : CtI yX6_count cX6_count 2 (some .int) rm_X6_count 0 0 [va_rf (some x0), .int x1] S o := by
  refine ct_I (own := RX6) (by decide) rfl (Nat.le_of_ble_eq_true rfl) (fun X C hn hQ => ?_)
  unfold f_X6_count at h
  show GW X 0 0 S 0 [(0, va_rf (some x0)), (1, .int x1)] []
  refine g_iload_n C (q := 1) dX6_count_0 rfl rfl ?_
  by_cases c1 : x1 = 0
  · have h := if_el1 h c1
    refine g_tswIn C (v := 0) (tgt := 68) dX6_count_1 c1 (by decide) (by decide) rfl (by decide) ?_
    refine g_aload_n C (q := 0) dX6_count_68 rfl rfl ?_
    refine g_ogetSR C (ci := 6) (slot := 0) rfl (by decide) inlX6 (by decide) rfl q66 dX6_count_69 h (fun h hLa1 hKa1 => ?_)
    refine g_iload_n C (q := 1) dX6_count_72 rfl rfl ?_
    refine g_iald C dX6_count_73 h (fun a2 i1 h => ?_)
    exact g_iret C hQ dX6_count_74 h
  have h := if_el2 h c1
  by_cases c2 : x1 = 1
  · have h := if_el1 h c2
    refine g_tswIn C (v := 1) (tgt := 68) dX6_count_1 c2 (by decide) (by decide) rfl (by decide) ?_
    refine g_aload_n C (q := 0) dX6_count_68 rfl rfl ?_
    refine g_ogetSR C (ci := 6) (slot := 0) rfl (by decide) inlX6 (by decide) rfl q66 dX6_count_69 h (fun h hLa3 hKa3 => ?_)
    refine g_iload_n C (q := 1) dX6_count_72 rfl rfl ?_
    refine g_iald C dX6_count_73 h (fun a4 i2 h => ?_)
    exact g_iret C hQ dX6_count_74 h
  have h := if_el2 h c2
  by_cases c3 : x1 = 2
  · have h := if_el1 h c3
    refine g_tswIn C (v := 2) (tgt := 68) dX6_count_1 c3 (by decide) (by decide) rfl (by decide) ?_
    refine g_aload_n C (q := 0) dX6_count_68 rfl rfl ?_
    refine g_ogetSR C (ci := 6) (slot := 0) rfl (by decide) inlX6 (by decide) rfl q66 dX6_count_69 h (fun h hLa5 hKa5 => ?_)
    refine g_iload_n C (q := 1) dX6_count_72 rfl rfl ?_
    refine g_iald C dX6_count_73 h (fun a6 i3 h => ?_)
    exact g_iret C hQ dX6_count_74 h
  have h := if_el2 h c3
  by_cases c4 : x1 = 3
  · have h := if_el1 h c4
    refine g_tswIn C (v := 3) (tgt := 68) dX6_count_1 c4 (by decide) (by decide) rfl (by decide) ?_
    refine g_aload_n C (q := 0) dX6_count_68 rfl rfl ?_
    refine g_ogetSR C (ci := 6) (slot := 0) rfl (by decide) inlX6 (by decide) rfl q66 dX6_count_69 h (fun h hLa7 hKa7 => ?_)
    refine g_iload_n C (q := 1) dX6_count_72 rfl rfl ?_
    refine g_iald C dX6_count_73 h (fun a8 i4 h => ?_)
    exact g_iret C hQ dX6_count_74 h
  have h := if_el2 h c4
  by_cases c5 : x1 = 4
  · have h := if_el1 h c5
    refine g_tswIn C (v := 4) (tgt := 75) dX6_count_1 c5 (by decide) (by decide) rfl (by decide) ?_
    refine g_aload_n C (q := 0) dX6_count_75 rfl rfl ?_
    refine g_iload_n C (q := 1) dX6_count_76 rfl rfl ?_
    refine g_iconst C (v := 4) dX6_count_77 (by decide) ?_
    refine g_isub C dX6_count_78 ?_
    refine g_callVI C (ci := 6) (As := [.int (x1 - 4)]) (np := 1) (st := []) (r := (some x0)) rfl (by decide) (fun b1 q hq => c_X6_inState S b1 (x1 - 4) q hq) gv_RX6_X6_inState rfl rfl dsX6_inState rfl ⟨Nat.le_of_ble_eq_true rfl, Nat.le_of_ble_eq_true rfl⟩ rfl (cat_sum (Nat.le_of_ble_eq_true rfl)) ⟨Nat.zero_le _, Nat.zero_le _⟩ dX6_count_79 h (fun v1 S1 h => ?_)
    exact g_iret C hQ dX6_count_82 h
  have h := if_el2 h c5
  by_cases c6 : x1 = 5
  · have h := if_el1 h c6
    refine g_tswIn C (v := 5) (tgt := 75) dX6_count_1 c6 (by decide) (by decide) rfl (by decide) ?_
    refine g_aload_n C (q := 0) dX6_count_75 rfl rfl ?_
    refine g_iload_n C (q := 1) dX6_count_76 rfl rfl ?_
    refine g_iconst C (v := 4) dX6_count_77 (by decide) ?_
    refine g_isub C dX6_count_78 ?_
    refine g_callVI C (ci := 6) (As := [.int (x1 - 4)]) (np := 1) (st := []) (r := (some x0)) rfl (by decide) (fun b2 q hq => c_X6_inState S b2 (x1 - 4) q hq) gv_RX6_X6_inState rfl rfl dsX6_inState rfl ⟨Nat.le_of_ble_eq_true rfl, Nat.le_of_ble_eq_true rfl⟩ rfl (cat_sum (Nat.le_of_ble_eq_true rfl)) ⟨Nat.zero_le _, Nat.zero_le _⟩ dX6_count_79 h (fun v2 S2 h => ?_)
    exact g_iret C hQ dX6_count_82 h
  have h := if_el2 h c6
  by_cases c7 : x1 = 6
  · have h := if_el1 h c7
    refine g_tswIn C (v := 6) (tgt := 75) dX6_count_1 c7 (by decide) (by decide) rfl (by decide) ?_
    refine g_aload_n C (q := 0) dX6_count_75 rfl rfl ?_
    refine g_iload_n C (q := 1) dX6_count_76 rfl rfl ?_
    refine g_iconst C (v := 4) dX6_count_77 (by decide) ?_
    refine g_isub C dX6_count_78 ?_
    refine g_callVI C (ci := 6) (As := [.int (x1 - 4)]) (np := 1) (st := []) (r := (some x0)) rfl (by decide) (fun b3 q hq => c_X6_inState S b3 (x1 - 4) q hq) gv_RX6_X6_inState rfl rfl dsX6_inState rfl ⟨Nat.le_of_ble_eq_true rfl, Nat.le_of_ble_eq_true rfl⟩ rfl (cat_sum (Nat.le_of_ble_eq_true rfl)) ⟨Nat.zero_le _, Nat.zero_le _⟩ dX6_count_79 h (fun v3 S3 h => ?_)
    exact g_iret C hQ dX6_count_82 h
  have h := if_el2 h c7
  by_cases c8 : x1 = 7
  · have h := if_el1 h c8
    refine g_tswIn C (v := 7) (tgt := 75) dX6_count_1 c8 (by decide) (by decide) rfl (by decide) ?_
    refine g_aload_n C (q := 0) dX6_count_75 rfl rfl ?_
    refine g_iload_n C (q := 1) dX6_count_76 rfl rfl ?_
    refine g_iconst C (v := 4) dX6_count_77 (by decide) ?_
    refine g_isub C dX6_count_78 ?_
    refine g_callVI C (ci := 6) (As := [.int (x1 - 4)]) (np := 1) (st := []) (r := (some x0)) rfl (by decide) (fun b4 q hq => c_X6_inState S b4 (x1 - 4) q hq) gv_RX6_X6_inState rfl rfl dsX6_inState rfl ⟨Nat.le_of_ble_eq_true rfl, Nat.le_of_ble_eq_true rfl⟩ rfl (cat_sum (Nat.le_of_ble_eq_true rfl)) ⟨Nat.zero_le _, Nat.zero_le _⟩ dX6_count_79 h (fun v4 S4 h => ?_)
    exact g_iret C hQ dX6_count_82 h
  have h := if_el2 h c8
  by_cases c9 : x1 = 8
  · have h := if_el1 h c9
    refine g_tswIn C (v := 8) (tgt := 83) dX6_count_1 c9 (by decide) (by decide) rfl (by decide) ?_
    refine g_aload_n C (q := 0) dX6_count_83 rfl rfl ?_
    refine g_callVI C (ci := 6) (As := []) (np := 0) (st := []) (r := (some x0)) rfl (by decide) (fun b5 q hq => c_X6_paidAll S b5  q hq) gv_RX6_X6_paidAll rfl rfl dsX6_paidAll rfl ⟨Nat.le_of_ble_eq_true rfl, Nat.le_of_ble_eq_true rfl⟩ rfl (cat_sum (Nat.le_of_ble_eq_true rfl)) ⟨Nat.zero_le _, Nat.zero_le _⟩ dX6_count_84 h (fun v5 S5 h => ?_)
    exact g_iret C hQ dX6_count_87 h
  have h := if_el2 h c9
  by_cases c10 : x1 = 9
  · have h := if_el1 h c10
    refine g_tswIn C (v := 9) (tgt := 88) dX6_count_1 c10 (by decide) (by decide) rfl (by decide) ?_
    refine g_aload_n C (q := 0) dX6_count_88 rfl rfl ?_
    refine g_ogetSR C (ci := 6) (slot := 0) rfl (by decide) inlX6 (by decide) rfl q66 dX6_count_89 h (fun h hLa9 hKa9 => ?_)
    refine g_iconst C (v := 4) dX6_count_92 (by decide) ?_
    refine g_iald C dX6_count_93 h (fun a10 i5 h => ?_)
    exact g_iret C hQ dX6_count_94 h
  have h := if_el2 h c10
  by_cases c11 : x1 = 10
  · have h := if_el1 h c11
    refine g_tswIn C (v := 10) (tgt := 95) dX6_count_1 c11 (by decide) (by decide) rfl (by decide) ?_
    refine g_aload_n C (q := 0) dX6_count_95 rfl rfl ?_
    refine g_callVI C (ci := 6) (As := []) (np := 0) (st := []) (r := (some x0)) rfl (by decide) (fun b6 q hq => c_X6_goneGuests S b6  q hq) gv_RX6_X6_goneGuests rfl rfl dsX6_goneGuests rfl ⟨Nat.le_of_ble_eq_true rfl, Nat.le_of_ble_eq_true rfl⟩ rfl (cat_sum (Nat.le_of_ble_eq_true rfl)) ⟨Nat.zero_le _, Nat.zero_le _⟩ dX6_count_96 h (fun v6 S6 h => ?_)
    exact g_iret C hQ dX6_count_99 h
  have h := if_el2 h c11
  by_cases c12 : x1 = 11
  · have h := if_el1 h c12
    refine g_tswIn C (v := 11) (tgt := 100) dX6_count_1 c12 (by decide) (by decide) rfl (by decide) ?_
    refine g_aload_n C (q := 0) dX6_count_100 rfl rfl ?_
    refine g_ogetSI C (ci := 6) (slot := 6) rfl (by decide) inlX6 (by decide) rfl q151 dX6_count_101 h (fun h hLa11 hKa11 => ?_)
    exact g_iret C hQ dX6_count_104 h
  have h := if_el2 h c12
  by_cases c13 : x1 = 12
  · have h := if_el1 h c13
    refine g_tswIn C (v := 12) (tgt := 105) dX6_count_1 c13 (by decide) (by decide) rfl (by decide) ?_
    refine g_aload_n C (q := 0) dX6_count_105 rfl rfl ?_
    refine g_ogetSI C (ci := 6) (slot := 8) rfl (by decide) inlX6 (by decide) rfl q540 dX6_count_106 h (fun h hLa12 hKa12 => ?_)
    exact g_iret C hQ dX6_count_109 h
  have h := if_el2 h c13
  refine g_tswOut C (tgt := 110) dX6_count_1 (sw_out (x := x1) 0 13 (by decide) (h := (lt_s (lt_s (lt_s (lt_s (lt_s (lt_s (lt_s (lt_s (lt_s (lt_s (lt_s (lt_s (lt_s lt_0 c1) c2) c3) c4) c5) c6) c7) c8) c9) c10) c11) c12) c13))) (by decide) ?_
  refine g_bipush C (v := (-2)) dX6_count_110 (by decide) ?_
  exact g_iret C hQ dX6_count_112 h

abbrev rm_X6_temperature : Room := { frames := 2, cells := 0, slots := 0, locals := 44 }
theorem dsX6_temperature : yX6_temperature.cls = RX6 ∧ yX6_temperature.cls ≠ "java/lang/invoke/MethodHandle" ∧ yX6_temperature.cls ≠ "java/lang/invoke/VarHandle" ∧ (parseMethodDescriptor yX6_temperature.desc).map (fun d => d.parameters.length) = some 0 := by decide +kernel
theorem gs_RX6_Jxe99ae_doubleToLongBits_ccdee : GoodIn wsL_law (va_wsS RX6 224 yJxe99ae_doubleToLongBits_ccdee (.code yJxe99ae_doubleToLongBits_ccdee cJxe99ae_doubleToLongBits_ccdee 2 (some .long) :: wsL_law)) := good_S q850 q851 q852 q853
def f_X6_temperature (S : Hp) (x0 : Nat) : Option (Int64 × Hp) :=
 ob S 6 (some x0) fun _ =>
 ar S 8 (zR S x0 3) (0 : Int32) fun a2 i1 =>
 cl (f_Jxe99ae_doubleToLongBits_ccdee S (zD S a2 i1)) fun j1 S1 =>
 some (j1, S1)
set_option maxHeartbeats 4000000 in
set_option maxRecDepth 100000 in
theorem c_X6_temperature (S : Hp) (x0 : Nat) (o : Int64 × Hp) (h : f_X6_temperature S x0 = some o) : CtJ yX6_temperature cX6_temperature 1 (some .long) rm_X6_temperature 0 0 [va_rf (some x0)] S o := by
  refine ct_J (own := RX6) (by decide) rfl (Nat.le_of_ble_eq_true rfl) (fun X C hn hQ => ?_)
  unfold f_X6_temperature at h
  show GW X 0 0 S 0 [(0, va_rf (some x0))] []
  refine g_aload_n C (q := 0) dX6_temperature_0 rfl rfl ?_
  refine g_ogetSR C (ci := 6) (slot := 3) rfl (by decide) inlX6 (by decide) rfl q69 dX6_temperature_1 h (fun h hLa1 hKa1 => ?_)
  refine g_iconst C (v := 0) dX6_temperature_4 (by decide) ?_
  refine g_dald C dX6_temperature_5 h (fun a2 i1 h => ?_)
  refine g_callSJ C (As := [.double (zD S a2 i1)]) (np := 1) (st := []) (fun q hq => c_Jxe99ae_doubleToLongBits_ccdee S (zD S a2 i1) q hq) gs_RX6_Jxe99ae_doubleToLongBits_ccdee rfl rfl dsJxe99ae_doubleToLongBits_ccdee rfl ⟨Nat.le_of_ble_eq_true rfl, Nat.le_of_ble_eq_true rfl⟩ rfl (cat_sum (Nat.le_of_ble_eq_true rfl)) ⟨Nat.zero_le _, Nat.zero_le _⟩ dX6_temperature_6 h (fun j1 S1 h => ?_)
  exact g_lret C hQ dX6_temperature_9 h
