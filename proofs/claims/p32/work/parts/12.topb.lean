abbrev rm_X5_tour : Room := { frames := 5, cells := 0, slots := 0, locals := 117 }
theorem dsX5_tour : yX5_tour.cls = RX5 ∧ yX5_tour.cls ≠ "java/lang/invoke/MethodHandle" ∧ yX5_tour.cls ≠ "java/lang/invoke/VarHandle" ∧ (parseMethodDescriptor yX5_tour.desc).map (fun d => d.parameters.length) = some 2 := by decide +kernel
theorem gv_RX5_X2_causeAgainst : GoodIn wsL_law (wsV RX5 256 RX2 yX2_causeAgainst (.code yX2_causeAgainst cX2_causeAgainst 2 (some .int) :: wsL_law)) := good_V q407 q408 q409 q11 q410
def f_X5_tour (S : Hp) (x0 : Nat) (x1 : Int32) (x2 : Int32) : Option (Int32 × Hp) :=
 ob S 5 (some x0) fun _ =>
 ob S 2 (zR S x0 0) fun b1 => cl (f_X2_tourAt S b1 x1) fun r1 S1 =>
 if r1 = none then
 some ((-1 : Int32), S1)
 else
 if x2 = 0 then
 ob S1 4 r1 fun a2 =>
 some ((zI S1 a2 1), S1)
 else if x2 = 1 then
 ob S1 4 r1 fun a3 =>
 some ((zI S1 a3 4), S1)
 else if x2 = 2 then
 ob S1 4 r1 fun a4 =>
 some ((zI S1 a4 5), S1)
 else if x2 = 3 then
 ob S1 4 r1 fun a5 =>
 some ((zI S1 a5 6), S1)
 else if x2 = 4 then
 ob S1 4 r1 fun a6 =>
 some ((zI S1 a6 7), S1)
 else if x2 = 5 then
 ob S1 4 r1 fun a7 =>
 some ((zI S1 a7 8), S1)
 else if x2 = 6 then
 ob S1 4 r1 fun a8 =>
 some ((zI S1 a8 9), S1)
 else if x2 = 7 then
 ob S1 4 r1 fun a9 =>
 if (zI S1 a9 9) = 2 then
 some ((zI S1 a9 10), S1)
 else
 some ((-5 : Int32), S1)
 else if x2 = 8 then
 ob S1 5 (some x0) fun _ =>
 ob S1 4 r1 fun a11 =>
 ob S1 2 (zR S1 x0 0) fun b2 => cl (f_X2_leftAfter S1 b2 r1 (zI S1 a11 7)) fun v1 S2 =>
 some (v1, S2)
 else if x2 = 9 then
 ob S1 4 r1 fun a12 =>
 some ((zI S1 a12 3), S1)
 else if x2 = 10 then
 ob S1 4 r1 fun a13 =>
 if (zI S1 a13 9) = 0 then
 ob S1 5 (some x0) fun _ =>
 ob S1 2 (zR S1 x0 0) fun b3 => cl (f_X2_causeAgainst S1 b3 r1) fun v2 S3 =>
 some (v2, S3)
 else
 some ((-5 : Int32), S1)
 else some ((-2 : Int32), S1)
set_option maxHeartbeats 4000000 in
set_option maxRecDepth 100000 in
theorem c_X5_tour (S : Hp) (x0 : Nat) (x1 : Int32) (x2 : Int32) (o : Int32 × Hp) (h : f_X5_tour S x0 x1 x2 = some o) : CtI yX5_tour cX5_tour 4 (some .int) rm_X5_tour 0 0 [va_rf (some x0), .int x1, .int x2] S o := by
  refine ct_I (own := RX5) (by decide) rfl (Nat.le_of_ble_eq_true rfl) (fun X C hn hQ => ?_)
  have hn3 : 3 < xn X := by rw [hn]; decide
  unfold f_X5_tour at h
  show GW X 0 0 S 0 [(0, va_rf (some x0)), (1, .int x1), (2, .int x2)] []
  refine g_aload_n C (q := 0) dX5_tour_0 rfl rfl ?_
  refine g_ogetSR C (ci := 5) (slot := 0) rfl (by decide) inlX5 (by decide) rfl q12 dX5_tour_1 h (fun h hLa1 hKa1 => ?_)
  refine g_iload_n C (q := 1) dX5_tour_4 rfl rfl ?_
  refine g_callVR C (ci := 2) (As := [.int x1]) (np := 1) (st := []) (r := (zR S x0 0)) rfl (by decide) (fun b1 q hq => c_X2_tourAt S b1 x1 q hq) gv_RX5_X2_tourAt rfl rfl dsX2_tourAt rfl ⟨Nat.le_of_ble_eq_true rfl, Nat.le_of_ble_eq_true rfl⟩ rfl (cat_sum (Nat.le_of_ble_eq_true rfl)) ⟨Nat.zero_le _, Nat.zero_le _⟩ dX5_tour_5 h (fun r1 S1 h => ?_)
  refine g_astore_n C (i := 3) (lv' := [(3, va_rf r1), (0, va_rf (some x0)), (1, .int x1), (2, .int x2)]) dX5_tour_8 rfl hn3 rfl ?_
  refine g_aload_n C (q := 0) dX5_tour_9 rfl rfl ?_
  refine g_ifnonnull C (tgt := 15) dX5_tour_10 (by decide) h (fun h => ?_) (fun h => ?_)
  · refine g_iconst C (v := (-1)) dX5_tour_13 (by decide) ?_
    exact g_iret C hQ dX5_tour_14 h
  · refine g_iload_n C (q := 3) dX5_tour_15 rfl rfl ?_
    by_cases c1 : x2 = 0
    · have h := if_el1 h c1
      refine g_tswIn C (v := 0) (tgt := 76) dX5_tour_16 c1 (by decide) (by decide) rfl (by decide) ?_
      refine g_aload_n C (q := 0) dX5_tour_76 rfl rfl ?_
      refine g_ogetI C (ci := 4) (slot := 1) rfl (by decide) inlX4 (by decide) rfl q402 dX5_tour_77 h (fun a2 hra2 h hLa2 hKa2 => ?_)
      exact g_iret C hQ dX5_tour_80 h
    have h := if_el2 h c1
    by_cases c2 : x2 = 1
    · have h := if_el1 h c2
      refine g_tswIn C (v := 1) (tgt := 81) dX5_tour_16 c2 (by decide) (by decide) rfl (by decide) ?_
      refine g_aload_n C (q := 0) dX5_tour_81 rfl rfl ?_
      refine g_ogetI C (ci := 4) (slot := 4) rfl (by decide) inlX4 (by decide) rfl q260 dX5_tour_82 h (fun a3 hra3 h hLa3 hKa3 => ?_)
      exact g_iret C hQ dX5_tour_85 h
    have h := if_el2 h c2
    by_cases c3 : x2 = 2
    · have h := if_el1 h c3
      refine g_tswIn C (v := 2) (tgt := 86) dX5_tour_16 c3 (by decide) (by decide) rfl (by decide) ?_
      refine g_aload_n C (q := 0) dX5_tour_86 rfl rfl ?_
      refine g_ogetI C (ci := 4) (slot := 5) rfl (by decide) inlX4 (by decide) rfl q403 dX5_tour_87 h (fun a4 hra4 h hLa4 hKa4 => ?_)
      exact g_iret C hQ dX5_tour_90 h
    have h := if_el2 h c3
    by_cases c4 : x2 = 3
    · have h := if_el1 h c4
      refine g_tswIn C (v := 3) (tgt := 91) dX5_tour_16 c4 (by decide) (by decide) rfl (by decide) ?_
      refine g_aload_n C (q := 0) dX5_tour_91 rfl rfl ?_
      refine g_ogetI C (ci := 4) (slot := 6) rfl (by decide) inlX4 (by decide) rfl q259 dX5_tour_92 h (fun a5 hra5 h hLa5 hKa5 => ?_)
      exact g_iret C hQ dX5_tour_95 h
    have h := if_el2 h c4
    by_cases c5 : x2 = 4
    · have h := if_el1 h c5
      refine g_tswIn C (v := 4) (tgt := 96) dX5_tour_16 c5 (by decide) (by decide) rfl (by decide) ?_
      refine g_aload_n C (q := 0) dX5_tour_96 rfl rfl ?_
      refine g_ogetI C (ci := 4) (slot := 7) rfl (by decide) inlX4 (by decide) rfl q303 dX5_tour_97 h (fun a6 hra6 h hLa6 hKa6 => ?_)
      exact g_iret C hQ dX5_tour_100 h
    have h := if_el2 h c5
    by_cases c6 : x2 = 5
    · have h := if_el1 h c6
      refine g_tswIn C (v := 5) (tgt := 101) dX5_tour_16 c6 (by decide) (by decide) rfl (by decide) ?_
      refine g_aload_n C (q := 0) dX5_tour_101 rfl rfl ?_
      refine g_ogetI C (ci := 4) (slot := 8) rfl (by decide) inlX4 (by decide) rfl q261 dX5_tour_102 h (fun a7 hra7 h hLa7 hKa7 => ?_)
      exact g_iret C hQ dX5_tour_105 h
    have h := if_el2 h c6
    by_cases c7 : x2 = 6
    · have h := if_el1 h c7
      refine g_tswIn C (v := 6) (tgt := 106) dX5_tour_16 c7 (by decide) (by decide) rfl (by decide) ?_
      refine g_aload_n C (q := 0) dX5_tour_106 rfl rfl ?_
      refine g_ogetI C (ci := 4) (slot := 9) rfl (by decide) inlX4 (by decide) rfl q258 dX5_tour_107 h (fun a8 hra8 h hLa8 hKa8 => ?_)
      exact g_iret C hQ dX5_tour_110 h
    have h := if_el2 h c7
    by_cases c8 : x2 = 7
    · have h := if_el1 h c8
      refine g_tswIn C (v := 7) (tgt := 111) dX5_tour_16 c8 (by decide) (by decide) rfl (by decide) ?_
      refine g_aload_n C (q := 0) dX5_tour_111 rfl rfl ?_
      refine g_ogetI C (ci := 4) (slot := 9) rfl (by decide) inlX4 (by decide) rfl q258 dX5_tour_112 h (fun a9 hra9 h hLa9 hKa9 => ?_)
      refine g_iconst C (v := 2) dX5_tour_115 (by decide) ?_
      refine g_icmp_ne C (tgt := 126) dX5_tour_116 (by decide) h (fun h => ?_) (fun h => ?_)
      · refine g_aload_n C (q := 0) dX5_tour_119 rfl rfl ?_
        refine g_getEI C (ci := 4) (slot := 10) rfl (by decide) inlX4 (by decide) rfl q404 dX5_tour_120 hra9 hLa9 hKa9 ?_
        refine g_goto C (tgt := 128) dX5_tour_123 (by decide) ?_
        exact g_iret C hQ dX5_tour_128 h
      · refine g_bipush C (v := (-5)) dX5_tour_126 (by decide) ?_
        exact g_iret C hQ dX5_tour_128 h
    have h := if_el2 h c8
    by_cases c9 : x2 = 8
    · have h := if_el1 h c9
      refine g_tswIn C (v := 8) (tgt := 129) dX5_tour_16 c9 (by decide) (by decide) rfl (by decide) ?_
      refine g_aload_n C (q := 1) dX5_tour_129 rfl rfl ?_
      refine g_ogetSR C (ci := 5) (slot := 0) rfl (by decide) inlX5 (by decide) rfl q12 dX5_tour_130 h (fun h hLa10 hKa10 => ?_)
      refine g_aload_n C (q := 0) dX5_tour_133 rfl rfl ?_
      refine g_aload_n C (q := 0) dX5_tour_134 rfl rfl ?_
      refine g_ogetI C (ci := 4) (slot := 7) rfl (by decide) inlX4 (by decide) rfl q303 dX5_tour_135 h (fun a11 hra11 h hLa11 hKa11 => ?_)
      refine g_callVI C (ci := 2) (As := [va_rf r1, .int (zI S1 a11 7)]) (np := 2) (st := []) (r := (zR S1 x0 0)) rfl (by decide) (fun b2 q hq => c_X2_leftAfter S1 b2 r1 (zI S1 a11 7) q hq) gv_RX5_X2_leftAfter rfl rfl dsX2_leftAfter rfl ⟨Nat.le_of_ble_eq_true rfl, Nat.le_of_ble_eq_true rfl⟩ rfl (cat_sum (Nat.le_of_ble_eq_true rfl)) ⟨Nat.zero_le _, Nat.zero_le _⟩ dX5_tour_138 h (fun v1 S2 h => ?_)
      exact g_iret C hQ dX5_tour_141 h
    have h := if_el2 h c9
    by_cases c10 : x2 = 9
    · have h := if_el1 h c10
      refine g_tswIn C (v := 9) (tgt := 142) dX5_tour_16 c10 (by decide) (by decide) rfl (by decide) ?_
      refine g_aload_n C (q := 0) dX5_tour_142 rfl rfl ?_
      refine g_ogetI C (ci := 4) (slot := 3) rfl (by decide) inlX4 (by decide) rfl q405 dX5_tour_143 h (fun a12 hra12 h hLa12 hKa12 => ?_)
      exact g_iret C hQ dX5_tour_146 h
    have h := if_el2 h c10
    by_cases c11 : x2 = 10
    · have h := if_el1 h c11
      refine g_tswIn C (v := 10) (tgt := 147) dX5_tour_16 c11 (by decide) (by decide) rfl (by decide) ?_
      refine g_aload_n C (q := 0) dX5_tour_147 rfl rfl ?_
      refine g_ogetI C (ci := 4) (slot := 9) rfl (by decide) inlX4 (by decide) rfl q258 dX5_tour_148 h (fun a13 hra13 h hLa13 hKa13 => ?_)
      refine g_if_ne C (tgt := 165) dX5_tour_151 (by decide) h (fun h => ?_) (fun h => ?_)
      · refine g_aload_n C (q := 1) dX5_tour_154 rfl rfl ?_
        refine g_ogetSR C (ci := 5) (slot := 0) rfl (by decide) inlX5 (by decide) rfl q12 dX5_tour_155 h (fun h hLa14 hKa14 => ?_)
        refine g_aload_n C (q := 0) dX5_tour_158 rfl rfl ?_
        refine g_callVI C (ci := 2) (As := [va_rf r1]) (np := 1) (st := []) (r := (zR S1 x0 0)) rfl (by decide) (fun b3 q hq => c_X2_causeAgainst S1 b3 r1 q hq) gv_RX5_X2_causeAgainst rfl rfl dsX2_causeAgainst rfl ⟨Nat.le_of_ble_eq_true rfl, Nat.le_of_ble_eq_true rfl⟩ rfl (cat_sum (Nat.le_of_ble_eq_true rfl)) ⟨Nat.zero_le _, Nat.zero_le _⟩ dX5_tour_159 h (fun v2 S3 h => ?_)
        refine g_goto C (tgt := 167) dX5_tour_162 (by decide) ?_
        exact g_iret C hQ dX5_tour_167 h
      · refine g_bipush C (v := (-5)) dX5_tour_165 (by decide) ?_
        exact g_iret C hQ dX5_tour_167 h
    have h := if_el2 h c11
    refine g_tswOut C (tgt := 168) dX5_tour_16 (sw_out (x := x2) 0 11 (by decide) (h := (lt_s (lt_s (lt_s (lt_s (lt_s (lt_s (lt_s (lt_s (lt_s (lt_s (lt_s lt_0 c1) c2) c3) c4) c5) c6) c7) c8) c9) c10) c11))) (by decide) ?_
    refine g_bipush C (v := (-2)) dX5_tour_168 (by decide) ?_
    exact g_iret C hQ dX5_tour_170 h

abbrev rm_X5_rope : Room := { frames := 3, cells := 0, slots := 0, locals := 69 }
theorem dsX5_rope : yX5_rope.cls = RX5 ∧ yX5_rope.cls ≠ "java/lang/invoke/MethodHandle" ∧ yX5_rope.cls ≠ "java/lang/invoke/VarHandle" ∧ (parseMethodDescriptor yX5_rope.desc).map (fun d => d.parameters.length) = some 3 := by decide +kernel
theorem gv_RX5_X2_guestsOnRope : GoodIn wsL_law (wsV RX5 264 RX2 yX2_guestsOnRope (.code yX2_guestsOnRope cX2_guestsOnRope 3 (some .int) :: wsL_law)) := good_V q426 q427 q428 q11 q429
def f_X5_rope (S : Hp) (x0 : Nat) (x1 : Int32) (x2 : Int32) (x3 : Int32) : Option (Int32 × Hp) :=
 ob S 5 (some x0) fun _ =>
 ob S 2 (zR S x0 0) fun b1 => cl (f_X2_tourAt S b1 x1) fun r1 S1 =>
 if r1 = none then
 some ((-1 : Int32), S1)
 else
 if x2 < 0 then
 some ((-2 : Int32), S1)
 else
 if x3 < 0 then
 some ((-2 : Int32), S1)
 else
 if x3 ≤ 2 then
 ob S1 4 r1 fun a2 =>
 if x2 < (zI S1 a2 7) then
 if x3 = 0 then
 ar S1 9 (zR S1 a2 0) x2 fun a3 i1 =>
 some ((zI S1 a3 i1), S1)
 else
 if x3 = 1 then
 ob S1 5 (some x0) fun _ =>
 ar S1 9 (zR S1 a2 0) x2 fun a5 i2 =>
 ob S1 2 (zR S1 x0 0) fun b2 => cl (f_X2_ratioOf S1 b2 (zI S1 a5 i2) r1) fun v1 S2 =>
 some (v1, S2)
 else
 ob S1 5 (some x0) fun _ =>
 ob S1 2 (zR S1 x0 0) fun b3 => cl (f_X2_guestsOnRope S1 b3 r1 x2) fun v2 S3 =>
 some (v2, S3)
 else
 some ((-5 : Int32), S1)
 else
 some ((-2 : Int32), S1)
set_option maxHeartbeats 4000000 in
set_option maxRecDepth 100000 in
theorem c_X5_rope (S : Hp) (x0 : Nat) (x1 : Int32) (x2 : Int32) (x3 : Int32) (o : Int32 × Hp) (h : f_X5_rope S x0 x1 x2 x3 = some o) : CtI yX5_rope cX5_rope 5 (some .int) rm_X5_rope 0 0 [va_rf (some x0), .int x1, .int x2, .int x3] S o := by
  refine ct_I (own := RX5) (by decide) rfl (Nat.le_of_ble_eq_true rfl) (fun X C hn hQ => ?_)
  have hn4 : 4 < xn X := by rw [hn]; decide
  unfold f_X5_rope at h
  show GW X 0 0 S 0 [(0, va_rf (some x0)), (1, .int x1), (2, .int x2), (3, .int x3)] []
  refine g_aload_n C (q := 0) dX5_rope_0 rfl rfl ?_
  refine g_ogetSR C (ci := 5) (slot := 0) rfl (by decide) inlX5 (by decide) rfl q12 dX5_rope_1 h (fun h hLa1 hKa1 => ?_)
  refine g_iload_n C (q := 1) dX5_rope_4 rfl rfl ?_
  refine g_callVR C (ci := 2) (As := [.int x1]) (np := 1) (st := []) (r := (zR S x0 0)) rfl (by decide) (fun b1 q hq => c_X2_tourAt S b1 x1 q hq) gv_RX5_X2_tourAt rfl rfl dsX2_tourAt rfl ⟨Nat.le_of_ble_eq_true rfl, Nat.le_of_ble_eq_true rfl⟩ rfl (cat_sum (Nat.le_of_ble_eq_true rfl)) ⟨Nat.zero_le _, Nat.zero_le _⟩ dX5_rope_5 h (fun r1 S1 h => ?_)
  refine g_astore C (i := 4) (lv' := [(4, va_rf r1), (0, va_rf (some x0)), (1, .int x1), (2, .int x2), (3, .int x3)]) dX5_rope_8 hn4 rfl ?_
  refine g_aload C (q := 0) dX5_rope_10 rfl ?_
  refine g_ifnonnull C (tgt := 17) dX5_rope_12 (by decide) h (fun h => ?_) (fun h => ?_)
  · refine g_iconst C (v := (-1)) dX5_rope_15 (by decide) ?_
    exact g_iret C hQ dX5_rope_16 h
  · refine g_iload_n C (q := 3) dX5_rope_17 rfl rfl ?_
    refine g_if_lt C (tgt := 30) dX5_rope_18 (by decide) h (fun h => ?_) (fun h => ?_)
    · refine g_bipush C (v := (-2)) dX5_rope_30 (by decide) ?_
      exact g_iret C hQ dX5_rope_32 h
    · refine g_iload_n C (q := 4) dX5_rope_21 rfl rfl ?_
      refine g_if_lt C (tgt := 30) dX5_rope_22 (by decide) h (fun h => ?_) (fun h => ?_)
      · refine g_bipush C (v := (-2)) dX5_rope_30 (by decide) ?_
        exact g_iret C hQ dX5_rope_32 h
      · refine g_iload_n C (q := 4) dX5_rope_25 rfl rfl ?_
        refine g_iconst C (v := 2) dX5_rope_26 (by decide) ?_
        refine g_icmp_le C (tgt := 33) dX5_rope_27 (by decide) h (fun h => ?_) (fun h => ?_)
        · refine g_iload_n C (q := 3) dX5_rope_33 rfl rfl ?_
          refine g_aload C (q := 0) dX5_rope_34 rfl ?_
          refine g_ogetI C (ci := 4) (slot := 7) rfl (by decide) inlX4 (by decide) rfl q303 dX5_rope_36 h (fun a2 hra2 h hLa2 hKa2 => ?_)
          refine g_icmp_lt C (tgt := 45) dX5_rope_39 (by decide) h (fun h => ?_) (fun h => ?_)
          · refine g_iload_n C (q := 4) dX5_rope_45 rfl rfl ?_
            refine g_if_ne C (tgt := 57) dX5_rope_46 (by decide) h (fun h => ?_) (fun h => ?_)
            · refine g_aload C (q := 0) dX5_rope_49 rfl ?_
              refine g_getER C (ci := 4) (slot := 0) rfl (by decide) inlX4 (by decide) rfl q425 dX5_rope_51 hra2 hLa2 hKa2 ?_
              refine g_iload_n C (q := 3) dX5_rope_54 rfl rfl ?_
              refine g_iald C dX5_rope_55 h (fun a3 i1 h => ?_)
              exact g_iret C hQ dX5_rope_56 h
            · refine g_iload_n C (q := 4) dX5_rope_57 rfl rfl ?_
              refine g_iconst C (v := 1) dX5_rope_58 (by decide) ?_
              refine g_icmp_ne C (tgt := 79) dX5_rope_59 (by decide) h (fun h => ?_) (fun h => ?_)
              · refine g_aload_n C (q := 1) dX5_rope_62 rfl rfl ?_
                refine g_ogetSR C (ci := 5) (slot := 0) rfl (by decide) inlX5 (by decide) rfl q12 dX5_rope_63 h (fun h hLa4 hKa4 => ?_)
                refine g_aload C (q := 0) dX5_rope_66 rfl ?_
                refine g_getER C (ci := 4) (slot := 0) rfl (by decide) inlX4 (by decide) rfl q425 dX5_rope_68 hra2 hLa2 hKa2 ?_
                refine g_iload_n C (q := 3) dX5_rope_71 rfl rfl ?_
                refine g_iald C dX5_rope_72 h (fun a5 i2 h => ?_)
                refine g_aload C (q := 0) dX5_rope_73 rfl ?_
                refine g_callVI C (ci := 2) (As := [.int (zI S1 a5 i2), va_rf r1]) (np := 2) (st := []) (r := (zR S1 x0 0)) rfl (by decide) (fun b2 q hq => c_X2_ratioOf S1 b2 (zI S1 a5 i2) r1 q hq) gv_RX5_X2_ratioOf rfl rfl dsX2_ratioOf rfl ⟨Nat.le_of_ble_eq_true rfl, Nat.le_of_ble_eq_true rfl⟩ rfl (cat_sum (Nat.le_of_ble_eq_true rfl)) ⟨Nat.zero_le _, Nat.zero_le _⟩ dX5_rope_75 h (fun v1 S2 h => ?_)
                exact g_iret C hQ dX5_rope_78 h
              · refine g_aload_n C (q := 1) dX5_rope_79 rfl rfl ?_
                refine g_ogetSR C (ci := 5) (slot := 0) rfl (by decide) inlX5 (by decide) rfl q12 dX5_rope_80 h (fun h hLa6 hKa6 => ?_)
                refine g_aload C (q := 0) dX5_rope_83 rfl ?_
                refine g_iload_n C (q := 3) dX5_rope_85 rfl rfl ?_
                refine g_callVI C (ci := 2) (As := [va_rf r1, .int x2]) (np := 2) (st := []) (r := (zR S1 x0 0)) rfl (by decide) (fun b3 q hq => c_X2_guestsOnRope S1 b3 r1 x2 q hq) gv_RX5_X2_guestsOnRope rfl rfl dsX2_guestsOnRope rfl ⟨Nat.le_of_ble_eq_true rfl, Nat.le_of_ble_eq_true rfl⟩ rfl (cat_sum (Nat.le_of_ble_eq_true rfl)) ⟨Nat.zero_le _, Nat.zero_le _⟩ dX5_rope_86 h (fun v2 S3 h => ?_)
                exact g_iret C hQ dX5_rope_89 h
          · refine g_bipush C (v := (-5)) dX5_rope_42 (by decide) ?_
            exact g_iret C hQ dX5_rope_44 h
        · refine g_bipush C (v := (-2)) dX5_rope_30 (by decide) ?_
          exact g_iret C hQ dX5_rope_32 h

abbrev rm_X5_noNumber : Room := { frames := 0, cells := 0, slots := 0, locals := 0 }
theorem dsX5_noNumber : yX5_noNumber.cls ≠ "java/lang/invoke/MethodHandle" ∧ yX5_noNumber.cls ≠ "java/lang/invoke/VarHandle" ∧ (parseMethodDescriptor yX5_noNumber.desc).map (fun d => d.parameters.length) = some 0 := by decide +kernel
def f_X5_noNumber (S : Hp)  : Option (UInt64 × Hp) :=
 some (9221120237041090560, S)
set_option maxHeartbeats 4000000 in
set_option maxRecDepth 100000 in
theorem c_X5_noNumber (S : Hp)  (o : UInt64 × Hp) (h : f_X5_noNumber S  = some o) : CtD yX5_noNumber cX5_noNumber 0 (some .double) rm_X5_noNumber 0 0 [] S o := by
  refine ct_D (own := RX5) (by decide) rfl (Nat.le_of_ble_eq_true rfl) (fun X C hn hQ => ?_)
  unfold f_X5_noNumber at h
  show GW X 0 0 S 0 [] []
  refine g_ldc2d C q71 dX5_noNumber_0 ?_
  exact g_dret C hQ dX5_noNumber_3 h

abbrev rm_X5_thickness : Room := { frames := 1, cells := 0, slots := 0, locals := 21 }
theorem dsX5_thickness : yX5_thickness.cls = RX5 ∧ yX5_thickness.cls ≠ "java/lang/invoke/MethodHandle" ∧ yX5_thickness.cls ≠ "java/lang/invoke/VarHandle" ∧ (parseMethodDescriptor yX5_thickness.desc).map (fun d => d.parameters.length) = some 1 := by decide +kernel
theorem gv_RX5_X2_hasBridge : GoodIn wsL_law (wsV RX5 267 RX2 yX2_hasBridge (.code yX2_hasBridge cX2_hasBridge 2 (some .boolean) :: wsL_law)) := good_V q63 q64 q65 q11 q66
theorem gs_RX5_X5_noNumber : GoodIn wsL_law (va_wsS RX5 270 yX5_noNumber (.code yX5_noNumber cX5_noNumber 0 (some .double) :: wsL_law)) := good_S q68 q69 q2 q70
def f_X5_thickness (S : Hp) (x0 : Nat) (x1 : Int32) : Option (UInt64 × Hp) :=
 ob S 5 (some x0) fun _ =>
 ob S 2 (zR S x0 0) fun b1 => cl (f_X2_hasBridge S b1 x1) fun v1 S1 =>
 if v1 = 0 then
 cl (f_X5_noNumber S1 ) fun e1 S2 =>
 some (e1, S2)
 else
 ob S1 5 (some x0) fun _ =>
 ob S1 2 (zR S1 x0 0) fun a3 =>
 ar S1 8 (zR S1 a3 1) x1 fun a4 i1 =>
 some ((zD S1 a4 i1), S1)
set_option maxHeartbeats 4000000 in
set_option maxRecDepth 100000 in
theorem c_X5_thickness (S : Hp) (x0 : Nat) (x1 : Int32) (o : UInt64 × Hp) (h : f_X5_thickness S x0 x1 = some o) : CtD yX5_thickness cX5_thickness 2 (some .double) rm_X5_thickness 0 0 [va_rf (some x0), .int x1] S o := by
  refine ct_D (own := RX5) (by decide) rfl (Nat.le_of_ble_eq_true rfl) (fun X C hn hQ => ?_)
  unfold f_X5_thickness at h
  show GW X 0 0 S 0 [(0, va_rf (some x0)), (1, .int x1)] []
  refine g_aload_n C (q := 0) dX5_thickness_0 rfl rfl ?_
  refine g_ogetSR C (ci := 5) (slot := 0) rfl (by decide) inlX5 (by decide) rfl q12 dX5_thickness_1 h (fun h hLa1 hKa1 => ?_)
  refine g_iload_n C (q := 1) dX5_thickness_4 rfl rfl ?_
  refine g_callVI C (ci := 2) (As := [.int x1]) (np := 1) (st := []) (r := (zR S x0 0)) rfl (by decide) (fun b1 q hq => c_X2_hasBridge S b1 x1 q hq) gv_RX5_X2_hasBridge rfl rfl dsX2_hasBridge rfl ⟨Nat.le_of_ble_eq_true rfl, Nat.le_of_ble_eq_true rfl⟩ rfl (cat_sum (Nat.le_of_ble_eq_true rfl)) ⟨Nat.zero_le _, Nat.zero_le _⟩ dX5_thickness_5 h (fun v1 S1 h => ?_)
  refine g_if_eq C (tgt := 23) dX5_thickness_8 (by decide) h (fun h => ?_) (fun h => ?_)
  · refine g_callSD C (As := []) (np := 0) (st := []) (fun q hq => c_X5_noNumber S1  q hq) gs_RX5_X5_noNumber rfl rfl dsX5_noNumber rfl ⟨Nat.le_of_ble_eq_true rfl, Nat.le_of_ble_eq_true rfl⟩ rfl (cat_sum (Nat.le_of_ble_eq_true rfl)) ⟨Nat.zero_le _, Nat.zero_le _⟩ dX5_thickness_23 h (fun e1 S2 h => ?_)
    exact g_dret C hQ dX5_thickness_26 h
  · refine g_aload_n C (q := 0) dX5_thickness_11 rfl rfl ?_
    refine g_ogetSR C (ci := 5) (slot := 0) rfl (by decide) inlX5 (by decide) rfl q12 dX5_thickness_12 h (fun h hLa2 hKa2 => ?_)
    refine g_ogetR C (ci := 2) (slot := 1) rfl (by decide) inlX2 (by decide) rfl q62 dX5_thickness_15 h (fun a3 hra3 h hLa3 hKa3 => ?_)
    refine g_iload_n C (q := 1) dX5_thickness_18 rfl rfl ?_
    refine g_dald C dX5_thickness_19 h (fun a4 i1 h => ?_)
    refine g_goto C (tgt := 26) dX5_thickness_20 (by decide) ?_
    exact g_dret C hQ dX5_thickness_26 h

abbrev rm_X5_foretold : Room := { frames := 1, cells := 0, slots := 0, locals := 24 }
theorem dsX5_foretold : yX5_foretold.cls = RX5 ∧ yX5_foretold.cls ≠ "java/lang/invoke/MethodHandle" ∧ yX5_foretold.cls ≠ "java/lang/invoke/VarHandle" ∧ (parseMethodDescriptor yX5_foretold.desc).map (fun d => d.parameters.length) = some 2 := by decide +kernel
theorem gv_RX5_X2_dayLater : GoodIn wsL_law (wsV RX5 274 RX2 yX2_dayLater (.code yX2_dayLater cX2_dayLater 5 (some .double) :: wsL_law)) := good_V q554 q555 q556 q11 q557
def f_X5_foretold_L38_b (rec : Hp → Nat → Int32 → Int32 → UInt64 → Int32 → Option (UInt64 × Hp)) (S : Hp) (x0 : Nat) (y1 : Int32) (y2 : Int32) (y3 : UInt64) (y5 : Int32) : Option (UInt64 × Hp) :=
 if y2 ≤ y5 then
 some (y3, S)
 else
 ob S 5 (some x0) fun _ =>
 ob S 2 (zR S x0 0) fun b1 => cl (f_X2_dayLater S b1 y3) fun e1 S1 =>
 bnd (y5 + 1) fun v1 =>
 rec S1 x0 y1 y2 e1 v1
def f_X5_foretold_L38 : Nat → Hp → Nat → Int32 → Int32 → UInt64 → Int32 → Option (UInt64 × Hp)
  | 0 => fun _ _ _ _ _ _ => none
  | n + 1 => f_X5_foretold_L38_b (f_X5_foretold_L38 n)
def f_X5_foretold (S : Hp) (x0 : Nat) (x1 : Int32) (x2 : Int32) : Option (UInt64 × Hp) :=
 ob S 5 (some x0) fun _ =>
 ob S 2 (zR S x0 0) fun b1 => cl (f_X2_hasBridge S b1 x1) fun v1 S1 =>
 if v1 = 0 then
 cl (f_X5_noNumber S1 ) fun e1 S2 =>
 some (e1, S2)
 else
 if x2 < 0 then
 cl (f_X5_noNumber S1 ) fun e2 S3 =>
 some (e2, S3)
 else
 if x2 ≤ 30 then
 ob S1 5 (some x0) fun _ =>
 ob S1 2 (zR S1 x0 0) fun a3 =>
 ar S1 8 (zR S1 a3 1) x1 fun a4 i1 =>
 bnd ((zD S1 a4 i1)) fun e3 =>
 f_X5_foretold_L38 1000 S1 x0 x1 x2 e3 (0 : Int32)
 else
 cl (f_X5_noNumber S1 ) fun e4 S4 =>
 some (e4, S4)
set_option maxHeartbeats 4000000 in
set_option maxRecDepth 100000 in
theorem w_X5_foretold_L38 {X : Cx} (C : CxOK X cX5_foretold RX5 rm_X5_foretold) (hn : xn X = 6) {S0 : Hp} {o : UInt64 × Hp} (hQ : QD X (some .double) S0 0 0 o) : ∀ (fuel : Nat) (S : Hp) (x0 : Nat) (y1 : Int32) (y2 : Int32) (y3 : UInt64) (y5 : Int32), f_X5_foretold_L38 fuel S x0 y1 y2 y3 y5 = some o → GW X 0 0 S 38 [(0, va_rf (some x0)), (1, .int y1), (2, .int y2), (3, .double y3), (5, .int y5)] [] := by
  have hn4 : 4 < xn X := by rw [hn]; decide
  have hn5 : 5 < xn X := by rw [hn]; decide
  intro fuel
  induction fuel with
  | zero => intro S x0 y1 y2 y3 y5 h; cases (show none = some o from h)
  | succ fuel ih =>
    intro S x0 y1 y2 y3 y5 h
    have h : f_X5_foretold_L38_b (f_X5_foretold_L38 fuel) S x0 y1 y2 y3 y5 = some o := h
    unfold f_X5_foretold_L38_b at h
    refine g_iload C (q := 4) dX5_foretold_38 rfl ?_
    refine g_iload_n C (q := 2) dX5_foretold_40 rfl rfl ?_
    refine g_icmp_ge C (tgt := 59) dX5_foretold_41 (by decide) h (fun h => ?_) (fun h => ?_)
    · refine g_dload_n C (q := 3) dX5_foretold_59 rfl rfl ?_
      exact g_dret C hQ dX5_foretold_60 h
    · refine g_aload_n C (q := 0) dX5_foretold_44 rfl rfl ?_
      refine g_ogetSR C (ci := 5) (slot := 0) rfl (by decide) inlX5 (by decide) rfl q12 dX5_foretold_45 h (fun h hLa1 hKa1 => ?_)
      refine g_dload_n C (q := 3) dX5_foretold_48 rfl rfl ?_
      refine g_callVD C (ci := 2) (As := [.double y3]) (np := 1) (st := []) (r := (zR S x0 0)) rfl (by decide) (fun b1 q hq => c_X2_dayLater S b1 y3 q hq) gv_RX5_X2_dayLater rfl rfl dsX2_dayLater rfl ⟨Nat.le_of_ble_eq_true rfl, Nat.le_of_ble_eq_true rfl⟩ rfl (cat_sum (Nat.le_of_ble_eq_true rfl)) ⟨Nat.zero_le _, Nat.zero_le _⟩ dX5_foretold_49 h (fun e1 S1 h => ?_)
      refine g_dstore_n C (i := 3) (lv' := [(3, .double e1), (0, va_rf (some x0)), (1, .int y1), (2, .int y2), (5, .int y5)]) dX5_foretold_52 rfl hn4 rfl ?_
      obtain ⟨v1, ev1, h⟩ := bnd_ex h
      refine g_iinc C (i := 5) (lv' := [(5, .int v1), (3, .double e1), (0, va_rf (some x0)), (1, .int y1), (2, .int y2)]) (q := 4) v1 dX5_foretold_53 rfl ev1 hn5 rfl ?_
      refine g_goto C (tgt := 38) dX5_foretold_56 (by decide) ?_
      refine g_sub (lv' := [(0, va_rf (some x0)), (1, .int y1), (2, .int y2), (3, .double e1), (5, .int v1)]) [2, 3, 4, 1, 0] rfl ?_
      exact ih S1 x0 y1 y2 e1 v1 h
set_option maxHeartbeats 4000000 in
set_option maxRecDepth 100000 in
theorem c_X5_foretold (S : Hp) (x0 : Nat) (x1 : Int32) (x2 : Int32) (o : UInt64 × Hp) (h : f_X5_foretold S x0 x1 x2 = some o) : CtD yX5_foretold cX5_foretold 6 (some .double) rm_X5_foretold 0 0 [va_rf (some x0), .int x1, .int x2] S o := by
  refine ct_D (own := RX5) (by decide) rfl (Nat.le_of_ble_eq_true rfl) (fun X C hn hQ => ?_)
  have hn4 : 4 < xn X := by rw [hn]; decide
  have hn5 : 5 < xn X := by rw [hn]; decide
  unfold f_X5_foretold at h
  show GW X 0 0 S 0 [(0, va_rf (some x0)), (1, .int x1), (2, .int x2)] []
  refine g_aload_n C (q := 0) dX5_foretold_0 rfl rfl ?_
  refine g_ogetSR C (ci := 5) (slot := 0) rfl (by decide) inlX5 (by decide) rfl q12 dX5_foretold_1 h (fun h hLa1 hKa1 => ?_)
  refine g_iload_n C (q := 1) dX5_foretold_4 rfl rfl ?_
  refine g_callVI C (ci := 2) (As := [.int x1]) (np := 1) (st := []) (r := (zR S x0 0)) rfl (by decide) (fun b1 q hq => c_X2_hasBridge S b1 x1 q hq) gv_RX5_X2_hasBridge rfl rfl dsX2_hasBridge rfl ⟨Nat.le_of_ble_eq_true rfl, Nat.le_of_ble_eq_true rfl⟩ rfl (cat_sum (Nat.le_of_ble_eq_true rfl)) ⟨Nat.zero_le _, Nat.zero_le _⟩ dX5_foretold_5 h (fun v1 S1 h => ?_)
  refine g_if_eq C (tgt := 21) dX5_foretold_8 (by decide) h (fun h => ?_) (fun h => ?_)
  · refine g_callSD C (As := []) (np := 0) (st := []) (fun q hq => c_X5_noNumber S1  q hq) gs_RX5_X5_noNumber rfl rfl dsX5_noNumber rfl ⟨Nat.le_of_ble_eq_true rfl, Nat.le_of_ble_eq_true rfl⟩ rfl (cat_sum (Nat.le_of_ble_eq_true rfl)) ⟨Nat.zero_le _, Nat.zero_le _⟩ dX5_foretold_21 h (fun e1 S2 h => ?_)
    exact g_dret C hQ dX5_foretold_24 h
  · refine g_iload_n C (q := 2) dX5_foretold_11 rfl rfl ?_
    refine g_if_lt C (tgt := 21) dX5_foretold_12 (by decide) h (fun h => ?_) (fun h => ?_)
    · refine g_callSD C (As := []) (np := 0) (st := []) (fun q hq => c_X5_noNumber S1  q hq) gs_RX5_X5_noNumber rfl rfl dsX5_noNumber rfl ⟨Nat.le_of_ble_eq_true rfl, Nat.le_of_ble_eq_true rfl⟩ rfl (cat_sum (Nat.le_of_ble_eq_true rfl)) ⟨Nat.zero_le _, Nat.zero_le _⟩ dX5_foretold_21 h (fun e2 S3 h => ?_)
      exact g_dret C hQ dX5_foretold_24 h
    · refine g_iload_n C (q := 2) dX5_foretold_15 rfl rfl ?_
      refine g_bipush C (v := 30) dX5_foretold_16 (by decide) ?_
      refine g_icmp_le C (tgt := 25) dX5_foretold_18 (by decide) h (fun h => ?_) (fun h => ?_)
      · refine g_aload_n C (q := 0) dX5_foretold_25 rfl rfl ?_
        refine g_ogetSR C (ci := 5) (slot := 0) rfl (by decide) inlX5 (by decide) rfl q12 dX5_foretold_26 h (fun h hLa2 hKa2 => ?_)
        refine g_ogetR C (ci := 2) (slot := 1) rfl (by decide) inlX2 (by decide) rfl q62 dX5_foretold_29 h (fun a3 hra3 h hLa3 hKa3 => ?_)
        refine g_iload_n C (q := 1) dX5_foretold_32 rfl rfl ?_
        refine g_dald C dX5_foretold_33 h (fun a4 i1 h => ?_)
        refine g_nmD h (fun e3 h => ?_)
        refine g_dstore_n C (i := 3) (lv' := [(3, .double e3), (0, va_rf (some x0)), (1, .int x1), (2, .int x2)]) dX5_foretold_34 rfl hn4 rfl ?_
        refine g_iconst C (v := 0) dX5_foretold_35 (by decide) ?_
        refine g_istore C (i := 5) (lv' := [(5, .int 0), (3, .double e3), (0, va_rf (some x0)), (1, .int x1), (2, .int x2)]) dX5_foretold_36 hn5 rfl ?_
        refine g_sub (lv' := [(0, va_rf (some x0)), (1, .int x1), (2, .int x2), (3, .double e3), (5, .int 0)]) [2, 3, 4, 1, 0] rfl ?_
        exact w_X5_foretold_L38 C hn hQ 1000 S1 x0 x1 x2 e3 (0 : Int32) h
      · refine g_callSD C (As := []) (np := 0) (st := []) (fun q hq => c_X5_noNumber S1  q hq) gs_RX5_X5_noNumber rfl rfl dsX5_noNumber rfl ⟨Nat.le_of_ble_eq_true rfl, Nat.le_of_ble_eq_true rfl⟩ rfl (cat_sum (Nat.le_of_ble_eq_true rfl)) ⟨Nat.zero_le _, Nat.zero_le _⟩ dX5_foretold_21 h (fun e4 S4 h => ?_)
        exact g_dret C hQ dX5_foretold_24 h

abbrev rm_X5_needed : Room := { frames := 3, cells := 0, slots := 0, locals := 72 }
theorem dsX5_needed : yX5_needed.cls = RX5 ∧ yX5_needed.cls ≠ "java/lang/invoke/MethodHandle" ∧ yX5_needed.cls ≠ "java/lang/invoke/VarHandle" ∧ (parseMethodDescriptor yX5_needed.desc).map (fun d => d.parameters.length) = some 1 := by decide +kernel
theorem gv_RX5_X2_neededBy : GoodIn wsL_law (wsV RX5 278 RX2 yX2_neededBy (.code yX2_neededBy cX2_neededBy 6 (some .double) :: wsL_law)) := good_V q81 q82 q83 q11 q84
def f_X5_needed (S : Hp) (x0 : Nat) (x1 : Int32) : Option (UInt64 × Hp) :=
 ob S 5 (some x0) fun _ =>
 ob S 2 (zR S x0 0) fun b1 => cl (f_X2_tourAt S b1 x1) fun r1 S1 =>
 if r1 = none then
 cl (f_X5_noNumber S1 ) fun e1 S2 =>
 some (e1, S2)
 else
 ob S1 5 (some x0) fun _ =>
 ob S1 2 (zR S1 x0 0) fun b2 => cl (f_X2_neededBy S1 b2 r1) fun e2 S3 =>
 some (e2, S3)
set_option maxHeartbeats 4000000 in
set_option maxRecDepth 100000 in
theorem c_X5_needed (S : Hp) (x0 : Nat) (x1 : Int32) (o : UInt64 × Hp) (h : f_X5_needed S x0 x1 = some o) : CtD yX5_needed cX5_needed 3 (some .double) rm_X5_needed 0 0 [va_rf (some x0), .int x1] S o := by
  refine ct_D (own := RX5) (by decide) rfl (Nat.le_of_ble_eq_true rfl) (fun X C hn hQ => ?_)
  have hn2 : 2 < xn X := by rw [hn]; decide
  unfold f_X5_needed at h
  show GW X 0 0 S 0 [(0, va_rf (some x0)), (1, .int x1)] []
  refine g_aload_n C (q := 0) dX5_needed_0 rfl rfl ?_
  refine g_ogetSR C (ci := 5) (slot := 0) rfl (by decide) inlX5 (by decide) rfl q12 dX5_needed_1 h (fun h hLa1 hKa1 => ?_)
  refine g_iload_n C (q := 1) dX5_needed_4 rfl rfl ?_
  refine g_callVR C (ci := 2) (As := [.int x1]) (np := 1) (st := []) (r := (zR S x0 0)) rfl (by decide) (fun b1 q hq => c_X2_tourAt S b1 x1 q hq) gv_RX5_X2_tourAt rfl rfl dsX2_tourAt rfl ⟨Nat.le_of_ble_eq_true rfl, Nat.le_of_ble_eq_true rfl⟩ rfl (cat_sum (Nat.le_of_ble_eq_true rfl)) ⟨Nat.zero_le _, Nat.zero_le _⟩ dX5_needed_5 h (fun r1 S1 h => ?_)
  refine g_astore_n C (i := 2) (lv' := [(2, va_rf r1), (0, va_rf (some x0)), (1, .int x1)]) dX5_needed_8 rfl hn2 rfl ?_
  refine g_aload_n C (q := 0) dX5_needed_9 rfl rfl ?_
  refine g_ifnonnull C (tgt := 19) dX5_needed_10 (by decide) h (fun h => ?_) (fun h => ?_)
  · refine g_callSD C (As := []) (np := 0) (st := []) (fun q hq => c_X5_noNumber S1  q hq) gs_RX5_X5_noNumber rfl rfl dsX5_noNumber rfl ⟨Nat.le_of_ble_eq_true rfl, Nat.le_of_ble_eq_true rfl⟩ rfl (cat_sum (Nat.le_of_ble_eq_true rfl)) ⟨Nat.zero_le _, Nat.zero_le _⟩ dX5_needed_13 h (fun e1 S2 h => ?_)
    refine g_goto C (tgt := 27) dX5_needed_16 (by decide) ?_
    exact g_dret C hQ dX5_needed_27 h
  · refine g_aload_n C (q := 1) dX5_needed_19 rfl rfl ?_
    refine g_ogetSR C (ci := 5) (slot := 0) rfl (by decide) inlX5 (by decide) rfl q12 dX5_needed_20 h (fun h hLa2 hKa2 => ?_)
    refine g_aload_n C (q := 0) dX5_needed_23 rfl rfl ?_
    refine g_callVD C (ci := 2) (As := [va_rf r1]) (np := 1) (st := []) (r := (zR S1 x0 0)) rfl (by decide) (fun b2 q hq => c_X2_neededBy S1 b2 r1 q hq) gv_RX5_X2_neededBy rfl rfl dsX2_neededBy rfl ⟨Nat.le_of_ble_eq_true rfl, Nat.le_of_ble_eq_true rfl⟩ rfl (cat_sum (Nat.le_of_ble_eq_true rfl)) ⟨Nat.zero_le _, Nat.zero_le _⟩ dX5_needed_24 h (fun e2 S3 h => ?_)
    exact g_dret C hQ dX5_needed_27 h

abbrev rm_X5_holds : Room := { frames := 3, cells := 0, slots := 0, locals := 72 }
theorem dsX5_holds : yX5_holds.cls = RX5 ∧ yX5_holds.cls ≠ "java/lang/invoke/MethodHandle" ∧ yX5_holds.cls ≠ "java/lang/invoke/VarHandle" ∧ (parseMethodDescriptor yX5_holds.desc).map (fun d => d.parameters.length) = some 2 := by decide +kernel
def f_X5_holds (S : Hp) (x0 : Nat) (x1 : Int32) (x2 : Int32) : Option (Int32 × Hp) :=
 ob S 5 (some x0) fun _ =>
 ob S 2 (zR S x0 0) fun b1 => cl (f_X2_tourAt S b1 x1) fun r1 S1 =>
 if r1 = none then
 some ((-1 : Int32), S1)
 else
 ob S1 5 (some x0) fun _ =>
 ob S1 2 (zR S1 x0 0) fun b2 => cl (f_X2_hasBridge S1 b2 x2) fun v1 S2 =>
 if v1 = 0 then
 some ((-1 : Int32), S2)
 else
 ob S2 5 (some x0) fun _ =>
 ob S2 2 (zR S2 x0 0) fun a4 =>
 ar S2 8 (zR S2 a4 1) x2 fun a5 i1 =>
 ob S2 2 (zR S2 x0 0) fun b3 => cl (f_X2_neededBy S2 b3 r1) fun e1 S3 =>
 if (Op.cmpValue (FP.dcmp (zD S2 a5 i1) e1) CmpOp.l) < 0 then
 some ((0 : Int32), S3)
 else
 some ((1 : Int32), S3)
set_option maxHeartbeats 4000000 in
set_option maxRecDepth 100000 in
theorem c_X5_holds (S : Hp) (x0 : Nat) (x1 : Int32) (x2 : Int32) (o : Int32 × Hp) (h : f_X5_holds S x0 x1 x2 = some o) : CtI yX5_holds cX5_holds 4 (some .int) rm_X5_holds 0 0 [va_rf (some x0), .int x1, .int x2] S o := by
  refine ct_I (own := RX5) (by decide) rfl (Nat.le_of_ble_eq_true rfl) (fun X C hn hQ => ?_)
  have hn3 : 3 < xn X := by rw [hn]; decide
  unfold f_X5_holds at h
  show GW X 0 0 S 0 [(0, va_rf (some x0)), (1, .int x1), (2, .int x2)] []
  refine g_aload_n C (q := 0) dX5_holds_0 rfl rfl ?_
  refine g_ogetSR C (ci := 5) (slot := 0) rfl (by decide) inlX5 (by decide) rfl q12 dX5_holds_1 h (fun h hLa1 hKa1 => ?_)
  refine g_iload_n C (q := 1) dX5_holds_4 rfl rfl ?_
  refine g_callVR C (ci := 2) (As := [.int x1]) (np := 1) (st := []) (r := (zR S x0 0)) rfl (by decide) (fun b1 q hq => c_X2_tourAt S b1 x1 q hq) gv_RX5_X2_tourAt rfl rfl dsX2_tourAt rfl ⟨Nat.le_of_ble_eq_true rfl, Nat.le_of_ble_eq_true rfl⟩ rfl (cat_sum (Nat.le_of_ble_eq_true rfl)) ⟨Nat.zero_le _, Nat.zero_le _⟩ dX5_holds_5 h (fun r1 S1 h => ?_)
  refine g_astore_n C (i := 3) (lv' := [(3, va_rf r1), (0, va_rf (some x0)), (1, .int x1), (2, .int x2)]) dX5_holds_8 rfl hn3 rfl ?_
  refine g_aload_n C (q := 0) dX5_holds_9 rfl rfl ?_
  refine g_ifnull C (tgt := 24) dX5_holds_10 (by decide) h (fun h => ?_) (fun h => ?_)
  · refine g_iconst C (v := (-1)) dX5_holds_24 (by decide) ?_
    exact g_iret C hQ dX5_holds_25 h
  · refine g_aload_n C (q := 1) dX5_holds_13 rfl rfl ?_
    refine g_ogetSR C (ci := 5) (slot := 0) rfl (by decide) inlX5 (by decide) rfl q12 dX5_holds_14 h (fun h hLa2 hKa2 => ?_)
    refine g_iload_n C (q := 3) dX5_holds_17 rfl rfl ?_
    refine g_callVI C (ci := 2) (As := [.int x2]) (np := 1) (st := []) (r := (zR S1 x0 0)) rfl (by decide) (fun b2 q hq => c_X2_hasBridge S1 b2 x2 q hq) gv_RX5_X2_hasBridge rfl rfl dsX2_hasBridge rfl ⟨Nat.le_of_ble_eq_true rfl, Nat.le_of_ble_eq_true rfl⟩ rfl (cat_sum (Nat.le_of_ble_eq_true rfl)) ⟨Nat.zero_le _, Nat.zero_le _⟩ dX5_holds_18 h (fun v1 S2 h => ?_)
    refine g_if_ne C (tgt := 26) dX5_holds_21 (by decide) h (fun h => ?_) (fun h => ?_)
    · refine g_iconst C (v := (-1)) dX5_holds_24 (by decide) ?_
      exact g_iret C hQ dX5_holds_25 h
    · refine g_aload_n C (q := 1) dX5_holds_26 rfl rfl ?_
      refine g_ogetSR C (ci := 5) (slot := 0) rfl (by decide) inlX5 (by decide) rfl q12 dX5_holds_27 h (fun h hLa3 hKa3 => ?_)
      refine g_ogetR C (ci := 2) (slot := 1) rfl (by decide) inlX2 (by decide) rfl q62 dX5_holds_30 h (fun a4 hra4 h hLa4 hKa4 => ?_)
      refine g_iload_n C (q := 3) dX5_holds_33 rfl rfl ?_
      refine g_dald C dX5_holds_34 h (fun a5 i1 h => ?_)
      refine g_aload_n C (q := 1) dX5_holds_35 rfl rfl ?_
      refine g_getER C (ci := 5) (slot := 0) rfl (by decide) inlX5 (by decide) rfl q12 dX5_holds_36 rfl hLa3 hKa3 ?_
      refine g_aload_n C (q := 0) dX5_holds_39 rfl rfl ?_
      refine g_callVD C (ci := 2) (As := [va_rf r1]) (np := 1) (st := [.double (zD S2 a5 i1)]) (r := (zR S2 x0 0)) rfl (by decide) (fun b3 q hq => c_X2_neededBy S2 b3 r1 q hq) gv_RX5_X2_neededBy rfl rfl dsX2_neededBy rfl ⟨Nat.le_of_ble_eq_true rfl, Nat.le_of_ble_eq_true rfl⟩ rfl (cat_sum (Nat.le_of_ble_eq_true rfl)) ⟨Nat.zero_le _, Nat.zero_le _⟩ dX5_holds_40 h (fun e1 S3 h => ?_)
      refine g_dcmp C dX5_holds_43 ?_
      refine g_if_lt C (tgt := 51) dX5_holds_44 (by decide) h (fun h => ?_) (fun h => ?_)
      · refine g_iconst C (v := 0) dX5_holds_51 (by decide) ?_
        exact g_iret C hQ dX5_holds_52 h
      · refine g_iconst C (v := 1) dX5_holds_47 (by decide) ?_
        refine g_goto C (tgt := 52) dX5_holds_48 (by decide) ?_
        exact g_iret C hQ dX5_holds_52 h

abbrev rm_X5_bestGuide : Room := { frames := 3, cells := 0, slots := 0, locals := 67 }
theorem dsX5_bestGuide : yX5_bestGuide.cls = RX5 ∧ yX5_bestGuide.cls ≠ "java/lang/invoke/MethodHandle" ∧ yX5_bestGuide.cls ≠ "java/lang/invoke/VarHandle" ∧ (parseMethodDescriptor yX5_bestGuide.desc).map (fun d => d.parameters.length) = some 1 := by decide +kernel
def f_X5_bestGuide_L35_b (rec : Hp → Nat → Int32 → Option Nat → Int32 → Int32 → Int32 → Option (Int32 × Hp)) (S : Hp) (x0 : Nat) (y1 : Int32) (y2 : Option Nat) (y3 : Int32) (y4 : Int32) (y5 : Int32) : Option (Int32 × Hp) :=
 ob S 5 (some x0) fun _ =>
 ob S 2 (zR S x0 0) fun a2 =>
 if (zI S a2 3) ≤ y5 then
 some (y3, S)
 else
 ob S 2 (zR S x0 0) fun b1 => cl (f_X2_mayLead S b1 y5 y2) fun v1 S1 =>
 if v1 = 0 then
 bnd (y5 + 1) fun v2 =>
 rec S1 x0 y1 y2 y3 y4 v2
 else
 ob S1 5 (some x0) fun _ =>
 ob S1 2 (zR S1 x0 0) fun b2 => cl (f_X2_ratioOf S1 b2 y5 y2) fun v3 S2 =>
 if v3 ≤ y4 then
 bnd (y5 + 1) fun v4 =>
 rec S2 x0 y1 y2 y3 y4 v4
 else
 ob S2 5 (some x0) fun _ =>
 ob S2 2 (zR S2 x0 0) fun b3 => cl (f_X2_ratioOf S2 b3 y5 y2) fun v5 S3 =>
 bnd (y5 + 1) fun v6 =>
 rec S3 x0 y1 y2 y5 v5 v6
def f_X5_bestGuide_L35 : Nat → Hp → Nat → Int32 → Option Nat → Int32 → Int32 → Int32 → Option (Int32 × Hp)
  | 0 => fun _ _ _ _ _ _ _ => none
  | n + 1 => f_X5_bestGuide_L35_b (f_X5_bestGuide_L35 n)
def f_X5_bestGuide (S : Hp) (x0 : Nat) (x1 : Int32) : Option (Int32 × Hp) :=
 ob S 5 (some x0) fun _ =>
 ob S 2 (zR S x0 0) fun b1 => cl (f_X2_tourAt S b1 x1) fun r1 S1 =>
 if r1 = none then
 some ((-1 : Int32), S1)
 else
 ob S1 4 r1 fun a2 =>
 if (zI S1 a2 7) < 4 then
 f_X5_bestGuide_L35 1000 S1 x0 x1 r1 (-5 : Int32) (0 : Int32) (0 : Int32)
 else
 some ((-5 : Int32), S1)
set_option maxHeartbeats 4000000 in
set_option maxRecDepth 100000 in
theorem w_X5_bestGuide_L35 {X : Cx} (C : CxOK X cX5_bestGuide RX5 rm_X5_bestGuide) (hn : xn X = 6) {S0 : Hp} {o : Int32 × Hp} (hQ : QI X (some .int) S0 0 0 o) : ∀ (fuel : Nat) (S : Hp) (x0 : Nat) (y1 : Int32) (y2 : Option Nat) (y3 : Int32) (y4 : Int32) (y5 : Int32), f_X5_bestGuide_L35 fuel S x0 y1 y2 y3 y4 y5 = some o → GW X 0 0 S 35 [(0, va_rf (some x0)), (1, .int y1), (2, va_rf y2), (3, .int y3), (4, .int y4), (5, .int y5)] [] := by
  have hn3 : 3 < xn X := by rw [hn]; decide
  have hn4 : 4 < xn X := by rw [hn]; decide
  have hn5 : 5 < xn X := by rw [hn]; decide
  intro fuel
  induction fuel with
  | zero => intro S x0 y1 y2 y3 y4 y5 h; cases (show none = some o from h)
  | succ fuel ih =>
    intro S x0 y1 y2 y3 y4 y5 h
    have h : f_X5_bestGuide_L35_b (f_X5_bestGuide_L35 fuel) S x0 y1 y2 y3 y4 y5 = some o := h
    unfold f_X5_bestGuide_L35_b at h
    refine g_iload C (q := 5) dX5_bestGuide_35 rfl ?_
    refine g_aload_n C (q := 0) dX5_bestGuide_37 rfl rfl ?_
    refine g_ogetSR C (ci := 5) (slot := 0) rfl (by decide) inlX5 (by decide) rfl q12 dX5_bestGuide_38 h (fun h hLa1 hKa1 => ?_)
    refine g_ogetI C (ci := 2) (slot := 3) rfl (by decide) inlX2 (by decide) rfl q343 dX5_bestGuide_41 h (fun a2 hra2 h hLa2 hKa2 => ?_)
    refine g_icmp_ge C (tgt := 96) dX5_bestGuide_44 (by decide) h (fun h => ?_) (fun h => ?_)
    · refine g_iload_n C (q := 3) dX5_bestGuide_96 rfl rfl ?_
      exact g_iret C hQ dX5_bestGuide_97 h
    · refine g_aload_n C (q := 0) dX5_bestGuide_47 rfl rfl ?_
      refine g_getER C (ci := 5) (slot := 0) rfl (by decide) inlX5 (by decide) rfl q12 dX5_bestGuide_48 rfl hLa1 hKa1 ?_
      refine g_iload C (q := 5) dX5_bestGuide_51 rfl ?_
      refine g_aload_n C (q := 2) dX5_bestGuide_53 rfl rfl ?_
      refine g_callVI C (ci := 2) (As := [.int y5, va_rf y2]) (np := 2) (st := []) (r := (zR S x0 0)) rfl (by decide) (fun b1 q hq => c_X2_mayLead S b1 y5 y2 q hq) gv_RX5_X2_mayLead rfl rfl dsX2_mayLead rfl ⟨Nat.le_of_ble_eq_true rfl, Nat.le_of_ble_eq_true rfl⟩ rfl (cat_sum (Nat.le_of_ble_eq_true rfl)) ⟨Nat.zero_le _, Nat.zero_le _⟩ dX5_bestGuide_54 h (fun v1 S1 h => ?_)
      refine g_if_eq C (tgt := 90) dX5_bestGuide_57 (by decide) h (fun h => ?_) (fun h => ?_)
      · obtain ⟨v2, ev2, h⟩ := bnd_ex h
        refine g_iinc C (i := 5) (lv' := [(5, .int v2), (0, va_rf (some x0)), (1, .int y1), (2, va_rf y2), (3, .int y3), (4, .int y4)]) (q := 5) v2 dX5_bestGuide_90 rfl ev2 hn5 rfl ?_
        refine g_goto C (tgt := 35) dX5_bestGuide_93 (by decide) ?_
        refine g_sub (lv' := [(0, va_rf (some x0)), (1, .int y1), (2, va_rf y2), (3, .int y3), (4, .int y4), (5, .int v2)]) [1, 2, 3, 4, 5, 0] rfl ?_
        exact ih S1 x0 y1 y2 y3 y4 v2 h
      · refine g_aload_n C (q := 0) dX5_bestGuide_60 rfl rfl ?_
        refine g_ogetSR C (ci := 5) (slot := 0) rfl (by decide) inlX5 (by decide) rfl q12 dX5_bestGuide_61 h (fun h hLa3 hKa3 => ?_)
        refine g_iload C (q := 5) dX5_bestGuide_64 rfl ?_
        refine g_aload_n C (q := 2) dX5_bestGuide_66 rfl rfl ?_
        refine g_callVI C (ci := 2) (As := [.int y5, va_rf y2]) (np := 2) (st := []) (r := (zR S1 x0 0)) rfl (by decide) (fun b2 q hq => c_X2_ratioOf S1 b2 y5 y2 q hq) gv_RX5_X2_ratioOf rfl rfl dsX2_ratioOf rfl ⟨Nat.le_of_ble_eq_true rfl, Nat.le_of_ble_eq_true rfl⟩ rfl (cat_sum (Nat.le_of_ble_eq_true rfl)) ⟨Nat.zero_le _, Nat.zero_le _⟩ dX5_bestGuide_67 h (fun v3 S2 h => ?_)
        refine g_iload C (q := 4) dX5_bestGuide_70 rfl ?_
        refine g_icmp_le C (tgt := 90) dX5_bestGuide_72 (by decide) h (fun h => ?_) (fun h => ?_)
        · obtain ⟨v4, ev4, h⟩ := bnd_ex h
          refine g_iinc C (i := 5) (lv' := [(5, .int v4), (0, va_rf (some x0)), (1, .int y1), (2, va_rf y2), (3, .int y3), (4, .int y4)]) (q := 5) v4 dX5_bestGuide_90 rfl ev4 hn5 rfl ?_
          refine g_goto C (tgt := 35) dX5_bestGuide_93 (by decide) ?_
          refine g_sub (lv' := [(0, va_rf (some x0)), (1, .int y1), (2, va_rf y2), (3, .int y3), (4, .int y4), (5, .int v4)]) [1, 2, 3, 4, 5, 0] rfl ?_
          exact ih S2 x0 y1 y2 y3 y4 v4 h
        · refine g_iload C (q := 5) dX5_bestGuide_75 rfl ?_
          refine g_istore_n C (i := 3) (lv' := [(3, .int y5), (0, va_rf (some x0)), (1, .int y1), (2, va_rf y2), (4, .int y4), (5, .int y5)]) dX5_bestGuide_77 rfl hn3 (by simp [va_rf_cat, catI, catJ, catD]) ?_
          refine g_aload_n C (q := 1) dX5_bestGuide_78 rfl rfl ?_
          refine g_ogetSR C (ci := 5) (slot := 0) rfl (by decide) inlX5 (by decide) rfl q12 dX5_bestGuide_79 h (fun h hLa4 hKa4 => ?_)
          refine g_iload C (q := 5) dX5_bestGuide_82 rfl ?_
          refine g_aload_n C (q := 3) dX5_bestGuide_84 rfl rfl ?_
          refine g_callVI C (ci := 2) (As := [.int y5, va_rf y2]) (np := 2) (st := []) (r := (zR S2 x0 0)) rfl (by decide) (fun b3 q hq => c_X2_ratioOf S2 b3 y5 y2 q hq) gv_RX5_X2_ratioOf rfl rfl dsX2_ratioOf rfl ⟨Nat.le_of_ble_eq_true rfl, Nat.le_of_ble_eq_true rfl⟩ rfl (cat_sum (Nat.le_of_ble_eq_true rfl)) ⟨Nat.zero_le _, Nat.zero_le _⟩ dX5_bestGuide_85 h (fun v5 S3 h => ?_)
          refine g_istore C (i := 4) (lv' := [(4, .int v5), (3, .int y5), (0, va_rf (some x0)), (1, .int y1), (2, va_rf y2), (5, .int y5)]) dX5_bestGuide_88 hn4 rfl ?_
          obtain ⟨v6, ev6, h⟩ := bnd_ex h
          refine g_iinc C (i := 5) (lv' := [(5, .int v6), (4, .int v5), (3, .int y5), (0, va_rf (some x0)), (1, .int y1), (2, va_rf y2)]) (q := 5) v6 dX5_bestGuide_90 rfl ev6 hn5 rfl ?_
          refine g_goto C (tgt := 35) dX5_bestGuide_93 (by decide) ?_
          refine g_sub (lv' := [(0, va_rf (some x0)), (1, .int y1), (2, va_rf y2), (3, .int y5), (4, .int v5), (5, .int v6)]) [3, 4, 5, 2, 1, 0] rfl ?_
          exact ih S3 x0 y1 y2 y5 v5 v6 h
set_option maxHeartbeats 4000000 in
set_option maxRecDepth 100000 in
theorem c_X5_bestGuide (S : Hp) (x0 : Nat) (x1 : Int32) (o : Int32 × Hp) (h : f_X5_bestGuide S x0 x1 = some o) : CtI yX5_bestGuide cX5_bestGuide 6 (some .int) rm_X5_bestGuide 0 0 [va_rf (some x0), .int x1] S o := by
  refine ct_I (own := RX5) (by decide) rfl (Nat.le_of_ble_eq_true rfl) (fun X C hn hQ => ?_)
  have hn2 : 2 < xn X := by rw [hn]; decide
  have hn3 : 3 < xn X := by rw [hn]; decide
  have hn4 : 4 < xn X := by rw [hn]; decide
  have hn5 : 5 < xn X := by rw [hn]; decide
  unfold f_X5_bestGuide at h
  show GW X 0 0 S 0 [(0, va_rf (some x0)), (1, .int x1)] []
  refine g_aload_n C (q := 0) dX5_bestGuide_0 rfl rfl ?_
  refine g_ogetSR C (ci := 5) (slot := 0) rfl (by decide) inlX5 (by decide) rfl q12 dX5_bestGuide_1 h (fun h hLa1 hKa1 => ?_)
  refine g_iload_n C (q := 1) dX5_bestGuide_4 rfl rfl ?_
  refine g_callVR C (ci := 2) (As := [.int x1]) (np := 1) (st := []) (r := (zR S x0 0)) rfl (by decide) (fun b1 q hq => c_X2_tourAt S b1 x1 q hq) gv_RX5_X2_tourAt rfl rfl dsX2_tourAt rfl ⟨Nat.le_of_ble_eq_true rfl, Nat.le_of_ble_eq_true rfl⟩ rfl (cat_sum (Nat.le_of_ble_eq_true rfl)) ⟨Nat.zero_le _, Nat.zero_le _⟩ dX5_bestGuide_5 h (fun r1 S1 h => ?_)
  refine g_astore_n C (i := 2) (lv' := [(2, va_rf r1), (0, va_rf (some x0)), (1, .int x1)]) dX5_bestGuide_8 rfl hn2 rfl ?_
  refine g_aload_n C (q := 0) dX5_bestGuide_9 rfl rfl ?_
  refine g_ifnonnull C (tgt := 15) dX5_bestGuide_10 (by decide) h (fun h => ?_) (fun h => ?_)
  · refine g_iconst C (v := (-1)) dX5_bestGuide_13 (by decide) ?_
    exact g_iret C hQ dX5_bestGuide_14 h
  · refine g_aload_n C (q := 0) dX5_bestGuide_15 rfl rfl ?_
    refine g_ogetI C (ci := 4) (slot := 7) rfl (by decide) inlX4 (by decide) rfl q303 dX5_bestGuide_16 h (fun a2 hra2 h hLa2 hKa2 => ?_)
    refine g_iconst C (v := 4) dX5_bestGuide_19 (by decide) ?_
    refine g_icmp_lt C (tgt := 26) dX5_bestGuide_20 (by decide) h (fun h => ?_) (fun h => ?_)
    · refine g_bipush C (v := (-5)) dX5_bestGuide_26 (by decide) ?_
      refine g_istore_n C (i := 3) (lv' := [(3, .int (-5)), (2, va_rf r1), (0, va_rf (some x0)), (1, .int x1)]) dX5_bestGuide_28 rfl hn3 (by simp [va_rf_cat, catI, catJ, catD]) ?_
      refine g_iconst C (v := 0) dX5_bestGuide_29 (by decide) ?_
      refine g_istore C (i := 4) (lv' := [(4, .int 0), (3, .int (-5)), (2, va_rf r1), (0, va_rf (some x0)), (1, .int x1)]) dX5_bestGuide_30 hn4 rfl ?_
      refine g_iconst C (v := 0) dX5_bestGuide_32 (by decide) ?_
      refine g_istore C (i := 5) (lv' := [(5, .int 0), (4, .int 0), (3, .int (-5)), (2, va_rf r1), (0, va_rf (some x0)), (1, .int x1)]) dX5_bestGuide_33 hn5 rfl ?_
      refine g_sub (lv' := [(0, va_rf (some x0)), (1, .int x1), (2, va_rf r1), (3, .int (-5)), (4, .int 0), (5, .int 0)]) [4, 5, 3, 2, 1, 0] rfl ?_
      exact w_X5_bestGuide_L35 C hn hQ 1000 S1 x0 x1 r1 (-5 : Int32) (0 : Int32) (0 : Int32) h
    · refine g_bipush C (v := (-5)) dX5_bestGuide_23 (by decide) ?_
      exact g_iret C hQ dX5_bestGuide_25 h

abbrev rm_X5_takes : Room := { frames := 1, cells := 0, slots := 0, locals := 21 }
theorem dsX5_takes : yX5_takes.cls = RX5 ∧ yX5_takes.cls ≠ "java/lang/invoke/MethodHandle" ∧ yX5_takes.cls ≠ "java/lang/invoke/VarHandle" ∧ (parseMethodDescriptor yX5_takes.desc).map (fun d => d.parameters.length) = some 2 := by decide +kernel
def f_X5_takes (S : Hp) (x0 : Nat) (x1 : Int32) (x2 : Int32) : Option (Int32 × Hp) :=
 ob S 5 (some x0) fun _ =>
 ob S 2 (zR S x0 0) fun b1 => cl (f_X2_guideAt S b1 x2) fun r1 S1 =>
 if r1 = none then
 some ((-1 : Int32), S1)
 else
 cl (f_X5_isClass S1 x1) fun v1 S2 =>
 if v1 = 0 then
 some ((-2 : Int32), S2)
 else
 ob S2 0 r1 fun a2 =>
 if (zI S2 a2 0) = x1 then
 some ((1 : Int32), S2)
 else
 some ((0 : Int32), S2)
set_option maxHeartbeats 4000000 in
set_option maxRecDepth 100000 in
theorem c_X5_takes (S : Hp) (x0 : Nat) (x1 : Int32) (x2 : Int32) (o : Int32 × Hp) (h : f_X5_takes S x0 x1 x2 = some o) : CtI yX5_takes cX5_takes 4 (some .int) rm_X5_takes 0 0 [va_rf (some x0), .int x1, .int x2] S o := by
  refine ct_I (own := RX5) (by decide) rfl (Nat.le_of_ble_eq_true rfl) (fun X C hn hQ => ?_)
  have hn3 : 3 < xn X := by rw [hn]; decide
  unfold f_X5_takes at h
  show GW X 0 0 S 0 [(0, va_rf (some x0)), (1, .int x1), (2, .int x2)] []
  refine g_aload_n C (q := 0) dX5_takes_0 rfl rfl ?_
  refine g_ogetSR C (ci := 5) (slot := 0) rfl (by decide) inlX5 (by decide) rfl q12 dX5_takes_1 h (fun h hLa1 hKa1 => ?_)
  refine g_iload_n C (q := 2) dX5_takes_4 rfl rfl ?_
  refine g_callVR C (ci := 2) (As := [.int x2]) (np := 1) (st := []) (r := (zR S x0 0)) rfl (by decide) (fun b1 q hq => c_X2_guideAt S b1 x2 q hq) gv_RX5_X2_guideAt rfl rfl dsX2_guideAt rfl ⟨Nat.le_of_ble_eq_true rfl, Nat.le_of_ble_eq_true rfl⟩ rfl (cat_sum (Nat.le_of_ble_eq_true rfl)) ⟨Nat.zero_le _, Nat.zero_le _⟩ dX5_takes_5 h (fun r1 S1 h => ?_)
  refine g_astore_n C (i := 3) (lv' := [(3, va_rf r1), (0, va_rf (some x0)), (1, .int x1), (2, .int x2)]) dX5_takes_8 rfl hn3 rfl ?_
  refine g_aload_n C (q := 0) dX5_takes_9 rfl rfl ?_
  refine g_ifnonnull C (tgt := 15) dX5_takes_10 (by decide) h (fun h => ?_) (fun h => ?_)
  · refine g_iconst C (v := (-1)) dX5_takes_13 (by decide) ?_
    exact g_iret C hQ dX5_takes_14 h
  · refine g_iload_n C (q := 2) dX5_takes_15 rfl rfl ?_
    refine g_callSI C (As := [.int x1]) (np := 1) (st := []) (fun q hq => c_X5_isClass S1 x1 q hq) gs_RX5_X5_isClass rfl rfl dsX5_isClass rfl ⟨Nat.le_of_ble_eq_true rfl, Nat.le_of_ble_eq_true rfl⟩ rfl (cat_sum (Nat.le_of_ble_eq_true rfl)) ⟨Nat.zero_le _, Nat.zero_le _⟩ dX5_takes_16 h (fun v1 S2 h => ?_)
    refine g_if_ne C (tgt := 25) dX5_takes_19 (by decide) h (fun h => ?_) (fun h => ?_)
    · refine g_bipush C (v := (-2)) dX5_takes_22 (by decide) ?_
      exact g_iret C hQ dX5_takes_24 h
    · refine g_aload_n C (q := 0) dX5_takes_25 rfl rfl ?_
      refine g_ogetI C (ci := 0) (slot := 0) rfl (by decide) inlX0 (by decide) rfl q389 dX5_takes_26 h (fun a2 hra2 h hLa2 hKa2 => ?_)
      refine g_iload_n C (q := 2) dX5_takes_29 rfl rfl ?_
      refine g_icmp_ne C (tgt := 37) dX5_takes_30 (by decide) h (fun h => ?_) (fun h => ?_)
      · refine g_iconst C (v := 1) dX5_takes_33 (by decide) ?_
        refine g_goto C (tgt := 38) dX5_takes_34 (by decide) ?_
        exact g_iret C hQ dX5_takes_38 h
      · refine g_iconst C (v := 0) dX5_takes_37 (by decide) ?_
        exact g_iret C hQ dX5_takes_38 h

abbrev rm_X5_count : Room := { frames := 1, cells := 0, slots := 0, locals := 23 }
theorem dsX5_count : yX5_count.cls = RX5 ∧ yX5_count.cls ≠ "java/lang/invoke/MethodHandle" ∧ yX5_count.cls ≠ "java/lang/invoke/VarHandle" ∧ (parseMethodDescriptor yX5_count.desc).map (fun d => d.parameters.length) = some 1 := by decide +kernel
theorem gv_RX5_X2_allPaid : GoodIn wsL_law (wsV RX5 285 RX2 yX2_allPaid (.code yX2_allPaid cX2_allPaid 3 (some .int) :: wsL_law)) := good_V q370 q371 q372 q11 q373
theorem gv_RX5_X2_guestsGone : GoodIn wsL_law (wsV RX5 291 RX2 yX2_guestsGone (.code yX2_guestsGone cX2_guestsGone 3 (some .int) :: wsL_law)) := good_V q374 q375 q376 q11 q377
theorem gv_RX5_X2_toursThatAre : GoodIn wsL_law (wsV RX5 282 RX2 yX2_toursThatAre (.code yX2_toursThatAre cX2_toursThatAre 4 (some .int) :: wsL_law)) := good_V q366 q367 q368 q11 q369
def f_X5_count (S : Hp) (x0 : Nat) (x1 : Int32) : Option (Int32 × Hp) :=
 if x1 = 0 then
 ob S 5 (some x0) fun _ =>
 ob S 2 (zR S x0 0) fun a2 =>
 some ((zI S a2 6), S)
 else if x1 = 1 then
 ob S 5 (some x0) fun _ =>
 ob S 2 (zR S x0 0) fun a4 =>
 some ((zI S a4 3), S)
 else if x1 = 2 then
 ob S 5 (some x0) fun _ =>
 ob S 2 (zR S x0 0) fun a6 =>
 some ((zI S a6 4), S)
 else if x1 = 3 then
 ob S 5 (some x0) fun _ =>
 ob S 2 (zR S x0 0) fun a8 =>
 some ((zI S a8 5), S)
 else if x1 = 4 then
 ob S 5 (some x0) fun _ =>
 ob S 2 (zR S x0 0) fun b1 => cl (f_X2_toursThatAre S b1 (0 : Int32)) fun v1 S1 =>
 some (v1, S1)
 else if x1 = 5 then
 ob S 5 (some x0) fun _ =>
 ob S 2 (zR S x0 0) fun b2 => cl (f_X2_toursThatAre S b2 (1 : Int32)) fun v2 S2 =>
 some (v2, S2)
 else if x1 = 6 then
 ob S 5 (some x0) fun _ =>
 ob S 2 (zR S x0 0) fun b3 => cl (f_X2_toursThatAre S b3 (2 : Int32)) fun v3 S3 =>
 some (v3, S3)
 else if x1 = 7 then
 ob S 5 (some x0) fun _ =>
 ob S 2 (zR S x0 0) fun b4 => cl (f_X2_toursThatAre S b4 (3 : Int32)) fun v4 S4 =>
 some (v4, S4)
 else if x1 = 8 then
 ob S 5 (some x0) fun _ =>
 ob S 2 (zR S x0 0) fun b5 => cl (f_X2_allPaid S b5 ) fun v5 S5 =>
 some (v5, S5)
 else if x1 = 9 then
 ob S 5 (some x0) fun _ =>
 ob S 2 (zR S x0 0) fun a15 =>
 some ((zI S a15 9), S)
 else if x1 = 10 then
 ob S 5 (some x0) fun _ =>
 ob S 2 (zR S x0 0) fun b6 => cl (f_X2_guestsGone S b6 ) fun v6 S6 =>
 some (v6, S6)
 else if x1 = 11 then
 ob S 5 (some x0) fun _ =>
 ob S 1 (zR S x0 2) fun a18 =>
 some ((zI S a18 2), S)
 else if x1 = 12 then
 ob S 5 (some x0) fun _ =>
 ob S 3 (zR S x0 3) fun a20 =>
 some ((zI S a20 1), S)
 else some ((-2 : Int32), S)
set_option maxHeartbeats 4000000 in
set_option maxRecDepth 100000 in
theorem c_X5_count (S : Hp) (x0 : Nat) (x1 : Int32) (o : Int32 × Hp) (h : f_X5_count S x0 x1 = some o) : CtI yX5_count cX5_count 2 (some .int) rm_X5_count 0 0 [va_rf (some x0), .int x1] S o := by
  refine ct_I (own := RX5) (by decide) rfl (Nat.le_of_ble_eq_true rfl) (fun X C hn hQ => ?_)
  unfold f_X5_count at h
  show GW X 0 0 S 0 [(0, va_rf (some x0)), (1, .int x1)] []
  refine g_iload_n C (q := 1) dX5_count_0 rfl rfl ?_
  by_cases c1 : x1 = 0
  · have h := if_el1 h c1
    refine g_tswIn C (v := 0) (tgt := 68) dX5_count_1 c1 (by decide) (by decide) rfl (by decide) ?_
    refine g_aload_n C (q := 0) dX5_count_68 rfl rfl ?_
    refine g_ogetSR C (ci := 5) (slot := 0) rfl (by decide) inlX5 (by decide) rfl q12 dX5_count_69 h (fun h hLa1 hKa1 => ?_)
    refine g_ogetI C (ci := 2) (slot := 6) rfl (by decide) inlX2 (by decide) rfl q156 dX5_count_72 h (fun a2 hra2 h hLa2 hKa2 => ?_)
    exact g_iret C hQ dX5_count_75 h
  have h := if_el2 h c1
  by_cases c2 : x1 = 1
  · have h := if_el1 h c2
    refine g_tswIn C (v := 1) (tgt := 76) dX5_count_1 c2 (by decide) (by decide) rfl (by decide) ?_
    refine g_aload_n C (q := 0) dX5_count_76 rfl rfl ?_
    refine g_ogetSR C (ci := 5) (slot := 0) rfl (by decide) inlX5 (by decide) rfl q12 dX5_count_77 h (fun h hLa3 hKa3 => ?_)
    refine g_ogetI C (ci := 2) (slot := 3) rfl (by decide) inlX2 (by decide) rfl q343 dX5_count_80 h (fun a4 hra4 h hLa4 hKa4 => ?_)
    exact g_iret C hQ dX5_count_83 h
  have h := if_el2 h c2
  by_cases c3 : x1 = 2
  · have h := if_el1 h c3
    refine g_tswIn C (v := 2) (tgt := 84) dX5_count_1 c3 (by decide) (by decide) rfl (by decide) ?_
    refine g_aload_n C (q := 0) dX5_count_84 rfl rfl ?_
    refine g_ogetSR C (ci := 5) (slot := 0) rfl (by decide) inlX5 (by decide) rfl q12 dX5_count_85 h (fun h hLa5 hKa5 => ?_)
    refine g_ogetI C (ci := 2) (slot := 4) rfl (by decide) inlX2 (by decide) rfl q362 dX5_count_88 h (fun a6 hra6 h hLa6 hKa6 => ?_)
    exact g_iret C hQ dX5_count_91 h
  have h := if_el2 h c3
  by_cases c4 : x1 = 3
  · have h := if_el1 h c4
    refine g_tswIn C (v := 3) (tgt := 92) dX5_count_1 c4 (by decide) (by decide) rfl (by decide) ?_
    refine g_aload_n C (q := 0) dX5_count_92 rfl rfl ?_
    refine g_ogetSR C (ci := 5) (slot := 0) rfl (by decide) inlX5 (by decide) rfl q12 dX5_count_93 h (fun h hLa7 hKa7 => ?_)
    refine g_ogetI C (ci := 2) (slot := 5) rfl (by decide) inlX2 (by decide) rfl q363 dX5_count_96 h (fun a8 hra8 h hLa8 hKa8 => ?_)
    exact g_iret C hQ dX5_count_99 h
  have h := if_el2 h c4
  by_cases c5 : x1 = 4
  · have h := if_el1 h c5
    refine g_tswIn C (v := 4) (tgt := 100) dX5_count_1 c5 (by decide) (by decide) rfl (by decide) ?_
    refine g_aload_n C (q := 0) dX5_count_100 rfl rfl ?_
    refine g_ogetSR C (ci := 5) (slot := 0) rfl (by decide) inlX5 (by decide) rfl q12 dX5_count_101 h (fun h hLa9 hKa9 => ?_)
    refine g_iconst C (v := 0) dX5_count_104 (by decide) ?_
    refine g_callVI C (ci := 2) (As := [.int 0]) (np := 1) (st := []) (r := (zR S x0 0)) rfl (by decide) (fun b1 q hq => c_X2_toursThatAre S b1 (0 : Int32) q hq) gv_RX5_X2_toursThatAre rfl rfl dsX2_toursThatAre rfl ⟨Nat.le_of_ble_eq_true rfl, Nat.le_of_ble_eq_true rfl⟩ rfl (cat_sum (Nat.le_of_ble_eq_true rfl)) ⟨Nat.zero_le _, Nat.zero_le _⟩ dX5_count_105 h (fun v1 S1 h => ?_)
    exact g_iret C hQ dX5_count_108 h
  have h := if_el2 h c5
  by_cases c6 : x1 = 5
  · have h := if_el1 h c6
    refine g_tswIn C (v := 5) (tgt := 109) dX5_count_1 c6 (by decide) (by decide) rfl (by decide) ?_
    refine g_aload_n C (q := 0) dX5_count_109 rfl rfl ?_
    refine g_ogetSR C (ci := 5) (slot := 0) rfl (by decide) inlX5 (by decide) rfl q12 dX5_count_110 h (fun h hLa10 hKa10 => ?_)
    refine g_iconst C (v := 1) dX5_count_113 (by decide) ?_
    refine g_callVI C (ci := 2) (As := [.int 1]) (np := 1) (st := []) (r := (zR S x0 0)) rfl (by decide) (fun b2 q hq => c_X2_toursThatAre S b2 (1 : Int32) q hq) gv_RX5_X2_toursThatAre rfl rfl dsX2_toursThatAre rfl ⟨Nat.le_of_ble_eq_true rfl, Nat.le_of_ble_eq_true rfl⟩ rfl (cat_sum (Nat.le_of_ble_eq_true rfl)) ⟨Nat.zero_le _, Nat.zero_le _⟩ dX5_count_114 h (fun v2 S2 h => ?_)
    exact g_iret C hQ dX5_count_117 h
  have h := if_el2 h c6
  by_cases c7 : x1 = 6
  · have h := if_el1 h c7
    refine g_tswIn C (v := 6) (tgt := 118) dX5_count_1 c7 (by decide) (by decide) rfl (by decide) ?_
    refine g_aload_n C (q := 0) dX5_count_118 rfl rfl ?_
    refine g_ogetSR C (ci := 5) (slot := 0) rfl (by decide) inlX5 (by decide) rfl q12 dX5_count_119 h (fun h hLa11 hKa11 => ?_)
    refine g_iconst C (v := 2) dX5_count_122 (by decide) ?_
    refine g_callVI C (ci := 2) (As := [.int 2]) (np := 1) (st := []) (r := (zR S x0 0)) rfl (by decide) (fun b3 q hq => c_X2_toursThatAre S b3 (2 : Int32) q hq) gv_RX5_X2_toursThatAre rfl rfl dsX2_toursThatAre rfl ⟨Nat.le_of_ble_eq_true rfl, Nat.le_of_ble_eq_true rfl⟩ rfl (cat_sum (Nat.le_of_ble_eq_true rfl)) ⟨Nat.zero_le _, Nat.zero_le _⟩ dX5_count_123 h (fun v3 S3 h => ?_)
    exact g_iret C hQ dX5_count_126 h
  have h := if_el2 h c7
  by_cases c8 : x1 = 7
  · have h := if_el1 h c8
    refine g_tswIn C (v := 7) (tgt := 127) dX5_count_1 c8 (by decide) (by decide) rfl (by decide) ?_
    refine g_aload_n C (q := 0) dX5_count_127 rfl rfl ?_
    refine g_ogetSR C (ci := 5) (slot := 0) rfl (by decide) inlX5 (by decide) rfl q12 dX5_count_128 h (fun h hLa12 hKa12 => ?_)
    refine g_iconst C (v := 3) dX5_count_131 (by decide) ?_
    refine g_callVI C (ci := 2) (As := [.int 3]) (np := 1) (st := []) (r := (zR S x0 0)) rfl (by decide) (fun b4 q hq => c_X2_toursThatAre S b4 (3 : Int32) q hq) gv_RX5_X2_toursThatAre rfl rfl dsX2_toursThatAre rfl ⟨Nat.le_of_ble_eq_true rfl, Nat.le_of_ble_eq_true rfl⟩ rfl (cat_sum (Nat.le_of_ble_eq_true rfl)) ⟨Nat.zero_le _, Nat.zero_le _⟩ dX5_count_132 h (fun v4 S4 h => ?_)
    exact g_iret C hQ dX5_count_135 h
  have h := if_el2 h c8
  by_cases c9 : x1 = 8
  · have h := if_el1 h c9
    refine g_tswIn C (v := 8) (tgt := 136) dX5_count_1 c9 (by decide) (by decide) rfl (by decide) ?_
    refine g_aload_n C (q := 0) dX5_count_136 rfl rfl ?_
    refine g_ogetSR C (ci := 5) (slot := 0) rfl (by decide) inlX5 (by decide) rfl q12 dX5_count_137 h (fun h hLa13 hKa13 => ?_)
    refine g_callVI C (ci := 2) (As := []) (np := 0) (st := []) (r := (zR S x0 0)) rfl (by decide) (fun b5 q hq => c_X2_allPaid S b5  q hq) gv_RX5_X2_allPaid rfl rfl dsX2_allPaid rfl ⟨Nat.le_of_ble_eq_true rfl, Nat.le_of_ble_eq_true rfl⟩ rfl (cat_sum (Nat.le_of_ble_eq_true rfl)) ⟨Nat.zero_le _, Nat.zero_le _⟩ dX5_count_140 h (fun v5 S5 h => ?_)
    exact g_iret C hQ dX5_count_143 h
  have h := if_el2 h c9
  by_cases c10 : x1 = 9
  · have h := if_el1 h c10
    refine g_tswIn C (v := 9) (tgt := 144) dX5_count_1 c10 (by decide) (by decide) rfl (by decide) ?_
    refine g_aload_n C (q := 0) dX5_count_144 rfl rfl ?_
    refine g_ogetSR C (ci := 5) (slot := 0) rfl (by decide) inlX5 (by decide) rfl q12 dX5_count_145 h (fun h hLa14 hKa14 => ?_)
    refine g_ogetI C (ci := 2) (slot := 9) rfl (by decide) inlX2 (by decide) rfl q364 dX5_count_148 h (fun a15 hra15 h hLa15 hKa15 => ?_)
    exact g_iret C hQ dX5_count_151 h
  have h := if_el2 h c10
  by_cases c11 : x1 = 10
  · have h := if_el1 h c11
    refine g_tswIn C (v := 10) (tgt := 152) dX5_count_1 c11 (by decide) (by decide) rfl (by decide) ?_
    refine g_aload_n C (q := 0) dX5_count_152 rfl rfl ?_
    refine g_ogetSR C (ci := 5) (slot := 0) rfl (by decide) inlX5 (by decide) rfl q12 dX5_count_153 h (fun h hLa16 hKa16 => ?_)
    refine g_callVI C (ci := 2) (As := []) (np := 0) (st := []) (r := (zR S x0 0)) rfl (by decide) (fun b6 q hq => c_X2_guestsGone S b6  q hq) gv_RX5_X2_guestsGone rfl rfl dsX2_guestsGone rfl ⟨Nat.le_of_ble_eq_true rfl, Nat.le_of_ble_eq_true rfl⟩ rfl (cat_sum (Nat.le_of_ble_eq_true rfl)) ⟨Nat.zero_le _, Nat.zero_le _⟩ dX5_count_156 h (fun v6 S6 h => ?_)
    exact g_iret C hQ dX5_count_159 h
  have h := if_el2 h c11
  by_cases c12 : x1 = 11
  · have h := if_el1 h c12
    refine g_tswIn C (v := 11) (tgt := 160) dX5_count_1 c12 (by decide) (by decide) rfl (by decide) ?_
    refine g_aload_n C (q := 0) dX5_count_160 rfl rfl ?_
    refine g_ogetSR C (ci := 5) (slot := 2) rfl (by decide) inlX5 (by decide) rfl q17 dX5_count_161 h (fun h hLa17 hKa17 => ?_)
    refine g_ogetI C (ci := 1) (slot := 2) rfl (by decide) inlX1 (by decide) rfl q104 dX5_count_164 h (fun a18 hra18 h hLa18 hKa18 => ?_)
    exact g_iret C hQ dX5_count_167 h
  have h := if_el2 h c12
  by_cases c13 : x1 = 12
  · have h := if_el1 h c13
    refine g_tswIn C (v := 12) (tgt := 168) dX5_count_1 c13 (by decide) (by decide) rfl (by decide) ?_
    refine g_aload_n C (q := 0) dX5_count_168 rfl rfl ?_
    refine g_ogetSR C (ci := 5) (slot := 3) rfl (by decide) inlX5 (by decide) rfl q21 dX5_count_169 h (fun h hLa19 hKa19 => ?_)
    refine g_ogetI C (ci := 3) (slot := 1) rfl (by decide) inlX3 (by decide) rfl q365 dX5_count_172 h (fun a20 hra20 h hLa20 hKa20 => ?_)
    exact g_iret C hQ dX5_count_175 h
  have h := if_el2 h c13
  refine g_tswOut C (tgt := 176) dX5_count_1 (sw_out (x := x1) 0 13 (by decide) (h := (lt_s (lt_s (lt_s (lt_s (lt_s (lt_s (lt_s (lt_s (lt_s (lt_s (lt_s (lt_s (lt_s lt_0 c1) c2) c3) c4) c5) c6) c7) c8) c9) c10) c11) c12) c13))) (by decide) ?_
  refine g_bipush C (v := (-2)) dX5_count_176 (by decide) ?_
  exact g_iret C hQ dX5_count_178 h

abbrev rm_X5_temperature : Room := { frames := 0, cells := 0, slots := 0, locals := 0 }
theorem dsX5_temperature : yX5_temperature.cls = RX5 ∧ yX5_temperature.cls ≠ "java/lang/invoke/MethodHandle" ∧ yX5_temperature.cls ≠ "java/lang/invoke/VarHandle" ∧ (parseMethodDescriptor yX5_temperature.desc).map (fun d => d.parameters.length) = some 0 := by decide +kernel
def f_X5_temperature (S : Hp) (x0 : Nat) : Option (Int64 × Hp) :=
 ob S 5 (some x0) fun _ =>
 ob S 2 (zR S x0 0) fun a2 =>
 some ((zJ S a2 7), S)
set_option maxHeartbeats 4000000 in
set_option maxRecDepth 100000 in
theorem c_X5_temperature (S : Hp) (x0 : Nat) (o : Int64 × Hp) (h : f_X5_temperature S x0 = some o) : CtJ yX5_temperature cX5_temperature 1 (some .long) rm_X5_temperature 0 0 [va_rf (some x0)] S o := by
  refine ct_J (own := RX5) (by decide) rfl (Nat.le_of_ble_eq_true rfl) (fun X C hn hQ => ?_)
  unfold f_X5_temperature at h
  show GW X 0 0 S 0 [(0, va_rf (some x0))] []
  refine g_aload_n C (q := 0) dX5_temperature_0 rfl rfl ?_
  refine g_ogetSR C (ci := 5) (slot := 0) rfl (by decide) inlX5 (by decide) rfl q12 dX5_temperature_1 h (fun h hLa1 hKa1 => ?_)
  refine g_ogetJ C (ci := 2) (slot := 7) rfl (by decide) inlX2 (by decide) rfl q348 dX5_temperature_4 h (fun a2 hra2 h hLa2 hKa2 => ?_)
  exact g_lret C hQ dX5_temperature_7 h
