abbrev rm_X6_causeOf : Room := { frames := 5, cells := 0, slots := 0, locals := 116 }
theorem dsX6_causeOf : yX6_causeOf.cls = RX6 ∧ yX6_causeOf.cls ≠ "java/lang/invoke/MethodHandle" ∧ yX6_causeOf.cls ≠ "java/lang/invoke/VarHandle" ∧ (parseMethodDescriptor yX6_causeOf.desc).map (fun d => d.parameters.length) = some 1 := by decide +kernel
theorem gv_RX6_X6_isHeld : GoodIn wsL_law (wsV RX6 102 RX6 yX6_isHeld (.code yX6_isHeld cX6_isHeld 3 (some .boolean) :: wsL_law)) := good_V q507 q508 q509 q5 q510
theorem gv_RX6_X6_leftOver : GoodIn wsL_law (wsV RX6 105 RX6 yX6_leftOver (.code yX6_leftOver cX6_leftOver 2 (some .int) :: wsL_law)) := good_V q399 q400 q401 q5 q402
def f_X6_causeOf_L70_b (rec : Hp → Nat → Int32 → Int32 → Int32 → Option (Int32 × Hp)) (S : Hp) (x0 : Nat) (y1 : Int32) (y2 : Int32) (y3 : Int32) : Option (Int32 × Hp) :=
 ob S 6 (some x0) fun b1 => cl (f_X6_of S b1 y1 (4 : Int32)) fun v1 S1 =>
 if v1 ≤ y3 then
 if y2 = 0 then
 some ((3 : Int32), S1)
 else
 some ((0 : Int32), S1)
 else
 if y2 = 0 then
 bnd (y3 + 1) fun v2 =>
 rec S1 x0 y1 (0 : Int32) v2
 else
 ob S1 6 (some x0) fun b2 => cl (f_X6_guideOn S1 b2 y1 y3) fun v3 S2 =>
 ob S2 6 (some x0) fun b3 => cl (f_X6_ofGuide S2 b3 v3 (1 : Int32)) fun v4 S3 =>
 ob S3 6 (some x0) fun b4 => cl (f_X6_of S3 b4 y1 (0 : Int32)) fun v5 S4 =>
 if v4 < v5 then
 bnd (y3 + 1) fun v6 =>
 rec S4 x0 y1 (0 : Int32) v6
 else
 bnd (y3 + 1) fun v7 =>
 rec S4 x0 y1 (1 : Int32) v7
def f_X6_causeOf_L70 : Nat → Hp → Nat → Int32 → Int32 → Int32 → Option (Int32 × Hp)
  | 0 => fun _ _ _ _ _ => none
  | n + 1 => f_X6_causeOf_L70_b (f_X6_causeOf_L70 n)

def f_X6_causeOf_L13_b (rec : Hp → Nat → Int32 → Int32 → Option (Int32 × Hp)) (S : Hp) (x0 : Nat) (y1 : Int32) (y2 : Int32) : Option (Int32 × Hp) :=
 ob S 6 (some x0) fun _ =>
 ar S 9 (zR S x0 0) (2 : Int32) fun a2 i1 =>
 if (zI S a2 i1) ≤ y2 then
 ob S 6 (some x0) fun b1 => cl (f_X6_leftOver S b1 y1) fun v1 S1 =>
 if v1 = 0 then
 f_X6_causeOf_L70 1000 S1 x0 y1 (1 : Int32) (0 : Int32)
 else
 f_X6_causeOf_L70 1000 S1 x0 y1 (0 : Int32) (0 : Int32)
 else
 ob S 6 (some x0) fun b2 => cl (f_X6_of S b2 y1 (2 : Int32)) fun v2 S2 =>
 if ((v2 >>> (y2 &&& 31)) &&& 1) = 1 then
 ob S2 6 (some x0) fun b3 => cl (f_X6_isHeld S2 b3 y1 y2) fun v3 S3 =>
 if v3 = 0 then
 some ((2 : Int32), S3)
 else
 bnd (y2 + 1) fun v4 =>
 rec S3 x0 y1 v4
 else
 bnd (y2 + 1) fun v5 =>
 rec S2 x0 y1 v5
def f_X6_causeOf_L13 : Nat → Hp → Nat → Int32 → Int32 → Option (Int32 × Hp)
  | 0 => fun _ _ _ _ => none
  | n + 1 => f_X6_causeOf_L13_b (f_X6_causeOf_L13 n)
def f_X6_causeOf (S : Hp) (x0 : Nat) (x1 : Int32) : Option (Int32 × Hp) :=
 ob S 6 (some x0) fun b1 => cl (f_X6_of S b1 x1 (3 : Int32)) fun v1 S1 =>
 if v1 = 0 then
 some ((1 : Int32), S1)
 else
 f_X6_causeOf_L13 1000 S1 x0 x1 (0 : Int32)
set_option maxHeartbeats 4000000 in
set_option maxRecDepth 100000 in
theorem w_X6_causeOf_L70 {X : Cx} (C : CxOK X cX6_causeOf RX6 rm_X6_causeOf) (hn : xn X = 4) {S0 : Hp} {o : Int32 × Hp} (hQ : QI X (some .int) S0 0 0 o) : ∀ (fuel : Nat) (S : Hp) (x0 : Nat) (y1 : Int32) (y2 : Int32) (y3 : Int32), f_X6_causeOf_L70 fuel S x0 y1 y2 y3 = some o → GW X 0 0 S 70 [(0, va_rf (some x0)), (1, .int y1), (2, .int y2), (3, .int y3)] [] := by
  have hn2 : 2 < xn X := by rw [hn]; decide
  have hn3 : 3 < xn X := by rw [hn]; decide
  intro fuel
  induction fuel with
  | zero => intro S x0 y1 y2 y3 h; cases (show none = some o from h)
  | succ fuel ih =>
    intro S x0 y1 y2 y3 h
    have h : f_X6_causeOf_L70_b (f_X6_causeOf_L70 fuel) S x0 y1 y2 y3 = some o := h
    unfold f_X6_causeOf_L70_b at h
    refine g_iload_n C (q := 3) dX6_causeOf_70 rfl rfl ?_
    refine g_aload_n C (q := 0) dX6_causeOf_71 rfl rfl ?_
    refine g_iload_n C (q := 1) dX6_causeOf_72 rfl rfl ?_
    refine g_iconst C (v := 4) dX6_causeOf_73 (by decide) ?_
    refine g_callVI C (ci := 6) (As := [.int y1, .int 4]) (np := 2) (st := [.int y3]) (r := (some x0)) rfl (by decide) (fun b1 q hq => c_X6_of S b1 y1 (4 : Int32) q hq) gv_RX6_X6_of rfl rfl dsX6_of rfl ⟨Nat.le_of_ble_eq_true rfl, Nat.le_of_ble_eq_true rfl⟩ rfl (cat_sum (Nat.le_of_ble_eq_true rfl)) ⟨Nat.zero_le _, Nat.zero_le _⟩ dX6_causeOf_74 h (fun v1 S1 h => ?_)
    refine g_icmp_ge C (tgt := 116) dX6_causeOf_77 (by decide) h (fun h => ?_) (fun h => ?_)
    · refine g_iload_n C (q := 2) dX6_causeOf_116 rfl rfl ?_
      refine g_if_eq C (tgt := 124) dX6_causeOf_117 (by decide) h (fun h => ?_) (fun h => ?_)
      · refine g_iconst C (v := 3) dX6_causeOf_124 (by decide) ?_
        exact g_iret C hQ dX6_causeOf_125 h
      · refine g_iconst C (v := 0) dX6_causeOf_120 (by decide) ?_
        refine g_goto C (tgt := 125) dX6_causeOf_121 (by decide) ?_
        exact g_iret C hQ dX6_causeOf_125 h
    · refine g_iload_n C (q := 2) dX6_causeOf_80 rfl rfl ?_
      refine g_if_eq C (tgt := 108) dX6_causeOf_81 (by decide) h (fun h => ?_) (fun h => ?_)
      · refine g_iconst C (v := 0) dX6_causeOf_108 (by decide) ?_
        refine g_istore_n C (i := 2) (lv' := [(2, .int 0), (0, va_rf (some x0)), (1, .int y1), (3, .int y3)]) dX6_causeOf_109 rfl hn2 rfl ?_
        obtain ⟨v2, ev2, h⟩ := bnd_ex h
        refine g_iinc C (i := 3) (lv' := [(3, .int v2), (2, .int 0), (0, va_rf (some x0)), (1, .int y1)]) (q := 3) v2 dX6_causeOf_110 rfl ev2 hn3 rfl ?_
        refine g_goto C (tgt := 70) dX6_causeOf_113 (by decide) ?_
        refine g_sub (lv' := [(0, va_rf (some x0)), (1, .int y1), (2, .int 0), (3, .int v2)]) [2, 3, 1, 0] rfl ?_
        exact ih S1 x0 y1 (0 : Int32) v2 h
      · refine g_aload_n C (q := 0) dX6_causeOf_84 rfl rfl ?_
        refine g_aload_n C (q := 0) dX6_causeOf_85 rfl rfl ?_
        refine g_iload_n C (q := 1) dX6_causeOf_86 rfl rfl ?_
        refine g_iload_n C (q := 3) dX6_causeOf_87 rfl rfl ?_
        refine g_callVI C (ci := 6) (As := [.int y1, .int y3]) (np := 2) (st := [va_rf (some x0)]) (r := (some x0)) rfl (by decide) (fun b2 q hq => c_X6_guideOn S1 b2 y1 y3 q hq) gv_RX6_X6_guideOn rfl rfl dsX6_guideOn rfl ⟨Nat.le_of_ble_eq_true rfl, Nat.le_of_ble_eq_true rfl⟩ rfl (cat_sum (Nat.le_of_ble_eq_true rfl)) ⟨Nat.zero_le _, Nat.zero_le _⟩ dX6_causeOf_88 h (fun v3 S2 h => ?_)
        refine g_iconst C (v := 1) dX6_causeOf_91 (by decide) ?_
        refine g_callVI C (ci := 6) (As := [.int v3, .int 1]) (np := 2) (st := []) (r := (some x0)) rfl (by decide) (fun b3 q hq => c_X6_ofGuide S2 b3 v3 (1 : Int32) q hq) gv_RX6_X6_ofGuide rfl rfl dsX6_ofGuide rfl ⟨Nat.le_of_ble_eq_true rfl, Nat.le_of_ble_eq_true rfl⟩ rfl (cat_sum (Nat.le_of_ble_eq_true rfl)) ⟨Nat.zero_le _, Nat.zero_le _⟩ dX6_causeOf_92 h (fun v4 S3 h => ?_)
        refine g_aload_n C (q := 0) dX6_causeOf_95 rfl rfl ?_
        refine g_iload_n C (q := 1) dX6_causeOf_96 rfl rfl ?_
        refine g_iconst C (v := 0) dX6_causeOf_97 (by decide) ?_
        refine g_callVI C (ci := 6) (As := [.int y1, .int 0]) (np := 2) (st := [.int v4]) (r := (some x0)) rfl (by decide) (fun b4 q hq => c_X6_of S3 b4 y1 (0 : Int32) q hq) gv_RX6_X6_of rfl rfl dsX6_of rfl ⟨Nat.le_of_ble_eq_true rfl, Nat.le_of_ble_eq_true rfl⟩ rfl (cat_sum (Nat.le_of_ble_eq_true rfl)) ⟨Nat.zero_le _, Nat.zero_le _⟩ dX6_causeOf_98 h (fun v5 S4 h => ?_)
        refine g_icmp_lt C (tgt := 108) dX6_causeOf_101 (by decide) h (fun h => ?_) (fun h => ?_)
        · refine g_iconst C (v := 0) dX6_causeOf_108 (by decide) ?_
          refine g_istore_n C (i := 2) (lv' := [(2, .int 0), (0, va_rf (some x0)), (1, .int y1), (3, .int y3)]) dX6_causeOf_109 rfl hn2 rfl ?_
          obtain ⟨v6, ev6, h⟩ := bnd_ex h
          refine g_iinc C (i := 3) (lv' := [(3, .int v6), (2, .int 0), (0, va_rf (some x0)), (1, .int y1)]) (q := 3) v6 dX6_causeOf_110 rfl ev6 hn3 rfl ?_
          refine g_goto C (tgt := 70) dX6_causeOf_113 (by decide) ?_
          refine g_sub (lv' := [(0, va_rf (some x0)), (1, .int y1), (2, .int 0), (3, .int v6)]) [2, 3, 1, 0] rfl ?_
          exact ih S4 x0 y1 (0 : Int32) v6 h
        · refine g_iconst C (v := 1) dX6_causeOf_104 (by decide) ?_
          refine g_goto C (tgt := 109) dX6_causeOf_105 (by decide) ?_
          refine g_istore_n C (i := 2) (lv' := [(2, .int 1), (0, va_rf (some x0)), (1, .int y1), (3, .int y3)]) dX6_causeOf_109 rfl hn2 rfl ?_
          obtain ⟨v7, ev7, h⟩ := bnd_ex h
          refine g_iinc C (i := 3) (lv' := [(3, .int v7), (2, .int 1), (0, va_rf (some x0)), (1, .int y1)]) (q := 3) v7 dX6_causeOf_110 rfl ev7 hn3 rfl ?_
          refine g_goto C (tgt := 70) dX6_causeOf_113 (by decide) ?_
          refine g_sub (lv' := [(0, va_rf (some x0)), (1, .int y1), (2, .int 1), (3, .int v7)]) [2, 3, 1, 0] rfl ?_
          exact ih S4 x0 y1 (1 : Int32) v7 h

set_option maxHeartbeats 4000000 in
set_option maxRecDepth 100000 in
theorem w_X6_causeOf_L13 {X : Cx} (C : CxOK X cX6_causeOf RX6 rm_X6_causeOf) (hn : xn X = 4) {S0 : Hp} {o : Int32 × Hp} (hQ : QI X (some .int) S0 0 0 o) : ∀ (fuel : Nat) (S : Hp) (x0 : Nat) (y1 : Int32) (y2 : Int32), f_X6_causeOf_L13 fuel S x0 y1 y2 = some o → GW X 0 0 S 13 [(0, va_rf (some x0)), (1, .int y1), (2, .int y2)] [] := by
  have hn2 : 2 < xn X := by rw [hn]; decide
  have hn3 : 3 < xn X := by rw [hn]; decide
  intro fuel
  induction fuel with
  | zero => intro S x0 y1 y2 h; cases (show none = some o from h)
  | succ fuel ih =>
    intro S x0 y1 y2 h
    have h : f_X6_causeOf_L13_b (f_X6_causeOf_L13 fuel) S x0 y1 y2 = some o := h
    unfold f_X6_causeOf_L13_b at h
    refine g_iload_n C (q := 2) dX6_causeOf_13 rfl rfl ?_
    refine g_aload_n C (q := 0) dX6_causeOf_14 rfl rfl ?_
    refine g_ogetSR C (ci := 6) (slot := 0) rfl (by decide) inlX6 (by decide) rfl q66 dX6_causeOf_15 h (fun h hLa1 hKa1 => ?_)
    refine g_iconst C (v := 2) dX6_causeOf_18 (by decide) ?_
    refine g_iald C dX6_causeOf_19 h (fun a2 i1 h => ?_)
    refine g_icmp_ge C (tgt := 54) dX6_causeOf_20 (by decide) h (fun h => ?_) (fun h => ?_)
    · refine g_aload_n C (q := 0) dX6_causeOf_54 rfl rfl ?_
      refine g_iload_n C (q := 1) dX6_causeOf_55 rfl rfl ?_
      refine g_callVI C (ci := 6) (As := [.int y1]) (np := 1) (st := []) (r := (some x0)) rfl (by decide) (fun b1 q hq => c_X6_leftOver S b1 y1 q hq) gv_RX6_X6_leftOver rfl rfl dsX6_leftOver rfl ⟨Nat.le_of_ble_eq_true rfl, Nat.le_of_ble_eq_true rfl⟩ rfl (cat_sum (Nat.le_of_ble_eq_true rfl)) ⟨Nat.zero_le _, Nat.zero_le _⟩ dX6_causeOf_56 h (fun v1 S1 h => ?_)
      refine g_if_ne C (tgt := 66) dX6_causeOf_59 (by decide) h (fun h => ?_) (fun h => ?_)
      · refine g_iconst C (v := 1) dX6_causeOf_62 (by decide) ?_
        refine g_goto C (tgt := 67) dX6_causeOf_63 (by decide) ?_
        refine g_istore_n C (i := 2) (lv' := [(2, .int 1), (0, va_rf (some x0)), (1, .int y1)]) dX6_causeOf_67 rfl hn2 rfl ?_
        refine g_iconst C (v := 0) dX6_causeOf_68 (by decide) ?_
        refine g_istore_n C (i := 3) (lv' := [(3, .int 0), (2, .int 1), (0, va_rf (some x0)), (1, .int y1)]) dX6_causeOf_69 rfl hn3 rfl ?_
        refine g_sub (lv' := [(0, va_rf (some x0)), (1, .int y1), (2, .int 1), (3, .int 0)]) [2, 3, 1, 0] rfl ?_
        exact w_X6_causeOf_L70 C hn hQ 1000 S1 x0 y1 (1 : Int32) (0 : Int32) h
      · refine g_iconst C (v := 0) dX6_causeOf_66 (by decide) ?_
        refine g_istore_n C (i := 2) (lv' := [(2, .int 0), (0, va_rf (some x0)), (1, .int y1)]) dX6_causeOf_67 rfl hn2 rfl ?_
        refine g_iconst C (v := 0) dX6_causeOf_68 (by decide) ?_
        refine g_istore_n C (i := 3) (lv' := [(3, .int 0), (2, .int 0), (0, va_rf (some x0)), (1, .int y1)]) dX6_causeOf_69 rfl hn3 rfl ?_
        refine g_sub (lv' := [(0, va_rf (some x0)), (1, .int y1), (2, .int 0), (3, .int 0)]) [2, 3, 1, 0] rfl ?_
        exact w_X6_causeOf_L70 C hn hQ 1000 S1 x0 y1 (0 : Int32) (0 : Int32) h
    · refine g_aload_n C (q := 0) dX6_causeOf_23 rfl rfl ?_
      refine g_iload_n C (q := 1) dX6_causeOf_24 rfl rfl ?_
      refine g_iconst C (v := 2) dX6_causeOf_25 (by decide) ?_
      refine g_callVI C (ci := 6) (As := [.int y1, .int 2]) (np := 2) (st := []) (r := (some x0)) rfl (by decide) (fun b2 q hq => c_X6_of S b2 y1 (2 : Int32) q hq) gv_RX6_X6_of rfl rfl dsX6_of rfl ⟨Nat.le_of_ble_eq_true rfl, Nat.le_of_ble_eq_true rfl⟩ rfl (cat_sum (Nat.le_of_ble_eq_true rfl)) ⟨Nat.zero_le _, Nat.zero_le _⟩ dX6_causeOf_26 h (fun v2 S2 h => ?_)
      refine g_iload_n C (q := 2) dX6_causeOf_29 rfl rfl ?_
      refine g_ishr C dX6_causeOf_30 ?_
      refine g_iconst C (v := 1) dX6_causeOf_31 (by decide) ?_
      refine g_iand C dX6_causeOf_32 ?_
      refine g_iconst C (v := 1) dX6_causeOf_33 (by decide) ?_
      refine g_icmp_ne C (tgt := 48) dX6_causeOf_34 (by decide) h (fun h => ?_) (fun h => ?_)
      · refine g_aload_n C (q := 0) dX6_causeOf_37 rfl rfl ?_
        refine g_iload_n C (q := 1) dX6_causeOf_38 rfl rfl ?_
        refine g_iload_n C (q := 2) dX6_causeOf_39 rfl rfl ?_
        refine g_callVI C (ci := 6) (As := [.int y1, .int y2]) (np := 2) (st := []) (r := (some x0)) rfl (by decide) (fun b3 q hq => c_X6_isHeld S2 b3 y1 y2 q hq) gv_RX6_X6_isHeld rfl rfl dsX6_isHeld rfl ⟨Nat.le_of_ble_eq_true rfl, Nat.le_of_ble_eq_true rfl⟩ rfl (cat_sum (Nat.le_of_ble_eq_true rfl)) ⟨Nat.zero_le _, Nat.zero_le _⟩ dX6_causeOf_40 h (fun v3 S3 h => ?_)
        refine g_if_ne C (tgt := 48) dX6_causeOf_43 (by decide) h (fun h => ?_) (fun h => ?_)
        · refine g_iconst C (v := 2) dX6_causeOf_46 (by decide) ?_
          exact g_iret C hQ dX6_causeOf_47 h
        · obtain ⟨v4, ev4, h⟩ := bnd_ex h
          refine g_iinc C (i := 2) (lv' := [(2, .int v4), (0, va_rf (some x0)), (1, .int y1)]) (q := 2) v4 dX6_causeOf_48 rfl ev4 hn2 rfl ?_
          refine g_goto C (tgt := 13) dX6_causeOf_51 (by decide) ?_
          refine g_sub (lv' := [(0, va_rf (some x0)), (1, .int y1), (2, .int v4)]) [1, 2, 0] rfl ?_
          exact ih S3 x0 y1 v4 h
      · obtain ⟨v5, ev5, h⟩ := bnd_ex h
        refine g_iinc C (i := 2) (lv' := [(2, .int v5), (0, va_rf (some x0)), (1, .int y1)]) (q := 2) v5 dX6_causeOf_48 rfl ev5 hn2 rfl ?_
        refine g_goto C (tgt := 13) dX6_causeOf_51 (by decide) ?_
        refine g_sub (lv' := [(0, va_rf (some x0)), (1, .int y1), (2, .int v5)]) [1, 2, 0] rfl ?_
        exact ih S2 x0 y1 v5 h
set_option maxHeartbeats 4000000 in
set_option maxRecDepth 100000 in
theorem c_X6_causeOf (S : Hp) (x0 : Nat) (x1 : Int32) (o : Int32 × Hp) (h : f_X6_causeOf S x0 x1 = some o) : CtI yX6_causeOf cX6_causeOf 4 (some .int) rm_X6_causeOf 0 0 [va_rf (some x0), .int x1] S o := by
  refine ct_I (own := RX6) (by decide) rfl (Nat.le_of_ble_eq_true rfl) (fun X C hn hQ => ?_)
  have hn2 : 2 < xn X := by rw [hn]; decide
  unfold f_X6_causeOf at h
  show GW X 0 0 S 0 [(0, va_rf (some x0)), (1, .int x1)] []
  refine g_aload_n C (q := 0) dX6_causeOf_0 rfl rfl ?_
  refine g_iload_n C (q := 1) dX6_causeOf_1 rfl rfl ?_
  refine g_iconst C (v := 3) dX6_causeOf_2 (by decide) ?_
  refine g_callVI C (ci := 6) (As := [.int x1, .int 3]) (np := 2) (st := []) (r := (some x0)) rfl (by decide) (fun b1 q hq => c_X6_of S b1 x1 (3 : Int32) q hq) gv_RX6_X6_of rfl rfl dsX6_of rfl ⟨Nat.le_of_ble_eq_true rfl, Nat.le_of_ble_eq_true rfl⟩ rfl (cat_sum (Nat.le_of_ble_eq_true rfl)) ⟨Nat.zero_le _, Nat.zero_le _⟩ dX6_causeOf_3 h (fun v1 S1 h => ?_)
  refine g_if_ne C (tgt := 11) dX6_causeOf_6 (by decide) h (fun h => ?_) (fun h => ?_)
  · refine g_iconst C (v := 1) dX6_causeOf_9 (by decide) ?_
    exact g_iret C hQ dX6_causeOf_10 h
  · refine g_iconst C (v := 0) dX6_causeOf_11 (by decide) ?_
    refine g_istore_n C (i := 2) (lv' := [(2, .int 0), (0, va_rf (some x0)), (1, .int x1)]) dX6_causeOf_12 rfl hn2 rfl ?_
    refine g_sub (lv' := [(0, va_rf (some x0)), (1, .int x1), (2, .int 0)]) [1, 2, 0] rfl ?_
    exact w_X6_causeOf_L13 C hn hQ 1000 S1 x0 x1 (0 : Int32) h

abbrev rm_X6_addTour : Room := { frames := 2, cells := 0, slots := 0, locals := 48 }
theorem dsX6_addTour : yX6_addTour.cls = RX6 ∧ yX6_addTour.cls ≠ "java/lang/invoke/MethodHandle" ∧ yX6_addTour.cls ≠ "java/lang/invoke/VarHandle" ∧ (parseMethodDescriptor yX6_addTour.desc).map (fun d => d.parameters.length) = some 4 := by decide +kernel
theorem gv_RX6_X6_to : GoodIn wsL_law (wsV RX6 110 RX6 yX6_to (.code yX6_to cX6_to 4 none :: wsL_law)) := good_V q253 q254 q255 q5 q256
def f_X6_addTour_L99_b (rec : Hp → Nat → Int32 → Int64 → Int32 → Int32 → Int32 → Int32 → Option (Int32 × Hp)) (S : Hp) (x0 : Nat) (y1 : Int32) (y2 : Int64) (y4 : Int32) (y5 : Int32) (y6 : Int32) (y7 : Int32) : Option (Int32 × Hp) :=
 if 14 ≤ y7 then
 ob S 6 (some x0) fun b1 => cl (f_X6_to S b1 y6 (0 : Int32) y1) fun _ S1 =>
 ob S1 6 (some x0) fun b2 => cl (f_X6_to S1 b2 y6 (1 : Int32) y4) fun _ S2 =>
 ob S2 6 (some x0) fun b3 => cl (f_X6_to S2 b3 y6 (2 : Int32) y5) fun _ S3 =>
 ob S3 6 (some x0) fun _ =>
 gd (vn_snl2d y2 = false) <|
 ar S3 8 (zR S3 x0 3) (7 + y6) fun a2 i1 => bnd (wD S3 a2 i1 (y2.toUInt64)) fun S4 =>
 some (y6, S4)
 else
 ob S 6 (some x0) fun b4 => cl (f_X6_to S b4 y6 y7 (0 : Int32)) fun _ S5 =>
 bnd (y7 + 1) fun v1 =>
 rec S5 x0 y1 y2 y4 y5 y6 v1
def f_X6_addTour_L99 : Nat → Hp → Nat → Int32 → Int64 → Int32 → Int32 → Int32 → Int32 → Option (Int32 × Hp)
  | 0 => fun _ _ _ _ _ _ _ _ => none
  | n + 1 => f_X6_addTour_L99_b (f_X6_addTour_L99 n)
def f_X6_addTour (S : Hp) (x0 : Nat) (x1 : Int32) (x2 : Int64) (x4 : Int32) (x5 : Int32) : Option (Int32 × Hp) :=
 ob S 6 (some x0) fun _ =>
 ar S 9 (zR S x0 0) (0 : Int32) fun a2 i1 =>
 cl (f_X6_in S x1 (zI S a2 i1) (999 : Int32)) fun v1 S1 =>
 if v1 = 0 then
 some ((-2 : Int32), S1)
 else
 cl (f_X6_isUpTo S1 x2 4633641066610819072) fun v2 S2 =>
 if v2 = 0 then
 some ((-2 : Int32), S2)
 else
 cl (f_X6_in S2 x4 (1 : Int32) (9999 : Int32)) fun v3 S3 =>
 if v3 = 0 then
 some ((-2 : Int32), S3)
 else
 ob S3 6 (some x0) fun _ =>
 ar S3 9 (zR S3 x0 0) (2 : Int32) fun a4 i2 =>
 cl (f_X6_in S3 x5 (0 : Int32) ((1 <<< ((zI S3 a4 i2) &&& 31)) - 1)) fun v4 S4 =>
 if v4 = 0 then
 some ((-2 : Int32), S4)
 else
 ob S4 6 (some x0) fun _ =>
 ar S4 9 (zR S4 x0 0) (3 : Int32) fun a6 i3 =>
 if (zI S4 a6 i3) = 10 then
 some ((-3 : Int32), S4)
 else
 ob S4 6 (some x0) fun b1 => cl (f_X6_record S4 b1 ) fun _ S5 =>
 ob S5 6 (some x0) fun _ =>
 ar S5 9 (zR S5 x0 0) (3 : Int32) fun a8 i4 =>
 bnd ((zI S5 a8 i4)) fun v5 =>
 ar S5 9 (zR S5 x0 0) (3 : Int32) fun a9 i5 =>
 ar S5 9 (zR S5 x0 0) (3 : Int32) fun a10 i6 => bnd (wI S5 a10 i6 ((zI S5 a9 i5) + 1)) fun S6 =>
 f_X6_addTour_L99 1000 S6 x0 x1 x2 x4 x5 v5 (0 : Int32)
set_option maxHeartbeats 4000000 in
set_option maxRecDepth 100000 in
theorem w_X6_addTour_L99 {X : Cx} (C : CxOK X cX6_addTour RX6 rm_X6_addTour) (hn : xn X = 8) {S0 : Hp} {o : Int32 × Hp} (hQ : QI X (some .int) S0 0 0 o) : ∀ (fuel : Nat) (S : Hp) (x0 : Nat) (y1 : Int32) (y2 : Int64) (y4 : Int32) (y5 : Int32) (y6 : Int32) (y7 : Int32), f_X6_addTour_L99 fuel S x0 y1 y2 y4 y5 y6 y7 = some o → GW X 0 0 S 99 [(0, va_rf (some x0)), (1, .int y1), (2, .long y2), (4, .int y4), (5, .int y5), (6, .int y6), (7, .int y7)] [] := by
  have hn7 : 7 < xn X := by rw [hn]; decide
  intro fuel
  induction fuel with
  | zero => intro S x0 y1 y2 y4 y5 y6 y7 h; cases (show none = some o from h)
  | succ fuel ih =>
    intro S x0 y1 y2 y4 y5 y6 y7 h
    have h : f_X6_addTour_L99_b (f_X6_addTour_L99 fuel) S x0 y1 y2 y4 y5 y6 y7 = some o := h
    unfold f_X6_addTour_L99_b at h
    refine g_iload C (q := 6) dX6_addTour_99 rfl ?_
    refine g_bipush C (v := 14) dX6_addTour_101 (by decide) ?_
    refine g_icmp_ge C (tgt := 121) dX6_addTour_103 (by decide) h (fun h => ?_) (fun h => ?_)
    · refine g_aload_n C (q := 0) dX6_addTour_121 rfl rfl ?_
      refine g_iload C (q := 5) dX6_addTour_122 rfl ?_
      refine g_iconst C (v := 0) dX6_addTour_124 (by decide) ?_
      refine g_iload_n C (q := 1) dX6_addTour_125 rfl rfl ?_
      refine g_callVV C (ci := 6) (As := [.int y6, .int 0, .int y1]) (np := 3) (st := []) (r := (some x0)) rfl (by decide) (fun b1 q hq => c_X6_to S b1 y6 (0 : Int32) y1 q hq) gv_RX6_X6_to rfl rfl dsX6_to rfl ⟨Nat.le_of_ble_eq_true rfl, Nat.le_of_ble_eq_true rfl⟩ rfl (cat_sum (Nat.le_of_ble_eq_true rfl)) ⟨Nat.zero_le _, Nat.zero_le _⟩ dX6_addTour_126 h (fun S1 h => ?_)
      refine g_aload_n C (q := 0) dX6_addTour_129 rfl rfl ?_
      refine g_iload C (q := 5) dX6_addTour_130 rfl ?_
      refine g_iconst C (v := 1) dX6_addTour_132 (by decide) ?_
      refine g_iload C (q := 3) dX6_addTour_133 rfl ?_
      refine g_callVV C (ci := 6) (As := [.int y6, .int 1, .int y4]) (np := 3) (st := []) (r := (some x0)) rfl (by decide) (fun b2 q hq => c_X6_to S1 b2 y6 (1 : Int32) y4 q hq) gv_RX6_X6_to rfl rfl dsX6_to rfl ⟨Nat.le_of_ble_eq_true rfl, Nat.le_of_ble_eq_true rfl⟩ rfl (cat_sum (Nat.le_of_ble_eq_true rfl)) ⟨Nat.zero_le _, Nat.zero_le _⟩ dX6_addTour_135 h (fun S2 h => ?_)
      refine g_aload_n C (q := 0) dX6_addTour_138 rfl rfl ?_
      refine g_iload C (q := 5) dX6_addTour_139 rfl ?_
      refine g_iconst C (v := 2) dX6_addTour_141 (by decide) ?_
      refine g_iload C (q := 4) dX6_addTour_142 rfl ?_
      refine g_callVV C (ci := 6) (As := [.int y6, .int 2, .int y5]) (np := 3) (st := []) (r := (some x0)) rfl (by decide) (fun b3 q hq => c_X6_to S2 b3 y6 (2 : Int32) y5 q hq) gv_RX6_X6_to rfl rfl dsX6_to rfl ⟨Nat.le_of_ble_eq_true rfl, Nat.le_of_ble_eq_true rfl⟩ rfl (cat_sum (Nat.le_of_ble_eq_true rfl)) ⟨Nat.zero_le _, Nat.zero_le _⟩ dX6_addTour_144 h (fun S3 h => ?_)
      refine g_aload_n C (q := 0) dX6_addTour_147 rfl rfl ?_
      refine g_ogetSR C (ci := 6) (slot := 3) rfl (by decide) inlX6 (by decide) rfl q69 dX6_addTour_148 h (fun h hLa1 hKa1 => ?_)
      refine g_bipush C (v := 7) dX6_addTour_151 (by decide) ?_
      refine g_iload C (q := 5) dX6_addTour_153 rfl ?_
      refine g_iadd C dX6_addTour_155 ?_
      refine g_lload_n C (q := 2) dX6_addTour_156 rfl rfl ?_
      refine g_lb2d C q199 q200 q201 q202 (by decide) (by decide) (cat_sum (Nat.le_of_ble_eq_true rfl)) dX6_addTour_157 h (fun h => ?_)
      refine g_dast C dX6_addTour_160 h (fun a2 i1 S4 h => ?_)
      refine g_iload C (q := 5) dX6_addTour_161 rfl ?_
      exact g_iret C hQ dX6_addTour_163 h
    · refine g_aload_n C (q := 0) dX6_addTour_106 rfl rfl ?_
      refine g_iload C (q := 5) dX6_addTour_107 rfl ?_
      refine g_iload C (q := 6) dX6_addTour_109 rfl ?_
      refine g_iconst C (v := 0) dX6_addTour_111 (by decide) ?_
      refine g_callVV C (ci := 6) (As := [.int y6, .int y7, .int 0]) (np := 3) (st := []) (r := (some x0)) rfl (by decide) (fun b4 q hq => c_X6_to S b4 y6 y7 (0 : Int32) q hq) gv_RX6_X6_to rfl rfl dsX6_to rfl ⟨Nat.le_of_ble_eq_true rfl, Nat.le_of_ble_eq_true rfl⟩ rfl (cat_sum (Nat.le_of_ble_eq_true rfl)) ⟨Nat.zero_le _, Nat.zero_le _⟩ dX6_addTour_112 h (fun S5 h => ?_)
      obtain ⟨v1, ev1, h⟩ := bnd_ex h
      refine g_iinc C (i := 7) (lv' := [(7, .int v1), (0, va_rf (some x0)), (1, .int y1), (2, .long y2), (4, .int y4), (5, .int y5), (6, .int y6)]) (q := 6) v1 dX6_addTour_115 rfl ev1 hn7 rfl ?_
      refine g_goto C (tgt := 99) dX6_addTour_118 (by decide) ?_
      refine g_sub (lv' := [(0, va_rf (some x0)), (1, .int y1), (2, .long y2), (4, .int y4), (5, .int y5), (6, .int y6), (7, .int v1)]) [1, 2, 3, 4, 5, 6, 0] rfl ?_
      exact ih S5 x0 y1 y2 y4 y5 y6 v1 h
set_option maxHeartbeats 4000000 in
set_option maxRecDepth 100000 in
theorem c_X6_addTour (S : Hp) (x0 : Nat) (x1 : Int32) (x2 : Int64) (x4 : Int32) (x5 : Int32) (o : Int32 × Hp) (h : f_X6_addTour S x0 x1 x2 x4 x5 = some o) : CtI yX6_addTour cX6_addTour 8 (some .int) rm_X6_addTour 0 0 [va_rf (some x0), .int x1, .long x2, .int x4, .int x5] S o := by
  refine ct_I (own := RX6) (by decide) rfl (Nat.le_of_ble_eq_true rfl) (fun X C hn hQ => ?_)
  have hn6 : 6 < xn X := by rw [hn]; decide
  have hn7 : 7 < xn X := by rw [hn]; decide
  unfold f_X6_addTour at h
  show GW X 0 0 S 0 [(0, va_rf (some x0)), (1, .int x1), (2, .long x2), (4, .int x4), (5, .int x5)] []
  refine g_iload_n C (q := 1) dX6_addTour_0 rfl rfl ?_
  refine g_aload_n C (q := 0) dX6_addTour_1 rfl rfl ?_
  refine g_ogetSR C (ci := 6) (slot := 0) rfl (by decide) inlX6 (by decide) rfl q66 dX6_addTour_2 h (fun h hLa1 hKa1 => ?_)
  refine g_iconst C (v := 0) dX6_addTour_5 (by decide) ?_
  refine g_iald C dX6_addTour_6 h (fun a2 i1 h => ?_)
  refine g_sipush C (v := 999) dX6_addTour_7 (by decide) ?_
  refine g_callSI C (As := [.int x1, .int (zI S a2 i1), .int 999]) (np := 3) (st := []) (fun q hq => c_X6_in S x1 (zI S a2 i1) (999 : Int32) q hq) gs_RX6_X6_in rfl rfl dsX6_in rfl ⟨Nat.le_of_ble_eq_true rfl, Nat.le_of_ble_eq_true rfl⟩ rfl (cat_sum (Nat.le_of_ble_eq_true rfl)) ⟨Nat.zero_le _, Nat.zero_le _⟩ dX6_addTour_10 h (fun v1 S1 h => ?_)
  refine g_if_eq C (tgt := 57) dX6_addTour_13 (by decide) h (fun h => ?_) (fun h => ?_)
  · refine g_bipush C (v := (-2)) dX6_addTour_57 (by decide) ?_
    exact g_iret C hQ dX6_addTour_59 h
  · refine g_lload_n C (q := 2) dX6_addTour_16 rfl rfl ?_
    refine g_ldc2d C q252 dX6_addTour_17 ?_
    refine g_callSI C (As := [.long x2, .double 4633641066610819072]) (np := 2) (st := []) (fun q hq => c_X6_isUpTo S1 x2 4633641066610819072 q hq) gs_RX6_X6_isUpTo rfl rfl dsX6_isUpTo rfl ⟨Nat.le_of_ble_eq_true rfl, Nat.le_of_ble_eq_true rfl⟩ rfl (cat_sum (Nat.le_of_ble_eq_true rfl)) ⟨Nat.zero_le _, Nat.zero_le _⟩ dX6_addTour_20 h (fun v2 S2 h => ?_)
    refine g_if_eq C (tgt := 57) dX6_addTour_23 (by decide) h (fun h => ?_) (fun h => ?_)
    · refine g_bipush C (v := (-2)) dX6_addTour_57 (by decide) ?_
      exact g_iret C hQ dX6_addTour_59 h
    · refine g_iload C (q := 3) dX6_addTour_26 rfl ?_
      refine g_iconst C (v := 1) dX6_addTour_28 (by decide) ?_
      refine g_sipush C (v := 9999) dX6_addTour_29 (by decide) ?_
      refine g_callSI C (As := [.int x4, .int 1, .int 9999]) (np := 3) (st := []) (fun q hq => c_X6_in S2 x4 (1 : Int32) (9999 : Int32) q hq) gs_RX6_X6_in rfl rfl dsX6_in rfl ⟨Nat.le_of_ble_eq_true rfl, Nat.le_of_ble_eq_true rfl⟩ rfl (cat_sum (Nat.le_of_ble_eq_true rfl)) ⟨Nat.zero_le _, Nat.zero_le _⟩ dX6_addTour_32 h (fun v3 S3 h => ?_)
      refine g_if_eq C (tgt := 57) dX6_addTour_35 (by decide) h (fun h => ?_) (fun h => ?_)
      · refine g_bipush C (v := (-2)) dX6_addTour_57 (by decide) ?_
        exact g_iret C hQ dX6_addTour_59 h
      · refine g_iload C (q := 4) dX6_addTour_38 rfl ?_
        refine g_iconst C (v := 0) dX6_addTour_40 (by decide) ?_
        refine g_iconst C (v := 1) dX6_addTour_41 (by decide) ?_
        refine g_aload_n C (q := 0) dX6_addTour_42 rfl rfl ?_
        refine g_ogetSR C (ci := 6) (slot := 0) rfl (by decide) inlX6 (by decide) rfl q66 dX6_addTour_43 h (fun h hLa3 hKa3 => ?_)
        refine g_iconst C (v := 2) dX6_addTour_46 (by decide) ?_
        refine g_iald C dX6_addTour_47 h (fun a4 i2 h => ?_)
        refine g_ishl C dX6_addTour_48 ?_
        refine g_iconst C (v := 1) dX6_addTour_49 (by decide) ?_
        refine g_isub C dX6_addTour_50 ?_
        refine g_callSI C (As := [.int x5, .int 0, .int ((1 <<< ((zI S3 a4 i2) &&& 31)) - 1)]) (np := 3) (st := []) (fun q hq => c_X6_in S3 x5 (0 : Int32) ((1 <<< ((zI S3 a4 i2) &&& 31)) - 1) q hq) gs_RX6_X6_in rfl rfl dsX6_in rfl ⟨Nat.le_of_ble_eq_true rfl, Nat.le_of_ble_eq_true rfl⟩ rfl (cat_sum (Nat.le_of_ble_eq_true rfl)) ⟨Nat.zero_le _, Nat.zero_le _⟩ dX6_addTour_51 h (fun v4 S4 h => ?_)
        refine g_if_ne C (tgt := 60) dX6_addTour_54 (by decide) h (fun h => ?_) (fun h => ?_)
        · refine g_bipush C (v := (-2)) dX6_addTour_57 (by decide) ?_
          exact g_iret C hQ dX6_addTour_59 h
        · refine g_aload_n C (q := 0) dX6_addTour_60 rfl rfl ?_
          refine g_ogetSR C (ci := 6) (slot := 0) rfl (by decide) inlX6 (by decide) rfl q66 dX6_addTour_61 h (fun h hLa5 hKa5 => ?_)
          refine g_iconst C (v := 3) dX6_addTour_64 (by decide) ?_
          refine g_iald C dX6_addTour_65 h (fun a6 i3 h => ?_)
          refine g_bipush C (v := 10) dX6_addTour_66 (by decide) ?_
          refine g_icmp_ne C (tgt := 74) dX6_addTour_68 (by decide) h (fun h => ?_) (fun h => ?_)
          · refine g_bipush C (v := (-3)) dX6_addTour_71 (by decide) ?_
            exact g_iret C hQ dX6_addTour_73 h
          · refine g_aload_n C (q := 0) dX6_addTour_74 rfl rfl ?_
            refine g_callVV C (ci := 6) (As := []) (np := 0) (st := []) (r := (some x0)) rfl (by decide) (fun b1 q hq => c_X6_record S4 b1  q hq) gv_RX6_X6_record rfl rfl dsX6_record rfl ⟨Nat.le_of_ble_eq_true rfl, Nat.le_of_ble_eq_true rfl⟩ rfl (cat_sum (Nat.le_of_ble_eq_true rfl)) ⟨Nat.zero_le _, Nat.zero_le _⟩ dX6_addTour_75 h (fun S5 h => ?_)
            refine g_aload_n C (q := 0) dX6_addTour_78 rfl rfl ?_
            refine g_ogetSR C (ci := 6) (slot := 0) rfl (by decide) inlX6 (by decide) rfl q66 dX6_addTour_79 h (fun h hLa7 hKa7 => ?_)
            refine g_iconst C (v := 3) dX6_addTour_82 (by decide) ?_
            refine g_iald C dX6_addTour_83 h (fun a8 i4 h => ?_)
            refine g_nmI h (fun v5 h => ?_)
            refine g_istore C (i := 6) (lv' := [(6, .int v5), (0, va_rf (some x0)), (1, .int x1), (2, .long x2), (4, .int x4), (5, .int x5)]) dX6_addTour_84 hn6 rfl ?_
            refine g_aload_n C (q := 1) dX6_addTour_86 rfl rfl ?_
            refine g_getER C (ci := 6) (slot := 0) rfl (by decide) inlX6 (by decide) rfl q66 dX6_addTour_87 rfl hLa7 hKa7 ?_
            refine g_iconst C (v := 3) dX6_addTour_90 (by decide) ?_
            refine g_dup2 C dX6_addTour_91 rfl (va_rf_cat _) ?_
            refine g_iald C dX6_addTour_92 h (fun a9 i5 h => ?_)
            refine g_iconst C (v := 1) dX6_addTour_93 (by decide) ?_
            refine g_iadd C dX6_addTour_94 ?_
            refine g_iast C dX6_addTour_95 h (fun a10 i6 S6 h => ?_)
            refine g_iconst C (v := 0) dX6_addTour_96 (by decide) ?_
            refine g_istore C (i := 7) (lv' := [(7, .int 0), (6, .int v5), (0, va_rf (some x0)), (1, .int x1), (2, .long x2), (4, .int x4), (5, .int x5)]) dX6_addTour_97 hn7 rfl ?_
            refine g_sub (lv' := [(0, va_rf (some x0)), (1, .int x1), (2, .long x2), (4, .int x4), (5, .int x5), (6, .int v5), (7, .int 0)]) [2, 3, 4, 5, 6, 1, 0] rfl ?_
            exact w_X6_addTour_L99 C hn hQ 1000 S6 x0 x1 x2 x4 x5 v5 (0 : Int32) h

abbrev rm_X6_book : Room := { frames := 2, cells := 0, slots := 0, locals := 43 }
theorem dsX6_book : yX6_book.cls = RX6 ∧ yX6_book.cls ≠ "java/lang/invoke/MethodHandle" ∧ yX6_book.cls ≠ "java/lang/invoke/VarHandle" ∧ (parseMethodDescriptor yX6_book.desc).map (fun d => d.parameters.length) = some 2 := by decide +kernel
theorem gv_RX6_X6_isOpen : GoodIn wsL_law (wsV RX6 117 RX6 yX6_isOpen (.code yX6_isOpen cX6_isOpen 2 (some .boolean) :: wsL_law)) := good_V q280 q281 q282 q5 q283
theorem gv_RX6_X6_noTour : GoodIn wsL_law (wsV RX6 114 RX6 yX6_noTour (.code yX6_noTour cX6_noTour 2 (some .boolean) :: wsL_law)) := good_V q276 q277 q278 q5 q279
def f_X6_book (S : Hp) (x0 : Nat) (x1 : Int32) (x2 : Int32) : Option (Int32 × Hp) :=
 ob S 6 (some x0) fun b1 => cl (f_X6_noTour S b1 x1) fun v1 S1 =>
 if v1 = 0 then
 cl (f_X6_in S1 x2 (1 : Int32) (12 : Int32)) fun v2 S2 =>
 if v2 = 0 then
 some ((-2 : Int32), S2)
 else
 ob S2 6 (some x0) fun b2 => cl (f_X6_isOpen S2 b2 x1) fun v3 S3 =>
 if v3 = 0 then
 some ((-4 : Int32), S3)
 else
 ob S3 6 (some x0) fun b3 => cl (f_X6_of S3 b3 x1 (3 : Int32)) fun v4 S4 =>
 if (v4 + x2) ≤ 12 then
 ob S4 6 (some x0) fun b4 => cl (f_X6_record S4 b4 ) fun _ S5 =>
 ob S5 6 (some x0) fun b5 => cl (f_X6_of S5 b5 x1 (1 : Int32)) fun v5 S6 =>
 bnd ((x2 * v5)) fun v6 =>
 ob S6 6 (some x0) fun b6 => cl (f_X6_of S6 b6 x1 (3 : Int32)) fun v7 S7 =>
 ob S7 6 (some x0) fun b7 => cl (f_X6_to S7 b7 x1 (3 : Int32) (v7 + x2)) fun _ S8 =>
 ob S8 6 (some x0) fun b8 => cl (f_X6_of S8 b8 x1 (5 : Int32)) fun v8 S9 =>
 ob S9 6 (some x0) fun b9 => cl (f_X6_to S9 b9 x1 (5 : Int32) (v8 + v6)) fun _ S10 =>
 some (v6, S10)
 else
 some ((-3 : Int32), S4)
 else
 some ((-1 : Int32), S1)
set_option maxHeartbeats 4000000 in
set_option maxRecDepth 100000 in
theorem c_X6_book (S : Hp) (x0 : Nat) (x1 : Int32) (x2 : Int32) (o : Int32 × Hp) (h : f_X6_book S x0 x1 x2 = some o) : CtI yX6_book cX6_book 4 (some .int) rm_X6_book 0 0 [va_rf (some x0), .int x1, .int x2] S o := by
  refine ct_I (own := RX6) (by decide) rfl (Nat.le_of_ble_eq_true rfl) (fun X C hn hQ => ?_)
  have hn3 : 3 < xn X := by rw [hn]; decide
  unfold f_X6_book at h
  show GW X 0 0 S 0 [(0, va_rf (some x0)), (1, .int x1), (2, .int x2)] []
  refine g_aload_n C (q := 0) dX6_book_0 rfl rfl ?_
  refine g_iload_n C (q := 1) dX6_book_1 rfl rfl ?_
  refine g_callVI C (ci := 6) (As := [.int x1]) (np := 1) (st := []) (r := (some x0)) rfl (by decide) (fun b1 q hq => c_X6_noTour S b1 x1 q hq) gv_RX6_X6_noTour rfl rfl dsX6_noTour rfl ⟨Nat.le_of_ble_eq_true rfl, Nat.le_of_ble_eq_true rfl⟩ rfl (cat_sum (Nat.le_of_ble_eq_true rfl)) ⟨Nat.zero_le _, Nat.zero_le _⟩ dX6_book_2 h (fun v1 S1 h => ?_)
  refine g_if_eq C (tgt := 10) dX6_book_5 (by decide) h (fun h => ?_) (fun h => ?_)
  · refine g_iload_n C (q := 2) dX6_book_10 rfl rfl ?_
    refine g_iconst C (v := 1) dX6_book_11 (by decide) ?_
    refine g_bipush C (v := 12) dX6_book_12 (by decide) ?_
    refine g_callSI C (As := [.int x2, .int 1, .int 12]) (np := 3) (st := []) (fun q hq => c_X6_in S1 x2 (1 : Int32) (12 : Int32) q hq) gs_RX6_X6_in rfl rfl dsX6_in rfl ⟨Nat.le_of_ble_eq_true rfl, Nat.le_of_ble_eq_true rfl⟩ rfl (cat_sum (Nat.le_of_ble_eq_true rfl)) ⟨Nat.zero_le _, Nat.zero_le _⟩ dX6_book_14 h (fun v2 S2 h => ?_)
    refine g_if_ne C (tgt := 23) dX6_book_17 (by decide) h (fun h => ?_) (fun h => ?_)
    · refine g_bipush C (v := (-2)) dX6_book_20 (by decide) ?_
      exact g_iret C hQ dX6_book_22 h
    · refine g_aload_n C (q := 0) dX6_book_23 rfl rfl ?_
      refine g_iload_n C (q := 1) dX6_book_24 rfl rfl ?_
      refine g_callVI C (ci := 6) (As := [.int x1]) (np := 1) (st := []) (r := (some x0)) rfl (by decide) (fun b2 q hq => c_X6_isOpen S2 b2 x1 q hq) gv_RX6_X6_isOpen rfl rfl dsX6_isOpen rfl ⟨Nat.le_of_ble_eq_true rfl, Nat.le_of_ble_eq_true rfl⟩ rfl (cat_sum (Nat.le_of_ble_eq_true rfl)) ⟨Nat.zero_le _, Nat.zero_le _⟩ dX6_book_25 h (fun v3 S3 h => ?_)
      refine g_if_ne C (tgt := 34) dX6_book_28 (by decide) h (fun h => ?_) (fun h => ?_)
      · refine g_bipush C (v := (-4)) dX6_book_31 (by decide) ?_
        exact g_iret C hQ dX6_book_33 h
      · refine g_aload_n C (q := 0) dX6_book_34 rfl rfl ?_
        refine g_iload_n C (q := 1) dX6_book_35 rfl rfl ?_
        refine g_iconst C (v := 3) dX6_book_36 (by decide) ?_
        refine g_callVI C (ci := 6) (As := [.int x1, .int 3]) (np := 2) (st := []) (r := (some x0)) rfl (by decide) (fun b3 q hq => c_X6_of S3 b3 x1 (3 : Int32) q hq) gv_RX6_X6_of rfl rfl dsX6_of rfl ⟨Nat.le_of_ble_eq_true rfl, Nat.le_of_ble_eq_true rfl⟩ rfl (cat_sum (Nat.le_of_ble_eq_true rfl)) ⟨Nat.zero_le _, Nat.zero_le _⟩ dX6_book_37 h (fun v4 S4 h => ?_)
        refine g_iload_n C (q := 2) dX6_book_40 rfl rfl ?_
        refine g_iadd C dX6_book_41 ?_
        refine g_bipush C (v := 12) dX6_book_42 (by decide) ?_
        refine g_icmp_le C (tgt := 50) dX6_book_44 (by decide) h (fun h => ?_) (fun h => ?_)
        · refine g_aload_n C (q := 0) dX6_book_50 rfl rfl ?_
          refine g_callVV C (ci := 6) (As := []) (np := 0) (st := []) (r := (some x0)) rfl (by decide) (fun b4 q hq => c_X6_record S4 b4  q hq) gv_RX6_X6_record rfl rfl dsX6_record rfl ⟨Nat.le_of_ble_eq_true rfl, Nat.le_of_ble_eq_true rfl⟩ rfl (cat_sum (Nat.le_of_ble_eq_true rfl)) ⟨Nat.zero_le _, Nat.zero_le _⟩ dX6_book_51 h (fun S5 h => ?_)
          refine g_iload_n C (q := 2) dX6_book_54 rfl rfl ?_
          refine g_aload_n C (q := 0) dX6_book_55 rfl rfl ?_
          refine g_iload_n C (q := 1) dX6_book_56 rfl rfl ?_
          refine g_iconst C (v := 1) dX6_book_57 (by decide) ?_
          refine g_callVI C (ci := 6) (As := [.int x1, .int 1]) (np := 2) (st := [.int x2]) (r := (some x0)) rfl (by decide) (fun b5 q hq => c_X6_of S5 b5 x1 (1 : Int32) q hq) gv_RX6_X6_of rfl rfl dsX6_of rfl ⟨Nat.le_of_ble_eq_true rfl, Nat.le_of_ble_eq_true rfl⟩ rfl (cat_sum (Nat.le_of_ble_eq_true rfl)) ⟨Nat.zero_le _, Nat.zero_le _⟩ dX6_book_58 h (fun v5 S6 h => ?_)
          refine g_imul C dX6_book_61 ?_
          refine g_nmI h (fun v6 h => ?_)
          refine g_istore_n C (i := 3) (lv' := [(3, .int v6), (0, va_rf (some x0)), (1, .int x1), (2, .int x2)]) dX6_book_62 rfl hn3 rfl ?_
          refine g_aload_n C (q := 1) dX6_book_63 rfl rfl ?_
          refine g_iload_n C (q := 2) dX6_book_64 rfl rfl ?_
          refine g_iconst C (v := 3) dX6_book_65 (by decide) ?_
          refine g_aload_n C (q := 1) dX6_book_66 rfl rfl ?_
          refine g_iload_n C (q := 2) dX6_book_67 rfl rfl ?_
          refine g_iconst C (v := 3) dX6_book_68 (by decide) ?_
          refine g_callVI C (ci := 6) (As := [.int x1, .int 3]) (np := 2) (st := [.int 3, .int x1, va_rf (some x0)]) (r := (some x0)) rfl (by decide) (fun b6 q hq => c_X6_of S6 b6 x1 (3 : Int32) q hq) gv_RX6_X6_of rfl rfl dsX6_of rfl ⟨Nat.le_of_ble_eq_true rfl, Nat.le_of_ble_eq_true rfl⟩ rfl (cat_sum (Nat.le_of_ble_eq_true rfl)) ⟨Nat.zero_le _, Nat.zero_le _⟩ dX6_book_69 h (fun v7 S7 h => ?_)
          refine g_iload_n C (q := 3) dX6_book_72 rfl rfl ?_
          refine g_iadd C dX6_book_73 ?_
          refine g_callVV C (ci := 6) (As := [.int x1, .int 3, .int (v7 + x2)]) (np := 3) (st := []) (r := (some x0)) rfl (by decide) (fun b7 q hq => c_X6_to S7 b7 x1 (3 : Int32) (v7 + x2) q hq) gv_RX6_X6_to rfl rfl dsX6_to rfl ⟨Nat.le_of_ble_eq_true rfl, Nat.le_of_ble_eq_true rfl⟩ rfl (cat_sum (Nat.le_of_ble_eq_true rfl)) ⟨Nat.zero_le _, Nat.zero_le _⟩ dX6_book_74 h (fun S8 h => ?_)
          refine g_aload_n C (q := 1) dX6_book_77 rfl rfl ?_
          refine g_iload_n C (q := 2) dX6_book_78 rfl rfl ?_
          refine g_iconst C (v := 5) dX6_book_79 (by decide) ?_
          refine g_aload_n C (q := 1) dX6_book_80 rfl rfl ?_
          refine g_iload_n C (q := 2) dX6_book_81 rfl rfl ?_
          refine g_iconst C (v := 5) dX6_book_82 (by decide) ?_
          refine g_callVI C (ci := 6) (As := [.int x1, .int 5]) (np := 2) (st := [.int 5, .int x1, va_rf (some x0)]) (r := (some x0)) rfl (by decide) (fun b8 q hq => c_X6_of S8 b8 x1 (5 : Int32) q hq) gv_RX6_X6_of rfl rfl dsX6_of rfl ⟨Nat.le_of_ble_eq_true rfl, Nat.le_of_ble_eq_true rfl⟩ rfl (cat_sum (Nat.le_of_ble_eq_true rfl)) ⟨Nat.zero_le _, Nat.zero_le _⟩ dX6_book_83 h (fun v8 S9 h => ?_)
          refine g_iload_n C (q := 0) dX6_book_86 rfl rfl ?_
          refine g_iadd C dX6_book_87 ?_
          refine g_callVV C (ci := 6) (As := [.int x1, .int 5, .int (v8 + v6)]) (np := 3) (st := []) (r := (some x0)) rfl (by decide) (fun b9 q hq => c_X6_to S9 b9 x1 (5 : Int32) (v8 + v6) q hq) gv_RX6_X6_to rfl rfl dsX6_to rfl ⟨Nat.le_of_ble_eq_true rfl, Nat.le_of_ble_eq_true rfl⟩ rfl (cat_sum (Nat.le_of_ble_eq_true rfl)) ⟨Nat.zero_le _, Nat.zero_le _⟩ dX6_book_88 h (fun S10 h => ?_)
          refine g_iload_n C (q := 0) dX6_book_91 rfl rfl ?_
          exact g_iret C hQ dX6_book_92 h
        · refine g_bipush C (v := (-3)) dX6_book_47 (by decide) ?_
          exact g_iret C hQ dX6_book_49 h
  · refine g_iconst C (v := (-1)) dX6_book_8 (by decide) ?_
    exact g_iret C hQ dX6_book_9 h

abbrev rm_X6_refunds : Room := { frames := 1, cells := 0, slots := 0, locals := 23 }
theorem dsX6_refunds : yX6_refunds.cls = RX6 ∧ yX6_refunds.cls ≠ "java/lang/invoke/MethodHandle" ∧ yX6_refunds.cls ≠ "java/lang/invoke/VarHandle" ∧ (parseMethodDescriptor yX6_refunds.desc).map (fun d => d.parameters.length) = some 2 := by decide +kernel
def f_X6_refunds (S : Hp) (x0 : Nat) (x1 : Int32) (x2 : Int32) : Option (Unit × Hp) :=
 ob S 6 (some x0) fun b1 => cl (f_X6_of S b1 x1 (5 : Int32)) fun v1 S1 =>
 ob S1 6 (some x0) fun b2 => cl (f_X6_to S1 b2 x1 (5 : Int32) (v1 - x2)) fun _ S2 =>
 ob S2 6 (some x0) fun _ =>
 ar S2 9 (zR S2 x0 0) (4 : Int32) fun a2 i1 =>
 ar S2 9 (zR S2 x0 0) (4 : Int32) fun a3 i2 => bnd (wI S2 a3 i2 ((zI S2 a2 i1) + x2)) fun S3 =>
 some ((), S3)
set_option maxHeartbeats 4000000 in
set_option maxRecDepth 100000 in
theorem c_X6_refunds (S : Hp) (x0 : Nat) (x1 : Int32) (x2 : Int32) (o : Unit × Hp) (h : f_X6_refunds S x0 x1 x2 = some o) : CtV yX6_refunds cX6_refunds 3 none rm_X6_refunds 0 0 [va_rf (some x0), .int x1, .int x2] S o := by
  refine ct_V (own := RX6) (by decide) rfl (Nat.le_of_ble_eq_true rfl) (fun X C hn hQ => ?_)
  unfold f_X6_refunds at h
  show GW X 0 0 S 0 [(0, va_rf (some x0)), (1, .int x1), (2, .int x2)] []
  refine g_aload_n C (q := 0) dX6_refunds_0 rfl rfl ?_
  refine g_iload_n C (q := 1) dX6_refunds_1 rfl rfl ?_
  refine g_iconst C (v := 5) dX6_refunds_2 (by decide) ?_
  refine g_aload_n C (q := 0) dX6_refunds_3 rfl rfl ?_
  refine g_iload_n C (q := 1) dX6_refunds_4 rfl rfl ?_
  refine g_iconst C (v := 5) dX6_refunds_5 (by decide) ?_
  refine g_callVI C (ci := 6) (As := [.int x1, .int 5]) (np := 2) (st := [.int 5, .int x1, va_rf (some x0)]) (r := (some x0)) rfl (by decide) (fun b1 q hq => c_X6_of S b1 x1 (5 : Int32) q hq) gv_RX6_X6_of rfl rfl dsX6_of rfl ⟨Nat.le_of_ble_eq_true rfl, Nat.le_of_ble_eq_true rfl⟩ rfl (cat_sum (Nat.le_of_ble_eq_true rfl)) ⟨Nat.zero_le _, Nat.zero_le _⟩ dX6_refunds_6 h (fun v1 S1 h => ?_)
  refine g_iload_n C (q := 2) dX6_refunds_9 rfl rfl ?_
  refine g_isub C dX6_refunds_10 ?_
  refine g_callVV C (ci := 6) (As := [.int x1, .int 5, .int (v1 - x2)]) (np := 3) (st := []) (r := (some x0)) rfl (by decide) (fun b2 q hq => c_X6_to S1 b2 x1 (5 : Int32) (v1 - x2) q hq) gv_RX6_X6_to rfl rfl dsX6_to rfl ⟨Nat.le_of_ble_eq_true rfl, Nat.le_of_ble_eq_true rfl⟩ rfl (cat_sum (Nat.le_of_ble_eq_true rfl)) ⟨Nat.zero_le _, Nat.zero_le _⟩ dX6_refunds_11 h (fun S2 h => ?_)
  refine g_aload_n C (q := 0) dX6_refunds_14 rfl rfl ?_
  refine g_ogetSR C (ci := 6) (slot := 0) rfl (by decide) inlX6 (by decide) rfl q66 dX6_refunds_15 h (fun h hLa1 hKa1 => ?_)
  refine g_iconst C (v := 4) dX6_refunds_18 (by decide) ?_
  refine g_dup2 C dX6_refunds_19 rfl (va_rf_cat _) ?_
  refine g_iald C dX6_refunds_20 h (fun a2 i1 h => ?_)
  refine g_iload_n C (q := 2) dX6_refunds_21 rfl rfl ?_
  refine g_iadd C dX6_refunds_22 ?_
  refine g_iast C dX6_refunds_23 h (fun a3 i2 S3 h => ?_)
  exact g_vret C hQ dX6_refunds_24 h

abbrev rm_X6_leave : Room := { frames := 2, cells := 0, slots := 0, locals := 45 }
theorem dsX6_leave : yX6_leave.cls = RX6 ∧ yX6_leave.cls ≠ "java/lang/invoke/MethodHandle" ∧ yX6_leave.cls ≠ "java/lang/invoke/VarHandle" ∧ (parseMethodDescriptor yX6_leave.desc).map (fun d => d.parameters.length) = some 2 := by decide +kernel
theorem gv_RX6_X6_refunds : GoodIn wsL_law (wsV RX6 124 RX6 yX6_refunds (.code yX6_refunds cX6_refunds 3 none :: wsL_law)) := good_V q312 q313 q314 q5 q315
def f_X6_leave (S : Hp) (x0 : Nat) (x1 : Int32) (x2 : Int32) : Option (Int32 × Hp) :=
 ob S 6 (some x0) fun b1 => cl (f_X6_noTour S b1 x1) fun v1 S1 =>
 if v1 = 0 then
 cl (f_X6_in S1 x2 (1 : Int32) (12 : Int32)) fun v2 S2 =>
 if v2 = 0 then
 some ((-2 : Int32), S2)
 else
 ob S2 6 (some x0) fun b2 => cl (f_X6_isOpen S2 b2 x1) fun v3 S3 =>
 if v3 = 0 then
 some ((-4 : Int32), S3)
 else
 ob S3 6 (some x0) fun b3 => cl (f_X6_of S3 b3 x1 (3 : Int32)) fun v4 S4 =>
 if x2 ≤ v4 then
 ob S4 6 (some x0) fun b4 => cl (f_X6_record S4 b4 ) fun _ S5 =>
 ob S5 6 (some x0) fun b5 => cl (f_X6_of S5 b5 x1 (0 : Int32)) fun v5 S6 =>
 ob S6 6 (some x0) fun _ =>
 ar S6 9 (zR S6 x0 0) (0 : Int32) fun a2 i1 =>
 bnd ((v5 - (zI S6 a2 i1))) fun v6 =>
 if v6 < 14 then
 if v6 < 7 then
 if v6 < 3 then
 bnd (FP.dconst0) fun e1 =>
 ob S6 6 (some x0) fun b6 => cl (f_X6_of S6 b6 x1 (5 : Int32)) fun v7 S7 =>
 ob S7 6 (some x0) fun b7 => cl (f_X6_of S7 b7 x1 (3 : Int32)) fun v8 S8 =>
 fpg (FP.ddiv (FP.i2d v7) (FP.i2d v8)) <|
 fpg (FP.dmul (FP.ddiv (FP.i2d v7) (FP.i2d v8)) (FP.i2d x2)) <|
 fpg (FP.dmul (FP.dmul (FP.ddiv (FP.i2d v7) (FP.i2d v8)) (FP.i2d x2)) e1) <|
 bnd ((FP.d2i (FP.dmul (FP.dmul (FP.ddiv (FP.i2d v7) (FP.i2d v8)) (FP.i2d x2)) e1))) fun v9 =>
 ob S8 6 (some x0) fun b8 => cl (f_X6_of S8 b8 x1 (3 : Int32)) fun v10 S9 =>
 ob S9 6 (some x0) fun b9 => cl (f_X6_to S9 b9 x1 (3 : Int32) (v10 - x2)) fun _ S10 =>
 ob S10 6 (some x0) fun b10 => cl (f_X6_refunds S10 b10 x1 v9) fun _ S11 =>
 some (v9, S11)
 else
 ob S6 6 (some x0) fun b11 => cl (f_X6_of S6 b11 x1 (5 : Int32)) fun v11 S12 =>
 ob S12 6 (some x0) fun b12 => cl (f_X6_of S12 b12 x1 (3 : Int32)) fun v12 S13 =>
 fpg (FP.ddiv (FP.i2d v11) (FP.i2d v12)) <|
 fpg (FP.dmul (FP.ddiv (FP.i2d v11) (FP.i2d v12)) (FP.i2d x2)) <|
 fpg (FP.dmul (FP.dmul (FP.ddiv (FP.i2d v11) (FP.i2d v12)) (FP.i2d x2)) 4602678819172646912) <|
 bnd ((FP.d2i (FP.dmul (FP.dmul (FP.ddiv (FP.i2d v11) (FP.i2d v12)) (FP.i2d x2)) 4602678819172646912))) fun v13 =>
 ob S13 6 (some x0) fun b13 => cl (f_X6_of S13 b13 x1 (3 : Int32)) fun v14 S14 =>
 ob S14 6 (some x0) fun b14 => cl (f_X6_to S14 b14 x1 (3 : Int32) (v14 - x2)) fun _ S15 =>
 ob S15 6 (some x0) fun b15 => cl (f_X6_refunds S15 b15 x1 v13) fun _ S16 =>
 some (v13, S16)
 else
 ob S6 6 (some x0) fun b16 => cl (f_X6_of S6 b16 x1 (5 : Int32)) fun v15 S17 =>
 ob S17 6 (some x0) fun b17 => cl (f_X6_of S17 b17 x1 (3 : Int32)) fun v16 S18 =>
 fpg (FP.ddiv (FP.i2d v15) (FP.i2d v16)) <|
 fpg (FP.dmul (FP.ddiv (FP.i2d v15) (FP.i2d v16)) (FP.i2d x2)) <|
 fpg (FP.dmul (FP.dmul (FP.ddiv (FP.i2d v15) (FP.i2d v16)) (FP.i2d x2)) 4604930618986332160) <|
 bnd ((FP.d2i (FP.dmul (FP.dmul (FP.ddiv (FP.i2d v15) (FP.i2d v16)) (FP.i2d x2)) 4604930618986332160))) fun v17 =>
 ob S18 6 (some x0) fun b18 => cl (f_X6_of S18 b18 x1 (3 : Int32)) fun v18 S19 =>
 ob S19 6 (some x0) fun b19 => cl (f_X6_to S19 b19 x1 (3 : Int32) (v18 - x2)) fun _ S20 =>
 ob S20 6 (some x0) fun b20 => cl (f_X6_refunds S20 b20 x1 v17) fun _ S21 =>
 some (v17, S21)
 else
 bnd (FP.dconst1) fun e2 =>
 ob S6 6 (some x0) fun b21 => cl (f_X6_of S6 b21 x1 (5 : Int32)) fun v19 S22 =>
 ob S22 6 (some x0) fun b22 => cl (f_X6_of S22 b22 x1 (3 : Int32)) fun v20 S23 =>
 fpg (FP.ddiv (FP.i2d v19) (FP.i2d v20)) <|
 fpg (FP.dmul (FP.ddiv (FP.i2d v19) (FP.i2d v20)) (FP.i2d x2)) <|
 fpg (FP.dmul (FP.dmul (FP.ddiv (FP.i2d v19) (FP.i2d v20)) (FP.i2d x2)) e2) <|
 bnd ((FP.d2i (FP.dmul (FP.dmul (FP.ddiv (FP.i2d v19) (FP.i2d v20)) (FP.i2d x2)) e2))) fun v21 =>
 ob S23 6 (some x0) fun b23 => cl (f_X6_of S23 b23 x1 (3 : Int32)) fun v22 S24 =>
 ob S24 6 (some x0) fun b24 => cl (f_X6_to S24 b24 x1 (3 : Int32) (v22 - x2)) fun _ S25 =>
 ob S25 6 (some x0) fun b25 => cl (f_X6_refunds S25 b25 x1 v21) fun _ S26 =>
 some (v21, S26)
 else
 some ((-4 : Int32), S4)
 else
 some ((-1 : Int32), S1)
set_option maxHeartbeats 4000000 in
set_option maxRecDepth 100000 in
theorem c_X6_leave (S : Hp) (x0 : Nat) (x1 : Int32) (x2 : Int32) (o : Int32 × Hp) (h : f_X6_leave S x0 x1 x2 = some o) : CtI yX6_leave cX6_leave 7 (some .int) rm_X6_leave 0 0 [va_rf (some x0), .int x1, .int x2] S o := by
  refine ct_I (own := RX6) (by decide) rfl (Nat.le_of_ble_eq_true rfl) (fun X C hn hQ => ?_)
  have hn3 : 3 < xn X := by rw [hn]; decide
  have hn5 : 5 < xn X := by rw [hn]; decide
  have hn6 : 6 < xn X := by rw [hn]; decide
  unfold f_X6_leave at h
  show GW X 0 0 S 0 [(0, va_rf (some x0)), (1, .int x1), (2, .int x2)] []
  refine g_aload_n C (q := 0) dX6_leave_0 rfl rfl ?_
  refine g_iload_n C (q := 1) dX6_leave_1 rfl rfl ?_
  refine g_callVI C (ci := 6) (As := [.int x1]) (np := 1) (st := []) (r := (some x0)) rfl (by decide) (fun b1 q hq => c_X6_noTour S b1 x1 q hq) gv_RX6_X6_noTour rfl rfl dsX6_noTour rfl ⟨Nat.le_of_ble_eq_true rfl, Nat.le_of_ble_eq_true rfl⟩ rfl (cat_sum (Nat.le_of_ble_eq_true rfl)) ⟨Nat.zero_le _, Nat.zero_le _⟩ dX6_leave_2 h (fun v1 S1 h => ?_)
  refine g_if_eq C (tgt := 10) dX6_leave_5 (by decide) h (fun h => ?_) (fun h => ?_)
  · refine g_iload_n C (q := 2) dX6_leave_10 rfl rfl ?_
    refine g_iconst C (v := 1) dX6_leave_11 (by decide) ?_
    refine g_bipush C (v := 12) dX6_leave_12 (by decide) ?_
    refine g_callSI C (As := [.int x2, .int 1, .int 12]) (np := 3) (st := []) (fun q hq => c_X6_in S1 x2 (1 : Int32) (12 : Int32) q hq) gs_RX6_X6_in rfl rfl dsX6_in rfl ⟨Nat.le_of_ble_eq_true rfl, Nat.le_of_ble_eq_true rfl⟩ rfl (cat_sum (Nat.le_of_ble_eq_true rfl)) ⟨Nat.zero_le _, Nat.zero_le _⟩ dX6_leave_14 h (fun v2 S2 h => ?_)
    refine g_if_ne C (tgt := 23) dX6_leave_17 (by decide) h (fun h => ?_) (fun h => ?_)
    · refine g_bipush C (v := (-2)) dX6_leave_20 (by decide) ?_
      exact g_iret C hQ dX6_leave_22 h
    · refine g_aload_n C (q := 0) dX6_leave_23 rfl rfl ?_
      refine g_iload_n C (q := 1) dX6_leave_24 rfl rfl ?_
      refine g_callVI C (ci := 6) (As := [.int x1]) (np := 1) (st := []) (r := (some x0)) rfl (by decide) (fun b2 q hq => c_X6_isOpen S2 b2 x1 q hq) gv_RX6_X6_isOpen rfl rfl dsX6_isOpen rfl ⟨Nat.le_of_ble_eq_true rfl, Nat.le_of_ble_eq_true rfl⟩ rfl (cat_sum (Nat.le_of_ble_eq_true rfl)) ⟨Nat.zero_le _, Nat.zero_le _⟩ dX6_leave_25 h (fun v3 S3 h => ?_)
      refine g_if_eq C (tgt := 41) dX6_leave_28 (by decide) h (fun h => ?_) (fun h => ?_)
      · refine g_bipush C (v := (-4)) dX6_leave_41 (by decide) ?_
        exact g_iret C hQ dX6_leave_43 h
      · refine g_aload_n C (q := 0) dX6_leave_31 rfl rfl ?_
        refine g_iload_n C (q := 1) dX6_leave_32 rfl rfl ?_
        refine g_iconst C (v := 3) dX6_leave_33 (by decide) ?_
        refine g_callVI C (ci := 6) (As := [.int x1, .int 3]) (np := 2) (st := []) (r := (some x0)) rfl (by decide) (fun b3 q hq => c_X6_of S3 b3 x1 (3 : Int32) q hq) gv_RX6_X6_of rfl rfl dsX6_of rfl ⟨Nat.le_of_ble_eq_true rfl, Nat.le_of_ble_eq_true rfl⟩ rfl (cat_sum (Nat.le_of_ble_eq_true rfl)) ⟨Nat.zero_le _, Nat.zero_le _⟩ dX6_leave_34 h (fun v4 S4 h => ?_)
        refine g_iload_n C (q := 2) dX6_leave_37 rfl rfl ?_
        refine g_icmp_ge C (tgt := 44) dX6_leave_38 (by decide) h (fun h => ?_) (fun h => ?_)
        · refine g_aload_n C (q := 0) dX6_leave_44 rfl rfl ?_
          refine g_callVV C (ci := 6) (As := []) (np := 0) (st := []) (r := (some x0)) rfl (by decide) (fun b4 q hq => c_X6_record S4 b4  q hq) gv_RX6_X6_record rfl rfl dsX6_record rfl ⟨Nat.le_of_ble_eq_true rfl, Nat.le_of_ble_eq_true rfl⟩ rfl (cat_sum (Nat.le_of_ble_eq_true rfl)) ⟨Nat.zero_le _, Nat.zero_le _⟩ dX6_leave_45 h (fun S5 h => ?_)
          refine g_aload_n C (q := 0) dX6_leave_48 rfl rfl ?_
          refine g_iload_n C (q := 1) dX6_leave_49 rfl rfl ?_
          refine g_iconst C (v := 0) dX6_leave_50 (by decide) ?_
          refine g_callVI C (ci := 6) (As := [.int x1, .int 0]) (np := 2) (st := []) (r := (some x0)) rfl (by decide) (fun b5 q hq => c_X6_of S5 b5 x1 (0 : Int32) q hq) gv_RX6_X6_of rfl rfl dsX6_of rfl ⟨Nat.le_of_ble_eq_true rfl, Nat.le_of_ble_eq_true rfl⟩ rfl (cat_sum (Nat.le_of_ble_eq_true rfl)) ⟨Nat.zero_le _, Nat.zero_le _⟩ dX6_leave_51 h (fun v5 S6 h => ?_)
          refine g_aload_n C (q := 0) dX6_leave_54 rfl rfl ?_
          refine g_ogetSR C (ci := 6) (slot := 0) rfl (by decide) inlX6 (by decide) rfl q66 dX6_leave_55 h (fun h hLa1 hKa1 => ?_)
          refine g_iconst C (v := 0) dX6_leave_58 (by decide) ?_
          refine g_iald C dX6_leave_59 h (fun a2 i1 h => ?_)
          refine g_isub C dX6_leave_60 ?_
          refine g_nmI h (fun v6 h => ?_)
          refine g_istore_n C (i := 3) (lv' := [(3, .int v6), (0, va_rf (some x0)), (1, .int x1), (2, .int x2)]) dX6_leave_61 rfl hn3 rfl ?_
          refine g_iload_n C (q := 0) dX6_leave_62 rfl rfl ?_
          refine g_bipush C (v := 14) dX6_leave_63 (by decide) ?_
          refine g_icmp_lt C (tgt := 72) dX6_leave_65 (by decide) h (fun h => ?_) (fun h => ?_)
          · refine g_iload_n C (q := 0) dX6_leave_72 rfl rfl ?_
            refine g_bipush C (v := 7) dX6_leave_73 (by decide) ?_
            refine g_icmp_lt C (tgt := 84) dX6_leave_75 (by decide) h (fun h => ?_) (fun h => ?_)
            · refine g_iload_n C (q := 0) dX6_leave_84 rfl rfl ?_
              refine g_iconst C (v := 3) dX6_leave_85 (by decide) ?_
              refine g_icmp_lt C (tgt := 95) dX6_leave_86 (by decide) h (fun h => ?_) (fun h => ?_)
              · refine g_dconst0 C dX6_leave_95 ?_
                refine g_nmD h (fun e1 h => ?_)
                refine g_dstore C (i := 4) (lv' := [(4, .double e1), (3, .int v6), (0, va_rf (some x0)), (1, .int x1), (2, .int x2)]) dX6_leave_96 hn5 rfl ?_
                refine g_aload_n C (q := 2) dX6_leave_98 rfl rfl ?_
                refine g_iload_n C (q := 3) dX6_leave_99 rfl rfl ?_
                refine g_iconst C (v := 5) dX6_leave_100 (by decide) ?_
                refine g_callVI C (ci := 6) (As := [.int x1, .int 5]) (np := 2) (st := []) (r := (some x0)) rfl (by decide) (fun b6 q hq => c_X6_of S6 b6 x1 (5 : Int32) q hq) gv_RX6_X6_of rfl rfl dsX6_of rfl ⟨Nat.le_of_ble_eq_true rfl, Nat.le_of_ble_eq_true rfl⟩ rfl (cat_sum (Nat.le_of_ble_eq_true rfl)) ⟨Nat.zero_le _, Nat.zero_le _⟩ dX6_leave_101 h (fun v7 S7 h => ?_)
                refine g_i2d C dX6_leave_104 ?_
                refine g_aload_n C (q := 2) dX6_leave_105 rfl rfl ?_
                refine g_iload_n C (q := 3) dX6_leave_106 rfl rfl ?_
                refine g_iconst C (v := 3) dX6_leave_107 (by decide) ?_
                refine g_callVI C (ci := 6) (As := [.int x1, .int 3]) (np := 2) (st := [.double (FP.i2d v7)]) (r := (some x0)) rfl (by decide) (fun b7 q hq => c_X6_of S7 b7 x1 (3 : Int32) q hq) gv_RX6_X6_of rfl rfl dsX6_of rfl ⟨Nat.le_of_ble_eq_true rfl, Nat.le_of_ble_eq_true rfl⟩ rfl (cat_sum (Nat.le_of_ble_eq_true rfl)) ⟨Nat.zero_le _, Nat.zero_le _⟩ dX6_leave_108 h (fun v8 S8 h => ?_)
                refine g_i2d C dX6_leave_111 ?_
                refine g_ddiv C dX6_leave_112 h (fun h => ?_)
                refine g_iload_n C (q := 4) dX6_leave_113 rfl rfl ?_
                refine g_i2d C dX6_leave_114 ?_
                refine g_dmul C dX6_leave_115 h (fun h => ?_)
                refine g_dload C (q := 0) dX6_leave_116 rfl ?_
                refine g_dmul C dX6_leave_118 h (fun h => ?_)
                refine g_d2i C dX6_leave_119 ?_
                refine g_nmI h (fun v9 h => ?_)
                refine g_istore C (i := 6) (lv' := [(6, .int v9), (4, .double e1), (3, .int v6), (0, va_rf (some x0)), (1, .int x1), (2, .int x2)]) dX6_leave_120 hn6 rfl ?_
                refine g_aload_n C (q := 3) dX6_leave_122 rfl rfl ?_
                refine g_iload_n C (q := 4) dX6_leave_123 rfl rfl ?_
                refine g_iconst C (v := 3) dX6_leave_124 (by decide) ?_
                refine g_aload_n C (q := 3) dX6_leave_125 rfl rfl ?_
                refine g_iload_n C (q := 4) dX6_leave_126 rfl rfl ?_
                refine g_iconst C (v := 3) dX6_leave_127 (by decide) ?_
                refine g_callVI C (ci := 6) (As := [.int x1, .int 3]) (np := 2) (st := [.int 3, .int x1, va_rf (some x0)]) (r := (some x0)) rfl (by decide) (fun b8 q hq => c_X6_of S8 b8 x1 (3 : Int32) q hq) gv_RX6_X6_of rfl rfl dsX6_of rfl ⟨Nat.le_of_ble_eq_true rfl, Nat.le_of_ble_eq_true rfl⟩ rfl (cat_sum (Nat.le_of_ble_eq_true rfl)) ⟨Nat.zero_le _, Nat.zero_le _⟩ dX6_leave_128 h (fun v10 S9 h => ?_)
                refine g_iload_n C (q := 5) dX6_leave_131 rfl rfl ?_
                refine g_isub C dX6_leave_132 ?_
                refine g_callVV C (ci := 6) (As := [.int x1, .int 3, .int (v10 - x2)]) (np := 3) (st := []) (r := (some x0)) rfl (by decide) (fun b9 q hq => c_X6_to S9 b9 x1 (3 : Int32) (v10 - x2) q hq) gv_RX6_X6_to rfl rfl dsX6_to rfl ⟨Nat.le_of_ble_eq_true rfl, Nat.le_of_ble_eq_true rfl⟩ rfl (cat_sum (Nat.le_of_ble_eq_true rfl)) ⟨Nat.zero_le _, Nat.zero_le _⟩ dX6_leave_133 h (fun S10 h => ?_)
                refine g_aload_n C (q := 3) dX6_leave_136 rfl rfl ?_
                refine g_iload_n C (q := 4) dX6_leave_137 rfl rfl ?_
                refine g_iload C (q := 0) dX6_leave_138 rfl ?_
                refine g_callVV C (ci := 6) (As := [.int x1, .int v9]) (np := 2) (st := []) (r := (some x0)) rfl (by decide) (fun b10 q hq => c_X6_refunds S10 b10 x1 v9 q hq) gv_RX6_X6_refunds rfl rfl dsX6_refunds rfl ⟨Nat.le_of_ble_eq_true rfl, Nat.le_of_ble_eq_true rfl⟩ rfl (cat_sum (Nat.le_of_ble_eq_true rfl)) ⟨Nat.zero_le _, Nat.zero_le _⟩ dX6_leave_140 h (fun S11 h => ?_)
                refine g_iload C (q := 0) dX6_leave_143 rfl ?_
                exact g_iret C hQ dX6_leave_145 h
              · refine g_ldc2d C q311 dX6_leave_89 ?_
                refine g_goto C (tgt := 96) dX6_leave_92 (by decide) ?_
                refine g_dstore C (i := 4) (lv' := [(4, .double 4602678819172646912), (3, .int v6), (0, va_rf (some x0)), (1, .int x1), (2, .int x2)]) dX6_leave_96 hn5 rfl ?_
                refine g_aload_n C (q := 2) dX6_leave_98 rfl rfl ?_
                refine g_iload_n C (q := 3) dX6_leave_99 rfl rfl ?_
                refine g_iconst C (v := 5) dX6_leave_100 (by decide) ?_
                refine g_callVI C (ci := 6) (As := [.int x1, .int 5]) (np := 2) (st := []) (r := (some x0)) rfl (by decide) (fun b11 q hq => c_X6_of S6 b11 x1 (5 : Int32) q hq) gv_RX6_X6_of rfl rfl dsX6_of rfl ⟨Nat.le_of_ble_eq_true rfl, Nat.le_of_ble_eq_true rfl⟩ rfl (cat_sum (Nat.le_of_ble_eq_true rfl)) ⟨Nat.zero_le _, Nat.zero_le _⟩ dX6_leave_101 h (fun v11 S12 h => ?_)
                refine g_i2d C dX6_leave_104 ?_
                refine g_aload_n C (q := 2) dX6_leave_105 rfl rfl ?_
                refine g_iload_n C (q := 3) dX6_leave_106 rfl rfl ?_
                refine g_iconst C (v := 3) dX6_leave_107 (by decide) ?_
                refine g_callVI C (ci := 6) (As := [.int x1, .int 3]) (np := 2) (st := [.double (FP.i2d v11)]) (r := (some x0)) rfl (by decide) (fun b12 q hq => c_X6_of S12 b12 x1 (3 : Int32) q hq) gv_RX6_X6_of rfl rfl dsX6_of rfl ⟨Nat.le_of_ble_eq_true rfl, Nat.le_of_ble_eq_true rfl⟩ rfl (cat_sum (Nat.le_of_ble_eq_true rfl)) ⟨Nat.zero_le _, Nat.zero_le _⟩ dX6_leave_108 h (fun v12 S13 h => ?_)
                refine g_i2d C dX6_leave_111 ?_
                refine g_ddiv C dX6_leave_112 h (fun h => ?_)
                refine g_iload_n C (q := 4) dX6_leave_113 rfl rfl ?_
                refine g_i2d C dX6_leave_114 ?_
                refine g_dmul C dX6_leave_115 h (fun h => ?_)
                refine g_dload C (q := 0) dX6_leave_116 rfl ?_
                refine g_dmul C dX6_leave_118 h (fun h => ?_)
                refine g_d2i C dX6_leave_119 ?_
                refine g_nmI h (fun v13 h => ?_)
                refine g_istore C (i := 6) (lv' := [(6, .int v13), (4, .double 4602678819172646912), (3, .int v6), (0, va_rf (some x0)), (1, .int x1), (2, .int x2)]) dX6_leave_120 hn6 rfl ?_
                refine g_aload_n C (q := 3) dX6_leave_122 rfl rfl ?_
                refine g_iload_n C (q := 4) dX6_leave_123 rfl rfl ?_
                refine g_iconst C (v := 3) dX6_leave_124 (by decide) ?_
                refine g_aload_n C (q := 3) dX6_leave_125 rfl rfl ?_
                refine g_iload_n C (q := 4) dX6_leave_126 rfl rfl ?_
                refine g_iconst C (v := 3) dX6_leave_127 (by decide) ?_
                refine g_callVI C (ci := 6) (As := [.int x1, .int 3]) (np := 2) (st := [.int 3, .int x1, va_rf (some x0)]) (r := (some x0)) rfl (by decide) (fun b13 q hq => c_X6_of S13 b13 x1 (3 : Int32) q hq) gv_RX6_X6_of rfl rfl dsX6_of rfl ⟨Nat.le_of_ble_eq_true rfl, Nat.le_of_ble_eq_true rfl⟩ rfl (cat_sum (Nat.le_of_ble_eq_true rfl)) ⟨Nat.zero_le _, Nat.zero_le _⟩ dX6_leave_128 h (fun v14 S14 h => ?_)
                refine g_iload_n C (q := 5) dX6_leave_131 rfl rfl ?_
                refine g_isub C dX6_leave_132 ?_
                refine g_callVV C (ci := 6) (As := [.int x1, .int 3, .int (v14 - x2)]) (np := 3) (st := []) (r := (some x0)) rfl (by decide) (fun b14 q hq => c_X6_to S14 b14 x1 (3 : Int32) (v14 - x2) q hq) gv_RX6_X6_to rfl rfl dsX6_to rfl ⟨Nat.le_of_ble_eq_true rfl, Nat.le_of_ble_eq_true rfl⟩ rfl (cat_sum (Nat.le_of_ble_eq_true rfl)) ⟨Nat.zero_le _, Nat.zero_le _⟩ dX6_leave_133 h (fun S15 h => ?_)
                refine g_aload_n C (q := 3) dX6_leave_136 rfl rfl ?_
                refine g_iload_n C (q := 4) dX6_leave_137 rfl rfl ?_
                refine g_iload C (q := 0) dX6_leave_138 rfl ?_
                refine g_callVV C (ci := 6) (As := [.int x1, .int v13]) (np := 2) (st := []) (r := (some x0)) rfl (by decide) (fun b15 q hq => c_X6_refunds S15 b15 x1 v13 q hq) gv_RX6_X6_refunds rfl rfl dsX6_refunds rfl ⟨Nat.le_of_ble_eq_true rfl, Nat.le_of_ble_eq_true rfl⟩ rfl (cat_sum (Nat.le_of_ble_eq_true rfl)) ⟨Nat.zero_le _, Nat.zero_le _⟩ dX6_leave_140 h (fun S16 h => ?_)
                refine g_iload C (q := 0) dX6_leave_143 rfl ?_
                exact g_iret C hQ dX6_leave_145 h
            · refine g_ldc2d C q310 dX6_leave_78 ?_
              refine g_goto C (tgt := 96) dX6_leave_81 (by decide) ?_
              refine g_dstore C (i := 4) (lv' := [(4, .double 4604930618986332160), (3, .int v6), (0, va_rf (some x0)), (1, .int x1), (2, .int x2)]) dX6_leave_96 hn5 rfl ?_
              refine g_aload_n C (q := 2) dX6_leave_98 rfl rfl ?_
              refine g_iload_n C (q := 3) dX6_leave_99 rfl rfl ?_
              refine g_iconst C (v := 5) dX6_leave_100 (by decide) ?_
              refine g_callVI C (ci := 6) (As := [.int x1, .int 5]) (np := 2) (st := []) (r := (some x0)) rfl (by decide) (fun b16 q hq => c_X6_of S6 b16 x1 (5 : Int32) q hq) gv_RX6_X6_of rfl rfl dsX6_of rfl ⟨Nat.le_of_ble_eq_true rfl, Nat.le_of_ble_eq_true rfl⟩ rfl (cat_sum (Nat.le_of_ble_eq_true rfl)) ⟨Nat.zero_le _, Nat.zero_le _⟩ dX6_leave_101 h (fun v15 S17 h => ?_)
              refine g_i2d C dX6_leave_104 ?_
              refine g_aload_n C (q := 2) dX6_leave_105 rfl rfl ?_
              refine g_iload_n C (q := 3) dX6_leave_106 rfl rfl ?_
              refine g_iconst C (v := 3) dX6_leave_107 (by decide) ?_
              refine g_callVI C (ci := 6) (As := [.int x1, .int 3]) (np := 2) (st := [.double (FP.i2d v15)]) (r := (some x0)) rfl (by decide) (fun b17 q hq => c_X6_of S17 b17 x1 (3 : Int32) q hq) gv_RX6_X6_of rfl rfl dsX6_of rfl ⟨Nat.le_of_ble_eq_true rfl, Nat.le_of_ble_eq_true rfl⟩ rfl (cat_sum (Nat.le_of_ble_eq_true rfl)) ⟨Nat.zero_le _, Nat.zero_le _⟩ dX6_leave_108 h (fun v16 S18 h => ?_)
              refine g_i2d C dX6_leave_111 ?_
              refine g_ddiv C dX6_leave_112 h (fun h => ?_)
              refine g_iload_n C (q := 4) dX6_leave_113 rfl rfl ?_
              refine g_i2d C dX6_leave_114 ?_
              refine g_dmul C dX6_leave_115 h (fun h => ?_)
              refine g_dload C (q := 0) dX6_leave_116 rfl ?_
              refine g_dmul C dX6_leave_118 h (fun h => ?_)
              refine g_d2i C dX6_leave_119 ?_
              refine g_nmI h (fun v17 h => ?_)
              refine g_istore C (i := 6) (lv' := [(6, .int v17), (4, .double 4604930618986332160), (3, .int v6), (0, va_rf (some x0)), (1, .int x1), (2, .int x2)]) dX6_leave_120 hn6 rfl ?_
              refine g_aload_n C (q := 3) dX6_leave_122 rfl rfl ?_
              refine g_iload_n C (q := 4) dX6_leave_123 rfl rfl ?_
              refine g_iconst C (v := 3) dX6_leave_124 (by decide) ?_
              refine g_aload_n C (q := 3) dX6_leave_125 rfl rfl ?_
              refine g_iload_n C (q := 4) dX6_leave_126 rfl rfl ?_
              refine g_iconst C (v := 3) dX6_leave_127 (by decide) ?_
              refine g_callVI C (ci := 6) (As := [.int x1, .int 3]) (np := 2) (st := [.int 3, .int x1, va_rf (some x0)]) (r := (some x0)) rfl (by decide) (fun b18 q hq => c_X6_of S18 b18 x1 (3 : Int32) q hq) gv_RX6_X6_of rfl rfl dsX6_of rfl ⟨Nat.le_of_ble_eq_true rfl, Nat.le_of_ble_eq_true rfl⟩ rfl (cat_sum (Nat.le_of_ble_eq_true rfl)) ⟨Nat.zero_le _, Nat.zero_le _⟩ dX6_leave_128 h (fun v18 S19 h => ?_)
              refine g_iload_n C (q := 5) dX6_leave_131 rfl rfl ?_
              refine g_isub C dX6_leave_132 ?_
              refine g_callVV C (ci := 6) (As := [.int x1, .int 3, .int (v18 - x2)]) (np := 3) (st := []) (r := (some x0)) rfl (by decide) (fun b19 q hq => c_X6_to S19 b19 x1 (3 : Int32) (v18 - x2) q hq) gv_RX6_X6_to rfl rfl dsX6_to rfl ⟨Nat.le_of_ble_eq_true rfl, Nat.le_of_ble_eq_true rfl⟩ rfl (cat_sum (Nat.le_of_ble_eq_true rfl)) ⟨Nat.zero_le _, Nat.zero_le _⟩ dX6_leave_133 h (fun S20 h => ?_)
              refine g_aload_n C (q := 3) dX6_leave_136 rfl rfl ?_
              refine g_iload_n C (q := 4) dX6_leave_137 rfl rfl ?_
              refine g_iload C (q := 0) dX6_leave_138 rfl ?_
              refine g_callVV C (ci := 6) (As := [.int x1, .int v17]) (np := 2) (st := []) (r := (some x0)) rfl (by decide) (fun b20 q hq => c_X6_refunds S20 b20 x1 v17 q hq) gv_RX6_X6_refunds rfl rfl dsX6_refunds rfl ⟨Nat.le_of_ble_eq_true rfl, Nat.le_of_ble_eq_true rfl⟩ rfl (cat_sum (Nat.le_of_ble_eq_true rfl)) ⟨Nat.zero_le _, Nat.zero_le _⟩ dX6_leave_140 h (fun S21 h => ?_)
              refine g_iload C (q := 0) dX6_leave_143 rfl ?_
              exact g_iret C hQ dX6_leave_145 h
          · refine g_dconst1 C dX6_leave_68 ?_
            refine g_goto C (tgt := 96) dX6_leave_69 (by decide) ?_
            refine g_nmD h (fun e2 h => ?_)
            refine g_dstore C (i := 4) (lv' := [(4, .double e2), (3, .int v6), (0, va_rf (some x0)), (1, .int x1), (2, .int x2)]) dX6_leave_96 hn5 rfl ?_
            refine g_aload_n C (q := 2) dX6_leave_98 rfl rfl ?_
            refine g_iload_n C (q := 3) dX6_leave_99 rfl rfl ?_
            refine g_iconst C (v := 5) dX6_leave_100 (by decide) ?_
            refine g_callVI C (ci := 6) (As := [.int x1, .int 5]) (np := 2) (st := []) (r := (some x0)) rfl (by decide) (fun b21 q hq => c_X6_of S6 b21 x1 (5 : Int32) q hq) gv_RX6_X6_of rfl rfl dsX6_of rfl ⟨Nat.le_of_ble_eq_true rfl, Nat.le_of_ble_eq_true rfl⟩ rfl (cat_sum (Nat.le_of_ble_eq_true rfl)) ⟨Nat.zero_le _, Nat.zero_le _⟩ dX6_leave_101 h (fun v19 S22 h => ?_)
            refine g_i2d C dX6_leave_104 ?_
            refine g_aload_n C (q := 2) dX6_leave_105 rfl rfl ?_
            refine g_iload_n C (q := 3) dX6_leave_106 rfl rfl ?_
            refine g_iconst C (v := 3) dX6_leave_107 (by decide) ?_
            refine g_callVI C (ci := 6) (As := [.int x1, .int 3]) (np := 2) (st := [.double (FP.i2d v19)]) (r := (some x0)) rfl (by decide) (fun b22 q hq => c_X6_of S22 b22 x1 (3 : Int32) q hq) gv_RX6_X6_of rfl rfl dsX6_of rfl ⟨Nat.le_of_ble_eq_true rfl, Nat.le_of_ble_eq_true rfl⟩ rfl (cat_sum (Nat.le_of_ble_eq_true rfl)) ⟨Nat.zero_le _, Nat.zero_le _⟩ dX6_leave_108 h (fun v20 S23 h => ?_)
            refine g_i2d C dX6_leave_111 ?_
            refine g_ddiv C dX6_leave_112 h (fun h => ?_)
            refine g_iload_n C (q := 4) dX6_leave_113 rfl rfl ?_
            refine g_i2d C dX6_leave_114 ?_
            refine g_dmul C dX6_leave_115 h (fun h => ?_)
            refine g_dload C (q := 0) dX6_leave_116 rfl ?_
            refine g_dmul C dX6_leave_118 h (fun h => ?_)
            refine g_d2i C dX6_leave_119 ?_
            refine g_nmI h (fun v21 h => ?_)
            refine g_istore C (i := 6) (lv' := [(6, .int v21), (4, .double e2), (3, .int v6), (0, va_rf (some x0)), (1, .int x1), (2, .int x2)]) dX6_leave_120 hn6 rfl ?_
            refine g_aload_n C (q := 3) dX6_leave_122 rfl rfl ?_
            refine g_iload_n C (q := 4) dX6_leave_123 rfl rfl ?_
            refine g_iconst C (v := 3) dX6_leave_124 (by decide) ?_
            refine g_aload_n C (q := 3) dX6_leave_125 rfl rfl ?_
            refine g_iload_n C (q := 4) dX6_leave_126 rfl rfl ?_
            refine g_iconst C (v := 3) dX6_leave_127 (by decide) ?_
            refine g_callVI C (ci := 6) (As := [.int x1, .int 3]) (np := 2) (st := [.int 3, .int x1, va_rf (some x0)]) (r := (some x0)) rfl (by decide) (fun b23 q hq => c_X6_of S23 b23 x1 (3 : Int32) q hq) gv_RX6_X6_of rfl rfl dsX6_of rfl ⟨Nat.le_of_ble_eq_true rfl, Nat.le_of_ble_eq_true rfl⟩ rfl (cat_sum (Nat.le_of_ble_eq_true rfl)) ⟨Nat.zero_le _, Nat.zero_le _⟩ dX6_leave_128 h (fun v22 S24 h => ?_)
            refine g_iload_n C (q := 5) dX6_leave_131 rfl rfl ?_
            refine g_isub C dX6_leave_132 ?_
            refine g_callVV C (ci := 6) (As := [.int x1, .int 3, .int (v22 - x2)]) (np := 3) (st := []) (r := (some x0)) rfl (by decide) (fun b24 q hq => c_X6_to S24 b24 x1 (3 : Int32) (v22 - x2) q hq) gv_RX6_X6_to rfl rfl dsX6_to rfl ⟨Nat.le_of_ble_eq_true rfl, Nat.le_of_ble_eq_true rfl⟩ rfl (cat_sum (Nat.le_of_ble_eq_true rfl)) ⟨Nat.zero_le _, Nat.zero_le _⟩ dX6_leave_133 h (fun S25 h => ?_)
            refine g_aload_n C (q := 3) dX6_leave_136 rfl rfl ?_
            refine g_iload_n C (q := 4) dX6_leave_137 rfl rfl ?_
            refine g_iload C (q := 0) dX6_leave_138 rfl ?_
            refine g_callVV C (ci := 6) (As := [.int x1, .int v21]) (np := 2) (st := []) (r := (some x0)) rfl (by decide) (fun b25 q hq => c_X6_refunds S25 b25 x1 v21 q hq) gv_RX6_X6_refunds rfl rfl dsX6_refunds rfl ⟨Nat.le_of_ble_eq_true rfl, Nat.le_of_ble_eq_true rfl⟩ rfl (cat_sum (Nat.le_of_ble_eq_true rfl)) ⟨Nat.zero_le _, Nat.zero_le _⟩ dX6_leave_140 h (fun S26 h => ?_)
            refine g_iload C (q := 0) dX6_leave_143 rfl ?_
            exact g_iret C hQ dX6_leave_145 h
        · refine g_bipush C (v := (-4)) dX6_leave_41 (by decide) ?_
          exact g_iret C hQ dX6_leave_43 h
  · refine g_iconst C (v := (-1)) dX6_leave_8 (by decide) ?_
    exact g_iret C hQ dX6_leave_9 h

abbrev rm_X6_leads : Room := { frames := 2, cells := 0, slots := 0, locals := 44 }
theorem dsX6_leads : yX6_leads.cls = RX6 ∧ yX6_leads.cls ≠ "java/lang/invoke/MethodHandle" ∧ yX6_leads.cls ≠ "java/lang/invoke/VarHandle" ∧ (parseMethodDescriptor yX6_leads.desc).map (fun d => d.parameters.length) = some 2 := by decide +kernel
def f_X6_leads_L2_b (rec : Hp → Nat → Int32 → Int32 → Int32 → Option (Int32 × Hp)) (S : Hp) (x0 : Nat) (y1 : Int32) (y2 : Int32) (y3 : Int32) : Option (Int32 × Hp) :=
 ob S 6 (some x0) fun b1 => cl (f_X6_of S b1 y2 (4 : Int32)) fun v1 S1 =>
 if v1 ≤ y3 then
 some ((0 : Int32), S1)
 else
 ob S1 6 (some x0) fun b2 => cl (f_X6_guideOn S1 b2 y2 y3) fun v2 S2 =>
 if v2 = y1 then
 some ((1 : Int32), S2)
 else
 bnd (y3 + 1) fun v3 =>
 rec S2 x0 y1 y2 v3
def f_X6_leads_L2 : Nat → Hp → Nat → Int32 → Int32 → Int32 → Option (Int32 × Hp)
  | 0 => fun _ _ _ _ _ => none
  | n + 1 => f_X6_leads_L2_b (f_X6_leads_L2 n)
def f_X6_leads (S : Hp) (x0 : Nat) (x1 : Int32) (x2 : Int32) : Option (Int32 × Hp) :=
 f_X6_leads_L2 1000 S x0 x1 x2 (0 : Int32)
set_option maxHeartbeats 4000000 in
set_option maxRecDepth 100000 in
theorem w_X6_leads_L2 {X : Cx} (C : CxOK X cX6_leads RX6 rm_X6_leads) (hn : xn X = 4) {S0 : Hp} {o : Int32 × Hp} (hQ : QI X (some .boolean) S0 0 0 o) : ∀ (fuel : Nat) (S : Hp) (x0 : Nat) (y1 : Int32) (y2 : Int32) (y3 : Int32), f_X6_leads_L2 fuel S x0 y1 y2 y3 = some o → GW X 0 0 S 2 [(0, va_rf (some x0)), (1, .int y1), (2, .int y2), (3, .int y3)] [] := by
  have hn3 : 3 < xn X := by rw [hn]; decide
  intro fuel
  induction fuel with
  | zero => intro S x0 y1 y2 y3 h; cases (show none = some o from h)
  | succ fuel ih =>
    intro S x0 y1 y2 y3 h
    have h : f_X6_leads_L2_b (f_X6_leads_L2 fuel) S x0 y1 y2 y3 = some o := h
    unfold f_X6_leads_L2_b at h
    refine g_iload_n C (q := 3) dX6_leads_2 rfl rfl ?_
    refine g_aload_n C (q := 0) dX6_leads_3 rfl rfl ?_
    refine g_iload_n C (q := 2) dX6_leads_4 rfl rfl ?_
    refine g_iconst C (v := 4) dX6_leads_5 (by decide) ?_
    refine g_callVI C (ci := 6) (As := [.int y2, .int 4]) (np := 2) (st := [.int y3]) (r := (some x0)) rfl (by decide) (fun b1 q hq => c_X6_of S b1 y2 (4 : Int32) q hq) gv_RX6_X6_of rfl rfl dsX6_of rfl ⟨Nat.le_of_ble_eq_true rfl, Nat.le_of_ble_eq_true rfl⟩ rfl (cat_sum (Nat.le_of_ble_eq_true rfl)) ⟨Nat.zero_le _, Nat.zero_le _⟩ dX6_leads_6 h (fun v1 S1 h => ?_)
    refine g_icmp_ge C (tgt := 30) dX6_leads_9 (by decide) h (fun h => ?_) (fun h => ?_)
    · refine g_iconst C (v := 0) dX6_leads_30 (by decide) ?_
      exact g_zret C hQ (by decide) dX6_leads_31 h
    · refine g_aload_n C (q := 0) dX6_leads_12 rfl rfl ?_
      refine g_iload_n C (q := 2) dX6_leads_13 rfl rfl ?_
      refine g_iload_n C (q := 3) dX6_leads_14 rfl rfl ?_
      refine g_callVI C (ci := 6) (As := [.int y2, .int y3]) (np := 2) (st := []) (r := (some x0)) rfl (by decide) (fun b2 q hq => c_X6_guideOn S1 b2 y2 y3 q hq) gv_RX6_X6_guideOn rfl rfl dsX6_guideOn rfl ⟨Nat.le_of_ble_eq_true rfl, Nat.le_of_ble_eq_true rfl⟩ rfl (cat_sum (Nat.le_of_ble_eq_true rfl)) ⟨Nat.zero_le _, Nat.zero_le _⟩ dX6_leads_15 h (fun v2 S2 h => ?_)
      refine g_iload_n C (q := 1) dX6_leads_18 rfl rfl ?_
      refine g_icmp_ne C (tgt := 24) dX6_leads_19 (by decide) h (fun h => ?_) (fun h => ?_)
      · refine g_iconst C (v := 1) dX6_leads_22 (by decide) ?_
        exact g_zret C hQ (by decide) dX6_leads_23 h
      · obtain ⟨v3, ev3, h⟩ := bnd_ex h
        refine g_iinc C (i := 3) (lv' := [(3, .int v3), (0, va_rf (some x0)), (1, .int y1), (2, .int y2)]) (q := 3) v3 dX6_leads_24 rfl ev3 hn3 rfl ?_
        refine g_goto C (tgt := 2) dX6_leads_27 (by decide) ?_
        refine g_sub (lv' := [(0, va_rf (some x0)), (1, .int y1), (2, .int y2), (3, .int v3)]) [1, 2, 3, 0] rfl ?_
        exact ih S2 x0 y1 y2 v3 h
set_option maxHeartbeats 4000000 in
set_option maxRecDepth 100000 in
theorem c_X6_leads (S : Hp) (x0 : Nat) (x1 : Int32) (x2 : Int32) (o : Int32 × Hp) (h : f_X6_leads S x0 x1 x2 = some o) : CtI yX6_leads cX6_leads 4 (some .boolean) rm_X6_leads 0 0 [va_rf (some x0), .int x1, .int x2] S o := by
  refine ct_I (own := RX6) (by decide) rfl (Nat.le_of_ble_eq_true rfl) (fun X C hn hQ => ?_)
  have hn3 : 3 < xn X := by rw [hn]; decide
  unfold f_X6_leads at h
  show GW X 0 0 S 0 [(0, va_rf (some x0)), (1, .int x1), (2, .int x2)] []
  refine g_iconst C (v := 0) dX6_leads_0 (by decide) ?_
  refine g_istore_n C (i := 3) (lv' := [(3, .int 0), (0, va_rf (some x0)), (1, .int x1), (2, .int x2)]) dX6_leads_1 rfl hn3 rfl ?_
  refine g_sub (lv' := [(0, va_rf (some x0)), (1, .int x1), (2, .int x2), (3, .int 0)]) [1, 2, 3, 0] rfl ?_
  exact w_X6_leads_L2 C hn hQ 1000 S x0 x1 x2 (0 : Int32) h

abbrev rm_X6_isBusy : Room := { frames := 3, cells := 0, slots := 0, locals := 67 }
theorem dsX6_isBusy : yX6_isBusy.cls = RX6 ∧ yX6_isBusy.cls ≠ "java/lang/invoke/MethodHandle" ∧ yX6_isBusy.cls ≠ "java/lang/invoke/VarHandle" ∧ (parseMethodDescriptor yX6_isBusy.desc).map (fun d => d.parameters.length) = some 2 := by decide +kernel
theorem gv_RX6_X6_leads : GoodIn wsL_law (wsV RX6 128 RX6 yX6_leads (.code yX6_leads cX6_leads 4 (some .boolean) :: wsL_law)) := good_V q361 q362 q363 q5 q364
def f_X6_isBusy_L2_b (rec : Hp → Nat → Int32 → Int32 → Int32 → Option (Int32 × Hp)) (S : Hp) (x0 : Nat) (y1 : Int32) (y2 : Int32) (y3 : Int32) : Option (Int32 × Hp) :=
 ob S 6 (some x0) fun _ =>
 ar S 9 (zR S x0 0) (3 : Int32) fun a2 i1 =>
 if (zI S a2 i1) ≤ y3 then
 some ((0 : Int32), S)
 else
 ob S 6 (some x0) fun b1 => cl (f_X6_isOpen S b1 y3) fun v1 S1 =>
 if v1 = 0 then
 bnd (y3 + 1) fun v2 =>
 rec S1 x0 y1 y2 v2
 else
 ob S1 6 (some x0) fun b2 => cl (f_X6_of S1 b2 y3 (0 : Int32)) fun v3 S2 =>
 if v3 = y2 then
 ob S2 6 (some x0) fun b3 => cl (f_X6_leads S2 b3 y1 y3) fun v4 S3 =>
 if v4 = 0 then
 bnd (y3 + 1) fun v5 =>
 rec S3 x0 y1 y2 v5
 else
 some ((1 : Int32), S3)
 else
 bnd (y3 + 1) fun v6 =>
 rec S2 x0 y1 y2 v6
def f_X6_isBusy_L2 : Nat → Hp → Nat → Int32 → Int32 → Int32 → Option (Int32 × Hp)
  | 0 => fun _ _ _ _ _ => none
  | n + 1 => f_X6_isBusy_L2_b (f_X6_isBusy_L2 n)
def f_X6_isBusy (S : Hp) (x0 : Nat) (x1 : Int32) (x2 : Int32) : Option (Int32 × Hp) :=
 f_X6_isBusy_L2 1000 S x0 x1 x2 (0 : Int32)
set_option maxHeartbeats 4000000 in
set_option maxRecDepth 100000 in
theorem w_X6_isBusy_L2 {X : Cx} (C : CxOK X cX6_isBusy RX6 rm_X6_isBusy) (hn : xn X = 4) {S0 : Hp} {o : Int32 × Hp} (hQ : QI X (some .boolean) S0 0 0 o) : ∀ (fuel : Nat) (S : Hp) (x0 : Nat) (y1 : Int32) (y2 : Int32) (y3 : Int32), f_X6_isBusy_L2 fuel S x0 y1 y2 y3 = some o → GW X 0 0 S 2 [(0, va_rf (some x0)), (1, .int y1), (2, .int y2), (3, .int y3)] [] := by
  have hn3 : 3 < xn X := by rw [hn]; decide
  intro fuel
  induction fuel with
  | zero => intro S x0 y1 y2 y3 h; cases (show none = some o from h)
  | succ fuel ih =>
    intro S x0 y1 y2 y3 h
    have h : f_X6_isBusy_L2_b (f_X6_isBusy_L2 fuel) S x0 y1 y2 y3 = some o := h
    unfold f_X6_isBusy_L2_b at h
    refine g_iload_n C (q := 3) dX6_isBusy_2 rfl rfl ?_
    refine g_aload_n C (q := 0) dX6_isBusy_3 rfl rfl ?_
    refine g_ogetSR C (ci := 6) (slot := 0) rfl (by decide) inlX6 (by decide) rfl q66 dX6_isBusy_4 h (fun h hLa1 hKa1 => ?_)
    refine g_iconst C (v := 3) dX6_isBusy_7 (by decide) ?_
    refine g_iald C dX6_isBusy_8 h (fun a2 i1 h => ?_)
    refine g_icmp_ge C (tgt := 47) dX6_isBusy_9 (by decide) h (fun h => ?_) (fun h => ?_)
    · refine g_iconst C (v := 0) dX6_isBusy_47 (by decide) ?_
      exact g_zret C hQ (by decide) dX6_isBusy_48 h
    · refine g_aload_n C (q := 0) dX6_isBusy_12 rfl rfl ?_
      refine g_iload_n C (q := 3) dX6_isBusy_13 rfl rfl ?_
      refine g_callVI C (ci := 6) (As := [.int y3]) (np := 1) (st := []) (r := (some x0)) rfl (by decide) (fun b1 q hq => c_X6_isOpen S b1 y3 q hq) gv_RX6_X6_isOpen rfl rfl dsX6_isOpen rfl ⟨Nat.le_of_ble_eq_true rfl, Nat.le_of_ble_eq_true rfl⟩ rfl (cat_sum (Nat.le_of_ble_eq_true rfl)) ⟨Nat.zero_le _, Nat.zero_le _⟩ dX6_isBusy_14 h (fun v1 S1 h => ?_)
      refine g_if_eq C (tgt := 41) dX6_isBusy_17 (by decide) h (fun h => ?_) (fun h => ?_)
      · obtain ⟨v2, ev2, h⟩ := bnd_ex h
        refine g_iinc C (i := 3) (lv' := [(3, .int v2), (0, va_rf (some x0)), (1, .int y1), (2, .int y2)]) (q := 3) v2 dX6_isBusy_41 rfl ev2 hn3 rfl ?_
        refine g_goto C (tgt := 2) dX6_isBusy_44 (by decide) ?_
        refine g_sub (lv' := [(0, va_rf (some x0)), (1, .int y1), (2, .int y2), (3, .int v2)]) [1, 2, 3, 0] rfl ?_
        exact ih S1 x0 y1 y2 v2 h
      · refine g_aload_n C (q := 0) dX6_isBusy_20 rfl rfl ?_
        refine g_iload_n C (q := 3) dX6_isBusy_21 rfl rfl ?_
        refine g_iconst C (v := 0) dX6_isBusy_22 (by decide) ?_
        refine g_callVI C (ci := 6) (As := [.int y3, .int 0]) (np := 2) (st := []) (r := (some x0)) rfl (by decide) (fun b2 q hq => c_X6_of S1 b2 y3 (0 : Int32) q hq) gv_RX6_X6_of rfl rfl dsX6_of rfl ⟨Nat.le_of_ble_eq_true rfl, Nat.le_of_ble_eq_true rfl⟩ rfl (cat_sum (Nat.le_of_ble_eq_true rfl)) ⟨Nat.zero_le _, Nat.zero_le _⟩ dX6_isBusy_23 h (fun v3 S2 h => ?_)
        refine g_iload_n C (q := 2) dX6_isBusy_26 rfl rfl ?_
        refine g_icmp_ne C (tgt := 41) dX6_isBusy_27 (by decide) h (fun h => ?_) (fun h => ?_)
        · refine g_aload_n C (q := 0) dX6_isBusy_30 rfl rfl ?_
          refine g_iload_n C (q := 1) dX6_isBusy_31 rfl rfl ?_
          refine g_iload_n C (q := 3) dX6_isBusy_32 rfl rfl ?_
          refine g_callVI C (ci := 6) (As := [.int y1, .int y3]) (np := 2) (st := []) (r := (some x0)) rfl (by decide) (fun b3 q hq => c_X6_leads S2 b3 y1 y3 q hq) gv_RX6_X6_leads rfl rfl dsX6_leads rfl ⟨Nat.le_of_ble_eq_true rfl, Nat.le_of_ble_eq_true rfl⟩ rfl (cat_sum (Nat.le_of_ble_eq_true rfl)) ⟨Nat.zero_le _, Nat.zero_le _⟩ dX6_isBusy_33 h (fun v4 S3 h => ?_)
          refine g_if_eq C (tgt := 41) dX6_isBusy_36 (by decide) h (fun h => ?_) (fun h => ?_)
          · obtain ⟨v5, ev5, h⟩ := bnd_ex h
            refine g_iinc C (i := 3) (lv' := [(3, .int v5), (0, va_rf (some x0)), (1, .int y1), (2, .int y2)]) (q := 3) v5 dX6_isBusy_41 rfl ev5 hn3 rfl ?_
            refine g_goto C (tgt := 2) dX6_isBusy_44 (by decide) ?_
            refine g_sub (lv' := [(0, va_rf (some x0)), (1, .int y1), (2, .int y2), (3, .int v5)]) [1, 2, 3, 0] rfl ?_
            exact ih S3 x0 y1 y2 v5 h
          · refine g_iconst C (v := 1) dX6_isBusy_39 (by decide) ?_
            exact g_zret C hQ (by decide) dX6_isBusy_40 h
        · obtain ⟨v6, ev6, h⟩ := bnd_ex h
          refine g_iinc C (i := 3) (lv' := [(3, .int v6), (0, va_rf (some x0)), (1, .int y1), (2, .int y2)]) (q := 3) v6 dX6_isBusy_41 rfl ev6 hn3 rfl ?_
          refine g_goto C (tgt := 2) dX6_isBusy_44 (by decide) ?_
          refine g_sub (lv' := [(0, va_rf (some x0)), (1, .int y1), (2, .int y2), (3, .int v6)]) [1, 2, 3, 0] rfl ?_
          exact ih S2 x0 y1 y2 v6 h
set_option maxHeartbeats 4000000 in
set_option maxRecDepth 100000 in
theorem c_X6_isBusy (S : Hp) (x0 : Nat) (x1 : Int32) (x2 : Int32) (o : Int32 × Hp) (h : f_X6_isBusy S x0 x1 x2 = some o) : CtI yX6_isBusy cX6_isBusy 4 (some .boolean) rm_X6_isBusy 0 0 [va_rf (some x0), .int x1, .int x2] S o := by
  refine ct_I (own := RX6) (by decide) rfl (Nat.le_of_ble_eq_true rfl) (fun X C hn hQ => ?_)
  have hn3 : 3 < xn X := by rw [hn]; decide
  unfold f_X6_isBusy at h
  show GW X 0 0 S 0 [(0, va_rf (some x0)), (1, .int x1), (2, .int x2)] []
  refine g_iconst C (v := 0) dX6_isBusy_0 (by decide) ?_
  refine g_istore_n C (i := 3) (lv' := [(3, .int 0), (0, va_rf (some x0)), (1, .int x1), (2, .int x2)]) dX6_isBusy_1 rfl hn3 rfl ?_
  refine g_sub (lv' := [(0, va_rf (some x0)), (1, .int x1), (2, .int x2), (3, .int 0)]) [1, 2, 3, 0] rfl ?_
  exact w_X6_isBusy_L2 C hn hQ 1000 S x0 x1 x2 (0 : Int32) h

abbrev rm_X6_mayLead : Room := { frames := 4, cells := 0, slots := 0, locals := 90 }
theorem dsX6_mayLead : yX6_mayLead.cls = RX6 ∧ yX6_mayLead.cls ≠ "java/lang/invoke/MethodHandle" ∧ yX6_mayLead.cls ≠ "java/lang/invoke/VarHandle" ∧ (parseMethodDescriptor yX6_mayLead.desc).map (fun d => d.parameters.length) = some 2 := by decide +kernel
theorem gv_RX6_X6_isBusy : GoodIn wsL_law (wsV RX6 131 RX6 yX6_isBusy (.code yX6_isBusy cX6_isBusy 4 (some .boolean) :: wsL_law)) := good_V q357 q358 q359 q5 q360
def f_X6_mayLead (S : Hp) (x0 : Nat) (x1 : Int32) (x2 : Int32) : Option (Int32 × Hp) :=
 ob S 6 (some x0) fun b1 => cl (f_X6_isOpen S b1 x2) fun v1 S1 =>
 if v1 = 0 then
 some ((0 : Int32), S1)
 else
 ob S1 6 (some x0) fun b2 => cl (f_X6_ofGuide S1 b2 x1 (1 : Int32)) fun v2 S2 =>
 ob S2 6 (some x0) fun b3 => cl (f_X6_of S2 b3 x2 (0 : Int32)) fun v3 S3 =>
 if v2 < v3 then
 some ((0 : Int32), S3)
 else
 ob S3 6 (some x0) fun b4 => cl (f_X6_of S3 b4 x2 (0 : Int32)) fun v4 S4 =>
 ob S4 6 (some x0) fun b5 => cl (f_X6_isBusy S4 b5 x1 v4) fun v5 S5 =>
 if v5 = 0 then
 some ((1 : Int32), S5)
 else
 some ((0 : Int32), S5)
set_option maxHeartbeats 4000000 in
set_option maxRecDepth 100000 in
theorem c_X6_mayLead (S : Hp) (x0 : Nat) (x1 : Int32) (x2 : Int32) (o : Int32 × Hp) (h : f_X6_mayLead S x0 x1 x2 = some o) : CtI yX6_mayLead cX6_mayLead 3 (some .boolean) rm_X6_mayLead 0 0 [va_rf (some x0), .int x1, .int x2] S o := by
  refine ct_I (own := RX6) (by decide) rfl (Nat.le_of_ble_eq_true rfl) (fun X C hn hQ => ?_)
  unfold f_X6_mayLead at h
  show GW X 0 0 S 0 [(0, va_rf (some x0)), (1, .int x1), (2, .int x2)] []
  refine g_aload_n C (q := 0) dX6_mayLead_0 rfl rfl ?_
  refine g_iload_n C (q := 2) dX6_mayLead_1 rfl rfl ?_
  refine g_callVI C (ci := 6) (As := [.int x2]) (np := 1) (st := []) (r := (some x0)) rfl (by decide) (fun b1 q hq => c_X6_isOpen S b1 x2 q hq) gv_RX6_X6_isOpen rfl rfl dsX6_isOpen rfl ⟨Nat.le_of_ble_eq_true rfl, Nat.le_of_ble_eq_true rfl⟩ rfl (cat_sum (Nat.le_of_ble_eq_true rfl)) ⟨Nat.zero_le _, Nat.zero_le _⟩ dX6_mayLead_2 h (fun v1 S1 h => ?_)
  refine g_if_eq C (tgt := 41) dX6_mayLead_5 (by decide) h (fun h => ?_) (fun h => ?_)
  · refine g_iconst C (v := 0) dX6_mayLead_41 (by decide) ?_
    exact g_zret C hQ (by decide) dX6_mayLead_42 h
  · refine g_aload_n C (q := 0) dX6_mayLead_8 rfl rfl ?_
    refine g_iload_n C (q := 1) dX6_mayLead_9 rfl rfl ?_
    refine g_iconst C (v := 1) dX6_mayLead_10 (by decide) ?_
    refine g_callVI C (ci := 6) (As := [.int x1, .int 1]) (np := 2) (st := []) (r := (some x0)) rfl (by decide) (fun b2 q hq => c_X6_ofGuide S1 b2 x1 (1 : Int32) q hq) gv_RX6_X6_ofGuide rfl rfl dsX6_ofGuide rfl ⟨Nat.le_of_ble_eq_true rfl, Nat.le_of_ble_eq_true rfl⟩ rfl (cat_sum (Nat.le_of_ble_eq_true rfl)) ⟨Nat.zero_le _, Nat.zero_le _⟩ dX6_mayLead_11 h (fun v2 S2 h => ?_)
    refine g_aload_n C (q := 0) dX6_mayLead_14 rfl rfl ?_
    refine g_iload_n C (q := 2) dX6_mayLead_15 rfl rfl ?_
    refine g_iconst C (v := 0) dX6_mayLead_16 (by decide) ?_
    refine g_callVI C (ci := 6) (As := [.int x2, .int 0]) (np := 2) (st := [.int v2]) (r := (some x0)) rfl (by decide) (fun b3 q hq => c_X6_of S2 b3 x2 (0 : Int32) q hq) gv_RX6_X6_of rfl rfl dsX6_of rfl ⟨Nat.le_of_ble_eq_true rfl, Nat.le_of_ble_eq_true rfl⟩ rfl (cat_sum (Nat.le_of_ble_eq_true rfl)) ⟨Nat.zero_le _, Nat.zero_le _⟩ dX6_mayLead_17 h (fun v3 S3 h => ?_)
    refine g_icmp_lt C (tgt := 41) dX6_mayLead_20 (by decide) h (fun h => ?_) (fun h => ?_)
    · refine g_iconst C (v := 0) dX6_mayLead_41 (by decide) ?_
      exact g_zret C hQ (by decide) dX6_mayLead_42 h
    · refine g_aload_n C (q := 0) dX6_mayLead_23 rfl rfl ?_
      refine g_iload_n C (q := 1) dX6_mayLead_24 rfl rfl ?_
      refine g_aload_n C (q := 0) dX6_mayLead_25 rfl rfl ?_
      refine g_iload_n C (q := 2) dX6_mayLead_26 rfl rfl ?_
      refine g_iconst C (v := 0) dX6_mayLead_27 (by decide) ?_
      refine g_callVI C (ci := 6) (As := [.int x2, .int 0]) (np := 2) (st := [.int x1, va_rf (some x0)]) (r := (some x0)) rfl (by decide) (fun b4 q hq => c_X6_of S3 b4 x2 (0 : Int32) q hq) gv_RX6_X6_of rfl rfl dsX6_of rfl ⟨Nat.le_of_ble_eq_true rfl, Nat.le_of_ble_eq_true rfl⟩ rfl (cat_sum (Nat.le_of_ble_eq_true rfl)) ⟨Nat.zero_le _, Nat.zero_le _⟩ dX6_mayLead_28 h (fun v4 S4 h => ?_)
      refine g_callVI C (ci := 6) (As := [.int x1, .int v4]) (np := 2) (st := []) (r := (some x0)) rfl (by decide) (fun b5 q hq => c_X6_isBusy S4 b5 x1 v4 q hq) gv_RX6_X6_isBusy rfl rfl dsX6_isBusy rfl ⟨Nat.le_of_ble_eq_true rfl, Nat.le_of_ble_eq_true rfl⟩ rfl (cat_sum (Nat.le_of_ble_eq_true rfl)) ⟨Nat.zero_le _, Nat.zero_le _⟩ dX6_mayLead_31 h (fun v5 S5 h => ?_)
      refine g_if_ne C (tgt := 41) dX6_mayLead_34 (by decide) h (fun h => ?_) (fun h => ?_)
      · refine g_iconst C (v := 1) dX6_mayLead_37 (by decide) ?_
        refine g_goto C (tgt := 42) dX6_mayLead_38 (by decide) ?_
        exact g_zret C hQ (by decide) dX6_mayLead_42 h
      · refine g_iconst C (v := 0) dX6_mayLead_41 (by decide) ?_
        exact g_zret C hQ (by decide) dX6_mayLead_42 h

abbrev rm_X6_lead : Room := { frames := 5, cells := 0, slots := 0, locals := 112 }
theorem dsX6_lead : yX6_lead.cls = RX6 ∧ yX6_lead.cls ≠ "java/lang/invoke/MethodHandle" ∧ yX6_lead.cls ≠ "java/lang/invoke/VarHandle" ∧ (parseMethodDescriptor yX6_lead.desc).map (fun d => d.parameters.length) = some 2 := by decide +kernel
theorem gv_RX6_X6_mayLead : GoodIn wsL_law (wsV RX6 134 RX6 yX6_mayLead (.code yX6_mayLead cX6_mayLead 3 (some .boolean) :: wsL_law)) := good_V q353 q354 q355 q5 q356
def f_X6_lead (S : Hp) (x0 : Nat) (x1 : Int32) (x2 : Int32) : Option (Int32 × Hp) :=
 ob S 6 (some x0) fun b1 => cl (f_X6_noGuide S b1 x1) fun v1 S1 =>
 if v1 = 0 then
 ob S1 6 (some x0) fun b2 => cl (f_X6_noTour S1 b2 x2) fun v2 S2 =>
 if v2 = 0 then
 ob S2 6 (some x0) fun b3 => cl (f_X6_mayLead S2 b3 x1 x2) fun v3 S3 =>
 if v3 = 0 then
 some ((-4 : Int32), S3)
 else
 ob S3 6 (some x0) fun b4 => cl (f_X6_of S3 b4 x2 (4 : Int32)) fun v4 S4 =>
 if v4 = 4 then
 some ((-3 : Int32), S4)
 else
 ob S4 6 (some x0) fun b5 => cl (f_X6_record S4 b5 ) fun _ S5 =>
 ob S5 6 (some x0) fun b6 => cl (f_X6_of S5 b6 x2 (4 : Int32)) fun v5 S6 =>
 ob S6 6 (some x0) fun b7 => cl (f_X6_to S6 b7 x2 (8 + v5) x1) fun _ S7 =>
 ob S7 6 (some x0) fun b8 => cl (f_X6_of S7 b8 x2 (4 : Int32)) fun v6 S8 =>
 ob S8 6 (some x0) fun b9 => cl (f_X6_to S8 b9 x2 (4 : Int32) (v6 + 1)) fun _ S9 =>
 ob S9 6 (some x0) fun b10 => cl (f_X6_ratio S9 b10 x2 x1) fun v7 S10 =>
 some (v7, S10)
 else
 some ((-1 : Int32), S2)
 else
 some ((-1 : Int32), S1)
set_option maxHeartbeats 4000000 in
set_option maxRecDepth 100000 in
theorem c_X6_lead (S : Hp) (x0 : Nat) (x1 : Int32) (x2 : Int32) (o : Int32 × Hp) (h : f_X6_lead S x0 x1 x2 = some o) : CtI yX6_lead cX6_lead 3 (some .int) rm_X6_lead 0 0 [va_rf (some x0), .int x1, .int x2] S o := by
  refine ct_I (own := RX6) (by decide) rfl (Nat.le_of_ble_eq_true rfl) (fun X C hn hQ => ?_)
  unfold f_X6_lead at h
  show GW X 0 0 S 0 [(0, va_rf (some x0)), (1, .int x1), (2, .int x2)] []
  refine g_aload_n C (q := 0) dX6_lead_0 rfl rfl ?_
  refine g_iload_n C (q := 1) dX6_lead_1 rfl rfl ?_
  refine g_callVI C (ci := 6) (As := [.int x1]) (np := 1) (st := []) (r := (some x0)) rfl (by decide) (fun b1 q hq => c_X6_noGuide S b1 x1 q hq) gv_RX6_X6_noGuide rfl rfl dsX6_noGuide rfl ⟨Nat.le_of_ble_eq_true rfl, Nat.le_of_ble_eq_true rfl⟩ rfl (cat_sum (Nat.le_of_ble_eq_true rfl)) ⟨Nat.zero_le _, Nat.zero_le _⟩ dX6_lead_2 h (fun v1 S1 h => ?_)
  refine g_if_ne C (tgt := 16) dX6_lead_5 (by decide) h (fun h => ?_) (fun h => ?_)
  · refine g_aload_n C (q := 0) dX6_lead_8 rfl rfl ?_
    refine g_iload_n C (q := 2) dX6_lead_9 rfl rfl ?_
    refine g_callVI C (ci := 6) (As := [.int x2]) (np := 1) (st := []) (r := (some x0)) rfl (by decide) (fun b2 q hq => c_X6_noTour S1 b2 x2 q hq) gv_RX6_X6_noTour rfl rfl dsX6_noTour rfl ⟨Nat.le_of_ble_eq_true rfl, Nat.le_of_ble_eq_true rfl⟩ rfl (cat_sum (Nat.le_of_ble_eq_true rfl)) ⟨Nat.zero_le _, Nat.zero_le _⟩ dX6_lead_10 h (fun v2 S2 h => ?_)
    refine g_if_eq C (tgt := 18) dX6_lead_13 (by decide) h (fun h => ?_) (fun h => ?_)
    · refine g_aload_n C (q := 0) dX6_lead_18 rfl rfl ?_
      refine g_iload_n C (q := 1) dX6_lead_19 rfl rfl ?_
      refine g_iload_n C (q := 2) dX6_lead_20 rfl rfl ?_
      refine g_callVI C (ci := 6) (As := [.int x1, .int x2]) (np := 2) (st := []) (r := (some x0)) rfl (by decide) (fun b3 q hq => c_X6_mayLead S2 b3 x1 x2 q hq) gv_RX6_X6_mayLead rfl rfl dsX6_mayLead rfl ⟨Nat.le_of_ble_eq_true rfl, Nat.le_of_ble_eq_true rfl⟩ rfl (cat_sum (Nat.le_of_ble_eq_true rfl)) ⟨Nat.zero_le _, Nat.zero_le _⟩ dX6_lead_21 h (fun v3 S3 h => ?_)
      refine g_if_ne C (tgt := 30) dX6_lead_24 (by decide) h (fun h => ?_) (fun h => ?_)
      · refine g_bipush C (v := (-4)) dX6_lead_27 (by decide) ?_
        exact g_iret C hQ dX6_lead_29 h
      · refine g_aload_n C (q := 0) dX6_lead_30 rfl rfl ?_
        refine g_iload_n C (q := 2) dX6_lead_31 rfl rfl ?_
        refine g_iconst C (v := 4) dX6_lead_32 (by decide) ?_
        refine g_callVI C (ci := 6) (As := [.int x2, .int 4]) (np := 2) (st := []) (r := (some x0)) rfl (by decide) (fun b4 q hq => c_X6_of S3 b4 x2 (4 : Int32) q hq) gv_RX6_X6_of rfl rfl dsX6_of rfl ⟨Nat.le_of_ble_eq_true rfl, Nat.le_of_ble_eq_true rfl⟩ rfl (cat_sum (Nat.le_of_ble_eq_true rfl)) ⟨Nat.zero_le _, Nat.zero_le _⟩ dX6_lead_33 h (fun v4 S4 h => ?_)
        refine g_iconst C (v := 4) dX6_lead_36 (by decide) ?_
        refine g_icmp_ne C (tgt := 43) dX6_lead_37 (by decide) h (fun h => ?_) (fun h => ?_)
        · refine g_bipush C (v := (-3)) dX6_lead_40 (by decide) ?_
          exact g_iret C hQ dX6_lead_42 h
        · refine g_aload_n C (q := 0) dX6_lead_43 rfl rfl ?_
          refine g_callVV C (ci := 6) (As := []) (np := 0) (st := []) (r := (some x0)) rfl (by decide) (fun b5 q hq => c_X6_record S4 b5  q hq) gv_RX6_X6_record rfl rfl dsX6_record rfl ⟨Nat.le_of_ble_eq_true rfl, Nat.le_of_ble_eq_true rfl⟩ rfl (cat_sum (Nat.le_of_ble_eq_true rfl)) ⟨Nat.zero_le _, Nat.zero_le _⟩ dX6_lead_44 h (fun S5 h => ?_)
          refine g_aload_n C (q := 0) dX6_lead_47 rfl rfl ?_
          refine g_iload_n C (q := 2) dX6_lead_48 rfl rfl ?_
          refine g_bipush C (v := 8) dX6_lead_49 (by decide) ?_
          refine g_aload_n C (q := 0) dX6_lead_51 rfl rfl ?_
          refine g_iload_n C (q := 2) dX6_lead_52 rfl rfl ?_
          refine g_iconst C (v := 4) dX6_lead_53 (by decide) ?_
          refine g_callVI C (ci := 6) (As := [.int x2, .int 4]) (np := 2) (st := [.int 8, .int x2, va_rf (some x0)]) (r := (some x0)) rfl (by decide) (fun b6 q hq => c_X6_of S5 b6 x2 (4 : Int32) q hq) gv_RX6_X6_of rfl rfl dsX6_of rfl ⟨Nat.le_of_ble_eq_true rfl, Nat.le_of_ble_eq_true rfl⟩ rfl (cat_sum (Nat.le_of_ble_eq_true rfl)) ⟨Nat.zero_le _, Nat.zero_le _⟩ dX6_lead_54 h (fun v5 S6 h => ?_)
          refine g_iadd C dX6_lead_57 ?_
          refine g_iload_n C (q := 1) dX6_lead_58 rfl rfl ?_
          refine g_callVV C (ci := 6) (As := [.int x2, .int (8 + v5), .int x1]) (np := 3) (st := []) (r := (some x0)) rfl (by decide) (fun b7 q hq => c_X6_to S6 b7 x2 (8 + v5) x1 q hq) gv_RX6_X6_to rfl rfl dsX6_to rfl ⟨Nat.le_of_ble_eq_true rfl, Nat.le_of_ble_eq_true rfl⟩ rfl (cat_sum (Nat.le_of_ble_eq_true rfl)) ⟨Nat.zero_le _, Nat.zero_le _⟩ dX6_lead_59 h (fun S7 h => ?_)
          refine g_aload_n C (q := 0) dX6_lead_62 rfl rfl ?_
          refine g_iload_n C (q := 2) dX6_lead_63 rfl rfl ?_
          refine g_iconst C (v := 4) dX6_lead_64 (by decide) ?_
          refine g_aload_n C (q := 0) dX6_lead_65 rfl rfl ?_
          refine g_iload_n C (q := 2) dX6_lead_66 rfl rfl ?_
          refine g_iconst C (v := 4) dX6_lead_67 (by decide) ?_
          refine g_callVI C (ci := 6) (As := [.int x2, .int 4]) (np := 2) (st := [.int 4, .int x2, va_rf (some x0)]) (r := (some x0)) rfl (by decide) (fun b8 q hq => c_X6_of S7 b8 x2 (4 : Int32) q hq) gv_RX6_X6_of rfl rfl dsX6_of rfl ⟨Nat.le_of_ble_eq_true rfl, Nat.le_of_ble_eq_true rfl⟩ rfl (cat_sum (Nat.le_of_ble_eq_true rfl)) ⟨Nat.zero_le _, Nat.zero_le _⟩ dX6_lead_68 h (fun v6 S8 h => ?_)
          refine g_iconst C (v := 1) dX6_lead_71 (by decide) ?_
          refine g_iadd C dX6_lead_72 ?_
          refine g_callVV C (ci := 6) (As := [.int x2, .int 4, .int (v6 + 1)]) (np := 3) (st := []) (r := (some x0)) rfl (by decide) (fun b9 q hq => c_X6_to S8 b9 x2 (4 : Int32) (v6 + 1) q hq) gv_RX6_X6_to rfl rfl dsX6_to rfl ⟨Nat.le_of_ble_eq_true rfl, Nat.le_of_ble_eq_true rfl⟩ rfl (cat_sum (Nat.le_of_ble_eq_true rfl)) ⟨Nat.zero_le _, Nat.zero_le _⟩ dX6_lead_73 h (fun S9 h => ?_)
          refine g_aload_n C (q := 0) dX6_lead_76 rfl rfl ?_
          refine g_iload_n C (q := 2) dX6_lead_77 rfl rfl ?_
          refine g_iload_n C (q := 1) dX6_lead_78 rfl rfl ?_
          refine g_callVI C (ci := 6) (As := [.int x2, .int x1]) (np := 2) (st := []) (r := (some x0)) rfl (by decide) (fun b10 q hq => c_X6_ratio S9 b10 x2 x1 q hq) gv_RX6_X6_ratio rfl rfl dsX6_ratio rfl ⟨Nat.le_of_ble_eq_true rfl, Nat.le_of_ble_eq_true rfl⟩ rfl (cat_sum (Nat.le_of_ble_eq_true rfl)) ⟨Nat.zero_le _, Nat.zero_le _⟩ dX6_lead_79 h (fun v7 S10 h => ?_)
          exact g_iret C hQ dX6_lead_82 h
    · refine g_iconst C (v := (-1)) dX6_lead_16 (by decide) ?_
      exact g_iret C hQ dX6_lead_17 h
  · refine g_iconst C (v := (-1)) dX6_lead_16 (by decide) ?_
    exact g_iret C hQ dX6_lead_17 h

abbrev rm_X6_release : Room := { frames := 4, cells := 0, slots := 0, locals := 92 }
theorem dsX6_release : yX6_release.cls = RX6 ∧ yX6_release.cls ≠ "java/lang/invoke/MethodHandle" ∧ yX6_release.cls ≠ "java/lang/invoke/VarHandle" ∧ (parseMethodDescriptor yX6_release.desc).map (fun d => d.parameters.length) = some 2 := by decide +kernel
def f_X6_release_L50_b (rec : Hp → Nat → Int32 → Int32 → Int32 → Int32 → Option (Int32 × Hp)) (S : Hp) (x0 : Nat) (y1 : Int32) (y2 : Int32) (y3 : Int32) (y4 : Int32) : Option (Int32 × Hp) :=
 ob S 6 (some x0) fun b1 => cl (f_X6_of S b1 y2 (4 : Int32)) fun v1 S1 =>
 if v1 ≤ y4 then
 ob S1 6 (some x0) fun b2 => cl (f_X6_to S1 b2 y2 (4 : Int32) y3) fun _ S2 =>
 ob S2 6 (some x0) fun b3 => cl (f_X6_leftOver S2 b3 y2) fun v2 S3 =>
 some (v2, S3)
 else
 ob S1 6 (some x0) fun b4 => cl (f_X6_guideOn S1 b4 y2 y4) fun v3 S4 =>
 if v3 = y1 then
 bnd (y4 + 1) fun v4 =>
 rec S4 x0 y1 y2 y3 v4
 else
 ob S4 6 (some x0) fun b5 => cl (f_X6_guideOn S4 b5 y2 y4) fun v5 S5 =>
 ob S5 6 (some x0) fun b6 => cl (f_X6_to S5 b6 y2 (8 + y3) v5) fun _ S6 =>
 bnd (y3 + 1) fun v6 =>
 bnd (y4 + 1) fun v7 =>
 rec S6 x0 y1 y2 v6 v7
def f_X6_release_L50 : Nat → Hp → Nat → Int32 → Int32 → Int32 → Int32 → Option (Int32 × Hp)
  | 0 => fun _ _ _ _ _ _ => none
  | n + 1 => f_X6_release_L50_b (f_X6_release_L50 n)
def f_X6_release (S : Hp) (x0 : Nat) (x1 : Int32) (x2 : Int32) : Option (Int32 × Hp) :=
 ob S 6 (some x0) fun b1 => cl (f_X6_noGuide S b1 x1) fun v1 S1 =>
 if v1 = 0 then
 ob S1 6 (some x0) fun b2 => cl (f_X6_noTour S1 b2 x2) fun v2 S2 =>
 if v2 = 0 then
 ob S2 6 (some x0) fun b3 => cl (f_X6_isOpen S2 b3 x2) fun v3 S3 =>
 if v3 = 0 then
 some ((-4 : Int32), S3)
 else
 ob S3 6 (some x0) fun b4 => cl (f_X6_leads S3 b4 x1 x2) fun v4 S4 =>
 if v4 = 0 then
 some ((-5 : Int32), S4)
 else
 ob S4 6 (some x0) fun b5 => cl (f_X6_record S4 b5 ) fun _ S5 =>
 f_X6_release_L50 1000 S5 x0 x1 x2 (0 : Int32) (0 : Int32)
 else
 some ((-1 : Int32), S2)
 else
 some ((-1 : Int32), S1)
set_option maxHeartbeats 4000000 in
set_option maxRecDepth 100000 in
theorem w_X6_release_L50 {X : Cx} (C : CxOK X cX6_release RX6 rm_X6_release) (hn : xn X = 5) {S0 : Hp} {o : Int32 × Hp} (hQ : QI X (some .int) S0 0 0 o) : ∀ (fuel : Nat) (S : Hp) (x0 : Nat) (y1 : Int32) (y2 : Int32) (y3 : Int32) (y4 : Int32), f_X6_release_L50 fuel S x0 y1 y2 y3 y4 = some o → GW X 0 0 S 50 [(0, va_rf (some x0)), (1, .int y1), (2, .int y2), (3, .int y3), (4, .int y4)] [] := by
  have hn3 : 3 < xn X := by rw [hn]; decide
  have hn4 : 4 < xn X := by rw [hn]; decide
  intro fuel
  induction fuel with
  | zero => intro S x0 y1 y2 y3 y4 h; cases (show none = some o from h)
  | succ fuel ih =>
    intro S x0 y1 y2 y3 y4 h
    have h : f_X6_release_L50_b (f_X6_release_L50 fuel) S x0 y1 y2 y3 y4 = some o := h
    unfold f_X6_release_L50_b at h
    refine g_iload C (q := 4) dX6_release_50 rfl ?_
    refine g_aload_n C (q := 0) dX6_release_52 rfl rfl ?_
    refine g_iload_n C (q := 2) dX6_release_53 rfl rfl ?_
    refine g_iconst C (v := 4) dX6_release_54 (by decide) ?_
    refine g_callVI C (ci := 6) (As := [.int y2, .int 4]) (np := 2) (st := [.int y4]) (r := (some x0)) rfl (by decide) (fun b1 q hq => c_X6_of S b1 y2 (4 : Int32) q hq) gv_RX6_X6_of rfl rfl dsX6_of rfl ⟨Nat.le_of_ble_eq_true rfl, Nat.le_of_ble_eq_true rfl⟩ rfl (cat_sum (Nat.le_of_ble_eq_true rfl)) ⟨Nat.zero_le _, Nat.zero_le _⟩ dX6_release_55 h (fun v1 S1 h => ?_)
    refine g_icmp_ge C (tgt := 97) dX6_release_58 (by decide) h (fun h => ?_) (fun h => ?_)
    · refine g_aload_n C (q := 0) dX6_release_97 rfl rfl ?_
      refine g_iload_n C (q := 2) dX6_release_98 rfl rfl ?_
      refine g_iconst C (v := 4) dX6_release_99 (by decide) ?_
      refine g_iload_n C (q := 3) dX6_release_100 rfl rfl ?_
      refine g_callVV C (ci := 6) (As := [.int y2, .int 4, .int y3]) (np := 3) (st := []) (r := (some x0)) rfl (by decide) (fun b2 q hq => c_X6_to S1 b2 y2 (4 : Int32) y3 q hq) gv_RX6_X6_to rfl rfl dsX6_to rfl ⟨Nat.le_of_ble_eq_true rfl, Nat.le_of_ble_eq_true rfl⟩ rfl (cat_sum (Nat.le_of_ble_eq_true rfl)) ⟨Nat.zero_le _, Nat.zero_le _⟩ dX6_release_101 h (fun S2 h => ?_)
      refine g_aload_n C (q := 0) dX6_release_104 rfl rfl ?_
      refine g_iload_n C (q := 2) dX6_release_105 rfl rfl ?_
      refine g_callVI C (ci := 6) (As := [.int y2]) (np := 1) (st := []) (r := (some x0)) rfl (by decide) (fun b3 q hq => c_X6_leftOver S2 b3 y2 q hq) gv_RX6_X6_leftOver rfl rfl dsX6_leftOver rfl ⟨Nat.le_of_ble_eq_true rfl, Nat.le_of_ble_eq_true rfl⟩ rfl (cat_sum (Nat.le_of_ble_eq_true rfl)) ⟨Nat.zero_le _, Nat.zero_le _⟩ dX6_release_106 h (fun v2 S3 h => ?_)
      exact g_iret C hQ dX6_release_109 h
    · refine g_aload_n C (q := 0) dX6_release_61 rfl rfl ?_
      refine g_iload_n C (q := 2) dX6_release_62 rfl rfl ?_
      refine g_iload C (q := 4) dX6_release_63 rfl ?_
      refine g_callVI C (ci := 6) (As := [.int y2, .int y4]) (np := 2) (st := []) (r := (some x0)) rfl (by decide) (fun b4 q hq => c_X6_guideOn S1 b4 y2 y4 q hq) gv_RX6_X6_guideOn rfl rfl dsX6_guideOn rfl ⟨Nat.le_of_ble_eq_true rfl, Nat.le_of_ble_eq_true rfl⟩ rfl (cat_sum (Nat.le_of_ble_eq_true rfl)) ⟨Nat.zero_le _, Nat.zero_le _⟩ dX6_release_65 h (fun v3 S4 h => ?_)
      refine g_iload_n C (q := 1) dX6_release_68 rfl rfl ?_
      refine g_icmp_eq C (tgt := 91) dX6_release_69 (by decide) h (fun h => ?_) (fun h => ?_)
      · obtain ⟨v4, ev4, h⟩ := bnd_ex h
        refine g_iinc C (i := 4) (lv' := [(4, .int v4), (0, va_rf (some x0)), (1, .int y1), (2, .int y2), (3, .int y3)]) (q := 4) v4 dX6_release_91 rfl ev4 hn4 rfl ?_
        refine g_goto C (tgt := 50) dX6_release_94 (by decide) ?_
        refine g_sub (lv' := [(0, va_rf (some x0)), (1, .int y1), (2, .int y2), (3, .int y3), (4, .int v4)]) [1, 2, 3, 4, 0] rfl ?_
        exact ih S4 x0 y1 y2 y3 v4 h
      · refine g_aload_n C (q := 0) dX6_release_72 rfl rfl ?_
        refine g_iload_n C (q := 2) dX6_release_73 rfl rfl ?_
        refine g_bipush C (v := 8) dX6_release_74 (by decide) ?_
        refine g_iload_n C (q := 3) dX6_release_76 rfl rfl ?_
        refine g_iadd C dX6_release_77 ?_
        refine g_aload_n C (q := 0) dX6_release_78 rfl rfl ?_
        refine g_iload_n C (q := 2) dX6_release_79 rfl rfl ?_
        refine g_iload C (q := 4) dX6_release_80 rfl ?_
        refine g_callVI C (ci := 6) (As := [.int y2, .int y4]) (np := 2) (st := [.int (8 + y3), .int y2, va_rf (some x0)]) (r := (some x0)) rfl (by decide) (fun b5 q hq => c_X6_guideOn S4 b5 y2 y4 q hq) gv_RX6_X6_guideOn rfl rfl dsX6_guideOn rfl ⟨Nat.le_of_ble_eq_true rfl, Nat.le_of_ble_eq_true rfl⟩ rfl (cat_sum (Nat.le_of_ble_eq_true rfl)) ⟨Nat.zero_le _, Nat.zero_le _⟩ dX6_release_82 h (fun v5 S5 h => ?_)
        refine g_callVV C (ci := 6) (As := [.int y2, .int (8 + y3), .int v5]) (np := 3) (st := []) (r := (some x0)) rfl (by decide) (fun b6 q hq => c_X6_to S5 b6 y2 (8 + y3) v5 q hq) gv_RX6_X6_to rfl rfl dsX6_to rfl ⟨Nat.le_of_ble_eq_true rfl, Nat.le_of_ble_eq_true rfl⟩ rfl (cat_sum (Nat.le_of_ble_eq_true rfl)) ⟨Nat.zero_le _, Nat.zero_le _⟩ dX6_release_85 h (fun S6 h => ?_)
        obtain ⟨v6, ev6, h⟩ := bnd_ex h
        refine g_iinc C (i := 3) (lv' := [(3, .int v6), (0, va_rf (some x0)), (1, .int y1), (2, .int y2), (4, .int y4)]) (q := 3) v6 dX6_release_88 rfl ev6 hn3 rfl ?_
        obtain ⟨v7, ev7, h⟩ := bnd_ex h
        refine g_iinc C (i := 4) (lv' := [(4, .int v7), (3, .int v6), (0, va_rf (some x0)), (1, .int y1), (2, .int y2)]) (q := 4) v7 dX6_release_91 rfl ev7 hn4 rfl ?_
        refine g_goto C (tgt := 50) dX6_release_94 (by decide) ?_
        refine g_sub (lv' := [(0, va_rf (some x0)), (1, .int y1), (2, .int y2), (3, .int v6), (4, .int v7)]) [2, 3, 4, 1, 0] rfl ?_
        exact ih S6 x0 y1 y2 v6 v7 h
set_option maxHeartbeats 4000000 in
set_option maxRecDepth 100000 in
theorem c_X6_release (S : Hp) (x0 : Nat) (x1 : Int32) (x2 : Int32) (o : Int32 × Hp) (h : f_X6_release S x0 x1 x2 = some o) : CtI yX6_release cX6_release 5 (some .int) rm_X6_release 0 0 [va_rf (some x0), .int x1, .int x2] S o := by
  refine ct_I (own := RX6) (by decide) rfl (Nat.le_of_ble_eq_true rfl) (fun X C hn hQ => ?_)
  have hn3 : 3 < xn X := by rw [hn]; decide
  have hn4 : 4 < xn X := by rw [hn]; decide
  unfold f_X6_release at h
  show GW X 0 0 S 0 [(0, va_rf (some x0)), (1, .int x1), (2, .int x2)] []
  refine g_aload_n C (q := 0) dX6_release_0 rfl rfl ?_
  refine g_iload_n C (q := 1) dX6_release_1 rfl rfl ?_
  refine g_callVI C (ci := 6) (As := [.int x1]) (np := 1) (st := []) (r := (some x0)) rfl (by decide) (fun b1 q hq => c_X6_noGuide S b1 x1 q hq) gv_RX6_X6_noGuide rfl rfl dsX6_noGuide rfl ⟨Nat.le_of_ble_eq_true rfl, Nat.le_of_ble_eq_true rfl⟩ rfl (cat_sum (Nat.le_of_ble_eq_true rfl)) ⟨Nat.zero_le _, Nat.zero_le _⟩ dX6_release_2 h (fun v1 S1 h => ?_)
  refine g_if_ne C (tgt := 16) dX6_release_5 (by decide) h (fun h => ?_) (fun h => ?_)
  · refine g_aload_n C (q := 0) dX6_release_8 rfl rfl ?_
    refine g_iload_n C (q := 2) dX6_release_9 rfl rfl ?_
    refine g_callVI C (ci := 6) (As := [.int x2]) (np := 1) (st := []) (r := (some x0)) rfl (by decide) (fun b2 q hq => c_X6_noTour S1 b2 x2 q hq) gv_RX6_X6_noTour rfl rfl dsX6_noTour rfl ⟨Nat.le_of_ble_eq_true rfl, Nat.le_of_ble_eq_true rfl⟩ rfl (cat_sum (Nat.le_of_ble_eq_true rfl)) ⟨Nat.zero_le _, Nat.zero_le _⟩ dX6_release_10 h (fun v2 S2 h => ?_)
    refine g_if_eq C (tgt := 18) dX6_release_13 (by decide) h (fun h => ?_) (fun h => ?_)
    · refine g_aload_n C (q := 0) dX6_release_18 rfl rfl ?_
      refine g_iload_n C (q := 2) dX6_release_19 rfl rfl ?_
      refine g_callVI C (ci := 6) (As := [.int x2]) (np := 1) (st := []) (r := (some x0)) rfl (by decide) (fun b3 q hq => c_X6_isOpen S2 b3 x2 q hq) gv_RX6_X6_isOpen rfl rfl dsX6_isOpen rfl ⟨Nat.le_of_ble_eq_true rfl, Nat.le_of_ble_eq_true rfl⟩ rfl (cat_sum (Nat.le_of_ble_eq_true rfl)) ⟨Nat.zero_le _, Nat.zero_le _⟩ dX6_release_20 h (fun v3 S3 h => ?_)
      refine g_if_ne C (tgt := 29) dX6_release_23 (by decide) h (fun h => ?_) (fun h => ?_)
      · refine g_bipush C (v := (-4)) dX6_release_26 (by decide) ?_
        exact g_iret C hQ dX6_release_28 h
      · refine g_aload_n C (q := 0) dX6_release_29 rfl rfl ?_
        refine g_iload_n C (q := 1) dX6_release_30 rfl rfl ?_
        refine g_iload_n C (q := 2) dX6_release_31 rfl rfl ?_
        refine g_callVI C (ci := 6) (As := [.int x1, .int x2]) (np := 2) (st := []) (r := (some x0)) rfl (by decide) (fun b4 q hq => c_X6_leads S3 b4 x1 x2 q hq) gv_RX6_X6_leads rfl rfl dsX6_leads rfl ⟨Nat.le_of_ble_eq_true rfl, Nat.le_of_ble_eq_true rfl⟩ rfl (cat_sum (Nat.le_of_ble_eq_true rfl)) ⟨Nat.zero_le _, Nat.zero_le _⟩ dX6_release_32 h (fun v4 S4 h => ?_)
        refine g_if_ne C (tgt := 41) dX6_release_35 (by decide) h (fun h => ?_) (fun h => ?_)
        · refine g_bipush C (v := (-5)) dX6_release_38 (by decide) ?_
          exact g_iret C hQ dX6_release_40 h
        · refine g_aload_n C (q := 0) dX6_release_41 rfl rfl ?_
          refine g_callVV C (ci := 6) (As := []) (np := 0) (st := []) (r := (some x0)) rfl (by decide) (fun b5 q hq => c_X6_record S4 b5  q hq) gv_RX6_X6_record rfl rfl dsX6_record rfl ⟨Nat.le_of_ble_eq_true rfl, Nat.le_of_ble_eq_true rfl⟩ rfl (cat_sum (Nat.le_of_ble_eq_true rfl)) ⟨Nat.zero_le _, Nat.zero_le _⟩ dX6_release_42 h (fun S5 h => ?_)
          refine g_iconst C (v := 0) dX6_release_45 (by decide) ?_
          refine g_istore_n C (i := 3) (lv' := [(3, .int 0), (0, va_rf (some x0)), (1, .int x1), (2, .int x2)]) dX6_release_46 rfl hn3 rfl ?_
          refine g_iconst C (v := 0) dX6_release_47 (by decide) ?_
          refine g_istore C (i := 4) (lv' := [(4, .int 0), (3, .int 0), (0, va_rf (some x0)), (1, .int x1), (2, .int x2)]) dX6_release_48 hn4 rfl ?_
          refine g_sub (lv' := [(0, va_rf (some x0)), (1, .int x1), (2, .int x2), (3, .int 0), (4, .int 0)]) [2, 3, 4, 1, 0] rfl ?_
          exact w_X6_release_L50 C hn hQ 1000 S5 x0 x1 x2 (0 : Int32) (0 : Int32) h
    · refine g_iconst C (v := (-1)) dX6_release_16 (by decide) ?_
      exact g_iret C hQ dX6_release_17 h
  · refine g_iconst C (v := (-1)) dX6_release_16 (by decide) ?_
    exact g_iret C hQ dX6_release_17 h

abbrev rm_X6_mayMerge : Room := { frames := 2, cells := 0, slots := 0, locals := 43 }
theorem dsX6_mayMerge : yX6_mayMerge.cls = RX6 ∧ yX6_mayMerge.cls ≠ "java/lang/invoke/MethodHandle" ∧ yX6_mayMerge.cls ≠ "java/lang/invoke/VarHandle" ∧ (parseMethodDescriptor yX6_mayMerge.desc).map (fun d => d.parameters.length) = some 2 := by decide +kernel
def f_X6_mayMerge (S : Hp) (x0 : Nat) (x1 : Int32) (x2 : Int32) : Option (Int32 × Hp) :=
 ob S 6 (some x0) fun b1 => cl (f_X6_isOpen S b1 x1) fun v1 S1 =>
 if v1 = 0 then
 ob S1 6 (some x0) fun b2 => cl (f_X6_of S1 b2 x2 (2 : Int32)) fun v2 S2 =>
 ob S2 6 (some x0) fun b3 => cl (f_X6_of S2 b3 x1 (2 : Int32)) fun v3 S3 =>
 if (v2 &&& (v3 ^^^ (-1))) = 0 then
 if (0 : Int32) = 0 then
 some ((0 : Int32), S3)
 else
 if (1 : Int32) = 0 then
 some ((0 : Int32), S3)
 else
 ob S3 6 (some x0) fun _ =>
 ar S3 8 (zR S3 x0 3) (7 + x2) fun a2 i1 =>
 ar S3 8 (zR S3 x0 3) (7 + x1) fun a3 i2 =>
 if 0 < (Op.cmpValue (FP.dcmp (zD S3 a2 i1) (zD S3 a3 i2)) CmpOp.g) then
 some ((0 : Int32), S3)
 else
 ob S3 6 (some x0) fun b4 => cl (f_X6_of S3 b4 x1 (3 : Int32)) fun v4 S4 =>
 ob S4 6 (some x0) fun b5 => cl (f_X6_of S4 b5 x2 (3 : Int32)) fun v5 S5 =>
 if 12 < (v4 + v5) then
 some ((0 : Int32), S5)
 else
 some ((1 : Int32), S5)
 else
 if (0 : Int32) = 0 then
 some ((0 : Int32), S3)
 else
 if (0 : Int32) = 0 then
 some ((0 : Int32), S3)
 else
 ob S3 6 (some x0) fun _ =>
 ar S3 8 (zR S3 x0 3) (7 + x2) fun a5 i3 =>
 ar S3 8 (zR S3 x0 3) (7 + x1) fun a6 i4 =>
 if 0 < (Op.cmpValue (FP.dcmp (zD S3 a5 i3) (zD S3 a6 i4)) CmpOp.g) then
 some ((0 : Int32), S3)
 else
 ob S3 6 (some x0) fun b6 => cl (f_X6_of S3 b6 x1 (3 : Int32)) fun v6 S6 =>
 ob S6 6 (some x0) fun b7 => cl (f_X6_of S6 b7 x2 (3 : Int32)) fun v7 S7 =>
 if 12 < (v6 + v7) then
 some ((0 : Int32), S7)
 else
 some ((1 : Int32), S7)
 else
 ob S1 6 (some x0) fun b8 => cl (f_X6_isOpen S1 b8 x2) fun v8 S8 =>
 if v8 = 0 then
 ob S8 6 (some x0) fun b9 => cl (f_X6_of S8 b9 x2 (2 : Int32)) fun v9 S9 =>
 ob S9 6 (some x0) fun b10 => cl (f_X6_of S9 b10 x1 (2 : Int32)) fun v10 S10 =>
 if (v9 &&& (v10 ^^^ (-1))) = 0 then
 if (0 : Int32) = 0 then
 some ((0 : Int32), S10)
 else
 if (1 : Int32) = 0 then
 some ((0 : Int32), S10)
 else
 ob S10 6 (some x0) fun _ =>
 ar S10 8 (zR S10 x0 3) (7 + x2) fun a8 i5 =>
 ar S10 8 (zR S10 x0 3) (7 + x1) fun a9 i6 =>
 if 0 < (Op.cmpValue (FP.dcmp (zD S10 a8 i5) (zD S10 a9 i6)) CmpOp.g) then
 some ((0 : Int32), S10)
 else
 ob S10 6 (some x0) fun b11 => cl (f_X6_of S10 b11 x1 (3 : Int32)) fun v11 S11 =>
 ob S11 6 (some x0) fun b12 => cl (f_X6_of S11 b12 x2 (3 : Int32)) fun v12 S12 =>
 if 12 < (v11 + v12) then
 some ((0 : Int32), S12)
 else
 some ((1 : Int32), S12)
 else
 if (0 : Int32) = 0 then
 some ((0 : Int32), S10)
 else
 if (0 : Int32) = 0 then
 some ((0 : Int32), S10)
 else
 ob S10 6 (some x0) fun _ =>
 ar S10 8 (zR S10 x0 3) (7 + x2) fun a11 i7 =>
 ar S10 8 (zR S10 x0 3) (7 + x1) fun a12 i8 =>
 if 0 < (Op.cmpValue (FP.dcmp (zD S10 a11 i7) (zD S10 a12 i8)) CmpOp.g) then
 some ((0 : Int32), S10)
 else
 ob S10 6 (some x0) fun b13 => cl (f_X6_of S10 b13 x1 (3 : Int32)) fun v13 S13 =>
 ob S13 6 (some x0) fun b14 => cl (f_X6_of S13 b14 x2 (3 : Int32)) fun v14 S14 =>
 if 12 < (v13 + v14) then
 some ((0 : Int32), S14)
 else
 some ((1 : Int32), S14)
 else
 ob S8 6 (some x0) fun b15 => cl (f_X6_of S8 b15 x1 (0 : Int32)) fun v15 S15 =>
 ob S15 6 (some x0) fun b16 => cl (f_X6_of S15 b16 x2 (0 : Int32)) fun v16 S16 =>
 if v15 = v16 then
 ob S16 6 (some x0) fun b17 => cl (f_X6_of S16 b17 x2 (2 : Int32)) fun v17 S17 =>
 ob S17 6 (some x0) fun b18 => cl (f_X6_of S17 b18 x1 (2 : Int32)) fun v18 S18 =>
 if (v17 &&& (v18 ^^^ (-1))) = 0 then
 if (1 : Int32) = 0 then
 some ((0 : Int32), S18)
 else
 if (1 : Int32) = 0 then
 some ((0 : Int32), S18)
 else
 ob S18 6 (some x0) fun _ =>
 ar S18 8 (zR S18 x0 3) (7 + x2) fun a14 i9 =>
 ar S18 8 (zR S18 x0 3) (7 + x1) fun a15 i10 =>
 if 0 < (Op.cmpValue (FP.dcmp (zD S18 a14 i9) (zD S18 a15 i10)) CmpOp.g) then
 some ((0 : Int32), S18)
 else
 ob S18 6 (some x0) fun b19 => cl (f_X6_of S18 b19 x1 (3 : Int32)) fun v19 S19 =>
 ob S19 6 (some x0) fun b20 => cl (f_X6_of S19 b20 x2 (3 : Int32)) fun v20 S20 =>
 if 12 < (v19 + v20) then
 some ((0 : Int32), S20)
 else
 some ((1 : Int32), S20)
 else
 if (1 : Int32) = 0 then
 some ((0 : Int32), S18)
 else
 if (0 : Int32) = 0 then
 some ((0 : Int32), S18)
 else
 ob S18 6 (some x0) fun _ =>
 ar S18 8 (zR S18 x0 3) (7 + x2) fun a17 i11 =>
 ar S18 8 (zR S18 x0 3) (7 + x1) fun a18 i12 =>
 if 0 < (Op.cmpValue (FP.dcmp (zD S18 a17 i11) (zD S18 a18 i12)) CmpOp.g) then
 some ((0 : Int32), S18)
 else
 ob S18 6 (some x0) fun b21 => cl (f_X6_of S18 b21 x1 (3 : Int32)) fun v21 S21 =>
 ob S21 6 (some x0) fun b22 => cl (f_X6_of S21 b22 x2 (3 : Int32)) fun v22 S22 =>
 if 12 < (v21 + v22) then
 some ((0 : Int32), S22)
 else
 some ((1 : Int32), S22)
 else
 ob S16 6 (some x0) fun b23 => cl (f_X6_of S16 b23 x2 (2 : Int32)) fun v23 S23 =>
 ob S23 6 (some x0) fun b24 => cl (f_X6_of S23 b24 x1 (2 : Int32)) fun v24 S24 =>
 if (v23 &&& (v24 ^^^ (-1))) = 0 then
 if (0 : Int32) = 0 then
 some ((0 : Int32), S24)
 else
 if (1 : Int32) = 0 then
 some ((0 : Int32), S24)
 else
 ob S24 6 (some x0) fun _ =>
 ar S24 8 (zR S24 x0 3) (7 + x2) fun a20 i13 =>
 ar S24 8 (zR S24 x0 3) (7 + x1) fun a21 i14 =>
 if 0 < (Op.cmpValue (FP.dcmp (zD S24 a20 i13) (zD S24 a21 i14)) CmpOp.g) then
 some ((0 : Int32), S24)
 else
 ob S24 6 (some x0) fun b25 => cl (f_X6_of S24 b25 x1 (3 : Int32)) fun v25 S25 =>
 ob S25 6 (some x0) fun b26 => cl (f_X6_of S25 b26 x2 (3 : Int32)) fun v26 S26 =>
 if 12 < (v25 + v26) then
 some ((0 : Int32), S26)
 else
 some ((1 : Int32), S26)
 else
 if (0 : Int32) = 0 then
 some ((0 : Int32), S24)
 else
 if (0 : Int32) = 0 then
 some ((0 : Int32), S24)
 else
 ob S24 6 (some x0) fun _ =>
 ar S24 8 (zR S24 x0 3) (7 + x2) fun a23 i15 =>
 ar S24 8 (zR S24 x0 3) (7 + x1) fun a24 i16 =>
 if 0 < (Op.cmpValue (FP.dcmp (zD S24 a23 i15) (zD S24 a24 i16)) CmpOp.g) then
 some ((0 : Int32), S24)
 else
 ob S24 6 (some x0) fun b27 => cl (f_X6_of S24 b27 x1 (3 : Int32)) fun v27 S27 =>
 ob S27 6 (some x0) fun b28 => cl (f_X6_of S27 b28 x2 (3 : Int32)) fun v28 S28 =>
 if 12 < (v27 + v28) then
 some ((0 : Int32), S28)
 else
 some ((1 : Int32), S28)
set_option maxHeartbeats 4000000 in
set_option maxRecDepth 100000 in
theorem c_X6_mayMerge (S : Hp) (x0 : Nat) (x1 : Int32) (x2 : Int32) (o : Int32 × Hp) (h : f_X6_mayMerge S x0 x1 x2 = some o) : CtI yX6_mayMerge cX6_mayMerge 5 (some .boolean) rm_X6_mayMerge 0 0 [va_rf (some x0), .int x1, .int x2] S o := by
  refine ct_I (own := RX6) (by decide) rfl (Nat.le_of_ble_eq_true rfl) (fun X C hn hQ => ?_)
  have hn3 : 3 < xn X := by rw [hn]; decide
  have hn4 : 4 < xn X := by rw [hn]; decide
  unfold f_X6_mayMerge at h
  show GW X 0 0 S 0 [(0, va_rf (some x0)), (1, .int x1), (2, .int x2)] []
  refine g_aload_n C (q := 0) dX6_mayMerge_0 rfl rfl ?_
  refine g_iload_n C (q := 1) dX6_mayMerge_1 rfl rfl ?_
  refine g_callVI C (ci := 6) (As := [.int x1]) (np := 1) (st := []) (r := (some x0)) rfl (by decide) (fun b1 q hq => c_X6_isOpen S b1 x1 q hq) gv_RX6_X6_isOpen rfl rfl dsX6_isOpen rfl ⟨Nat.le_of_ble_eq_true rfl, Nat.le_of_ble_eq_true rfl⟩ rfl (cat_sum (Nat.le_of_ble_eq_true rfl)) ⟨Nat.zero_le _, Nat.zero_le _⟩ dX6_mayMerge_2 h (fun v1 S1 h => ?_)
  refine g_if_eq C (tgt := 35) dX6_mayMerge_5 (by decide) h (fun h => ?_) (fun h => ?_)
  · refine g_iconst C (v := 0) dX6_mayMerge_35 (by decide) ?_
    refine g_istore_n C (i := 3) (lv' := [(3, .int 0), (0, va_rf (some x0)), (1, .int x1), (2, .int x2)]) dX6_mayMerge_36 rfl hn3 rfl ?_
    refine g_aload_n C (q := 1) dX6_mayMerge_37 rfl rfl ?_
    refine g_iload_n C (q := 3) dX6_mayMerge_38 rfl rfl ?_
    refine g_iconst C (v := 2) dX6_mayMerge_39 (by decide) ?_
    refine g_callVI C (ci := 6) (As := [.int x2, .int 2]) (np := 2) (st := []) (r := (some x0)) rfl (by decide) (fun b2 q hq => c_X6_of S1 b2 x2 (2 : Int32) q hq) gv_RX6_X6_of rfl rfl dsX6_of rfl ⟨Nat.le_of_ble_eq_true rfl, Nat.le_of_ble_eq_true rfl⟩ rfl (cat_sum (Nat.le_of_ble_eq_true rfl)) ⟨Nat.zero_le _, Nat.zero_le _⟩ dX6_mayMerge_40 h (fun v2 S2 h => ?_)
    refine g_aload_n C (q := 1) dX6_mayMerge_43 rfl rfl ?_
    refine g_iload_n C (q := 2) dX6_mayMerge_44 rfl rfl ?_
    refine g_iconst C (v := 2) dX6_mayMerge_45 (by decide) ?_
    refine g_callVI C (ci := 6) (As := [.int x1, .int 2]) (np := 2) (st := [.int v2]) (r := (some x0)) rfl (by decide) (fun b3 q hq => c_X6_of S2 b3 x1 (2 : Int32) q hq) gv_RX6_X6_of rfl rfl dsX6_of rfl ⟨Nat.le_of_ble_eq_true rfl, Nat.le_of_ble_eq_true rfl⟩ rfl (cat_sum (Nat.le_of_ble_eq_true rfl)) ⟨Nat.zero_le _, Nat.zero_le _⟩ dX6_mayMerge_46 h (fun v3 S3 h => ?_)
    refine g_iconst C (v := (-1)) dX6_mayMerge_49 (by decide) ?_
    refine g_ixor C dX6_mayMerge_50 ?_
    refine g_iand C dX6_mayMerge_51 ?_
    refine g_if_ne C (tgt := 59) dX6_mayMerge_52 (by decide) h (fun h => ?_) (fun h => ?_)
    · refine g_iconst C (v := 1) dX6_mayMerge_55 (by decide) ?_
      refine g_goto C (tgt := 60) dX6_mayMerge_56 (by decide) ?_
      refine g_istore C (i := 4) (lv' := [(4, .int 1), (3, .int 0), (0, va_rf (some x0)), (1, .int x1), (2, .int x2)]) dX6_mayMerge_60 hn4 rfl ?_
      refine g_iload_n C (q := 1) dX6_mayMerge_62 rfl rfl ?_
      refine g_if_eq C (tgt := 115) dX6_mayMerge_63 (by decide) h (fun h => ?_) (fun h => ?_)
      · refine g_iconst C (v := 0) dX6_mayMerge_115 (by decide) ?_
        exact g_zret C hQ (by decide) dX6_mayMerge_116 h
      · refine g_iload C (q := 0) dX6_mayMerge_66 rfl ?_
        refine g_if_eq C (tgt := 115) dX6_mayMerge_68 (by decide) h (fun h => ?_) (fun h => ?_)
        · refine g_iconst C (v := 0) dX6_mayMerge_115 (by decide) ?_
          exact g_zret C hQ (by decide) dX6_mayMerge_116 h
        · refine g_aload_n C (q := 2) dX6_mayMerge_71 rfl rfl ?_
          refine g_ogetSR C (ci := 6) (slot := 3) rfl (by decide) inlX6 (by decide) rfl q69 dX6_mayMerge_72 h (fun h hLa1 hKa1 => ?_)
          refine g_bipush C (v := 7) dX6_mayMerge_75 (by decide) ?_
          refine g_iload_n C (q := 4) dX6_mayMerge_77 rfl rfl ?_
          refine g_iadd C dX6_mayMerge_78 ?_
          refine g_dald C dX6_mayMerge_79 h (fun a2 i1 h => ?_)
          refine g_aload_n C (q := 2) dX6_mayMerge_80 rfl rfl ?_
          refine g_getER C (ci := 6) (slot := 3) rfl (by decide) inlX6 (by decide) rfl q69 dX6_mayMerge_81 rfl hLa1 hKa1 ?_
          refine g_bipush C (v := 7) dX6_mayMerge_84 (by decide) ?_
          refine g_iload_n C (q := 3) dX6_mayMerge_86 rfl rfl ?_
          refine g_iadd C dX6_mayMerge_87 ?_
          refine g_dald C dX6_mayMerge_88 h (fun a3 i2 h => ?_)
          refine g_dcmp C dX6_mayMerge_89 ?_
          refine g_if_gt C (tgt := 115) dX6_mayMerge_90 (by decide) h (fun h => ?_) (fun h => ?_)
          · refine g_iconst C (v := 0) dX6_mayMerge_115 (by decide) ?_
            exact g_zret C hQ (by decide) dX6_mayMerge_116 h
          · refine g_aload_n C (q := 2) dX6_mayMerge_93 rfl rfl ?_
            refine g_iload_n C (q := 3) dX6_mayMerge_94 rfl rfl ?_
            refine g_iconst C (v := 3) dX6_mayMerge_95 (by decide) ?_
            refine g_callVI C (ci := 6) (As := [.int x1, .int 3]) (np := 2) (st := []) (r := (some x0)) rfl (by decide) (fun b4 q hq => c_X6_of S3 b4 x1 (3 : Int32) q hq) gv_RX6_X6_of rfl rfl dsX6_of rfl ⟨Nat.le_of_ble_eq_true rfl, Nat.le_of_ble_eq_true rfl⟩ rfl (cat_sum (Nat.le_of_ble_eq_true rfl)) ⟨Nat.zero_le _, Nat.zero_le _⟩ dX6_mayMerge_96 h (fun v4 S4 h => ?_)
            refine g_aload_n C (q := 2) dX6_mayMerge_99 rfl rfl ?_
            refine g_iload_n C (q := 4) dX6_mayMerge_100 rfl rfl ?_
            refine g_iconst C (v := 3) dX6_mayMerge_101 (by decide) ?_
            refine g_callVI C (ci := 6) (As := [.int x2, .int 3]) (np := 2) (st := [.int v4]) (r := (some x0)) rfl (by decide) (fun b5 q hq => c_X6_of S4 b5 x2 (3 : Int32) q hq) gv_RX6_X6_of rfl rfl dsX6_of rfl ⟨Nat.le_of_ble_eq_true rfl, Nat.le_of_ble_eq_true rfl⟩ rfl (cat_sum (Nat.le_of_ble_eq_true rfl)) ⟨Nat.zero_le _, Nat.zero_le _⟩ dX6_mayMerge_102 h (fun v5 S5 h => ?_)
            refine g_iadd C dX6_mayMerge_105 ?_
            refine g_bipush C (v := 12) dX6_mayMerge_106 (by decide) ?_
            refine g_icmp_gt C (tgt := 115) dX6_mayMerge_108 (by decide) h (fun h => ?_) (fun h => ?_)
            · refine g_iconst C (v := 0) dX6_mayMerge_115 (by decide) ?_
              exact g_zret C hQ (by decide) dX6_mayMerge_116 h
            · refine g_iconst C (v := 1) dX6_mayMerge_111 (by decide) ?_
              refine g_goto C (tgt := 116) dX6_mayMerge_112 (by decide) ?_
              exact g_zret C hQ (by decide) dX6_mayMerge_116 h
    · refine g_iconst C (v := 0) dX6_mayMerge_59 (by decide) ?_
      refine g_istore C (i := 4) (lv' := [(4, .int 0), (3, .int 0), (0, va_rf (some x0)), (1, .int x1), (2, .int x2)]) dX6_mayMerge_60 hn4 rfl ?_
      refine g_iload_n C (q := 1) dX6_mayMerge_62 rfl rfl ?_
      refine g_if_eq C (tgt := 115) dX6_mayMerge_63 (by decide) h (fun h => ?_) (fun h => ?_)
      · refine g_iconst C (v := 0) dX6_mayMerge_115 (by decide) ?_
        exact g_zret C hQ (by decide) dX6_mayMerge_116 h
      · refine g_iload C (q := 0) dX6_mayMerge_66 rfl ?_
        refine g_if_eq C (tgt := 115) dX6_mayMerge_68 (by decide) h (fun h => ?_) (fun h => ?_)
        · refine g_iconst C (v := 0) dX6_mayMerge_115 (by decide) ?_
          exact g_zret C hQ (by decide) dX6_mayMerge_116 h
        · refine g_aload_n C (q := 2) dX6_mayMerge_71 rfl rfl ?_
          refine g_ogetSR C (ci := 6) (slot := 3) rfl (by decide) inlX6 (by decide) rfl q69 dX6_mayMerge_72 h (fun h hLa4 hKa4 => ?_)
          refine g_bipush C (v := 7) dX6_mayMerge_75 (by decide) ?_
          refine g_iload_n C (q := 4) dX6_mayMerge_77 rfl rfl ?_
          refine g_iadd C dX6_mayMerge_78 ?_
          refine g_dald C dX6_mayMerge_79 h (fun a5 i3 h => ?_)
          refine g_aload_n C (q := 2) dX6_mayMerge_80 rfl rfl ?_
          refine g_getER C (ci := 6) (slot := 3) rfl (by decide) inlX6 (by decide) rfl q69 dX6_mayMerge_81 rfl hLa4 hKa4 ?_
          refine g_bipush C (v := 7) dX6_mayMerge_84 (by decide) ?_
          refine g_iload_n C (q := 3) dX6_mayMerge_86 rfl rfl ?_
          refine g_iadd C dX6_mayMerge_87 ?_
          refine g_dald C dX6_mayMerge_88 h (fun a6 i4 h => ?_)
          refine g_dcmp C dX6_mayMerge_89 ?_
          refine g_if_gt C (tgt := 115) dX6_mayMerge_90 (by decide) h (fun h => ?_) (fun h => ?_)
          · refine g_iconst C (v := 0) dX6_mayMerge_115 (by decide) ?_
            exact g_zret C hQ (by decide) dX6_mayMerge_116 h
          · refine g_aload_n C (q := 2) dX6_mayMerge_93 rfl rfl ?_
            refine g_iload_n C (q := 3) dX6_mayMerge_94 rfl rfl ?_
            refine g_iconst C (v := 3) dX6_mayMerge_95 (by decide) ?_
            refine g_callVI C (ci := 6) (As := [.int x1, .int 3]) (np := 2) (st := []) (r := (some x0)) rfl (by decide) (fun b6 q hq => c_X6_of S3 b6 x1 (3 : Int32) q hq) gv_RX6_X6_of rfl rfl dsX6_of rfl ⟨Nat.le_of_ble_eq_true rfl, Nat.le_of_ble_eq_true rfl⟩ rfl (cat_sum (Nat.le_of_ble_eq_true rfl)) ⟨Nat.zero_le _, Nat.zero_le _⟩ dX6_mayMerge_96 h (fun v6 S6 h => ?_)
            refine g_aload_n C (q := 2) dX6_mayMerge_99 rfl rfl ?_
            refine g_iload_n C (q := 4) dX6_mayMerge_100 rfl rfl ?_
            refine g_iconst C (v := 3) dX6_mayMerge_101 (by decide) ?_
            refine g_callVI C (ci := 6) (As := [.int x2, .int 3]) (np := 2) (st := [.int v6]) (r := (some x0)) rfl (by decide) (fun b7 q hq => c_X6_of S6 b7 x2 (3 : Int32) q hq) gv_RX6_X6_of rfl rfl dsX6_of rfl ⟨Nat.le_of_ble_eq_true rfl, Nat.le_of_ble_eq_true rfl⟩ rfl (cat_sum (Nat.le_of_ble_eq_true rfl)) ⟨Nat.zero_le _, Nat.zero_le _⟩ dX6_mayMerge_102 h (fun v7 S7 h => ?_)
            refine g_iadd C dX6_mayMerge_105 ?_
            refine g_bipush C (v := 12) dX6_mayMerge_106 (by decide) ?_
            refine g_icmp_gt C (tgt := 115) dX6_mayMerge_108 (by decide) h (fun h => ?_) (fun h => ?_)
            · refine g_iconst C (v := 0) dX6_mayMerge_115 (by decide) ?_
              exact g_zret C hQ (by decide) dX6_mayMerge_116 h
            · refine g_iconst C (v := 1) dX6_mayMerge_111 (by decide) ?_
              refine g_goto C (tgt := 116) dX6_mayMerge_112 (by decide) ?_
              exact g_zret C hQ (by decide) dX6_mayMerge_116 h
  · refine g_aload_n C (q := 0) dX6_mayMerge_8 rfl rfl ?_
    refine g_iload_n C (q := 2) dX6_mayMerge_9 rfl rfl ?_
    refine g_callVI C (ci := 6) (As := [.int x2]) (np := 1) (st := []) (r := (some x0)) rfl (by decide) (fun b8 q hq => c_X6_isOpen S1 b8 x2 q hq) gv_RX6_X6_isOpen rfl rfl dsX6_isOpen rfl ⟨Nat.le_of_ble_eq_true rfl, Nat.le_of_ble_eq_true rfl⟩ rfl (cat_sum (Nat.le_of_ble_eq_true rfl)) ⟨Nat.zero_le _, Nat.zero_le _⟩ dX6_mayMerge_10 h (fun v8 S8 h => ?_)
    refine g_if_eq C (tgt := 35) dX6_mayMerge_13 (by decide) h (fun h => ?_) (fun h => ?_)
    · refine g_iconst C (v := 0) dX6_mayMerge_35 (by decide) ?_
      refine g_istore_n C (i := 3) (lv' := [(3, .int 0), (0, va_rf (some x0)), (1, .int x1), (2, .int x2)]) dX6_mayMerge_36 rfl hn3 rfl ?_
      refine g_aload_n C (q := 1) dX6_mayMerge_37 rfl rfl ?_
      refine g_iload_n C (q := 3) dX6_mayMerge_38 rfl rfl ?_
      refine g_iconst C (v := 2) dX6_mayMerge_39 (by decide) ?_
      refine g_callVI C (ci := 6) (As := [.int x2, .int 2]) (np := 2) (st := []) (r := (some x0)) rfl (by decide) (fun b9 q hq => c_X6_of S8 b9 x2 (2 : Int32) q hq) gv_RX6_X6_of rfl rfl dsX6_of rfl ⟨Nat.le_of_ble_eq_true rfl, Nat.le_of_ble_eq_true rfl⟩ rfl (cat_sum (Nat.le_of_ble_eq_true rfl)) ⟨Nat.zero_le _, Nat.zero_le _⟩ dX6_mayMerge_40 h (fun v9 S9 h => ?_)
      refine g_aload_n C (q := 1) dX6_mayMerge_43 rfl rfl ?_
      refine g_iload_n C (q := 2) dX6_mayMerge_44 rfl rfl ?_
      refine g_iconst C (v := 2) dX6_mayMerge_45 (by decide) ?_
      refine g_callVI C (ci := 6) (As := [.int x1, .int 2]) (np := 2) (st := [.int v9]) (r := (some x0)) rfl (by decide) (fun b10 q hq => c_X6_of S9 b10 x1 (2 : Int32) q hq) gv_RX6_X6_of rfl rfl dsX6_of rfl ⟨Nat.le_of_ble_eq_true rfl, Nat.le_of_ble_eq_true rfl⟩ rfl (cat_sum (Nat.le_of_ble_eq_true rfl)) ⟨Nat.zero_le _, Nat.zero_le _⟩ dX6_mayMerge_46 h (fun v10 S10 h => ?_)
      refine g_iconst C (v := (-1)) dX6_mayMerge_49 (by decide) ?_
      refine g_ixor C dX6_mayMerge_50 ?_
      refine g_iand C dX6_mayMerge_51 ?_
      refine g_if_ne C (tgt := 59) dX6_mayMerge_52 (by decide) h (fun h => ?_) (fun h => ?_)
      · refine g_iconst C (v := 1) dX6_mayMerge_55 (by decide) ?_
        refine g_goto C (tgt := 60) dX6_mayMerge_56 (by decide) ?_
        refine g_istore C (i := 4) (lv' := [(4, .int 1), (3, .int 0), (0, va_rf (some x0)), (1, .int x1), (2, .int x2)]) dX6_mayMerge_60 hn4 rfl ?_
        refine g_iload_n C (q := 1) dX6_mayMerge_62 rfl rfl ?_
        refine g_if_eq C (tgt := 115) dX6_mayMerge_63 (by decide) h (fun h => ?_) (fun h => ?_)
        · refine g_iconst C (v := 0) dX6_mayMerge_115 (by decide) ?_
          exact g_zret C hQ (by decide) dX6_mayMerge_116 h
        · refine g_iload C (q := 0) dX6_mayMerge_66 rfl ?_
          refine g_if_eq C (tgt := 115) dX6_mayMerge_68 (by decide) h (fun h => ?_) (fun h => ?_)
          · refine g_iconst C (v := 0) dX6_mayMerge_115 (by decide) ?_
            exact g_zret C hQ (by decide) dX6_mayMerge_116 h
          · refine g_aload_n C (q := 2) dX6_mayMerge_71 rfl rfl ?_
            refine g_ogetSR C (ci := 6) (slot := 3) rfl (by decide) inlX6 (by decide) rfl q69 dX6_mayMerge_72 h (fun h hLa7 hKa7 => ?_)
            refine g_bipush C (v := 7) dX6_mayMerge_75 (by decide) ?_
            refine g_iload_n C (q := 4) dX6_mayMerge_77 rfl rfl ?_
            refine g_iadd C dX6_mayMerge_78 ?_
            refine g_dald C dX6_mayMerge_79 h (fun a8 i5 h => ?_)
            refine g_aload_n C (q := 2) dX6_mayMerge_80 rfl rfl ?_
            refine g_getER C (ci := 6) (slot := 3) rfl (by decide) inlX6 (by decide) rfl q69 dX6_mayMerge_81 rfl hLa7 hKa7 ?_
            refine g_bipush C (v := 7) dX6_mayMerge_84 (by decide) ?_
            refine g_iload_n C (q := 3) dX6_mayMerge_86 rfl rfl ?_
            refine g_iadd C dX6_mayMerge_87 ?_
            refine g_dald C dX6_mayMerge_88 h (fun a9 i6 h => ?_)
            refine g_dcmp C dX6_mayMerge_89 ?_
            refine g_if_gt C (tgt := 115) dX6_mayMerge_90 (by decide) h (fun h => ?_) (fun h => ?_)
            · refine g_iconst C (v := 0) dX6_mayMerge_115 (by decide) ?_
              exact g_zret C hQ (by decide) dX6_mayMerge_116 h
            · refine g_aload_n C (q := 2) dX6_mayMerge_93 rfl rfl ?_
              refine g_iload_n C (q := 3) dX6_mayMerge_94 rfl rfl ?_
              refine g_iconst C (v := 3) dX6_mayMerge_95 (by decide) ?_
              refine g_callVI C (ci := 6) (As := [.int x1, .int 3]) (np := 2) (st := []) (r := (some x0)) rfl (by decide) (fun b11 q hq => c_X6_of S10 b11 x1 (3 : Int32) q hq) gv_RX6_X6_of rfl rfl dsX6_of rfl ⟨Nat.le_of_ble_eq_true rfl, Nat.le_of_ble_eq_true rfl⟩ rfl (cat_sum (Nat.le_of_ble_eq_true rfl)) ⟨Nat.zero_le _, Nat.zero_le _⟩ dX6_mayMerge_96 h (fun v11 S11 h => ?_)
              refine g_aload_n C (q := 2) dX6_mayMerge_99 rfl rfl ?_
              refine g_iload_n C (q := 4) dX6_mayMerge_100 rfl rfl ?_
              refine g_iconst C (v := 3) dX6_mayMerge_101 (by decide) ?_
              refine g_callVI C (ci := 6) (As := [.int x2, .int 3]) (np := 2) (st := [.int v11]) (r := (some x0)) rfl (by decide) (fun b12 q hq => c_X6_of S11 b12 x2 (3 : Int32) q hq) gv_RX6_X6_of rfl rfl dsX6_of rfl ⟨Nat.le_of_ble_eq_true rfl, Nat.le_of_ble_eq_true rfl⟩ rfl (cat_sum (Nat.le_of_ble_eq_true rfl)) ⟨Nat.zero_le _, Nat.zero_le _⟩ dX6_mayMerge_102 h (fun v12 S12 h => ?_)
              refine g_iadd C dX6_mayMerge_105 ?_
              refine g_bipush C (v := 12) dX6_mayMerge_106 (by decide) ?_
              refine g_icmp_gt C (tgt := 115) dX6_mayMerge_108 (by decide) h (fun h => ?_) (fun h => ?_)
              · refine g_iconst C (v := 0) dX6_mayMerge_115 (by decide) ?_
                exact g_zret C hQ (by decide) dX6_mayMerge_116 h
              · refine g_iconst C (v := 1) dX6_mayMerge_111 (by decide) ?_
                refine g_goto C (tgt := 116) dX6_mayMerge_112 (by decide) ?_
                exact g_zret C hQ (by decide) dX6_mayMerge_116 h
      · refine g_iconst C (v := 0) dX6_mayMerge_59 (by decide) ?_
        refine g_istore C (i := 4) (lv' := [(4, .int 0), (3, .int 0), (0, va_rf (some x0)), (1, .int x1), (2, .int x2)]) dX6_mayMerge_60 hn4 rfl ?_
        refine g_iload_n C (q := 1) dX6_mayMerge_62 rfl rfl ?_
        refine g_if_eq C (tgt := 115) dX6_mayMerge_63 (by decide) h (fun h => ?_) (fun h => ?_)
        · refine g_iconst C (v := 0) dX6_mayMerge_115 (by decide) ?_
          exact g_zret C hQ (by decide) dX6_mayMerge_116 h
        · refine g_iload C (q := 0) dX6_mayMerge_66 rfl ?_
          refine g_if_eq C (tgt := 115) dX6_mayMerge_68 (by decide) h (fun h => ?_) (fun h => ?_)
          · refine g_iconst C (v := 0) dX6_mayMerge_115 (by decide) ?_
            exact g_zret C hQ (by decide) dX6_mayMerge_116 h
          · refine g_aload_n C (q := 2) dX6_mayMerge_71 rfl rfl ?_
            refine g_ogetSR C (ci := 6) (slot := 3) rfl (by decide) inlX6 (by decide) rfl q69 dX6_mayMerge_72 h (fun h hLa10 hKa10 => ?_)
            refine g_bipush C (v := 7) dX6_mayMerge_75 (by decide) ?_
            refine g_iload_n C (q := 4) dX6_mayMerge_77 rfl rfl ?_
            refine g_iadd C dX6_mayMerge_78 ?_
            refine g_dald C dX6_mayMerge_79 h (fun a11 i7 h => ?_)
            refine g_aload_n C (q := 2) dX6_mayMerge_80 rfl rfl ?_
            refine g_getER C (ci := 6) (slot := 3) rfl (by decide) inlX6 (by decide) rfl q69 dX6_mayMerge_81 rfl hLa10 hKa10 ?_
            refine g_bipush C (v := 7) dX6_mayMerge_84 (by decide) ?_
            refine g_iload_n C (q := 3) dX6_mayMerge_86 rfl rfl ?_
            refine g_iadd C dX6_mayMerge_87 ?_
            refine g_dald C dX6_mayMerge_88 h (fun a12 i8 h => ?_)
            refine g_dcmp C dX6_mayMerge_89 ?_
            refine g_if_gt C (tgt := 115) dX6_mayMerge_90 (by decide) h (fun h => ?_) (fun h => ?_)
            · refine g_iconst C (v := 0) dX6_mayMerge_115 (by decide) ?_
              exact g_zret C hQ (by decide) dX6_mayMerge_116 h
            · refine g_aload_n C (q := 2) dX6_mayMerge_93 rfl rfl ?_
              refine g_iload_n C (q := 3) dX6_mayMerge_94 rfl rfl ?_
              refine g_iconst C (v := 3) dX6_mayMerge_95 (by decide) ?_
              refine g_callVI C (ci := 6) (As := [.int x1, .int 3]) (np := 2) (st := []) (r := (some x0)) rfl (by decide) (fun b13 q hq => c_X6_of S10 b13 x1 (3 : Int32) q hq) gv_RX6_X6_of rfl rfl dsX6_of rfl ⟨Nat.le_of_ble_eq_true rfl, Nat.le_of_ble_eq_true rfl⟩ rfl (cat_sum (Nat.le_of_ble_eq_true rfl)) ⟨Nat.zero_le _, Nat.zero_le _⟩ dX6_mayMerge_96 h (fun v13 S13 h => ?_)
              refine g_aload_n C (q := 2) dX6_mayMerge_99 rfl rfl ?_
              refine g_iload_n C (q := 4) dX6_mayMerge_100 rfl rfl ?_
              refine g_iconst C (v := 3) dX6_mayMerge_101 (by decide) ?_
              refine g_callVI C (ci := 6) (As := [.int x2, .int 3]) (np := 2) (st := [.int v13]) (r := (some x0)) rfl (by decide) (fun b14 q hq => c_X6_of S13 b14 x2 (3 : Int32) q hq) gv_RX6_X6_of rfl rfl dsX6_of rfl ⟨Nat.le_of_ble_eq_true rfl, Nat.le_of_ble_eq_true rfl⟩ rfl (cat_sum (Nat.le_of_ble_eq_true rfl)) ⟨Nat.zero_le _, Nat.zero_le _⟩ dX6_mayMerge_102 h (fun v14 S14 h => ?_)
              refine g_iadd C dX6_mayMerge_105 ?_
              refine g_bipush C (v := 12) dX6_mayMerge_106 (by decide) ?_
              refine g_icmp_gt C (tgt := 115) dX6_mayMerge_108 (by decide) h (fun h => ?_) (fun h => ?_)
              · refine g_iconst C (v := 0) dX6_mayMerge_115 (by decide) ?_
                exact g_zret C hQ (by decide) dX6_mayMerge_116 h
              · refine g_iconst C (v := 1) dX6_mayMerge_111 (by decide) ?_
                refine g_goto C (tgt := 116) dX6_mayMerge_112 (by decide) ?_
                exact g_zret C hQ (by decide) dX6_mayMerge_116 h
    · refine g_aload_n C (q := 0) dX6_mayMerge_16 rfl rfl ?_
      refine g_iload_n C (q := 1) dX6_mayMerge_17 rfl rfl ?_
      refine g_iconst C (v := 0) dX6_mayMerge_18 (by decide) ?_
      refine g_callVI C (ci := 6) (As := [.int x1, .int 0]) (np := 2) (st := []) (r := (some x0)) rfl (by decide) (fun b15 q hq => c_X6_of S8 b15 x1 (0 : Int32) q hq) gv_RX6_X6_of rfl rfl dsX6_of rfl ⟨Nat.le_of_ble_eq_true rfl, Nat.le_of_ble_eq_true rfl⟩ rfl (cat_sum (Nat.le_of_ble_eq_true rfl)) ⟨Nat.zero_le _, Nat.zero_le _⟩ dX6_mayMerge_19 h (fun v15 S15 h => ?_)
      refine g_aload_n C (q := 0) dX6_mayMerge_22 rfl rfl ?_
      refine g_iload_n C (q := 2) dX6_mayMerge_23 rfl rfl ?_
      refine g_iconst C (v := 0) dX6_mayMerge_24 (by decide) ?_
      refine g_callVI C (ci := 6) (As := [.int x2, .int 0]) (np := 2) (st := [.int v15]) (r := (some x0)) rfl (by decide) (fun b16 q hq => c_X6_of S15 b16 x2 (0 : Int32) q hq) gv_RX6_X6_of rfl rfl dsX6_of rfl ⟨Nat.le_of_ble_eq_true rfl, Nat.le_of_ble_eq_true rfl⟩ rfl (cat_sum (Nat.le_of_ble_eq_true rfl)) ⟨Nat.zero_le _, Nat.zero_le _⟩ dX6_mayMerge_25 h (fun v16 S16 h => ?_)
      refine g_icmp_ne C (tgt := 35) dX6_mayMerge_28 (by decide) h (fun h => ?_) (fun h => ?_)
      · refine g_iconst C (v := 1) dX6_mayMerge_31 (by decide) ?_
        refine g_goto C (tgt := 36) dX6_mayMerge_32 (by decide) ?_
        refine g_istore_n C (i := 3) (lv' := [(3, .int 1), (0, va_rf (some x0)), (1, .int x1), (2, .int x2)]) dX6_mayMerge_36 rfl hn3 rfl ?_
        refine g_aload_n C (q := 1) dX6_mayMerge_37 rfl rfl ?_
        refine g_iload_n C (q := 3) dX6_mayMerge_38 rfl rfl ?_
        refine g_iconst C (v := 2) dX6_mayMerge_39 (by decide) ?_
        refine g_callVI C (ci := 6) (As := [.int x2, .int 2]) (np := 2) (st := []) (r := (some x0)) rfl (by decide) (fun b17 q hq => c_X6_of S16 b17 x2 (2 : Int32) q hq) gv_RX6_X6_of rfl rfl dsX6_of rfl ⟨Nat.le_of_ble_eq_true rfl, Nat.le_of_ble_eq_true rfl⟩ rfl (cat_sum (Nat.le_of_ble_eq_true rfl)) ⟨Nat.zero_le _, Nat.zero_le _⟩ dX6_mayMerge_40 h (fun v17 S17 h => ?_)
        refine g_aload_n C (q := 1) dX6_mayMerge_43 rfl rfl ?_
        refine g_iload_n C (q := 2) dX6_mayMerge_44 rfl rfl ?_
        refine g_iconst C (v := 2) dX6_mayMerge_45 (by decide) ?_
        refine g_callVI C (ci := 6) (As := [.int x1, .int 2]) (np := 2) (st := [.int v17]) (r := (some x0)) rfl (by decide) (fun b18 q hq => c_X6_of S17 b18 x1 (2 : Int32) q hq) gv_RX6_X6_of rfl rfl dsX6_of rfl ⟨Nat.le_of_ble_eq_true rfl, Nat.le_of_ble_eq_true rfl⟩ rfl (cat_sum (Nat.le_of_ble_eq_true rfl)) ⟨Nat.zero_le _, Nat.zero_le _⟩ dX6_mayMerge_46 h (fun v18 S18 h => ?_)
        refine g_iconst C (v := (-1)) dX6_mayMerge_49 (by decide) ?_
        refine g_ixor C dX6_mayMerge_50 ?_
        refine g_iand C dX6_mayMerge_51 ?_
        refine g_if_ne C (tgt := 59) dX6_mayMerge_52 (by decide) h (fun h => ?_) (fun h => ?_)
        · refine g_iconst C (v := 1) dX6_mayMerge_55 (by decide) ?_
          refine g_goto C (tgt := 60) dX6_mayMerge_56 (by decide) ?_
          refine g_istore C (i := 4) (lv' := [(4, .int 1), (3, .int 1), (0, va_rf (some x0)), (1, .int x1), (2, .int x2)]) dX6_mayMerge_60 hn4 rfl ?_
          refine g_iload_n C (q := 1) dX6_mayMerge_62 rfl rfl ?_
          refine g_if_eq C (tgt := 115) dX6_mayMerge_63 (by decide) h (fun h => ?_) (fun h => ?_)
          · refine g_iconst C (v := 0) dX6_mayMerge_115 (by decide) ?_
            exact g_zret C hQ (by decide) dX6_mayMerge_116 h
          · refine g_iload C (q := 0) dX6_mayMerge_66 rfl ?_
            refine g_if_eq C (tgt := 115) dX6_mayMerge_68 (by decide) h (fun h => ?_) (fun h => ?_)
            · refine g_iconst C (v := 0) dX6_mayMerge_115 (by decide) ?_
              exact g_zret C hQ (by decide) dX6_mayMerge_116 h
            · refine g_aload_n C (q := 2) dX6_mayMerge_71 rfl rfl ?_
              refine g_ogetSR C (ci := 6) (slot := 3) rfl (by decide) inlX6 (by decide) rfl q69 dX6_mayMerge_72 h (fun h hLa13 hKa13 => ?_)
              refine g_bipush C (v := 7) dX6_mayMerge_75 (by decide) ?_
              refine g_iload_n C (q := 4) dX6_mayMerge_77 rfl rfl ?_
              refine g_iadd C dX6_mayMerge_78 ?_
              refine g_dald C dX6_mayMerge_79 h (fun a14 i9 h => ?_)
              refine g_aload_n C (q := 2) dX6_mayMerge_80 rfl rfl ?_
              refine g_getER C (ci := 6) (slot := 3) rfl (by decide) inlX6 (by decide) rfl q69 dX6_mayMerge_81 rfl hLa13 hKa13 ?_
              refine g_bipush C (v := 7) dX6_mayMerge_84 (by decide) ?_
              refine g_iload_n C (q := 3) dX6_mayMerge_86 rfl rfl ?_
              refine g_iadd C dX6_mayMerge_87 ?_
              refine g_dald C dX6_mayMerge_88 h (fun a15 i10 h => ?_)
              refine g_dcmp C dX6_mayMerge_89 ?_
              refine g_if_gt C (tgt := 115) dX6_mayMerge_90 (by decide) h (fun h => ?_) (fun h => ?_)
              · refine g_iconst C (v := 0) dX6_mayMerge_115 (by decide) ?_
                exact g_zret C hQ (by decide) dX6_mayMerge_116 h
              · refine g_aload_n C (q := 2) dX6_mayMerge_93 rfl rfl ?_
                refine g_iload_n C (q := 3) dX6_mayMerge_94 rfl rfl ?_
                refine g_iconst C (v := 3) dX6_mayMerge_95 (by decide) ?_
                refine g_callVI C (ci := 6) (As := [.int x1, .int 3]) (np := 2) (st := []) (r := (some x0)) rfl (by decide) (fun b19 q hq => c_X6_of S18 b19 x1 (3 : Int32) q hq) gv_RX6_X6_of rfl rfl dsX6_of rfl ⟨Nat.le_of_ble_eq_true rfl, Nat.le_of_ble_eq_true rfl⟩ rfl (cat_sum (Nat.le_of_ble_eq_true rfl)) ⟨Nat.zero_le _, Nat.zero_le _⟩ dX6_mayMerge_96 h (fun v19 S19 h => ?_)
                refine g_aload_n C (q := 2) dX6_mayMerge_99 rfl rfl ?_
                refine g_iload_n C (q := 4) dX6_mayMerge_100 rfl rfl ?_
                refine g_iconst C (v := 3) dX6_mayMerge_101 (by decide) ?_
                refine g_callVI C (ci := 6) (As := [.int x2, .int 3]) (np := 2) (st := [.int v19]) (r := (some x0)) rfl (by decide) (fun b20 q hq => c_X6_of S19 b20 x2 (3 : Int32) q hq) gv_RX6_X6_of rfl rfl dsX6_of rfl ⟨Nat.le_of_ble_eq_true rfl, Nat.le_of_ble_eq_true rfl⟩ rfl (cat_sum (Nat.le_of_ble_eq_true rfl)) ⟨Nat.zero_le _, Nat.zero_le _⟩ dX6_mayMerge_102 h (fun v20 S20 h => ?_)
                refine g_iadd C dX6_mayMerge_105 ?_
                refine g_bipush C (v := 12) dX6_mayMerge_106 (by decide) ?_
                refine g_icmp_gt C (tgt := 115) dX6_mayMerge_108 (by decide) h (fun h => ?_) (fun h => ?_)
                · refine g_iconst C (v := 0) dX6_mayMerge_115 (by decide) ?_
                  exact g_zret C hQ (by decide) dX6_mayMerge_116 h
                · refine g_iconst C (v := 1) dX6_mayMerge_111 (by decide) ?_
                  refine g_goto C (tgt := 116) dX6_mayMerge_112 (by decide) ?_
                  exact g_zret C hQ (by decide) dX6_mayMerge_116 h
        · refine g_iconst C (v := 0) dX6_mayMerge_59 (by decide) ?_
          refine g_istore C (i := 4) (lv' := [(4, .int 0), (3, .int 1), (0, va_rf (some x0)), (1, .int x1), (2, .int x2)]) dX6_mayMerge_60 hn4 rfl ?_
          refine g_iload_n C (q := 1) dX6_mayMerge_62 rfl rfl ?_
          refine g_if_eq C (tgt := 115) dX6_mayMerge_63 (by decide) h (fun h => ?_) (fun h => ?_)
          · refine g_iconst C (v := 0) dX6_mayMerge_115 (by decide) ?_
            exact g_zret C hQ (by decide) dX6_mayMerge_116 h
          · refine g_iload C (q := 0) dX6_mayMerge_66 rfl ?_
            refine g_if_eq C (tgt := 115) dX6_mayMerge_68 (by decide) h (fun h => ?_) (fun h => ?_)
            · refine g_iconst C (v := 0) dX6_mayMerge_115 (by decide) ?_
              exact g_zret C hQ (by decide) dX6_mayMerge_116 h
            · refine g_aload_n C (q := 2) dX6_mayMerge_71 rfl rfl ?_
              refine g_ogetSR C (ci := 6) (slot := 3) rfl (by decide) inlX6 (by decide) rfl q69 dX6_mayMerge_72 h (fun h hLa16 hKa16 => ?_)
              refine g_bipush C (v := 7) dX6_mayMerge_75 (by decide) ?_
              refine g_iload_n C (q := 4) dX6_mayMerge_77 rfl rfl ?_
              refine g_iadd C dX6_mayMerge_78 ?_
              refine g_dald C dX6_mayMerge_79 h (fun a17 i11 h => ?_)
              refine g_aload_n C (q := 2) dX6_mayMerge_80 rfl rfl ?_
              refine g_getER C (ci := 6) (slot := 3) rfl (by decide) inlX6 (by decide) rfl q69 dX6_mayMerge_81 rfl hLa16 hKa16 ?_
              refine g_bipush C (v := 7) dX6_mayMerge_84 (by decide) ?_
              refine g_iload_n C (q := 3) dX6_mayMerge_86 rfl rfl ?_
              refine g_iadd C dX6_mayMerge_87 ?_
              refine g_dald C dX6_mayMerge_88 h (fun a18 i12 h => ?_)
              refine g_dcmp C dX6_mayMerge_89 ?_
              refine g_if_gt C (tgt := 115) dX6_mayMerge_90 (by decide) h (fun h => ?_) (fun h => ?_)
              · refine g_iconst C (v := 0) dX6_mayMerge_115 (by decide) ?_
                exact g_zret C hQ (by decide) dX6_mayMerge_116 h
              · refine g_aload_n C (q := 2) dX6_mayMerge_93 rfl rfl ?_
                refine g_iload_n C (q := 3) dX6_mayMerge_94 rfl rfl ?_
                refine g_iconst C (v := 3) dX6_mayMerge_95 (by decide) ?_
                refine g_callVI C (ci := 6) (As := [.int x1, .int 3]) (np := 2) (st := []) (r := (some x0)) rfl (by decide) (fun b21 q hq => c_X6_of S18 b21 x1 (3 : Int32) q hq) gv_RX6_X6_of rfl rfl dsX6_of rfl ⟨Nat.le_of_ble_eq_true rfl, Nat.le_of_ble_eq_true rfl⟩ rfl (cat_sum (Nat.le_of_ble_eq_true rfl)) ⟨Nat.zero_le _, Nat.zero_le _⟩ dX6_mayMerge_96 h (fun v21 S21 h => ?_)
                refine g_aload_n C (q := 2) dX6_mayMerge_99 rfl rfl ?_
                refine g_iload_n C (q := 4) dX6_mayMerge_100 rfl rfl ?_
                refine g_iconst C (v := 3) dX6_mayMerge_101 (by decide) ?_
                refine g_callVI C (ci := 6) (As := [.int x2, .int 3]) (np := 2) (st := [.int v21]) (r := (some x0)) rfl (by decide) (fun b22 q hq => c_X6_of S21 b22 x2 (3 : Int32) q hq) gv_RX6_X6_of rfl rfl dsX6_of rfl ⟨Nat.le_of_ble_eq_true rfl, Nat.le_of_ble_eq_true rfl⟩ rfl (cat_sum (Nat.le_of_ble_eq_true rfl)) ⟨Nat.zero_le _, Nat.zero_le _⟩ dX6_mayMerge_102 h (fun v22 S22 h => ?_)
                refine g_iadd C dX6_mayMerge_105 ?_
                refine g_bipush C (v := 12) dX6_mayMerge_106 (by decide) ?_
                refine g_icmp_gt C (tgt := 115) dX6_mayMerge_108 (by decide) h (fun h => ?_) (fun h => ?_)
                · refine g_iconst C (v := 0) dX6_mayMerge_115 (by decide) ?_
                  exact g_zret C hQ (by decide) dX6_mayMerge_116 h
                · refine g_iconst C (v := 1) dX6_mayMerge_111 (by decide) ?_
                  refine g_goto C (tgt := 116) dX6_mayMerge_112 (by decide) ?_
                  exact g_zret C hQ (by decide) dX6_mayMerge_116 h
      · refine g_iconst C (v := 0) dX6_mayMerge_35 (by decide) ?_
        refine g_istore_n C (i := 3) (lv' := [(3, .int 0), (0, va_rf (some x0)), (1, .int x1), (2, .int x2)]) dX6_mayMerge_36 rfl hn3 rfl ?_
        refine g_aload_n C (q := 1) dX6_mayMerge_37 rfl rfl ?_
        refine g_iload_n C (q := 3) dX6_mayMerge_38 rfl rfl ?_
        refine g_iconst C (v := 2) dX6_mayMerge_39 (by decide) ?_
        refine g_callVI C (ci := 6) (As := [.int x2, .int 2]) (np := 2) (st := []) (r := (some x0)) rfl (by decide) (fun b23 q hq => c_X6_of S16 b23 x2 (2 : Int32) q hq) gv_RX6_X6_of rfl rfl dsX6_of rfl ⟨Nat.le_of_ble_eq_true rfl, Nat.le_of_ble_eq_true rfl⟩ rfl (cat_sum (Nat.le_of_ble_eq_true rfl)) ⟨Nat.zero_le _, Nat.zero_le _⟩ dX6_mayMerge_40 h (fun v23 S23 h => ?_)
        refine g_aload_n C (q := 1) dX6_mayMerge_43 rfl rfl ?_
        refine g_iload_n C (q := 2) dX6_mayMerge_44 rfl rfl ?_
        refine g_iconst C (v := 2) dX6_mayMerge_45 (by decide) ?_
        refine g_callVI C (ci := 6) (As := [.int x1, .int 2]) (np := 2) (st := [.int v23]) (r := (some x0)) rfl (by decide) (fun b24 q hq => c_X6_of S23 b24 x1 (2 : Int32) q hq) gv_RX6_X6_of rfl rfl dsX6_of rfl ⟨Nat.le_of_ble_eq_true rfl, Nat.le_of_ble_eq_true rfl⟩ rfl (cat_sum (Nat.le_of_ble_eq_true rfl)) ⟨Nat.zero_le _, Nat.zero_le _⟩ dX6_mayMerge_46 h (fun v24 S24 h => ?_)
        refine g_iconst C (v := (-1)) dX6_mayMerge_49 (by decide) ?_
        refine g_ixor C dX6_mayMerge_50 ?_
        refine g_iand C dX6_mayMerge_51 ?_
        refine g_if_ne C (tgt := 59) dX6_mayMerge_52 (by decide) h (fun h => ?_) (fun h => ?_)
        · refine g_iconst C (v := 1) dX6_mayMerge_55 (by decide) ?_
          refine g_goto C (tgt := 60) dX6_mayMerge_56 (by decide) ?_
          refine g_istore C (i := 4) (lv' := [(4, .int 1), (3, .int 0), (0, va_rf (some x0)), (1, .int x1), (2, .int x2)]) dX6_mayMerge_60 hn4 rfl ?_
          refine g_iload_n C (q := 1) dX6_mayMerge_62 rfl rfl ?_
          refine g_if_eq C (tgt := 115) dX6_mayMerge_63 (by decide) h (fun h => ?_) (fun h => ?_)
          · refine g_iconst C (v := 0) dX6_mayMerge_115 (by decide) ?_
            exact g_zret C hQ (by decide) dX6_mayMerge_116 h
          · refine g_iload C (q := 0) dX6_mayMerge_66 rfl ?_
            refine g_if_eq C (tgt := 115) dX6_mayMerge_68 (by decide) h (fun h => ?_) (fun h => ?_)
            · refine g_iconst C (v := 0) dX6_mayMerge_115 (by decide) ?_
              exact g_zret C hQ (by decide) dX6_mayMerge_116 h
            · refine g_aload_n C (q := 2) dX6_mayMerge_71 rfl rfl ?_
              refine g_ogetSR C (ci := 6) (slot := 3) rfl (by decide) inlX6 (by decide) rfl q69 dX6_mayMerge_72 h (fun h hLa19 hKa19 => ?_)
              refine g_bipush C (v := 7) dX6_mayMerge_75 (by decide) ?_
              refine g_iload_n C (q := 4) dX6_mayMerge_77 rfl rfl ?_
              refine g_iadd C dX6_mayMerge_78 ?_
              refine g_dald C dX6_mayMerge_79 h (fun a20 i13 h => ?_)
              refine g_aload_n C (q := 2) dX6_mayMerge_80 rfl rfl ?_
              refine g_getER C (ci := 6) (slot := 3) rfl (by decide) inlX6 (by decide) rfl q69 dX6_mayMerge_81 rfl hLa19 hKa19 ?_
              refine g_bipush C (v := 7) dX6_mayMerge_84 (by decide) ?_
              refine g_iload_n C (q := 3) dX6_mayMerge_86 rfl rfl ?_
              refine g_iadd C dX6_mayMerge_87 ?_
              refine g_dald C dX6_mayMerge_88 h (fun a21 i14 h => ?_)
              refine g_dcmp C dX6_mayMerge_89 ?_
              refine g_if_gt C (tgt := 115) dX6_mayMerge_90 (by decide) h (fun h => ?_) (fun h => ?_)
              · refine g_iconst C (v := 0) dX6_mayMerge_115 (by decide) ?_
                exact g_zret C hQ (by decide) dX6_mayMerge_116 h
              · refine g_aload_n C (q := 2) dX6_mayMerge_93 rfl rfl ?_
                refine g_iload_n C (q := 3) dX6_mayMerge_94 rfl rfl ?_
                refine g_iconst C (v := 3) dX6_mayMerge_95 (by decide) ?_
                refine g_callVI C (ci := 6) (As := [.int x1, .int 3]) (np := 2) (st := []) (r := (some x0)) rfl (by decide) (fun b25 q hq => c_X6_of S24 b25 x1 (3 : Int32) q hq) gv_RX6_X6_of rfl rfl dsX6_of rfl ⟨Nat.le_of_ble_eq_true rfl, Nat.le_of_ble_eq_true rfl⟩ rfl (cat_sum (Nat.le_of_ble_eq_true rfl)) ⟨Nat.zero_le _, Nat.zero_le _⟩ dX6_mayMerge_96 h (fun v25 S25 h => ?_)
                refine g_aload_n C (q := 2) dX6_mayMerge_99 rfl rfl ?_
                refine g_iload_n C (q := 4) dX6_mayMerge_100 rfl rfl ?_
                refine g_iconst C (v := 3) dX6_mayMerge_101 (by decide) ?_
                refine g_callVI C (ci := 6) (As := [.int x2, .int 3]) (np := 2) (st := [.int v25]) (r := (some x0)) rfl (by decide) (fun b26 q hq => c_X6_of S25 b26 x2 (3 : Int32) q hq) gv_RX6_X6_of rfl rfl dsX6_of rfl ⟨Nat.le_of_ble_eq_true rfl, Nat.le_of_ble_eq_true rfl⟩ rfl (cat_sum (Nat.le_of_ble_eq_true rfl)) ⟨Nat.zero_le _, Nat.zero_le _⟩ dX6_mayMerge_102 h (fun v26 S26 h => ?_)
                refine g_iadd C dX6_mayMerge_105 ?_
                refine g_bipush C (v := 12) dX6_mayMerge_106 (by decide) ?_
                refine g_icmp_gt C (tgt := 115) dX6_mayMerge_108 (by decide) h (fun h => ?_) (fun h => ?_)
                · refine g_iconst C (v := 0) dX6_mayMerge_115 (by decide) ?_
                  exact g_zret C hQ (by decide) dX6_mayMerge_116 h
                · refine g_iconst C (v := 1) dX6_mayMerge_111 (by decide) ?_
                  refine g_goto C (tgt := 116) dX6_mayMerge_112 (by decide) ?_
                  exact g_zret C hQ (by decide) dX6_mayMerge_116 h
        · refine g_iconst C (v := 0) dX6_mayMerge_59 (by decide) ?_
          refine g_istore C (i := 4) (lv' := [(4, .int 0), (3, .int 0), (0, va_rf (some x0)), (1, .int x1), (2, .int x2)]) dX6_mayMerge_60 hn4 rfl ?_
          refine g_iload_n C (q := 1) dX6_mayMerge_62 rfl rfl ?_
          refine g_if_eq C (tgt := 115) dX6_mayMerge_63 (by decide) h (fun h => ?_) (fun h => ?_)
          · refine g_iconst C (v := 0) dX6_mayMerge_115 (by decide) ?_
            exact g_zret C hQ (by decide) dX6_mayMerge_116 h
          · refine g_iload C (q := 0) dX6_mayMerge_66 rfl ?_
            refine g_if_eq C (tgt := 115) dX6_mayMerge_68 (by decide) h (fun h => ?_) (fun h => ?_)
            · refine g_iconst C (v := 0) dX6_mayMerge_115 (by decide) ?_
              exact g_zret C hQ (by decide) dX6_mayMerge_116 h
            · refine g_aload_n C (q := 2) dX6_mayMerge_71 rfl rfl ?_
              refine g_ogetSR C (ci := 6) (slot := 3) rfl (by decide) inlX6 (by decide) rfl q69 dX6_mayMerge_72 h (fun h hLa22 hKa22 => ?_)
              refine g_bipush C (v := 7) dX6_mayMerge_75 (by decide) ?_
              refine g_iload_n C (q := 4) dX6_mayMerge_77 rfl rfl ?_
              refine g_iadd C dX6_mayMerge_78 ?_
              refine g_dald C dX6_mayMerge_79 h (fun a23 i15 h => ?_)
              refine g_aload_n C (q := 2) dX6_mayMerge_80 rfl rfl ?_
              refine g_getER C (ci := 6) (slot := 3) rfl (by decide) inlX6 (by decide) rfl q69 dX6_mayMerge_81 rfl hLa22 hKa22 ?_
              refine g_bipush C (v := 7) dX6_mayMerge_84 (by decide) ?_
              refine g_iload_n C (q := 3) dX6_mayMerge_86 rfl rfl ?_
              refine g_iadd C dX6_mayMerge_87 ?_
              refine g_dald C dX6_mayMerge_88 h (fun a24 i16 h => ?_)
              refine g_dcmp C dX6_mayMerge_89 ?_
              refine g_if_gt C (tgt := 115) dX6_mayMerge_90 (by decide) h (fun h => ?_) (fun h => ?_)
              · refine g_iconst C (v := 0) dX6_mayMerge_115 (by decide) ?_
                exact g_zret C hQ (by decide) dX6_mayMerge_116 h
              · refine g_aload_n C (q := 2) dX6_mayMerge_93 rfl rfl ?_
                refine g_iload_n C (q := 3) dX6_mayMerge_94 rfl rfl ?_
                refine g_iconst C (v := 3) dX6_mayMerge_95 (by decide) ?_
                refine g_callVI C (ci := 6) (As := [.int x1, .int 3]) (np := 2) (st := []) (r := (some x0)) rfl (by decide) (fun b27 q hq => c_X6_of S24 b27 x1 (3 : Int32) q hq) gv_RX6_X6_of rfl rfl dsX6_of rfl ⟨Nat.le_of_ble_eq_true rfl, Nat.le_of_ble_eq_true rfl⟩ rfl (cat_sum (Nat.le_of_ble_eq_true rfl)) ⟨Nat.zero_le _, Nat.zero_le _⟩ dX6_mayMerge_96 h (fun v27 S27 h => ?_)
                refine g_aload_n C (q := 2) dX6_mayMerge_99 rfl rfl ?_
                refine g_iload_n C (q := 4) dX6_mayMerge_100 rfl rfl ?_
                refine g_iconst C (v := 3) dX6_mayMerge_101 (by decide) ?_
                refine g_callVI C (ci := 6) (As := [.int x2, .int 3]) (np := 2) (st := [.int v27]) (r := (some x0)) rfl (by decide) (fun b28 q hq => c_X6_of S27 b28 x2 (3 : Int32) q hq) gv_RX6_X6_of rfl rfl dsX6_of rfl ⟨Nat.le_of_ble_eq_true rfl, Nat.le_of_ble_eq_true rfl⟩ rfl (cat_sum (Nat.le_of_ble_eq_true rfl)) ⟨Nat.zero_le _, Nat.zero_le _⟩ dX6_mayMerge_102 h (fun v28 S28 h => ?_)
                refine g_iadd C dX6_mayMerge_105 ?_
                refine g_bipush C (v := 12) dX6_mayMerge_106 (by decide) ?_
                refine g_icmp_gt C (tgt := 115) dX6_mayMerge_108 (by decide) h (fun h => ?_) (fun h => ?_)
                · refine g_iconst C (v := 0) dX6_mayMerge_115 (by decide) ?_
                  exact g_zret C hQ (by decide) dX6_mayMerge_116 h
                · refine g_iconst C (v := 1) dX6_mayMerge_111 (by decide) ?_
                  refine g_goto C (tgt := 116) dX6_mayMerge_112 (by decide) ?_
                  exact g_zret C hQ (by decide) dX6_mayMerge_116 h

abbrev rm_X6_merge : Room := { frames := 3, cells := 0, slots := 0, locals := 67 }
theorem dsX6_merge : yX6_merge.cls = RX6 ∧ yX6_merge.cls ≠ "java/lang/invoke/MethodHandle" ∧ yX6_merge.cls ≠ "java/lang/invoke/VarHandle" ∧ (parseMethodDescriptor yX6_merge.desc).map (fun d => d.parameters.length) = some 2 := by decide +kernel
theorem gv_RX6_X6_mayMerge : GoodIn wsL_law (wsV RX6 137 RX6 yX6_mayMerge (.code yX6_mayMerge cX6_mayMerge 5 (some .boolean) :: wsL_law)) := good_V q424 q425 q426 q5 q427
def f_X6_merge_L122_b (rec : Hp → Nat → Int32 → Int32 → Int32 → Int32 → Int32 → Option (Int32 × Hp)) (S : Hp) (x0 : Nat) (y1 : Int32) (y2 : Int32) (y3 : Int32) (y4 : Int32) (y5 : Int32) : Option (Int32 × Hp) :=
 ob S 6 (some x0) fun b1 => cl (f_X6_of S b1 y1 (4 : Int32)) fun v1 S1 =>
 if v1 ≤ y5 then
 ob S1 6 (some x0) fun b2 => cl (f_X6_to S1 b2 y1 (3 : Int32) (0 : Int32)) fun _ S2 =>
 ob S2 6 (some x0) fun b3 => cl (f_X6_to S2 b3 y1 (5 : Int32) (0 : Int32)) fun _ S3 =>
 ob S3 6 (some x0) fun b4 => cl (f_X6_to S3 b4 y1 (4 : Int32) (0 : Int32)) fun _ S4 =>
 ob S4 6 (some x0) fun b5 => cl (f_X6_to S4 b5 y1 (6 : Int32) (3 : Int32)) fun _ S5 =>
 some (y4, S5)
 else
 ob S1 6 (some x0) fun b6 => cl (f_X6_of S1 b6 y2 (4 : Int32)) fun v2 S6 =>
 if 4 ≤ v2 then
 ob S6 6 (some x0) fun b7 => cl (f_X6_to S6 b7 y1 (3 : Int32) (0 : Int32)) fun _ S7 =>
 ob S7 6 (some x0) fun b8 => cl (f_X6_to S7 b8 y1 (5 : Int32) (0 : Int32)) fun _ S8 =>
 ob S8 6 (some x0) fun b9 => cl (f_X6_to S8 b9 y1 (4 : Int32) (0 : Int32)) fun _ S9 =>
 ob S9 6 (some x0) fun b10 => cl (f_X6_to S9 b10 y1 (6 : Int32) (3 : Int32)) fun _ S10 =>
 some (y4, S10)
 else
 ob S6 6 (some x0) fun b11 => cl (f_X6_of S6 b11 y2 (4 : Int32)) fun v3 S11 =>
 ob S11 6 (some x0) fun b12 => cl (f_X6_guideOn S11 b12 y1 y5) fun v4 S12 =>
 ob S12 6 (some x0) fun b13 => cl (f_X6_to S12 b13 y2 (8 + v3) v4) fun _ S13 =>
 ob S13 6 (some x0) fun b14 => cl (f_X6_of S13 b14 y2 (4 : Int32)) fun v5 S14 =>
 ob S14 6 (some x0) fun b15 => cl (f_X6_to S14 b15 y2 (4 : Int32) (v5 + 1)) fun _ S15 =>
 bnd (y5 + 1) fun v6 =>
 rec S15 x0 y1 y2 y3 y4 v6
def f_X6_merge_L122 : Nat → Hp → Nat → Int32 → Int32 → Int32 → Int32 → Int32 → Option (Int32 × Hp)
  | 0 => fun _ _ _ _ _ _ _ => none
  | n + 1 => f_X6_merge_L122_b (f_X6_merge_L122 n)
def f_X6_merge (S : Hp) (x0 : Nat) (x1 : Int32) (x2 : Int32) : Option (Int32 × Hp) :=
 ob S 6 (some x0) fun b1 => cl (f_X6_noTour S b1 x1) fun v1 S1 =>
 if v1 = 0 then
 ob S1 6 (some x0) fun b2 => cl (f_X6_noTour S1 b2 x2) fun v2 S2 =>
 if v2 = 0 then
 if x1 = x2 then
 some ((-2 : Int32), S2)
 else
 ob S2 6 (some x0) fun b3 => cl (f_X6_mayMerge S2 b3 x1 x2) fun v3 S3 =>
 if v3 = 0 then
 some ((-4 : Int32), S3)
 else
 ob S3 6 (some x0) fun b4 => cl (f_X6_record S3 b4 ) fun _ S4 =>
 ob S4 6 (some x0) fun b5 => cl (f_X6_of S4 b5 x1 (5 : Int32)) fun v4 S5 =>
 ob S5 6 (some x0) fun b6 => cl (f_X6_of S5 b6 x1 (3 : Int32)) fun v5 S6 =>
 ob S6 6 (some x0) fun b7 => cl (f_X6_of S6 b7 x2 (1 : Int32)) fun v6 S7 =>
 bnd ((v4 - (v5 * v6))) fun v7 =>
 if v7 ≤ 0 then
 ob S7 6 (some x0) fun b8 => cl (f_X6_refunds S7 b8 x1 (0 : Int32)) fun _ S8 =>
 ob S8 6 (some x0) fun b9 => cl (f_X6_of S8 b9 x2 (3 : Int32)) fun v8 S9 =>
 ob S9 6 (some x0) fun b10 => cl (f_X6_of S9 b10 x1 (3 : Int32)) fun v9 S10 =>
 ob S10 6 (some x0) fun b11 => cl (f_X6_to S10 b11 x2 (3 : Int32) (v8 + v9)) fun _ S11 =>
 ob S11 6 (some x0) fun b12 => cl (f_X6_of S11 b12 x2 (5 : Int32)) fun v10 S12 =>
 ob S12 6 (some x0) fun b13 => cl (f_X6_of S12 b13 x1 (5 : Int32)) fun v11 S13 =>
 ob S13 6 (some x0) fun b14 => cl (f_X6_to S13 b14 x2 (5 : Int32) (v10 + v11)) fun _ S14 =>
 f_X6_merge_L122 1000 S14 x0 x1 x2 v7 (0 : Int32) (0 : Int32)
 else
 ob S7 6 (some x0) fun b15 => cl (f_X6_refunds S7 b15 x1 v7) fun _ S15 =>
 ob S15 6 (some x0) fun b16 => cl (f_X6_of S15 b16 x2 (3 : Int32)) fun v12 S16 =>
 ob S16 6 (some x0) fun b17 => cl (f_X6_of S16 b17 x1 (3 : Int32)) fun v13 S17 =>
 ob S17 6 (some x0) fun b18 => cl (f_X6_to S17 b18 x2 (3 : Int32) (v12 + v13)) fun _ S18 =>
 ob S18 6 (some x0) fun b19 => cl (f_X6_of S18 b19 x2 (5 : Int32)) fun v14 S19 =>
 ob S19 6 (some x0) fun b20 => cl (f_X6_of S19 b20 x1 (5 : Int32)) fun v15 S20 =>
 ob S20 6 (some x0) fun b21 => cl (f_X6_to S20 b21 x2 (5 : Int32) (v14 + v15)) fun _ S21 =>
 f_X6_merge_L122 1000 S21 x0 x1 x2 v7 v7 (0 : Int32)
 else
 some ((-1 : Int32), S2)
 else
 some ((-1 : Int32), S1)
set_option maxHeartbeats 4000000 in
set_option maxRecDepth 100000 in
theorem w_X6_merge_L122 {X : Cx} (C : CxOK X cX6_merge RX6 rm_X6_merge) (hn : xn X = 6) {S0 : Hp} {o : Int32 × Hp} (hQ : QI X (some .int) S0 0 0 o) : ∀ (fuel : Nat) (S : Hp) (x0 : Nat) (y1 : Int32) (y2 : Int32) (y3 : Int32) (y4 : Int32) (y5 : Int32), f_X6_merge_L122 fuel S x0 y1 y2 y3 y4 y5 = some o → GW X 0 0 S 122 [(0, va_rf (some x0)), (1, .int y1), (2, .int y2), (3, .int y3), (4, .int y4), (5, .int y5)] [] := by
  have hn5 : 5 < xn X := by rw [hn]; decide
  intro fuel
  induction fuel with
  | zero => intro S x0 y1 y2 y3 y4 y5 h; cases (show none = some o from h)
  | succ fuel ih =>
    intro S x0 y1 y2 y3 y4 y5 h
    have h : f_X6_merge_L122_b (f_X6_merge_L122 fuel) S x0 y1 y2 y3 y4 y5 = some o := h
    unfold f_X6_merge_L122_b at h
    refine g_iload C (q := 5) dX6_merge_122 rfl ?_
    refine g_aload_n C (q := 0) dX6_merge_124 rfl rfl ?_
    refine g_iload_n C (q := 1) dX6_merge_125 rfl rfl ?_
    refine g_iconst C (v := 4) dX6_merge_126 (by decide) ?_
    refine g_callVI C (ci := 6) (As := [.int y1, .int 4]) (np := 2) (st := [.int y5]) (r := (some x0)) rfl (by decide) (fun b1 q hq => c_X6_of S b1 y1 (4 : Int32) q hq) gv_RX6_X6_of rfl rfl dsX6_of rfl ⟨Nat.le_of_ble_eq_true rfl, Nat.le_of_ble_eq_true rfl⟩ rfl (cat_sum (Nat.le_of_ble_eq_true rfl)) ⟨Nat.zero_le _, Nat.zero_le _⟩ dX6_merge_127 h (fun v1 S1 h => ?_)
    refine g_icmp_ge C (tgt := 184) dX6_merge_130 (by decide) h (fun h => ?_) (fun h => ?_)
    · refine g_aload_n C (q := 0) dX6_merge_184 rfl rfl ?_
      refine g_iload_n C (q := 1) dX6_merge_185 rfl rfl ?_
      refine g_iconst C (v := 3) dX6_merge_186 (by decide) ?_
      refine g_iconst C (v := 0) dX6_merge_187 (by decide) ?_
      refine g_callVV C (ci := 6) (As := [.int y1, .int 3, .int 0]) (np := 3) (st := []) (r := (some x0)) rfl (by decide) (fun b2 q hq => c_X6_to S1 b2 y1 (3 : Int32) (0 : Int32) q hq) gv_RX6_X6_to rfl rfl dsX6_to rfl ⟨Nat.le_of_ble_eq_true rfl, Nat.le_of_ble_eq_true rfl⟩ rfl (cat_sum (Nat.le_of_ble_eq_true rfl)) ⟨Nat.zero_le _, Nat.zero_le _⟩ dX6_merge_188 h (fun S2 h => ?_)
      refine g_aload_n C (q := 0) dX6_merge_191 rfl rfl ?_
      refine g_iload_n C (q := 1) dX6_merge_192 rfl rfl ?_
      refine g_iconst C (v := 5) dX6_merge_193 (by decide) ?_
      refine g_iconst C (v := 0) dX6_merge_194 (by decide) ?_
      refine g_callVV C (ci := 6) (As := [.int y1, .int 5, .int 0]) (np := 3) (st := []) (r := (some x0)) rfl (by decide) (fun b3 q hq => c_X6_to S2 b3 y1 (5 : Int32) (0 : Int32) q hq) gv_RX6_X6_to rfl rfl dsX6_to rfl ⟨Nat.le_of_ble_eq_true rfl, Nat.le_of_ble_eq_true rfl⟩ rfl (cat_sum (Nat.le_of_ble_eq_true rfl)) ⟨Nat.zero_le _, Nat.zero_le _⟩ dX6_merge_195 h (fun S3 h => ?_)
      refine g_aload_n C (q := 0) dX6_merge_198 rfl rfl ?_
      refine g_iload_n C (q := 1) dX6_merge_199 rfl rfl ?_
      refine g_iconst C (v := 4) dX6_merge_200 (by decide) ?_
      refine g_iconst C (v := 0) dX6_merge_201 (by decide) ?_
      refine g_callVV C (ci := 6) (As := [.int y1, .int 4, .int 0]) (np := 3) (st := []) (r := (some x0)) rfl (by decide) (fun b4 q hq => c_X6_to S3 b4 y1 (4 : Int32) (0 : Int32) q hq) gv_RX6_X6_to rfl rfl dsX6_to rfl ⟨Nat.le_of_ble_eq_true rfl, Nat.le_of_ble_eq_true rfl⟩ rfl (cat_sum (Nat.le_of_ble_eq_true rfl)) ⟨Nat.zero_le _, Nat.zero_le _⟩ dX6_merge_202 h (fun S4 h => ?_)
      refine g_aload_n C (q := 0) dX6_merge_205 rfl rfl ?_
      refine g_iload_n C (q := 1) dX6_merge_206 rfl rfl ?_
      refine g_bipush C (v := 6) dX6_merge_207 (by decide) ?_
      refine g_iconst C (v := 3) dX6_merge_209 (by decide) ?_
      refine g_callVV C (ci := 6) (As := [.int y1, .int 6, .int 3]) (np := 3) (st := []) (r := (some x0)) rfl (by decide) (fun b5 q hq => c_X6_to S4 b5 y1 (6 : Int32) (3 : Int32) q hq) gv_RX6_X6_to rfl rfl dsX6_to rfl ⟨Nat.le_of_ble_eq_true rfl, Nat.le_of_ble_eq_true rfl⟩ rfl (cat_sum (Nat.le_of_ble_eq_true rfl)) ⟨Nat.zero_le _, Nat.zero_le _⟩ dX6_merge_210 h (fun S5 h => ?_)
      refine g_iload C (q := 4) dX6_merge_213 rfl ?_
      exact g_iret C hQ dX6_merge_215 h
    · refine g_aload_n C (q := 0) dX6_merge_133 rfl rfl ?_
      refine g_iload_n C (q := 2) dX6_merge_134 rfl rfl ?_
      refine g_iconst C (v := 4) dX6_merge_135 (by decide) ?_
      refine g_callVI C (ci := 6) (As := [.int y2, .int 4]) (np := 2) (st := []) (r := (some x0)) rfl (by decide) (fun b6 q hq => c_X6_of S1 b6 y2 (4 : Int32) q hq) gv_RX6_X6_of rfl rfl dsX6_of rfl ⟨Nat.le_of_ble_eq_true rfl, Nat.le_of_ble_eq_true rfl⟩ rfl (cat_sum (Nat.le_of_ble_eq_true rfl)) ⟨Nat.zero_le _, Nat.zero_le _⟩ dX6_merge_136 h (fun v2 S6 h => ?_)
      refine g_iconst C (v := 4) dX6_merge_139 (by decide) ?_
      refine g_icmp_ge C (tgt := 184) dX6_merge_140 (by decide) h (fun h => ?_) (fun h => ?_)
      · refine g_aload_n C (q := 0) dX6_merge_184 rfl rfl ?_
        refine g_iload_n C (q := 1) dX6_merge_185 rfl rfl ?_
        refine g_iconst C (v := 3) dX6_merge_186 (by decide) ?_
        refine g_iconst C (v := 0) dX6_merge_187 (by decide) ?_
        refine g_callVV C (ci := 6) (As := [.int y1, .int 3, .int 0]) (np := 3) (st := []) (r := (some x0)) rfl (by decide) (fun b7 q hq => c_X6_to S6 b7 y1 (3 : Int32) (0 : Int32) q hq) gv_RX6_X6_to rfl rfl dsX6_to rfl ⟨Nat.le_of_ble_eq_true rfl, Nat.le_of_ble_eq_true rfl⟩ rfl (cat_sum (Nat.le_of_ble_eq_true rfl)) ⟨Nat.zero_le _, Nat.zero_le _⟩ dX6_merge_188 h (fun S7 h => ?_)
        refine g_aload_n C (q := 0) dX6_merge_191 rfl rfl ?_
        refine g_iload_n C (q := 1) dX6_merge_192 rfl rfl ?_
        refine g_iconst C (v := 5) dX6_merge_193 (by decide) ?_
        refine g_iconst C (v := 0) dX6_merge_194 (by decide) ?_
        refine g_callVV C (ci := 6) (As := [.int y1, .int 5, .int 0]) (np := 3) (st := []) (r := (some x0)) rfl (by decide) (fun b8 q hq => c_X6_to S7 b8 y1 (5 : Int32) (0 : Int32) q hq) gv_RX6_X6_to rfl rfl dsX6_to rfl ⟨Nat.le_of_ble_eq_true rfl, Nat.le_of_ble_eq_true rfl⟩ rfl (cat_sum (Nat.le_of_ble_eq_true rfl)) ⟨Nat.zero_le _, Nat.zero_le _⟩ dX6_merge_195 h (fun S8 h => ?_)
        refine g_aload_n C (q := 0) dX6_merge_198 rfl rfl ?_
        refine g_iload_n C (q := 1) dX6_merge_199 rfl rfl ?_
        refine g_iconst C (v := 4) dX6_merge_200 (by decide) ?_
        refine g_iconst C (v := 0) dX6_merge_201 (by decide) ?_
        refine g_callVV C (ci := 6) (As := [.int y1, .int 4, .int 0]) (np := 3) (st := []) (r := (some x0)) rfl (by decide) (fun b9 q hq => c_X6_to S8 b9 y1 (4 : Int32) (0 : Int32) q hq) gv_RX6_X6_to rfl rfl dsX6_to rfl ⟨Nat.le_of_ble_eq_true rfl, Nat.le_of_ble_eq_true rfl⟩ rfl (cat_sum (Nat.le_of_ble_eq_true rfl)) ⟨Nat.zero_le _, Nat.zero_le _⟩ dX6_merge_202 h (fun S9 h => ?_)
        refine g_aload_n C (q := 0) dX6_merge_205 rfl rfl ?_
        refine g_iload_n C (q := 1) dX6_merge_206 rfl rfl ?_
        refine g_bipush C (v := 6) dX6_merge_207 (by decide) ?_
        refine g_iconst C (v := 3) dX6_merge_209 (by decide) ?_
        refine g_callVV C (ci := 6) (As := [.int y1, .int 6, .int 3]) (np := 3) (st := []) (r := (some x0)) rfl (by decide) (fun b10 q hq => c_X6_to S9 b10 y1 (6 : Int32) (3 : Int32) q hq) gv_RX6_X6_to rfl rfl dsX6_to rfl ⟨Nat.le_of_ble_eq_true rfl, Nat.le_of_ble_eq_true rfl⟩ rfl (cat_sum (Nat.le_of_ble_eq_true rfl)) ⟨Nat.zero_le _, Nat.zero_le _⟩ dX6_merge_210 h (fun S10 h => ?_)
        refine g_iload C (q := 4) dX6_merge_213 rfl ?_
        exact g_iret C hQ dX6_merge_215 h
      · refine g_aload_n C (q := 0) dX6_merge_143 rfl rfl ?_
        refine g_iload_n C (q := 2) dX6_merge_144 rfl rfl ?_
        refine g_bipush C (v := 8) dX6_merge_145 (by decide) ?_
        refine g_aload_n C (q := 0) dX6_merge_147 rfl rfl ?_
        refine g_iload_n C (q := 2) dX6_merge_148 rfl rfl ?_
        refine g_iconst C (v := 4) dX6_merge_149 (by decide) ?_
        refine g_callVI C (ci := 6) (As := [.int y2, .int 4]) (np := 2) (st := [.int 8, .int y2, va_rf (some x0)]) (r := (some x0)) rfl (by decide) (fun b11 q hq => c_X6_of S6 b11 y2 (4 : Int32) q hq) gv_RX6_X6_of rfl rfl dsX6_of rfl ⟨Nat.le_of_ble_eq_true rfl, Nat.le_of_ble_eq_true rfl⟩ rfl (cat_sum (Nat.le_of_ble_eq_true rfl)) ⟨Nat.zero_le _, Nat.zero_le _⟩ dX6_merge_150 h (fun v3 S11 h => ?_)
        refine g_iadd C dX6_merge_153 ?_
        refine g_aload_n C (q := 0) dX6_merge_154 rfl rfl ?_
        refine g_iload_n C (q := 1) dX6_merge_155 rfl rfl ?_
        refine g_iload C (q := 5) dX6_merge_156 rfl ?_
        refine g_callVI C (ci := 6) (As := [.int y1, .int y5]) (np := 2) (st := [.int (8 + v3), .int y2, va_rf (some x0)]) (r := (some x0)) rfl (by decide) (fun b12 q hq => c_X6_guideOn S11 b12 y1 y5 q hq) gv_RX6_X6_guideOn rfl rfl dsX6_guideOn rfl ⟨Nat.le_of_ble_eq_true rfl, Nat.le_of_ble_eq_true rfl⟩ rfl (cat_sum (Nat.le_of_ble_eq_true rfl)) ⟨Nat.zero_le _, Nat.zero_le _⟩ dX6_merge_158 h (fun v4 S12 h => ?_)
        refine g_callVV C (ci := 6) (As := [.int y2, .int (8 + v3), .int v4]) (np := 3) (st := []) (r := (some x0)) rfl (by decide) (fun b13 q hq => c_X6_to S12 b13 y2 (8 + v3) v4 q hq) gv_RX6_X6_to rfl rfl dsX6_to rfl ⟨Nat.le_of_ble_eq_true rfl, Nat.le_of_ble_eq_true rfl⟩ rfl (cat_sum (Nat.le_of_ble_eq_true rfl)) ⟨Nat.zero_le _, Nat.zero_le _⟩ dX6_merge_161 h (fun S13 h => ?_)
        refine g_aload_n C (q := 0) dX6_merge_164 rfl rfl ?_
        refine g_iload_n C (q := 2) dX6_merge_165 rfl rfl ?_
        refine g_iconst C (v := 4) dX6_merge_166 (by decide) ?_
        refine g_aload_n C (q := 0) dX6_merge_167 rfl rfl ?_
        refine g_iload_n C (q := 2) dX6_merge_168 rfl rfl ?_
        refine g_iconst C (v := 4) dX6_merge_169 (by decide) ?_
        refine g_callVI C (ci := 6) (As := [.int y2, .int 4]) (np := 2) (st := [.int 4, .int y2, va_rf (some x0)]) (r := (some x0)) rfl (by decide) (fun b14 q hq => c_X6_of S13 b14 y2 (4 : Int32) q hq) gv_RX6_X6_of rfl rfl dsX6_of rfl ⟨Nat.le_of_ble_eq_true rfl, Nat.le_of_ble_eq_true rfl⟩ rfl (cat_sum (Nat.le_of_ble_eq_true rfl)) ⟨Nat.zero_le _, Nat.zero_le _⟩ dX6_merge_170 h (fun v5 S14 h => ?_)
        refine g_iconst C (v := 1) dX6_merge_173 (by decide) ?_
        refine g_iadd C dX6_merge_174 ?_
        refine g_callVV C (ci := 6) (As := [.int y2, .int 4, .int (v5 + 1)]) (np := 3) (st := []) (r := (some x0)) rfl (by decide) (fun b15 q hq => c_X6_to S14 b15 y2 (4 : Int32) (v5 + 1) q hq) gv_RX6_X6_to rfl rfl dsX6_to rfl ⟨Nat.le_of_ble_eq_true rfl, Nat.le_of_ble_eq_true rfl⟩ rfl (cat_sum (Nat.le_of_ble_eq_true rfl)) ⟨Nat.zero_le _, Nat.zero_le _⟩ dX6_merge_175 h (fun S15 h => ?_)
        obtain ⟨v6, ev6, h⟩ := bnd_ex h
        refine g_iinc C (i := 5) (lv' := [(5, .int v6), (0, va_rf (some x0)), (1, .int y1), (2, .int y2), (3, .int y3), (4, .int y4)]) (q := 5) v6 dX6_merge_178 rfl ev6 hn5 rfl ?_
        refine g_goto C (tgt := 122) dX6_merge_181 (by decide) ?_
        refine g_sub (lv' := [(0, va_rf (some x0)), (1, .int y1), (2, .int y2), (3, .int y3), (4, .int y4), (5, .int v6)]) [1, 2, 3, 4, 5, 0] rfl ?_
        exact ih S15 x0 y1 y2 y3 y4 v6 h
set_option maxHeartbeats 4000000 in
set_option maxRecDepth 100000 in
theorem c_X6_merge (S : Hp) (x0 : Nat) (x1 : Int32) (x2 : Int32) (o : Int32 × Hp) (h : f_X6_merge S x0 x1 x2 = some o) : CtI yX6_merge cX6_merge 6 (some .int) rm_X6_merge 0 0 [va_rf (some x0), .int x1, .int x2] S o := by
  refine ct_I (own := RX6) (by decide) rfl (Nat.le_of_ble_eq_true rfl) (fun X C hn hQ => ?_)
  have hn3 : 3 < xn X := by rw [hn]; decide
  have hn4 : 4 < xn X := by rw [hn]; decide
  have hn5 : 5 < xn X := by rw [hn]; decide
  unfold f_X6_merge at h
  show GW X 0 0 S 0 [(0, va_rf (some x0)), (1, .int x1), (2, .int x2)] []
  refine g_aload_n C (q := 0) dX6_merge_0 rfl rfl ?_
  refine g_iload_n C (q := 1) dX6_merge_1 rfl rfl ?_
  refine g_callVI C (ci := 6) (As := [.int x1]) (np := 1) (st := []) (r := (some x0)) rfl (by decide) (fun b1 q hq => c_X6_noTour S b1 x1 q hq) gv_RX6_X6_noTour rfl rfl dsX6_noTour rfl ⟨Nat.le_of_ble_eq_true rfl, Nat.le_of_ble_eq_true rfl⟩ rfl (cat_sum (Nat.le_of_ble_eq_true rfl)) ⟨Nat.zero_le _, Nat.zero_le _⟩ dX6_merge_2 h (fun v1 S1 h => ?_)
  refine g_if_ne C (tgt := 16) dX6_merge_5 (by decide) h (fun h => ?_) (fun h => ?_)
  · refine g_aload_n C (q := 0) dX6_merge_8 rfl rfl ?_
    refine g_iload_n C (q := 2) dX6_merge_9 rfl rfl ?_
    refine g_callVI C (ci := 6) (As := [.int x2]) (np := 1) (st := []) (r := (some x0)) rfl (by decide) (fun b2 q hq => c_X6_noTour S1 b2 x2 q hq) gv_RX6_X6_noTour rfl rfl dsX6_noTour rfl ⟨Nat.le_of_ble_eq_true rfl, Nat.le_of_ble_eq_true rfl⟩ rfl (cat_sum (Nat.le_of_ble_eq_true rfl)) ⟨Nat.zero_le _, Nat.zero_le _⟩ dX6_merge_10 h (fun v2 S2 h => ?_)
    refine g_if_eq C (tgt := 18) dX6_merge_13 (by decide) h (fun h => ?_) (fun h => ?_)
    · refine g_iload_n C (q := 1) dX6_merge_18 rfl rfl ?_
      refine g_iload_n C (q := 2) dX6_merge_19 rfl rfl ?_
      refine g_icmp_ne C (tgt := 26) dX6_merge_20 (by decide) h (fun h => ?_) (fun h => ?_)
      · refine g_bipush C (v := (-2)) dX6_merge_23 (by decide) ?_
        exact g_iret C hQ dX6_merge_25 h
      · refine g_aload_n C (q := 0) dX6_merge_26 rfl rfl ?_
        refine g_iload_n C (q := 1) dX6_merge_27 rfl rfl ?_
        refine g_iload_n C (q := 2) dX6_merge_28 rfl rfl ?_
        refine g_callVI C (ci := 6) (As := [.int x1, .int x2]) (np := 2) (st := []) (r := (some x0)) rfl (by decide) (fun b3 q hq => c_X6_mayMerge S2 b3 x1 x2 q hq) gv_RX6_X6_mayMerge rfl rfl dsX6_mayMerge rfl ⟨Nat.le_of_ble_eq_true rfl, Nat.le_of_ble_eq_true rfl⟩ rfl (cat_sum (Nat.le_of_ble_eq_true rfl)) ⟨Nat.zero_le _, Nat.zero_le _⟩ dX6_merge_29 h (fun v3 S3 h => ?_)
        refine g_if_ne C (tgt := 38) dX6_merge_32 (by decide) h (fun h => ?_) (fun h => ?_)
        · refine g_bipush C (v := (-4)) dX6_merge_35 (by decide) ?_
          exact g_iret C hQ dX6_merge_37 h
        · refine g_aload_n C (q := 0) dX6_merge_38 rfl rfl ?_
          refine g_callVV C (ci := 6) (As := []) (np := 0) (st := []) (r := (some x0)) rfl (by decide) (fun b4 q hq => c_X6_record S3 b4  q hq) gv_RX6_X6_record rfl rfl dsX6_record rfl ⟨Nat.le_of_ble_eq_true rfl, Nat.le_of_ble_eq_true rfl⟩ rfl (cat_sum (Nat.le_of_ble_eq_true rfl)) ⟨Nat.zero_le _, Nat.zero_le _⟩ dX6_merge_39 h (fun S4 h => ?_)
          refine g_aload_n C (q := 0) dX6_merge_42 rfl rfl ?_
          refine g_iload_n C (q := 1) dX6_merge_43 rfl rfl ?_
          refine g_iconst C (v := 5) dX6_merge_44 (by decide) ?_
          refine g_callVI C (ci := 6) (As := [.int x1, .int 5]) (np := 2) (st := []) (r := (some x0)) rfl (by decide) (fun b5 q hq => c_X6_of S4 b5 x1 (5 : Int32) q hq) gv_RX6_X6_of rfl rfl dsX6_of rfl ⟨Nat.le_of_ble_eq_true rfl, Nat.le_of_ble_eq_true rfl⟩ rfl (cat_sum (Nat.le_of_ble_eq_true rfl)) ⟨Nat.zero_le _, Nat.zero_le _⟩ dX6_merge_45 h (fun v4 S5 h => ?_)
          refine g_aload_n C (q := 0) dX6_merge_48 rfl rfl ?_
          refine g_iload_n C (q := 1) dX6_merge_49 rfl rfl ?_
          refine g_iconst C (v := 3) dX6_merge_50 (by decide) ?_
          refine g_callVI C (ci := 6) (As := [.int x1, .int 3]) (np := 2) (st := [.int v4]) (r := (some x0)) rfl (by decide) (fun b6 q hq => c_X6_of S5 b6 x1 (3 : Int32) q hq) gv_RX6_X6_of rfl rfl dsX6_of rfl ⟨Nat.le_of_ble_eq_true rfl, Nat.le_of_ble_eq_true rfl⟩ rfl (cat_sum (Nat.le_of_ble_eq_true rfl)) ⟨Nat.zero_le _, Nat.zero_le _⟩ dX6_merge_51 h (fun v5 S6 h => ?_)
          refine g_aload_n C (q := 0) dX6_merge_54 rfl rfl ?_
          refine g_iload_n C (q := 2) dX6_merge_55 rfl rfl ?_
          refine g_iconst C (v := 1) dX6_merge_56 (by decide) ?_
          refine g_callVI C (ci := 6) (As := [.int x2, .int 1]) (np := 2) (st := [.int v5, .int v4]) (r := (some x0)) rfl (by decide) (fun b7 q hq => c_X6_of S6 b7 x2 (1 : Int32) q hq) gv_RX6_X6_of rfl rfl dsX6_of rfl ⟨Nat.le_of_ble_eq_true rfl, Nat.le_of_ble_eq_true rfl⟩ rfl (cat_sum (Nat.le_of_ble_eq_true rfl)) ⟨Nat.zero_le _, Nat.zero_le _⟩ dX6_merge_57 h (fun v6 S7 h => ?_)
          refine g_imul C dX6_merge_60 ?_
          refine g_isub C dX6_merge_61 ?_
          refine g_nmI h (fun v7 h => ?_)
          refine g_istore_n C (i := 3) (lv' := [(3, .int v7), (0, va_rf (some x0)), (1, .int x1), (2, .int x2)]) dX6_merge_62 rfl hn3 rfl ?_
          refine g_iload_n C (q := 0) dX6_merge_63 rfl rfl ?_
          refine g_if_le C (tgt := 71) dX6_merge_64 (by decide) h (fun h => ?_) (fun h => ?_)
          · refine g_iconst C (v := 0) dX6_merge_71 (by decide) ?_
            refine g_istore C (i := 4) (lv' := [(4, .int 0), (3, .int v7), (0, va_rf (some x0)), (1, .int x1), (2, .int x2)]) dX6_merge_72 hn4 rfl ?_
            refine g_aload_n C (q := 2) dX6_merge_74 rfl rfl ?_
            refine g_iload_n C (q := 3) dX6_merge_75 rfl rfl ?_
            refine g_iload C (q := 0) dX6_merge_76 rfl ?_
            refine g_callVV C (ci := 6) (As := [.int x1, .int 0]) (np := 2) (st := []) (r := (some x0)) rfl (by decide) (fun b8 q hq => c_X6_refunds S7 b8 x1 (0 : Int32) q hq) gv_RX6_X6_refunds rfl rfl dsX6_refunds rfl ⟨Nat.le_of_ble_eq_true rfl, Nat.le_of_ble_eq_true rfl⟩ rfl (cat_sum (Nat.le_of_ble_eq_true rfl)) ⟨Nat.zero_le _, Nat.zero_le _⟩ dX6_merge_78 h (fun S8 h => ?_)
            refine g_aload_n C (q := 2) dX6_merge_81 rfl rfl ?_
            refine g_iload_n C (q := 4) dX6_merge_82 rfl rfl ?_
            refine g_iconst C (v := 3) dX6_merge_83 (by decide) ?_
            refine g_aload_n C (q := 2) dX6_merge_84 rfl rfl ?_
            refine g_iload_n C (q := 4) dX6_merge_85 rfl rfl ?_
            refine g_iconst C (v := 3) dX6_merge_86 (by decide) ?_
            refine g_callVI C (ci := 6) (As := [.int x2, .int 3]) (np := 2) (st := [.int 3, .int x2, va_rf (some x0)]) (r := (some x0)) rfl (by decide) (fun b9 q hq => c_X6_of S8 b9 x2 (3 : Int32) q hq) gv_RX6_X6_of rfl rfl dsX6_of rfl ⟨Nat.le_of_ble_eq_true rfl, Nat.le_of_ble_eq_true rfl⟩ rfl (cat_sum (Nat.le_of_ble_eq_true rfl)) ⟨Nat.zero_le _, Nat.zero_le _⟩ dX6_merge_87 h (fun v8 S9 h => ?_)
            refine g_aload_n C (q := 2) dX6_merge_90 rfl rfl ?_
            refine g_iload_n C (q := 3) dX6_merge_91 rfl rfl ?_
            refine g_iconst C (v := 3) dX6_merge_92 (by decide) ?_
            refine g_callVI C (ci := 6) (As := [.int x1, .int 3]) (np := 2) (st := [.int v8, .int 3, .int x2, va_rf (some x0)]) (r := (some x0)) rfl (by decide) (fun b10 q hq => c_X6_of S9 b10 x1 (3 : Int32) q hq) gv_RX6_X6_of rfl rfl dsX6_of rfl ⟨Nat.le_of_ble_eq_true rfl, Nat.le_of_ble_eq_true rfl⟩ rfl (cat_sum (Nat.le_of_ble_eq_true rfl)) ⟨Nat.zero_le _, Nat.zero_le _⟩ dX6_merge_93 h (fun v9 S10 h => ?_)
            refine g_iadd C dX6_merge_96 ?_
            refine g_callVV C (ci := 6) (As := [.int x2, .int 3, .int (v8 + v9)]) (np := 3) (st := []) (r := (some x0)) rfl (by decide) (fun b11 q hq => c_X6_to S10 b11 x2 (3 : Int32) (v8 + v9) q hq) gv_RX6_X6_to rfl rfl dsX6_to rfl ⟨Nat.le_of_ble_eq_true rfl, Nat.le_of_ble_eq_true rfl⟩ rfl (cat_sum (Nat.le_of_ble_eq_true rfl)) ⟨Nat.zero_le _, Nat.zero_le _⟩ dX6_merge_97 h (fun S11 h => ?_)
            refine g_aload_n C (q := 2) dX6_merge_100 rfl rfl ?_
            refine g_iload_n C (q := 4) dX6_merge_101 rfl rfl ?_
            refine g_iconst C (v := 5) dX6_merge_102 (by decide) ?_
            refine g_aload_n C (q := 2) dX6_merge_103 rfl rfl ?_
            refine g_iload_n C (q := 4) dX6_merge_104 rfl rfl ?_
            refine g_iconst C (v := 5) dX6_merge_105 (by decide) ?_
            refine g_callVI C (ci := 6) (As := [.int x2, .int 5]) (np := 2) (st := [.int 5, .int x2, va_rf (some x0)]) (r := (some x0)) rfl (by decide) (fun b12 q hq => c_X6_of S11 b12 x2 (5 : Int32) q hq) gv_RX6_X6_of rfl rfl dsX6_of rfl ⟨Nat.le_of_ble_eq_true rfl, Nat.le_of_ble_eq_true rfl⟩ rfl (cat_sum (Nat.le_of_ble_eq_true rfl)) ⟨Nat.zero_le _, Nat.zero_le _⟩ dX6_merge_106 h (fun v10 S12 h => ?_)
            refine g_aload_n C (q := 2) dX6_merge_109 rfl rfl ?_
            refine g_iload_n C (q := 3) dX6_merge_110 rfl rfl ?_
            refine g_iconst C (v := 5) dX6_merge_111 (by decide) ?_
            refine g_callVI C (ci := 6) (As := [.int x1, .int 5]) (np := 2) (st := [.int v10, .int 5, .int x2, va_rf (some x0)]) (r := (some x0)) rfl (by decide) (fun b13 q hq => c_X6_of S12 b13 x1 (5 : Int32) q hq) gv_RX6_X6_of rfl rfl dsX6_of rfl ⟨Nat.le_of_ble_eq_true rfl, Nat.le_of_ble_eq_true rfl⟩ rfl (cat_sum (Nat.le_of_ble_eq_true rfl)) ⟨Nat.zero_le _, Nat.zero_le _⟩ dX6_merge_112 h (fun v11 S13 h => ?_)
            refine g_iadd C dX6_merge_115 ?_
            refine g_callVV C (ci := 6) (As := [.int x2, .int 5, .int (v10 + v11)]) (np := 3) (st := []) (r := (some x0)) rfl (by decide) (fun b14 q hq => c_X6_to S13 b14 x2 (5 : Int32) (v10 + v11) q hq) gv_RX6_X6_to rfl rfl dsX6_to rfl ⟨Nat.le_of_ble_eq_true rfl, Nat.le_of_ble_eq_true rfl⟩ rfl (cat_sum (Nat.le_of_ble_eq_true rfl)) ⟨Nat.zero_le _, Nat.zero_le _⟩ dX6_merge_116 h (fun S14 h => ?_)
            refine g_iconst C (v := 0) dX6_merge_119 (by decide) ?_
            refine g_istore C (i := 5) (lv' := [(5, .int 0), (4, .int 0), (3, .int v7), (0, va_rf (some x0)), (1, .int x1), (2, .int x2)]) dX6_merge_120 hn5 rfl ?_
            refine g_sub (lv' := [(0, va_rf (some x0)), (1, .int x1), (2, .int x2), (3, .int v7), (4, .int 0), (5, .int 0)]) [3, 4, 5, 2, 1, 0] rfl ?_
            exact w_X6_merge_L122 C hn hQ 1000 S14 x0 x1 x2 v7 (0 : Int32) (0 : Int32) h
          · refine g_iload_n C (q := 0) dX6_merge_67 rfl rfl ?_
            refine g_goto C (tgt := 72) dX6_merge_68 (by decide) ?_
            refine g_istore C (i := 4) (lv' := [(4, .int v7), (3, .int v7), (0, va_rf (some x0)), (1, .int x1), (2, .int x2)]) dX6_merge_72 hn4 rfl ?_
            refine g_aload_n C (q := 2) dX6_merge_74 rfl rfl ?_
            refine g_iload_n C (q := 3) dX6_merge_75 rfl rfl ?_
            refine g_iload C (q := 0) dX6_merge_76 rfl ?_
            refine g_callVV C (ci := 6) (As := [.int x1, .int v7]) (np := 2) (st := []) (r := (some x0)) rfl (by decide) (fun b15 q hq => c_X6_refunds S7 b15 x1 v7 q hq) gv_RX6_X6_refunds rfl rfl dsX6_refunds rfl ⟨Nat.le_of_ble_eq_true rfl, Nat.le_of_ble_eq_true rfl⟩ rfl (cat_sum (Nat.le_of_ble_eq_true rfl)) ⟨Nat.zero_le _, Nat.zero_le _⟩ dX6_merge_78 h (fun S15 h => ?_)
            refine g_aload_n C (q := 2) dX6_merge_81 rfl rfl ?_
            refine g_iload_n C (q := 4) dX6_merge_82 rfl rfl ?_
            refine g_iconst C (v := 3) dX6_merge_83 (by decide) ?_
            refine g_aload_n C (q := 2) dX6_merge_84 rfl rfl ?_
            refine g_iload_n C (q := 4) dX6_merge_85 rfl rfl ?_
            refine g_iconst C (v := 3) dX6_merge_86 (by decide) ?_
            refine g_callVI C (ci := 6) (As := [.int x2, .int 3]) (np := 2) (st := [.int 3, .int x2, va_rf (some x0)]) (r := (some x0)) rfl (by decide) (fun b16 q hq => c_X6_of S15 b16 x2 (3 : Int32) q hq) gv_RX6_X6_of rfl rfl dsX6_of rfl ⟨Nat.le_of_ble_eq_true rfl, Nat.le_of_ble_eq_true rfl⟩ rfl (cat_sum (Nat.le_of_ble_eq_true rfl)) ⟨Nat.zero_le _, Nat.zero_le _⟩ dX6_merge_87 h (fun v12 S16 h => ?_)
            refine g_aload_n C (q := 2) dX6_merge_90 rfl rfl ?_
            refine g_iload_n C (q := 3) dX6_merge_91 rfl rfl ?_
            refine g_iconst C (v := 3) dX6_merge_92 (by decide) ?_
            refine g_callVI C (ci := 6) (As := [.int x1, .int 3]) (np := 2) (st := [.int v12, .int 3, .int x2, va_rf (some x0)]) (r := (some x0)) rfl (by decide) (fun b17 q hq => c_X6_of S16 b17 x1 (3 : Int32) q hq) gv_RX6_X6_of rfl rfl dsX6_of rfl ⟨Nat.le_of_ble_eq_true rfl, Nat.le_of_ble_eq_true rfl⟩ rfl (cat_sum (Nat.le_of_ble_eq_true rfl)) ⟨Nat.zero_le _, Nat.zero_le _⟩ dX6_merge_93 h (fun v13 S17 h => ?_)
            refine g_iadd C dX6_merge_96 ?_
            refine g_callVV C (ci := 6) (As := [.int x2, .int 3, .int (v12 + v13)]) (np := 3) (st := []) (r := (some x0)) rfl (by decide) (fun b18 q hq => c_X6_to S17 b18 x2 (3 : Int32) (v12 + v13) q hq) gv_RX6_X6_to rfl rfl dsX6_to rfl ⟨Nat.le_of_ble_eq_true rfl, Nat.le_of_ble_eq_true rfl⟩ rfl (cat_sum (Nat.le_of_ble_eq_true rfl)) ⟨Nat.zero_le _, Nat.zero_le _⟩ dX6_merge_97 h (fun S18 h => ?_)
            refine g_aload_n C (q := 2) dX6_merge_100 rfl rfl ?_
            refine g_iload_n C (q := 4) dX6_merge_101 rfl rfl ?_
            refine g_iconst C (v := 5) dX6_merge_102 (by decide) ?_
            refine g_aload_n C (q := 2) dX6_merge_103 rfl rfl ?_
            refine g_iload_n C (q := 4) dX6_merge_104 rfl rfl ?_
            refine g_iconst C (v := 5) dX6_merge_105 (by decide) ?_
            refine g_callVI C (ci := 6) (As := [.int x2, .int 5]) (np := 2) (st := [.int 5, .int x2, va_rf (some x0)]) (r := (some x0)) rfl (by decide) (fun b19 q hq => c_X6_of S18 b19 x2 (5 : Int32) q hq) gv_RX6_X6_of rfl rfl dsX6_of rfl ⟨Nat.le_of_ble_eq_true rfl, Nat.le_of_ble_eq_true rfl⟩ rfl (cat_sum (Nat.le_of_ble_eq_true rfl)) ⟨Nat.zero_le _, Nat.zero_le _⟩ dX6_merge_106 h (fun v14 S19 h => ?_)
            refine g_aload_n C (q := 2) dX6_merge_109 rfl rfl ?_
            refine g_iload_n C (q := 3) dX6_merge_110 rfl rfl ?_
            refine g_iconst C (v := 5) dX6_merge_111 (by decide) ?_
            refine g_callVI C (ci := 6) (As := [.int x1, .int 5]) (np := 2) (st := [.int v14, .int 5, .int x2, va_rf (some x0)]) (r := (some x0)) rfl (by decide) (fun b20 q hq => c_X6_of S19 b20 x1 (5 : Int32) q hq) gv_RX6_X6_of rfl rfl dsX6_of rfl ⟨Nat.le_of_ble_eq_true rfl, Nat.le_of_ble_eq_true rfl⟩ rfl (cat_sum (Nat.le_of_ble_eq_true rfl)) ⟨Nat.zero_le _, Nat.zero_le _⟩ dX6_merge_112 h (fun v15 S20 h => ?_)
            refine g_iadd C dX6_merge_115 ?_
            refine g_callVV C (ci := 6) (As := [.int x2, .int 5, .int (v14 + v15)]) (np := 3) (st := []) (r := (some x0)) rfl (by decide) (fun b21 q hq => c_X6_to S20 b21 x2 (5 : Int32) (v14 + v15) q hq) gv_RX6_X6_to rfl rfl dsX6_to rfl ⟨Nat.le_of_ble_eq_true rfl, Nat.le_of_ble_eq_true rfl⟩ rfl (cat_sum (Nat.le_of_ble_eq_true rfl)) ⟨Nat.zero_le _, Nat.zero_le _⟩ dX6_merge_116 h (fun S21 h => ?_)
            refine g_iconst C (v := 0) dX6_merge_119 (by decide) ?_
            refine g_istore C (i := 5) (lv' := [(5, .int 0), (4, .int v7), (3, .int v7), (0, va_rf (some x0)), (1, .int x1), (2, .int x2)]) dX6_merge_120 hn5 rfl ?_
            refine g_sub (lv' := [(0, va_rf (some x0)), (1, .int x1), (2, .int x2), (3, .int v7), (4, .int v7), (5, .int 0)]) [3, 4, 5, 2, 1, 0] rfl ?_
            exact w_X6_merge_L122 C hn hQ 1000 S21 x0 x1 x2 v7 v7 (0 : Int32) h
    · refine g_iconst C (v := (-1)) dX6_merge_16 (by decide) ?_
      exact g_iret C hQ dX6_merge_17 h
  · refine g_iconst C (v := (-1)) dX6_merge_16 (by decide) ?_
    exact g_iret C hQ dX6_merge_17 h

abbrev rm_X6_cancels : Room := { frames := 2, cells := 0, slots := 0, locals := 45 }
theorem dsX6_cancels : yX6_cancels.cls = RX6 ∧ yX6_cancels.cls ≠ "java/lang/invoke/MethodHandle" ∧ yX6_cancels.cls ≠ "java/lang/invoke/VarHandle" ∧ (parseMethodDescriptor yX6_cancels.desc).map (fun d => d.parameters.length) = some 2 := by decide +kernel
def f_X6_cancels (S : Hp) (x0 : Nat) (x1 : Int32) (x2 : Int32) : Option (Int32 × Hp) :=
 ob S 6 (some x0) fun b1 => cl (f_X6_of S b1 x1 (5 : Int32)) fun v1 S1 =>
 ob S1 6 (some x0) fun b2 => cl (f_X6_refunds S1 b2 x1 v1) fun _ S2 =>
 ob S2 6 (some x0) fun b3 => cl (f_X6_to S2 b3 x1 (6 : Int32) (2 : Int32)) fun _ S3 =>
 ob S3 6 (some x0) fun b4 => cl (f_X6_to S3 b4 x1 (7 : Int32) x2) fun _ S4 =>
 some (v1, S4)
set_option maxHeartbeats 4000000 in
set_option maxRecDepth 100000 in
theorem c_X6_cancels (S : Hp) (x0 : Nat) (x1 : Int32) (x2 : Int32) (o : Int32 × Hp) (h : f_X6_cancels S x0 x1 x2 = some o) : CtI yX6_cancels cX6_cancels 4 (some .int) rm_X6_cancels 0 0 [va_rf (some x0), .int x1, .int x2] S o := by
  refine ct_I (own := RX6) (by decide) rfl (Nat.le_of_ble_eq_true rfl) (fun X C hn hQ => ?_)
  have hn3 : 3 < xn X := by rw [hn]; decide
  unfold f_X6_cancels at h
  show GW X 0 0 S 0 [(0, va_rf (some x0)), (1, .int x1), (2, .int x2)] []
  refine g_aload_n C (q := 0) dX6_cancels_0 rfl rfl ?_
  refine g_iload_n C (q := 1) dX6_cancels_1 rfl rfl ?_
  refine g_iconst C (v := 5) dX6_cancels_2 (by decide) ?_
  refine g_callVI C (ci := 6) (As := [.int x1, .int 5]) (np := 2) (st := []) (r := (some x0)) rfl (by decide) (fun b1 q hq => c_X6_of S b1 x1 (5 : Int32) q hq) gv_RX6_X6_of rfl rfl dsX6_of rfl ⟨Nat.le_of_ble_eq_true rfl, Nat.le_of_ble_eq_true rfl⟩ rfl (cat_sum (Nat.le_of_ble_eq_true rfl)) ⟨Nat.zero_le _, Nat.zero_le _⟩ dX6_cancels_3 h (fun v1 S1 h => ?_)
  refine g_istore_n C (i := 3) (lv' := [(3, .int v1), (0, va_rf (some x0)), (1, .int x1), (2, .int x2)]) dX6_cancels_6 rfl hn3 rfl ?_
  refine g_aload_n C (q := 1) dX6_cancels_7 rfl rfl ?_
  refine g_iload_n C (q := 2) dX6_cancels_8 rfl rfl ?_
  refine g_iload_n C (q := 0) dX6_cancels_9 rfl rfl ?_
  refine g_callVV C (ci := 6) (As := [.int x1, .int v1]) (np := 2) (st := []) (r := (some x0)) rfl (by decide) (fun b2 q hq => c_X6_refunds S1 b2 x1 v1 q hq) gv_RX6_X6_refunds rfl rfl dsX6_refunds rfl ⟨Nat.le_of_ble_eq_true rfl, Nat.le_of_ble_eq_true rfl⟩ rfl (cat_sum (Nat.le_of_ble_eq_true rfl)) ⟨Nat.zero_le _, Nat.zero_le _⟩ dX6_cancels_10 h (fun S2 h => ?_)
  refine g_aload_n C (q := 1) dX6_cancels_13 rfl rfl ?_
  refine g_iload_n C (q := 2) dX6_cancels_14 rfl rfl ?_
  refine g_bipush C (v := 6) dX6_cancels_15 (by decide) ?_
  refine g_iconst C (v := 2) dX6_cancels_17 (by decide) ?_
  refine g_callVV C (ci := 6) (As := [.int x1, .int 6, .int 2]) (np := 3) (st := []) (r := (some x0)) rfl (by decide) (fun b3 q hq => c_X6_to S2 b3 x1 (6 : Int32) (2 : Int32) q hq) gv_RX6_X6_to rfl rfl dsX6_to rfl ⟨Nat.le_of_ble_eq_true rfl, Nat.le_of_ble_eq_true rfl⟩ rfl (cat_sum (Nat.le_of_ble_eq_true rfl)) ⟨Nat.zero_le _, Nat.zero_le _⟩ dX6_cancels_18 h (fun S3 h => ?_)
  refine g_aload_n C (q := 1) dX6_cancels_21 rfl rfl ?_
  refine g_iload_n C (q := 2) dX6_cancels_22 rfl rfl ?_
  refine g_bipush C (v := 7) dX6_cancels_23 (by decide) ?_
  refine g_iload_n C (q := 3) dX6_cancels_25 rfl rfl ?_
  refine g_callVV C (ci := 6) (As := [.int x1, .int 7, .int x2]) (np := 3) (st := []) (r := (some x0)) rfl (by decide) (fun b4 q hq => c_X6_to S3 b4 x1 (7 : Int32) x2 q hq) gv_RX6_X6_to rfl rfl dsX6_to rfl ⟨Nat.le_of_ble_eq_true rfl, Nat.le_of_ble_eq_true rfl⟩ rfl (cat_sum (Nat.le_of_ble_eq_true rfl)) ⟨Nat.zero_le _, Nat.zero_le _⟩ dX6_cancels_26 h (fun S4 h => ?_)
  refine g_iload_n C (q := 0) dX6_cancels_29 rfl rfl ?_
  exact g_iret C hQ dX6_cancels_30 h

abbrev rm_X6_cancel : Room := { frames := 3, cells := 0, slots := 0, locals := 68 }
theorem dsX6_cancel : yX6_cancel.cls = RX6 ∧ yX6_cancel.cls ≠ "java/lang/invoke/MethodHandle" ∧ yX6_cancel.cls ≠ "java/lang/invoke/VarHandle" ∧ (parseMethodDescriptor yX6_cancel.desc).map (fun d => d.parameters.length) = some 1 := by decide +kernel
theorem gv_RX6_X6_cancels : GoodIn wsL_law (wsV RX6 140 RX6 yX6_cancels (.code yX6_cancels cX6_cancels 4 (some .int) :: wsL_law)) := good_V q442 q443 q444 q5 q445
def f_X6_cancel (S : Hp) (x0 : Nat) (x1 : Int32) : Option (Int32 × Hp) :=
 ob S 6 (some x0) fun b1 => cl (f_X6_noTour S b1 x1) fun v1 S1 =>
 if v1 = 0 then
 ob S1 6 (some x0) fun b2 => cl (f_X6_isOpen S1 b2 x1) fun v2 S2 =>
 if v2 = 0 then
 some ((-4 : Int32), S2)
 else
 ob S2 6 (some x0) fun b3 => cl (f_X6_record S2 b3 ) fun _ S3 =>
 ob S3 6 (some x0) fun b4 => cl (f_X6_cancels S3 b4 x1 (4 : Int32)) fun v3 S4 =>
 some (v3, S4)
 else
 some ((-1 : Int32), S1)
set_option maxHeartbeats 4000000 in
set_option maxRecDepth 100000 in
theorem c_X6_cancel (S : Hp) (x0 : Nat) (x1 : Int32) (o : Int32 × Hp) (h : f_X6_cancel S x0 x1 = some o) : CtI yX6_cancel cX6_cancel 2 (some .int) rm_X6_cancel 0 0 [va_rf (some x0), .int x1] S o := by
  refine ct_I (own := RX6) (by decide) rfl (Nat.le_of_ble_eq_true rfl) (fun X C hn hQ => ?_)
  unfold f_X6_cancel at h
  show GW X 0 0 S 0 [(0, va_rf (some x0)), (1, .int x1)] []
  refine g_aload_n C (q := 0) dX6_cancel_0 rfl rfl ?_
  refine g_iload_n C (q := 1) dX6_cancel_1 rfl rfl ?_
  refine g_callVI C (ci := 6) (As := [.int x1]) (np := 1) (st := []) (r := (some x0)) rfl (by decide) (fun b1 q hq => c_X6_noTour S b1 x1 q hq) gv_RX6_X6_noTour rfl rfl dsX6_noTour rfl ⟨Nat.le_of_ble_eq_true rfl, Nat.le_of_ble_eq_true rfl⟩ rfl (cat_sum (Nat.le_of_ble_eq_true rfl)) ⟨Nat.zero_le _, Nat.zero_le _⟩ dX6_cancel_2 h (fun v1 S1 h => ?_)
  refine g_if_eq C (tgt := 10) dX6_cancel_5 (by decide) h (fun h => ?_) (fun h => ?_)
  · refine g_aload_n C (q := 0) dX6_cancel_10 rfl rfl ?_
    refine g_iload_n C (q := 1) dX6_cancel_11 rfl rfl ?_
    refine g_callVI C (ci := 6) (As := [.int x1]) (np := 1) (st := []) (r := (some x0)) rfl (by decide) (fun b2 q hq => c_X6_isOpen S1 b2 x1 q hq) gv_RX6_X6_isOpen rfl rfl dsX6_isOpen rfl ⟨Nat.le_of_ble_eq_true rfl, Nat.le_of_ble_eq_true rfl⟩ rfl (cat_sum (Nat.le_of_ble_eq_true rfl)) ⟨Nat.zero_le _, Nat.zero_le _⟩ dX6_cancel_12 h (fun v2 S2 h => ?_)
    refine g_if_ne C (tgt := 21) dX6_cancel_15 (by decide) h (fun h => ?_) (fun h => ?_)
    · refine g_bipush C (v := (-4)) dX6_cancel_18 (by decide) ?_
      exact g_iret C hQ dX6_cancel_20 h
    · refine g_aload_n C (q := 0) dX6_cancel_21 rfl rfl ?_
      refine g_callVV C (ci := 6) (As := []) (np := 0) (st := []) (r := (some x0)) rfl (by decide) (fun b3 q hq => c_X6_record S2 b3  q hq) gv_RX6_X6_record rfl rfl dsX6_record rfl ⟨Nat.le_of_ble_eq_true rfl, Nat.le_of_ble_eq_true rfl⟩ rfl (cat_sum (Nat.le_of_ble_eq_true rfl)) ⟨Nat.zero_le _, Nat.zero_le _⟩ dX6_cancel_22 h (fun S3 h => ?_)
      refine g_aload_n C (q := 0) dX6_cancel_25 rfl rfl ?_
      refine g_iload_n C (q := 1) dX6_cancel_26 rfl rfl ?_
      refine g_iconst C (v := 4) dX6_cancel_27 (by decide) ?_
      refine g_callVI C (ci := 6) (As := [.int x1, .int 4]) (np := 2) (st := []) (r := (some x0)) rfl (by decide) (fun b4 q hq => c_X6_cancels S3 b4 x1 (4 : Int32) q hq) gv_RX6_X6_cancels rfl rfl dsX6_cancels rfl ⟨Nat.le_of_ble_eq_true rfl, Nat.le_of_ble_eq_true rfl⟩ rfl (cat_sum (Nat.le_of_ble_eq_true rfl)) ⟨Nat.zero_le _, Nat.zero_le _⟩ dX6_cancel_28 h (fun v3 S4 h => ?_)
      exact g_iret C hQ dX6_cancel_31 h
  · refine g_iconst C (v := (-1)) dX6_cancel_8 (by decide) ?_
    exact g_iret C hQ dX6_cancel_9 h

abbrev rm_X6_goes : Room := { frames := 3, cells := 0, slots := 0, locals := 71 }
theorem dsX6_goes : yX6_goes.cls = RX6 ∧ yX6_goes.cls ≠ "java/lang/invoke/MethodHandle" ∧ yX6_goes.cls ≠ "java/lang/invoke/VarHandle" ∧ (parseMethodDescriptor yX6_goes.desc).map (fun d => d.parameters.length) = some 1 := by decide +kernel
def f_X6_goes_L10_b (rec : Hp → Nat → Int32 → Int32 → Option (Unit × Hp)) (S : Hp) (x0 : Nat) (y1 : Int32) (y2 : Int32) : Option (Unit × Hp) :=
 ob S 6 (some x0) fun b1 => cl (f_X6_of S b1 y1 (4 : Int32)) fun v1 S1 =>
 if v1 ≤ y2 then
 some ((), S1)
 else
 ob S1 6 (some x0) fun b2 => cl (f_X6_guideOn S1 b2 y1 y2) fun v2 S2 =>
 bnd ((8 + (4 * v2))) fun v3 =>
 ob S2 6 (some x0) fun _ =>
 ar S2 9 (zR S2 x0 0) (v3 + 2) fun a2 i1 =>
 ar S2 9 (zR S2 x0 0) (v3 + 2) fun a3 i2 => bnd (wI S2 a3 i2 ((zI S2 a2 i1) + 1)) fun S3 =>
 ob S3 6 (some x0) fun _ =>
 ar S3 9 (zR S3 x0 0) (v3 + 3) fun a5 i3 =>
 ob S3 6 (some x0) fun b3 => cl (f_X6_onRope S3 b3 y1 y2) fun v4 S4 =>
 ar S4 9 (zR S3 x0 0) (v3 + 3) fun a6 i4 => bnd (wI S4 a6 i4 ((zI S3 a5 i3) + v4)) fun S5 =>
 bnd (y2 + 1) fun v5 =>
 rec S5 x0 y1 v5
def f_X6_goes_L10 : Nat → Hp → Nat → Int32 → Int32 → Option (Unit × Hp)
  | 0 => fun _ _ _ _ => none
  | n + 1 => f_X6_goes_L10_b (f_X6_goes_L10 n)
def f_X6_goes (S : Hp) (x0 : Nat) (x1 : Int32) : Option (Unit × Hp) :=
 ob S 6 (some x0) fun b1 => cl (f_X6_to S b1 x1 (6 : Int32) (1 : Int32)) fun _ S1 =>
 f_X6_goes_L10 1000 S1 x0 x1 (0 : Int32)
set_option maxHeartbeats 4000000 in
set_option maxRecDepth 100000 in
theorem w_X6_goes_L10 {X : Cx} (C : CxOK X cX6_goes RX6 rm_X6_goes) (hn : xn X = 4) {S0 : Hp} {o : Unit × Hp} (hQ : QV X none S0 0 0 o) : ∀ (fuel : Nat) (S : Hp) (x0 : Nat) (y1 : Int32) (y2 : Int32), f_X6_goes_L10 fuel S x0 y1 y2 = some o → GW X 0 0 S 10 [(0, va_rf (some x0)), (1, .int y1), (2, .int y2)] [] := by
  have hn2 : 2 < xn X := by rw [hn]; decide
  have hn3 : 3 < xn X := by rw [hn]; decide
  intro fuel
  induction fuel with
  | zero => intro S x0 y1 y2 h; cases (show none = some o from h)
  | succ fuel ih =>
    intro S x0 y1 y2 h
    have h : f_X6_goes_L10_b (f_X6_goes_L10 fuel) S x0 y1 y2 = some o := h
    unfold f_X6_goes_L10_b at h
    refine g_iload_n C (q := 2) dX6_goes_10 rfl rfl ?_
    refine g_aload_n C (q := 0) dX6_goes_11 rfl rfl ?_
    refine g_iload_n C (q := 1) dX6_goes_12 rfl rfl ?_
    refine g_iconst C (v := 4) dX6_goes_13 (by decide) ?_
    refine g_callVI C (ci := 6) (As := [.int y1, .int 4]) (np := 2) (st := [.int y2]) (r := (some x0)) rfl (by decide) (fun b1 q hq => c_X6_of S b1 y1 (4 : Int32) q hq) gv_RX6_X6_of rfl rfl dsX6_of rfl ⟨Nat.le_of_ble_eq_true rfl, Nat.le_of_ble_eq_true rfl⟩ rfl (cat_sum (Nat.le_of_ble_eq_true rfl)) ⟨Nat.zero_le _, Nat.zero_le _⟩ dX6_goes_14 h (fun v1 S1 h => ?_)
    refine g_icmp_ge C (tgt := 67) dX6_goes_17 (by decide) h (fun h => ?_) (fun h => ?_)
    · exact g_vret C hQ dX6_goes_67 h
    · refine g_bipush C (v := 8) dX6_goes_20 (by decide) ?_
      refine g_iconst C (v := 4) dX6_goes_22 (by decide) ?_
      refine g_aload_n C (q := 0) dX6_goes_23 rfl rfl ?_
      refine g_iload_n C (q := 1) dX6_goes_24 rfl rfl ?_
      refine g_iload_n C (q := 2) dX6_goes_25 rfl rfl ?_
      refine g_callVI C (ci := 6) (As := [.int y1, .int y2]) (np := 2) (st := [.int 4, .int 8]) (r := (some x0)) rfl (by decide) (fun b2 q hq => c_X6_guideOn S1 b2 y1 y2 q hq) gv_RX6_X6_guideOn rfl rfl dsX6_guideOn rfl ⟨Nat.le_of_ble_eq_true rfl, Nat.le_of_ble_eq_true rfl⟩ rfl (cat_sum (Nat.le_of_ble_eq_true rfl)) ⟨Nat.zero_le _, Nat.zero_le _⟩ dX6_goes_26 h (fun v2 S2 h => ?_)
      refine g_imul C dX6_goes_29 ?_
      refine g_iadd C dX6_goes_30 ?_
      refine g_nmI h (fun v3 h => ?_)
      refine g_istore_n C (i := 3) (lv' := [(3, .int v3), (0, va_rf (some x0)), (1, .int y1), (2, .int y2)]) dX6_goes_31 rfl hn3 rfl ?_
      refine g_aload_n C (q := 1) dX6_goes_32 rfl rfl ?_
      refine g_ogetSR C (ci := 6) (slot := 0) rfl (by decide) inlX6 (by decide) rfl q66 dX6_goes_33 h (fun h hLa1 hKa1 => ?_)
      refine g_iload_n C (q := 0) dX6_goes_36 rfl rfl ?_
      refine g_iconst C (v := 2) dX6_goes_37 (by decide) ?_
      refine g_iadd C dX6_goes_38 ?_
      refine g_dup2 C dX6_goes_39 rfl (va_rf_cat _) ?_
      refine g_iald C dX6_goes_40 h (fun a2 i1 h => ?_)
      refine g_iconst C (v := 1) dX6_goes_41 (by decide) ?_
      refine g_iadd C dX6_goes_42 ?_
      refine g_iast C dX6_goes_43 h (fun a3 i2 S3 h => ?_)
      refine g_aload_n C (q := 1) dX6_goes_44 rfl rfl ?_
      refine g_ogetSR C (ci := 6) (slot := 0) rfl (by decide) inlX6 (by decide) rfl q66 dX6_goes_45 h (fun h hLa4 hKa4 => ?_)
      refine g_iload_n C (q := 0) dX6_goes_48 rfl rfl ?_
      refine g_iconst C (v := 3) dX6_goes_49 (by decide) ?_
      refine g_iadd C dX6_goes_50 ?_
      refine g_dup2 C dX6_goes_51 rfl (va_rf_cat _) ?_
      refine g_iald C dX6_goes_52 h (fun a5 i3 h => ?_)
      refine g_aload_n C (q := 1) dX6_goes_53 rfl rfl ?_
      refine g_iload_n C (q := 2) dX6_goes_54 rfl rfl ?_
      refine g_iload_n C (q := 3) dX6_goes_55 rfl rfl ?_
      refine g_callVI C (ci := 6) (As := [.int y1, .int y2]) (np := 2) (st := [.int (zI S3 a5 i3), .int (v3 + 3), va_rf (zR S3 x0 0)]) (r := (some x0)) rfl (by decide) (fun b3 q hq => c_X6_onRope S3 b3 y1 y2 q hq) gv_RX6_X6_onRope rfl rfl dsX6_onRope rfl ⟨Nat.le_of_ble_eq_true rfl, Nat.le_of_ble_eq_true rfl⟩ rfl (cat_sum (Nat.le_of_ble_eq_true rfl)) ⟨Nat.zero_le _, Nat.zero_le _⟩ dX6_goes_56 h (fun v4 S4 h => ?_)
      refine g_iadd C dX6_goes_59 ?_
      refine g_iast C dX6_goes_60 h (fun a6 i4 S5 h => ?_)
      obtain ⟨v5, ev5, h⟩ := bnd_ex h
      refine g_iinc C (i := 2) (lv' := [(2, .int v5), (3, .int v3), (0, va_rf (some x0)), (1, .int y1)]) (q := 3) v5 dX6_goes_61 rfl ev5 hn2 rfl ?_
      refine g_goto C (tgt := 10) dX6_goes_64 (by decide) ?_
      refine g_sub (lv' := [(0, va_rf (some x0)), (1, .int y1), (2, .int v5)]) [2, 3, 0] rfl ?_
      exact ih S5 x0 y1 v5 h
set_option maxHeartbeats 4000000 in
set_option maxRecDepth 100000 in
theorem c_X6_goes (S : Hp) (x0 : Nat) (x1 : Int32) (o : Unit × Hp) (h : f_X6_goes S x0 x1 = some o) : CtV yX6_goes cX6_goes 4 none rm_X6_goes 0 0 [va_rf (some x0), .int x1] S o := by
  refine ct_V (own := RX6) (by decide) rfl (Nat.le_of_ble_eq_true rfl) (fun X C hn hQ => ?_)
  have hn2 : 2 < xn X := by rw [hn]; decide
  unfold f_X6_goes at h
  show GW X 0 0 S 0 [(0, va_rf (some x0)), (1, .int x1)] []
  refine g_aload_n C (q := 0) dX6_goes_0 rfl rfl ?_
  refine g_iload_n C (q := 1) dX6_goes_1 rfl rfl ?_
  refine g_bipush C (v := 6) dX6_goes_2 (by decide) ?_
  refine g_iconst C (v := 1) dX6_goes_4 (by decide) ?_
  refine g_callVV C (ci := 6) (As := [.int x1, .int 6, .int 1]) (np := 3) (st := []) (r := (some x0)) rfl (by decide) (fun b1 q hq => c_X6_to S b1 x1 (6 : Int32) (1 : Int32) q hq) gv_RX6_X6_to rfl rfl dsX6_to rfl ⟨Nat.le_of_ble_eq_true rfl, Nat.le_of_ble_eq_true rfl⟩ rfl (cat_sum (Nat.le_of_ble_eq_true rfl)) ⟨Nat.zero_le _, Nat.zero_le _⟩ dX6_goes_5 h (fun S1 h => ?_)
  refine g_iconst C (v := 0) dX6_goes_8 (by decide) ?_
  refine g_istore_n C (i := 2) (lv' := [(2, .int 0), (0, va_rf (some x0)), (1, .int x1)]) dX6_goes_9 rfl hn2 rfl ?_
  refine g_sub (lv' := [(0, va_rf (some x0)), (1, .int x1), (2, .int 0)]) [1, 2, 0] rfl ?_
  exact w_X6_goes_L10 C hn hQ 1000 S1 x0 x1 (0 : Int32) h

abbrev rm_X6_changed : Room := { frames := 0, cells := 0, slots := 0, locals := 0 }
theorem dsX6_changed : yX6_changed.cls = RX6 ∧ yX6_changed.cls ≠ "java/lang/invoke/MethodHandle" ∧ yX6_changed.cls ≠ "java/lang/invoke/VarHandle" ∧ (parseMethodDescriptor yX6_changed.desc).map (fun d => d.parameters.length) = some 1 := by decide +kernel
def f_X6_changed (S : Hp) (x0 : Nat) (x1 : UInt64) : Option (UInt64 × Hp) :=
 ob S 6 (some x0) fun _ =>
 ar S 8 (zR S x0 3) (0 : Int32) fun a2 i1 =>
 bnd ((zD S a2 i1)) fun e1 =>
 if (Op.cmpValue (FP.dcmp e1 FP.dconst0) CmpOp.l) ≤ 0 then
 if 0 ≤ (Op.cmpValue (FP.dcmp e1 FP.dconst0) CmpOp.g) then
 some (x1, S)
 else
 fpg (FP.dmul 4598175219545276416 e1) <|
 fpg (FP.dsub x1 (FP.dmul 4598175219545276416 e1)) <|
 bnd ((FP.dsub x1 (FP.dmul 4598175219545276416 e1))) fun e2 =>
 if (Op.cmpValue (FP.dcmp e2 4647503709213818880) CmpOp.l) ≤ 0 then
 some (e2, S)
 else
 some (4647503709213818880, S)
 else
 fpg (FP.dmul 4609434218613702656 e1) <|
 fpg (FP.dsub x1 (FP.dmul 4609434218613702656 e1)) <|
 bnd ((FP.dsub x1 (FP.dmul 4609434218613702656 e1))) fun e3 =>
 if 0 ≤ (Op.cmpValue (FP.dcmp e3 FP.dconst0) CmpOp.g) then
 some (e3, S)
 else
 some (FP.dconst0, S)
set_option maxHeartbeats 4000000 in
set_option maxRecDepth 100000 in
theorem c_X6_changed (S : Hp) (x0 : Nat) (x1 : UInt64) (o : UInt64 × Hp) (h : f_X6_changed S x0 x1 = some o) : CtD yX6_changed cX6_changed 7 (some .double) rm_X6_changed 0 0 [va_rf (some x0), .double x1] S o := by
  refine ct_D (own := RX6) (by decide) rfl (Nat.le_of_ble_eq_true rfl) (fun X C hn hQ => ?_)
  have hn4 : 4 < xn X := by rw [hn]; decide
  have hn6 : 6 < xn X := by rw [hn]; decide
  unfold f_X6_changed at h
  show GW X 0 0 S 0 [(0, va_rf (some x0)), (1, .double x1)] []
  refine g_aload_n C (q := 0) dX6_changed_0 rfl rfl ?_
  refine g_ogetSR C (ci := 6) (slot := 3) rfl (by decide) inlX6 (by decide) rfl q69 dX6_changed_1 h (fun h hLa1 hKa1 => ?_)
  refine g_iconst C (v := 0) dX6_changed_4 (by decide) ?_
  refine g_dald C dX6_changed_5 h (fun a2 i1 h => ?_)
  refine g_nmD h (fun e1 h => ?_)
  refine g_dstore_n C (i := 3) (lv' := [(3, .double e1), (0, va_rf (some x0)), (1, .double x1)]) dX6_changed_6 rfl hn4 rfl ?_
  refine g_dload_n C (q := 0) dX6_changed_7 rfl rfl ?_
  refine g_dconst0 C dX6_changed_8 ?_
  refine g_dcmp C dX6_changed_9 ?_
  refine g_if_le C (tgt := 36) dX6_changed_10 (by decide) h (fun h => ?_) (fun h => ?_)
  · refine g_dload_n C (q := 0) dX6_changed_36 rfl rfl ?_
    refine g_dconst0 C dX6_changed_37 ?_
    refine g_dcmp C dX6_changed_38 ?_
    refine g_if_ge C (tgt := 69) dX6_changed_39 (by decide) h (fun h => ?_) (fun h => ?_)
    · refine g_dload_n C (q := 2) dX6_changed_69 rfl rfl ?_
      exact g_dret C hQ dX6_changed_70 h
    · refine g_dload_n C (q := 2) dX6_changed_42 rfl rfl ?_
      refine g_ldc2d C q525 dX6_changed_43 ?_
      refine g_dload_n C (q := 0) dX6_changed_46 rfl rfl ?_
      refine g_dmul C dX6_changed_47 h (fun h => ?_)
      refine g_dsub C dX6_changed_48 h (fun h => ?_)
      refine g_nmD h (fun e2 h => ?_)
      refine g_dstore C (i := 5) (lv' := [(5, .double e2), (3, .double e1), (0, va_rf (some x0)), (1, .double x1)]) dX6_changed_49 hn6 rfl ?_
      refine g_dload C (q := 0) dX6_changed_51 rfl ?_
      refine g_ldc2d C q198 dX6_changed_53 ?_
      refine g_dcmp C dX6_changed_56 ?_
      refine g_if_le C (tgt := 66) dX6_changed_57 (by decide) h (fun h => ?_) (fun h => ?_)
      · refine g_dload C (q := 0) dX6_changed_66 rfl ?_
        exact g_dret C hQ dX6_changed_68 h
      · refine g_ldc2d C q198 dX6_changed_60 ?_
        refine g_goto C (tgt := 68) dX6_changed_63 (by decide) ?_
        exact g_dret C hQ dX6_changed_68 h
  · refine g_dload_n C (q := 2) dX6_changed_13 rfl rfl ?_
    refine g_ldc2d C q524 dX6_changed_14 ?_
    refine g_dload_n C (q := 0) dX6_changed_17 rfl rfl ?_
    refine g_dmul C dX6_changed_18 h (fun h => ?_)
    refine g_dsub C dX6_changed_19 h (fun h => ?_)
    refine g_nmD h (fun e3 h => ?_)
    refine g_dstore C (i := 5) (lv' := [(5, .double e3), (3, .double e1), (0, va_rf (some x0)), (1, .double x1)]) dX6_changed_20 hn6 rfl ?_
    refine g_dload C (q := 0) dX6_changed_22 rfl ?_
    refine g_dconst0 C dX6_changed_24 ?_
    refine g_dcmp C dX6_changed_25 ?_
    refine g_if_ge C (tgt := 33) dX6_changed_26 (by decide) h (fun h => ?_) (fun h => ?_)
    · refine g_dload C (q := 0) dX6_changed_33 rfl ?_
      exact g_dret C hQ dX6_changed_35 h
    · refine g_dconst0 C dX6_changed_29 ?_
      refine g_goto C (tgt := 35) dX6_changed_30 (by decide) ?_
      exact g_dret C hQ dX6_changed_35 h

abbrev rm_X6_passes : Room := { frames := 6, cells := 0, slots := 0, locals := 139 }
theorem dsX6_passes : yX6_passes.cls = RX6 ∧ yX6_passes.cls ≠ "java/lang/invoke/MethodHandle" ∧ yX6_passes.cls ≠ "java/lang/invoke/VarHandle" ∧ (parseMethodDescriptor yX6_passes.desc).map (fun d => d.parameters.length) = some 0 := by decide +kernel
theorem gv_RX6_X6_causeOf : GoodIn wsL_law (wsV RX6 147 RX6 yX6_causeOf (.code yX6_causeOf cX6_causeOf 4 (some .int) :: wsL_law)) := good_V q503 q504 q505 q5 q506
theorem gv_RX6_X6_changed : GoodIn wsL_law (wsV RX6 154 RX6 yX6_changed (.code yX6_changed cX6_changed 7 (some .double) :: wsL_law)) := good_V q520 q521 q522 q5 q523
theorem gv_RX6_X6_goes : GoodIn wsL_law (wsV RX6 150 RX6 yX6_goes (.code yX6_goes cX6_goes 4 none :: wsL_law)) := good_V q516 q517 q518 q5 q519
def f_X6_passes_L77_b (rec : Hp → Nat → Int32 → Int32 → Option (Int32 × Hp)) (S : Hp) (x0 : Nat) (y1 : Int32) (y2 : Int32) : Option (Int32 × Hp) :=
 ob S 6 (some x0) fun _ =>
 ar S 9 (zR S x0 0) (2 : Int32) fun a2 i1 =>
 if (zI S a2 i1) ≤ y2 then
 ar S 9 (zR S x0 0) (0 : Int32) fun a3 i2 =>
 ar S 9 (zR S x0 0) (0 : Int32) fun a4 i3 => bnd (wI S a4 i3 ((zI S a3 i2) + 1)) fun S1 =>
 some (y1, S1)
 else
 ar S 8 (zR S x0 3) (1 + y2) fun a5 i4 =>
 ob S 6 (some x0) fun b1 => cl (f_X6_changed S b1 (zD S a5 i4)) fun e1 S2 =>
 ar S2 8 (zR S x0 3) (1 + y2) fun a6 i5 => bnd (wD S2 a6 i5 e1) fun S3 =>
 bnd (y2 + 1) fun v1 =>
 rec S3 x0 y1 v1
def f_X6_passes_L77 : Nat → Hp → Nat → Int32 → Int32 → Option (Int32 × Hp)
  | 0 => fun _ _ _ _ => none
  | n + 1 => f_X6_passes_L77_b (f_X6_passes_L77 n)

def f_X6_passes_L4_b (rec : Hp → Nat → Int32 → Int32 → Option (Int32 × Hp)) (S : Hp) (x0 : Nat) (y1 : Int32) (y2 : Int32) : Option (Int32 × Hp) :=
 ob S 6 (some x0) fun _ =>
 ar S 9 (zR S x0 0) (3 : Int32) fun a2 i1 =>
 if (zI S a2 i1) ≤ y2 then
 f_X6_passes_L77 1000 S x0 y1 (0 : Int32)
 else
 ob S 6 (some x0) fun b1 => cl (f_X6_isOpen S b1 y2) fun v1 S1 =>
 if v1 = 0 then
 bnd (y2 + 1) fun v2 =>
 rec S1 x0 y1 v2
 else
 ob S1 6 (some x0) fun b2 => cl (f_X6_of S1 b2 y2 (0 : Int32)) fun v3 S2 =>
 ob S2 6 (some x0) fun _ =>
 ar S2 9 (zR S2 x0 0) (0 : Int32) fun a4 i2 =>
 if v3 = (zI S2 a4 i2) then
 ob S2 6 (some x0) fun b3 => cl (f_X6_causeOf S2 b3 y2) fun v4 S3 =>
 if v4 ≤ 0 then
 ob S3 6 (some x0) fun b4 => cl (f_X6_goes S3 b4 y2) fun _ S4 =>
 bnd (y1 + 1) fun v5 =>
 bnd (y2 + 1) fun v6 =>
 rec S4 x0 v5 v6
 else
 ob S3 6 (some x0) fun b5 => cl (f_X6_cancels S3 b5 y2 v4) fun v7 S5 =>
 bnd (y2 + 1) fun v8 =>
 rec S5 x0 y1 v8
 else
 bnd (y2 + 1) fun v9 =>
 rec S2 x0 y1 v9
def f_X6_passes_L4 : Nat → Hp → Nat → Int32 → Int32 → Option (Int32 × Hp)
  | 0 => fun _ _ _ _ => none
  | n + 1 => f_X6_passes_L4_b (f_X6_passes_L4 n)
def f_X6_passes (S : Hp) (x0 : Nat) : Option (Int32 × Hp) :=
 f_X6_passes_L4 1000 S x0 (0 : Int32) (0 : Int32)
set_option maxHeartbeats 4000000 in
set_option maxRecDepth 100000 in
theorem w_X6_passes_L77 {X : Cx} (C : CxOK X cX6_passes RX6 rm_X6_passes) (hn : xn X = 5) {S0 : Hp} {o : Int32 × Hp} (hQ : QI X (some .int) S0 0 0 o) : ∀ (fuel : Nat) (S : Hp) (x0 : Nat) (y1 : Int32) (y2 : Int32), f_X6_passes_L77 fuel S x0 y1 y2 = some o → GW X 0 0 S 77 [(0, va_rf (some x0)), (1, .int y1), (2, .int y2)] [] := by
  have hn2 : 2 < xn X := by rw [hn]; decide
  intro fuel
  induction fuel with
  | zero => intro S x0 y1 y2 h; cases (show none = some o from h)
  | succ fuel ih =>
    intro S x0 y1 y2 h
    have h : f_X6_passes_L77_b (f_X6_passes_L77 fuel) S x0 y1 y2 = some o := h
    unfold f_X6_passes_L77_b at h
    refine g_iload_n C (q := 2) dX6_passes_77 rfl rfl ?_
    refine g_aload_n C (q := 0) dX6_passes_78 rfl rfl ?_
    refine g_ogetSR C (ci := 6) (slot := 0) rfl (by decide) inlX6 (by decide) rfl q66 dX6_passes_79 h (fun h hLa1 hKa1 => ?_)
    refine g_iconst C (v := 2) dX6_passes_82 (by decide) ?_
    refine g_iald C dX6_passes_83 h (fun a2 i1 h => ?_)
    refine g_icmp_ge C (tgt := 113) dX6_passes_84 (by decide) h (fun h => ?_) (fun h => ?_)
    · refine g_aload_n C (q := 0) dX6_passes_113 rfl rfl ?_
      refine g_getER C (ci := 6) (slot := 0) rfl (by decide) inlX6 (by decide) rfl q66 dX6_passes_114 rfl hLa1 hKa1 ?_
      refine g_iconst C (v := 0) dX6_passes_117 (by decide) ?_
      refine g_dup2 C dX6_passes_118 rfl (va_rf_cat _) ?_
      refine g_iald C dX6_passes_119 h (fun a3 i2 h => ?_)
      refine g_iconst C (v := 1) dX6_passes_120 (by decide) ?_
      refine g_iadd C dX6_passes_121 ?_
      refine g_iast C dX6_passes_122 h (fun a4 i3 S1 h => ?_)
      refine g_iload_n C (q := 1) dX6_passes_123 rfl rfl ?_
      exact g_iret C hQ dX6_passes_124 h
    · refine g_aload_n C (q := 0) dX6_passes_87 rfl rfl ?_
      refine g_getER C (ci := 6) (slot := 3) rfl (by decide) inlX6 (by decide) rfl q69 dX6_passes_88 rfl hLa1 hKa1 ?_
      refine g_iconst C (v := 1) dX6_passes_91 (by decide) ?_
      refine g_iload_n C (q := 2) dX6_passes_92 rfl rfl ?_
      refine g_iadd C dX6_passes_93 ?_
      refine g_aload_n C (q := 0) dX6_passes_94 rfl rfl ?_
      refine g_aload_n C (q := 0) dX6_passes_95 rfl rfl ?_
      refine g_getER C (ci := 6) (slot := 3) rfl (by decide) inlX6 (by decide) rfl q69 dX6_passes_96 rfl hLa1 hKa1 ?_
      refine g_iconst C (v := 1) dX6_passes_99 (by decide) ?_
      refine g_iload_n C (q := 2) dX6_passes_100 rfl rfl ?_
      refine g_iadd C dX6_passes_101 ?_
      refine g_dald C dX6_passes_102 h (fun a5 i4 h => ?_)
      refine g_callVD C (ci := 6) (As := [.double (zD S a5 i4)]) (np := 1) (st := [.int (1 + y2), va_rf (zR S x0 3)]) (r := (some x0)) rfl (by decide) (fun b1 q hq => c_X6_changed S b1 (zD S a5 i4) q hq) gv_RX6_X6_changed rfl rfl dsX6_changed rfl ⟨Nat.le_of_ble_eq_true rfl, Nat.le_of_ble_eq_true rfl⟩ rfl (cat_sum (Nat.le_of_ble_eq_true rfl)) ⟨Nat.zero_le _, Nat.zero_le _⟩ dX6_passes_103 h (fun e1 S2 h => ?_)
      refine g_dast C dX6_passes_106 h (fun a6 i5 S3 h => ?_)
      obtain ⟨v1, ev1, h⟩ := bnd_ex h
      refine g_iinc C (i := 2) (lv' := [(2, .int v1), (0, va_rf (some x0)), (1, .int y1)]) (q := 2) v1 dX6_passes_107 rfl ev1 hn2 rfl ?_
      refine g_goto C (tgt := 77) dX6_passes_110 (by decide) ?_
      refine g_sub (lv' := [(0, va_rf (some x0)), (1, .int y1), (2, .int v1)]) [1, 2, 0] rfl ?_
      exact ih S3 x0 y1 v1 h

set_option maxHeartbeats 4000000 in
set_option maxRecDepth 100000 in
theorem w_X6_passes_L4 {X : Cx} (C : CxOK X cX6_passes RX6 rm_X6_passes) (hn : xn X = 5) {S0 : Hp} {o : Int32 × Hp} (hQ : QI X (some .int) S0 0 0 o) : ∀ (fuel : Nat) (S : Hp) (x0 : Nat) (y1 : Int32) (y2 : Int32), f_X6_passes_L4 fuel S x0 y1 y2 = some o → GW X 0 0 S 4 [(0, va_rf (some x0)), (1, .int y1), (2, .int y2)] [] := by
  have hn1 : 1 < xn X := by rw [hn]; decide
  have hn2 : 2 < xn X := by rw [hn]; decide
  have hn3 : 3 < xn X := by rw [hn]; decide
  have hn4 : 4 < xn X := by rw [hn]; decide
  intro fuel
  induction fuel with
  | zero => intro S x0 y1 y2 h; cases (show none = some o from h)
  | succ fuel ih =>
    intro S x0 y1 y2 h
    have h : f_X6_passes_L4_b (f_X6_passes_L4 fuel) S x0 y1 y2 = some o := h
    unfold f_X6_passes_L4_b at h
    refine g_iload_n C (q := 2) dX6_passes_4 rfl rfl ?_
    refine g_aload_n C (q := 0) dX6_passes_5 rfl rfl ?_
    refine g_ogetSR C (ci := 6) (slot := 0) rfl (by decide) inlX6 (by decide) rfl q66 dX6_passes_6 h (fun h hLa1 hKa1 => ?_)
    refine g_iconst C (v := 3) dX6_passes_9 (by decide) ?_
    refine g_iald C dX6_passes_10 h (fun a2 i1 h => ?_)
    refine g_icmp_ge C (tgt := 75) dX6_passes_11 (by decide) h (fun h => ?_) (fun h => ?_)
    · refine g_iconst C (v := 0) dX6_passes_75 (by decide) ?_
      refine g_istore_n C (i := 2) (lv' := [(2, .int 0), (0, va_rf (some x0)), (1, .int y1)]) dX6_passes_76 rfl hn2 rfl ?_
      refine g_sub (lv' := [(0, va_rf (some x0)), (1, .int y1), (2, .int 0)]) [1, 2, 0] rfl ?_
      exact w_X6_passes_L77 C hn hQ 1000 S x0 y1 (0 : Int32) h
    · refine g_aload_n C (q := 0) dX6_passes_14 rfl rfl ?_
      refine g_iload_n C (q := 2) dX6_passes_15 rfl rfl ?_
      refine g_callVI C (ci := 6) (As := [.int y2]) (np := 1) (st := []) (r := (some x0)) rfl (by decide) (fun b1 q hq => c_X6_isOpen S b1 y2 q hq) gv_RX6_X6_isOpen rfl rfl dsX6_isOpen rfl ⟨Nat.le_of_ble_eq_true rfl, Nat.le_of_ble_eq_true rfl⟩ rfl (cat_sum (Nat.le_of_ble_eq_true rfl)) ⟨Nat.zero_le _, Nat.zero_le _⟩ dX6_passes_16 h (fun v1 S1 h => ?_)
      refine g_if_eq C (tgt := 69) dX6_passes_19 (by decide) h (fun h => ?_) (fun h => ?_)
      · obtain ⟨v2, ev2, h⟩ := bnd_ex h
        refine g_iinc C (i := 2) (lv' := [(2, .int v2), (0, va_rf (some x0)), (1, .int y1)]) (q := 2) v2 dX6_passes_69 rfl ev2 hn2 rfl ?_
        refine g_goto C (tgt := 4) dX6_passes_72 (by decide) ?_
        refine g_sub (lv' := [(0, va_rf (some x0)), (1, .int y1), (2, .int v2)]) [1, 2, 0] rfl ?_
        exact ih S1 x0 y1 v2 h
      · refine g_aload_n C (q := 0) dX6_passes_22 rfl rfl ?_
        refine g_iload_n C (q := 2) dX6_passes_23 rfl rfl ?_
        refine g_iconst C (v := 0) dX6_passes_24 (by decide) ?_
        refine g_callVI C (ci := 6) (As := [.int y2, .int 0]) (np := 2) (st := []) (r := (some x0)) rfl (by decide) (fun b2 q hq => c_X6_of S1 b2 y2 (0 : Int32) q hq) gv_RX6_X6_of rfl rfl dsX6_of rfl ⟨Nat.le_of_ble_eq_true rfl, Nat.le_of_ble_eq_true rfl⟩ rfl (cat_sum (Nat.le_of_ble_eq_true rfl)) ⟨Nat.zero_le _, Nat.zero_le _⟩ dX6_passes_25 h (fun v3 S2 h => ?_)
        refine g_aload_n C (q := 0) dX6_passes_28 rfl rfl ?_
        refine g_ogetSR C (ci := 6) (slot := 0) rfl (by decide) inlX6 (by decide) rfl q66 dX6_passes_29 h (fun h hLa3 hKa3 => ?_)
        refine g_iconst C (v := 0) dX6_passes_32 (by decide) ?_
        refine g_iald C dX6_passes_33 h (fun a4 i2 h => ?_)
        refine g_icmp_eq C (tgt := 40) dX6_passes_34 (by decide) h (fun h => ?_) (fun h => ?_)
        · refine g_aload_n C (q := 0) dX6_passes_40 rfl rfl ?_
          refine g_iload_n C (q := 2) dX6_passes_41 rfl rfl ?_
          refine g_callVI C (ci := 6) (As := [.int y2]) (np := 1) (st := []) (r := (some x0)) rfl (by decide) (fun b3 q hq => c_X6_causeOf S2 b3 y2 q hq) gv_RX6_X6_causeOf rfl rfl dsX6_causeOf rfl ⟨Nat.le_of_ble_eq_true rfl, Nat.le_of_ble_eq_true rfl⟩ rfl (cat_sum (Nat.le_of_ble_eq_true rfl)) ⟨Nat.zero_le _, Nat.zero_le _⟩ dX6_passes_42 h (fun v4 S3 h => ?_)
          refine g_istore_n C (i := 3) (lv' := [(3, .int v4), (0, va_rf (some x0)), (1, .int y1), (2, .int y2)]) dX6_passes_45 rfl hn3 rfl ?_
          refine g_iload_n C (q := 0) dX6_passes_46 rfl rfl ?_
          refine g_if_le C (tgt := 61) dX6_passes_47 (by decide) h (fun h => ?_) (fun h => ?_)
          · refine g_aload_n C (q := 1) dX6_passes_61 rfl rfl ?_
            refine g_iload_n C (q := 3) dX6_passes_62 rfl rfl ?_
            refine g_callVV C (ci := 6) (As := [.int y2]) (np := 1) (st := []) (r := (some x0)) rfl (by decide) (fun b4 q hq => c_X6_goes S3 b4 y2 q hq) gv_RX6_X6_goes rfl rfl dsX6_goes rfl ⟨Nat.le_of_ble_eq_true rfl, Nat.le_of_ble_eq_true rfl⟩ rfl (cat_sum (Nat.le_of_ble_eq_true rfl)) ⟨Nat.zero_le _, Nat.zero_le _⟩ dX6_passes_63 h (fun S4 h => ?_)
            obtain ⟨v5, ev5, h⟩ := bnd_ex h
            refine g_iinc C (i := 1) (lv' := [(1, .int v5), (3, .int v4), (0, va_rf (some x0)), (2, .int y2)]) (q := 2) v5 dX6_passes_66 rfl ev5 hn1 (by simp [va_rf_cat, catI, catJ, catD]) ?_
            obtain ⟨v6, ev6, h⟩ := bnd_ex h
            refine g_iinc C (i := 2) (lv' := [(2, .int v6), (1, .int v5), (3, .int v4), (0, va_rf (some x0))]) (q := 3) v6 dX6_passes_69 rfl ev6 hn2 rfl ?_
            refine g_goto C (tgt := 4) dX6_passes_72 (by decide) ?_
            refine g_sub (lv' := [(0, va_rf (some x0)), (1, .int v5), (2, .int v6)]) [3, 1, 0] rfl ?_
            exact ih S4 x0 v5 v6 h
          · refine g_aload_n C (q := 1) dX6_passes_50 rfl rfl ?_
            refine g_iload_n C (q := 3) dX6_passes_51 rfl rfl ?_
            refine g_iload_n C (q := 0) dX6_passes_52 rfl rfl ?_
            refine g_callVI C (ci := 6) (As := [.int y2, .int v4]) (np := 2) (st := []) (r := (some x0)) rfl (by decide) (fun b5 q hq => c_X6_cancels S3 b5 y2 v4 q hq) gv_RX6_X6_cancels rfl rfl dsX6_cancels rfl ⟨Nat.le_of_ble_eq_true rfl, Nat.le_of_ble_eq_true rfl⟩ rfl (cat_sum (Nat.le_of_ble_eq_true rfl)) ⟨Nat.zero_le _, Nat.zero_le _⟩ dX6_passes_53 h (fun v7 S5 h => ?_)
            refine g_istore C (i := 4) (lv' := [(4, .int v7), (3, .int v4), (0, va_rf (some x0)), (1, .int y1), (2, .int y2)]) dX6_passes_56 hn4 rfl ?_
            refine g_goto C (tgt := 69) dX6_passes_58 (by decide) ?_
            obtain ⟨v8, ev8, h⟩ := bnd_ex h
            refine g_iinc C (i := 2) (lv' := [(2, .int v8), (4, .int v7), (3, .int v4), (0, va_rf (some x0)), (1, .int y1)]) (q := 4) v8 dX6_passes_69 rfl ev8 hn2 rfl ?_
            refine g_goto C (tgt := 4) dX6_passes_72 (by decide) ?_
            refine g_sub (lv' := [(0, va_rf (some x0)), (1, .int y1), (2, .int v8)]) [3, 4, 0] rfl ?_
            exact ih S5 x0 y1 v8 h
        · refine g_goto C (tgt := 69) dX6_passes_37 (by decide) ?_
          obtain ⟨v9, ev9, h⟩ := bnd_ex h
          refine g_iinc C (i := 2) (lv' := [(2, .int v9), (0, va_rf (some x0)), (1, .int y1)]) (q := 2) v9 dX6_passes_69 rfl ev9 hn2 rfl ?_
          refine g_goto C (tgt := 4) dX6_passes_72 (by decide) ?_
          refine g_sub (lv' := [(0, va_rf (some x0)), (1, .int y1), (2, .int v9)]) [1, 2, 0] rfl ?_
          exact ih S2 x0 y1 v9 h
set_option maxHeartbeats 4000000 in
set_option maxRecDepth 100000 in
theorem c_X6_passes (S : Hp) (x0 : Nat) (o : Int32 × Hp) (h : f_X6_passes S x0 = some o) : CtI yX6_passes cX6_passes 5 (some .int) rm_X6_passes 0 0 [va_rf (some x0)] S o := by
  refine ct_I (own := RX6) (by decide) rfl (Nat.le_of_ble_eq_true rfl) (fun X C hn hQ => ?_)
  have hn1 : 1 < xn X := by rw [hn]; decide
  have hn2 : 2 < xn X := by rw [hn]; decide
  unfold f_X6_passes at h
  show GW X 0 0 S 0 [(0, va_rf (some x0))] []
  refine g_iconst C (v := 0) dX6_passes_0 (by decide) ?_
  refine g_istore_n C (i := 1) (lv' := [(1, .int 0), (0, va_rf (some x0))]) dX6_passes_1 rfl hn1 (by simp [va_rf_cat, catI, catJ, catD]) ?_
  refine g_iconst C (v := 0) dX6_passes_2 (by decide) ?_
  refine g_istore_n C (i := 2) (lv' := [(2, .int 0), (1, .int 0), (0, va_rf (some x0))]) dX6_passes_3 rfl hn2 rfl ?_
  refine g_sub (lv' := [(0, va_rf (some x0)), (1, .int 0), (2, .int 0)]) [2, 1, 0] rfl ?_
  exact w_X6_passes_L4 C hn hQ 1000 S x0 (0 : Int32) (0 : Int32) h

abbrev rm_X6_pass : Room := { frames := 7, cells := 0, slots := 0, locals := 163 }
theorem dsX6_pass : yX6_pass.cls = RX6 ∧ yX6_pass.cls ≠ "java/lang/invoke/MethodHandle" ∧ yX6_pass.cls ≠ "java/lang/invoke/VarHandle" ∧ (parseMethodDescriptor yX6_pass.desc).map (fun d => d.parameters.length) = some 1 := by decide +kernel
theorem gv_RX6_X6_passes : GoodIn wsL_law (wsV RX6 158 RX6 yX6_passes (.code yX6_passes cX6_passes 5 (some .int) :: wsL_law)) := good_V q499 q500 q501 q5 q502
def f_X6_pass_L38_b (rec : Hp → Nat → Int32 → Int32 → Int32 → Option (Int32 × Hp)) (S : Hp) (x0 : Nat) (y1 : Int32) (y2 : Int32) (y3 : Int32) : Option (Int32 × Hp) :=
 if y1 ≤ y3 then
 some (y2, S)
 else
 ob S 6 (some x0) fun b1 => cl (f_X6_passes S b1 ) fun v1 S1 =>
 bnd ((y2 + v1)) fun v2 =>
 bnd (y3 + 1) fun v3 =>
 rec S1 x0 y1 v2 v3
def f_X6_pass_L38 : Nat → Hp → Nat → Int32 → Int32 → Int32 → Option (Int32 × Hp)
  | 0 => fun _ _ _ _ _ => none
  | n + 1 => f_X6_pass_L38_b (f_X6_pass_L38 n)
def f_X6_pass (S : Hp) (x0 : Nat) (x1 : Int32) : Option (Int32 × Hp) :=
 cl (f_X6_in S x1 (1 : Int32) (30 : Int32)) fun v1 S1 =>
 if v1 = 0 then
 some ((-2 : Int32), S1)
 else
 ob S1 6 (some x0) fun _ =>
 ar S1 9 (zR S1 x0 0) (0 : Int32) fun a2 i1 =>
 if ((zI S1 a2 i1) + x1) ≤ 1000 then
 ob S1 6 (some x0) fun b1 => cl (f_X6_record S1 b1 ) fun _ S2 =>
 f_X6_pass_L38 1000 S2 x0 x1 (0 : Int32) (0 : Int32)
 else
 some ((-4 : Int32), S1)
set_option maxHeartbeats 4000000 in
set_option maxRecDepth 100000 in
theorem w_X6_pass_L38 {X : Cx} (C : CxOK X cX6_pass RX6 rm_X6_pass) (hn : xn X = 4) {S0 : Hp} {o : Int32 × Hp} (hQ : QI X (some .int) S0 0 0 o) : ∀ (fuel : Nat) (S : Hp) (x0 : Nat) (y1 : Int32) (y2 : Int32) (y3 : Int32), f_X6_pass_L38 fuel S x0 y1 y2 y3 = some o → GW X 0 0 S 38 [(0, va_rf (some x0)), (1, .int y1), (2, .int y2), (3, .int y3)] [] := by
  have hn2 : 2 < xn X := by rw [hn]; decide
  have hn3 : 3 < xn X := by rw [hn]; decide
  intro fuel
  induction fuel with
  | zero => intro S x0 y1 y2 y3 h; cases (show none = some o from h)
  | succ fuel ih =>
    intro S x0 y1 y2 y3 h
    have h : f_X6_pass_L38_b (f_X6_pass_L38 fuel) S x0 y1 y2 y3 = some o := h
    unfold f_X6_pass_L38_b at h
    refine g_iload_n C (q := 3) dX6_pass_38 rfl rfl ?_
    refine g_iload_n C (q := 1) dX6_pass_39 rfl rfl ?_
    refine g_icmp_ge C (tgt := 56) dX6_pass_40 (by decide) h (fun h => ?_) (fun h => ?_)
    · refine g_iload_n C (q := 2) dX6_pass_56 rfl rfl ?_
      exact g_iret C hQ dX6_pass_57 h
    · refine g_iload_n C (q := 2) dX6_pass_43 rfl rfl ?_
      refine g_aload_n C (q := 0) dX6_pass_44 rfl rfl ?_
      refine g_callVI C (ci := 6) (As := []) (np := 0) (st := [.int y2]) (r := (some x0)) rfl (by decide) (fun b1 q hq => c_X6_passes S b1  q hq) gv_RX6_X6_passes rfl rfl dsX6_passes rfl ⟨Nat.le_of_ble_eq_true rfl, Nat.le_of_ble_eq_true rfl⟩ rfl (cat_sum (Nat.le_of_ble_eq_true rfl)) ⟨Nat.zero_le _, Nat.zero_le _⟩ dX6_pass_45 h (fun v1 S1 h => ?_)
      refine g_iadd C dX6_pass_48 ?_
      refine g_nmI h (fun v2 h => ?_)
      refine g_istore_n C (i := 2) (lv' := [(2, .int v2), (0, va_rf (some x0)), (1, .int y1), (3, .int y3)]) dX6_pass_49 rfl hn2 rfl ?_
      obtain ⟨v3, ev3, h⟩ := bnd_ex h
      refine g_iinc C (i := 3) (lv' := [(3, .int v3), (2, .int v2), (0, va_rf (some x0)), (1, .int y1)]) (q := 3) v3 dX6_pass_50 rfl ev3 hn3 rfl ?_
      refine g_goto C (tgt := 38) dX6_pass_53 (by decide) ?_
      refine g_sub (lv' := [(0, va_rf (some x0)), (1, .int y1), (2, .int v2), (3, .int v3)]) [2, 3, 1, 0] rfl ?_
      exact ih S1 x0 y1 v2 v3 h
set_option maxHeartbeats 4000000 in
set_option maxRecDepth 100000 in
theorem c_X6_pass (S : Hp) (x0 : Nat) (x1 : Int32) (o : Int32 × Hp) (h : f_X6_pass S x0 x1 = some o) : CtI yX6_pass cX6_pass 4 (some .int) rm_X6_pass 0 0 [va_rf (some x0), .int x1] S o := by
  refine ct_I (own := RX6) (by decide) rfl (Nat.le_of_ble_eq_true rfl) (fun X C hn hQ => ?_)
  have hn2 : 2 < xn X := by rw [hn]; decide
  have hn3 : 3 < xn X := by rw [hn]; decide
  unfold f_X6_pass at h
  show GW X 0 0 S 0 [(0, va_rf (some x0)), (1, .int x1)] []
  refine g_iload_n C (q := 1) dX6_pass_0 rfl rfl ?_
  refine g_iconst C (v := 1) dX6_pass_1 (by decide) ?_
  refine g_bipush C (v := 30) dX6_pass_2 (by decide) ?_
  refine g_callSI C (As := [.int x1, .int 1, .int 30]) (np := 3) (st := []) (fun q hq => c_X6_in S x1 (1 : Int32) (30 : Int32) q hq) gs_RX6_X6_in rfl rfl dsX6_in rfl ⟨Nat.le_of_ble_eq_true rfl, Nat.le_of_ble_eq_true rfl⟩ rfl (cat_sum (Nat.le_of_ble_eq_true rfl)) ⟨Nat.zero_le _, Nat.zero_le _⟩ dX6_pass_4 h (fun v1 S1 h => ?_)
  refine g_if_ne C (tgt := 13) dX6_pass_7 (by decide) h (fun h => ?_) (fun h => ?_)
  · refine g_bipush C (v := (-2)) dX6_pass_10 (by decide) ?_
    exact g_iret C hQ dX6_pass_12 h
  · refine g_aload_n C (q := 0) dX6_pass_13 rfl rfl ?_
    refine g_ogetSR C (ci := 6) (slot := 0) rfl (by decide) inlX6 (by decide) rfl q66 dX6_pass_14 h (fun h hLa1 hKa1 => ?_)
    refine g_iconst C (v := 0) dX6_pass_17 (by decide) ?_
    refine g_iald C dX6_pass_18 h (fun a2 i1 h => ?_)
    refine g_iload_n C (q := 1) dX6_pass_19 rfl rfl ?_
    refine g_iadd C dX6_pass_20 ?_
    refine g_sipush C (v := 1000) dX6_pass_21 (by decide) ?_
    refine g_icmp_le C (tgt := 30) dX6_pass_24 (by decide) h (fun h => ?_) (fun h => ?_)
    · refine g_aload_n C (q := 0) dX6_pass_30 rfl rfl ?_
      refine g_callVV C (ci := 6) (As := []) (np := 0) (st := []) (r := (some x0)) rfl (by decide) (fun b1 q hq => c_X6_record S1 b1  q hq) gv_RX6_X6_record rfl rfl dsX6_record rfl ⟨Nat.le_of_ble_eq_true rfl, Nat.le_of_ble_eq_true rfl⟩ rfl (cat_sum (Nat.le_of_ble_eq_true rfl)) ⟨Nat.zero_le _, Nat.zero_le _⟩ dX6_pass_31 h (fun S2 h => ?_)
      refine g_iconst C (v := 0) dX6_pass_34 (by decide) ?_
      refine g_istore_n C (i := 2) (lv' := [(2, .int 0), (0, va_rf (some x0)), (1, .int x1)]) dX6_pass_35 rfl hn2 rfl ?_
      refine g_iconst C (v := 0) dX6_pass_36 (by decide) ?_
      refine g_istore_n C (i := 3) (lv' := [(3, .int 0), (2, .int 0), (0, va_rf (some x0)), (1, .int x1)]) dX6_pass_37 rfl hn3 rfl ?_
      refine g_sub (lv' := [(0, va_rf (some x0)), (1, .int x1), (2, .int 0), (3, .int 0)]) [2, 3, 1, 0] rfl ?_
      exact w_X6_pass_L38 C hn hQ 1000 S2 x0 x1 (0 : Int32) (0 : Int32) h
    · refine g_bipush C (v := (-4)) dX6_pass_27 (by decide) ?_
      exact g_iret C hQ dX6_pass_29 h

abbrev rm_X6_type : Room := { frames := 0, cells := 0, slots := 0, locals := 0 }
theorem dsX6_type : yX6_type.cls = RX6 ∧ yX6_type.cls ≠ "java/lang/invoke/MethodHandle" ∧ yX6_type.cls ≠ "java/lang/invoke/VarHandle" ∧ (parseMethodDescriptor yX6_type.desc).map (fun d => d.parameters.length) = some 1 := by decide +kernel
def f_X6_type (S : Hp) (x0 : Nat) (x1 : Int32) : Option (Int32 × Hp) :=
 ob S 6 (some x0) fun _ =>
 if (zI S x0 8) = 40 then
 some ((-3 : Int32), S)
 else
 ar S 7 (zR S x0 9) (zI S x0 8) fun a2 i1 => bnd (wI S a2 i1 (vp_nar .char x1)) fun S1 =>
 ob S1 6 (some x0) fun _ =>
 ob S1 6 (some x0) fun a4 => bnd (wI S1 a4 8 ((zI S1 x0 8) + 1)) fun S2 =>
 ob S2 6 (some x0) fun _ =>
 some ((zI S2 x0 8), S2)
set_option maxHeartbeats 4000000 in
set_option maxRecDepth 100000 in
theorem c_X6_type (S : Hp) (x0 : Nat) (x1 : Int32) (o : Int32 × Hp) (h : f_X6_type S x0 x1 = some o) : CtI yX6_type cX6_type 2 (some .int) rm_X6_type 0 0 [va_rf (some x0), .int x1] S o := by
  refine ct_I (own := RX6) (by decide) rfl (Nat.le_of_ble_eq_true rfl) (fun X C hn hQ => ?_)
  unfold f_X6_type at h
  show GW X 0 0 S 0 [(0, va_rf (some x0)), (1, .int x1)] []
  refine g_aload_n C (q := 0) dX6_type_0 rfl rfl ?_
  refine g_ogetSI C (ci := 6) (slot := 8) rfl (by decide) inlX6 (by decide) rfl q540 dX6_type_1 h (fun h hLa1 hKa1 => ?_)
  refine g_bipush C (v := 40) dX6_type_4 (by decide) ?_
  refine g_icmp_ne C (tgt := 12) dX6_type_6 (by decide) h (fun h => ?_) (fun h => ?_)
  · refine g_bipush C (v := (-3)) dX6_type_9 (by decide) ?_
    exact g_iret C hQ dX6_type_11 h
  · refine g_aload_n C (q := 0) dX6_type_12 rfl rfl ?_
    refine g_getER C (ci := 6) (slot := 9) rfl (by decide) inlX6 (by decide) rfl q72 dX6_type_13 rfl hLa1 hKa1 ?_
    refine g_aload_n C (q := 0) dX6_type_16 rfl rfl ?_
    refine g_getEI C (ci := 6) (slot := 8) rfl (by decide) inlX6 (by decide) rfl q540 dX6_type_17 rfl hLa1 hKa1 ?_
    refine g_iload_n C (q := 1) dX6_type_20 rfl rfl ?_
    refine g_cast C dX6_type_21 h (fun a2 i1 S1 h => ?_)
    refine g_aload_n C (q := 0) dX6_type_22 rfl rfl ?_
    refine g_dup C dX6_type_23 (va_rf_cat _) ?_
    refine g_ogetSI C (ci := 6) (slot := 8) rfl (by decide) inlX6 (by decide) rfl q540 dX6_type_24 h (fun h hLa3 hKa3 => ?_)
    refine g_iconst C (v := 1) dX6_type_27 (by decide) ?_
    refine g_iadd C dX6_type_28 ?_
    refine g_oputI C (ci := 6) (slot := 8) tyX6 tyX6_ok nmX6 rfl (by decide) inlX6 (by decide) rfl q540 rfl dX6_type_29 rfl rfl h (fun a4 S2 h => ?_)
    refine g_aload_n C (q := 0) dX6_type_32 rfl rfl ?_
    refine g_ogetSI C (ci := 6) (slot := 8) rfl (by decide) inlX6 (by decide) rfl q540 dX6_type_33 h (fun h hLa5 hKa5 => ?_)
    exact g_iret C hQ dX6_type_36 h

abbrev rm_X6_clearText : Room := { frames := 0, cells := 0, slots := 0, locals := 0 }
theorem dsX6_clearText : yX6_clearText.cls = RX6 ∧ yX6_clearText.cls ≠ "java/lang/invoke/MethodHandle" ∧ yX6_clearText.cls ≠ "java/lang/invoke/VarHandle" ∧ (parseMethodDescriptor yX6_clearText.desc).map (fun d => d.parameters.length) = some 0 := by decide +kernel
def f_X6_clearText (S : Hp) (x0 : Nat) : Option (Int32 × Hp) :=
 ob S 6 (some x0) fun _ =>
 bnd ((zI S x0 8)) fun v1 =>
 ob S 6 (some x0) fun a2 => bnd (wI S a2 8 (0 : Int32)) fun S1 =>
 some (v1, S1)
set_option maxHeartbeats 4000000 in
set_option maxRecDepth 100000 in
theorem c_X6_clearText (S : Hp) (x0 : Nat) (o : Int32 × Hp) (h : f_X6_clearText S x0 = some o) : CtI yX6_clearText cX6_clearText 2 (some .int) rm_X6_clearText 0 0 [va_rf (some x0)] S o := by
  refine ct_I (own := RX6) (by decide) rfl (Nat.le_of_ble_eq_true rfl) (fun X C hn hQ => ?_)
  have hn1 : 1 < xn X := by rw [hn]; decide
  unfold f_X6_clearText at h
  show GW X 0 0 S 0 [(0, va_rf (some x0))] []
  refine g_aload_n C (q := 0) dX6_clearText_0 rfl rfl ?_
  refine g_ogetSI C (ci := 6) (slot := 8) rfl (by decide) inlX6 (by decide) rfl q540 dX6_clearText_1 h (fun h hLa1 hKa1 => ?_)
  refine g_nmI h (fun v1 h => ?_)
  refine g_istore_n C (i := 1) (lv' := [(1, .int v1), (0, va_rf (some x0))]) dX6_clearText_4 rfl hn1 (by simp [va_rf_cat, catI, catJ, catD]) ?_
  refine g_aload_n C (q := 1) dX6_clearText_5 rfl rfl ?_
  refine g_iconst C (v := 0) dX6_clearText_6 (by decide) ?_
  refine g_oputI C (ci := 6) (slot := 8) tyX6 tyX6_ok nmX6 rfl (by decide) inlX6 (by decide) rfl q540 rfl dX6_clearText_7 rfl rfl h (fun a2 S1 h => ?_)
  refine g_iload_n C (q := 0) dX6_clearText_10 rfl rfl ?_
  exact g_iret C hQ dX6_clearText_11 h

abbrev rm_X6_isWord : Room := { frames := 0, cells := 0, slots := 0, locals := 0 }
theorem dsX6_isWord : yX6_isWord.cls = RX6 ∧ yX6_isWord.cls ≠ "java/lang/invoke/MethodHandle" ∧ yX6_isWord.cls ≠ "java/lang/invoke/VarHandle" ∧ (parseMethodDescriptor yX6_isWord.desc).map (fun d => d.parameters.length) = some 5 := by decide +kernel
def f_X6_isWord (S : Hp) (x0 : Nat) (x1 : Int32) (x2 : Int32) (x3 : Int32) (x4 : Int32) (x5 : Int32) : Option (Int32 × Hp) :=
 ob S 6 (some x0) fun _ =>
 if (zI S x0 10) = x1 then
 ar S 7 (zR S x0 9) (0 : Int32) fun a2 i1 =>
 if (zI S a2 i1) = x2 then
 ar S 7 (zR S x0 9) (1 : Int32) fun a3 i2 =>
 if (zI S a3 i2) = x3 then
 ar S 7 (zR S x0 9) (2 : Int32) fun a4 i3 =>
 if (zI S a4 i3) = x4 then
 ar S 7 (zR S x0 9) (3 : Int32) fun a5 i4 =>
 if (zI S a5 i4) = x5 then
 some ((1 : Int32), S)
 else
 some ((0 : Int32), S)
 else
 some ((0 : Int32), S)
 else
 some ((0 : Int32), S)
 else
 some ((0 : Int32), S)
 else
 some ((0 : Int32), S)
set_option maxHeartbeats 4000000 in
set_option maxRecDepth 100000 in
theorem c_X6_isWord (S : Hp) (x0 : Nat) (x1 : Int32) (x2 : Int32) (x3 : Int32) (x4 : Int32) (x5 : Int32) (o : Int32 × Hp) (h : f_X6_isWord S x0 x1 x2 x3 x4 x5 = some o) : CtI yX6_isWord cX6_isWord 6 (some .boolean) rm_X6_isWord 0 0 [va_rf (some x0), .int x1, .int x2, .int x3, .int x4, .int x5] S o := by
  refine ct_I (own := RX6) (by decide) rfl (Nat.le_of_ble_eq_true rfl) (fun X C hn hQ => ?_)
  unfold f_X6_isWord at h
  show GW X 0 0 S 0 [(0, va_rf (some x0)), (1, .int x1), (2, .int x2), (3, .int x3), (4, .int x4), (5, .int x5)] []
  refine g_aload_n C (q := 0) dX6_isWord_0 rfl rfl ?_
  refine g_ogetSI C (ci := 6) (slot := 10) rfl (by decide) inlX6 (by decide) rfl q650 dX6_isWord_1 h (fun h hLa1 hKa1 => ?_)
  refine g_iload_n C (q := 1) dX6_isWord_4 rfl rfl ?_
  refine g_icmp_ne C (tgt := 54) dX6_isWord_5 (by decide) h (fun h => ?_) (fun h => ?_)
  · refine g_aload_n C (q := 0) dX6_isWord_8 rfl rfl ?_
    refine g_getER C (ci := 6) (slot := 9) rfl (by decide) inlX6 (by decide) rfl q72 dX6_isWord_9 rfl hLa1 hKa1 ?_
    refine g_iconst C (v := 0) dX6_isWord_12 (by decide) ?_
    refine g_cald C dX6_isWord_13 h (fun a2 i1 h => ?_)
    refine g_iload_n C (q := 2) dX6_isWord_14 rfl rfl ?_
    refine g_icmp_ne C (tgt := 54) dX6_isWord_15 (by decide) h (fun h => ?_) (fun h => ?_)
    · refine g_aload_n C (q := 0) dX6_isWord_18 rfl rfl ?_
      refine g_getER C (ci := 6) (slot := 9) rfl (by decide) inlX6 (by decide) rfl q72 dX6_isWord_19 rfl hLa1 hKa1 ?_
      refine g_iconst C (v := 1) dX6_isWord_22 (by decide) ?_
      refine g_cald C dX6_isWord_23 h (fun a3 i2 h => ?_)
      refine g_iload_n C (q := 3) dX6_isWord_24 rfl rfl ?_
      refine g_icmp_ne C (tgt := 54) dX6_isWord_25 (by decide) h (fun h => ?_) (fun h => ?_)
      · refine g_aload_n C (q := 0) dX6_isWord_28 rfl rfl ?_
        refine g_getER C (ci := 6) (slot := 9) rfl (by decide) inlX6 (by decide) rfl q72 dX6_isWord_29 rfl hLa1 hKa1 ?_
        refine g_iconst C (v := 2) dX6_isWord_32 (by decide) ?_
        refine g_cald C dX6_isWord_33 h (fun a4 i3 h => ?_)
        refine g_iload C (q := 4) dX6_isWord_34 rfl ?_
        refine g_icmp_ne C (tgt := 54) dX6_isWord_36 (by decide) h (fun h => ?_) (fun h => ?_)
        · refine g_aload_n C (q := 0) dX6_isWord_39 rfl rfl ?_
          refine g_getER C (ci := 6) (slot := 9) rfl (by decide) inlX6 (by decide) rfl q72 dX6_isWord_40 rfl hLa1 hKa1 ?_
          refine g_iconst C (v := 3) dX6_isWord_43 (by decide) ?_
          refine g_cald C dX6_isWord_44 h (fun a5 i4 h => ?_)
          refine g_iload C (q := 5) dX6_isWord_45 rfl ?_
          refine g_icmp_ne C (tgt := 54) dX6_isWord_47 (by decide) h (fun h => ?_) (fun h => ?_)
          · refine g_iconst C (v := 1) dX6_isWord_50 (by decide) ?_
            refine g_goto C (tgt := 55) dX6_isWord_51 (by decide) ?_
            exact g_zret C hQ (by decide) dX6_isWord_55 h
          · refine g_iconst C (v := 0) dX6_isWord_54 (by decide) ?_
            exact g_zret C hQ (by decide) dX6_isWord_55 h
        · refine g_iconst C (v := 0) dX6_isWord_54 (by decide) ?_
          exact g_zret C hQ (by decide) dX6_isWord_55 h
      · refine g_iconst C (v := 0) dX6_isWord_54 (by decide) ?_
        exact g_zret C hQ (by decide) dX6_isWord_55 h
    · refine g_iconst C (v := 0) dX6_isWord_54 (by decide) ?_
      exact g_zret C hQ (by decide) dX6_isWord_55 h
  · refine g_iconst C (v := 0) dX6_isWord_54 (by decide) ?_
    exact g_zret C hQ (by decide) dX6_isWord_55 h

abbrev rm_X6_word : Room := { frames := 1, cells := 0, slots := 0, locals := 25 }
theorem dsX6_word : yX6_word.cls = RX6 ∧ yX6_word.cls ≠ "java/lang/invoke/MethodHandle" ∧ yX6_word.cls ≠ "java/lang/invoke/VarHandle" ∧ (parseMethodDescriptor yX6_word.desc).map (fun d => d.parameters.length) = some 0 := by decide +kernel
theorem gv_RX6_X6_isWord : GoodIn wsL_law (wsV RX6 168 RX6 yX6_isWord (.code yX6_isWord cX6_isWord 6 (some .boolean) :: wsL_law)) := good_V q656 q657 q658 q5 q659
def f_X6_word_L5_b (rec : Hp → Nat → Option (Int32 × Hp)) (S : Hp) (x0 : Nat) : Option (Int32 × Hp) :=
 ob S 6 (some x0) fun _ =>
 if (zI S x0 8) ≤ (zI S x0 10) then
 ob S 6 (some x0) fun b1 => cl (f_X6_isWord S b1 (4 : Int32) (98 : Int32) (111 : Int32) (111 : Int32) (107 : Int32)) fun v1 S1 =>
 if v1 = 0 then
 ob S1 6 (some x0) fun b2 => cl (f_X6_isWord S1 b2 (4 : Int32) (108 : Int32) (101 : Int32) (97 : Int32) (100 : Int32)) fun v2 S2 =>
 if v2 = 0 then
 ob S2 6 (some x0) fun b3 => cl (f_X6_isWord S2 b3 (5 : Int32) (108 : Int32) (101 : Int32) (97 : Int32) (118 : Int32)) fun v3 S3 =>
 if v3 = 0 then
 ob S3 6 (some x0) fun b4 => cl (f_X6_isWord S3 b4 (5 : Int32) (109 : Int32) (101 : Int32) (114 : Int32) (103 : Int32)) fun v4 S4 =>
 if v4 = 0 then
 ob S4 6 (some x0) fun b5 => cl (f_X6_isWord S4 b5 (6 : Int32) (99 : Int32) (97 : Int32) (110 : Int32) (99 : Int32)) fun v5 S5 =>
 if v5 = 0 then
 some ((-5 : Int32), S5)
 else
 ob S5 6 (some x0) fun _ =>
 ar S5 7 (zR S5 x0 9) (4 : Int32) fun a3 i1 =>
 if (zI S5 a3 i1) = 101 then
 ar S5 7 (zR S5 x0 9) (5 : Int32) fun a4 i2 =>
 if (zI S5 a4 i2) = 108 then
 some ((3 : Int32), S5)
 else
 some ((-5 : Int32), S5)
 else
 some ((-5 : Int32), S5)
 else
 ob S4 6 (some x0) fun _ =>
 ar S4 7 (zR S4 x0 9) (4 : Int32) fun a6 i3 =>
 if (zI S4 a6 i3) = 101 then
 some ((2 : Int32), S4)
 else
 ob S4 6 (some x0) fun b6 => cl (f_X6_isWord S4 b6 (6 : Int32) (99 : Int32) (97 : Int32) (110 : Int32) (99 : Int32)) fun v6 S6 =>
 if v6 = 0 then
 some ((-5 : Int32), S6)
 else
 ob S6 6 (some x0) fun _ =>
 ar S6 7 (zR S6 x0 9) (4 : Int32) fun a8 i4 =>
 if (zI S6 a8 i4) = 101 then
 ar S6 7 (zR S6 x0 9) (5 : Int32) fun a9 i5 =>
 if (zI S6 a9 i5) = 108 then
 some ((3 : Int32), S6)
 else
 some ((-5 : Int32), S6)
 else
 some ((-5 : Int32), S6)
 else
 ob S3 6 (some x0) fun _ =>
 ar S3 7 (zR S3 x0 9) (4 : Int32) fun a11 i6 =>
 if (zI S3 a11 i6) = 101 then
 some ((1 : Int32), S3)
 else
 ob S3 6 (some x0) fun b7 => cl (f_X6_isWord S3 b7 (5 : Int32) (109 : Int32) (101 : Int32) (114 : Int32) (103 : Int32)) fun v7 S7 =>
 if v7 = 0 then
 ob S7 6 (some x0) fun b8 => cl (f_X6_isWord S7 b8 (6 : Int32) (99 : Int32) (97 : Int32) (110 : Int32) (99 : Int32)) fun v8 S8 =>
 if v8 = 0 then
 some ((-5 : Int32), S8)
 else
 ob S8 6 (some x0) fun _ =>
 ar S8 7 (zR S8 x0 9) (4 : Int32) fun a13 i7 =>
 if (zI S8 a13 i7) = 101 then
 ar S8 7 (zR S8 x0 9) (5 : Int32) fun a14 i8 =>
 if (zI S8 a14 i8) = 108 then
 some ((3 : Int32), S8)
 else
 some ((-5 : Int32), S8)
 else
 some ((-5 : Int32), S8)
 else
 ob S7 6 (some x0) fun _ =>
 ar S7 7 (zR S7 x0 9) (4 : Int32) fun a16 i9 =>
 if (zI S7 a16 i9) = 101 then
 some ((2 : Int32), S7)
 else
 ob S7 6 (some x0) fun b9 => cl (f_X6_isWord S7 b9 (6 : Int32) (99 : Int32) (97 : Int32) (110 : Int32) (99 : Int32)) fun v9 S9 =>
 if v9 = 0 then
 some ((-5 : Int32), S9)
 else
 ob S9 6 (some x0) fun _ =>
 ar S9 7 (zR S9 x0 9) (4 : Int32) fun a18 i10 =>
 if (zI S9 a18 i10) = 101 then
 ar S9 7 (zR S9 x0 9) (5 : Int32) fun a19 i11 =>
 if (zI S9 a19 i11) = 108 then
 some ((3 : Int32), S9)
 else
 some ((-5 : Int32), S9)
 else
 some ((-5 : Int32), S9)
 else
 some ((4 : Int32), S2)
 else
 some ((0 : Int32), S1)
 else
 ar S 7 (zR S x0 9) (zI S x0 10) fun a20 i12 =>
 cl (f_X6_in S (zI S a20 i12) (97 : Int32) (122 : Int32)) fun v10 S10 =>
 if v10 = 0 then
 ob S10 6 (some x0) fun b10 => cl (f_X6_isWord S10 b10 (4 : Int32) (98 : Int32) (111 : Int32) (111 : Int32) (107 : Int32)) fun v11 S11 =>
 if v11 = 0 then
 ob S11 6 (some x0) fun b11 => cl (f_X6_isWord S11 b11 (4 : Int32) (108 : Int32) (101 : Int32) (97 : Int32) (100 : Int32)) fun v12 S12 =>
 if v12 = 0 then
 ob S12 6 (some x0) fun b12 => cl (f_X6_isWord S12 b12 (5 : Int32) (108 : Int32) (101 : Int32) (97 : Int32) (118 : Int32)) fun v13 S13 =>
 if v13 = 0 then
 ob S13 6 (some x0) fun b13 => cl (f_X6_isWord S13 b13 (5 : Int32) (109 : Int32) (101 : Int32) (114 : Int32) (103 : Int32)) fun v14 S14 =>
 if v14 = 0 then
 ob S14 6 (some x0) fun b14 => cl (f_X6_isWord S14 b14 (6 : Int32) (99 : Int32) (97 : Int32) (110 : Int32) (99 : Int32)) fun v15 S15 =>
 if v15 = 0 then
 some ((-5 : Int32), S15)
 else
 ob S15 6 (some x0) fun _ =>
 ar S15 7 (zR S15 x0 9) (4 : Int32) fun a22 i13 =>
 if (zI S15 a22 i13) = 101 then
 ar S15 7 (zR S15 x0 9) (5 : Int32) fun a23 i14 =>
 if (zI S15 a23 i14) = 108 then
 some ((3 : Int32), S15)
 else
 some ((-5 : Int32), S15)
 else
 some ((-5 : Int32), S15)
 else
 ob S14 6 (some x0) fun _ =>
 ar S14 7 (zR S14 x0 9) (4 : Int32) fun a25 i15 =>
 if (zI S14 a25 i15) = 101 then
 some ((2 : Int32), S14)
 else
 ob S14 6 (some x0) fun b15 => cl (f_X6_isWord S14 b15 (6 : Int32) (99 : Int32) (97 : Int32) (110 : Int32) (99 : Int32)) fun v16 S16 =>
 if v16 = 0 then
 some ((-5 : Int32), S16)
 else
 ob S16 6 (some x0) fun _ =>
 ar S16 7 (zR S16 x0 9) (4 : Int32) fun a27 i16 =>
 if (zI S16 a27 i16) = 101 then
 ar S16 7 (zR S16 x0 9) (5 : Int32) fun a28 i17 =>
 if (zI S16 a28 i17) = 108 then
 some ((3 : Int32), S16)
 else
 some ((-5 : Int32), S16)
 else
 some ((-5 : Int32), S16)
 else
 ob S13 6 (some x0) fun _ =>
 ar S13 7 (zR S13 x0 9) (4 : Int32) fun a30 i18 =>
 if (zI S13 a30 i18) = 101 then
 some ((1 : Int32), S13)
 else
 ob S13 6 (some x0) fun b16 => cl (f_X6_isWord S13 b16 (5 : Int32) (109 : Int32) (101 : Int32) (114 : Int32) (103 : Int32)) fun v17 S17 =>
 if v17 = 0 then
 ob S17 6 (some x0) fun b17 => cl (f_X6_isWord S17 b17 (6 : Int32) (99 : Int32) (97 : Int32) (110 : Int32) (99 : Int32)) fun v18 S18 =>
 if v18 = 0 then
 some ((-5 : Int32), S18)
 else
 ob S18 6 (some x0) fun _ =>
 ar S18 7 (zR S18 x0 9) (4 : Int32) fun a32 i19 =>
 if (zI S18 a32 i19) = 101 then
 ar S18 7 (zR S18 x0 9) (5 : Int32) fun a33 i20 =>
 if (zI S18 a33 i20) = 108 then
 some ((3 : Int32), S18)
 else
 some ((-5 : Int32), S18)
 else
 some ((-5 : Int32), S18)
 else
 ob S17 6 (some x0) fun _ =>
 ar S17 7 (zR S17 x0 9) (4 : Int32) fun a35 i21 =>
 if (zI S17 a35 i21) = 101 then
 some ((2 : Int32), S17)
 else
 ob S17 6 (some x0) fun b18 => cl (f_X6_isWord S17 b18 (6 : Int32) (99 : Int32) (97 : Int32) (110 : Int32) (99 : Int32)) fun v19 S19 =>
 if v19 = 0 then
 some ((-5 : Int32), S19)
 else
 ob S19 6 (some x0) fun _ =>
 ar S19 7 (zR S19 x0 9) (4 : Int32) fun a37 i22 =>
 if (zI S19 a37 i22) = 101 then
 ar S19 7 (zR S19 x0 9) (5 : Int32) fun a38 i23 =>
 if (zI S19 a38 i23) = 108 then
 some ((3 : Int32), S19)
 else
 some ((-5 : Int32), S19)
 else
 some ((-5 : Int32), S19)
 else
 some ((4 : Int32), S12)
 else
 some ((0 : Int32), S11)
 else
 ob S10 6 (some x0) fun _ =>
 ob S10 6 (some x0) fun a40 => bnd (wI S10 a40 10 ((zI S10 x0 10) + 1)) fun S20 =>
 rec S20 x0
def f_X6_word_L5 : Nat → Hp → Nat → Option (Int32 × Hp)
  | 0 => fun _ _ => none
  | n + 1 => f_X6_word_L5_b (f_X6_word_L5 n)
def f_X6_word (S : Hp) (x0 : Nat) : Option (Int32 × Hp) :=
 ob S 6 (some x0) fun a1 => bnd (wI S a1 10 (0 : Int32)) fun S1 =>
 f_X6_word_L5 1000 S1 x0
set_option maxHeartbeats 4000000 in
set_option maxRecDepth 100000 in
theorem w_X6_word_L5 {X : Cx} (C : CxOK X cX6_word RX6 rm_X6_word) (hn : xn X = 1) {S0 : Hp} {o : Int32 × Hp} (hQ : QI X (some .int) S0 0 0 o) : ∀ (fuel : Nat) (S : Hp) (x0 : Nat), f_X6_word_L5 fuel S x0 = some o → GW X 0 0 S 5 [(0, va_rf (some x0))] [] := by
  intro fuel
  induction fuel with
  | zero => intro S x0 h; cases (show none = some o from h)
  | succ fuel ih =>
    intro S x0 h
    have h : f_X6_word_L5_b (f_X6_word_L5 fuel) S x0 = some o := h
    unfold f_X6_word_L5_b at h
    refine g_aload_n C (q := 0) dX6_word_5 rfl rfl ?_
    refine g_ogetSI C (ci := 6) (slot := 10) rfl (by decide) inlX6 (by decide) rfl q650 dX6_word_6 h (fun h hLa1 hKa1 => ?_)
    refine g_aload_n C (q := 0) dX6_word_9 rfl rfl ?_
    refine g_getEI C (ci := 6) (slot := 8) rfl (by decide) inlX6 (by decide) rfl q540 dX6_word_10 rfl hLa1 hKa1 ?_
    refine g_icmp_ge C (tgt := 48) dX6_word_13 (by decide) h (fun h => ?_) (fun h => ?_)
    · refine g_aload_n C (q := 0) dX6_word_48 rfl rfl ?_
      refine g_iconst C (v := 4) dX6_word_49 (by decide) ?_
      refine g_bipush C (v := 98) dX6_word_50 (by decide) ?_
      refine g_bipush C (v := 111) dX6_word_52 (by decide) ?_
      refine g_bipush C (v := 111) dX6_word_54 (by decide) ?_
      refine g_bipush C (v := 107) dX6_word_56 (by decide) ?_
      refine g_callVI C (ci := 6) (As := [.int 4, .int 98, .int 111, .int 111, .int 107]) (np := 5) (st := []) (r := (some x0)) rfl (by decide) (fun b1 q hq => c_X6_isWord S b1 (4 : Int32) (98 : Int32) (111 : Int32) (111 : Int32) (107 : Int32) q hq) gv_RX6_X6_isWord rfl rfl dsX6_isWord rfl ⟨Nat.le_of_ble_eq_true rfl, Nat.le_of_ble_eq_true rfl⟩ rfl (cat_sum (Nat.le_of_ble_eq_true rfl)) ⟨Nat.zero_le _, Nat.zero_le _⟩ dX6_word_58 h (fun v1 S1 h => ?_)
      refine g_if_eq C (tgt := 66) dX6_word_61 (by decide) h (fun h => ?_) (fun h => ?_)
      · refine g_aload_n C (q := 0) dX6_word_66 rfl rfl ?_
        refine g_iconst C (v := 4) dX6_word_67 (by decide) ?_
        refine g_bipush C (v := 108) dX6_word_68 (by decide) ?_
        refine g_bipush C (v := 101) dX6_word_70 (by decide) ?_
        refine g_bipush C (v := 97) dX6_word_72 (by decide) ?_
        refine g_bipush C (v := 100) dX6_word_74 (by decide) ?_
        refine g_callVI C (ci := 6) (As := [.int 4, .int 108, .int 101, .int 97, .int 100]) (np := 5) (st := []) (r := (some x0)) rfl (by decide) (fun b2 q hq => c_X6_isWord S1 b2 (4 : Int32) (108 : Int32) (101 : Int32) (97 : Int32) (100 : Int32) q hq) gv_RX6_X6_isWord rfl rfl dsX6_isWord rfl ⟨Nat.le_of_ble_eq_true rfl, Nat.le_of_ble_eq_true rfl⟩ rfl (cat_sum (Nat.le_of_ble_eq_true rfl)) ⟨Nat.zero_le _, Nat.zero_le _⟩ dX6_word_76 h (fun v2 S2 h => ?_)
        refine g_if_eq C (tgt := 84) dX6_word_79 (by decide) h (fun h => ?_) (fun h => ?_)
        · refine g_aload_n C (q := 0) dX6_word_84 rfl rfl ?_
          refine g_iconst C (v := 5) dX6_word_85 (by decide) ?_
          refine g_bipush C (v := 108) dX6_word_86 (by decide) ?_
          refine g_bipush C (v := 101) dX6_word_88 (by decide) ?_
          refine g_bipush C (v := 97) dX6_word_90 (by decide) ?_
          refine g_bipush C (v := 118) dX6_word_92 (by decide) ?_
          refine g_callVI C (ci := 6) (As := [.int 5, .int 108, .int 101, .int 97, .int 118]) (np := 5) (st := []) (r := (some x0)) rfl (by decide) (fun b3 q hq => c_X6_isWord S2 b3 (5 : Int32) (108 : Int32) (101 : Int32) (97 : Int32) (118 : Int32) q hq) gv_RX6_X6_isWord rfl rfl dsX6_isWord rfl ⟨Nat.le_of_ble_eq_true rfl, Nat.le_of_ble_eq_true rfl⟩ rfl (cat_sum (Nat.le_of_ble_eq_true rfl)) ⟨Nat.zero_le _, Nat.zero_le _⟩ dX6_word_94 h (fun v3 S3 h => ?_)
          refine g_if_eq C (tgt := 113) dX6_word_97 (by decide) h (fun h => ?_) (fun h => ?_)
          · refine g_aload_n C (q := 0) dX6_word_113 rfl rfl ?_
            refine g_iconst C (v := 5) dX6_word_114 (by decide) ?_
            refine g_bipush C (v := 109) dX6_word_115 (by decide) ?_
            refine g_bipush C (v := 101) dX6_word_117 (by decide) ?_
            refine g_bipush C (v := 114) dX6_word_119 (by decide) ?_
            refine g_bipush C (v := 103) dX6_word_121 (by decide) ?_
            refine g_callVI C (ci := 6) (As := [.int 5, .int 109, .int 101, .int 114, .int 103]) (np := 5) (st := []) (r := (some x0)) rfl (by decide) (fun b4 q hq => c_X6_isWord S3 b4 (5 : Int32) (109 : Int32) (101 : Int32) (114 : Int32) (103 : Int32) q hq) gv_RX6_X6_isWord rfl rfl dsX6_isWord rfl ⟨Nat.le_of_ble_eq_true rfl, Nat.le_of_ble_eq_true rfl⟩ rfl (cat_sum (Nat.le_of_ble_eq_true rfl)) ⟨Nat.zero_le _, Nat.zero_le _⟩ dX6_word_123 h (fun v4 S4 h => ?_)
            refine g_if_eq C (tgt := 142) dX6_word_126 (by decide) h (fun h => ?_) (fun h => ?_)
            · refine g_aload_n C (q := 0) dX6_word_142 rfl rfl ?_
              refine g_bipush C (v := 6) dX6_word_143 (by decide) ?_
              refine g_bipush C (v := 99) dX6_word_145 (by decide) ?_
              refine g_bipush C (v := 97) dX6_word_147 (by decide) ?_
              refine g_bipush C (v := 110) dX6_word_149 (by decide) ?_
              refine g_bipush C (v := 99) dX6_word_151 (by decide) ?_
              refine g_callVI C (ci := 6) (As := [.int 6, .int 99, .int 97, .int 110, .int 99]) (np := 5) (st := []) (r := (some x0)) rfl (by decide) (fun b5 q hq => c_X6_isWord S4 b5 (6 : Int32) (99 : Int32) (97 : Int32) (110 : Int32) (99 : Int32) q hq) gv_RX6_X6_isWord rfl rfl dsX6_isWord rfl ⟨Nat.le_of_ble_eq_true rfl, Nat.le_of_ble_eq_true rfl⟩ rfl (cat_sum (Nat.le_of_ble_eq_true rfl)) ⟨Nat.zero_le _, Nat.zero_le _⟩ dX6_word_153 h (fun v5 S5 h => ?_)
              refine g_if_eq C (tgt := 185) dX6_word_156 (by decide) h (fun h => ?_) (fun h => ?_)
              · refine g_bipush C (v := (-5)) dX6_word_185 (by decide) ?_
                exact g_iret C hQ dX6_word_187 h
              · refine g_aload_n C (q := 0) dX6_word_159 rfl rfl ?_
                refine g_ogetSR C (ci := 6) (slot := 9) rfl (by decide) inlX6 (by decide) rfl q72 dX6_word_160 h (fun h hLa2 hKa2 => ?_)
                refine g_iconst C (v := 4) dX6_word_163 (by decide) ?_
                refine g_cald C dX6_word_164 h (fun a3 i1 h => ?_)
                refine g_bipush C (v := 101) dX6_word_165 (by decide) ?_
                refine g_icmp_ne C (tgt := 185) dX6_word_167 (by decide) h (fun h => ?_) (fun h => ?_)
                · refine g_aload_n C (q := 0) dX6_word_170 rfl rfl ?_
                  refine g_getER C (ci := 6) (slot := 9) rfl (by decide) inlX6 (by decide) rfl q72 dX6_word_171 rfl hLa2 hKa2 ?_
                  refine g_iconst C (v := 5) dX6_word_174 (by decide) ?_
                  refine g_cald C dX6_word_175 h (fun a4 i2 h => ?_)
                  refine g_bipush C (v := 108) dX6_word_176 (by decide) ?_
                  refine g_icmp_ne C (tgt := 185) dX6_word_178 (by decide) h (fun h => ?_) (fun h => ?_)
                  · refine g_iconst C (v := 3) dX6_word_181 (by decide) ?_
                    refine g_goto C (tgt := 187) dX6_word_182 (by decide) ?_
                    exact g_iret C hQ dX6_word_187 h
                  · refine g_bipush C (v := (-5)) dX6_word_185 (by decide) ?_
                    exact g_iret C hQ dX6_word_187 h
                · refine g_bipush C (v := (-5)) dX6_word_185 (by decide) ?_
                  exact g_iret C hQ dX6_word_187 h
            · refine g_aload_n C (q := 0) dX6_word_129 rfl rfl ?_
              refine g_ogetSR C (ci := 6) (slot := 9) rfl (by decide) inlX6 (by decide) rfl q72 dX6_word_130 h (fun h hLa5 hKa5 => ?_)
              refine g_iconst C (v := 4) dX6_word_133 (by decide) ?_
              refine g_cald C dX6_word_134 h (fun a6 i3 h => ?_)
              refine g_bipush C (v := 101) dX6_word_135 (by decide) ?_
              refine g_icmp_ne C (tgt := 142) dX6_word_137 (by decide) h (fun h => ?_) (fun h => ?_)
              · refine g_iconst C (v := 2) dX6_word_140 (by decide) ?_
                exact g_iret C hQ dX6_word_141 h
              · refine g_aload_n C (q := 0) dX6_word_142 rfl rfl ?_
                refine g_bipush C (v := 6) dX6_word_143 (by decide) ?_
                refine g_bipush C (v := 99) dX6_word_145 (by decide) ?_
                refine g_bipush C (v := 97) dX6_word_147 (by decide) ?_
                refine g_bipush C (v := 110) dX6_word_149 (by decide) ?_
                refine g_bipush C (v := 99) dX6_word_151 (by decide) ?_
                refine g_callVI C (ci := 6) (As := [.int 6, .int 99, .int 97, .int 110, .int 99]) (np := 5) (st := []) (r := (some x0)) rfl (by decide) (fun b6 q hq => c_X6_isWord S4 b6 (6 : Int32) (99 : Int32) (97 : Int32) (110 : Int32) (99 : Int32) q hq) gv_RX6_X6_isWord rfl rfl dsX6_isWord rfl ⟨Nat.le_of_ble_eq_true rfl, Nat.le_of_ble_eq_true rfl⟩ rfl (cat_sum (Nat.le_of_ble_eq_true rfl)) ⟨Nat.zero_le _, Nat.zero_le _⟩ dX6_word_153 h (fun v6 S6 h => ?_)
                refine g_if_eq C (tgt := 185) dX6_word_156 (by decide) h (fun h => ?_) (fun h => ?_)
                · refine g_bipush C (v := (-5)) dX6_word_185 (by decide) ?_
                  exact g_iret C hQ dX6_word_187 h
                · refine g_aload_n C (q := 0) dX6_word_159 rfl rfl ?_
                  refine g_ogetSR C (ci := 6) (slot := 9) rfl (by decide) inlX6 (by decide) rfl q72 dX6_word_160 h (fun h hLa7 hKa7 => ?_)
                  refine g_iconst C (v := 4) dX6_word_163 (by decide) ?_
                  refine g_cald C dX6_word_164 h (fun a8 i4 h => ?_)
                  refine g_bipush C (v := 101) dX6_word_165 (by decide) ?_
                  refine g_icmp_ne C (tgt := 185) dX6_word_167 (by decide) h (fun h => ?_) (fun h => ?_)
                  · refine g_aload_n C (q := 0) dX6_word_170 rfl rfl ?_
                    refine g_getER C (ci := 6) (slot := 9) rfl (by decide) inlX6 (by decide) rfl q72 dX6_word_171 rfl hLa7 hKa7 ?_
                    refine g_iconst C (v := 5) dX6_word_174 (by decide) ?_
                    refine g_cald C dX6_word_175 h (fun a9 i5 h => ?_)
                    refine g_bipush C (v := 108) dX6_word_176 (by decide) ?_
                    refine g_icmp_ne C (tgt := 185) dX6_word_178 (by decide) h (fun h => ?_) (fun h => ?_)
                    · refine g_iconst C (v := 3) dX6_word_181 (by decide) ?_
                      refine g_goto C (tgt := 187) dX6_word_182 (by decide) ?_
                      exact g_iret C hQ dX6_word_187 h
                    · refine g_bipush C (v := (-5)) dX6_word_185 (by decide) ?_
                      exact g_iret C hQ dX6_word_187 h
                  · refine g_bipush C (v := (-5)) dX6_word_185 (by decide) ?_
                    exact g_iret C hQ dX6_word_187 h
          · refine g_aload_n C (q := 0) dX6_word_100 rfl rfl ?_
            refine g_ogetSR C (ci := 6) (slot := 9) rfl (by decide) inlX6 (by decide) rfl q72 dX6_word_101 h (fun h hLa10 hKa10 => ?_)
            refine g_iconst C (v := 4) dX6_word_104 (by decide) ?_
            refine g_cald C dX6_word_105 h (fun a11 i6 h => ?_)
            refine g_bipush C (v := 101) dX6_word_106 (by decide) ?_
            refine g_icmp_ne C (tgt := 113) dX6_word_108 (by decide) h (fun h => ?_) (fun h => ?_)
            · refine g_iconst C (v := 1) dX6_word_111 (by decide) ?_
              exact g_iret C hQ dX6_word_112 h
            · refine g_aload_n C (q := 0) dX6_word_113 rfl rfl ?_
              refine g_iconst C (v := 5) dX6_word_114 (by decide) ?_
              refine g_bipush C (v := 109) dX6_word_115 (by decide) ?_
              refine g_bipush C (v := 101) dX6_word_117 (by decide) ?_
              refine g_bipush C (v := 114) dX6_word_119 (by decide) ?_
              refine g_bipush C (v := 103) dX6_word_121 (by decide) ?_
              refine g_callVI C (ci := 6) (As := [.int 5, .int 109, .int 101, .int 114, .int 103]) (np := 5) (st := []) (r := (some x0)) rfl (by decide) (fun b7 q hq => c_X6_isWord S3 b7 (5 : Int32) (109 : Int32) (101 : Int32) (114 : Int32) (103 : Int32) q hq) gv_RX6_X6_isWord rfl rfl dsX6_isWord rfl ⟨Nat.le_of_ble_eq_true rfl, Nat.le_of_ble_eq_true rfl⟩ rfl (cat_sum (Nat.le_of_ble_eq_true rfl)) ⟨Nat.zero_le _, Nat.zero_le _⟩ dX6_word_123 h (fun v7 S7 h => ?_)
              refine g_if_eq C (tgt := 142) dX6_word_126 (by decide) h (fun h => ?_) (fun h => ?_)
              · refine g_aload_n C (q := 0) dX6_word_142 rfl rfl ?_
                refine g_bipush C (v := 6) dX6_word_143 (by decide) ?_
                refine g_bipush C (v := 99) dX6_word_145 (by decide) ?_
                refine g_bipush C (v := 97) dX6_word_147 (by decide) ?_
                refine g_bipush C (v := 110) dX6_word_149 (by decide) ?_
                refine g_bipush C (v := 99) dX6_word_151 (by decide) ?_
                refine g_callVI C (ci := 6) (As := [.int 6, .int 99, .int 97, .int 110, .int 99]) (np := 5) (st := []) (r := (some x0)) rfl (by decide) (fun b8 q hq => c_X6_isWord S7 b8 (6 : Int32) (99 : Int32) (97 : Int32) (110 : Int32) (99 : Int32) q hq) gv_RX6_X6_isWord rfl rfl dsX6_isWord rfl ⟨Nat.le_of_ble_eq_true rfl, Nat.le_of_ble_eq_true rfl⟩ rfl (cat_sum (Nat.le_of_ble_eq_true rfl)) ⟨Nat.zero_le _, Nat.zero_le _⟩ dX6_word_153 h (fun v8 S8 h => ?_)
                refine g_if_eq C (tgt := 185) dX6_word_156 (by decide) h (fun h => ?_) (fun h => ?_)
                · refine g_bipush C (v := (-5)) dX6_word_185 (by decide) ?_
                  exact g_iret C hQ dX6_word_187 h
                · refine g_aload_n C (q := 0) dX6_word_159 rfl rfl ?_
                  refine g_ogetSR C (ci := 6) (slot := 9) rfl (by decide) inlX6 (by decide) rfl q72 dX6_word_160 h (fun h hLa12 hKa12 => ?_)
                  refine g_iconst C (v := 4) dX6_word_163 (by decide) ?_
                  refine g_cald C dX6_word_164 h (fun a13 i7 h => ?_)
                  refine g_bipush C (v := 101) dX6_word_165 (by decide) ?_
                  refine g_icmp_ne C (tgt := 185) dX6_word_167 (by decide) h (fun h => ?_) (fun h => ?_)
                  · refine g_aload_n C (q := 0) dX6_word_170 rfl rfl ?_
                    refine g_getER C (ci := 6) (slot := 9) rfl (by decide) inlX6 (by decide) rfl q72 dX6_word_171 rfl hLa12 hKa12 ?_
                    refine g_iconst C (v := 5) dX6_word_174 (by decide) ?_
                    refine g_cald C dX6_word_175 h (fun a14 i8 h => ?_)
                    refine g_bipush C (v := 108) dX6_word_176 (by decide) ?_
                    refine g_icmp_ne C (tgt := 185) dX6_word_178 (by decide) h (fun h => ?_) (fun h => ?_)
                    · refine g_iconst C (v := 3) dX6_word_181 (by decide) ?_
                      refine g_goto C (tgt := 187) dX6_word_182 (by decide) ?_
                      exact g_iret C hQ dX6_word_187 h
                    · refine g_bipush C (v := (-5)) dX6_word_185 (by decide) ?_
                      exact g_iret C hQ dX6_word_187 h
                  · refine g_bipush C (v := (-5)) dX6_word_185 (by decide) ?_
                    exact g_iret C hQ dX6_word_187 h
              · refine g_aload_n C (q := 0) dX6_word_129 rfl rfl ?_
                refine g_ogetSR C (ci := 6) (slot := 9) rfl (by decide) inlX6 (by decide) rfl q72 dX6_word_130 h (fun h hLa15 hKa15 => ?_)
                refine g_iconst C (v := 4) dX6_word_133 (by decide) ?_
                refine g_cald C dX6_word_134 h (fun a16 i9 h => ?_)
                refine g_bipush C (v := 101) dX6_word_135 (by decide) ?_
                refine g_icmp_ne C (tgt := 142) dX6_word_137 (by decide) h (fun h => ?_) (fun h => ?_)
                · refine g_iconst C (v := 2) dX6_word_140 (by decide) ?_
                  exact g_iret C hQ dX6_word_141 h
                · refine g_aload_n C (q := 0) dX6_word_142 rfl rfl ?_
                  refine g_bipush C (v := 6) dX6_word_143 (by decide) ?_
                  refine g_bipush C (v := 99) dX6_word_145 (by decide) ?_
                  refine g_bipush C (v := 97) dX6_word_147 (by decide) ?_
                  refine g_bipush C (v := 110) dX6_word_149 (by decide) ?_
                  refine g_bipush C (v := 99) dX6_word_151 (by decide) ?_
                  refine g_callVI C (ci := 6) (As := [.int 6, .int 99, .int 97, .int 110, .int 99]) (np := 5) (st := []) (r := (some x0)) rfl (by decide) (fun b9 q hq => c_X6_isWord S7 b9 (6 : Int32) (99 : Int32) (97 : Int32) (110 : Int32) (99 : Int32) q hq) gv_RX6_X6_isWord rfl rfl dsX6_isWord rfl ⟨Nat.le_of_ble_eq_true rfl, Nat.le_of_ble_eq_true rfl⟩ rfl (cat_sum (Nat.le_of_ble_eq_true rfl)) ⟨Nat.zero_le _, Nat.zero_le _⟩ dX6_word_153 h (fun v9 S9 h => ?_)
                  refine g_if_eq C (tgt := 185) dX6_word_156 (by decide) h (fun h => ?_) (fun h => ?_)
                  · refine g_bipush C (v := (-5)) dX6_word_185 (by decide) ?_
                    exact g_iret C hQ dX6_word_187 h
                  · refine g_aload_n C (q := 0) dX6_word_159 rfl rfl ?_
                    refine g_ogetSR C (ci := 6) (slot := 9) rfl (by decide) inlX6 (by decide) rfl q72 dX6_word_160 h (fun h hLa17 hKa17 => ?_)
                    refine g_iconst C (v := 4) dX6_word_163 (by decide) ?_
                    refine g_cald C dX6_word_164 h (fun a18 i10 h => ?_)
                    refine g_bipush C (v := 101) dX6_word_165 (by decide) ?_
                    refine g_icmp_ne C (tgt := 185) dX6_word_167 (by decide) h (fun h => ?_) (fun h => ?_)
                    · refine g_aload_n C (q := 0) dX6_word_170 rfl rfl ?_
                      refine g_getER C (ci := 6) (slot := 9) rfl (by decide) inlX6 (by decide) rfl q72 dX6_word_171 rfl hLa17 hKa17 ?_
                      refine g_iconst C (v := 5) dX6_word_174 (by decide) ?_
                      refine g_cald C dX6_word_175 h (fun a19 i11 h => ?_)
                      refine g_bipush C (v := 108) dX6_word_176 (by decide) ?_
                      refine g_icmp_ne C (tgt := 185) dX6_word_178 (by decide) h (fun h => ?_) (fun h => ?_)
                      · refine g_iconst C (v := 3) dX6_word_181 (by decide) ?_
                        refine g_goto C (tgt := 187) dX6_word_182 (by decide) ?_
                        exact g_iret C hQ dX6_word_187 h
                      · refine g_bipush C (v := (-5)) dX6_word_185 (by decide) ?_
                        exact g_iret C hQ dX6_word_187 h
                    · refine g_bipush C (v := (-5)) dX6_word_185 (by decide) ?_
                      exact g_iret C hQ dX6_word_187 h
        · refine g_iconst C (v := 4) dX6_word_82 (by decide) ?_
          exact g_iret C hQ dX6_word_83 h
      · refine g_iconst C (v := 0) dX6_word_64 (by decide) ?_
        exact g_iret C hQ dX6_word_65 h
    · refine g_aload_n C (q := 0) dX6_word_16 rfl rfl ?_
      refine g_getER C (ci := 6) (slot := 9) rfl (by decide) inlX6 (by decide) rfl q72 dX6_word_17 rfl hLa1 hKa1 ?_
      refine g_aload_n C (q := 0) dX6_word_20 rfl rfl ?_
      refine g_getEI C (ci := 6) (slot := 10) rfl (by decide) inlX6 (by decide) rfl q650 dX6_word_21 rfl hLa1 hKa1 ?_
      refine g_cald C dX6_word_24 h (fun a20 i12 h => ?_)
      refine g_bipush C (v := 97) dX6_word_25 (by decide) ?_
      refine g_bipush C (v := 122) dX6_word_27 (by decide) ?_
      refine g_callSI C (As := [.int (zI S a20 i12), .int 97, .int 122]) (np := 3) (st := []) (fun q hq => c_X6_in S (zI S a20 i12) (97 : Int32) (122 : Int32) q hq) gs_RX6_X6_in rfl rfl dsX6_in rfl ⟨Nat.le_of_ble_eq_true rfl, Nat.le_of_ble_eq_true rfl⟩ rfl (cat_sum (Nat.le_of_ble_eq_true rfl)) ⟨Nat.zero_le _, Nat.zero_le _⟩ dX6_word_29 h (fun v10 S10 h => ?_)
      refine g_if_eq C (tgt := 48) dX6_word_32 (by decide) h (fun h => ?_) (fun h => ?_)
      · refine g_aload_n C (q := 0) dX6_word_48 rfl rfl ?_
        refine g_iconst C (v := 4) dX6_word_49 (by decide) ?_
        refine g_bipush C (v := 98) dX6_word_50 (by decide) ?_
        refine g_bipush C (v := 111) dX6_word_52 (by decide) ?_
        refine g_bipush C (v := 111) dX6_word_54 (by decide) ?_
        refine g_bipush C (v := 107) dX6_word_56 (by decide) ?_
        refine g_callVI C (ci := 6) (As := [.int 4, .int 98, .int 111, .int 111, .int 107]) (np := 5) (st := []) (r := (some x0)) rfl (by decide) (fun b10 q hq => c_X6_isWord S10 b10 (4 : Int32) (98 : Int32) (111 : Int32) (111 : Int32) (107 : Int32) q hq) gv_RX6_X6_isWord rfl rfl dsX6_isWord rfl ⟨Nat.le_of_ble_eq_true rfl, Nat.le_of_ble_eq_true rfl⟩ rfl (cat_sum (Nat.le_of_ble_eq_true rfl)) ⟨Nat.zero_le _, Nat.zero_le _⟩ dX6_word_58 h (fun v11 S11 h => ?_)
        refine g_if_eq C (tgt := 66) dX6_word_61 (by decide) h (fun h => ?_) (fun h => ?_)
        · refine g_aload_n C (q := 0) dX6_word_66 rfl rfl ?_
          refine g_iconst C (v := 4) dX6_word_67 (by decide) ?_
          refine g_bipush C (v := 108) dX6_word_68 (by decide) ?_
          refine g_bipush C (v := 101) dX6_word_70 (by decide) ?_
          refine g_bipush C (v := 97) dX6_word_72 (by decide) ?_
          refine g_bipush C (v := 100) dX6_word_74 (by decide) ?_
          refine g_callVI C (ci := 6) (As := [.int 4, .int 108, .int 101, .int 97, .int 100]) (np := 5) (st := []) (r := (some x0)) rfl (by decide) (fun b11 q hq => c_X6_isWord S11 b11 (4 : Int32) (108 : Int32) (101 : Int32) (97 : Int32) (100 : Int32) q hq) gv_RX6_X6_isWord rfl rfl dsX6_isWord rfl ⟨Nat.le_of_ble_eq_true rfl, Nat.le_of_ble_eq_true rfl⟩ rfl (cat_sum (Nat.le_of_ble_eq_true rfl)) ⟨Nat.zero_le _, Nat.zero_le _⟩ dX6_word_76 h (fun v12 S12 h => ?_)
          refine g_if_eq C (tgt := 84) dX6_word_79 (by decide) h (fun h => ?_) (fun h => ?_)
          · refine g_aload_n C (q := 0) dX6_word_84 rfl rfl ?_
            refine g_iconst C (v := 5) dX6_word_85 (by decide) ?_
            refine g_bipush C (v := 108) dX6_word_86 (by decide) ?_
            refine g_bipush C (v := 101) dX6_word_88 (by decide) ?_
            refine g_bipush C (v := 97) dX6_word_90 (by decide) ?_
            refine g_bipush C (v := 118) dX6_word_92 (by decide) ?_
            refine g_callVI C (ci := 6) (As := [.int 5, .int 108, .int 101, .int 97, .int 118]) (np := 5) (st := []) (r := (some x0)) rfl (by decide) (fun b12 q hq => c_X6_isWord S12 b12 (5 : Int32) (108 : Int32) (101 : Int32) (97 : Int32) (118 : Int32) q hq) gv_RX6_X6_isWord rfl rfl dsX6_isWord rfl ⟨Nat.le_of_ble_eq_true rfl, Nat.le_of_ble_eq_true rfl⟩ rfl (cat_sum (Nat.le_of_ble_eq_true rfl)) ⟨Nat.zero_le _, Nat.zero_le _⟩ dX6_word_94 h (fun v13 S13 h => ?_)
            refine g_if_eq C (tgt := 113) dX6_word_97 (by decide) h (fun h => ?_) (fun h => ?_)
            · refine g_aload_n C (q := 0) dX6_word_113 rfl rfl ?_
              refine g_iconst C (v := 5) dX6_word_114 (by decide) ?_
              refine g_bipush C (v := 109) dX6_word_115 (by decide) ?_
              refine g_bipush C (v := 101) dX6_word_117 (by decide) ?_
              refine g_bipush C (v := 114) dX6_word_119 (by decide) ?_
              refine g_bipush C (v := 103) dX6_word_121 (by decide) ?_
              refine g_callVI C (ci := 6) (As := [.int 5, .int 109, .int 101, .int 114, .int 103]) (np := 5) (st := []) (r := (some x0)) rfl (by decide) (fun b13 q hq => c_X6_isWord S13 b13 (5 : Int32) (109 : Int32) (101 : Int32) (114 : Int32) (103 : Int32) q hq) gv_RX6_X6_isWord rfl rfl dsX6_isWord rfl ⟨Nat.le_of_ble_eq_true rfl, Nat.le_of_ble_eq_true rfl⟩ rfl (cat_sum (Nat.le_of_ble_eq_true rfl)) ⟨Nat.zero_le _, Nat.zero_le _⟩ dX6_word_123 h (fun v14 S14 h => ?_)
              refine g_if_eq C (tgt := 142) dX6_word_126 (by decide) h (fun h => ?_) (fun h => ?_)
              · refine g_aload_n C (q := 0) dX6_word_142 rfl rfl ?_
                refine g_bipush C (v := 6) dX6_word_143 (by decide) ?_
                refine g_bipush C (v := 99) dX6_word_145 (by decide) ?_
                refine g_bipush C (v := 97) dX6_word_147 (by decide) ?_
                refine g_bipush C (v := 110) dX6_word_149 (by decide) ?_
                refine g_bipush C (v := 99) dX6_word_151 (by decide) ?_
                refine g_callVI C (ci := 6) (As := [.int 6, .int 99, .int 97, .int 110, .int 99]) (np := 5) (st := []) (r := (some x0)) rfl (by decide) (fun b14 q hq => c_X6_isWord S14 b14 (6 : Int32) (99 : Int32) (97 : Int32) (110 : Int32) (99 : Int32) q hq) gv_RX6_X6_isWord rfl rfl dsX6_isWord rfl ⟨Nat.le_of_ble_eq_true rfl, Nat.le_of_ble_eq_true rfl⟩ rfl (cat_sum (Nat.le_of_ble_eq_true rfl)) ⟨Nat.zero_le _, Nat.zero_le _⟩ dX6_word_153 h (fun v15 S15 h => ?_)
                refine g_if_eq C (tgt := 185) dX6_word_156 (by decide) h (fun h => ?_) (fun h => ?_)
                · refine g_bipush C (v := (-5)) dX6_word_185 (by decide) ?_
                  exact g_iret C hQ dX6_word_187 h
                · refine g_aload_n C (q := 0) dX6_word_159 rfl rfl ?_
                  refine g_ogetSR C (ci := 6) (slot := 9) rfl (by decide) inlX6 (by decide) rfl q72 dX6_word_160 h (fun h hLa21 hKa21 => ?_)
                  refine g_iconst C (v := 4) dX6_word_163 (by decide) ?_
                  refine g_cald C dX6_word_164 h (fun a22 i13 h => ?_)
                  refine g_bipush C (v := 101) dX6_word_165 (by decide) ?_
                  refine g_icmp_ne C (tgt := 185) dX6_word_167 (by decide) h (fun h => ?_) (fun h => ?_)
                  · refine g_aload_n C (q := 0) dX6_word_170 rfl rfl ?_
                    refine g_getER C (ci := 6) (slot := 9) rfl (by decide) inlX6 (by decide) rfl q72 dX6_word_171 rfl hLa21 hKa21 ?_
                    refine g_iconst C (v := 5) dX6_word_174 (by decide) ?_
                    refine g_cald C dX6_word_175 h (fun a23 i14 h => ?_)
                    refine g_bipush C (v := 108) dX6_word_176 (by decide) ?_
                    refine g_icmp_ne C (tgt := 185) dX6_word_178 (by decide) h (fun h => ?_) (fun h => ?_)
                    · refine g_iconst C (v := 3) dX6_word_181 (by decide) ?_
                      refine g_goto C (tgt := 187) dX6_word_182 (by decide) ?_
                      exact g_iret C hQ dX6_word_187 h
                    · refine g_bipush C (v := (-5)) dX6_word_185 (by decide) ?_
                      exact g_iret C hQ dX6_word_187 h
                  · refine g_bipush C (v := (-5)) dX6_word_185 (by decide) ?_
                    exact g_iret C hQ dX6_word_187 h
              · refine g_aload_n C (q := 0) dX6_word_129 rfl rfl ?_
                refine g_ogetSR C (ci := 6) (slot := 9) rfl (by decide) inlX6 (by decide) rfl q72 dX6_word_130 h (fun h hLa24 hKa24 => ?_)
                refine g_iconst C (v := 4) dX6_word_133 (by decide) ?_
                refine g_cald C dX6_word_134 h (fun a25 i15 h => ?_)
                refine g_bipush C (v := 101) dX6_word_135 (by decide) ?_
                refine g_icmp_ne C (tgt := 142) dX6_word_137 (by decide) h (fun h => ?_) (fun h => ?_)
                · refine g_iconst C (v := 2) dX6_word_140 (by decide) ?_
                  exact g_iret C hQ dX6_word_141 h
                · refine g_aload_n C (q := 0) dX6_word_142 rfl rfl ?_
                  refine g_bipush C (v := 6) dX6_word_143 (by decide) ?_
                  refine g_bipush C (v := 99) dX6_word_145 (by decide) ?_
                  refine g_bipush C (v := 97) dX6_word_147 (by decide) ?_
                  refine g_bipush C (v := 110) dX6_word_149 (by decide) ?_
                  refine g_bipush C (v := 99) dX6_word_151 (by decide) ?_
                  refine g_callVI C (ci := 6) (As := [.int 6, .int 99, .int 97, .int 110, .int 99]) (np := 5) (st := []) (r := (some x0)) rfl (by decide) (fun b15 q hq => c_X6_isWord S14 b15 (6 : Int32) (99 : Int32) (97 : Int32) (110 : Int32) (99 : Int32) q hq) gv_RX6_X6_isWord rfl rfl dsX6_isWord rfl ⟨Nat.le_of_ble_eq_true rfl, Nat.le_of_ble_eq_true rfl⟩ rfl (cat_sum (Nat.le_of_ble_eq_true rfl)) ⟨Nat.zero_le _, Nat.zero_le _⟩ dX6_word_153 h (fun v16 S16 h => ?_)
                  refine g_if_eq C (tgt := 185) dX6_word_156 (by decide) h (fun h => ?_) (fun h => ?_)
                  · refine g_bipush C (v := (-5)) dX6_word_185 (by decide) ?_
                    exact g_iret C hQ dX6_word_187 h
                  · refine g_aload_n C (q := 0) dX6_word_159 rfl rfl ?_
                    refine g_ogetSR C (ci := 6) (slot := 9) rfl (by decide) inlX6 (by decide) rfl q72 dX6_word_160 h (fun h hLa26 hKa26 => ?_)
                    refine g_iconst C (v := 4) dX6_word_163 (by decide) ?_
                    refine g_cald C dX6_word_164 h (fun a27 i16 h => ?_)
                    refine g_bipush C (v := 101) dX6_word_165 (by decide) ?_
                    refine g_icmp_ne C (tgt := 185) dX6_word_167 (by decide) h (fun h => ?_) (fun h => ?_)
                    · refine g_aload_n C (q := 0) dX6_word_170 rfl rfl ?_
                      refine g_getER C (ci := 6) (slot := 9) rfl (by decide) inlX6 (by decide) rfl q72 dX6_word_171 rfl hLa26 hKa26 ?_
                      refine g_iconst C (v := 5) dX6_word_174 (by decide) ?_
                      refine g_cald C dX6_word_175 h (fun a28 i17 h => ?_)
                      refine g_bipush C (v := 108) dX6_word_176 (by decide) ?_
                      refine g_icmp_ne C (tgt := 185) dX6_word_178 (by decide) h (fun h => ?_) (fun h => ?_)
                      · refine g_iconst C (v := 3) dX6_word_181 (by decide) ?_
                        refine g_goto C (tgt := 187) dX6_word_182 (by decide) ?_
                        exact g_iret C hQ dX6_word_187 h
                      · refine g_bipush C (v := (-5)) dX6_word_185 (by decide) ?_
                        exact g_iret C hQ dX6_word_187 h
                    · refine g_bipush C (v := (-5)) dX6_word_185 (by decide) ?_
                      exact g_iret C hQ dX6_word_187 h
            · refine g_aload_n C (q := 0) dX6_word_100 rfl rfl ?_
              refine g_ogetSR C (ci := 6) (slot := 9) rfl (by decide) inlX6 (by decide) rfl q72 dX6_word_101 h (fun h hLa29 hKa29 => ?_)
              refine g_iconst C (v := 4) dX6_word_104 (by decide) ?_
              refine g_cald C dX6_word_105 h (fun a30 i18 h => ?_)
              refine g_bipush C (v := 101) dX6_word_106 (by decide) ?_
              refine g_icmp_ne C (tgt := 113) dX6_word_108 (by decide) h (fun h => ?_) (fun h => ?_)
              · refine g_iconst C (v := 1) dX6_word_111 (by decide) ?_
                exact g_iret C hQ dX6_word_112 h
              · refine g_aload_n C (q := 0) dX6_word_113 rfl rfl ?_
                refine g_iconst C (v := 5) dX6_word_114 (by decide) ?_
                refine g_bipush C (v := 109) dX6_word_115 (by decide) ?_
                refine g_bipush C (v := 101) dX6_word_117 (by decide) ?_
                refine g_bipush C (v := 114) dX6_word_119 (by decide) ?_
                refine g_bipush C (v := 103) dX6_word_121 (by decide) ?_
                refine g_callVI C (ci := 6) (As := [.int 5, .int 109, .int 101, .int 114, .int 103]) (np := 5) (st := []) (r := (some x0)) rfl (by decide) (fun b16 q hq => c_X6_isWord S13 b16 (5 : Int32) (109 : Int32) (101 : Int32) (114 : Int32) (103 : Int32) q hq) gv_RX6_X6_isWord rfl rfl dsX6_isWord rfl ⟨Nat.le_of_ble_eq_true rfl, Nat.le_of_ble_eq_true rfl⟩ rfl (cat_sum (Nat.le_of_ble_eq_true rfl)) ⟨Nat.zero_le _, Nat.zero_le _⟩ dX6_word_123 h (fun v17 S17 h => ?_)
                refine g_if_eq C (tgt := 142) dX6_word_126 (by decide) h (fun h => ?_) (fun h => ?_)
                · refine g_aload_n C (q := 0) dX6_word_142 rfl rfl ?_
                  refine g_bipush C (v := 6) dX6_word_143 (by decide) ?_
                  refine g_bipush C (v := 99) dX6_word_145 (by decide) ?_
                  refine g_bipush C (v := 97) dX6_word_147 (by decide) ?_
                  refine g_bipush C (v := 110) dX6_word_149 (by decide) ?_
                  refine g_bipush C (v := 99) dX6_word_151 (by decide) ?_
                  refine g_callVI C (ci := 6) (As := [.int 6, .int 99, .int 97, .int 110, .int 99]) (np := 5) (st := []) (r := (some x0)) rfl (by decide) (fun b17 q hq => c_X6_isWord S17 b17 (6 : Int32) (99 : Int32) (97 : Int32) (110 : Int32) (99 : Int32) q hq) gv_RX6_X6_isWord rfl rfl dsX6_isWord rfl ⟨Nat.le_of_ble_eq_true rfl, Nat.le_of_ble_eq_true rfl⟩ rfl (cat_sum (Nat.le_of_ble_eq_true rfl)) ⟨Nat.zero_le _, Nat.zero_le _⟩ dX6_word_153 h (fun v18 S18 h => ?_)
                  refine g_if_eq C (tgt := 185) dX6_word_156 (by decide) h (fun h => ?_) (fun h => ?_)
                  · refine g_bipush C (v := (-5)) dX6_word_185 (by decide) ?_
                    exact g_iret C hQ dX6_word_187 h
                  · refine g_aload_n C (q := 0) dX6_word_159 rfl rfl ?_
                    refine g_ogetSR C (ci := 6) (slot := 9) rfl (by decide) inlX6 (by decide) rfl q72 dX6_word_160 h (fun h hLa31 hKa31 => ?_)
                    refine g_iconst C (v := 4) dX6_word_163 (by decide) ?_
                    refine g_cald C dX6_word_164 h (fun a32 i19 h => ?_)
                    refine g_bipush C (v := 101) dX6_word_165 (by decide) ?_
                    refine g_icmp_ne C (tgt := 185) dX6_word_167 (by decide) h (fun h => ?_) (fun h => ?_)
                    · refine g_aload_n C (q := 0) dX6_word_170 rfl rfl ?_
                      refine g_getER C (ci := 6) (slot := 9) rfl (by decide) inlX6 (by decide) rfl q72 dX6_word_171 rfl hLa31 hKa31 ?_
                      refine g_iconst C (v := 5) dX6_word_174 (by decide) ?_
                      refine g_cald C dX6_word_175 h (fun a33 i20 h => ?_)
                      refine g_bipush C (v := 108) dX6_word_176 (by decide) ?_
                      refine g_icmp_ne C (tgt := 185) dX6_word_178 (by decide) h (fun h => ?_) (fun h => ?_)
                      · refine g_iconst C (v := 3) dX6_word_181 (by decide) ?_
                        refine g_goto C (tgt := 187) dX6_word_182 (by decide) ?_
                        exact g_iret C hQ dX6_word_187 h
                      · refine g_bipush C (v := (-5)) dX6_word_185 (by decide) ?_
                        exact g_iret C hQ dX6_word_187 h
                    · refine g_bipush C (v := (-5)) dX6_word_185 (by decide) ?_
                      exact g_iret C hQ dX6_word_187 h
                · refine g_aload_n C (q := 0) dX6_word_129 rfl rfl ?_
                  refine g_ogetSR C (ci := 6) (slot := 9) rfl (by decide) inlX6 (by decide) rfl q72 dX6_word_130 h (fun h hLa34 hKa34 => ?_)
                  refine g_iconst C (v := 4) dX6_word_133 (by decide) ?_
                  refine g_cald C dX6_word_134 h (fun a35 i21 h => ?_)
                  refine g_bipush C (v := 101) dX6_word_135 (by decide) ?_
                  refine g_icmp_ne C (tgt := 142) dX6_word_137 (by decide) h (fun h => ?_) (fun h => ?_)
                  · refine g_iconst C (v := 2) dX6_word_140 (by decide) ?_
                    exact g_iret C hQ dX6_word_141 h
                  · refine g_aload_n C (q := 0) dX6_word_142 rfl rfl ?_
                    refine g_bipush C (v := 6) dX6_word_143 (by decide) ?_
                    refine g_bipush C (v := 99) dX6_word_145 (by decide) ?_
                    refine g_bipush C (v := 97) dX6_word_147 (by decide) ?_
                    refine g_bipush C (v := 110) dX6_word_149 (by decide) ?_
                    refine g_bipush C (v := 99) dX6_word_151 (by decide) ?_
                    refine g_callVI C (ci := 6) (As := [.int 6, .int 99, .int 97, .int 110, .int 99]) (np := 5) (st := []) (r := (some x0)) rfl (by decide) (fun b18 q hq => c_X6_isWord S17 b18 (6 : Int32) (99 : Int32) (97 : Int32) (110 : Int32) (99 : Int32) q hq) gv_RX6_X6_isWord rfl rfl dsX6_isWord rfl ⟨Nat.le_of_ble_eq_true rfl, Nat.le_of_ble_eq_true rfl⟩ rfl (cat_sum (Nat.le_of_ble_eq_true rfl)) ⟨Nat.zero_le _, Nat.zero_le _⟩ dX6_word_153 h (fun v19 S19 h => ?_)
                    refine g_if_eq C (tgt := 185) dX6_word_156 (by decide) h (fun h => ?_) (fun h => ?_)
                    · refine g_bipush C (v := (-5)) dX6_word_185 (by decide) ?_
                      exact g_iret C hQ dX6_word_187 h
                    · refine g_aload_n C (q := 0) dX6_word_159 rfl rfl ?_
                      refine g_ogetSR C (ci := 6) (slot := 9) rfl (by decide) inlX6 (by decide) rfl q72 dX6_word_160 h (fun h hLa36 hKa36 => ?_)
                      refine g_iconst C (v := 4) dX6_word_163 (by decide) ?_
                      refine g_cald C dX6_word_164 h (fun a37 i22 h => ?_)
                      refine g_bipush C (v := 101) dX6_word_165 (by decide) ?_
                      refine g_icmp_ne C (tgt := 185) dX6_word_167 (by decide) h (fun h => ?_) (fun h => ?_)
                      · refine g_aload_n C (q := 0) dX6_word_170 rfl rfl ?_
                        refine g_getER C (ci := 6) (slot := 9) rfl (by decide) inlX6 (by decide) rfl q72 dX6_word_171 rfl hLa36 hKa36 ?_
                        refine g_iconst C (v := 5) dX6_word_174 (by decide) ?_
                        refine g_cald C dX6_word_175 h (fun a38 i23 h => ?_)
                        refine g_bipush C (v := 108) dX6_word_176 (by decide) ?_
                        refine g_icmp_ne C (tgt := 185) dX6_word_178 (by decide) h (fun h => ?_) (fun h => ?_)
                        · refine g_iconst C (v := 3) dX6_word_181 (by decide) ?_
                          refine g_goto C (tgt := 187) dX6_word_182 (by decide) ?_
                          exact g_iret C hQ dX6_word_187 h
                        · refine g_bipush C (v := (-5)) dX6_word_185 (by decide) ?_
                          exact g_iret C hQ dX6_word_187 h
                      · refine g_bipush C (v := (-5)) dX6_word_185 (by decide) ?_
                        exact g_iret C hQ dX6_word_187 h
          · refine g_iconst C (v := 4) dX6_word_82 (by decide) ?_
            exact g_iret C hQ dX6_word_83 h
        · refine g_iconst C (v := 0) dX6_word_64 (by decide) ?_
          exact g_iret C hQ dX6_word_65 h
      · refine g_aload_n C (q := 0) dX6_word_35 rfl rfl ?_
        refine g_dup C dX6_word_36 (va_rf_cat _) ?_
        refine g_ogetSI C (ci := 6) (slot := 10) rfl (by decide) inlX6 (by decide) rfl q650 dX6_word_37 h (fun h hLa39 hKa39 => ?_)
        refine g_iconst C (v := 1) dX6_word_40 (by decide) ?_
        refine g_iadd C dX6_word_41 ?_
        refine g_oputI C (ci := 6) (slot := 10) tyX6 tyX6_ok nmX6 rfl (by decide) inlX6 (by decide) rfl q650 rfl dX6_word_42 rfl rfl h (fun a40 S20 h => ?_)
        refine g_goto C (tgt := 5) dX6_word_45 (by decide) ?_
        refine g_sub (lv' := [(0, va_rf (some x0))]) [0] rfl ?_
        exact ih S20 x0 h
set_option maxHeartbeats 4000000 in
set_option maxRecDepth 100000 in
theorem c_X6_word (S : Hp) (x0 : Nat) (o : Int32 × Hp) (h : f_X6_word S x0 = some o) : CtI yX6_word cX6_word 1 (some .int) rm_X6_word 0 0 [va_rf (some x0)] S o := by
  refine ct_I (own := RX6) (by decide) rfl (Nat.le_of_ble_eq_true rfl) (fun X C hn hQ => ?_)
  unfold f_X6_word at h
  show GW X 0 0 S 0 [(0, va_rf (some x0))] []
  refine g_aload_n C (q := 0) dX6_word_0 rfl rfl ?_
  refine g_iconst C (v := 0) dX6_word_1 (by decide) ?_
  refine g_oputI C (ci := 6) (slot := 10) tyX6 tyX6_ok nmX6 rfl (by decide) inlX6 (by decide) rfl q650 rfl dX6_word_2 rfl rfl h (fun a1 S1 h => ?_)
  refine g_sub (lv' := [(0, va_rf (some x0))]) [0] rfl ?_
  exact w_X6_word_L5 C hn hQ 1000 S1 x0 h
