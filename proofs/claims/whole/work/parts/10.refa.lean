abbrev rm_X6_in : Room := { frames := 0, cells := 0, slots := 0, locals := 0 }
theorem dsX6_in : yX6_in.cls ≠ "java/lang/invoke/MethodHandle" ∧ yX6_in.cls ≠ "java/lang/invoke/VarHandle" ∧ (parseMethodDescriptor yX6_in.desc).map (fun d => d.parameters.length) = some 3 := by decide +kernel
def f_X6_in (S : Hp) (x0 : Int32) (x1 : Int32) (x2 : Int32) : Option (Int32 × Hp) :=
 if x0 < x1 then
 some ((0 : Int32), S)
 else
 if x2 < x0 then
 some ((0 : Int32), S)
 else
 some ((1 : Int32), S)
set_option maxHeartbeats 4000000 in
set_option maxRecDepth 100000 in
theorem c_X6_in (S : Hp) (x0 : Int32) (x1 : Int32) (x2 : Int32) (o : Int32 × Hp) (h : f_X6_in S x0 x1 x2 = some o) : CtI yX6_in cX6_in 3 (some .boolean) rm_X6_in 0 0 [.int x0, .int x1, .int x2] S o := by
  refine ct_I (own := RX6) (by decide) rfl (Nat.le_of_ble_eq_true rfl) (fun X C hn hQ => ?_)
  unfold f_X6_in at h
  show GW X 0 0 S 0 [(0, .int x0), (1, .int x1), (2, .int x2)] []
  refine g_iload_n C (q := 0) dX6_in_0 rfl rfl ?_
  refine g_iload_n C (q := 1) dX6_in_1 rfl rfl ?_
  refine g_icmp_lt C (tgt := 14) dX6_in_2 (by decide) h (fun h => ?_) (fun h => ?_)
  · refine g_iconst C (v := 0) dX6_in_14 (by decide) ?_
    exact g_zret C hQ (by decide) dX6_in_15 h
  · refine g_iload_n C (q := 0) dX6_in_5 rfl rfl ?_
    refine g_iload_n C (q := 2) dX6_in_6 rfl rfl ?_
    refine g_icmp_gt C (tgt := 14) dX6_in_7 (by decide) h (fun h => ?_) (fun h => ?_)
    · refine g_iconst C (v := 0) dX6_in_14 (by decide) ?_
      exact g_zret C hQ (by decide) dX6_in_15 h
    · refine g_iconst C (v := 1) dX6_in_10 (by decide) ?_
      refine g_goto C (tgt := 15) dX6_in_11 (by decide) ?_
      exact g_zret C hQ (by decide) dX6_in_15 h

abbrev rm_X6_record : Room := { frames := 0, cells := 0, slots := 0, locals := 0 }
theorem dsX6_record : yX6_record.cls = RX6 ∧ yX6_record.cls ≠ "java/lang/invoke/MethodHandle" ∧ yX6_record.cls ≠ "java/lang/invoke/VarHandle" ∧ (parseMethodDescriptor yX6_record.desc).map (fun d => d.parameters.length) = some 0 := by decide +kernel
def f_X6_record_L116_b (rec : Hp → Nat → Int32 → Option (Unit × Hp)) (S : Hp) (x0 : Nat) (y1 : Int32) : Option (Unit × Hp) :=
 if 17 ≤ y1 then
 ob S 6 (some x0) fun _ =>
 ob S 6 (some x0) fun a2 => bnd (wI S a2 6 ((zI S x0 6) + 1)) fun S1 =>
 some ((), S1)
 else
 ob S 6 (some x0) fun _ =>
 ar S 8 (zR S x0 3) y1 fun a4 i1 =>
 ar S 8 (zR S x0 4) ((17 * (zI S x0 6)) + y1) fun a5 i2 => bnd (wD S a5 i2 (zD S a4 i1)) fun S2 =>
 bnd (y1 + 1) fun v1 =>
 rec S2 x0 v1
def f_X6_record_L116 : Nat → Hp → Nat → Int32 → Option (Unit × Hp)
  | 0 => fun _ _ _ => none
  | n + 1 => f_X6_record_L116_b (f_X6_record_L116 n)

def f_X6_record_L80_b (rec : Hp → Nat → Int32 → Option (Unit × Hp)) (S : Hp) (x0 : Nat) (y1 : Int32) : Option (Unit × Hp) :=
 if 180 ≤ y1 then
 f_X6_record_L116 1000 S x0 (0 : Int32)
 else
 ob S 6 (some x0) fun _ =>
 ar S 9 (zR S x0 0) y1 fun a2 i1 =>
 ar S 9 (zR S x0 1) ((180 * (zI S x0 6)) + y1) fun a3 i2 => bnd (wI S a3 i2 (zI S a2 i1)) fun S1 =>
 bnd (y1 + 1) fun v1 =>
 rec S1 x0 v1
def f_X6_record_L80 : Nat → Hp → Nat → Int32 → Option (Unit × Hp)
  | 0 => fun _ _ _ => none
  | n + 1 => f_X6_record_L80_b (f_X6_record_L80 n)

def f_X6_record_L41_b (rec : Hp → Nat → Int32 → Option (Unit × Hp)) (S : Hp) (x0 : Nat) (y1 : Int32) : Option (Unit × Hp) :=
 if 68 ≤ y1 then
 ob S 6 (some x0) fun _ =>
 ob S 6 (some x0) fun a2 => bnd (wI S a2 6 ((zI S x0 6) - 1)) fun S1 =>
 f_X6_record_L80 1000 S1 x0 (0 : Int32)
 else
 ob S 6 (some x0) fun _ =>
 ar S 8 (zR S x0 4) (y1 + 17) fun a4 i1 =>
 ar S 8 (zR S x0 4) y1 fun a5 i2 => bnd (wD S a5 i2 (zD S a4 i1)) fun S2 =>
 bnd (y1 + 1) fun v1 =>
 rec S2 x0 v1
def f_X6_record_L41 : Nat → Hp → Nat → Int32 → Option (Unit × Hp)
  | 0 => fun _ _ _ => none
  | n + 1 => f_X6_record_L41_b (f_X6_record_L41 n)

def f_X6_record_L10_b (rec : Hp → Nat → Int32 → Option (Unit × Hp)) (S : Hp) (x0 : Nat) (y1 : Int32) : Option (Unit × Hp) :=
 if 720 ≤ y1 then
 f_X6_record_L41 1000 S x0 (0 : Int32)
 else
 ob S 6 (some x0) fun _ =>
 ar S 9 (zR S x0 1) (y1 + 180) fun a2 i1 =>
 ar S 9 (zR S x0 1) y1 fun a3 i2 => bnd (wI S a3 i2 (zI S a2 i1)) fun S1 =>
 bnd (y1 + 1) fun v1 =>
 rec S1 x0 v1
def f_X6_record_L10 : Nat → Hp → Nat → Int32 → Option (Unit × Hp)
  | 0 => fun _ _ _ => none
  | n + 1 => f_X6_record_L10_b (f_X6_record_L10 n)
def f_X6_record (S : Hp) (x0 : Nat) : Option (Unit × Hp) :=
 ob S 6 (some x0) fun _ =>
 if (zI S x0 6) = 5 then
 f_X6_record_L10 1000 S x0 (0 : Int32)
 else
 f_X6_record_L80 1000 S x0 (0 : Int32)
set_option maxHeartbeats 4000000 in
set_option maxRecDepth 100000 in
theorem w_X6_record_L116 {X : Cx} (C : CxOK X cX6_record RX6 rm_X6_record) (hn : xn X = 2) {S0 : Hp} {o : Unit × Hp} (hQ : QV X none S0 0 0 o) : ∀ (fuel : Nat) (S : Hp) (x0 : Nat) (y1 : Int32), f_X6_record_L116 fuel S x0 y1 = some o → GW X 0 0 S 116 [(0, va_rf (some x0)), (1, .int y1)] [] := by
  have hn1 : 1 < xn X := by rw [hn]; decide
  intro fuel
  induction fuel with
  | zero => intro S x0 y1 h; cases (show none = some o from h)
  | succ fuel ih =>
    intro S x0 y1 h
    have h : f_X6_record_L116_b (f_X6_record_L116 fuel) S x0 y1 = some o := h
    unfold f_X6_record_L116_b at h
    refine g_iload_n C (q := 1) dX6_record_116 rfl rfl ?_
    refine g_bipush C (v := 17) dX6_record_117 (by decide) ?_
    refine g_icmp_ge C (tgt := 148) dX6_record_119 (by decide) h (fun h => ?_) (fun h => ?_)
    · refine g_aload_n C (q := 0) dX6_record_148 rfl rfl ?_
      refine g_dup C dX6_record_149 (va_rf_cat _) ?_
      refine g_ogetSI C (ci := 6) (slot := 6) rfl (by decide) inlX6 (by decide) rfl q151 dX6_record_150 h (fun h hLa1 hKa1 => ?_)
      refine g_iconst C (v := 1) dX6_record_153 (by decide) ?_
      refine g_iadd C dX6_record_154 ?_
      refine g_oputI C (ci := 6) (slot := 6) tyX6 tyX6_ok nmX6 rfl (by decide) inlX6 (by decide) rfl q151 rfl dX6_record_155 rfl rfl h (fun a2 S1 h => ?_)
      exact g_vret C hQ dX6_record_158 h
    · refine g_aload_n C (q := 0) dX6_record_122 rfl rfl ?_
      refine g_ogetSR C (ci := 6) (slot := 4) rfl (by decide) inlX6 (by decide) rfl q70 dX6_record_123 h (fun h hLa3 hKa3 => ?_)
      refine g_bipush C (v := 17) dX6_record_126 (by decide) ?_
      refine g_aload_n C (q := 0) dX6_record_128 rfl rfl ?_
      refine g_getEI C (ci := 6) (slot := 6) rfl (by decide) inlX6 (by decide) rfl q151 dX6_record_129 rfl hLa3 hKa3 ?_
      refine g_imul C dX6_record_132 ?_
      refine g_iload_n C (q := 1) dX6_record_133 rfl rfl ?_
      refine g_iadd C dX6_record_134 ?_
      refine g_aload_n C (q := 0) dX6_record_135 rfl rfl ?_
      refine g_getER C (ci := 6) (slot := 3) rfl (by decide) inlX6 (by decide) rfl q69 dX6_record_136 rfl hLa3 hKa3 ?_
      refine g_iload_n C (q := 1) dX6_record_139 rfl rfl ?_
      refine g_dald C dX6_record_140 h (fun a4 i1 h => ?_)
      refine g_dast C dX6_record_141 h (fun a5 i2 S2 h => ?_)
      obtain ⟨v1, ev1, h⟩ := bnd_ex h
      refine g_iinc C (i := 1) (lv' := [(1, .int v1), (0, va_rf (some x0))]) (q := 1) v1 dX6_record_142 rfl ev1 hn1 (by simp [va_rf_cat, catI, catJ, catD]) ?_
      refine g_goto C (tgt := 116) dX6_record_145 (by decide) ?_
      refine g_sub (lv' := [(0, va_rf (some x0)), (1, .int v1)]) [1, 0] rfl ?_
      exact ih S2 x0 v1 h

set_option maxHeartbeats 4000000 in
set_option maxRecDepth 100000 in
theorem w_X6_record_L80 {X : Cx} (C : CxOK X cX6_record RX6 rm_X6_record) (hn : xn X = 2) {S0 : Hp} {o : Unit × Hp} (hQ : QV X none S0 0 0 o) : ∀ (fuel : Nat) (S : Hp) (x0 : Nat) (y1 : Int32), f_X6_record_L80 fuel S x0 y1 = some o → GW X 0 0 S 80 [(0, va_rf (some x0)), (1, .int y1)] [] := by
  have hn1 : 1 < xn X := by rw [hn]; decide
  intro fuel
  induction fuel with
  | zero => intro S x0 y1 h; cases (show none = some o from h)
  | succ fuel ih =>
    intro S x0 y1 h
    have h : f_X6_record_L80_b (f_X6_record_L80 fuel) S x0 y1 = some o := h
    unfold f_X6_record_L80_b at h
    refine g_iload_n C (q := 1) dX6_record_80 rfl rfl ?_
    refine g_sipush C (v := 180) dX6_record_81 (by decide) ?_
    refine g_icmp_ge C (tgt := 114) dX6_record_84 (by decide) h (fun h => ?_) (fun h => ?_)
    · refine g_iconst C (v := 0) dX6_record_114 (by decide) ?_
      refine g_istore_n C (i := 1) (lv' := [(1, .int 0), (0, va_rf (some x0))]) dX6_record_115 rfl hn1 (by simp [va_rf_cat, catI, catJ, catD]) ?_
      refine g_sub (lv' := [(0, va_rf (some x0)), (1, .int 0)]) [1, 0] rfl ?_
      exact w_X6_record_L116 C hn hQ 1000 S x0 (0 : Int32) h
    · refine g_aload_n C (q := 0) dX6_record_87 rfl rfl ?_
      refine g_ogetSR C (ci := 6) (slot := 1) rfl (by decide) inlX6 (by decide) rfl q67 dX6_record_88 h (fun h hLa1 hKa1 => ?_)
      refine g_sipush C (v := 180) dX6_record_91 (by decide) ?_
      refine g_aload_n C (q := 0) dX6_record_94 rfl rfl ?_
      refine g_getEI C (ci := 6) (slot := 6) rfl (by decide) inlX6 (by decide) rfl q151 dX6_record_95 rfl hLa1 hKa1 ?_
      refine g_imul C dX6_record_98 ?_
      refine g_iload_n C (q := 1) dX6_record_99 rfl rfl ?_
      refine g_iadd C dX6_record_100 ?_
      refine g_aload_n C (q := 0) dX6_record_101 rfl rfl ?_
      refine g_getER C (ci := 6) (slot := 0) rfl (by decide) inlX6 (by decide) rfl q66 dX6_record_102 rfl hLa1 hKa1 ?_
      refine g_iload_n C (q := 1) dX6_record_105 rfl rfl ?_
      refine g_iald C dX6_record_106 h (fun a2 i1 h => ?_)
      refine g_iast C dX6_record_107 h (fun a3 i2 S1 h => ?_)
      obtain ⟨v1, ev1, h⟩ := bnd_ex h
      refine g_iinc C (i := 1) (lv' := [(1, .int v1), (0, va_rf (some x0))]) (q := 1) v1 dX6_record_108 rfl ev1 hn1 (by simp [va_rf_cat, catI, catJ, catD]) ?_
      refine g_goto C (tgt := 80) dX6_record_111 (by decide) ?_
      refine g_sub (lv' := [(0, va_rf (some x0)), (1, .int v1)]) [1, 0] rfl ?_
      exact ih S1 x0 v1 h

set_option maxHeartbeats 4000000 in
set_option maxRecDepth 100000 in
theorem w_X6_record_L41 {X : Cx} (C : CxOK X cX6_record RX6 rm_X6_record) (hn : xn X = 2) {S0 : Hp} {o : Unit × Hp} (hQ : QV X none S0 0 0 o) : ∀ (fuel : Nat) (S : Hp) (x0 : Nat) (y1 : Int32), f_X6_record_L41 fuel S x0 y1 = some o → GW X 0 0 S 41 [(0, va_rf (some x0)), (1, .int y1)] [] := by
  have hn1 : 1 < xn X := by rw [hn]; decide
  intro fuel
  induction fuel with
  | zero => intro S x0 y1 h; cases (show none = some o from h)
  | succ fuel ih =>
    intro S x0 y1 h
    have h : f_X6_record_L41_b (f_X6_record_L41 fuel) S x0 y1 = some o := h
    unfold f_X6_record_L41_b at h
    refine g_iload_n C (q := 1) dX6_record_41 rfl rfl ?_
    refine g_bipush C (v := 68) dX6_record_42 (by decide) ?_
    refine g_icmp_ge C (tgt := 68) dX6_record_44 (by decide) h (fun h => ?_) (fun h => ?_)
    · refine g_aload_n C (q := 0) dX6_record_68 rfl rfl ?_
      refine g_dup C dX6_record_69 (va_rf_cat _) ?_
      refine g_ogetSI C (ci := 6) (slot := 6) rfl (by decide) inlX6 (by decide) rfl q151 dX6_record_70 h (fun h hLa1 hKa1 => ?_)
      refine g_iconst C (v := 1) dX6_record_73 (by decide) ?_
      refine g_isub C dX6_record_74 ?_
      refine g_oputI C (ci := 6) (slot := 6) tyX6 tyX6_ok nmX6 rfl (by decide) inlX6 (by decide) rfl q151 rfl dX6_record_75 rfl rfl h (fun a2 S1 h => ?_)
      refine g_iconst C (v := 0) dX6_record_78 (by decide) ?_
      refine g_istore_n C (i := 1) (lv' := [(1, .int 0), (0, va_rf (some x0))]) dX6_record_79 rfl hn1 (by simp [va_rf_cat, catI, catJ, catD]) ?_
      refine g_sub (lv' := [(0, va_rf (some x0)), (1, .int 0)]) [1, 0] rfl ?_
      exact w_X6_record_L80 C hn hQ 1000 S1 x0 (0 : Int32) h
    · refine g_aload_n C (q := 0) dX6_record_47 rfl rfl ?_
      refine g_ogetSR C (ci := 6) (slot := 4) rfl (by decide) inlX6 (by decide) rfl q70 dX6_record_48 h (fun h hLa3 hKa3 => ?_)
      refine g_iload_n C (q := 1) dX6_record_51 rfl rfl ?_
      refine g_aload_n C (q := 0) dX6_record_52 rfl rfl ?_
      refine g_getER C (ci := 6) (slot := 4) rfl (by decide) inlX6 (by decide) rfl q70 dX6_record_53 rfl hLa3 hKa3 ?_
      refine g_iload_n C (q := 1) dX6_record_56 rfl rfl ?_
      refine g_bipush C (v := 17) dX6_record_57 (by decide) ?_
      refine g_iadd C dX6_record_59 ?_
      refine g_dald C dX6_record_60 h (fun a4 i1 h => ?_)
      refine g_dast C dX6_record_61 h (fun a5 i2 S2 h => ?_)
      obtain ⟨v1, ev1, h⟩ := bnd_ex h
      refine g_iinc C (i := 1) (lv' := [(1, .int v1), (0, va_rf (some x0))]) (q := 1) v1 dX6_record_62 rfl ev1 hn1 (by simp [va_rf_cat, catI, catJ, catD]) ?_
      refine g_goto C (tgt := 41) dX6_record_65 (by decide) ?_
      refine g_sub (lv' := [(0, va_rf (some x0)), (1, .int v1)]) [1, 0] rfl ?_
      exact ih S2 x0 v1 h

set_option maxHeartbeats 4000000 in
set_option maxRecDepth 100000 in
theorem w_X6_record_L10 {X : Cx} (C : CxOK X cX6_record RX6 rm_X6_record) (hn : xn X = 2) {S0 : Hp} {o : Unit × Hp} (hQ : QV X none S0 0 0 o) : ∀ (fuel : Nat) (S : Hp) (x0 : Nat) (y1 : Int32), f_X6_record_L10 fuel S x0 y1 = some o → GW X 0 0 S 10 [(0, va_rf (some x0)), (1, .int y1)] [] := by
  have hn1 : 1 < xn X := by rw [hn]; decide
  intro fuel
  induction fuel with
  | zero => intro S x0 y1 h; cases (show none = some o from h)
  | succ fuel ih =>
    intro S x0 y1 h
    have h : f_X6_record_L10_b (f_X6_record_L10 fuel) S x0 y1 = some o := h
    unfold f_X6_record_L10_b at h
    refine g_iload_n C (q := 1) dX6_record_10 rfl rfl ?_
    refine g_sipush C (v := 720) dX6_record_11 (by decide) ?_
    refine g_icmp_ge C (tgt := 39) dX6_record_14 (by decide) h (fun h => ?_) (fun h => ?_)
    · refine g_iconst C (v := 0) dX6_record_39 (by decide) ?_
      refine g_istore_n C (i := 1) (lv' := [(1, .int 0), (0, va_rf (some x0))]) dX6_record_40 rfl hn1 (by simp [va_rf_cat, catI, catJ, catD]) ?_
      refine g_sub (lv' := [(0, va_rf (some x0)), (1, .int 0)]) [1, 0] rfl ?_
      exact w_X6_record_L41 C hn hQ 1000 S x0 (0 : Int32) h
    · refine g_aload_n C (q := 0) dX6_record_17 rfl rfl ?_
      refine g_ogetSR C (ci := 6) (slot := 1) rfl (by decide) inlX6 (by decide) rfl q67 dX6_record_18 h (fun h hLa1 hKa1 => ?_)
      refine g_iload_n C (q := 1) dX6_record_21 rfl rfl ?_
      refine g_aload_n C (q := 0) dX6_record_22 rfl rfl ?_
      refine g_getER C (ci := 6) (slot := 1) rfl (by decide) inlX6 (by decide) rfl q67 dX6_record_23 rfl hLa1 hKa1 ?_
      refine g_iload_n C (q := 1) dX6_record_26 rfl rfl ?_
      refine g_sipush C (v := 180) dX6_record_27 (by decide) ?_
      refine g_iadd C dX6_record_30 ?_
      refine g_iald C dX6_record_31 h (fun a2 i1 h => ?_)
      refine g_iast C dX6_record_32 h (fun a3 i2 S1 h => ?_)
      obtain ⟨v1, ev1, h⟩ := bnd_ex h
      refine g_iinc C (i := 1) (lv' := [(1, .int v1), (0, va_rf (some x0))]) (q := 1) v1 dX6_record_33 rfl ev1 hn1 (by simp [va_rf_cat, catI, catJ, catD]) ?_
      refine g_goto C (tgt := 10) dX6_record_36 (by decide) ?_
      refine g_sub (lv' := [(0, va_rf (some x0)), (1, .int v1)]) [1, 0] rfl ?_
      exact ih S1 x0 v1 h
set_option maxHeartbeats 4000000 in
set_option maxRecDepth 100000 in
theorem c_X6_record (S : Hp) (x0 : Nat) (o : Unit × Hp) (h : f_X6_record S x0 = some o) : CtV yX6_record cX6_record 2 none rm_X6_record 0 0 [va_rf (some x0)] S o := by
  refine ct_V (own := RX6) (by decide) rfl (Nat.le_of_ble_eq_true rfl) (fun X C hn hQ => ?_)
  have hn1 : 1 < xn X := by rw [hn]; decide
  unfold f_X6_record at h
  show GW X 0 0 S 0 [(0, va_rf (some x0))] []
  refine g_aload_n C (q := 0) dX6_record_0 rfl rfl ?_
  refine g_ogetSI C (ci := 6) (slot := 6) rfl (by decide) inlX6 (by decide) rfl q151 dX6_record_1 h (fun h hLa1 hKa1 => ?_)
  refine g_iconst C (v := 5) dX6_record_4 (by decide) ?_
  refine g_icmp_ne C (tgt := 78) dX6_record_5 (by decide) h (fun h => ?_) (fun h => ?_)
  · refine g_iconst C (v := 0) dX6_record_8 (by decide) ?_
    refine g_istore_n C (i := 1) (lv' := [(1, .int 0), (0, va_rf (some x0))]) dX6_record_9 rfl hn1 (by simp [va_rf_cat, catI, catJ, catD]) ?_
    refine g_sub (lv' := [(0, va_rf (some x0)), (1, .int 0)]) [1, 0] rfl ?_
    exact w_X6_record_L10 C hn hQ 1000 S x0 (0 : Int32) h
  · refine g_iconst C (v := 0) dX6_record_78 (by decide) ?_
    refine g_istore_n C (i := 1) (lv' := [(1, .int 0), (0, va_rf (some x0))]) dX6_record_79 rfl hn1 (by simp [va_rf_cat, catI, catJ, catD]) ?_
    refine g_sub (lv' := [(0, va_rf (some x0)), (1, .int 0)]) [1, 0] rfl ?_
    exact w_X6_record_L80 C hn hQ 1000 S x0 (0 : Int32) h

abbrev rm_X6_noGuide : Room := { frames := 1, cells := 0, slots := 0, locals := 22 }
theorem dsX6_noGuide : yX6_noGuide.cls = RX6 ∧ yX6_noGuide.cls ≠ "java/lang/invoke/MethodHandle" ∧ yX6_noGuide.cls ≠ "java/lang/invoke/VarHandle" ∧ (parseMethodDescriptor yX6_noGuide.desc).map (fun d => d.parameters.length) = some 1 := by decide +kernel
theorem gs_RX6_X6_in : GoodIn wsL_law (va_wsS RX6 37 yX6_in (.code yX6_in cX6_in 3 (some .boolean) :: wsL_law)) := good_S q144 q145 q5 q146
def f_X6_noGuide (S : Hp) (x0 : Nat) (x1 : Int32) : Option (Int32 × Hp) :=
 ob S 6 (some x0) fun _ =>
 ar S 9 (zR S x0 0) (1 : Int32) fun a2 i1 =>
 cl (f_X6_in S x1 (0 : Int32) ((zI S a2 i1) - 1)) fun v1 S1 =>
 if v1 = 0 then
 some ((1 : Int32), S1)
 else
 some ((0 : Int32), S1)
set_option maxHeartbeats 4000000 in
set_option maxRecDepth 100000 in
theorem c_X6_noGuide (S : Hp) (x0 : Nat) (x1 : Int32) (o : Int32 × Hp) (h : f_X6_noGuide S x0 x1 = some o) : CtI yX6_noGuide cX6_noGuide 2 (some .boolean) rm_X6_noGuide 0 0 [va_rf (some x0), .int x1] S o := by
  refine ct_I (own := RX6) (by decide) rfl (Nat.le_of_ble_eq_true rfl) (fun X C hn hQ => ?_)
  unfold f_X6_noGuide at h
  show GW X 0 0 S 0 [(0, va_rf (some x0)), (1, .int x1)] []
  refine g_iload_n C (q := 1) dX6_noGuide_0 rfl rfl ?_
  refine g_iconst C (v := 0) dX6_noGuide_1 (by decide) ?_
  refine g_aload_n C (q := 0) dX6_noGuide_2 rfl rfl ?_
  refine g_ogetSR C (ci := 6) (slot := 0) rfl (by decide) inlX6 (by decide) rfl q66 dX6_noGuide_3 h (fun h hLa1 hKa1 => ?_)
  refine g_iconst C (v := 1) dX6_noGuide_6 (by decide) ?_
  refine g_iald C dX6_noGuide_7 h (fun a2 i1 h => ?_)
  refine g_iconst C (v := 1) dX6_noGuide_8 (by decide) ?_
  refine g_isub C dX6_noGuide_9 ?_
  refine g_callSI C (As := [.int x1, .int 0, .int ((zI S a2 i1) - 1)]) (np := 3) (st := []) (fun q hq => c_X6_in S x1 (0 : Int32) ((zI S a2 i1) - 1) q hq) gs_RX6_X6_in rfl rfl dsX6_in rfl ⟨Nat.le_of_ble_eq_true rfl, Nat.le_of_ble_eq_true rfl⟩ rfl (cat_sum (Nat.le_of_ble_eq_true rfl)) ⟨Nat.zero_le _, Nat.zero_le _⟩ dX6_noGuide_10 h (fun v1 S1 h => ?_)
  refine g_if_ne C (tgt := 20) dX6_noGuide_13 (by decide) h (fun h => ?_) (fun h => ?_)
  · refine g_iconst C (v := 1) dX6_noGuide_16 (by decide) ?_
    refine g_goto C (tgt := 21) dX6_noGuide_17 (by decide) ?_
    exact g_zret C hQ (by decide) dX6_noGuide_21 h
  · refine g_iconst C (v := 0) dX6_noGuide_20 (by decide) ?_
    exact g_zret C hQ (by decide) dX6_noGuide_21 h

abbrev rm_X6_noBridge : Room := { frames := 1, cells := 0, slots := 0, locals := 22 }
theorem dsX6_noBridge : yX6_noBridge.cls = RX6 ∧ yX6_noBridge.cls ≠ "java/lang/invoke/MethodHandle" ∧ yX6_noBridge.cls ≠ "java/lang/invoke/VarHandle" ∧ (parseMethodDescriptor yX6_noBridge.desc).map (fun d => d.parameters.length) = some 1 := by decide +kernel
def f_X6_noBridge (S : Hp) (x0 : Nat) (x1 : Int32) : Option (Int32 × Hp) :=
 ob S 6 (some x0) fun _ =>
 ar S 9 (zR S x0 0) (2 : Int32) fun a2 i1 =>
 cl (f_X6_in S x1 (0 : Int32) ((zI S a2 i1) - 1)) fun v1 S1 =>
 if v1 = 0 then
 some ((1 : Int32), S1)
 else
 some ((0 : Int32), S1)
set_option maxHeartbeats 4000000 in
set_option maxRecDepth 100000 in
theorem c_X6_noBridge (S : Hp) (x0 : Nat) (x1 : Int32) (o : Int32 × Hp) (h : f_X6_noBridge S x0 x1 = some o) : CtI yX6_noBridge cX6_noBridge 2 (some .boolean) rm_X6_noBridge 0 0 [va_rf (some x0), .int x1] S o := by
  refine ct_I (own := RX6) (by decide) rfl (Nat.le_of_ble_eq_true rfl) (fun X C hn hQ => ?_)
  unfold f_X6_noBridge at h
  show GW X 0 0 S 0 [(0, va_rf (some x0)), (1, .int x1)] []
  refine g_iload_n C (q := 1) dX6_noBridge_0 rfl rfl ?_
  refine g_iconst C (v := 0) dX6_noBridge_1 (by decide) ?_
  refine g_aload_n C (q := 0) dX6_noBridge_2 rfl rfl ?_
  refine g_ogetSR C (ci := 6) (slot := 0) rfl (by decide) inlX6 (by decide) rfl q66 dX6_noBridge_3 h (fun h hLa1 hKa1 => ?_)
  refine g_iconst C (v := 2) dX6_noBridge_6 (by decide) ?_
  refine g_iald C dX6_noBridge_7 h (fun a2 i1 h => ?_)
  refine g_iconst C (v := 1) dX6_noBridge_8 (by decide) ?_
  refine g_isub C dX6_noBridge_9 ?_
  refine g_callSI C (As := [.int x1, .int 0, .int ((zI S a2 i1) - 1)]) (np := 3) (st := []) (fun q hq => c_X6_in S x1 (0 : Int32) ((zI S a2 i1) - 1) q hq) gs_RX6_X6_in rfl rfl dsX6_in rfl ⟨Nat.le_of_ble_eq_true rfl, Nat.le_of_ble_eq_true rfl⟩ rfl (cat_sum (Nat.le_of_ble_eq_true rfl)) ⟨Nat.zero_le _, Nat.zero_le _⟩ dX6_noBridge_10 h (fun v1 S1 h => ?_)
  refine g_if_ne C (tgt := 20) dX6_noBridge_13 (by decide) h (fun h => ?_) (fun h => ?_)
  · refine g_iconst C (v := 1) dX6_noBridge_16 (by decide) ?_
    refine g_goto C (tgt := 21) dX6_noBridge_17 (by decide) ?_
    exact g_zret C hQ (by decide) dX6_noBridge_21 h
  · refine g_iconst C (v := 0) dX6_noBridge_20 (by decide) ?_
    exact g_zret C hQ (by decide) dX6_noBridge_21 h

abbrev rm_X6_noTour : Room := { frames := 1, cells := 0, slots := 0, locals := 22 }
theorem dsX6_noTour : yX6_noTour.cls = RX6 ∧ yX6_noTour.cls ≠ "java/lang/invoke/MethodHandle" ∧ yX6_noTour.cls ≠ "java/lang/invoke/VarHandle" ∧ (parseMethodDescriptor yX6_noTour.desc).map (fun d => d.parameters.length) = some 1 := by decide +kernel
def f_X6_noTour (S : Hp) (x0 : Nat) (x1 : Int32) : Option (Int32 × Hp) :=
 ob S 6 (some x0) fun _ =>
 ar S 9 (zR S x0 0) (3 : Int32) fun a2 i1 =>
 cl (f_X6_in S x1 (0 : Int32) ((zI S a2 i1) - 1)) fun v1 S1 =>
 if v1 = 0 then
 some ((1 : Int32), S1)
 else
 some ((0 : Int32), S1)
set_option maxHeartbeats 4000000 in
set_option maxRecDepth 100000 in
theorem c_X6_noTour (S : Hp) (x0 : Nat) (x1 : Int32) (o : Int32 × Hp) (h : f_X6_noTour S x0 x1 = some o) : CtI yX6_noTour cX6_noTour 2 (some .boolean) rm_X6_noTour 0 0 [va_rf (some x0), .int x1] S o := by
  refine ct_I (own := RX6) (by decide) rfl (Nat.le_of_ble_eq_true rfl) (fun X C hn hQ => ?_)
  unfold f_X6_noTour at h
  show GW X 0 0 S 0 [(0, va_rf (some x0)), (1, .int x1)] []
  refine g_iload_n C (q := 1) dX6_noTour_0 rfl rfl ?_
  refine g_iconst C (v := 0) dX6_noTour_1 (by decide) ?_
  refine g_aload_n C (q := 0) dX6_noTour_2 rfl rfl ?_
  refine g_ogetSR C (ci := 6) (slot := 0) rfl (by decide) inlX6 (by decide) rfl q66 dX6_noTour_3 h (fun h hLa1 hKa1 => ?_)
  refine g_iconst C (v := 3) dX6_noTour_6 (by decide) ?_
  refine g_iald C dX6_noTour_7 h (fun a2 i1 h => ?_)
  refine g_iconst C (v := 1) dX6_noTour_8 (by decide) ?_
  refine g_isub C dX6_noTour_9 ?_
  refine g_callSI C (As := [.int x1, .int 0, .int ((zI S a2 i1) - 1)]) (np := 3) (st := []) (fun q hq => c_X6_in S x1 (0 : Int32) ((zI S a2 i1) - 1) q hq) gs_RX6_X6_in rfl rfl dsX6_in rfl ⟨Nat.le_of_ble_eq_true rfl, Nat.le_of_ble_eq_true rfl⟩ rfl (cat_sum (Nat.le_of_ble_eq_true rfl)) ⟨Nat.zero_le _, Nat.zero_le _⟩ dX6_noTour_10 h (fun v1 S1 h => ?_)
  refine g_if_ne C (tgt := 20) dX6_noTour_13 (by decide) h (fun h => ?_) (fun h => ?_)
  · refine g_iconst C (v := 1) dX6_noTour_16 (by decide) ?_
    refine g_goto C (tgt := 21) dX6_noTour_17 (by decide) ?_
    exact g_zret C hQ (by decide) dX6_noTour_21 h
  · refine g_iconst C (v := 0) dX6_noTour_20 (by decide) ?_
    exact g_zret C hQ (by decide) dX6_noTour_21 h

abbrev rm_X6_ofGuide : Room := { frames := 0, cells := 0, slots := 0, locals := 0 }
theorem dsX6_ofGuide : yX6_ofGuide.cls = RX6 ∧ yX6_ofGuide.cls ≠ "java/lang/invoke/MethodHandle" ∧ yX6_ofGuide.cls ≠ "java/lang/invoke/VarHandle" ∧ (parseMethodDescriptor yX6_ofGuide.desc).map (fun d => d.parameters.length) = some 2 := by decide +kernel
def f_X6_ofGuide (S : Hp) (x0 : Nat) (x1 : Int32) (x2 : Int32) : Option (Int32 × Hp) :=
 ob S 6 (some x0) fun _ =>
 ar S 9 (zR S x0 0) ((8 + (4 * x1)) + x2) fun a2 i1 =>
 some ((zI S a2 i1), S)
set_option maxHeartbeats 4000000 in
set_option maxRecDepth 100000 in
theorem c_X6_ofGuide (S : Hp) (x0 : Nat) (x1 : Int32) (x2 : Int32) (o : Int32 × Hp) (h : f_X6_ofGuide S x0 x1 x2 = some o) : CtI yX6_ofGuide cX6_ofGuide 3 (some .int) rm_X6_ofGuide 0 0 [va_rf (some x0), .int x1, .int x2] S o := by
  refine ct_I (own := RX6) (by decide) rfl (Nat.le_of_ble_eq_true rfl) (fun X C hn hQ => ?_)
  unfold f_X6_ofGuide at h
  show GW X 0 0 S 0 [(0, va_rf (some x0)), (1, .int x1), (2, .int x2)] []
  refine g_aload_n C (q := 0) dX6_ofGuide_0 rfl rfl ?_
  refine g_ogetSR C (ci := 6) (slot := 0) rfl (by decide) inlX6 (by decide) rfl q66 dX6_ofGuide_1 h (fun h hLa1 hKa1 => ?_)
  refine g_bipush C (v := 8) dX6_ofGuide_4 (by decide) ?_
  refine g_iconst C (v := 4) dX6_ofGuide_6 (by decide) ?_
  refine g_iload_n C (q := 1) dX6_ofGuide_7 rfl rfl ?_
  refine g_imul C dX6_ofGuide_8 ?_
  refine g_iadd C dX6_ofGuide_9 ?_
  refine g_iload_n C (q := 2) dX6_ofGuide_10 rfl rfl ?_
  refine g_iadd C dX6_ofGuide_11 ?_
  refine g_iald C dX6_ofGuide_12 h (fun a2 i1 h => ?_)
  exact g_iret C hQ dX6_ofGuide_13 h

abbrev rm_X6_of : Room := { frames := 0, cells := 0, slots := 0, locals := 0 }
theorem dsX6_of : yX6_of.cls = RX6 ∧ yX6_of.cls ≠ "java/lang/invoke/MethodHandle" ∧ yX6_of.cls ≠ "java/lang/invoke/VarHandle" ∧ (parseMethodDescriptor yX6_of.desc).map (fun d => d.parameters.length) = some 2 := by decide +kernel
def f_X6_of (S : Hp) (x0 : Nat) (x1 : Int32) (x2 : Int32) : Option (Int32 × Hp) :=
 ob S 6 (some x0) fun _ =>
 ar S 9 (zR S x0 0) ((40 + (14 * x1)) + x2) fun a2 i1 =>
 some ((zI S a2 i1), S)
set_option maxHeartbeats 4000000 in
set_option maxRecDepth 100000 in
theorem c_X6_of (S : Hp) (x0 : Nat) (x1 : Int32) (x2 : Int32) (o : Int32 × Hp) (h : f_X6_of S x0 x1 x2 = some o) : CtI yX6_of cX6_of 3 (some .int) rm_X6_of 0 0 [va_rf (some x0), .int x1, .int x2] S o := by
  refine ct_I (own := RX6) (by decide) rfl (Nat.le_of_ble_eq_true rfl) (fun X C hn hQ => ?_)
  unfold f_X6_of at h
  show GW X 0 0 S 0 [(0, va_rf (some x0)), (1, .int x1), (2, .int x2)] []
  refine g_aload_n C (q := 0) dX6_of_0 rfl rfl ?_
  refine g_ogetSR C (ci := 6) (slot := 0) rfl (by decide) inlX6 (by decide) rfl q66 dX6_of_1 h (fun h hLa1 hKa1 => ?_)
  refine g_bipush C (v := 40) dX6_of_4 (by decide) ?_
  refine g_bipush C (v := 14) dX6_of_6 (by decide) ?_
  refine g_iload_n C (q := 1) dX6_of_8 rfl rfl ?_
  refine g_imul C dX6_of_9 ?_
  refine g_iadd C dX6_of_10 ?_
  refine g_iload_n C (q := 2) dX6_of_11 rfl rfl ?_
  refine g_iadd C dX6_of_12 ?_
  refine g_iald C dX6_of_13 h (fun a2 i1 h => ?_)
  exact g_iret C hQ dX6_of_14 h

abbrev rm_X6_to : Room := { frames := 0, cells := 0, slots := 0, locals := 0 }
theorem dsX6_to : yX6_to.cls = RX6 ∧ yX6_to.cls ≠ "java/lang/invoke/MethodHandle" ∧ yX6_to.cls ≠ "java/lang/invoke/VarHandle" ∧ (parseMethodDescriptor yX6_to.desc).map (fun d => d.parameters.length) = some 3 := by decide +kernel
def f_X6_to (S : Hp) (x0 : Nat) (x1 : Int32) (x2 : Int32) (x3 : Int32) : Option (Unit × Hp) :=
 ob S 6 (some x0) fun _ =>
 ar S 9 (zR S x0 0) ((40 + (14 * x1)) + x2) fun a2 i1 => bnd (wI S a2 i1 x3) fun S1 =>
 some ((), S1)
set_option maxHeartbeats 4000000 in
set_option maxRecDepth 100000 in
theorem c_X6_to (S : Hp) (x0 : Nat) (x1 : Int32) (x2 : Int32) (x3 : Int32) (o : Unit × Hp) (h : f_X6_to S x0 x1 x2 x3 = some o) : CtV yX6_to cX6_to 4 none rm_X6_to 0 0 [va_rf (some x0), .int x1, .int x2, .int x3] S o := by
  refine ct_V (own := RX6) (by decide) rfl (Nat.le_of_ble_eq_true rfl) (fun X C hn hQ => ?_)
  unfold f_X6_to at h
  show GW X 0 0 S 0 [(0, va_rf (some x0)), (1, .int x1), (2, .int x2), (3, .int x3)] []
  refine g_aload_n C (q := 0) dX6_to_0 rfl rfl ?_
  refine g_ogetSR C (ci := 6) (slot := 0) rfl (by decide) inlX6 (by decide) rfl q66 dX6_to_1 h (fun h hLa1 hKa1 => ?_)
  refine g_bipush C (v := 40) dX6_to_4 (by decide) ?_
  refine g_bipush C (v := 14) dX6_to_6 (by decide) ?_
  refine g_iload_n C (q := 1) dX6_to_8 rfl rfl ?_
  refine g_imul C dX6_to_9 ?_
  refine g_iadd C dX6_to_10 ?_
  refine g_iload_n C (q := 2) dX6_to_11 rfl rfl ?_
  refine g_iadd C dX6_to_12 ?_
  refine g_iload_n C (q := 3) dX6_to_13 rfl rfl ?_
  refine g_iast C dX6_to_14 h (fun a2 i1 S1 h => ?_)
  exact g_vret C hQ dX6_to_15 h

abbrev rm_X6_isOpen : Room := { frames := 1, cells := 0, slots := 0, locals := 22 }
theorem dsX6_isOpen : yX6_isOpen.cls = RX6 ∧ yX6_isOpen.cls ≠ "java/lang/invoke/MethodHandle" ∧ yX6_isOpen.cls ≠ "java/lang/invoke/VarHandle" ∧ (parseMethodDescriptor yX6_isOpen.desc).map (fun d => d.parameters.length) = some 1 := by decide +kernel
theorem gv_RX6_X6_of : GoodIn wsL_law (wsV RX6 41 RX6 yX6_of (.code yX6_of cX6_of 3 (some .int) :: wsL_law)) := good_V q284 q285 q286 q5 q287
def f_X6_isOpen (S : Hp) (x0 : Nat) (x1 : Int32) : Option (Int32 × Hp) :=
 ob S 6 (some x0) fun b1 => cl (f_X6_of S b1 x1 (6 : Int32)) fun v1 S1 =>
 if v1 = 0 then
 some ((1 : Int32), S1)
 else
 some ((0 : Int32), S1)
set_option maxHeartbeats 4000000 in
set_option maxRecDepth 100000 in
theorem c_X6_isOpen (S : Hp) (x0 : Nat) (x1 : Int32) (o : Int32 × Hp) (h : f_X6_isOpen S x0 x1 = some o) : CtI yX6_isOpen cX6_isOpen 2 (some .boolean) rm_X6_isOpen 0 0 [va_rf (some x0), .int x1] S o := by
  refine ct_I (own := RX6) (by decide) rfl (Nat.le_of_ble_eq_true rfl) (fun X C hn hQ => ?_)
  unfold f_X6_isOpen at h
  show GW X 0 0 S 0 [(0, va_rf (some x0)), (1, .int x1)] []
  refine g_aload_n C (q := 0) dX6_isOpen_0 rfl rfl ?_
  refine g_iload_n C (q := 1) dX6_isOpen_1 rfl rfl ?_
  refine g_bipush C (v := 6) dX6_isOpen_2 (by decide) ?_
  refine g_callVI C (ci := 6) (As := [.int x1, .int 6]) (np := 2) (st := []) (r := (some x0)) rfl (by decide) (fun b1 q hq => c_X6_of S b1 x1 (6 : Int32) q hq) gv_RX6_X6_of rfl rfl dsX6_of rfl ⟨Nat.le_of_ble_eq_true rfl, Nat.le_of_ble_eq_true rfl⟩ rfl (cat_sum (Nat.le_of_ble_eq_true rfl)) ⟨Nat.zero_le _, Nat.zero_le _⟩ dX6_isOpen_4 h (fun v1 S1 h => ?_)
  refine g_if_ne C (tgt := 14) dX6_isOpen_7 (by decide) h (fun h => ?_) (fun h => ?_)
  · refine g_iconst C (v := 1) dX6_isOpen_10 (by decide) ?_
    refine g_goto C (tgt := 15) dX6_isOpen_11 (by decide) ?_
    exact g_zret C hQ (by decide) dX6_isOpen_15 h
  · refine g_iconst C (v := 0) dX6_isOpen_14 (by decide) ?_
    exact g_zret C hQ (by decide) dX6_isOpen_15 h

abbrev rm_X6_isCertificate : Room := { frames := 1, cells := 0, slots := 0, locals := 22 }
theorem dsX6_isCertificate : yX6_isCertificate.cls ≠ "java/lang/invoke/MethodHandle" ∧ yX6_isCertificate.cls ≠ "java/lang/invoke/VarHandle" ∧ (parseMethodDescriptor yX6_isCertificate.desc).map (fun d => d.parameters.length) = some 2 := by decide +kernel
def f_X6_isCertificate (S : Hp) (x0 : Int32) (x1 : Int32) : Option (Int32 × Hp) :=
 cl (f_X6_in S x0 (1 : Int32) (3 : Int32)) fun v1 S1 =>
 if v1 = 0 then
 some ((0 : Int32), S1)
 else
 cl (f_X6_in S1 x1 (0 : Int32) (999 : Int32)) fun v2 S2 =>
 if v2 = 0 then
 some ((0 : Int32), S2)
 else
 some ((1 : Int32), S2)
set_option maxHeartbeats 4000000 in
set_option maxRecDepth 100000 in
theorem c_X6_isCertificate (S : Hp) (x0 : Int32) (x1 : Int32) (o : Int32 × Hp) (h : f_X6_isCertificate S x0 x1 = some o) : CtI yX6_isCertificate cX6_isCertificate 2 (some .boolean) rm_X6_isCertificate 0 0 [.int x0, .int x1] S o := by
  refine ct_I (own := RX6) (by decide) rfl (Nat.le_of_ble_eq_true rfl) (fun X C hn hQ => ?_)
  unfold f_X6_isCertificate at h
  show GW X 0 0 S 0 [(0, .int x0), (1, .int x1)] []
  refine g_iload_n C (q := 0) dX6_isCertificate_0 rfl rfl ?_
  refine g_iconst C (v := 1) dX6_isCertificate_1 (by decide) ?_
  refine g_iconst C (v := 3) dX6_isCertificate_2 (by decide) ?_
  refine g_callSI C (As := [.int x0, .int 1, .int 3]) (np := 3) (st := []) (fun q hq => c_X6_in S x0 (1 : Int32) (3 : Int32) q hq) gs_RX6_X6_in rfl rfl dsX6_in rfl ⟨Nat.le_of_ble_eq_true rfl, Nat.le_of_ble_eq_true rfl⟩ rfl (cat_sum (Nat.le_of_ble_eq_true rfl)) ⟨Nat.zero_le _, Nat.zero_le _⟩ dX6_isCertificate_3 h (fun v1 S1 h => ?_)
  refine g_if_eq C (tgt := 24) dX6_isCertificate_6 (by decide) h (fun h => ?_) (fun h => ?_)
  · refine g_iconst C (v := 0) dX6_isCertificate_24 (by decide) ?_
    exact g_zret C hQ (by decide) dX6_isCertificate_25 h
  · refine g_iload_n C (q := 1) dX6_isCertificate_9 rfl rfl ?_
    refine g_iconst C (v := 0) dX6_isCertificate_10 (by decide) ?_
    refine g_sipush C (v := 999) dX6_isCertificate_11 (by decide) ?_
    refine g_callSI C (As := [.int x1, .int 0, .int 999]) (np := 3) (st := []) (fun q hq => c_X6_in S1 x1 (0 : Int32) (999 : Int32) q hq) gs_RX6_X6_in rfl rfl dsX6_in rfl ⟨Nat.le_of_ble_eq_true rfl, Nat.le_of_ble_eq_true rfl⟩ rfl (cat_sum (Nat.le_of_ble_eq_true rfl)) ⟨Nat.zero_le _, Nat.zero_le _⟩ dX6_isCertificate_14 h (fun v2 S2 h => ?_)
    refine g_if_eq C (tgt := 24) dX6_isCertificate_17 (by decide) h (fun h => ?_) (fun h => ?_)
    · refine g_iconst C (v := 0) dX6_isCertificate_24 (by decide) ?_
      exact g_zret C hQ (by decide) dX6_isCertificate_25 h
    · refine g_iconst C (v := 1) dX6_isCertificate_20 (by decide) ?_
      refine g_goto C (tgt := 25) dX6_isCertificate_21 (by decide) ?_
      exact g_zret C hQ (by decide) dX6_isCertificate_25 h

abbrev rm_X6_addGuide : Room := { frames := 2, cells := 0, slots := 0, locals := 43 }
theorem dsX6_addGuide : yX6_addGuide.cls = RX6 ∧ yX6_addGuide.cls ≠ "java/lang/invoke/MethodHandle" ∧ yX6_addGuide.cls ≠ "java/lang/invoke/VarHandle" ∧ (parseMethodDescriptor yX6_addGuide.desc).map (fun d => d.parameters.length) = some 2 := by decide +kernel
theorem gs_RX6_X6_isCertificate : GoodIn wsL_law (va_wsS RX6 45 yX6_isCertificate (.code yX6_isCertificate cX6_isCertificate 2 (some .boolean) :: wsL_law)) := good_S q141 q142 q5 q143
theorem gv_RX6_X6_record : GoodIn wsL_law (wsV RX6 49 RX6 yX6_record (.code yX6_record cX6_record 2 none :: wsL_law)) := good_V q147 q148 q149 q5 q150
def f_X6_addGuide (S : Hp) (x0 : Nat) (x1 : Int32) (x2 : Int32) : Option (Int32 × Hp) :=
 cl (f_X6_isCertificate S x1 x2) fun v1 S1 =>
 if v1 = 0 then
 some ((-2 : Int32), S1)
 else
 ob S1 6 (some x0) fun _ =>
 ar S1 9 (zR S1 x0 0) (1 : Int32) fun a2 i1 =>
 if (zI S1 a2 i1) = 8 then
 some ((-3 : Int32), S1)
 else
 ob S1 6 (some x0) fun b1 => cl (f_X6_record S1 b1 ) fun _ S2 =>
 ob S2 6 (some x0) fun _ =>
 ar S2 9 (zR S2 x0 0) (1 : Int32) fun a4 i2 =>
 bnd ((zI S2 a4 i2)) fun v2 =>
 ar S2 9 (zR S2 x0 0) (1 : Int32) fun a5 i3 =>
 ar S2 9 (zR S2 x0 0) (1 : Int32) fun a6 i4 => bnd (wI S2 a6 i4 ((zI S2 a5 i3) + 1)) fun S3 =>
 ob S3 6 (some x0) fun _ =>
 ar S3 9 (zR S3 x0 0) ((8 + (4 * v2)) + 0) fun a8 i5 => bnd (wI S3 a8 i5 x1) fun S4 =>
 ob S4 6 (some x0) fun _ =>
 ar S4 9 (zR S4 x0 0) ((8 + (4 * v2)) + 1) fun a10 i6 => bnd (wI S4 a10 i6 x2) fun S5 =>
 ob S5 6 (some x0) fun _ =>
 ar S5 9 (zR S5 x0 0) ((8 + (4 * v2)) + 2) fun a12 i7 => bnd (wI S5 a12 i7 (0 : Int32)) fun S6 =>
 ob S6 6 (some x0) fun _ =>
 ar S6 9 (zR S6 x0 0) ((8 + (4 * v2)) + 3) fun a14 i8 => bnd (wI S6 a14 i8 (0 : Int32)) fun S7 =>
 some (v2, S7)
set_option maxHeartbeats 4000000 in
set_option maxRecDepth 100000 in
theorem c_X6_addGuide (S : Hp) (x0 : Nat) (x1 : Int32) (x2 : Int32) (o : Int32 × Hp) (h : f_X6_addGuide S x0 x1 x2 = some o) : CtI yX6_addGuide cX6_addGuide 4 (some .int) rm_X6_addGuide 0 0 [va_rf (some x0), .int x1, .int x2] S o := by
  refine ct_I (own := RX6) (by decide) rfl (Nat.le_of_ble_eq_true rfl) (fun X C hn hQ => ?_)
  have hn3 : 3 < xn X := by rw [hn]; decide
  unfold f_X6_addGuide at h
  show GW X 0 0 S 0 [(0, va_rf (some x0)), (1, .int x1), (2, .int x2)] []
  refine g_iload_n C (q := 1) dX6_addGuide_0 rfl rfl ?_
  refine g_iload_n C (q := 2) dX6_addGuide_1 rfl rfl ?_
  refine g_callSI C (As := [.int x1, .int x2]) (np := 2) (st := []) (fun q hq => c_X6_isCertificate S x1 x2 q hq) gs_RX6_X6_isCertificate rfl rfl dsX6_isCertificate rfl ⟨Nat.le_of_ble_eq_true rfl, Nat.le_of_ble_eq_true rfl⟩ rfl (cat_sum (Nat.le_of_ble_eq_true rfl)) ⟨Nat.zero_le _, Nat.zero_le _⟩ dX6_addGuide_2 h (fun v1 S1 h => ?_)
  refine g_if_ne C (tgt := 11) dX6_addGuide_5 (by decide) h (fun h => ?_) (fun h => ?_)
  · refine g_bipush C (v := (-2)) dX6_addGuide_8 (by decide) ?_
    exact g_iret C hQ dX6_addGuide_10 h
  · refine g_aload_n C (q := 0) dX6_addGuide_11 rfl rfl ?_
    refine g_ogetSR C (ci := 6) (slot := 0) rfl (by decide) inlX6 (by decide) rfl q66 dX6_addGuide_12 h (fun h hLa1 hKa1 => ?_)
    refine g_iconst C (v := 1) dX6_addGuide_15 (by decide) ?_
    refine g_iald C dX6_addGuide_16 h (fun a2 i1 h => ?_)
    refine g_bipush C (v := 8) dX6_addGuide_17 (by decide) ?_
    refine g_icmp_ne C (tgt := 25) dX6_addGuide_19 (by decide) h (fun h => ?_) (fun h => ?_)
    · refine g_bipush C (v := (-3)) dX6_addGuide_22 (by decide) ?_
      exact g_iret C hQ dX6_addGuide_24 h
    · refine g_aload_n C (q := 0) dX6_addGuide_25 rfl rfl ?_
      refine g_callVV C (ci := 6) (As := []) (np := 0) (st := []) (r := (some x0)) rfl (by decide) (fun b1 q hq => c_X6_record S1 b1  q hq) gv_RX6_X6_record rfl rfl dsX6_record rfl ⟨Nat.le_of_ble_eq_true rfl, Nat.le_of_ble_eq_true rfl⟩ rfl (cat_sum (Nat.le_of_ble_eq_true rfl)) ⟨Nat.zero_le _, Nat.zero_le _⟩ dX6_addGuide_26 h (fun S2 h => ?_)
      refine g_aload_n C (q := 0) dX6_addGuide_29 rfl rfl ?_
      refine g_ogetSR C (ci := 6) (slot := 0) rfl (by decide) inlX6 (by decide) rfl q66 dX6_addGuide_30 h (fun h hLa3 hKa3 => ?_)
      refine g_iconst C (v := 1) dX6_addGuide_33 (by decide) ?_
      refine g_iald C dX6_addGuide_34 h (fun a4 i2 h => ?_)
      refine g_nmI h (fun v2 h => ?_)
      refine g_istore_n C (i := 3) (lv' := [(3, .int v2), (0, va_rf (some x0)), (1, .int x1), (2, .int x2)]) dX6_addGuide_35 rfl hn3 rfl ?_
      refine g_aload_n C (q := 1) dX6_addGuide_36 rfl rfl ?_
      refine g_getER C (ci := 6) (slot := 0) rfl (by decide) inlX6 (by decide) rfl q66 dX6_addGuide_37 rfl hLa3 hKa3 ?_
      refine g_iconst C (v := 1) dX6_addGuide_40 (by decide) ?_
      refine g_dup2 C dX6_addGuide_41 rfl (va_rf_cat _) ?_
      refine g_iald C dX6_addGuide_42 h (fun a5 i3 h => ?_)
      refine g_iconst C (v := 1) dX6_addGuide_43 (by decide) ?_
      refine g_iadd C dX6_addGuide_44 ?_
      refine g_iast C dX6_addGuide_45 h (fun a6 i4 S3 h => ?_)
      refine g_aload_n C (q := 1) dX6_addGuide_46 rfl rfl ?_
      refine g_ogetSR C (ci := 6) (slot := 0) rfl (by decide) inlX6 (by decide) rfl q66 dX6_addGuide_47 h (fun h hLa7 hKa7 => ?_)
      refine g_bipush C (v := 8) dX6_addGuide_50 (by decide) ?_
      refine g_iconst C (v := 4) dX6_addGuide_52 (by decide) ?_
      refine g_iload_n C (q := 0) dX6_addGuide_53 rfl rfl ?_
      refine g_imul C dX6_addGuide_54 ?_
      refine g_iadd C dX6_addGuide_55 ?_
      refine g_iconst C (v := 0) dX6_addGuide_56 (by decide) ?_
      refine g_iadd C dX6_addGuide_57 ?_
      refine g_iload_n C (q := 2) dX6_addGuide_58 rfl rfl ?_
      refine g_iast C dX6_addGuide_59 h (fun a8 i5 S4 h => ?_)
      refine g_aload_n C (q := 1) dX6_addGuide_60 rfl rfl ?_
      refine g_ogetSR C (ci := 6) (slot := 0) rfl (by decide) inlX6 (by decide) rfl q66 dX6_addGuide_61 h (fun h hLa9 hKa9 => ?_)
      refine g_bipush C (v := 8) dX6_addGuide_64 (by decide) ?_
      refine g_iconst C (v := 4) dX6_addGuide_66 (by decide) ?_
      refine g_iload_n C (q := 0) dX6_addGuide_67 rfl rfl ?_
      refine g_imul C dX6_addGuide_68 ?_
      refine g_iadd C dX6_addGuide_69 ?_
      refine g_iconst C (v := 1) dX6_addGuide_70 (by decide) ?_
      refine g_iadd C dX6_addGuide_71 ?_
      refine g_iload_n C (q := 3) dX6_addGuide_72 rfl rfl ?_
      refine g_iast C dX6_addGuide_73 h (fun a10 i6 S5 h => ?_)
      refine g_aload_n C (q := 1) dX6_addGuide_74 rfl rfl ?_
      refine g_ogetSR C (ci := 6) (slot := 0) rfl (by decide) inlX6 (by decide) rfl q66 dX6_addGuide_75 h (fun h hLa11 hKa11 => ?_)
      refine g_bipush C (v := 8) dX6_addGuide_78 (by decide) ?_
      refine g_iconst C (v := 4) dX6_addGuide_80 (by decide) ?_
      refine g_iload_n C (q := 0) dX6_addGuide_81 rfl rfl ?_
      refine g_imul C dX6_addGuide_82 ?_
      refine g_iadd C dX6_addGuide_83 ?_
      refine g_iconst C (v := 2) dX6_addGuide_84 (by decide) ?_
      refine g_iadd C dX6_addGuide_85 ?_
      refine g_iconst C (v := 0) dX6_addGuide_86 (by decide) ?_
      refine g_iast C dX6_addGuide_87 h (fun a12 i7 S6 h => ?_)
      refine g_aload_n C (q := 1) dX6_addGuide_88 rfl rfl ?_
      refine g_ogetSR C (ci := 6) (slot := 0) rfl (by decide) inlX6 (by decide) rfl q66 dX6_addGuide_89 h (fun h hLa13 hKa13 => ?_)
      refine g_bipush C (v := 8) dX6_addGuide_92 (by decide) ?_
      refine g_iconst C (v := 4) dX6_addGuide_94 (by decide) ?_
      refine g_iload_n C (q := 0) dX6_addGuide_95 rfl rfl ?_
      refine g_imul C dX6_addGuide_96 ?_
      refine g_iadd C dX6_addGuide_97 ?_
      refine g_iconst C (v := 3) dX6_addGuide_98 (by decide) ?_
      refine g_iadd C dX6_addGuide_99 ?_
      refine g_iconst C (v := 0) dX6_addGuide_100 (by decide) ?_
      refine g_iast C dX6_addGuide_101 h (fun a14 i8 S7 h => ?_)
      refine g_iload_n C (q := 0) dX6_addGuide_102 rfl rfl ?_
      exact g_iret C hQ dX6_addGuide_103 h

abbrev rm_X6_renew : Room := { frames := 2, cells := 0, slots := 0, locals := 43 }
theorem dsX6_renew : yX6_renew.cls = RX6 ∧ yX6_renew.cls ≠ "java/lang/invoke/MethodHandle" ∧ yX6_renew.cls ≠ "java/lang/invoke/VarHandle" ∧ (parseMethodDescriptor yX6_renew.desc).map (fun d => d.parameters.length) = some 3 := by decide +kernel
theorem gv_RX6_X6_noGuide : GoodIn wsL_law (wsV RX6 52 RX6 yX6_noGuide (.code yX6_noGuide cX6_noGuide 2 (some .boolean) :: wsL_law)) := good_V q167 q168 q169 q5 q170
theorem gv_RX6_X6_ofGuide : GoodIn wsL_law (wsV RX6 56 RX6 yX6_ofGuide (.code yX6_ofGuide cX6_ofGuide 3 (some .int) :: wsL_law)) := good_V q171 q172 q173 q5 q174
def f_X6_renew (S : Hp) (x0 : Nat) (x1 : Int32) (x2 : Int32) (x3 : Int32) : Option (Int32 × Hp) :=
 ob S 6 (some x0) fun b1 => cl (f_X6_noGuide S b1 x1) fun v1 S1 =>
 if v1 = 0 then
 cl (f_X6_isCertificate S1 x2 x3) fun v2 S2 =>
 if v2 = 0 then
 some ((-2 : Int32), S2)
 else
 ob S2 6 (some x0) fun b2 => cl (f_X6_ofGuide S2 b2 x1 (1 : Int32)) fun v3 S3 =>
 if v3 = x3 then
 ob S3 6 (some x0) fun b3 => cl (f_X6_ofGuide S3 b3 x1 (0 : Int32)) fun v4 S4 =>
 if v4 = x2 then
 some ((-5 : Int32), S4)
 else
 ob S4 6 (some x0) fun b4 => cl (f_X6_record S4 b4 ) fun _ S5 =>
 ob S5 6 (some x0) fun _ =>
 ar S5 9 (zR S5 x0 0) ((8 + (4 * x1)) + 0) fun a2 i1 => bnd (wI S5 a2 i1 x2) fun S6 =>
 ob S6 6 (some x0) fun _ =>
 ar S6 9 (zR S6 x0 0) ((8 + (4 * x1)) + 1) fun a4 i2 => bnd (wI S6 a4 i2 x3) fun S7 =>
 some (v3, S7)
 else
 ob S3 6 (some x0) fun b5 => cl (f_X6_record S3 b5 ) fun _ S8 =>
 ob S8 6 (some x0) fun _ =>
 ar S8 9 (zR S8 x0 0) ((8 + (4 * x1)) + 0) fun a6 i3 => bnd (wI S8 a6 i3 x2) fun S9 =>
 ob S9 6 (some x0) fun _ =>
 ar S9 9 (zR S9 x0 0) ((8 + (4 * x1)) + 1) fun a8 i4 => bnd (wI S9 a8 i4 x3) fun S10 =>
 some (v3, S10)
 else
 some ((-1 : Int32), S1)
set_option maxHeartbeats 4000000 in
set_option maxRecDepth 100000 in
theorem c_X6_renew (S : Hp) (x0 : Nat) (x1 : Int32) (x2 : Int32) (x3 : Int32) (o : Int32 × Hp) (h : f_X6_renew S x0 x1 x2 x3 = some o) : CtI yX6_renew cX6_renew 5 (some .int) rm_X6_renew 0 0 [va_rf (some x0), .int x1, .int x2, .int x3] S o := by
  refine ct_I (own := RX6) (by decide) rfl (Nat.le_of_ble_eq_true rfl) (fun X C hn hQ => ?_)
  have hn4 : 4 < xn X := by rw [hn]; decide
  unfold f_X6_renew at h
  show GW X 0 0 S 0 [(0, va_rf (some x0)), (1, .int x1), (2, .int x2), (3, .int x3)] []
  refine g_aload_n C (q := 0) dX6_renew_0 rfl rfl ?_
  refine g_iload_n C (q := 1) dX6_renew_1 rfl rfl ?_
  refine g_callVI C (ci := 6) (As := [.int x1]) (np := 1) (st := []) (r := (some x0)) rfl (by decide) (fun b1 q hq => c_X6_noGuide S b1 x1 q hq) gv_RX6_X6_noGuide rfl rfl dsX6_noGuide rfl ⟨Nat.le_of_ble_eq_true rfl, Nat.le_of_ble_eq_true rfl⟩ rfl (cat_sum (Nat.le_of_ble_eq_true rfl)) ⟨Nat.zero_le _, Nat.zero_le _⟩ dX6_renew_2 h (fun v1 S1 h => ?_)
  refine g_if_eq C (tgt := 10) dX6_renew_5 (by decide) h (fun h => ?_) (fun h => ?_)
  · refine g_iload_n C (q := 2) dX6_renew_10 rfl rfl ?_
    refine g_iload_n C (q := 3) dX6_renew_11 rfl rfl ?_
    refine g_callSI C (As := [.int x2, .int x3]) (np := 2) (st := []) (fun q hq => c_X6_isCertificate S1 x2 x3 q hq) gs_RX6_X6_isCertificate rfl rfl dsX6_isCertificate rfl ⟨Nat.le_of_ble_eq_true rfl, Nat.le_of_ble_eq_true rfl⟩ rfl (cat_sum (Nat.le_of_ble_eq_true rfl)) ⟨Nat.zero_le _, Nat.zero_le _⟩ dX6_renew_12 h (fun v2 S2 h => ?_)
    refine g_if_ne C (tgt := 21) dX6_renew_15 (by decide) h (fun h => ?_) (fun h => ?_)
    · refine g_bipush C (v := (-2)) dX6_renew_18 (by decide) ?_
      exact g_iret C hQ dX6_renew_20 h
    · refine g_aload_n C (q := 0) dX6_renew_21 rfl rfl ?_
      refine g_iload_n C (q := 1) dX6_renew_22 rfl rfl ?_
      refine g_iconst C (v := 1) dX6_renew_23 (by decide) ?_
      refine g_callVI C (ci := 6) (As := [.int x1, .int 1]) (np := 2) (st := []) (r := (some x0)) rfl (by decide) (fun b2 q hq => c_X6_ofGuide S2 b2 x1 (1 : Int32) q hq) gv_RX6_X6_ofGuide rfl rfl dsX6_ofGuide rfl ⟨Nat.le_of_ble_eq_true rfl, Nat.le_of_ble_eq_true rfl⟩ rfl (cat_sum (Nat.le_of_ble_eq_true rfl)) ⟨Nat.zero_le _, Nat.zero_le _⟩ dX6_renew_24 h (fun v3 S3 h => ?_)
      refine g_istore C (i := 4) (lv' := [(4, .int v3), (0, va_rf (some x0)), (1, .int x1), (2, .int x2), (3, .int x3)]) dX6_renew_27 hn4 rfl ?_
      refine g_iload C (q := 0) dX6_renew_29 rfl ?_
      refine g_iload_n C (q := 4) dX6_renew_31 rfl rfl ?_
      refine g_icmp_ne C (tgt := 48) dX6_renew_32 (by decide) h (fun h => ?_) (fun h => ?_)
      · refine g_aload_n C (q := 1) dX6_renew_35 rfl rfl ?_
        refine g_iload_n C (q := 2) dX6_renew_36 rfl rfl ?_
        refine g_iconst C (v := 0) dX6_renew_37 (by decide) ?_
        refine g_callVI C (ci := 6) (As := [.int x1, .int 0]) (np := 2) (st := []) (r := (some x0)) rfl (by decide) (fun b3 q hq => c_X6_ofGuide S3 b3 x1 (0 : Int32) q hq) gv_RX6_X6_ofGuide rfl rfl dsX6_ofGuide rfl ⟨Nat.le_of_ble_eq_true rfl, Nat.le_of_ble_eq_true rfl⟩ rfl (cat_sum (Nat.le_of_ble_eq_true rfl)) ⟨Nat.zero_le _, Nat.zero_le _⟩ dX6_renew_38 h (fun v4 S4 h => ?_)
        refine g_iload_n C (q := 3) dX6_renew_41 rfl rfl ?_
        refine g_icmp_ne C (tgt := 48) dX6_renew_42 (by decide) h (fun h => ?_) (fun h => ?_)
        · refine g_bipush C (v := (-5)) dX6_renew_45 (by decide) ?_
          exact g_iret C hQ dX6_renew_47 h
        · refine g_aload_n C (q := 1) dX6_renew_48 rfl rfl ?_
          refine g_callVV C (ci := 6) (As := []) (np := 0) (st := []) (r := (some x0)) rfl (by decide) (fun b4 q hq => c_X6_record S4 b4  q hq) gv_RX6_X6_record rfl rfl dsX6_record rfl ⟨Nat.le_of_ble_eq_true rfl, Nat.le_of_ble_eq_true rfl⟩ rfl (cat_sum (Nat.le_of_ble_eq_true rfl)) ⟨Nat.zero_le _, Nat.zero_le _⟩ dX6_renew_49 h (fun S5 h => ?_)
          refine g_aload_n C (q := 1) dX6_renew_52 rfl rfl ?_
          refine g_ogetSR C (ci := 6) (slot := 0) rfl (by decide) inlX6 (by decide) rfl q66 dX6_renew_53 h (fun h hLa1 hKa1 => ?_)
          refine g_bipush C (v := 8) dX6_renew_56 (by decide) ?_
          refine g_iconst C (v := 4) dX6_renew_58 (by decide) ?_
          refine g_iload_n C (q := 2) dX6_renew_59 rfl rfl ?_
          refine g_imul C dX6_renew_60 ?_
          refine g_iadd C dX6_renew_61 ?_
          refine g_iconst C (v := 0) dX6_renew_62 (by decide) ?_
          refine g_iadd C dX6_renew_63 ?_
          refine g_iload_n C (q := 3) dX6_renew_64 rfl rfl ?_
          refine g_iast C dX6_renew_65 h (fun a2 i1 S6 h => ?_)
          refine g_aload_n C (q := 1) dX6_renew_66 rfl rfl ?_
          refine g_ogetSR C (ci := 6) (slot := 0) rfl (by decide) inlX6 (by decide) rfl q66 dX6_renew_67 h (fun h hLa3 hKa3 => ?_)
          refine g_bipush C (v := 8) dX6_renew_70 (by decide) ?_
          refine g_iconst C (v := 4) dX6_renew_72 (by decide) ?_
          refine g_iload_n C (q := 2) dX6_renew_73 rfl rfl ?_
          refine g_imul C dX6_renew_74 ?_
          refine g_iadd C dX6_renew_75 ?_
          refine g_iconst C (v := 1) dX6_renew_76 (by decide) ?_
          refine g_iadd C dX6_renew_77 ?_
          refine g_iload_n C (q := 4) dX6_renew_78 rfl rfl ?_
          refine g_iast C dX6_renew_79 h (fun a4 i2 S7 h => ?_)
          refine g_iload C (q := 0) dX6_renew_80 rfl ?_
          exact g_iret C hQ dX6_renew_82 h
      · refine g_aload_n C (q := 1) dX6_renew_48 rfl rfl ?_
        refine g_callVV C (ci := 6) (As := []) (np := 0) (st := []) (r := (some x0)) rfl (by decide) (fun b5 q hq => c_X6_record S3 b5  q hq) gv_RX6_X6_record rfl rfl dsX6_record rfl ⟨Nat.le_of_ble_eq_true rfl, Nat.le_of_ble_eq_true rfl⟩ rfl (cat_sum (Nat.le_of_ble_eq_true rfl)) ⟨Nat.zero_le _, Nat.zero_le _⟩ dX6_renew_49 h (fun S8 h => ?_)
        refine g_aload_n C (q := 1) dX6_renew_52 rfl rfl ?_
        refine g_ogetSR C (ci := 6) (slot := 0) rfl (by decide) inlX6 (by decide) rfl q66 dX6_renew_53 h (fun h hLa5 hKa5 => ?_)
        refine g_bipush C (v := 8) dX6_renew_56 (by decide) ?_
        refine g_iconst C (v := 4) dX6_renew_58 (by decide) ?_
        refine g_iload_n C (q := 2) dX6_renew_59 rfl rfl ?_
        refine g_imul C dX6_renew_60 ?_
        refine g_iadd C dX6_renew_61 ?_
        refine g_iconst C (v := 0) dX6_renew_62 (by decide) ?_
        refine g_iadd C dX6_renew_63 ?_
        refine g_iload_n C (q := 3) dX6_renew_64 rfl rfl ?_
        refine g_iast C dX6_renew_65 h (fun a6 i3 S9 h => ?_)
        refine g_aload_n C (q := 1) dX6_renew_66 rfl rfl ?_
        refine g_ogetSR C (ci := 6) (slot := 0) rfl (by decide) inlX6 (by decide) rfl q66 dX6_renew_67 h (fun h hLa7 hKa7 => ?_)
        refine g_bipush C (v := 8) dX6_renew_70 (by decide) ?_
        refine g_iconst C (v := 4) dX6_renew_72 (by decide) ?_
        refine g_iload_n C (q := 2) dX6_renew_73 rfl rfl ?_
        refine g_imul C dX6_renew_74 ?_
        refine g_iadd C dX6_renew_75 ?_
        refine g_iconst C (v := 1) dX6_renew_76 (by decide) ?_
        refine g_iadd C dX6_renew_77 ?_
        refine g_iload_n C (q := 4) dX6_renew_78 rfl rfl ?_
        refine g_iast C dX6_renew_79 h (fun a8 i4 S10 h => ?_)
        refine g_iload C (q := 0) dX6_renew_80 rfl ?_
        exact g_iret C hQ dX6_renew_82 h
  · refine g_iconst C (v := (-1)) dX6_renew_8 (by decide) ?_
    exact g_iret C hQ dX6_renew_9 h

abbrev rm_X6_isUpTo : Room := { frames := 1, cells := 0, slots := 0, locals := 23 }
theorem dsX6_isUpTo : yX6_isUpTo.cls ≠ "java/lang/invoke/MethodHandle" ∧ yX6_isUpTo.cls ≠ "java/lang/invoke/VarHandle" ∧ (parseMethodDescriptor yX6_isUpTo.desc).map (fun d => d.parameters.length) = some 2 := by decide +kernel
def f_X6_isUpTo (S : Hp) (x0 : Int64) (x2 : UInt64) : Option (Int32 × Hp) :=
 if (lg_cmp x0 0) < 0 then
 some ((0 : Int32), S)
 else
 if (lg_cmp x0 9218868437227405312) ≤ 0 then
 gd (vn_snl2d x0 = false) <|
 bnd ((x0.toUInt64)) fun e1 =>
 if (Op.cmpValue (FP.dcmp e1 FP.dconst0) CmpOp.l) < 0 then
 some ((0 : Int32), S)
 else
 if 0 < (Op.cmpValue (FP.dcmp e1 x2) CmpOp.g) then
 some ((0 : Int32), S)
 else
 some ((1 : Int32), S)
 else
 some ((0 : Int32), S)
set_option maxHeartbeats 4000000 in
set_option maxRecDepth 100000 in
theorem c_X6_isUpTo (S : Hp) (x0 : Int64) (x2 : UInt64) (o : Int32 × Hp) (h : f_X6_isUpTo S x0 x2 = some o) : CtI yX6_isUpTo cX6_isUpTo 6 (some .boolean) rm_X6_isUpTo 0 0 [.long x0, .double x2] S o := by
  refine ct_I (own := RX6) (by decide) rfl (Nat.le_of_ble_eq_true rfl) (fun X C hn hQ => ?_)
  have hn5 : 5 < xn X := by rw [hn]; decide
  unfold f_X6_isUpTo at h
  show GW X 0 0 S 0 [(0, .long x0), (2, .double x2)] []
  refine g_lload_n C (q := 0) dX6_isUpTo_0 rfl rfl ?_
  refine g_lconst C (v := 0) dX6_isUpTo_1 (by decide) ?_
  refine g_lcmp C dX6_isUpTo_2 ?_
  refine g_if_lt C (tgt := 14) dX6_isUpTo_3 (by decide) h (fun h => ?_) (fun h => ?_)
  · refine g_iconst C (v := 0) dX6_isUpTo_14 (by decide) ?_
    exact g_zret C hQ (by decide) dX6_isUpTo_15 h
  · refine g_lload_n C (q := 0) dX6_isUpTo_6 rfl rfl ?_
    refine g_ldc2l C q206 dX6_isUpTo_7 ?_
    refine g_lcmp C dX6_isUpTo_10 ?_
    refine g_if_le C (tgt := 16) dX6_isUpTo_11 (by decide) h (fun h => ?_) (fun h => ?_)
    · refine g_lload_n C (q := 0) dX6_isUpTo_16 rfl rfl ?_
      refine g_lb2d C q199 q200 q201 q202 (by decide) (by decide) (cat_sum (Nat.le_of_ble_eq_true rfl)) dX6_isUpTo_17 h (fun h => ?_)
      refine g_nmD h (fun e1 h => ?_)
      refine g_dstore C (i := 4) (lv' := [(4, .double e1), (0, .long x0), (2, .double x2)]) dX6_isUpTo_20 hn5 rfl ?_
      refine g_dload C (q := 0) dX6_isUpTo_22 rfl ?_
      refine g_dconst0 C dX6_isUpTo_24 ?_
      refine g_dcmp C dX6_isUpTo_25 ?_
      refine g_if_lt C (tgt := 40) dX6_isUpTo_26 (by decide) h (fun h => ?_) (fun h => ?_)
      · refine g_iconst C (v := 0) dX6_isUpTo_40 (by decide) ?_
        exact g_zret C hQ (by decide) dX6_isUpTo_41 h
      · refine g_dload C (q := 0) dX6_isUpTo_29 rfl ?_
        refine g_dload_n C (q := 2) dX6_isUpTo_31 rfl rfl ?_
        refine g_dcmp C dX6_isUpTo_32 ?_
        refine g_if_gt C (tgt := 40) dX6_isUpTo_33 (by decide) h (fun h => ?_) (fun h => ?_)
        · refine g_iconst C (v := 0) dX6_isUpTo_40 (by decide) ?_
          exact g_zret C hQ (by decide) dX6_isUpTo_41 h
        · refine g_iconst C (v := 1) dX6_isUpTo_36 (by decide) ?_
          refine g_goto C (tgt := 41) dX6_isUpTo_37 (by decide) ?_
          exact g_zret C hQ (by decide) dX6_isUpTo_41 h
    · refine g_iconst C (v := 0) dX6_isUpTo_14 (by decide) ?_
      exact g_zret C hQ (by decide) dX6_isUpTo_15 h

abbrev rm_X6_addBridge : Room := { frames := 2, cells := 0, slots := 0, locals := 48 }
theorem dsX6_addBridge : yX6_addBridge.cls = RX6 ∧ yX6_addBridge.cls ≠ "java/lang/invoke/MethodHandle" ∧ yX6_addBridge.cls ≠ "java/lang/invoke/VarHandle" ∧ (parseMethodDescriptor yX6_addBridge.desc).map (fun d => d.parameters.length) = some 1 := by decide +kernel
theorem gs_RX6_X6_isUpTo : GoodIn wsL_law (va_wsS RX6 69 yX6_isUpTo (.code yX6_isUpTo cX6_isUpTo 6 (some .boolean) :: wsL_law)) := good_S q203 q204 q5 q205
def f_X6_addBridge (S : Hp) (x0 : Nat) (x1 : Int64) : Option (Int32 × Hp) :=
 cl (f_X6_isUpTo S x1 4647503709213818880) fun v1 S1 =>
 if v1 = 0 then
 some ((-2 : Int32), S1)
 else
 ob S1 6 (some x0) fun _ =>
 ar S1 9 (zR S1 x0 0) (2 : Int32) fun a2 i1 =>
 if (zI S1 a2 i1) = 6 then
 some ((-3 : Int32), S1)
 else
 ob S1 6 (some x0) fun b1 => cl (f_X6_record S1 b1 ) fun _ S2 =>
 ob S2 6 (some x0) fun _ =>
 ar S2 9 (zR S2 x0 0) (2 : Int32) fun a4 i2 =>
 gd (vn_snl2d x1 = false) <|
 ar S2 8 (zR S2 x0 3) (1 + (zI S2 a4 i2)) fun a5 i3 => bnd (wD S2 a5 i3 (x1.toUInt64)) fun S3 =>
 ob S3 6 (some x0) fun _ =>
 ar S3 9 (zR S3 x0 0) (2 : Int32) fun a7 i4 =>
 ar S3 9 (zR S3 x0 0) (2 : Int32) fun a8 i5 => bnd (wI S3 a8 i5 ((zI S3 a7 i4) + 1)) fun S4 =>
 ob S4 6 (some x0) fun _ =>
 ar S4 9 (zR S4 x0 0) (2 : Int32) fun a10 i6 =>
 some (((zI S4 a10 i6) - 1), S4)
set_option maxHeartbeats 4000000 in
set_option maxRecDepth 100000 in
theorem c_X6_addBridge (S : Hp) (x0 : Nat) (x1 : Int64) (o : Int32 × Hp) (h : f_X6_addBridge S x0 x1 = some o) : CtI yX6_addBridge cX6_addBridge 3 (some .int) rm_X6_addBridge 0 0 [va_rf (some x0), .long x1] S o := by
  refine ct_I (own := RX6) (by decide) rfl (Nat.le_of_ble_eq_true rfl) (fun X C hn hQ => ?_)
  unfold f_X6_addBridge at h
  show GW X 0 0 S 0 [(0, va_rf (some x0)), (1, .long x1)] []
  refine g_lload_n C (q := 1) dX6_addBridge_0 rfl rfl ?_
  refine g_ldc2d C q198 dX6_addBridge_1 ?_
  refine g_callSI C (As := [.long x1, .double 4647503709213818880]) (np := 2) (st := []) (fun q hq => c_X6_isUpTo S x1 4647503709213818880 q hq) gs_RX6_X6_isUpTo rfl rfl dsX6_isUpTo rfl ⟨Nat.le_of_ble_eq_true rfl, Nat.le_of_ble_eq_true rfl⟩ rfl (cat_sum (Nat.le_of_ble_eq_true rfl)) ⟨Nat.zero_le _, Nat.zero_le _⟩ dX6_addBridge_4 h (fun v1 S1 h => ?_)
  refine g_if_ne C (tgt := 13) dX6_addBridge_7 (by decide) h (fun h => ?_) (fun h => ?_)
  · refine g_bipush C (v := (-2)) dX6_addBridge_10 (by decide) ?_
    exact g_iret C hQ dX6_addBridge_12 h
  · refine g_aload_n C (q := 0) dX6_addBridge_13 rfl rfl ?_
    refine g_ogetSR C (ci := 6) (slot := 0) rfl (by decide) inlX6 (by decide) rfl q66 dX6_addBridge_14 h (fun h hLa1 hKa1 => ?_)
    refine g_iconst C (v := 2) dX6_addBridge_17 (by decide) ?_
    refine g_iald C dX6_addBridge_18 h (fun a2 i1 h => ?_)
    refine g_bipush C (v := 6) dX6_addBridge_19 (by decide) ?_
    refine g_icmp_ne C (tgt := 27) dX6_addBridge_21 (by decide) h (fun h => ?_) (fun h => ?_)
    · refine g_bipush C (v := (-3)) dX6_addBridge_24 (by decide) ?_
      exact g_iret C hQ dX6_addBridge_26 h
    · refine g_aload_n C (q := 0) dX6_addBridge_27 rfl rfl ?_
      refine g_callVV C (ci := 6) (As := []) (np := 0) (st := []) (r := (some x0)) rfl (by decide) (fun b1 q hq => c_X6_record S1 b1  q hq) gv_RX6_X6_record rfl rfl dsX6_record rfl ⟨Nat.le_of_ble_eq_true rfl, Nat.le_of_ble_eq_true rfl⟩ rfl (cat_sum (Nat.le_of_ble_eq_true rfl)) ⟨Nat.zero_le _, Nat.zero_le _⟩ dX6_addBridge_28 h (fun S2 h => ?_)
      refine g_aload_n C (q := 0) dX6_addBridge_31 rfl rfl ?_
      refine g_ogetSR C (ci := 6) (slot := 3) rfl (by decide) inlX6 (by decide) rfl q69 dX6_addBridge_32 h (fun h hLa3 hKa3 => ?_)
      refine g_iconst C (v := 1) dX6_addBridge_35 (by decide) ?_
      refine g_aload_n C (q := 0) dX6_addBridge_36 rfl rfl ?_
      refine g_getER C (ci := 6) (slot := 0) rfl (by decide) inlX6 (by decide) rfl q66 dX6_addBridge_37 rfl hLa3 hKa3 ?_
      refine g_iconst C (v := 2) dX6_addBridge_40 (by decide) ?_
      refine g_iald C dX6_addBridge_41 h (fun a4 i2 h => ?_)
      refine g_iadd C dX6_addBridge_42 ?_
      refine g_lload_n C (q := 1) dX6_addBridge_43 rfl rfl ?_
      refine g_lb2d C q199 q200 q201 q202 (by decide) (by decide) (cat_sum (Nat.le_of_ble_eq_true rfl)) dX6_addBridge_44 h (fun h => ?_)
      refine g_dast C dX6_addBridge_47 h (fun a5 i3 S3 h => ?_)
      refine g_aload_n C (q := 0) dX6_addBridge_48 rfl rfl ?_
      refine g_ogetSR C (ci := 6) (slot := 0) rfl (by decide) inlX6 (by decide) rfl q66 dX6_addBridge_49 h (fun h hLa6 hKa6 => ?_)
      refine g_iconst C (v := 2) dX6_addBridge_52 (by decide) ?_
      refine g_dup2 C dX6_addBridge_53 rfl (va_rf_cat _) ?_
      refine g_iald C dX6_addBridge_54 h (fun a7 i4 h => ?_)
      refine g_iconst C (v := 1) dX6_addBridge_55 (by decide) ?_
      refine g_iadd C dX6_addBridge_56 ?_
      refine g_iast C dX6_addBridge_57 h (fun a8 i5 S4 h => ?_)
      refine g_aload_n C (q := 0) dX6_addBridge_58 rfl rfl ?_
      refine g_ogetSR C (ci := 6) (slot := 0) rfl (by decide) inlX6 (by decide) rfl q66 dX6_addBridge_59 h (fun h hLa9 hKa9 => ?_)
      refine g_iconst C (v := 2) dX6_addBridge_62 (by decide) ?_
      refine g_iald C dX6_addBridge_63 h (fun a10 i6 h => ?_)
      refine g_iconst C (v := 1) dX6_addBridge_64 (by decide) ?_
      refine g_isub C dX6_addBridge_65 ?_
      exact g_iret C hQ dX6_addBridge_66 h

abbrev rm_X6_setTemperature : Room := { frames := 1, cells := 0, slots := 0, locals := 23 }
theorem dsX6_setTemperature : yX6_setTemperature.cls = RX6 ∧ yX6_setTemperature.cls ≠ "java/lang/invoke/MethodHandle" ∧ yX6_setTemperature.cls ≠ "java/lang/invoke/VarHandle" ∧ (parseMethodDescriptor yX6_setTemperature.desc).map (fun d => d.parameters.length) = some 1 := by decide +kernel
def f_X6_setTemperature (S : Hp) (x0 : Nat) (x1 : Int64) : Option (Int32 × Hp) :=
 if (lg_cmp (x1 &&& 9223372036854775807) 9218868437227405312) ≤ 0 then
 gd (vn_snl2d x1 = false) <|
 bnd ((x1.toUInt64)) fun e1 =>
 if (Op.cmpValue (FP.dcmp e1 13854198353698488320) CmpOp.l) < 0 then
 if (0 : Int32) = 0 then
 some ((-2 : Int32), S)
 else
 ob S 6 (some x0) fun _ =>
 ar S 8 (zR S x0 3) (0 : Int32) fun a2 i1 =>
 if (Op.cmpValue (FP.dcmp (zD S a2 i1) e1) CmpOp.l) = 0 then
 some ((-5 : Int32), S)
 else
 ob S 6 (some x0) fun b1 => cl (f_X6_record S b1 ) fun _ S1 =>
 ob S1 6 (some x0) fun _ =>
 ar S1 8 (zR S1 x0 3) (0 : Int32) fun a4 i2 => bnd (wD S1 a4 i2 e1) fun S2 =>
 some ((1 : Int32), S2)
 else
 if 0 < (Op.cmpValue (FP.dcmp e1 4629137466983448576) CmpOp.g) then
 if (0 : Int32) = 0 then
 some ((-2 : Int32), S)
 else
 ob S 6 (some x0) fun _ =>
 ar S 8 (zR S x0 3) (0 : Int32) fun a6 i3 =>
 if (Op.cmpValue (FP.dcmp (zD S a6 i3) e1) CmpOp.l) = 0 then
 some ((-5 : Int32), S)
 else
 ob S 6 (some x0) fun b2 => cl (f_X6_record S b2 ) fun _ S3 =>
 ob S3 6 (some x0) fun _ =>
 ar S3 8 (zR S3 x0 3) (0 : Int32) fun a8 i4 => bnd (wD S3 a8 i4 e1) fun S4 =>
 some ((1 : Int32), S4)
 else
 if (1 : Int32) = 0 then
 some ((-2 : Int32), S)
 else
 ob S 6 (some x0) fun _ =>
 ar S 8 (zR S x0 3) (0 : Int32) fun a10 i5 =>
 if (Op.cmpValue (FP.dcmp (zD S a10 i5) e1) CmpOp.l) = 0 then
 some ((-5 : Int32), S)
 else
 ob S 6 (some x0) fun b3 => cl (f_X6_record S b3 ) fun _ S5 =>
 ob S5 6 (some x0) fun _ =>
 ar S5 8 (zR S5 x0 3) (0 : Int32) fun a12 i6 => bnd (wD S5 a12 i6 e1) fun S6 =>
 some ((1 : Int32), S6)
 else
 some ((-2 : Int32), S)
set_option maxHeartbeats 4000000 in
set_option maxRecDepth 100000 in
theorem c_X6_setTemperature (S : Hp) (x0 : Nat) (x1 : Int64) (o : Int32 × Hp) (h : f_X6_setTemperature S x0 x1 = some o) : CtI yX6_setTemperature cX6_setTemperature 6 (some .int) rm_X6_setTemperature 0 0 [va_rf (some x0), .long x1] S o := by
  refine ct_I (own := RX6) (by decide) rfl (Nat.le_of_ble_eq_true rfl) (fun X C hn hQ => ?_)
  have hn4 : 4 < xn X := by rw [hn]; decide
  have hn5 : 5 < xn X := by rw [hn]; decide
  unfold f_X6_setTemperature at h
  show GW X 0 0 S 0 [(0, va_rf (some x0)), (1, .long x1)] []
  refine g_lload_n C (q := 1) dX6_setTemperature_0 rfl rfl ?_
  refine g_ldc2l C q223 dX6_setTemperature_1 ?_
  refine g_land C dX6_setTemperature_4 ?_
  refine g_ldc2l C q206 dX6_setTemperature_5 ?_
  refine g_lcmp C dX6_setTemperature_8 ?_
  refine g_if_le C (tgt := 15) dX6_setTemperature_9 (by decide) h (fun h => ?_) (fun h => ?_)
  · refine g_lload_n C (q := 1) dX6_setTemperature_15 rfl rfl ?_
    refine g_lb2d C q199 q200 q201 q202 (by decide) (by decide) (cat_sum (Nat.le_of_ble_eq_true rfl)) dX6_setTemperature_16 h (fun h => ?_)
    refine g_nmD h (fun e1 h => ?_)
    refine g_dstore_n C (i := 3) (lv' := [(3, .double e1), (0, va_rf (some x0)), (1, .long x1)]) dX6_setTemperature_19 rfl hn4 rfl ?_
    refine g_dload_n C (q := 0) dX6_setTemperature_20 rfl rfl ?_
    refine g_ldc2d C q224 dX6_setTemperature_21 ?_
    refine g_dcmp C dX6_setTemperature_24 ?_
    refine g_if_lt C (tgt := 40) dX6_setTemperature_25 (by decide) h (fun h => ?_) (fun h => ?_)
    · refine g_iconst C (v := 0) dX6_setTemperature_40 (by decide) ?_
      refine g_istore C (i := 5) (lv' := [(5, .int 0), (3, .double e1), (0, va_rf (some x0)), (1, .long x1)]) dX6_setTemperature_41 hn5 rfl ?_
      refine g_iload C (q := 0) dX6_setTemperature_43 rfl ?_
      refine g_if_ne C (tgt := 51) dX6_setTemperature_45 (by decide) h (fun h => ?_) (fun h => ?_)
      · refine g_bipush C (v := (-2)) dX6_setTemperature_48 (by decide) ?_
        exact g_iret C hQ dX6_setTemperature_50 h
      · refine g_aload_n C (q := 2) dX6_setTemperature_51 rfl rfl ?_
        refine g_ogetSR C (ci := 6) (slot := 3) rfl (by decide) inlX6 (by decide) rfl q69 dX6_setTemperature_52 h (fun h hLa1 hKa1 => ?_)
        refine g_iconst C (v := 0) dX6_setTemperature_55 (by decide) ?_
        refine g_dald C dX6_setTemperature_56 h (fun a2 i1 h => ?_)
        refine g_dload_n C (q := 1) dX6_setTemperature_57 rfl rfl ?_
        refine g_dcmp C dX6_setTemperature_58 ?_
        refine g_if_ne C (tgt := 65) dX6_setTemperature_59 (by decide) h (fun h => ?_) (fun h => ?_)
        · refine g_bipush C (v := (-5)) dX6_setTemperature_62 (by decide) ?_
          exact g_iret C hQ dX6_setTemperature_64 h
        · refine g_aload_n C (q := 2) dX6_setTemperature_65 rfl rfl ?_
          refine g_callVV C (ci := 6) (As := []) (np := 0) (st := []) (r := (some x0)) rfl (by decide) (fun b1 q hq => c_X6_record S b1  q hq) gv_RX6_X6_record rfl rfl dsX6_record rfl ⟨Nat.le_of_ble_eq_true rfl, Nat.le_of_ble_eq_true rfl⟩ rfl (cat_sum (Nat.le_of_ble_eq_true rfl)) ⟨Nat.zero_le _, Nat.zero_le _⟩ dX6_setTemperature_66 h (fun S1 h => ?_)
          refine g_aload_n C (q := 2) dX6_setTemperature_69 rfl rfl ?_
          refine g_ogetSR C (ci := 6) (slot := 3) rfl (by decide) inlX6 (by decide) rfl q69 dX6_setTemperature_70 h (fun h hLa3 hKa3 => ?_)
          refine g_iconst C (v := 0) dX6_setTemperature_73 (by decide) ?_
          refine g_dload_n C (q := 1) dX6_setTemperature_74 rfl rfl ?_
          refine g_dast C dX6_setTemperature_75 h (fun a4 i2 S2 h => ?_)
          refine g_iconst C (v := 1) dX6_setTemperature_76 (by decide) ?_
          exact g_iret C hQ dX6_setTemperature_77 h
    · refine g_dload_n C (q := 0) dX6_setTemperature_28 rfl rfl ?_
      refine g_ldc2d C q225 dX6_setTemperature_29 ?_
      refine g_dcmp C dX6_setTemperature_32 ?_
      refine g_if_gt C (tgt := 40) dX6_setTemperature_33 (by decide) h (fun h => ?_) (fun h => ?_)
      · refine g_iconst C (v := 0) dX6_setTemperature_40 (by decide) ?_
        refine g_istore C (i := 5) (lv' := [(5, .int 0), (3, .double e1), (0, va_rf (some x0)), (1, .long x1)]) dX6_setTemperature_41 hn5 rfl ?_
        refine g_iload C (q := 0) dX6_setTemperature_43 rfl ?_
        refine g_if_ne C (tgt := 51) dX6_setTemperature_45 (by decide) h (fun h => ?_) (fun h => ?_)
        · refine g_bipush C (v := (-2)) dX6_setTemperature_48 (by decide) ?_
          exact g_iret C hQ dX6_setTemperature_50 h
        · refine g_aload_n C (q := 2) dX6_setTemperature_51 rfl rfl ?_
          refine g_ogetSR C (ci := 6) (slot := 3) rfl (by decide) inlX6 (by decide) rfl q69 dX6_setTemperature_52 h (fun h hLa5 hKa5 => ?_)
          refine g_iconst C (v := 0) dX6_setTemperature_55 (by decide) ?_
          refine g_dald C dX6_setTemperature_56 h (fun a6 i3 h => ?_)
          refine g_dload_n C (q := 1) dX6_setTemperature_57 rfl rfl ?_
          refine g_dcmp C dX6_setTemperature_58 ?_
          refine g_if_ne C (tgt := 65) dX6_setTemperature_59 (by decide) h (fun h => ?_) (fun h => ?_)
          · refine g_bipush C (v := (-5)) dX6_setTemperature_62 (by decide) ?_
            exact g_iret C hQ dX6_setTemperature_64 h
          · refine g_aload_n C (q := 2) dX6_setTemperature_65 rfl rfl ?_
            refine g_callVV C (ci := 6) (As := []) (np := 0) (st := []) (r := (some x0)) rfl (by decide) (fun b2 q hq => c_X6_record S b2  q hq) gv_RX6_X6_record rfl rfl dsX6_record rfl ⟨Nat.le_of_ble_eq_true rfl, Nat.le_of_ble_eq_true rfl⟩ rfl (cat_sum (Nat.le_of_ble_eq_true rfl)) ⟨Nat.zero_le _, Nat.zero_le _⟩ dX6_setTemperature_66 h (fun S3 h => ?_)
            refine g_aload_n C (q := 2) dX6_setTemperature_69 rfl rfl ?_
            refine g_ogetSR C (ci := 6) (slot := 3) rfl (by decide) inlX6 (by decide) rfl q69 dX6_setTemperature_70 h (fun h hLa7 hKa7 => ?_)
            refine g_iconst C (v := 0) dX6_setTemperature_73 (by decide) ?_
            refine g_dload_n C (q := 1) dX6_setTemperature_74 rfl rfl ?_
            refine g_dast C dX6_setTemperature_75 h (fun a8 i4 S4 h => ?_)
            refine g_iconst C (v := 1) dX6_setTemperature_76 (by decide) ?_
            exact g_iret C hQ dX6_setTemperature_77 h
      · refine g_iconst C (v := 1) dX6_setTemperature_36 (by decide) ?_
        refine g_goto C (tgt := 41) dX6_setTemperature_37 (by decide) ?_
        refine g_istore C (i := 5) (lv' := [(5, .int 1), (3, .double e1), (0, va_rf (some x0)), (1, .long x1)]) dX6_setTemperature_41 hn5 rfl ?_
        refine g_iload C (q := 0) dX6_setTemperature_43 rfl ?_
        refine g_if_ne C (tgt := 51) dX6_setTemperature_45 (by decide) h (fun h => ?_) (fun h => ?_)
        · refine g_bipush C (v := (-2)) dX6_setTemperature_48 (by decide) ?_
          exact g_iret C hQ dX6_setTemperature_50 h
        · refine g_aload_n C (q := 2) dX6_setTemperature_51 rfl rfl ?_
          refine g_ogetSR C (ci := 6) (slot := 3) rfl (by decide) inlX6 (by decide) rfl q69 dX6_setTemperature_52 h (fun h hLa9 hKa9 => ?_)
          refine g_iconst C (v := 0) dX6_setTemperature_55 (by decide) ?_
          refine g_dald C dX6_setTemperature_56 h (fun a10 i5 h => ?_)
          refine g_dload_n C (q := 1) dX6_setTemperature_57 rfl rfl ?_
          refine g_dcmp C dX6_setTemperature_58 ?_
          refine g_if_ne C (tgt := 65) dX6_setTemperature_59 (by decide) h (fun h => ?_) (fun h => ?_)
          · refine g_bipush C (v := (-5)) dX6_setTemperature_62 (by decide) ?_
            exact g_iret C hQ dX6_setTemperature_64 h
          · refine g_aload_n C (q := 2) dX6_setTemperature_65 rfl rfl ?_
            refine g_callVV C (ci := 6) (As := []) (np := 0) (st := []) (r := (some x0)) rfl (by decide) (fun b3 q hq => c_X6_record S b3  q hq) gv_RX6_X6_record rfl rfl dsX6_record rfl ⟨Nat.le_of_ble_eq_true rfl, Nat.le_of_ble_eq_true rfl⟩ rfl (cat_sum (Nat.le_of_ble_eq_true rfl)) ⟨Nat.zero_le _, Nat.zero_le _⟩ dX6_setTemperature_66 h (fun S5 h => ?_)
            refine g_aload_n C (q := 2) dX6_setTemperature_69 rfl rfl ?_
            refine g_ogetSR C (ci := 6) (slot := 3) rfl (by decide) inlX6 (by decide) rfl q69 dX6_setTemperature_70 h (fun h hLa11 hKa11 => ?_)
            refine g_iconst C (v := 0) dX6_setTemperature_73 (by decide) ?_
            refine g_dload_n C (q := 1) dX6_setTemperature_74 rfl rfl ?_
            refine g_dast C dX6_setTemperature_75 h (fun a12 i6 S6 h => ?_)
            refine g_iconst C (v := 1) dX6_setTemperature_76 (by decide) ?_
            exact g_iret C hQ dX6_setTemperature_77 h
  · refine g_bipush C (v := (-2)) dX6_setTemperature_12 (by decide) ?_
    exact g_iret C hQ dX6_setTemperature_14 h

abbrev rm_X6_baseOf : Room := { frames := 0, cells := 0, slots := 0, locals := 0 }
theorem dsX6_baseOf : yX6_baseOf.cls = RX6 ∧ yX6_baseOf.cls ≠ "java/lang/invoke/MethodHandle" ∧ yX6_baseOf.cls ≠ "java/lang/invoke/VarHandle" ∧ (parseMethodDescriptor yX6_baseOf.desc).map (fun d => d.parameters.length) = some 1 := by decide +kernel
def f_X6_baseOf (S : Hp) (x0 : Nat) (x1 : Int32) : Option (Int32 × Hp) :=
 ob S 6 (some x0) fun _ =>
 ar S 8 (zR S x0 3) (7 + x1) fun a2 i1 =>
 bnd ((zD S a2 i1)) fun e1 =>
 if 0 ≤ (Op.cmpValue (FP.dcmp e1 4624633867356078080) CmpOp.g) then
 if 0 ≤ (Op.cmpValue (FP.dcmp e1 4629137466983448576) CmpOp.g) then
 if 0 ≤ (Op.cmpValue (FP.dcmp e1 4631530004285489152) CmpOp.g) then
 some ((1 : Int32), S)
 else
 some ((3 : Int32), S)
 else
 some ((5 : Int32), S)
 else
 some ((7 : Int32), S)
set_option maxHeartbeats 4000000 in
set_option maxRecDepth 100000 in
theorem c_X6_baseOf (S : Hp) (x0 : Nat) (x1 : Int32) (o : Int32 × Hp) (h : f_X6_baseOf S x0 x1 = some o) : CtI yX6_baseOf cX6_baseOf 4 (some .int) rm_X6_baseOf 0 0 [va_rf (some x0), .int x1] S o := by
  refine ct_I (own := RX6) (by decide) rfl (Nat.le_of_ble_eq_true rfl) (fun X C hn hQ => ?_)
  have hn3 : 3 < xn X := by rw [hn]; decide
  unfold f_X6_baseOf at h
  show GW X 0 0 S 0 [(0, va_rf (some x0)), (1, .int x1)] []
  refine g_aload_n C (q := 0) dX6_baseOf_0 rfl rfl ?_
  refine g_ogetSR C (ci := 6) (slot := 3) rfl (by decide) inlX6 (by decide) rfl q69 dX6_baseOf_1 h (fun h hLa1 hKa1 => ?_)
  refine g_bipush C (v := 7) dX6_baseOf_4 (by decide) ?_
  refine g_iload_n C (q := 1) dX6_baseOf_6 rfl rfl ?_
  refine g_iadd C dX6_baseOf_7 ?_
  refine g_dald C dX6_baseOf_8 h (fun a2 i1 h => ?_)
  refine g_nmD h (fun e1 h => ?_)
  refine g_dstore_n C (i := 2) (lv' := [(2, .double e1), (0, va_rf (some x0)), (1, .int x1)]) dX6_baseOf_9 rfl hn3 rfl ?_
  refine g_dload_n C (q := 0) dX6_baseOf_10 rfl rfl ?_
  refine g_ldc2d C q377 dX6_baseOf_11 ?_
  refine g_dcmp C dX6_baseOf_14 ?_
  refine g_if_ge C (tgt := 23) dX6_baseOf_15 (by decide) h (fun h => ?_) (fun h => ?_)
  · refine g_dload_n C (q := 0) dX6_baseOf_23 rfl rfl ?_
    refine g_ldc2d C q225 dX6_baseOf_24 ?_
    refine g_dcmp C dX6_baseOf_27 ?_
    refine g_if_ge C (tgt := 35) dX6_baseOf_28 (by decide) h (fun h => ?_) (fun h => ?_)
    · refine g_dload_n C (q := 0) dX6_baseOf_35 rfl rfl ?_
      refine g_ldc2d C q378 dX6_baseOf_36 ?_
      refine g_dcmp C dX6_baseOf_39 ?_
      refine g_if_ge C (tgt := 47) dX6_baseOf_40 (by decide) h (fun h => ?_) (fun h => ?_)
      · refine g_iconst C (v := 1) dX6_baseOf_47 (by decide) ?_
        exact g_iret C hQ dX6_baseOf_48 h
      · refine g_iconst C (v := 3) dX6_baseOf_43 (by decide) ?_
        refine g_goto C (tgt := 48) dX6_baseOf_44 (by decide) ?_
        exact g_iret C hQ dX6_baseOf_48 h
    · refine g_iconst C (v := 5) dX6_baseOf_31 (by decide) ?_
      refine g_goto C (tgt := 48) dX6_baseOf_32 (by decide) ?_
      exact g_iret C hQ dX6_baseOf_48 h
  · refine g_bipush C (v := 7) dX6_baseOf_18 (by decide) ?_
    refine g_goto C (tgt := 48) dX6_baseOf_20 (by decide) ?_
    exact g_iret C hQ dX6_baseOf_48 h

abbrev rm_X6_ratio : Room := { frames := 1, cells := 0, slots := 0, locals := 23 }
theorem dsX6_ratio : yX6_ratio.cls = RX6 ∧ yX6_ratio.cls ≠ "java/lang/invoke/MethodHandle" ∧ yX6_ratio.cls ≠ "java/lang/invoke/VarHandle" ∧ (parseMethodDescriptor yX6_ratio.desc).map (fun d => d.parameters.length) = some 2 := by decide +kernel
theorem gv_RX6_X6_baseOf : GoodIn wsL_law (wsV RX6 83 RX6 yX6_baseOf (.code yX6_baseOf cX6_baseOf 4 (some .int) :: wsL_law)) := good_V q373 q374 q375 q5 q376
def f_X6_ratio (S : Hp) (x0 : Nat) (x1 : Int32) (x2 : Int32) : Option (Int32 × Hp) :=
 ob S 6 (some x0) fun b1 => cl (f_X6_baseOf S b1 x1) fun v1 S1 =>
 ob S1 6 (some x0) fun b2 => cl (f_X6_ofGuide S1 b2 x2 (0 : Int32)) fun v2 S2 =>
 bnd (((v1 + v2) - 2)) fun v3 =>
 if 1 ≤ v3 then
 some (v3, S2)
 else
 some ((1 : Int32), S2)
set_option maxHeartbeats 4000000 in
set_option maxRecDepth 100000 in
theorem c_X6_ratio (S : Hp) (x0 : Nat) (x1 : Int32) (x2 : Int32) (o : Int32 × Hp) (h : f_X6_ratio S x0 x1 x2 = some o) : CtI yX6_ratio cX6_ratio 4 (some .int) rm_X6_ratio 0 0 [va_rf (some x0), .int x1, .int x2] S o := by
  refine ct_I (own := RX6) (by decide) rfl (Nat.le_of_ble_eq_true rfl) (fun X C hn hQ => ?_)
  have hn3 : 3 < xn X := by rw [hn]; decide
  unfold f_X6_ratio at h
  show GW X 0 0 S 0 [(0, va_rf (some x0)), (1, .int x1), (2, .int x2)] []
  refine g_aload_n C (q := 0) dX6_ratio_0 rfl rfl ?_
  refine g_iload_n C (q := 1) dX6_ratio_1 rfl rfl ?_
  refine g_callVI C (ci := 6) (As := [.int x1]) (np := 1) (st := []) (r := (some x0)) rfl (by decide) (fun b1 q hq => c_X6_baseOf S b1 x1 q hq) gv_RX6_X6_baseOf rfl rfl dsX6_baseOf rfl ⟨Nat.le_of_ble_eq_true rfl, Nat.le_of_ble_eq_true rfl⟩ rfl (cat_sum (Nat.le_of_ble_eq_true rfl)) ⟨Nat.zero_le _, Nat.zero_le _⟩ dX6_ratio_2 h (fun v1 S1 h => ?_)
  refine g_aload_n C (q := 0) dX6_ratio_5 rfl rfl ?_
  refine g_iload_n C (q := 2) dX6_ratio_6 rfl rfl ?_
  refine g_iconst C (v := 0) dX6_ratio_7 (by decide) ?_
  refine g_callVI C (ci := 6) (As := [.int x2, .int 0]) (np := 2) (st := [.int v1]) (r := (some x0)) rfl (by decide) (fun b2 q hq => c_X6_ofGuide S1 b2 x2 (0 : Int32) q hq) gv_RX6_X6_ofGuide rfl rfl dsX6_ofGuide rfl ⟨Nat.le_of_ble_eq_true rfl, Nat.le_of_ble_eq_true rfl⟩ rfl (cat_sum (Nat.le_of_ble_eq_true rfl)) ⟨Nat.zero_le _, Nat.zero_le _⟩ dX6_ratio_8 h (fun v2 S2 h => ?_)
  refine g_iadd C dX6_ratio_11 ?_
  refine g_iconst C (v := 2) dX6_ratio_12 (by decide) ?_
  refine g_isub C dX6_ratio_13 ?_
  refine g_nmI h (fun v3 h => ?_)
  refine g_istore_n C (i := 3) (lv' := [(3, .int v3), (0, va_rf (some x0)), (1, .int x1), (2, .int x2)]) dX6_ratio_14 rfl hn3 rfl ?_
  refine g_iload_n C (q := 0) dX6_ratio_15 rfl rfl ?_
  refine g_iconst C (v := 1) dX6_ratio_16 (by decide) ?_
  refine g_icmp_ge C (tgt := 24) dX6_ratio_17 (by decide) h (fun h => ?_) (fun h => ?_)
  · refine g_iload_n C (q := 0) dX6_ratio_24 rfl rfl ?_
    exact g_iret C hQ dX6_ratio_25 h
  · refine g_iconst C (v := 1) dX6_ratio_20 (by decide) ?_
    refine g_goto C (tgt := 25) dX6_ratio_21 (by decide) ?_
    exact g_iret C hQ dX6_ratio_25 h

abbrev rm_X6_guideOn : Room := { frames := 1, cells := 0, slots := 0, locals := 22 }
theorem dsX6_guideOn : yX6_guideOn.cls = RX6 ∧ yX6_guideOn.cls ≠ "java/lang/invoke/MethodHandle" ∧ yX6_guideOn.cls ≠ "java/lang/invoke/VarHandle" ∧ (parseMethodDescriptor yX6_guideOn.desc).map (fun d => d.parameters.length) = some 2 := by decide +kernel
def f_X6_guideOn (S : Hp) (x0 : Nat) (x1 : Int32) (x2 : Int32) : Option (Int32 × Hp) :=
 ob S 6 (some x0) fun b1 => cl (f_X6_of S b1 x1 (8 + x2)) fun v1 S1 =>
 some (v1, S1)
set_option maxHeartbeats 4000000 in
set_option maxRecDepth 100000 in
theorem c_X6_guideOn (S : Hp) (x0 : Nat) (x1 : Int32) (x2 : Int32) (o : Int32 × Hp) (h : f_X6_guideOn S x0 x1 x2 = some o) : CtI yX6_guideOn cX6_guideOn 3 (some .int) rm_X6_guideOn 0 0 [va_rf (some x0), .int x1, .int x2] S o := by
  refine ct_I (own := RX6) (by decide) rfl (Nat.le_of_ble_eq_true rfl) (fun X C hn hQ => ?_)
  unfold f_X6_guideOn at h
  show GW X 0 0 S 0 [(0, va_rf (some x0)), (1, .int x1), (2, .int x2)] []
  refine g_aload_n C (q := 0) dX6_guideOn_0 rfl rfl ?_
  refine g_iload_n C (q := 1) dX6_guideOn_1 rfl rfl ?_
  refine g_bipush C (v := 8) dX6_guideOn_2 (by decide) ?_
  refine g_iload_n C (q := 2) dX6_guideOn_4 rfl rfl ?_
  refine g_iadd C dX6_guideOn_5 ?_
  refine g_callVI C (ci := 6) (As := [.int x1, .int (8 + x2)]) (np := 2) (st := []) (r := (some x0)) rfl (by decide) (fun b1 q hq => c_X6_of S b1 x1 (8 + x2) q hq) gv_RX6_X6_of rfl rfl dsX6_of rfl ⟨Nat.le_of_ble_eq_true rfl, Nat.le_of_ble_eq_true rfl⟩ rfl (cat_sum (Nat.le_of_ble_eq_true rfl)) ⟨Nat.zero_le _, Nat.zero_le _⟩ dX6_guideOn_6 h (fun v1 S1 h => ?_)
  exact g_iret C hQ dX6_guideOn_9 h

abbrev rm_X6_onRope : Room := { frames := 2, cells := 0, slots := 0, locals := 46 }
theorem dsX6_onRope : yX6_onRope.cls = RX6 ∧ yX6_onRope.cls ≠ "java/lang/invoke/MethodHandle" ∧ yX6_onRope.cls ≠ "java/lang/invoke/VarHandle" ∧ (parseMethodDescriptor yX6_onRope.desc).map (fun d => d.parameters.length) = some 2 := by decide +kernel
theorem gv_RX6_X6_guideOn : GoodIn wsL_law (wsV RX6 87 RX6 yX6_guideOn (.code yX6_guideOn cX6_guideOn 3 (some .int) :: wsL_law)) := good_V q365 q366 q367 q5 q368
theorem gv_RX6_X6_ratio : GoodIn wsL_law (wsV RX6 90 RX6 yX6_ratio (.code yX6_ratio cX6_ratio 4 (some .int) :: wsL_law)) := good_V q369 q370 q371 q5 q372
def f_X6_onRope_L10_b (rec : Hp → Nat → Int32 → Int32 → Int32 → Int32 → Option (Int32 × Hp)) (S : Hp) (x0 : Nat) (y1 : Int32) (y2 : Int32) (y3 : Int32) (y4 : Int32) : Option (Int32 × Hp) :=
 ob S 6 (some x0) fun b1 => cl (f_X6_of S b1 y1 (4 : Int32)) fun v1 S1 =>
 if v1 ≤ y4 then
 some (y3, S1)
 else
 ob S1 6 (some x0) fun b2 => cl (f_X6_guideOn S1 b2 y1 y4) fun v2 S2 =>
 ob S2 6 (some x0) fun b3 => cl (f_X6_ratio S2 b3 y1 v2) fun v3 S3 =>
 if y3 ≤ v3 then
 if y4 = y2 then
 some (y3, S3)
 else
 bnd ((y3 - y3)) fun v4 =>
 bnd (y4 + 1) fun v5 =>
 rec S3 x0 y1 y2 v4 v5
 else
 ob S3 6 (some x0) fun b4 => cl (f_X6_guideOn S3 b4 y1 y4) fun v6 S4 =>
 ob S4 6 (some x0) fun b5 => cl (f_X6_ratio S4 b5 y1 v6) fun v7 S5 =>
 if y4 = y2 then
 some (v7, S5)
 else
 bnd ((y3 - v7)) fun v8 =>
 bnd (y4 + 1) fun v9 =>
 rec S5 x0 y1 y2 v8 v9
def f_X6_onRope_L10 : Nat → Hp → Nat → Int32 → Int32 → Int32 → Int32 → Option (Int32 × Hp)
  | 0 => fun _ _ _ _ _ _ => none
  | n + 1 => f_X6_onRope_L10_b (f_X6_onRope_L10 n)
def f_X6_onRope (S : Hp) (x0 : Nat) (x1 : Int32) (x2 : Int32) : Option (Int32 × Hp) :=
 ob S 6 (some x0) fun b1 => cl (f_X6_of S b1 x1 (3 : Int32)) fun v1 S1 =>
 f_X6_onRope_L10 1000 S1 x0 x1 x2 v1 (0 : Int32)
set_option maxHeartbeats 4000000 in
set_option maxRecDepth 100000 in
theorem w_X6_onRope_L10 {X : Cx} (C : CxOK X cX6_onRope RX6 rm_X6_onRope) (hn : xn X = 6) {S0 : Hp} {o : Int32 × Hp} (hQ : QI X (some .int) S0 0 0 o) : ∀ (fuel : Nat) (S : Hp) (x0 : Nat) (y1 : Int32) (y2 : Int32) (y3 : Int32) (y4 : Int32), f_X6_onRope_L10 fuel S x0 y1 y2 y3 y4 = some o → GW X 0 0 S 10 [(0, va_rf (some x0)), (1, .int y1), (2, .int y2), (3, .int y3), (4, .int y4)] [] := by
  have hn3 : 3 < xn X := by rw [hn]; decide
  have hn4 : 4 < xn X := by rw [hn]; decide
  have hn5 : 5 < xn X := by rw [hn]; decide
  intro fuel
  induction fuel with
  | zero => intro S x0 y1 y2 y3 y4 h; cases (show none = some o from h)
  | succ fuel ih =>
    intro S x0 y1 y2 y3 y4 h
    have h : f_X6_onRope_L10_b (f_X6_onRope_L10 fuel) S x0 y1 y2 y3 y4 = some o := h
    unfold f_X6_onRope_L10_b at h
    refine g_iload C (q := 4) dX6_onRope_10 rfl ?_
    refine g_aload_n C (q := 0) dX6_onRope_12 rfl rfl ?_
    refine g_iload_n C (q := 1) dX6_onRope_13 rfl rfl ?_
    refine g_iconst C (v := 4) dX6_onRope_14 (by decide) ?_
    refine g_callVI C (ci := 6) (As := [.int y1, .int 4]) (np := 2) (st := [.int y4]) (r := (some x0)) rfl (by decide) (fun b1 q hq => c_X6_of S b1 y1 (4 : Int32) q hq) gv_RX6_X6_of rfl rfl dsX6_of rfl ⟨Nat.le_of_ble_eq_true rfl, Nat.le_of_ble_eq_true rfl⟩ rfl (cat_sum (Nat.le_of_ble_eq_true rfl)) ⟨Nat.zero_le _, Nat.zero_le _⟩ dX6_onRope_15 h (fun v1 S1 h => ?_)
    refine g_icmp_ge C (tgt := 75) dX6_onRope_18 (by decide) h (fun h => ?_) (fun h => ?_)
    · refine g_iload_n C (q := 3) dX6_onRope_75 rfl rfl ?_
      exact g_iret C hQ dX6_onRope_76 h
    · refine g_aload_n C (q := 0) dX6_onRope_21 rfl rfl ?_
      refine g_iload_n C (q := 1) dX6_onRope_22 rfl rfl ?_
      refine g_aload_n C (q := 0) dX6_onRope_23 rfl rfl ?_
      refine g_iload_n C (q := 1) dX6_onRope_24 rfl rfl ?_
      refine g_iload C (q := 4) dX6_onRope_25 rfl ?_
      refine g_callVI C (ci := 6) (As := [.int y1, .int y4]) (np := 2) (st := [.int y1, va_rf (some x0)]) (r := (some x0)) rfl (by decide) (fun b2 q hq => c_X6_guideOn S1 b2 y1 y4 q hq) gv_RX6_X6_guideOn rfl rfl dsX6_guideOn rfl ⟨Nat.le_of_ble_eq_true rfl, Nat.le_of_ble_eq_true rfl⟩ rfl (cat_sum (Nat.le_of_ble_eq_true rfl)) ⟨Nat.zero_le _, Nat.zero_le _⟩ dX6_onRope_27 h (fun v2 S2 h => ?_)
      refine g_callVI C (ci := 6) (As := [.int y1, .int v2]) (np := 2) (st := []) (r := (some x0)) rfl (by decide) (fun b3 q hq => c_X6_ratio S2 b3 y1 v2 q hq) gv_RX6_X6_ratio rfl rfl dsX6_ratio rfl ⟨Nat.le_of_ble_eq_true rfl, Nat.le_of_ble_eq_true rfl⟩ rfl (cat_sum (Nat.le_of_ble_eq_true rfl)) ⟨Nat.zero_le _, Nat.zero_le _⟩ dX6_onRope_30 h (fun v3 S3 h => ?_)
      refine g_iload_n C (q := 3) dX6_onRope_33 rfl rfl ?_
      refine g_icmp_ge C (tgt := 52) dX6_onRope_34 (by decide) h (fun h => ?_) (fun h => ?_)
      · refine g_iload_n C (q := 3) dX6_onRope_52 rfl rfl ?_
        refine g_istore C (i := 5) (lv' := [(5, .int y3), (0, va_rf (some x0)), (1, .int y1), (2, .int y2), (3, .int y3), (4, .int y4)]) dX6_onRope_53 hn5 rfl ?_
        refine g_iload C (q := 5) dX6_onRope_55 rfl ?_
        refine g_iload_n C (q := 3) dX6_onRope_57 rfl rfl ?_
        refine g_icmp_ne C (tgt := 64) dX6_onRope_58 (by decide) h (fun h => ?_) (fun h => ?_)
        · refine g_iload C (q := 0) dX6_onRope_61 rfl ?_
          exact g_iret C hQ dX6_onRope_63 h
        · refine g_iload_n C (q := 4) dX6_onRope_64 rfl rfl ?_
          refine g_iload C (q := 0) dX6_onRope_65 rfl ?_
          refine g_isub C dX6_onRope_67 ?_
          refine g_nmI h (fun v4 h => ?_)
          refine g_istore_n C (i := 3) (lv' := [(3, .int v4), (5, .int y3), (0, va_rf (some x0)), (1, .int y1), (2, .int y2), (4, .int y4)]) dX6_onRope_68 rfl hn3 rfl ?_
          obtain ⟨v5, ev5, h⟩ := bnd_ex h
          refine g_iinc C (i := 4) (lv' := [(4, .int v5), (3, .int v4), (5, .int y3), (0, va_rf (some x0)), (1, .int y1), (2, .int y2)]) (q := 5) v5 dX6_onRope_69 rfl ev5 hn4 rfl ?_
          refine g_goto C (tgt := 10) dX6_onRope_72 (by decide) ?_
          refine g_sub (lv' := [(0, va_rf (some x0)), (1, .int y1), (2, .int y2), (3, .int v4), (4, .int v5)]) [3, 4, 5, 1, 0] rfl ?_
          exact ih S3 x0 y1 y2 v4 v5 h
      · refine g_aload_n C (q := 0) dX6_onRope_37 rfl rfl ?_
        refine g_iload_n C (q := 1) dX6_onRope_38 rfl rfl ?_
        refine g_aload_n C (q := 0) dX6_onRope_39 rfl rfl ?_
        refine g_iload_n C (q := 1) dX6_onRope_40 rfl rfl ?_
        refine g_iload C (q := 4) dX6_onRope_41 rfl ?_
        refine g_callVI C (ci := 6) (As := [.int y1, .int y4]) (np := 2) (st := [.int y1, va_rf (some x0)]) (r := (some x0)) rfl (by decide) (fun b4 q hq => c_X6_guideOn S3 b4 y1 y4 q hq) gv_RX6_X6_guideOn rfl rfl dsX6_guideOn rfl ⟨Nat.le_of_ble_eq_true rfl, Nat.le_of_ble_eq_true rfl⟩ rfl (cat_sum (Nat.le_of_ble_eq_true rfl)) ⟨Nat.zero_le _, Nat.zero_le _⟩ dX6_onRope_43 h (fun v6 S4 h => ?_)
        refine g_callVI C (ci := 6) (As := [.int y1, .int v6]) (np := 2) (st := []) (r := (some x0)) rfl (by decide) (fun b5 q hq => c_X6_ratio S4 b5 y1 v6 q hq) gv_RX6_X6_ratio rfl rfl dsX6_ratio rfl ⟨Nat.le_of_ble_eq_true rfl, Nat.le_of_ble_eq_true rfl⟩ rfl (cat_sum (Nat.le_of_ble_eq_true rfl)) ⟨Nat.zero_le _, Nat.zero_le _⟩ dX6_onRope_46 h (fun v7 S5 h => ?_)
        refine g_goto C (tgt := 53) dX6_onRope_49 (by decide) ?_
        refine g_istore C (i := 5) (lv' := [(5, .int v7), (0, va_rf (some x0)), (1, .int y1), (2, .int y2), (3, .int y3), (4, .int y4)]) dX6_onRope_53 hn5 rfl ?_
        refine g_iload C (q := 5) dX6_onRope_55 rfl ?_
        refine g_iload_n C (q := 3) dX6_onRope_57 rfl rfl ?_
        refine g_icmp_ne C (tgt := 64) dX6_onRope_58 (by decide) h (fun h => ?_) (fun h => ?_)
        · refine g_iload C (q := 0) dX6_onRope_61 rfl ?_
          exact g_iret C hQ dX6_onRope_63 h
        · refine g_iload_n C (q := 4) dX6_onRope_64 rfl rfl ?_
          refine g_iload C (q := 0) dX6_onRope_65 rfl ?_
          refine g_isub C dX6_onRope_67 ?_
          refine g_nmI h (fun v8 h => ?_)
          refine g_istore_n C (i := 3) (lv' := [(3, .int v8), (5, .int v7), (0, va_rf (some x0)), (1, .int y1), (2, .int y2), (4, .int y4)]) dX6_onRope_68 rfl hn3 rfl ?_
          obtain ⟨v9, ev9, h⟩ := bnd_ex h
          refine g_iinc C (i := 4) (lv' := [(4, .int v9), (3, .int v8), (5, .int v7), (0, va_rf (some x0)), (1, .int y1), (2, .int y2)]) (q := 5) v9 dX6_onRope_69 rfl ev9 hn4 rfl ?_
          refine g_goto C (tgt := 10) dX6_onRope_72 (by decide) ?_
          refine g_sub (lv' := [(0, va_rf (some x0)), (1, .int y1), (2, .int y2), (3, .int v8), (4, .int v9)]) [3, 4, 5, 1, 0] rfl ?_
          exact ih S5 x0 y1 y2 v8 v9 h
set_option maxHeartbeats 4000000 in
set_option maxRecDepth 100000 in
theorem c_X6_onRope (S : Hp) (x0 : Nat) (x1 : Int32) (x2 : Int32) (o : Int32 × Hp) (h : f_X6_onRope S x0 x1 x2 = some o) : CtI yX6_onRope cX6_onRope 6 (some .int) rm_X6_onRope 0 0 [va_rf (some x0), .int x1, .int x2] S o := by
  refine ct_I (own := RX6) (by decide) rfl (Nat.le_of_ble_eq_true rfl) (fun X C hn hQ => ?_)
  have hn3 : 3 < xn X := by rw [hn]; decide
  have hn4 : 4 < xn X := by rw [hn]; decide
  unfold f_X6_onRope at h
  show GW X 0 0 S 0 [(0, va_rf (some x0)), (1, .int x1), (2, .int x2)] []
  refine g_aload_n C (q := 0) dX6_onRope_0 rfl rfl ?_
  refine g_iload_n C (q := 1) dX6_onRope_1 rfl rfl ?_
  refine g_iconst C (v := 3) dX6_onRope_2 (by decide) ?_
  refine g_callVI C (ci := 6) (As := [.int x1, .int 3]) (np := 2) (st := []) (r := (some x0)) rfl (by decide) (fun b1 q hq => c_X6_of S b1 x1 (3 : Int32) q hq) gv_RX6_X6_of rfl rfl dsX6_of rfl ⟨Nat.le_of_ble_eq_true rfl, Nat.le_of_ble_eq_true rfl⟩ rfl (cat_sum (Nat.le_of_ble_eq_true rfl)) ⟨Nat.zero_le _, Nat.zero_le _⟩ dX6_onRope_3 h (fun v1 S1 h => ?_)
  refine g_istore_n C (i := 3) (lv' := [(3, .int v1), (0, va_rf (some x0)), (1, .int x1), (2, .int x2)]) dX6_onRope_6 rfl hn3 rfl ?_
  refine g_iconst C (v := 0) dX6_onRope_7 (by decide) ?_
  refine g_istore C (i := 4) (lv' := [(4, .int 0), (3, .int v1), (0, va_rf (some x0)), (1, .int x1), (2, .int x2)]) dX6_onRope_8 hn4 rfl ?_
  refine g_sub (lv' := [(0, va_rf (some x0)), (1, .int x1), (2, .int x2), (3, .int v1), (4, .int 0)]) [2, 3, 4, 1, 0] rfl ?_
  exact w_X6_onRope_L10 C hn hQ 1000 S1 x0 x1 x2 v1 (0 : Int32) h

abbrev rm_X6_leftOver : Room := { frames := 3, cells := 0, slots := 0, locals := 71 }
theorem dsX6_leftOver : yX6_leftOver.cls = RX6 ∧ yX6_leftOver.cls ≠ "java/lang/invoke/MethodHandle" ∧ yX6_leftOver.cls ≠ "java/lang/invoke/VarHandle" ∧ (parseMethodDescriptor yX6_leftOver.desc).map (fun d => d.parameters.length) = some 1 := by decide +kernel
theorem gv_RX6_X6_onRope : GoodIn wsL_law (wsV RX6 93 RX6 yX6_onRope (.code yX6_onRope cX6_onRope 6 (some .int) :: wsL_law)) := good_V q403 q404 q405 q5 q406
def f_X6_leftOver (S : Hp) (x0 : Nat) (x1 : Int32) : Option (Int32 × Hp) :=
 ob S 6 (some x0) fun b1 => cl (f_X6_of S b1 x1 (4 : Int32)) fun v1 S1 =>
 ob S1 6 (some x0) fun b2 => cl (f_X6_onRope S1 b2 x1 v1) fun v2 S2 =>
 some (v2, S2)
set_option maxHeartbeats 4000000 in
set_option maxRecDepth 100000 in
theorem c_X6_leftOver (S : Hp) (x0 : Nat) (x1 : Int32) (o : Int32 × Hp) (h : f_X6_leftOver S x0 x1 = some o) : CtI yX6_leftOver cX6_leftOver 2 (some .int) rm_X6_leftOver 0 0 [va_rf (some x0), .int x1] S o := by
  refine ct_I (own := RX6) (by decide) rfl (Nat.le_of_ble_eq_true rfl) (fun X C hn hQ => ?_)
  unfold f_X6_leftOver at h
  show GW X 0 0 S 0 [(0, va_rf (some x0)), (1, .int x1)] []
  refine g_aload_n C (q := 0) dX6_leftOver_0 rfl rfl ?_
  refine g_iload_n C (q := 1) dX6_leftOver_1 rfl rfl ?_
  refine g_aload_n C (q := 0) dX6_leftOver_2 rfl rfl ?_
  refine g_iload_n C (q := 1) dX6_leftOver_3 rfl rfl ?_
  refine g_iconst C (v := 4) dX6_leftOver_4 (by decide) ?_
  refine g_callVI C (ci := 6) (As := [.int x1, .int 4]) (np := 2) (st := [.int x1, va_rf (some x0)]) (r := (some x0)) rfl (by decide) (fun b1 q hq => c_X6_of S b1 x1 (4 : Int32) q hq) gv_RX6_X6_of rfl rfl dsX6_of rfl ⟨Nat.le_of_ble_eq_true rfl, Nat.le_of_ble_eq_true rfl⟩ rfl (cat_sum (Nat.le_of_ble_eq_true rfl)) ⟨Nat.zero_le _, Nat.zero_le _⟩ dX6_leftOver_5 h (fun v1 S1 h => ?_)
  refine g_callVI C (ci := 6) (As := [.int x1, .int v1]) (np := 2) (st := []) (r := (some x0)) rfl (by decide) (fun b2 q hq => c_X6_onRope S1 b2 x1 v1 q hq) gv_RX6_X6_onRope rfl rfl dsX6_onRope rfl ⟨Nat.le_of_ble_eq_true rfl, Nat.le_of_ble_eq_true rfl⟩ rfl (cat_sum (Nat.le_of_ble_eq_true rfl)) ⟨Nat.zero_le _, Nat.zero_le _⟩ dX6_leftOver_8 h (fun v2 S2 h => ?_)
  exact g_iret C hQ dX6_leftOver_11 h

abbrev rm_X6_neededBy : Room := { frames := 3, cells := 0, slots := 0, locals := 71 }
theorem dsX6_neededBy : yX6_neededBy.cls = RX6 ∧ yX6_neededBy.cls ≠ "java/lang/invoke/MethodHandle" ∧ yX6_neededBy.cls ≠ "java/lang/invoke/VarHandle" ∧ (parseMethodDescriptor yX6_neededBy.desc).map (fun d => d.parameters.length) = some 1 := by decide +kernel
def f_X6_neededBy_L4_b (rec : Hp → Nat → Int32 → Int32 → Int32 → Option (UInt64 × Hp)) (S : Hp) (x0 : Nat) (y1 : Int32) (y2 : Int32) (y3 : Int32) : Option (UInt64 × Hp) :=
 ob S 6 (some x0) fun b1 => cl (f_X6_of S b1 y1 (4 : Int32)) fun v1 S1 =>
 if v1 ≤ y3 then
 bnd ((y2 + 1)) fun v2 =>
 fpg (FP.dmul 4612811918334230528 (FP.i2d v2)) <|
 fpg (FP.dadd 4624633867356078080 (FP.dmul 4612811918334230528 (FP.i2d v2))) <|
 some ((FP.dadd 4624633867356078080 (FP.dmul 4612811918334230528 (FP.i2d v2))), S1)
 else
 ob S1 6 (some x0) fun b2 => cl (f_X6_onRope S1 b2 y1 y3) fun v3 S2 =>
 if v3 ≤ y2 then
 bnd (y3 + 1) fun v4 =>
 rec S2 x0 y1 y2 v4
 else
 ob S2 6 (some x0) fun b3 => cl (f_X6_onRope S2 b3 y1 y3) fun v5 S3 =>
 bnd (y3 + 1) fun v6 =>
 rec S3 x0 y1 v5 v6
def f_X6_neededBy_L4 : Nat → Hp → Nat → Int32 → Int32 → Int32 → Option (UInt64 × Hp)
  | 0 => fun _ _ _ _ _ => none
  | n + 1 => f_X6_neededBy_L4_b (f_X6_neededBy_L4 n)
def f_X6_neededBy (S : Hp) (x0 : Nat) (x1 : Int32) : Option (UInt64 × Hp) :=
 f_X6_neededBy_L4 1000 S x0 x1 (0 : Int32) (0 : Int32)
set_option maxHeartbeats 4000000 in
set_option maxRecDepth 100000 in
theorem w_X6_neededBy_L4 {X : Cx} (C : CxOK X cX6_neededBy RX6 rm_X6_neededBy) (hn : xn X = 4) {S0 : Hp} {o : UInt64 × Hp} (hQ : QD X (some .double) S0 0 0 o) : ∀ (fuel : Nat) (S : Hp) (x0 : Nat) (y1 : Int32) (y2 : Int32) (y3 : Int32), f_X6_neededBy_L4 fuel S x0 y1 y2 y3 = some o → GW X 0 0 S 4 [(0, va_rf (some x0)), (1, .int y1), (2, .int y2), (3, .int y3)] [] := by
  have hn2 : 2 < xn X := by rw [hn]; decide
  have hn3 : 3 < xn X := by rw [hn]; decide
  intro fuel
  induction fuel with
  | zero => intro S x0 y1 y2 y3 h; cases (show none = some o from h)
  | succ fuel ih =>
    intro S x0 y1 y2 y3 h
    have h : f_X6_neededBy_L4_b (f_X6_neededBy_L4 fuel) S x0 y1 y2 y3 = some o := h
    unfold f_X6_neededBy_L4_b at h
    refine g_iload_n C (q := 3) dX6_neededBy_4 rfl rfl ?_
    refine g_aload_n C (q := 0) dX6_neededBy_5 rfl rfl ?_
    refine g_iload_n C (q := 1) dX6_neededBy_6 rfl rfl ?_
    refine g_iconst C (v := 4) dX6_neededBy_7 (by decide) ?_
    refine g_callVI C (ci := 6) (As := [.int y1, .int 4]) (np := 2) (st := [.int y3]) (r := (some x0)) rfl (by decide) (fun b1 q hq => c_X6_of S b1 y1 (4 : Int32) q hq) gv_RX6_X6_of rfl rfl dsX6_of rfl ⟨Nat.le_of_ble_eq_true rfl, Nat.le_of_ble_eq_true rfl⟩ rfl (cat_sum (Nat.le_of_ble_eq_true rfl)) ⟨Nat.zero_le _, Nat.zero_le _⟩ dX6_neededBy_8 h (fun v1 S1 h => ?_)
    refine g_icmp_ge C (tgt := 41) dX6_neededBy_11 (by decide) h (fun h => ?_) (fun h => ?_)
    · refine g_iload_n C (q := 2) dX6_neededBy_41 rfl rfl ?_
      refine g_iconst C (v := 1) dX6_neededBy_42 (by decide) ?_
      refine g_iadd C dX6_neededBy_43 ?_
      refine g_nmI h (fun v2 h => ?_)
      refine g_istore_n C (i := 3) (lv' := [(3, .int v2), (0, va_rf (some x0)), (1, .int y1), (2, .int y2)]) dX6_neededBy_44 rfl hn3 rfl ?_
      refine g_ldc2d C q377 dX6_neededBy_45 ?_
      refine g_ldc2d C q515 dX6_neededBy_48 ?_
      refine g_iload_n C (q := 0) dX6_neededBy_51 rfl rfl ?_
      refine g_i2d C dX6_neededBy_52 ?_
      refine g_dmul C dX6_neededBy_53 h (fun h => ?_)
      refine g_dadd C dX6_neededBy_54 h (fun h => ?_)
      exact g_dret C hQ dX6_neededBy_55 h
    · refine g_aload_n C (q := 0) dX6_neededBy_14 rfl rfl ?_
      refine g_iload_n C (q := 1) dX6_neededBy_15 rfl rfl ?_
      refine g_iload_n C (q := 3) dX6_neededBy_16 rfl rfl ?_
      refine g_callVI C (ci := 6) (As := [.int y1, .int y3]) (np := 2) (st := []) (r := (some x0)) rfl (by decide) (fun b2 q hq => c_X6_onRope S1 b2 y1 y3 q hq) gv_RX6_X6_onRope rfl rfl dsX6_onRope rfl ⟨Nat.le_of_ble_eq_true rfl, Nat.le_of_ble_eq_true rfl⟩ rfl (cat_sum (Nat.le_of_ble_eq_true rfl)) ⟨Nat.zero_le _, Nat.zero_le _⟩ dX6_neededBy_17 h (fun v3 S2 h => ?_)
      refine g_iload_n C (q := 2) dX6_neededBy_20 rfl rfl ?_
      refine g_icmp_le C (tgt := 33) dX6_neededBy_21 (by decide) h (fun h => ?_) (fun h => ?_)
      · refine g_iload_n C (q := 2) dX6_neededBy_33 rfl rfl ?_
        refine g_istore_n C (i := 2) (lv' := [(2, .int y2), (0, va_rf (some x0)), (1, .int y1), (3, .int y3)]) dX6_neededBy_34 rfl hn2 rfl ?_
        obtain ⟨v4, ev4, h⟩ := bnd_ex h
        refine g_iinc C (i := 3) (lv' := [(3, .int v4), (2, .int y2), (0, va_rf (some x0)), (1, .int y1)]) (q := 3) v4 dX6_neededBy_35 rfl ev4 hn3 rfl ?_
        refine g_goto C (tgt := 4) dX6_neededBy_38 (by decide) ?_
        refine g_sub (lv' := [(0, va_rf (some x0)), (1, .int y1), (2, .int y2), (3, .int v4)]) [2, 3, 1, 0] rfl ?_
        exact ih S2 x0 y1 y2 v4 h
      · refine g_aload_n C (q := 0) dX6_neededBy_24 rfl rfl ?_
        refine g_iload_n C (q := 1) dX6_neededBy_25 rfl rfl ?_
        refine g_iload_n C (q := 3) dX6_neededBy_26 rfl rfl ?_
        refine g_callVI C (ci := 6) (As := [.int y1, .int y3]) (np := 2) (st := []) (r := (some x0)) rfl (by decide) (fun b3 q hq => c_X6_onRope S2 b3 y1 y3 q hq) gv_RX6_X6_onRope rfl rfl dsX6_onRope rfl ⟨Nat.le_of_ble_eq_true rfl, Nat.le_of_ble_eq_true rfl⟩ rfl (cat_sum (Nat.le_of_ble_eq_true rfl)) ⟨Nat.zero_le _, Nat.zero_le _⟩ dX6_neededBy_27 h (fun v5 S3 h => ?_)
        refine g_goto C (tgt := 34) dX6_neededBy_30 (by decide) ?_
        refine g_istore_n C (i := 2) (lv' := [(2, .int v5), (0, va_rf (some x0)), (1, .int y1), (3, .int y3)]) dX6_neededBy_34 rfl hn2 rfl ?_
        obtain ⟨v6, ev6, h⟩ := bnd_ex h
        refine g_iinc C (i := 3) (lv' := [(3, .int v6), (2, .int v5), (0, va_rf (some x0)), (1, .int y1)]) (q := 3) v6 dX6_neededBy_35 rfl ev6 hn3 rfl ?_
        refine g_goto C (tgt := 4) dX6_neededBy_38 (by decide) ?_
        refine g_sub (lv' := [(0, va_rf (some x0)), (1, .int y1), (2, .int v5), (3, .int v6)]) [2, 3, 1, 0] rfl ?_
        exact ih S3 x0 y1 v5 v6 h
set_option maxHeartbeats 4000000 in
set_option maxRecDepth 100000 in
theorem c_X6_neededBy (S : Hp) (x0 : Nat) (x1 : Int32) (o : UInt64 × Hp) (h : f_X6_neededBy S x0 x1 = some o) : CtD yX6_neededBy cX6_neededBy 4 (some .double) rm_X6_neededBy 0 0 [va_rf (some x0), .int x1] S o := by
  refine ct_D (own := RX6) (by decide) rfl (Nat.le_of_ble_eq_true rfl) (fun X C hn hQ => ?_)
  have hn2 : 2 < xn X := by rw [hn]; decide
  have hn3 : 3 < xn X := by rw [hn]; decide
  unfold f_X6_neededBy at h
  show GW X 0 0 S 0 [(0, va_rf (some x0)), (1, .int x1)] []
  refine g_iconst C (v := 0) dX6_neededBy_0 (by decide) ?_
  refine g_istore_n C (i := 2) (lv' := [(2, .int 0), (0, va_rf (some x0)), (1, .int x1)]) dX6_neededBy_1 rfl hn2 rfl ?_
  refine g_iconst C (v := 0) dX6_neededBy_2 (by decide) ?_
  refine g_istore_n C (i := 3) (lv' := [(3, .int 0), (2, .int 0), (0, va_rf (some x0)), (1, .int x1)]) dX6_neededBy_3 rfl hn3 rfl ?_
  refine g_sub (lv' := [(0, va_rf (some x0)), (1, .int x1), (2, .int 0), (3, .int 0)]) [2, 3, 1, 0] rfl ?_
  exact w_X6_neededBy_L4 C hn hQ 1000 S x0 x1 (0 : Int32) (0 : Int32) h

abbrev rm_X6_isHeld : Room := { frames := 4, cells := 0, slots := 0, locals := 94 }
theorem dsX6_isHeld : yX6_isHeld.cls = RX6 ∧ yX6_isHeld.cls ≠ "java/lang/invoke/MethodHandle" ∧ yX6_isHeld.cls ≠ "java/lang/invoke/VarHandle" ∧ (parseMethodDescriptor yX6_isHeld.desc).map (fun d => d.parameters.length) = some 2 := by decide +kernel
theorem gv_RX6_X6_neededBy : GoodIn wsL_law (wsV RX6 98 RX6 yX6_neededBy (.code yX6_neededBy cX6_neededBy 4 (some .double) :: wsL_law)) := good_V q511 q512 q513 q5 q514
def f_X6_isHeld (S : Hp) (x0 : Nat) (x1 : Int32) (x2 : Int32) : Option (Int32 × Hp) :=
 ob S 6 (some x0) fun _ =>
 ar S 8 (zR S x0 3) (1 + x2) fun a2 i1 =>
 ob S 6 (some x0) fun b1 => cl (f_X6_neededBy S b1 x1) fun e1 S1 =>
 if (Op.cmpValue (FP.dcmp (zD S a2 i1) e1) CmpOp.l) < 0 then
 some ((0 : Int32), S1)
 else
 some ((1 : Int32), S1)
set_option maxHeartbeats 4000000 in
set_option maxRecDepth 100000 in
theorem c_X6_isHeld (S : Hp) (x0 : Nat) (x1 : Int32) (x2 : Int32) (o : Int32 × Hp) (h : f_X6_isHeld S x0 x1 x2 = some o) : CtI yX6_isHeld cX6_isHeld 3 (some .boolean) rm_X6_isHeld 0 0 [va_rf (some x0), .int x1, .int x2] S o := by
  refine ct_I (own := RX6) (by decide) rfl (Nat.le_of_ble_eq_true rfl) (fun X C hn hQ => ?_)
  unfold f_X6_isHeld at h
  show GW X 0 0 S 0 [(0, va_rf (some x0)), (1, .int x1), (2, .int x2)] []
  refine g_aload_n C (q := 0) dX6_isHeld_0 rfl rfl ?_
  refine g_ogetSR C (ci := 6) (slot := 3) rfl (by decide) inlX6 (by decide) rfl q69 dX6_isHeld_1 h (fun h hLa1 hKa1 => ?_)
  refine g_iconst C (v := 1) dX6_isHeld_4 (by decide) ?_
  refine g_iload_n C (q := 2) dX6_isHeld_5 rfl rfl ?_
  refine g_iadd C dX6_isHeld_6 ?_
  refine g_dald C dX6_isHeld_7 h (fun a2 i1 h => ?_)
  refine g_aload_n C (q := 0) dX6_isHeld_8 rfl rfl ?_
  refine g_iload_n C (q := 1) dX6_isHeld_9 rfl rfl ?_
  refine g_callVD C (ci := 6) (As := [.int x1]) (np := 1) (st := [.double (zD S a2 i1)]) (r := (some x0)) rfl (by decide) (fun b1 q hq => c_X6_neededBy S b1 x1 q hq) gv_RX6_X6_neededBy rfl rfl dsX6_neededBy rfl ⟨Nat.le_of_ble_eq_true rfl, Nat.le_of_ble_eq_true rfl⟩ rfl (cat_sum (Nat.le_of_ble_eq_true rfl)) ⟨Nat.zero_le _, Nat.zero_le _⟩ dX6_isHeld_10 h (fun e1 S1 h => ?_)
  refine g_dcmp C dX6_isHeld_13 ?_
  refine g_if_lt C (tgt := 21) dX6_isHeld_14 (by decide) h (fun h => ?_) (fun h => ?_)
  · refine g_iconst C (v := 0) dX6_isHeld_21 (by decide) ?_
    exact g_zret C hQ (by decide) dX6_isHeld_22 h
  · refine g_iconst C (v := 1) dX6_isHeld_17 (by decide) ?_
    refine g_goto C (tgt := 22) dX6_isHeld_18 (by decide) ?_
    exact g_zret C hQ (by decide) dX6_isHeld_22 h
