abbrev rm_X4_moveInto : Room := { frames := 1, cells := 0, slots := 0, locals := 21 }
theorem dsX4_moveInto : yX4_moveInto.cls = RX4 ∧ yX4_moveInto.cls ≠ "java/lang/invoke/MethodHandle" ∧ yX4_moveInto.cls ≠ "java/lang/invoke/VarHandle" ∧ (parseMethodDescriptor yX4_moveInto.desc).map (fun d => d.parameters.length) = some 1 := by decide +kernel
theorem gv_RX4_X4_addToRow : GoodIn wsL_law (wsV RX4 71 RX4 yX4_addToRow (.code yX4_addToRow cX4_addToRow 2 none :: wsL_law)) := good_V q295 q296 q297 q35 q298
def f_X4_moveInto_L28_b (rec : Hp → Nat → Option Nat → Int32 → Option (Unit × Hp)) (S : Hp) (x0 : Nat) (y1 : Option Nat) (y2 : Int32) : Option (Unit × Hp) :=
 ob S 4 (some x0) fun _ =>
 if (zI S x0 7) ≤ y2 then
 ob S 4 (some x0) fun a2 => bnd (wI S a2 6 (0 : Int32)) fun S1 =>
 ob S1 4 (some x0) fun a3 => bnd (wI S1 a3 7 (0 : Int32)) fun S2 =>
 ob S2 4 (some x0) fun a4 => bnd (wI S2 a4 8 (0 : Int32)) fun S3 =>
 ob S3 4 (some x0) fun a5 => bnd (wI S3 a5 9 (3 : Int32)) fun S4 =>
 some ((), S4)
 else
 ar S 9 (zR S x0 0) y2 fun a6 i1 =>
 ob S 4 y1 fun b1 => cl (f_X4_addToRow S b1 (zI S a6 i1)) fun _ S5 =>
 bnd (y2 + 1) fun v1 =>
 rec S5 x0 y1 v1
def f_X4_moveInto_L28 : Nat → Hp → Nat → Option Nat → Int32 → Option (Unit × Hp)
  | 0 => fun _ _ _ _ => none
  | n + 1 => f_X4_moveInto_L28_b (f_X4_moveInto_L28 n)
def f_X4_moveInto (S : Hp) (x0 : Nat) (x1 : Option Nat) : Option (Unit × Hp) :=
 ob S 4 x1 fun a1 =>
 ob S 4 (some x0) fun _ =>
 ob S 4 x1 fun a3 => bnd (wI S a3 6 ((zI S a1 6) + (zI S x0 6))) fun S1 =>
 ob S1 4 x1 fun a4 =>
 ob S1 4 (some x0) fun _ =>
 ob S1 4 x1 fun a6 => bnd (wI S1 a6 8 ((zI S1 a4 8) + (zI S1 x0 8))) fun S2 =>
 f_X4_moveInto_L28 1000 S2 x0 x1 (0 : Int32)
set_option maxHeartbeats 4000000 in
set_option maxRecDepth 100000 in
theorem w_X4_moveInto_L28 {X : Cx} (C : CxOK X cX4_moveInto RX4 rm_X4_moveInto) (hn : xn X = 3) {S0 : Hp} {o : Unit × Hp} (hQ : QV X none S0 0 0 o) : ∀ (fuel : Nat) (S : Hp) (x0 : Nat) (y1 : Option Nat) (y2 : Int32), f_X4_moveInto_L28 fuel S x0 y1 y2 = some o → GW X 0 0 S 28 [(0, va_rf (some x0)), (1, va_rf y1), (2, .int y2)] [] := by
  have hn2 : 2 < xn X := by rw [hn]; decide
  intro fuel
  induction fuel with
  | zero => intro S x0 y1 y2 h; cases (show none = some o from h)
  | succ fuel ih =>
    intro S x0 y1 y2 h
    have h : f_X4_moveInto_L28_b (f_X4_moveInto_L28 fuel) S x0 y1 y2 = some o := h
    unfold f_X4_moveInto_L28_b at h
    refine g_iload_n C (q := 2) dX4_moveInto_28 rfl rfl ?_
    refine g_aload_n C (q := 0) dX4_moveInto_29 rfl rfl ?_
    refine g_ogetSI C (ci := 4) (slot := 7) rfl (by decide) inlX4 (by decide) rfl q147 dX4_moveInto_30 h (fun h hLa1 hKa1 => ?_)
    refine g_icmp_ge C (tgt := 52) dX4_moveInto_33 (by decide) h (fun h => ?_) (fun h => ?_)
    · refine g_aload_n C (q := 0) dX4_moveInto_52 rfl rfl ?_
      refine g_iconst C (v := 0) dX4_moveInto_53 (by decide) ?_
      refine g_oputI C (ci := 4) (slot := 6) tyX4 tyX4_ok nmX4 rfl (by decide) inlX4 (by decide) rfl q146 rfl dX4_moveInto_54 rfl rfl h (fun a2 S1 h => ?_)
      refine g_aload_n C (q := 0) dX4_moveInto_57 rfl rfl ?_
      refine g_iconst C (v := 0) dX4_moveInto_58 (by decide) ?_
      refine g_oputI C (ci := 4) (slot := 7) tyX4 tyX4_ok nmX4 rfl (by decide) inlX4 (by decide) rfl q147 rfl dX4_moveInto_59 rfl rfl h (fun a3 S2 h => ?_)
      refine g_aload_n C (q := 0) dX4_moveInto_62 rfl rfl ?_
      refine g_iconst C (v := 0) dX4_moveInto_63 (by decide) ?_
      refine g_oputI C (ci := 4) (slot := 8) tyX4 tyX4_ok nmX4 rfl (by decide) inlX4 (by decide) rfl q148 rfl dX4_moveInto_64 rfl rfl h (fun a4 S3 h => ?_)
      refine g_aload_n C (q := 0) dX4_moveInto_67 rfl rfl ?_
      refine g_iconst C (v := 3) dX4_moveInto_68 (by decide) ?_
      refine g_oputI C (ci := 4) (slot := 9) tyX4 tyX4_ok nmX4 rfl (by decide) inlX4 (by decide) rfl q149 rfl dX4_moveInto_69 rfl rfl h (fun a5 S4 h => ?_)
      exact g_vret C hQ dX4_moveInto_72 h
    · refine g_aload_n C (q := 1) dX4_moveInto_36 rfl rfl ?_
      refine g_aload_n C (q := 0) dX4_moveInto_37 rfl rfl ?_
      refine g_getER C (ci := 4) (slot := 0) rfl (by decide) inlX4 (by decide) rfl q44 dX4_moveInto_38 rfl hLa1 hKa1 ?_
      refine g_iload_n C (q := 2) dX4_moveInto_41 rfl rfl ?_
      refine g_iald C dX4_moveInto_42 h (fun a6 i1 h => ?_)
      refine g_callVV C (ci := 4) (As := [.int (zI S a6 i1)]) (np := 1) (st := []) (r := y1) rfl (by decide) (fun b1 q hq => c_X4_addToRow S b1 (zI S a6 i1) q hq) gv_RX4_X4_addToRow rfl rfl dsX4_addToRow rfl ⟨Nat.le_of_ble_eq_true rfl, Nat.le_of_ble_eq_true rfl⟩ rfl (cat_sum (Nat.le_of_ble_eq_true rfl)) ⟨Nat.zero_le _, Nat.zero_le _⟩ dX4_moveInto_43 h (fun S5 h => ?_)
      obtain ⟨v1, ev1, h⟩ := bnd_ex h
      refine g_iinc C (i := 2) (lv' := [(2, .int v1), (0, va_rf (some x0)), (1, va_rf y1)]) (q := 2) v1 dX4_moveInto_46 rfl ev1 hn2 (by simp [va_rf_cat, catI, catJ, catD]) ?_
      refine g_goto C (tgt := 28) dX4_moveInto_49 (by decide) ?_
      refine g_sub (lv' := [(0, va_rf (some x0)), (1, va_rf y1), (2, .int v1)]) [1, 2, 0] rfl ?_
      exact ih S5 x0 y1 v1 h
set_option maxHeartbeats 4000000 in
set_option maxRecDepth 100000 in
theorem c_X4_moveInto (S : Hp) (x0 : Nat) (x1 : Option Nat) (o : Unit × Hp) (h : f_X4_moveInto S x0 x1 = some o) : CtV yX4_moveInto cX4_moveInto 3 none rm_X4_moveInto 0 0 [va_rf (some x0), va_rf x1] S o := by
  refine ct_V (own := RX4) (by decide) rfl (by simp [lg_sl, va_rf_cat, catI, catJ, catD]) (fun X C hn hQ => ?_)
  have hn2 : 2 < xn X := by rw [hn]; decide
  unfold f_X4_moveInto at h
  rw [show lv_args 0 [va_rf (some x0), va_rf x1] = [(0, va_rf (some x0)), (1, va_rf x1)] by simp [lv_args, va_rf_cat, catI, catJ, catD]]
  refine g_aload_n C (q := 1) dX4_moveInto_0 rfl rfl ?_
  refine g_dup C dX4_moveInto_1 (va_rf_cat _) ?_
  refine g_ogetI C (ci := 4) (slot := 6) rfl (by decide) inlX4 (by decide) rfl q146 dX4_moveInto_2 h (fun a1 hra1 h hLa1 hKa1 => ?_)
  refine g_aload_n C (q := 0) dX4_moveInto_5 rfl rfl ?_
  refine g_ogetSI C (ci := 4) (slot := 6) rfl (by decide) inlX4 (by decide) rfl q146 dX4_moveInto_6 h (fun h hLa2 hKa2 => ?_)
  refine g_iadd C dX4_moveInto_9 ?_
  refine g_oputI C (ci := 4) (slot := 6) tyX4 tyX4_ok nmX4 rfl (by decide) inlX4 (by decide) rfl q146 rfl dX4_moveInto_10 rfl rfl h (fun a3 S1 h => ?_)
  refine g_aload_n C (q := 1) dX4_moveInto_13 rfl rfl ?_
  refine g_dup C dX4_moveInto_14 (va_rf_cat _) ?_
  refine g_ogetI C (ci := 4) (slot := 8) rfl (by decide) inlX4 (by decide) rfl q148 dX4_moveInto_15 h (fun a4 hra4 h hLa4 hKa4 => ?_)
  refine g_aload_n C (q := 0) dX4_moveInto_18 rfl rfl ?_
  refine g_ogetSI C (ci := 4) (slot := 8) rfl (by decide) inlX4 (by decide) rfl q148 dX4_moveInto_19 h (fun h hLa5 hKa5 => ?_)
  refine g_iadd C dX4_moveInto_22 ?_
  refine g_oputI C (ci := 4) (slot := 8) tyX4 tyX4_ok nmX4 rfl (by decide) inlX4 (by decide) rfl q148 rfl dX4_moveInto_23 rfl rfl h (fun a6 S2 h => ?_)
  refine g_iconst C (v := 0) dX4_moveInto_26 (by decide) ?_
  refine g_istore_n C (i := 2) (lv' := [(2, .int 0), (0, va_rf (some x0)), (1, va_rf x1)]) dX4_moveInto_27 rfl hn2 (by simp [va_rf_cat, catI, catJ, catD]) ?_
  refine g_sub (lv' := [(0, va_rf (some x0)), (1, va_rf x1), (2, .int 0)]) [1, 2, 0] rfl ?_
  exact w_X4_moveInto_L28 C hn hQ 1000 S2 x0 x1 (0 : Int32) h
