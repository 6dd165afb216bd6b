abbrev rm_X3_isWord : Room := { frames := 4, cells := 0, slots := 0, locals := 91 }
theorem dsX3_isWord : yX3_isWord.cls = RX3 ∧ yX3_isWord.cls ≠ "java/lang/invoke/MethodHandle" ∧ yX3_isWord.cls ≠ "java/lang/invoke/VarHandle" ∧ (parseMethodDescriptor yX3_isWord.desc).map (fun d => d.parameters.length) = some 2 := by decide +kernel
def f_X3_isWord_L20_b (rec : Hp → Nat → Nat → Int32 → Int32 → Option (Int32 × Hp)) (S : Hp) (x0 : Nat) (y1 : Nat) (y2 : Int32) (y3 : Int32) : Option (Int32 × Hp) :=
 if y2 ≤ y3 then
 some ((1 : Int32), S)
 else
 ob S 3 (some x0) fun _ =>
 ar S 7 (zR S x0 0) y3 fun a2 i1 =>
 gd (y1 < 5) <| gd (¬ (y3 < 0 ∨ txL.getD y1 0 ≤ y3.toNatClampNeg)) <|
 if (zI S a2 i1) = ((txB.getD y1 []).getD y3.toNatClampNeg 0) then
 bnd (y3 + 1) fun v1 =>
 rec S x0 y1 y2 v1
 else
 some ((0 : Int32), S)
def f_X3_isWord_L20 : Nat → Hp → Nat → Nat → Int32 → Int32 → Option (Int32 × Hp)
  | 0 => fun _ _ _ _ _ => none
  | n + 1 => f_X3_isWord_L20_b (f_X3_isWord_L20 n)
def f_X3_isWord (S : Hp) (x0 : Nat) (x1 : Nat) (x2 : Int32) : Option (Int32 × Hp) :=
 gd (x1 < 5) <|
 if x2 = (nI (txL.getD x1 0)) then
 ob S 3 (some x0) fun _ =>
 if x2 ≤ (zI S x0 1) then
 f_X3_isWord_L20 1000 S x0 x1 x2 (0 : Int32)
 else
 some ((0 : Int32), S)
 else
 some ((0 : Int32), S)
set_option maxHeartbeats 4000000 in
set_option maxRecDepth 100000 in
theorem w_X3_isWord_L20 {X : Cx} {adK adV : Nat → Nat} (E : EV adK adV (xA X) (xs X) (xs X).heap) (C : CxOK X cX3_isWord RX3 rm_X3_isWord) (hn : xn X = 4) {S0 : Hp} {o : Int32 × Hp} (hQ : QI X (some .boolean) S0 0 0 o) : ∀ (fuel : Nat) (S : Hp) (x0 : Nat) (y1 : Nat) (y2 : Int32) (y3 : Int32), f_X3_isWord_L20 fuel S x0 y1 y2 y3 = some o → GW X 0 0 S 20 [(0, va_rf (some x0)), (1, va_rf (some (adK y1))), (2, .int y2), (3, .int y3)] [] := by
  have hn3 : 3 < xn X := by rw [hn]; decide
  intro fuel
  induction fuel with
  | zero => intro S x0 y1 y2 y3 h; cases (show none = some o from h)
  | succ fuel ih =>
    intro S x0 y1 y2 y3 h
    have h : f_X3_isWord_L20_b (f_X3_isWord_L20 fuel) S x0 y1 y2 y3 = some o := h
    unfold f_X3_isWord_L20_b at h
    refine g_iload_n C (q := 3) dX3_isWord_20 rfl rfl ?_
    refine g_iload_n C (q := 2) dX3_isWord_21 rfl rfl ?_
    refine g_icmp_ge C (tgt := 47) dX3_isWord_22 (by decide) h (fun h => ?_) (fun h => ?_)
    · refine g_iconst C (v := 1) dX3_isWord_47 (by decide) ?_
      exact g_zret C hQ (by decide) dX3_isWord_48 h
    · refine g_aload_n C (q := 0) dX3_isWord_25 rfl rfl ?_
      refine g_ogetSR C (ci := 3) (slot := 0) rfl (by decide) inlX3 (by decide) rfl q57 dX3_isWord_26 h (fun h hLa1 hKa1 => ?_)
      refine g_iload_n C (q := 3) dX3_isWord_29 rfl rfl ?_
      refine g_cald C dX3_isWord_30 h (fun a2 i1 h => ?_)
      refine g_aload_n C (q := 1) dX3_isWord_31 rfl rfl ?_
      refine g_iload_n C (q := 3) dX3_isWord_32 rfl rfl ?_
      obtain ⟨hw, h⟩ := gd_el h
      obtain ⟨hj, h⟩ := gd_el h
      refine g_callJE C E (As := [.int y3]) (np := 1) (st := [.int (zI S a2 i1)]) hw (c_J0_charAt_5068e S y1 y3 hw hj) gv_RX3_J0_charAt_5068e rfl rfl dsJ0_charAt_5068e rfl ⟨Nat.le_of_ble_eq_true rfl, Nat.le_of_ble_eq_true rfl⟩ rfl (cat_sum (Nat.le_of_ble_eq_true rfl)) ⟨Nat.zero_le _, Nat.zero_le _⟩ dX3_isWord_33 ?_
      refine g_icmp_eq C (tgt := 41) dX3_isWord_36 (by decide) h (fun h => ?_) (fun h => ?_)
      · obtain ⟨v1, ev1, h⟩ := bnd_ex h
        refine g_iinc C (i := 3) (lv' := [(3, .int v1), (0, va_rf (some x0)), (1, va_rf (some (adK y1))), (2, .int y2)]) (q := 3) v1 dX3_isWord_41 rfl ev1 hn3 rfl ?_
        refine g_goto C (tgt := 20) dX3_isWord_44 (by decide) ?_
        refine g_sub (lv' := [(0, va_rf (some x0)), (1, va_rf (some (adK y1))), (2, .int y2), (3, .int v1)]) [1, 2, 3, 0] rfl ?_
        exact ih S x0 y1 y2 v1 h
      · refine g_iconst C (v := 0) dX3_isWord_39 (by decide) ?_
        exact g_zret C hQ (by decide) dX3_isWord_40 h
set_option maxHeartbeats 4000000 in
set_option maxRecDepth 100000 in
theorem c_X3_isWord (S : Hp) (x0 : Nat) (x1 : Nat) (x2 : Int32) (o : Int32 × Hp) (h : f_X3_isWord S x0 x1 x2 = some o) : CtE yX3_isWord cX3_isWord 4 (some .boolean) rm_X3_isWord (fun adK adV => [va_rf (some x0), va_rf (some (adK x1)), .int x2]) S o := by
  refine ct_E (own := RX3) (by decide) rfl (fun adK adV => (by simp [lg_sl, va_rf_cat, catI, catJ, catD])) (fun X adK adV C hn E hQ => ?_)
  have hn3 : 3 < xn X := by rw [hn]; decide
  unfold f_X3_isWord at h
  rw [show lv_args 0 [va_rf (some x0), va_rf (some (adK x1)), .int x2] = [(0, va_rf (some x0)), (1, va_rf (some (adK x1))), (2, .int x2)] by simp [lv_args, va_rf_cat, catI, catJ, catD]]
  refine g_iload_n C (q := 2) dX3_isWord_0 rfl rfl ?_
  refine g_aload_n C (q := 1) dX3_isWord_1 rfl rfl ?_
  obtain ⟨hw, h⟩ := gd_el h
  refine g_callJE C E (As := []) (np := 0) (st := [.int x2]) hw (c_J0_length_8abf5 S x1 hw) gv_RX3_J0_length_8abf5 rfl rfl dsJ0_length_8abf5 rfl ⟨Nat.le_of_ble_eq_true rfl, Nat.le_of_ble_eq_true rfl⟩ rfl (cat_sum (Nat.le_of_ble_eq_true rfl)) ⟨Nat.zero_le _, Nat.zero_le _⟩ dX3_isWord_2 ?_
  refine g_icmp_ne C (tgt := 16) dX3_isWord_5 (by decide) h (fun h => ?_) (fun h => ?_)
  · refine g_iload_n C (q := 2) dX3_isWord_8 rfl rfl ?_
    refine g_aload_n C (q := 0) dX3_isWord_9 rfl rfl ?_
    refine g_ogetSI C (ci := 3) (slot := 1) rfl (by decide) inlX3 (by decide) rfl q174 dX3_isWord_10 h (fun h hLa1 hKa1 => ?_)
    refine g_icmp_le C (tgt := 18) dX3_isWord_13 (by decide) h (fun h => ?_) (fun h => ?_)
    · refine g_iconst C (v := 0) dX3_isWord_18 (by decide) ?_
      refine g_istore_n C (i := 3) (lv' := [(3, .int 0), (0, va_rf (some x0)), (1, va_rf (some (adK x1))), (2, .int x2)]) dX3_isWord_19 rfl hn3 rfl ?_
      refine g_sub (lv' := [(0, va_rf (some x0)), (1, va_rf (some (adK x1))), (2, .int x2), (3, .int 0)]) [1, 2, 3, 0] rfl ?_
      exact w_X3_isWord_L20 E C hn hQ 1000 S x0 x1 x2 (0 : Int32) h
    · refine g_iconst C (v := 0) dX3_isWord_16 (by decide) ?_
      exact g_zret C hQ (by decide) dX3_isWord_17 h
  · refine g_iconst C (v := 0) dX3_isWord_16 (by decide) ?_
    exact g_zret C hQ (by decide) dX3_isWord_17 h

abbrev rm_X3_commandOf : Room := { frames := 5, cells := 0, slots := 0, locals := 114 }
theorem dsX3_commandOf : yX3_commandOf.cls = RX3 ∧ yX3_commandOf.cls ≠ "java/lang/invoke/MethodHandle" ∧ yX3_commandOf.cls ≠ "java/lang/invoke/VarHandle" ∧ (parseMethodDescriptor yX3_commandOf.desc).map (fun d => d.parameters.length) = some 1 := by decide +kernel
theorem gv_RX3_X3_isWord : GoodIn wsL_law (wsV RX3 46 RX3 yX3_isWord (.code yX3_isWord cX3_isWord 4 (some .boolean) :: wsL_law)) := good_V q183 q184 q185 q20 q186
def f_X3_commandOf (S : Hp) (x0 : Nat) (x1 : Int32) : Option (Int32 × Hp) :=
 ob S 3 (some x0) fun b1 => cl (f_X3_isWord S b1 0 x1) fun v1 S1 =>
 if v1 = 0 then
 ob S1 3 (some x0) fun b2 => cl (f_X3_isWord S1 b2 1 x1) fun v2 S2 =>
 if v2 = 0 then
 ob S2 3 (some x0) fun b3 => cl (f_X3_isWord S2 b3 2 x1) fun v3 S3 =>
 if v3 = 0 then
 ob S3 3 (some x0) fun b4 => cl (f_X3_isWord S3 b4 3 x1) fun v4 S4 =>
 if v4 = 0 then
 ob S4 3 (some x0) fun b5 => cl (f_X3_isWord S4 b5 4 x1) fun v5 S5 =>
 if v5 = 0 then
 some ((0 : Int32), S5)
 else
 some ((5 : Int32), S5)
 else
 some ((4 : Int32), S4)
 else
 some ((3 : Int32), S3)
 else
 some ((2 : Int32), S2)
 else
 some ((1 : Int32), S1)
set_option maxHeartbeats 4000000 in
set_option maxRecDepth 100000 in
theorem c_X3_commandOf (S : Hp) (x0 : Nat) (x1 : Int32) (o : Int32 × Hp) (h : f_X3_commandOf S x0 x1 = some o) : CtE yX3_commandOf cX3_commandOf 2 (some .int) rm_X3_commandOf (fun adK adV => [va_rf (some x0), .int x1]) S o := by
  refine ct_E (own := RX3) (by decide) rfl (fun adK adV => (Nat.le_of_ble_eq_true rfl)) (fun X adK adV C hn E hQ => ?_)
  unfold f_X3_commandOf at h
  show GW X 0 0 S 0 [(0, va_rf (some x0)), (1, .int x1)] []
  refine g_aload_n C (q := 0) dX3_commandOf_0 rfl rfl ?_
  refine g_ldcS C E (i := 0) (by decide) rfl dX3_commandOf_1 ?_
  refine g_iload_n C (q := 1) dX3_commandOf_3 rfl rfl ?_
  refine g_callVE C E (ci := 3) (As := fun adK adV => [va_rf (some (adK 0)), .int x1]) (np := 2) (st := []) (r := (some x0)) rfl (by decide) (fun b1 q hq => c_X3_isWord S b1 0 x1 q hq) gv_RX3_X3_isWord rfl rfl dsX3_isWord rfl ⟨Nat.le_of_ble_eq_true rfl, Nat.le_of_ble_eq_true rfl⟩ rfl (cat_sum (Nat.le_of_ble_eq_true rfl)) ⟨Nat.zero_le _, Nat.zero_le _⟩ dX3_commandOf_4 h (fun v1 S1 h => ?_)
  refine g_if_eq C (tgt := 12) dX3_commandOf_7 (by decide) h (fun h => ?_) (fun h => ?_)
  · refine g_aload_n C (q := 0) dX3_commandOf_12 rfl rfl ?_
    refine g_ldcS C E (i := 1) (by decide) rfl dX3_commandOf_13 ?_
    refine g_iload_n C (q := 1) dX3_commandOf_15 rfl rfl ?_
    refine g_callVE C E (ci := 3) (As := fun adK adV => [va_rf (some (adK 1)), .int x1]) (np := 2) (st := []) (r := (some x0)) rfl (by decide) (fun b2 q hq => c_X3_isWord S1 b2 1 x1 q hq) gv_RX3_X3_isWord rfl rfl dsX3_isWord rfl ⟨Nat.le_of_ble_eq_true rfl, Nat.le_of_ble_eq_true rfl⟩ rfl (cat_sum (Nat.le_of_ble_eq_true rfl)) ⟨Nat.zero_le _, Nat.zero_le _⟩ dX3_commandOf_16 h (fun v2 S2 h => ?_)
    refine g_if_eq C (tgt := 24) dX3_commandOf_19 (by decide) h (fun h => ?_) (fun h => ?_)
    · refine g_aload_n C (q := 0) dX3_commandOf_24 rfl rfl ?_
      refine g_ldcS C E (i := 2) (by decide) rfl dX3_commandOf_25 ?_
      refine g_iload_n C (q := 1) dX3_commandOf_27 rfl rfl ?_
      refine g_callVE C E (ci := 3) (As := fun adK adV => [va_rf (some (adK 2)), .int x1]) (np := 2) (st := []) (r := (some x0)) rfl (by decide) (fun b3 q hq => c_X3_isWord S2 b3 2 x1 q hq) gv_RX3_X3_isWord rfl rfl dsX3_isWord rfl ⟨Nat.le_of_ble_eq_true rfl, Nat.le_of_ble_eq_true rfl⟩ rfl (cat_sum (Nat.le_of_ble_eq_true rfl)) ⟨Nat.zero_le _, Nat.zero_le _⟩ dX3_commandOf_28 h (fun v3 S3 h => ?_)
      refine g_if_eq C (tgt := 36) dX3_commandOf_31 (by decide) h (fun h => ?_) (fun h => ?_)
      · refine g_aload_n C (q := 0) dX3_commandOf_36 rfl rfl ?_
        refine g_ldcS C E (i := 3) (by decide) rfl dX3_commandOf_37 ?_
        refine g_iload_n C (q := 1) dX3_commandOf_39 rfl rfl ?_
        refine g_callVE C E (ci := 3) (As := fun adK adV => [va_rf (some (adK 3)), .int x1]) (np := 2) (st := []) (r := (some x0)) rfl (by decide) (fun b4 q hq => c_X3_isWord S3 b4 3 x1 q hq) gv_RX3_X3_isWord rfl rfl dsX3_isWord rfl ⟨Nat.le_of_ble_eq_true rfl, Nat.le_of_ble_eq_true rfl⟩ rfl (cat_sum (Nat.le_of_ble_eq_true rfl)) ⟨Nat.zero_le _, Nat.zero_le _⟩ dX3_commandOf_40 h (fun v4 S4 h => ?_)
        refine g_if_eq C (tgt := 48) dX3_commandOf_43 (by decide) h (fun h => ?_) (fun h => ?_)
        · refine g_aload_n C (q := 0) dX3_commandOf_48 rfl rfl ?_
          refine g_ldcS C E (i := 4) (by decide) rfl dX3_commandOf_49 ?_
          refine g_iload_n C (q := 1) dX3_commandOf_51 rfl rfl ?_
          refine g_callVE C E (ci := 3) (As := fun adK adV => [va_rf (some (adK 4)), .int x1]) (np := 2) (st := []) (r := (some x0)) rfl (by decide) (fun b5 q hq => c_X3_isWord S4 b5 4 x1 q hq) gv_RX3_X3_isWord rfl rfl dsX3_isWord rfl ⟨Nat.le_of_ble_eq_true rfl, Nat.le_of_ble_eq_true rfl⟩ rfl (cat_sum (Nat.le_of_ble_eq_true rfl)) ⟨Nat.zero_le _, Nat.zero_le _⟩ dX3_commandOf_52 h (fun v5 S5 h => ?_)
          refine g_if_eq C (tgt := 62) dX3_commandOf_55 (by decide) h (fun h => ?_) (fun h => ?_)
          · refine g_iconst C (v := 0) dX3_commandOf_62 (by decide) ?_
            exact g_iret C hQ dX3_commandOf_63 h
          · refine g_iconst C (v := 5) dX3_commandOf_58 (by decide) ?_
            refine g_goto C (tgt := 63) dX3_commandOf_59 (by decide) ?_
            exact g_iret C hQ dX3_commandOf_63 h
        · refine g_iconst C (v := 4) dX3_commandOf_46 (by decide) ?_
          exact g_iret C hQ dX3_commandOf_47 h
      · refine g_iconst C (v := 3) dX3_commandOf_34 (by decide) ?_
        exact g_iret C hQ dX3_commandOf_35 h
    · refine g_iconst C (v := 2) dX3_commandOf_22 (by decide) ?_
      exact g_iret C hQ dX3_commandOf_23 h
  · refine g_iconst C (v := 1) dX3_commandOf_10 (by decide) ?_
    exact g_iret C hQ dX3_commandOf_11 h

abbrev rm_X3_read : Room := { frames := 6, cells := 0, slots := 0, locals := 135 }
theorem dsX3_read : yX3_read.cls = RX3 ∧ yX3_read.cls ≠ "java/lang/invoke/MethodHandle" ∧ yX3_read.cls ≠ "java/lang/invoke/VarHandle" ∧ (parseMethodDescriptor yX3_read.desc).map (fun d => d.parameters.length) = some 0 := by decide +kernel
theorem gv_RX3_X3_commandOf : GoodIn wsL_law (wsV RX3 23 RX3 yX3_commandOf (.code yX3_commandOf cX3_commandOf 2 (some .int) :: wsL_law)) := good_V q179 q180 q181 q20 q182
theorem gv_RX3_X3_digitsAt : GoodIn wsL_law (wsV RX3 37 RX3 yX3_digitsAt (.code yX3_digitsAt cX3_digitsAt 2 (some .int) :: wsL_law)) := good_V q244 q245 q246 q20 q247
theorem gv_RX3_X3_isBlankAt : GoodIn wsL_law (wsV RX3 30 RX3 yX3_isBlankAt (.code yX3_isBlankAt cX3_isBlankAt 2 (some .boolean) :: wsL_law)) := good_V q236 q237 q238 q20 q239
theorem gv_RX3_X3_keepNumber : GoodIn wsL_law (wsV RX3 40 RX3 yX3_keepNumber (.code yX3_keepNumber cX3_keepNumber 5 none :: wsL_law)) := good_V q248 q249 q250 q20 q251
theorem gv_RX3_X3_wordLength : GoodIn wsL_law (wsV RX3 19 RX3 yX3_wordLength (.code yX3_wordLength cX3_wordLength 2 (some .int) :: wsL_law)) := good_V q175 q176 q177 q20 q178
def f_X3_read_L39_b (rec : Hp → Nat → Int32 → Int32 → Int32 → Option (Int32 × Hp)) (S : Hp) (x0 : Nat) (y1 : Int32) (y2 : Int32) (y3 : Int32) : Option (Int32 × Hp) :=
 if y2 ≤ y3 then
 ob S 3 (some x0) fun _ =>
 if (zI S x0 1) ≤ y1 then
 some ((-1 : Int32), S)
 else
 some (y1, S)
 else
 ob S 3 (some x0) fun b1 => cl (f_X3_isBlankAt S b1 y1) fun v1 S1 =>
 if v1 = 0 then
 some (y1, S1)
 else
 bnd (y1 + 1) fun v2 =>
 ob S1 3 (some x0) fun b2 => cl (f_X3_isDigitAt S1 b2 v2) fun v3 S2 =>
 if v3 = 0 then
 some (v2, S2)
 else
 ob S2 3 (some x0) fun b3 => cl (f_X3_digitsAt S2 b3 v2) fun v4 S3 =>
 ob S3 3 (some x0) fun b4 => cl (f_X3_keepNumber S3 b4 y3 v2 v4) fun _ S4 =>
 bnd ((v2 + v4)) fun v5 =>
 bnd (y3 + 1) fun v6 =>
 rec S4 x0 v5 y2 v6
def f_X3_read_L39 : Nat → Hp → Nat → Int32 → Int32 → Int32 → Option (Int32 × Hp)
  | 0 => fun _ _ _ _ _ => none
  | n + 1 => f_X3_read_L39_b (f_X3_read_L39 n)
def f_X3_read (S : Hp) (x0 : Nat) : Option (Int32 × Hp) :=
 ob S 3 (some x0) fun b1 => cl (f_X3_wordLength S b1 ) fun v1 S1 =>
 ob S1 3 (some x0) fun b2 => cl (f_X3_commandOf S1 b2 v1) fun v2 S2 =>
 ob S2 3 (some x0) fun a1 => bnd (wI S2 a1 2 v2) fun S3 =>
 ob S3 3 (some x0) fun _ =>
 if (zI S3 x0 2) = 0 then
 some ((0 : Int32), S3)
 else
 if (zI S3 x0 2) = 4 then
 f_X3_read_L39 1000 S3 x0 v1 (1 : Int32) (0 : Int32)
 else
 f_X3_read_L39 1000 S3 x0 v1 (2 : Int32) (0 : Int32)
set_option maxHeartbeats 4000000 in
set_option maxRecDepth 100000 in
theorem w_X3_read_L39 {X : Cx} {adK adV : Nat → Nat} (E : EV adK adV (xA X) (xs X) (xs X).heap) (C : CxOK X cX3_read RX3 rm_X3_read) (hn : xn X = 5) {S0 : Hp} {o : Int32 × Hp} (hQ : QI X (some .int) S0 0 0 o) : ∀ (fuel : Nat) (S : Hp) (x0 : Nat) (y1 : Int32) (y2 : Int32) (y3 : Int32), f_X3_read_L39 fuel S x0 y1 y2 y3 = some o → GW X 0 0 S 39 [(0, va_rf (some x0)), (1, .int y1), (2, .int y2), (3, .int y3)] [] := by
  have hn1 : 1 < xn X := by rw [hn]; decide
  have hn3 : 3 < xn X := by rw [hn]; decide
  have hn4 : 4 < xn X := by rw [hn]; decide
  intro fuel
  induction fuel with
  | zero => intro S x0 y1 y2 y3 h; cases (show none = some o from h)
  | succ fuel ih =>
    intro S x0 y1 y2 y3 h
    have h : f_X3_read_L39_b (f_X3_read_L39 fuel) S x0 y1 y2 y3 = some o := h
    unfold f_X3_read_L39_b at h
    refine g_iload_n C (q := 3) dX3_read_39 rfl rfl ?_
    refine g_iload_n C (q := 2) dX3_read_40 rfl rfl ?_
    refine g_icmp_ge C (tgt := 93) dX3_read_41 (by decide) h (fun h => ?_) (fun h => ?_)
    · refine g_iload_n C (q := 1) dX3_read_93 rfl rfl ?_
      refine g_aload_n C (q := 0) dX3_read_94 rfl rfl ?_
      refine g_ogetSI C (ci := 3) (slot := 1) rfl (by decide) inlX3 (by decide) rfl q174 dX3_read_95 h (fun h hLa1 hKa1 => ?_)
      refine g_icmp_ge C (tgt := 105) dX3_read_98 (by decide) h (fun h => ?_) (fun h => ?_)
      · refine g_iconst C (v := (-1)) dX3_read_105 (by decide) ?_
        exact g_iret C hQ dX3_read_106 h
      · refine g_iload_n C (q := 1) dX3_read_101 rfl rfl ?_
        refine g_goto C (tgt := 106) dX3_read_102 (by decide) ?_
        exact g_iret C hQ dX3_read_106 h
    · refine g_aload_n C (q := 0) dX3_read_44 rfl rfl ?_
      refine g_iload_n C (q := 1) dX3_read_45 rfl rfl ?_
      refine g_callVI C (ci := 3) (As := [.int y1]) (np := 1) (st := []) (r := (some x0)) rfl (by decide) (fun b1 q hq => c_X3_isBlankAt S b1 y1 q hq) gv_RX3_X3_isBlankAt rfl rfl dsX3_isBlankAt rfl ⟨Nat.le_of_ble_eq_true rfl, Nat.le_of_ble_eq_true rfl⟩ rfl (cat_sum (Nat.le_of_ble_eq_true rfl)) ⟨Nat.zero_le _, Nat.zero_le _⟩ dX3_read_46 h (fun v1 S1 h => ?_)
      refine g_if_ne C (tgt := 54) dX3_read_49 (by decide) h (fun h => ?_) (fun h => ?_)
      · refine g_iload_n C (q := 1) dX3_read_52 rfl rfl ?_
        exact g_iret C hQ dX3_read_53 h
      · obtain ⟨v2, ev2, h⟩ := bnd_ex h
        refine g_iinc C (i := 1) (lv' := [(1, .int v2), (0, va_rf (some x0)), (2, .int y2), (3, .int y3)]) (q := 1) v2 dX3_read_54 rfl ev2 hn1 (by simp [va_rf_cat, catI, catJ, catD]) ?_
        refine g_aload_n C (q := 1) dX3_read_57 rfl rfl ?_
        refine g_iload_n C (q := 0) dX3_read_58 rfl rfl ?_
        refine g_callVI C (ci := 3) (As := [.int v2]) (np := 1) (st := []) (r := (some x0)) rfl (by decide) (fun b2 q hq => c_X3_isDigitAt S1 b2 v2 q hq) gv_RX3_X3_isDigitAt rfl rfl dsX3_isDigitAt rfl ⟨Nat.le_of_ble_eq_true rfl, Nat.le_of_ble_eq_true rfl⟩ rfl (cat_sum (Nat.le_of_ble_eq_true rfl)) ⟨Nat.zero_le _, Nat.zero_le _⟩ dX3_read_59 h (fun v3 S2 h => ?_)
        refine g_if_ne C (tgt := 67) dX3_read_62 (by decide) h (fun h => ?_) (fun h => ?_)
        · refine g_iload_n C (q := 0) dX3_read_65 rfl rfl ?_
          exact g_iret C hQ dX3_read_66 h
        · refine g_aload_n C (q := 1) dX3_read_67 rfl rfl ?_
          refine g_iload_n C (q := 0) dX3_read_68 rfl rfl ?_
          refine g_callVI C (ci := 3) (As := [.int v2]) (np := 1) (st := []) (r := (some x0)) rfl (by decide) (fun b3 q hq => c_X3_digitsAt S2 b3 v2 q hq) gv_RX3_X3_digitsAt rfl rfl dsX3_digitsAt rfl ⟨Nat.le_of_ble_eq_true rfl, Nat.le_of_ble_eq_true rfl⟩ rfl (cat_sum (Nat.le_of_ble_eq_true rfl)) ⟨Nat.zero_le _, Nat.zero_le _⟩ dX3_read_69 h (fun v4 S3 h => ?_)
          refine g_istore C (i := 4) (lv' := [(4, .int v4), (1, .int v2), (0, va_rf (some x0)), (2, .int y2), (3, .int y3)]) dX3_read_72 hn4 rfl ?_
          refine g_aload_n C (q := 2) dX3_read_74 rfl rfl ?_
          refine g_iload_n C (q := 4) dX3_read_75 rfl rfl ?_
          refine g_iload_n C (q := 1) dX3_read_76 rfl rfl ?_
          refine g_iload C (q := 0) dX3_read_77 rfl ?_
          refine g_callVV C (ci := 3) (As := [.int y3, .int v2, .int v4]) (np := 3) (st := []) (r := (some x0)) rfl (by decide) (fun b4 q hq => c_X3_keepNumber S3 b4 y3 v2 v4 q hq) gv_RX3_X3_keepNumber rfl rfl dsX3_keepNumber rfl ⟨Nat.le_of_ble_eq_true rfl, Nat.le_of_ble_eq_true rfl⟩ rfl (cat_sum (Nat.le_of_ble_eq_true rfl)) ⟨Nat.zero_le _, Nat.zero_le _⟩ dX3_read_79 h (fun S4 h => ?_)
          refine g_iload_n C (q := 1) dX3_read_82 rfl rfl ?_
          refine g_iload C (q := 0) dX3_read_83 rfl ?_
          refine g_iadd C dX3_read_85 ?_
          refine g_nmI h (fun v5 h => ?_)
          refine g_istore_n C (i := 1) (lv' := [(1, .int v5), (4, .int v4), (0, va_rf (some x0)), (2, .int y2), (3, .int y3)]) dX3_read_86 rfl hn1 (by simp [va_rf_cat, catI, catJ, catD]) ?_
          obtain ⟨v6, ev6, h⟩ := bnd_ex h
          refine g_iinc C (i := 3) (lv' := [(3, .int v6), (1, .int v5), (4, .int v4), (0, va_rf (some x0)), (2, .int y2)]) (q := 4) v6 dX3_read_87 rfl ev6 hn3 rfl ?_
          refine g_goto C (tgt := 39) dX3_read_90 (by decide) ?_
          refine g_sub (lv' := [(0, va_rf (some x0)), (1, .int v5), (2, .int y2), (3, .int v6)]) [3, 1, 4, 0] rfl ?_
          exact ih S4 x0 v5 y2 v6 h
set_option maxHeartbeats 4000000 in
set_option maxRecDepth 100000 in
theorem c_X3_read (S : Hp) (x0 : Nat) (o : Int32 × Hp) (h : f_X3_read S x0 = some o) : CtE yX3_read cX3_read 5 (some .int) rm_X3_read (fun adK adV => [va_rf (some x0)]) S o := by
  refine ct_E (own := RX3) (by decide) rfl (fun adK adV => (Nat.le_of_ble_eq_true rfl)) (fun X adK adV C hn E hQ => ?_)
  have hn1 : 1 < xn X := by rw [hn]; decide
  have hn2 : 2 < xn X := by rw [hn]; decide
  have hn3 : 3 < xn X := by rw [hn]; decide
  unfold f_X3_read at h
  show GW X 0 0 S 0 [(0, va_rf (some x0))] []
  refine g_aload_n C (q := 0) dX3_read_0 rfl rfl ?_
  refine g_callVI C (ci := 3) (As := []) (np := 0) (st := []) (r := (some x0)) rfl (by decide) (fun b1 q hq => c_X3_wordLength S b1  q hq) gv_RX3_X3_wordLength rfl rfl dsX3_wordLength rfl ⟨Nat.le_of_ble_eq_true rfl, Nat.le_of_ble_eq_true rfl⟩ rfl (cat_sum (Nat.le_of_ble_eq_true rfl)) ⟨Nat.zero_le _, Nat.zero_le _⟩ dX3_read_1 h (fun v1 S1 h => ?_)
  refine g_istore_n C (i := 1) (lv' := [(1, .int v1), (0, va_rf (some x0))]) dX3_read_4 rfl hn1 (by simp [va_rf_cat, catI, catJ, catD]) ?_
  refine g_aload_n C (q := 1) dX3_read_5 rfl rfl ?_
  refine g_aload_n C (q := 1) dX3_read_6 rfl rfl ?_
  refine g_iload_n C (q := 0) dX3_read_7 rfl rfl ?_
  refine g_callVE C E (ci := 3) (As := fun adK adV => [.int v1]) (np := 1) (st := [va_rf (some x0)]) (r := (some x0)) rfl (by decide) (fun b2 q hq => c_X3_commandOf S1 b2 v1 q hq) gv_RX3_X3_commandOf rfl rfl dsX3_commandOf rfl ⟨Nat.le_of_ble_eq_true rfl, Nat.le_of_ble_eq_true rfl⟩ rfl (cat_sum (Nat.le_of_ble_eq_true rfl)) ⟨Nat.zero_le _, Nat.zero_le _⟩ dX3_read_8 h (fun v2 S2 h => ?_)
  refine g_oputI C (ci := 3) (slot := 2) tyX3 tyX3_ok nmX3 rfl (by decide) inlX3 (by decide) rfl q173 rfl dX3_read_11 rfl rfl h (fun a1 S3 h => ?_)
  refine g_aload_n C (q := 1) dX3_read_14 rfl rfl ?_
  refine g_ogetSI C (ci := 3) (slot := 2) rfl (by decide) inlX3 (by decide) rfl q173 dX3_read_15 h (fun h hLa2 hKa2 => ?_)
  refine g_if_ne C (tgt := 23) dX3_read_18 (by decide) h (fun h => ?_) (fun h => ?_)
  · refine g_iconst C (v := 0) dX3_read_21 (by decide) ?_
    exact g_iret C hQ dX3_read_22 h
  · refine g_aload_n C (q := 1) dX3_read_23 rfl rfl ?_
    refine g_getEI C (ci := 3) (slot := 2) rfl (by decide) inlX3 (by decide) rfl q173 dX3_read_24 rfl hLa2 hKa2 ?_
    refine g_iconst C (v := 4) dX3_read_27 (by decide) ?_
    refine g_icmp_ne C (tgt := 35) dX3_read_28 (by decide) h (fun h => ?_) (fun h => ?_)
    · refine g_iconst C (v := 1) dX3_read_31 (by decide) ?_
      refine g_goto C (tgt := 36) dX3_read_32 (by decide) ?_
      refine g_istore_n C (i := 2) (lv' := [(2, .int 1), (1, .int v1), (0, va_rf (some x0))]) dX3_read_36 rfl hn2 rfl ?_
      refine g_iconst C (v := 0) dX3_read_37 (by decide) ?_
      refine g_istore_n C (i := 3) (lv' := [(3, .int 0), (2, .int 1), (1, .int v1), (0, va_rf (some x0))]) dX3_read_38 rfl hn3 rfl ?_
      refine g_sub (lv' := [(0, va_rf (some x0)), (1, .int v1), (2, .int 1), (3, .int 0)]) [3, 2, 1, 0] rfl ?_
      exact w_X3_read_L39 E C hn hQ 1000 S3 x0 v1 (1 : Int32) (0 : Int32) h
    · refine g_iconst C (v := 2) dX3_read_35 (by decide) ?_
      refine g_istore_n C (i := 2) (lv' := [(2, .int 2), (1, .int v1), (0, va_rf (some x0))]) dX3_read_36 rfl hn2 rfl ?_
      refine g_iconst C (v := 0) dX3_read_37 (by decide) ?_
      refine g_istore_n C (i := 3) (lv' := [(3, .int 0), (2, .int 2), (1, .int v1), (0, va_rf (some x0))]) dX3_read_38 rfl hn3 rfl ?_
      refine g_sub (lv' := [(0, va_rf (some x0)), (1, .int v1), (2, .int 2), (3, .int 0)]) [3, 2, 1, 0] rfl ?_
      exact w_X3_read_L39 E C hn hQ 1000 S3 x0 v1 (2 : Int32) (0 : Int32) h

abbrev rm_X5_perform : Room := { frames := 7, cells := 0, slots := 0, locals := 159 }
theorem dsX5_perform : yX5_perform.cls = RX5 ∧ yX5_perform.cls ≠ "java/lang/invoke/MethodHandle" ∧ yX5_perform.cls ≠ "java/lang/invoke/VarHandle" ∧ (parseMethodDescriptor yX5_perform.desc).map (fun d => d.parameters.length) = some 0 := by decide +kernel
theorem gv_RX5_X3_read : GoodIn wsL_law (wsV RX5 193 RX3 yX3_read (.code yX3_read cX3_read 5 (some .int) :: wsL_law)) := good_V q169 q170 q171 q20 q172
theorem gv_RX5_X5_book : GoodIn wsL_law (wsV RX5 205 RX5 yX5_book (.code yX5_book cX5_book 5 (some .int) :: wsL_law)) := good_V q254 q255 q256 q2 q257
theorem gv_RX5_X5_cancel : GoodIn wsL_law (wsV RX5 217 RX5 yX5_cancel (.code yX5_cancel cX5_cancel 3 (some .int) :: wsL_law)) := good_V q328 q329 q330 q2 q331
theorem gv_RX5_X5_lead : GoodIn wsL_law (wsV RX5 214 RX5 yX5_lead (.code yX5_lead cX5_lead 4 (some .int) :: wsL_law)) := good_V q299 q300 q301 q2 q302
theorem gv_RX5_X5_leave : GoodIn wsL_law (wsV RX5 208 RX5 yX5_leave (.code yX5_leave cX5_leave 5 (some .int) :: wsL_law)) := good_V q265 q266 q267 q2 q268
theorem gv_RX5_X5_merge : GoodIn wsL_law (wsV RX5 211 RX5 yX5_merge (.code yX5_merge cX5_merge 7 (some .int) :: wsL_law)) := good_V q283 q284 q285 q2 q286
def f_X5_perform (S : Hp) (x0 : Nat) : Option (Int32 × Hp) :=
 ob S 5 (some x0) fun _ =>
 ob S 3 (zR S x0 3) fun b1 => cl (f_X3_read S b1 ) fun v1 S1 =>
 if v1 = (-1) then
 ob S1 5 (some x0) fun _ =>
 ob S1 3 (zR S1 x0 3) fun a3 =>
 if (zI S1 a3 2) = 1 then
 ob S1 5 (some x0) fun b2 => cl (f_X5_book S1 b2 (zI S1 a3 3) (zI S1 a3 4)) fun v2 S2 =>
 some (v2, S2)
 else if (zI S1 a3 2) = 2 then
 ob S1 5 (some x0) fun b3 => cl (f_X5_leave S1 b3 (zI S1 a3 3) (zI S1 a3 4)) fun v3 S3 =>
 some (v3, S3)
 else if (zI S1 a3 2) = 3 then
 ob S1 5 (some x0) fun b4 => cl (f_X5_merge S1 b4 (zI S1 a3 3) (zI S1 a3 4)) fun v4 S4 =>
 some (v4, S4)
 else if (zI S1 a3 2) = 4 then
 ob S1 5 (some x0) fun b5 => cl (f_X5_cancel S1 b5 (zI S1 a3 3)) fun v5 S5 =>
 some (v5, S5)
 else if (zI S1 a3 2) = 5 then
 ob S1 5 (some x0) fun b6 => cl (f_X5_lead S1 b6 (zI S1 a3 3) (zI S1 a3 4)) fun v6 S6 =>
 some (v6, S6)
 else ob S1 5 (some x0) fun b7 => cl (f_X5_cancel S1 b7 (zI S1 a3 3)) fun v7 S7 =>
 some (v7, S7)
 else
 some (((-100) - v1), S1)
set_option maxHeartbeats 4000000 in
set_option maxRecDepth 100000 in
theorem c_X5_perform (S : Hp) (x0 : Nat) (o : Int32 × Hp) (h : f_X5_perform S x0 = some o) : CtE yX5_perform cX5_perform 2 (some .int) rm_X5_perform (fun adK adV => [va_rf (some x0)]) S o := by
  refine ct_E (own := RX5) (by decide) rfl (fun adK adV => (Nat.le_of_ble_eq_true rfl)) (fun X adK adV C hn E hQ => ?_)
  have hn1 : 1 < xn X := by rw [hn]; decide
  unfold f_X5_perform at h
  show GW X 0 0 S 0 [(0, va_rf (some x0))] []
  refine g_aload_n C (q := 0) dX5_perform_0 rfl rfl ?_
  refine g_ogetSR C (ci := 5) (slot := 3) rfl (by decide) inlX5 (by decide) rfl q21 dX5_perform_1 h (fun h hLa1 hKa1 => ?_)
  refine g_callVE C E (ci := 3) (As := fun adK adV => []) (np := 0) (st := []) (r := (zR S x0 3)) rfl (by decide) (fun b1 q hq => c_X3_read S b1  q hq) gv_RX5_X3_read rfl rfl dsX3_read rfl ⟨Nat.le_of_ble_eq_true rfl, Nat.le_of_ble_eq_true rfl⟩ rfl (cat_sum (Nat.le_of_ble_eq_true rfl)) ⟨Nat.zero_le _, Nat.zero_le _⟩ dX5_perform_4 h (fun v1 S1 h => ?_)
  refine g_istore_n C (i := 1) (lv' := [(1, .int v1), (0, va_rf (some x0))]) dX5_perform_7 rfl hn1 (by simp [va_rf_cat, catI, catJ, catD]) ?_
  refine g_iload_n C (q := 0) dX5_perform_8 rfl rfl ?_
  refine g_iconst C (v := (-1)) dX5_perform_9 (by decide) ?_
  refine g_icmp_eq C (tgt := 18) dX5_perform_10 (by decide) h (fun h => ?_) (fun h => ?_)
  · refine g_aload_n C (q := 1) dX5_perform_18 rfl rfl ?_
    refine g_ogetSR C (ci := 5) (slot := 3) rfl (by decide) inlX5 (by decide) rfl q21 dX5_perform_19 h (fun h hLa2 hKa2 => ?_)
    refine g_ogetI C (ci := 3) (slot := 2) rfl (by decide) inlX3 (by decide) rfl q166 dX5_perform_22 h (fun a3 hra3 h hLa3 hKa3 => ?_)
    by_cases c1 : (zI S1 a3 2) = 1
    · have h := if_el1 h c1
      refine g_tswIn C (v := 1) (tgt := 60) dX5_perform_25 c1 (by decide) (by decide) rfl (by decide) ?_
      refine g_aload_n C (q := 1) dX5_perform_60 rfl rfl ?_
      refine g_aload_n C (q := 1) dX5_perform_61 rfl rfl ?_
      refine g_getER C (ci := 5) (slot := 3) rfl (by decide) inlX5 (by decide) rfl q21 dX5_perform_62 rfl hLa2 hKa2 ?_
      refine g_getEI C (ci := 3) (slot := 3) rfl (by decide) inlX3 (by decide) rfl q167 dX5_perform_65 hra3 hLa3 hKa3 ?_
      refine g_aload_n C (q := 1) dX5_perform_68 rfl rfl ?_
      refine g_getER C (ci := 5) (slot := 3) rfl (by decide) inlX5 (by decide) rfl q21 dX5_perform_69 rfl hLa2 hKa2 ?_
      refine g_getEI C (ci := 3) (slot := 4) rfl (by decide) inlX3 (by decide) rfl q168 dX5_perform_72 hra3 hLa3 hKa3 ?_
      refine g_callVI C (ci := 5) (As := [.int (zI S1 a3 3), .int (zI S1 a3 4)]) (np := 2) (st := []) (r := (some x0)) rfl (by decide) (fun b2 q hq => c_X5_book S1 b2 (zI S1 a3 3) (zI S1 a3 4) q hq) gv_RX5_X5_book rfl rfl dsX5_book rfl ⟨Nat.le_of_ble_eq_true rfl, Nat.le_of_ble_eq_true rfl⟩ rfl (cat_sum (Nat.le_of_ble_eq_true rfl)) ⟨Nat.zero_le _, Nat.zero_le _⟩ dX5_perform_75 h (fun v2 S2 h => ?_)
      exact g_iret C hQ dX5_perform_78 h
    have h := if_el2 h c1
    by_cases c2 : (zI S1 a3 2) = 2
    · have h := if_el1 h c2
      refine g_tswIn C (v := 2) (tgt := 79) dX5_perform_25 c2 (by decide) (by decide) rfl (by decide) ?_
      refine g_aload_n C (q := 1) dX5_perform_79 rfl rfl ?_
      refine g_aload_n C (q := 1) dX5_perform_80 rfl rfl ?_
      refine g_getER C (ci := 5) (slot := 3) rfl (by decide) inlX5 (by decide) rfl q21 dX5_perform_81 rfl hLa2 hKa2 ?_
      refine g_getEI C (ci := 3) (slot := 3) rfl (by decide) inlX3 (by decide) rfl q167 dX5_perform_84 hra3 hLa3 hKa3 ?_
      refine g_aload_n C (q := 1) dX5_perform_87 rfl rfl ?_
      refine g_getER C (ci := 5) (slot := 3) rfl (by decide) inlX5 (by decide) rfl q21 dX5_perform_88 rfl hLa2 hKa2 ?_
      refine g_getEI C (ci := 3) (slot := 4) rfl (by decide) inlX3 (by decide) rfl q168 dX5_perform_91 hra3 hLa3 hKa3 ?_
      refine g_callVI C (ci := 5) (As := [.int (zI S1 a3 3), .int (zI S1 a3 4)]) (np := 2) (st := []) (r := (some x0)) rfl (by decide) (fun b3 q hq => c_X5_leave S1 b3 (zI S1 a3 3) (zI S1 a3 4) q hq) gv_RX5_X5_leave rfl rfl dsX5_leave rfl ⟨Nat.le_of_ble_eq_true rfl, Nat.le_of_ble_eq_true rfl⟩ rfl (cat_sum (Nat.le_of_ble_eq_true rfl)) ⟨Nat.zero_le _, Nat.zero_le _⟩ dX5_perform_94 h (fun v3 S3 h => ?_)
      exact g_iret C hQ dX5_perform_97 h
    have h := if_el2 h c2
    by_cases c3 : (zI S1 a3 2) = 3
    · have h := if_el1 h c3
      refine g_tswIn C (v := 3) (tgt := 98) dX5_perform_25 c3 (by decide) (by decide) rfl (by decide) ?_
      refine g_aload_n C (q := 1) dX5_perform_98 rfl rfl ?_
      refine g_aload_n C (q := 1) dX5_perform_99 rfl rfl ?_
      refine g_getER C (ci := 5) (slot := 3) rfl (by decide) inlX5 (by decide) rfl q21 dX5_perform_100 rfl hLa2 hKa2 ?_
      refine g_getEI C (ci := 3) (slot := 3) rfl (by decide) inlX3 (by decide) rfl q167 dX5_perform_103 hra3 hLa3 hKa3 ?_
      refine g_aload_n C (q := 1) dX5_perform_106 rfl rfl ?_
      refine g_getER C (ci := 5) (slot := 3) rfl (by decide) inlX5 (by decide) rfl q21 dX5_perform_107 rfl hLa2 hKa2 ?_
      refine g_getEI C (ci := 3) (slot := 4) rfl (by decide) inlX3 (by decide) rfl q168 dX5_perform_110 hra3 hLa3 hKa3 ?_
      refine g_callVI C (ci := 5) (As := [.int (zI S1 a3 3), .int (zI S1 a3 4)]) (np := 2) (st := []) (r := (some x0)) rfl (by decide) (fun b4 q hq => c_X5_merge S1 b4 (zI S1 a3 3) (zI S1 a3 4) q hq) gv_RX5_X5_merge rfl rfl dsX5_merge rfl ⟨Nat.le_of_ble_eq_true rfl, Nat.le_of_ble_eq_true rfl⟩ rfl (cat_sum (Nat.le_of_ble_eq_true rfl)) ⟨Nat.zero_le _, Nat.zero_le _⟩ dX5_perform_113 h (fun v4 S4 h => ?_)
      exact g_iret C hQ dX5_perform_116 h
    have h := if_el2 h c3
    by_cases c4 : (zI S1 a3 2) = 4
    · have h := if_el1 h c4
      refine g_tswIn C (v := 4) (tgt := 136) dX5_perform_25 c4 (by decide) (by decide) rfl (by decide) ?_
      refine g_aload_n C (q := 1) dX5_perform_136 rfl rfl ?_
      refine g_aload_n C (q := 1) dX5_perform_137 rfl rfl ?_
      refine g_getER C (ci := 5) (slot := 3) rfl (by decide) inlX5 (by decide) rfl q21 dX5_perform_138 rfl hLa2 hKa2 ?_
      refine g_getEI C (ci := 3) (slot := 3) rfl (by decide) inlX3 (by decide) rfl q167 dX5_perform_141 hra3 hLa3 hKa3 ?_
      refine g_callVI C (ci := 5) (As := [.int (zI S1 a3 3)]) (np := 1) (st := []) (r := (some x0)) rfl (by decide) (fun b5 q hq => c_X5_cancel S1 b5 (zI S1 a3 3) q hq) gv_RX5_X5_cancel rfl rfl dsX5_cancel rfl ⟨Nat.le_of_ble_eq_true rfl, Nat.le_of_ble_eq_true rfl⟩ rfl (cat_sum (Nat.le_of_ble_eq_true rfl)) ⟨Nat.zero_le _, Nat.zero_le _⟩ dX5_perform_144 h (fun v5 S5 h => ?_)
      exact g_iret C hQ dX5_perform_147 h
    have h := if_el2 h c4
    by_cases c5 : (zI S1 a3 2) = 5
    · have h := if_el1 h c5
      refine g_tswIn C (v := 5) (tgt := 117) dX5_perform_25 c5 (by decide) (by decide) rfl (by decide) ?_
      refine g_aload_n C (q := 1) dX5_perform_117 rfl rfl ?_
      refine g_aload_n C (q := 1) dX5_perform_118 rfl rfl ?_
      refine g_getER C (ci := 5) (slot := 3) rfl (by decide) inlX5 (by decide) rfl q21 dX5_perform_119 rfl hLa2 hKa2 ?_
      refine g_getEI C (ci := 3) (slot := 3) rfl (by decide) inlX3 (by decide) rfl q167 dX5_perform_122 hra3 hLa3 hKa3 ?_
      refine g_aload_n C (q := 1) dX5_perform_125 rfl rfl ?_
      refine g_getER C (ci := 5) (slot := 3) rfl (by decide) inlX5 (by decide) rfl q21 dX5_perform_126 rfl hLa2 hKa2 ?_
      refine g_getEI C (ci := 3) (slot := 4) rfl (by decide) inlX3 (by decide) rfl q168 dX5_perform_129 hra3 hLa3 hKa3 ?_
      refine g_callVI C (ci := 5) (As := [.int (zI S1 a3 3), .int (zI S1 a3 4)]) (np := 2) (st := []) (r := (some x0)) rfl (by decide) (fun b6 q hq => c_X5_lead S1 b6 (zI S1 a3 3) (zI S1 a3 4) q hq) gv_RX5_X5_lead rfl rfl dsX5_lead rfl ⟨Nat.le_of_ble_eq_true rfl, Nat.le_of_ble_eq_true rfl⟩ rfl (cat_sum (Nat.le_of_ble_eq_true rfl)) ⟨Nat.zero_le _, Nat.zero_le _⟩ dX5_perform_132 h (fun v6 S6 h => ?_)
      exact g_iret C hQ dX5_perform_135 h
    have h := if_el2 h c5
    refine g_tswOut C (tgt := 136) dX5_perform_25 (sw_out (x := (zI S1 a3 2)) 1 5 (by decide) (h := (lt_s (lt_s (lt_s (lt_s (lt_s lt_0 c1) c2) c3) c4) c5))) (by decide) ?_
    refine g_aload_n C (q := 1) dX5_perform_136 rfl rfl ?_
    refine g_aload_n C (q := 1) dX5_perform_137 rfl rfl ?_
    refine g_getER C (ci := 5) (slot := 3) rfl (by decide) inlX5 (by decide) rfl q21 dX5_perform_138 rfl hLa2 hKa2 ?_
    refine g_getEI C (ci := 3) (slot := 3) rfl (by decide) inlX3 (by decide) rfl q167 dX5_perform_141 hra3 hLa3 hKa3 ?_
    refine g_callVI C (ci := 5) (As := [.int (zI S1 a3 3)]) (np := 1) (st := []) (r := (some x0)) rfl (by decide) (fun b7 q hq => c_X5_cancel S1 b7 (zI S1 a3 3) q hq) gv_RX5_X5_cancel rfl rfl dsX5_cancel rfl ⟨Nat.le_of_ble_eq_true rfl, Nat.le_of_ble_eq_true rfl⟩ rfl (cat_sum (Nat.le_of_ble_eq_true rfl)) ⟨Nat.zero_le _, Nat.zero_le _⟩ dX5_perform_144 h (fun v7 S7 h => ?_)
    exact g_iret C hQ dX5_perform_147 h
  · refine g_bipush C (v := (-100)) dX5_perform_13 (by decide) ?_
    refine g_iload_n C (q := 0) dX5_perform_15 rfl rfl ?_
    refine g_isub C dX5_perform_16 ?_
    exact g_iret C hQ dX5_perform_17 h
