abbrev rm_L_low : Room := { frames := 0, cells := 0, slots := 0, locals := 0 }
theorem dsL_low : yL_low.cls ≠ "java/lang/invoke/MethodHandle" ∧ yL_low.cls ≠ "java/lang/invoke/VarHandle" ∧ (parseMethodDescriptor yL_low.desc).map (fun d => d.parameters.length) = some 2 := by decide +kernel
def f_L_low (S : Hp) (x0 : Int32) (x1 : Int32) : Option (Int32 × Hp) :=
 gd (¬ x1 = 0) <|
 some (((x0 &&& 2147483647) - (x0 &&& 2147483647) / x1 * x1), S)
set_option maxHeartbeats 4000000 in
set_option maxRecDepth 100000 in
theorem c_L_low (S : Hp) (x0 : Int32) (x1 : Int32) (o : Int32 × Hp) (h : f_L_low S x0 x1 = some o) : CtI yL_low cL_low 2 (some .int) rm_L_low 0 0 [.int x0, .int x1] S o := by
  refine ct_I (own := RL) (by decide) rfl (Nat.le_of_ble_eq_true rfl) (fun X C hn hQ => ?_)
  unfold f_L_low at h
  show GW X 0 0 S 0 [(0, .int x0), (1, .int x1)] []
  refine g_iload_n C (q := 0) dL_low_0 rfl rfl ?_
  refine g_ldc C q357 dL_low_1 ?_
  refine g_iand C dL_low_3 ?_
  refine g_iload_n C (q := 1) dL_low_4 rfl rfl ?_
  refine g_irem C dL_low_5 h (fun h => ?_)
  exact g_iret C hQ dL_low_6 h

abbrev rm_L_digest : Room := { frames := 6, cells := 0, slots := 0, locals := 140 }
theorem dsL_digest : yL_digest.cls ≠ "java/lang/invoke/MethodHandle" ∧ yL_digest.cls ≠ "java/lang/invoke/VarHandle" ∧ (parseMethodDescriptor yL_digest.desc).map (fun d => d.parameters.length) = some 1 := by decide +kernel
theorem gv_RL_X5_count : GoodIn wsL_law (wsV RL 13 RX5 yX5_count (.code yX5_count cX5_count 2 (some .int) :: wsL_law)) := good_V q358 q359 q360 q2 q361
theorem gv_RL_X5_guide : GoodIn wsL_law (wsV RL 19 RX5 yX5_guide (.code yX5_guide cX5_guide 4 (some .int) :: wsL_law)) := good_V q385 q386 q387 q2 q388
theorem gv_RL_X5_holds : GoodIn wsL_law (wsV RL 32 RX5 yX5_holds (.code yX5_holds cX5_holds 4 (some .int) :: wsL_law)) := good_V q430 q431 q432 q2 q433
theorem gv_RL_X5_rope : GoodIn wsL_law (wsV RL 28 RX5 yX5_rope (.code yX5_rope cX5_rope 5 (some .int) :: wsL_law)) := good_V q421 q422 q423 q2 q424
theorem gv_RL_X5_temperature : GoodIn wsL_law (wsV RL 41 RX5 yX5_temperature (.code yX5_temperature cX5_temperature 1 (some .long) :: wsL_law)) := good_V q344 q345 q346 q2 q347
theorem gv_RL_X5_thickness : GoodIn wsL_law (wsV RL 35 RX5 yX5_thickness (.code yX5_thickness cX5_thickness 2 (some .double) :: wsL_law)) := good_V q58 q59 q60 q2 q61
theorem gv_RL_X5_tour : GoodIn wsL_law (wsV RL 23 RX5 yX5_tour (.code yX5_tour cX5_tour 4 (some .int) :: wsL_law)) := good_V q398 q399 q400 q2 q401
def f_L_digest_L213_b (rec : Hp → Option Nat → Int64 → Int32 → Option (Int64 × Hp)) (S : Hp) (y0 : Option Nat) (y1 : Int64) (y3 : Int32) : Option (Int64 × Hp) :=
 ob S 5 y0 fun b1 => cl (f_X5_count S b1 (2 : Int32)) fun v1 S1 =>
 if v1 ≤ y3 then
 ob S1 5 y0 fun b2 => cl (f_X5_temperature S1 b2 ) fun j1 S2 =>
 some (((31 * y1) + j1), S2)
 else
 ob S1 5 y0 fun b3 => cl (f_X5_thickness S1 b3 y3) fun e1 S3 =>
 fpg (FP.dmul e1 4661225614328463360) <|
 bnd (((31 * y1) + (FP.d2l (FP.dmul e1 4661225614328463360)))) fun j2 =>
 bnd (y3 + 1) fun v2 =>
 rec S3 y0 j2 v2
def f_L_digest_L213 : Nat → Hp → Option Nat → Int64 → Int32 → Option (Int64 × Hp)
  | 0 => fun _ _ _ _ => none
  | n + 1 => f_L_digest_L213_b (f_L_digest_L213 n)

def f_L_digest_L174_b (kout : Hp → Option Nat → Int64 → Int32 → Option (Int64 × Hp)) (rec : Hp → Option Nat → Int64 → Int32 → Int32 → Option (Int64 × Hp)) (S : Hp) (y0 : Option Nat) (y1 : Int64) (y3 : Int32) (y4 : Int32) : Option (Int64 × Hp) :=
 ob S 5 y0 fun b1 => cl (f_X5_count S b1 (2 : Int32)) fun v1 S1 =>
 if v1 ≤ y4 then
 bnd (y3 + 1) fun v2 =>
 kout S1 y0 y1 v2
 else
 ob S1 5 y0 fun b2 => cl (f_X5_holds S1 b2 y3 y4) fun v3 S2 =>
 bnd (((31 * y1) + (v3.toInt64))) fun j1 =>
 bnd (y4 + 1) fun v4 =>
 rec S2 y0 j1 y3 v4
def f_L_digest_L174 (kout : Hp → Option Nat → Int64 → Int32 → Option (Int64 × Hp)) : Nat → Hp → Option Nat → Int64 → Int32 → Int32 → Option (Int64 × Hp)
  | 0 => fun _ _ _ _ _ => none
  | n + 1 => f_L_digest_L174_b kout (f_L_digest_L174 kout n)

def f_L_digest_L124_b (kout : Hp → Option Nat → Int64 → Int32 → Option (Int64 × Hp)) (rec : Hp → Option Nat → Int64 → Int32 → Int32 → Option (Int64 × Hp)) (S : Hp) (y0 : Option Nat) (y1 : Int64) (y3 : Int32) (y4 : Int32) : Option (Int64 × Hp) :=
 ob S 5 y0 fun b1 => cl (f_X5_tour S b1 y3 (4 : Int32)) fun v1 S1 =>
 if v1 ≤ y4 then
 f_L_digest_L174 kout 1000 S1 y0 y1 y3 (0 : Int32)
 else
 ob S1 5 y0 fun b2 => cl (f_X5_rope S1 b2 y3 y4 (0 : Int32)) fun v2 S2 =>
 ob S2 5 y0 fun b3 => cl (f_X5_rope S2 b3 y3 y4 (2 : Int32)) fun v3 S3 =>
 bnd ((((31 * y1) + (7 * (v2.toInt64))) + (v3.toInt64))) fun j1 =>
 bnd (y4 + 1) fun v4 =>
 rec S3 y0 j1 y3 v4
def f_L_digest_L124 (kout : Hp → Option Nat → Int64 → Int32 → Option (Int64 × Hp)) : Nat → Hp → Option Nat → Int64 → Int32 → Int32 → Option (Int64 × Hp)
  | 0 => fun _ _ _ _ _ => none
  | n + 1 => f_L_digest_L124_b kout (f_L_digest_L124 kout n)

def f_L_digest_L93_b (kout : Hp → Option Nat → Int64 → Int32 → Option (Int64 × Hp)) (rec : Hp → Option Nat → Int64 → Int32 → Int32 → Option (Int64 × Hp)) (S : Hp) (y0 : Option Nat) (y1 : Int64) (y3 : Int32) (y4 : Int32) : Option (Int64 × Hp) :=
 if 11 ≤ y4 then
 f_L_digest_L124 kout 1000 S y0 y1 y3 (0 : Int32)
 else
 ob S 5 y0 fun b1 => cl (f_X5_tour S b1 y3 y4) fun v1 S1 =>
 bnd (((31 * y1) + (v1.toInt64))) fun j1 =>
 bnd (y4 + 1) fun v2 =>
 rec S1 y0 j1 y3 v2
def f_L_digest_L93 (kout : Hp → Option Nat → Int64 → Int32 → Option (Int64 × Hp)) : Nat → Hp → Option Nat → Int64 → Int32 → Int32 → Option (Int64 × Hp)
  | 0 => fun _ _ _ _ _ => none
  | n + 1 => f_L_digest_L93_b kout (f_L_digest_L93 kout n)

def f_L_digest_L81_b (rec : Hp → Option Nat → Int64 → Int32 → Option (Int64 × Hp)) (S : Hp) (y0 : Option Nat) (y1 : Int64) (y3 : Int32) : Option (Int64 × Hp) :=
 ob S 5 y0 fun b1 => cl (f_X5_count S b1 (3 : Int32)) fun v1 S1 =>
 if v1 ≤ y3 then
 f_L_digest_L213 1000 S1 y0 y1 (0 : Int32)
 else
 f_L_digest_L93 rec 1000 S1 y0 y1 y3 (0 : Int32)
def f_L_digest_L81 : Nat → Hp → Option Nat → Int64 → Int32 → Option (Int64 × Hp)
  | 0 => fun _ _ _ _ => none
  | n + 1 => f_L_digest_L81_b (f_L_digest_L81 n)

def f_L_digest_L45_b (kout : Hp → Option Nat → Int64 → Int32 → Option (Int64 × Hp)) (rec : Hp → Option Nat → Int64 → Int32 → Int32 → Option (Int64 × Hp)) (S : Hp) (y0 : Option Nat) (y1 : Int64) (y3 : Int32) (y4 : Int32) : Option (Int64 × Hp) :=
 if 6 ≤ y4 then
 bnd (y3 + 1) fun v1 =>
 kout S y0 y1 v1
 else
 ob S 5 y0 fun b1 => cl (f_X5_guide S b1 y3 y4) fun v2 S1 =>
 bnd (((31 * y1) + (v2.toInt64))) fun j1 =>
 bnd (y4 + 1) fun v3 =>
 rec S1 y0 j1 y3 v3
def f_L_digest_L45 (kout : Hp → Option Nat → Int64 → Int32 → Option (Int64 × Hp)) : Nat → Hp → Option Nat → Int64 → Int32 → Int32 → Option (Int64 × Hp)
  | 0 => fun _ _ _ _ _ => none
  | n + 1 => f_L_digest_L45_b kout (f_L_digest_L45 kout n)

def f_L_digest_L33_b (rec : Hp → Option Nat → Int64 → Int32 → Option (Int64 × Hp)) (S : Hp) (y0 : Option Nat) (y1 : Int64) (y3 : Int32) : Option (Int64 × Hp) :=
 ob S 5 y0 fun b1 => cl (f_X5_count S b1 (1 : Int32)) fun v1 S1 =>
 if v1 ≤ y3 then
 f_L_digest_L81 1000 S1 y0 y1 (0 : Int32)
 else
 f_L_digest_L45 rec 1000 S1 y0 y1 y3 (0 : Int32)
def f_L_digest_L33 : Nat → Hp → Option Nat → Int64 → Int32 → Option (Int64 × Hp)
  | 0 => fun _ _ _ _ => none
  | n + 1 => f_L_digest_L33_b (f_L_digest_L33 n)

def f_L_digest_L6_b (rec : Hp → Option Nat → Int64 → Int32 → Option (Int64 × Hp)) (S : Hp) (y0 : Option Nat) (y1 : Int64) (y3 : Int32) : Option (Int64 × Hp) :=
 if 11 ≤ y3 then
 f_L_digest_L33 1000 S y0 y1 (0 : Int32)
 else
 ob S 5 y0 fun b1 => cl (f_X5_count S b1 y3) fun v1 S1 =>
 bnd (((31 * y1) + (v1.toInt64))) fun j1 =>
 bnd (y3 + 1) fun v2 =>
 rec S1 y0 j1 v2
def f_L_digest_L6 : Nat → Hp → Option Nat → Int64 → Int32 → Option (Int64 × Hp)
  | 0 => fun _ _ _ _ => none
  | n + 1 => f_L_digest_L6_b (f_L_digest_L6 n)
def f_L_digest (S : Hp) (x0 : Option Nat) : Option (Int64 × Hp) :=
 f_L_digest_L6 1000 S x0 109 (0 : Int32)
set_option maxHeartbeats 4000000 in
set_option maxRecDepth 100000 in
theorem w_L_digest_L213 {X : Cx} (C : CxOK X cL_digest RL rm_L_digest) (hn : xn X = 5) {S0 : Hp} {o : Int64 × Hp} (hQ : QJ X (some .long) S0 0 0 o) : ∀ (fuel : Nat) (S : Hp) (y0 : Option Nat) (y1 : Int64) (y3 : Int32), f_L_digest_L213 fuel S y0 y1 y3 = some o → GW X 0 0 S 213 [(0, va_rf y0), (1, .long y1), (3, .int y3)] [] := by
  have hn2 : 2 < xn X := by rw [hn]; decide
  have hn3 : 3 < xn X := by rw [hn]; decide
  intro fuel
  induction fuel with
  | zero => intro S y0 y1 y3 h; cases (show none = some o from h)
  | succ fuel ih =>
    intro S y0 y1 y3 h
    have h : f_L_digest_L213_b (f_L_digest_L213 fuel) S y0 y1 y3 = some o := h
    unfold f_L_digest_L213_b at h
    refine g_iload_n C (q := 2) dL_digest_213 rfl rfl ?_
    refine g_aload_n C (q := 0) dL_digest_214 rfl rfl ?_
    refine g_iconst C (v := 2) dL_digest_215 (by decide) ?_
    refine g_callVI C (ci := 5) (As := [.int 2]) (np := 1) (st := [.int y3]) (r := y0) rfl (by decide) (fun b1 q hq => c_X5_count S b1 (2 : Int32) q hq) gv_RL_X5_count rfl rfl dsX5_count rfl ⟨Nat.le_of_ble_eq_true rfl, Nat.le_of_ble_eq_true rfl⟩ rfl (cat_sum (Nat.le_of_ble_eq_true rfl)) ⟨Nat.zero_le _, Nat.zero_le _⟩ dL_digest_216 h (fun v1 S1 h => ?_)
    refine g_icmp_ge C (tgt := 245) dL_digest_219 (by decide) h (fun h => ?_) (fun h => ?_)
    · refine g_ldc2l C q382 dL_digest_245 ?_
      refine g_lload_n C (q := 1) dL_digest_248 rfl rfl ?_
      refine g_lmul C dL_digest_249 ?_
      refine g_aload_n C (q := 0) dL_digest_250 rfl rfl ?_
      refine g_callVJ C (ci := 5) (As := []) (np := 0) (st := [.long (31 * y1)]) (r := y0) rfl (by decide) (fun b2 q hq => c_X5_temperature S1 b2  q hq) gv_RL_X5_temperature rfl rfl dsX5_temperature rfl ⟨Nat.le_of_ble_eq_true rfl, Nat.le_of_ble_eq_true rfl⟩ rfl (cat_sum (Nat.le_of_ble_eq_true rfl)) ⟨Nat.zero_le _, Nat.zero_le _⟩ dL_digest_251 h (fun j1 S2 h => ?_)
      refine g_ladd C dL_digest_254 ?_
      exact g_lret C hQ dL_digest_255 h
    · refine g_ldc2l C q382 dL_digest_222 ?_
      refine g_lload_n C (q := 1) dL_digest_225 rfl rfl ?_
      refine g_lmul C dL_digest_226 ?_
      refine g_aload_n C (q := 0) dL_digest_227 rfl rfl ?_
      refine g_iload_n C (q := 2) dL_digest_228 rfl rfl ?_
      refine g_callVD C (ci := 5) (As := [.int y3]) (np := 1) (st := [.long (31 * y1)]) (r := y0) rfl (by decide) (fun b3 q hq => c_X5_thickness S1 b3 y3 q hq) gv_RL_X5_thickness rfl rfl dsX5_thickness rfl ⟨Nat.le_of_ble_eq_true rfl, Nat.le_of_ble_eq_true rfl⟩ rfl (cat_sum (Nat.le_of_ble_eq_true rfl)) ⟨Nat.zero_le _, Nat.zero_le _⟩ dL_digest_229 h (fun e1 S3 h => ?_)
      refine g_ldc2d C q384 dL_digest_232 ?_
      refine g_dmul C dL_digest_235 h (fun h => ?_)
      refine g_d2l C dL_digest_236 ?_
      refine g_ladd C dL_digest_237 ?_
      refine g_nmJ h (fun j2 h => ?_)
      refine g_lstore_n C (i := 1) (lv' := [(1, .long j2), (0, va_rf y0), (3, .int y3)]) dL_digest_238 rfl hn2 (by simp [va_rf_cat, catI, catJ, catD]) ?_
      obtain ⟨v2, ev2, h⟩ := bnd_ex h
      refine g_iinc C (i := 3) (lv' := [(3, .int v2), (1, .long j2), (0, va_rf y0)]) (q := 2) v2 dL_digest_239 rfl ev2 hn3 rfl ?_
      refine g_goto C (tgt := 213) dL_digest_242 (by decide) ?_
      refine g_sub (lv' := [(0, va_rf y0), (1, .long j2), (3, .int v2)]) [2, 1, 0] rfl ?_
      exact ih S3 y0 j2 v2 h

set_option maxHeartbeats 4000000 in
set_option maxRecDepth 100000 in
theorem w_L_digest_L174 {X : Cx} (C : CxOK X cL_digest RL rm_L_digest) (hn : xn X = 5) {S0 : Hp} {o : Int64 × Hp} (hQ : QJ X (some .long) S0 0 0 o) {kout : Hp → Option Nat → Int64 → Int32 → Option (Int64 × Hp)} (HK : ∀ (S : Hp) (y0 : Option Nat) (y1 : Int64) (y3 : Int32), kout S y0 y1 y3 = some o → GW X 0 0 S 81 [(0, va_rf y0), (1, .long y1), (3, .int y3)] []) : ∀ (fuel : Nat) (S : Hp) (y0 : Option Nat) (y1 : Int64) (y3 : Int32) (y4 : Int32), f_L_digest_L174 kout fuel S y0 y1 y3 y4 = some o → GW X 0 0 S 174 [(0, va_rf y0), (1, .long y1), (3, .int y3), (4, .int y4)] [] := by
  have hn2 : 2 < xn X := by rw [hn]; decide
  have hn3 : 3 < xn X := by rw [hn]; decide
  have hn4 : 4 < xn X := by rw [hn]; decide
  intro fuel
  induction fuel with
  | zero => intro S y0 y1 y3 y4 h; cases (show none = some o from h)
  | succ fuel ih =>
    intro S y0 y1 y3 y4 h
    have h : f_L_digest_L174_b kout (f_L_digest_L174 kout fuel) S y0 y1 y3 y4 = some o := h
    unfold f_L_digest_L174_b at h
    refine g_iload C (q := 3) dL_digest_174 rfl ?_
    refine g_aload_n C (q := 0) dL_digest_176 rfl rfl ?_
    refine g_iconst C (v := 2) dL_digest_177 (by decide) ?_
    refine g_callVI C (ci := 5) (As := [.int 2]) (np := 1) (st := [.int y4]) (r := y0) rfl (by decide) (fun b1 q hq => c_X5_count S b1 (2 : Int32) q hq) gv_RL_X5_count rfl rfl dsX5_count rfl ⟨Nat.le_of_ble_eq_true rfl, Nat.le_of_ble_eq_true rfl⟩ rfl (cat_sum (Nat.le_of_ble_eq_true rfl)) ⟨Nat.zero_le _, Nat.zero_le _⟩ dL_digest_178 h (fun v1 S1 h => ?_)
    refine g_icmp_ge C (tgt := 205) dL_digest_181 (by decide) h (fun h => ?_) (fun h => ?_)
    · obtain ⟨v2, ev2, h⟩ := bnd_ex h
      refine g_iinc C (i := 3) (lv' := [(3, .int v2), (0, va_rf y0), (1, .long y1), (4, .int y4)]) (q := 2) v2 dL_digest_205 rfl ev2 hn3 rfl ?_
      refine g_goto C (tgt := 81) dL_digest_208 (by decide) ?_
      refine g_sub (lv' := [(0, va_rf y0), (1, .long y1), (3, .int v2)]) [1, 2, 0] rfl ?_
      exact HK S1 y0 y1 v2 h
    · refine g_ldc2l C q382 dL_digest_184 ?_
      refine g_lload_n C (q := 1) dL_digest_187 rfl rfl ?_
      refine g_lmul C dL_digest_188 ?_
      refine g_aload_n C (q := 0) dL_digest_189 rfl rfl ?_
      refine g_iload_n C (q := 2) dL_digest_190 rfl rfl ?_
      refine g_iload C (q := 3) dL_digest_191 rfl ?_
      refine g_callVI C (ci := 5) (As := [.int y3, .int y4]) (np := 2) (st := [.long (31 * y1)]) (r := y0) rfl (by decide) (fun b2 q hq => c_X5_holds S1 b2 y3 y4 q hq) gv_RL_X5_holds rfl rfl dsX5_holds rfl ⟨Nat.le_of_ble_eq_true rfl, Nat.le_of_ble_eq_true rfl⟩ rfl (cat_sum (Nat.le_of_ble_eq_true rfl)) ⟨Nat.zero_le _, Nat.zero_le _⟩ dL_digest_193 h (fun v3 S2 h => ?_)
      refine g_i2l C dL_digest_196 ?_
      refine g_ladd C dL_digest_197 ?_
      refine g_nmJ h (fun j1 h => ?_)
      refine g_lstore_n C (i := 1) (lv' := [(1, .long j1), (0, va_rf y0), (3, .int y3), (4, .int y4)]) dL_digest_198 rfl hn2 (by simp [va_rf_cat, catI, catJ, catD]) ?_
      obtain ⟨v4, ev4, h⟩ := bnd_ex h
      refine g_iinc C (i := 4) (lv' := [(4, .int v4), (1, .long j1), (0, va_rf y0), (3, .int y3)]) (q := 3) v4 dL_digest_199 rfl ev4 hn4 rfl ?_
      refine g_goto C (tgt := 174) dL_digest_202 (by decide) ?_
      refine g_sub (lv' := [(0, va_rf y0), (1, .long j1), (3, .int y3), (4, .int v4)]) [2, 1, 3, 0] rfl ?_
      exact ih S2 y0 j1 y3 v4 h

set_option maxHeartbeats 4000000 in
set_option maxRecDepth 100000 in
theorem w_L_digest_L124 {X : Cx} (C : CxOK X cL_digest RL rm_L_digest) (hn : xn X = 5) {S0 : Hp} {o : Int64 × Hp} (hQ : QJ X (some .long) S0 0 0 o) {kout : Hp → Option Nat → Int64 → Int32 → Option (Int64 × Hp)} (HK : ∀ (S : Hp) (y0 : Option Nat) (y1 : Int64) (y3 : Int32), kout S y0 y1 y3 = some o → GW X 0 0 S 81 [(0, va_rf y0), (1, .long y1), (3, .int y3)] []) : ∀ (fuel : Nat) (S : Hp) (y0 : Option Nat) (y1 : Int64) (y3 : Int32) (y4 : Int32), f_L_digest_L124 kout fuel S y0 y1 y3 y4 = some o → GW X 0 0 S 124 [(0, va_rf y0), (1, .long y1), (3, .int y3), (4, .int y4)] [] := by
  have hn2 : 2 < xn X := by rw [hn]; decide
  have hn4 : 4 < xn X := by rw [hn]; decide
  intro fuel
  induction fuel with
  | zero => intro S y0 y1 y3 y4 h; cases (show none = some o from h)
  | succ fuel ih =>
    intro S y0 y1 y3 y4 h
    have h : f_L_digest_L124_b kout (f_L_digest_L124 kout fuel) S y0 y1 y3 y4 = some o := h
    unfold f_L_digest_L124_b at h
    refine g_iload C (q := 3) dL_digest_124 rfl ?_
    refine g_aload_n C (q := 0) dL_digest_126 rfl rfl ?_
    refine g_iload_n C (q := 2) dL_digest_127 rfl rfl ?_
    refine g_iconst C (v := 4) dL_digest_128 (by decide) ?_
    refine g_callVI C (ci := 5) (As := [.int y3, .int 4]) (np := 2) (st := [.int y4]) (r := y0) rfl (by decide) (fun b1 q hq => c_X5_tour S b1 y3 (4 : Int32) q hq) gv_RL_X5_tour rfl rfl dsX5_tour rfl ⟨Nat.le_of_ble_eq_true rfl, Nat.le_of_ble_eq_true rfl⟩ rfl (cat_sum (Nat.le_of_ble_eq_true rfl)) ⟨Nat.zero_le _, Nat.zero_le _⟩ dL_digest_129 h (fun v1 S1 h => ?_)
    refine g_icmp_ge C (tgt := 171) dL_digest_132 (by decide) h (fun h => ?_) (fun h => ?_)
    · refine g_iconst C (v := 0) dL_digest_171 (by decide) ?_
      refine g_istore C (i := 4) (lv' := [(4, .int 0), (0, va_rf y0), (1, .long y1), (3, .int y3)]) dL_digest_172 hn4 rfl ?_
      refine g_sub (lv' := [(0, va_rf y0), (1, .long y1), (3, .int y3), (4, .int 0)]) [1, 2, 3, 0] rfl ?_
      exact w_L_digest_L174 C hn hQ HK 1000 S1 y0 y1 y3 (0 : Int32) h
    · refine g_ldc2l C q382 dL_digest_135 ?_
      refine g_lload_n C (q := 1) dL_digest_138 rfl rfl ?_
      refine g_lmul C dL_digest_139 ?_
      refine g_ldc2l C q383 dL_digest_140 ?_
      refine g_aload_n C (q := 0) dL_digest_143 rfl rfl ?_
      refine g_iload_n C (q := 2) dL_digest_144 rfl rfl ?_
      refine g_iload C (q := 3) dL_digest_145 rfl ?_
      refine g_iconst C (v := 0) dL_digest_147 (by decide) ?_
      refine g_callVI C (ci := 5) (As := [.int y3, .int y4, .int 0]) (np := 3) (st := [.long 7, .long (31 * y1)]) (r := y0) rfl (by decide) (fun b2 q hq => c_X5_rope S1 b2 y3 y4 (0 : Int32) q hq) gv_RL_X5_rope rfl rfl dsX5_rope rfl ⟨Nat.le_of_ble_eq_true rfl, Nat.le_of_ble_eq_true rfl⟩ rfl (cat_sum (Nat.le_of_ble_eq_true rfl)) ⟨Nat.zero_le _, Nat.zero_le _⟩ dL_digest_148 h (fun v2 S2 h => ?_)
      refine g_i2l C dL_digest_151 ?_
      refine g_lmul C dL_digest_152 ?_
      refine g_ladd C dL_digest_153 ?_
      refine g_aload_n C (q := 0) dL_digest_154 rfl rfl ?_
      refine g_iload_n C (q := 2) dL_digest_155 rfl rfl ?_
      refine g_iload C (q := 3) dL_digest_156 rfl ?_
      refine g_iconst C (v := 2) dL_digest_158 (by decide) ?_
      refine g_callVI C (ci := 5) (As := [.int y3, .int y4, .int 2]) (np := 3) (st := [.long ((31 * y1) + (7 * (v2.toInt64)))]) (r := y0) rfl (by decide) (fun b3 q hq => c_X5_rope S2 b3 y3 y4 (2 : Int32) q hq) gv_RL_X5_rope rfl rfl dsX5_rope rfl ⟨Nat.le_of_ble_eq_true rfl, Nat.le_of_ble_eq_true rfl⟩ rfl (cat_sum (Nat.le_of_ble_eq_true rfl)) ⟨Nat.zero_le _, Nat.zero_le _⟩ dL_digest_159 h (fun v3 S3 h => ?_)
      refine g_i2l C dL_digest_162 ?_
      refine g_ladd C dL_digest_163 ?_
      refine g_nmJ h (fun j1 h => ?_)
      refine g_lstore_n C (i := 1) (lv' := [(1, .long j1), (0, va_rf y0), (3, .int y3), (4, .int y4)]) dL_digest_164 rfl hn2 (by simp [va_rf_cat, catI, catJ, catD]) ?_
      obtain ⟨v4, ev4, h⟩ := bnd_ex h
      refine g_iinc C (i := 4) (lv' := [(4, .int v4), (1, .long j1), (0, va_rf y0), (3, .int y3)]) (q := 3) v4 dL_digest_165 rfl ev4 hn4 rfl ?_
      refine g_goto C (tgt := 124) dL_digest_168 (by decide) ?_
      refine g_sub (lv' := [(0, va_rf y0), (1, .long j1), (3, .int y3), (4, .int v4)]) [2, 1, 3, 0] rfl ?_
      exact ih S3 y0 j1 y3 v4 h

set_option maxHeartbeats 4000000 in
set_option maxRecDepth 100000 in
theorem w_L_digest_L93 {X : Cx} (C : CxOK X cL_digest RL rm_L_digest) (hn : xn X = 5) {S0 : Hp} {o : Int64 × Hp} (hQ : QJ X (some .long) S0 0 0 o) {kout : Hp → Option Nat → Int64 → Int32 → Option (Int64 × Hp)} (HK : ∀ (S : Hp) (y0 : Option Nat) (y1 : Int64) (y3 : Int32), kout S y0 y1 y3 = some o → GW X 0 0 S 81 [(0, va_rf y0), (1, .long y1), (3, .int y3)] []) : ∀ (fuel : Nat) (S : Hp) (y0 : Option Nat) (y1 : Int64) (y3 : Int32) (y4 : Int32), f_L_digest_L93 kout fuel S y0 y1 y3 y4 = some o → GW X 0 0 S 93 [(0, va_rf y0), (1, .long y1), (3, .int y3), (4, .int y4)] [] := by
  have hn2 : 2 < xn X := by rw [hn]; decide
  have hn4 : 4 < xn X := by rw [hn]; decide
  intro fuel
  induction fuel with
  | zero => intro S y0 y1 y3 y4 h; cases (show none = some o from h)
  | succ fuel ih =>
    intro S y0 y1 y3 y4 h
    have h : f_L_digest_L93_b kout (f_L_digest_L93 kout fuel) S y0 y1 y3 y4 = some o := h
    unfold f_L_digest_L93_b at h
    refine g_iload C (q := 3) dL_digest_93 rfl ?_
    refine g_bipush C (v := 11) dL_digest_95 (by decide) ?_
    refine g_icmp_ge C (tgt := 121) dL_digest_97 (by decide) h (fun h => ?_) (fun h => ?_)
    · refine g_iconst C (v := 0) dL_digest_121 (by decide) ?_
      refine g_istore C (i := 4) (lv' := [(4, .int 0), (0, va_rf y0), (1, .long y1), (3, .int y3)]) dL_digest_122 hn4 rfl ?_
      refine g_sub (lv' := [(0, va_rf y0), (1, .long y1), (3, .int y3), (4, .int 0)]) [1, 2, 3, 0] rfl ?_
      exact w_L_digest_L124 C hn hQ HK 1000 S y0 y1 y3 (0 : Int32) h
    · refine g_ldc2l C q382 dL_digest_100 ?_
      refine g_lload_n C (q := 1) dL_digest_103 rfl rfl ?_
      refine g_lmul C dL_digest_104 ?_
      refine g_aload_n C (q := 0) dL_digest_105 rfl rfl ?_
      refine g_iload_n C (q := 2) dL_digest_106 rfl rfl ?_
      refine g_iload C (q := 3) dL_digest_107 rfl ?_
      refine g_callVI C (ci := 5) (As := [.int y3, .int y4]) (np := 2) (st := [.long (31 * y1)]) (r := y0) rfl (by decide) (fun b1 q hq => c_X5_tour S b1 y3 y4 q hq) gv_RL_X5_tour rfl rfl dsX5_tour rfl ⟨Nat.le_of_ble_eq_true rfl, Nat.le_of_ble_eq_true rfl⟩ rfl (cat_sum (Nat.le_of_ble_eq_true rfl)) ⟨Nat.zero_le _, Nat.zero_le _⟩ dL_digest_109 h (fun v1 S1 h => ?_)
      refine g_i2l C dL_digest_112 ?_
      refine g_ladd C dL_digest_113 ?_
      refine g_nmJ h (fun j1 h => ?_)
      refine g_lstore_n C (i := 1) (lv' := [(1, .long j1), (0, va_rf y0), (3, .int y3), (4, .int y4)]) dL_digest_114 rfl hn2 (by simp [va_rf_cat, catI, catJ, catD]) ?_
      obtain ⟨v2, ev2, h⟩ := bnd_ex h
      refine g_iinc C (i := 4) (lv' := [(4, .int v2), (1, .long j1), (0, va_rf y0), (3, .int y3)]) (q := 3) v2 dL_digest_115 rfl ev2 hn4 rfl ?_
      refine g_goto C (tgt := 93) dL_digest_118 (by decide) ?_
      refine g_sub (lv' := [(0, va_rf y0), (1, .long j1), (3, .int y3), (4, .int v2)]) [2, 1, 3, 0] rfl ?_
      exact ih S1 y0 j1 y3 v2 h

set_option maxHeartbeats 4000000 in
set_option maxRecDepth 100000 in
theorem w_L_digest_L81 {X : Cx} (C : CxOK X cL_digest RL rm_L_digest) (hn : xn X = 5) {S0 : Hp} {o : Int64 × Hp} (hQ : QJ X (some .long) S0 0 0 o) : ∀ (fuel : Nat) (S : Hp) (y0 : Option Nat) (y1 : Int64) (y3 : Int32), f_L_digest_L81 fuel S y0 y1 y3 = some o → GW X 0 0 S 81 [(0, va_rf y0), (1, .long y1), (3, .int y3)] [] := by
  have hn3 : 3 < xn X := by rw [hn]; decide
  have hn4 : 4 < xn X := by rw [hn]; decide
  intro fuel
  induction fuel with
  | zero => intro S y0 y1 y3 h; cases (show none = some o from h)
  | succ fuel ih =>
    intro S y0 y1 y3 h
    have h : f_L_digest_L81_b (f_L_digest_L81 fuel) S y0 y1 y3 = some o := h
    unfold f_L_digest_L81_b at h
    refine g_iload_n C (q := 2) dL_digest_81 rfl rfl ?_
    refine g_aload_n C (q := 0) dL_digest_82 rfl rfl ?_
    refine g_iconst C (v := 3) dL_digest_83 (by decide) ?_
    refine g_callVI C (ci := 5) (As := [.int 3]) (np := 1) (st := [.int y3]) (r := y0) rfl (by decide) (fun b1 q hq => c_X5_count S b1 (3 : Int32) q hq) gv_RL_X5_count rfl rfl dsX5_count rfl ⟨Nat.le_of_ble_eq_true rfl, Nat.le_of_ble_eq_true rfl⟩ rfl (cat_sum (Nat.le_of_ble_eq_true rfl)) ⟨Nat.zero_le _, Nat.zero_le _⟩ dL_digest_84 h (fun v1 S1 h => ?_)
    refine g_icmp_ge C (tgt := 211) dL_digest_87 (by decide) h (fun h => ?_) (fun h => ?_)
    · refine g_iconst C (v := 0) dL_digest_211 (by decide) ?_
      refine g_istore_n C (i := 3) (lv' := [(3, .int 0), (0, va_rf y0), (1, .long y1)]) dL_digest_212 rfl hn3 rfl ?_
      refine g_sub (lv' := [(0, va_rf y0), (1, .long y1), (3, .int 0)]) [1, 2, 0] rfl ?_
      exact w_L_digest_L213 C hn hQ 1000 S1 y0 y1 (0 : Int32) h
    · refine g_iconst C (v := 0) dL_digest_90 (by decide) ?_
      refine g_istore C (i := 4) (lv' := [(4, .int 0), (0, va_rf y0), (1, .long y1), (3, .int y3)]) dL_digest_91 hn4 rfl ?_
      refine g_sub (lv' := [(0, va_rf y0), (1, .long y1), (3, .int y3), (4, .int 0)]) [1, 2, 3, 0] rfl ?_
      exact w_L_digest_L93 C hn hQ (fun S y0 y1 y3 h => ih S y0 y1 y3 h) 1000 S1 y0 y1 y3 (0 : Int32) h

set_option maxHeartbeats 4000000 in
set_option maxRecDepth 100000 in
theorem w_L_digest_L45 {X : Cx} (C : CxOK X cL_digest RL rm_L_digest) (hn : xn X = 5) {S0 : Hp} {o : Int64 × Hp} (hQ : QJ X (some .long) S0 0 0 o) {kout : Hp → Option Nat → Int64 → Int32 → Option (Int64 × Hp)} (HK : ∀ (S : Hp) (y0 : Option Nat) (y1 : Int64) (y3 : Int32), kout S y0 y1 y3 = some o → GW X 0 0 S 33 [(0, va_rf y0), (1, .long y1), (3, .int y3)] []) : ∀ (fuel : Nat) (S : Hp) (y0 : Option Nat) (y1 : Int64) (y3 : Int32) (y4 : Int32), f_L_digest_L45 kout fuel S y0 y1 y3 y4 = some o → GW X 0 0 S 45 [(0, va_rf y0), (1, .long y1), (3, .int y3), (4, .int y4)] [] := by
  have hn2 : 2 < xn X := by rw [hn]; decide
  have hn3 : 3 < xn X := by rw [hn]; decide
  have hn4 : 4 < xn X := by rw [hn]; decide
  intro fuel
  induction fuel with
  | zero => intro S y0 y1 y3 y4 h; cases (show none = some o from h)
  | succ fuel ih =>
    intro S y0 y1 y3 y4 h
    have h : f_L_digest_L45_b kout (f_L_digest_L45 kout fuel) S y0 y1 y3 y4 = some o := h
    unfold f_L_digest_L45_b at h
    refine g_iload C (q := 3) dL_digest_45 rfl ?_
    refine g_bipush C (v := 6) dL_digest_47 (by decide) ?_
    refine g_icmp_ge C (tgt := 73) dL_digest_49 (by decide) h (fun h => ?_) (fun h => ?_)
    · obtain ⟨v1, ev1, h⟩ := bnd_ex h
      refine g_iinc C (i := 3) (lv' := [(3, .int v1), (0, va_rf y0), (1, .long y1), (4, .int y4)]) (q := 2) v1 dL_digest_73 rfl ev1 hn3 rfl ?_
      refine g_goto C (tgt := 33) dL_digest_76 (by decide) ?_
      refine g_sub (lv' := [(0, va_rf y0), (1, .long y1), (3, .int v1)]) [1, 2, 0] rfl ?_
      exact HK S y0 y1 v1 h
    · refine g_ldc2l C q382 dL_digest_52 ?_
      refine g_lload_n C (q := 1) dL_digest_55 rfl rfl ?_
      refine g_lmul C dL_digest_56 ?_
      refine g_aload_n C (q := 0) dL_digest_57 rfl rfl ?_
      refine g_iload_n C (q := 2) dL_digest_58 rfl rfl ?_
      refine g_iload C (q := 3) dL_digest_59 rfl ?_
      refine g_callVI C (ci := 5) (As := [.int y3, .int y4]) (np := 2) (st := [.long (31 * y1)]) (r := y0) rfl (by decide) (fun b1 q hq => c_X5_guide S b1 y3 y4 q hq) gv_RL_X5_guide rfl rfl dsX5_guide rfl ⟨Nat.le_of_ble_eq_true rfl, Nat.le_of_ble_eq_true rfl⟩ rfl (cat_sum (Nat.le_of_ble_eq_true rfl)) ⟨Nat.zero_le _, Nat.zero_le _⟩ dL_digest_61 h (fun v2 S1 h => ?_)
      refine g_i2l C dL_digest_64 ?_
      refine g_ladd C dL_digest_65 ?_
      refine g_nmJ h (fun j1 h => ?_)
      refine g_lstore_n C (i := 1) (lv' := [(1, .long j1), (0, va_rf y0), (3, .int y3), (4, .int y4)]) dL_digest_66 rfl hn2 (by simp [va_rf_cat, catI, catJ, catD]) ?_
      obtain ⟨v3, ev3, h⟩ := bnd_ex h
      refine g_iinc C (i := 4) (lv' := [(4, .int v3), (1, .long j1), (0, va_rf y0), (3, .int y3)]) (q := 3) v3 dL_digest_67 rfl ev3 hn4 rfl ?_
      refine g_goto C (tgt := 45) dL_digest_70 (by decide) ?_
      refine g_sub (lv' := [(0, va_rf y0), (1, .long j1), (3, .int y3), (4, .int v3)]) [2, 1, 3, 0] rfl ?_
      exact ih S1 y0 j1 y3 v3 h

set_option maxHeartbeats 4000000 in
set_option maxRecDepth 100000 in
theorem w_L_digest_L33 {X : Cx} (C : CxOK X cL_digest RL rm_L_digest) (hn : xn X = 5) {S0 : Hp} {o : Int64 × Hp} (hQ : QJ X (some .long) S0 0 0 o) : ∀ (fuel : Nat) (S : Hp) (y0 : Option Nat) (y1 : Int64) (y3 : Int32), f_L_digest_L33 fuel S y0 y1 y3 = some o → GW X 0 0 S 33 [(0, va_rf y0), (1, .long y1), (3, .int y3)] [] := by
  have hn3 : 3 < xn X := by rw [hn]; decide
  have hn4 : 4 < xn X := by rw [hn]; decide
  intro fuel
  induction fuel with
  | zero => intro S y0 y1 y3 h; cases (show none = some o from h)
  | succ fuel ih =>
    intro S y0 y1 y3 h
    have h : f_L_digest_L33_b (f_L_digest_L33 fuel) S y0 y1 y3 = some o := h
    unfold f_L_digest_L33_b at h
    refine g_iload_n C (q := 2) dL_digest_33 rfl rfl ?_
    refine g_aload_n C (q := 0) dL_digest_34 rfl rfl ?_
    refine g_iconst C (v := 1) dL_digest_35 (by decide) ?_
    refine g_callVI C (ci := 5) (As := [.int 1]) (np := 1) (st := [.int y3]) (r := y0) rfl (by decide) (fun b1 q hq => c_X5_count S b1 (1 : Int32) q hq) gv_RL_X5_count rfl rfl dsX5_count rfl ⟨Nat.le_of_ble_eq_true rfl, Nat.le_of_ble_eq_true rfl⟩ rfl (cat_sum (Nat.le_of_ble_eq_true rfl)) ⟨Nat.zero_le _, Nat.zero_le _⟩ dL_digest_36 h (fun v1 S1 h => ?_)
    refine g_icmp_ge C (tgt := 79) dL_digest_39 (by decide) h (fun h => ?_) (fun h => ?_)
    · refine g_iconst C (v := 0) dL_digest_79 (by decide) ?_
      refine g_istore_n C (i := 3) (lv' := [(3, .int 0), (0, va_rf y0), (1, .long y1)]) dL_digest_80 rfl hn3 rfl ?_
      refine g_sub (lv' := [(0, va_rf y0), (1, .long y1), (3, .int 0)]) [1, 2, 0] rfl ?_
      exact w_L_digest_L81 C hn hQ 1000 S1 y0 y1 (0 : Int32) h
    · refine g_iconst C (v := 0) dL_digest_42 (by decide) ?_
      refine g_istore C (i := 4) (lv' := [(4, .int 0), (0, va_rf y0), (1, .long y1), (3, .int y3)]) dL_digest_43 hn4 rfl ?_
      refine g_sub (lv' := [(0, va_rf y0), (1, .long y1), (3, .int y3), (4, .int 0)]) [1, 2, 3, 0] rfl ?_
      exact w_L_digest_L45 C hn hQ (fun S y0 y1 y3 h => ih S y0 y1 y3 h) 1000 S1 y0 y1 y3 (0 : Int32) h

set_option maxHeartbeats 4000000 in
set_option maxRecDepth 100000 in
theorem w_L_digest_L6 {X : Cx} (C : CxOK X cL_digest RL rm_L_digest) (hn : xn X = 5) {S0 : Hp} {o : Int64 × Hp} (hQ : QJ X (some .long) S0 0 0 o) : ∀ (fuel : Nat) (S : Hp) (y0 : Option Nat) (y1 : Int64) (y3 : Int32), f_L_digest_L6 fuel S y0 y1 y3 = some o → GW X 0 0 S 6 [(0, va_rf y0), (1, .long y1), (3, .int y3)] [] := by
  have hn2 : 2 < xn X := by rw [hn]; decide
  have hn3 : 3 < xn X := by rw [hn]; decide
  intro fuel
  induction fuel with
  | zero => intro S y0 y1 y3 h; cases (show none = some o from h)
  | succ fuel ih =>
    intro S y0 y1 y3 h
    have h : f_L_digest_L6_b (f_L_digest_L6 fuel) S y0 y1 y3 = some o := h
    unfold f_L_digest_L6_b at h
    refine g_iload_n C (q := 2) dL_digest_6 rfl rfl ?_
    refine g_bipush C (v := 11) dL_digest_7 (by decide) ?_
    refine g_icmp_ge C (tgt := 31) dL_digest_9 (by decide) h (fun h => ?_) (fun h => ?_)
    · refine g_iconst C (v := 0) dL_digest_31 (by decide) ?_
      refine g_istore_n C (i := 3) (lv' := [(3, .int 0), (0, va_rf y0), (1, .long y1)]) dL_digest_32 rfl hn3 rfl ?_
      refine g_sub (lv' := [(0, va_rf y0), (1, .long y1), (3, .int 0)]) [1, 2, 0] rfl ?_
      exact w_L_digest_L33 C hn hQ 1000 S y0 y1 (0 : Int32) h
    · refine g_ldc2l C q382 dL_digest_12 ?_
      refine g_lload_n C (q := 1) dL_digest_15 rfl rfl ?_
      refine g_lmul C dL_digest_16 ?_
      refine g_aload_n C (q := 0) dL_digest_17 rfl rfl ?_
      refine g_iload_n C (q := 2) dL_digest_18 rfl rfl ?_
      refine g_callVI C (ci := 5) (As := [.int y3]) (np := 1) (st := [.long (31 * y1)]) (r := y0) rfl (by decide) (fun b1 q hq => c_X5_count S b1 y3 q hq) gv_RL_X5_count rfl rfl dsX5_count rfl ⟨Nat.le_of_ble_eq_true rfl, Nat.le_of_ble_eq_true rfl⟩ rfl (cat_sum (Nat.le_of_ble_eq_true rfl)) ⟨Nat.zero_le _, Nat.zero_le _⟩ dL_digest_19 h (fun v1 S1 h => ?_)
      refine g_i2l C dL_digest_22 ?_
      refine g_ladd C dL_digest_23 ?_
      refine g_nmJ h (fun j1 h => ?_)
      refine g_lstore_n C (i := 1) (lv' := [(1, .long j1), (0, va_rf y0), (3, .int y3)]) dL_digest_24 rfl hn2 (by simp [va_rf_cat, catI, catJ, catD]) ?_
      obtain ⟨v2, ev2, h⟩ := bnd_ex h
      refine g_iinc C (i := 3) (lv' := [(3, .int v2), (1, .long j1), (0, va_rf y0)]) (q := 2) v2 dL_digest_25 rfl ev2 hn3 rfl ?_
      refine g_goto C (tgt := 6) dL_digest_28 (by decide) ?_
      refine g_sub (lv' := [(0, va_rf y0), (1, .long j1), (3, .int v2)]) [2, 1, 0] rfl ?_
      exact ih S1 y0 j1 v2 h
set_option maxHeartbeats 4000000 in
set_option maxRecDepth 100000 in
theorem c_L_digest (S : Hp) (x0 : Option Nat) (o : Int64 × Hp) (h : f_L_digest S x0 = some o) : CtJ yL_digest cL_digest 5 (some .long) rm_L_digest 0 0 [va_rf x0] S o := by
  refine ct_J (own := RL) (by decide) rfl (by simp [lg_sl, va_rf_cat, catI, catJ, catD]) (fun X C hn hQ => ?_)
  have hn2 : 2 < xn X := by rw [hn]; decide
  have hn3 : 3 < xn X := by rw [hn]; decide
  unfold f_L_digest at h
  rw [show lv_args 0 [va_rf x0] = [(0, va_rf x0)] by simp [lv_args, va_rf_cat, catI, catJ, catD]]
  refine g_ldc2l C q381 dL_digest_0 ?_
  refine g_lstore_n C (i := 1) (lv' := [(1, .long 109), (0, va_rf x0)]) dL_digest_3 rfl hn2 (by simp [va_rf_cat, catI, catJ, catD]) ?_
  refine g_iconst C (v := 0) dL_digest_4 (by decide) ?_
  refine g_istore_n C (i := 3) (lv' := [(3, .int 0), (1, .long 109), (0, va_rf x0)]) dL_digest_5 rfl hn3 rfl ?_
  refine g_sub (lv' := [(0, va_rf x0), (1, .long 109), (3, .int 0)]) [2, 1, 0] rfl ?_
  exact w_L_digest_L6 C hn hQ 1000 S x0 109 (0 : Int32) h

abbrev rm_L_bits : Room := { frames := 0, cells := 0, slots := 0, locals := 0 }
theorem dsL_bits : yL_bits.cls ≠ "java/lang/invoke/MethodHandle" ∧ yL_bits.cls ≠ "java/lang/invoke/VarHandle" ∧ (parseMethodDescriptor yL_bits.desc).map (fun d => d.parameters.length) = some 1 := by decide +kernel
def f_L_bits (S : Hp) (x0 : Int32) : Option (Int64 × Hp) :=
 if x0 = 0 then
 some (0, S)
 else
 if x0 = 1 then
 some (4625619029774565376, S)
 else
 if x0 = 2 then
 some (4626322717216342016, S)
 else
 if x0 = 3 then
 some (4631515930536653619, S)
 else
 if x0 = 4 then
 some (4633641066610819072, S)
 else
 some (4623085754984169472, S)
set_option maxHeartbeats 4000000 in
set_option maxRecDepth 100000 in
theorem c_L_bits (S : Hp) (x0 : Int32) (o : Int64 × Hp) (h : f_L_bits S x0 = some o) : CtJ yL_bits cL_bits 1 (some .long) rm_L_bits 0 0 [.int x0] S o := by
  refine ct_J (own := RL) (by decide) rfl (Nat.le_of_ble_eq_true rfl) (fun X C hn hQ => ?_)
  unfold f_L_bits at h
  show GW X 0 0 S 0 [(0, .int x0)] []
  refine g_iload_n C (q := 0) dL_bits_0 rfl rfl ?_
  refine g_if_ne C (tgt := 8) dL_bits_1 (by decide) h (fun h => ?_) (fun h => ?_)
  · refine g_lconst C (v := 0) dL_bits_4 (by decide) ?_
    refine g_goto C (tgt := 55) dL_bits_5 (by decide) ?_
    exact g_lret C hQ dL_bits_55 h
  · refine g_iload_n C (q := 0) dL_bits_8 rfl rfl ?_
    refine g_iconst C (v := 1) dL_bits_9 (by decide) ?_
    refine g_icmp_ne C (tgt := 19) dL_bits_10 (by decide) h (fun h => ?_) (fun h => ?_)
    · refine g_ldc2l C q494 dL_bits_13 ?_
      refine g_goto C (tgt := 55) dL_bits_16 (by decide) ?_
      exact g_lret C hQ dL_bits_55 h
    · refine g_iload_n C (q := 0) dL_bits_19 rfl rfl ?_
      refine g_iconst C (v := 2) dL_bits_20 (by decide) ?_
      refine g_icmp_ne C (tgt := 30) dL_bits_21 (by decide) h (fun h => ?_) (fun h => ?_)
      · refine g_ldc2l C q495 dL_bits_24 ?_
        refine g_goto C (tgt := 55) dL_bits_27 (by decide) ?_
        exact g_lret C hQ dL_bits_55 h
      · refine g_iload_n C (q := 0) dL_bits_30 rfl rfl ?_
        refine g_iconst C (v := 3) dL_bits_31 (by decide) ?_
        refine g_icmp_ne C (tgt := 41) dL_bits_32 (by decide) h (fun h => ?_) (fun h => ?_)
        · refine g_ldc2l C q496 dL_bits_35 ?_
          refine g_goto C (tgt := 55) dL_bits_38 (by decide) ?_
          exact g_lret C hQ dL_bits_55 h
        · refine g_iload_n C (q := 0) dL_bits_41 rfl rfl ?_
          refine g_iconst C (v := 4) dL_bits_42 (by decide) ?_
          refine g_icmp_ne C (tgt := 52) dL_bits_43 (by decide) h (fun h => ?_) (fun h => ?_)
          · refine g_ldc2l C q497 dL_bits_46 ?_
            refine g_goto C (tgt := 55) dL_bits_49 (by decide) ?_
            exact g_lret C hQ dL_bits_55 h
          · refine g_ldc2l C q498 dL_bits_52 ?_
            exact g_lret C hQ dL_bits_55 h

abbrev rm_L_adds : Room := { frames := 6, cells := 0, slots := 0, locals := 140 }
theorem dsL_adds : yL_adds.cls ≠ "java/lang/invoke/MethodHandle" ∧ yL_adds.cls ≠ "java/lang/invoke/VarHandle" ∧ (parseMethodDescriptor yL_adds.desc).map (fun d => d.parameters.length) = some 4 := by decide +kernel
theorem gs_RL_L_bits : GoodIn wsL_law (va_wsS RL 100 yL_bits (.code yL_bits cL_bits 1 (some .long) :: wsL_law)) := good_S q491 q492 q351 q493
theorem gs_RL_L_low : GoodIn wsL_law (va_wsS RL 65 yL_low (.code yL_low cL_low 2 (some .int) :: wsL_law)) := good_S q354 q355 q351 q356
theorem gv_RL_X5_addBridge : GoodIn wsL_law (wsV RL 81 RX5 yX5_addBridge (.code yX5_addBridge cX5_addBridge 4 (some .int) :: wsL_law)) := good_V q463 q464 q465 q2 q466
theorem gv_RL_X5_addGuide : GoodIn wsL_law (wsV RL 70 RX5 yX5_addGuide (.code yX5_addGuide cX5_addGuide 4 (some .int) :: wsL_law)) := good_V q448 q449 q450 q2 q451
theorem gv_RL_X5_addTour : GoodIn wsL_law (wsV RL 104 RX5 yX5_addTour (.code yX5_addTour cX5_addTour 7 (some .int) :: wsL_law)) := good_V q499 q500 q501 q2 q502
theorem gv_RL_X5_setTemperature : GoodIn wsL_law (wsV RL 95 RX5 yX5_setTemperature (.code yX5_setTemperature cX5_setTemperature 5 (some .int) :: wsL_law)) := good_V q480 q481 q482 q2 q483
def f_L_adds_J42 (S : Hp) (y0 : Option Nat) (z0 : Int32) (z1 : Int32) : Option (Int32 × Hp) :=
 if z1 = z0 then
 ob S 5 y0 fun b1 => cl (f_X5_addGuide S b1 (4 : Int32) (0 : Int32)) fun v1 S1 =>
 if v1 = (-2) then
 some ((1 : Int32), S1)
 else
 some ((0 : Int32), S1)
 else
 some ((0 : Int32), S)

def f_L_adds_J160 (S : Hp) (z0 : Int32) (z1 : Int32) : Option (Int32 × Hp) :=
 if z1 = z0 then
 some ((1 : Int32), S)
 else
 some ((0 : Int32), S)

def f_L_adds_J102 (S : Hp) (y0 : Option Nat) (y4 : Int32) (z0 : Int64) : Option (Int32 × Hp) :=
 ob S 5 y0 fun b1 => cl (f_X5_addBridge S b1 9221120237041090560) fun v1 S1 =>
 if v1 = (-2) then
 ob S1 5 y0 fun b2 => cl (f_X5_addBridge S1 b2 (-9223372036854775808)) fun v2 S2 =>
 if v2 = (-2) then
 ob S2 5 y0 fun b3 => cl (f_X5_addBridge S2 b3 4647503709213818881) fun v3 S3 =>
 if v3 = (-2) then
 ob S3 5 y0 fun b4 => cl (f_X5_addBridge S3 b4 z0) fun v4 S4 =>
 if y4 = 6 then
 f_L_adds_J160 S4 (-3 : Int32) v4
 else
 f_L_adds_J160 S4 y4 v4
 else
 some ((0 : Int32), S3)
 else
 some ((0 : Int32), S2)
 else
 some ((0 : Int32), S1)

def f_L_adds_J270 (S : Hp) (y0 : Option Nat) (y6 : Int64) (z0 : Int32) (z1 : Int32) : Option (Int32 × Hp) :=
 if z1 = z0 then
 ob S 5 y0 fun b1 => cl (f_X5_temperature S b1 ) fun j1 S1 =>
 if (lg_cmp j1 y6) = 0 then
 some ((1 : Int32), S1)
 else
 some ((0 : Int32), S1)
 else
 some ((0 : Int32), S)

def f_L_adds_J224 (S : Hp) (y0 : Option Nat) (y4 : Int64) (z0 : Int64) : Option (Int32 × Hp) :=
 ob S 5 y0 fun b1 => cl (f_X5_setTemperature S b1 9221120237041090560) fun v1 S1 =>
 if v1 = (-2) then
 ob S1 5 y0 fun b2 => cl (f_X5_setTemperature S1 b2 4629137466983448577) fun v2 S2 =>
 if v2 = (-2) then
 ob S2 5 y0 fun b3 => cl (f_X5_setTemperature S2 b3 z0) fun v3 S3 =>
 if (lg_cmp y4 z0) = 0 then
 f_L_adds_J270 S3 y0 z0 (-5 : Int32) v3
 else
 f_L_adds_J270 S3 y0 z0 (1 : Int32) v3
 else
 some ((0 : Int32), S2)
 else
 some ((0 : Int32), S1)

def f_L_adds_J451 (S : Hp) (y0 : Option Nat) (y4 : Int32) (y5 : Int32) (y6 : Int32) (y7 : Int32) (z0 : Int32) (z1 : Int32) : Option (Int32 × Hp) :=
 if z1 = z0 then
 if y7 < 0 then
 some ((1 : Int32), S)
 else
 ob S 5 y0 fun b1 => cl (f_X5_tour S b1 y4 (0 : Int32)) fun v1 S1 =>
 if v1 = y5 then
 ob S1 5 y0 fun b2 => cl (f_X5_tour S1 b2 y4 (2 : Int32)) fun v2 S2 =>
 if v2 = y6 then
 ob S2 5 y0 fun b3 => cl (f_X5_tour S2 b3 y4 (3 : Int32)) fun v3 S3 =>
 if v3 = 0 then
 some ((1 : Int32), S3)
 else
 some ((0 : Int32), S3)
 else
 some ((0 : Int32), S2)
 else
 some ((0 : Int32), S1)
 else
 some ((0 : Int32), S)

def f_L_adds_J415 (S : Hp) (y0 : Option Nat) (y4 : Int32) (y5 : Int32) (y6 : Int32) (y7 : Int32) (z0 : Int32) : Option (Int32 × Hp) :=
 if z0 = 0 then
 some ((0 : Int32), S)
 else
 if y5 ≤ 999 then
 if y4 = 10 then
 f_L_adds_J451 S y0 y4 y5 y6 y7 (-3 : Int32) y7
 else
 f_L_adds_J451 S y0 y4 y5 y6 y7 y4 y7
 else
 f_L_adds_J451 S y0 y4 y5 y6 y7 (-2 : Int32) y7

def f_L_adds_J414 (S : Hp) (y0 : Option Nat) (y4 : Int32) (y5 : Int32) (y6 : Int32) (y7 : Int32) : Option (Int32 × Hp) :=
 f_L_adds_J415 S y0 y4 y5 y6 y7 (0 : Int32)
def f_L_adds (S : Hp) (x0 : Option Nat) (x1 : Int32) (x2 : Int32) (x3 : Int32) : Option (Int32 × Hp) :=
 if x1 = 0 then
 ob S 5 x0 fun b1 => cl (f_X5_count S b1 (1 : Int32)) fun v1 S1 =>
 cl (f_L_low S1 x2 (3 : Int32)) fun v2 S2 =>
 cl (f_L_low S2 x3 (60 : Int32)) fun v3 S3 =>
 ob S3 5 x0 fun b2 => cl (f_X5_addGuide S3 b2 (1 + v2) v3) fun v4 S4 =>
 if v1 = 8 then
 f_L_adds_J42 S4 x0 (-3 : Int32) v4
 else
 f_L_adds_J42 S4 x0 v1 v4
 else
 if x1 = 1 then
 ob S 5 x0 fun b3 => cl (f_X5_count S b3 (2 : Int32)) fun v5 S5 =>
 if (x3 &&& 3) = 0 then
 f_L_adds_J102 S5 x0 v5 4647503709213818880
 else
 if (x3 &&& 3) = 1 then
 f_L_adds_J102 S5 x0 v5 4636737291354636288
 else
 f_L_adds_J102 S5 x0 v5 4630826316843712512
 else
 if x1 = 2 then
 ob S 5 x0 fun b4 => cl (f_X5_temperature S b4 ) fun j1 S6 =>
 if 2 ≤ (x3 &&& 7) then
 if 4 ≤ (x3 &&& 7) then
 if 6 ≤ (x3 &&& 7) then
 f_L_adds_J224 S6 x0 j1 (-4606056518893174784)
 else
 f_L_adds_J224 S6 x0 j1 (-4600145544382251008)
 else
 f_L_adds_J224 S6 x0 j1 4621819117588971520
 else
 f_L_adds_J224 S6 x0 j1 0
 else
 ob S 5 x0 fun b5 => cl (f_X5_count S b5 (3 : Int32)) fun v6 S7 =>
 ob S7 5 x0 fun b6 => cl (f_X5_count S7 b6 (0 : Int32)) fun v7 S8 =>
 cl (f_L_low S8 x2 (18 : Int32)) fun v8 S9 =>
 bnd ((v7 + v8)) fun v9 =>
 ob S9 5 x0 fun b7 => cl (f_X5_count S9 b7 (2 : Int32)) fun v10 S10 =>
 cl (f_L_low S10 x3 (1 <<< (v10 &&& 31))) fun v11 S11 =>
 cl (f_L_low S11 (x2 >>> (5 &&& 31)) (6 : Int32)) fun v12 S12 =>
 cl (f_L_bits S12 v12) fun j2 S13 =>
 cl (f_L_low S13 (x3 >>> (4 &&& 31)) (9999 : Int32)) fun v13 S14 =>
 ob S14 5 x0 fun b8 => cl (f_X5_addTour S14 b8 v9 j2 (1 + v13) v11) fun v14 S15 =>
 ob S15 5 x0 fun b9 => cl (f_X5_count S15 b9 (0 : Int32)) fun v15 S16 =>
 ob S16 5 x0 fun b10 => cl (f_X5_addTour S16 b10 (v15 - 1) 0 (1 : Int32) (0 : Int32)) fun v16 S17 =>
 if v16 = (-2) then
 ob S17 5 x0 fun b11 => cl (f_X5_addTour S17 b11 v9 4633641066610819073 (1 : Int32) (0 : Int32)) fun v17 S18 =>
 if v17 = (-2) then
 ob S18 5 x0 fun b12 => cl (f_X5_count S18 b12 (2 : Int32)) fun v18 S19 =>
 ob S19 5 x0 fun b13 => cl (f_X5_addTour S19 b13 v9 0 (1 : Int32) (1 <<< (v18 &&& 31))) fun v19 S20 =>
 if v19 = (-2) then
 f_L_adds_J415 S20 x0 v6 v9 v11 v14 (1 : Int32)
 else
 f_L_adds_J414 S20 x0 v6 v9 v11 v14
 else
 f_L_adds_J414 S18 x0 v6 v9 v11 v14
 else
 f_L_adds_J414 S17 x0 v6 v9 v11 v14
set_option maxHeartbeats 4000000 in
set_option maxRecDepth 100000 in
theorem w_L_adds_J42 {X : Cx} (C : CxOK X cL_adds RL rm_L_adds) (hn : xn X = 9) {S0 : Hp} {o : Int32 × Hp} (hQ : QI X (some .boolean) S0 0 0 o)  (S : Hp) (y0 : Option Nat) (z0 : Int32) (z1 : Int32) (h : f_L_adds_J42 S y0 z0 z1 = some o) : GW X 0 0 S 42 [(0, va_rf y0)] [.int z0, .int z1] := by
  unfold f_L_adds_J42 at h
  refine g_icmp_ne C (tgt := 60) dL_adds_42 (by decide) h (fun h => ?_) (fun h => ?_)
  · refine g_aload_n C (q := 0) dL_adds_45 rfl rfl ?_
    refine g_iconst C (v := 4) dL_adds_46 (by decide) ?_
    refine g_iconst C (v := 0) dL_adds_47 (by decide) ?_
    refine g_callVI C (ci := 5) (As := [.int 4, .int 0]) (np := 2) (st := []) (r := y0) rfl (by decide) (fun b1 q hq => c_X5_addGuide S b1 (4 : Int32) (0 : Int32) q hq) gv_RL_X5_addGuide rfl rfl dsX5_addGuide rfl ⟨Nat.le_of_ble_eq_true rfl, Nat.le_of_ble_eq_true rfl⟩ rfl (cat_sum (Nat.le_of_ble_eq_true rfl)) ⟨Nat.zero_le _, Nat.zero_le _⟩ dL_adds_48 h (fun v1 S1 h => ?_)
    refine g_bipush C (v := (-2)) dL_adds_51 (by decide) ?_
    refine g_icmp_ne C (tgt := 60) dL_adds_53 (by decide) h (fun h => ?_) (fun h => ?_)
    · refine g_iconst C (v := 1) dL_adds_56 (by decide) ?_
      refine g_goto C (tgt := 61) dL_adds_57 (by decide) ?_
      exact g_zret C hQ (by decide) dL_adds_61 h
    · refine g_iconst C (v := 0) dL_adds_60 (by decide) ?_
      exact g_zret C hQ (by decide) dL_adds_61 h
  · refine g_iconst C (v := 0) dL_adds_60 (by decide) ?_
    exact g_zret C hQ (by decide) dL_adds_61 h

set_option maxHeartbeats 4000000 in
set_option maxRecDepth 100000 in
theorem w_L_adds_J160 {X : Cx} (C : CxOK X cL_adds RL rm_L_adds) (hn : xn X = 9) {S0 : Hp} {o : Int32 × Hp} (hQ : QI X (some .boolean) S0 0 0 o)  (S : Hp) (z0 : Int32) (z1 : Int32) (h : f_L_adds_J160 S z0 z1 = some o) : GW X 0 0 S 160 [] [.int z0, .int z1] := by
  unfold f_L_adds_J160 at h
  refine g_icmp_ne C (tgt := 167) dL_adds_160 (by decide) h (fun h => ?_) (fun h => ?_)
  · refine g_iconst C (v := 1) dL_adds_163 (by decide) ?_
    refine g_goto C (tgt := 168) dL_adds_164 (by decide) ?_
    exact g_zret C hQ (by decide) dL_adds_168 h
  · refine g_iconst C (v := 0) dL_adds_167 (by decide) ?_
    exact g_zret C hQ (by decide) dL_adds_168 h

set_option maxHeartbeats 4000000 in
set_option maxRecDepth 100000 in
theorem w_L_adds_J102 {X : Cx} (C : CxOK X cL_adds RL rm_L_adds) (hn : xn X = 9) {S0 : Hp} {o : Int32 × Hp} (hQ : QI X (some .boolean) S0 0 0 o)  (S : Hp) (y0 : Option Nat) (y4 : Int32) (z0 : Int64) (h : f_L_adds_J102 S y0 y4 z0 = some o) : GW X 0 0 S 102 [(0, va_rf y0), (4, .int y4)] [.long z0] := by
  have hn6 : 6 < xn X := by rw [hn]; decide
  unfold f_L_adds_J102 at h
  refine g_lstore C (i := 5) (lv' := [(5, .long z0), (0, va_rf y0), (4, .int y4)]) dL_adds_102 hn6 rfl ?_
  refine g_aload_n C (q := 1) dL_adds_104 rfl rfl ?_
  refine g_ldc2l C q440 dL_adds_105 ?_
  refine g_callVI C (ci := 5) (As := [.long 9221120237041090560]) (np := 1) (st := []) (r := y0) rfl (by decide) (fun b1 q hq => c_X5_addBridge S b1 9221120237041090560 q hq) gv_RL_X5_addBridge rfl rfl dsX5_addBridge rfl ⟨Nat.le_of_ble_eq_true rfl, Nat.le_of_ble_eq_true rfl⟩ rfl (cat_sum (Nat.le_of_ble_eq_true rfl)) ⟨Nat.zero_le _, Nat.zero_le _⟩ dL_adds_108 h (fun v1 S1 h => ?_)
  refine g_bipush C (v := (-2)) dL_adds_111 (by decide) ?_
  refine g_icmp_ne C (tgt := 167) dL_adds_113 (by decide) h (fun h => ?_) (fun h => ?_)
  · refine g_aload_n C (q := 1) dL_adds_116 rfl rfl ?_
    refine g_ldc2l C q441 dL_adds_117 ?_
    refine g_callVI C (ci := 5) (As := [.long (-9223372036854775808)]) (np := 1) (st := []) (r := y0) rfl (by decide) (fun b2 q hq => c_X5_addBridge S1 b2 (-9223372036854775808) q hq) gv_RL_X5_addBridge rfl rfl dsX5_addBridge rfl ⟨Nat.le_of_ble_eq_true rfl, Nat.le_of_ble_eq_true rfl⟩ rfl (cat_sum (Nat.le_of_ble_eq_true rfl)) ⟨Nat.zero_le _, Nat.zero_le _⟩ dL_adds_120 h (fun v2 S2 h => ?_)
    refine g_bipush C (v := (-2)) dL_adds_123 (by decide) ?_
    refine g_icmp_ne C (tgt := 167) dL_adds_125 (by decide) h (fun h => ?_) (fun h => ?_)
    · refine g_aload_n C (q := 1) dL_adds_128 rfl rfl ?_
      refine g_ldc2l C q442 dL_adds_129 ?_
      refine g_callVI C (ci := 5) (As := [.long 4647503709213818881]) (np := 1) (st := []) (r := y0) rfl (by decide) (fun b3 q hq => c_X5_addBridge S2 b3 4647503709213818881 q hq) gv_RL_X5_addBridge rfl rfl dsX5_addBridge rfl ⟨Nat.le_of_ble_eq_true rfl, Nat.le_of_ble_eq_true rfl⟩ rfl (cat_sum (Nat.le_of_ble_eq_true rfl)) ⟨Nat.zero_le _, Nat.zero_le _⟩ dL_adds_132 h (fun v3 S3 h => ?_)
      refine g_bipush C (v := (-2)) dL_adds_135 (by decide) ?_
      refine g_icmp_ne C (tgt := 167) dL_adds_137 (by decide) h (fun h => ?_) (fun h => ?_)
      · refine g_aload_n C (q := 1) dL_adds_140 rfl rfl ?_
        refine g_lload C (q := 0) dL_adds_141 rfl ?_
        refine g_callVI C (ci := 5) (As := [.long z0]) (np := 1) (st := []) (r := y0) rfl (by decide) (fun b4 q hq => c_X5_addBridge S3 b4 z0 q hq) gv_RL_X5_addBridge rfl rfl dsX5_addBridge rfl ⟨Nat.le_of_ble_eq_true rfl, Nat.le_of_ble_eq_true rfl⟩ rfl (cat_sum (Nat.le_of_ble_eq_true rfl)) ⟨Nat.zero_le _, Nat.zero_le _⟩ dL_adds_143 h (fun v4 S4 h => ?_)
        refine g_iload C (q := 2) dL_adds_146 rfl ?_
        refine g_bipush C (v := 6) dL_adds_148 (by decide) ?_
        refine g_icmp_ne C (tgt := 158) dL_adds_150 (by decide) h (fun h => ?_) (fun h => ?_)
        · refine g_bipush C (v := (-3)) dL_adds_153 (by decide) ?_
          refine g_goto C (tgt := 160) dL_adds_155 (by decide) ?_
          refine g_sub (lv' := []) [] rfl ?_
          exact w_L_adds_J160 C hn hQ S4 (-3 : Int32) v4 h
        · refine g_iload C (q := 2) dL_adds_158 rfl ?_
          refine g_sub (lv' := []) [] rfl ?_
          exact w_L_adds_J160 C hn hQ S4 y4 v4 h
      · refine g_iconst C (v := 0) dL_adds_167 (by decide) ?_
        exact g_zret C hQ (by decide) dL_adds_168 h
    · refine g_iconst C (v := 0) dL_adds_167 (by decide) ?_
      exact g_zret C hQ (by decide) dL_adds_168 h
  · refine g_iconst C (v := 0) dL_adds_167 (by decide) ?_
    exact g_zret C hQ (by decide) dL_adds_168 h

set_option maxHeartbeats 4000000 in
set_option maxRecDepth 100000 in
theorem w_L_adds_J270 {X : Cx} (C : CxOK X cL_adds RL rm_L_adds) (hn : xn X = 9) {S0 : Hp} {o : Int32 × Hp} (hQ : QI X (some .boolean) S0 0 0 o)  (S : Hp) (y0 : Option Nat) (y6 : Int64) (z0 : Int32) (z1 : Int32) (h : f_L_adds_J270 S y0 y6 z0 z1 = some o) : GW X 0 0 S 270 [(0, va_rf y0), (6, .long y6)] [.int z0, .int z1] := by
  unfold f_L_adds_J270 at h
  refine g_icmp_ne C (tgt := 287) dL_adds_270 (by decide) h (fun h => ?_) (fun h => ?_)
  · refine g_aload_n C (q := 0) dL_adds_273 rfl rfl ?_
    refine g_callVJ C (ci := 5) (As := []) (np := 0) (st := []) (r := y0) rfl (by decide) (fun b1 q hq => c_X5_temperature S b1  q hq) gv_RL_X5_temperature rfl rfl dsX5_temperature rfl ⟨Nat.le_of_ble_eq_true rfl, Nat.le_of_ble_eq_true rfl⟩ rfl (cat_sum (Nat.le_of_ble_eq_true rfl)) ⟨Nat.zero_le _, Nat.zero_le _⟩ dL_adds_274 h (fun j1 S1 h => ?_)
    refine g_lload C (q := 1) dL_adds_277 rfl ?_
    refine g_lcmp C dL_adds_279 ?_
    refine g_if_ne C (tgt := 287) dL_adds_280 (by decide) h (fun h => ?_) (fun h => ?_)
    · refine g_iconst C (v := 1) dL_adds_283 (by decide) ?_
      refine g_goto C (tgt := 288) dL_adds_284 (by decide) ?_
      exact g_zret C hQ (by decide) dL_adds_288 h
    · refine g_iconst C (v := 0) dL_adds_287 (by decide) ?_
      exact g_zret C hQ (by decide) dL_adds_288 h
  · refine g_iconst C (v := 0) dL_adds_287 (by decide) ?_
    exact g_zret C hQ (by decide) dL_adds_288 h

set_option maxHeartbeats 4000000 in
set_option maxRecDepth 100000 in
theorem w_L_adds_J224 {X : Cx} (C : CxOK X cL_adds RL rm_L_adds) (hn : xn X = 9) {S0 : Hp} {o : Int32 × Hp} (hQ : QI X (some .boolean) S0 0 0 o)  (S : Hp) (y0 : Option Nat) (y4 : Int64) (z0 : Int64) (h : f_L_adds_J224 S y0 y4 z0 = some o) : GW X 0 0 S 224 [(0, va_rf y0), (4, .long y4)] [.long z0] := by
  have hn7 : 7 < xn X := by rw [hn]; decide
  unfold f_L_adds_J224 at h
  refine g_lstore C (i := 6) (lv' := [(6, .long z0), (0, va_rf y0), (4, .long y4)]) dL_adds_224 hn7 rfl ?_
  refine g_aload_n C (q := 1) dL_adds_226 rfl rfl ?_
  refine g_ldc2l C q440 dL_adds_227 ?_
  refine g_callVI C (ci := 5) (As := [.long 9221120237041090560]) (np := 1) (st := []) (r := y0) rfl (by decide) (fun b1 q hq => c_X5_setTemperature S b1 9221120237041090560 q hq) gv_RL_X5_setTemperature rfl rfl dsX5_setTemperature rfl ⟨Nat.le_of_ble_eq_true rfl, Nat.le_of_ble_eq_true rfl⟩ rfl (cat_sum (Nat.le_of_ble_eq_true rfl)) ⟨Nat.zero_le _, Nat.zero_le _⟩ dL_adds_230 h (fun v1 S1 h => ?_)
  refine g_bipush C (v := (-2)) dL_adds_233 (by decide) ?_
  refine g_icmp_ne C (tgt := 287) dL_adds_235 (by decide) h (fun h => ?_) (fun h => ?_)
  · refine g_aload_n C (q := 1) dL_adds_238 rfl rfl ?_
    refine g_ldc2l C q446 dL_adds_239 ?_
    refine g_callVI C (ci := 5) (As := [.long 4629137466983448577]) (np := 1) (st := []) (r := y0) rfl (by decide) (fun b2 q hq => c_X5_setTemperature S1 b2 4629137466983448577 q hq) gv_RL_X5_setTemperature rfl rfl dsX5_setTemperature rfl ⟨Nat.le_of_ble_eq_true rfl, Nat.le_of_ble_eq_true rfl⟩ rfl (cat_sum (Nat.le_of_ble_eq_true rfl)) ⟨Nat.zero_le _, Nat.zero_le _⟩ dL_adds_242 h (fun v2 S2 h => ?_)
    refine g_bipush C (v := (-2)) dL_adds_245 (by decide) ?_
    refine g_icmp_ne C (tgt := 287) dL_adds_247 (by decide) h (fun h => ?_) (fun h => ?_)
    · refine g_aload_n C (q := 1) dL_adds_250 rfl rfl ?_
      refine g_lload C (q := 0) dL_adds_251 rfl ?_
      refine g_callVI C (ci := 5) (As := [.long z0]) (np := 1) (st := []) (r := y0) rfl (by decide) (fun b3 q hq => c_X5_setTemperature S2 b3 z0 q hq) gv_RL_X5_setTemperature rfl rfl dsX5_setTemperature rfl ⟨Nat.le_of_ble_eq_true rfl, Nat.le_of_ble_eq_true rfl⟩ rfl (cat_sum (Nat.le_of_ble_eq_true rfl)) ⟨Nat.zero_le _, Nat.zero_le _⟩ dL_adds_253 h (fun v3 S3 h => ?_)
      refine g_lload C (q := 2) dL_adds_256 rfl ?_
      refine g_lload C (q := 0) dL_adds_258 rfl ?_
      refine g_lcmp C dL_adds_260 ?_
      refine g_if_ne C (tgt := 269) dL_adds_261 (by decide) h (fun h => ?_) (fun h => ?_)
      · refine g_bipush C (v := (-5)) dL_adds_264 (by decide) ?_
        refine g_goto C (tgt := 270) dL_adds_266 (by decide) ?_
        refine g_sub (lv' := [(0, va_rf y0), (6, .long z0)]) [1, 0] rfl ?_
        exact w_L_adds_J270 C hn hQ S3 y0 z0 (-5 : Int32) v3 h
      · refine g_iconst C (v := 1) dL_adds_269 (by decide) ?_
        refine g_sub (lv' := [(0, va_rf y0), (6, .long z0)]) [1, 0] rfl ?_
        exact w_L_adds_J270 C hn hQ S3 y0 z0 (1 : Int32) v3 h
    · refine g_iconst C (v := 0) dL_adds_287 (by decide) ?_
      exact g_zret C hQ (by decide) dL_adds_288 h
  · refine g_iconst C (v := 0) dL_adds_287 (by decide) ?_
    exact g_zret C hQ (by decide) dL_adds_288 h

set_option maxHeartbeats 4000000 in
set_option maxRecDepth 100000 in
theorem w_L_adds_J451 {X : Cx} (C : CxOK X cL_adds RL rm_L_adds) (hn : xn X = 9) {S0 : Hp} {o : Int32 × Hp} (hQ : QI X (some .boolean) S0 0 0 o)  (S : Hp) (y0 : Option Nat) (y4 : Int32) (y5 : Int32) (y6 : Int32) (y7 : Int32) (z0 : Int32) (z1 : Int32) (h : f_L_adds_J451 S y0 y4 y5 y6 y7 z0 z1 = some o) : GW X 0 0 S 451 [(0, va_rf y0), (4, .int y4), (5, .int y5), (6, .int y6), (7, .int y7)] [.int z0, .int z1] := by
  unfold f_L_adds_J451 at h
  refine g_icmp_ne C (tgt := 497) dL_adds_451 (by decide) h (fun h => ?_) (fun h => ?_)
  · refine g_iload C (q := 4) dL_adds_454 rfl ?_
    refine g_if_lt C (tgt := 493) dL_adds_456 (by decide) h (fun h => ?_) (fun h => ?_)
    · refine g_iconst C (v := 1) dL_adds_493 (by decide) ?_
      refine g_goto C (tgt := 498) dL_adds_494 (by decide) ?_
      exact g_zret C hQ (by decide) dL_adds_498 h
    · refine g_aload_n C (q := 0) dL_adds_459 rfl rfl ?_
      refine g_iload C (q := 1) dL_adds_460 rfl ?_
      refine g_iconst C (v := 0) dL_adds_462 (by decide) ?_
      refine g_callVI C (ci := 5) (As := [.int y4, .int 0]) (np := 2) (st := []) (r := y0) rfl (by decide) (fun b1 q hq => c_X5_tour S b1 y4 (0 : Int32) q hq) gv_RL_X5_tour rfl rfl dsX5_tour rfl ⟨Nat.le_of_ble_eq_true rfl, Nat.le_of_ble_eq_true rfl⟩ rfl (cat_sum (Nat.le_of_ble_eq_true rfl)) ⟨Nat.zero_le _, Nat.zero_le _⟩ dL_adds_463 h (fun v1 S1 h => ?_)
      refine g_iload C (q := 2) dL_adds_466 rfl ?_
      refine g_icmp_ne C (tgt := 497) dL_adds_468 (by decide) h (fun h => ?_) (fun h => ?_)
      · refine g_aload_n C (q := 0) dL_adds_471 rfl rfl ?_
        refine g_iload C (q := 1) dL_adds_472 rfl ?_
        refine g_iconst C (v := 2) dL_adds_474 (by decide) ?_
        refine g_callVI C (ci := 5) (As := [.int y4, .int 2]) (np := 2) (st := []) (r := y0) rfl (by decide) (fun b2 q hq => c_X5_tour S1 b2 y4 (2 : Int32) q hq) gv_RL_X5_tour rfl rfl dsX5_tour rfl ⟨Nat.le_of_ble_eq_true rfl, Nat.le_of_ble_eq_true rfl⟩ rfl (cat_sum (Nat.le_of_ble_eq_true rfl)) ⟨Nat.zero_le _, Nat.zero_le _⟩ dL_adds_475 h (fun v2 S2 h => ?_)
        refine g_iload C (q := 3) dL_adds_478 rfl ?_
        refine g_icmp_ne C (tgt := 497) dL_adds_480 (by decide) h (fun h => ?_) (fun h => ?_)
        · refine g_aload_n C (q := 0) dL_adds_483 rfl rfl ?_
          refine g_iload C (q := 1) dL_adds_484 rfl ?_
          refine g_iconst C (v := 3) dL_adds_486 (by decide) ?_
          refine g_callVI C (ci := 5) (As := [.int y4, .int 3]) (np := 2) (st := []) (r := y0) rfl (by decide) (fun b3 q hq => c_X5_tour S2 b3 y4 (3 : Int32) q hq) gv_RL_X5_tour rfl rfl dsX5_tour rfl ⟨Nat.le_of_ble_eq_true rfl, Nat.le_of_ble_eq_true rfl⟩ rfl (cat_sum (Nat.le_of_ble_eq_true rfl)) ⟨Nat.zero_le _, Nat.zero_le _⟩ dL_adds_487 h (fun v3 S3 h => ?_)
          refine g_if_ne C (tgt := 497) dL_adds_490 (by decide) h (fun h => ?_) (fun h => ?_)
          · refine g_iconst C (v := 1) dL_adds_493 (by decide) ?_
            refine g_goto C (tgt := 498) dL_adds_494 (by decide) ?_
            exact g_zret C hQ (by decide) dL_adds_498 h
          · refine g_iconst C (v := 0) dL_adds_497 (by decide) ?_
            exact g_zret C hQ (by decide) dL_adds_498 h
        · refine g_iconst C (v := 0) dL_adds_497 (by decide) ?_
          exact g_zret C hQ (by decide) dL_adds_498 h
      · refine g_iconst C (v := 0) dL_adds_497 (by decide) ?_
        exact g_zret C hQ (by decide) dL_adds_498 h
  · refine g_iconst C (v := 0) dL_adds_497 (by decide) ?_
    exact g_zret C hQ (by decide) dL_adds_498 h

set_option maxHeartbeats 4000000 in
set_option maxRecDepth 100000 in
theorem w_L_adds_J415 {X : Cx} (C : CxOK X cL_adds RL rm_L_adds) (hn : xn X = 9) {S0 : Hp} {o : Int32 × Hp} (hQ : QI X (some .boolean) S0 0 0 o)  (S : Hp) (y0 : Option Nat) (y4 : Int32) (y5 : Int32) (y6 : Int32) (y7 : Int32) (z0 : Int32) (h : f_L_adds_J415 S y0 y4 y5 y6 y7 z0 = some o) : GW X 0 0 S 415 [(0, va_rf y0), (4, .int y4), (5, .int y5), (6, .int y6), (7, .int y7)] [.int z0] := by
  have hn8 : 8 < xn X := by rw [hn]; decide
  unfold f_L_adds_J415 at h
  refine g_istore C (i := 8) (lv' := [(8, .int z0), (0, va_rf y0), (4, .int y4), (5, .int y5), (6, .int y6), (7, .int y7)]) dL_adds_415 hn8 rfl ?_
  refine g_iload C (q := 0) dL_adds_417 rfl ?_
  refine g_if_eq C (tgt := 497) dL_adds_419 (by decide) h (fun h => ?_) (fun h => ?_)
  · refine g_iconst C (v := 0) dL_adds_497 (by decide) ?_
    exact g_zret C hQ (by decide) dL_adds_498 h
  · refine g_iload C (q := 5) dL_adds_422 rfl ?_
    refine g_iload C (q := 3) dL_adds_424 rfl ?_
    refine g_sipush C (v := 999) dL_adds_426 (by decide) ?_
    refine g_icmp_le C (tgt := 437) dL_adds_429 (by decide) h (fun h => ?_) (fun h => ?_)
    · refine g_iload C (q := 2) dL_adds_437 rfl ?_
      refine g_bipush C (v := 10) dL_adds_439 (by decide) ?_
      refine g_icmp_ne C (tgt := 449) dL_adds_441 (by decide) h (fun h => ?_) (fun h => ?_)
      · refine g_bipush C (v := (-3)) dL_adds_444 (by decide) ?_
        refine g_goto C (tgt := 451) dL_adds_446 (by decide) ?_
        refine g_sub (lv' := [(0, va_rf y0), (4, .int y4), (5, .int y5), (6, .int y6), (7, .int y7)]) [1, 2, 3, 4, 5] rfl ?_
        exact w_L_adds_J451 C hn hQ S y0 y4 y5 y6 y7 (-3 : Int32) y7 h
      · refine g_iload C (q := 2) dL_adds_449 rfl ?_
        refine g_sub (lv' := [(0, va_rf y0), (4, .int y4), (5, .int y5), (6, .int y6), (7, .int y7)]) [1, 2, 3, 4, 5] rfl ?_
        exact w_L_adds_J451 C hn hQ S y0 y4 y5 y6 y7 y4 y7 h
    · refine g_bipush C (v := (-2)) dL_adds_432 (by decide) ?_
      refine g_goto C (tgt := 451) dL_adds_434 (by decide) ?_
      refine g_sub (lv' := [(0, va_rf y0), (4, .int y4), (5, .int y5), (6, .int y6), (7, .int y7)]) [1, 2, 3, 4, 5] rfl ?_
      exact w_L_adds_J451 C hn hQ S y0 y4 y5 y6 y7 (-2 : Int32) y7 h

set_option maxHeartbeats 4000000 in
set_option maxRecDepth 100000 in
theorem w_L_adds_J414 {X : Cx} (C : CxOK X cL_adds RL rm_L_adds) (hn : xn X = 9) {S0 : Hp} {o : Int32 × Hp} (hQ : QI X (some .boolean) S0 0 0 o)  (S : Hp) (y0 : Option Nat) (y4 : Int32) (y5 : Int32) (y6 : Int32) (y7 : Int32) (h : f_L_adds_J414 S y0 y4 y5 y6 y7 = some o) : GW X 0 0 S 414 [(0, va_rf y0), (4, .int y4), (5, .int y5), (6, .int y6), (7, .int y7)] [] := by
  unfold f_L_adds_J414 at h
  refine g_iconst C (v := 0) dL_adds_414 (by decide) ?_
  refine g_sub (lv' := [(0, va_rf y0), (4, .int y4), (5, .int y5), (6, .int y6), (7, .int y7)]) [0, 1, 2, 3, 4] rfl ?_
  exact w_L_adds_J415 C hn hQ S y0 y4 y5 y6 y7 (0 : Int32) h
set_option maxHeartbeats 4000000 in
set_option maxRecDepth 100000 in
theorem c_L_adds (S : Hp) (x0 : Option Nat) (x1 : Int32) (x2 : Int32) (x3 : Int32) (o : Int32 × Hp) (h : f_L_adds S x0 x1 x2 x3 = some o) : CtI yL_adds cL_adds 9 (some .boolean) rm_L_adds 0 0 [va_rf x0, .int x1, .int x2, .int x3] S o := by
  refine ct_I (own := RL) (by decide) rfl (by simp [lg_sl, va_rf_cat, catI, catJ, catD]) (fun X C hn hQ => ?_)
  have hn4 : 4 < xn X := by rw [hn]; decide
  have hn5 : 5 < xn X := by rw [hn]; decide
  have hn6 : 6 < xn X := by rw [hn]; decide
  have hn7 : 7 < xn X := by rw [hn]; decide
  unfold f_L_adds at h
  rw [show lv_args 0 [va_rf x0, .int x1, .int x2, .int x3] = [(0, va_rf x0), (1, .int x1), (2, .int x2), (3, .int x3)] by simp [lv_args, va_rf_cat, catI, catJ, catD]]
  refine g_iload_n C (q := 1) dL_adds_0 rfl rfl ?_
  refine g_if_ne C (tgt := 62) dL_adds_1 (by decide) h (fun h => ?_) (fun h => ?_)
  · refine g_aload_n C (q := 0) dL_adds_4 rfl rfl ?_
    refine g_iconst C (v := 1) dL_adds_5 (by decide) ?_
    refine g_callVI C (ci := 5) (As := [.int 1]) (np := 1) (st := []) (r := x0) rfl (by decide) (fun b1 q hq => c_X5_count S b1 (1 : Int32) q hq) gv_RL_X5_count rfl rfl dsX5_count rfl ⟨Nat.le_of_ble_eq_true rfl, Nat.le_of_ble_eq_true rfl⟩ rfl (cat_sum (Nat.le_of_ble_eq_true rfl)) ⟨Nat.zero_le _, Nat.zero_le _⟩ dL_adds_6 h (fun v1 S1 h => ?_)
    refine g_istore C (i := 4) (lv' := [(4, .int v1), (0, va_rf x0), (1, .int x1), (2, .int x2), (3, .int x3)]) dL_adds_9 hn4 rfl ?_
    refine g_aload_n C (q := 1) dL_adds_11 rfl rfl ?_
    refine g_iconst C (v := 1) dL_adds_12 (by decide) ?_
    refine g_iload_n C (q := 3) dL_adds_13 rfl rfl ?_
    refine g_iconst C (v := 3) dL_adds_14 (by decide) ?_
    refine g_callSI C (As := [.int x2, .int 3]) (np := 2) (st := [.int 1, va_rf x0]) (fun q hq => c_L_low S1 x2 (3 : Int32) q hq) gs_RL_L_low rfl rfl dsL_low rfl ⟨Nat.le_of_ble_eq_true rfl, Nat.le_of_ble_eq_true rfl⟩ rfl (cat_sum (Nat.le_of_ble_eq_true rfl)) ⟨Nat.zero_le _, Nat.zero_le _⟩ dL_adds_15 h (fun v2 S2 h => ?_)
    refine g_iadd C dL_adds_18 ?_
    refine g_iload_n C (q := 4) dL_adds_19 rfl rfl ?_
    refine g_bipush C (v := 60) dL_adds_20 (by decide) ?_
    refine g_callSI C (As := [.int x3, .int 60]) (np := 2) (st := [.int (1 + v2), va_rf x0]) (fun q hq => c_L_low S2 x3 (60 : Int32) q hq) gs_RL_L_low rfl rfl dsL_low rfl ⟨Nat.le_of_ble_eq_true rfl, Nat.le_of_ble_eq_true rfl⟩ rfl (cat_sum (Nat.le_of_ble_eq_true rfl)) ⟨Nat.zero_le _, Nat.zero_le _⟩ dL_adds_22 h (fun v3 S3 h => ?_)
    refine g_callVI C (ci := 5) (As := [.int (1 + v2), .int v3]) (np := 2) (st := []) (r := x0) rfl (by decide) (fun b2 q hq => c_X5_addGuide S3 b2 (1 + v2) v3 q hq) gv_RL_X5_addGuide rfl rfl dsX5_addGuide rfl ⟨Nat.le_of_ble_eq_true rfl, Nat.le_of_ble_eq_true rfl⟩ rfl (cat_sum (Nat.le_of_ble_eq_true rfl)) ⟨Nat.zero_le _, Nat.zero_le _⟩ dL_adds_25 h (fun v4 S4 h => ?_)
    refine g_iload C (q := 0) dL_adds_28 rfl ?_
    refine g_bipush C (v := 8) dL_adds_30 (by decide) ?_
    refine g_icmp_ne C (tgt := 40) dL_adds_32 (by decide) h (fun h => ?_) (fun h => ?_)
    · refine g_bipush C (v := (-3)) dL_adds_35 (by decide) ?_
      refine g_goto C (tgt := 42) dL_adds_37 (by decide) ?_
      refine g_sub (lv' := [(0, va_rf x0)]) [1] rfl ?_
      exact w_L_adds_J42 C hn hQ S4 x0 (-3 : Int32) v4 h
    · refine g_iload C (q := 0) dL_adds_40 rfl ?_
      refine g_sub (lv' := [(0, va_rf x0)]) [1] rfl ?_
      exact w_L_adds_J42 C hn hQ S4 x0 v1 v4 h
  · refine g_iload_n C (q := 1) dL_adds_62 rfl rfl ?_
    refine g_iconst C (v := 1) dL_adds_63 (by decide) ?_
    refine g_icmp_ne C (tgt := 169) dL_adds_64 (by decide) h (fun h => ?_) (fun h => ?_)
    · refine g_aload_n C (q := 0) dL_adds_67 rfl rfl ?_
      refine g_iconst C (v := 2) dL_adds_68 (by decide) ?_
      refine g_callVI C (ci := 5) (As := [.int 2]) (np := 1) (st := []) (r := x0) rfl (by decide) (fun b3 q hq => c_X5_count S b3 (2 : Int32) q hq) gv_RL_X5_count rfl rfl dsX5_count rfl ⟨Nat.le_of_ble_eq_true rfl, Nat.le_of_ble_eq_true rfl⟩ rfl (cat_sum (Nat.le_of_ble_eq_true rfl)) ⟨Nat.zero_le _, Nat.zero_le _⟩ dL_adds_69 h (fun v5 S5 h => ?_)
      refine g_istore C (i := 4) (lv' := [(4, .int v5), (0, va_rf x0), (1, .int x1), (2, .int x2), (3, .int x3)]) dL_adds_72 hn4 rfl ?_
      refine g_iload_n C (q := 4) dL_adds_74 rfl rfl ?_
      refine g_iconst C (v := 3) dL_adds_75 (by decide) ?_
      refine g_iand C dL_adds_76 ?_
      refine g_if_ne C (tgt := 86) dL_adds_77 (by decide) h (fun h => ?_) (fun h => ?_)
      · refine g_ldc2l C q437 dL_adds_80 ?_
        refine g_goto C (tgt := 102) dL_adds_83 (by decide) ?_
        refine g_sub (lv' := [(0, va_rf x0), (4, .int v5)]) [1, 0] rfl ?_
        exact w_L_adds_J102 C hn hQ S5 x0 v5 4647503709213818880 h
      · refine g_iload_n C (q := 4) dL_adds_86 rfl rfl ?_
        refine g_iconst C (v := 3) dL_adds_87 (by decide) ?_
        refine g_iand C dL_adds_88 ?_
        refine g_iconst C (v := 1) dL_adds_89 (by decide) ?_
        refine g_icmp_ne C (tgt := 99) dL_adds_90 (by decide) h (fun h => ?_) (fun h => ?_)
        · refine g_ldc2l C q438 dL_adds_93 ?_
          refine g_goto C (tgt := 102) dL_adds_96 (by decide) ?_
          refine g_sub (lv' := [(0, va_rf x0), (4, .int v5)]) [1, 0] rfl ?_
          exact w_L_adds_J102 C hn hQ S5 x0 v5 4636737291354636288 h
        · refine g_ldc2l C q439 dL_adds_99 ?_
          refine g_sub (lv' := [(0, va_rf x0), (4, .int v5)]) [1, 0] rfl ?_
          exact w_L_adds_J102 C hn hQ S5 x0 v5 4630826316843712512 h
    · refine g_iload_n C (q := 1) dL_adds_169 rfl rfl ?_
      refine g_iconst C (v := 2) dL_adds_170 (by decide) ?_
      refine g_icmp_ne C (tgt := 289) dL_adds_171 (by decide) h (fun h => ?_) (fun h => ?_)
      · refine g_aload_n C (q := 0) dL_adds_174 rfl rfl ?_
        refine g_callVJ C (ci := 5) (As := []) (np := 0) (st := []) (r := x0) rfl (by decide) (fun b4 q hq => c_X5_temperature S b4  q hq) gv_RL_X5_temperature rfl rfl dsX5_temperature rfl ⟨Nat.le_of_ble_eq_true rfl, Nat.le_of_ble_eq_true rfl⟩ rfl (cat_sum (Nat.le_of_ble_eq_true rfl)) ⟨Nat.zero_le _, Nat.zero_le _⟩ dL_adds_175 h (fun j1 S6 h => ?_)
        refine g_lstore C (i := 4) (lv' := [(4, .long j1), (0, va_rf x0), (1, .int x1), (2, .int x2), (3, .int x3)]) dL_adds_178 hn5 rfl ?_
        refine g_iload_n C (q := 4) dL_adds_180 rfl rfl ?_
        refine g_bipush C (v := 7) dL_adds_181 (by decide) ?_
        refine g_iand C dL_adds_183 ?_
        refine g_iconst C (v := 2) dL_adds_184 (by decide) ?_
        refine g_icmp_ge C (tgt := 192) dL_adds_185 (by decide) h (fun h => ?_) (fun h => ?_)
        · refine g_iload_n C (q := 4) dL_adds_192 rfl rfl ?_
          refine g_bipush C (v := 7) dL_adds_193 (by decide) ?_
          refine g_iand C dL_adds_195 ?_
          refine g_iconst C (v := 4) dL_adds_196 (by decide) ?_
          refine g_icmp_ge C (tgt := 206) dL_adds_197 (by decide) h (fun h => ?_) (fun h => ?_)
          · refine g_iload_n C (q := 4) dL_adds_206 rfl rfl ?_
            refine g_bipush C (v := 7) dL_adds_207 (by decide) ?_
            refine g_iand C dL_adds_209 ?_
            refine g_bipush C (v := 6) dL_adds_210 (by decide) ?_
            refine g_icmp_ge C (tgt := 221) dL_adds_212 (by decide) h (fun h => ?_) (fun h => ?_)
            · refine g_ldc2l C q445 dL_adds_221 ?_
              refine g_sub (lv' := [(0, va_rf x0), (4, .long j1)]) [1, 0] rfl ?_
              exact w_L_adds_J224 C hn hQ S6 x0 j1 (-4606056518893174784) h
            · refine g_ldc2l C q444 dL_adds_215 ?_
              refine g_goto C (tgt := 224) dL_adds_218 (by decide) ?_
              refine g_sub (lv' := [(0, va_rf x0), (4, .long j1)]) [1, 0] rfl ?_
              exact w_L_adds_J224 C hn hQ S6 x0 j1 (-4600145544382251008) h
          · refine g_ldc2l C q443 dL_adds_200 ?_
            refine g_goto C (tgt := 224) dL_adds_203 (by decide) ?_
            refine g_sub (lv' := [(0, va_rf x0), (4, .long j1)]) [1, 0] rfl ?_
            exact w_L_adds_J224 C hn hQ S6 x0 j1 4621819117588971520 h
        · refine g_lconst C (v := 0) dL_adds_188 (by decide) ?_
          refine g_goto C (tgt := 224) dL_adds_189 (by decide) ?_
          refine g_sub (lv' := [(0, va_rf x0), (4, .long j1)]) [1, 0] rfl ?_
          exact w_L_adds_J224 C hn hQ S6 x0 j1 0 h
      · refine g_aload_n C (q := 0) dL_adds_289 rfl rfl ?_
        refine g_iconst C (v := 3) dL_adds_290 (by decide) ?_
        refine g_callVI C (ci := 5) (As := [.int 3]) (np := 1) (st := []) (r := x0) rfl (by decide) (fun b5 q hq => c_X5_count S b5 (3 : Int32) q hq) gv_RL_X5_count rfl rfl dsX5_count rfl ⟨Nat.le_of_ble_eq_true rfl, Nat.le_of_ble_eq_true rfl⟩ rfl (cat_sum (Nat.le_of_ble_eq_true rfl)) ⟨Nat.zero_le _, Nat.zero_le _⟩ dL_adds_291 h (fun v6 S7 h => ?_)
        refine g_istore C (i := 4) (lv' := [(4, .int v6), (0, va_rf x0), (1, .int x1), (2, .int x2), (3, .int x3)]) dL_adds_294 hn4 rfl ?_
        refine g_aload_n C (q := 1) dL_adds_296 rfl rfl ?_
        refine g_iconst C (v := 0) dL_adds_297 (by decide) ?_
        refine g_callVI C (ci := 5) (As := [.int 0]) (np := 1) (st := []) (r := x0) rfl (by decide) (fun b6 q hq => c_X5_count S7 b6 (0 : Int32) q hq) gv_RL_X5_count rfl rfl dsX5_count rfl ⟨Nat.le_of_ble_eq_true rfl, Nat.le_of_ble_eq_true rfl⟩ rfl (cat_sum (Nat.le_of_ble_eq_true rfl)) ⟨Nat.zero_le _, Nat.zero_le _⟩ dL_adds_298 h (fun v7 S8 h => ?_)
        refine g_iload_n C (q := 3) dL_adds_301 rfl rfl ?_
        refine g_bipush C (v := 18) dL_adds_302 (by decide) ?_
        refine g_callSI C (As := [.int x2, .int 18]) (np := 2) (st := [.int v7]) (fun q hq => c_L_low S8 x2 (18 : Int32) q hq) gs_RL_L_low rfl rfl dsL_low rfl ⟨Nat.le_of_ble_eq_true rfl, Nat.le_of_ble_eq_true rfl⟩ rfl (cat_sum (Nat.le_of_ble_eq_true rfl)) ⟨Nat.zero_le _, Nat.zero_le _⟩ dL_adds_304 h (fun v8 S9 h => ?_)
        refine g_iadd C dL_adds_307 ?_
        refine g_nmI h (fun v9 h => ?_)
        refine g_istore C (i := 5) (lv' := [(5, .int v9), (4, .int v6), (0, va_rf x0), (1, .int x1), (2, .int x2), (3, .int x3)]) dL_adds_308 hn5 rfl ?_
        refine g_iload_n C (q := 5) dL_adds_310 rfl rfl ?_
        refine g_iconst C (v := 1) dL_adds_311 (by decide) ?_
        refine g_aload_n C (q := 2) dL_adds_312 rfl rfl ?_
        refine g_iconst C (v := 2) dL_adds_313 (by decide) ?_
        refine g_callVI C (ci := 5) (As := [.int 2]) (np := 1) (st := [.int 1, .int x3]) (r := x0) rfl (by decide) (fun b7 q hq => c_X5_count S9 b7 (2 : Int32) q hq) gv_RL_X5_count rfl rfl dsX5_count rfl ⟨Nat.le_of_ble_eq_true rfl, Nat.le_of_ble_eq_true rfl⟩ rfl (cat_sum (Nat.le_of_ble_eq_true rfl)) ⟨Nat.zero_le _, Nat.zero_le _⟩ dL_adds_314 h (fun v10 S10 h => ?_)
        refine g_ishl C dL_adds_317 ?_
        refine g_callSI C (As := [.int x3, .int (1 <<< (v10 &&& 31))]) (np := 2) (st := []) (fun q hq => c_L_low S10 x3 (1 <<< (v10 &&& 31)) q hq) gs_RL_L_low rfl rfl dsL_low rfl ⟨Nat.le_of_ble_eq_true rfl, Nat.le_of_ble_eq_true rfl⟩ rfl (cat_sum (Nat.le_of_ble_eq_true rfl)) ⟨Nat.zero_le _, Nat.zero_le _⟩ dL_adds_318 h (fun v11 S11 h => ?_)
        refine g_istore C (i := 6) (lv' := [(6, .int v11), (5, .int v9), (4, .int v6), (0, va_rf x0), (1, .int x1), (2, .int x2), (3, .int x3)]) dL_adds_321 hn6 rfl ?_
        refine g_aload_n C (q := 3) dL_adds_323 rfl rfl ?_
        refine g_iload C (q := 1) dL_adds_324 rfl ?_
        refine g_iload_n C (q := 5) dL_adds_326 rfl rfl ?_
        refine g_iconst C (v := 5) dL_adds_327 (by decide) ?_
        refine g_ishr C dL_adds_328 ?_
        refine g_bipush C (v := 6) dL_adds_329 (by decide) ?_
        refine g_callSI C (As := [.int (x2 >>> (5 &&& 31)), .int 6]) (np := 2) (st := [.int v9, va_rf x0]) (fun q hq => c_L_low S11 (x2 >>> (5 &&& 31)) (6 : Int32) q hq) gs_RL_L_low rfl rfl dsL_low rfl ⟨Nat.le_of_ble_eq_true rfl, Nat.le_of_ble_eq_true rfl⟩ rfl (cat_sum (Nat.le_of_ble_eq_true rfl)) ⟨Nat.zero_le _, Nat.zero_le _⟩ dL_adds_331 h (fun v12 S12 h => ?_)
        refine g_callSJ C (As := [.int v12]) (np := 1) (st := [.int v9, va_rf x0]) (fun q hq => c_L_bits S12 v12 q hq) gs_RL_L_bits rfl rfl dsL_bits rfl ⟨Nat.le_of_ble_eq_true rfl, Nat.le_of_ble_eq_true rfl⟩ rfl (cat_sum (Nat.le_of_ble_eq_true rfl)) ⟨Nat.zero_le _, Nat.zero_le _⟩ dL_adds_334 h (fun j2 S13 h => ?_)
        refine g_iconst C (v := 1) dL_adds_337 (by decide) ?_
        refine g_iload_n C (q := 6) dL_adds_338 rfl rfl ?_
        refine g_iconst C (v := 4) dL_adds_339 (by decide) ?_
        refine g_ishr C dL_adds_340 ?_
        refine g_sipush C (v := 9999) dL_adds_341 (by decide) ?_
        refine g_callSI C (As := [.int (x3 >>> (4 &&& 31)), .int 9999]) (np := 2) (st := [.int 1, .long j2, .int v9, va_rf x0]) (fun q hq => c_L_low S13 (x3 >>> (4 &&& 31)) (9999 : Int32) q hq) gs_RL_L_low rfl rfl dsL_low rfl ⟨Nat.le_of_ble_eq_true rfl, Nat.le_of_ble_eq_true rfl⟩ rfl (cat_sum (Nat.le_of_ble_eq_true rfl)) ⟨Nat.zero_le _, Nat.zero_le _⟩ dL_adds_344 h (fun v13 S14 h => ?_)
        refine g_iadd C dL_adds_347 ?_
        refine g_iload C (q := 0) dL_adds_348 rfl ?_
        refine g_callVI C (ci := 5) (As := [.int v9, .long j2, .int (1 + v13), .int v11]) (np := 4) (st := []) (r := x0) rfl (by decide) (fun b8 q hq => c_X5_addTour S14 b8 v9 j2 (1 + v13) v11 q hq) gv_RL_X5_addTour rfl rfl dsX5_addTour rfl ⟨Nat.le_of_ble_eq_true rfl, Nat.le_of_ble_eq_true rfl⟩ rfl (cat_sum (Nat.le_of_ble_eq_true rfl)) ⟨Nat.zero_le _, Nat.zero_le _⟩ dL_adds_350 h (fun v14 S15 h => ?_)
        refine g_istore C (i := 7) (lv' := [(7, .int v14), (6, .int v11), (5, .int v9), (4, .int v6), (0, va_rf x0), (1, .int x1), (2, .int x2), (3, .int x3)]) dL_adds_353 hn7 rfl ?_
        refine g_aload_n C (q := 4) dL_adds_355 rfl rfl ?_
        refine g_aload_n C (q := 4) dL_adds_356 rfl rfl ?_
        refine g_iconst C (v := 0) dL_adds_357 (by decide) ?_
        refine g_callVI C (ci := 5) (As := [.int 0]) (np := 1) (st := [va_rf x0]) (r := x0) rfl (by decide) (fun b9 q hq => c_X5_count S15 b9 (0 : Int32) q hq) gv_RL_X5_count rfl rfl dsX5_count rfl ⟨Nat.le_of_ble_eq_true rfl, Nat.le_of_ble_eq_true rfl⟩ rfl (cat_sum (Nat.le_of_ble_eq_true rfl)) ⟨Nat.zero_le _, Nat.zero_le _⟩ dL_adds_358 h (fun v15 S16 h => ?_)
        refine g_iconst C (v := 1) dL_adds_361 (by decide) ?_
        refine g_isub C dL_adds_362 ?_
        refine g_lconst C (v := 0) dL_adds_363 (by decide) ?_
        refine g_iconst C (v := 1) dL_adds_364 (by decide) ?_
        refine g_iconst C (v := 0) dL_adds_365 (by decide) ?_
        refine g_callVI C (ci := 5) (As := [.int (v15 - 1), .long 0, .int 1, .int 0]) (np := 4) (st := []) (r := x0) rfl (by decide) (fun b10 q hq => c_X5_addTour S16 b10 (v15 - 1) 0 (1 : Int32) (0 : Int32) q hq) gv_RL_X5_addTour rfl rfl dsX5_addTour rfl ⟨Nat.le_of_ble_eq_true rfl, Nat.le_of_ble_eq_true rfl⟩ rfl (cat_sum (Nat.le_of_ble_eq_true rfl)) ⟨Nat.zero_le _, Nat.zero_le _⟩ dL_adds_366 h (fun v16 S17 h => ?_)
        refine g_bipush C (v := (-2)) dL_adds_369 (by decide) ?_
        refine g_icmp_ne C (tgt := 414) dL_adds_371 (by decide) h (fun h => ?_) (fun h => ?_)
        · refine g_aload_n C (q := 4) dL_adds_374 rfl rfl ?_
          refine g_iload C (q := 2) dL_adds_375 rfl ?_
          refine g_ldc2l C q447 dL_adds_377 ?_
          refine g_iconst C (v := 1) dL_adds_380 (by decide) ?_
          refine g_iconst C (v := 0) dL_adds_381 (by decide) ?_
          refine g_callVI C (ci := 5) (As := [.int v9, .long 4633641066610819073, .int 1, .int 0]) (np := 4) (st := []) (r := x0) rfl (by decide) (fun b11 q hq => c_X5_addTour S17 b11 v9 4633641066610819073 (1 : Int32) (0 : Int32) q hq) gv_RL_X5_addTour rfl rfl dsX5_addTour rfl ⟨Nat.le_of_ble_eq_true rfl, Nat.le_of_ble_eq_true rfl⟩ rfl (cat_sum (Nat.le_of_ble_eq_true rfl)) ⟨Nat.zero_le _, Nat.zero_le _⟩ dL_adds_382 h (fun v17 S18 h => ?_)
          refine g_bipush C (v := (-2)) dL_adds_385 (by decide) ?_
          refine g_icmp_ne C (tgt := 414) dL_adds_387 (by decide) h (fun h => ?_) (fun h => ?_)
          · refine g_aload_n C (q := 4) dL_adds_390 rfl rfl ?_
            refine g_iload C (q := 2) dL_adds_391 rfl ?_
            refine g_lconst C (v := 0) dL_adds_393 (by decide) ?_
            refine g_iconst C (v := 1) dL_adds_394 (by decide) ?_
            refine g_iconst C (v := 1) dL_adds_395 (by decide) ?_
            refine g_aload_n C (q := 4) dL_adds_396 rfl rfl ?_
            refine g_iconst C (v := 2) dL_adds_397 (by decide) ?_
            refine g_callVI C (ci := 5) (As := [.int 2]) (np := 1) (st := [.int 1, .int 1, .long 0, .int v9, va_rf x0]) (r := x0) rfl (by decide) (fun b12 q hq => c_X5_count S18 b12 (2 : Int32) q hq) gv_RL_X5_count rfl rfl dsX5_count rfl ⟨Nat.le_of_ble_eq_true rfl, Nat.le_of_ble_eq_true rfl⟩ rfl (by simp [va_rf_cat, catI, catJ, catD]) ⟨Nat.zero_le _, Nat.zero_le _⟩ dL_adds_398 h (fun v18 S19 h => ?_)
            refine g_ishl C dL_adds_401 ?_
            refine g_callVI C (ci := 5) (As := [.int v9, .long 0, .int 1, .int (1 <<< (v18 &&& 31))]) (np := 4) (st := []) (r := x0) rfl (by decide) (fun b13 q hq => c_X5_addTour S19 b13 v9 0 (1 : Int32) (1 <<< (v18 &&& 31)) q hq) gv_RL_X5_addTour rfl rfl dsX5_addTour rfl ⟨Nat.le_of_ble_eq_true rfl, Nat.le_of_ble_eq_true rfl⟩ rfl (cat_sum (Nat.le_of_ble_eq_true rfl)) ⟨Nat.zero_le _, Nat.zero_le _⟩ dL_adds_402 h (fun v19 S20 h => ?_)
            refine g_bipush C (v := (-2)) dL_adds_405 (by decide) ?_
            refine g_icmp_ne C (tgt := 414) dL_adds_407 (by decide) h (fun h => ?_) (fun h => ?_)
            · refine g_iconst C (v := 1) dL_adds_410 (by decide) ?_
              refine g_goto C (tgt := 415) dL_adds_411 (by decide) ?_
              refine g_sub (lv' := [(0, va_rf x0), (4, .int v6), (5, .int v9), (6, .int v11), (7, .int v14)]) [4, 3, 2, 1, 0] rfl ?_
              exact w_L_adds_J415 C hn hQ S20 x0 v6 v9 v11 v14 (1 : Int32) h
            · refine g_sub (lv' := [(0, va_rf x0), (4, .int v6), (5, .int v9), (6, .int v11), (7, .int v14)]) [4, 3, 2, 1, 0] rfl ?_
              exact w_L_adds_J414 C hn hQ S20 x0 v6 v9 v11 v14 h
          · refine g_sub (lv' := [(0, va_rf x0), (4, .int v6), (5, .int v9), (6, .int v11), (7, .int v14)]) [4, 3, 2, 1, 0] rfl ?_
            exact w_L_adds_J414 C hn hQ S18 x0 v6 v9 v11 v14 h
        · refine g_sub (lv' := [(0, va_rf x0), (4, .int v6), (5, .int v9), (6, .int v11), (7, .int v14)]) [4, 3, 2, 1, 0] rfl ?_
          exact w_L_adds_J414 C hn hQ S17 x0 v6 v9 v11 v14 h

abbrev rm_L_guests : Room := { frames := 6, cells := 0, slots := 0, locals := 140 }
theorem dsL_guests : yL_guests.cls ≠ "java/lang/invoke/MethodHandle" ∧ yL_guests.cls ≠ "java/lang/invoke/VarHandle" ∧ (parseMethodDescriptor yL_guests.desc).map (fun d => d.parameters.length) = some 4 := by decide +kernel
theorem gv_RL_X5_book : GoodIn wsL_law (wsV RL 110 RX5 yX5_book (.code yX5_book cX5_book 5 (some .int) :: wsL_law)) := good_V q524 q255 q256 q2 q257
theorem gv_RL_X5_leave : GoodIn wsL_law (wsV RL 113 RX5 yX5_leave (.code yX5_leave cX5_leave 5 (some .int) :: wsL_law)) := good_V q525 q266 q267 q2 q268
def f_L_guests_J250 (S : Hp) (y0 : Option Nat) (y4 : Int32) (y5 : Int32) (y7 : Int32) (y8 : Int32) (y9 : Int32) (z0 : UInt64) : Option (Int32 × Hp) :=
 fpg (FP.ddiv (FP.i2d y8) (FP.i2d y7)) <|
 fpg (FP.dmul (FP.ddiv (FP.i2d y8) (FP.i2d y7)) (FP.i2d y5)) <|
 fpg (FP.dmul (FP.dmul (FP.ddiv (FP.i2d y8) (FP.i2d y7)) (FP.i2d y5)) z0) <|
 bnd ((FP.d2i (FP.dmul (FP.dmul (FP.ddiv (FP.i2d y8) (FP.i2d y7)) (FP.i2d y5)) z0))) fun v1 =>
 ob S 5 y0 fun b1 => cl (f_X5_leave S b1 y4 y5) fun v2 S1 =>
 if v2 = v1 then
 ob S1 5 y0 fun b2 => cl (f_X5_tour S1 b2 y4 (3 : Int32)) fun v3 S2 =>
 if v3 = (y7 - y5) then
 ob S2 5 y0 fun b3 => cl (f_X5_tour S2 b3 y4 (5 : Int32)) fun v4 S3 =>
 if v4 = (y8 - v1) then
 ob S3 5 y0 fun b4 => cl (f_X5_count S3 b4 (9 : Int32)) fun v5 S4 =>
 if v5 = (y9 + v1) then
 some ((1 : Int32), S4)
 else
 some ((0 : Int32), S4)
 else
 some ((0 : Int32), S3)
 else
 some ((0 : Int32), S2)
 else
 some ((0 : Int32), S1)

def f_L_guests_J179 (S : Hp) (y0 : Option Nat) (y4 : Int32) (y5 : Int32) : Option (Int32 × Hp) :=
 ob S 5 y0 fun b1 => cl (f_X5_leave S b1 y4 y5) fun v1 S1 =>
 if v1 = (-4) then
 some ((1 : Int32), S1)
 else
 some ((0 : Int32), S1)

def f_L_guests_J148 (S : Hp) (y0 : Option Nat) (y4 : Int32) : Option (Int32 × Hp) :=
 ob S 5 y0 fun b1 => cl (f_X5_book S b1 y4 (13 : Int32)) fun v1 S1 =>
 if v1 = (-2) then
 some ((1 : Int32), S1)
 else
 some ((0 : Int32), S1)

def f_L_guests_J98 (S : Hp) (y0 : Option Nat) (y4 : Int32) (y5 : Int32) (y7 : Int32) (y8 : Int32) (z0 : Int32) : Option (Int32 × Hp) :=
 ob S 5 y0 fun b1 => cl (f_X5_book S b1 y4 y5) fun v1 S1 =>
 if v1 = z0 then
 if z0 < 0 then
 f_L_guests_J148 S1 y0 y4
 else
 ob S1 5 y0 fun b2 => cl (f_X5_tour S1 b2 y4 (3 : Int32)) fun v2 S2 =>
 if v2 = (y7 + y5) then
 ob S2 5 y0 fun b3 => cl (f_X5_tour S2 b3 y4 (5 : Int32)) fun v3 S3 =>
 if v3 = (y8 + z0) then
 f_L_guests_J148 S3 y0 y4
 else
 some ((0 : Int32), S3)
 else
 some ((0 : Int32), S2)
 else
 some ((0 : Int32), S1)
def f_L_guests (S : Hp) (x0 : Option Nat) (x1 : Int32) (x2 : Int32) (x3 : Int32) : Option (Int32 × Hp) :=
 ob S 5 x0 fun b1 => cl (f_X5_count S b1 (3 : Int32)) fun v1 S1 =>
 cl (f_L_low S1 x2 v1) fun v2 S2 =>
 cl (f_L_low S2 x3 (12 : Int32)) fun v3 S3 =>
 bnd ((1 + v3)) fun v4 =>
 ob S3 5 x0 fun b2 => cl (f_X5_tour S3 b2 v2 (6 : Int32)) fun v5 S4 =>
 ob S4 5 x0 fun b3 => cl (f_X5_tour S4 b3 v2 (3 : Int32)) fun v6 S5 =>
 ob S5 5 x0 fun b4 => cl (f_X5_tour S5 b4 v2 (5 : Int32)) fun v7 S6 =>
 ob S6 5 x0 fun b5 => cl (f_X5_count S6 b5 (9 : Int32)) fun v8 S7 =>
 if 7 ≤ x1 then
 if v5 = 0 then
 if v4 ≤ v6 then
 ob S7 5 x0 fun b6 => cl (f_X5_tour S7 b6 v2 (0 : Int32)) fun v9 S8 =>
 ob S8 5 x0 fun b7 => cl (f_X5_count S8 b7 (0 : Int32)) fun v10 S9 =>
 bnd ((v9 - v10)) fun v11 =>
 if v11 ≤ 13 then
 if v11 ≤ 6 then
 if v11 ≤ 2 then
 f_L_guests_J250 S9 x0 v2 v4 v6 v7 v8 FP.dconst0
 else
 f_L_guests_J250 S9 x0 v2 v4 v6 v7 v8 4602678819172646912
 else
 f_L_guests_J250 S9 x0 v2 v4 v6 v7 v8 4604930618986332160
 else
 f_L_guests_J250 S9 x0 v2 v4 v6 v7 v8 FP.dconst1
 else
 f_L_guests_J179 S7 x0 v2 v4
 else
 f_L_guests_J179 S7 x0 v2 v4
 else
 if v5 = 0 then
 if (v6 + v4) ≤ 12 then
 ob S7 5 x0 fun b8 => cl (f_X5_tour S7 b8 v2 (1 : Int32)) fun v12 S10 =>
 f_L_guests_J98 S10 x0 v2 v4 v6 v7 (v4 * v12)
 else
 f_L_guests_J98 S7 x0 v2 v4 v6 v7 (-3 : Int32)
 else
 f_L_guests_J98 S7 x0 v2 v4 v6 v7 (-4 : Int32)
set_option maxHeartbeats 4000000 in
set_option maxRecDepth 100000 in
theorem w_L_guests_J250 {X : Cx} (C : CxOK X cL_guests RL rm_L_guests) (hn : xn X = 14) {S0 : Hp} {o : Int32 × Hp} (hQ : QI X (some .boolean) S0 0 0 o)  (S : Hp) (y0 : Option Nat) (y4 : Int32) (y5 : Int32) (y7 : Int32) (y8 : Int32) (y9 : Int32) (z0 : UInt64) (h : f_L_guests_J250 S y0 y4 y5 y7 y8 y9 z0 = some o) : GW X 0 0 S 250 [(0, va_rf y0), (4, .int y4), (5, .int y5), (7, .int y7), (8, .int y8), (9, .int y9)] [.double z0] := by
  have hn12 : 12 < xn X := by rw [hn]; decide
  have hn13 : 13 < xn X := by rw [hn]; decide
  unfold f_L_guests_J250 at h
  refine g_dstore C (i := 11) (lv' := [(11, .double z0), (0, va_rf y0), (4, .int y4), (5, .int y5), (7, .int y7), (8, .int y8), (9, .int y9)]) dL_guests_250 hn12 rfl ?_
  refine g_iload C (q := 5) dL_guests_252 rfl ?_
  refine g_i2d C dL_guests_254 ?_
  refine g_iload C (q := 4) dL_guests_255 rfl ?_
  refine g_i2d C dL_guests_257 ?_
  refine g_ddiv C dL_guests_258 h (fun h => ?_)
  refine g_iload C (q := 3) dL_guests_259 rfl ?_
  refine g_i2d C dL_guests_261 ?_
  refine g_dmul C dL_guests_262 h (fun h => ?_)
  refine g_dload C (q := 0) dL_guests_263 rfl ?_
  refine g_dmul C dL_guests_265 h (fun h => ?_)
  refine g_d2i C dL_guests_266 ?_
  refine g_nmI h (fun v1 h => ?_)
  refine g_istore C (i := 13) (lv' := [(13, .int v1), (11, .double z0), (0, va_rf y0), (4, .int y4), (5, .int y5), (7, .int y7), (8, .int y8), (9, .int y9)]) dL_guests_267 hn13 rfl ?_
  refine g_aload_n C (q := 2) dL_guests_269 rfl rfl ?_
  refine g_iload C (q := 3) dL_guests_270 rfl ?_
  refine g_iload C (q := 4) dL_guests_272 rfl ?_
  refine g_callVI C (ci := 5) (As := [.int y4, .int y5]) (np := 2) (st := []) (r := y0) rfl (by decide) (fun b1 q hq => c_X5_leave S b1 y4 y5 q hq) gv_RL_X5_leave rfl rfl dsX5_leave rfl ⟨Nat.le_of_ble_eq_true rfl, Nat.le_of_ble_eq_true rfl⟩ rfl (cat_sum (Nat.le_of_ble_eq_true rfl)) ⟨Nat.zero_le _, Nat.zero_le _⟩ dL_guests_274 h (fun v2 S1 h => ?_)
  refine g_iload C (q := 0) dL_guests_277 rfl ?_
  refine g_icmp_ne C (tgt := 330) dL_guests_279 (by decide) h (fun h => ?_) (fun h => ?_)
  · refine g_aload_n C (q := 2) dL_guests_282 rfl rfl ?_
    refine g_iload C (q := 3) dL_guests_283 rfl ?_
    refine g_iconst C (v := 3) dL_guests_285 (by decide) ?_
    refine g_callVI C (ci := 5) (As := [.int y4, .int 3]) (np := 2) (st := []) (r := y0) rfl (by decide) (fun b2 q hq => c_X5_tour S1 b2 y4 (3 : Int32) q hq) gv_RL_X5_tour rfl rfl dsX5_tour rfl ⟨Nat.le_of_ble_eq_true rfl, Nat.le_of_ble_eq_true rfl⟩ rfl (cat_sum (Nat.le_of_ble_eq_true rfl)) ⟨Nat.zero_le _, Nat.zero_le _⟩ dL_guests_286 h (fun v3 S2 h => ?_)
    refine g_iload C (q := 5) dL_guests_289 rfl ?_
    refine g_iload C (q := 4) dL_guests_291 rfl ?_
    refine g_isub C dL_guests_293 ?_
    refine g_icmp_ne C (tgt := 330) dL_guests_294 (by decide) h (fun h => ?_) (fun h => ?_)
    · refine g_aload_n C (q := 2) dL_guests_297 rfl rfl ?_
      refine g_iload C (q := 3) dL_guests_298 rfl ?_
      refine g_iconst C (v := 5) dL_guests_300 (by decide) ?_
      refine g_callVI C (ci := 5) (As := [.int y4, .int 5]) (np := 2) (st := []) (r := y0) rfl (by decide) (fun b3 q hq => c_X5_tour S2 b3 y4 (5 : Int32) q hq) gv_RL_X5_tour rfl rfl dsX5_tour rfl ⟨Nat.le_of_ble_eq_true rfl, Nat.le_of_ble_eq_true rfl⟩ rfl (cat_sum (Nat.le_of_ble_eq_true rfl)) ⟨Nat.zero_le _, Nat.zero_le _⟩ dL_guests_301 h (fun v4 S3 h => ?_)
      refine g_iload C (q := 6) dL_guests_304 rfl ?_
      refine g_iload C (q := 0) dL_guests_306 rfl ?_
      refine g_isub C dL_guests_308 ?_
      refine g_icmp_ne C (tgt := 330) dL_guests_309 (by decide) h (fun h => ?_) (fun h => ?_)
      · refine g_aload_n C (q := 2) dL_guests_312 rfl rfl ?_
        refine g_bipush C (v := 9) dL_guests_313 (by decide) ?_
        refine g_callVI C (ci := 5) (As := [.int 9]) (np := 1) (st := []) (r := y0) rfl (by decide) (fun b4 q hq => c_X5_count S3 b4 (9 : Int32) q hq) gv_RL_X5_count rfl rfl dsX5_count rfl ⟨Nat.le_of_ble_eq_true rfl, Nat.le_of_ble_eq_true rfl⟩ rfl (cat_sum (Nat.le_of_ble_eq_true rfl)) ⟨Nat.zero_le _, Nat.zero_le _⟩ dL_guests_315 h (fun v5 S4 h => ?_)
        refine g_iload C (q := 7) dL_guests_318 rfl ?_
        refine g_iload C (q := 0) dL_guests_320 rfl ?_
        refine g_iadd C dL_guests_322 ?_
        refine g_icmp_ne C (tgt := 330) dL_guests_323 (by decide) h (fun h => ?_) (fun h => ?_)
        · refine g_iconst C (v := 1) dL_guests_326 (by decide) ?_
          refine g_goto C (tgt := 331) dL_guests_327 (by decide) ?_
          exact g_zret C hQ (by decide) dL_guests_331 h
        · refine g_iconst C (v := 0) dL_guests_330 (by decide) ?_
          exact g_zret C hQ (by decide) dL_guests_331 h
      · refine g_iconst C (v := 0) dL_guests_330 (by decide) ?_
        exact g_zret C hQ (by decide) dL_guests_331 h
    · refine g_iconst C (v := 0) dL_guests_330 (by decide) ?_
      exact g_zret C hQ (by decide) dL_guests_331 h
  · refine g_iconst C (v := 0) dL_guests_330 (by decide) ?_
    exact g_zret C hQ (by decide) dL_guests_331 h

set_option maxHeartbeats 4000000 in
set_option maxRecDepth 100000 in
theorem w_L_guests_J179 {X : Cx} (C : CxOK X cL_guests RL rm_L_guests) (hn : xn X = 14) {S0 : Hp} {o : Int32 × Hp} (hQ : QI X (some .boolean) S0 0 0 o)  (S : Hp) (y0 : Option Nat) (y4 : Int32) (y5 : Int32) (h : f_L_guests_J179 S y0 y4 y5 = some o) : GW X 0 0 S 179 [(0, va_rf y0), (4, .int y4), (5, .int y5)] [] := by
  unfold f_L_guests_J179 at h
  refine g_aload_n C (q := 0) dL_guests_179 rfl rfl ?_
  refine g_iload C (q := 1) dL_guests_180 rfl ?_
  refine g_iload C (q := 2) dL_guests_182 rfl ?_
  refine g_callVI C (ci := 5) (As := [.int y4, .int y5]) (np := 2) (st := []) (r := y0) rfl (by decide) (fun b1 q hq => c_X5_leave S b1 y4 y5 q hq) gv_RL_X5_leave rfl rfl dsX5_leave rfl ⟨Nat.le_of_ble_eq_true rfl, Nat.le_of_ble_eq_true rfl⟩ rfl (cat_sum (Nat.le_of_ble_eq_true rfl)) ⟨Nat.zero_le _, Nat.zero_le _⟩ dL_guests_184 h (fun v1 S1 h => ?_)
  refine g_bipush C (v := (-4)) dL_guests_187 (by decide) ?_
  refine g_icmp_ne C (tgt := 196) dL_guests_189 (by decide) h (fun h => ?_) (fun h => ?_)
  · refine g_iconst C (v := 1) dL_guests_192 (by decide) ?_
    refine g_goto C (tgt := 197) dL_guests_193 (by decide) ?_
    exact g_zret C hQ (by decide) dL_guests_197 h
  · refine g_iconst C (v := 0) dL_guests_196 (by decide) ?_
    exact g_zret C hQ (by decide) dL_guests_197 h

set_option maxHeartbeats 4000000 in
set_option maxRecDepth 100000 in
theorem w_L_guests_J148 {X : Cx} (C : CxOK X cL_guests RL rm_L_guests) (hn : xn X = 14) {S0 : Hp} {o : Int32 × Hp} (hQ : QI X (some .boolean) S0 0 0 o)  (S : Hp) (y0 : Option Nat) (y4 : Int32) (h : f_L_guests_J148 S y0 y4 = some o) : GW X 0 0 S 148 [(0, va_rf y0), (4, .int y4)] [] := by
  unfold f_L_guests_J148 at h
  refine g_aload_n C (q := 0) dL_guests_148 rfl rfl ?_
  refine g_iload C (q := 1) dL_guests_149 rfl ?_
  refine g_bipush C (v := 13) dL_guests_151 (by decide) ?_
  refine g_callVI C (ci := 5) (As := [.int y4, .int 13]) (np := 2) (st := []) (r := y0) rfl (by decide) (fun b1 q hq => c_X5_book S b1 y4 (13 : Int32) q hq) gv_RL_X5_book rfl rfl dsX5_book rfl ⟨Nat.le_of_ble_eq_true rfl, Nat.le_of_ble_eq_true rfl⟩ rfl (cat_sum (Nat.le_of_ble_eq_true rfl)) ⟨Nat.zero_le _, Nat.zero_le _⟩ dL_guests_153 h (fun v1 S1 h => ?_)
  refine g_bipush C (v := (-2)) dL_guests_156 (by decide) ?_
  refine g_icmp_ne C (tgt := 165) dL_guests_158 (by decide) h (fun h => ?_) (fun h => ?_)
  · refine g_iconst C (v := 1) dL_guests_161 (by decide) ?_
    refine g_goto C (tgt := 166) dL_guests_162 (by decide) ?_
    exact g_zret C hQ (by decide) dL_guests_166 h
  · refine g_iconst C (v := 0) dL_guests_165 (by decide) ?_
    exact g_zret C hQ (by decide) dL_guests_166 h

set_option maxHeartbeats 4000000 in
set_option maxRecDepth 100000 in
theorem w_L_guests_J98 {X : Cx} (C : CxOK X cL_guests RL rm_L_guests) (hn : xn X = 14) {S0 : Hp} {o : Int32 × Hp} (hQ : QI X (some .boolean) S0 0 0 o)  (S : Hp) (y0 : Option Nat) (y4 : Int32) (y5 : Int32) (y7 : Int32) (y8 : Int32) (z0 : Int32) (h : f_L_guests_J98 S y0 y4 y5 y7 y8 z0 = some o) : GW X 0 0 S 98 [(0, va_rf y0), (4, .int y4), (5, .int y5), (7, .int y7), (8, .int y8)] [.int z0] := by
  have hn10 : 10 < xn X := by rw [hn]; decide
  unfold f_L_guests_J98 at h
  refine g_istore C (i := 10) (lv' := [(10, .int z0), (0, va_rf y0), (4, .int y4), (5, .int y5), (7, .int y7), (8, .int y8)]) dL_guests_98 hn10 rfl ?_
  refine g_aload_n C (q := 1) dL_guests_100 rfl rfl ?_
  refine g_iload C (q := 2) dL_guests_101 rfl ?_
  refine g_iload C (q := 3) dL_guests_103 rfl ?_
  refine g_callVI C (ci := 5) (As := [.int y4, .int y5]) (np := 2) (st := []) (r := y0) rfl (by decide) (fun b1 q hq => c_X5_book S b1 y4 y5 q hq) gv_RL_X5_book rfl rfl dsX5_book rfl ⟨Nat.le_of_ble_eq_true rfl, Nat.le_of_ble_eq_true rfl⟩ rfl (cat_sum (Nat.le_of_ble_eq_true rfl)) ⟨Nat.zero_le _, Nat.zero_le _⟩ dL_guests_105 h (fun v1 S1 h => ?_)
  refine g_iload C (q := 0) dL_guests_108 rfl ?_
  refine g_icmp_ne C (tgt := 165) dL_guests_110 (by decide) h (fun h => ?_) (fun h => ?_)
  · refine g_iload C (q := 0) dL_guests_113 rfl ?_
    refine g_if_lt C (tgt := 148) dL_guests_115 (by decide) h (fun h => ?_) (fun h => ?_)
    · refine g_sub (lv' := [(0, va_rf y0), (4, .int y4)]) [1, 2] rfl ?_
      exact w_L_guests_J148 C hn hQ S1 y0 y4 h
    · refine g_aload_n C (q := 1) dL_guests_118 rfl rfl ?_
      refine g_iload C (q := 2) dL_guests_119 rfl ?_
      refine g_iconst C (v := 3) dL_guests_121 (by decide) ?_
      refine g_callVI C (ci := 5) (As := [.int y4, .int 3]) (np := 2) (st := []) (r := y0) rfl (by decide) (fun b2 q hq => c_X5_tour S1 b2 y4 (3 : Int32) q hq) gv_RL_X5_tour rfl rfl dsX5_tour rfl ⟨Nat.le_of_ble_eq_true rfl, Nat.le_of_ble_eq_true rfl⟩ rfl (cat_sum (Nat.le_of_ble_eq_true rfl)) ⟨Nat.zero_le _, Nat.zero_le _⟩ dL_guests_122 h (fun v2 S2 h => ?_)
      refine g_iload C (q := 4) dL_guests_125 rfl ?_
      refine g_iload C (q := 3) dL_guests_127 rfl ?_
      refine g_iadd C dL_guests_129 ?_
      refine g_icmp_ne C (tgt := 165) dL_guests_130 (by decide) h (fun h => ?_) (fun h => ?_)
      · refine g_aload_n C (q := 1) dL_guests_133 rfl rfl ?_
        refine g_iload C (q := 2) dL_guests_134 rfl ?_
        refine g_iconst C (v := 5) dL_guests_136 (by decide) ?_
        refine g_callVI C (ci := 5) (As := [.int y4, .int 5]) (np := 2) (st := []) (r := y0) rfl (by decide) (fun b3 q hq => c_X5_tour S2 b3 y4 (5 : Int32) q hq) gv_RL_X5_tour rfl rfl dsX5_tour rfl ⟨Nat.le_of_ble_eq_true rfl, Nat.le_of_ble_eq_true rfl⟩ rfl (cat_sum (Nat.le_of_ble_eq_true rfl)) ⟨Nat.zero_le _, Nat.zero_le _⟩ dL_guests_137 h (fun v3 S3 h => ?_)
        refine g_iload C (q := 5) dL_guests_140 rfl ?_
        refine g_iload C (q := 0) dL_guests_142 rfl ?_
        refine g_iadd C dL_guests_144 ?_
        refine g_icmp_ne C (tgt := 165) dL_guests_145 (by decide) h (fun h => ?_) (fun h => ?_)
        · refine g_sub (lv' := [(0, va_rf y0), (4, .int y4)]) [1, 2] rfl ?_
          exact w_L_guests_J148 C hn hQ S3 y0 y4 h
        · refine g_iconst C (v := 0) dL_guests_165 (by decide) ?_
          exact g_zret C hQ (by decide) dL_guests_166 h
      · refine g_iconst C (v := 0) dL_guests_165 (by decide) ?_
        exact g_zret C hQ (by decide) dL_guests_166 h
  · refine g_iconst C (v := 0) dL_guests_165 (by decide) ?_
    exact g_zret C hQ (by decide) dL_guests_166 h
set_option maxHeartbeats 4000000 in
set_option maxRecDepth 100000 in
theorem c_L_guests (S : Hp) (x0 : Option Nat) (x1 : Int32) (x2 : Int32) (x3 : Int32) (o : Int32 × Hp) (h : f_L_guests S x0 x1 x2 x3 = some o) : CtI yL_guests cL_guests 14 (some .boolean) rm_L_guests 0 0 [va_rf x0, .int x1, .int x2, .int x3] S o := by
  refine ct_I (own := RL) (by decide) rfl (by simp [lg_sl, va_rf_cat, catI, catJ, catD]) (fun X C hn hQ => ?_)
  have hn4 : 4 < xn X := by rw [hn]; decide
  have hn5 : 5 < xn X := by rw [hn]; decide
  have hn6 : 6 < xn X := by rw [hn]; decide
  have hn7 : 7 < xn X := by rw [hn]; decide
  have hn8 : 8 < xn X := by rw [hn]; decide
  have hn9 : 9 < xn X := by rw [hn]; decide
  have hn10 : 10 < xn X := by rw [hn]; decide
  unfold f_L_guests at h
  rw [show lv_args 0 [va_rf x0, .int x1, .int x2, .int x3] = [(0, va_rf x0), (1, .int x1), (2, .int x2), (3, .int x3)] by simp [lv_args, va_rf_cat, catI, catJ, catD]]
  refine g_iload_n C (q := 2) dL_guests_0 rfl rfl ?_
  refine g_aload_n C (q := 0) dL_guests_1 rfl rfl ?_
  refine g_iconst C (v := 3) dL_guests_2 (by decide) ?_
  refine g_callVI C (ci := 5) (As := [.int 3]) (np := 1) (st := [.int x2]) (r := x0) rfl (by decide) (fun b1 q hq => c_X5_count S b1 (3 : Int32) q hq) gv_RL_X5_count rfl rfl dsX5_count rfl ⟨Nat.le_of_ble_eq_true rfl, Nat.le_of_ble_eq_true rfl⟩ rfl (cat_sum (Nat.le_of_ble_eq_true rfl)) ⟨Nat.zero_le _, Nat.zero_le _⟩ dL_guests_3 h (fun v1 S1 h => ?_)
  refine g_callSI C (As := [.int x2, .int v1]) (np := 2) (st := []) (fun q hq => c_L_low S1 x2 v1 q hq) gs_RL_L_low rfl rfl dsL_low rfl ⟨Nat.le_of_ble_eq_true rfl, Nat.le_of_ble_eq_true rfl⟩ rfl (cat_sum (Nat.le_of_ble_eq_true rfl)) ⟨Nat.zero_le _, Nat.zero_le _⟩ dL_guests_6 h (fun v2 S2 h => ?_)
  refine g_istore C (i := 4) (lv' := [(4, .int v2), (0, va_rf x0), (1, .int x1), (2, .int x2), (3, .int x3)]) dL_guests_9 hn4 rfl ?_
  refine g_iconst C (v := 1) dL_guests_11 (by decide) ?_
  refine g_iload_n C (q := 4) dL_guests_12 rfl rfl ?_
  refine g_bipush C (v := 12) dL_guests_13 (by decide) ?_
  refine g_callSI C (As := [.int x3, .int 12]) (np := 2) (st := [.int 1]) (fun q hq => c_L_low S2 x3 (12 : Int32) q hq) gs_RL_L_low rfl rfl dsL_low rfl ⟨Nat.le_of_ble_eq_true rfl, Nat.le_of_ble_eq_true rfl⟩ rfl (cat_sum (Nat.le_of_ble_eq_true rfl)) ⟨Nat.zero_le _, Nat.zero_le _⟩ dL_guests_15 h (fun v3 S3 h => ?_)
  refine g_iadd C dL_guests_18 ?_
  refine g_nmI h (fun v4 h => ?_)
  refine g_istore C (i := 5) (lv' := [(5, .int v4), (4, .int v2), (0, va_rf x0), (1, .int x1), (2, .int x2), (3, .int x3)]) dL_guests_19 hn5 rfl ?_
  refine g_aload_n C (q := 2) dL_guests_21 rfl rfl ?_
  refine g_iload C (q := 1) dL_guests_22 rfl ?_
  refine g_bipush C (v := 6) dL_guests_24 (by decide) ?_
  refine g_callVI C (ci := 5) (As := [.int v2, .int 6]) (np := 2) (st := []) (r := x0) rfl (by decide) (fun b2 q hq => c_X5_tour S3 b2 v2 (6 : Int32) q hq) gv_RL_X5_tour rfl rfl dsX5_tour rfl ⟨Nat.le_of_ble_eq_true rfl, Nat.le_of_ble_eq_true rfl⟩ rfl (cat_sum (Nat.le_of_ble_eq_true rfl)) ⟨Nat.zero_le _, Nat.zero_le _⟩ dL_guests_26 h (fun v5 S4 h => ?_)
  refine g_istore C (i := 6) (lv' := [(6, .int v5), (5, .int v4), (4, .int v2), (0, va_rf x0), (1, .int x1), (2, .int x2), (3, .int x3)]) dL_guests_29 hn6 rfl ?_
  refine g_aload_n C (q := 3) dL_guests_31 rfl rfl ?_
  refine g_iload C (q := 2) dL_guests_32 rfl ?_
  refine g_iconst C (v := 3) dL_guests_34 (by decide) ?_
  refine g_callVI C (ci := 5) (As := [.int v2, .int 3]) (np := 2) (st := []) (r := x0) rfl (by decide) (fun b3 q hq => c_X5_tour S4 b3 v2 (3 : Int32) q hq) gv_RL_X5_tour rfl rfl dsX5_tour rfl ⟨Nat.le_of_ble_eq_true rfl, Nat.le_of_ble_eq_true rfl⟩ rfl (cat_sum (Nat.le_of_ble_eq_true rfl)) ⟨Nat.zero_le _, Nat.zero_le _⟩ dL_guests_35 h (fun v6 S5 h => ?_)
  refine g_istore C (i := 7) (lv' := [(7, .int v6), (6, .int v5), (5, .int v4), (4, .int v2), (0, va_rf x0), (1, .int x1), (2, .int x2), (3, .int x3)]) dL_guests_38 hn7 rfl ?_
  refine g_aload_n C (q := 4) dL_guests_40 rfl rfl ?_
  refine g_iload C (q := 3) dL_guests_41 rfl ?_
  refine g_iconst C (v := 5) dL_guests_43 (by decide) ?_
  refine g_callVI C (ci := 5) (As := [.int v2, .int 5]) (np := 2) (st := []) (r := x0) rfl (by decide) (fun b4 q hq => c_X5_tour S5 b4 v2 (5 : Int32) q hq) gv_RL_X5_tour rfl rfl dsX5_tour rfl ⟨Nat.le_of_ble_eq_true rfl, Nat.le_of_ble_eq_true rfl⟩ rfl (cat_sum (Nat.le_of_ble_eq_true rfl)) ⟨Nat.zero_le _, Nat.zero_le _⟩ dL_guests_44 h (fun v7 S6 h => ?_)
  refine g_istore C (i := 8) (lv' := [(8, .int v7), (7, .int v6), (6, .int v5), (5, .int v4), (4, .int v2), (0, va_rf x0), (1, .int x1), (2, .int x2), (3, .int x3)]) dL_guests_47 hn8 rfl ?_
  refine g_aload_n C (q := 5) dL_guests_49 rfl rfl ?_
  refine g_bipush C (v := 9) dL_guests_50 (by decide) ?_
  refine g_callVI C (ci := 5) (As := [.int 9]) (np := 1) (st := []) (r := x0) rfl (by decide) (fun b5 q hq => c_X5_count S6 b5 (9 : Int32) q hq) gv_RL_X5_count rfl rfl dsX5_count rfl ⟨Nat.le_of_ble_eq_true rfl, Nat.le_of_ble_eq_true rfl⟩ rfl (cat_sum (Nat.le_of_ble_eq_true rfl)) ⟨Nat.zero_le _, Nat.zero_le _⟩ dL_guests_52 h (fun v8 S7 h => ?_)
  refine g_istore C (i := 9) (lv' := [(9, .int v8), (8, .int v7), (7, .int v6), (6, .int v5), (5, .int v4), (4, .int v2), (0, va_rf x0), (1, .int x1), (2, .int x2), (3, .int x3)]) dL_guests_55 hn9 rfl ?_
  refine g_iload_n C (q := 7) dL_guests_57 rfl rfl ?_
  refine g_bipush C (v := 7) dL_guests_58 (by decide) ?_
  refine g_icmp_ge C (tgt := 167) dL_guests_60 (by decide) h (fun h => ?_) (fun h => ?_)
  · refine g_iload C (q := 3) dL_guests_167 rfl ?_
    refine g_if_ne C (tgt := 179) dL_guests_169 (by decide) h (fun h => ?_) (fun h => ?_)
    · refine g_iload C (q := 4) dL_guests_172 rfl ?_
      refine g_iload C (q := 2) dL_guests_174 rfl ?_
      refine g_icmp_le C (tgt := 198) dL_guests_176 (by decide) h (fun h => ?_) (fun h => ?_)
      · refine g_aload_n C (q := 6) dL_guests_198 rfl rfl ?_
        refine g_iload C (q := 5) dL_guests_199 rfl ?_
        refine g_iconst C (v := 0) dL_guests_201 (by decide) ?_
        refine g_callVI C (ci := 5) (As := [.int v2, .int 0]) (np := 2) (st := []) (r := x0) rfl (by decide) (fun b6 q hq => c_X5_tour S7 b6 v2 (0 : Int32) q hq) gv_RL_X5_tour rfl rfl dsX5_tour rfl ⟨Nat.le_of_ble_eq_true rfl, Nat.le_of_ble_eq_true rfl⟩ rfl (cat_sum (Nat.le_of_ble_eq_true rfl)) ⟨Nat.zero_le _, Nat.zero_le _⟩ dL_guests_202 h (fun v9 S8 h => ?_)
        refine g_aload_n C (q := 6) dL_guests_205 rfl rfl ?_
        refine g_iconst C (v := 0) dL_guests_206 (by decide) ?_
        refine g_callVI C (ci := 5) (As := [.int 0]) (np := 1) (st := [.int v9]) (r := x0) rfl (by decide) (fun b7 q hq => c_X5_count S8 b7 (0 : Int32) q hq) gv_RL_X5_count rfl rfl dsX5_count rfl ⟨Nat.le_of_ble_eq_true rfl, Nat.le_of_ble_eq_true rfl⟩ rfl (cat_sum (Nat.le_of_ble_eq_true rfl)) ⟨Nat.zero_le _, Nat.zero_le _⟩ dL_guests_207 h (fun v10 S9 h => ?_)
        refine g_isub C dL_guests_210 ?_
        refine g_nmI h (fun v11 h => ?_)
        refine g_istore C (i := 10) (lv' := [(10, .int v11), (9, .int v8), (8, .int v7), (7, .int v6), (6, .int v5), (5, .int v4), (4, .int v2), (0, va_rf x0), (1, .int x1), (2, .int x2), (3, .int x3)]) dL_guests_211 hn10 rfl ?_
        refine g_iload C (q := 0) dL_guests_213 rfl ?_
        refine g_bipush C (v := 13) dL_guests_215 (by decide) ?_
        refine g_icmp_le C (tgt := 224) dL_guests_217 (by decide) h (fun h => ?_) (fun h => ?_)
        · refine g_iload C (q := 0) dL_guests_224 rfl ?_
          refine g_bipush C (v := 6) dL_guests_226 (by decide) ?_
          refine g_icmp_le C (tgt := 237) dL_guests_228 (by decide) h (fun h => ?_) (fun h => ?_)
          · refine g_iload C (q := 0) dL_guests_237 rfl ?_
            refine g_iconst C (v := 2) dL_guests_239 (by decide) ?_
            refine g_icmp_le C (tgt := 249) dL_guests_240 (by decide) h (fun h => ?_) (fun h => ?_)
            · refine g_dconst0 C dL_guests_249 ?_
              refine g_sub (lv' := [(0, va_rf x0), (4, .int v2), (5, .int v4), (7, .int v6), (8, .int v7), (9, .int v8)]) [7, 6, 5, 3, 2, 1] rfl ?_
              exact w_L_guests_J250 C hn hQ S9 x0 v2 v4 v6 v7 v8 FP.dconst0 h
            · refine g_ldc2d C q523 dL_guests_243 ?_
              refine g_goto C (tgt := 250) dL_guests_246 (by decide) ?_
              refine g_sub (lv' := [(0, va_rf x0), (4, .int v2), (5, .int v4), (7, .int v6), (8, .int v7), (9, .int v8)]) [7, 6, 5, 3, 2, 1] rfl ?_
              exact w_L_guests_J250 C hn hQ S9 x0 v2 v4 v6 v7 v8 4602678819172646912 h
          · refine g_ldc2d C q522 dL_guests_231 ?_
            refine g_goto C (tgt := 250) dL_guests_234 (by decide) ?_
            refine g_sub (lv' := [(0, va_rf x0), (4, .int v2), (5, .int v4), (7, .int v6), (8, .int v7), (9, .int v8)]) [7, 6, 5, 3, 2, 1] rfl ?_
            exact w_L_guests_J250 C hn hQ S9 x0 v2 v4 v6 v7 v8 4604930618986332160 h
        · refine g_dconst1 C dL_guests_220 ?_
          refine g_goto C (tgt := 250) dL_guests_221 (by decide) ?_
          refine g_sub (lv' := [(0, va_rf x0), (4, .int v2), (5, .int v4), (7, .int v6), (8, .int v7), (9, .int v8)]) [7, 6, 5, 3, 2, 1] rfl ?_
          exact w_L_guests_J250 C hn hQ S9 x0 v2 v4 v6 v7 v8 FP.dconst1 h
      · refine g_sub (lv' := [(0, va_rf x0), (4, .int v2), (5, .int v4)]) [6, 5, 4] rfl ?_
        exact w_L_guests_J179 C hn hQ S7 x0 v2 v4 h
    · refine g_sub (lv' := [(0, va_rf x0), (4, .int v2), (5, .int v4)]) [6, 5, 4] rfl ?_
      exact w_L_guests_J179 C hn hQ S7 x0 v2 v4 h
  · refine g_iload C (q := 3) dL_guests_63 rfl ?_
    refine g_if_eq C (tgt := 73) dL_guests_65 (by decide) h (fun h => ?_) (fun h => ?_)
    · refine g_iload C (q := 2) dL_guests_73 rfl ?_
      refine g_iload C (q := 4) dL_guests_75 rfl ?_
      refine g_iadd C dL_guests_77 ?_
      refine g_bipush C (v := 12) dL_guests_78 (by decide) ?_
      refine g_icmp_le C (tgt := 88) dL_guests_80 (by decide) h (fun h => ?_) (fun h => ?_)
      · refine g_iload C (q := 4) dL_guests_88 rfl ?_
        refine g_aload_n C (q := 6) dL_guests_90 rfl rfl ?_
        refine g_iload C (q := 5) dL_guests_91 rfl ?_
        refine g_iconst C (v := 1) dL_guests_93 (by decide) ?_
        refine g_callVI C (ci := 5) (As := [.int v2, .int 1]) (np := 2) (st := [.int v4]) (r := x0) rfl (by decide) (fun b8 q hq => c_X5_tour S7 b8 v2 (1 : Int32) q hq) gv_RL_X5_tour rfl rfl dsX5_tour rfl ⟨Nat.le_of_ble_eq_true rfl, Nat.le_of_ble_eq_true rfl⟩ rfl (cat_sum (Nat.le_of_ble_eq_true rfl)) ⟨Nat.zero_le _, Nat.zero_le _⟩ dL_guests_94 h (fun v12 S10 h => ?_)
        refine g_imul C dL_guests_97 ?_
        refine g_sub (lv' := [(0, va_rf x0), (4, .int v2), (5, .int v4), (7, .int v6), (8, .int v7)]) [6, 5, 4, 2, 1] rfl ?_
        exact w_L_guests_J98 C hn hQ S10 x0 v2 v4 v6 v7 (v4 * v12) h
      · refine g_bipush C (v := (-3)) dL_guests_83 (by decide) ?_
        refine g_goto C (tgt := 98) dL_guests_85 (by decide) ?_
        refine g_sub (lv' := [(0, va_rf x0), (4, .int v2), (5, .int v4), (7, .int v6), (8, .int v7)]) [6, 5, 4, 2, 1] rfl ?_
        exact w_L_guests_J98 C hn hQ S7 x0 v2 v4 v6 v7 (-3 : Int32) h
    · refine g_bipush C (v := (-4)) dL_guests_68 (by decide) ?_
      refine g_goto C (tgt := 98) dL_guests_70 (by decide) ?_
      refine g_sub (lv' := [(0, va_rf x0), (4, .int v2), (5, .int v4), (7, .int v6), (8, .int v7)]) [6, 5, 4, 2, 1] rfl ?_
      exact w_L_guests_J98 C hn hQ S7 x0 v2 v4 v6 v7 (-4 : Int32) h

abbrev rm_L_rows : Room := { frames := 6, cells := 0, slots := 0, locals := 140 }
theorem dsL_rows : yL_rows.cls ≠ "java/lang/invoke/MethodHandle" ∧ yL_rows.cls ≠ "java/lang/invoke/VarHandle" ∧ (parseMethodDescriptor yL_rows.desc).map (fun d => d.parameters.length) = some 4 := by decide +kernel
theorem gv_RL_X5_bestGuide : GoodIn wsL_law (wsV RL 123 RX5 yX5_bestGuide (.code yX5_bestGuide cX5_bestGuide 6 (some .int) :: wsL_law)) := good_V q339 q340 q341 q2 q342
theorem gv_RL_X5_lead : GoodIn wsL_law (wsV RL 120 RX5 yX5_lead (.code yX5_lead cX5_lead 4 (some .int) :: wsL_law)) := good_V q529 q300 q301 q2 q302
theorem gv_RL_X5_release : GoodIn wsL_law (wsV RL 126 RX5 yX5_release (.code yX5_release cX5_release 4 (some .int) :: wsL_law)) := good_V q530 q531 q532 q2 q533
def f_L_rows_J405 (kout : Hp → Option Nat → Int32 → Int32 → Int32 → Int32 → Int32 → Int32 → Option (Int32 × Hp)) (S : Hp) (y0 : Option Nat) (y4 : Int32) (y5 : Int32) (y7 : Int32) (y8 : Int32) (y10 : Int32) (z0 : Int32) : Option (Int32 × Hp) :=
 bnd (y10 + 1) fun v1 =>
 kout S y0 y4 y5 y7 y8 z0 v1

def f_L_rows_L377_b (rec : Hp → Option Nat → Int32 → Int32 → Int32 → Int32 → Int32 → Int32 → Option (Int32 × Hp)) (S : Hp) (y0 : Option Nat) (y4 : Int32) (y5 : Int32) (y7 : Int32) (y8 : Int32) (y9 : Int32) (y10 : Int32) : Option (Int32 × Hp) :=
 if y7 ≤ y10 then
 ob S 5 y0 fun b1 => cl (f_X5_release S b1 y5 y4) fun v1 S1 =>
 if y8 = 0 then
 if v1 = (-4) then
 some ((1 : Int32), S1)
 else
 some ((0 : Int32), S1)
 else
 if 0 ≤ y9 then
 ob S1 5 y0 fun b2 => cl (f_X5_tour S1 b2 y4 (8 : Int32)) fun v2 S2 =>
 if v1 = v2 then
 ob S2 5 y0 fun b3 => cl (f_X5_tour S2 b3 y4 (4 : Int32)) fun v3 S3 =>
 if v3 = (y7 - 1) then
 some ((1 : Int32), S3)
 else
 some ((0 : Int32), S3)
 else
 some ((0 : Int32), S2)
 else
 if v1 = (-5) then
 some ((1 : Int32), S1)
 else
 some ((0 : Int32), S1)
 else
 ob S 5 y0 fun b4 => cl (f_X5_rope S b4 y4 y10 (0 : Int32)) fun v4 S4 =>
 if v4 = y5 then
 f_L_rows_J405 rec S4 y0 y4 y5 y7 y8 y10 y10
 else
 f_L_rows_J405 rec S4 y0 y4 y5 y7 y8 y10 y9
def f_L_rows_L377 : Nat → Hp → Option Nat → Int32 → Int32 → Int32 → Int32 → Int32 → Int32 → Option (Int32 × Hp)
  | 0 => fun _ _ _ _ _ _ _ _ => none
  | n + 1 => f_L_rows_L377_b (f_L_rows_L377 n)

def f_L_rows_J279 (S : Hp) (y0 : Option Nat) (y4 : Int32) (y5 : Int32) (y6 : Int32) (y7 : Int32) (y10 : Int32) : Option (Int32 × Hp) :=
 ob S 5 y0 fun b1 => cl (f_X5_lead S b1 y5 y4) fun v1 S1 =>
 if y10 = 0 then
 if v1 = (-4) then
 some ((1 : Int32), S1)
 else
 some ((0 : Int32), S1)
 else
 if y7 = 4 then
 if v1 = (-3) then
 if y6 = (-5) then
 some ((1 : Int32), S1)
 else
 some ((0 : Int32), S1)
 else
 some ((0 : Int32), S1)
 else
 ob S1 5 y0 fun b2 => cl (f_X5_rope S1 b2 y4 y7 (0 : Int32)) fun v2 S2 =>
 if v2 = y5 then
 ob S2 5 y0 fun b3 => cl (f_X5_rope S2 b3 y4 y7 (1 : Int32)) fun v3 S3 =>
 if v1 = v3 then
 some ((1 : Int32), S3)
 else
 some ((0 : Int32), S3)
 else
 some ((0 : Int32), S2)

def f_L_rows_J236 (S : Hp) (y0 : Option Nat) (y4 : Int32) (y5 : Int32) (y6 : Int32) (y7 : Int32) (z0 : Int32) : Option (Int32 × Hp) :=
 if y6 < 0 then
 f_L_rows_J279 S y0 y4 y5 y6 y7 z0
 else
 if z0 = 0 then
 f_L_rows_J279 S y0 y4 y5 y6 y7 z0
 else
 ob S 5 y0 fun b1 => cl (f_X5_guide S b1 y5 (0 : Int32)) fun v1 S1 =>
 ob S1 5 y0 fun b2 => cl (f_X5_guide S1 b2 y6 (0 : Int32)) fun v2 S2 =>
 if v1 ≤ v2 then
 f_L_rows_J279 S2 y0 y4 y5 y6 y7 z0
 else
 ob S2 5 y0 fun b3 => cl (f_X5_tour S2 b3 y4 (9 : Int32)) fun v3 S3 =>
 if v3 ≤ 1 then
 f_L_rows_J279 S3 y0 y4 y5 y6 y7 z0
 else
 some ((0 : Int32), S3)

def f_L_rows_J235 (S : Hp) (y0 : Option Nat) (y4 : Int32) (y5 : Int32) (y6 : Int32) (y7 : Int32) : Option (Int32 × Hp) :=
 f_L_rows_J236 S y0 y4 y5 y6 y7 (0 : Int32)

def f_L_rows_J198 (kout : Hp → Option Nat → Int32 → Int32 → Int32 → Int32 → Int32 → Int32 → Int32 → Option (Int32 × Hp)) (S : Hp) (y0 : Option Nat) (y4 : Int32) (y5 : Int32) (y6 : Int32) (y7 : Int32) (y8 : Int32) (y9 : Int32) (y10 : Int32) : Option (Int32 × Hp) :=
 bnd (y10 + 1) fun v1 =>
 kout S y0 y4 y5 y6 y7 y8 y9 v1

def f_L_rows_J189 (kout : Hp → Option Nat → Int32 → Int32 → Int32 → Int32 → Int32 → Int32 → Int32 → Int32 → Option (Int32 × Hp)) (S : Hp) (y0 : Option Nat) (y4 : Int32) (y5 : Int32) (y6 : Int32) (y7 : Int32) (y8 : Int32) (y10 : Int32) (y11 : Int32) (z0 : Int32) (z1 : Int32) : Option (Int32 × Hp) :=
 bnd ((z1 ||| z0)) fun v1 =>
 bnd (y11 + 1) fun v2 =>
 kout S y0 y4 y5 y6 y7 y8 v1 y10 v2

def f_L_rows_J188 (kout : Hp → Option Nat → Int32 → Int32 → Int32 → Int32 → Int32 → Int32 → Int32 → Int32 → Option (Int32 × Hp)) (S : Hp) (y0 : Option Nat) (y4 : Int32) (y5 : Int32) (y6 : Int32) (y7 : Int32) (y8 : Int32) (y10 : Int32) (y11 : Int32) (z0 : Int32) : Option (Int32 × Hp) :=
 f_L_rows_J189 kout S y0 y4 y5 y6 y7 y8 y10 y11 (0 : Int32) z0

def f_L_rows_L128_b (kout : Hp → Option Nat → Int32 → Int32 → Int32 → Int32 → Int32 → Int32 → Int32 → Option (Int32 × Hp)) (rec : Hp → Option Nat → Int32 → Int32 → Int32 → Int32 → Int32 → Int32 → Int32 → Int32 → Option (Int32 × Hp)) (S : Hp) (y0 : Option Nat) (y4 : Int32) (y5 : Int32) (y6 : Int32) (y7 : Int32) (y8 : Int32) (y9 : Int32) (y10 : Int32) (y11 : Int32) : Option (Int32 × Hp) :=
 ob S 5 y0 fun b1 => cl (f_X5_tour S b1 y10 (4 : Int32)) fun v1 S1 =>
 if v1 ≤ y11 then
 f_L_rows_J198 kout S1 y0 y4 y5 y6 y7 y8 y9 y10
 else
 ob S1 5 y0 fun b2 => cl (f_X5_tour S1 b2 y10 (6 : Int32)) fun v2 S2 =>
 if v2 = 0 then
 ob S2 5 y0 fun b3 => cl (f_X5_tour S2 b3 y10 (0 : Int32)) fun v3 S3 =>
 ob S3 5 y0 fun b4 => cl (f_X5_tour S3 b4 y4 (0 : Int32)) fun v4 S4 =>
 if v3 = v4 then
 ob S4 5 y0 fun b5 => cl (f_X5_rope S4 b5 y10 y11 (0 : Int32)) fun v5 S5 =>
 if v5 = y5 then
 f_L_rows_J189 rec S5 y0 y4 y5 y6 y7 y8 y10 y11 (1 : Int32) y9
 else
 f_L_rows_J188 rec S5 y0 y4 y5 y6 y7 y8 y10 y11 y9
 else
 f_L_rows_J188 rec S4 y0 y4 y5 y6 y7 y8 y10 y11 y9
 else
 f_L_rows_J198 kout S2 y0 y4 y5 y6 y7 y8 y9 y10
def f_L_rows_L128 (kout : Hp → Option Nat → Int32 → Int32 → Int32 → Int32 → Int32 → Int32 → Int32 → Option (Int32 × Hp)) : Nat → Hp → Option Nat → Int32 → Int32 → Int32 → Int32 → Int32 → Int32 → Int32 → Int32 → Option (Int32 × Hp)
  | 0 => fun _ _ _ _ _ _ _ _ _ _ => none
  | n + 1 => f_L_rows_L128_b kout (f_L_rows_L128 kout n)

def f_L_rows_L115_b (rec : Hp → Option Nat → Int32 → Int32 → Int32 → Int32 → Int32 → Int32 → Int32 → Option (Int32 × Hp)) (S : Hp) (y0 : Option Nat) (y4 : Int32) (y5 : Int32) (y6 : Int32) (y7 : Int32) (y8 : Int32) (y9 : Int32) (y10 : Int32) : Option (Int32 × Hp) :=
 ob S 5 y0 fun b1 => cl (f_X5_count S b1 (3 : Int32)) fun v1 S1 =>
 if v1 ≤ y10 then
 if y8 = 0 then
 f_L_rows_J235 S1 y0 y4 y5 y6 y7
 else
 if y9 = 0 then
 ob S1 5 y0 fun b2 => cl (f_X5_guide S1 b2 y5 (1 : Int32)) fun v2 S2 =>
 ob S2 5 y0 fun b3 => cl (f_X5_tour S2 b3 y4 (0 : Int32)) fun v3 S3 =>
 if v2 < v3 then
 f_L_rows_J235 S3 y0 y4 y5 y6 y7
 else
 f_L_rows_J236 S3 y0 y4 y5 y6 y7 (1 : Int32)
 else
 f_L_rows_J235 S1 y0 y4 y5 y6 y7
 else
 f_L_rows_L128 rec 1000 S1 y0 y4 y5 y6 y7 y8 y9 y10 (0 : Int32)
def f_L_rows_L115 : Nat → Hp → Option Nat → Int32 → Int32 → Int32 → Int32 → Int32 → Int32 → Int32 → Option (Int32 × Hp)
  | 0 => fun _ _ _ _ _ _ _ _ _ => none
  | n + 1 => f_L_rows_L115_b (f_L_rows_L115 n)

def f_L_rows_J101 (S : Hp) (y0 : Option Nat) (y1 : Int32) (y4 : Int32) (y5 : Int32) (y6 : Int32) (y7 : Int32) (z0 : Int32) : Option (Int32 × Hp) :=
 if 11 ≤ y1 then
 f_L_rows_L377 1000 S y0 y4 y5 y7 z0 (-1 : Int32) (0 : Int32)
 else
 f_L_rows_L115 1000 S y0 y4 y5 y6 y7 z0 (0 : Int32) (0 : Int32)

def f_L_rows_J74 (S : Hp) (y0 : Option Nat) (y1 : Int32) (y4 : Int32) (y6 : Int32) (z0 : Int32) : Option (Int32 × Hp) :=
 ob S 5 y0 fun b1 => cl (f_X5_tour S b1 y4 (4 : Int32)) fun v1 S1 =>
 ob S1 5 y0 fun b2 => cl (f_X5_tour S1 b2 y4 (6 : Int32)) fun v2 S2 =>
 if v2 = 0 then
 f_L_rows_J101 S2 y0 y1 y4 z0 y6 v1 (1 : Int32)
 else
 f_L_rows_J101 S2 y0 y1 y4 z0 y6 v1 (0 : Int32)

def f_L_rows_J72 (S : Hp) (y0 : Option Nat) (y1 : Int32) (y4 : Int32) (y5 : Int32) (y6 : Int32) : Option (Int32 × Hp) :=
 f_L_rows_J74 S y0 y1 y4 y6 y5
def f_L_rows (S : Hp) (x0 : Option Nat) (x1 : Int32) (x2 : Int32) (x3 : Int32) : Option (Int32 × Hp) :=
 ob S 5 x0 fun b1 => cl (f_X5_count S b1 (1 : Int32)) fun v1 S1 =>
 if v1 = 0 then
 ob S1 5 x0 fun b2 => cl (f_X5_lead S1 b2 (0 : Int32) (0 : Int32)) fun v2 S2 =>
 if v2 = (-1) then
 some ((1 : Int32), S2)
 else
 some ((0 : Int32), S2)
 else
 ob S1 5 x0 fun b3 => cl (f_X5_count S1 b3 (3 : Int32)) fun v3 S3 =>
 cl (f_L_low S3 x2 v3) fun v4 S4 =>
 ob S4 5 x0 fun b4 => cl (f_X5_count S4 b4 (1 : Int32)) fun v5 S5 =>
 cl (f_L_low S5 x3 v5) fun v6 S6 =>
 ob S6 5 x0 fun b5 => cl (f_X5_bestGuide S6 b5 v4) fun v7 S7 =>
 if (x3 &&& 256) = 0 then
 if v7 < 0 then
 f_L_rows_J72 S7 x0 x1 v4 v6 v7
 else
 f_L_rows_J74 S7 x0 x1 v4 v7 v7
 else
 f_L_rows_J72 S7 x0 x1 v4 v6 v7
set_option maxHeartbeats 4000000 in
set_option maxRecDepth 100000 in
theorem w_L_rows_J405 {X : Cx} (C : CxOK X cL_rows RL rm_L_rows) (hn : xn X = 12) {S0 : Hp} {o : Int32 × Hp} (hQ : QI X (some .boolean) S0 0 0 o) {kout : Hp → Option Nat → Int32 → Int32 → Int32 → Int32 → Int32 → Int32 → Option (Int32 × Hp)} (HK : ∀ (S : Hp) (y0 : Option Nat) (y4 : Int32) (y5 : Int32) (y7 : Int32) (y8 : Int32) (y9 : Int32) (y10 : Int32), kout S y0 y4 y5 y7 y8 y9 y10 = some o → GW X 0 0 S 377 [(0, va_rf y0), (4, .int y4), (5, .int y5), (7, .int y7), (8, .int y8), (9, .int y9), (10, .int y10)] [])  (S : Hp) (y0 : Option Nat) (y4 : Int32) (y5 : Int32) (y7 : Int32) (y8 : Int32) (y10 : Int32) (z0 : Int32) (h : f_L_rows_J405 kout S y0 y4 y5 y7 y8 y10 z0 = some o) : GW X 0 0 S 405 [(0, va_rf y0), (4, .int y4), (5, .int y5), (7, .int y7), (8, .int y8), (10, .int y10)] [.int z0] := by
  have hn9 : 9 < xn X := by rw [hn]; decide
  have hn10 : 10 < xn X := by rw [hn]; decide
  unfold f_L_rows_J405 at h
  refine g_istore C (i := 9) (lv' := [(9, .int z0), (0, va_rf y0), (4, .int y4), (5, .int y5), (7, .int y7), (8, .int y8), (10, .int y10)]) dL_rows_405 hn9 rfl ?_
  obtain ⟨v1, ev1, h⟩ := bnd_ex h
  refine g_iinc C (i := 10) (lv' := [(10, .int v1), (9, .int z0), (0, va_rf y0), (4, .int y4), (5, .int y5), (7, .int y7), (8, .int y8)]) (q := 6) v1 dL_rows_407 rfl ev1 hn10 rfl ?_
  refine g_goto C (tgt := 377) dL_rows_410 (by decide) ?_
  refine g_sub (lv' := [(0, va_rf y0), (4, .int y4), (5, .int y5), (7, .int y7), (8, .int y8), (9, .int z0), (10, .int v1)]) [2, 3, 4, 5, 6, 1, 0] rfl ?_
  exact HK S y0 y4 y5 y7 y8 z0 v1 h

set_option maxHeartbeats 4000000 in
set_option maxRecDepth 100000 in
theorem w_L_rows_L377 {X : Cx} (C : CxOK X cL_rows RL rm_L_rows) (hn : xn X = 12) {S0 : Hp} {o : Int32 × Hp} (hQ : QI X (some .boolean) S0 0 0 o) : ∀ (fuel : Nat) (S : Hp) (y0 : Option Nat) (y4 : Int32) (y5 : Int32) (y7 : Int32) (y8 : Int32) (y9 : Int32) (y10 : Int32), f_L_rows_L377 fuel S y0 y4 y5 y7 y8 y9 y10 = some o → GW X 0 0 S 377 [(0, va_rf y0), (4, .int y4), (5, .int y5), (7, .int y7), (8, .int y8), (9, .int y9), (10, .int y10)] [] := by
  have hn10 : 10 < xn X := by rw [hn]; decide
  intro fuel
  induction fuel with
  | zero => intro S y0 y4 y5 y7 y8 y9 y10 h; cases (show none = some o from h)
  | succ fuel ih =>
    intro S y0 y4 y5 y7 y8 y9 y10 h
    have h : f_L_rows_L377_b (f_L_rows_L377 fuel) S y0 y4 y5 y7 y8 y9 y10 = some o := h
    unfold f_L_rows_L377_b at h
    refine g_iload C (q := 6) dL_rows_377 rfl ?_
    refine g_iload C (q := 3) dL_rows_379 rfl ?_
    refine g_icmp_ge C (tgt := 413) dL_rows_381 (by decide) h (fun h => ?_) (fun h => ?_)
    · refine g_aload_n C (q := 0) dL_rows_413 rfl rfl ?_
      refine g_iload C (q := 2) dL_rows_414 rfl ?_
      refine g_iload C (q := 1) dL_rows_416 rfl ?_
      refine g_callVI C (ci := 5) (As := [.int y5, .int y4]) (np := 2) (st := []) (r := y0) rfl (by decide) (fun b1 q hq => c_X5_release S b1 y5 y4 q hq) gv_RL_X5_release rfl rfl dsX5_release rfl ⟨Nat.le_of_ble_eq_true rfl, Nat.le_of_ble_eq_true rfl⟩ rfl (cat_sum (Nat.le_of_ble_eq_true rfl)) ⟨Nat.zero_le _, Nat.zero_le _⟩ dL_rows_418 h (fun v1 S1 h => ?_)
      refine g_istore C (i := 10) (lv' := [(10, .int v1), (0, va_rf y0), (4, .int y4), (5, .int y5), (7, .int y7), (8, .int y8), (9, .int y9)]) dL_rows_421 hn10 rfl ?_
      refine g_iload C (q := 5) dL_rows_423 rfl ?_
      refine g_if_ne C (tgt := 443) dL_rows_425 (by decide) h (fun h => ?_) (fun h => ?_)
      · refine g_iload C (q := 0) dL_rows_428 rfl ?_
        refine g_bipush C (v := (-4)) dL_rows_430 (by decide) ?_
        refine g_icmp_ne C (tgt := 439) dL_rows_432 (by decide) h (fun h => ?_) (fun h => ?_)
        · refine g_iconst C (v := 1) dL_rows_435 (by decide) ?_
          refine g_goto C (tgt := 495) dL_rows_436 (by decide) ?_
          exact g_zret C hQ (by decide) dL_rows_495 h
        · refine g_iconst C (v := 0) dL_rows_439 (by decide) ?_
          refine g_goto C (tgt := 495) dL_rows_440 (by decide) ?_
          exact g_zret C hQ (by decide) dL_rows_495 h
      · refine g_iload C (q := 6) dL_rows_443 rfl ?_
        refine g_if_ge C (tgt := 463) dL_rows_445 (by decide) h (fun h => ?_) (fun h => ?_)
        · refine g_iload C (q := 0) dL_rows_463 rfl ?_
          refine g_aload_n C (q := 1) dL_rows_465 rfl rfl ?_
          refine g_iload C (q := 2) dL_rows_466 rfl ?_
          refine g_bipush C (v := 8) dL_rows_468 (by decide) ?_
          refine g_callVI C (ci := 5) (As := [.int y4, .int 8]) (np := 2) (st := [.int v1]) (r := y0) rfl (by decide) (fun b2 q hq => c_X5_tour S1 b2 y4 (8 : Int32) q hq) gv_RL_X5_tour rfl rfl dsX5_tour rfl ⟨Nat.le_of_ble_eq_true rfl, Nat.le_of_ble_eq_true rfl⟩ rfl (cat_sum (Nat.le_of_ble_eq_true rfl)) ⟨Nat.zero_le _, Nat.zero_le _⟩ dL_rows_470 h (fun v2 S2 h => ?_)
          refine g_icmp_ne C (tgt := 494) dL_rows_473 (by decide) h (fun h => ?_) (fun h => ?_)
          · refine g_aload_n C (q := 1) dL_rows_476 rfl rfl ?_
            refine g_iload C (q := 2) dL_rows_477 rfl ?_
            refine g_iconst C (v := 4) dL_rows_479 (by decide) ?_
            refine g_callVI C (ci := 5) (As := [.int y4, .int 4]) (np := 2) (st := []) (r := y0) rfl (by decide) (fun b3 q hq => c_X5_tour S2 b3 y4 (4 : Int32) q hq) gv_RL_X5_tour rfl rfl dsX5_tour rfl ⟨Nat.le_of_ble_eq_true rfl, Nat.le_of_ble_eq_true rfl⟩ rfl (cat_sum (Nat.le_of_ble_eq_true rfl)) ⟨Nat.zero_le _, Nat.zero_le _⟩ dL_rows_480 h (fun v3 S3 h => ?_)
            refine g_iload C (q := 4) dL_rows_483 rfl ?_
            refine g_iconst C (v := 1) dL_rows_485 (by decide) ?_
            refine g_isub C dL_rows_486 ?_
            refine g_icmp_ne C (tgt := 494) dL_rows_487 (by decide) h (fun h => ?_) (fun h => ?_)
            · refine g_iconst C (v := 1) dL_rows_490 (by decide) ?_
              refine g_goto C (tgt := 495) dL_rows_491 (by decide) ?_
              exact g_zret C hQ (by decide) dL_rows_495 h
            · refine g_iconst C (v := 0) dL_rows_494 (by decide) ?_
              exact g_zret C hQ (by decide) dL_rows_495 h
          · refine g_iconst C (v := 0) dL_rows_494 (by decide) ?_
            exact g_zret C hQ (by decide) dL_rows_495 h
        · refine g_iload C (q := 0) dL_rows_448 rfl ?_
          refine g_bipush C (v := (-5)) dL_rows_450 (by decide) ?_
          refine g_icmp_ne C (tgt := 459) dL_rows_452 (by decide) h (fun h => ?_) (fun h => ?_)
          · refine g_iconst C (v := 1) dL_rows_455 (by decide) ?_
            refine g_goto C (tgt := 495) dL_rows_456 (by decide) ?_
            exact g_zret C hQ (by decide) dL_rows_495 h
          · refine g_iconst C (v := 0) dL_rows_459 (by decide) ?_
            refine g_goto C (tgt := 495) dL_rows_460 (by decide) ?_
            exact g_zret C hQ (by decide) dL_rows_495 h
    · refine g_aload_n C (q := 0) dL_rows_384 rfl rfl ?_
      refine g_iload C (q := 1) dL_rows_385 rfl ?_
      refine g_iload C (q := 6) dL_rows_387 rfl ?_
      refine g_iconst C (v := 0) dL_rows_389 (by decide) ?_
      refine g_callVI C (ci := 5) (As := [.int y4, .int y10, .int 0]) (np := 3) (st := []) (r := y0) rfl (by decide) (fun b4 q hq => c_X5_rope S b4 y4 y10 (0 : Int32) q hq) gv_RL_X5_rope rfl rfl dsX5_rope rfl ⟨Nat.le_of_ble_eq_true rfl, Nat.le_of_ble_eq_true rfl⟩ rfl (cat_sum (Nat.le_of_ble_eq_true rfl)) ⟨Nat.zero_le _, Nat.zero_le _⟩ dL_rows_390 h (fun v4 S4 h => ?_)
      refine g_iload C (q := 2) dL_rows_393 rfl ?_
      refine g_icmp_ne C (tgt := 403) dL_rows_395 (by decide) h (fun h => ?_) (fun h => ?_)
      · refine g_iload C (q := 6) dL_rows_398 rfl ?_
        refine g_goto C (tgt := 405) dL_rows_400 (by decide) ?_
        refine g_sub (lv' := [(0, va_rf y0), (4, .int y4), (5, .int y5), (7, .int y7), (8, .int y8), (10, .int y10)]) [0, 1, 2, 3, 4, 6] rfl ?_
        exact w_L_rows_J405 C hn hQ (fun S y0 y4 y5 y7 y8 y9 y10 h => ih S y0 y4 y5 y7 y8 y9 y10 h) S4 y0 y4 y5 y7 y8 y10 y10 h
      · refine g_iload C (q := 5) dL_rows_403 rfl ?_
        refine g_sub (lv' := [(0, va_rf y0), (4, .int y4), (5, .int y5), (7, .int y7), (8, .int y8), (10, .int y10)]) [0, 1, 2, 3, 4, 6] rfl ?_
        exact w_L_rows_J405 C hn hQ (fun S y0 y4 y5 y7 y8 y9 y10 h => ih S y0 y4 y5 y7 y8 y9 y10 h) S4 y0 y4 y5 y7 y8 y10 y9 h

set_option maxHeartbeats 4000000 in
set_option maxRecDepth 100000 in
theorem w_L_rows_J279 {X : Cx} (C : CxOK X cL_rows RL rm_L_rows) (hn : xn X = 12) {S0 : Hp} {o : Int32 × Hp} (hQ : QI X (some .boolean) S0 0 0 o)  (S : Hp) (y0 : Option Nat) (y4 : Int32) (y5 : Int32) (y6 : Int32) (y7 : Int32) (y10 : Int32) (h : f_L_rows_J279 S y0 y4 y5 y6 y7 y10 = some o) : GW X 0 0 S 279 [(0, va_rf y0), (4, .int y4), (5, .int y5), (6, .int y6), (7, .int y7), (10, .int y10)] [] := by
  have hn11 : 11 < xn X := by rw [hn]; decide
  unfold f_L_rows_J279 at h
  refine g_aload_n C (q := 0) dL_rows_279 rfl rfl ?_
  refine g_iload C (q := 2) dL_rows_280 rfl ?_
  refine g_iload C (q := 1) dL_rows_282 rfl ?_
  refine g_callVI C (ci := 5) (As := [.int y5, .int y4]) (np := 2) (st := []) (r := y0) rfl (by decide) (fun b1 q hq => c_X5_lead S b1 y5 y4 q hq) gv_RL_X5_lead rfl rfl dsX5_lead rfl ⟨Nat.le_of_ble_eq_true rfl, Nat.le_of_ble_eq_true rfl⟩ rfl (cat_sum (Nat.le_of_ble_eq_true rfl)) ⟨Nat.zero_le _, Nat.zero_le _⟩ dL_rows_284 h (fun v1 S1 h => ?_)
  refine g_istore C (i := 11) (lv' := [(11, .int v1), (0, va_rf y0), (4, .int y4), (5, .int y5), (6, .int y6), (7, .int y7), (10, .int y10)]) dL_rows_287 hn11 rfl ?_
  refine g_iload C (q := 6) dL_rows_289 rfl ?_
  refine g_if_ne C (tgt := 309) dL_rows_291 (by decide) h (fun h => ?_) (fun h => ?_)
  · refine g_iload C (q := 0) dL_rows_294 rfl ?_
    refine g_bipush C (v := (-4)) dL_rows_296 (by decide) ?_
    refine g_icmp_ne C (tgt := 305) dL_rows_298 (by decide) h (fun h => ?_) (fun h => ?_)
    · refine g_iconst C (v := 1) dL_rows_301 (by decide) ?_
      refine g_goto C (tgt := 370) dL_rows_302 (by decide) ?_
      exact g_zret C hQ (by decide) dL_rows_370 h
    · refine g_iconst C (v := 0) dL_rows_305 (by decide) ?_
      refine g_goto C (tgt := 370) dL_rows_306 (by decide) ?_
      exact g_zret C hQ (by decide) dL_rows_370 h
  · refine g_iload C (q := 5) dL_rows_309 rfl ?_
    refine g_iconst C (v := 4) dL_rows_311 (by decide) ?_
    refine g_icmp_ne C (tgt := 337) dL_rows_312 (by decide) h (fun h => ?_) (fun h => ?_)
    · refine g_iload C (q := 0) dL_rows_315 rfl ?_
      refine g_bipush C (v := (-3)) dL_rows_317 (by decide) ?_
      refine g_icmp_ne C (tgt := 333) dL_rows_319 (by decide) h (fun h => ?_) (fun h => ?_)
      · refine g_iload C (q := 4) dL_rows_322 rfl ?_
        refine g_bipush C (v := (-5)) dL_rows_324 (by decide) ?_
        refine g_icmp_ne C (tgt := 333) dL_rows_326 (by decide) h (fun h => ?_) (fun h => ?_)
        · refine g_iconst C (v := 1) dL_rows_329 (by decide) ?_
          refine g_goto C (tgt := 370) dL_rows_330 (by decide) ?_
          exact g_zret C hQ (by decide) dL_rows_370 h
        · refine g_iconst C (v := 0) dL_rows_333 (by decide) ?_
          refine g_goto C (tgt := 370) dL_rows_334 (by decide) ?_
          exact g_zret C hQ (by decide) dL_rows_370 h
      · refine g_iconst C (v := 0) dL_rows_333 (by decide) ?_
        refine g_goto C (tgt := 370) dL_rows_334 (by decide) ?_
        exact g_zret C hQ (by decide) dL_rows_370 h
    · refine g_aload_n C (q := 1) dL_rows_337 rfl rfl ?_
      refine g_iload C (q := 2) dL_rows_338 rfl ?_
      refine g_iload C (q := 5) dL_rows_340 rfl ?_
      refine g_iconst C (v := 0) dL_rows_342 (by decide) ?_
      refine g_callVI C (ci := 5) (As := [.int y4, .int y7, .int 0]) (np := 3) (st := []) (r := y0) rfl (by decide) (fun b2 q hq => c_X5_rope S1 b2 y4 y7 (0 : Int32) q hq) gv_RL_X5_rope rfl rfl dsX5_rope rfl ⟨Nat.le_of_ble_eq_true rfl, Nat.le_of_ble_eq_true rfl⟩ rfl (cat_sum (Nat.le_of_ble_eq_true rfl)) ⟨Nat.zero_le _, Nat.zero_le _⟩ dL_rows_343 h (fun v2 S2 h => ?_)
      refine g_iload C (q := 3) dL_rows_346 rfl ?_
      refine g_icmp_ne C (tgt := 369) dL_rows_348 (by decide) h (fun h => ?_) (fun h => ?_)
      · refine g_iload C (q := 0) dL_rows_351 rfl ?_
        refine g_aload_n C (q := 1) dL_rows_353 rfl rfl ?_
        refine g_iload C (q := 2) dL_rows_354 rfl ?_
        refine g_iload C (q := 5) dL_rows_356 rfl ?_
        refine g_iconst C (v := 1) dL_rows_358 (by decide) ?_
        refine g_callVI C (ci := 5) (As := [.int y4, .int y7, .int 1]) (np := 3) (st := [.int v1]) (r := y0) rfl (by decide) (fun b3 q hq => c_X5_rope S2 b3 y4 y7 (1 : Int32) q hq) gv_RL_X5_rope rfl rfl dsX5_rope rfl ⟨Nat.le_of_ble_eq_true rfl, Nat.le_of_ble_eq_true rfl⟩ rfl (cat_sum (Nat.le_of_ble_eq_true rfl)) ⟨Nat.zero_le _, Nat.zero_le _⟩ dL_rows_359 h (fun v3 S3 h => ?_)
        refine g_icmp_ne C (tgt := 369) dL_rows_362 (by decide) h (fun h => ?_) (fun h => ?_)
        · refine g_iconst C (v := 1) dL_rows_365 (by decide) ?_
          refine g_goto C (tgt := 370) dL_rows_366 (by decide) ?_
          exact g_zret C hQ (by decide) dL_rows_370 h
        · refine g_iconst C (v := 0) dL_rows_369 (by decide) ?_
          exact g_zret C hQ (by decide) dL_rows_370 h
      · refine g_iconst C (v := 0) dL_rows_369 (by decide) ?_
        exact g_zret C hQ (by decide) dL_rows_370 h

set_option maxHeartbeats 4000000 in
set_option maxRecDepth 100000 in
theorem w_L_rows_J236 {X : Cx} (C : CxOK X cL_rows RL rm_L_rows) (hn : xn X = 12) {S0 : Hp} {o : Int32 × Hp} (hQ : QI X (some .boolean) S0 0 0 o)  (S : Hp) (y0 : Option Nat) (y4 : Int32) (y5 : Int32) (y6 : Int32) (y7 : Int32) (z0 : Int32) (h : f_L_rows_J236 S y0 y4 y5 y6 y7 z0 = some o) : GW X 0 0 S 236 [(0, va_rf y0), (4, .int y4), (5, .int y5), (6, .int y6), (7, .int y7)] [.int z0] := by
  have hn10 : 10 < xn X := by rw [hn]; decide
  unfold f_L_rows_J236 at h
  refine g_istore C (i := 10) (lv' := [(10, .int z0), (0, va_rf y0), (4, .int y4), (5, .int y5), (6, .int y6), (7, .int y7)]) dL_rows_236 hn10 rfl ?_
  refine g_iload C (q := 4) dL_rows_238 rfl ?_
  refine g_if_lt C (tgt := 279) dL_rows_240 (by decide) h (fun h => ?_) (fun h => ?_)
  · refine g_sub (lv' := [(0, va_rf y0), (4, .int y4), (5, .int y5), (6, .int y6), (7, .int y7), (10, .int z0)]) [1, 2, 3, 4, 5, 0] rfl ?_
    exact w_L_rows_J279 C hn hQ S y0 y4 y5 y6 y7 z0 h
  · refine g_iload C (q := 0) dL_rows_243 rfl ?_
    refine g_if_eq C (tgt := 279) dL_rows_245 (by decide) h (fun h => ?_) (fun h => ?_)
    · refine g_sub (lv' := [(0, va_rf y0), (4, .int y4), (5, .int y5), (6, .int y6), (7, .int y7), (10, .int z0)]) [1, 2, 3, 4, 5, 0] rfl ?_
      exact w_L_rows_J279 C hn hQ S y0 y4 y5 y6 y7 z0 h
    · refine g_aload_n C (q := 1) dL_rows_248 rfl rfl ?_
      refine g_iload C (q := 3) dL_rows_249 rfl ?_
      refine g_iconst C (v := 0) dL_rows_251 (by decide) ?_
      refine g_callVI C (ci := 5) (As := [.int y5, .int 0]) (np := 2) (st := []) (r := y0) rfl (by decide) (fun b1 q hq => c_X5_guide S b1 y5 (0 : Int32) q hq) gv_RL_X5_guide rfl rfl dsX5_guide rfl ⟨Nat.le_of_ble_eq_true rfl, Nat.le_of_ble_eq_true rfl⟩ rfl (cat_sum (Nat.le_of_ble_eq_true rfl)) ⟨Nat.zero_le _, Nat.zero_le _⟩ dL_rows_252 h (fun v1 S1 h => ?_)
      refine g_aload_n C (q := 1) dL_rows_255 rfl rfl ?_
      refine g_iload C (q := 4) dL_rows_256 rfl ?_
      refine g_iconst C (v := 0) dL_rows_258 (by decide) ?_
      refine g_callVI C (ci := 5) (As := [.int y6, .int 0]) (np := 2) (st := [.int v1]) (r := y0) rfl (by decide) (fun b2 q hq => c_X5_guide S1 b2 y6 (0 : Int32) q hq) gv_RL_X5_guide rfl rfl dsX5_guide rfl ⟨Nat.le_of_ble_eq_true rfl, Nat.le_of_ble_eq_true rfl⟩ rfl (cat_sum (Nat.le_of_ble_eq_true rfl)) ⟨Nat.zero_le _, Nat.zero_le _⟩ dL_rows_259 h (fun v2 S2 h => ?_)
      refine g_icmp_le C (tgt := 279) dL_rows_262 (by decide) h (fun h => ?_) (fun h => ?_)
      · refine g_sub (lv' := [(0, va_rf y0), (4, .int y4), (5, .int y5), (6, .int y6), (7, .int y7), (10, .int z0)]) [1, 2, 3, 4, 5, 0] rfl ?_
        exact w_L_rows_J279 C hn hQ S2 y0 y4 y5 y6 y7 z0 h
      · refine g_aload_n C (q := 1) dL_rows_265 rfl rfl ?_
        refine g_iload C (q := 2) dL_rows_266 rfl ?_
        refine g_bipush C (v := 9) dL_rows_268 (by decide) ?_
        refine g_callVI C (ci := 5) (As := [.int y4, .int 9]) (np := 2) (st := []) (r := y0) rfl (by decide) (fun b3 q hq => c_X5_tour S2 b3 y4 (9 : Int32) q hq) gv_RL_X5_tour rfl rfl dsX5_tour rfl ⟨Nat.le_of_ble_eq_true rfl, Nat.le_of_ble_eq_true rfl⟩ rfl (cat_sum (Nat.le_of_ble_eq_true rfl)) ⟨Nat.zero_le _, Nat.zero_le _⟩ dL_rows_270 h (fun v3 S3 h => ?_)
        refine g_iconst C (v := 1) dL_rows_273 (by decide) ?_
        refine g_icmp_le C (tgt := 279) dL_rows_274 (by decide) h (fun h => ?_) (fun h => ?_)
        · refine g_sub (lv' := [(0, va_rf y0), (4, .int y4), (5, .int y5), (6, .int y6), (7, .int y7), (10, .int z0)]) [1, 2, 3, 4, 5, 0] rfl ?_
          exact w_L_rows_J279 C hn hQ S3 y0 y4 y5 y6 y7 z0 h
        · refine g_iconst C (v := 0) dL_rows_277 (by decide) ?_
          exact g_zret C hQ (by decide) dL_rows_278 h

set_option maxHeartbeats 4000000 in
set_option maxRecDepth 100000 in
theorem w_L_rows_J235 {X : Cx} (C : CxOK X cL_rows RL rm_L_rows) (hn : xn X = 12) {S0 : Hp} {o : Int32 × Hp} (hQ : QI X (some .boolean) S0 0 0 o)  (S : Hp) (y0 : Option Nat) (y4 : Int32) (y5 : Int32) (y6 : Int32) (y7 : Int32) (h : f_L_rows_J235 S y0 y4 y5 y6 y7 = some o) : GW X 0 0 S 235 [(0, va_rf y0), (4, .int y4), (5, .int y5), (6, .int y6), (7, .int y7)] [] := by
  unfold f_L_rows_J235 at h
  refine g_iconst C (v := 0) dL_rows_235 (by decide) ?_
  refine g_sub (lv' := [(0, va_rf y0), (4, .int y4), (5, .int y5), (6, .int y6), (7, .int y7)]) [0, 1, 2, 3, 4] rfl ?_
  exact w_L_rows_J236 C hn hQ S y0 y4 y5 y6 y7 (0 : Int32) h

set_option maxHeartbeats 4000000 in
set_option maxRecDepth 100000 in
theorem w_L_rows_J198 {X : Cx} (C : CxOK X cL_rows RL rm_L_rows) (hn : xn X = 12) {S0 : Hp} {o : Int32 × Hp} (hQ : QI X (some .boolean) S0 0 0 o) {kout : Hp → Option Nat → Int32 → Int32 → Int32 → Int32 → Int32 → Int32 → Int32 → Option (Int32 × Hp)} (HK : ∀ (S : Hp) (y0 : Option Nat) (y4 : Int32) (y5 : Int32) (y6 : Int32) (y7 : Int32) (y8 : Int32) (y9 : Int32) (y10 : Int32), kout S y0 y4 y5 y6 y7 y8 y9 y10 = some o → GW X 0 0 S 115 [(0, va_rf y0), (4, .int y4), (5, .int y5), (6, .int y6), (7, .int y7), (8, .int y8), (9, .int y9), (10, .int y10)] [])  (S : Hp) (y0 : Option Nat) (y4 : Int32) (y5 : Int32) (y6 : Int32) (y7 : Int32) (y8 : Int32) (y9 : Int32) (y10 : Int32) (h : f_L_rows_J198 kout S y0 y4 y5 y6 y7 y8 y9 y10 = some o) : GW X 0 0 S 198 [(0, va_rf y0), (4, .int y4), (5, .int y5), (6, .int y6), (7, .int y7), (8, .int y8), (9, .int y9), (10, .int y10)] [] := by
  have hn10 : 10 < xn X := by rw [hn]; decide
  unfold f_L_rows_J198 at h
  obtain ⟨v1, ev1, h⟩ := bnd_ex h
  refine g_iinc C (i := 10) (lv' := [(10, .int v1), (0, va_rf y0), (4, .int y4), (5, .int y5), (6, .int y6), (7, .int y7), (8, .int y8), (9, .int y9)]) (q := 7) v1 dL_rows_198 rfl ev1 hn10 rfl ?_
  refine g_goto C (tgt := 115) dL_rows_201 (by decide) ?_
  refine g_sub (lv' := [(0, va_rf y0), (4, .int y4), (5, .int y5), (6, .int y6), (7, .int y7), (8, .int y8), (9, .int y9), (10, .int v1)]) [1, 2, 3, 4, 5, 6, 7, 0] rfl ?_
  exact HK S y0 y4 y5 y6 y7 y8 y9 v1 h

set_option maxHeartbeats 4000000 in
set_option maxRecDepth 100000 in
theorem w_L_rows_J189 {X : Cx} (C : CxOK X cL_rows RL rm_L_rows) (hn : xn X = 12) {S0 : Hp} {o : Int32 × Hp} (hQ : QI X (some .boolean) S0 0 0 o) {kout : Hp → Option Nat → Int32 → Int32 → Int32 → Int32 → Int32 → Int32 → Int32 → Int32 → Option (Int32 × Hp)} (HK : ∀ (S : Hp) (y0 : Option Nat) (y4 : Int32) (y5 : Int32) (y6 : Int32) (y7 : Int32) (y8 : Int32) (y9 : Int32) (y10 : Int32) (y11 : Int32), kout S y0 y4 y5 y6 y7 y8 y9 y10 y11 = some o → GW X 0 0 S 128 [(0, va_rf y0), (4, .int y4), (5, .int y5), (6, .int y6), (7, .int y7), (8, .int y8), (9, .int y9), (10, .int y10), (11, .int y11)] [])  (S : Hp) (y0 : Option Nat) (y4 : Int32) (y5 : Int32) (y6 : Int32) (y7 : Int32) (y8 : Int32) (y10 : Int32) (y11 : Int32) (z0 : Int32) (z1 : Int32) (h : f_L_rows_J189 kout S y0 y4 y5 y6 y7 y8 y10 y11 z0 z1 = some o) : GW X 0 0 S 189 [(0, va_rf y0), (4, .int y4), (5, .int y5), (6, .int y6), (7, .int y7), (8, .int y8), (10, .int y10), (11, .int y11)] [.int z0, .int z1] := by
  have hn9 : 9 < xn X := by rw [hn]; decide
  have hn11 : 11 < xn X := by rw [hn]; decide
  unfold f_L_rows_J189 at h
  refine g_ior C dL_rows_189 ?_
  refine g_nmI h (fun v1 h => ?_)
  refine g_istore C (i := 9) (lv' := [(9, .int v1), (0, va_rf y0), (4, .int y4), (5, .int y5), (6, .int y6), (7, .int y7), (8, .int y8), (10, .int y10), (11, .int y11)]) dL_rows_190 hn9 rfl ?_
  obtain ⟨v2, ev2, h⟩ := bnd_ex h
  refine g_iinc C (i := 11) (lv' := [(11, .int v2), (9, .int v1), (0, va_rf y0), (4, .int y4), (5, .int y5), (6, .int y6), (7, .int y7), (8, .int y8), (10, .int y10)]) (q := 8) v2 dL_rows_192 rfl ev2 hn11 rfl ?_
  refine g_goto C (tgt := 128) dL_rows_195 (by decide) ?_
  refine g_sub (lv' := [(0, va_rf y0), (4, .int y4), (5, .int y5), (6, .int y6), (7, .int y7), (8, .int y8), (9, .int v1), (10, .int y10), (11, .int v2)]) [2, 3, 4, 5, 6, 7, 1, 8, 0] rfl ?_
  exact HK S y0 y4 y5 y6 y7 y8 v1 y10 v2 h

set_option maxHeartbeats 4000000 in
set_option maxRecDepth 100000 in
theorem w_L_rows_J188 {X : Cx} (C : CxOK X cL_rows RL rm_L_rows) (hn : xn X = 12) {S0 : Hp} {o : Int32 × Hp} (hQ : QI X (some .boolean) S0 0 0 o) {kout : Hp → Option Nat → Int32 → Int32 → Int32 → Int32 → Int32 → Int32 → Int32 → Int32 → Option (Int32 × Hp)} (HK : ∀ (S : Hp) (y0 : Option Nat) (y4 : Int32) (y5 : Int32) (y6 : Int32) (y7 : Int32) (y8 : Int32) (y9 : Int32) (y10 : Int32) (y11 : Int32), kout S y0 y4 y5 y6 y7 y8 y9 y10 y11 = some o → GW X 0 0 S 128 [(0, va_rf y0), (4, .int y4), (5, .int y5), (6, .int y6), (7, .int y7), (8, .int y8), (9, .int y9), (10, .int y10), (11, .int y11)] [])  (S : Hp) (y0 : Option Nat) (y4 : Int32) (y5 : Int32) (y6 : Int32) (y7 : Int32) (y8 : Int32) (y10 : Int32) (y11 : Int32) (z0 : Int32) (h : f_L_rows_J188 kout S y0 y4 y5 y6 y7 y8 y10 y11 z0 = some o) : GW X 0 0 S 188 [(0, va_rf y0), (4, .int y4), (5, .int y5), (6, .int y6), (7, .int y7), (8, .int y8), (10, .int y10), (11, .int y11)] [.int z0] := by
  unfold f_L_rows_J188 at h
  refine g_iconst C (v := 0) dL_rows_188 (by decide) ?_
  refine g_sub (lv' := [(0, va_rf y0), (4, .int y4), (5, .int y5), (6, .int y6), (7, .int y7), (8, .int y8), (10, .int y10), (11, .int y11)]) [0, 1, 2, 3, 4, 5, 6, 7] rfl ?_
  exact w_L_rows_J189 C hn hQ HK S y0 y4 y5 y6 y7 y8 y10 y11 (0 : Int32) z0 h

set_option maxHeartbeats 4000000 in
set_option maxRecDepth 100000 in
theorem w_L_rows_L128 {X : Cx} (C : CxOK X cL_rows RL rm_L_rows) (hn : xn X = 12) {S0 : Hp} {o : Int32 × Hp} (hQ : QI X (some .boolean) S0 0 0 o) {kout : Hp → Option Nat → Int32 → Int32 → Int32 → Int32 → Int32 → Int32 → Int32 → Option (Int32 × Hp)} (HK : ∀ (S : Hp) (y0 : Option Nat) (y4 : Int32) (y5 : Int32) (y6 : Int32) (y7 : Int32) (y8 : Int32) (y9 : Int32) (y10 : Int32), kout S y0 y4 y5 y6 y7 y8 y9 y10 = some o → GW X 0 0 S 115 [(0, va_rf y0), (4, .int y4), (5, .int y5), (6, .int y6), (7, .int y7), (8, .int y8), (9, .int y9), (10, .int y10)] []) : ∀ (fuel : Nat) (S : Hp) (y0 : Option Nat) (y4 : Int32) (y5 : Int32) (y6 : Int32) (y7 : Int32) (y8 : Int32) (y9 : Int32) (y10 : Int32) (y11 : Int32), f_L_rows_L128 kout fuel S y0 y4 y5 y6 y7 y8 y9 y10 y11 = some o → GW X 0 0 S 128 [(0, va_rf y0), (4, .int y4), (5, .int y5), (6, .int y6), (7, .int y7), (8, .int y8), (9, .int y9), (10, .int y10), (11, .int y11)] [] := by
  intro fuel
  induction fuel with
  | zero => intro S y0 y4 y5 y6 y7 y8 y9 y10 y11 h; cases (show none = some o from h)
  | succ fuel ih =>
    intro S y0 y4 y5 y6 y7 y8 y9 y10 y11 h
    have h : f_L_rows_L128_b kout (f_L_rows_L128 kout fuel) S y0 y4 y5 y6 y7 y8 y9 y10 y11 = some o := h
    unfold f_L_rows_L128_b at h
    refine g_iload C (q := 8) dL_rows_128 rfl ?_
    refine g_aload_n C (q := 0) dL_rows_130 rfl rfl ?_
    refine g_iload C (q := 7) dL_rows_131 rfl ?_
    refine g_iconst C (v := 4) dL_rows_133 (by decide) ?_
    refine g_callVI C (ci := 5) (As := [.int y10, .int 4]) (np := 2) (st := [.int y11]) (r := y0) rfl (by decide) (fun b1 q hq => c_X5_tour S b1 y10 (4 : Int32) q hq) gv_RL_X5_tour rfl rfl dsX5_tour rfl ⟨Nat.le_of_ble_eq_true rfl, Nat.le_of_ble_eq_true rfl⟩ rfl (cat_sum (Nat.le_of_ble_eq_true rfl)) ⟨Nat.zero_le _, Nat.zero_le _⟩ dL_rows_134 h (fun v1 S1 h => ?_)
    refine g_icmp_ge C (tgt := 198) dL_rows_137 (by decide) h (fun h => ?_) (fun h => ?_)
    · refine g_sub (lv' := [(0, va_rf y0), (4, .int y4), (5, .int y5), (6, .int y6), (7, .int y7), (8, .int y8), (9, .int y9), (10, .int y10)]) [0, 1, 2, 3, 4, 5, 6, 7] rfl ?_
      exact w_L_rows_J198 C hn hQ HK S1 y0 y4 y5 y6 y7 y8 y9 y10 h
    · refine g_aload_n C (q := 0) dL_rows_140 rfl rfl ?_
      refine g_iload C (q := 7) dL_rows_141 rfl ?_
      refine g_bipush C (v := 6) dL_rows_143 (by decide) ?_
      refine g_callVI C (ci := 5) (As := [.int y10, .int 6]) (np := 2) (st := []) (r := y0) rfl (by decide) (fun b2 q hq => c_X5_tour S1 b2 y10 (6 : Int32) q hq) gv_RL_X5_tour rfl rfl dsX5_tour rfl ⟨Nat.le_of_ble_eq_true rfl, Nat.le_of_ble_eq_true rfl⟩ rfl (cat_sum (Nat.le_of_ble_eq_true rfl)) ⟨Nat.zero_le _, Nat.zero_le _⟩ dL_rows_145 h (fun v2 S2 h => ?_)
      refine g_if_ne C (tgt := 198) dL_rows_148 (by decide) h (fun h => ?_) (fun h => ?_)
      · refine g_iload C (q := 6) dL_rows_151 rfl ?_
        refine g_aload_n C (q := 0) dL_rows_153 rfl rfl ?_
        refine g_iload C (q := 7) dL_rows_154 rfl ?_
        refine g_iconst C (v := 0) dL_rows_156 (by decide) ?_
        refine g_callVI C (ci := 5) (As := [.int y10, .int 0]) (np := 2) (st := [.int y9]) (r := y0) rfl (by decide) (fun b3 q hq => c_X5_tour S2 b3 y10 (0 : Int32) q hq) gv_RL_X5_tour rfl rfl dsX5_tour rfl ⟨Nat.le_of_ble_eq_true rfl, Nat.le_of_ble_eq_true rfl⟩ rfl (cat_sum (Nat.le_of_ble_eq_true rfl)) ⟨Nat.zero_le _, Nat.zero_le _⟩ dL_rows_157 h (fun v3 S3 h => ?_)
        refine g_aload_n C (q := 0) dL_rows_160 rfl rfl ?_
        refine g_iload C (q := 1) dL_rows_161 rfl ?_
        refine g_iconst C (v := 0) dL_rows_163 (by decide) ?_
        refine g_callVI C (ci := 5) (As := [.int y4, .int 0]) (np := 2) (st := [.int v3, .int y9]) (r := y0) rfl (by decide) (fun b4 q hq => c_X5_tour S3 b4 y4 (0 : Int32) q hq) gv_RL_X5_tour rfl rfl dsX5_tour rfl ⟨Nat.le_of_ble_eq_true rfl, Nat.le_of_ble_eq_true rfl⟩ rfl (cat_sum (Nat.le_of_ble_eq_true rfl)) ⟨Nat.zero_le _, Nat.zero_le _⟩ dL_rows_164 h (fun v4 S4 h => ?_)
        refine g_icmp_ne C (tgt := 188) dL_rows_167 (by decide) h (fun h => ?_) (fun h => ?_)
        · refine g_aload_n C (q := 0) dL_rows_170 rfl rfl ?_
          refine g_iload C (q := 7) dL_rows_171 rfl ?_
          refine g_iload C (q := 8) dL_rows_173 rfl ?_
          refine g_iconst C (v := 0) dL_rows_175 (by decide) ?_
          refine g_callVI C (ci := 5) (As := [.int y10, .int y11, .int 0]) (np := 3) (st := [.int y9]) (r := y0) rfl (by decide) (fun b5 q hq => c_X5_rope S4 b5 y10 y11 (0 : Int32) q hq) gv_RL_X5_rope rfl rfl dsX5_rope rfl ⟨Nat.le_of_ble_eq_true rfl, Nat.le_of_ble_eq_true rfl⟩ rfl (cat_sum (Nat.le_of_ble_eq_true rfl)) ⟨Nat.zero_le _, Nat.zero_le _⟩ dL_rows_176 h (fun v5 S5 h => ?_)
          refine g_iload C (q := 2) dL_rows_179 rfl ?_
          refine g_icmp_ne C (tgt := 188) dL_rows_181 (by decide) h (fun h => ?_) (fun h => ?_)
          · refine g_iconst C (v := 1) dL_rows_184 (by decide) ?_
            refine g_goto C (tgt := 189) dL_rows_185 (by decide) ?_
            refine g_sub (lv' := [(0, va_rf y0), (4, .int y4), (5, .int y5), (6, .int y6), (7, .int y7), (8, .int y8), (10, .int y10), (11, .int y11)]) [0, 1, 2, 3, 4, 5, 7, 8] rfl ?_
            exact w_L_rows_J189 C hn hQ (fun S y0 y4 y5 y6 y7 y8 y9 y10 y11 h => ih S y0 y4 y5 y6 y7 y8 y9 y10 y11 h) S5 y0 y4 y5 y6 y7 y8 y10 y11 (1 : Int32) y9 h
          · refine g_sub (lv' := [(0, va_rf y0), (4, .int y4), (5, .int y5), (6, .int y6), (7, .int y7), (8, .int y8), (10, .int y10), (11, .int y11)]) [0, 1, 2, 3, 4, 5, 7, 8] rfl ?_
            exact w_L_rows_J188 C hn hQ (fun S y0 y4 y5 y6 y7 y8 y9 y10 y11 h => ih S y0 y4 y5 y6 y7 y8 y9 y10 y11 h) S5 y0 y4 y5 y6 y7 y8 y10 y11 y9 h
        · refine g_sub (lv' := [(0, va_rf y0), (4, .int y4), (5, .int y5), (6, .int y6), (7, .int y7), (8, .int y8), (10, .int y10), (11, .int y11)]) [0, 1, 2, 3, 4, 5, 7, 8] rfl ?_
          exact w_L_rows_J188 C hn hQ (fun S y0 y4 y5 y6 y7 y8 y9 y10 y11 h => ih S y0 y4 y5 y6 y7 y8 y9 y10 y11 h) S4 y0 y4 y5 y6 y7 y8 y10 y11 y9 h
      · refine g_sub (lv' := [(0, va_rf y0), (4, .int y4), (5, .int y5), (6, .int y6), (7, .int y7), (8, .int y8), (9, .int y9), (10, .int y10)]) [0, 1, 2, 3, 4, 5, 6, 7] rfl ?_
        exact w_L_rows_J198 C hn hQ HK S2 y0 y4 y5 y6 y7 y8 y9 y10 h

set_option maxHeartbeats 4000000 in
set_option maxRecDepth 100000 in
theorem w_L_rows_L115 {X : Cx} (C : CxOK X cL_rows RL rm_L_rows) (hn : xn X = 12) {S0 : Hp} {o : Int32 × Hp} (hQ : QI X (some .boolean) S0 0 0 o) : ∀ (fuel : Nat) (S : Hp) (y0 : Option Nat) (y4 : Int32) (y5 : Int32) (y6 : Int32) (y7 : Int32) (y8 : Int32) (y9 : Int32) (y10 : Int32), f_L_rows_L115 fuel S y0 y4 y5 y6 y7 y8 y9 y10 = some o → GW X 0 0 S 115 [(0, va_rf y0), (4, .int y4), (5, .int y5), (6, .int y6), (7, .int y7), (8, .int y8), (9, .int y9), (10, .int y10)] [] := by
  have hn11 : 11 < xn X := by rw [hn]; decide
  intro fuel
  induction fuel with
  | zero => intro S y0 y4 y5 y6 y7 y8 y9 y10 h; cases (show none = some o from h)
  | succ fuel ih =>
    intro S y0 y4 y5 y6 y7 y8 y9 y10 h
    have h : f_L_rows_L115_b (f_L_rows_L115 fuel) S y0 y4 y5 y6 y7 y8 y9 y10 = some o := h
    unfold f_L_rows_L115_b at h
    refine g_iload C (q := 7) dL_rows_115 rfl ?_
    refine g_aload_n C (q := 0) dL_rows_117 rfl rfl ?_
    refine g_iconst C (v := 3) dL_rows_118 (by decide) ?_
    refine g_callVI C (ci := 5) (As := [.int 3]) (np := 1) (st := [.int y10]) (r := y0) rfl (by decide) (fun b1 q hq => c_X5_count S b1 (3 : Int32) q hq) gv_RL_X5_count rfl rfl dsX5_count rfl ⟨Nat.le_of_ble_eq_true rfl, Nat.le_of_ble_eq_true rfl⟩ rfl (cat_sum (Nat.le_of_ble_eq_true rfl)) ⟨Nat.zero_le _, Nat.zero_le _⟩ dL_rows_119 h (fun v1 S1 h => ?_)
    refine g_icmp_ge C (tgt := 204) dL_rows_122 (by decide) h (fun h => ?_) (fun h => ?_)
    · refine g_iload C (q := 5) dL_rows_204 rfl ?_
      refine g_if_eq C (tgt := 235) dL_rows_206 (by decide) h (fun h => ?_) (fun h => ?_)
      · refine g_sub (lv' := [(0, va_rf y0), (4, .int y4), (5, .int y5), (6, .int y6), (7, .int y7)]) [0, 1, 2, 3, 4] rfl ?_
        exact w_L_rows_J235 C hn hQ S1 y0 y4 y5 y6 y7 h
      · refine g_iload C (q := 6) dL_rows_209 rfl ?_
        refine g_if_ne C (tgt := 235) dL_rows_211 (by decide) h (fun h => ?_) (fun h => ?_)
        · refine g_aload_n C (q := 0) dL_rows_214 rfl rfl ?_
          refine g_iload C (q := 2) dL_rows_215 rfl ?_
          refine g_iconst C (v := 1) dL_rows_217 (by decide) ?_
          refine g_callVI C (ci := 5) (As := [.int y5, .int 1]) (np := 2) (st := []) (r := y0) rfl (by decide) (fun b2 q hq => c_X5_guide S1 b2 y5 (1 : Int32) q hq) gv_RL_X5_guide rfl rfl dsX5_guide rfl ⟨Nat.le_of_ble_eq_true rfl, Nat.le_of_ble_eq_true rfl⟩ rfl (cat_sum (Nat.le_of_ble_eq_true rfl)) ⟨Nat.zero_le _, Nat.zero_le _⟩ dL_rows_218 h (fun v2 S2 h => ?_)
          refine g_aload_n C (q := 0) dL_rows_221 rfl rfl ?_
          refine g_iload C (q := 1) dL_rows_222 rfl ?_
          refine g_iconst C (v := 0) dL_rows_224 (by decide) ?_
          refine g_callVI C (ci := 5) (As := [.int y4, .int 0]) (np := 2) (st := [.int v2]) (r := y0) rfl (by decide) (fun b3 q hq => c_X5_tour S2 b3 y4 (0 : Int32) q hq) gv_RL_X5_tour rfl rfl dsX5_tour rfl ⟨Nat.le_of_ble_eq_true rfl, Nat.le_of_ble_eq_true rfl⟩ rfl (cat_sum (Nat.le_of_ble_eq_true rfl)) ⟨Nat.zero_le _, Nat.zero_le _⟩ dL_rows_225 h (fun v3 S3 h => ?_)
          refine g_icmp_lt C (tgt := 235) dL_rows_228 (by decide) h (fun h => ?_) (fun h => ?_)
          · refine g_sub (lv' := [(0, va_rf y0), (4, .int y4), (5, .int y5), (6, .int y6), (7, .int y7)]) [0, 1, 2, 3, 4] rfl ?_
            exact w_L_rows_J235 C hn hQ S3 y0 y4 y5 y6 y7 h
          · refine g_iconst C (v := 1) dL_rows_231 (by decide) ?_
            refine g_goto C (tgt := 236) dL_rows_232 (by decide) ?_
            refine g_sub (lv' := [(0, va_rf y0), (4, .int y4), (5, .int y5), (6, .int y6), (7, .int y7)]) [0, 1, 2, 3, 4] rfl ?_
            exact w_L_rows_J236 C hn hQ S3 y0 y4 y5 y6 y7 (1 : Int32) h
        · refine g_sub (lv' := [(0, va_rf y0), (4, .int y4), (5, .int y5), (6, .int y6), (7, .int y7)]) [0, 1, 2, 3, 4] rfl ?_
          exact w_L_rows_J235 C hn hQ S1 y0 y4 y5 y6 y7 h
    · refine g_iconst C (v := 0) dL_rows_125 (by decide) ?_
      refine g_istore C (i := 11) (lv' := [(11, .int 0), (0, va_rf y0), (4, .int y4), (5, .int y5), (6, .int y6), (7, .int y7), (8, .int y8), (9, .int y9), (10, .int y10)]) dL_rows_126 hn11 rfl ?_
      refine g_sub (lv' := [(0, va_rf y0), (4, .int y4), (5, .int y5), (6, .int y6), (7, .int y7), (8, .int y8), (9, .int y9), (10, .int y10), (11, .int 0)]) [1, 2, 3, 4, 5, 6, 7, 8, 0] rfl ?_
      exact w_L_rows_L128 C hn hQ (fun S y0 y4 y5 y6 y7 y8 y9 y10 h => ih S y0 y4 y5 y6 y7 y8 y9 y10 h) 1000 S1 y0 y4 y5 y6 y7 y8 y9 y10 (0 : Int32) h

set_option maxHeartbeats 4000000 in
set_option maxRecDepth 100000 in
theorem w_L_rows_J101 {X : Cx} (C : CxOK X cL_rows RL rm_L_rows) (hn : xn X = 12) {S0 : Hp} {o : Int32 × Hp} (hQ : QI X (some .boolean) S0 0 0 o)  (S : Hp) (y0 : Option Nat) (y1 : Int32) (y4 : Int32) (y5 : Int32) (y6 : Int32) (y7 : Int32) (z0 : Int32) (h : f_L_rows_J101 S y0 y1 y4 y5 y6 y7 z0 = some o) : GW X 0 0 S 101 [(0, va_rf y0), (1, .int y1), (4, .int y4), (5, .int y5), (6, .int y6), (7, .int y7)] [.int z0] := by
  have hn8 : 8 < xn X := by rw [hn]; decide
  have hn9 : 9 < xn X := by rw [hn]; decide
  have hn10 : 10 < xn X := by rw [hn]; decide
  unfold f_L_rows_J101 at h
  refine g_istore C (i := 8) (lv' := [(8, .int z0), (0, va_rf y0), (1, .int y1), (4, .int y4), (5, .int y5), (6, .int y6), (7, .int y7)]) dL_rows_101 hn8 rfl ?_
  refine g_iload_n C (q := 2) dL_rows_103 rfl rfl ?_
  refine g_bipush C (v := 11) dL_rows_104 (by decide) ?_
  refine g_icmp_ge C (tgt := 371) dL_rows_106 (by decide) h (fun h => ?_) (fun h => ?_)
  · refine g_iconst C (v := (-1)) dL_rows_371 (by decide) ?_
    refine g_istore C (i := 9) (lv' := [(9, .int (-1)), (8, .int z0), (0, va_rf y0), (1, .int y1), (4, .int y4), (5, .int y5), (6, .int y6), (7, .int y7)]) dL_rows_372 hn9 rfl ?_
    refine g_iconst C (v := 0) dL_rows_374 (by decide) ?_
    refine g_istore C (i := 10) (lv' := [(10, .int 0), (9, .int (-1)), (8, .int z0), (0, va_rf y0), (1, .int y1), (4, .int y4), (5, .int y5), (6, .int y6), (7, .int y7)]) dL_rows_375 hn10 rfl ?_
    refine g_sub (lv' := [(0, va_rf y0), (4, .int y4), (5, .int y5), (7, .int y7), (8, .int z0), (9, .int (-1)), (10, .int 0)]) [3, 5, 6, 8, 2, 1, 0] rfl ?_
    exact w_L_rows_L377 C hn hQ 1000 S y0 y4 y5 y7 z0 (-1 : Int32) (0 : Int32) h
  · refine g_iconst C (v := 0) dL_rows_109 (by decide) ?_
    refine g_istore C (i := 9) (lv' := [(9, .int 0), (8, .int z0), (0, va_rf y0), (1, .int y1), (4, .int y4), (5, .int y5), (6, .int y6), (7, .int y7)]) dL_rows_110 hn9 rfl ?_
    refine g_iconst C (v := 0) dL_rows_112 (by decide) ?_
    refine g_istore C (i := 10) (lv' := [(10, .int 0), (9, .int 0), (8, .int z0), (0, va_rf y0), (1, .int y1), (4, .int y4), (5, .int y5), (6, .int y6), (7, .int y7)]) dL_rows_113 hn10 rfl ?_
    refine g_sub (lv' := [(0, va_rf y0), (4, .int y4), (5, .int y5), (6, .int y6), (7, .int y7), (8, .int z0), (9, .int 0), (10, .int 0)]) [3, 5, 6, 7, 8, 2, 1, 0] rfl ?_
    exact w_L_rows_L115 C hn hQ 1000 S y0 y4 y5 y6 y7 z0 (0 : Int32) (0 : Int32) h

set_option maxHeartbeats 4000000 in
set_option maxRecDepth 100000 in
theorem w_L_rows_J74 {X : Cx} (C : CxOK X cL_rows RL rm_L_rows) (hn : xn X = 12) {S0 : Hp} {o : Int32 × Hp} (hQ : QI X (some .boolean) S0 0 0 o)  (S : Hp) (y0 : Option Nat) (y1 : Int32) (y4 : Int32) (y6 : Int32) (z0 : Int32) (h : f_L_rows_J74 S y0 y1 y4 y6 z0 = some o) : GW X 0 0 S 74 [(0, va_rf y0), (1, .int y1), (4, .int y4), (6, .int y6)] [.int z0] := by
  have hn5 : 5 < xn X := by rw [hn]; decide
  have hn7 : 7 < xn X := by rw [hn]; decide
  unfold f_L_rows_J74 at h
  refine g_istore C (i := 5) (lv' := [(5, .int z0), (0, va_rf y0), (1, .int y1), (4, .int y4), (6, .int y6)]) dL_rows_74 hn5 rfl ?_
  refine g_aload_n C (q := 1) dL_rows_76 rfl rfl ?_
  refine g_iload C (q := 3) dL_rows_77 rfl ?_
  refine g_iconst C (v := 4) dL_rows_79 (by decide) ?_
  refine g_callVI C (ci := 5) (As := [.int y4, .int 4]) (np := 2) (st := []) (r := y0) rfl (by decide) (fun b1 q hq => c_X5_tour S b1 y4 (4 : Int32) q hq) gv_RL_X5_tour rfl rfl dsX5_tour rfl ⟨Nat.le_of_ble_eq_true rfl, Nat.le_of_ble_eq_true rfl⟩ rfl (cat_sum (Nat.le_of_ble_eq_true rfl)) ⟨Nat.zero_le _, Nat.zero_le _⟩ dL_rows_80 h (fun v1 S1 h => ?_)
  refine g_istore C (i := 7) (lv' := [(7, .int v1), (5, .int z0), (0, va_rf y0), (1, .int y1), (4, .int y4), (6, .int y6)]) dL_rows_83 hn7 rfl ?_
  refine g_aload_n C (q := 2) dL_rows_85 rfl rfl ?_
  refine g_iload C (q := 4) dL_rows_86 rfl ?_
  refine g_bipush C (v := 6) dL_rows_88 (by decide) ?_
  refine g_callVI C (ci := 5) (As := [.int y4, .int 6]) (np := 2) (st := []) (r := y0) rfl (by decide) (fun b2 q hq => c_X5_tour S1 b2 y4 (6 : Int32) q hq) gv_RL_X5_tour rfl rfl dsX5_tour rfl ⟨Nat.le_of_ble_eq_true rfl, Nat.le_of_ble_eq_true rfl⟩ rfl (cat_sum (Nat.le_of_ble_eq_true rfl)) ⟨Nat.zero_le _, Nat.zero_le _⟩ dL_rows_90 h (fun v2 S2 h => ?_)
  refine g_if_ne C (tgt := 100) dL_rows_93 (by decide) h (fun h => ?_) (fun h => ?_)
  · refine g_iconst C (v := 1) dL_rows_96 (by decide) ?_
    refine g_goto C (tgt := 101) dL_rows_97 (by decide) ?_
    refine g_sub (lv' := [(0, va_rf y0), (1, .int y1), (4, .int y4), (5, .int z0), (6, .int y6), (7, .int v1)]) [2, 3, 4, 1, 5, 0] rfl ?_
    exact w_L_rows_J101 C hn hQ S2 y0 y1 y4 z0 y6 v1 (1 : Int32) h
  · refine g_iconst C (v := 0) dL_rows_100 (by decide) ?_
    refine g_sub (lv' := [(0, va_rf y0), (1, .int y1), (4, .int y4), (5, .int z0), (6, .int y6), (7, .int v1)]) [2, 3, 4, 1, 5, 0] rfl ?_
    exact w_L_rows_J101 C hn hQ S2 y0 y1 y4 z0 y6 v1 (0 : Int32) h

set_option maxHeartbeats 4000000 in
set_option maxRecDepth 100000 in
theorem w_L_rows_J72 {X : Cx} (C : CxOK X cL_rows RL rm_L_rows) (hn : xn X = 12) {S0 : Hp} {o : Int32 × Hp} (hQ : QI X (some .boolean) S0 0 0 o)  (S : Hp) (y0 : Option Nat) (y1 : Int32) (y4 : Int32) (y5 : Int32) (y6 : Int32) (h : f_L_rows_J72 S y0 y1 y4 y5 y6 = some o) : GW X 0 0 S 72 [(0, va_rf y0), (1, .int y1), (4, .int y4), (5, .int y5), (6, .int y6)] [] := by
  unfold f_L_rows_J72 at h
  refine g_iload C (q := 3) dL_rows_72 rfl ?_
  refine g_sub (lv' := [(0, va_rf y0), (1, .int y1), (4, .int y4), (6, .int y6)]) [0, 1, 2, 4] rfl ?_
  exact w_L_rows_J74 C hn hQ S y0 y1 y4 y6 y5 h
set_option maxHeartbeats 4000000 in
set_option maxRecDepth 100000 in
theorem c_L_rows (S : Hp) (x0 : Option Nat) (x1 : Int32) (x2 : Int32) (x3 : Int32) (o : Int32 × Hp) (h : f_L_rows S x0 x1 x2 x3 = some o) : CtI yL_rows cL_rows 12 (some .boolean) rm_L_rows 0 0 [va_rf x0, .int x1, .int x2, .int x3] S o := by
  refine ct_I (own := RL) (by decide) rfl (by simp [lg_sl, va_rf_cat, catI, catJ, catD]) (fun X C hn hQ => ?_)
  have hn4 : 4 < xn X := by rw [hn]; decide
  have hn5 : 5 < xn X := by rw [hn]; decide
  have hn6 : 6 < xn X := by rw [hn]; decide
  unfold f_L_rows at h
  rw [show lv_args 0 [va_rf x0, .int x1, .int x2, .int x3] = [(0, va_rf x0), (1, .int x1), (2, .int x2), (3, .int x3)] by simp [lv_args, va_rf_cat, catI, catJ, catD]]
  refine g_aload_n C (q := 0) dL_rows_0 rfl rfl ?_
  refine g_iconst C (v := 1) dL_rows_1 (by decide) ?_
  refine g_callVI C (ci := 5) (As := [.int 1]) (np := 1) (st := []) (r := x0) rfl (by decide) (fun b1 q hq => c_X5_count S b1 (1 : Int32) q hq) gv_RL_X5_count rfl rfl dsX5_count rfl ⟨Nat.le_of_ble_eq_true rfl, Nat.le_of_ble_eq_true rfl⟩ rfl (cat_sum (Nat.le_of_ble_eq_true rfl)) ⟨Nat.zero_le _, Nat.zero_le _⟩ dL_rows_2 h (fun v1 S1 h => ?_)
  refine g_if_ne C (tgt := 24) dL_rows_5 (by decide) h (fun h => ?_) (fun h => ?_)
  · refine g_aload_n C (q := 0) dL_rows_8 rfl rfl ?_
    refine g_iconst C (v := 0) dL_rows_9 (by decide) ?_
    refine g_iconst C (v := 0) dL_rows_10 (by decide) ?_
    refine g_callVI C (ci := 5) (As := [.int 0, .int 0]) (np := 2) (st := []) (r := x0) rfl (by decide) (fun b2 q hq => c_X5_lead S1 b2 (0 : Int32) (0 : Int32) q hq) gv_RL_X5_lead rfl rfl dsX5_lead rfl ⟨Nat.le_of_ble_eq_true rfl, Nat.le_of_ble_eq_true rfl⟩ rfl (cat_sum (Nat.le_of_ble_eq_true rfl)) ⟨Nat.zero_le _, Nat.zero_le _⟩ dL_rows_11 h (fun v2 S2 h => ?_)
    refine g_iconst C (v := (-1)) dL_rows_14 (by decide) ?_
    refine g_icmp_ne C (tgt := 22) dL_rows_15 (by decide) h (fun h => ?_) (fun h => ?_)
    · refine g_iconst C (v := 1) dL_rows_18 (by decide) ?_
      refine g_goto C (tgt := 23) dL_rows_19 (by decide) ?_
      exact g_zret C hQ (by decide) dL_rows_23 h
    · refine g_iconst C (v := 0) dL_rows_22 (by decide) ?_
      exact g_zret C hQ (by decide) dL_rows_23 h
  · refine g_iload_n C (q := 2) dL_rows_24 rfl rfl ?_
    refine g_aload_n C (q := 0) dL_rows_25 rfl rfl ?_
    refine g_iconst C (v := 3) dL_rows_26 (by decide) ?_
    refine g_callVI C (ci := 5) (As := [.int 3]) (np := 1) (st := [.int x2]) (r := x0) rfl (by decide) (fun b3 q hq => c_X5_count S1 b3 (3 : Int32) q hq) gv_RL_X5_count rfl rfl dsX5_count rfl ⟨Nat.le_of_ble_eq_true rfl, Nat.le_of_ble_eq_true rfl⟩ rfl (cat_sum (Nat.le_of_ble_eq_true rfl)) ⟨Nat.zero_le _, Nat.zero_le _⟩ dL_rows_27 h (fun v3 S3 h => ?_)
    refine g_callSI C (As := [.int x2, .int v3]) (np := 2) (st := []) (fun q hq => c_L_low S3 x2 v3 q hq) gs_RL_L_low rfl rfl dsL_low rfl ⟨Nat.le_of_ble_eq_true rfl, Nat.le_of_ble_eq_true rfl⟩ rfl (cat_sum (Nat.le_of_ble_eq_true rfl)) ⟨Nat.zero_le _, Nat.zero_le _⟩ dL_rows_30 h (fun v4 S4 h => ?_)
    refine g_istore C (i := 4) (lv' := [(4, .int v4), (0, va_rf x0), (1, .int x1), (2, .int x2), (3, .int x3)]) dL_rows_33 hn4 rfl ?_
    refine g_iload_n C (q := 4) dL_rows_35 rfl rfl ?_
    refine g_aload_n C (q := 1) dL_rows_36 rfl rfl ?_
    refine g_iconst C (v := 1) dL_rows_37 (by decide) ?_
    refine g_callVI C (ci := 5) (As := [.int 1]) (np := 1) (st := [.int x3]) (r := x0) rfl (by decide) (fun b4 q hq => c_X5_count S4 b4 (1 : Int32) q hq) gv_RL_X5_count rfl rfl dsX5_count rfl ⟨Nat.le_of_ble_eq_true rfl, Nat.le_of_ble_eq_true rfl⟩ rfl (cat_sum (Nat.le_of_ble_eq_true rfl)) ⟨Nat.zero_le _, Nat.zero_le _⟩ dL_rows_38 h (fun v5 S5 h => ?_)
    refine g_callSI C (As := [.int x3, .int v5]) (np := 2) (st := []) (fun q hq => c_L_low S5 x3 v5 q hq) gs_RL_L_low rfl rfl dsL_low rfl ⟨Nat.le_of_ble_eq_true rfl, Nat.le_of_ble_eq_true rfl⟩ rfl (cat_sum (Nat.le_of_ble_eq_true rfl)) ⟨Nat.zero_le _, Nat.zero_le _⟩ dL_rows_41 h (fun v6 S6 h => ?_)
    refine g_istore C (i := 5) (lv' := [(5, .int v6), (4, .int v4), (0, va_rf x0), (1, .int x1), (2, .int x2), (3, .int x3)]) dL_rows_44 hn5 rfl ?_
    refine g_aload_n C (q := 2) dL_rows_46 rfl rfl ?_
    refine g_iload C (q := 1) dL_rows_47 rfl ?_
    refine g_callVI C (ci := 5) (As := [.int v4]) (np := 1) (st := []) (r := x0) rfl (by decide) (fun b5 q hq => c_X5_bestGuide S6 b5 v4 q hq) gv_RL_X5_bestGuide rfl rfl dsX5_bestGuide rfl ⟨Nat.le_of_ble_eq_true rfl, Nat.le_of_ble_eq_true rfl⟩ rfl (cat_sum (Nat.le_of_ble_eq_true rfl)) ⟨Nat.zero_le _, Nat.zero_le _⟩ dL_rows_49 h (fun v7 S7 h => ?_)
    refine g_istore C (i := 6) (lv' := [(6, .int v7), (5, .int v6), (4, .int v4), (0, va_rf x0), (1, .int x1), (2, .int x2), (3, .int x3)]) dL_rows_52 hn6 rfl ?_
    refine g_iload_n C (q := 6) dL_rows_54 rfl rfl ?_
    refine g_sipush C (v := 256) dL_rows_55 (by decide) ?_
    refine g_iand C dL_rows_58 ?_
    refine g_if_ne C (tgt := 72) dL_rows_59 (by decide) h (fun h => ?_) (fun h => ?_)
    · refine g_iload C (q := 0) dL_rows_62 rfl ?_
      refine g_if_lt C (tgt := 72) dL_rows_64 (by decide) h (fun h => ?_) (fun h => ?_)
      · refine g_sub (lv' := [(0, va_rf x0), (1, .int x1), (4, .int v4), (5, .int v6), (6, .int v7)]) [3, 4, 2, 1, 0] rfl ?_
        exact w_L_rows_J72 C hn hQ S7 x0 x1 v4 v6 v7 h
      · refine g_iload C (q := 0) dL_rows_67 rfl ?_
        refine g_goto C (tgt := 74) dL_rows_69 (by decide) ?_
        refine g_sub (lv' := [(0, va_rf x0), (1, .int x1), (4, .int v4), (6, .int v7)]) [3, 4, 2, 0] rfl ?_
        exact w_L_rows_J74 C hn hQ S7 x0 x1 v4 v7 v7 h
    · refine g_sub (lv' := [(0, va_rf x0), (1, .int x1), (4, .int v4), (5, .int v6), (6, .int v7)]) [3, 4, 2, 1, 0] rfl ?_
      exact w_L_rows_J72 C hn hQ S7 x0 x1 v4 v6 v7 h
