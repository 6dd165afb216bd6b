abbrev rm_L_accounts : Room := { frames := 6, cells := 1, slots := 4, locals := 140 }
theorem dsL_accounts : yL_accounts.cls ≠ "java/lang/invoke/MethodHandle" ∧ yL_accounts.cls ≠ "java/lang/invoke/VarHandle" ∧ (parseMethodDescriptor yL_accounts.desc).map (fun d => d.parameters.length) = some 1 := by decide +kernel
theorem gv_RL_X5_takes : GoodIn wsL_law (wsV RL 52 RX5 yX5_takes (.code yX5_takes cX5_takes 4 (some .int) :: wsL_law)) := good_V q584 q585 q586 q2 q587
def f_L_accounts_L329_b (rec : Hp → Option Nat → Option Nat → Int32 → Int32 → Int32 → Int32 → Int32 → Option (Int32 × Hp)) (S : Hp) (y0 : Option Nat) (y1 : Option Nat) (y2 : Int32) (y3 : Int32) (y4 : Int32) (y5 : Int32) (y6 : Int32) : Option (Int32 × Hp) :=
 if 4 ≤ y6 then
 ob S 5 y0 fun b1 => cl (f_X5_count S b1 (8 : Int32)) fun v1 S1 =>
 if v1 = y2 then
 ob S1 5 y0 fun b2 => cl (f_X5_count S1 b2 (10 : Int32)) fun v2 S2 =>
 if v2 = y3 then
 if y4 = y3 then
 if y5 = 0 then
 ob S2 5 y0 fun b3 => cl (f_X5_count S2 b3 (1 : Int32)) fun v3 S3 =>
 ob S3 5 y0 fun b4 => cl (f_X5_guide S3 b4 v3 (0 : Int32)) fun v4 S4 =>
 if v4 = (-1) then
 ob S4 5 y0 fun b5 => cl (f_X5_count S4 b5 (3 : Int32)) fun v5 S5 =>
 ob S5 5 y0 fun b6 => cl (f_X5_tour S5 b6 v5 (0 : Int32)) fun v6 S6 =>
 if v6 = (-1) then
 ob S6 5 y0 fun b7 => cl (f_X5_count S6 b7 (13 : Int32)) fun v7 S7 =>
 if v7 = (-2) then
 some ((1 : Int32), S7)
 else
 some ((0 : Int32), S7)
 else
 some ((0 : Int32), S6)
 else
 some ((0 : Int32), S4)
 else
 some ((0 : Int32), S2)
 else
 some ((0 : Int32), S2)
 else
 some ((0 : Int32), S2)
 else
 some ((0 : Int32), S1)
 else
 ob S 5 y0 fun b8 => cl (f_X5_count S b8 (4 + y6)) fun v8 S8 =>
 ar S8 9 y1 y6 fun a1 i1 =>
 if v8 = (zI S8 a1 i1) then
 bnd (y6 + 1) fun v9 =>
 rec S8 y0 y1 y2 y3 y4 y5 v9
 else
 some ((0 : Int32), S8)
def f_L_accounts_L329 : Nat → Hp → Option Nat → Option Nat → Int32 → Int32 → Int32 → Int32 → Int32 → Option (Int32 × Hp)
  | 0 => fun _ _ _ _ _ _ _ _ => none
  | n + 1 => f_L_accounts_L329_b (f_L_accounts_L329 n)

def f_L_accounts_J266 (kout : Hp → Option Nat → Option Nat → Int32 → Int32 → Int32 → Int32 → Int32 → Option (Int32 × Hp)) (S : Hp) (y0 : Option Nat) (y1 : Option Nat) (y2 : Int32) (y3 : Int32) (y4 : Int32) (y5 : Int32) (y6 : Int32) (z0 : Int32) (z1 : Int32) : Option (Int32 × Hp) :=
 if z1 = z0 then
 ob S 5 y0 fun b1 => cl (f_X5_guide S b1 y6 (0 : Int32)) fun v1 S1 =>
 ob S1 5 y0 fun b2 => cl (f_X5_takes S1 b2 v1 y6) fun v2 S2 =>
 if v2 = 1 then
 ob S2 5 y0 fun b3 => cl (f_X5_guide S2 b3 y6 (0 : Int32)) fun v3 S3 =>
 gd (¬ (3 : Int32) = 0) <|
 ob S3 5 y0 fun b4 => cl (f_X5_takes S3 b4 (1 + (v3 - v3 / 3 * 3)) y6) fun v4 S4 =>
 if v4 = 0 then
 ob S4 5 y0 fun b5 => cl (f_X5_takes S4 b5 (4 : Int32) y6) fun v5 S5 =>
 if v5 = (-2) then
 bnd (y6 + 1) fun v6 =>
 kout S5 y0 y1 y2 y3 y4 y5 v6
 else
 some ((0 : Int32), S5)
 else
 some ((0 : Int32), S4)
 else
 some ((0 : Int32), S2)
 else
 some ((0 : Int32), S)

def f_L_accounts_J197 (kout : Hp → Option Nat → Option Nat → Int32 → Int32 → Int32 → Int32 → Int32 → Int32 → Int32 → Option (Int32 × Hp)) (S : Hp) (y0 : Option Nat) (y1 : Option Nat) (y2 : Int32) (y3 : Int32) (y4 : Int32) (y5 : Int32) (y6 : Int32) (y7 : Int32) (y8 : Int32) : Option (Int32 × Hp) :=
 bnd (y8 + (-1)) fun v1 =>
 kout S y0 y1 y2 y3 y4 y5 y6 y7 v1

def f_L_accounts_J189 (kout : Hp → Option Nat → Option Nat → Int32 → Int32 → Int32 → Int32 → Int32 → Int32 → Int32 → Int32 → Option (Int32 × Hp)) (S : Hp) (y0 : Option Nat) (y1 : Option Nat) (y2 : Int32) (y3 : Int32) (y4 : Int32) (y5 : Int32) (y6 : Int32) (y8 : Int32) (y9 : Int32) (z0 : Int32) : Option (Int32 × Hp) :=
 bnd (y9 + 1) fun v1 =>
 kout S y0 y1 y2 y3 y4 y5 y6 z0 y8 v1

def f_L_accounts_L145_b (kout : Hp → Option Nat → Option Nat → Int32 → Int32 → Int32 → Int32 → Int32 → Int32 → Int32 → Option (Int32 × Hp)) (rec : Hp → Option Nat → Option Nat → Int32 → Int32 → Int32 → Int32 → Int32 → Int32 → Int32 → Int32 → Option (Int32 × Hp)) (S : Hp) (y0 : Option Nat) (y1 : Option Nat) (y2 : Int32) (y3 : Int32) (y4 : Int32) (y5 : Int32) (y6 : Int32) (y7 : Int32) (y8 : Int32) (y9 : Int32) : Option (Int32 × Hp) :=
 ob S 5 y0 fun b1 => cl (f_X5_tour S b1 y8 (4 : Int32)) fun v1 S1 =>
 if v1 ≤ y9 then
 f_L_accounts_J197 kout S1 y0 y1 y2 y3 y4 y5 y6 y7 y8
 else
 ob S1 5 y0 fun b2 => cl (f_X5_tour S1 b2 y8 (6 : Int32)) fun v2 S2 =>
 if v2 = 0 then
 ob S2 5 y0 fun b3 => cl (f_X5_rope S2 b3 y8 y9 (0 : Int32)) fun v3 S3 =>
 if v3 = y6 then
 f_L_accounts_J189 rec S3 y0 y1 y2 y3 y4 y5 y6 y8 y9 y8
 else
 f_L_accounts_J189 rec S3 y0 y1 y2 y3 y4 y5 y6 y8 y9 y7
 else
 f_L_accounts_J197 kout S2 y0 y1 y2 y3 y4 y5 y6 y7 y8
def f_L_accounts_L145 (kout : Hp → Option Nat → Option Nat → Int32 → Int32 → Int32 → Int32 → Int32 → Int32 → Int32 → Option (Int32 × Hp)) : Nat → Hp → Option Nat → Option Nat → Int32 → Int32 → Int32 → Int32 → Int32 → Int32 → Int32 → Int32 → Option (Int32 × Hp)
  | 0 => fun _ _ _ _ _ _ _ _ _ _ _ => none
  | n + 1 => f_L_accounts_L145_b kout (f_L_accounts_L145 kout n)

def f_L_accounts_L137_b (kout : Hp → Option Nat → Option Nat → Int32 → Int32 → Int32 → Int32 → Int32 → Option (Int32 × Hp)) (rec : Hp → Option Nat → Option Nat → Int32 → Int32 → Int32 → Int32 → Int32 → Int32 → Int32 → Option (Int32 × Hp)) (S : Hp) (y0 : Option Nat) (y1 : Option Nat) (y2 : Int32) (y3 : Int32) (y4 : Int32) (y5 : Int32) (y6 : Int32) (y7 : Int32) (y8 : Int32) : Option (Int32 × Hp) :=
 if y8 < 0 then
 ob S 5 y0 fun b1 => cl (f_X5_guide S b1 y6 (5 : Int32)) fun v1 S1 =>
 bnd ((y4 + v1)) fun v2 =>
 ob S1 5 y0 fun b2 => cl (f_X5_guide S1 b2 y6 (4 : Int32)) fun v3 S2 =>
 bnd ((y5 - v3)) fun v4 =>
 ob S2 5 y0 fun b3 => cl (f_X5_guide S2 b3 y6 (3 : Int32)) fun v5 S3 =>
 if v5 = y7 then
 ob S3 5 y0 fun b4 => cl (f_X5_guide S3 b4 y6 (2 : Int32)) fun v6 S4 =>
 ob S4 5 y0 fun b5 => cl (f_X5_guide S4 b5 y6 (1 : Int32)) fun v7 S5 =>
 ob S5 5 y0 fun b6 => cl (f_X5_count S5 b6 (0 : Int32)) fun v8 S6 =>
 if v7 < v8 then
 f_L_accounts_J266 kout S6 y0 y1 y2 y3 v2 v4 y6 (0 : Int32) v6
 else
 f_L_accounts_J266 kout S6 y0 y1 y2 y3 v2 v4 y6 (1 : Int32) v6
 else
 some ((0 : Int32), S3)
 else
 f_L_accounts_L145 rec 1000 S y0 y1 y2 y3 y4 y5 y6 y7 y8 (0 : Int32)
def f_L_accounts_L137 (kout : Hp → Option Nat → Option Nat → Int32 → Int32 → Int32 → Int32 → Int32 → Option (Int32 × Hp)) : Nat → Hp → Option Nat → Option Nat → Int32 → Int32 → Int32 → Int32 → Int32 → Int32 → Int32 → Option (Int32 × Hp)
  | 0 => fun _ _ _ _ _ _ _ _ _ _ => none
  | n + 1 => f_L_accounts_L137_b kout (f_L_accounts_L137 kout n)

def f_L_accounts_L114_b (rec : Hp → Option Nat → Option Nat → Int32 → Int32 → Int32 → Int32 → Int32 → Option (Int32 × Hp)) (S : Hp) (y0 : Option Nat) (y1 : Option Nat) (y2 : Int32) (y3 : Int32) (y4 : Int32) (y5 : Int32) (y6 : Int32) : Option (Int32 × Hp) :=
 ob S 5 y0 fun b1 => cl (f_X5_count S b1 (1 : Int32)) fun v1 S1 =>
 if v1 ≤ y6 then
 f_L_accounts_L329 1000 S1 y0 y1 y2 y3 y4 y5 (0 : Int32)
 else
 ob S1 5 y0 fun b2 => cl (f_X5_count S1 b2 (3 : Int32)) fun v2 S2 =>
 bnd ((v2 - 1)) fun v3 =>
 f_L_accounts_L137 rec 1000 S2 y0 y1 y2 y3 y4 y5 y6 (-5 : Int32) v3
def f_L_accounts_L114 : Nat → Hp → Option Nat → Option Nat → Int32 → Int32 → Int32 → Int32 → Int32 → Option (Int32 × Hp)
  | 0 => fun _ _ _ _ _ _ _ _ => none
  | n + 1 => f_L_accounts_L114_b (f_L_accounts_L114 n)

def f_L_accounts_J102 (kout : Hp → Option Nat → Option Nat → Int32 → Int32 → Int32 → Int32 → Int32 → Option (Int32 × Hp)) (S : Hp) (y0 : Option Nat) (y1 : Option Nat) (y2 : Int32) (y3 : Int32) (y4 : Int32) (y6 : Int32) (z0 : Int32) (z1 : Int32) : Option (Int32 × Hp) :=
 bnd ((z1 + z0)) fun v1 =>
 bnd (y6 + 1) fun v2 =>
 kout S y0 y1 y2 y3 y4 v1 v2

def f_L_accounts_J75 (kout : Hp → Option Nat → Option Nat → Int32 → Int32 → Int32 → Int32 → Int32 → Option (Int32 × Hp)) (S : Hp) (y0 : Option Nat) (y1 : Option Nat) (y2 : Int32) (y4 : Int32) (y5 : Int32) (y6 : Int32) (z0 : Int32) (z1 : Int32) : Option (Int32 × Hp) :=
 bnd ((z1 + z0)) fun v1 =>
 ob S 5 y0 fun b1 => cl (f_X5_tour S b1 y6 (6 : Int32)) fun v2 S1 =>
 if v2 = 1 then
 ob S1 5 y0 fun b2 => cl (f_X5_tour S1 b2 y6 (4 : Int32)) fun v3 S2 =>
 f_L_accounts_J102 kout S2 y0 y1 y2 v1 y4 y6 v3 y5
 else
 f_L_accounts_J102 kout S1 y0 y1 y2 v1 y4 y6 (0 : Int32) y5

def f_L_accounts_L17_b (rec : Hp → Option Nat → Option Nat → Int32 → Int32 → Int32 → Int32 → Int32 → Option (Int32 × Hp)) (S : Hp) (y0 : Option Nat) (y1 : Option Nat) (y2 : Int32) (y3 : Int32) (y4 : Int32) (y5 : Int32) (y6 : Int32) : Option (Int32 × Hp) :=
 ob S 5 y0 fun b1 => cl (f_X5_count S b1 (3 : Int32)) fun v1 S1 =>
 if v1 ≤ y6 then
 f_L_accounts_L114 1000 S1 y0 y1 y2 y3 y4 y5 (0 : Int32)
 else
 ob S1 5 y0 fun b2 => cl (f_X5_tour S1 b2 y6 (6 : Int32)) fun v2 S2 =>
 ar S2 9 y1 v2 fun a1 i1 =>
 ar S2 9 y1 v2 fun a2 i2 => bnd (wI S2 a2 i2 ((zI S2 a1 i1) + 1)) fun S3 =>
 ob S3 5 y0 fun b3 => cl (f_X5_tour S3 b3 y6 (5 : Int32)) fun v3 S4 =>
 bnd ((y2 + v3)) fun v4 =>
 ob S4 5 y0 fun b4 => cl (f_X5_tour S4 b4 y6 (6 : Int32)) fun v5 S5 =>
 if v5 = 1 then
 ob S5 5 y0 fun b5 => cl (f_X5_tour S5 b5 y6 (3 : Int32)) fun v6 S6 =>
 f_L_accounts_J75 rec S6 y0 y1 v4 y4 y5 y6 v6 y3
 else
 f_L_accounts_J75 rec S5 y0 y1 v4 y4 y5 y6 (0 : Int32) y3
def f_L_accounts_L17 : Nat → Hp → Option Nat → Option Nat → Int32 → Int32 → Int32 → Int32 → Int32 → Option (Int32 × Hp)
  | 0 => fun _ _ _ _ _ _ _ _ => none
  | n + 1 => f_L_accounts_L17_b (f_L_accounts_L17 n)
def f_L_accounts_q (q : Nat) (S : Hp) (x0 : Option Nat) : Option (Int32 × Hp) :=
 f_L_accounts_L17 1000 S x0 (some q) (0 : Int32) (0 : Int32) (0 : Int32) (0 : Int32) (0 : Int32)
set_option maxHeartbeats 4000000 in
set_option maxRecDepth 100000 in
theorem w_L_accounts_L329 {X : Cx} (C : CxOK X cL_accounts RL rm_L_accounts) (hn : xn X = 10) {S0 : Hp} {o : Int32 × Hp} {q : Nat} (hQ : QI X (some .boolean) S0 1 4 (o.1, S0)) (hKp : Kp S0 q o.2) : ∀ (fuel : Nat) (S : Hp) (y0 : Option Nat) (y1 : Option Nat) (y2 : Int32) (y3 : Int32) (y4 : Int32) (y5 : Int32) (y6 : Int32), f_L_accounts_L329 fuel S y0 y1 y2 y3 y4 y5 y6 = some o → GW X 1 4 S 329 [(0, va_rf y0), (1, va_rf y1), (2, .int y2), (3, .int y3), (4, .int y4), (5, .int y5), (6, .int y6)] [] := by
  have hn6 : 6 < xn X := by rw [hn]; decide
  intro fuel
  induction fuel with
  | zero => intro S y0 y1 y2 y3 y4 y5 y6 h; cases (show none = some o from h)
  | succ fuel ih =>
    intro S y0 y1 y2 y3 y4 y5 y6 h
    have h : f_L_accounts_L329_b (f_L_accounts_L329 fuel) S y0 y1 y2 y3 y4 y5 y6 = some o := h
    unfold f_L_accounts_L329_b at h
    refine g_iload C (q := 6) dL_accounts_329 rfl ?_
    refine g_iconst C (v := 4) dL_accounts_331 (by decide) ?_
    refine g_icmp_ge C (tgt := 358) dL_accounts_332 (by decide) h (fun h => ?_) (fun h => ?_)
    · refine g_aload_n C (q := 0) dL_accounts_358 rfl rfl ?_
      refine g_bipush C (v := 8) dL_accounts_359 (by decide) ?_
      refine g_callVI C (ci := 5) (As := [.int 8]) (np := 1) (st := []) (r := y0) rfl (by decide) (fun b1 q hq => c_X5_count S b1 (8 : Int32) q hq) gv_RL_X5_count rfl rfl dsX5_count rfl ⟨Nat.le_of_ble_eq_true rfl, Nat.le_of_ble_eq_true rfl⟩ rfl (cat_sum (Nat.le_of_ble_eq_true rfl)) ⟨Nat.le_refl _, Nat.le_refl _⟩ dL_accounts_361 h (fun v1 S1 h => ?_)
      refine g_iload_n C (q := 2) dL_accounts_364 rfl rfl ?_
      refine g_icmp_ne C (tgt := 432) dL_accounts_365 (by decide) h (fun h => ?_) (fun h => ?_)
      · refine g_aload_n C (q := 0) dL_accounts_368 rfl rfl ?_
        refine g_bipush C (v := 10) dL_accounts_369 (by decide) ?_
        refine g_callVI C (ci := 5) (As := [.int 10]) (np := 1) (st := []) (r := y0) rfl (by decide) (fun b2 q hq => c_X5_count S1 b2 (10 : Int32) q hq) gv_RL_X5_count rfl rfl dsX5_count rfl ⟨Nat.le_of_ble_eq_true rfl, Nat.le_of_ble_eq_true rfl⟩ rfl (cat_sum (Nat.le_of_ble_eq_true rfl)) ⟨Nat.le_refl _, Nat.le_refl _⟩ dL_accounts_371 h (fun v2 S2 h => ?_)
        refine g_iload_n C (q := 3) dL_accounts_374 rfl rfl ?_
        refine g_icmp_ne C (tgt := 432) dL_accounts_375 (by decide) h (fun h => ?_) (fun h => ?_)
        · refine g_iload C (q := 4) dL_accounts_378 rfl ?_
          refine g_iload_n C (q := 3) dL_accounts_380 rfl rfl ?_
          refine g_icmp_ne C (tgt := 432) dL_accounts_381 (by decide) h (fun h => ?_) (fun h => ?_)
          · refine g_iload C (q := 5) dL_accounts_384 rfl ?_
            refine g_if_ne C (tgt := 432) dL_accounts_386 (by decide) h (fun h => ?_) (fun h => ?_)
            · refine g_aload_n C (q := 0) dL_accounts_389 rfl rfl ?_
              refine g_aload_n C (q := 0) dL_accounts_390 rfl rfl ?_
              refine g_iconst C (v := 1) dL_accounts_391 (by decide) ?_
              refine g_callVI C (ci := 5) (As := [.int 1]) (np := 1) (st := [va_rf y0]) (r := y0) rfl (by decide) (fun b3 q hq => c_X5_count S2 b3 (1 : Int32) q hq) gv_RL_X5_count rfl rfl dsX5_count rfl ⟨Nat.le_of_ble_eq_true rfl, Nat.le_of_ble_eq_true rfl⟩ rfl (cat_sum (Nat.le_of_ble_eq_true rfl)) ⟨Nat.le_refl _, Nat.le_refl _⟩ dL_accounts_392 h (fun v3 S3 h => ?_)
              refine g_iconst C (v := 0) dL_accounts_395 (by decide) ?_
              refine g_callVI C (ci := 5) (As := [.int v3, .int 0]) (np := 2) (st := []) (r := y0) rfl (by decide) (fun b4 q hq => c_X5_guide S3 b4 v3 (0 : Int32) q hq) gv_RL_X5_guide rfl rfl dsX5_guide rfl ⟨Nat.le_of_ble_eq_true rfl, Nat.le_of_ble_eq_true rfl⟩ rfl (cat_sum (Nat.le_of_ble_eq_true rfl)) ⟨Nat.le_refl _, Nat.le_refl _⟩ dL_accounts_396 h (fun v4 S4 h => ?_)
              refine g_iconst C (v := (-1)) dL_accounts_399 (by decide) ?_
              refine g_icmp_ne C (tgt := 432) dL_accounts_400 (by decide) h (fun h => ?_) (fun h => ?_)
              · refine g_aload_n C (q := 0) dL_accounts_403 rfl rfl ?_
                refine g_aload_n C (q := 0) dL_accounts_404 rfl rfl ?_
                refine g_iconst C (v := 3) dL_accounts_405 (by decide) ?_
                refine g_callVI C (ci := 5) (As := [.int 3]) (np := 1) (st := [va_rf y0]) (r := y0) rfl (by decide) (fun b5 q hq => c_X5_count S4 b5 (3 : Int32) q hq) gv_RL_X5_count rfl rfl dsX5_count rfl ⟨Nat.le_of_ble_eq_true rfl, Nat.le_of_ble_eq_true rfl⟩ rfl (cat_sum (Nat.le_of_ble_eq_true rfl)) ⟨Nat.le_refl _, Nat.le_refl _⟩ dL_accounts_406 h (fun v5 S5 h => ?_)
                refine g_iconst C (v := 0) dL_accounts_409 (by decide) ?_
                refine g_callVI C (ci := 5) (As := [.int v5, .int 0]) (np := 2) (st := []) (r := y0) rfl (by decide) (fun b6 q hq => c_X5_tour S5 b6 v5 (0 : Int32) q hq) gv_RL_X5_tour rfl rfl dsX5_tour rfl ⟨Nat.le_of_ble_eq_true rfl, Nat.le_of_ble_eq_true rfl⟩ rfl (cat_sum (Nat.le_of_ble_eq_true rfl)) ⟨Nat.le_refl _, Nat.le_refl _⟩ dL_accounts_410 h (fun v6 S6 h => ?_)
                refine g_iconst C (v := (-1)) dL_accounts_413 (by decide) ?_
                refine g_icmp_ne C (tgt := 432) dL_accounts_414 (by decide) h (fun h => ?_) (fun h => ?_)
                · refine g_aload_n C (q := 0) dL_accounts_417 rfl rfl ?_
                  refine g_bipush C (v := 13) dL_accounts_418 (by decide) ?_
                  refine g_callVI C (ci := 5) (As := [.int 13]) (np := 1) (st := []) (r := y0) rfl (by decide) (fun b7 q hq => c_X5_count S6 b7 (13 : Int32) q hq) gv_RL_X5_count rfl rfl dsX5_count rfl ⟨Nat.le_of_ble_eq_true rfl, Nat.le_of_ble_eq_true rfl⟩ rfl (cat_sum (Nat.le_of_ble_eq_true rfl)) ⟨Nat.le_refl _, Nat.le_refl _⟩ dL_accounts_420 h (fun v7 S7 h => ?_)
                  refine g_bipush C (v := (-2)) dL_accounts_423 (by decide) ?_
                  refine g_icmp_ne C (tgt := 432) dL_accounts_425 (by decide) h (fun h => ?_) (fun h => ?_)
                  · refine g_iconst C (v := 1) dL_accounts_428 (by decide) ?_
                    refine g_goto C (tgt := 433) dL_accounts_429 (by decide) ?_
                    exact g_zretA C hQ hKp (by decide) dL_accounts_433 h
                  · refine g_iconst C (v := 0) dL_accounts_432 (by decide) ?_
                    exact g_zretA C hQ hKp (by decide) dL_accounts_433 h
                · refine g_iconst C (v := 0) dL_accounts_432 (by decide) ?_
                  exact g_zretA C hQ hKp (by decide) dL_accounts_433 h
              · refine g_iconst C (v := 0) dL_accounts_432 (by decide) ?_
                exact g_zretA C hQ hKp (by decide) dL_accounts_433 h
            · refine g_iconst C (v := 0) dL_accounts_432 (by decide) ?_
              exact g_zretA C hQ hKp (by decide) dL_accounts_433 h
          · refine g_iconst C (v := 0) dL_accounts_432 (by decide) ?_
            exact g_zretA C hQ hKp (by decide) dL_accounts_433 h
        · refine g_iconst C (v := 0) dL_accounts_432 (by decide) ?_
          exact g_zretA C hQ hKp (by decide) dL_accounts_433 h
      · refine g_iconst C (v := 0) dL_accounts_432 (by decide) ?_
        exact g_zretA C hQ hKp (by decide) dL_accounts_433 h
    · refine g_aload_n C (q := 0) dL_accounts_335 rfl rfl ?_
      refine g_iconst C (v := 4) dL_accounts_336 (by decide) ?_
      refine g_iload C (q := 6) dL_accounts_337 rfl ?_
      refine g_iadd C dL_accounts_339 ?_
      refine g_callVI C (ci := 5) (As := [.int (4 + y6)]) (np := 1) (st := []) (r := y0) rfl (by decide) (fun b8 q hq => c_X5_count S b8 (4 + y6) q hq) gv_RL_X5_count rfl rfl dsX5_count rfl ⟨Nat.le_of_ble_eq_true rfl, Nat.le_of_ble_eq_true rfl⟩ rfl (cat_sum (Nat.le_of_ble_eq_true rfl)) ⟨Nat.le_refl _, Nat.le_refl _⟩ dL_accounts_340 h (fun v8 S8 h => ?_)
      refine g_aload_n C (q := 1) dL_accounts_343 rfl rfl ?_
      refine g_iload C (q := 6) dL_accounts_344 rfl ?_
      refine g_iald C dL_accounts_346 h (fun a1 i1 h => ?_)
      refine g_icmp_eq C (tgt := 352) dL_accounts_347 (by decide) h (fun h => ?_) (fun h => ?_)
      · obtain ⟨v9, ev9, h⟩ := bnd_ex h
        refine g_iinc C (i := 6) (lv' := [(6, .int v9), (0, va_rf y0), (1, va_rf y1), (2, .int y2), (3, .int y3), (4, .int y4), (5, .int y5)]) (q := 6) v9 dL_accounts_352 rfl ev9 hn6 rfl ?_
        refine g_goto C (tgt := 329) dL_accounts_355 (by decide) ?_
        refine g_sub (lv' := [(0, va_rf y0), (1, va_rf y1), (2, .int y2), (3, .int y3), (4, .int y4), (5, .int y5), (6, .int v9)]) [1, 2, 3, 4, 5, 6, 0] rfl ?_
        exact ih S8 y0 y1 y2 y3 y4 y5 v9 h
      · refine g_iconst C (v := 0) dL_accounts_350 (by decide) ?_
        exact g_zretA C hQ hKp (by decide) dL_accounts_351 h

set_option maxHeartbeats 4000000 in
set_option maxRecDepth 100000 in
theorem w_L_accounts_J266 {X : Cx} (C : CxOK X cL_accounts RL rm_L_accounts) (hn : xn X = 10) {S0 : Hp} {o : Int32 × Hp} {q : Nat} (hQ : QI X (some .boolean) S0 1 4 (o.1, S0)) (hKp : Kp S0 q o.2) {kout : Hp → Option Nat → Option Nat → Int32 → Int32 → Int32 → Int32 → Int32 → Option (Int32 × Hp)} (HK : ∀ (S : Hp) (y0 : Option Nat) (y1 : Option Nat) (y2 : Int32) (y3 : Int32) (y4 : Int32) (y5 : Int32) (y6 : Int32), kout S y0 y1 y2 y3 y4 y5 y6 = some o → GW X 1 4 S 114 [(0, va_rf y0), (1, va_rf y1), (2, .int y2), (3, .int y3), (4, .int y4), (5, .int y5), (6, .int y6)] [])  (S : Hp) (y0 : Option Nat) (y1 : Option Nat) (y2 : Int32) (y3 : Int32) (y4 : Int32) (y5 : Int32) (y6 : Int32) (z0 : Int32) (z1 : Int32) (h : f_L_accounts_J266 kout S y0 y1 y2 y3 y4 y5 y6 z0 z1 = some o) : GW X 1 4 S 266 [(0, va_rf y0), (1, va_rf y1), (2, .int y2), (3, .int y3), (4, .int y4), (5, .int y5), (6, .int y6)] [.int z0, .int z1] := by
  have hn6 : 6 < xn X := by rw [hn]; decide
  unfold f_L_accounts_J266 at h
  refine g_icmp_ne C (tgt := 318) dL_accounts_266 (by decide) h (fun h => ?_) (fun h => ?_)
  · refine g_aload_n C (q := 0) dL_accounts_269 rfl rfl ?_
    refine g_aload_n C (q := 0) dL_accounts_270 rfl rfl ?_
    refine g_iload C (q := 6) dL_accounts_271 rfl ?_
    refine g_iconst C (v := 0) dL_accounts_273 (by decide) ?_
    refine g_callVI C (ci := 5) (As := [.int y6, .int 0]) (np := 2) (st := [va_rf y0]) (r := y0) rfl (by decide) (fun b1 q hq => c_X5_guide S b1 y6 (0 : Int32) q hq) gv_RL_X5_guide rfl rfl dsX5_guide rfl ⟨Nat.le_of_ble_eq_true rfl, Nat.le_of_ble_eq_true rfl⟩ rfl (cat_sum (Nat.le_of_ble_eq_true rfl)) ⟨Nat.le_refl _, Nat.le_refl _⟩ dL_accounts_274 h (fun v1 S1 h => ?_)
    refine g_iload C (q := 6) dL_accounts_277 rfl ?_
    refine g_callVI C (ci := 5) (As := [.int v1, .int y6]) (np := 2) (st := []) (r := y0) rfl (by decide) (fun b2 q hq => c_X5_takes S1 b2 v1 y6 q hq) gv_RL_X5_takes rfl rfl dsX5_takes rfl ⟨Nat.le_of_ble_eq_true rfl, Nat.le_of_ble_eq_true rfl⟩ rfl (cat_sum (Nat.le_of_ble_eq_true rfl)) ⟨Nat.le_refl _, Nat.le_refl _⟩ dL_accounts_279 h (fun v2 S2 h => ?_)
    refine g_iconst C (v := 1) dL_accounts_282 (by decide) ?_
    refine g_icmp_ne C (tgt := 318) dL_accounts_283 (by decide) h (fun h => ?_) (fun h => ?_)
    · refine g_aload_n C (q := 0) dL_accounts_286 rfl rfl ?_
      refine g_iconst C (v := 1) dL_accounts_287 (by decide) ?_
      refine g_aload_n C (q := 0) dL_accounts_288 rfl rfl ?_
      refine g_iload C (q := 6) dL_accounts_289 rfl ?_
      refine g_iconst C (v := 0) dL_accounts_291 (by decide) ?_
      refine g_callVI C (ci := 5) (As := [.int y6, .int 0]) (np := 2) (st := [.int 1, va_rf y0]) (r := y0) rfl (by decide) (fun b3 q hq => c_X5_guide S2 b3 y6 (0 : Int32) q hq) gv_RL_X5_guide rfl rfl dsX5_guide rfl ⟨Nat.le_of_ble_eq_true rfl, Nat.le_of_ble_eq_true rfl⟩ rfl (cat_sum (Nat.le_of_ble_eq_true rfl)) ⟨Nat.le_refl _, Nat.le_refl _⟩ dL_accounts_292 h (fun v3 S3 h => ?_)
      refine g_iconst C (v := 3) dL_accounts_295 (by decide) ?_
      refine g_irem C dL_accounts_296 h (fun h => ?_)
      refine g_iadd C dL_accounts_297 ?_
      refine g_iload C (q := 6) dL_accounts_298 rfl ?_
      refine g_callVI C (ci := 5) (As := [.int (1 + (v3 - v3 / 3 * 3)), .int y6]) (np := 2) (st := []) (r := y0) rfl (by decide) (fun b4 q hq => c_X5_takes S3 b4 (1 + (v3 - v3 / 3 * 3)) y6 q hq) gv_RL_X5_takes rfl rfl dsX5_takes rfl ⟨Nat.le_of_ble_eq_true rfl, Nat.le_of_ble_eq_true rfl⟩ rfl (cat_sum (Nat.le_of_ble_eq_true rfl)) ⟨Nat.le_refl _, Nat.le_refl _⟩ dL_accounts_300 h (fun v4 S4 h => ?_)
      refine g_if_ne C (tgt := 318) dL_accounts_303 (by decide) h (fun h => ?_) (fun h => ?_)
      · refine g_aload_n C (q := 0) dL_accounts_306 rfl rfl ?_
        refine g_iconst C (v := 4) dL_accounts_307 (by decide) ?_
        refine g_iload C (q := 6) dL_accounts_308 rfl ?_
        refine g_callVI C (ci := 5) (As := [.int 4, .int y6]) (np := 2) (st := []) (r := y0) rfl (by decide) (fun b5 q hq => c_X5_takes S4 b5 (4 : Int32) y6 q hq) gv_RL_X5_takes rfl rfl dsX5_takes rfl ⟨Nat.le_of_ble_eq_true rfl, Nat.le_of_ble_eq_true rfl⟩ rfl (cat_sum (Nat.le_of_ble_eq_true rfl)) ⟨Nat.le_refl _, Nat.le_refl _⟩ dL_accounts_310 h (fun v5 S5 h => ?_)
        refine g_bipush C (v := (-2)) dL_accounts_313 (by decide) ?_
        refine g_icmp_eq C (tgt := 320) dL_accounts_315 (by decide) h (fun h => ?_) (fun h => ?_)
        · obtain ⟨v6, ev6, h⟩ := bnd_ex h
          refine g_iinc C (i := 6) (lv' := [(6, .int v6), (0, va_rf y0), (1, va_rf y1), (2, .int y2), (3, .int y3), (4, .int y4), (5, .int y5)]) (q := 6) v6 dL_accounts_320 rfl ev6 hn6 rfl ?_
          refine g_goto C (tgt := 114) dL_accounts_323 (by decide) ?_
          refine g_sub (lv' := [(0, va_rf y0), (1, va_rf y1), (2, .int y2), (3, .int y3), (4, .int y4), (5, .int y5), (6, .int v6)]) [1, 2, 3, 4, 5, 6, 0] rfl ?_
          exact HK S5 y0 y1 y2 y3 y4 y5 v6 h
        · refine g_iconst C (v := 0) dL_accounts_318 (by decide) ?_
          exact g_zretA C hQ hKp (by decide) dL_accounts_319 h
      · refine g_iconst C (v := 0) dL_accounts_318 (by decide) ?_
        exact g_zretA C hQ hKp (by decide) dL_accounts_319 h
    · refine g_iconst C (v := 0) dL_accounts_318 (by decide) ?_
      exact g_zretA C hQ hKp (by decide) dL_accounts_319 h
  · refine g_iconst C (v := 0) dL_accounts_318 (by decide) ?_
    exact g_zretA C hQ hKp (by decide) dL_accounts_319 h

set_option maxHeartbeats 4000000 in
set_option maxRecDepth 100000 in
theorem w_L_accounts_J197 {X : Cx} (C : CxOK X cL_accounts RL rm_L_accounts) (hn : xn X = 10) {S0 : Hp} {o : Int32 × Hp} {q : Nat} (hQ : QI X (some .boolean) S0 1 4 (o.1, S0)) (hKp : Kp S0 q o.2) {kout : Hp → Option Nat → Option Nat → Int32 → Int32 → Int32 → Int32 → Int32 → Int32 → Int32 → Option (Int32 × Hp)} (HK : ∀ (S : Hp) (y0 : Option Nat) (y1 : Option Nat) (y2 : Int32) (y3 : Int32) (y4 : Int32) (y5 : Int32) (y6 : Int32) (y7 : Int32) (y8 : Int32), kout S y0 y1 y2 y3 y4 y5 y6 y7 y8 = some o → GW X 1 4 S 137 [(0, va_rf y0), (1, va_rf y1), (2, .int y2), (3, .int y3), (4, .int y4), (5, .int y5), (6, .int y6), (7, .int y7), (8, .int y8)] [])  (S : Hp) (y0 : Option Nat) (y1 : Option Nat) (y2 : Int32) (y3 : Int32) (y4 : Int32) (y5 : Int32) (y6 : Int32) (y7 : Int32) (y8 : Int32) (h : f_L_accounts_J197 kout S y0 y1 y2 y3 y4 y5 y6 y7 y8 = some o) : GW X 1 4 S 197 [(0, va_rf y0), (1, va_rf y1), (2, .int y2), (3, .int y3), (4, .int y4), (5, .int y5), (6, .int y6), (7, .int y7), (8, .int y8)] [] := by
  have hn8 : 8 < xn X := by rw [hn]; decide
  unfold f_L_accounts_J197 at h
  obtain ⟨v1, ev1, h⟩ := bnd_ex h
  refine g_iinc C (i := 8) (lv' := [(8, .int v1), (0, va_rf y0), (1, va_rf y1), (2, .int y2), (3, .int y3), (4, .int y4), (5, .int y5), (6, .int y6), (7, .int y7)]) (q := 8) v1 dL_accounts_197 rfl ev1 hn8 rfl ?_
  refine g_goto C (tgt := 137) dL_accounts_200 (by decide) ?_
  refine g_sub (lv' := [(0, va_rf y0), (1, va_rf y1), (2, .int y2), (3, .int y3), (4, .int y4), (5, .int y5), (6, .int y6), (7, .int y7), (8, .int v1)]) [1, 2, 3, 4, 5, 6, 7, 8, 0] rfl ?_
  exact HK S y0 y1 y2 y3 y4 y5 y6 y7 v1 h

set_option maxHeartbeats 4000000 in
set_option maxRecDepth 100000 in
theorem w_L_accounts_J189 {X : Cx} (C : CxOK X cL_accounts RL rm_L_accounts) (hn : xn X = 10) {S0 : Hp} {o : Int32 × Hp} {q : Nat} (hQ : QI X (some .boolean) S0 1 4 (o.1, S0)) (hKp : Kp S0 q o.2) {kout : Hp → Option Nat → Option Nat → Int32 → Int32 → Int32 → Int32 → Int32 → Int32 → Int32 → Int32 → Option (Int32 × Hp)} (HK : ∀ (S : Hp) (y0 : Option Nat) (y1 : Option Nat) (y2 : Int32) (y3 : Int32) (y4 : Int32) (y5 : Int32) (y6 : Int32) (y7 : Int32) (y8 : Int32) (y9 : Int32), kout S y0 y1 y2 y3 y4 y5 y6 y7 y8 y9 = some o → GW X 1 4 S 145 [(0, va_rf y0), (1, va_rf y1), (2, .int y2), (3, .int y3), (4, .int y4), (5, .int y5), (6, .int y6), (7, .int y7), (8, .int y8), (9, .int y9)] [])  (S : Hp) (y0 : Option Nat) (y1 : Option Nat) (y2 : Int32) (y3 : Int32) (y4 : Int32) (y5 : Int32) (y6 : Int32) (y8 : Int32) (y9 : Int32) (z0 : Int32) (h : f_L_accounts_J189 kout S y0 y1 y2 y3 y4 y5 y6 y8 y9 z0 = some o) : GW X 1 4 S 189 [(0, va_rf y0), (1, va_rf y1), (2, .int y2), (3, .int y3), (4, .int y4), (5, .int y5), (6, .int y6), (8, .int y8), (9, .int y9)] [.int z0] := by
  have hn7 : 7 < xn X := by rw [hn]; decide
  have hn9 : 9 < xn X := by rw [hn]; decide
  unfold f_L_accounts_J189 at h
  refine g_istore C (i := 7) (lv' := [(7, .int z0), (0, va_rf y0), (1, va_rf y1), (2, .int y2), (3, .int y3), (4, .int y4), (5, .int y5), (6, .int y6), (8, .int y8), (9, .int y9)]) dL_accounts_189 hn7 rfl ?_
  obtain ⟨v1, ev1, h⟩ := bnd_ex h
  refine g_iinc C (i := 9) (lv' := [(9, .int v1), (7, .int z0), (0, va_rf y0), (1, va_rf y1), (2, .int y2), (3, .int y3), (4, .int y4), (5, .int y5), (6, .int y6), (8, .int y8)]) (q := 9) v1 dL_accounts_191 rfl ev1 hn9 rfl ?_
  refine g_goto C (tgt := 145) dL_accounts_194 (by decide) ?_
  refine g_sub (lv' := [(0, va_rf y0), (1, va_rf y1), (2, .int y2), (3, .int y3), (4, .int y4), (5, .int y5), (6, .int y6), (7, .int z0), (8, .int y8), (9, .int v1)]) [2, 3, 4, 5, 6, 7, 8, 1, 9, 0] rfl ?_
  exact HK S y0 y1 y2 y3 y4 y5 y6 z0 y8 v1 h

set_option maxHeartbeats 4000000 in
set_option maxRecDepth 100000 in
theorem w_L_accounts_L145 {X : Cx} (C : CxOK X cL_accounts RL rm_L_accounts) (hn : xn X = 10) {S0 : Hp} {o : Int32 × Hp} {q : Nat} (hQ : QI X (some .boolean) S0 1 4 (o.1, S0)) (hKp : Kp S0 q o.2) {kout : Hp → Option Nat → Option Nat → Int32 → Int32 → Int32 → Int32 → Int32 → Int32 → Int32 → Option (Int32 × Hp)} (HK : ∀ (S : Hp) (y0 : Option Nat) (y1 : Option Nat) (y2 : Int32) (y3 : Int32) (y4 : Int32) (y5 : Int32) (y6 : Int32) (y7 : Int32) (y8 : Int32), kout S y0 y1 y2 y3 y4 y5 y6 y7 y8 = some o → GW X 1 4 S 137 [(0, va_rf y0), (1, va_rf y1), (2, .int y2), (3, .int y3), (4, .int y4), (5, .int y5), (6, .int y6), (7, .int y7), (8, .int y8)] []) : ∀ (fuel : Nat) (S : Hp) (y0 : Option Nat) (y1 : Option Nat) (y2 : Int32) (y3 : Int32) (y4 : Int32) (y5 : Int32) (y6 : Int32) (y7 : Int32) (y8 : Int32) (y9 : Int32), f_L_accounts_L145 kout fuel S y0 y1 y2 y3 y4 y5 y6 y7 y8 y9 = some o → GW X 1 4 S 145 [(0, va_rf y0), (1, va_rf y1), (2, .int y2), (3, .int y3), (4, .int y4), (5, .int y5), (6, .int y6), (7, .int y7), (8, .int y8), (9, .int y9)] [] := by
  intro fuel
  induction fuel with
  | zero => intro S y0 y1 y2 y3 y4 y5 y6 y7 y8 y9 h; cases (show none = some o from h)
  | succ fuel ih =>
    intro S y0 y1 y2 y3 y4 y5 y6 y7 y8 y9 h
    have h : f_L_accounts_L145_b kout (f_L_accounts_L145 kout fuel) S y0 y1 y2 y3 y4 y5 y6 y7 y8 y9 = some o := h
    unfold f_L_accounts_L145_b at h
    refine g_iload C (q := 9) dL_accounts_145 rfl ?_
    refine g_aload_n C (q := 0) dL_accounts_147 rfl rfl ?_
    refine g_iload C (q := 8) dL_accounts_148 rfl ?_
    refine g_iconst C (v := 4) dL_accounts_150 (by decide) ?_
    refine g_callVI C (ci := 5) (As := [.int y8, .int 4]) (np := 2) (st := [.int y9]) (r := y0) rfl (by decide) (fun b1 q hq => c_X5_tour S b1 y8 (4 : Int32) q hq) gv_RL_X5_tour rfl rfl dsX5_tour rfl ⟨Nat.le_of_ble_eq_true rfl, Nat.le_of_ble_eq_true rfl⟩ rfl (cat_sum (Nat.le_of_ble_eq_true rfl)) ⟨Nat.le_refl _, Nat.le_refl _⟩ dL_accounts_151 h (fun v1 S1 h => ?_)
    refine g_icmp_ge C (tgt := 197) dL_accounts_154 (by decide) h (fun h => ?_) (fun h => ?_)
    · refine g_sub (lv' := [(0, va_rf y0), (1, va_rf y1), (2, .int y2), (3, .int y3), (4, .int y4), (5, .int y5), (6, .int y6), (7, .int y7), (8, .int y8)]) [0, 1, 2, 3, 4, 5, 6, 7, 8] rfl ?_
      exact w_L_accounts_J197 C hn hQ hKp HK S1 y0 y1 y2 y3 y4 y5 y6 y7 y8 h
    · refine g_aload_n C (q := 0) dL_accounts_157 rfl rfl ?_
      refine g_iload C (q := 8) dL_accounts_158 rfl ?_
      refine g_bipush C (v := 6) dL_accounts_160 (by decide) ?_
      refine g_callVI C (ci := 5) (As := [.int y8, .int 6]) (np := 2) (st := []) (r := y0) rfl (by decide) (fun b2 q hq => c_X5_tour S1 b2 y8 (6 : Int32) q hq) gv_RL_X5_tour rfl rfl dsX5_tour rfl ⟨Nat.le_of_ble_eq_true rfl, Nat.le_of_ble_eq_true rfl⟩ rfl (cat_sum (Nat.le_of_ble_eq_true rfl)) ⟨Nat.le_refl _, Nat.le_refl _⟩ dL_accounts_162 h (fun v2 S2 h => ?_)
      refine g_if_ne C (tgt := 197) dL_accounts_165 (by decide) h (fun h => ?_) (fun h => ?_)
      · refine g_aload_n C (q := 0) dL_accounts_168 rfl rfl ?_
        refine g_iload C (q := 8) dL_accounts_169 rfl ?_
        refine g_iload C (q := 9) dL_accounts_171 rfl ?_
        refine g_iconst C (v := 0) dL_accounts_173 (by decide) ?_
        refine g_callVI C (ci := 5) (As := [.int y8, .int y9, .int 0]) (np := 3) (st := []) (r := y0) rfl (by decide) (fun b3 q hq => c_X5_rope S2 b3 y8 y9 (0 : Int32) q hq) gv_RL_X5_rope rfl rfl dsX5_rope rfl ⟨Nat.le_of_ble_eq_true rfl, Nat.le_of_ble_eq_true rfl⟩ rfl (cat_sum (Nat.le_of_ble_eq_true rfl)) ⟨Nat.le_refl _, Nat.le_refl _⟩ dL_accounts_174 h (fun v3 S3 h => ?_)
        refine g_iload C (q := 6) dL_accounts_177 rfl ?_
        refine g_icmp_ne C (tgt := 187) dL_accounts_179 (by decide) h (fun h => ?_) (fun h => ?_)
        · refine g_iload C (q := 8) dL_accounts_182 rfl ?_
          refine g_goto C (tgt := 189) dL_accounts_184 (by decide) ?_
          refine g_sub (lv' := [(0, va_rf y0), (1, va_rf y1), (2, .int y2), (3, .int y3), (4, .int y4), (5, .int y5), (6, .int y6), (8, .int y8), (9, .int y9)]) [0, 1, 2, 3, 4, 5, 6, 8, 9] rfl ?_
          exact w_L_accounts_J189 C hn hQ hKp (fun S y0 y1 y2 y3 y4 y5 y6 y7 y8 y9 h => ih S y0 y1 y2 y3 y4 y5 y6 y7 y8 y9 h) S3 y0 y1 y2 y3 y4 y5 y6 y8 y9 y8 h
        · refine g_iload C (q := 7) dL_accounts_187 rfl ?_
          refine g_sub (lv' := [(0, va_rf y0), (1, va_rf y1), (2, .int y2), (3, .int y3), (4, .int y4), (5, .int y5), (6, .int y6), (8, .int y8), (9, .int y9)]) [0, 1, 2, 3, 4, 5, 6, 8, 9] rfl ?_
          exact w_L_accounts_J189 C hn hQ hKp (fun S y0 y1 y2 y3 y4 y5 y6 y7 y8 y9 h => ih S y0 y1 y2 y3 y4 y5 y6 y7 y8 y9 h) S3 y0 y1 y2 y3 y4 y5 y6 y8 y9 y7 h
      · refine g_sub (lv' := [(0, va_rf y0), (1, va_rf y1), (2, .int y2), (3, .int y3), (4, .int y4), (5, .int y5), (6, .int y6), (7, .int y7), (8, .int y8)]) [0, 1, 2, 3, 4, 5, 6, 7, 8] rfl ?_
        exact w_L_accounts_J197 C hn hQ hKp HK S2 y0 y1 y2 y3 y4 y5 y6 y7 y8 h

set_option maxHeartbeats 4000000 in
set_option maxRecDepth 100000 in
theorem w_L_accounts_L137 {X : Cx} (C : CxOK X cL_accounts RL rm_L_accounts) (hn : xn X = 10) {S0 : Hp} {o : Int32 × Hp} {q : Nat} (hQ : QI X (some .boolean) S0 1 4 (o.1, S0)) (hKp : Kp S0 q o.2) {kout : Hp → Option Nat → Option Nat → Int32 → Int32 → Int32 → Int32 → Int32 → Option (Int32 × Hp)} (HK : ∀ (S : Hp) (y0 : Option Nat) (y1 : Option Nat) (y2 : Int32) (y3 : Int32) (y4 : Int32) (y5 : Int32) (y6 : Int32), kout S y0 y1 y2 y3 y4 y5 y6 = some o → GW X 1 4 S 114 [(0, va_rf y0), (1, va_rf y1), (2, .int y2), (3, .int y3), (4, .int y4), (5, .int y5), (6, .int y6)] []) : ∀ (fuel : Nat) (S : Hp) (y0 : Option Nat) (y1 : Option Nat) (y2 : Int32) (y3 : Int32) (y4 : Int32) (y5 : Int32) (y6 : Int32) (y7 : Int32) (y8 : Int32), f_L_accounts_L137 kout fuel S y0 y1 y2 y3 y4 y5 y6 y7 y8 = some o → GW X 1 4 S 137 [(0, va_rf y0), (1, va_rf y1), (2, .int y2), (3, .int y3), (4, .int y4), (5, .int y5), (6, .int y6), (7, .int y7), (8, .int y8)] [] := by
  have hn4 : 4 < xn X := by rw [hn]; decide
  have hn5 : 5 < xn X := by rw [hn]; decide
  have hn9 : 9 < xn X := by rw [hn]; decide
  intro fuel
  induction fuel with
  | zero => intro S y0 y1 y2 y3 y4 y5 y6 y7 y8 h; cases (show none = some o from h)
  | succ fuel ih =>
    intro S y0 y1 y2 y3 y4 y5 y6 y7 y8 h
    have h : f_L_accounts_L137_b kout (f_L_accounts_L137 kout fuel) S y0 y1 y2 y3 y4 y5 y6 y7 y8 = some o := h
    unfold f_L_accounts_L137_b at h
    refine g_iload C (q := 8) dL_accounts_137 rfl ?_
    refine g_if_lt C (tgt := 203) dL_accounts_139 (by decide) h (fun h => ?_) (fun h => ?_)
    · refine g_iload C (q := 4) dL_accounts_203 rfl ?_
      refine g_aload_n C (q := 0) dL_accounts_205 rfl rfl ?_
      refine g_iload C (q := 6) dL_accounts_206 rfl ?_
      refine g_iconst C (v := 5) dL_accounts_208 (by decide) ?_
      refine g_callVI C (ci := 5) (As := [.int y6, .int 5]) (np := 2) (st := [.int y4]) (r := y0) rfl (by decide) (fun b1 q hq => c_X5_guide S b1 y6 (5 : Int32) q hq) gv_RL_X5_guide rfl rfl dsX5_guide rfl ⟨Nat.le_of_ble_eq_true rfl, Nat.le_of_ble_eq_true rfl⟩ rfl (cat_sum (Nat.le_of_ble_eq_true rfl)) ⟨Nat.le_refl _, Nat.le_refl _⟩ dL_accounts_209 h (fun v1 S1 h => ?_)
      refine g_iadd C dL_accounts_212 ?_
      refine g_nmI h (fun v2 h => ?_)
      refine g_istore C (i := 4) (lv' := [(4, .int v2), (0, va_rf y0), (1, va_rf y1), (2, .int y2), (3, .int y3), (5, .int y5), (6, .int y6), (7, .int y7), (8, .int y8)]) dL_accounts_213 hn4 rfl ?_
      refine g_iload C (q := 5) dL_accounts_215 rfl ?_
      refine g_aload_n C (q := 1) dL_accounts_217 rfl rfl ?_
      refine g_iload C (q := 6) dL_accounts_218 rfl ?_
      refine g_iconst C (v := 4) dL_accounts_220 (by decide) ?_
      refine g_callVI C (ci := 5) (As := [.int y6, .int 4]) (np := 2) (st := [.int y5]) (r := y0) rfl (by decide) (fun b2 q hq => c_X5_guide S1 b2 y6 (4 : Int32) q hq) gv_RL_X5_guide rfl rfl dsX5_guide rfl ⟨Nat.le_of_ble_eq_true rfl, Nat.le_of_ble_eq_true rfl⟩ rfl (cat_sum (Nat.le_of_ble_eq_true rfl)) ⟨Nat.le_refl _, Nat.le_refl _⟩ dL_accounts_221 h (fun v3 S2 h => ?_)
      refine g_isub C dL_accounts_224 ?_
      refine g_nmI h (fun v4 h => ?_)
      refine g_istore C (i := 5) (lv' := [(5, .int v4), (4, .int v2), (0, va_rf y0), (1, va_rf y1), (2, .int y2), (3, .int y3), (6, .int y6), (7, .int y7), (8, .int y8)]) dL_accounts_225 hn5 rfl ?_
      refine g_aload_n C (q := 2) dL_accounts_227 rfl rfl ?_
      refine g_iload C (q := 6) dL_accounts_228 rfl ?_
      refine g_iconst C (v := 3) dL_accounts_230 (by decide) ?_
      refine g_callVI C (ci := 5) (As := [.int y6, .int 3]) (np := 2) (st := []) (r := y0) rfl (by decide) (fun b3 q hq => c_X5_guide S2 b3 y6 (3 : Int32) q hq) gv_RL_X5_guide rfl rfl dsX5_guide rfl ⟨Nat.le_of_ble_eq_true rfl, Nat.le_of_ble_eq_true rfl⟩ rfl (cat_sum (Nat.le_of_ble_eq_true rfl)) ⟨Nat.le_refl _, Nat.le_refl _⟩ dL_accounts_231 h (fun v5 S3 h => ?_)
      refine g_iload C (q := 7) dL_accounts_234 rfl ?_
      refine g_icmp_ne C (tgt := 318) dL_accounts_236 (by decide) h (fun h => ?_) (fun h => ?_)
      · refine g_aload_n C (q := 2) dL_accounts_239 rfl rfl ?_
        refine g_iload C (q := 6) dL_accounts_240 rfl ?_
        refine g_iconst C (v := 2) dL_accounts_242 (by decide) ?_
        refine g_callVI C (ci := 5) (As := [.int y6, .int 2]) (np := 2) (st := []) (r := y0) rfl (by decide) (fun b4 q hq => c_X5_guide S3 b4 y6 (2 : Int32) q hq) gv_RL_X5_guide rfl rfl dsX5_guide rfl ⟨Nat.le_of_ble_eq_true rfl, Nat.le_of_ble_eq_true rfl⟩ rfl (cat_sum (Nat.le_of_ble_eq_true rfl)) ⟨Nat.le_refl _, Nat.le_refl _⟩ dL_accounts_243 h (fun v6 S4 h => ?_)
        refine g_aload_n C (q := 2) dL_accounts_246 rfl rfl ?_
        refine g_iload C (q := 6) dL_accounts_247 rfl ?_
        refine g_iconst C (v := 1) dL_accounts_249 (by decide) ?_
        refine g_callVI C (ci := 5) (As := [.int y6, .int 1]) (np := 2) (st := [.int v6]) (r := y0) rfl (by decide) (fun b5 q hq => c_X5_guide S4 b5 y6 (1 : Int32) q hq) gv_RL_X5_guide rfl rfl dsX5_guide rfl ⟨Nat.le_of_ble_eq_true rfl, Nat.le_of_ble_eq_true rfl⟩ rfl (cat_sum (Nat.le_of_ble_eq_true rfl)) ⟨Nat.le_refl _, Nat.le_refl _⟩ dL_accounts_250 h (fun v7 S5 h => ?_)
        refine g_aload_n C (q := 2) dL_accounts_253 rfl rfl ?_
        refine g_iconst C (v := 0) dL_accounts_254 (by decide) ?_
        refine g_callVI C (ci := 5) (As := [.int 0]) (np := 1) (st := [.int v7, .int v6]) (r := y0) rfl (by decide) (fun b6 q hq => c_X5_count S5 b6 (0 : Int32) q hq) gv_RL_X5_count rfl rfl dsX5_count rfl ⟨Nat.le_of_ble_eq_true rfl, Nat.le_of_ble_eq_true rfl⟩ rfl (cat_sum (Nat.le_of_ble_eq_true rfl)) ⟨Nat.le_refl _, Nat.le_refl _⟩ dL_accounts_255 h (fun v8 S6 h => ?_)
        refine g_icmp_lt C (tgt := 265) dL_accounts_258 (by decide) h (fun h => ?_) (fun h => ?_)
        · refine g_iconst C (v := 0) dL_accounts_265 (by decide) ?_
          refine g_sub (lv' := [(0, va_rf y0), (1, va_rf y1), (2, .int y2), (3, .int y3), (4, .int v2), (5, .int v4), (6, .int y6)]) [2, 3, 4, 5, 1, 0, 6] rfl ?_
          exact w_L_accounts_J266 C hn hQ hKp HK S6 y0 y1 y2 y3 v2 v4 y6 (0 : Int32) v6 h
        · refine g_iconst C (v := 1) dL_accounts_261 (by decide) ?_
          refine g_goto C (tgt := 266) dL_accounts_262 (by decide) ?_
          refine g_sub (lv' := [(0, va_rf y0), (1, va_rf y1), (2, .int y2), (3, .int y3), (4, .int v2), (5, .int v4), (6, .int y6)]) [2, 3, 4, 5, 1, 0, 6] rfl ?_
          exact w_L_accounts_J266 C hn hQ hKp HK S6 y0 y1 y2 y3 v2 v4 y6 (1 : Int32) v6 h
      · refine g_iconst C (v := 0) dL_accounts_318 (by decide) ?_
        exact g_zretA C hQ hKp (by decide) dL_accounts_319 h
    · refine g_iconst C (v := 0) dL_accounts_142 (by decide) ?_
      refine g_istore C (i := 9) (lv' := [(9, .int 0), (0, va_rf y0), (1, va_rf y1), (2, .int y2), (3, .int y3), (4, .int y4), (5, .int y5), (6, .int y6), (7, .int y7), (8, .int y8)]) dL_accounts_143 hn9 rfl ?_
      refine g_sub (lv' := [(0, va_rf y0), (1, va_rf y1), (2, .int y2), (3, .int y3), (4, .int y4), (5, .int y5), (6, .int y6), (7, .int y7), (8, .int y8), (9, .int 0)]) [1, 2, 3, 4, 5, 6, 7, 8, 9, 0] rfl ?_
      exact w_L_accounts_L145 C hn hQ hKp (fun S y0 y1 y2 y3 y4 y5 y6 y7 y8 h => ih S y0 y1 y2 y3 y4 y5 y6 y7 y8 h) 1000 S y0 y1 y2 y3 y4 y5 y6 y7 y8 (0 : Int32) h

set_option maxHeartbeats 4000000 in
set_option maxRecDepth 100000 in
theorem w_L_accounts_L114 {X : Cx} (C : CxOK X cL_accounts RL rm_L_accounts) (hn : xn X = 10) {S0 : Hp} {o : Int32 × Hp} {q : Nat} (hQ : QI X (some .boolean) S0 1 4 (o.1, S0)) (hKp : Kp S0 q o.2) : ∀ (fuel : Nat) (S : Hp) (y0 : Option Nat) (y1 : Option Nat) (y2 : Int32) (y3 : Int32) (y4 : Int32) (y5 : Int32) (y6 : Int32), f_L_accounts_L114 fuel S y0 y1 y2 y3 y4 y5 y6 = some o → GW X 1 4 S 114 [(0, va_rf y0), (1, va_rf y1), (2, .int y2), (3, .int y3), (4, .int y4), (5, .int y5), (6, .int y6)] [] := by
  have hn6 : 6 < xn X := by rw [hn]; decide
  have hn7 : 7 < xn X := by rw [hn]; decide
  have hn8 : 8 < xn X := by rw [hn]; decide
  intro fuel
  induction fuel with
  | zero => intro S y0 y1 y2 y3 y4 y5 y6 h; cases (show none = some o from h)
  | succ fuel ih =>
    intro S y0 y1 y2 y3 y4 y5 y6 h
    have h : f_L_accounts_L114_b (f_L_accounts_L114 fuel) S y0 y1 y2 y3 y4 y5 y6 = some o := h
    unfold f_L_accounts_L114_b at h
    refine g_iload C (q := 6) dL_accounts_114 rfl ?_
    refine g_aload_n C (q := 0) dL_accounts_116 rfl rfl ?_
    refine g_iconst C (v := 1) dL_accounts_117 (by decide) ?_
    refine g_callVI C (ci := 5) (As := [.int 1]) (np := 1) (st := [.int y6]) (r := y0) rfl (by decide) (fun b1 q hq => c_X5_count S b1 (1 : Int32) q hq) gv_RL_X5_count rfl rfl dsX5_count rfl ⟨Nat.le_of_ble_eq_true rfl, Nat.le_of_ble_eq_true rfl⟩ rfl (cat_sum (Nat.le_of_ble_eq_true rfl)) ⟨Nat.le_refl _, Nat.le_refl _⟩ dL_accounts_118 h (fun v1 S1 h => ?_)
    refine g_icmp_ge C (tgt := 326) dL_accounts_121 (by decide) h (fun h => ?_) (fun h => ?_)
    · refine g_iconst C (v := 0) dL_accounts_326 (by decide) ?_
      refine g_istore C (i := 6) (lv' := [(6, .int 0), (0, va_rf y0), (1, va_rf y1), (2, .int y2), (3, .int y3), (4, .int y4), (5, .int y5)]) dL_accounts_327 hn6 rfl ?_
      refine g_sub (lv' := [(0, va_rf y0), (1, va_rf y1), (2, .int y2), (3, .int y3), (4, .int y4), (5, .int y5), (6, .int 0)]) [1, 2, 3, 4, 5, 6, 0] rfl ?_
      exact w_L_accounts_L329 C hn hQ hKp 1000 S1 y0 y1 y2 y3 y4 y5 (0 : Int32) h
    · refine g_bipush C (v := (-5)) dL_accounts_124 (by decide) ?_
      refine g_istore C (i := 7) (lv' := [(7, .int (-5)), (0, va_rf y0), (1, va_rf y1), (2, .int y2), (3, .int y3), (4, .int y4), (5, .int y5), (6, .int y6)]) dL_accounts_126 hn7 rfl ?_
      refine g_aload_n C (q := 1) dL_accounts_128 rfl rfl ?_
      refine g_iconst C (v := 3) dL_accounts_129 (by decide) ?_
      refine g_callVI C (ci := 5) (As := [.int 3]) (np := 1) (st := []) (r := y0) rfl (by decide) (fun b2 q hq => c_X5_count S1 b2 (3 : Int32) q hq) gv_RL_X5_count rfl rfl dsX5_count rfl ⟨Nat.le_of_ble_eq_true rfl, Nat.le_of_ble_eq_true rfl⟩ rfl (cat_sum (Nat.le_of_ble_eq_true rfl)) ⟨Nat.le_refl _, Nat.le_refl _⟩ dL_accounts_130 h (fun v2 S2 h => ?_)
      refine g_iconst C (v := 1) dL_accounts_133 (by decide) ?_
      refine g_isub C dL_accounts_134 ?_
      refine g_nmI h (fun v3 h => ?_)
      refine g_istore C (i := 8) (lv' := [(8, .int v3), (7, .int (-5)), (0, va_rf y0), (1, va_rf y1), (2, .int y2), (3, .int y3), (4, .int y4), (5, .int y5), (6, .int y6)]) dL_accounts_135 hn8 rfl ?_
      refine g_sub (lv' := [(0, va_rf y0), (1, va_rf y1), (2, .int y2), (3, .int y3), (4, .int y4), (5, .int y5), (6, .int y6), (7, .int (-5)), (8, .int v3)]) [2, 3, 4, 5, 6, 7, 8, 1, 0] rfl ?_
      exact w_L_accounts_L137 C hn hQ hKp (fun S y0 y1 y2 y3 y4 y5 y6 h => ih S y0 y1 y2 y3 y4 y5 y6 h) 1000 S2 y0 y1 y2 y3 y4 y5 y6 (-5 : Int32) v3 h

set_option maxHeartbeats 4000000 in
set_option maxRecDepth 100000 in
theorem w_L_accounts_J102 {X : Cx} (C : CxOK X cL_accounts RL rm_L_accounts) (hn : xn X = 10) {S0 : Hp} {o : Int32 × Hp} {q : Nat} (hQ : QI X (some .boolean) S0 1 4 (o.1, S0)) (hKp : Kp S0 q o.2) {kout : Hp → Option Nat → Option Nat → Int32 → Int32 → Int32 → Int32 → Int32 → Option (Int32 × Hp)} (HK : ∀ (S : Hp) (y0 : Option Nat) (y1 : Option Nat) (y2 : Int32) (y3 : Int32) (y4 : Int32) (y5 : Int32) (y6 : Int32), kout S y0 y1 y2 y3 y4 y5 y6 = some o → GW X 1 4 S 17 [(0, va_rf y0), (1, va_rf y1), (2, .int y2), (3, .int y3), (4, .int y4), (5, .int y5), (6, .int y6)] [])  (S : Hp) (y0 : Option Nat) (y1 : Option Nat) (y2 : Int32) (y3 : Int32) (y4 : Int32) (y6 : Int32) (z0 : Int32) (z1 : Int32) (h : f_L_accounts_J102 kout S y0 y1 y2 y3 y4 y6 z0 z1 = some o) : GW X 1 4 S 102 [(0, va_rf y0), (1, va_rf y1), (2, .int y2), (3, .int y3), (4, .int y4), (6, .int y6)] [.int z0, .int z1] := by
  have hn5 : 5 < xn X := by rw [hn]; decide
  have hn6 : 6 < xn X := by rw [hn]; decide
  unfold f_L_accounts_J102 at h
  refine g_iadd C dL_accounts_102 ?_
  refine g_nmI h (fun v1 h => ?_)
  refine g_istore C (i := 5) (lv' := [(5, .int v1), (0, va_rf y0), (1, va_rf y1), (2, .int y2), (3, .int y3), (4, .int y4), (6, .int y6)]) dL_accounts_103 hn5 rfl ?_
  obtain ⟨v2, ev2, h⟩ := bnd_ex h
  refine g_iinc C (i := 6) (lv' := [(6, .int v2), (5, .int v1), (0, va_rf y0), (1, va_rf y1), (2, .int y2), (3, .int y3), (4, .int y4)]) (q := 6) v2 dL_accounts_105 rfl ev2 hn6 rfl ?_
  refine g_goto C (tgt := 17) dL_accounts_108 (by decide) ?_
  refine g_sub (lv' := [(0, va_rf y0), (1, va_rf y1), (2, .int y2), (3, .int y3), (4, .int y4), (5, .int v1), (6, .int v2)]) [2, 3, 4, 5, 6, 1, 0] rfl ?_
  exact HK S y0 y1 y2 y3 y4 v1 v2 h

set_option maxHeartbeats 4000000 in
set_option maxRecDepth 100000 in
theorem w_L_accounts_J75 {X : Cx} (C : CxOK X cL_accounts RL rm_L_accounts) (hn : xn X = 10) {S0 : Hp} {o : Int32 × Hp} {q : Nat} (hQ : QI X (some .boolean) S0 1 4 (o.1, S0)) (hKp : Kp S0 q o.2) {kout : Hp → Option Nat → Option Nat → Int32 → Int32 → Int32 → Int32 → Int32 → Option (Int32 × Hp)} (HK : ∀ (S : Hp) (y0 : Option Nat) (y1 : Option Nat) (y2 : Int32) (y3 : Int32) (y4 : Int32) (y5 : Int32) (y6 : Int32), kout S y0 y1 y2 y3 y4 y5 y6 = some o → GW X 1 4 S 17 [(0, va_rf y0), (1, va_rf y1), (2, .int y2), (3, .int y3), (4, .int y4), (5, .int y5), (6, .int y6)] [])  (S : Hp) (y0 : Option Nat) (y1 : Option Nat) (y2 : Int32) (y4 : Int32) (y5 : Int32) (y6 : Int32) (z0 : Int32) (z1 : Int32) (h : f_L_accounts_J75 kout S y0 y1 y2 y4 y5 y6 z0 z1 = some o) : GW X 1 4 S 75 [(0, va_rf y0), (1, va_rf y1), (2, .int y2), (4, .int y4), (5, .int y5), (6, .int y6)] [.int z0, .int z1] := by
  have hn3 : 3 < xn X := by rw [hn]; decide
  unfold f_L_accounts_J75 at h
  refine g_iadd C dL_accounts_75 ?_
  refine g_nmI h (fun v1 h => ?_)
  refine g_istore_n C (i := 3) (lv' := [(3, .int v1), (0, va_rf y0), (1, va_rf y1), (2, .int y2), (4, .int y4), (5, .int y5), (6, .int y6)]) dL_accounts_76 rfl hn3 rfl ?_
  refine g_iload C (q := 5) dL_accounts_77 rfl ?_
  refine g_aload_n C (q := 1) dL_accounts_79 rfl rfl ?_
  refine g_iload C (q := 6) dL_accounts_80 rfl ?_
  refine g_bipush C (v := 6) dL_accounts_82 (by decide) ?_
  refine g_callVI C (ci := 5) (As := [.int y6, .int 6]) (np := 2) (st := [.int y5]) (r := y0) rfl (by decide) (fun b1 q hq => c_X5_tour S b1 y6 (6 : Int32) q hq) gv_RL_X5_tour rfl rfl dsX5_tour rfl ⟨Nat.le_of_ble_eq_true rfl, Nat.le_of_ble_eq_true rfl⟩ rfl (cat_sum (Nat.le_of_ble_eq_true rfl)) ⟨Nat.le_refl _, Nat.le_refl _⟩ dL_accounts_84 h (fun v2 S1 h => ?_)
  refine g_iconst C (v := 1) dL_accounts_87 (by decide) ?_
  refine g_icmp_ne C (tgt := 101) dL_accounts_88 (by decide) h (fun h => ?_) (fun h => ?_)
  · refine g_aload_n C (q := 1) dL_accounts_91 rfl rfl ?_
    refine g_iload C (q := 6) dL_accounts_92 rfl ?_
    refine g_iconst C (v := 4) dL_accounts_94 (by decide) ?_
    refine g_callVI C (ci := 5) (As := [.int y6, .int 4]) (np := 2) (st := [.int y5]) (r := y0) rfl (by decide) (fun b2 q hq => c_X5_tour S1 b2 y6 (4 : Int32) q hq) gv_RL_X5_tour rfl rfl dsX5_tour rfl ⟨Nat.le_of_ble_eq_true rfl, Nat.le_of_ble_eq_true rfl⟩ rfl (cat_sum (Nat.le_of_ble_eq_true rfl)) ⟨Nat.le_refl _, Nat.le_refl _⟩ dL_accounts_95 h (fun v3 S2 h => ?_)
    refine g_goto C (tgt := 102) dL_accounts_98 (by decide) ?_
    refine g_sub (lv' := [(0, va_rf y0), (1, va_rf y1), (2, .int y2), (3, .int v1), (4, .int y4), (6, .int y6)]) [1, 2, 3, 0, 4, 6] rfl ?_
    exact w_L_accounts_J102 C hn hQ hKp HK S2 y0 y1 y2 v1 y4 y6 v3 y5 h
  · refine g_iconst C (v := 0) dL_accounts_101 (by decide) ?_
    refine g_sub (lv' := [(0, va_rf y0), (1, va_rf y1), (2, .int y2), (3, .int v1), (4, .int y4), (6, .int y6)]) [1, 2, 3, 0, 4, 6] rfl ?_
    exact w_L_accounts_J102 C hn hQ hKp HK S1 y0 y1 y2 v1 y4 y6 (0 : Int32) y5 h

set_option maxHeartbeats 4000000 in
set_option maxRecDepth 100000 in
theorem w_L_accounts_L17 {X : Cx} (C : CxOK X cL_accounts RL rm_L_accounts) (hn : xn X = 10) {S0 : Hp} {o : Int32 × Hp} {q : Nat} (hQ : QI X (some .boolean) S0 1 4 (o.1, S0)) (hKp : Kp S0 q o.2) : ∀ (fuel : Nat) (S : Hp) (y0 : Option Nat) (y1 : Option Nat) (y2 : Int32) (y3 : Int32) (y4 : Int32) (y5 : Int32) (y6 : Int32), f_L_accounts_L17 fuel S y0 y1 y2 y3 y4 y5 y6 = some o → GW X 1 4 S 17 [(0, va_rf y0), (1, va_rf y1), (2, .int y2), (3, .int y3), (4, .int y4), (5, .int y5), (6, .int y6)] [] := by
  have hn2 : 2 < xn X := by rw [hn]; decide
  have hn6 : 6 < xn X := by rw [hn]; decide
  intro fuel
  induction fuel with
  | zero => intro S y0 y1 y2 y3 y4 y5 y6 h; cases (show none = some o from h)
  | succ fuel ih =>
    intro S y0 y1 y2 y3 y4 y5 y6 h
    have h : f_L_accounts_L17_b (f_L_accounts_L17 fuel) S y0 y1 y2 y3 y4 y5 y6 = some o := h
    unfold f_L_accounts_L17_b at h
    refine g_iload C (q := 6) dL_accounts_17 rfl ?_
    refine g_aload_n C (q := 0) dL_accounts_19 rfl rfl ?_
    refine g_iconst C (v := 3) dL_accounts_20 (by decide) ?_
    refine g_callVI C (ci := 5) (As := [.int 3]) (np := 1) (st := [.int y6]) (r := y0) rfl (by decide) (fun b1 q hq => c_X5_count S b1 (3 : Int32) q hq) gv_RL_X5_count rfl rfl dsX5_count rfl ⟨Nat.le_of_ble_eq_true rfl, Nat.le_of_ble_eq_true rfl⟩ rfl (cat_sum (Nat.le_of_ble_eq_true rfl)) ⟨Nat.le_refl _, Nat.le_refl _⟩ dL_accounts_21 h (fun v1 S1 h => ?_)
    refine g_icmp_ge C (tgt := 111) dL_accounts_24 (by decide) h (fun h => ?_) (fun h => ?_)
    · refine g_iconst C (v := 0) dL_accounts_111 (by decide) ?_
      refine g_istore C (i := 6) (lv' := [(6, .int 0), (0, va_rf y0), (1, va_rf y1), (2, .int y2), (3, .int y3), (4, .int y4), (5, .int y5)]) dL_accounts_112 hn6 rfl ?_
      refine g_sub (lv' := [(0, va_rf y0), (1, va_rf y1), (2, .int y2), (3, .int y3), (4, .int y4), (5, .int y5), (6, .int 0)]) [1, 2, 3, 4, 5, 6, 0] rfl ?_
      exact w_L_accounts_L114 C hn hQ hKp 1000 S1 y0 y1 y2 y3 y4 y5 (0 : Int32) h
    · refine g_aload_n C (q := 1) dL_accounts_27 rfl rfl ?_
      refine g_aload_n C (q := 0) dL_accounts_28 rfl rfl ?_
      refine g_iload C (q := 6) dL_accounts_29 rfl ?_
      refine g_bipush C (v := 6) dL_accounts_31 (by decide) ?_
      refine g_callVI C (ci := 5) (As := [.int y6, .int 6]) (np := 2) (st := [va_rf y1]) (r := y0) rfl (by decide) (fun b2 q hq => c_X5_tour S1 b2 y6 (6 : Int32) q hq) gv_RL_X5_tour rfl rfl dsX5_tour rfl ⟨Nat.le_of_ble_eq_true rfl, Nat.le_of_ble_eq_true rfl⟩ rfl (cat_sum (Nat.le_of_ble_eq_true rfl)) ⟨Nat.le_refl _, Nat.le_refl _⟩ dL_accounts_33 h (fun v2 S2 h => ?_)
      refine g_dup2 C dL_accounts_36 rfl (va_rf_cat _) ?_
      refine g_iald C dL_accounts_37 h (fun a1 i1 h => ?_)
      refine g_iconst C (v := 1) dL_accounts_38 (by decide) ?_
      refine g_iadd C dL_accounts_39 ?_
      refine g_iast C dL_accounts_40 h (fun a2 i2 S3 h => ?_)
      refine g_iload_n C (q := 2) dL_accounts_41 rfl rfl ?_
      refine g_aload_n C (q := 0) dL_accounts_42 rfl rfl ?_
      refine g_iload C (q := 6) dL_accounts_43 rfl ?_
      refine g_iconst C (v := 5) dL_accounts_45 (by decide) ?_
      refine g_callVI C (ci := 5) (As := [.int y6, .int 5]) (np := 2) (st := [.int y2]) (r := y0) rfl (by decide) (fun b3 q hq => c_X5_tour S3 b3 y6 (5 : Int32) q hq) gv_RL_X5_tour rfl rfl dsX5_tour rfl ⟨Nat.le_of_ble_eq_true rfl, Nat.le_of_ble_eq_true rfl⟩ rfl (cat_sum (Nat.le_of_ble_eq_true rfl)) ⟨Nat.le_refl _, Nat.le_refl _⟩ dL_accounts_46 h (fun v3 S4 h => ?_)
      refine g_iadd C dL_accounts_49 ?_
      refine g_nmI h (fun v4 h => ?_)
      refine g_istore_n C (i := 2) (lv' := [(2, .int v4), (0, va_rf y0), (1, va_rf y1), (3, .int y3), (4, .int y4), (5, .int y5), (6, .int y6)]) dL_accounts_50 rfl hn2 (by simp [va_rf_cat, catI, catJ, catD]) ?_
      refine g_iload_n C (q := 3) dL_accounts_51 rfl rfl ?_
      refine g_aload_n C (q := 1) dL_accounts_52 rfl rfl ?_
      refine g_iload C (q := 6) dL_accounts_53 rfl ?_
      refine g_bipush C (v := 6) dL_accounts_55 (by decide) ?_
      refine g_callVI C (ci := 5) (As := [.int y6, .int 6]) (np := 2) (st := [.int y3]) (r := y0) rfl (by decide) (fun b4 q hq => c_X5_tour S4 b4 y6 (6 : Int32) q hq) gv_RL_X5_tour rfl rfl dsX5_tour rfl ⟨Nat.le_of_ble_eq_true rfl, Nat.le_of_ble_eq_true rfl⟩ rfl (cat_sum (Nat.le_of_ble_eq_true rfl)) ⟨Nat.le_refl _, Nat.le_refl _⟩ dL_accounts_57 h (fun v5 S5 h => ?_)
      refine g_iconst C (v := 1) dL_accounts_60 (by decide) ?_
      refine g_icmp_ne C (tgt := 74) dL_accounts_61 (by decide) h (fun h => ?_) (fun h => ?_)
      · refine g_aload_n C (q := 1) dL_accounts_64 rfl rfl ?_
        refine g_iload C (q := 6) dL_accounts_65 rfl ?_
        refine g_iconst C (v := 3) dL_accounts_67 (by decide) ?_
        refine g_callVI C (ci := 5) (As := [.int y6, .int 3]) (np := 2) (st := [.int y3]) (r := y0) rfl (by decide) (fun b5 q hq => c_X5_tour S5 b5 y6 (3 : Int32) q hq) gv_RL_X5_tour rfl rfl dsX5_tour rfl ⟨Nat.le_of_ble_eq_true rfl, Nat.le_of_ble_eq_true rfl⟩ rfl (cat_sum (Nat.le_of_ble_eq_true rfl)) ⟨Nat.le_refl _, Nat.le_refl _⟩ dL_accounts_68 h (fun v6 S6 h => ?_)
        refine g_goto C (tgt := 75) dL_accounts_71 (by decide) ?_
        refine g_sub (lv' := [(0, va_rf y0), (1, va_rf y1), (2, .int v4), (4, .int y4), (5, .int y5), (6, .int y6)]) [1, 2, 0, 4, 5, 6] rfl ?_
        exact w_L_accounts_J75 C hn hQ hKp (fun S y0 y1 y2 y3 y4 y5 y6 h => ih S y0 y1 y2 y3 y4 y5 y6 h) S6 y0 y1 v4 y4 y5 y6 v6 y3 h
      · refine g_iconst C (v := 0) dL_accounts_74 (by decide) ?_
        refine g_sub (lv' := [(0, va_rf y0), (1, va_rf y1), (2, .int v4), (4, .int y4), (5, .int y5), (6, .int y6)]) [1, 2, 0, 4, 5, 6] rfl ?_
        exact w_L_accounts_J75 C hn hQ hKp (fun S y0 y1 y2 y3 y4 y5 y6 h => ih S y0 y1 y2 y3 y4 y5 y6 h) S5 y0 y1 v4 y4 y5 y6 (0 : Int32) y3 h
set_option maxHeartbeats 4000000 in
set_option maxRecDepth 100000 in
theorem w_L_accounts {X : Cx} (C : CxOK X cL_accounts RL rm_L_accounts) (hn : xn X = 10) {S0 : Hp} {o : Int32 × Hp} {q : Nat} (hQ : QI X (some .boolean) S0 1 4 (o.1, S0)) (hKp : Kp S0 q o.2) (S : Hp) (x0 : Option Nat) (h : f_L_accounts_q q S x0 = some o) : GW X 1 4 S 3 [(0, va_rf x0)] [va_rf (some q)] := by
  have hn1 : 1 < xn X := by rw [hn]; decide
  have hn2 : 2 < xn X := by rw [hn]; decide
  have hn3 : 3 < xn X := by rw [hn]; decide
  have hn4 : 4 < xn X := by rw [hn]; decide
  have hn5 : 5 < xn X := by rw [hn]; decide
  have hn6 : 6 < xn X := by rw [hn]; decide
  unfold f_L_accounts_q at h
  refine g_astore_n C (i := 1) (lv' := [(1, va_rf (some q)), (0, va_rf x0)]) dL_accounts_3 rfl hn1 (by simp [va_rf_cat, catI, catJ, catD]) ?_
  refine g_iconst C (v := 0) dL_accounts_4 (by decide) ?_
  refine g_istore_n C (i := 2) (lv' := [(2, .int 0), (1, va_rf (some q)), (0, va_rf x0)]) dL_accounts_5 rfl hn2 (by simp [va_rf_cat, catI, catJ, catD]) ?_
  refine g_iconst C (v := 0) dL_accounts_6 (by decide) ?_
  refine g_istore_n C (i := 3) (lv' := [(3, .int 0), (2, .int 0), (1, va_rf (some q)), (0, va_rf x0)]) dL_accounts_7 rfl hn3 rfl ?_
  refine g_iconst C (v := 0) dL_accounts_8 (by decide) ?_
  refine g_istore C (i := 4) (lv' := [(4, .int 0), (3, .int 0), (2, .int 0), (1, va_rf (some q)), (0, va_rf x0)]) dL_accounts_9 hn4 rfl ?_
  refine g_iconst C (v := 0) dL_accounts_11 (by decide) ?_
  refine g_istore C (i := 5) (lv' := [(5, .int 0), (4, .int 0), (3, .int 0), (2, .int 0), (1, va_rf (some q)), (0, va_rf x0)]) dL_accounts_12 hn5 rfl ?_
  refine g_iconst C (v := 0) dL_accounts_14 (by decide) ?_
  refine g_istore C (i := 6) (lv' := [(6, .int 0), (5, .int 0), (4, .int 0), (3, .int 0), (2, .int 0), (1, va_rf (some q)), (0, va_rf x0)]) dL_accounts_15 hn6 rfl ?_
  refine g_sub (lv' := [(0, va_rf x0), (1, va_rf (some q)), (2, .int 0), (3, .int 0), (4, .int 0), (5, .int 0), (6, .int 0)]) [6, 5, 4, 3, 2, 1, 0] rfl ?_
  exact w_L_accounts_L17 C hn hQ hKp 1000 S x0 (some q) (0 : Int32) (0 : Int32) (0 : Int32) (0 : Int32) (0 : Int32) h
noncomputable def f_L_accounts (S : Hp) (x0 : Option Nat) : Option (Int32 × Hp) := @ite _ (∀ q, q ∉ zL S → ∃ S', f_L_accounts_q q (nO S q 9 4) x0 = some ((1 : Int32), S') ∧ Kp S q S') (Classical.propDecidable _) (some (1, S)) none
theorem f_acc_el {S : Hp} {x0 : Option Nat} {o : Int32 × Hp} (h : f_L_accounts S x0 = some o) : o = (1, S) ∧ ∀ q, q ∉ zL S → ∃ S', f_L_accounts_q q (nO S q 9 4) x0 = some ((1 : Int32), S') ∧ Kp S q S' := by
  unfold f_L_accounts at h
  by_cases hc : ∀ q, q ∉ zL S → ∃ S', f_L_accounts_q q (nO S q 9 4) x0 = some ((1 : Int32), S') ∧ Kp S q S'
  · rw [if_pos hc] at h
    exact ⟨(Option.some.inj h).symm, hc⟩
  · rw [if_neg hc] at h; cases h
theorem f_acc_go {S : Hp} {x0 : Option Nat} (hc : ∀ q, q ∉ zL S → ∃ S', f_L_accounts_q q (nO S q 9 4) x0 = some ((1 : Int32), S') ∧ Kp S q S') : f_L_accounts S x0 = some (1, S) := by
  unfold f_L_accounts
  rw [if_pos hc]
theorem c_L_accounts (S : Hp) (x0 : Option Nat) (o : Int32 × Hp) (h : f_L_accounts S x0 = some o) : CtI yL_accounts cL_accounts 10 (some .boolean) rm_L_accounts 1 4 [va_rf x0] S o := by
  obtain ⟨ho, hc⟩ := f_acc_el h
  subst ho
  intro l D cy sz
  refine Met.ofW (cc := cL_accounts) (maxL := 10) (ret := some .boolean) (by decide) rfl ?_
  intro p e s m args below meth c s₁ B hml hv
  obtain ⟨rfl, hsz, hP, hK, hD0⟩ := hv
  have hts := atoms_spec (ws := .code yL_accounts cL_accounts 10 (some .boolean) :: wsL_law) B.pre
  have hown : s.vm.findClass RL = some m.cls := findClass_of_methodNamed B.named
  subst hsz
  have hD := hD0.self (sz := s.heap.size)
  have hl := lv_entry [va_rf x0] (n := 10) (by simp [lg_sl, va_rf_cat])
  rw [lg_entry_eq]
  obtain ⟨X, eX⟩ : ∃ X : Cx, X = (p, l, e, rm_L_accounts, s, m, [va_rf x0].toArray, below, meth, c, MQ below (va_Qi (fun r (_ : Unit) => r = 1) (CtB S S D cy s.heap.size) (va_A (zP cy S) s.heap.size)) [va_rf x0].toArray s 1 4 (va_A (zP cy S) s.heap.size), D, cy, va_A (zP cy S) s.heap.size, 10) := ⟨_, rfl⟩
  have C : CxOK X cL_accounts RL rm_L_accounts := by
    subst eX
    exact ⟨B.exec, B.bytes, hml, hown, fun w h => hts w (List.mem_cons_of_mem _ h), hK, fun q h => Or.inr h, B.notSynchronized, rfl⟩
  have hQ : QI X (some .boolean) S 1 4 (1, S) := by subst eX; exact ⟨B.returns, rfl, rfl⟩
  have hn : xn X = 10 := by subst eX; rfl
  have key : GW X 0 0 S 0 [(0, va_rf x0)] [] := by
    refine g_iconst C (v := 4) dL_accounts_0 (by decide) ?_
    refine g_newi C (m := 4) q43 (by decide) rfl (Nat.le_of_ble_eq_true rfl) (Nat.le_of_ble_eq_true rfl) (Nat.le_of_ble_eq_true rfl) dL_accounts_1 (fun q hq => ?_)
    obtain ⟨S', h1, h2⟩ := hc q hq
    exact w_L_accounts C hn (o := (1, S')) hQ h2 _ _ h1
  rw [show lv_args 0 [va_rf x0] = [(0, va_rf x0)] by simp [lv_args, va_rf_cat]] at hl
  subst eX
  exact key _ _ _ hP hD va_S.rf hl
