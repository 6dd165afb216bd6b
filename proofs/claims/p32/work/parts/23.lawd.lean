theorem gs_RL_L_accounts : GoodIn wsL_law (va_wsS RL 181 yL_accounts (.code yL_accounts cL_accounts 10 (some .boolean) :: wsL_law)) := good_S q581 q582 q351 q583
theorem gs_RL_L_adds : GoodIn wsL_law (va_wsS RL 164 yL_adds (.code yL_adds cL_adds 9 (some .boolean) :: wsL_law)) := good_S q434 q435 q351 q436
theorem gs_RL_L_ends : GoodIn wsL_law (va_wsS RL 174 yL_ends (.code yL_ends cL_ends 13 (some .boolean) :: wsL_law)) := good_S q539 q540 q351 q541
theorem gs_RL_L_guests : GoodIn wsL_law (va_wsS RL 168 yL_guests (.code yL_guests cL_guests 14 (some .boolean) :: wsL_law)) := good_S q519 q520 q351 q521
theorem gs_RL_L_passes : GoodIn wsL_law (va_wsS RL 177 yL_passes (.code yL_passes cL_passes 13 (some .boolean) :: wsL_law)) := good_S q543 q544 q351 q545
theorem gs_RL_L_rows : GoodIn wsL_law (va_wsS RL 171 yL_rows (.code yL_rows cL_rows 12 (some .boolean) :: wsL_law)) := good_S q526 q527 q351 q528
theorem gs_RL_L_tour : GoodIn wsL_law (va_wsS RL 185 yL_tour (.code yL_tour cL_tour 12 (some .boolean) :: wsL_law)) := good_S q588 q589 q351 q590
theorem gv_RL_X5_perform : GoodIn wsL_law (wsV RL 157 RX5 yX5_perform (.code yX5_perform cX5_perform 2 (some .int) :: wsL_law)) := good_V q162 q163 q164 q2 q165
theorem gv_RL_X5_undo : GoodIn wsL_law (wsV RL 154 RX5 yX5_undo (.code yX5_undo cX5_undo 1 (some .int) :: wsL_law)) := good_V q100 q101 q102 q2 q103
noncomputable def f_L_law_L453_b (sc : Nat → Int32) (L : Nat) (kout : Hp → Option Nat → Int32 → Option (Int32 × Hp)) (rec : Hp → Option Nat → Int32 → Int32 → Option (Int32 × Hp)) (S : Hp) (y1 : Option Nat) (y6 : Int32) (y15 : Int32) : Option (Int32 × Hp) :=
 ob S 5 y1 fun b1 => cl (f_X5_count S b1 (3 : Int32)) fun v1 S1 =>
 if v1 ≤ y15 then
 bnd (y6 + 1) fun v2 =>
 kout S1 y1 v2
 else
 cl (f_L_tour S1 y1 y15) fun v3 S2 =>
 if v3 = 0 then
 some ((0 : Int32), S2)
 else
 bnd (y15 + 1) fun v4 =>
 rec S2 y1 y6 v4
noncomputable def f_L_law_L453 (sc : Nat → Int32) (L : Nat) (kout : Hp → Option Nat → Int32 → Option (Int32 × Hp)) : Nat → Hp → Option Nat → Int32 → Int32 → Option (Int32 × Hp)
  | 0 => fun _ _ _ _ => none
  | n + 1 => f_L_law_L453_b sc L kout (f_L_law_L453 sc L kout n)

noncomputable def f_L_law_J436 (sc : Nat → Int32) (L : Nat) (kout : Hp → Option Nat → Int32 → Option (Int32 × Hp)) (S : Hp) (y1 : Option Nat) (y6 : Int32) (y13 : Int32) : Option (Int32 × Hp) :=
 if y13 = 0 then
 some ((0 : Int32), S)
 else
 cl (f_L_accounts S y1) fun v1 S1 =>
 if v1 = 0 then
 some ((0 : Int32), S1)
 else
 f_L_law_L453 sc L kout 1000 S1 y1 y6 (0 : Int32)

noncomputable def f_L_law_J434 (sc : Nat → Int32) (L : Nat) (kout : Hp → Option Nat → Int32 → Option (Int32 × Hp)) (S : Hp) (y1 : Option Nat) (y6 : Int32) (z0 : Int32) : Option (Int32 × Hp) :=
 f_L_law_J436 sc L kout S y1 y6 z0

noncomputable def f_L_law_J433 (sc : Nat → Int32) (L : Nat) (kout : Hp → Option Nat → Int32 → Option (Int32 × Hp)) (S : Hp) (y1 : Option Nat) (y6 : Int32) : Option (Int32 × Hp) :=
 f_L_law_J434 sc L kout S y1 y6 (0 : Int32)

noncomputable def f_L_law_J410 (sc : Nat → Int32) (L : Nat) (kout : Hp → Option Nat → Int32 → Option (Int32 × Hp)) (S : Hp) (y1 : Option Nat) (y6 : Int32) (y11 : Int64) (y14 : Int32) : Option (Int32 × Hp) :=
 ob S 5 y1 fun b1 => cl (f_X5_undo S b1 ) fun v1 S1 =>
 if v1 = y14 then
 cl (f_L_digest S1 y1) fun j1 S2 =>
 if (lg_cmp j1 y11) = 0 then
 f_L_law_J434 sc L kout S2 y1 y6 (1 : Int32)
 else
 f_L_law_J433 sc L kout S2 y1 y6
 else
 f_L_law_J433 sc L kout S1 y1 y6

noncomputable def f_L_law_J354 (sc : Nat → Int32) (L : Nat) (kout : Hp → Option Nat → Int32 → Option (Int32 × Hp)) (S : Hp) (y1 : Option Nat) (y6 : Int32) (y8 : Int32) (y9 : Int32) (y10 : Int32) (y11 : Int64) (y13 : Int32) (z0 : Int32) : Option (Int32 × Hp) :=
 if y13 = 0 then
 f_L_law_J436 sc L kout S y1 y6 y13
 else
 if y6 ≤ 4 then
 f_L_law_J436 sc L kout S y1 y6 y13
 else
 if 15 ≤ y9 then
 f_L_law_J436 sc L kout S y1 y6 y13
 else
 if (y8 &&& 3072) = 0 then
 ob S 5 y1 fun b1 => cl (f_X5_count S b1 (11 : Int32)) fun v1 S1 =>
 if v1 = y10 then
 if y10 = 5 then
 cl (f_L_digest S1 y1) fun j1 S2 =>
 if (lg_cmp j1 y11) = 0 then
 f_L_law_J436 sc L kout S2 y1 y6 y13
 else
 f_L_law_J410 sc L kout S2 y1 y6 y11 z0
 else
 f_L_law_J436 sc L kout S1 y1 y6 y13
 else
 f_L_law_J410 sc L kout S1 y1 y6 y11 z0
 else
 f_L_law_J436 sc L kout S y1 y6 y13

noncomputable def f_L_law_J342 (sc : Nat → Int32) (L : Nat) (kout : Hp → Option Nat → Int32 → Option (Int32 × Hp)) (S : Hp) (y1 : Option Nat) (y6 : Int32) (y8 : Int32) (y9 : Int32) (y10 : Int32) (y11 : Int64) (y13 : Int32) : Option (Int32 × Hp) :=
 if y10 = 5 then
 f_L_law_J354 sc L kout S y1 y6 y8 y9 y10 y11 y13 (4 : Int32)
 else
 f_L_law_J354 sc L kout S y1 y6 y8 y9 y10 y11 y13 y10

noncomputable def f_L_law_J313 (sc : Nat → Int32) (L : Nat) (kout : Hp → Option Nat → Int32 → Option (Int32 × Hp)) (S : Hp) (y1 : Option Nat) (y6 : Int32) (y8 : Int32) (y9 : Int32) (y10 : Int32) (y11 : Int64) (z0 : Int32) : Option (Int32 × Hp) :=
 f_L_law_J342 sc L kout S y1 y6 y8 y9 y10 y11 z0

noncomputable def f_L_law_J308 (sc : Nat → Int32) (L : Nat) (kout : Hp → Option Nat → Int32 → Option (Int32 × Hp)) (S : Hp) (y1 : Option Nat) (y6 : Int32) (y8 : Int32) (y9 : Int32) (y10 : Int32) (y11 : Int64) : Option (Int32 × Hp) :=
 f_L_law_J313 sc L kout S y1 y6 y8 y9 y10 y11 (1 : Int32)

noncomputable def f_L_law_J275 (sc : Nat → Int32) (L : Nat) (kout : Hp → Option Nat → Int32 → Option (Int32 × Hp)) (S : Hp) (y1 : Option Nat) (y6 : Int32) (y8 : Int32) (y9 : Int32) (y10 : Int32) (y11 : Int64) (z0 : Int32) : Option (Int32 × Hp) :=
 f_L_law_J342 sc L kout S y1 y6 y8 y9 y10 y11 z0

noncomputable def f_L_law_J270 (sc : Nat → Int32) (L : Nat) (kout : Hp → Option Nat → Int32 → Option (Int32 × Hp)) (S : Hp) (y1 : Option Nat) (y6 : Int32) (y8 : Int32) (y9 : Int32) (y10 : Int32) (y11 : Int64) : Option (Int32 × Hp) :=
 f_L_law_J275 sc L kout S y1 y6 y8 y9 y10 y11 (1 : Int32)

noncomputable def f_L_law_J237 (sc : Nat → Int32) (L : Nat) (kout : Hp → Option Nat → Int32 → Option (Int32 × Hp)) (S : Hp) (y1 : Option Nat) (y6 : Int32) (y8 : Int32) (y9 : Int32) (y10 : Int32) (y11 : Int64) (z0 : Int32) : Option (Int32 × Hp) :=
 f_L_law_J342 sc L kout S y1 y6 y8 y9 y10 y11 z0

noncomputable def f_L_law_J232 (sc : Nat → Int32) (L : Nat) (kout : Hp → Option Nat → Int32 → Option (Int32 × Hp)) (S : Hp) (y1 : Option Nat) (y6 : Int32) (y8 : Int32) (y9 : Int32) (y10 : Int32) (y11 : Int64) : Option (Int32 × Hp) :=
 f_L_law_J237 sc L kout S y1 y6 y8 y9 y10 y11 (1 : Int32)

noncomputable def f_L_law_J164 (sc : Nat → Int32) (L : Nat) (kout : Hp → Option Nat → Int32 → Option (Int32 × Hp)) (S : Hp) (y1 : Option Nat) (y6 : Int32) (y7 : Int32) (y8 : Int32) (z0 : Int32) : Option (Int32 × Hp) :=
 ob S 5 y1 fun b1 => cl (f_X5_count S b1 (11 : Int32)) fun v1 S1 =>
 cl (f_L_digest S1 y1) fun j1 S2 =>
 if 4 ≤ z0 then
 if 8 ≤ z0 then
 if 12 ≤ z0 then
 if 15 ≤ z0 then
 cl (f_L_low S2 y8 (4 : Int32)) fun v2 S3 =>
 cl (f_L_low S3 (y8 >>> (4 &&& 31)) (4 : Int32)) fun v3 S4 =>
 cl (f_L_passes S4 y1 (1 + v2) (1 + v3)) fun v4 S5 =>
 f_L_law_J342 sc L kout S5 y1 y6 y8 z0 v1 j1 v4
 else
 ob S2 5 y1 fun b2 => cl (f_X5_count S2 b2 (3 : Int32)) fun v5 S6 =>
 if v5 = 0 then
 f_L_law_J308 sc L kout S6 y1 y6 y8 z0 v1 j1
 else
 cl (f_L_ends S6 y1 z0 y7 y8) fun v6 S7 =>
 if v6 = 0 then
 f_L_law_J313 sc L kout S7 y1 y6 y8 z0 v1 j1 (0 : Int32)
 else
 f_L_law_J308 sc L kout S7 y1 y6 y8 z0 v1 j1
 else
 ob S2 5 y1 fun b3 => cl (f_X5_count S2 b3 (3 : Int32)) fun v7 S8 =>
 if v7 = 0 then
 f_L_law_J270 sc L kout S8 y1 y6 y8 z0 v1 j1
 else
 cl (f_L_rows S8 y1 z0 y7 y8) fun v8 S9 =>
 if v8 = 0 then
 f_L_law_J275 sc L kout S9 y1 y6 y8 z0 v1 j1 (0 : Int32)
 else
 f_L_law_J270 sc L kout S9 y1 y6 y8 z0 v1 j1
 else
 ob S2 5 y1 fun b4 => cl (f_X5_count S2 b4 (3 : Int32)) fun v9 S10 =>
 if v9 = 0 then
 f_L_law_J232 sc L kout S10 y1 y6 y8 z0 v1 j1
 else
 cl (f_L_guests S10 y1 z0 y7 y8) fun v10 S11 =>
 if v10 = 0 then
 f_L_law_J237 sc L kout S11 y1 y6 y8 z0 v1 j1 (0 : Int32)
 else
 f_L_law_J232 sc L kout S11 y1 y6 y8 z0 v1 j1
 else
 cl (f_L_adds S2 y1 z0 y7 y8) fun v11 S12 =>
 f_L_law_J342 sc L kout S12 y1 y6 y8 z0 v1 j1 v11

noncomputable def f_L_law_L95_b (sc : Nat → Int32) (L : Nat) (rec : Hp → Option Nat → Int32 → Option (Int32 × Hp)) (S : Hp) (y1 : Option Nat) (y6 : Int32) : Option (Int32 × Hp) :=
 if 28 ≤ y6 then
 some ((1 : Int32), S)
 else
 clv (cellv sc L (2 * y6)) fun v1 =>
 clv (cellv sc L ((2 * y6) + 1)) fun v2 =>
 if 2 ≤ y6 then
 if y6 = 2 then
 f_L_law_J164 sc L rec S y1 y6 v1 v2 (1 : Int32)
 else
 if 5 ≤ y6 then
 cl (f_L_low S (v1 >>> (9 &&& 31)) (18 : Int32)) fun v3 S1 =>
 f_L_law_J164 sc L rec S1 y1 y6 v1 v2 v3
 else
 f_L_law_J164 sc L rec S y1 y6 v1 v2 (3 : Int32)
 else
 f_L_law_J164 sc L rec S y1 y6 v1 v2 (0 : Int32)
noncomputable def f_L_law_L95 (sc : Nat → Int32) (L : Nat) : Nat → Hp → Option Nat → Int32 → Option (Int32 × Hp)
  | 0 => fun _ _ _ => none
  | n + 1 => f_L_law_L95_b sc L (f_L_law_L95 sc L n)
noncomputable def f_L_law (sc : Nat → Int32) (L : Nat) (S : Hp) (y1 : Option Nat) : Option (Int32 × Hp) :=
 ob S 5 y1 fun b1 => cl (f_X5_thickness S b1 (0 : Int32)) fun e1 S1 =>
 ob S1 5 y1 fun b2 => cl (f_X5_needed S1 b2 (0 : Int32)) fun e2 S2 =>
 ob S2 5 y1 fun b3 => cl (f_X5_undo S2 b3 ) fun v1 S3 =>
 if v1 = (-5) then
 ob S3 5 y1 fun b4 => cl (f_X5_restore S3 b4 ) fun v2 S4 =>
 if v2 = (-5) then
 ob S4 5 y1 fun b5 => cl (f_X5_perform S4 b5 ) fun v3 S5 =>
 if v3 = (-100) then
 ob S5 5 y1 fun b6 => cl (f_X5_merge S5 b6 (0 : Int32) (0 : Int32)) fun v4 S6 =>
 if v4 = (-1) then
 ob S6 5 y1 fun b7 => cl (f_X5_bestGuide S6 b7 (0 : Int32)) fun v5 S7 =>
 if v5 = (-1) then
 ob S7 5 y1 fun b8 => cl (f_X5_temperature S7 b8 ) fun j1 S8 =>
 if (lg_cmp j1 0) = 0 then
 if (Op.cmpValue (FP.dcmp e1 e1) CmpOp.l) = 0 then
 some ((0 : Int32), S8)
 else
 if (Op.cmpValue (FP.dcmp e2 e2) CmpOp.l) = 0 then
 some ((0 : Int32), S8)
 else
 f_L_law_L95 sc L 1000 S8 y1 (0 : Int32)
 else
 some ((0 : Int32), S8)
 else
 some ((0 : Int32), S7)
 else
 some ((0 : Int32), S6)
 else
 some ((0 : Int32), S5)
 else
 some ((0 : Int32), S4)
 else
 some ((0 : Int32), S3)
set_option maxHeartbeats 4000000 in
set_option maxRecDepth 100000 in
theorem w_L_law_L453 {X : Cx} {adK adV : Nat → Nat} (E : EV adK adV (xA X) (xs X) (xs X).heap) (C : CxOK X cL_law RL room_1) (hn : xn X = 16) {b L : Nat} {sc : Nat → Int32} (hX : va_X b L sc (xs X) (xs X).heap) (hbl : b < (xs X).heap.size) (hbA : ¬ xA X b) {S9 : Hp} {o : Int32 × Hp} (ho : o = ((1 : Int32), S9)) (hret : ∀ (k n : Nat), k ≤ 628669 → n ≤ 7216242 → ∀ (S : Hp) (pc : Nat) (lv : List (Nat × Value)), decode cL_law pc = .ok (.ireturn, 1) → GW X k n S pc lv [.int 1]) {kout : Hp → Option Nat → Int32 → Option (Int32 × Hp)} {K1 N1 : Nat} (hK1 : K1 ≤ 628669) (hN1 : N1 ≤ 7216242) (HK : ∀ (k n : Nat) (S : Hp) (y1 : Option Nat) (y6 : Int32), k ≤ K1 → n ≤ N1 → kout S y1 y6 = some o → GW X k n S 95 [(0, va_rf (some b)), (1, va_rf y1), (6, .int y6)] []) : ∀ (fuel : Nat) (k n : Nat) (hk : k + 0 ≤ K1) (hn4 : n + 0 ≤ N1) (S : Hp) (y1 : Option Nat) (y6 : Int32) (y15 : Int32), f_L_law_L453 sc L kout fuel S y1 y6 y15 = some o → GW X k n S 453 [(0, va_rf (some b)), (1, va_rf y1), (6, .int y6), (15, .int y15)] [] := by
  have hn6 : 6 < xn X := by rw [hn]; decide
  have hn15 : 15 < xn X := by rw [hn]; decide
  intro fuel
  induction fuel with
  | zero => intro k n hk hn4 S y1 y6 y15 h; cases (show none = some o from h)
  | succ fuel ih =>
    intro k n hk hn4 S y1 y6 y15 h
    have h : f_L_law_L453_b sc L kout (f_L_law_L453 sc L kout fuel) S y1 y6 y15 = some o := h
    unfold f_L_law_L453_b at h
    refine g_iload C (q := 3) dL_law_453 rfl ?_
    refine g_aload_n C (q := 1) dL_law_455 rfl rfl ?_
    refine g_iconst C (v := 3) dL_law_456 (by decide) ?_
    refine g_callVI C (ci := 5) (As := [.int 3]) (np := 1) (st := [.int y15]) (r := y1) rfl (by decide) (fun b1 q hq => c_X5_count S b1 (3 : Int32) q hq) gv_RL_X5_count rfl rfl dsX5_count rfl ⟨Nat.le_of_ble_eq_true rfl, Nat.le_of_ble_eq_true rfl⟩ rfl (cat_sum (Nat.le_of_ble_eq_true rfl)) ⟨(show _ ≤ 628669 by omega), (show _ ≤ 7216242 by omega)⟩ dL_law_457 h (fun v1 S1 h => ?_)
    refine g_icmp_ge C (tgt := 480) dL_law_460 (by decide) h (fun h => ?_) (fun h => ?_)
    · obtain ⟨v2, ev2, h⟩ := bnd_ex h
      refine g_iinc C (i := 6) (lv' := [(6, .int v2), (0, va_rf (some b)), (1, va_rf y1), (15, .int y15)]) (q := 2) v2 dL_law_480 rfl ev2 hn6 rfl ?_
      refine g_goto C (tgt := 95) dL_law_483 (by decide) ?_
      refine g_sub (lv' := [(0, va_rf (some b)), (1, va_rf y1), (6, .int v2)]) [1, 2, 0] rfl ?_
      exact HK _ _ S1 y1 v2 (by omega) (by omega) h
    · refine g_aload_n C (q := 1) dL_law_463 rfl rfl ?_
      refine g_iload C (q := 3) dL_law_464 rfl ?_
      refine g_callSI C (As := [va_rf y1, .int y15]) (np := 2) (st := []) (fun q hq => c_L_tour S1 y1 y15 q hq) gs_RL_L_tour rfl rfl dsL_tour rfl ⟨Nat.le_of_ble_eq_true rfl, Nat.le_of_ble_eq_true rfl⟩ rfl (cat_sum (Nat.le_of_ble_eq_true rfl)) ⟨(show _ ≤ 628669 by omega), (show _ ≤ 7216242 by omega)⟩ dL_law_466 h (fun v3 S2 h => ?_)
      refine g_if_ne C (tgt := 474) dL_law_469 (by decide) h (fun h => ?_) (fun h => ?_)
      · refine g_iconst C (v := 0) dL_law_472 (by decide) ?_
        (subst ho; exact law0 h)
      · obtain ⟨v4, ev4, h⟩ := bnd_ex h
        refine g_iinc C (i := 15) (lv' := [(15, .int v4), (0, va_rf (some b)), (1, va_rf y1), (6, .int y6)]) (q := 3) v4 dL_law_474 rfl ev4 hn15 rfl ?_
        refine g_goto C (tgt := 453) dL_law_477 (by decide) ?_
        refine g_sub (lv' := [(0, va_rf (some b)), (1, va_rf y1), (6, .int y6), (15, .int v4)]) [1, 2, 3, 0] rfl ?_
        exact ih _ _ (by omega) (by omega) S2 y1 y6 v4 h

set_option maxHeartbeats 4000000 in
set_option maxRecDepth 100000 in
theorem w_L_law_J436 {X : Cx} {adK adV : Nat → Nat} (E : EV adK adV (xA X) (xs X) (xs X).heap) (C : CxOK X cL_law RL room_1) (hn : xn X = 16) {b L : Nat} {sc : Nat → Int32} (hX : va_X b L sc (xs X) (xs X).heap) (hbl : b < (xs X).heap.size) (hbA : ¬ xA X b) {S9 : Hp} {o : Int32 × Hp} (ho : o = ((1 : Int32), S9)) (hret : ∀ (k n : Nat), k ≤ 628669 → n ≤ 7216242 → ∀ (S : Hp) (pc : Nat) (lv : List (Nat × Value)), decode cL_law pc = .ok (.ireturn, 1) → GW X k n S pc lv [.int 1]) {kout : Hp → Option Nat → Int32 → Option (Int32 × Hp)} {K1 N1 : Nat} (hK1 : K1 ≤ 628669) (hN1 : N1 ≤ 7216242) (HK : ∀ (k n : Nat) (S : Hp) (y1 : Option Nat) (y6 : Int32), k ≤ K1 → n ≤ N1 → kout S y1 y6 = some o → GW X k n S 95 [(0, va_rf (some b)), (1, va_rf y1), (6, .int y6)] [])  (k n : Nat) (hk : k + 1 ≤ K1) (hn4 : n + 4 ≤ N1) (S : Hp) (y1 : Option Nat) (y6 : Int32) (y13 : Int32) (h : f_L_law_J436 sc L kout S y1 y6 y13 = some o) : GW X k n S 436 [(0, va_rf (some b)), (1, va_rf y1), (6, .int y6), (13, .int y13)] [] := by
  have hn15 : 15 < xn X := by rw [hn]; decide
  unfold f_L_law_J436 at h
  refine g_iload C (q := 3) dL_law_436 rfl ?_
  refine g_if_eq C (tgt := 448) dL_law_438 (by decide) h (fun h => ?_) (fun h => ?_)
  · refine g_iconst C (v := 0) dL_law_448 (by decide) ?_
    (subst ho; exact law0 h)
  · refine g_aload_n C (q := 1) dL_law_441 rfl rfl ?_
    refine g_callSIm C (mc := 1) (ms := 4) (As := [va_rf y1]) (np := 1) (st := []) (fun q hq => c_L_accounts S y1 q hq) gs_RL_L_accounts rfl rfl dsL_accounts rfl ⟨Nat.le_of_ble_eq_true rfl, Nat.le_of_ble_eq_true rfl⟩ rfl (cat_sum (Nat.le_of_ble_eq_true rfl)) ⟨(show _ ≤ 628669 by omega), (show _ ≤ 7216242 by omega)⟩ dL_law_442 h (fun v1 S1 h => ?_)
    refine g_if_ne C (tgt := 450) dL_law_445 (by decide) h (fun h => ?_) (fun h => ?_)
    · refine g_iconst C (v := 0) dL_law_448 (by decide) ?_
      (subst ho; exact law0 h)
    · refine g_iconst C (v := 0) dL_law_450 (by decide) ?_
      refine g_istore C (i := 15) (lv' := [(15, .int 0), (0, va_rf (some b)), (1, va_rf y1), (6, .int y6), (13, .int y13)]) dL_law_451 hn15 rfl ?_
      refine g_sub (lv' := [(0, va_rf (some b)), (1, va_rf y1), (6, .int y6), (15, .int 0)]) [1, 2, 3, 0] rfl ?_
      exact w_L_law_L453 E C hn hX hbl hbA ho hret hK1 hN1 HK 1000 _ _ (by omega) (by omega) S1 y1 y6 (0 : Int32) h

set_option maxHeartbeats 4000000 in
set_option maxRecDepth 100000 in
theorem w_L_law_J434 {X : Cx} {adK adV : Nat → Nat} (E : EV adK adV (xA X) (xs X) (xs X).heap) (C : CxOK X cL_law RL room_1) (hn : xn X = 16) {b L : Nat} {sc : Nat → Int32} (hX : va_X b L sc (xs X) (xs X).heap) (hbl : b < (xs X).heap.size) (hbA : ¬ xA X b) {S9 : Hp} {o : Int32 × Hp} (ho : o = ((1 : Int32), S9)) (hret : ∀ (k n : Nat), k ≤ 628669 → n ≤ 7216242 → ∀ (S : Hp) (pc : Nat) (lv : List (Nat × Value)), decode cL_law pc = .ok (.ireturn, 1) → GW X k n S pc lv [.int 1]) {kout : Hp → Option Nat → Int32 → Option (Int32 × Hp)} {K1 N1 : Nat} (hK1 : K1 ≤ 628669) (hN1 : N1 ≤ 7216242) (HK : ∀ (k n : Nat) (S : Hp) (y1 : Option Nat) (y6 : Int32), k ≤ K1 → n ≤ N1 → kout S y1 y6 = some o → GW X k n S 95 [(0, va_rf (some b)), (1, va_rf y1), (6, .int y6)] [])  (k n : Nat) (hk : k + 1 ≤ K1) (hn4 : n + 4 ≤ N1) (S : Hp) (y1 : Option Nat) (y6 : Int32) (z0 : Int32) (h : f_L_law_J434 sc L kout S y1 y6 z0 = some o) : GW X k n S 434 [(0, va_rf (some b)), (1, va_rf y1), (6, .int y6)] [.int z0] := by
  have hn13 : 13 < xn X := by rw [hn]; decide
  unfold f_L_law_J434 at h
  refine g_istore C (i := 13) (lv' := [(13, .int z0), (0, va_rf (some b)), (1, va_rf y1), (6, .int y6)]) dL_law_434 hn13 rfl ?_
  refine g_sub (lv' := [(0, va_rf (some b)), (1, va_rf y1), (6, .int y6), (13, .int z0)]) [1, 2, 3, 0] rfl ?_
  exact w_L_law_J436 E C hn hX hbl hbA ho hret hK1 hN1 HK _ _ (by omega) (by omega) S y1 y6 z0 h

set_option maxHeartbeats 4000000 in
set_option maxRecDepth 100000 in
theorem w_L_law_J433 {X : Cx} {adK adV : Nat → Nat} (E : EV adK adV (xA X) (xs X) (xs X).heap) (C : CxOK X cL_law RL room_1) (hn : xn X = 16) {b L : Nat} {sc : Nat → Int32} (hX : va_X b L sc (xs X) (xs X).heap) (hbl : b < (xs X).heap.size) (hbA : ¬ xA X b) {S9 : Hp} {o : Int32 × Hp} (ho : o = ((1 : Int32), S9)) (hret : ∀ (k n : Nat), k ≤ 628669 → n ≤ 7216242 → ∀ (S : Hp) (pc : Nat) (lv : List (Nat × Value)), decode cL_law pc = .ok (.ireturn, 1) → GW X k n S pc lv [.int 1]) {kout : Hp → Option Nat → Int32 → Option (Int32 × Hp)} {K1 N1 : Nat} (hK1 : K1 ≤ 628669) (hN1 : N1 ≤ 7216242) (HK : ∀ (k n : Nat) (S : Hp) (y1 : Option Nat) (y6 : Int32), k ≤ K1 → n ≤ N1 → kout S y1 y6 = some o → GW X k n S 95 [(0, va_rf (some b)), (1, va_rf y1), (6, .int y6)] [])  (k n : Nat) (hk : k + 1 ≤ K1) (hn4 : n + 4 ≤ N1) (S : Hp) (y1 : Option Nat) (y6 : Int32) (h : f_L_law_J433 sc L kout S y1 y6 = some o) : GW X k n S 433 [(0, va_rf (some b)), (1, va_rf y1), (6, .int y6)] [] := by
  unfold f_L_law_J433 at h
  refine g_iconst C (v := 0) dL_law_433 (by decide) ?_
  refine g_sub (lv' := [(0, va_rf (some b)), (1, va_rf y1), (6, .int y6)]) [0, 1, 2] rfl ?_
  exact w_L_law_J434 E C hn hX hbl hbA ho hret hK1 hN1 HK _ _ (by omega) (by omega) S y1 y6 (0 : Int32) h

set_option maxHeartbeats 4000000 in
set_option maxRecDepth 100000 in
theorem w_L_law_J410 {X : Cx} {adK adV : Nat → Nat} (E : EV adK adV (xA X) (xs X) (xs X).heap) (C : CxOK X cL_law RL room_1) (hn : xn X = 16) {b L : Nat} {sc : Nat → Int32} (hX : va_X b L sc (xs X) (xs X).heap) (hbl : b < (xs X).heap.size) (hbA : ¬ xA X b) {S9 : Hp} {o : Int32 × Hp} (ho : o = ((1 : Int32), S9)) (hret : ∀ (k n : Nat), k ≤ 628669 → n ≤ 7216242 → ∀ (S : Hp) (pc : Nat) (lv : List (Nat × Value)), decode cL_law pc = .ok (.ireturn, 1) → GW X k n S pc lv [.int 1]) {kout : Hp → Option Nat → Int32 → Option (Int32 × Hp)} {K1 N1 : Nat} (hK1 : K1 ≤ 628669) (hN1 : N1 ≤ 7216242) (HK : ∀ (k n : Nat) (S : Hp) (y1 : Option Nat) (y6 : Int32), k ≤ K1 → n ≤ N1 → kout S y1 y6 = some o → GW X k n S 95 [(0, va_rf (some b)), (1, va_rf y1), (6, .int y6)] [])  (k n : Nat) (hk : k + 1 ≤ K1) (hn4 : n + 4 ≤ N1) (S : Hp) (y1 : Option Nat) (y6 : Int32) (y11 : Int64) (y14 : Int32) (h : f_L_law_J410 sc L kout S y1 y6 y11 y14 = some o) : GW X k n S 410 [(0, va_rf (some b)), (1, va_rf y1), (6, .int y6), (11, .long y11), (14, .int y14)] [] := by
  unfold f_L_law_J410 at h
  refine g_aload_n C (q := 1) dL_law_410 rfl rfl ?_
  refine g_callVI C (ci := 5) (As := []) (np := 0) (st := []) (r := y1) rfl (by decide) (fun b1 q hq => c_X5_undo S b1  q hq) gv_RL_X5_undo rfl rfl dsX5_undo rfl ⟨Nat.le_of_ble_eq_true rfl, Nat.le_of_ble_eq_true rfl⟩ rfl (cat_sum (Nat.le_of_ble_eq_true rfl)) ⟨(show _ ≤ 628669 by omega), (show _ ≤ 7216242 by omega)⟩ dL_law_411 h (fun v1 S1 h => ?_)
  refine g_iload C (q := 4) dL_law_414 rfl ?_
  refine g_icmp_ne C (tgt := 433) dL_law_416 (by decide) h (fun h => ?_) (fun h => ?_)
  · refine g_aload_n C (q := 1) dL_law_419 rfl rfl ?_
    refine g_callSJ C (As := [va_rf y1]) (np := 1) (st := []) (fun q hq => c_L_digest S1 y1 q hq) gs_RL_L_digest rfl rfl dsL_digest rfl ⟨Nat.le_of_ble_eq_true rfl, Nat.le_of_ble_eq_true rfl⟩ rfl (cat_sum (Nat.le_of_ble_eq_true rfl)) ⟨(show _ ≤ 628669 by omega), (show _ ≤ 7216242 by omega)⟩ dL_law_420 h (fun j1 S2 h => ?_)
    refine g_lload C (q := 3) dL_law_423 rfl ?_
    refine g_lcmp C dL_law_425 ?_
    refine g_if_ne C (tgt := 433) dL_law_426 (by decide) h (fun h => ?_) (fun h => ?_)
    · refine g_iconst C (v := 1) dL_law_429 (by decide) ?_
      refine g_goto C (tgt := 434) dL_law_430 (by decide) ?_
      refine g_sub (lv' := [(0, va_rf (some b)), (1, va_rf y1), (6, .int y6)]) [0, 1, 2] rfl ?_
      exact w_L_law_J434 E C hn hX hbl hbA ho hret hK1 hN1 HK _ _ (by omega) (by omega) S2 y1 y6 (1 : Int32) h
    · refine g_sub (lv' := [(0, va_rf (some b)), (1, va_rf y1), (6, .int y6)]) [0, 1, 2] rfl ?_
      exact w_L_law_J433 E C hn hX hbl hbA ho hret hK1 hN1 HK _ _ (by omega) (by omega) S2 y1 y6 h
  · refine g_sub (lv' := [(0, va_rf (some b)), (1, va_rf y1), (6, .int y6)]) [0, 1, 2] rfl ?_
    exact w_L_law_J433 E C hn hX hbl hbA ho hret hK1 hN1 HK _ _ (by omega) (by omega) S1 y1 y6 h

set_option maxHeartbeats 4000000 in
set_option maxRecDepth 100000 in
theorem w_L_law_J354 {X : Cx} {adK adV : Nat → Nat} (E : EV adK adV (xA X) (xs X) (xs X).heap) (C : CxOK X cL_law RL room_1) (hn : xn X = 16) {b L : Nat} {sc : Nat → Int32} (hX : va_X b L sc (xs X) (xs X).heap) (hbl : b < (xs X).heap.size) (hbA : ¬ xA X b) {S9 : Hp} {o : Int32 × Hp} (ho : o = ((1 : Int32), S9)) (hret : ∀ (k n : Nat), k ≤ 628669 → n ≤ 7216242 → ∀ (S : Hp) (pc : Nat) (lv : List (Nat × Value)), decode cL_law pc = .ok (.ireturn, 1) → GW X k n S pc lv [.int 1]) {kout : Hp → Option Nat → Int32 → Option (Int32 × Hp)} {K1 N1 : Nat} (hK1 : K1 ≤ 628669) (hN1 : N1 ≤ 7216242) (HK : ∀ (k n : Nat) (S : Hp) (y1 : Option Nat) (y6 : Int32), k ≤ K1 → n ≤ N1 → kout S y1 y6 = some o → GW X k n S 95 [(0, va_rf (some b)), (1, va_rf y1), (6, .int y6)] [])  (k n : Nat) (hk : k + 1 ≤ K1) (hn4 : n + 4 ≤ N1) (S : Hp) (y1 : Option Nat) (y6 : Int32) (y8 : Int32) (y9 : Int32) (y10 : Int32) (y11 : Int64) (y13 : Int32) (z0 : Int32) (h : f_L_law_J354 sc L kout S y1 y6 y8 y9 y10 y11 y13 z0 = some o) : GW X k n S 354 [(0, va_rf (some b)), (1, va_rf y1), (6, .int y6), (8, .int y8), (9, .int y9), (10, .int y10), (11, .long y11), (13, .int y13)] [.int z0] := by
  have hn14 : 14 < xn X := by rw [hn]; decide
  unfold f_L_law_J354 at h
  refine g_istore C (i := 14) (lv' := [(14, .int z0), (0, va_rf (some b)), (1, va_rf y1), (6, .int y6), (8, .int y8), (9, .int y9), (10, .int y10), (11, .long y11), (13, .int y13)]) dL_law_354 hn14 rfl ?_
  refine g_iload C (q := 8) dL_law_356 rfl ?_
  refine g_if_eq C (tgt := 436) dL_law_358 (by decide) h (fun h => ?_) (fun h => ?_)
  · refine g_sub (lv' := [(0, va_rf (some b)), (1, va_rf y1), (6, .int y6), (13, .int y13)]) [1, 2, 3, 8] rfl ?_
    exact w_L_law_J436 E C hn hX hbl hbA ho hret hK1 hN1 HK _ _ (by omega) (by omega) S y1 y6 y13 h
  · refine g_iload C (q := 3) dL_law_361 rfl ?_
    refine g_iconst C (v := 4) dL_law_363 (by decide) ?_
    refine g_icmp_le C (tgt := 436) dL_law_364 (by decide) h (fun h => ?_) (fun h => ?_)
    · refine g_sub (lv' := [(0, va_rf (some b)), (1, va_rf y1), (6, .int y6), (13, .int y13)]) [1, 2, 3, 8] rfl ?_
      exact w_L_law_J436 E C hn hX hbl hbA ho hret hK1 hN1 HK _ _ (by omega) (by omega) S y1 y6 y13 h
    · refine g_iload C (q := 5) dL_law_367 rfl ?_
      refine g_bipush C (v := 15) dL_law_369 (by decide) ?_
      refine g_icmp_ge C (tgt := 436) dL_law_371 (by decide) h (fun h => ?_) (fun h => ?_)
      · refine g_sub (lv' := [(0, va_rf (some b)), (1, va_rf y1), (6, .int y6), (13, .int y13)]) [1, 2, 3, 8] rfl ?_
        exact w_L_law_J436 E C hn hX hbl hbA ho hret hK1 hN1 HK _ _ (by omega) (by omega) S y1 y6 y13 h
      · refine g_iload C (q := 4) dL_law_374 rfl ?_
        refine g_sipush C (v := 3072) dL_law_376 (by decide) ?_
        refine g_iand C dL_law_379 ?_
        refine g_if_ne C (tgt := 436) dL_law_380 (by decide) h (fun h => ?_) (fun h => ?_)
        · refine g_aload_n C (q := 2) dL_law_383 rfl rfl ?_
          refine g_bipush C (v := 11) dL_law_384 (by decide) ?_
          refine g_callVI C (ci := 5) (As := [.int 11]) (np := 1) (st := []) (r := y1) rfl (by decide) (fun b1 q hq => c_X5_count S b1 (11 : Int32) q hq) gv_RL_X5_count rfl rfl dsX5_count rfl ⟨Nat.le_of_ble_eq_true rfl, Nat.le_of_ble_eq_true rfl⟩ rfl (cat_sum (Nat.le_of_ble_eq_true rfl)) ⟨(show _ ≤ 628669 by omega), (show _ ≤ 7216242 by omega)⟩ dL_law_386 h (fun v1 S1 h => ?_)
          refine g_iload C (q := 6) dL_law_389 rfl ?_
          refine g_icmp_ne C (tgt := 410) dL_law_391 (by decide) h (fun h => ?_) (fun h => ?_)
          · refine g_iload C (q := 6) dL_law_394 rfl ?_
            refine g_iconst C (v := 5) dL_law_396 (by decide) ?_
            refine g_icmp_ne C (tgt := 436) dL_law_397 (by decide) h (fun h => ?_) (fun h => ?_)
            · refine g_aload_n C (q := 2) dL_law_400 rfl rfl ?_
              refine g_callSJ C (As := [va_rf y1]) (np := 1) (st := []) (fun q hq => c_L_digest S1 y1 q hq) gs_RL_L_digest rfl rfl dsL_digest rfl ⟨Nat.le_of_ble_eq_true rfl, Nat.le_of_ble_eq_true rfl⟩ rfl (cat_sum (Nat.le_of_ble_eq_true rfl)) ⟨(show _ ≤ 628669 by omega), (show _ ≤ 7216242 by omega)⟩ dL_law_401 h (fun j1 S2 h => ?_)
              refine g_lload C (q := 7) dL_law_404 rfl ?_
              refine g_lcmp C dL_law_406 ?_
              refine g_if_eq C (tgt := 436) dL_law_407 (by decide) h (fun h => ?_) (fun h => ?_)
              · refine g_sub (lv' := [(0, va_rf (some b)), (1, va_rf y1), (6, .int y6), (13, .int y13)]) [1, 2, 3, 8] rfl ?_
                exact w_L_law_J436 E C hn hX hbl hbA ho hret hK1 hN1 HK _ _ (by omega) (by omega) S2 y1 y6 y13 h
              · refine g_sub (lv' := [(0, va_rf (some b)), (1, va_rf y1), (6, .int y6), (11, .long y11), (14, .int z0)]) [1, 2, 3, 7, 0] rfl ?_
                exact w_L_law_J410 E C hn hX hbl hbA ho hret hK1 hN1 HK _ _ (by omega) (by omega) S2 y1 y6 y11 z0 h
            · refine g_sub (lv' := [(0, va_rf (some b)), (1, va_rf y1), (6, .int y6), (13, .int y13)]) [1, 2, 3, 8] rfl ?_
              exact w_L_law_J436 E C hn hX hbl hbA ho hret hK1 hN1 HK _ _ (by omega) (by omega) S1 y1 y6 y13 h
          · refine g_sub (lv' := [(0, va_rf (some b)), (1, va_rf y1), (6, .int y6), (11, .long y11), (14, .int z0)]) [1, 2, 3, 7, 0] rfl ?_
            exact w_L_law_J410 E C hn hX hbl hbA ho hret hK1 hN1 HK _ _ (by omega) (by omega) S1 y1 y6 y11 z0 h
        · refine g_sub (lv' := [(0, va_rf (some b)), (1, va_rf y1), (6, .int y6), (13, .int y13)]) [1, 2, 3, 8] rfl ?_
          exact w_L_law_J436 E C hn hX hbl hbA ho hret hK1 hN1 HK _ _ (by omega) (by omega) S y1 y6 y13 h

set_option maxHeartbeats 4000000 in
set_option maxRecDepth 100000 in
theorem w_L_law_J342 {X : Cx} {adK adV : Nat → Nat} (E : EV adK adV (xA X) (xs X) (xs X).heap) (C : CxOK X cL_law RL room_1) (hn : xn X = 16) {b L : Nat} {sc : Nat → Int32} (hX : va_X b L sc (xs X) (xs X).heap) (hbl : b < (xs X).heap.size) (hbA : ¬ xA X b) {S9 : Hp} {o : Int32 × Hp} (ho : o = ((1 : Int32), S9)) (hret : ∀ (k n : Nat), k ≤ 628669 → n ≤ 7216242 → ∀ (S : Hp) (pc : Nat) (lv : List (Nat × Value)), decode cL_law pc = .ok (.ireturn, 1) → GW X k n S pc lv [.int 1]) {kout : Hp → Option Nat → Int32 → Option (Int32 × Hp)} {K1 N1 : Nat} (hK1 : K1 ≤ 628669) (hN1 : N1 ≤ 7216242) (HK : ∀ (k n : Nat) (S : Hp) (y1 : Option Nat) (y6 : Int32), k ≤ K1 → n ≤ N1 → kout S y1 y6 = some o → GW X k n S 95 [(0, va_rf (some b)), (1, va_rf y1), (6, .int y6)] [])  (k n : Nat) (hk : k + 1 ≤ K1) (hn4 : n + 4 ≤ N1) (S : Hp) (y1 : Option Nat) (y6 : Int32) (y8 : Int32) (y9 : Int32) (y10 : Int32) (y11 : Int64) (y13 : Int32) (h : f_L_law_J342 sc L kout S y1 y6 y8 y9 y10 y11 y13 = some o) : GW X k n S 342 [(0, va_rf (some b)), (1, va_rf y1), (6, .int y6), (8, .int y8), (9, .int y9), (10, .int y10), (11, .long y11), (13, .int y13)] [] := by
  unfold f_L_law_J342 at h
  refine g_iload C (q := 5) dL_law_342 rfl ?_
  refine g_iconst C (v := 5) dL_law_344 (by decide) ?_
  refine g_icmp_ne C (tgt := 352) dL_law_345 (by decide) h (fun h => ?_) (fun h => ?_)
  · refine g_iconst C (v := 4) dL_law_348 (by decide) ?_
    refine g_goto C (tgt := 354) dL_law_349 (by decide) ?_
    refine g_sub (lv' := [(0, va_rf (some b)), (1, va_rf y1), (6, .int y6), (8, .int y8), (9, .int y9), (10, .int y10), (11, .long y11), (13, .int y13)]) [0, 1, 2, 3, 4, 5, 6, 7] rfl ?_
    exact w_L_law_J354 E C hn hX hbl hbA ho hret hK1 hN1 HK _ _ (by omega) (by omega) S y1 y6 y8 y9 y10 y11 y13 (4 : Int32) h
  · refine g_iload C (q := 5) dL_law_352 rfl ?_
    refine g_sub (lv' := [(0, va_rf (some b)), (1, va_rf y1), (6, .int y6), (8, .int y8), (9, .int y9), (10, .int y10), (11, .long y11), (13, .int y13)]) [0, 1, 2, 3, 4, 5, 6, 7] rfl ?_
    exact w_L_law_J354 E C hn hX hbl hbA ho hret hK1 hN1 HK _ _ (by omega) (by omega) S y1 y6 y8 y9 y10 y11 y13 y10 h

set_option maxHeartbeats 4000000 in
set_option maxRecDepth 100000 in
theorem w_L_law_J313 {X : Cx} {adK adV : Nat → Nat} (E : EV adK adV (xA X) (xs X) (xs X).heap) (C : CxOK X cL_law RL room_1) (hn : xn X = 16) {b L : Nat} {sc : Nat → Int32} (hX : va_X b L sc (xs X) (xs X).heap) (hbl : b < (xs X).heap.size) (hbA : ¬ xA X b) {S9 : Hp} {o : Int32 × Hp} (ho : o = ((1 : Int32), S9)) (hret : ∀ (k n : Nat), k ≤ 628669 → n ≤ 7216242 → ∀ (S : Hp) (pc : Nat) (lv : List (Nat × Value)), decode cL_law pc = .ok (.ireturn, 1) → GW X k n S pc lv [.int 1]) {kout : Hp → Option Nat → Int32 → Option (Int32 × Hp)} {K1 N1 : Nat} (hK1 : K1 ≤ 628669) (hN1 : N1 ≤ 7216242) (HK : ∀ (k n : Nat) (S : Hp) (y1 : Option Nat) (y6 : Int32), k ≤ K1 → n ≤ N1 → kout S y1 y6 = some o → GW X k n S 95 [(0, va_rf (some b)), (1, va_rf y1), (6, .int y6)] [])  (k n : Nat) (hk : k + 1 ≤ K1) (hn4 : n + 4 ≤ N1) (S : Hp) (y1 : Option Nat) (y6 : Int32) (y8 : Int32) (y9 : Int32) (y10 : Int32) (y11 : Int64) (z0 : Int32) (h : f_L_law_J313 sc L kout S y1 y6 y8 y9 y10 y11 z0 = some o) : GW X k n S 313 [(0, va_rf (some b)), (1, va_rf y1), (6, .int y6), (8, .int y8), (9, .int y9), (10, .int y10), (11, .long y11)] [.int z0] := by
  have hn13 : 13 < xn X := by rw [hn]; decide
  unfold f_L_law_J313 at h
  refine g_istore C (i := 13) (lv' := [(13, .int z0), (0, va_rf (some b)), (1, va_rf y1), (6, .int y6), (8, .int y8), (9, .int y9), (10, .int y10), (11, .long y11)]) dL_law_313 hn13 rfl ?_
  refine g_goto C (tgt := 342) dL_law_315 (by decide) ?_
  refine g_sub (lv' := [(0, va_rf (some b)), (1, va_rf y1), (6, .int y6), (8, .int y8), (9, .int y9), (10, .int y10), (11, .long y11), (13, .int z0)]) [1, 2, 3, 4, 5, 6, 7, 0] rfl ?_
  exact w_L_law_J342 E C hn hX hbl hbA ho hret hK1 hN1 HK _ _ (by omega) (by omega) S y1 y6 y8 y9 y10 y11 z0 h

set_option maxHeartbeats 4000000 in
set_option maxRecDepth 100000 in
theorem w_L_law_J308 {X : Cx} {adK adV : Nat → Nat} (E : EV adK adV (xA X) (xs X) (xs X).heap) (C : CxOK X cL_law RL room_1) (hn : xn X = 16) {b L : Nat} {sc : Nat → Int32} (hX : va_X b L sc (xs X) (xs X).heap) (hbl : b < (xs X).heap.size) (hbA : ¬ xA X b) {S9 : Hp} {o : Int32 × Hp} (ho : o = ((1 : Int32), S9)) (hret : ∀ (k n : Nat), k ≤ 628669 → n ≤ 7216242 → ∀ (S : Hp) (pc : Nat) (lv : List (Nat × Value)), decode cL_law pc = .ok (.ireturn, 1) → GW X k n S pc lv [.int 1]) {kout : Hp → Option Nat → Int32 → Option (Int32 × Hp)} {K1 N1 : Nat} (hK1 : K1 ≤ 628669) (hN1 : N1 ≤ 7216242) (HK : ∀ (k n : Nat) (S : Hp) (y1 : Option Nat) (y6 : Int32), k ≤ K1 → n ≤ N1 → kout S y1 y6 = some o → GW X k n S 95 [(0, va_rf (some b)), (1, va_rf y1), (6, .int y6)] [])  (k n : Nat) (hk : k + 1 ≤ K1) (hn4 : n + 4 ≤ N1) (S : Hp) (y1 : Option Nat) (y6 : Int32) (y8 : Int32) (y9 : Int32) (y10 : Int32) (y11 : Int64) (h : f_L_law_J308 sc L kout S y1 y6 y8 y9 y10 y11 = some o) : GW X k n S 308 [(0, va_rf (some b)), (1, va_rf y1), (6, .int y6), (8, .int y8), (9, .int y9), (10, .int y10), (11, .long y11)] [] := by
  unfold f_L_law_J308 at h
  refine g_iconst C (v := 1) dL_law_308 (by decide) ?_
  refine g_goto C (tgt := 313) dL_law_309 (by decide) ?_
  refine g_sub (lv' := [(0, va_rf (some b)), (1, va_rf y1), (6, .int y6), (8, .int y8), (9, .int y9), (10, .int y10), (11, .long y11)]) [0, 1, 2, 3, 4, 5, 6] rfl ?_
  exact w_L_law_J313 E C hn hX hbl hbA ho hret hK1 hN1 HK _ _ (by omega) (by omega) S y1 y6 y8 y9 y10 y11 (1 : Int32) h

set_option maxHeartbeats 4000000 in
set_option maxRecDepth 100000 in
theorem w_L_law_J275 {X : Cx} {adK adV : Nat → Nat} (E : EV adK adV (xA X) (xs X) (xs X).heap) (C : CxOK X cL_law RL room_1) (hn : xn X = 16) {b L : Nat} {sc : Nat → Int32} (hX : va_X b L sc (xs X) (xs X).heap) (hbl : b < (xs X).heap.size) (hbA : ¬ xA X b) {S9 : Hp} {o : Int32 × Hp} (ho : o = ((1 : Int32), S9)) (hret : ∀ (k n : Nat), k ≤ 628669 → n ≤ 7216242 → ∀ (S : Hp) (pc : Nat) (lv : List (Nat × Value)), decode cL_law pc = .ok (.ireturn, 1) → GW X k n S pc lv [.int 1]) {kout : Hp → Option Nat → Int32 → Option (Int32 × Hp)} {K1 N1 : Nat} (hK1 : K1 ≤ 628669) (hN1 : N1 ≤ 7216242) (HK : ∀ (k n : Nat) (S : Hp) (y1 : Option Nat) (y6 : Int32), k ≤ K1 → n ≤ N1 → kout S y1 y6 = some o → GW X k n S 95 [(0, va_rf (some b)), (1, va_rf y1), (6, .int y6)] [])  (k n : Nat) (hk : k + 1 ≤ K1) (hn4 : n + 4 ≤ N1) (S : Hp) (y1 : Option Nat) (y6 : Int32) (y8 : Int32) (y9 : Int32) (y10 : Int32) (y11 : Int64) (z0 : Int32) (h : f_L_law_J275 sc L kout S y1 y6 y8 y9 y10 y11 z0 = some o) : GW X k n S 275 [(0, va_rf (some b)), (1, va_rf y1), (6, .int y6), (8, .int y8), (9, .int y9), (10, .int y10), (11, .long y11)] [.int z0] := by
  have hn13 : 13 < xn X := by rw [hn]; decide
  unfold f_L_law_J275 at h
  refine g_istore C (i := 13) (lv' := [(13, .int z0), (0, va_rf (some b)), (1, va_rf y1), (6, .int y6), (8, .int y8), (9, .int y9), (10, .int y10), (11, .long y11)]) dL_law_275 hn13 rfl ?_
  refine g_goto C (tgt := 342) dL_law_277 (by decide) ?_
  refine g_sub (lv' := [(0, va_rf (some b)), (1, va_rf y1), (6, .int y6), (8, .int y8), (9, .int y9), (10, .int y10), (11, .long y11), (13, .int z0)]) [1, 2, 3, 4, 5, 6, 7, 0] rfl ?_
  exact w_L_law_J342 E C hn hX hbl hbA ho hret hK1 hN1 HK _ _ (by omega) (by omega) S y1 y6 y8 y9 y10 y11 z0 h

set_option maxHeartbeats 4000000 in
set_option maxRecDepth 100000 in
theorem w_L_law_J270 {X : Cx} {adK adV : Nat → Nat} (E : EV adK adV (xA X) (xs X) (xs X).heap) (C : CxOK X cL_law RL room_1) (hn : xn X = 16) {b L : Nat} {sc : Nat → Int32} (hX : va_X b L sc (xs X) (xs X).heap) (hbl : b < (xs X).heap.size) (hbA : ¬ xA X b) {S9 : Hp} {o : Int32 × Hp} (ho : o = ((1 : Int32), S9)) (hret : ∀ (k n : Nat), k ≤ 628669 → n ≤ 7216242 → ∀ (S : Hp) (pc : Nat) (lv : List (Nat × Value)), decode cL_law pc = .ok (.ireturn, 1) → GW X k n S pc lv [.int 1]) {kout : Hp → Option Nat → Int32 → Option (Int32 × Hp)} {K1 N1 : Nat} (hK1 : K1 ≤ 628669) (hN1 : N1 ≤ 7216242) (HK : ∀ (k n : Nat) (S : Hp) (y1 : Option Nat) (y6 : Int32), k ≤ K1 → n ≤ N1 → kout S y1 y6 = some o → GW X k n S 95 [(0, va_rf (some b)), (1, va_rf y1), (6, .int y6)] [])  (k n : Nat) (hk : k + 1 ≤ K1) (hn4 : n + 4 ≤ N1) (S : Hp) (y1 : Option Nat) (y6 : Int32) (y8 : Int32) (y9 : Int32) (y10 : Int32) (y11 : Int64) (h : f_L_law_J270 sc L kout S y1 y6 y8 y9 y10 y11 = some o) : GW X k n S 270 [(0, va_rf (some b)), (1, va_rf y1), (6, .int y6), (8, .int y8), (9, .int y9), (10, .int y10), (11, .long y11)] [] := by
  unfold f_L_law_J270 at h
  refine g_iconst C (v := 1) dL_law_270 (by decide) ?_
  refine g_goto C (tgt := 275) dL_law_271 (by decide) ?_
  refine g_sub (lv' := [(0, va_rf (some b)), (1, va_rf y1), (6, .int y6), (8, .int y8), (9, .int y9), (10, .int y10), (11, .long y11)]) [0, 1, 2, 3, 4, 5, 6] rfl ?_
  exact w_L_law_J275 E C hn hX hbl hbA ho hret hK1 hN1 HK _ _ (by omega) (by omega) S y1 y6 y8 y9 y10 y11 (1 : Int32) h

set_option maxHeartbeats 4000000 in
set_option maxRecDepth 100000 in
theorem w_L_law_J237 {X : Cx} {adK adV : Nat → Nat} (E : EV adK adV (xA X) (xs X) (xs X).heap) (C : CxOK X cL_law RL room_1) (hn : xn X = 16) {b L : Nat} {sc : Nat → Int32} (hX : va_X b L sc (xs X) (xs X).heap) (hbl : b < (xs X).heap.size) (hbA : ¬ xA X b) {S9 : Hp} {o : Int32 × Hp} (ho : o = ((1 : Int32), S9)) (hret : ∀ (k n : Nat), k ≤ 628669 → n ≤ 7216242 → ∀ (S : Hp) (pc : Nat) (lv : List (Nat × Value)), decode cL_law pc = .ok (.ireturn, 1) → GW X k n S pc lv [.int 1]) {kout : Hp → Option Nat → Int32 → Option (Int32 × Hp)} {K1 N1 : Nat} (hK1 : K1 ≤ 628669) (hN1 : N1 ≤ 7216242) (HK : ∀ (k n : Nat) (S : Hp) (y1 : Option Nat) (y6 : Int32), k ≤ K1 → n ≤ N1 → kout S y1 y6 = some o → GW X k n S 95 [(0, va_rf (some b)), (1, va_rf y1), (6, .int y6)] [])  (k n : Nat) (hk : k + 1 ≤ K1) (hn4 : n + 4 ≤ N1) (S : Hp) (y1 : Option Nat) (y6 : Int32) (y8 : Int32) (y9 : Int32) (y10 : Int32) (y11 : Int64) (z0 : Int32) (h : f_L_law_J237 sc L kout S y1 y6 y8 y9 y10 y11 z0 = some o) : GW X k n S 237 [(0, va_rf (some b)), (1, va_rf y1), (6, .int y6), (8, .int y8), (9, .int y9), (10, .int y10), (11, .long y11)] [.int z0] := by
  have hn13 : 13 < xn X := by rw [hn]; decide
  unfold f_L_law_J237 at h
  refine g_istore C (i := 13) (lv' := [(13, .int z0), (0, va_rf (some b)), (1, va_rf y1), (6, .int y6), (8, .int y8), (9, .int y9), (10, .int y10), (11, .long y11)]) dL_law_237 hn13 rfl ?_
  refine g_goto C (tgt := 342) dL_law_239 (by decide) ?_
  refine g_sub (lv' := [(0, va_rf (some b)), (1, va_rf y1), (6, .int y6), (8, .int y8), (9, .int y9), (10, .int y10), (11, .long y11), (13, .int z0)]) [1, 2, 3, 4, 5, 6, 7, 0] rfl ?_
  exact w_L_law_J342 E C hn hX hbl hbA ho hret hK1 hN1 HK _ _ (by omega) (by omega) S y1 y6 y8 y9 y10 y11 z0 h

set_option maxHeartbeats 4000000 in
set_option maxRecDepth 100000 in
theorem w_L_law_J232 {X : Cx} {adK adV : Nat → Nat} (E : EV adK adV (xA X) (xs X) (xs X).heap) (C : CxOK X cL_law RL room_1) (hn : xn X = 16) {b L : Nat} {sc : Nat → Int32} (hX : va_X b L sc (xs X) (xs X).heap) (hbl : b < (xs X).heap.size) (hbA : ¬ xA X b) {S9 : Hp} {o : Int32 × Hp} (ho : o = ((1 : Int32), S9)) (hret : ∀ (k n : Nat), k ≤ 628669 → n ≤ 7216242 → ∀ (S : Hp) (pc : Nat) (lv : List (Nat × Value)), decode cL_law pc = .ok (.ireturn, 1) → GW X k n S pc lv [.int 1]) {kout : Hp → Option Nat → Int32 → Option (Int32 × Hp)} {K1 N1 : Nat} (hK1 : K1 ≤ 628669) (hN1 : N1 ≤ 7216242) (HK : ∀ (k n : Nat) (S : Hp) (y1 : Option Nat) (y6 : Int32), k ≤ K1 → n ≤ N1 → kout S y1 y6 = some o → GW X k n S 95 [(0, va_rf (some b)), (1, va_rf y1), (6, .int y6)] [])  (k n : Nat) (hk : k + 1 ≤ K1) (hn4 : n + 4 ≤ N1) (S : Hp) (y1 : Option Nat) (y6 : Int32) (y8 : Int32) (y9 : Int32) (y10 : Int32) (y11 : Int64) (h : f_L_law_J232 sc L kout S y1 y6 y8 y9 y10 y11 = some o) : GW X k n S 232 [(0, va_rf (some b)), (1, va_rf y1), (6, .int y6), (8, .int y8), (9, .int y9), (10, .int y10), (11, .long y11)] [] := by
  unfold f_L_law_J232 at h
  refine g_iconst C (v := 1) dL_law_232 (by decide) ?_
  refine g_goto C (tgt := 237) dL_law_233 (by decide) ?_
  refine g_sub (lv' := [(0, va_rf (some b)), (1, va_rf y1), (6, .int y6), (8, .int y8), (9, .int y9), (10, .int y10), (11, .long y11)]) [0, 1, 2, 3, 4, 5, 6] rfl ?_
  exact w_L_law_J237 E C hn hX hbl hbA ho hret hK1 hN1 HK _ _ (by omega) (by omega) S y1 y6 y8 y9 y10 y11 (1 : Int32) h

set_option maxHeartbeats 4000000 in
set_option maxRecDepth 100000 in
theorem w_L_law_J164 {X : Cx} {adK adV : Nat → Nat} (E : EV adK adV (xA X) (xs X) (xs X).heap) (C : CxOK X cL_law RL room_1) (hn : xn X = 16) {b L : Nat} {sc : Nat → Int32} (hX : va_X b L sc (xs X) (xs X).heap) (hbl : b < (xs X).heap.size) (hbA : ¬ xA X b) {S9 : Hp} {o : Int32 × Hp} (ho : o = ((1 : Int32), S9)) (hret : ∀ (k n : Nat), k ≤ 628669 → n ≤ 7216242 → ∀ (S : Hp) (pc : Nat) (lv : List (Nat × Value)), decode cL_law pc = .ok (.ireturn, 1) → GW X k n S pc lv [.int 1]) {kout : Hp → Option Nat → Int32 → Option (Int32 × Hp)} {K1 N1 : Nat} (hK1 : K1 ≤ 628669) (hN1 : N1 ≤ 7216242) (HK : ∀ (k n : Nat) (S : Hp) (y1 : Option Nat) (y6 : Int32), k ≤ K1 → n ≤ N1 → kout S y1 y6 = some o → GW X k n S 95 [(0, va_rf (some b)), (1, va_rf y1), (6, .int y6)] [])  (k n : Nat) (hk : k + 1 ≤ K1) (hn4 : n + 4 ≤ N1) (S : Hp) (y1 : Option Nat) (y6 : Int32) (y7 : Int32) (y8 : Int32) (z0 : Int32) (h : f_L_law_J164 sc L kout S y1 y6 y7 y8 z0 = some o) : GW X k n S 164 [(0, va_rf (some b)), (1, va_rf y1), (6, .int y6), (7, .int y7), (8, .int y8)] [.int z0] := by
  have hn9 : 9 < xn X := by rw [hn]; decide
  have hn10 : 10 < xn X := by rw [hn]; decide
  have hn12 : 12 < xn X := by rw [hn]; decide
  have hn13 : 13 < xn X := by rw [hn]; decide
  unfold f_L_law_J164 at h
  refine g_istore C (i := 9) (lv' := [(9, .int z0), (0, va_rf (some b)), (1, va_rf y1), (6, .int y6), (7, .int y7), (8, .int y8)]) dL_law_164 hn9 rfl ?_
  refine g_aload_n C (q := 2) dL_law_166 rfl rfl ?_
  refine g_bipush C (v := 11) dL_law_167 (by decide) ?_
  refine g_callVI C (ci := 5) (As := [.int 11]) (np := 1) (st := []) (r := y1) rfl (by decide) (fun b1 q hq => c_X5_count S b1 (11 : Int32) q hq) gv_RL_X5_count rfl rfl dsX5_count rfl ⟨Nat.le_of_ble_eq_true rfl, Nat.le_of_ble_eq_true rfl⟩ rfl (cat_sum (Nat.le_of_ble_eq_true rfl)) ⟨(show _ ≤ 628669 by omega), (show _ ≤ 7216242 by omega)⟩ dL_law_169 h (fun v1 S1 h => ?_)
  refine g_istore C (i := 10) (lv' := [(10, .int v1), (9, .int z0), (0, va_rf (some b)), (1, va_rf y1), (6, .int y6), (7, .int y7), (8, .int y8)]) dL_law_172 hn10 rfl ?_
  refine g_aload_n C (q := 3) dL_law_174 rfl rfl ?_
  refine g_callSJ C (As := [va_rf y1]) (np := 1) (st := []) (fun q hq => c_L_digest S1 y1 q hq) gs_RL_L_digest rfl rfl dsL_digest rfl ⟨Nat.le_of_ble_eq_true rfl, Nat.le_of_ble_eq_true rfl⟩ rfl (cat_sum (Nat.le_of_ble_eq_true rfl)) ⟨(show _ ≤ 628669 by omega), (show _ ≤ 7216242 by omega)⟩ dL_law_175 h (fun j1 S2 h => ?_)
  refine g_lstore C (i := 11) (lv' := [(11, .long j1), (10, .int v1), (9, .int z0), (0, va_rf (some b)), (1, va_rf y1), (6, .int y6), (7, .int y7), (8, .int y8)]) dL_law_178 hn12 rfl ?_
  refine g_iconst C (v := 1) dL_law_180 (by decide) ?_
  refine g_istore C (i := 13) (lv' := [(13, .int 1), (11, .long j1), (10, .int v1), (9, .int z0), (0, va_rf (some b)), (1, va_rf y1), (6, .int y6), (7, .int y7), (8, .int y8)]) dL_law_181 hn13 rfl ?_
  refine g_iload C (q := 3) dL_law_183 rfl ?_
  refine g_iconst C (v := 4) dL_law_185 (by decide) ?_
  refine g_icmp_ge C (tgt := 204) dL_law_186 (by decide) h (fun h => ?_) (fun h => ?_)
  · refine g_iload C (q := 3) dL_law_204 rfl ?_
    refine g_bipush C (v := 8) dL_law_206 (by decide) ?_
    refine g_icmp_ge C (tgt := 242) dL_law_208 (by decide) h (fun h => ?_) (fun h => ?_)
    · refine g_iload C (q := 3) dL_law_242 rfl ?_
      refine g_bipush C (v := 12) dL_law_244 (by decide) ?_
      refine g_icmp_ge C (tgt := 280) dL_law_246 (by decide) h (fun h => ?_) (fun h => ?_)
      · refine g_iload C (q := 3) dL_law_280 rfl ?_
        refine g_bipush C (v := 15) dL_law_282 (by decide) ?_
        refine g_icmp_ge C (tgt := 318) dL_law_284 (by decide) h (fun h => ?_) (fun h => ?_)
        · refine g_aload_n C (q := 5) dL_law_318 rfl rfl ?_
          refine g_iconst C (v := 1) dL_law_319 (by decide) ?_
          refine g_iload C (q := 8) dL_law_320 rfl ?_
          refine g_iconst C (v := 4) dL_law_322 (by decide) ?_
          refine g_callSI C (As := [.int y8, .int 4]) (np := 2) (st := [.int 1, va_rf y1]) (fun q hq => c_L_low S2 y8 (4 : Int32) q hq) gs_RL_L_low rfl rfl dsL_low rfl ⟨Nat.le_of_ble_eq_true rfl, Nat.le_of_ble_eq_true rfl⟩ rfl (cat_sum (Nat.le_of_ble_eq_true rfl)) ⟨(show _ ≤ 628669 by omega), (show _ ≤ 7216242 by omega)⟩ dL_law_323 h (fun v2 S3 h => ?_)
          refine g_iadd C dL_law_326 ?_
          refine g_iconst C (v := 1) dL_law_327 (by decide) ?_
          refine g_iload C (q := 8) dL_law_328 rfl ?_
          refine g_iconst C (v := 4) dL_law_330 (by decide) ?_
          refine g_ishr C dL_law_331 ?_
          refine g_iconst C (v := 4) dL_law_332 (by decide) ?_
          refine g_callSI C (As := [.int (y8 >>> (4 &&& 31)), .int 4]) (np := 2) (st := [.int 1, .int (1 + v2), va_rf y1]) (fun q hq => c_L_low S3 (y8 >>> (4 &&& 31)) (4 : Int32) q hq) gs_RL_L_low rfl rfl dsL_low rfl ⟨Nat.le_of_ble_eq_true rfl, Nat.le_of_ble_eq_true rfl⟩ rfl (cat_sum (Nat.le_of_ble_eq_true rfl)) ⟨(show _ ≤ 628669 by omega), (show _ ≤ 7216242 by omega)⟩ dL_law_333 h (fun v3 S4 h => ?_)
          refine g_iadd C dL_law_336 ?_
          refine g_callSI C (As := [va_rf y1, .int (1 + v2), .int (1 + v3)]) (np := 3) (st := []) (fun q hq => c_L_passes S4 y1 (1 + v2) (1 + v3) q hq) gs_RL_L_passes rfl rfl dsL_passes rfl ⟨Nat.le_of_ble_eq_true rfl, Nat.le_of_ble_eq_true rfl⟩ rfl (cat_sum (Nat.le_of_ble_eq_true rfl)) ⟨(show _ ≤ 628669 by omega), (show _ ≤ 7216242 by omega)⟩ dL_law_337 h (fun v4 S5 h => ?_)
          refine g_istore C (i := 13) (lv' := [(13, .int v4), (11, .long j1), (10, .int v1), (9, .int z0), (0, va_rf (some b)), (1, va_rf y1), (6, .int y6), (7, .int y7), (8, .int y8)]) dL_law_340 hn13 rfl ?_
          refine g_sub (lv' := [(0, va_rf (some b)), (1, va_rf y1), (6, .int y6), (8, .int y8), (9, .int z0), (10, .int v1), (11, .long j1), (13, .int v4)]) [4, 5, 6, 8, 3, 2, 1, 0] rfl ?_
          exact w_L_law_J342 E C hn hX hbl hbA ho hret hK1 hN1 HK _ _ (by omega) (by omega) S5 y1 y6 y8 z0 v1 j1 v4 h
        · refine g_aload_n C (q := 5) dL_law_287 rfl rfl ?_
          refine g_iconst C (v := 3) dL_law_288 (by decide) ?_
          refine g_callVI C (ci := 5) (As := [.int 3]) (np := 1) (st := []) (r := y1) rfl (by decide) (fun b2 q hq => c_X5_count S2 b2 (3 : Int32) q hq) gv_RL_X5_count rfl rfl dsX5_count rfl ⟨Nat.le_of_ble_eq_true rfl, Nat.le_of_ble_eq_true rfl⟩ rfl (cat_sum (Nat.le_of_ble_eq_true rfl)) ⟨(show _ ≤ 628669 by omega), (show _ ≤ 7216242 by omega)⟩ dL_law_289 h (fun v5 S6 h => ?_)
          refine g_if_eq C (tgt := 308) dL_law_292 (by decide) h (fun h => ?_) (fun h => ?_)
          · refine g_sub (lv' := [(0, va_rf (some b)), (1, va_rf y1), (6, .int y6), (8, .int y8), (9, .int z0), (10, .int v1), (11, .long j1)]) [4, 5, 6, 8, 3, 2, 1] rfl ?_
            exact w_L_law_J308 E C hn hX hbl hbA ho hret hK1 hN1 HK _ _ (by omega) (by omega) S6 y1 y6 y8 z0 v1 j1 h
          · refine g_aload_n C (q := 5) dL_law_295 rfl rfl ?_
            refine g_iload C (q := 3) dL_law_296 rfl ?_
            refine g_iload C (q := 7) dL_law_298 rfl ?_
            refine g_iload C (q := 8) dL_law_300 rfl ?_
            refine g_callSI C (As := [va_rf y1, .int z0, .int y7, .int y8]) (np := 4) (st := []) (fun q hq => c_L_ends S6 y1 z0 y7 y8 q hq) gs_RL_L_ends rfl rfl dsL_ends rfl ⟨Nat.le_of_ble_eq_true rfl, Nat.le_of_ble_eq_true rfl⟩ rfl (cat_sum (Nat.le_of_ble_eq_true rfl)) ⟨(show _ ≤ 628669 by omega), (show _ ≤ 7216242 by omega)⟩ dL_law_302 h (fun v6 S7 h => ?_)
            refine g_if_eq C (tgt := 312) dL_law_305 (by decide) h (fun h => ?_) (fun h => ?_)
            · refine g_iconst C (v := 0) dL_law_312 (by decide) ?_
              refine g_sub (lv' := [(0, va_rf (some b)), (1, va_rf y1), (6, .int y6), (8, .int y8), (9, .int z0), (10, .int v1), (11, .long j1)]) [4, 5, 6, 8, 3, 2, 1] rfl ?_
              exact w_L_law_J313 E C hn hX hbl hbA ho hret hK1 hN1 HK _ _ (by omega) (by omega) S7 y1 y6 y8 z0 v1 j1 (0 : Int32) h
            · refine g_sub (lv' := [(0, va_rf (some b)), (1, va_rf y1), (6, .int y6), (8, .int y8), (9, .int z0), (10, .int v1), (11, .long j1)]) [4, 5, 6, 8, 3, 2, 1] rfl ?_
              exact w_L_law_J308 E C hn hX hbl hbA ho hret hK1 hN1 HK _ _ (by omega) (by omega) S7 y1 y6 y8 z0 v1 j1 h
      · refine g_aload_n C (q := 5) dL_law_249 rfl rfl ?_
        refine g_iconst C (v := 3) dL_law_250 (by decide) ?_
        refine g_callVI C (ci := 5) (As := [.int 3]) (np := 1) (st := []) (r := y1) rfl (by decide) (fun b3 q hq => c_X5_count S2 b3 (3 : Int32) q hq) gv_RL_X5_count rfl rfl dsX5_count rfl ⟨Nat.le_of_ble_eq_true rfl, Nat.le_of_ble_eq_true rfl⟩ rfl (cat_sum (Nat.le_of_ble_eq_true rfl)) ⟨(show _ ≤ 628669 by omega), (show _ ≤ 7216242 by omega)⟩ dL_law_251 h (fun v7 S8 h => ?_)
        refine g_if_eq C (tgt := 270) dL_law_254 (by decide) h (fun h => ?_) (fun h => ?_)
        · refine g_sub (lv' := [(0, va_rf (some b)), (1, va_rf y1), (6, .int y6), (8, .int y8), (9, .int z0), (10, .int v1), (11, .long j1)]) [4, 5, 6, 8, 3, 2, 1] rfl ?_
          exact w_L_law_J270 E C hn hX hbl hbA ho hret hK1 hN1 HK _ _ (by omega) (by omega) S8 y1 y6 y8 z0 v1 j1 h
        · refine g_aload_n C (q := 5) dL_law_257 rfl rfl ?_
          refine g_iload C (q := 3) dL_law_258 rfl ?_
          refine g_iload C (q := 7) dL_law_260 rfl ?_
          refine g_iload C (q := 8) dL_law_262 rfl ?_
          refine g_callSI C (As := [va_rf y1, .int z0, .int y7, .int y8]) (np := 4) (st := []) (fun q hq => c_L_rows S8 y1 z0 y7 y8 q hq) gs_RL_L_rows rfl rfl dsL_rows rfl ⟨Nat.le_of_ble_eq_true rfl, Nat.le_of_ble_eq_true rfl⟩ rfl (cat_sum (Nat.le_of_ble_eq_true rfl)) ⟨(show _ ≤ 628669 by omega), (show _ ≤ 7216242 by omega)⟩ dL_law_264 h (fun v8 S9 h => ?_)
          refine g_if_eq C (tgt := 274) dL_law_267 (by decide) h (fun h => ?_) (fun h => ?_)
          · refine g_iconst C (v := 0) dL_law_274 (by decide) ?_
            refine g_sub (lv' := [(0, va_rf (some b)), (1, va_rf y1), (6, .int y6), (8, .int y8), (9, .int z0), (10, .int v1), (11, .long j1)]) [4, 5, 6, 8, 3, 2, 1] rfl ?_
            exact w_L_law_J275 E C hn hX hbl hbA ho hret hK1 hN1 HK _ _ (by omega) (by omega) S9 y1 y6 y8 z0 v1 j1 (0 : Int32) h
          · refine g_sub (lv' := [(0, va_rf (some b)), (1, va_rf y1), (6, .int y6), (8, .int y8), (9, .int z0), (10, .int v1), (11, .long j1)]) [4, 5, 6, 8, 3, 2, 1] rfl ?_
            exact w_L_law_J270 E C hn hX hbl hbA ho hret hK1 hN1 HK _ _ (by omega) (by omega) S9 y1 y6 y8 z0 v1 j1 h
    · refine g_aload_n C (q := 5) dL_law_211 rfl rfl ?_
      refine g_iconst C (v := 3) dL_law_212 (by decide) ?_
      refine g_callVI C (ci := 5) (As := [.int 3]) (np := 1) (st := []) (r := y1) rfl (by decide) (fun b4 q hq => c_X5_count S2 b4 (3 : Int32) q hq) gv_RL_X5_count rfl rfl dsX5_count rfl ⟨Nat.le_of_ble_eq_true rfl, Nat.le_of_ble_eq_true rfl⟩ rfl (cat_sum (Nat.le_of_ble_eq_true rfl)) ⟨(show _ ≤ 628669 by omega), (show _ ≤ 7216242 by omega)⟩ dL_law_213 h (fun v9 S10 h => ?_)
      refine g_if_eq C (tgt := 232) dL_law_216 (by decide) h (fun h => ?_) (fun h => ?_)
      · refine g_sub (lv' := [(0, va_rf (some b)), (1, va_rf y1), (6, .int y6), (8, .int y8), (9, .int z0), (10, .int v1), (11, .long j1)]) [4, 5, 6, 8, 3, 2, 1] rfl ?_
        exact w_L_law_J232 E C hn hX hbl hbA ho hret hK1 hN1 HK _ _ (by omega) (by omega) S10 y1 y6 y8 z0 v1 j1 h
      · refine g_aload_n C (q := 5) dL_law_219 rfl rfl ?_
        refine g_iload C (q := 3) dL_law_220 rfl ?_
        refine g_iload C (q := 7) dL_law_222 rfl ?_
        refine g_iload C (q := 8) dL_law_224 rfl ?_
        refine g_callSI C (As := [va_rf y1, .int z0, .int y7, .int y8]) (np := 4) (st := []) (fun q hq => c_L_guests S10 y1 z0 y7 y8 q hq) gs_RL_L_guests rfl rfl dsL_guests rfl ⟨Nat.le_of_ble_eq_true rfl, Nat.le_of_ble_eq_true rfl⟩ rfl (cat_sum (Nat.le_of_ble_eq_true rfl)) ⟨(show _ ≤ 628669 by omega), (show _ ≤ 7216242 by omega)⟩ dL_law_226 h (fun v10 S11 h => ?_)
        refine g_if_eq C (tgt := 236) dL_law_229 (by decide) h (fun h => ?_) (fun h => ?_)
        · refine g_iconst C (v := 0) dL_law_236 (by decide) ?_
          refine g_sub (lv' := [(0, va_rf (some b)), (1, va_rf y1), (6, .int y6), (8, .int y8), (9, .int z0), (10, .int v1), (11, .long j1)]) [4, 5, 6, 8, 3, 2, 1] rfl ?_
          exact w_L_law_J237 E C hn hX hbl hbA ho hret hK1 hN1 HK _ _ (by omega) (by omega) S11 y1 y6 y8 z0 v1 j1 (0 : Int32) h
        · refine g_sub (lv' := [(0, va_rf (some b)), (1, va_rf y1), (6, .int y6), (8, .int y8), (9, .int z0), (10, .int v1), (11, .long j1)]) [4, 5, 6, 8, 3, 2, 1] rfl ?_
          exact w_L_law_J232 E C hn hX hbl hbA ho hret hK1 hN1 HK _ _ (by omega) (by omega) S11 y1 y6 y8 z0 v1 j1 h
  · refine g_aload_n C (q := 5) dL_law_189 rfl rfl ?_
    refine g_iload C (q := 3) dL_law_190 rfl ?_
    refine g_iload C (q := 7) dL_law_192 rfl ?_
    refine g_iload C (q := 8) dL_law_194 rfl ?_
    refine g_callSI C (As := [va_rf y1, .int z0, .int y7, .int y8]) (np := 4) (st := []) (fun q hq => c_L_adds S2 y1 z0 y7 y8 q hq) gs_RL_L_adds rfl rfl dsL_adds rfl ⟨Nat.le_of_ble_eq_true rfl, Nat.le_of_ble_eq_true rfl⟩ rfl (cat_sum (Nat.le_of_ble_eq_true rfl)) ⟨(show _ ≤ 628669 by omega), (show _ ≤ 7216242 by omega)⟩ dL_law_196 h (fun v11 S12 h => ?_)
    refine g_istore C (i := 13) (lv' := [(13, .int v11), (11, .long j1), (10, .int v1), (9, .int z0), (0, va_rf (some b)), (1, va_rf y1), (6, .int y6), (7, .int y7), (8, .int y8)]) dL_law_199 hn13 rfl ?_
    refine g_goto C (tgt := 342) dL_law_201 (by decide) ?_
    refine g_sub (lv' := [(0, va_rf (some b)), (1, va_rf y1), (6, .int y6), (8, .int y8), (9, .int z0), (10, .int v1), (11, .long j1), (13, .int v11)]) [4, 5, 6, 8, 3, 2, 1, 0] rfl ?_
    exact w_L_law_J342 E C hn hX hbl hbA ho hret hK1 hN1 HK _ _ (by omega) (by omega) S12 y1 y6 y8 z0 v1 j1 v11 h

set_option maxHeartbeats 4000000 in
set_option maxRecDepth 100000 in
theorem w_L_law_L95 {X : Cx} {adK adV : Nat → Nat} (E : EV adK adV (xA X) (xs X) (xs X).heap) (C : CxOK X cL_law RL room_1) (hn : xn X = 16) {b L : Nat} {sc : Nat → Int32} (hX : va_X b L sc (xs X) (xs X).heap) (hbl : b < (xs X).heap.size) (hbA : ¬ xA X b) {S9 : Hp} {o : Int32 × Hp} (ho : o = ((1 : Int32), S9)) (hret : ∀ (k n : Nat), k ≤ 628669 → n ≤ 7216242 → ∀ (S : Hp) (pc : Nat) (lv : List (Nat × Value)), decode cL_law pc = .ok (.ireturn, 1) → GW X k n S pc lv [.int 1]) {K1 N1 : Nat} (hK1 : K1 ≤ 628669) (hN1 : N1 ≤ 7216242) : ∀ (fuel : Nat) (k n : Nat) (hk : k + fuel ≤ K1) (hn4 : n + 4 * fuel ≤ N1) (S : Hp) (y1 : Option Nat) (y6 : Int32), f_L_law_L95 sc L fuel S y1 y6 = some o → GW X k n S 95 [(0, va_rf (some b)), (1, va_rf y1), (6, .int y6)] [] := by
  have hn7 : 7 < xn X := by rw [hn]; decide
  have hn8 : 8 < xn X := by rw [hn]; decide
  intro fuel
  induction fuel with
  | zero => intro k n hk hn4 S y1 y6 h; cases (show none = some o from h)
  | succ fuel ih =>
    intro k n hk hn4 S y1 y6 h
    have h : f_L_law_L95_b sc L (f_L_law_L95 sc L fuel) S y1 y6 = some o := h
    unfold f_L_law_L95_b at h
    refine g_iload C (q := 2) dL_law_95 rfl ?_
    refine g_bipush C (v := 28) dL_law_97 (by decide) ?_
    refine g_icmp_ge C (tgt := 486) dL_law_99 (by decide) h (fun h => ?_) (fun h => ?_)
    · refine g_iconst C (v := 1) dL_law_486 (by decide) ?_
      exact hret _ _ (by omega) (by omega) _ _ _ dL_law_487
    · refine g_aload_n C (q := 0) dL_law_102 rfl rfl ?_
      refine g_iconst C (v := 2) dL_law_103 (by decide) ?_
      refine g_iload C (q := 2) dL_law_104 rfl ?_
      refine g_imul C dL_law_106 ?_
      refine g_cell C hX hbl hbA ⟨Nat.le_of_ble_eq_true rfl, Nat.le_of_ble_eq_true rfl⟩ (cat_sum (Nat.le_of_ble_eq_true rfl)) ⟨(show _ ≤ 628669 by omega), (show _ ≤ 7216242 by omega)⟩ dL_law_107 h (fun v1 h => ?_)
      refine g_istore C (i := 7) (lv' := [(7, .int v1), (0, va_rf (some b)), (1, va_rf y1), (6, .int y6)]) dL_law_110 hn7 rfl ?_
      refine g_aload_n C (q := 1) dL_law_112 rfl rfl ?_
      refine g_iconst C (v := 2) dL_law_113 (by decide) ?_
      refine g_iload C (q := 3) dL_law_114 rfl ?_
      refine g_imul C dL_law_116 ?_
      refine g_iconst C (v := 1) dL_law_117 (by decide) ?_
      refine g_iadd C dL_law_118 ?_
      refine g_cell C hX hbl hbA ⟨Nat.le_of_ble_eq_true rfl, Nat.le_of_ble_eq_true rfl⟩ (cat_sum (Nat.le_of_ble_eq_true rfl)) ⟨(show _ ≤ 628669 by omega), (show _ ≤ 7216242 by omega)⟩ dL_law_119 h (fun v2 h => ?_)
      refine g_istore C (i := 8) (lv' := [(8, .int v2), (7, .int v1), (0, va_rf (some b)), (1, va_rf y1), (6, .int y6)]) dL_law_122 hn8 rfl ?_
      refine g_iload C (q := 4) dL_law_124 rfl ?_
      refine g_iconst C (v := 2) dL_law_126 (by decide) ?_
      refine g_icmp_ge C (tgt := 134) dL_law_127 (by decide) h (fun h => ?_) (fun h => ?_)
      · refine g_iload C (q := 4) dL_law_134 rfl ?_
        refine g_iconst C (v := 2) dL_law_136 (by decide) ?_
        refine g_icmp_ne C (tgt := 144) dL_law_137 (by decide) h (fun h => ?_) (fun h => ?_)
        · refine g_iconst C (v := 1) dL_law_140 (by decide) ?_
          refine g_goto C (tgt := 164) dL_law_141 (by decide) ?_
          refine g_sub (lv' := [(0, va_rf (some b)), (1, va_rf y1), (6, .int y6), (7, .int v1), (8, .int v2)]) [2, 3, 4, 1, 0] rfl ?_
          exact w_L_law_J164 E C hn hX hbl hbA ho hret (K1 := k + 1) (N1 := n + 4) (by omega) (by omega) (fun k n S y1 y6 h1 h2 h => ih k n (by omega) (by omega) S y1 y6 h) _ _ (by omega) (by omega) S y1 y6 v1 v2 (1 : Int32) h
        · refine g_iload C (q := 4) dL_law_144 rfl ?_
          refine g_iconst C (v := 5) dL_law_146 (by decide) ?_
          refine g_icmp_ge C (tgt := 154) dL_law_147 (by decide) h (fun h => ?_) (fun h => ?_)
          · refine g_iload C (q := 1) dL_law_154 rfl ?_
            refine g_bipush C (v := 9) dL_law_156 (by decide) ?_
            refine g_ishr C dL_law_158 ?_
            refine g_bipush C (v := 18) dL_law_159 (by decide) ?_
            refine g_callSI C (As := [.int (v1 >>> (9 &&& 31)), .int 18]) (np := 2) (st := []) (fun q hq => c_L_low S (v1 >>> (9 &&& 31)) (18 : Int32) q hq) gs_RL_L_low rfl rfl dsL_low rfl ⟨Nat.le_of_ble_eq_true rfl, Nat.le_of_ble_eq_true rfl⟩ rfl (cat_sum (Nat.le_of_ble_eq_true rfl)) ⟨(show _ ≤ 628669 by omega), (show _ ≤ 7216242 by omega)⟩ dL_law_161 h (fun v3 S1 h => ?_)
            refine g_sub (lv' := [(0, va_rf (some b)), (1, va_rf y1), (6, .int y6), (7, .int v1), (8, .int v2)]) [2, 3, 4, 1, 0] rfl ?_
            exact w_L_law_J164 E C hn hX hbl hbA ho hret (K1 := k + 1) (N1 := n + 4) (by omega) (by omega) (fun k n S y1 y6 h1 h2 h => ih k n (by omega) (by omega) S y1 y6 h) _ _ (by omega) (by omega) S1 y1 y6 v1 v2 v3 h
          · refine g_iconst C (v := 3) dL_law_150 (by decide) ?_
            refine g_goto C (tgt := 164) dL_law_151 (by decide) ?_
            refine g_sub (lv' := [(0, va_rf (some b)), (1, va_rf y1), (6, .int y6), (7, .int v1), (8, .int v2)]) [2, 3, 4, 1, 0] rfl ?_
            exact w_L_law_J164 E C hn hX hbl hbA ho hret (K1 := k + 1) (N1 := n + 4) (by omega) (by omega) (fun k n S y1 y6 h1 h2 h => ih k n (by omega) (by omega) S y1 y6 h) _ _ (by omega) (by omega) S y1 y6 v1 v2 (3 : Int32) h
      · refine g_iconst C (v := 0) dL_law_130 (by decide) ?_
        refine g_goto C (tgt := 164) dL_law_131 (by decide) ?_
        refine g_sub (lv' := [(0, va_rf (some b)), (1, va_rf y1), (6, .int y6), (7, .int v1), (8, .int v2)]) [2, 3, 4, 1, 0] rfl ?_
        exact w_L_law_J164 E C hn hX hbl hbA ho hret (K1 := k + 1) (N1 := n + 4) (by omega) (by omega) (fun k n S y1 y6 h1 h2 h => ih k n (by omega) (by omega) S y1 y6 h) _ _ (by omega) (by omega) S y1 y6 v1 v2 (0 : Int32) h
set_option maxHeartbeats 4000000 in
set_option maxRecDepth 100000 in
theorem w_L_law {X : Cx} {adK adV : Nat → Nat} (E : EV adK adV (xA X) (xs X) (xs X).heap) (C : CxOK X cL_law RL room_1) (hn : xn X = 16) {b L : Nat} {sc : Nat → Int32} (hX : va_X b L sc (xs X) (xs X).heap) (hbl : b < (xs X).heap.size) (hbA : ¬ xA X b) {S9 : Hp} {o : Int32 × Hp} (ho : o = ((1 : Int32), S9)) (hret : ∀ (k n : Nat), k ≤ 628669 → n ≤ 7216242 → ∀ (S : Hp) (pc : Nat) (lv : List (Nat × Value)), decode cL_law pc = .ok (.ireturn, 1) → GW X k n S pc lv [.int 1]) (k n : Nat) (hk : k + 1000 ≤ 628669) (hn4 : n + 4 * 1000 ≤ 7216242) (S : Hp) (y1 : Option Nat) (h : f_L_law sc L S y1 = some o) : GW X k n S 8 [(1, va_rf y1), (0, va_rf (some b))] [] := by
  have hn3 : 3 < xn X := by rw [hn]; decide
  have hn5 : 5 < xn X := by rw [hn]; decide
  have hn6 : 6 < xn X := by rw [hn]; decide
  unfold f_L_law at h
  refine g_aload_n C (q := 0) dL_law_8 rfl rfl ?_
  refine g_iconst C (v := 0) dL_law_9 (by decide) ?_
  refine g_callVD C (ci := 5) (As := [.int 0]) (np := 1) (st := []) (r := y1) rfl (by decide) (fun b1 q hq => c_X5_thickness S b1 (0 : Int32) q hq) gv_RL_X5_thickness rfl rfl dsX5_thickness rfl ⟨Nat.le_of_ble_eq_true rfl, Nat.le_of_ble_eq_true rfl⟩ rfl (cat_sum (Nat.le_of_ble_eq_true rfl)) ⟨(show _ ≤ 628669 by omega), (show _ ≤ 7216242 by omega)⟩ dL_law_10 h (fun e1 S1 h => ?_)
  refine g_dstore_n C (i := 2) (lv' := [(2, .double e1), (1, va_rf y1), (0, va_rf (some b))]) dL_law_13 rfl hn3 (by simp [va_rf_cat, catI, catJ, catD]) ?_
  refine g_aload_n C (q := 1) dL_law_14 rfl rfl ?_
  refine g_iconst C (v := 0) dL_law_15 (by decide) ?_
  refine g_callVD C (ci := 5) (As := [.int 0]) (np := 1) (st := []) (r := y1) rfl (by decide) (fun b2 q hq => c_X5_needed S1 b2 (0 : Int32) q hq) gv_RL_X5_needed rfl rfl dsX5_needed rfl ⟨Nat.le_of_ble_eq_true rfl, Nat.le_of_ble_eq_true rfl⟩ rfl (cat_sum (Nat.le_of_ble_eq_true rfl)) ⟨(show _ ≤ 628669 by omega), (show _ ≤ 7216242 by omega)⟩ dL_law_16 h (fun e2 S2 h => ?_)
  refine g_dstore C (i := 4) (lv' := [(4, .double e2), (2, .double e1), (1, va_rf y1), (0, va_rf (some b))]) dL_law_19 hn5 rfl ?_
  refine g_aload_n C (q := 2) dL_law_21 rfl rfl ?_
  refine g_callVI C (ci := 5) (As := []) (np := 0) (st := []) (r := y1) rfl (by decide) (fun b3 q hq => c_X5_undo S2 b3  q hq) gv_RL_X5_undo rfl rfl dsX5_undo rfl ⟨Nat.le_of_ble_eq_true rfl, Nat.le_of_ble_eq_true rfl⟩ rfl (cat_sum (Nat.le_of_ble_eq_true rfl)) ⟨(show _ ≤ 628669 by omega), (show _ ≤ 7216242 by omega)⟩ dL_law_22 h (fun v1 S3 h => ?_)
  refine g_bipush C (v := (-5)) dL_law_25 (by decide) ?_
  refine g_icmp_ne C (tgt := 90) dL_law_27 (by decide) h (fun h => ?_) (fun h => ?_)
  · refine g_aload_n C (q := 2) dL_law_30 rfl rfl ?_
    refine g_callVI C (ci := 5) (As := []) (np := 0) (st := []) (r := y1) rfl (by decide) (fun b4 q hq => c_X5_restore S3 b4  q hq) gv_RL_X5_restore rfl rfl dsX5_restore rfl ⟨Nat.le_of_ble_eq_true rfl, Nat.le_of_ble_eq_true rfl⟩ rfl (cat_sum (Nat.le_of_ble_eq_true rfl)) ⟨(show _ ≤ 628669 by omega), (show _ ≤ 7216242 by omega)⟩ dL_law_31 h (fun v2 S4 h => ?_)
    refine g_bipush C (v := (-5)) dL_law_34 (by decide) ?_
    refine g_icmp_ne C (tgt := 90) dL_law_36 (by decide) h (fun h => ?_) (fun h => ?_)
    · refine g_aload_n C (q := 2) dL_law_39 rfl rfl ?_
      refine g_callVE C E (ci := 5) (As := fun adK adV => []) (np := 0) (st := []) (r := y1) rfl (by decide) (fun b5 q hq => c_X5_perform S4 b5  q hq) gv_RL_X5_perform rfl rfl dsX5_perform rfl ⟨Nat.le_of_ble_eq_true rfl, Nat.le_of_ble_eq_true rfl⟩ rfl (cat_sum (Nat.le_of_ble_eq_true rfl)) ⟨(show _ ≤ 628669 by omega), (show _ ≤ 7216242 by omega)⟩ dL_law_40 h (fun v3 S5 h => ?_)
      refine g_bipush C (v := (-100)) dL_law_43 (by decide) ?_
      refine g_icmp_ne C (tgt := 90) dL_law_45 (by decide) h (fun h => ?_) (fun h => ?_)
      · refine g_aload_n C (q := 2) dL_law_48 rfl rfl ?_
        refine g_iconst C (v := 0) dL_law_49 (by decide) ?_
        refine g_iconst C (v := 0) dL_law_50 (by decide) ?_
        refine g_callVI C (ci := 5) (As := [.int 0, .int 0]) (np := 2) (st := []) (r := y1) rfl (by decide) (fun b6 q hq => c_X5_merge S5 b6 (0 : Int32) (0 : Int32) q hq) gv_RL_X5_merge rfl rfl dsX5_merge rfl ⟨Nat.le_of_ble_eq_true rfl, Nat.le_of_ble_eq_true rfl⟩ rfl (cat_sum (Nat.le_of_ble_eq_true rfl)) ⟨(show _ ≤ 628669 by omega), (show _ ≤ 7216242 by omega)⟩ dL_law_51 h (fun v4 S6 h => ?_)
        refine g_iconst C (v := (-1)) dL_law_54 (by decide) ?_
        refine g_icmp_ne C (tgt := 90) dL_law_55 (by decide) h (fun h => ?_) (fun h => ?_)
        · refine g_aload_n C (q := 2) dL_law_58 rfl rfl ?_
          refine g_iconst C (v := 0) dL_law_59 (by decide) ?_
          refine g_callVI C (ci := 5) (As := [.int 0]) (np := 1) (st := []) (r := y1) rfl (by decide) (fun b7 q hq => c_X5_bestGuide S6 b7 (0 : Int32) q hq) gv_RL_X5_bestGuide rfl rfl dsX5_bestGuide rfl ⟨Nat.le_of_ble_eq_true rfl, Nat.le_of_ble_eq_true rfl⟩ rfl (cat_sum (Nat.le_of_ble_eq_true rfl)) ⟨(show _ ≤ 628669 by omega), (show _ ≤ 7216242 by omega)⟩ dL_law_60 h (fun v5 S7 h => ?_)
          refine g_iconst C (v := (-1)) dL_law_63 (by decide) ?_
          refine g_icmp_ne C (tgt := 90) dL_law_64 (by decide) h (fun h => ?_) (fun h => ?_)
          · refine g_aload_n C (q := 2) dL_law_67 rfl rfl ?_
            refine g_callVJ C (ci := 5) (As := []) (np := 0) (st := []) (r := y1) rfl (by decide) (fun b8 q hq => c_X5_temperature S7 b8  q hq) gv_RL_X5_temperature rfl rfl dsX5_temperature rfl ⟨Nat.le_of_ble_eq_true rfl, Nat.le_of_ble_eq_true rfl⟩ rfl (cat_sum (Nat.le_of_ble_eq_true rfl)) ⟨(show _ ≤ 628669 by omega), (show _ ≤ 7216242 by omega)⟩ dL_law_68 h (fun j1 S8 h => ?_)
            refine g_lconst C (v := 0) dL_law_71 (by decide) ?_
            refine g_lcmp C dL_law_72 ?_
            refine g_if_ne C (tgt := 90) dL_law_73 (by decide) h (fun h => ?_) (fun h => ?_)
            · refine g_dload_n C (q := 1) dL_law_76 rfl rfl ?_
              refine g_dload_n C (q := 1) dL_law_77 rfl rfl ?_
              refine g_dcmp C dL_law_78 ?_
              refine g_if_eq C (tgt := 90) dL_law_79 (by decide) h (fun h => ?_) (fun h => ?_)
              · refine g_iconst C (v := 0) dL_law_90 (by decide) ?_
                (subst ho; exact law0 h)
              · refine g_dload C (q := 0) dL_law_82 rfl ?_
                refine g_dload C (q := 0) dL_law_84 rfl ?_
                refine g_dcmp C dL_law_86 ?_
                refine g_if_ne C (tgt := 92) dL_law_87 (by decide) h (fun h => ?_) (fun h => ?_)
                · refine g_iconst C (v := 0) dL_law_90 (by decide) ?_
                  (subst ho; exact law0 h)
                · refine g_iconst C (v := 0) dL_law_92 (by decide) ?_
                  refine g_istore C (i := 6) (lv' := [(6, .int 0), (4, .double e2), (2, .double e1), (1, va_rf y1), (0, va_rf (some b))]) dL_law_93 hn6 rfl ?_
                  refine g_sub (lv' := [(0, va_rf (some b)), (1, va_rf y1), (6, .int 0)]) [4, 3, 0] rfl ?_
                  exact w_L_law_L95 E C hn hX hbl hbA ho hret (K1 := 628669) (N1 := 7216242) (by omega) (by omega) 1000 _ _ (by omega) (by omega) S8 y1 (0 : Int32) h
            · refine g_iconst C (v := 0) dL_law_90 (by decide) ?_
              (subst ho; exact law0 h)
          · refine g_iconst C (v := 0) dL_law_90 (by decide) ?_
            (subst ho; exact law0 h)
        · refine g_iconst C (v := 0) dL_law_90 (by decide) ?_
          (subst ho; exact law0 h)
      · refine g_iconst C (v := 0) dL_law_90 (by decide) ?_
        (subst ho; exact law0 h)
    · refine g_iconst C (v := 0) dL_law_90 (by decide) ?_
      (subst ho; exact law0 h)
  · refine g_iconst C (v := 0) dL_law_90 (by decide) ?_
    (subst ho; exact law0 h)
