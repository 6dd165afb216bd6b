/-! the acts, one by one: the temperature, new tours, leaving -/
section ACTS4
variable {E : Hp} {i : Nat → Nat → Int32} {j : Nat → Nat → Int64} {d : Nat → Nat → UInt64} {N : Nat → Int32} {r : Nat → UInt64} {B : Nat} {H : List Rw} {s : Option Rw}
theorem a_setTemp (h : Ev E) (V : IV B i j d N r H s) (hB : B + 119988 ≤ 67108864) (b : Int64) : LSt E (B + 119988) i j d (fun S => f_X5_setTemperature S (zA E 0) b) (fun S => f_X6_setTemperature S (zA E 229) b) := by
  have a := V.rp
  have w := V.wf
  have w0 := V.w0
  obtain ⟨⟨hN, hr⟩, -⟩ := V.1, V.2
  have c3 : i 230 3 = nI (cN N 3) := by rw [hN]; exact w.n3.1
  have n3 := w.n3.2
  have c1 : i 230 1 = nI (cN N 1) := by rw [hN]; exact w.n1.1
  have n1 := w.n1.2
  have c2 : i 230 2 = nI (cN N 2) := by rw [hN]; exact w.n2.1
  have n2 := w.n2.2
  by_cases q1 : dT b.toUInt64
  · obtain ⟨t1, t2, t3⟩ := (fp_temp b).mpr q1
    by_cases q3 : (Op.cmpValue (FP.dcmp b.toUInt64 (r 0)) CmpOp.l) = 0
    · refine ls_0 V (by omega) (v := -5) ?_ ?_
      · show f_X5_setTemperature _ _ _ = _
        unfold f_X5_setTemperature
        rw [fp_isTemp1 b q1, cl_go, if_neg (by decide), fp_num b (Or.inr q1), cl_go, ob_X h, R_X0 h, ob_S h.1 h.s1, D_S h.1 h.s1, a.f8, if_pos q3]
      · show f_X6_setTemperature _ _ _ = _
        unfold f_X6_setTemperature
        rw [if_pos t1, gd_go (fp_snl2 b t1), bnd_go, if_neg t2, if_neg t3, if_neg (by decide), ob_M h, R_rea h, ar_rea0 h, D_233 h.1, hr, if_pos ((fp_eq0 _ _).mp q3)]
    · refine ls_act h V (by omega) 1 N (vf_upd r 0 b.toUInt64) (WF.mono (B := B) ⟨w.q.r0 q1, w.2⟩ (by omega)) ?_ ?_
      · intro i1 j1 d1 er a1
        show ∃ i2 j2 d2, f_X5_setTemperature _ _ _ = _ ∧ _
        unfold f_X5_setTemperature
        rw [fp_isTemp1 b q1, cl_go, if_neg (by decide), fp_num b (Or.inr q1), cl_go, ob_X h, R_X0 h, ob_S h.1 h.s1, D_S h.1 h.s1, a.f8, if_neg q3, R_X2 h, ob_H h, er, cl_go, ob_X h, R_X0 h, ob_S h.1 h.s1, wD_S h.1 h.s1, bnd_go, ob_X h, R_X0 h, ob_S h.1 h.s1, wJ_S h.1 h.s1, bnd_go]
        exact ⟨_, _, _, rfl, fun q hq => ⟨rfl, u2_row _ _ (by omega), u2_row _ _ (by omega)⟩, a1.wd b.toUInt64⟩
      · intro i2 j2 d2 i3 d3 e1 e2 er e3 e4
        show ∃ i4 d4, f_X6_setTemperature _ _ _ = _ ∧ _
        unfold f_X6_setTemperature
        rw [if_pos t1, gd_go (fp_snl2 b t1), bnd_go, if_neg t2, if_neg t3, if_neg (by decide), ob_M h, R_rea h, ar_rea0 h, D_233 h.1, e2, if_neg (fun e => q3 ((fp_eq0 _ _).mpr e)), ob_M h, er, cl_go, ob_M h, R_rea h, ar_rea0 h, wD_233 h.1, bnd_go]
        exact ⟨_, _, rfl, fun q hq => rfl, fun q hq => u2_row _ _ hq, e3, by rw [u2_vupd, e4]⟩
  · have hq : f_X6_setTemperature (mk E i j d) (zA E 229) b = some (-2, mk E i j d) := by
      unfold f_X6_setTemperature
      by_cases c1 : (lg_cmp (b &&& 9223372036854775807) 9218868437227405312) ≤ 0
      · rw [if_pos c1, gd_go (fp_snl2 b c1), bnd_go]
        by_cases c2 : (Op.cmpValue (FP.dcmp b.toUInt64 13854198353698488320) CmpOp.l) < 0
        · rw [if_pos c2, if_pos rfl]
        · by_cases c3 : 0 < (Op.cmpValue (FP.dcmp b.toUInt64 4629137466983448576) CmpOp.g)
          · rw [if_neg c2, if_pos c3, if_pos rfl]
          · exact absurd ((fp_temp b).mp ⟨c1, c2, c3⟩) q1
      · rw [if_neg c1]
    refine ls_0 V (by omega) (v := -2) ?_ hq
    show f_X5_setTemperature _ _ _ = _
    unfold f_X5_setTemperature
    rw [fp_isTemp0 b q1, cl_go, if_pos rfl]
theorem cp_upd {f : Nat → Int32} {N : Nat → Int32} {b k z : Nat} {v : Int32} (hz : z < b) : cp f (upd N z v) b k = upd (cp f N b k) z v := by
  funext x
  unfold cp upd
  by_cases c : b ≤ x ∧ x < b + k
  · rw [if_pos c, if_neg (by omega)]; exact (if_pos c).symm
  · rw [if_neg c]
    show _ = if x = z then v else (if b ≤ x ∧ x < b + k then f (x - b) else N x)
    rw [if_neg c]
theorem l_addTour (h : Ev E) {t : Nat} (ht : t < 10) (day : Int32) (b : Int64) (hb : vn_snl2d b = false) (pr br : Int32) : ∀ m k fuel, k + m = 14 → m < fuel → f_X6_addTour_L99 fuel (mk E (r2 i 230 (cp (fun _ => 0) (i 230) (40 + 14 * t) k)) j d) (zA E 229) day b pr br (nI t) (nI k) = some (nI t, mk E (u2 (u2 (u2 (r2 i 230 (cp (fun _ => 0) (i 230) (40 + 14 * t) 14)) 230 (40 + 14 * t + 0) day) 230 (40 + 14 * t + 1) pr) 230 (40 + 14 * t + 2) br) j (u2 d 233 (7 + t) b.toUInt64)) := by
  intro m
  induction m with
  | zero =>
    intro k fuel hk hf
    obtain ⟨f, rfl⟩ : ∃ f, fuel = f + 1 := ⟨fuel - 1, by omega⟩
    have hkn : k = 14 := by omega
    subst hkn
    show f_X6_addTour_L99_b (f_X6_addTour_L99 f) _ _ _ _ _ _ _ _ = _
    unfold f_X6_addTour_L99_b
    rw [if_pos (by decide), ob_M h, x_to0 h ht, cl_go, ob_M h, x_to1 h ht, cl_go, ob_M h, x_to2 h ht, cl_go, ob_M h, gd_go hb, R_rea h, ar_rea h (x := 7 + nI t) (7 + t) (nI_add 7 t) (by omega), wD_233 h.1, bnd_go]
  | succ m ih =>
    intro k fuel hk hf
    obtain ⟨f, rfl⟩ : ∃ f, fuel = f + 1 := ⟨fuel - 1, by omega⟩
    show f_X6_addTour_L99_b (f_X6_addTour_L99 f) _ _ _ _ _ _ _ _ = _
    unfold f_X6_addTour_L99_b
    have IH := ih (k + 1) f (by omega) (by omega)
    rw [if_neg (show ¬ (14 : Int32) ≤ nI k from nI_ge (b := 14) (by omega) (by decide)), ob_M h, x_to h ht k (by omega), cl_go, bnd_go, nI_1]
    have hz := r2_step (i := i) (a := 230) (b := 40 + 14 * t) (k := k) (f := fun _ => (0 : Int32)) (g := i 230)
    rw [hz]
    exact IH
theorem Rep.nout {p : Nat} (a : Rep i j d p N r) (w : WQ N r) {N1 : Nat → Int32} {r1 : Nat → UInt64} (e : ∀ x, x < 40 + 14 * cN N 3 → N1 x = N x) (e2 : ∀ x, x < 7 + cN N 3 → r1 x = r x) : Rep i j d p N1 r1 := by
  have n1 := w.n1.2
  have n3 := w.n3.2
  have c1 : cN N1 1 = cN N 1 := by unfold cN; rw [e 1 (by omega)]
  have c3 : cN N1 3 = cN N 3 := by unfold cN; rw [e 3 (by omega)]
  refine ⟨?_, fun g hg k hk => ?_, fun b hb => ?_, fun t ht => ⟨?_, ?_, fun k hk => ?_⟩⟩
  · rw [e 1 (by omega), e 2 (by omega), e 3 (by omega), e 0 (by omega), e 4 (by omega), e2 0 (by omega)]; exact a.1
  · rw [c1] at hg
    rw [e _ (by omega)]; exact a.g hg hk
  · rw [e2 _ (by omega)]; exact a.b hb
  · rw [c3] at ht
    rw [e _ (by omega), e _ (by omega), e _ (by omega), e _ (by omega), e _ (by omega), e _ (by omega), e _ (by omega), e _ (by omega)]; exact (a.t ht).1
  · rw [c3] at ht
    rw [e2 _ (by omega)]; exact (a.t ht).2.1
  · rw [c3] at ht
    have m4 := (w.many ht).2
    have cm : cN N1 (40 + 14 * t + 4) = cN N (40 + 14 * t + 4) := by unfold cN; rw [e _ (by omega)]
    rw [cm] at hk
    rw [e _ (by omega)]; exact a.tr ht hk
theorem PB.le {N1 : Nat → Int32} (b : PB B N) (hB : B < 2 ^ 31) (e : ∀ t, t < 10 → N1 (40 + 14 * t + 5) = N (40 + 14 * t + 5) ∨ N1 (40 + 14 * t + 5) = 0) : PB B N1 := by
  have c : ∀ t, t < 10 → cN N1 (40 + 14 * t + 5) ≤ cN N (40 + 14 * t + 5) := fun t ht => by
    rcases e t ht with z | z
    · rw [cN_of z]; omega
    · rw [cN_nI (n := 0) z (by omega)]; omega
  have s : ∀ n, n ≤ 10 → sPaid N1 n ≤ sPaid N n := fun n => by
    induction n with
    | zero => intro _; exact Nat.le_refl _
    | succ n ih =>
      intro hn
      show sPaid N1 n + cN N1 (40 + 14 * n + 5) ≤ sPaid N n + cN N (40 + 14 * n + 5)
      have := ih (by omega)
      have := c n (by omega)
      omega
  refine ⟨fun t ht => ?_, Nat.le_trans (s 10 (by omega)) b.2⟩
  have hc := c t ht
  have ho := b.one ht
  refine ⟨?_, by omega⟩
  rcases e t ht with z | z
  · rw [cN_of z, z]; exact ho.1
  · rw [cN_nI (n := 0) z (by omega), z]; rfl
theorem y_begin (h : Nd E) {p : Nat} (hs : St E p) {t : Nat} (ht : t < 10) (day : Int32) (sl : UInt64) (pr br : Int32) : f_X4_begin (mk E i j d) (zA E (p + 12 + 2 * t)) day sl pr br = some ((), mk E (u2 (u2 (u2 (u2 (u2 (u2 (u2 (u2 (u2 i (p + 12 + 2 * t) 1 day) (p + 12 + 2 * t) 3 (sBase sl)) (p + 12 + 2 * t) 4 pr) (p + 12 + 2 * t) 5 br) (p + 12 + 2 * t) 6 0) (p + 12 + 2 * t) 7 0) (p + 12 + 2 * t) 8 0) (p + 12 + 2 * t) 9 0) (p + 12 + 2 * t) 10 0) j (u2 d (p + 12 + 2 * t) 2 sl)) := by
  have hb : ∀ S : Hp, f_X4_baseOf S sl = some (sBase sl, S) := fun S => by
    unfold f_X4_baseOf sBase
    repeat' split
    all_goals rfl
  unfold f_X4_begin
  rw [ob_T h hs ht, wI_T h hs ht, bnd_go, ob_T h hs ht, wD_T h hs ht, bnd_go, hb, cl_go, ob_T h hs ht, wI_T h hs ht, bnd_go, ob_T h hs ht, wI_T h hs ht, bnd_go, ob_T h hs ht, wI_T h hs ht, bnd_go, ob_T h hs ht, wI_T h hs ht, bnd_go, ob_T h hs ht, wI_T h hs ht, bnd_go, ob_T h hs ht, wI_T h hs ht, bnd_go, ob_T h hs ht, wI_T h hs ht, bnd_go, ob_T h hs ht, wI_T h hs ht, bnd_go]
theorem a_addTour (h : Ev E) (V : IV B i j d N r H s) (hB : B + 119988 ≤ 67108864) (x : Int32) (b : Int64) (y br : Int32) : LSt E (B + 119988) i j d (fun S => f_X5_addTour S (zA E 0) x b y br) (fun S => f_X6_addTour S (zA E 229) x b y br) := by
  have a := V.rp
  have w := V.wf
  have w0 := V.w0
  obtain ⟨⟨hN, hr⟩, -⟩ := V.1, V.2
  have c3 : i 230 3 = nI (cN N 3) := by rw [hN]; exact w.n3.1
  have n3 := w.n3.2
  have c1 : i 230 1 = nI (cN N 1) := by rw [hN]; exact w.n1.1
  have n1 := w.n1.2
  have c2 : i 230 2 = nI (cN N 2) := by rw [hN]; exact w.n2.1
  have n2 := w.n2.2
  by_cases q1 : N 0 ≤ x ∧ x ≤ 999
  · have q1a : ¬ x < N 0 := Int32.not_lt.mpr q1.1
    have q1b : ¬ 999 < x := Int32.not_lt.mpr q1.2
    by_cases q2 : 0 ≤ b ∧ b ≤ (4633641066610819072 : Int64)
    · by_cases q3 : 1 ≤ y ∧ y ≤ 9999
      · have q3a : ¬ y < 1 := Int32.not_lt.mpr q3.1
        have q3b : ¬ 9999 < y := Int32.not_lt.mpr q3.2
        by_cases q4 : 0 ≤ br ∧ br ≤ (1 <<< (nI (cN N 2) &&& 31)) - 1
        · have q4a := (br_mask w.n2.2 br).mpr q4
          by_cases q5 : cN N 3 < 10
          · obtain ⟨pr, hpr, rfl⟩ := nI_of (x := y) (Int32.not_lt.mpr (Int32.le_trans (by decide) q3.1))
            have pr9 : pr ≤ 9999 := (nI_leI (b := 9999) hpr (by decide)).mp q3.2
            have hd := fp_dS b q2
            have g1 : ∀ z, z < 40 + 14 * (cN N 3) ∨ 40 + 14 * (cN N 3) + 14 ≤ z → (upd (upd (upd (cp (fun _ => 0) N (40 + 14 * (cN N 3)) 14) (40 + 14 * (cN N 3) + 0) x) (40 + 14 * (cN N 3) + 1) (nI pr)) (40 + 14 * (cN N 3) + 2) br) z = N z := fun z hz => by
              rw [up_ne (by omega), up_ne (by omega), up_ne (by omega), cp_out hz]
            have g0 : ∀ y, 3 ≤ y → y < 14 → (upd (upd (upd (cp (fun _ => 0) N (40 + 14 * (cN N 3)) 14) (40 + 14 * (cN N 3) + 0) x) (40 + 14 * (cN N 3) + 1) (nI pr)) (40 + 14 * (cN N 3) + 2) br) (40 + 14 * (cN N 3) + y) = 0 := fun y h1 h2 => by
              rw [up_ne (by omega), up_ne (by omega), up_ne (by omega), cp_in h2]
            have gp : (upd (upd (upd (cp (fun _ => 0) N (40 + 14 * (cN N 3)) 14) (40 + 14 * (cN N 3) + 0) x) (40 + 14 * (cN N 3) + 1) (nI pr)) (40 + 14 * (cN N 3) + 2) br) (40 + 14 * (cN N 3) + 1) = nI pr := by rw [up_ne (by omega)]; exact up_eq
            have wq1 : WQ (upd (upd (upd (cp (fun _ => 0) N (40 + 14 * (cN N 3)) 14) (40 + 14 * (cN N 3) + 0) x) (40 + 14 * (cN N 3) + 1) (nI pr)) (40 + 14 * (cN N 3) + 2) br) (vf_upd r (7 + (cN N 3)) b.toUInt64) := (w.q.cgo (fun z _ hz => g1 z (by omega))).rs q5
            have e3' : cN (upd (upd (upd (cp (fun _ => 0) N (40 + 14 * (cN N 3)) 14) (40 + 14 * (cN N 3) + 0) x) (40 + 14 * (cN N 3) + 1) (nI pr)) (40 + 14 * (cN N 3) + 2) br) 3 = cN N 3 := cN_of (g1 3 (by omega))
            have wq2 : WQ (upd (upd (upd (upd (cp (fun _ => 0) N (40 + 14 * (cN N 3)) 14) (40 + 14 * (cN N 3) + 0) x) (40 + 14 * (cN N 3) + 1) (nI pr)) (40 + 14 * (cN N 3) + 2) br) 3 (nI (cN N 3 + 1))) (vf_upd r (7 + (cN N 3)) b.toUInt64) := wq1.c3 (by omega) (fun t ht => by
              by_cases c : t = cN N 3
              · rw [c]
                have z3 := g0 3 (by omega) (by omega)
                have z4 := g0 4 (by omega) (by omega)
                refine ⟨Cn.mk' gp pr9 (by decide), Cn.mk' (n := 0) z3 (by omega) (by decide), Cn.mk' (n := 0) z4 (by omega) (by decide), fun k hk => ?_⟩
                rw [cN_nI (n := 0) z4 (by omega)] at hk
                omega
              · exact wq1.to (by rw [e3']; omega))
            have pb1 : PB B (upd (upd (upd (upd (cp (fun _ => 0) N (40 + 14 * (cN N 3)) 14) (40 + 14 * (cN N 3) + 0) x) (40 + 14 * (cN N 3) + 1) (nI pr)) (40 + 14 * (cN N 3) + 2) br) 3 (nI (cN N 3 + 1))) := (w.2.le (N1 := (upd (upd (upd (cp (fun _ => 0) N (40 + 14 * (cN N 3)) 14) (40 + 14 * (cN N 3) + 0) x) (40 + 14 * (cN N 3) + 1) (nI pr)) (40 + 14 * (cN N 3) + 2) br)) (by omega) (fun t ht => by
              by_cases c : t = cN N 3
              · rw [c]; exact Or.inr (g0 5 (by omega) (by omega))
              · exact Or.inl (g1 _ (by omega)))).free (fun t' h' => by omega)
            refine ls_act h V (by omega) (nI (cN N 3)) (upd (upd (upd (upd (cp (fun _ => 0) N (40 + 14 * (cN N 3)) 14) (40 + 14 * (cN N 3) + 0) x) (40 + 14 * (cN N 3) + 1) (nI pr)) (40 + 14 * (cN N 3) + 2) br) 3 (nI (cN N 3 + 1))) (vf_upd r (7 + (cN N 3)) b.toUInt64) (WF.mono (B := B) ⟨wq2, pb1⟩ (by omega)) ?_ ?_
            · intro i1 j1 d1 er a1
              show ∃ i2 j2 d2, f_X5_addTour _ _ _ _ _ _ = _ ∧ _
              unfold f_X5_addTour f_X2_hasBridges
              have ne : 1 ≠ 1 + 12 + 2 * cN N 3 := by omega
              have nr : 1 + 13 + 2 * cN N 3 ≠ 1 + 12 + 2 * cN N 3 := by omega
              rw [ob_X h, R_X0 h, ob_S h.1 h.s1, I_S h.1 h.s1, a.f6, if_neg q1a, if_neg q1b, fp_zero, cl_go, bI_1 q2, if_neg (by decide), if_neg q3a, if_neg q3b, ob_X h, R_X0 h, ob_S h.1 h.s1, ob_S h.1 h.s1, I_S h.1 h.s1, a.f4, w.n2.1, if_pos q4a, cl_go, if_neg (by decide), ob_X h, R_X0 h, ob_S h.1 h.s1, I_S h.1 h.s1, a.f5, w.n3.1, if_pos (show nI (cN N 3) < 10 from (nI_ltI (b := 10) (by omega) (by decide)).mpr q5), R_X2 h, ob_H h, er, cl_go, ob_X h, R_X0 h, ob_S h.1 h.s1, bnd_go, I_S h.1 h.s1, a1.f5, w.n3.1, R_S2 h.s1, ar_S2 h.1 h.s1 q5, fp_num b (Or.inl hd), cl_go, R_T h.s1 q5, ob_T h.1 h.s1 q5, y_begin h.1 h.s1 q5, cl_go, ob_X h, R_X0 h, ob_S h.1 h.s1, ob_S h.1 h.s1, I_S h.1 h.s1, u2_row _ _ ne, u2_row _ _ ne, u2_row _ _ ne, u2_row _ _ ne, u2_row _ _ ne, u2_row _ _ ne, u2_row _ _ ne, u2_row _ _ ne, u2_row _ _ ne, a1.f5, w.n3.1, nI_1, wI_S h.1 h.s1, bnd_go]
              have R1 := a1.tout w.n1.2 q5 (Nat.le_refl _) (i' := (u2 (u2 (u2 (u2 (u2 (u2 (u2 (u2 (u2 i1 (1 + 12 + 2 * (cN N 3)) 1 x) (1 + 12 + 2 * (cN N 3)) 3 (sBase b.toUInt64)) (1 + 12 + 2 * (cN N 3)) 4 (nI pr)) (1 + 12 + 2 * (cN N 3)) 5 br) (1 + 12 + 2 * (cN N 3)) 6 0) (1 + 12 + 2 * (cN N 3)) 7 0) (1 + 12 + 2 * (cN N 3)) 8 0) (1 + 12 + 2 * (cN N 3)) 9 0) (1 + 12 + 2 * (cN N 3)) 10 0)) (d' := u2 d1 (1 + 12 + 2 * (cN N 3)) 2 b.toUInt64) (fun q hq => ⟨by rw [u2_row _ _ hq, u2_row _ _ hq, u2_row _ _ hq, u2_row _ _ hq, u2_row _ _ hq, u2_row _ _ hq, u2_row _ _ hq, u2_row _ _ hq, u2_row _ _ hq], u2_row _ _ hq⟩)
              have R2 := R1.nout w.q (N1 := (upd (upd (upd (cp (fun _ => 0) N (40 + 14 * (cN N 3)) 14) (40 + 14 * (cN N 3) + 0) x) (40 + 14 * (cN N 3) + 1) (nI pr)) (40 + 14 * (cN N 3) + 2) br)) (r1 := vf_upd r (7 + (cN N 3)) b.toUInt64) (fun z hz => g1 z (by omega)) (fun z hz => vp_ne (by omega))
              refine ⟨_, _, _, rfl, fun q hq => ⟨?_, rfl, u2_row _ _ (by omega)⟩, R2.s5 wq1 (n := cN N 3 + 1) (by omega) _ rfl (fun t ht => ?_)⟩
              · rw [u2_row _ _ (by omega), u2_row _ _ (by omega), u2_row _ _ (by omega), u2_row _ _ (by omega), u2_row _ _ (by omega), u2_row _ _ (by omega), u2_row _ _ (by omega), u2_row _ _ (by omega), u2_row _ _ (by omega), u2_row _ _ (by omega)]
              · by_cases c : t = cN N 3
                · rw [c]
                  refine ⟨⟨?_, ?_, ?_, ?_, ?_, ?_, ?_, ?_⟩, ⟨?_, ?_⟩, fun k hk => ?_⟩
                  · rw [up_ne (by omega), up_ne (by omega), up_eq]; simp [u2]
                  · rw [gp]; simp [u2]
                  · rw [up_eq]; simp [u2]
                  · rw [g0 3 (by omega) (by omega)]; simp [u2]
                  · rw [g0 4 (by omega) (by omega)]; simp [u2]
                  · rw [g0 5 (by omega) (by omega)]; simp [u2]
                  · rw [g0 6 (by omega) (by omega)]; simp [u2]
                  · rw [g0 7 (by omega) (by omega)]; simp [u2]
                  · rw [vp_eq]; simp [u2]
                  · rw [vp_eq]; simp [u2]
                  · rw [cN_nI (n := 0) (g0 4 (by omega) (by omega)) (by omega)] at hk
                    omega
                · exact R2.t (by rw [e3']; omega)
            · intro i2 j2 d2 i3 d3 e1 e2 er e3 e4
              have w2 := w.of e1 e2
              show ∃ i4 d4, f_X6_addTour _ _ _ _ _ _ = _ ∧ _
              unfold f_X6_addTour
              have L := l_addTour (i := u2 i3 230 3 (nI (cN N 3 + 1))) (j := j2) (d := d3) h q5 x b (fp_snl b (Or.inl hd)) (nI pr) br 14 0 1000 (by omega) (by omega)
              rw [cp0_id] at L
              rw [ob_M h, R_now h, ar_now0 h, x_in, cl_go, I_230 h.1, e1, bI_1 q1, if_neg (by decide), fp_up60, cl_go, bI_1 q2, if_neg (by decide), x_in, cl_go, bI_1 q3, if_neg (by decide), ob_M h, R_now h, ar_now2 h, I_230 h.1, e1, w.n2.1, x_in, cl_go, bI_1 q4, if_neg (by decide), ob_M h, R_now h, ar_now3 h, I_230 h.1, e1, w.n3.1, if_neg (show ¬ nI (cN N 3) = 10 from fun e => by have := (nI_eq (b := 10) (by omega) (by decide)).mp e; omega), ob_M h, er, cl_go, ob_M h, R_now h, ar_now3 h, bnd_go, I_230 h.1, e3, w.n3.1, ar_now3 h, ar_now3 h, I_230 h.1, e3, w.n3.1, nI_1, wI_230 h.1, bnd_go]
              refine ⟨_, _, L, fun q hq => ?_, fun q hq => u2_row _ _ hq, ?_, ?_⟩
              · rw [u2_row _ _ hq, u2_row _ _ hq, u2_row _ _ hq, r2_ne _ _ hq, u2_row _ _ hq]
              · rw [upd_u2, upd_u2, upd_u2, r2_self, upd_u2, e3, cp_upd (by omega), up_comm (x := 3) (by omega), up_comm (x := 3) (by omega), up_comm (x := 3) (by omega)]
              · rw [u2_vupd, e4]
          · refine ls_0 V (by omega) (v := -3) ?_ ?_
            · show f_X5_addTour _ _ _ _ _ _ = _
              unfold f_X5_addTour f_X2_hasBridges
              rw [ob_X h, R_X0 h, ob_S h.1 h.s1, I_S h.1 h.s1, a.f6, if_neg q1a, if_neg q1b, fp_zero, cl_go, bI_1 q2, if_neg (by decide), if_neg q3a, if_neg q3b, ob_X h, R_X0 h, ob_S h.1 h.s1, ob_S h.1 h.s1, I_S h.1 h.s1, a.f4, w.n2.1, if_pos q4a, cl_go, if_neg (by decide), ob_X h, R_X0 h, ob_S h.1 h.s1, I_S h.1 h.s1, a.f5, w.n3.1, if_neg (show ¬ nI (cN N 3) < 10 from fun e => q5 ((nI_ltI (b := 10) (by omega) (by decide)).mp e))]
            · show f_X6_addTour _ _ _ _ _ _ = _
              unfold f_X6_addTour
              rw [ob_M h, R_now h, ar_now0 h, x_in, cl_go, I_230 h.1, hN, bI_1 q1, if_neg (by decide), fp_up60, cl_go, bI_1 q2, if_neg (by decide), x_in, cl_go, bI_1 q3, if_neg (by decide), ob_M h, R_now h, ar_now2 h, I_230 h.1, hN, w.n2.1, x_in, cl_go, bI_1 q4, if_neg (by decide), ob_M h, R_now h, ar_now3 h, I_230 h.1, hN, w.n3.1, if_pos (show nI (cN N 3) = 10 by rw [show cN N 3 = 10 by omega]; rfl)]
        · refine ls_0 V (by omega) (v := -2) ?_ ?_
          · show f_X5_addTour _ _ _ _ _ _ = _
            unfold f_X5_addTour f_X2_hasBridges
            rw [ob_X h, R_X0 h, ob_S h.1 h.s1, I_S h.1 h.s1, a.f6, if_neg q1a, if_neg q1b, fp_zero, cl_go, bI_1 q2, if_neg (by decide), if_neg q3a, if_neg q3b, ob_X h, R_X0 h, ob_S h.1 h.s1, ob_S h.1 h.s1, I_S h.1 h.s1, a.f4, w.n2.1, if_neg (fun e => q4 ((br_mask w.n2.2 br).mp e)), cl_go, if_pos rfl]
          · show f_X6_addTour _ _ _ _ _ _ = _
            unfold f_X6_addTour
            rw [ob_M h, R_now h, ar_now0 h, x_in, cl_go, I_230 h.1, hN, bI_1 q1, if_neg (by decide), fp_up60, cl_go, bI_1 q2, if_neg (by decide), x_in, cl_go, bI_1 q3, if_neg (by decide), ob_M h, R_now h, ar_now2 h, I_230 h.1, hN, w.n2.1, x_in, cl_go, bI_0 q4, if_pos rfl]
      · have e6 : f_X6_addTour (mk E i j d) (zA E 229) x b y br = some (-2, mk E i j d) := by
          unfold f_X6_addTour
          rw [ob_M h, R_now h, ar_now0 h, x_in, cl_go, I_230 h.1, hN, bI_1 q1, if_neg (by decide), fp_up60, cl_go, bI_1 q2, if_neg (by decide), x_in, cl_go, bI_0 q3, if_pos rfl]
        refine ls_0 V (by omega) (v := -2) ?_ e6
        show f_X5_addTour _ _ _ _ _ _ = _
        unfold f_X5_addTour
        rw [ob_X h, R_X0 h, ob_S h.1 h.s1, I_S h.1 h.s1, a.f6, if_neg q1a, if_neg q1b, fp_zero, cl_go, bI_1 q2, if_neg (by decide)]
        by_cases c : y < 1
        · rw [if_pos c]
        · rw [if_neg c, if_pos (Int32.not_le.mp (fun e => q3 ⟨Int32.not_lt.mp c, e⟩))]
    · refine ls_0 V (by omega) (v := -2) ?_ ?_
      · show f_X5_addTour _ _ _ _ _ _ = _
        unfold f_X5_addTour f_X2_hasBridges
        rw [ob_X h, R_X0 h, ob_S h.1 h.s1, I_S h.1 h.s1, a.f6, if_neg q1a, if_neg q1b, fp_zero, cl_go, bI_0 q2, if_pos rfl]
      · show f_X6_addTour _ _ _ _ _ _ = _
        unfold f_X6_addTour
        rw [ob_M h, R_now h, ar_now0 h, x_in, cl_go, I_230 h.1, hN, bI_1 q1, if_neg (by decide), fp_up60, cl_go, bI_0 q2, if_pos rfl]
  · have e6 : f_X6_addTour (mk E i j d) (zA E 229) x b y br = some (-2, mk E i j d) := by
      unfold f_X6_addTour
      rw [ob_M h, R_now h, ar_now0 h, x_in, cl_go, I_230 h.1, hN, bI_0 q1, if_pos rfl]
    refine ls_0 V (by omega) (v := -2) ?_ e6
    show f_X5_addTour _ _ _ _ _ _ = _
    unfold f_X5_addTour
    rw [ob_X h, R_X0 h, ob_S h.1 h.s1, I_S h.1 h.s1, a.f6]
    by_cases c : x < N 0
    · rw [if_pos c]
    · rw [if_neg c, if_pos (Int32.not_le.mp (fun e => q1 ⟨Int32.not_lt.mp c, e⟩))]
theorem y_share {S : Hp} (x : Int32) : f_X4_shareAt S x = some (sShare x, S) := by
  unfold f_X4_shareAt sShare
  repeat' split
  all_goals rfl
theorem p_leave (h : Ev E) (V : IV B i j d N r H s) (hB : B + 119988 ≤ 67108864) (x y : Int32) : LSp E (B + 119988) i j d (fun S => f_X5_leave S (zA E 0) x y) (fun S => f_X6_leave S (zA E 229) x y) := by
  have a := V.rp
  have w := V.wf
  have w0 := V.w0
  obtain ⟨⟨hN, hr⟩, -⟩ := V.1, V.2
  have c3 : i 230 3 = nI (cN N 3) := by rw [hN]; exact w.n3.1
  have n3 := w.n3.2
  have c1 : i 230 1 = nI (cN N 1) := by rw [hN]; exact w.n1.1
  have n1 := w.n1.2
  have c2 : i 230 2 = nI (cN N 2) := by rw [hN]; exact w.n2.1
  have n2 := w.n2.2
  by_cases hx : ∃ t, t < cN N 3 ∧ x = nI t
  · obtain ⟨t, ht, rfl⟩ := hx
    have h10 := w.t10 ht
    by_cases q1 : 1 ≤ y ∧ y ≤ 12
    · by_cases q2 : N (40 + 14 * t + 6) = 0
      · by_cases q3 : y ≤ N (40 + 14 * t + 3)
        · obtain ⟨l, hl, rfl⟩ := nI_of (x := y) (Int32.not_lt.mpr (Int32.le_trans (by decide) q1.1))
          have l1 : 1 ≤ l := (nI_leI (a := 1) (by decide) hl).mp q1.1
          have l12 : l ≤ 12 := (nI_leI (b := 12) hl (by decide)).mp q1.2
          have G := w.guests ht
          have Pd := w.2.one h10
          have hG : l ≤ cN N (40 + 14 * t + 3) := by
            rw [G.1] at q3
            exact (nI_leI hl (by omega)).mp q3
          obtain ⟨f1, f2, f3, q, hq, f4⟩ := fp_refund (cN N (40 + 14 * t + 5)) (cN N (40 + 14 * t + 3)) l (N (40 + 14 * t + 0) - N 0) (by omega) l1 hG G.2
          have wq1 := w.q.g3 (n := cN N (40 + 14 * t + 3) - l) h10 (by omega)
          have wq2 := wq1.free (z := 40 + 14 * t + 5) (by unfold Ess; omega) (nI (cN N (40 + 14 * t + 5) - q))
          have p1 : PB B (upd N (40 + 14 * t + 3) (nI (cN N (40 + 14 * t + 3) - l))) := w.2.free (fun t' h' => by omega)
          have e5 : cN (upd N (40 + 14 * t + 3) (nI (cN N (40 + 14 * t + 3) - l))) (40 + 14 * t + 5) = cN N (40 + 14 * t + 5) := cN_ne (by omega)
          have p2 := p1.paid (B' := B) (m := cN N (40 + 14 * t + 5) - q) h10 (by omega) (by have := p1.2; rw [e5]; omega) (fun q hq => (p1.one hq).2) (by omega)
          refine lp_act h V (by omega) (nI q) (upd (upd (upd N (40 + 14 * t + 3) (nI (cN N (40 + 14 * t + 3) - l))) (40 + 14 * t + 5) (nI (cN N (40 + 14 * t + 5) - q))) 4 (N 4 + nI q)) r (WF.mono (B := B) ⟨wq2.free (by unfold Ess; omega) _, p2.free (fun t' h' => by omega)⟩ (by omega)) ?_ ?_
          · intro i1 j1 d1 er a1
            show ∃ i2 j2 d2, f_X5_leave _ _ _ _ = _ ∧ _
            unfold f_X5_leave f_X4_refundFor f_X2_payBack
            have ne : 1 ≠ 1 + 12 + 2 * t := by omega
            rw [ob_X h, R_X0 h, ob_S h.1 h.s1, y_tourAt1 h.1 h.s1 a w ht, cl_go, if_neg sm, y_isGuests, cl_go, bI_1 q1, if_neg (by decide), ob_T h.1 h.s1 h10, I_T h.1 h.s1 h10, a.t9 ht, if_pos q2, I_T h.1 h.s1 h10, a.t6 ht, if_pos q3, ob_X h, R_X2 h, ob_H h, R_X0 h, er, cl_go, ob_X h, R_X0 h, ob_S h.1 h.s1, ob_T h.1 h.s1 h10, ob_T h.1 h.s1 h10, I_S h.1 h.s1, a1.f6, I_T h.1 h.s1 h10, a1.t6 ht, I_T h.1 h.s1 h10, a1.t8 ht, I_T h.1 h.s1 h10, a1.t1 ht, G.1, Pd.1, if_pos (show (0 : Int32) < nI (cN N (40 + 14 * t + 3)) from (nI_ltI (a := 0) (by decide) (by omega)).mpr (by omega)), fpg_go f1, fpg_go f2, y_share, cl_go, fpg_go f3, f4, cl_go, ob_T h.1 h.s1 h10, ob_T h.1 h.s1 h10, I_T h.1 h.s1 h10, a1.t6 ht, G.1, pk_sub hG, wI_T h.1 h.s1 h10, bnd_go, ob_X h, R_X0 h, ob_S h.1 h.s1, ob_T h.1 h.s1 h10, ob_T h.1 h.s1 h10, I_T h.1 h.s1 h10, u2_nek _ _ (by decide : (8 : Nat) ≠ 6), a1.t8 ht, Pd.1, pk_sub hq, wI_T h.1 h.s1 h10, bnd_go, ob_S h.1 h.s1, ob_S h.1 h.s1, I_S h.1 h.s1, u2_row _ _ ne, u2_row _ _ ne, a1.f9, wI_S h.1 h.s1, bnd_go, cl_go]
            refine ⟨_, _, _, rfl, fun q hq => ⟨?_, rfl, rfl⟩, ((a1.w6 w.q h10 _).w8 wq1 h10 _).s9 wq2 _⟩
            rw [u2_row _ _ (by omega), u2_row _ _ (by omega), u2_row _ _ (by omega)]
          · intro i2 j2 d2 i3 d3 e1 e2 er e3 e4
            have w2 := w.of e1 e2
            have ht2 : t < cN (i2 230) 3 := by rw [e1]; exact ht
            show ∃ i4 d4, f_X6_leave _ _ _ _ = _ ∧ _
            unfold f_X6_leave
            rw [ob_M h, x_noTour1 h w2.n3.1 (b30 w2.n3.2) ht2, cl_go, if_pos rfl, x_in, cl_go, bI_1 q1, if_neg (by decide), ob_M h, x_isOpen h h10, cl_go, e1, bI_1 q2, if_neg (by decide), ob_M h, x_of3 h h10, cl_go, e1, if_pos q3, ob_M h, er, cl_go, ob_M h, x_of0 h h10, cl_go, ob_M h, R_now h, ar_now0 h, bnd_go, I_230 h.1, e3]
            unfold sShare at f3 f4
            have fin : ∀ sh : UInt64, vf_n64 (FP.dmul (FP.dmul (FP.ddiv (FP.i2d (nI (cN N (40 + 14 * t + 5)))) (FP.i2d (nI (cN N (40 + 14 * t + 3))))) (FP.i2d (nI l))) sh) → FP.d2i (FP.dmul (FP.dmul (FP.ddiv (FP.i2d (nI (cN N (40 + 14 * t + 5)))) (FP.i2d (nI (cN N (40 + 14 * t + 3))))) (FP.i2d (nI l))) sh) = nI q →
              ∃ i4 d4, (ob (mk E i3 j2 d3) 6 (some (zA E 229)) fun b6 => cl (f_X6_of (mk E i3 j2 d3) b6 (nI t) (5 : Int32)) fun v7 S7 =>
                ob S7 6 (some (zA E 229)) fun b7 => cl (f_X6_of S7 b7 (nI t) (3 : Int32)) fun v8 S8 =>
                fpg (FP.ddiv (FP.i2d v7) (FP.i2d v8)) <|
                fpg (FP.dmul (FP.ddiv (FP.i2d v7) (FP.i2d v8)) (FP.i2d (nI l))) <|
                fpg (FP.dmul (FP.dmul (FP.ddiv (FP.i2d v7) (FP.i2d v8)) (FP.i2d (nI l))) sh) <|
                bnd ((FP.d2i (FP.dmul (FP.dmul (FP.ddiv (FP.i2d v7) (FP.i2d v8)) (FP.i2d (nI l))) sh))) fun v9 =>
                ob S8 6 (some (zA E 229)) fun b8 => cl (f_X6_of S8 b8 (nI t) (3 : Int32)) fun v10 S9 =>
                ob S9 6 (some (zA E 229)) fun b9 => cl (f_X6_to S9 b9 (nI t) (3 : Int32) (v10 - nI l)) fun _ S10 =>
                ob S10 6 (some (zA E 229)) fun b10 => cl (f_X6_refunds S10 b10 (nI t) v9) fun _ S11 =>
                some (v9, S11)) = some (nI q, mk E i4 j2 d4) ∧ (∀ q, q ≠ 230 → i4 q = i3 q) ∧ (∀ q, q ≠ 233 → d4 q = d3 q) ∧ i4 230 = upd (upd (upd N (40 + 14 * t + 3) (nI (cN N (40 + 14 * t + 3) - l))) (40 + 14 * t + 5) (nI (cN N (40 + 14 * t + 5) - q))) 4 (N 4 + nI q) ∧ d4 233 = r := fun sh g3 g4 => by
              rw [ob_M h, x_of5 h h10, cl_go, ob_M h, x_of3 h h10, cl_go, e3, G.1, Pd.1, fpg_go f1, fpg_go f2, fpg_go g3, g4, bnd_go, ob_M h, x_of3 h h10, cl_go, e3, G.1, pk_sub hG, ob_M h, x_to3 h h10, cl_go, ob_M h, x_refunds h h10, cl_go, u2_nek _ _ (by omega : 40 + 14 * t + 5 ≠ 40 + 14 * t + 3), u2_nek _ _ (by omega : 4 ≠ 40 + 14 * t + 3), e3, Pd.1, pk_sub hq]
              refine ⟨_, _, rfl, fun q hq => ?_, fun q hq => rfl, ?_, e4⟩
              · rw [u2_row _ _ hq, u2_row _ _ hq, u2_row _ _ hq]
              · rw [upd_u2, upd_u2, upd_u2, e3]
            by_cases c14 : N (40 + 14 * t + 0) - N 0 < 14
            · rw [if_pos c14] at f3 f4 ⊢
              by_cases c7 : N (40 + 14 * t + 0) - N 0 < 7
              · rw [if_pos c7] at f3 f4 ⊢
                by_cases c3 : N (40 + 14 * t + 0) - N 0 < 3
                · rw [if_pos c3] at f3 f4 ⊢
                  exact fin _ f3 f4
                · rw [if_neg c3] at f3 f4 ⊢
                  exact fin _ f3 f4
              · rw [if_neg c7] at f3 f4 ⊢
                exact fin _ f3 f4
            · rw [if_neg c14] at f3 f4 ⊢
              exact fin _ f3 f4
        · refine lp_0 V (by omega) (v := -4) ?_ ?_
          · show f_X5_leave _ _ _ _ = _
            unfold f_X5_leave
            rw [ob_X h, R_X0 h, ob_S h.1 h.s1, y_tourAt1 h.1 h.s1 a w ht, cl_go, if_neg sm, y_isGuests, cl_go, bI_1 q1, if_neg (by decide), ob_T h.1 h.s1 h10, I_T h.1 h.s1 h10, a.t9 ht, if_pos q2, I_T h.1 h.s1 h10, a.t6 ht, if_neg q3]
          · intro i2 hN
            have c3 : i2 230 3 = nI (cN N 3) := by rw [hN]; exact w.n3.1
            have c1 : i2 230 1 = nI (cN N 1) := by rw [hN]; exact w.n1.1
            have w0 : WF B (i2 230) (d 233) := w.of hN hr
            show f_X6_leave _ _ _ _ = _
            unfold f_X6_leave
            rw [ob_M h, x_noTour1 h c3 (b30 n3) ht, cl_go, if_pos rfl, x_in, cl_go, bI_1 q1, if_neg (by decide), ob_M h, x_isOpen h h10, cl_go, hN, bI_1 q2, if_neg (by decide), ob_M h, x_of3 h h10, cl_go, hN, if_neg q3]
      · refine lp_0 V (by omega) (v := -4) ?_ ?_
        · show f_X5_leave _ _ _ _ = _
          unfold f_X5_leave
          rw [ob_X h, R_X0 h, ob_S h.1 h.s1, y_tourAt1 h.1 h.s1 a w ht, cl_go, if_neg sm, y_isGuests, cl_go, bI_1 q1, if_neg (by decide), ob_T h.1 h.s1 h10, I_T h.1 h.s1 h10, a.t9 ht, if_neg q2]
        · intro i2 hN
          have c3 : i2 230 3 = nI (cN N 3) := by rw [hN]; exact w.n3.1
          have c1 : i2 230 1 = nI (cN N 1) := by rw [hN]; exact w.n1.1
          have w0 : WF B (i2 230) (d 233) := w.of hN hr
          show f_X6_leave _ _ _ _ = _
          unfold f_X6_leave
          rw [ob_M h, x_noTour1 h c3 (b30 n3) ht, cl_go, if_pos rfl, x_in, cl_go, bI_1 q1, if_neg (by decide), ob_M h, x_isOpen h h10, cl_go, hN, bI_0 q2, if_pos rfl]
    · refine lp_0 V (by omega) (v := -2) ?_ ?_
      · show f_X5_leave _ _ _ _ = _
        unfold f_X5_leave
        rw [ob_X h, R_X0 h, ob_S h.1 h.s1, y_tourAt1 h.1 h.s1 a w ht, cl_go, if_neg sm, y_isGuests, cl_go, bI_0 q1, if_pos rfl]
      · intro i2 hN
        have c3 : i2 230 3 = nI (cN N 3) := by rw [hN]; exact w.n3.1
        have c1 : i2 230 1 = nI (cN N 1) := by rw [hN]; exact w.n1.1
        have w0 : WF B (i2 230) (d 233) := w.of hN hr
        show f_X6_leave _ _ _ _ = _
        unfold f_X6_leave
        rw [ob_M h, x_noTour1 h c3 (b30 n3) ht, cl_go, if_pos rfl, x_in, cl_go, bI_0 q1, if_pos rfl]
  · refine lp_0 V (by omega) (v := -1) ?_ ?_
    · show f_X5_leave _ _ _ _ = _
      unfold f_X5_leave
      rw [ob_X h, R_X0 h, ob_S h.1 h.s1, y_tourAt0 h.1 h.s1 a w hx, cl_go, if_pos rfl]
    · intro i2 hN
      have c3 : i2 230 3 = nI (cN N 3) := by rw [hN]; exact w.n3.1
      have c1 : i2 230 1 = nI (cN N 1) := by rw [hN]; exact w.n1.1
      have w0 : WF B (i2 230) (d 233) := w.of hN hr
      show f_X6_leave _ _ _ _ = _
      unfold f_X6_leave
      rw [ob_M h, x_noTour0 h c3 (b30 n3) hx, cl_go, if_neg (by decide)]
end ACTS4
