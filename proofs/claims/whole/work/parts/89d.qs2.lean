/-! the other questions of both, side by side -/
section QS2
variable {E : Hp} {i : Nat → Nat → Int32} {j : Nat → Nat → Int64} {d : Nat → Nat → UInt64} {B : Nat}
theorem q_rope (h : Ev E) (a : Rep i j d 1 (i 230) (d 233)) (w : WF B (i 230) (d 233)) (x y z : Int32) : ∃ v, f_X5_rope (mk E i j d) (zA E 0) x y z = some (v, (mk E i j d)) ∧ f_X6_rope (mk E i j d) (zA E 229) x y z = some (v, (mk E i j d)) := by
  have hn := w.n3
  unfold f_X5_rope f_X6_rope
  rw [ob_X h, R_X0 h, ob_S h.1 h.s1, ob_M h]
  by_cases hx : ∃ t, t < cN (i 230) 3 ∧ x = nI t
  · obtain ⟨t, ht, rfl⟩ := hx
    have h10 := w.t10 ht
    obtain ⟨hM, hM4⟩ := w.many ht
    rw [y_tourAt1 h.1 h.s1 a w ht, cl_go, if_neg sm, x_noTour1 h hn.1 (by omega) ht, cl_go, if_pos rfl, x_in, cl_go]
    by_cases q1 : y < 0
    · rw [if_pos q1, if_pos q1]; exact ⟨_, rfl, rfl⟩
    · rw [if_neg q1, if_neg q1]
      by_cases q2 : z < 0
      · rw [if_pos q2, bI_0 (fun e => Int32.not_lt.mpr e.1 q2), if_pos rfl]; exact ⟨_, rfl, rfl⟩
      · by_cases q3 : z ≤ 2
        · rw [if_neg q2, if_pos q3, bI_1 ⟨Int32.not_lt.mp q2, q3⟩, if_neg (by decide), ob_T h.1 h.s1 h10, I_T h.1 h.s1 h10, a.t7 ht, ob_M h, x_of4 h h10, cl_go]
          by_cases q4 : y < i 230 (40 + 14 * t + 4)
          · rw [if_pos q4, if_pos q4]
            obtain ⟨k, hk, rfl⟩ := nI_of q1
            have hk4 : k < cN (i 230) (40 + 14 * t + 4) := by rw [hM] at q4; exact (nI_ltI hk (by omega)).mp q4
            obtain ⟨hr, hr1, hr8⟩ := w.rowk ht hk4
            rw [R_T0 h.s1 h10, ar_T0 h.1 h.s1 h10 (by omega), I_R h.1 h.s1 h10, a.tr ht hk4, ob_M h, x_guideOn h h10 (by omega), cl_go]
            by_cases q5 : z = 0
            · rw [if_pos q5, if_pos q5]; exact ⟨_, rfl, rfl⟩
            · rw [if_neg q5, if_neg q5, hr, ob_X h, ar_T0 h.1 h.s1 h10 (by omega), R_X0 h, ob_S h.1 h.s1, I_R h.1 h.s1 h10, a.tr ht hk4, hr, y_ratioOf h.1 h.s1 a w ht hr1, cl_go, ob_M h, x_ratio h w h10 hr1, cl_go, ob_X h, ob_S h.1 h.s1, y_guestsOnRope h.1 h.s1 a w ht hk4, cl_go, ob_M h, x_onRope1 h w ht hk4, cl_go]
              by_cases q6 : z = 1
              · rw [if_pos q6]; exact ⟨_, rfl, rfl⟩
              · rw [if_neg q6]; exact ⟨_, rfl, rfl⟩
          · rw [if_neg q4, if_neg q4]; exact ⟨_, rfl, rfl⟩
        · rw [if_neg q2, if_neg q3, bI_0 (fun e => q3 e.2), if_pos rfl]; exact ⟨_, rfl, rfl⟩
  · rw [y_tourAt0 h.1 h.s1 a w hx, cl_go, if_pos rfl, x_noTour0 h hn.1 (by omega) hx, cl_go, if_neg (by decide)]
    exact ⟨_, rfl, rfl⟩
theorem q_thick (h : Ev E) (a : Rep i j d 1 (i 230) (d 233)) (w : WF B (i 230) (d 233)) (x : Int32) : ∃ v, f_X5_thickness (mk E i j d) (zA E 0) x = some (v, (mk E i j d)) ∧ f_X6_thickness (mk E i j d) (zA E 229) x = some (v, (mk E i j d)) := by
  have hn := w.n2
  unfold f_X5_thickness f_X6_thickness
  rw [ob_X h, R_X0 h, ob_S h.1 h.s1, ob_M h]
  by_cases hx : ∃ t, t < cN (i 230) 2 ∧ x = nI t
  · obtain ⟨b, hb, rfl⟩ := hx
    rw [y_hasBridge1 h.1 h.s1 a w hb, cl_go, if_neg (by decide), ob_X h, R_X0 h, ob_S h.1 h.s1, R_S1 h.s1, ar_S1 h.1 h.s1 (by omega), D_B h.1 h.s1, a.b (by omega), x_noBridge1 h hn.1 (by omega) hb, cl_go, if_pos rfl, ob_M h, R_rea h, ar_rea h (x := 1 + nI b) (1 + b) (nI_add 1 b) (by omega), D_233 h.1]
    exact ⟨_, rfl, rfl⟩
  · rw [y_hasBridge0 h.1 h.s1 a w hx, cl_go, if_pos rfl, x_noBridge0 h hn.1 (by omega) hx, cl_go, if_neg (by decide)]
    exact ⟨_, rfl, rfl⟩
theorem q_fore_L (h : Ev E) (a : Rep i j d 1 (i 230) (d 233)) (w : WF B (i 230) (d 233)) (x : Int32) {n : Nat} (hn : n ≤ 30) : ∀ m k fuel e, dB e → k + m = n → m < fuel → ∃ v, f_X5_foretold_L38 fuel (mk E i j d) (zA E 0) x (nI n) e (nI k) = some (v, (mk E i j d)) ∧ f_X6_foretold_L34 fuel (mk E i j d) (zA E 229) x (nI n) e (nI k) = some (v, (mk E i j d)) := by
  intro m
  induction m with
  | zero =>
    intro k fuel e he hk hf
    obtain ⟨f, rfl⟩ : ∃ f, fuel = f + 1 := ⟨fuel - 1, by omega⟩
    show ∃ v, f_X5_foretold_L38_b (f_X5_foretold_L38 f) _ _ _ _ _ _ = _ ∧ f_X6_foretold_L34_b (f_X6_foretold_L34 f) _ _ _ _ _ _ = _
    unfold f_X5_foretold_L38_b f_X6_foretold_L34_b
    rw [if_pos (nI_le (by omega) (by omega)), if_pos (nI_le (by omega) (by omega))]
    exact ⟨_, rfl, rfl⟩
  | succ m ih =>
    intro k fuel e he hk hf
    obtain ⟨f, rfl⟩ : ∃ f, fuel = f + 1 := ⟨fuel - 1, by omega⟩
    show ∃ v, f_X5_foretold_L38_b (f_X5_foretold_L38 f) _ _ _ _ _ _ = _ ∧ f_X6_foretold_L34_b (f_X6_foretold_L34 f) _ _ _ _ _ _ = _
    unfold f_X5_foretold_L38_b f_X6_foretold_L34_b
    rw [if_neg (nI_ge (by omega) (by omega)), if_neg (nI_ge (by omega) (by omega)), ob_X h, R_X0 h, ob_S h.1 h.s1, y_dayLater h.1 h.s1 a w.dg he, cl_go, bnd_go, ob_M h, x_changed h w.dg he, cl_go, bnd_go, nI_1]
    exact ih (k + 1) f _ (fp_later w.dg he) (by omega) (by omega)
theorem q_fore (h : Ev E) (a : Rep i j d 1 (i 230) (d 233)) (w : WF B (i 230) (d 233)) (x y : Int32) : ∃ v, f_X5_foretold (mk E i j d) (zA E 0) x y = some (v, (mk E i j d)) ∧ f_X6_foretold (mk E i j d) (zA E 229) x y = some (v, (mk E i j d)) := by
  have hn := w.n2
  unfold f_X5_foretold f_X6_foretold
  rw [ob_X h, R_X0 h, ob_S h.1 h.s1, ob_M h]
  by_cases hx : ∃ t, t < cN (i 230) 2 ∧ x = nI t
  · obtain ⟨b, hb, rfl⟩ := hx
    rw [y_hasBridge1 h.1 h.s1 a w hb, cl_go, if_neg (by decide), x_noBridge1 h hn.1 (by omega) hb, cl_go, if_pos rfl, x_in, cl_go]
    by_cases q1 : y < 0
    · rw [if_pos q1, bI_0 (fun e => Int32.not_lt.mpr e.1 q1), if_pos rfl]; exact ⟨_, rfl, rfl⟩
    · by_cases q2 : y ≤ 30
      · obtain ⟨k, hk, rfl⟩ := nI_of q1
        have hk30 : k ≤ 30 := (nI_leI (b := 30) hk (by decide)).mp q2
        rw [if_neg q1, if_pos q2, bI_1 ⟨Int32.not_lt.mp q1, q2⟩, if_neg (by decide), ob_X h, R_X0 h, ob_S h.1 h.s1, R_S1 h.s1, ar_S1 h.1 h.s1 (by omega), D_B h.1 h.s1, a.b (by omega), ob_M h, R_rea h, ar_rea h (x := 1 + nI b) (1 + b) (nI_add 1 b) (by omega), D_233 h.1, bnd_go, bnd_go]
        exact q_fore_L h a w (nI b) hk30 k 0 1000 _ (w.db (by omega)) (by omega) (by omega)
      · rw [if_neg q1, if_neg q2, bI_0 (fun e => q2 e.2), if_pos rfl]; exact ⟨_, rfl, rfl⟩
  · rw [y_hasBridge0 h.1 h.s1 a w hx, cl_go, if_pos rfl, x_noBridge0 h hn.1 (by omega) hx, cl_go, if_neg (by decide)]
    exact ⟨_, rfl, rfl⟩
theorem q_needed (h : Ev E) (a : Rep i j d 1 (i 230) (d 233)) (w : WF B (i 230) (d 233)) (x : Int32) : ∃ v, f_X5_needed (mk E i j d) (zA E 0) x = some (v, (mk E i j d)) ∧ f_X6_needed (mk E i j d) (zA E 229) x = some (v, (mk E i j d)) := by
  have hn := w.n3
  unfold f_X5_needed f_X6_needed
  rw [ob_X h, R_X0 h, ob_S h.1 h.s1, ob_M h]
  by_cases hx : ∃ t, t < cN (i 230) 3 ∧ x = nI t
  · obtain ⟨t, ht, rfl⟩ := hx
    rw [y_tourAt1 h.1 h.s1 a w ht, cl_go, if_neg sm, x_noTour1 h hn.1 (by omega) ht, cl_go, if_pos rfl, ob_X h, R_X0 h, ob_S h.1 h.s1, y_neededBy h.1 h.s1 a w ht, cl_go, ob_M h, x_neededBy h w ht, cl_go]
    exact ⟨_, rfl, rfl⟩
  · rw [y_tourAt0 h.1 h.s1 a w hx, cl_go, if_pos rfl, x_noTour0 h hn.1 (by omega) hx, cl_go, if_neg (by decide)]
    exact ⟨_, rfl, rfl⟩
theorem q_holds (h : Ev E) (a : Rep i j d 1 (i 230) (d 233)) (w : WF B (i 230) (d 233)) (x y : Int32) : ∃ v, f_X5_holds (mk E i j d) (zA E 0) x y = some (v, (mk E i j d)) ∧ f_X6_holds (mk E i j d) (zA E 229) x y = some (v, (mk E i j d)) := by
  have hn := w.n3
  have hb := w.n2
  unfold f_X5_holds f_X6_holds
  rw [ob_X h, R_X0 h, ob_S h.1 h.s1, ob_M h]
  by_cases hx : ∃ t, t < cN (i 230) 3 ∧ x = nI t
  · obtain ⟨t, ht, rfl⟩ := hx
    rw [y_tourAt1 h.1 h.s1 a w ht, cl_go, if_neg sm, x_noTour1 h hn.1 (by omega) ht, cl_go, if_pos rfl, ob_X h, R_X0 h, ob_S h.1 h.s1, ob_M h]
    by_cases hy : ∃ t, t < cN (i 230) 2 ∧ y = nI t
    · obtain ⟨b, hb2, rfl⟩ := hy
      rw [y_hasBridge1 h.1 h.s1 a w hb2, cl_go, if_neg (by decide), x_noBridge1 h hb.1 (by omega) hb2, cl_go, if_pos rfl, ob_X h, R_X0 h, ob_S h.1 h.s1, R_S1 h.s1, ar_S1 h.1 h.s1 (by omega), ob_S h.1 h.s1, y_neededBy h.1 h.s1 a w ht, cl_go, D_B h.1 h.s1, a.b (by omega), ob_M h, x_isHeld h w ht (by omega), cl_go]
      by_cases q : 0 ≤ Op.cmpValue (FP.dcmp (d 233 (1 + b)) (sNeed (i 230) (d 233) t)) CmpOp.l
      · rw [bI_1 q, if_neg (Int32.not_lt.mpr q), if_neg (by decide)]; exact ⟨_, rfl, rfl⟩
      · rw [bI_0 q, if_pos (Int32.not_le.mp q), if_pos rfl]; exact ⟨_, rfl, rfl⟩
    · rw [y_hasBridge0 h.1 h.s1 a w hy, cl_go, if_pos rfl, x_noBridge0 h hb.1 (by omega) hy, cl_go, if_neg (by decide)]
      exact ⟨_, rfl, rfl⟩
  · rw [y_tourAt0 h.1 h.s1 a w hx, cl_go, if_pos rfl, x_noTour0 h hn.1 (by omega) hx, cl_go, if_neg (by decide)]
    exact ⟨_, rfl, rfl⟩
def gB (N : Nat → Int32) (r : Nat → UInt64) (t : Nat) : Option Nat → Nat
  | none => 0
  | some c => sRat N r t c
theorem y_best_L (h : Ev E) (a : Rep i j d 1 (i 230) (d 233)) (w : WF B (i 230) (d 233)) {t : Nat} (ht : t < cN (i 230) 3) (x : Int32) : ∀ m k fuel (b : Option Nat), (∀ c, b = some c → c < k) → k + m = cN (i 230) 1 → m < fuel → f_X5_bestGuide_L35 fuel (mk E i j d) (zA E 0) x (some (zA E (1 + 12 + 2 * t))) (oI b) (nI (gB (i 230) (d 233) t b)) (nI k) = some (oI (sBest (i 230) (d 233) t m k b), (mk E i j d)) := by
  have h10 := w.t10 ht
  obtain ⟨hM, hM4⟩ := w.n1
  intro m
  induction m with
  | zero =>
    intro k fuel b hb hk hf
    obtain ⟨f, rfl⟩ : ∃ f, fuel = f + 1 := ⟨fuel - 1, by omega⟩
    show f_X5_bestGuide_L35_b (f_X5_bestGuide_L35 f) _ _ _ _ _ _ _ = _
    unfold f_X5_bestGuide_L35_b
    rw [ob_X h, R_X0 h, ob_S h.1 h.s1, I_S h.1 h.s1, a.f3, hM, if_pos (nI_le (by omega) (by omega))]
    cases b <;> rfl
  | succ m ih =>
    intro k fuel b hb hk hf
    obtain ⟨f, rfl⟩ : ∃ f, fuel = f + 1 := ⟨fuel - 1, by omega⟩
    show f_X5_bestGuide_L35_b (f_X5_bestGuide_L35 f) _ _ _ _ _ _ _ = _
    unfold f_X5_bestGuide_L35_b
    have hk1 : k < cN (i 230) 1 := by omega
    have IHb := ih (k + 1) f b (fun c e => by have := hb c e; omega) (by omega) (by omega)
    have IHk := ih (k + 1) f (some k) (fun c e => by cases e; omega) (by omega) (by omega)
    have hrk := rat_le (r := (d 233)) (t := t) (w.kl hk1).1
    rw [ob_X h, R_X0 h, ob_S h.1 h.s1, I_S h.1 h.s1, a.f3, hM, if_neg (nI_ge (by omega) (by omega)), ob_S h.1 h.s1, y_mayLead h.1 h.s1 a w ht hk1, cl_go]
    by_cases q : sMay (i 230) t k = true
    · rw [bI_1 q, if_neg (by decide), ob_X h, R_X0 h, ob_S h.1 h.s1, y_ratioOf h.1 h.s1 a w ht hk1, cl_go, ob_X h, R_X0 h, ob_S h.1 h.s1, y_ratioOf h.1 h.s1 a w ht hk1, cl_go]
      cases b with
      | none =>
        rw [if_neg (show ¬ nI (sRat (i 230) (d 233) t k) ≤ nI (gB (i 230) (d 233) t none) from nI_nle (by omega) (by omega)), bnd_go, nI_1]
        refine Eq.trans IHk ?_
        show _ = some (oI (sBest (i 230) (d 233) t m (k + 1) (if sMay (i 230) t k = true then some k else none)), (mk E i j d))
        rw [if_pos q]
      | some c =>
        have hc := hb c rfl
        have hrc := rat_le (r := (d 233)) (t := t) (w.kl (g := c) (by omega)).1
        show _ = some (oI (sBest (i 230) (d 233) t m (k + 1) (if sMay (i 230) t k = true ∧ sRat (i 230) (d 233) t c < sRat (i 230) (d 233) t k then some k else some c)), (mk E i j d))
        rw [show gB (i 230) (d 233) t (some c) = sRat (i 230) (d 233) t c from rfl]
        by_cases q2 : sRat (i 230) (d 233) t k ≤ sRat (i 230) (d 233) t c
        · rw [if_pos ((nI_leI (by omega) (by omega)).mpr q2), bnd_go, nI_1, if_neg (by omega)]
          exact IHb
        · rw [if_neg (fun e => q2 ((nI_leI (by omega) (by omega)).mp e)), bnd_go, nI_1, if_pos ⟨q, by omega⟩]
          exact IHk
    · rw [bI_0 q, if_pos rfl, bnd_go, nI_1]
      refine Eq.trans IHb ?_
      cases b with
      | none => exact congrArg (fun z => some (oI (sBest (i 230) (d 233) t m (k + 1) z), (mk E i j d))) (if_neg q).symm
      | some c => exact congrArg (fun z => some (oI (sBest (i 230) (d 233) t m (k + 1) z), (mk E i j d))) (if_neg (fun e => q e.1)).symm
theorem q_best (h : Ev E) (a : Rep i j d 1 (i 230) (d 233)) (w : WF B (i 230) (d 233)) (x : Int32) : ∃ v, f_X5_bestGuide (mk E i j d) (zA E 0) x = some (v, (mk E i j d)) ∧ f_X6_bestGuide (mk E i j d) (zA E 229) x = some (v, (mk E i j d)) := by
  have hn := w.n3
  unfold f_X5_bestGuide
  rw [ob_X h, R_X0 h, ob_S h.1 h.s1]
  by_cases hx : ∃ t, t < cN (i 230) 3 ∧ x = nI t
  · obtain ⟨t, ht, rfl⟩ := hx
    have h10 := w.t10 ht
    have h8 := w.n1.2
    obtain ⟨hM, hM4⟩ := w.many ht
    rw [y_tourAt1 h.1 h.s1 a w ht, cl_go, if_neg sm, ob_T h.1 h.s1 h10, I_T h.1 h.s1 h10, a.t7 ht, x_bestGuide h w ht, hM]
    by_cases q : cN (i 230) (40 + 14 * t + 4) < 4
    · rw [if_pos (show nI (cN (i 230) (40 + 14 * t + 4)) < 4 from (nI_ltI (b := 4) (by omega) (by decide)).mpr q), if_pos q]
      refine ⟨_, ?_, rfl⟩
      exact y_best_L h a w ht (nI t) (cN (i 230) 1) 0 1000 none (fun c e => by cases e) (by omega) (by omega)
    · rw [if_neg (show ¬ nI (cN (i 230) (40 + 14 * t + 4)) < 4 from fun e => q ((nI_ltI (b := 4) (by omega) (by decide)).mp e)), if_neg q]
      exact ⟨_, rfl, rfl⟩
  · rw [y_tourAt0 h.1 h.s1 a w hx, cl_go, if_pos rfl, x_bestGuide0 h hn.1 (by omega) hx]
    exact ⟨_, rfl, rfl⟩
theorem q_takes (h : Ev E) (a : Rep i j d 1 (i 230) (d 233)) (w : WF B (i 230) (d 233)) (y x : Int32) : ∃ v, f_X5_takes (mk E i j d) (zA E 0) y x = some (v, (mk E i j d)) ∧ f_X6_takes (mk E i j d) (zA E 229) y x = some (v, (mk E i j d)) := by
  have hn := w.n1
  unfold f_X5_takes f_X6_takes
  rw [ob_X h, R_X0 h, ob_S h.1 h.s1, ob_M h]
  by_cases hx : ∃ t, t < cN (i 230) 1 ∧ x = nI t
  · obtain ⟨g, hg, rfl⟩ := hx
    have hg8 : g < 8 := by omega
    rw [y_guideAt1 h.1 h.s1 a w hg, cl_go, if_neg sm, x_noGuide1 h hn.1 (by omega) hg, cl_go, if_pos rfl, y_isClass, cl_go, x_in, cl_go]
    by_cases q : 1 ≤ y ∧ y ≤ 3
    · rw [bI_1 q, if_neg (by decide), if_neg (by decide), ob_G h.1 h.s1 hg8, I_G h.1 h.s1 hg8, a.g hg (by decide : 0 < 4), ob_M h, x_ofG0 h hg8, cl_go]
      by_cases q2 : i 230 (8 + 4 * g + 0) = y
      · rw [if_pos q2]; exact ⟨_, rfl, rfl⟩
      · rw [if_neg q2]; exact ⟨_, rfl, rfl⟩
    · rw [bI_0 q, if_pos rfl, if_pos rfl]; exact ⟨_, rfl, rfl⟩
  · rw [y_guideAt0 h.1 h.s1 a w hx, cl_go, if_pos rfl, x_noGuide0 h hn.1 (by omega) hx, cl_go, if_neg (by decide)]
    exact ⟨_, rfl, rfl⟩
theorem q_temp (h : Ev E) (a : Rep i j d 1 (i 230) (d 233)) (w : WF B (i 230) (d 233)) : ∃ v, f_X5_temperature (mk E i j d) (zA E 0) = some (v, (mk E i j d)) ∧ f_X6_temperature (mk E i j d) (zA E 229) = some (v, (mk E i j d)) := by
  unfold f_X5_temperature f_X6_temperature
  rw [ob_X h, R_X0 h, ob_S h.1 h.s1, J_S h.1 h.s1, a.f7, ob_M h, R_rea h, ar_rea0 h, D_233 h.1, fp_bits _ w.dg, cl_go]
  exact ⟨_, rfl, rfl⟩
theorem q_count (h : Ev E) (a : Rep i j d 1 (i 230) (d 233)) (w : WF B (i 230) (d 233)) (hk : i 65 2 = i 229 6) (hl : i 227 1 = i 229 8) (y : Int32) : ∃ v, f_X5_count (mk E i j d) (zA E 0) y = some (v, (mk E i j d)) ∧ f_X6_count (mk E i j d) (zA E 229) y = some (v, (mk E i j d)) := by
  unfold f_X5_count f_X6_count
  rcases pk_ix y (n := 13) (by decide) with q | q | ⟨k, hk, rfl⟩
  · have q : y < 0 ∨ nI 13 ≤ y := Or.inl q
    refine ⟨-2, ?_, ?_⟩
    · rw [if_neg (show ¬ y = (0 : Int32) from lit_lt (m := 0) q (by decide) (by decide)), if_neg (show ¬ y = (1 : Int32) from lit_lt (m := 1) q (by decide) (by decide)), if_neg (show ¬ y = (2 : Int32) from lit_lt (m := 2) q (by decide) (by decide)), if_neg (show ¬ y = (3 : Int32) from lit_lt (m := 3) q (by decide) (by decide)), if_neg (show ¬ y = (4 : Int32) from lit_lt (m := 4) q (by decide) (by decide)), if_neg (show ¬ y = (5 : Int32) from lit_lt (m := 5) q (by decide) (by decide)), if_neg (show ¬ y = (6 : Int32) from lit_lt (m := 6) q (by decide) (by decide)), if_neg (show ¬ y = (7 : Int32) from lit_lt (m := 7) q (by decide) (by decide)), if_neg (show ¬ y = (8 : Int32) from lit_lt (m := 8) q (by decide) (by decide)), if_neg (show ¬ y = (9 : Int32) from lit_lt (m := 9) q (by decide) (by decide)), if_neg (show ¬ y = (10 : Int32) from lit_lt (m := 10) q (by decide) (by decide)), if_neg (show ¬ y = (11 : Int32) from lit_lt (m := 11) q (by decide) (by decide)), if_neg (show ¬ y = (12 : Int32) from lit_lt (m := 12) q (by decide) (by decide))]
    · rw [if_neg (show ¬ y = (0 : Int32) from lit_lt (m := 0) q (by decide) (by decide)), if_neg (show ¬ y = (1 : Int32) from lit_lt (m := 1) q (by decide) (by decide)), if_neg (show ¬ y = (2 : Int32) from lit_lt (m := 2) q (by decide) (by decide)), if_neg (show ¬ y = (3 : Int32) from lit_lt (m := 3) q (by decide) (by decide)), if_neg (show ¬ y = (4 : Int32) from lit_lt (m := 4) q (by decide) (by decide)), if_neg (show ¬ y = (5 : Int32) from lit_lt (m := 5) q (by decide) (by decide)), if_neg (show ¬ y = (6 : Int32) from lit_lt (m := 6) q (by decide) (by decide)), if_neg (show ¬ y = (7 : Int32) from lit_lt (m := 7) q (by decide) (by decide)), if_neg (show ¬ y = (8 : Int32) from lit_lt (m := 8) q (by decide) (by decide)), if_neg (show ¬ y = (9 : Int32) from lit_lt (m := 9) q (by decide) (by decide)), if_neg (show ¬ y = (10 : Int32) from lit_lt (m := 10) q (by decide) (by decide)), if_neg (show ¬ y = (11 : Int32) from lit_lt (m := 11) q (by decide) (by decide)), if_neg (show ¬ y = (12 : Int32) from lit_lt (m := 12) q (by decide) (by decide))]
  · have q : y < 0 ∨ nI 13 ≤ y := Or.inr q
    refine ⟨-2, ?_, ?_⟩
    · rw [if_neg (show ¬ y = (0 : Int32) from lit_lt (m := 0) q (by decide) (by decide)), if_neg (show ¬ y = (1 : Int32) from lit_lt (m := 1) q (by decide) (by decide)), if_neg (show ¬ y = (2 : Int32) from lit_lt (m := 2) q (by decide) (by decide)), if_neg (show ¬ y = (3 : Int32) from lit_lt (m := 3) q (by decide) (by decide)), if_neg (show ¬ y = (4 : Int32) from lit_lt (m := 4) q (by decide) (by decide)), if_neg (show ¬ y = (5 : Int32) from lit_lt (m := 5) q (by decide) (by decide)), if_neg (show ¬ y = (6 : Int32) from lit_lt (m := 6) q (by decide) (by decide)), if_neg (show ¬ y = (7 : Int32) from lit_lt (m := 7) q (by decide) (by decide)), if_neg (show ¬ y = (8 : Int32) from lit_lt (m := 8) q (by decide) (by decide)), if_neg (show ¬ y = (9 : Int32) from lit_lt (m := 9) q (by decide) (by decide)), if_neg (show ¬ y = (10 : Int32) from lit_lt (m := 10) q (by decide) (by decide)), if_neg (show ¬ y = (11 : Int32) from lit_lt (m := 11) q (by decide) (by decide)), if_neg (show ¬ y = (12 : Int32) from lit_lt (m := 12) q (by decide) (by decide))]
    · rw [if_neg (show ¬ y = (0 : Int32) from lit_lt (m := 0) q (by decide) (by decide)), if_neg (show ¬ y = (1 : Int32) from lit_lt (m := 1) q (by decide) (by decide)), if_neg (show ¬ y = (2 : Int32) from lit_lt (m := 2) q (by decide) (by decide)), if_neg (show ¬ y = (3 : Int32) from lit_lt (m := 3) q (by decide) (by decide)), if_neg (show ¬ y = (4 : Int32) from lit_lt (m := 4) q (by decide) (by decide)), if_neg (show ¬ y = (5 : Int32) from lit_lt (m := 5) q (by decide) (by decide)), if_neg (show ¬ y = (6 : Int32) from lit_lt (m := 6) q (by decide) (by decide)), if_neg (show ¬ y = (7 : Int32) from lit_lt (m := 7) q (by decide) (by decide)), if_neg (show ¬ y = (8 : Int32) from lit_lt (m := 8) q (by decide) (by decide)), if_neg (show ¬ y = (9 : Int32) from lit_lt (m := 9) q (by decide) (by decide)), if_neg (show ¬ y = (10 : Int32) from lit_lt (m := 10) q (by decide) (by decide)), if_neg (show ¬ y = (11 : Int32) from lit_lt (m := 11) q (by decide) (by decide)), if_neg (show ¬ y = (12 : Int32) from lit_lt (m := 12) q (by decide) (by decide))]
  · have hk6 : k = 0 ∨ k = 1 ∨ k = 2 ∨ k = 3 ∨ k = 4 ∨ k = 5 ∨ k = 6 ∨ k = 7 ∨ k = 8 ∨ k = 9 ∨ k = 10 ∨ k = 11 ∨ k = 12 := by omega
    rcases hk6 with rfl | rfl | rfl | rfl | rfl | rfl | rfl | rfl | rfl | rfl | rfl | rfl | rfl
    · refine ⟨i 230 0, ?_, ?_⟩
      · rw [if_pos (by decide), ob_X h, R_X0 h, ob_S h.1 h.s1, I_S h.1 h.s1, a.f6]
      · rw [if_pos (by decide), ob_M h, R_now h, ar_nown h (n := 0) (by decide), I_230 h.1]
    · refine ⟨i 230 1, ?_, ?_⟩
      · rw [if_neg (by decide), if_pos (by decide), ob_X h, R_X0 h, ob_S h.1 h.s1, I_S h.1 h.s1, a.f3]
      · rw [if_neg (by decide), if_pos (by decide), ob_M h, R_now h, ar_nown h (n := 1) (by decide), I_230 h.1]
    · refine ⟨i 230 2, ?_, ?_⟩
      · rw [if_neg (by decide), if_neg (by decide), if_pos (by decide), ob_X h, R_X0 h, ob_S h.1 h.s1, I_S h.1 h.s1, a.f4]
      · rw [if_neg (by decide), if_neg (by decide), if_pos (by decide), ob_M h, R_now h, ar_nown h (n := 2) (by decide), I_230 h.1]
    · refine ⟨i 230 3, ?_, ?_⟩
      · rw [if_neg (by decide), if_neg (by decide), if_neg (by decide), if_pos (by decide), ob_X h, R_X0 h, ob_S h.1 h.s1, I_S h.1 h.s1, a.f5]
      · rw [if_neg (by decide), if_neg (by decide), if_neg (by decide), if_pos (by decide), ob_M h, R_now h, ar_nown h (n := 3) (by decide), I_230 h.1]
    · refine ⟨sStates (i 230) 0, ?_, ?_⟩
      · rw [if_neg (by decide), if_neg (by decide), if_neg (by decide), if_neg (by decide), if_pos (by decide), ob_X h, R_X0 h, ob_S h.1 h.s1, y_toursThatAre h.1 h.s1 a w, cl_go]
      · rw [if_neg (by decide), if_neg (by decide), if_neg (by decide), if_neg (by decide), if_pos (by decide), ob_M h, x_inState h w, cl_go]; rfl
    · refine ⟨sStates (i 230) 1, ?_, ?_⟩
      · rw [if_neg (by decide), if_neg (by decide), if_neg (by decide), if_neg (by decide), if_neg (by decide), if_pos (by decide), ob_X h, R_X0 h, ob_S h.1 h.s1, y_toursThatAre h.1 h.s1 a w, cl_go]
      · rw [if_neg (by decide), if_neg (by decide), if_neg (by decide), if_neg (by decide), if_neg (by decide), if_pos (by decide), ob_M h, x_inState h w, cl_go]; rfl
    · refine ⟨sStates (i 230) 2, ?_, ?_⟩
      · rw [if_neg (by decide), if_neg (by decide), if_neg (by decide), if_neg (by decide), if_neg (by decide), if_neg (by decide), if_pos (by decide), ob_X h, R_X0 h, ob_S h.1 h.s1, y_toursThatAre h.1 h.s1 a w, cl_go]
      · rw [if_neg (by decide), if_neg (by decide), if_neg (by decide), if_neg (by decide), if_neg (by decide), if_neg (by decide), if_pos (by decide), ob_M h, x_inState h w, cl_go]; rfl
    · refine ⟨sStates (i 230) 3, ?_, ?_⟩
      · rw [if_neg (by decide), if_neg (by decide), if_neg (by decide), if_neg (by decide), if_neg (by decide), if_neg (by decide), if_neg (by decide), if_pos (by decide), ob_X h, R_X0 h, ob_S h.1 h.s1, y_toursThatAre h.1 h.s1 a w, cl_go]
      · rw [if_neg (by decide), if_neg (by decide), if_neg (by decide), if_neg (by decide), if_neg (by decide), if_neg (by decide), if_neg (by decide), if_pos (by decide), ob_M h, x_inState h w, cl_go]; rfl
    · refine ⟨sPaidAll (i 230), ?_, ?_⟩
      · rw [if_neg (by decide), if_neg (by decide), if_neg (by decide), if_neg (by decide), if_neg (by decide), if_neg (by decide), if_neg (by decide), if_neg (by decide), if_pos (by decide), ob_X h, R_X0 h, ob_S h.1 h.s1, y_allPaid h.1 h.s1 a w, cl_go]
      · rw [if_neg (by decide), if_neg (by decide), if_neg (by decide), if_neg (by decide), if_neg (by decide), if_neg (by decide), if_neg (by decide), if_neg (by decide), if_pos (by decide), ob_M h, x_paidAll h w, cl_go]
    · refine ⟨i 230 4, ?_, ?_⟩
      · rw [if_neg (by decide), if_neg (by decide), if_neg (by decide), if_neg (by decide), if_neg (by decide), if_neg (by decide), if_neg (by decide), if_neg (by decide), if_neg (by decide), if_pos (by decide), ob_X h, R_X0 h, ob_S h.1 h.s1, I_S h.1 h.s1, a.f9]
      · rw [if_neg (by decide), if_neg (by decide), if_neg (by decide), if_neg (by decide), if_neg (by decide), if_neg (by decide), if_neg (by decide), if_neg (by decide), if_neg (by decide), if_pos (by decide), ob_M h, R_now h, ar_now4 h, I_230 h.1]
    · refine ⟨sGone (i 230), ?_, ?_⟩
      · rw [if_neg (by decide), if_neg (by decide), if_neg (by decide), if_neg (by decide), if_neg (by decide), if_neg (by decide), if_neg (by decide), if_neg (by decide), if_neg (by decide), if_neg (by decide), if_pos (by decide), ob_X h, R_X0 h, ob_S h.1 h.s1, y_guestsGone h.1 h.s1 a w, cl_go]
      · rw [if_neg (by decide), if_neg (by decide), if_neg (by decide), if_neg (by decide), if_neg (by decide), if_neg (by decide), if_neg (by decide), if_neg (by decide), if_neg (by decide), if_neg (by decide), if_pos (by decide), ob_M h, x_goneGuests h w, cl_go]
    · refine ⟨i 229 6, ?_, ?_⟩
      · rw [if_neg (by decide), if_neg (by decide), if_neg (by decide), if_neg (by decide), if_neg (by decide), if_neg (by decide), if_neg (by decide), if_neg (by decide), if_neg (by decide), if_neg (by decide), if_neg (by decide), if_pos (by decide), ob_X h, R_X2 h, ob_H h, I_65 h.1, ‹i 65 2 = i 229 6›]
      · rw [if_neg (by decide), if_neg (by decide), if_neg (by decide), if_neg (by decide), if_neg (by decide), if_neg (by decide), if_neg (by decide), if_neg (by decide), if_neg (by decide), if_neg (by decide), if_neg (by decide), if_pos (by decide), ob_M h, I_229 h.1]
    · refine ⟨i 229 8, ?_, ?_⟩
      · rw [if_neg (by decide), if_neg (by decide), if_neg (by decide), if_neg (by decide), if_neg (by decide), if_neg (by decide), if_neg (by decide), if_neg (by decide), if_neg (by decide), if_neg (by decide), if_neg (by decide), if_neg (by decide), if_pos (by decide), ob_X h, R_X3 h, ob_Y h, I_227 h.1, hl]
      · rw [if_neg (by decide), if_neg (by decide), if_neg (by decide), if_neg (by decide), if_neg (by decide), if_neg (by decide), if_neg (by decide), if_neg (by decide), if_neg (by decide), if_neg (by decide), if_neg (by decide), if_neg (by decide), if_pos (by decide), ob_M h, I_229 h.1]
end QS2
