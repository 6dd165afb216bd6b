/-! the reference's questions: causes, the best guide -/
section REF4
variable {E : Hp} {i : Nat → Nat → Int32} {j : Nat → Nat → Int64} {d : Nat → Nat → UInt64} {B : Nat}
theorem x_cause70_0 (h : Ev E) (w : WF B (i 230) (d 233)) {t : Nat} (ht : t < cN (i 230) 3) : ∀ m k fuel, k + m = cN (i 230) (40 + 14 * t + 4) → m < fuel → f_X6_causeOf_L70 fuel (mk E i j d) (zA E 229) (nI t) 0 (nI k) = some (3, mk E i j d) := by
  have h10 := w.t10 ht
  obtain ⟨hM, hM4⟩ := w.many ht
  intro m
  induction m with
  | zero =>
    intro k fuel hk hf
    obtain ⟨f, rfl⟩ : ∃ f, fuel = f + 1 := ⟨fuel - 1, by omega⟩
    show f_X6_causeOf_L70_b (f_X6_causeOf_L70 f) _ _ _ _ _ = _
    unfold f_X6_causeOf_L70_b
    rw [ob_M h, x_of4 h h10, cl_go, hM, if_pos (nI_le (by omega) (by omega)), if_pos rfl]
  | succ m ih =>
    intro k fuel hk hf
    obtain ⟨f, rfl⟩ : ∃ f, fuel = f + 1 := ⟨fuel - 1, by omega⟩
    show f_X6_causeOf_L70_b (f_X6_causeOf_L70 f) _ _ _ _ _ = _
    unfold f_X6_causeOf_L70_b
    rw [ob_M h, x_of4 h h10, cl_go, hM, if_neg (nI_ge (by omega) (by omega)), if_pos rfl, bnd_go, nI_1]
    exact ih (k + 1) f (by omega) (by omega)
theorem x_cause70_1 (h : Ev E) (w : WF B (i 230) (d 233)) {t : Nat} (ht : t < cN (i 230) 3) : ∀ m k fuel, k + m = cN (i 230) (40 + 14 * t + 4) → m < fuel → f_X6_causeOf_L70 fuel (mk E i j d) (zA E 229) (nI t) 1 (nI k) = some (if anyF (fun k => decide (i 230 (8 + 4 * gN (i 230) t k + 1) < i 230 (40 + 14 * t + 0))) m k = false then 0 else 3, mk E i j d) := by
  have h10 := w.t10 ht
  obtain ⟨hM, hM4⟩ := w.many ht
  intro m
  induction m with
  | zero =>
    intro k fuel hk hf
    obtain ⟨f, rfl⟩ : ∃ f, fuel = f + 1 := ⟨fuel - 1, by omega⟩
    show f_X6_causeOf_L70_b (f_X6_causeOf_L70 f) _ _ _ _ _ = _
    unfold f_X6_causeOf_L70_b
    rw [ob_M h, x_of4 h h10, cl_go, hM, if_pos (nI_le (by omega) (by omega)), if_neg (by decide)]; rfl
  | succ m ih =>
    intro k fuel hk hf
    obtain ⟨f, rfl⟩ : ∃ f, fuel = f + 1 := ⟨fuel - 1, by omega⟩
    show f_X6_causeOf_L70_b (f_X6_causeOf_L70 f) _ _ _ _ _ = _
    unfold f_X6_causeOf_L70_b
    obtain ⟨hr, hr1, hr8⟩ := w.rowk ht (k := k) (by omega)
    rw [ob_M h, x_of4 h h10, cl_go, hM, if_neg (nI_ge (by omega) (by omega)), if_neg (by decide), ob_M h, x_guideOn h h10 (by omega), cl_go, hr, ob_M h, x_ofG1 h hr8, cl_go, ob_M h, x_of0 h h10, cl_go]
    by_cases q : i 230 (8 + 4 * gN (i 230) t k + 1) < i 230 (40 + 14 * t + 0)
    · rw [if_pos q, bnd_go, nI_1, x_cause70_0 h w ht m (k + 1) f (by omega) (by omega), anyF_1 (decide_eq_true q)]; rfl
    · rw [if_neg q, bnd_go, nI_1, ih (k + 1) f (by omega) (by omega), anyF_0 (decide_eq_false q)]
theorem x_cause13 (h : Ev E) (w : WF B (i 230) (d 233)) {t : Nat} (ht : t < cN (i 230) 3) : ∀ m k fuel, k + m = cN (i 230) 2 → m < fuel → f_X6_causeOf_L13 fuel (mk E i j d) (zA E 229) (nI t) (nI k) = some (if anyF (fun b => !decide ((i 230 (40 + 14 * t + 2) >>> (nI b &&& 31)) &&& 1 = 0) && !decide (0 ≤ Op.cmpValue (FP.dcmp (d 233 (1 + b)) (sNeed (i 230) (d 233) t)) CmpOp.l)) m k = true then 2 else if sLeft (i 230) (d 233) t (cN (i 230) (40 + 14 * t + 4)) = 0 ∧ sBad (i 230) t = false then 0 else 3, mk E i j d) := by
  have h10 := w.t10 ht
  obtain ⟨hM, hM4⟩ := w.n2
  have hm4 := (w.many ht).2
  have hg := (w.guests ht).2
  have hl := sLeft_g (N := (i 230)) (r := (d 233)) (t := t) (cN (i 230) (40 + 14 * t + 4))
  intro m
  induction m with
  | zero =>
    intro k fuel hk hf
    obtain ⟨f, rfl⟩ : ∃ f, fuel = f + 1 := ⟨fuel - 1, by omega⟩
    show f_X6_causeOf_L13_b (f_X6_causeOf_L13 f) _ _ _ _ = some (if sLeft (i 230) (d 233) t (cN (i 230) (40 + 14 * t + 4)) = 0 ∧ sBad (i 230) t = false then 0 else 3, mk E i j d)
    unfold f_X6_causeOf_L13_b
    rw [ob_M h, R_now h, ar_now2 h, I_230 h.1, hM, if_pos (nI_le (by omega) (by omega)), ob_M h, x_leftOver h w ht, cl_go]
    by_cases q : sLeft (i 230) (d 233) t (cN (i 230) (40 + 14 * t + 4)) = 0
    · rw [if_pos (by rw [q]; rfl), show f_X6_causeOf_L70 1000 (mk E i j d) (zA E 229) (nI t) 1 0 = _ from x_cause70_1 h w ht (cN (i 230) (40 + 14 * t + 4)) 0 1000 (by omega) (by omega)]
      unfold sBad
      by_cases q2 : anyF (fun k => decide (i 230 (8 + 4 * gN (i 230) t k + 1) < i 230 (40 + 14 * t + 0))) (cN (i 230) (40 + 14 * t + 4)) 0 = false
      · rw [if_pos q2, if_pos ⟨q, q2⟩]
      · rw [if_neg q2, if_neg (fun e => q2 e.2)]
    · rw [if_neg (nI_ne0 (by omega) (by omega)), show f_X6_causeOf_L70 1000 (mk E i j d) (zA E 229) (nI t) 0 0 = _ from x_cause70_0 h w ht (cN (i 230) (40 + 14 * t + 4)) 0 1000 (by omega) (by omega), if_neg (fun e => q e.1)]
  | succ m ih =>
    intro k fuel hk hf
    obtain ⟨f, rfl⟩ : ∃ f, fuel = f + 1 := ⟨fuel - 1, by omega⟩
    show f_X6_causeOf_L13_b (f_X6_causeOf_L13 f) _ _ _ _ = _
    unfold f_X6_causeOf_L13_b
    have IH := ih (k + 1) f (by omega) (by omega)
    rw [ob_M h, R_now h, ar_now2 h, I_230 h.1, hM, if_neg (nI_ge (by omega) (by omega)), ob_M h, x_of2 h h10, cl_go]
    by_cases q : (i 230 (40 + 14 * t + 2) >>> (nI k &&& 31)) &&& 1 = 0
    · rw [if_neg (fun e => (and1 _).mp e q), bnd_go, nI_1, IH, anyF_0 (by show (!decide _ && _) = false; rw [decide_eq_true q]; rfl)]
    · rw [if_pos ((and1 _).mpr q), ob_M h, x_isHeld h w ht (by omega), cl_go]
      by_cases q2 : 0 ≤ Op.cmpValue (FP.dcmp (d 233 (1 + k)) (sNeed (i 230) (d 233) t)) CmpOp.l
      · rw [bI_1 q2, if_neg (by decide), bnd_go, nI_1, IH, anyF_0 (by show (!decide _ && !decide _) = false; rw [decide_eq_true q2]; simp)]
      · rw [bI_0 q2, if_pos rfl, anyF_1 (by show (!decide _ && !decide _) = true; rw [decide_eq_false q, decide_eq_false q2]; rfl), if_pos rfl]
theorem x_causeOf (h : Ev E) (w : WF B (i 230) (d 233)) {t : Nat} (ht : t < cN (i 230) 3) : f_X6_causeOf (mk E i j d) (zA E 229) (nI t) = some (sCause (i 230) (d 233) t, mk E i j d) := by
  unfold f_X6_causeOf sCause
  have hM4 := w.n2.2
  rw [ob_M h, x_of3 h (w.t10 ht), cl_go]
  by_cases q : i 230 (40 + 14 * t + 3) = 0
  · rw [if_pos q, if_pos q]
  · rw [if_neg q, if_neg q, show f_X6_causeOf_L13 1000 (mk E i j d) (zA E 229) (nI t) 0 = _ from x_cause13 h w ht (cN (i 230) 2) 0 1000 (by omega) (by omega)]; rfl
theorem x_best_L4 (h : Ev E) (w : WF B (i 230) (d 233)) {t : Nat} (ht : t < cN (i 230) 3) (h4 : 4 ≤ cN (i 230) (40 + 14 * t + 4)) : ∀ m k fuel, k + m = cN (i 230) 1 → m < fuel → f_X6_bestGuide_L15 fuel (mk E i j d) (zA E 229) (nI t) (-5) (nI k) = some (-5, mk E i j d) := by
  have h10 := w.t10 ht
  obtain ⟨hM, hM4⟩ := w.n1
  obtain ⟨hA, hA4⟩ := w.many ht
  intro m
  induction m with
  | zero =>
    intro k fuel hk hf
    obtain ⟨f, rfl⟩ : ∃ f, fuel = f + 1 := ⟨fuel - 1, by omega⟩
    show f_X6_bestGuide_L15_b (f_X6_bestGuide_L15 f) _ _ _ _ _ = _
    unfold f_X6_bestGuide_L15_b
    rw [ob_M h, R_now h, ar_now1 h, I_230 h.1, hM, if_pos (nI_le (by omega) (by omega))]
  | succ m ih =>
    intro k fuel hk hf
    obtain ⟨f, rfl⟩ : ∃ f, fuel = f + 1 := ⟨fuel - 1, by omega⟩
    show f_X6_bestGuide_L15_b (f_X6_bestGuide_L15 f) _ _ _ _ _ = _
    unfold f_X6_bestGuide_L15_b
    have IH := ih (k + 1) f (by omega) (by omega)
    rw [ob_M h, R_now h, ar_now1 h, I_230 h.1, hM, if_neg (nI_ge (by omega) (by omega)), ob_M h, x_mayLead h w h10 (by omega), cl_go]
    by_cases q : sMay (i 230) t k = true
    · rw [bI_1 q, if_neg (by decide), ob_M h, x_of4 h h10, cl_go, hA, if_pos (show (4 : Int32) ≤ nI (cN (i 230) (40 + 14 * t + 4)) from (nI_leI (a := 4) (by omega) (by omega)).mpr h4), if_pos rfl, bnd_go, nI_1, IH]
    · rw [bI_0 q, if_pos rfl, if_pos rfl, bnd_go, nI_1, IH]
theorem x_best_L (h : Ev E) (w : WF B (i 230) (d 233)) {t : Nat} (ht : t < cN (i 230) 3) (h4 : cN (i 230) (40 + 14 * t + 4) < 4) : ∀ m k fuel (b : Option Nat), (∀ c, b = some c → c < k) → k + m = cN (i 230) 1 → m < fuel → f_X6_bestGuide_L15 fuel (mk E i j d) (zA E 229) (nI t) (oI b) (nI k) = some (oI (sBest (i 230) (d 233) t m k b), mk E i j d) := by
  have h10 := w.t10 ht
  obtain ⟨hM, hM4⟩ := w.n1
  obtain ⟨hA, hA4⟩ := w.many ht
  intro m
  induction m with
  | zero =>
    intro k fuel b hb hk hf
    obtain ⟨f, rfl⟩ : ∃ f, fuel = f + 1 := ⟨fuel - 1, by omega⟩
    show f_X6_bestGuide_L15_b (f_X6_bestGuide_L15 f) _ _ _ _ _ = _
    unfold f_X6_bestGuide_L15_b
    rw [ob_M h, R_now h, ar_now1 h, I_230 h.1, hM, if_pos (nI_le (by omega) (by omega))]
    cases b <;> rfl
  | succ m ih =>
    intro k fuel b hb hk hf
    obtain ⟨f, rfl⟩ : ∃ f, fuel = f + 1 := ⟨fuel - 1, by omega⟩
    show f_X6_bestGuide_L15_b (f_X6_bestGuide_L15 f) _ _ _ _ _ = _
    unfold f_X6_bestGuide_L15_b
    have hk1 : k < cN (i 230) 1 := by omega
    have IHb := ih (k + 1) f b (fun c e => by have := hb c e; omega) (by omega) (by omega)
    have IHk := ih (k + 1) f (some k) (fun c e => by cases e; omega) (by omega) (by omega)
    rw [ob_M h, R_now h, ar_now1 h, I_230 h.1, hM, if_neg (nI_ge (by omega) (by omega)), ob_M h, x_mayLead h w h10 (by omega), cl_go]
    by_cases q : sMay (i 230) t k = true
    · rw [bI_1 q, if_neg (by decide), ob_M h, x_of4 h h10, cl_go, hA, if_neg (show ¬ (4 : Int32) ≤ nI (cN (i 230) (40 + 14 * t + 4)) from fun e => by have := (nI_leI (a := 4) (by omega) (by omega)).mp e; omega), if_neg (by decide)]
      cases b with
      | none =>
        rw [if_pos (show oI none = -5 from rfl), bnd_go, nI_1]
        refine Eq.trans IHk ?_
        show _ = some (oI (sBest (i 230) (d 233) t m (k + 1) (if sMay (i 230) t k = true then some k else none)), mk E i j d)
        rw [if_pos q]
      | some c =>
        have hc := hb c rfl
        have hrk := rat_le (r := (d 233)) (t := t) (w.kl hk1).1
        have hrc := rat_le (r := (d 233)) (t := t) (w.kl (g := c) (by omega)).1
        have hne : ¬ oI (some c) = -5 := fun e => by
          have e1 : (nI c).toInt = (-5 : Int32).toInt := congrArg Int32.toInt e
          rw [nI_toInt (by omega)] at e1
          have : (-5 : Int32).toInt = -5 := rfl
          omega
        rw [if_neg hne, ob_M h, x_ratio h w h10 hk1, cl_go, ob_M h, show oI (some c) = nI c from rfl, x_ratio h w h10 (by omega), cl_go]
        show _ = some (oI (sBest (i 230) (d 233) t m (k + 1) (if sMay (i 230) t k = true ∧ sRat (i 230) (d 233) t c < sRat (i 230) (d 233) t k then some k else some c)), mk E i j d)
        by_cases q2 : sRat (i 230) (d 233) t k ≤ sRat (i 230) (d 233) t c
        · rw [if_pos ((nI_leI (by omega) (by omega)).mpr q2), bnd_go, nI_1, if_neg (by omega)]
          exact IHb
        · rw [if_neg (fun e => q2 ((nI_leI (by omega) (by omega)).mp e)), bnd_go, nI_1, if_pos ⟨q, by omega⟩]
          exact IHk
    · rw [bI_0 q, if_pos rfl, if_pos rfl, bnd_go, nI_1]
      refine Eq.trans IHb ?_
      cases b with
      | none => exact congrArg (fun z => some (oI (sBest (i 230) (d 233) t m (k + 1) z), mk E i j d)) (if_neg q).symm
      | some c => exact congrArg (fun z => some (oI (sBest (i 230) (d 233) t m (k + 1) z), mk E i j d)) (if_neg (fun e => q e.1)).symm
theorem x_bestGuide (h : Ev E) (w : WF B (i 230) (d 233)) {t : Nat} (ht : t < cN (i 230) 3) : f_X6_bestGuide (mk E i j d) (zA E 229) (nI t) = some (if cN (i 230) (40 + 14 * t + 4) < 4 then oI (sBest (i 230) (d 233) t (cN (i 230) 1) 0 none) else -5, mk E i j d) := by
  have h10 := w.t10 ht
  have hM4 := w.n1.2
  unfold f_X6_bestGuide
  rw [ob_M h, x_noTour1 h w.n3.1 (by have := w.n3.2; omega) ht, cl_go, if_pos rfl]
  by_cases q : cN (i 230) (40 + 14 * t + 4) < 4
  · rw [if_pos q]
    exact x_best_L h w ht q (cN (i 230) 1) 0 1000 none (fun c e => by cases e) (by omega) (by omega)
  · rw [if_neg q]
    exact x_best_L4 h w ht (by omega) (cN (i 230) 1) 0 1000 (by omega) (by omega)
theorem x_bestGuide0 (h : Ev E) {n : Nat} {x : Int32} (hn : i 230 3 = nI n) (hb : n < 2 ^ 30) (ht : ¬ ∃ t, t < n ∧ x = nI t) : f_X6_bestGuide (mk E i j d) (zA E 229) x = some (-1, mk E i j d) := by
  unfold f_X6_bestGuide
  rw [ob_M h, x_noTour0 h hn hb ht, cl_go, if_neg (by decide)]
end REF4
