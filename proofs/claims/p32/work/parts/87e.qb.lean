/-! the class's other questions and their answers -/
section QB
variable {E : Hp} {i : Nat → Nat → Int32} {j : Nat → Nat → Int64} {d : Nat → Nat → UInt64} {B : Nat} {N : Nat → Int32} {r : Nat → UInt64}
def sRope (N : Nat → Int32) (r : Nat → UInt64) (t k : Nat) : Nat → Int32
  | 0 => N (48 + 14 * t + k)
  | 1 => nI (sRat N r t (gN N t k))
  | _ => nI (sOn N r t k)
theorem a_rope (h : Ev E) (a : Rep i j d 1 N r) (w : WF B N r) {t k z : Nat} (ht : t < cN N 3) (hk : k < cN N (40 + 14 * t + 4)) (hz : z < 3) : f_X5_rope (mk E i j d) (zA E 0) (nI t) (nI k) (nI z) = some (sRope N r t k z, mk E i j d) := by
  have hn := w.n3
  have h10 := w.t10 ht
  obtain ⟨hM, hM4⟩ := w.many ht
  obtain ⟨hr, hr1, hr8⟩ := w.rowk ht hk
  unfold f_X5_rope
  rw [ob_X h, R_X0 h, ob_S h.1 h.s1, y_tourAt1 h.1 h.s1 a w ht, cl_go, if_neg sm, if_neg (nI_pos (by omega)), if_neg (nI_pos (by omega)), if_pos (show nI z ≤ 2 from (nI_leI (b := 2) (by omega) (by decide)).mpr (by omega)), ob_T h.1 h.s1 h10, I_T h.1 h.s1 h10, a.t7 ht, hM, if_pos ((nI_ltI (by omega) (by omega)).mpr hk)]
  have hz3 : z = 0 ∨ z = 1 ∨ z = 2 := by omega
  rcases hz3 with rfl | rfl | rfl
  · rw [if_pos (by decide), R_T0 h.s1 h10, ar_T0 h.1 h.s1 h10 (by omega), I_R h.1 h.s1 h10, a.tr ht hk]; rfl
  · rw [if_neg (by decide), if_pos (by decide), ob_X h, R_T0 h.s1 h10, ar_T0 h.1 h.s1 h10 (by omega), R_X0 h, ob_S h.1 h.s1, I_R h.1 h.s1 h10, a.tr ht hk, hr, y_ratioOf h.1 h.s1 a w ht hr1, cl_go]; rfl
  · rw [if_neg (by decide), if_neg (by decide), ob_X h, R_X0 h, ob_S h.1 h.s1, y_guestsOnRope h.1 h.s1 a w ht hk, cl_go]; rfl
theorem a_ropeN (h : Ev E) (a : Rep i j d 1 N r) (w : WF B N r) {t : Nat} (ht : t < cN N 3) : f_X5_rope (mk E i j d) (zA E 0) (nI t) (N (40 + 14 * t + 4)) 0 = some (-5, mk E i j d) := by
  have h10 := w.t10 ht
  obtain ⟨hM, hM4⟩ := w.many ht
  unfold f_X5_rope
  rw [ob_X h, R_X0 h, ob_S h.1 h.s1, y_tourAt1 h.1 h.s1 a w ht, cl_go, if_neg sm, hM, if_neg (nI_pos (by omega)), if_neg (by decide), if_pos (by decide), ob_T h.1 h.s1 h10, I_T h.1 h.s1 h10, a.t7 ht, hM, if_neg (fun e => absurd ((nI_ltI (by omega) (by omega)).mp e) (Nat.lt_irrefl _))]
def sThick (N : Nat → Int32) (r : Nat → UInt64) (b : Nat) : UInt64 := if b < cN N 2 then r (1 + b) else 9221120237041090560
theorem a_thick (h : Ev E) (a : Rep i j d 1 N r) (w : WF B N r) {b : Nat} (hb : b < 100) : f_X5_thickness (mk E i j d) (zA E 0) (nI b) = some (sThick N r b, mk E i j d) := by
  have hn := w.n2
  unfold f_X5_thickness sThick
  rw [ob_X h, R_X0 h, ob_S h.1 h.s1]
  by_cases hx : b < cN N 2
  · rw [y_hasBridge1 h.1 h.s1 a w hx, cl_go, if_neg (by decide), ob_X h, R_X0 h, ob_S h.1 h.s1, R_S1 h.s1, ar_S1 h.1 h.s1 (by omega), D_B h.1 h.s1, a.b (by omega), if_pos hx]
  · rw [y_hasBridge0 h.1 h.s1 a w (fun ⟨t, ht, e⟩ => hx (by rw [(nI_eq (by omega) (by omega)).mp e]; exact ht)), cl_go, if_pos rfl, if_neg hx]; rfl
def sFore (g : UInt64) : Nat → UInt64 → UInt64
  | 0, x => x
  | n + 1, x => sFore g n (sLater g x)
theorem a_fore_L (h : Ev E) (a : Rep i j d 1 N r) (w : WF B N r) (x : Int32) {n : Nat} (hn : n ≤ 30) : ∀ m k fuel e, dB e → k + m = n → m < fuel → f_X5_foretold_L38 fuel (mk E i j d) (zA E 0) x (nI n) e (nI k) = some (sFore (r 0) m e, (mk E i j d)) := by
  intro m
  induction m with
  | zero =>
    intro k fuel e he hk hf
    obtain ⟨f, rfl⟩ : ∃ f, fuel = f + 1 := ⟨fuel - 1, by omega⟩
    show f_X5_foretold_L38_b (f_X5_foretold_L38 f) _ _ _ _ _ _ = _
    unfold f_X5_foretold_L38_b
    rw [if_pos (nI_le (by omega) (by omega))]; rfl
  | succ m ih =>
    intro k fuel e he hk hf
    obtain ⟨f, rfl⟩ : ∃ f, fuel = f + 1 := ⟨fuel - 1, by omega⟩
    show f_X5_foretold_L38_b (f_X5_foretold_L38 f) _ _ _ _ _ _ = _
    unfold f_X5_foretold_L38_b
    rw [if_neg (nI_ge (by omega) (by omega)), ob_X h, R_X0 h, ob_S h.1 h.s1, y_dayLater h.1 h.s1 a w.dg he, cl_go, bnd_go, nI_1]
    exact ih (k + 1) f _ (fp_later w.dg he) (by omega) (by omega)
theorem a_fore1 (h : Ev E) (a : Rep i j d 1 N r) (w : WF B N r) {n b : Nat} (hn : n ≤ 30) (hb : b < cN N 2) : f_X5_foretold (mk E i j d) (zA E 0) (nI b) (nI n) = some (sFore (r 0) n (r (1 + b)), mk E i j d) := by
  have h2 := w.n2
  unfold f_X5_foretold
  rw [ob_X h, R_X0 h, ob_S h.1 h.s1, y_hasBridge1 h.1 h.s1 a w hb, cl_go, if_neg (by decide), if_neg (nI_pos (by omega)), if_pos (show nI n ≤ 30 from (nI_leI (b := 30) (by omega) (by decide)).mpr hn), ob_X h, R_X0 h, ob_S h.1 h.s1, R_S1 h.s1, ar_S1 h.1 h.s1 (by omega), D_B h.1 h.s1, a.b (by omega), bnd_go]
  exact a_fore_L h a w (nI b) hn n 0 1000 _ (w.db (by omega)) (by omega) (by omega)
theorem a_fore (h : Ev E) (a : Rep i j d 1 N r) (w : WF B N r) {n : Nat} (hn : n ≤ 30) : f_X5_foretold (mk E i j d) (zA E 0) 0 (nI n) = some (if 0 < cN N 2 then sFore (r 0) n (r 1) else 9221120237041090560, mk E i j d) := by
  have h2 := w.n2
  by_cases hx : 0 < cN N 2
  · rw [if_pos hx]
    exact a_fore1 h a w (b := 0) hn hx
  · unfold f_X5_foretold
    rw [ob_X h, R_X0 h, ob_S h.1 h.s1, y_hasBridge0 h.1 h.s1 a w (fun ⟨t, ht, e⟩ => hx (by omega)), cl_go, if_pos rfl, if_neg hx]; rfl
theorem a_needed (h : Ev E) (a : Rep i j d 1 N r) (w : WF B N r) {t : Nat} (ht : t < cN N 3) : f_X5_needed (mk E i j d) (zA E 0) (nI t) = some (sNeed N r t, mk E i j d) := by
  unfold f_X5_needed
  rw [ob_X h, R_X0 h, ob_S h.1 h.s1, y_tourAt1 h.1 h.s1 a w ht, cl_go, if_neg sm, ob_X h, R_X0 h, ob_S h.1 h.s1, y_neededBy h.1 h.s1 a w ht, cl_go]
theorem a_neededN (h : Ev E) (a : Rep i j d 1 N r) (w : WF B N r) {x : Int32} (hx : ¬ ∃ t, t < cN N 3 ∧ x = nI t) : f_X5_needed (mk E i j d) (zA E 0) x = some (9221120237041090560, mk E i j d) := by
  unfold f_X5_needed
  rw [ob_X h, R_X0 h, ob_S h.1 h.s1, y_tourAt0 h.1 h.s1 a w hx, cl_go, if_pos rfl]; rfl
def sHolds (N : Nat → Int32) (r : Nat → UInt64) (t b : Nat) : Int32 := bI (0 ≤ Op.cmpValue (FP.dcmp (r (1 + b)) (sNeed N r t)) CmpOp.l)
theorem a_holds (h : Ev E) (a : Rep i j d 1 N r) (w : WF B N r) {t b : Nat} (ht : t < cN N 3) (hb : b < cN N 2) : f_X5_holds (mk E i j d) (zA E 0) (nI t) (nI b) = some (sHolds N r t b, mk E i j d) := by
  have h2 := w.n2
  unfold f_X5_holds sHolds
  rw [ob_X h, R_X0 h, ob_S h.1 h.s1, y_tourAt1 h.1 h.s1 a w ht, cl_go, if_neg sm, ob_X h, R_X0 h, ob_S h.1 h.s1, y_hasBridge1 h.1 h.s1 a w hb, cl_go, if_neg (by decide), ob_X h, R_X0 h, ob_S h.1 h.s1, R_S1 h.s1, ar_S1 h.1 h.s1 (by omega), ob_S h.1 h.s1, y_neededBy h.1 h.s1 a w ht, cl_go, D_B h.1 h.s1, a.b (by omega)]
  by_cases q : 0 ≤ Op.cmpValue (FP.dcmp (r (1 + b)) (sNeed N r t)) CmpOp.l
  · rw [bI_1 q, if_neg (Int32.not_lt.mpr q)]
  · rw [bI_0 q, if_pos (Int32.not_le.mp q)]
def gB (N : Nat → Int32) (r : Nat → UInt64) (t : Nat) : Option Nat → Nat
  | none => 0
  | some c => sRat N r t c
theorem y_best_L (h : Ev E) (a : Rep i j d 1 N r) (w : WF B N r) {t : Nat} (ht : t < cN N 3) (x : Int32) : ∀ m k fuel (b : Option Nat), (∀ c, b = some c → c < k) → k + m = cN N 1 → m < fuel → f_X5_bestGuide_L35 fuel (mk E i j d) (zA E 0) x (some (zA E (1 + 12 + 2 * t))) (oI b) (nI (gB N r t b)) (nI k) = some (oI (sBest N r t m k b), (mk E i j d)) := by
  have h10 := w.t10 ht
  obtain ⟨hM, hM4⟩ := w.n1
  intro m
  induction m with
  | zero =>
    intro k fuel b hb hk hf
    obtain ⟨f, rfl⟩ : ∃ f, fuel = f + 1 := ⟨fuel - 1, by omega⟩
    show f_X5_bestGuide_L35_b (f_X5_bestGuide_L35 f) _ _ _ _ _ _ _ = _
    unfold f_X5_bestGuide_L35_b
    rw [ob_X h, R_X0 h, ob_S h.1 h.s1, I_S h.1 h.s1, a.f3, hM, if_pos (nI_le (by omega) (by omega))]
    cases b <;> rfl
  | succ m ih =>
    intro k fuel b hb hk hf
    obtain ⟨f, rfl⟩ : ∃ f, fuel = f + 1 := ⟨fuel - 1, by omega⟩
    show f_X5_bestGuide_L35_b (f_X5_bestGuide_L35 f) _ _ _ _ _ _ _ = _
    unfold f_X5_bestGuide_L35_b
    have hk1 : k < cN N 1 := by omega
    have IHb := ih (k + 1) f b (fun c e => by have := hb c e; omega) (by omega) (by omega)
    have IHk := ih (k + 1) f (some k) (fun c e => by cases e; omega) (by omega) (by omega)
    have hrk := rat_le (r := r) (t := t) (w.kl hk1).1
    rw [ob_X h, R_X0 h, ob_S h.1 h.s1, I_S h.1 h.s1, a.f3, hM, if_neg (nI_ge (by omega) (by omega)), ob_S h.1 h.s1, y_mayLead h.1 h.s1 a w ht hk1, cl_go]
    by_cases q : sMay N t k = true
    · rw [bI_1 q, if_neg (by decide), ob_X h, R_X0 h, ob_S h.1 h.s1, y_ratioOf h.1 h.s1 a w ht hk1, cl_go, ob_X h, R_X0 h, ob_S h.1 h.s1, y_ratioOf h.1 h.s1 a w ht hk1, cl_go]
      cases b with
      | none =>
        rw [if_neg (show ¬ nI (sRat N r t k) ≤ nI (gB N r t none) from nI_nle (by omega) (by omega)), bnd_go, nI_1]
        refine Eq.trans IHk ?_
        show _ = some (oI (sBest N r t m (k + 1) (if sMay N t k = true then some k else none)), (mk E i j d))
        rw [if_pos q]
      | some c =>
        have hc := hb c rfl
        have hrc := rat_le (r := r) (t := t) (w.kl (g := c) (by omega)).1
        show _ = some (oI (sBest N r t m (k + 1) (if sMay N t k = true ∧ sRat N r t c < sRat N r t k then some k else some c)), (mk E i j d))
        rw [show gB N r t (some c) = sRat N r t c from rfl]
        by_cases q2 : sRat N r t k ≤ sRat N r t c
        · rw [if_pos ((nI_leI (by omega) (by omega)).mpr q2), bnd_go, nI_1, if_neg (by omega)]
          exact IHb
        · rw [if_neg (fun e => q2 ((nI_leI (by omega) (by omega)).mp e)), bnd_go, nI_1, if_pos ⟨q, by omega⟩]
          exact IHk
    · rw [bI_0 q, if_pos rfl, bnd_go, nI_1]
      refine Eq.trans IHb ?_
      cases b with
      | none => exact congrArg (fun z => some (oI (sBest N r t m (k + 1) z), (mk E i j d))) (if_neg q).symm
      | some c => exact congrArg (fun z => some (oI (sBest N r t m (k + 1) z), (mk E i j d))) (if_neg (fun e => q e.1)).symm
def sBestG (N : Nat → Int32) (r : Nat → UInt64) (t : Nat) : Option Nat := if cN N (40 + 14 * t + 4) < 4 then sBest N r t (cN N 1) 0 none else none
theorem a_best (h : Ev E) (a : Rep i j d 1 N r) (w : WF B N r) {t : Nat} (ht : t < cN N 3) : f_X5_bestGuide (mk E i j d) (zA E 0) (nI t) = some (oI (sBestG N r t), mk E i j d) := by
  have h10 := w.t10 ht
  have h8 := w.n1.2
  obtain ⟨hM, hM4⟩ := w.many ht
  unfold f_X5_bestGuide sBestG
  rw [ob_X h, R_X0 h, ob_S h.1 h.s1, y_tourAt1 h.1 h.s1 a w ht, cl_go, if_neg sm, ob_T h.1 h.s1 h10, I_T h.1 h.s1 h10, a.t7 ht, hM]
  by_cases q : cN N (40 + 14 * t + 4) < 4
  · rw [if_pos (show nI (cN N (40 + 14 * t + 4)) < 4 from (nI_ltI (b := 4) (by omega) (by decide)).mpr q), if_pos q]
    exact y_best_L h a w ht (nI t) (cN N 1) 0 1000 none (fun c e => by cases e) (by omega) (by omega)
  · rw [if_neg (show ¬ nI (cN N (40 + 14 * t + 4)) < 4 from fun e => q ((nI_ltI (b := 4) (by omega) (by decide)).mp e)), if_neg q]; rfl
theorem a_bestN (h : Ev E) (a : Rep i j d 1 N r) (w : WF B N r) {x : Int32} (hx : ¬ ∃ t, t < cN N 3 ∧ x = nI t) : f_X5_bestGuide (mk E i j d) (zA E 0) x = some (-1, mk E i j d) := by
  unfold f_X5_bestGuide
  rw [ob_X h, R_X0 h, ob_S h.1 h.s1, y_tourAt0 h.1 h.s1 a w hx, cl_go, if_pos rfl]
theorem a_takes (h : Ev E) (a : Rep i j d 1 N r) (w : WF B N r) {g : Nat} (hg : g < cN N 1) (y : Int32) : f_X5_takes (mk E i j d) (zA E 0) y (nI g) = some (if 1 ≤ y ∧ y ≤ 3 then bI (N (8 + 4 * g + 0) = y) else -2, mk E i j d) := by
  have hn := w.n1
  have hg8 : g < 8 := by omega
  unfold f_X5_takes
  rw [ob_X h, R_X0 h, ob_S h.1 h.s1, y_guideAt1 h.1 h.s1 a w hg, cl_go, if_neg sm, y_isClass, cl_go]
  by_cases q : 1 ≤ y ∧ y ≤ 3
  · rw [bI_1 q, if_neg (by decide), ob_G h.1 h.s1 hg8, I_G h.1 h.s1 hg8, a.g hg (by decide : 0 < 4), if_pos q]
    by_cases q2 : N (8 + 4 * g + 0) = y
    · rw [if_pos q2, bI_1 q2]
    · rw [if_neg q2, bI_0 q2]
  · rw [bI_0 q, if_pos rfl, if_neg q]
theorem a_temp (h : Ev E) (a : Rep i j d 1 N r) : f_X5_temperature (mk E i j d) (zA E 0) = some ((r 0).toInt64, mk E i j d) := by
  unfold f_X5_temperature
  rw [ob_X h, R_X0 h, ob_S h.1 h.s1, J_S h.1 h.s1, a.f7]
end QB
