/-! a state of the class stands for a pair of rows; its questions: ropes -/
def RepT (i : Nat → Nat → Int32) (d : Nat → Nat → UInt64) (p : Nat) (N : Nat → Int32) (r : Nat → UInt64) (t : Nat) : Prop :=
  (i (p + 12 + 2 * t) 1 = N (40 + 14 * t + 0) ∧ i (p + 12 + 2 * t) 4 = N (40 + 14 * t + 1) ∧ i (p + 12 + 2 * t) 5 = N (40 + 14 * t + 2) ∧ i (p + 12 + 2 * t) 6 = N (40 + 14 * t + 3) ∧ i (p + 12 + 2 * t) 7 = N (40 + 14 * t + 4) ∧ i (p + 12 + 2 * t) 8 = N (40 + 14 * t + 5) ∧ i (p + 12 + 2 * t) 9 = N (40 + 14 * t + 6) ∧ i (p + 12 + 2 * t) 10 = N (40 + 14 * t + 7)) ∧
  (d (p + 12 + 2 * t) 2 = r (7 + t) ∧ i (p + 12 + 2 * t) 3 = sBase (r (7 + t))) ∧ ∀ k, k < cN N (40 + 14 * t + 4) → i (p + 13 + 2 * t) k = N (48 + 14 * t + k)
def Rep (i : Nat → Nat → Int32) (j : Nat → Nat → Int64) (d : Nat → Nat → UInt64) (p : Nat) (N : Nat → Int32) (r : Nat → UInt64) : Prop :=
  (i p 3 = N 1 ∧ i p 4 = N 2 ∧ i p 5 = N 3 ∧ i p 6 = N 0 ∧ i p 9 = N 4 ∧ j p 7 = (r 0).toInt64 ∧ d p 8 = r 0) ∧
  (∀ g, g < cN N 1 → ∀ k, k < 4 → i (p + 2 + g) k = N (8 + 4 * g + k)) ∧
  (∀ b, b < 6 → d (p + 10) b = r (1 + b)) ∧ ∀ t, t < cN N 3 → RepT i d p N r t
section CLS1
variable {E : Hp} {i : Nat → Nat → Int32} {j : Nat → Nat → Int64} {d : Nat → Nat → UInt64} {B p : Nat} {N : Nat → Int32} {r : Nat → UInt64}
theorem Rep.f3 (a : Rep i j d p N r) : i p 3 = N 1 := a.1.1
theorem Rep.f4 (a : Rep i j d p N r) : i p 4 = N 2 := a.1.2.1
theorem Rep.f5 (a : Rep i j d p N r) : i p 5 = N 3 := a.1.2.2.1
theorem Rep.f6 (a : Rep i j d p N r) : i p 6 = N 0 := a.1.2.2.2.1
theorem Rep.f9 (a : Rep i j d p N r) : i p 9 = N 4 := a.1.2.2.2.2.1
theorem Rep.f7 (a : Rep i j d p N r) : j p 7 = (r 0).toInt64 := a.1.2.2.2.2.2.1
theorem Rep.f8 (a : Rep i j d p N r) : d p 8 = r 0 := a.1.2.2.2.2.2.2
theorem Rep.g (a : Rep i j d p N r) {g k : Nat} (hg : g < cN N 1) (hk : k < 4) : i (p + 2 + g) k = N (8 + 4 * g + k) := a.2.1 g hg k hk
theorem Rep.b (a : Rep i j d p N r) {b : Nat} (hb : b < 6) : d (p + 10) b = r (1 + b) := a.2.2.1 b hb
theorem Rep.t (a : Rep i j d p N r) {t : Nat} (ht : t < cN N 3) : RepT i d p N r t := a.2.2.2 t ht
theorem Rep.t1 (a : Rep i j d p N r) {t : Nat} (ht : t < cN N 3) : i (p + 12 + 2 * t) 1 = N (40 + 14 * t + 0) := (a.t ht).1.1
theorem Rep.t4 (a : Rep i j d p N r) {t : Nat} (ht : t < cN N 3) : i (p + 12 + 2 * t) 4 = N (40 + 14 * t + 1) := (a.t ht).1.2.1
theorem Rep.t5 (a : Rep i j d p N r) {t : Nat} (ht : t < cN N 3) : i (p + 12 + 2 * t) 5 = N (40 + 14 * t + 2) := (a.t ht).1.2.2.1
theorem Rep.t6 (a : Rep i j d p N r) {t : Nat} (ht : t < cN N 3) : i (p + 12 + 2 * t) 6 = N (40 + 14 * t + 3) := (a.t ht).1.2.2.2.1
theorem Rep.t7 (a : Rep i j d p N r) {t : Nat} (ht : t < cN N 3) : i (p + 12 + 2 * t) 7 = N (40 + 14 * t + 4) := (a.t ht).1.2.2.2.2.1
theorem Rep.t8 (a : Rep i j d p N r) {t : Nat} (ht : t < cN N 3) : i (p + 12 + 2 * t) 8 = N (40 + 14 * t + 5) := (a.t ht).1.2.2.2.2.2.1
theorem Rep.t9 (a : Rep i j d p N r) {t : Nat} (ht : t < cN N 3) : i (p + 12 + 2 * t) 9 = N (40 + 14 * t + 6) := (a.t ht).1.2.2.2.2.2.2.1
theorem Rep.t10 (a : Rep i j d p N r) {t : Nat} (ht : t < cN N 3) : i (p + 12 + 2 * t) 10 = N (40 + 14 * t + 7) := (a.t ht).1.2.2.2.2.2.2.2
theorem Rep.t2 (a : Rep i j d p N r) {t : Nat} (ht : t < cN N 3) : d (p + 12 + 2 * t) 2 = r (7 + t) := (a.t ht).2.1.1
theorem Rep.t3 (a : Rep i j d p N r) {t : Nat} (ht : t < cN N 3) : i (p + 12 + 2 * t) 3 = sBase (r (7 + t)) := (a.t ht).2.1.2
theorem Rep.tr (a : Rep i j d p N r) {t k : Nat} (ht : t < cN N 3) (hk : k < cN N (40 + 14 * t + 4)) : i (p + 13 + 2 * t) k = N (48 + 14 * t + k) := (a.t ht).2.2 k hk
theorem i32_sub_add (x y z : Int32) : x - y - z = x - (y + z) := by
  grind
theorem y_ratioOf (h : Nd E) (hs : St E p) (a : Rep i j d p N r) (w : WF B N r) {t g : Nat} (ht : t < cN N 3) (hg : g < cN N 1) : f_X2_ratioOf (mk E i j d) (zA E p) (nI g) (some (zA E (p + 12 + 2 * t))) = some (nI (sRat N r t g), mk E i j d) := by
  have h10 := w.t10 ht
  have hg8 : g < 8 := Nat.lt_of_lt_of_le hg w.n1.2
  unfold f_X2_ratioOf
  rw [ob_T h hs h10, ob_S h hs, R_S0 hs, ar_S0 h hs hg8, R_G hs hg8, ob_G h hs hg8, bnd_go, I_T h hs h10, I_G h hs hg8, a.t3 ht, a.g hg (by decide : 0 < 4)]
  exact rat_val (w.kl hg).1 (w.kl hg).2 (fun v => some (v, mk E i j d))
theorem y_leftAfter_L (h : Nd E) (hs : St E p) (a : Rep i j d p N r) (w : WF B N r) {t : Nat} (ht : t < cN N 3) {n : Nat} (hn : n ≤ cN N (40 + 14 * t + 4)) : ∀ m k fuel, k + m = n → m < fuel → f_X2_leftAfter_L8 fuel (mk E i j d) (zA E p) (some (zA E (p + 12 + 2 * t))) (nI n) (nI (cN N (40 + 14 * t + 3)) - nI (sSum N r t k)) (nI k) = some (nI (sLeft N r t n), mk E i j d) := by
  have h10 := w.t10 ht
  obtain ⟨hM, hM4⟩ := w.many ht
  have hG := (w.guests ht).2
  intro m
  induction m with
  | zero =>
    intro k fuel hk hf
    obtain ⟨f, rfl⟩ : ∃ f, fuel = f + 1 := ⟨fuel - 1, by omega⟩
    show f_X2_leftAfter_L8_b (f_X2_leftAfter_L8 f) _ _ _ _ _ _ = _
    unfold f_X2_leftAfter_L8_b
    have hS := w.sum ht k (by omega)
    have hkn : k = n := by omega
    subst hkn
    rw [if_pos (nI_le (by omega) (by omega))]
    unfold sLeft
    by_cases q : sSum N r t k ≤ cN N (40 + 14 * t + 3)
    · rw [pk_sub q, if_pos (nI_pos' (by omega))]
    · rw [if_neg (Int32.not_le.mpr (pk_sneg (by omega) (by omega))), show cN N (40 + 14 * t + 3) - sSum N r t k = 0 by omega]; rfl
  | succ m ih =>
    intro k fuel hk hf
    obtain ⟨f, rfl⟩ : ∃ f, fuel = f + 1 := ⟨fuel - 1, by omega⟩
    show f_X2_leftAfter_L8_b (f_X2_leftAfter_L8 f) _ _ _ _ _ _ = _
    unfold f_X2_leftAfter_L8_b
    obtain ⟨hr, hr1, hr8⟩ := w.rowk ht (k := k) (by omega)
    rw [if_neg (nI_ge (by omega) (by omega)), ob_T h hs h10, R_T0 hs h10, ar_T0 h hs h10 (by omega), ob_S h hs, I_R h hs h10, a.tr ht (by omega), hr, y_ratioOf h hs a w ht hr1, cl_go, bnd_go, bnd_go, nI_1]
    have := ih (k + 1) f (by omega) (by omega)
    rw [show sSum N r t (k + 1) = sSum N r t k + sRat N r t (gN N t k) from rfl, ← nI_add, ← i32_sub_add] at this
    exact this
theorem y_leftAfter (h : Nd E) (hs : St E p) (a : Rep i j d p N r) (w : WF B N r) {t : Nat} (ht : t < cN N 3) {n : Nat} (hn : n ≤ cN N (40 + 14 * t + 4)) : f_X2_leftAfter (mk E i j d) (zA E p) (some (zA E (p + 12 + 2 * t))) (nI n) = some (nI (sLeft N r t n), mk E i j d) := by
  have h10 := w.t10 ht
  have hM4 := (w.many ht).2
  unfold f_X2_leftAfter
  rw [ob_T h hs h10, bnd_go, I_T h hs h10, a.t6 ht, (w.guests ht).1]
  have := y_leftAfter_L h hs a w ht hn n 0 1000 (by omega) (by omega)
  rw [show nI (sSum N r t 0) = 0 from rfl, Int32.sub_zero] at this
  exact this
theorem y_guestsOnRope (h : Nd E) (hs : St E p) (a : Rep i j d p N r) (w : WF B N r) {t : Nat} (ht : t < cN N 3) {k : Nat} (hk : k < cN N (40 + 14 * t + 4)) : f_X2_guestsOnRope (mk E i j d) (zA E p) (some (zA E (p + 12 + 2 * t))) (nI k) = some (nI (sOn N r t k), mk E i j d) := by
  unfold f_X2_guestsOnRope
  rw [ob_S h hs, y_leftAfter h hs a w ht (by omega), cl_go, ob_S h hs, nI_1, y_leftAfter h hs a w ht hk, cl_go, pk_sub (sLeft_le k)]; rfl
theorem y_neededBy_L (h : Nd E) (hs : St E p) (a : Rep i j d p N r) (w : WF B N r) {t : Nat} (ht : t < cN N 3) : ∀ m k fuel, k + m = cN N (40 + 14 * t + 4) → m < fuel → f_X2_neededBy_L10 fuel (mk E i j d) (zA E p) (some (zA E (p + 12 + 2 * t))) (nI (sMost N r t k)) (nI (sLeft N r t k)) (nI k) = some (sNeed N r t, mk E i j d) := by
  have h10 := w.t10 ht
  obtain ⟨hM, hM4⟩ := w.many ht
  have hG := (w.guests ht).2
  intro m
  induction m with
  | zero =>
    intro k fuel hk hf
    obtain ⟨f, rfl⟩ : ∃ f, fuel = f + 1 := ⟨fuel - 1, by omega⟩
    show f_X2_neededBy_L10_b (f_X2_neededBy_L10 f) _ _ _ _ _ _ = _
    unfold f_X2_neededBy_L10_b
    have hm := sMost_le (N := N) (r := r) (t := t) k
    have hok := need_ok (sMost N r t k + 1) (by omega)
    rw [ob_T h hs h10, I_T h hs h10, a.t7 ht, hM, if_pos (nI_le (by omega) (by omega)), nI_1, fpg_go hok.1, fpg_go hok.2]
    unfold sNeed
    rw [show k = cN N (40 + 14 * t + 4) by omega]
  | succ m ih =>
    intro k fuel hk hf
    obtain ⟨f, rfl⟩ : ∃ f, fuel = f + 1 := ⟨fuel - 1, by omega⟩
    show f_X2_neededBy_L10_b (f_X2_neededBy_L10 f) _ _ _ _ _ _ = _
    unfold f_X2_neededBy_L10_b
    have hm := sMost_le (N := N) (r := r) (t := t) k
    have hL := sLeft_g (N := N) (r := r) (t := t) k
    have hO : sOn N r t k ≤ 12 := by unfold sOn; omega
    have hl := sLeft_le (N := N) (r := r) (t := t) k
    have hq : sMost N r t (k + 1) = if sOn N r t k ≤ sMost N r t k then sMost N r t k else sOn N r t k := rfl
    have := ih (k + 1) f (by omega) (by omega)
    rw [ob_T h hs h10, I_T h hs h10, a.t7 ht, hM, if_neg (nI_ge (by omega) (by omega)), ob_S h hs, nI_1, y_leftAfter h hs a w ht (by omega), cl_go, pk_sub hl, show sLeft N r t k - sLeft N r t (k + 1) = sOn N r t k from rfl]
    by_cases q : sOn N r t k ≤ sMost N r t k
    · rw [if_pos ((nI_leI (by omega) (by omega)).mpr q), bnd_go]
      rw [hq, if_pos q] at this
      exact this
    · rw [if_neg (fun a => q ((nI_leI (by omega) (by omega)).mp a)), bnd_go, bnd_go]
      rw [hq, if_neg q] at this
      exact this
theorem y_neededBy (h : Nd E) (hs : St E p) (a : Rep i j d p N r) (w : WF B N r) {t : Nat} (ht : t < cN N 3) : f_X2_neededBy (mk E i j d) (zA E p) (some (zA E (p + 12 + 2 * t))) = some (sNeed N r t, mk E i j d) := by
  have h10 := w.t10 ht
  have hM4 := (w.many ht).2
  unfold f_X2_neededBy
  rw [ob_T h hs h10, bnd_go, I_T h hs h10, a.t6 ht, (w.guests ht).1]
  exact y_neededBy_L h hs a w ht (cN N (40 + 14 * t + 4)) 0 1000 (by omega) (by omega)
theorem y_abh_L (h : Nd E) (hs : St E p) (a : Rep i j d p N r) (w : WF B N r) {t : Nat} (ht : t < cN N 3) : ∀ m k fuel, k + m = cN N 2 → m < fuel → f_X2_allBridgesHold_L9 fuel (mk E i j d) (zA E p) (some (zA E (p + 12 + 2 * t))) (sNeed N r t) (nI k) = some (bI (anyF (fun b => !decide ((N (40 + 14 * t + 2) >>> (nI b &&& 31)) &&& 1 = 0) && !decide (0 ≤ Op.cmpValue (FP.dcmp (r (1 + b)) (sNeed N r t)) CmpOp.l)) m k = false), mk E i j d) := by
  have h10 := w.t10 ht
  obtain ⟨hM, hM4⟩ := w.n2
  intro m
  induction m with
  | zero =>
    intro k fuel hk hf
    obtain ⟨f, rfl⟩ : ∃ f, fuel = f + 1 := ⟨fuel - 1, by omega⟩
    show f_X2_allBridgesHold_L9_b (f_X2_allBridgesHold_L9 f) _ _ _ _ _ = _
    unfold f_X2_allBridgesHold_L9_b
    rw [ob_S h hs, I_S h hs, a.f4, hM, if_pos (nI_le (by omega) (by omega))]; rfl
  | succ m ih =>
    intro k fuel hk hf
    obtain ⟨f, rfl⟩ : ∃ f, fuel = f + 1 := ⟨fuel - 1, by omega⟩
    show f_X2_allBridgesHold_L9_b (f_X2_allBridgesHold_L9 f) _ _ _ _ _ = _
    unfold f_X2_allBridgesHold_L9_b
    have IH := ih (k + 1) f (by omega) (by omega)
    rw [ob_S h hs, I_S h hs, a.f4, hM, if_neg (nI_ge (by omega) (by omega)), ob_T h hs h10, I_T h hs h10, a.t5 ht]
    by_cases q : (N (40 + 14 * t + 2) >>> (nI k &&& 31)) &&& 1 = 0
    · rw [if_pos q, bnd_go, nI_1, IH, anyF_0 (by show (!decide _ && _) = false; rw [decide_eq_true q]; rfl)]
    · rw [if_neg q, R_S1 hs, ar_S1 h hs (by omega), D_B h hs, a.b (by omega)]
      by_cases q2 : 0 ≤ Op.cmpValue (FP.dcmp (r (1 + k)) (sNeed N r t)) CmpOp.l
      · rw [if_pos q2, bnd_go, nI_1, IH, anyF_0 (by show (!decide _ && !decide _) = false; rw [decide_eq_true q2]; simp)]
      · rw [if_neg q2, anyF_1 (by show (!decide _ && !decide _) = true; rw [decide_eq_false q, decide_eq_false q2]; rfl)]; rfl
theorem y_abh (h : Nd E) (hs : St E p) (a : Rep i j d p N r) (w : WF B N r) {t : Nat} (ht : t < cN N 3) : f_X2_allBridgesHold (mk E i j d) (zA E p) (some (zA E (p + 12 + 2 * t))) = some (bI (sWeak N r t = false), mk E i j d) := by
  have hM4 := w.n2.2
  unfold f_X2_allBridgesHold
  rw [ob_S h hs, y_neededBy h hs a w ht, cl_go]
  exact y_abh_L h hs a w ht (cN N 2) 0 1000 (by omega) (by omega)
theorem y_isValidOn (h : Nd E) (hs : St E p) {g : Nat} (hg : g < 8) (x : Int32) : f_X0_isValidOn (mk E i j d) (zA E (p + 2 + g)) x = some (bI (¬ i (p + 2 + g) 1 < x), mk E i j d) := by
  unfold f_X0_isValidOn
  rw [ob_G h hs hg, I_G h hs hg]
  by_cases q : i (p + 2 + g) 1 < x
  · rw [if_pos q, bI_0 (fun e => e q)]
  · rw [if_neg q, bI_1 q]
theorem y_agv_L (h : Nd E) (hs : St E p) (a : Rep i j d p N r) (w : WF B N r) {t : Nat} (ht : t < cN N 3) : ∀ m k fuel, k + m = cN N (40 + 14 * t + 4) → m < fuel → f_X2_allGuidesAreValid_L2 fuel (mk E i j d) (zA E p) (some (zA E (p + 12 + 2 * t))) (nI k) = some (bI (anyF (fun k => decide (N (8 + 4 * gN N t k + 1) < N (40 + 14 * t + 0))) m k = false), mk E i j d) := by
  have h10 := w.t10 ht
  obtain ⟨hM, hM4⟩ := w.many ht
  intro m
  induction m with
  | zero =>
    intro k fuel hk hf
    obtain ⟨f, rfl⟩ : ∃ f, fuel = f + 1 := ⟨fuel - 1, by omega⟩
    show f_X2_allGuidesAreValid_L2_b (f_X2_allGuidesAreValid_L2 f) _ _ _ _ = _
    unfold f_X2_allGuidesAreValid_L2_b
    rw [ob_T h hs h10, I_T h hs h10, a.t7 ht, hM, if_pos (nI_le (by omega) (by omega))]; rfl
  | succ m ih =>
    intro k fuel hk hf
    obtain ⟨f, rfl⟩ : ∃ f, fuel = f + 1 := ⟨fuel - 1, by omega⟩
    show f_X2_allGuidesAreValid_L2_b (f_X2_allGuidesAreValid_L2 f) _ _ _ _ = _
    unfold f_X2_allGuidesAreValid_L2_b
    obtain ⟨hr, hr1, hr8⟩ := w.rowk ht (k := k) (by omega)
    have IH := ih (k + 1) f (by omega) (by omega)
    rw [ob_T h hs h10, I_T h hs h10, a.t7 ht, hM, if_neg (nI_ge (by omega) (by omega)), ob_S h hs, R_T0 hs h10, ar_T0 h hs h10 (by omega), I_R h hs h10, a.tr ht (by omega), hr, R_S0 hs, ar_S0 h hs hr8, R_G hs hr8, ob_G h hs hr8, I_T h hs h10, y_isValidOn h hs hr8, cl_go, a.t1 ht, a.g hr1 (by decide : 1 < 4)]
    by_cases q : N (8 + 4 * gN N t k + 1) < N (40 + 14 * t + 0)
    · rw [bI_0 (fun e => e q), if_pos rfl, anyF_1 (decide_eq_true q)]; rfl
    · rw [bI_1 q, if_neg (by decide), bnd_go, nI_1, IH, anyF_0 (decide_eq_false q)]
theorem y_agv (h : Nd E) (hs : St E p) (a : Rep i j d p N r) (w : WF B N r) {t : Nat} (ht : t < cN N 3) : f_X2_allGuidesAreValid (mk E i j d) (zA E p) (some (zA E (p + 12 + 2 * t))) = some (bI (sBad N t = false), mk E i j d) := by
  have hM4 := (w.many ht).2
  exact y_agv_L h hs a w ht (cN N (40 + 14 * t + 4)) 0 1000 (by omega) (by omega)
theorem y_causeAgainst (h : Nd E) (hs : St E p) (a : Rep i j d p N r) (w : WF B N r) {t : Nat} (ht : t < cN N 3) : f_X2_causeAgainst (mk E i j d) (zA E p) (some (zA E (p + 12 + 2 * t))) = some (sCause N r t, mk E i j d) := by
  have h10 := w.t10 ht
  have hM4 := (w.many ht).2
  have hG := (w.guests ht).2
  have hl := sLeft_g (N := N) (r := r) (t := t) (cN N (40 + 14 * t + 4))
  unfold f_X2_causeAgainst sCause
  rw [ob_T h hs h10, I_T h hs h10, a.t6 ht]
  by_cases q : N (40 + 14 * t + 3) = 0
  · rw [if_pos q, if_pos q]
  · rw [if_neg q, if_neg q, ob_S h hs, y_abh h hs a w ht, cl_go]
    by_cases q2 : sWeak N r t = true
    · rw [bI_0 (by rw [q2]; decide), if_pos rfl, if_pos q2]
    · rw [bI_1 (Bool.eq_false_iff.mpr q2), if_neg (by decide), if_neg q2, ob_T h hs h10, ob_S h hs, I_T h hs h10, a.t7 ht, (w.many ht).1, y_leftAfter h hs a w ht (Nat.le_refl _), cl_go]
      by_cases q3 : sLeft N r t (cN N (40 + 14 * t + 4)) = 0
      · rw [q3, if_neg (by decide), ob_S h hs, y_agv h hs a w ht, cl_go]
        by_cases q4 : sBad N t = false
        · rw [bI_1 q4, if_neg (by decide), if_pos ⟨rfl, q4⟩]
        · rw [bI_0 q4, if_pos rfl, if_neg (fun e => q4 e.2)]
      · rw [if_pos (show (0 : Int32) < nI _ from (nI_ltI (a := 0) (by omega) (by omega)).mpr (by omega)), if_neg (fun e => q3 e.1)]
end CLS1
