/-! the class's questions: loops over tours; numbers that name -/
section CLS2
variable {E : Hp} {i : Nat → Nat → Int32} {j : Nat → Nat → Int64} {d : Nat → Nat → UInt64} {B p : Nat} {N : Nat → Int32} {r : Nat → UInt64}
theorem ix_no {x : Int32} {n : Nat} (hn : n < 2 ^ 31) (hx : ¬ ∃ t, t < n ∧ x = nI t) : x < 0 ∨ nI n ≤ x := by
  rcases pk_ix x hn with q | q | ⟨t, ht, e⟩
  · exact Or.inl q
  · exact Or.inr q
  · exact absurd ⟨t, ht, e⟩ hx
theorem y_tourAt1 (h : Nd E) (hs : St E p) (a : Rep i j d p N r) (w : WF B N r) {t : Nat} (ht : t < cN N 3) : f_X2_tourAt (mk E i j d) (zA E p) (nI t) = some ((some (zA E (p + 12 + 2 * t))), mk E i j d) := by
  have h3 := w.n3.2
  unfold f_X2_tourAt
  rw [if_neg (nI_pos (by omega)), ob_S h hs, I_S h hs, a.f5, w.n3.1, if_neg (nI_ge ht (by omega)), R_S2 hs, ar_S2 h hs (by omega), R_T hs (by omega)]
theorem y_tourAt0 (h : Nd E) (hs : St E p) (a : Rep i j d p N r) (w : WF B N r) {x : Int32} (hx : ¬ ∃ t, t < cN N 3 ∧ x = nI t) : f_X2_tourAt (mk E i j d) (zA E p) x = some (none, mk E i j d) := by
  have h3 := w.n3.2
  unfold f_X2_tourAt
  rcases ix_no (by omega) hx with q | q
  · rw [if_pos q]
  · by_cases q0 : x < 0
    · rw [if_pos q0]
    · rw [if_neg q0, ob_S h hs, I_S h hs, a.f5, w.n3.1, if_pos q]
theorem y_guideAt1 (h : Nd E) (hs : St E p) (a : Rep i j d p N r) (w : WF B N r) {g : Nat} (hg : g < cN N 1) : f_X2_guideAt (mk E i j d) (zA E p) (nI g) = some (some (zA E (p + 2 + g)), mk E i j d) := by
  have h3 := w.n1.2
  unfold f_X2_guideAt
  rw [if_neg (nI_pos (by omega)), ob_S h hs, I_S h hs, a.f3, w.n1.1, if_neg (nI_ge hg (by omega)), R_S0 hs, ar_S0 h hs (by omega), R_G hs (by omega)]
theorem y_guideAt0 (h : Nd E) (hs : St E p) (a : Rep i j d p N r) (w : WF B N r) {x : Int32} (hx : ¬ ∃ t, t < cN N 1 ∧ x = nI t) : f_X2_guideAt (mk E i j d) (zA E p) x = some (none, mk E i j d) := by
  have h3 := w.n1.2
  unfold f_X2_guideAt
  rcases ix_no (by omega) hx with q | q
  · rw [if_pos q]
  · by_cases q0 : x < 0
    · rw [if_pos q0]
    · rw [if_neg q0, ob_S h hs, I_S h hs, a.f3, w.n1.1, if_pos q]
theorem y_hasBridge1 (h : Nd E) (hs : St E p) (a : Rep i j d p N r) (w : WF B N r) {b : Nat} (hb : b < cN N 2) : f_X2_hasBridge (mk E i j d) (zA E p) (nI b) = some (1, mk E i j d) := by
  have h3 := w.n2.2
  unfold f_X2_hasBridge
  rw [if_neg (nI_pos (by omega)), ob_S h hs, I_S h hs, a.f4, w.n2.1, if_neg (nI_ge hb (by omega))]
theorem y_hasBridge0 (h : Nd E) (hs : St E p) (a : Rep i j d p N r) (w : WF B N r) {x : Int32} (hx : ¬ ∃ t, t < cN N 2 ∧ x = nI t) : f_X2_hasBridge (mk E i j d) (zA E p) x = some (0, mk E i j d) := by
  have h3 := w.n2.2
  unfold f_X2_hasBridge
  rcases ix_no (by omega) hx with q | q
  · rw [if_pos q]
  · by_cases q0 : x < 0
    · rw [if_pos q0]
    · rw [if_neg q0, ob_S h hs, I_S h hs, a.f4, w.n2.1, if_pos q]
theorem y_hasInRow_L (h : Nd E) (hs : St E p) (a : Rep i j d p N r) (w : WF B N r) {t : Nat} (ht : t < cN N 3) (g : Int32) : ∀ m k fuel, k + m = cN N (40 + 14 * t + 4) → m < fuel → f_X4_hasInRow_L2 fuel (mk E i j d) (zA E (p + 12 + 2 * t)) g (nI k) = some (bI (anyF (fun k => decide (N (48 + 14 * t + k) = g)) m k = true), mk E i j d) := by
  have h10 := w.t10 ht
  obtain ⟨hM, hM4⟩ := w.many ht
  intro m
  induction m with
  | zero =>
    intro k fuel hk hf
    obtain ⟨f, rfl⟩ : ∃ f, fuel = f + 1 := ⟨fuel - 1, by omega⟩
    show f_X4_hasInRow_L2_b (f_X4_hasInRow_L2 f) _ _ _ _ = _
    unfold f_X4_hasInRow_L2_b
    rw [ob_T h hs h10, I_T h hs h10, a.t7 ht, hM, if_pos (nI_le (by omega) (by omega))]; rfl
  | succ m ih =>
    intro k fuel hk hf
    obtain ⟨f, rfl⟩ : ∃ f, fuel = f + 1 := ⟨fuel - 1, by omega⟩
    show f_X4_hasInRow_L2_b (f_X4_hasInRow_L2 f) _ _ _ _ = _
    unfold f_X4_hasInRow_L2_b
    rw [ob_T h hs h10, I_T h hs h10, a.t7 ht, hM, if_neg (nI_ge (by omega) (by omega)), R_T0 hs h10, ar_T0 h hs h10 (by omega), I_R h hs h10, a.tr ht (by omega)]
    by_cases q : N (48 + 14 * t + k) = g
    · rw [if_pos q, anyF_1 (decide_eq_true q)]; rfl
    · rw [if_neg q, bnd_go, nI_1, ih (k + 1) f (by omega) (by omega), anyF_0 (decide_eq_false q)]
theorem y_hasInRow (h : Nd E) (hs : St E p) (a : Rep i j d p N r) (w : WF B N r) {t : Nat} (ht : t < cN N 3) (g : Int32) : f_X4_hasInRow (mk E i j d) (zA E (p + 12 + 2 * t)) g = some (bI (sLeads N t g = true), mk E i j d) := by
  have hM4 := (w.many ht).2
  exact y_hasInRow_L h hs a w ht g (cN N (40 + 14 * t + 4)) 0 1000 (by omega) (by omega)
theorem y_isBusy_L (h : Nd E) (hs : St E p) (a : Rep i j d p N r) (w : WF B N r) (g day : Int32) : ∀ m k fuel, k + m = cN N 3 → m < fuel → f_X2_isBusyOn_L2 fuel (mk E i j d) (zA E p) day g (nI k) = some (bI (anyF (fun t => decide (N (40 + 14 * t + 6) = 0) && decide (N (40 + 14 * t + 0) = day) && sLeads N t g) m k = true), mk E i j d) := by
  obtain ⟨hM, hM4⟩ := w.n3
  intro m
  induction m with
  | zero =>
    intro k fuel hk hf
    obtain ⟨f, rfl⟩ : ∃ f, fuel = f + 1 := ⟨fuel - 1, by omega⟩
    show f_X2_isBusyOn_L2_b (f_X2_isBusyOn_L2 f) _ _ _ _ _ = _
    unfold f_X2_isBusyOn_L2_b
    rw [ob_S h hs, I_S h hs, a.f5, hM, if_pos (nI_le (by omega) (by omega))]; rfl
  | succ m ih =>
    intro k fuel hk hf
    obtain ⟨f, rfl⟩ : ∃ f, fuel = f + 1 := ⟨fuel - 1, by omega⟩
    show f_X2_isBusyOn_L2_b (f_X2_isBusyOn_L2 f) _ _ _ _ _ = _
    unfold f_X2_isBusyOn_L2_b
    have hk3 : k < cN N 3 := by omega
    have h10 : k < 10 := by omega
    have IH := ih (k + 1) f (by omega) (by omega)
    rw [ob_S h hs, I_S h hs, a.f5, hM, if_neg (nI_ge (by omega) (by omega)), R_S2 hs, ar_S2 h hs h10, R_T hs h10, ob_T h hs h10, I_T h hs h10, a.t9 hk3]
    by_cases q : N (40 + 14 * k + 6) = 0
    · rw [if_pos q, ar_S2 h hs h10, R_T hs h10, ob_T h hs h10, I_T h hs h10, a.t1 hk3]
      by_cases q2 : N (40 + 14 * k + 0) = day
      · rw [if_pos q2, ar_S2 h hs h10, R_T hs h10, ob_T h hs h10, y_hasInRow h hs a w hk3, cl_go]
        by_cases q3 : sLeads N k g = true
        · rw [bI_1 q3, if_neg (by decide), anyF_1 (by show (decide _ && decide _ && _) = true; rw [decide_eq_true q, decide_eq_true q2, q3]; rfl)]; rfl
        · rw [bI_0 q3, if_pos rfl, bnd_go, nI_1, IH, anyF_0 (by simp [q3])]
      · rw [if_neg q2, bnd_go, nI_1, IH, anyF_0 (by show (decide _ && decide _ && _) = false; rw [decide_eq_false q2]; simp)]
    · rw [if_neg q, bnd_go, nI_1, IH, anyF_0 (by simp [q])]
theorem y_isBusy (h : Nd E) (hs : St E p) (a : Rep i j d p N r) (w : WF B N r) (g day : Int32) : f_X2_isBusyOn (mk E i j d) (zA E p) day g = some (bI (sBusy N g day = true), mk E i j d) := by
  have hM4 := w.n3.2
  exact y_isBusy_L h hs a w g day (cN N 3) 0 1000 (by omega) (by omega)
theorem y_mayLead (h : Nd E) (hs : St E p) (a : Rep i j d p N r) (w : WF B N r) {t g : Nat} (ht : t < cN N 3) (hg : g < cN N 1) : f_X2_mayLead (mk E i j d) (zA E p) (nI g) (some (zA E (p + 12 + 2 * t))) = some (bI (sMay N t g = true), mk E i j d) := by
  have h10 := w.t10 ht
  have hg8 : g < 8 := Nat.lt_of_lt_of_le hg w.n1.2
  unfold f_X2_mayLead
  rw [ob_T h hs h10, I_T h hs h10, a.t9 ht]
  by_cases q : N (40 + 14 * t + 6) = 0
  · rw [if_pos q, ob_S h hs, R_S0 hs, ar_S0 h hs hg8, R_G hs hg8, ob_G h hs hg8, I_T h hs h10, y_isValidOn h hs hg8, cl_go, a.t1 ht, a.g hg (by decide : 1 < 4)]
    by_cases q2 : N (8 + 4 * g + 1) < N (40 + 14 * t + 0)
    · rw [bI_0 (fun e => e q2), if_pos rfl, bI_0]
      unfold sMay
      rw [decide_eq_true q2]; simp
    · rw [bI_1 q2, if_neg (by decide), ob_T h hs h10, ob_S h hs, I_T h hs h10, a.t1 ht, y_isBusy h hs a w, cl_go]
      unfold sMay
      rw [decide_eq_true q, decide_eq_false q2]
      by_cases q3 : sBusy N (nI g) (N (40 + 14 * t + 0)) = true
      · rw [bI_1 q3, if_neg (by decide), q3]; rfl
      · rw [bI_0 q3, if_pos rfl, Bool.eq_false_iff.mpr q3]; rfl
  · rw [if_neg q, bI_0]
    unfold sMay
    rw [decide_eq_false q]; simp
theorem y_first_L (h : Nd E) (hs : St E p) (a : Rep i j d p N r) (w : WF B N r) (g : Int32) : ∀ m k fuel, k + m = cN N 3 → m < fuel → f_X2_firstOpenTourOf_L2 fuel (mk E i j d) (zA E p) g (nI k) = some (sFirst N g m k, mk E i j d) := by
  obtain ⟨hM, hM4⟩ := w.n3
  intro m
  induction m with
  | zero =>
    intro k fuel hk hf
    obtain ⟨f, rfl⟩ : ∃ f, fuel = f + 1 := ⟨fuel - 1, by omega⟩
    show f_X2_firstOpenTourOf_L2_b (f_X2_firstOpenTourOf_L2 f) _ _ _ _ = _
    unfold f_X2_firstOpenTourOf_L2_b
    rw [ob_S h hs, I_S h hs, a.f5, hM, if_pos (nI_le (by omega) (by omega))]; rfl
  | succ m ih =>
    intro k fuel hk hf
    obtain ⟨f, rfl⟩ : ∃ f, fuel = f + 1 := ⟨fuel - 1, by omega⟩
    show f_X2_firstOpenTourOf_L2_b (f_X2_firstOpenTourOf_L2 f) _ _ _ _ = _
    unfold f_X2_firstOpenTourOf_L2_b
    have hk3 : k < cN N 3 := by omega
    have h10 : k < 10 := by omega
    have IH := ih (k + 1) f (by omega) (by omega)
    rw [ob_S h hs, I_S h hs, a.f5, hM, if_neg (nI_ge (by omega) (by omega)), R_S2 hs, ar_S2 h hs h10, R_T hs h10, ob_T h hs h10, I_T h hs h10, a.t9 hk3]
    show _ = some ((if (decide (N (40 + 14 * k + 6) = 0) && sLeads N k g) = true then nI k else sFirst N g m (k + 1)), mk E i j d)
    by_cases q : N (40 + 14 * k + 6) = 0
    · rw [if_pos q, ar_S2 h hs h10, R_T hs h10, ob_T h hs h10, y_hasInRow h hs a w hk3, cl_go, decide_eq_true q, Bool.true_and]
      by_cases q3 : sLeads N k g = true
      · rw [bI_1 q3, if_neg (by decide), if_pos q3]
      · rw [bI_0 q3, if_pos rfl, bnd_go, nI_1, IH, if_neg q3]
    · rw [if_neg q, bnd_go, nI_1, IH, decide_eq_false q, Bool.false_and, if_neg (by decide)]
theorem y_first (h : Nd E) (hs : St E p) (a : Rep i j d p N r) (w : WF B N r) (g : Int32) : f_X2_firstOpenTourOf (mk E i j d) (zA E p) g = some (sFirst N g (cN N 3) 0, mk E i j d) := by
  have hM4 := w.n3.2
  exact y_first_L h hs a w g (cN N 3) 0 1000 (by omega) (by omega)
theorem y_toursThatAre_L (h : Nd E) (hs : St E p) (a : Rep i j d p N r) (w : WF B N r) (s : Int32) : ∀ m k fuel c, k + m = cN N 3 → m < fuel → f_X2_toursThatAre_L4 fuel (mk E i j d) (zA E p) s c (nI k) = some (sumF (fun t => if N (40 + 14 * t + 6) = s then 1 else 0) m k c, mk E i j d) := by
  obtain ⟨hM, hM4⟩ := w.n3
  intro m
  induction m with
  | zero =>
    intro k fuel c hk hf
    obtain ⟨f, rfl⟩ : ∃ f, fuel = f + 1 := ⟨fuel - 1, by omega⟩
    show f_X2_toursThatAre_L4_b (f_X2_toursThatAre_L4 f) _ _ _ _ _ = _
    unfold f_X2_toursThatAre_L4_b
    rw [ob_S h hs, I_S h hs, a.f5, hM, if_pos (nI_le (by omega) (by omega))]; rfl
  | succ m ih =>
    intro k fuel c hk hf
    obtain ⟨f, rfl⟩ : ∃ f, fuel = f + 1 := ⟨fuel - 1, by omega⟩
    show f_X2_toursThatAre_L4_b (f_X2_toursThatAre_L4 f) _ _ _ _ _ = some (sumF (fun t => if N (40 + 14 * t + 6) = s then 1 else 0) m (k + 1) (c + (fun t => if N (40 + 14 * t + 6) = s then 1 else 0) k), mk E i j d)
    unfold f_X2_toursThatAre_L4_b
    have hk3 : k < cN N 3 := by omega
    have h10 : k < 10 := by omega
    rw [ob_S h hs, I_S h hs, a.f5, hM, if_neg (nI_ge (by omega) (by omega)), R_S2 hs, ar_S2 h hs h10, R_T hs h10, ob_T h hs h10, I_T h hs h10, ← ih (k + 1) f _ (by omega) (by omega)]
    rw [a.t9 hk3]
    by_cases q : N (40 + 14 * k + 6) = s
    · rw [if_pos q, bnd_go, bnd_go, nI_1]; simp only [if_pos q]
    · rw [if_neg q, bnd_go, nI_1]; simp only [if_neg q, Int32.add_zero]
theorem y_toursThatAre (h : Nd E) (hs : St E p) (a : Rep i j d p N r) (w : WF B N r) (s : Int32) : f_X2_toursThatAre (mk E i j d) (zA E p) s = some (sStates N s, mk E i j d) := by
  have hM4 := w.n3.2
  exact y_toursThatAre_L h hs a w s (cN N 3) 0 1000 0 (by omega) (by omega)
theorem y_allPaid_L (h : Nd E) (hs : St E p) (a : Rep i j d p N r) (w : WF B N r) : ∀ m k fuel c, k + m = cN N 3 → m < fuel → f_X2_allPaid_L4 fuel (mk E i j d) (zA E p) c (nI k) = some (sumF (fun t => N (40 + 14 * t + 5)) m k c, mk E i j d) := by
  obtain ⟨hM, hM4⟩ := w.n3
  intro m
  induction m with
  | zero =>
    intro k fuel c hk hf
    obtain ⟨f, rfl⟩ : ∃ f, fuel = f + 1 := ⟨fuel - 1, by omega⟩
    show f_X2_allPaid_L4_b (f_X2_allPaid_L4 f) _ _ _ _ = _
    unfold f_X2_allPaid_L4_b
    rw [ob_S h hs, I_S h hs, a.f5, hM, if_pos (nI_le (by omega) (by omega))]; rfl
  | succ m ih =>
    intro k fuel c hk hf
    obtain ⟨f, rfl⟩ : ∃ f, fuel = f + 1 := ⟨fuel - 1, by omega⟩
    show f_X2_allPaid_L4_b (f_X2_allPaid_L4 f) _ _ _ _ = some (sumF (fun t => N (40 + 14 * t + 5)) m (k + 1) (c + (fun t => N (40 + 14 * t + 5)) k), mk E i j d)
    unfold f_X2_allPaid_L4_b
    have hk3 : k < cN N 3 := by omega
    have h10 : k < 10 := by omega
    rw [ob_S h hs, I_S h hs, a.f5, hM, if_neg (nI_ge (by omega) (by omega)), R_S2 hs, ar_S2 h hs h10, R_T hs h10, ob_T h hs h10, I_T h hs h10, ← ih (k + 1) f _ (by omega) (by omega)]
    rw [a.t8 hk3, bnd_go, bnd_go, nI_1]
theorem y_allPaid (h : Nd E) (hs : St E p) (a : Rep i j d p N r) (w : WF B N r) : f_X2_allPaid (mk E i j d) (zA E p) = some (sPaidAll N, mk E i j d) := by
  have hM4 := w.n3.2
  exact y_allPaid_L h hs a w (cN N 3) 0 1000 0 (by omega) (by omega)
theorem y_guestsGone_L (h : Nd E) (hs : St E p) (a : Rep i j d p N r) (w : WF B N r) : ∀ m k fuel c, k + m = cN N 3 → m < fuel → f_X2_guestsGone_L4 fuel (mk E i j d) (zA E p) c (nI k) = some (sumF (fun t => if N (40 + 14 * t + 6) = 1 then N (40 + 14 * t + 3) else 0) m k c, mk E i j d) := by
  obtain ⟨hM, hM4⟩ := w.n3
  intro m
  induction m with
  | zero =>
    intro k fuel c hk hf
    obtain ⟨f, rfl⟩ : ∃ f, fuel = f + 1 := ⟨fuel - 1, by omega⟩
    show f_X2_guestsGone_L4_b (f_X2_guestsGone_L4 f) _ _ _ _ = _
    unfold f_X2_guestsGone_L4_b
    rw [ob_S h hs, I_S h hs, a.f5, hM, if_pos (nI_le (by omega) (by omega))]; rfl
  | succ m ih =>
    intro k fuel c hk hf
    obtain ⟨f, rfl⟩ : ∃ f, fuel = f + 1 := ⟨fuel - 1, by omega⟩
    show f_X2_guestsGone_L4_b (f_X2_guestsGone_L4 f) _ _ _ _ = some (sumF (fun t => if N (40 + 14 * t + 6) = 1 then N (40 + 14 * t + 3) else 0) m (k + 1) (c + (fun t => if N (40 + 14 * t + 6) = 1 then N (40 + 14 * t + 3) else 0) k), mk E i j d)
    unfold f_X2_guestsGone_L4_b
    have hk3 : k < cN N 3 := by omega
    have h10 : k < 10 := by omega
    rw [ob_S h hs, I_S h hs, a.f5, hM, if_neg (nI_ge (by omega) (by omega)), R_S2 hs, ar_S2 h hs h10, R_T hs h10, ob_T h hs h10, I_T h hs h10, ← ih (k + 1) f _ (by omega) (by omega)]
    rw [a.t9 hk3]
    by_cases q : N (40 + 14 * k + 6) = 1
    · rw [if_pos q, ar_S2 h hs h10, R_T hs h10, ob_T h hs h10, I_T h hs h10, a.t6 hk3, bnd_go, bnd_go, nI_1]; simp only [if_pos q]
    · rw [if_neg q, bnd_go, nI_1]; simp only [if_neg q, Int32.add_zero]
theorem y_guestsGone (h : Nd E) (hs : St E p) (a : Rep i j d p N r) (w : WF B N r) : f_X2_guestsGone (mk E i j d) (zA E p) = some (sGone N, mk E i j d) := by
  have hM4 := w.n3.2
  exact y_guestsGone_L h hs a w (cN N 3) 0 1000 0 (by omega) (by omega)
end CLS2
