/-! the reference's questions: loops -/
section REF3
variable {E : Hp} {i : Nat → Nat → Int32} {j : Nat → Nat → Int64} {d : Nat → Nat → UInt64} {B : Nat}
theorem x_leads_L (h : Ev E) (w : WF B (i 230) (d 233)) {t : Nat} (ht : t < cN (i 230) 3) (g : Int32) : ∀ m k fuel, k + m = cN (i 230) (40 + 14 * t + 4) → m < fuel → f_X6_leads_L2 fuel (mk E i j d) (zA E 229) g (nI t) (nI k) = some (bI (anyF (fun k => decide (i 230 (48 + 14 * t + k) = g)) m k = true), mk E i j d) := by
  have h10 := w.t10 ht
  obtain ⟨hM, hM4⟩ := w.many ht
  intro m
  induction m with
  | zero =>
    intro k fuel hk hf
    obtain ⟨f, rfl⟩ : ∃ f, fuel = f + 1 := ⟨fuel - 1, by omega⟩
    show f_X6_leads_L2_b (f_X6_leads_L2 f) _ _ _ _ _ = _
    unfold f_X6_leads_L2_b
    rw [ob_M h, x_of4 h h10, cl_go, hM, if_pos (nI_le (by omega) (by omega))]; rfl
  | succ m ih =>
    intro k fuel hk hf
    obtain ⟨f, rfl⟩ : ∃ f, fuel = f + 1 := ⟨fuel - 1, by omega⟩
    show f_X6_leads_L2_b (f_X6_leads_L2 f) _ _ _ _ _ = _
    unfold f_X6_leads_L2_b
    rw [ob_M h, x_of4 h h10, cl_go, hM, if_neg (nI_ge (by omega) (by omega)), ob_M h, x_guideOn h h10 (by omega), cl_go]
    by_cases q : i 230 (48 + 14 * t + k) = g
    · rw [if_pos q, anyF_1 (decide_eq_true q)]; rfl
    · rw [if_neg q, bnd_go, nI_1, ih (k + 1) f (by omega) (by omega), anyF_0 (decide_eq_false q)]
theorem x_leads (h : Ev E) (w : WF B (i 230) (d 233)) {t : Nat} (ht : t < cN (i 230) 3) (g : Int32) : f_X6_leads (mk E i j d) (zA E 229) g (nI t) = some (bI (sLeads (i 230) t g = true), mk E i j d) := by
  have hM4 := (w.many ht).2
  exact x_leads_L h w ht g (cN (i 230) (40 + 14 * t + 4)) 0 1000 (by omega) (by omega)
theorem x_isBusy_L (h : Ev E) (w : WF B (i 230) (d 233)) (g day : Int32) : ∀ m k fuel, k + m = cN (i 230) 3 → m < fuel → f_X6_isBusy_L2 fuel (mk E i j d) (zA E 229) g day (nI k) = some (bI (anyF (fun t => decide (i 230 (40 + 14 * t + 6) = 0) && decide (i 230 (40 + 14 * t + 0) = day) && sLeads (i 230) t g) m k = true), mk E i j d) := by
  obtain ⟨hM, hM4⟩ := w.n3
  intro m
  induction m with
  | zero =>
    intro k fuel hk hf
    obtain ⟨f, rfl⟩ : ∃ f, fuel = f + 1 := ⟨fuel - 1, by omega⟩
    show f_X6_isBusy_L2_b (f_X6_isBusy_L2 f) _ _ _ _ _ = _
    unfold f_X6_isBusy_L2_b
    rw [ob_M h, R_now h, ar_now3 h, I_230 h.1, hM, if_pos (nI_le (by omega) (by omega))]; rfl
  | succ m ih =>
    intro k fuel hk hf
    obtain ⟨f, rfl⟩ : ∃ f, fuel = f + 1 := ⟨fuel - 1, by omega⟩
    show f_X6_isBusy_L2_b (f_X6_isBusy_L2 f) _ _ _ _ _ = _
    unfold f_X6_isBusy_L2_b
    have hk3 : k < cN (i 230) 3 := by omega
    have h10 : k < 10 := by omega
    have IH := ih (k + 1) f (by omega) (by omega)
    rw [ob_M h, R_now h, ar_now3 h, I_230 h.1, hM, if_neg (nI_ge (by omega) (by omega)), ob_M h, x_isOpen h h10, cl_go]
    by_cases q : i 230 (40 + 14 * k + 6) = 0
    · rw [bI_1 q, if_neg (by decide), ob_M h, x_of0 h h10, cl_go]
      by_cases q2 : i 230 (40 + 14 * k + 0) = day
      · rw [if_pos q2, ob_M h, x_leads h w hk3, cl_go]
        by_cases q3 : sLeads (i 230) k g = true
        · rw [bI_1 q3, if_neg (by decide), anyF_1 (by show (decide _ && decide _ && _) = true; rw [decide_eq_true q, decide_eq_true q2, q3]; rfl)]; rfl
        · rw [bI_0 q3, if_pos rfl, bnd_go, nI_1, IH, anyF_0 (by simp [q3])]
      · rw [if_neg q2, bnd_go, nI_1, IH, anyF_0 (by show (decide _ && decide _ && _) = false; rw [decide_eq_false q2]; simp)]
    · rw [bI_0 q, if_pos rfl, bnd_go, nI_1, IH, anyF_0 (by simp [q])]
theorem x_isBusy (h : Ev E) (w : WF B (i 230) (d 233)) (g day : Int32) : f_X6_isBusy (mk E i j d) (zA E 229) g day = some (bI (sBusy (i 230) g day = true), mk E i j d) := by
  have hM4 := w.n3.2
  exact x_isBusy_L h w g day (cN (i 230) 3) 0 1000 (by omega) (by omega)
theorem x_mayLead (h : Ev E) (w : WF B (i 230) (d 233)) {t g : Nat} (ht : t < 10) (hg : g < 8) : f_X6_mayLead (mk E i j d) (zA E 229) (nI g) (nI t) = some (bI (sMay (i 230) t g = true), mk E i j d) := by
  unfold f_X6_mayLead
  rw [ob_M h, x_isOpen h ht, cl_go]
  by_cases q : i 230 (40 + 14 * t + 6) = 0
  · rw [bI_1 q, if_neg (by decide), ob_M h, x_ofG1 h hg, cl_go, ob_M h, x_of0 h ht, cl_go]
    by_cases q2 : i 230 (8 + 4 * g + 1) < i 230 (40 + 14 * t + 0)
    · rw [if_pos q2, bI_0]
      unfold sMay
      rw [decide_eq_true q2]; simp
    · rw [if_neg q2, ob_M h, x_of0 h ht, cl_go, ob_M h, x_isBusy h w, cl_go]
      unfold sMay
      rw [decide_eq_true q, decide_eq_false q2]
      by_cases q3 : sBusy (i 230) (nI g) (i 230 (40 + 14 * t + 0)) = true
      · rw [bI_1 q3, if_neg (by decide), q3]; rfl
      · rw [bI_0 q3, if_pos rfl, Bool.eq_false_iff.mpr q3]; rfl
  · rw [bI_0 q, if_pos rfl, bI_0]
    unfold sMay
    rw [decide_eq_false q]; simp
theorem x_lowest_L (h : Ev E) (w : WF B (i 230) (d 233)) (g : Int32) : ∀ m k fuel, k + m = cN (i 230) 3 → m < fuel → f_X6_lowestTour_L2 fuel (mk E i j d) (zA E 229) g (nI k) = some (sFirst (i 230) g m k, mk E i j d) := by
  obtain ⟨hM, hM4⟩ := w.n3
  intro m
  induction m with
  | zero =>
    intro k fuel hk hf
    obtain ⟨f, rfl⟩ : ∃ f, fuel = f + 1 := ⟨fuel - 1, by omega⟩
    show f_X6_lowestTour_L2_b (f_X6_lowestTour_L2 f) _ _ _ _ = _
    unfold f_X6_lowestTour_L2_b
    rw [ob_M h, R_now h, ar_now3 h, I_230 h.1, hM, if_pos (nI_le (by omega) (by omega))]; rfl
  | succ m ih =>
    intro k fuel hk hf
    obtain ⟨f, rfl⟩ : ∃ f, fuel = f + 1 := ⟨fuel - 1, by omega⟩
    show f_X6_lowestTour_L2_b (f_X6_lowestTour_L2 f) _ _ _ _ = _
    unfold f_X6_lowestTour_L2_b
    have hk3 : k < cN (i 230) 3 := by omega
    have h10 : k < 10 := by omega
    have IH := ih (k + 1) f (by omega) (by omega)
    rw [ob_M h, R_now h, ar_now3 h, I_230 h.1, hM, if_neg (nI_ge (by omega) (by omega)), ob_M h, x_isOpen h h10, cl_go]
    show _ = some ((if (decide (i 230 (40 + 14 * k + 6) = 0) && sLeads (i 230) k g) = true then nI k else sFirst (i 230) g m (k + 1)), mk E i j d)
    by_cases q : i 230 (40 + 14 * k + 6) = 0
    · rw [bI_1 q, if_neg (by decide), ob_M h, x_leads h w hk3, cl_go, decide_eq_true q, Bool.true_and]
      by_cases q3 : sLeads (i 230) k g = true
      · rw [bI_1 q3, if_neg (by decide), if_pos q3]
      · rw [bI_0 q3, if_pos rfl, bnd_go, nI_1, IH, if_neg q3]
    · rw [bI_0 q, if_pos rfl, bnd_go, nI_1, IH, decide_eq_false q, Bool.false_and, if_neg (by decide)]
theorem x_lowest (h : Ev E) (w : WF B (i 230) (d 233)) (g : Int32) : f_X6_lowestTour (mk E i j d) (zA E 229) g = some (sFirst (i 230) g (cN (i 230) 3) 0, mk E i j d) := by
  have hM4 := w.n3.2
  exact x_lowest_L h w g (cN (i 230) 3) 0 1000 (by omega) (by omega)
theorem x_inState_L (h : Ev E) (w : WF B (i 230) (d 233)) (s : Int32) : ∀ m k fuel a, k + m = cN (i 230) 3 → m < fuel → f_X6_inState_L4 fuel (mk E i j d) (zA E 229) s a (nI k) = some (sumF (fun t => if i 230 (40 + 14 * t + 6) = s then 1 else 0) m k a, mk E i j d) := by
  obtain ⟨hM, hM4⟩ := w.n3
  intro m
  induction m with
  | zero =>
    intro k fuel a hk hf
    obtain ⟨f, rfl⟩ : ∃ f, fuel = f + 1 := ⟨fuel - 1, by omega⟩
    show f_X6_inState_L4_b (f_X6_inState_L4 f) _ _ _ _ _ = _
    unfold f_X6_inState_L4_b
    rw [ob_M h, R_now h, ar_now3 h, I_230 h.1, hM, if_pos (nI_le (by omega) (by omega))]; rfl
  | succ m ih =>
    intro k fuel a hk hf
    obtain ⟨f, rfl⟩ : ∃ f, fuel = f + 1 := ⟨fuel - 1, by omega⟩
    show f_X6_inState_L4_b (f_X6_inState_L4 f) _ _ _ _ _ = some (sumF (fun t => if i 230 (40 + 14 * t + 6) = s then 1 else 0) m (k + 1) (a + (fun t => if i 230 (40 + 14 * t + 6) = s then 1 else 0) k), mk E i j d)
    unfold f_X6_inState_L4_b
    have h10 : k < 10 := by omega
    rw [ob_M h, R_now h, ar_now3 h, I_230 h.1, hM, if_neg (nI_ge (by omega) (by omega)), ← ih (k + 1) f _ (by omega) (by omega)]
    rw [ob_M h, x_of6 h h10, cl_go]
    by_cases q : i 230 (40 + 14 * k + 6) = s
    · rw [if_pos q, bnd_go, bnd_go, nI_1]; simp only [if_pos q]
    · rw [if_neg q, bnd_go, bnd_go, nI_1]; simp only [if_neg q]
theorem x_inState (h : Ev E) (w : WF B (i 230) (d 233)) (s : Int32) : f_X6_inState (mk E i j d) (zA E 229) s = some (sStates (i 230) s, mk E i j d) := by
  have hM4 := w.n3.2
  exact x_inState_L h w s (cN (i 230) 3) 0 1000 0 (by omega) (by omega)
theorem x_paidAll_L (h : Ev E) (w : WF B (i 230) (d 233)) : ∀ m k fuel a, k + m = cN (i 230) 3 → m < fuel → f_X6_paidAll_L4 fuel (mk E i j d) (zA E 229) a (nI k) = some (sumF (fun t => i 230 (40 + 14 * t + 5)) m k a, mk E i j d) := by
  obtain ⟨hM, hM4⟩ := w.n3
  intro m
  induction m with
  | zero =>
    intro k fuel a hk hf
    obtain ⟨f, rfl⟩ : ∃ f, fuel = f + 1 := ⟨fuel - 1, by omega⟩
    show f_X6_paidAll_L4_b (f_X6_paidAll_L4 f) _ _ _ _ = _
    unfold f_X6_paidAll_L4_b
    rw [ob_M h, R_now h, ar_now3 h, I_230 h.1, hM, if_pos (nI_le (by omega) (by omega))]; rfl
  | succ m ih =>
    intro k fuel a hk hf
    obtain ⟨f, rfl⟩ : ∃ f, fuel = f + 1 := ⟨fuel - 1, by omega⟩
    show f_X6_paidAll_L4_b (f_X6_paidAll_L4 f) _ _ _ _ = some (sumF (fun t => i 230 (40 + 14 * t + 5)) m (k + 1) (a + (fun t => i 230 (40 + 14 * t + 5)) k), mk E i j d)
    unfold f_X6_paidAll_L4_b
    have h10 : k < 10 := by omega
    rw [ob_M h, R_now h, ar_now3 h, I_230 h.1, hM, if_neg (nI_ge (by omega) (by omega)), ← ih (k + 1) f _ (by omega) (by omega)]
    rw [ob_M h, x_of5 h h10, cl_go, bnd_go, bnd_go, nI_1]
theorem x_paidAll (h : Ev E) (w : WF B (i 230) (d 233)) : f_X6_paidAll (mk E i j d) (zA E 229) = some (sPaidAll (i 230), mk E i j d) := by
  have hM4 := w.n3.2
  exact x_paidAll_L h w (cN (i 230) 3) 0 1000 0 (by omega) (by omega)
theorem x_goneGuests_L (h : Ev E) (w : WF B (i 230) (d 233)) : ∀ m k fuel a, k + m = cN (i 230) 3 → m < fuel → f_X6_goneGuests_L4 fuel (mk E i j d) (zA E 229) a (nI k) = some (sumF (fun t => if i 230 (40 + 14 * t + 6) = 1 then i 230 (40 + 14 * t + 3) else 0) m k a, mk E i j d) := by
  obtain ⟨hM, hM4⟩ := w.n3
  intro m
  induction m with
  | zero =>
    intro k fuel a hk hf
    obtain ⟨f, rfl⟩ : ∃ f, fuel = f + 1 := ⟨fuel - 1, by omega⟩
    show f_X6_goneGuests_L4_b (f_X6_goneGuests_L4 f) _ _ _ _ = _
    unfold f_X6_goneGuests_L4_b
    rw [ob_M h, R_now h, ar_now3 h, I_230 h.1, hM, if_pos (nI_le (by omega) (by omega))]; rfl
  | succ m ih =>
    intro k fuel a hk hf
    obtain ⟨f, rfl⟩ : ∃ f, fuel = f + 1 := ⟨fuel - 1, by omega⟩
    show f_X6_goneGuests_L4_b (f_X6_goneGuests_L4 f) _ _ _ _ = some (sumF (fun t => if i 230 (40 + 14 * t + 6) = 1 then i 230 (40 + 14 * t + 3) else 0) m (k + 1) (a + (fun t => if i 230 (40 + 14 * t + 6) = 1 then i 230 (40 + 14 * t + 3) else 0) k), mk E i j d)
    unfold f_X6_goneGuests_L4_b
    have h10 : k < 10 := by omega
    rw [ob_M h, R_now h, ar_now3 h, I_230 h.1, hM, if_neg (nI_ge (by omega) (by omega)), ← ih (k + 1) f _ (by omega) (by omega)]
    rw [ob_M h, x_of6 h h10, cl_go]
    by_cases q : i 230 (40 + 14 * k + 6) = 1
    · rw [if_pos q, ob_M h, x_of3 h h10, cl_go, bnd_go, bnd_go, nI_1]; simp only [if_pos q]
    · rw [if_neg q, bnd_go, bnd_go, nI_1]; simp only [if_neg q]
theorem x_goneGuests (h : Ev E) (w : WF B (i 230) (d 233)) : f_X6_goneGuests (mk E i j d) (zA E 229) = some (sGone (i 230), mk E i j d) := by
  have hM4 := w.n3.2
  exact x_goneGuests_L h w (cN (i 230) 3) 0 1000 0 (by omega) (by omega)
end REF3
