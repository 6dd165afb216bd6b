/-! the reference's small methods -/
section REF1
variable {E : Hp} {i : Nat → Nat → Int32} {j : Nat → Nat → Int64} {d : Nat → Nat → UInt64}
theorem bI_1 {b : Prop} [Decidable b] (h : b) : bI b = 1 := if_pos h
theorem bI_0 {b : Prop} [Decidable b] (h : ¬ b) : bI b = 0 := if_neg h
theorem bI_e0 {b : Prop} [Decidable b] : (bI b = 0) = ¬ b := by
  unfold bI; by_cases h : b <;> simp [h]
theorem x_in {S : Hp} (x a b : Int32) : f_X6_in S x a b = some (bI (a ≤ x ∧ x ≤ b), S) := by
  unfold f_X6_in
  by_cases h1 : x < a
  · rw [if_pos h1, bI_0 (fun q => absurd h1 (Int32.not_lt.mpr q.1))]
  · rw [if_neg h1]
    by_cases h2 : b < x
    · rw [if_pos h2, bI_0 (fun q => absurd h2 (Int32.not_lt.mpr q.2))]
    · rw [if_neg h2, bI_1 ⟨Int32.not_lt.mp h1, Int32.not_lt.mp h2⟩]
theorem i_pred {x : Int32} {n : Nat} (hn : n < 2 ^ 30) : (0 ≤ x ∧ x ≤ nI n - 1) ↔ ∃ t, t < n ∧ x = nI t := by
  constructor
  · intro ⟨h0, h1⟩
    obtain ⟨t, ht, rfl⟩ := nI_of (Int32.not_lt.mpr h0)
    refine ⟨t, ?_, rfl⟩
    cases n with
    | zero =>
      exfalso
      have : nI t ≤ -1 := h1
      exact absurd (Int32.le_trans (nI_pos' ht) this) (by decide)
    | succ n => rw [nI_pred] at h1; have := (nI_leI ht (by omega)).mp h1; omega
  · rintro ⟨t, ht, rfl⟩
    refine ⟨nI_pos' (by omega), ?_⟩
    cases n with
    | zero => omega
    | succ n => rw [nI_pred]; exact (nI_leI (by omega) (by omega)).mpr (by omega)
theorem x_noGuide (h : Ev E) (x : Int32) : f_X6_noGuide (mk E i j d) (zA E 229) x = some (bI (¬ (0 ≤ x ∧ x ≤ i 230 1 - 1)), mk E i j d) := by
  unfold f_X6_noGuide
  rw [ob_M h, R_now h, ar_now1 h, I_230 h.1, x_in, cl_go]
  by_cases q : 0 ≤ x ∧ x ≤ i 230 1 - 1
  · rw [bI_1 q, bI_0 (fun e => e q)]; rfl
  · rw [bI_0 q, bI_1 q]; rfl
theorem x_noGuide1 (h : Ev E) {n t : Nat} (hn : i 230 1 = nI n) (hb : n < 2 ^ 30) (ht : t < n) : f_X6_noGuide (mk E i j d) (zA E 229) (nI t) = some (0, mk E i j d) := by
  rw [x_noGuide h, bI_0]
  rw [hn]
  exact fun e => e ((i_pred hb).mpr ⟨t, ht, rfl⟩)
theorem x_noGuide0 (h : Ev E) {n : Nat} {x : Int32} (hn : i 230 1 = nI n) (hb : n < 2 ^ 30) (ht : ¬ ∃ t, t < n ∧ x = nI t) : f_X6_noGuide (mk E i j d) (zA E 229) x = some (1, mk E i j d) := by
  rw [x_noGuide h, bI_1]
  rw [hn]
  exact fun e => ht ((i_pred hb).mp e)
theorem x_noBridge (h : Ev E) (x : Int32) : f_X6_noBridge (mk E i j d) (zA E 229) x = some (bI (¬ (0 ≤ x ∧ x ≤ i 230 2 - 1)), mk E i j d) := by
  unfold f_X6_noBridge
  rw [ob_M h, R_now h, ar_now2 h, I_230 h.1, x_in, cl_go]
  by_cases q : 0 ≤ x ∧ x ≤ i 230 2 - 1
  · rw [bI_1 q, bI_0 (fun e => e q)]; rfl
  · rw [bI_0 q, bI_1 q]; rfl
theorem x_noBridge1 (h : Ev E) {n t : Nat} (hn : i 230 2 = nI n) (hb : n < 2 ^ 30) (ht : t < n) : f_X6_noBridge (mk E i j d) (zA E 229) (nI t) = some (0, mk E i j d) := by
  rw [x_noBridge h, bI_0]
  rw [hn]
  exact fun e => e ((i_pred hb).mpr ⟨t, ht, rfl⟩)
theorem x_noBridge0 (h : Ev E) {n : Nat} {x : Int32} (hn : i 230 2 = nI n) (hb : n < 2 ^ 30) (ht : ¬ ∃ t, t < n ∧ x = nI t) : f_X6_noBridge (mk E i j d) (zA E 229) x = some (1, mk E i j d) := by
  rw [x_noBridge h, bI_1]
  rw [hn]
  exact fun e => ht ((i_pred hb).mp e)
theorem x_noTour (h : Ev E) (x : Int32) : f_X6_noTour (mk E i j d) (zA E 229) x = some (bI (¬ (0 ≤ x ∧ x ≤ i 230 3 - 1)), mk E i j d) := by
  unfold f_X6_noTour
  rw [ob_M h, R_now h, ar_now3 h, I_230 h.1, x_in, cl_go]
  by_cases q : 0 ≤ x ∧ x ≤ i 230 3 - 1
  · rw [bI_1 q, bI_0 (fun e => e q)]; rfl
  · rw [bI_0 q, bI_1 q]; rfl
theorem x_noTour1 (h : Ev E) {n t : Nat} (hn : i 230 3 = nI n) (hb : n < 2 ^ 30) (ht : t < n) : f_X6_noTour (mk E i j d) (zA E 229) (nI t) = some (0, mk E i j d) := by
  rw [x_noTour h, bI_0]
  rw [hn]
  exact fun e => e ((i_pred hb).mpr ⟨t, ht, rfl⟩)
theorem x_noTour0 (h : Ev E) {n : Nat} {x : Int32} (hn : i 230 3 = nI n) (hb : n < 2 ^ 30) (ht : ¬ ∃ t, t < n ∧ x = nI t) : f_X6_noTour (mk E i j d) (zA E 229) x = some (1, mk E i j d) := by
  rw [x_noTour h, bI_1]
  rw [hn]
  exact fun e => ht ((i_pred hb).mp e)
theorem x_of (h : Ev E) {t : Nat} (ht : t < 10) (x : Nat) (hx : x < 14) : f_X6_of (mk E i j d) (zA E 229) (nI t) (nI x) = some (i 230 (40 + 14 * t + x), mk E i j d) := by
  unfold f_X6_of
  rw [ob_M h, R_now h, ar_now h (x := 40 + 14 * nI t + nI x) (40 + 14 * t + x) (nI_lit14 t x) (by omega), I_230 h.1]
theorem x_to (h : Ev E) {t : Nat} (ht : t < 10) (x : Nat) (hx : x < 14) (v : Int32) : f_X6_to (mk E i j d) (zA E 229) (nI t) (nI x) v = some ((), mk E (u2 i 230 (40 + 14 * t + x) v) j d) := by
  unfold f_X6_to
  rw [ob_M h, R_now h, ar_now h (x := 40 + 14 * nI t + nI x) (40 + 14 * t + x) (nI_lit14 t x) (by omega), wI_230 h.1]; rfl
theorem x_ofG (h : Ev E) {g : Nat} (hg : g < 8) (x : Nat) (hx : x < 4) : f_X6_ofGuide (mk E i j d) (zA E 229) (nI g) (nI x) = some (i 230 (8 + 4 * g + x), mk E i j d) := by
  unfold f_X6_ofGuide
  rw [ob_M h, R_now h, ar_now h (x := 8 + 4 * nI g + nI x) (8 + 4 * g + x) (nI_lit4 g x) (by omega), I_230 h.1]
theorem x_guideOn (h : Ev E) {t k : Nat} (ht : t < 10) (hk : k < 4) : f_X6_guideOn (mk E i j d) (zA E 229) (nI t) (nI k) = some (i 230 (48 + 14 * t + k), mk E i j d) := by
  unfold f_X6_guideOn
  rw [ob_M h, show (8 : Int32) + nI k = nI (8 + k) from nI_add 8 k, x_of h ht (8 + k) (by omega), show 40 + 14 * t + (8 + k) = 48 + 14 * t + k by omega]; rfl
theorem x_of0 (h : Ev E) {t : Nat} (ht : t < 10) : f_X6_of (mk E i j d) (zA E 229) (nI t) (0 : Int32) = some (i 230 (40 + 14 * t + 0), mk E i j d) := x_of h ht 0 (by decide)
theorem x_to0 (h : Ev E) {t : Nat} (ht : t < 10) (v : Int32) : f_X6_to (mk E i j d) (zA E 229) (nI t) (0 : Int32) v = some ((), mk E (u2 i 230 (40 + 14 * t + 0) v) j d) := x_to h ht 0 (by decide) v
theorem x_of1 (h : Ev E) {t : Nat} (ht : t < 10) : f_X6_of (mk E i j d) (zA E 229) (nI t) (1 : Int32) = some (i 230 (40 + 14 * t + 1), mk E i j d) := x_of h ht 1 (by decide)
theorem x_to1 (h : Ev E) {t : Nat} (ht : t < 10) (v : Int32) : f_X6_to (mk E i j d) (zA E 229) (nI t) (1 : Int32) v = some ((), mk E (u2 i 230 (40 + 14 * t + 1) v) j d) := x_to h ht 1 (by decide) v
theorem x_of2 (h : Ev E) {t : Nat} (ht : t < 10) : f_X6_of (mk E i j d) (zA E 229) (nI t) (2 : Int32) = some (i 230 (40 + 14 * t + 2), mk E i j d) := x_of h ht 2 (by decide)
theorem x_to2 (h : Ev E) {t : Nat} (ht : t < 10) (v : Int32) : f_X6_to (mk E i j d) (zA E 229) (nI t) (2 : Int32) v = some ((), mk E (u2 i 230 (40 + 14 * t + 2) v) j d) := x_to h ht 2 (by decide) v
theorem x_of3 (h : Ev E) {t : Nat} (ht : t < 10) : f_X6_of (mk E i j d) (zA E 229) (nI t) (3 : Int32) = some (i 230 (40 + 14 * t + 3), mk E i j d) := x_of h ht 3 (by decide)
theorem x_to3 (h : Ev E) {t : Nat} (ht : t < 10) (v : Int32) : f_X6_to (mk E i j d) (zA E 229) (nI t) (3 : Int32) v = some ((), mk E (u2 i 230 (40 + 14 * t + 3) v) j d) := x_to h ht 3 (by decide) v
theorem x_of4 (h : Ev E) {t : Nat} (ht : t < 10) : f_X6_of (mk E i j d) (zA E 229) (nI t) (4 : Int32) = some (i 230 (40 + 14 * t + 4), mk E i j d) := x_of h ht 4 (by decide)
theorem x_to4 (h : Ev E) {t : Nat} (ht : t < 10) (v : Int32) : f_X6_to (mk E i j d) (zA E 229) (nI t) (4 : Int32) v = some ((), mk E (u2 i 230 (40 + 14 * t + 4) v) j d) := x_to h ht 4 (by decide) v
theorem x_of5 (h : Ev E) {t : Nat} (ht : t < 10) : f_X6_of (mk E i j d) (zA E 229) (nI t) (5 : Int32) = some (i 230 (40 + 14 * t + 5), mk E i j d) := x_of h ht 5 (by decide)
theorem x_to5 (h : Ev E) {t : Nat} (ht : t < 10) (v : Int32) : f_X6_to (mk E i j d) (zA E 229) (nI t) (5 : Int32) v = some ((), mk E (u2 i 230 (40 + 14 * t + 5) v) j d) := x_to h ht 5 (by decide) v
theorem x_of6 (h : Ev E) {t : Nat} (ht : t < 10) : f_X6_of (mk E i j d) (zA E 229) (nI t) (6 : Int32) = some (i 230 (40 + 14 * t + 6), mk E i j d) := x_of h ht 6 (by decide)
theorem x_to6 (h : Ev E) {t : Nat} (ht : t < 10) (v : Int32) : f_X6_to (mk E i j d) (zA E 229) (nI t) (6 : Int32) v = some ((), mk E (u2 i 230 (40 + 14 * t + 6) v) j d) := x_to h ht 6 (by decide) v
theorem x_of7 (h : Ev E) {t : Nat} (ht : t < 10) : f_X6_of (mk E i j d) (zA E 229) (nI t) (7 : Int32) = some (i 230 (40 + 14 * t + 7), mk E i j d) := x_of h ht 7 (by decide)
theorem x_to7 (h : Ev E) {t : Nat} (ht : t < 10) (v : Int32) : f_X6_to (mk E i j d) (zA E 229) (nI t) (7 : Int32) v = some ((), mk E (u2 i 230 (40 + 14 * t + 7) v) j d) := x_to h ht 7 (by decide) v
theorem x_of8 (h : Ev E) {t : Nat} (ht : t < 10) : f_X6_of (mk E i j d) (zA E 229) (nI t) (8 : Int32) = some (i 230 (40 + 14 * t + 8), mk E i j d) := x_of h ht 8 (by decide)
theorem x_to8 (h : Ev E) {t : Nat} (ht : t < 10) (v : Int32) : f_X6_to (mk E i j d) (zA E 229) (nI t) (8 : Int32) v = some ((), mk E (u2 i 230 (40 + 14 * t + 8) v) j d) := x_to h ht 8 (by decide) v
theorem x_ofG0 (h : Ev E) {g : Nat} (hg : g < 8) : f_X6_ofGuide (mk E i j d) (zA E 229) (nI g) (0 : Int32) = some (i 230 (8 + 4 * g + 0), mk E i j d) := x_ofG h hg 0 (by decide)
theorem x_ofG1 (h : Ev E) {g : Nat} (hg : g < 8) : f_X6_ofGuide (mk E i j d) (zA E 229) (nI g) (1 : Int32) = some (i 230 (8 + 4 * g + 1), mk E i j d) := x_ofG h hg 1 (by decide)
theorem x_ofG2 (h : Ev E) {g : Nat} (hg : g < 8) : f_X6_ofGuide (mk E i j d) (zA E 229) (nI g) (2 : Int32) = some (i 230 (8 + 4 * g + 2), mk E i j d) := x_ofG h hg 2 (by decide)
theorem x_ofG3 (h : Ev E) {g : Nat} (hg : g < 8) : f_X6_ofGuide (mk E i j d) (zA E 229) (nI g) (3 : Int32) = some (i 230 (8 + 4 * g + 3), mk E i j d) := x_ofG h hg 3 (by decide)
theorem x_isOpen (h : Ev E) {t : Nat} (ht : t < 10) : f_X6_isOpen (mk E i j d) (zA E 229) (nI t) = some (bI (i 230 (40 + 14 * t + 6) = 0), mk E i j d) := by
  unfold f_X6_isOpen
  rw [ob_M h, x_of6 h ht, cl_go]
  by_cases q : i 230 (40 + 14 * t + 6) = 0
  · rw [if_pos q, bI_1 q]
  · rw [if_neg q, bI_0 q]
theorem x_isCert {S : Hp} (x y : Int32) : f_X6_isCertificate S x y = some (bI ((1 ≤ x ∧ x ≤ 3) ∧ 0 ≤ y ∧ y ≤ 999), S) := by
  unfold f_X6_isCertificate
  rw [x_in, cl_go]
  by_cases q : 1 ≤ x ∧ x ≤ 3
  · rw [bI_1 q, if_neg (by decide), x_in, cl_go]
    by_cases q2 : 0 ≤ y ∧ y ≤ 999
    · rw [bI_1 q2, bI_1 ⟨q, q2⟩]; rfl
    · rw [bI_0 q2, bI_0 (fun e => q2 e.2)]; rfl
  · rw [bI_0 q, bI_0 (fun e => q e.1)]; rfl
end REF1
