/-! the text's numbers -/
section NUMS
variable {E : Hp} {i : Nat → Nat → Int32} {j : Nat → Nat → Int64} {d : Nat → Nat → UInt64} {K : Nat → Int32} {l : Nat}
def num (K : Nat → Int32) (l a : Nat) : Bool × Nat × Int32 :=
  if l ≤ a ∨ ¬ K a = 32 then (false, a, 0)
  else if l ≤ a + 1 ∨ ¬ (48 ≤ K (a + 1) ∧ K (a + 1) ≤ 57) then (false, a + 1, 0)
  else if K (a + 1) = 48 ∨ l ≤ a + 2 ∨ ¬ (48 ≤ K (a + 2) ∧ K (a + 2) ≤ 57) then (true, a + 2, K (a + 1) - 48)
  else (true, a + 3, 10 * (K (a + 1) - 48) + K (a + 2) - 48)
theorem num_le {a : Nat} (ha : a ≤ l) : (num K l a).2.1 ≤ l := by
  unfold num
  by_cases c1 : l ≤ a ∨ ¬ K a = 32
  · rw [if_pos c1]; exact ha
  · rw [if_neg c1]
    by_cases c2 : l ≤ a + 1 ∨ ¬ (48 ≤ K (a + 1) ∧ K (a + 1) ≤ 57)
    · rw [if_pos c2]; show a + 1 ≤ l; omega
    · rw [if_neg c2]
      by_cases c3 : K (a + 1) = 48 ∨ l ≤ a + 2 ∨ ¬ (48 ≤ K (a + 2) ∧ K (a + 2) ≤ 57)
      · rw [if_pos c3]; show a + 2 ≤ l; omega
      · rw [if_neg c3]; show a + 3 ≤ l; omega
theorem dig_of {x : Int32} (h : 48 ≤ x ∧ x ≤ 57) : ∃ c : Nat, c ≤ 9 ∧ x = nI (48 + c) := by
  obtain ⟨c, hc, rfl⟩ := nI_of (x := x) (Int32.not_lt.mpr (Int32.le_trans (by decide) h.1))
  have h1 := (nI_leI (a := 48) (by decide) hc).mp h.1
  have h2 := (nI_leI (b := 57) hc (by decide)).mp h.2
  exact ⟨c - 48, by omega, by rw [show 48 + (c - 48) = c by omega]⟩
theorem dig_sub {c : Nat} : nI (48 + c) - 48 = nI c := by
  rw [show nI (48 + c) - 48 = nI (48 + c - 48) from pk_sub (a := 48 + c) (b := 48) (by omega), show 48 + c - 48 = c by omega]
theorem nI_m5' {n : Nat} (h : n < 1000) : ¬ nI n = -5 := fun e => by
  have e1 : (nI n).toInt = (-5 : Int32).toInt := congrArg Int32.toInt e
  rw [nI_toInt (by omega)] at e1
  have : (-5 : Int32).toInt = -5 := rfl
  omega
theorem nI_m1' {n : Nat} (h : n < 1000) : ¬ nI n = -1 := fun e => by
  have e1 : (nI n).toInt = (-1 : Int32).toInt := congrArg Int32.toInt e
  rw [nI_toInt (by omega)] at e1
  have : (-1 : Int32).toInt = -1 := rfl
  omega
theorem num_v {a : Nat} (h : (num K l a).1 = true) : ¬ (num K l a).2.2 = -5 := by
  unfold num at h ⊢
  by_cases c1 : l ≤ a ∨ ¬ K a = 32
  · rw [if_pos c1] at h; cases h
  · rw [if_neg c1] at h ⊢
    by_cases c2 : l ≤ a + 1 ∨ ¬ (48 ≤ K (a + 1) ∧ K (a + 1) ≤ 57)
    · rw [if_pos c2] at h; cases h
    · rw [if_neg c2] at h ⊢
      have d1 : 48 ≤ K (a + 1) ∧ K (a + 1) ≤ 57 := Classical.not_not.mp (fun z => c2 (Or.inr z))
      obtain ⟨c, hc, e1⟩ := dig_of d1
      by_cases c3 : K (a + 1) = 48 ∨ l ≤ a + 2 ∨ ¬ (48 ≤ K (a + 2) ∧ K (a + 2) ≤ 57)
      · rw [if_pos c3]
        show ¬ K (a + 1) - 48 = -5
        rw [e1, dig_sub]; exact nI_m5' (by omega)
      · rw [if_neg c3]
        have d2 : 48 ≤ K (a + 2) ∧ K (a + 2) ≤ 57 := Classical.not_not.mp (fun z => c3 (Or.inr (Or.inr z)))
        obtain ⟨c', hc', e2⟩ := dig_of d2
        show ¬ 10 * (K (a + 1) - 48) + K (a + 2) - 48 = -5
        rw [e1, dig_sub, e2, show (10 : Int32) * nI c = nI (10 * c) from pk_mul 10 c, nI_add, show 10 * c + (48 + c') = 48 + (10 * c + c') by omega, dig_sub]
        exact nI_m5' (by omega)
/-! the class -/
theorem y_blank (h : Ev E) (hl : l ≤ 40) (h1 : i 227 1 = nI l) {a : Nat} (ha : a ≤ 40) : f_X3_isBlankAt (mk E i j d) (zA E 227) (nI a) = some (bI (¬ (l ≤ a ∨ ¬ i 228 a = 32)), mk E i j d) := by
  unfold f_X3_isBlankAt
  rw [ob_Y h, I_227 h.1, h1]
  by_cases c1 : l ≤ a
  · rw [if_pos (nI_le c1 (by omega)), bI_0 (fun z => z (Or.inl c1))]
  · rw [if_neg (nI_ge (by omega) (by omega)), R_Y h, ar_Y h (by omega), I_228 h.1]
    by_cases c2 : i 228 a = 32
    · rw [if_pos c2, bI_1 (show ¬ (l ≤ a ∨ ¬ i 228 a = 32) from fun z => z.elim c1 (fun y => y c2))]
    · rw [if_neg c2, bI_0 (fun z => z (Or.inr c2))]
theorem y_digit (h : Ev E) (hl : l ≤ 40) (h1 : i 227 1 = nI l) {a : Nat} (ha : a ≤ 100) : f_X3_isDigitAt (mk E i j d) (zA E 227) (nI a) = some (bI (¬ (l ≤ a ∨ ¬ (48 ≤ i 228 a ∧ i 228 a ≤ 57))), mk E i j d) := by
  unfold f_X3_isDigitAt
  rw [ob_Y h, I_227 h.1, h1]
  by_cases c1 : l ≤ a
  · rw [if_pos (nI_le c1 (by omega)), bI_0 (fun z => z (Or.inl c1))]
  · rw [if_neg (nI_ge (by omega) (by omega)), R_Y h, ar_Y h (by omega), I_228 h.1]
    by_cases c2 : i 228 a < 48
    · rw [if_pos c2, bI_0 (fun z => z (Or.inr (fun y => absurd c2 (Int32.not_lt.mpr y.1))))]
    · rw [if_neg c2, ar_Y h (by omega), I_228 h.1]
      by_cases c3 : 57 < i 228 a
      · rw [if_pos c3, bI_0 (fun z => z (Or.inr (fun y => absurd c3 (Int32.not_lt.mpr y.2))))]
      · rw [if_neg c3, bI_1 (show ¬ (l ≤ a ∨ ¬ (48 ≤ i 228 a ∧ i 228 a ≤ 57)) from fun z => z.elim c1 (fun y => y ⟨Int32.not_lt.mp c2, Int32.not_lt.mp c3⟩))]
theorem y_digits (h : Ev E) (hl : l ≤ 40) (h1 : i 227 1 = nI l) {a b : Nat} (ha : a < l) (hb : b = a + 1) : f_X3_digitsAt (mk E i j d) (zA E 227) (nI a) = some (if i 228 a = 48 ∨ l ≤ b ∨ ¬ (48 ≤ i 228 b ∧ i 228 b ≤ 57) then 1 else 2, mk E i j d) := by
  subst hb
  unfold f_X3_digitsAt
  rw [ob_Y h, R_Y h, ar_Y h (by omega), I_228 h.1]
  by_cases c1 : i 228 a = 48
  · rw [if_pos c1, if_pos (Or.inl c1)]
  · rw [if_neg c1, ob_Y h, nI_1, y_digit h hl h1 (by omega), cl_go]
    by_cases c2 : l ≤ a + 1 ∨ ¬ (48 ≤ i 228 (a + 1) ∧ i 228 (a + 1) ≤ 57)
    · rw [bI_0 (fun z => z c2), if_pos rfl, if_pos (Or.inr c2)]
    · rw [bI_1 c2, if_neg (by decide), if_neg (fun z => z.elim c1 c2)]
theorem y_keep1 (h : Ev E) {a t : Nat} (ha : a < 40) (ht : t < 2) : f_X3_keepNumber (mk E i j d) (zA E 227) (nI t) (nI a) 1 = some ((), mk E (u2 i 227 (3 + t) (i 228 a - 48)) j d) := by
  unfold f_X3_keepNumber
  rw [ob_Y h, R_Y h, ar_Y h ha, bnd_go, I_228 h.1, if_neg (by decide)]
  have : t = 0 ∨ t = 1 := by omega
  rcases this with rfl | rfl
  · rw [if_pos (show nI 0 = 0 from rfl), ob_Y h, wI_227 h.1, bnd_go]
  · rw [if_neg (show ¬ nI 1 = 0 by decide), ob_Y h, wI_227 h.1, bnd_go]
theorem y_keep2 (h : Ev E) {a b t : Nat} (hb : b = a + 1) (ha : b < 40) (ht : t < 2) : f_X3_keepNumber (mk E i j d) (zA E 227) (nI t) (nI a) 2 = some ((), mk E (u2 i 227 (3 + t) (10 * (i 228 a - 48) + i 228 b - 48)) j d) := by
  subst hb
  unfold f_X3_keepNumber
  rw [ob_Y h, R_Y h, ar_Y h (by omega), bnd_go, I_228 h.1, if_pos rfl, nI_1, ar_Y h ha, bnd_go, I_228 h.1]
  have : t = 0 ∨ t = 1 := by omega
  rcases this with rfl | rfl
  · rw [if_pos (show nI 0 = 0 from rfl), ob_Y h, wI_227 h.1, bnd_go]
  · rw [if_neg (show ¬ nI 1 = 0 by decide), ob_Y h, wI_227 h.1, bnd_go]
theorem y_num (h : Ev E) (hl : l ≤ 40) (h1 : i 227 1 = nI l) {a n t f : Nat} (ha : a ≤ l) (hn : n ≤ 2) (ht : t < n) : f_X3_read_L39 (f + 1) (mk E i j d) (zA E 227) (nI a) (nI n) (nI t) = if (num (i 228) l a).1 = true then f_X3_read_L39 f (mk E (u2 i 227 (3 + t) (num (i 228) l a).2.2) j d) (zA E 227) (nI (num (i 228) l a).2.1) (nI n) (nI (t + 1)) else some (nI (num (i 228) l a).2.1, mk E i j d) := by
  show f_X3_read_L39_b (f_X3_read_L39 f) _ _ _ _ _ = _
  unfold f_X3_read_L39_b
  rw [if_neg (nI_ge ht (by omega)), ob_Y h, y_blank h hl h1 (by omega), cl_go]
  by_cases c1 : l ≤ a ∨ ¬ i 228 a = 32
  · have T : num (i 228) l a = (false, a, 0) := if_pos c1
    rw [bI_0 (fun z => z c1), if_pos rfl, T, if_neg (show ¬ (false, a, (0 : Int32)).1 = true from Bool.false_ne_true)]
  · rw [bI_1 c1, if_neg (by decide), bnd_go, nI_1, ob_Y h, y_digit h hl h1 (by omega), cl_go]
    by_cases c2 : l ≤ a + 1 ∨ ¬ (48 ≤ i 228 (a + 1) ∧ i 228 (a + 1) ≤ 57)
    · have T : num (i 228) l a = (false, a + 1, 0) := by unfold num; rw [if_neg c1, if_pos c2]
      rw [bI_0 (fun z => z c2), if_pos rfl, T, if_neg (show ¬ (false, a + 1, (0 : Int32)).1 = true from Bool.false_ne_true)]
    · rw [bI_1 c2, if_neg (by decide), ob_Y h, y_digits h hl h1 (a := a + 1) (b := a + 2) (by omega) rfl, cl_go, ob_Y h]
      by_cases c3 : i 228 (a + 1) = 48 ∨ l ≤ a + 2 ∨ ¬ (48 ≤ i 228 (a + 2) ∧ i 228 (a + 2) ≤ 57)
      · have T : num (i 228) l a = (true, a + 2, i 228 (a + 1) - 48) := by unfold num; rw [if_neg c1, if_neg c2, if_pos c3]
        rw [if_pos c3, y_keep1 h (a := a + 1) (by omega) (by omega), cl_go, bnd_go, bnd_go, nI_1, nI_1, T, if_pos rfl]
      · have T : num (i 228) l a = (true, a + 3, 10 * (i 228 (a + 1) - 48) + i 228 (a + 2) - 48) := by unfold num; rw [if_neg c1, if_neg c2, if_neg c3]
        rw [if_neg c3, y_keep2 h (a := a + 1) (b := a + 2) rfl (by omega) (by omega), cl_go, bnd_go, bnd_go, nI_1 t, show nI (a + 1) + 2 = nI (a + 1 + 2) from nI_add (a + 1) 2, T, if_pos rfl]
theorem y_end (h : Ev E) (hl : l ≤ 40) (h1 : i 227 1 = nI l) {a n f : Nat} (ha : a ≤ l) (hn : n ≤ 2) : f_X3_read_L39 (f + 1) (mk E i j d) (zA E 227) (nI a) (nI n) (nI n) = if l ≤ a then some (-1, mk E i j d) else some (nI a, mk E i j d) := by
  show f_X3_read_L39_b (f_X3_read_L39 f) _ _ _ _ _ = _
  unfold f_X3_read_L39_b
  rw [if_pos (nI_le (Nat.le_refl _) (by omega)), ob_Y h, I_227 h.1, h1]
  by_cases c : l ≤ a
  · rw [if_pos (nI_le c (by omega)), if_pos c]
  · rw [if_neg (nI_ge (by omega) (by omega)), if_neg c]
/-! the reference -/
theorem x_num (h : Ev E) {a : Nat} (hl : l ≤ 40) (ha : a ≤ l) (h8 : i 229 8 = nI l) (h10 : i 229 10 = nI a) : ∃ i', f_X6_number (mk E i j d) (zA E 229) = some (if (num (i 236) l a).1 = true then (num (i 236) l a).2.2 else -5, mk E i' j d) ∧ (∀ q, q ≠ 229 → i' q = i q) ∧ (∀ x, x ≠ 10 → i' 229 x = i 229 x) ∧ i' 229 10 = nI (num (i 236) l a).2.1 := by
  unfold f_X6_number
  have u236 : ∀ v, (u2 i 229 10 v) 236 = i 236 := fun v => u2_row _ _ (by decide)
  have u8 : ∀ v, (u2 i 229 10 v) 229 8 = nI l := fun v => by rw [u2_nek _ _ (by decide)]; exact h8
  have uu : ∀ v w, u2 (u2 i 229 10 v) 229 10 w = u2 i 229 10 w := fun v w => by
    funext q x
    by_cases e : q = 229 ∧ x = 10
    · obtain ⟨rfl, rfl⟩ := e
      rw [u2_self, u2_self]
    · show (if q = 229 ∧ x = 10 then w else if q = 229 ∧ x = 10 then v else i q x) = if q = 229 ∧ x = 10 then w else i q x
      rw [if_neg e, if_neg e, if_neg e]
  rw [ob_M h, I_229 h.1 8, h8, I_229 h.1 10, h10]
  by_cases c1 : l ≤ a
  · have T : num (i 236) l a = (false, a, 0) := if_pos (Or.inl c1)
    rw [if_pos (nI_le c1 (by omega)), T]
    exact ⟨i, rfl, fun _ _ => rfl, fun _ _ => rfl, h10⟩
  · rw [if_neg (nI_ge (by omega) (by omega)), R_txt h, ar_txtn h (by omega), I_236 h.1]
    by_cases c2 : i 236 a = 32
    · have n1 : ¬ (l ≤ a ∨ ¬ i 236 a = 32) := fun z => z.elim c1 (fun y => y c2)
      rw [if_pos c2, ob_M h, nI_1, wI_229 h.1, bnd_go, ob_M h, I_229 h.1 8, u8, I_229 h.1 10, u2_self]
      by_cases c3 : l ≤ a + 1
      · have T : num (i 236) l a = (false, a + 1, 0) := by unfold num; rw [if_neg n1, if_pos (Or.inl c3)]
        rw [if_pos (nI_le c3 (by omega)), T]
        exact ⟨_, rfl, fun q hq => u2_row _ _ hq, fun x hx => u2_nek _ _ hx, u2_self _ _ _ _⟩
      · rw [if_neg (nI_ge (by omega) (by omega)), R_txt h, ar_txtn h (by omega), I_236 h.1, u236, x_in, cl_go]
        by_cases c4 : 48 ≤ i 236 (a + 1) ∧ i 236 (a + 1) ≤ 57
        · have n2 : ¬ (l ≤ a + 1 ∨ ¬ (48 ≤ i 236 (a + 1) ∧ i 236 (a + 1) ≤ 57)) := fun z => z.elim c3 (fun y => y c4)
          obtain ⟨c, hc, ec⟩ := dig_of c4
          have hv : i 236 (a + 1) - 48 = nI c := by rw [ec, dig_sub]
          rw [bI_1 c4, if_neg (by decide), ob_M h, R_txt h, I_229 h.1 10, u2_self, ar_txtn h (by omega), bnd_go, I_236 h.1, u236, ob_M h, show nI (a + 1) + 1 = nI (a + 2) from nI_1 (a + 1), wI_229 h.1, bnd_go, uu]
          by_cases c5 : c = 0
          · have e48 : i 236 (a + 1) = 48 := by rw [ec, c5]; rfl
            have T : num (i 236) l a = (true, a + 2, i 236 (a + 1) - 48) := by unfold num; rw [if_neg n1, if_neg n2, if_pos (Or.inl e48)]
            rw [if_pos (show i 236 (a + 1) - 48 ≤ 0 by rw [hv, c5]; decide), T]
            exact ⟨_, rfl, fun q hq => u2_row _ _ hq, fun x hx => u2_nek _ _ hx, u2_self _ _ _ _⟩
          · have n48 : ¬ i 236 (a + 1) = 48 := fun e => by
              rw [ec] at e
              have := (nI_eq (b := 48) (by omega) (by decide)).mp e
              omega
            rw [if_neg (show ¬ i 236 (a + 1) - 48 ≤ 0 by rw [hv]; exact nI_nle (by omega) (by omega)), ob_M h, I_229 h.1 8, u8, I_229 h.1 10, u2_self]
            by_cases c6 : l ≤ a + 2
            · have T : num (i 236) l a = (true, a + 2, i 236 (a + 1) - 48) := by unfold num; rw [if_neg n1, if_neg n2, if_pos (Or.inr (Or.inl c6))]
              rw [if_pos (nI_le c6 (by omega)), T]
              exact ⟨_, rfl, fun q hq => u2_row _ _ hq, fun x hx => u2_nek _ _ hx, u2_self _ _ _ _⟩
            · rw [if_neg (nI_ge (by omega) (by omega)), R_txt h, ar_txtn h (by omega), I_236 h.1, u236, x_in, cl_go]
              by_cases c7 : 48 ≤ i 236 (a + 2) ∧ i 236 (a + 2) ≤ 57
              · have T : num (i 236) l a = (true, a + 3, 10 * (i 236 (a + 1) - 48) + i 236 (a + 2) - 48) := by
                  unfold num
                  rw [if_neg n1, if_neg n2, if_neg (fun z => z.elim n48 (fun y => y.elim c6 (fun x => x c7)))]
                rw [bI_1 c7, if_neg (by decide), ob_M h, R_txt h, I_229 h.1 10, u2_self, ar_txtn h (by omega), bnd_go, I_236 h.1, u236, ob_M h, show nI (a + 2) + 1 = nI (a + 3) from nI_1 (a + 2), wI_229 h.1, bnd_go, uu, T]
                exact ⟨_, rfl, fun q hq => u2_row _ _ hq, fun x hx => u2_nek _ _ hx, u2_self _ _ _ _⟩
              · have T : num (i 236) l a = (true, a + 2, i 236 (a + 1) - 48) := by unfold num; rw [if_neg n1, if_neg n2, if_pos (Or.inr (Or.inr c7))]
                rw [bI_0 c7, if_pos rfl, T]
                exact ⟨_, rfl, fun q hq => u2_row _ _ hq, fun x hx => u2_nek _ _ hx, u2_self _ _ _ _⟩
        · have T : num (i 236) l a = (false, a + 1, 0) := by unfold num; rw [if_neg n1, if_pos (Or.inr c4)]
          rw [bI_0 c4, if_pos rfl, T]
          exact ⟨_, rfl, fun q hq => u2_row _ _ hq, fun x hx => u2_nek _ _ hx, u2_self _ _ _ _⟩
    · have T : num (i 236) l a = (false, a, 0) := if_pos (Or.inr c2)
      rw [if_neg c2, T]
      exact ⟨i, rfl, fun _ _ => rfl, fun _ _ => rfl, h10⟩
end NUMS
