/-! the text: words, numbers, commands -/
section TXTS
variable {E : Hp} {i : Nat → Nat → Int32} {j : Nat → Nat → Int64} {d : Nat → Nat → UInt64} {K : Nat → Int32} {l : Nat}
theorem bI_c {p q : Prop} [Decidable p] [Decidable q] (h : p ↔ q) : bI p = bI q := by
  by_cases c : p
  · rw [bI_1 c, bI_1 (h.mp c)]
  · rw [bI_0 c, bI_0 (fun e => c (h.mpr e))]
def wl (K : Nat → Int32) : Nat → Nat → Nat
  | 0, k => k
  | m + 1, k => if K k < 97 then k else if 122 < K k then k else wl K m (k + 1)
theorem wl_le : ∀ m k, wl K m k ≤ k + m
  | 0, k => Nat.le_refl k
  | m + 1, k => by
    have := wl_le m (k + 1)
    show (if K k < 97 then k else if 122 < K k then k else wl K m (k + 1)) ≤ _
    split
    · omega
    · split <;> omega
theorem y_wl_L (h : Ev E) (hl : l ≤ 40) (h1 : i 227 1 = nI l) : ∀ m k fuel, k + m = l → m < fuel → f_X3_wordLength_L2 fuel (mk E i j d) (zA E 227) (nI k) = some (nI (wl (i 228) m k), mk E i j d) := by
  intro m
  induction m with
  | zero =>
    intro k fuel hk hf
    obtain ⟨f, rfl⟩ : ∃ f, fuel = f + 1 := ⟨fuel - 1, by omega⟩
    show f_X3_wordLength_L2_b (f_X3_wordLength_L2 f) _ _ _ = _
    unfold f_X3_wordLength_L2_b
    rw [ob_Y h, I_227 h.1, h1, if_pos (nI_le (by omega) (by omega))]; rfl
  | succ m ih =>
    intro k fuel hk hf
    obtain ⟨f, rfl⟩ : ∃ f, fuel = f + 1 := ⟨fuel - 1, by omega⟩
    show f_X3_wordLength_L2_b (f_X3_wordLength_L2 f) _ _ _ = some (nI (if i 228 k < 97 then k else if 122 < i 228 k then k else wl (i 228) m (k + 1)), mk E i j d)
    unfold f_X3_wordLength_L2_b
    have IH := ih (k + 1) f (by omega) (by omega)
    rw [ob_Y h, I_227 h.1, h1, if_neg (nI_ge (by omega) (by omega)), R_Y h, ar_Y h (by omega), I_228 h.1]
    by_cases c1 : i 228 k < 97
    · rw [if_pos c1, if_pos c1]
    · rw [if_neg c1, if_neg c1, ar_Y h (by omega), I_228 h.1]
      by_cases c2 : 122 < i 228 k
      · rw [if_pos c2, if_pos c2]
      · rw [if_neg c2, if_neg c2, bnd_go, nI_1, IH]
theorem y_wl (h : Ev E) (hl : l ≤ 40) (h1 : i 227 1 = nI l) : f_X3_wordLength (mk E i j d) (zA E 227) = some (nI (wl (i 228) l 0), mk E i j d) := y_wl_L h hl h1 l 0 1000 (by omega) (by omega)
def eqW (K : Nat → Int32) (y : Nat) : Nat → Nat → Bool
  | 0, _ => true
  | m + 1, k => decide (K k = (txB.getD y []).getD k 0) && eqW K y m (k + 1)
theorem y_isW_L (h : Ev E) {y n : Nat} (hy : y < 5) (hn : n = txL.getD y 0) (n40 : n ≤ 40) : ∀ m k fuel, k + m = n → m < fuel → f_X3_isWord_L20 fuel (mk E i j d) (zA E 227) y (nI n) (nI k) = some (bI (eqW (i 228) y m k = true), mk E i j d) := by
  intro m
  induction m with
  | zero =>
    intro k fuel hk hf
    obtain ⟨f, rfl⟩ : ∃ f, fuel = f + 1 := ⟨fuel - 1, by omega⟩
    show f_X3_isWord_L20_b (f_X3_isWord_L20 f) _ _ _ _ _ = _
    unfold f_X3_isWord_L20_b
    rw [if_pos (nI_le (by omega) (by omega))]; rfl
  | succ m ih =>
    intro k fuel hk hf
    obtain ⟨f, rfl⟩ : ∃ f, fuel = f + 1 := ⟨fuel - 1, by omega⟩
    show f_X3_isWord_L20_b (f_X3_isWord_L20 f) _ _ _ _ _ = _
    unfold f_X3_isWord_L20_b
    have IH := ih (k + 1) f (by omega) (by omega)
    have g2 : ¬ (nI k < 0 ∨ txL.getD y 0 ≤ (nI k).toNatClampNeg) := by rw [← hn]; exact nI_in (by omega) (by omega)
    rw [if_neg (nI_ge (by omega) (by omega)), ob_Y h, R_Y h, ar_Y h (by omega), gd_go hy, gd_go g2, I_228 h.1, nI_clamp (by omega)]
    by_cases c : i 228 k = (txB.getD y []).getD k 0
    · rw [if_pos c, bnd_go, nI_1, IH]
      show some (bI (eqW (i 228) y m (k + 1) = true), mk E i j d) = some (bI ((decide (i 228 k = (txB.getD y []).getD k 0) && eqW (i 228) y m (k + 1)) = true), mk E i j d)
      rw [decide_eq_true c, Bool.true_and]
    · rw [if_neg c, bI_0]
      show ¬ ((decide (i 228 k = (txB.getD y []).getD k 0) && eqW (i 228) y m (k + 1)) = true)
      rw [decide_eq_false c]; simp
theorem y_isW (h : Ev E) (hl : l ≤ 40) (h1 : i 227 1 = nI l) {y : Nat} (hy : y < 5) {W : Nat} (hW : W ≤ l) : f_X3_isWord (mk E i j d) (zA E 227) y (nI W) = some (bI (W = txL.getD y 0 ∧ eqW (i 228) y W 0 = true), mk E i j d) := by
  have n6 : ∀ y, y < 5 → txL.getD y 0 ≤ 6 := by decide
  have n6 := n6 y hy
  unfold f_X3_isWord
  rw [gd_go hy]
  by_cases c : W = txL.getD y 0
  · rw [if_pos (congrArg nI c), ob_Y h, I_227 h.1, h1, if_pos (nI_le hW (by omega))]
    rw [show f_X3_isWord_L20 1000 (mk E i j d) (zA E 227) y (nI W) 0 = _ from y_isW_L h hy c (by omega) W 0 1000 (by omega) (by omega)]
    rw [bI_c (⟨fun e => ⟨c, e⟩, fun e => e.2⟩ : eqW (i 228) y W 0 = true ↔ (W = txL.getD y 0 ∧ eqW (i 228) y W 0 = true))]
  · rw [if_neg (fun e => c ((nI_eq (by omega) (by omega)).mp e)), bI_0 (fun q => c q.1)]
theorem eq0 {W : Nat} : (W = txL.getD 0 0 ∧ eqW K 0 W 0 = true) ↔ (W = 4 ∧ K 0 = 98 ∧ K 1 = 111 ∧ K 2 = 111 ∧ K 3 = 107) := by
  constructor
  · rintro ⟨h1, h2⟩
    have h1 : W = 4 := h1
    subst h1
    have h2 : (decide (K 0 = 98) && (decide (K 1 = 111) && (decide (K 2 = 111) && (decide (K 3 = 107) && true)))) = true := h2
    simp only [Bool.and_eq_true, decide_eq_true_eq, Bool.and_true] at h2
    exact ⟨rfl, h2⟩
  · rintro ⟨rfl, h2⟩
    refine ⟨rfl, ?_⟩
    show (decide (K 0 = 98) && (decide (K 1 = 111) && (decide (K 2 = 111) && (decide (K 3 = 107) && true)))) = true
    simp only [Bool.and_eq_true, decide_eq_true_eq, Bool.and_true]
    exact h2
theorem eq4 {W : Nat} : (W = txL.getD 4 0 ∧ eqW K 4 W 0 = true) ↔ (W = 4 ∧ K 0 = 108 ∧ K 1 = 101 ∧ K 2 = 97 ∧ K 3 = 100) := by
  constructor
  · rintro ⟨h1, h2⟩
    have h1 : W = 4 := h1
    subst h1
    have h2 : (decide (K 0 = 108) && (decide (K 1 = 101) && (decide (K 2 = 97) && (decide (K 3 = 100) && true)))) = true := h2
    simp only [Bool.and_eq_true, decide_eq_true_eq, Bool.and_true] at h2
    exact ⟨rfl, h2⟩
  · rintro ⟨rfl, h2⟩
    refine ⟨rfl, ?_⟩
    show (decide (K 0 = 108) && (decide (K 1 = 101) && (decide (K 2 = 97) && (decide (K 3 = 100) && true)))) = true
    simp only [Bool.and_eq_true, decide_eq_true_eq, Bool.and_true]
    exact h2
theorem eq1 {W : Nat} : (W = txL.getD 1 0 ∧ eqW K 1 W 0 = true) ↔ (W = 5 ∧ K 0 = 108 ∧ K 1 = 101 ∧ K 2 = 97 ∧ K 3 = 118 ∧ K 4 = 101) := by
  constructor
  · rintro ⟨h1, h2⟩
    have h1 : W = 5 := h1
    subst h1
    have h2 : (decide (K 0 = 108) && (decide (K 1 = 101) && (decide (K 2 = 97) && (decide (K 3 = 118) && (decide (K 4 = 101) && true))))) = true := h2
    simp only [Bool.and_eq_true, decide_eq_true_eq, Bool.and_true] at h2
    exact ⟨rfl, h2⟩
  · rintro ⟨rfl, h2⟩
    refine ⟨rfl, ?_⟩
    show (decide (K 0 = 108) && (decide (K 1 = 101) && (decide (K 2 = 97) && (decide (K 3 = 118) && (decide (K 4 = 101) && true))))) = true
    simp only [Bool.and_eq_true, decide_eq_true_eq, Bool.and_true]
    exact h2
theorem eq2 {W : Nat} : (W = txL.getD 2 0 ∧ eqW K 2 W 0 = true) ↔ (W = 5 ∧ K 0 = 109 ∧ K 1 = 101 ∧ K 2 = 114 ∧ K 3 = 103 ∧ K 4 = 101) := by
  constructor
  · rintro ⟨h1, h2⟩
    have h1 : W = 5 := h1
    subst h1
    have h2 : (decide (K 0 = 109) && (decide (K 1 = 101) && (decide (K 2 = 114) && (decide (K 3 = 103) && (decide (K 4 = 101) && true))))) = true := h2
    simp only [Bool.and_eq_true, decide_eq_true_eq, Bool.and_true] at h2
    exact ⟨rfl, h2⟩
  · rintro ⟨rfl, h2⟩
    refine ⟨rfl, ?_⟩
    show (decide (K 0 = 109) && (decide (K 1 = 101) && (decide (K 2 = 114) && (decide (K 3 = 103) && (decide (K 4 = 101) && true))))) = true
    simp only [Bool.and_eq_true, decide_eq_true_eq, Bool.and_true]
    exact h2
theorem eq3 {W : Nat} : (W = txL.getD 3 0 ∧ eqW K 3 W 0 = true) ↔ (W = 6 ∧ K 0 = 99 ∧ K 1 = 97 ∧ K 2 = 110 ∧ K 3 = 99 ∧ K 4 = 101 ∧ K 5 = 108) := by
  constructor
  · rintro ⟨h1, h2⟩
    have h1 : W = 6 := h1
    subst h1
    have h2 : (decide (K 0 = 99) && (decide (K 1 = 97) && (decide (K 2 = 110) && (decide (K 3 = 99) && (decide (K 4 = 101) && (decide (K 5 = 108) && true)))))) = true := h2
    simp only [Bool.and_eq_true, decide_eq_true_eq, Bool.and_true] at h2
    exact ⟨rfl, h2⟩
  · rintro ⟨rfl, h2⟩
    refine ⟨rfl, ?_⟩
    show (decide (K 0 = 99) && (decide (K 1 = 97) && (decide (K 2 = 110) && (decide (K 3 = 99) && (decide (K 4 = 101) && (decide (K 5 = 108) && true)))))) = true
    simp only [Bool.and_eq_true, decide_eq_true_eq, Bool.and_true]
    exact h2
/-- which command: 1 book, 2 leave, 3 merge, 4 cancel, 5 lead; 0 none -/
def cmd (K : Nat → Int32) (W : Nat) : Nat :=
  if W = 4 ∧ K 0 = 98 ∧ K 1 = 111 ∧ K 2 = 111 ∧ K 3 = 107 then 1
  else if W = 5 ∧ K 0 = 108 ∧ K 1 = 101 ∧ K 2 = 97 ∧ K 3 = 118 ∧ K 4 = 101 then 2
  else if W = 5 ∧ K 0 = 109 ∧ K 1 = 101 ∧ K 2 = 114 ∧ K 3 = 103 ∧ K 4 = 101 then 3
  else if W = 6 ∧ K 0 = 99 ∧ K 1 = 97 ∧ K 2 = 110 ∧ K 3 = 99 ∧ K 4 = 101 ∧ K 5 = 108 then 4
  else if W = 4 ∧ K 0 = 108 ∧ K 1 = 101 ∧ K 2 = 97 ∧ K 3 = 100 then 5 else 0
theorem cmd_le {W : Nat} : cmd K W ≤ 5 := by
  unfold cmd
  repeat' split
  all_goals decide
theorem y_cmd (h : Ev E) (hl : l ≤ 40) (h1 : i 227 1 = nI l) {W : Nat} (hW : W ≤ l) : f_X3_commandOf (mk E i j d) (zA E 227) (nI W) = some (nI (cmd (i 228) W), mk E i j d) := by
  unfold f_X3_commandOf cmd
  rw [ob_Y h, y_isW h hl h1 (y := 0) (by decide) hW, cl_go]
  by_cases q0 : W = 4 ∧ i 228 0 = 98 ∧ i 228 1 = 111 ∧ i 228 2 = 111 ∧ i 228 3 = 107
  · rw [bI_1 (eq0.mpr q0), if_neg (by decide), if_pos q0]; rfl
  · rw [bI_0 (fun e => q0 (eq0.mp e)), if_pos rfl, if_neg q0, ob_Y h, y_isW h hl h1 (y := 1) (by decide) hW, cl_go]
    by_cases q1 : W = 5 ∧ i 228 0 = 108 ∧ i 228 1 = 101 ∧ i 228 2 = 97 ∧ i 228 3 = 118 ∧ i 228 4 = 101
    · rw [bI_1 (eq1.mpr q1), if_neg (by decide), if_pos q1]; rfl
    · rw [bI_0 (fun e => q1 (eq1.mp e)), if_pos rfl, if_neg q1, ob_Y h, y_isW h hl h1 (y := 2) (by decide) hW, cl_go]
      by_cases q2 : W = 5 ∧ i 228 0 = 109 ∧ i 228 1 = 101 ∧ i 228 2 = 114 ∧ i 228 3 = 103 ∧ i 228 4 = 101
      · rw [bI_1 (eq2.mpr q2), if_neg (by decide), if_pos q2]; rfl
      · rw [bI_0 (fun e => q2 (eq2.mp e)), if_pos rfl, if_neg q2, ob_Y h, y_isW h hl h1 (y := 3) (by decide) hW, cl_go]
        by_cases q3 : W = 6 ∧ i 228 0 = 99 ∧ i 228 1 = 97 ∧ i 228 2 = 110 ∧ i 228 3 = 99 ∧ i 228 4 = 101 ∧ i 228 5 = 108
        · rw [bI_1 (eq3.mpr q3), if_neg (by decide), if_pos q3]; rfl
        · rw [bI_0 (fun e => q3 (eq3.mp e)), if_pos rfl, if_neg q3, ob_Y h, y_isW h hl h1 (y := 4) (by decide) hW, cl_go]
          by_cases q4 : W = 4 ∧ i 228 0 = 108 ∧ i 228 1 = 101 ∧ i 228 2 = 97 ∧ i 228 3 = 100
          · rw [bI_1 (eq4.mpr q4), if_neg (by decide), if_pos q4]; rfl
          · rw [bI_0 (fun e => q4 (eq4.mp e)), if_pos rfl, if_neg q4]; rfl
/-! the reference's word -/
theorem x_isW (h : Ev E) {W n : Nat} (h10 : i 229 10 = nI W) (hW : W ≤ 40) (hn : n ≤ 40) (a b c e : Int32) : f_X6_isWord (mk E i j d) (zA E 229) (nI n) a b c e = some (bI (W = n ∧ i 236 0 = a ∧ i 236 1 = b ∧ i 236 2 = c ∧ i 236 3 = e), mk E i j d) := by
  unfold f_X6_isWord
  rw [ob_M h, I_229 h.1, h10]
  by_cases q : W = n
  · rw [if_pos (congrArg nI q), R_txt h, ar_txt0 h, I_236 h.1]
    by_cases q0 : i 236 0 = a
    · rw [if_pos q0, ar_txt1 h, I_236 h.1]
      by_cases q1 : i 236 1 = b
      · rw [if_pos q1, ar_txt2 h, I_236 h.1]
        by_cases q2 : i 236 2 = c
        · rw [if_pos q2, ar_txt3 h, I_236 h.1]
          by_cases q3 : i 236 3 = e
          · rw [if_pos q3, bI_1 ⟨q, q0, q1, q2, q3⟩]
          · rw [if_neg q3, bI_0 (fun z => q3 z.2.2.2.2)]
        · rw [if_neg q2, bI_0 (fun z => q2 z.2.2.2.1)]
      · rw [if_neg q1, bI_0 (fun z => q1 z.2.2.1)]
    · rw [if_neg q0, bI_0 (fun z => q0 z.2.1)]
  · rw [if_neg (fun z => q ((nI_eq (by omega) (by omega)).mp z)), bI_0 (fun z => q z.1)]
def f_WT3 (S : Hp) (x0 : Nat) : Option (Int32 × Hp) :=
 ob S 6 (some x0) fun b5 => cl (f_X6_isWord S b5 (6 : Int32) (99 : Int32) (97 : Int32) (110 : Int32) (99 : Int32)) fun v5 S5 =>
 if v5 = 0 then
 some ((-5 : Int32), S5)
 else
 ob S5 6 (some x0) fun _ =>
 ar S5 7 (zR S5 x0 9) (4 : Int32) fun a3 i1 =>
 if (zI S5 a3 i1) = 101 then
 ar S5 7 (zR S5 x0 9) (5 : Int32) fun a4 i2 =>
 if (zI S5 a4 i2) = 108 then
 some ((3 : Int32), S5)
 else
 some ((-5 : Int32), S5)
 else
 some ((-5 : Int32), S5)
def f_WT2 (S : Hp) (x0 : Nat) : Option (Int32 × Hp) :=
 ob S 6 (some x0) fun b4 => cl (f_X6_isWord S b4 (5 : Int32) (109 : Int32) (101 : Int32) (114 : Int32) (103 : Int32)) fun v4 S4 =>
 if v4 = 0 then
 f_WT3 S4 x0
 else
 ob S4 6 (some x0) fun _ =>
 ar S4 7 (zR S4 x0 9) (4 : Int32) fun a6 i3 =>
 if (zI S4 a6 i3) = 101 then
 some ((2 : Int32), S4)
 else
 f_WT3 S4 x0
def f_WT (S : Hp) (x0 : Nat) : Option (Int32 × Hp) :=
 ob S 6 (some x0) fun b1 => cl (f_X6_isWord S b1 (4 : Int32) (98 : Int32) (111 : Int32) (111 : Int32) (107 : Int32)) fun v1 S1 =>
 if v1 = 0 then
 ob S1 6 (some x0) fun b2 => cl (f_X6_isWord S1 b2 (4 : Int32) (108 : Int32) (101 : Int32) (97 : Int32) (100 : Int32)) fun v2 S2 =>
 if v2 = 0 then
 ob S2 6 (some x0) fun b3 => cl (f_X6_isWord S2 b3 (5 : Int32) (108 : Int32) (101 : Int32) (97 : Int32) (118 : Int32)) fun v3 S3 =>
 if v3 = 0 then
 f_WT2 S3 x0
 else
 ob S3 6 (some x0) fun _ =>
 ar S3 7 (zR S3 x0 9) (4 : Int32) fun a11 i6 =>
 if (zI S3 a11 i6) = 101 then
 some ((1 : Int32), S3)
 else
 f_WT2 S3 x0
 else
 some ((4 : Int32), S2)
 else
 some ((0 : Int32), S1)
theorem word_b (rec : Hp → Nat → Option (Int32 × Hp)) (S : Hp) (x0 : Nat) : f_X6_word_L5_b rec S x0 = ob S 6 (some x0) fun _ => if (zI S x0 8) ≤ (zI S x0 10) then f_WT S x0 else ar S 7 (zR S x0 9) (zI S x0 10) fun a20 i12 => cl (f_X6_in S (zI S a20 i12) (97 : Int32) (122 : Int32)) fun v10 S10 => if v10 = 0 then f_WT S10 x0 else ob S10 6 (some x0) fun _ => ob S10 6 (some x0) fun a40 => bnd (wI S10 a40 10 ((zI S10 x0 10) + 1)) fun S20 => rec S20 x0 := rfl
theorem x_WT3 (h : Ev E) {W : Nat} (h10 : i 229 10 = nI W) (hW : W ≤ 40) : f_WT3 (mk E i j d) (zA E 229) = some (if W = 6 ∧ i 236 0 = 99 ∧ i 236 1 = 97 ∧ i 236 2 = 110 ∧ i 236 3 = 99 ∧ i 236 4 = 101 ∧ i 236 5 = 108 then 3 else -5, mk E i j d) := by
  unfold f_WT3
  rw [ob_M h, show f_X6_isWord (mk E i j d) (zA E 229) (6 : Int32) 99 97 110 99 = _ from x_isW h h10 hW (n := 6) (by decide) 99 97 110 99, cl_go]
  by_cases q : W = 6 ∧ i 236 0 = 99 ∧ i 236 1 = 97 ∧ i 236 2 = 110 ∧ i 236 3 = 99
  · rw [bI_1 q, if_neg (by decide), ob_M h, R_txt h, ar_txt4 h, I_236 h.1]
    obtain ⟨p1, p2, p3, p4, p5⟩ := q
    by_cases q4 : i 236 4 = 101
    · rw [if_pos q4, ar_txt5 h, I_236 h.1]
      by_cases q5 : i 236 5 = 108
      · rw [if_pos q5, if_pos ⟨p1, p2, p3, p4, p5, q4, q5⟩]
      · rw [if_neg q5, if_neg (fun z => q5 z.2.2.2.2.2.2)]
    · rw [if_neg q4, if_neg (fun z => q4 z.2.2.2.2.2.1)]
  · rw [bI_0 q, if_pos rfl, if_neg (fun z => q ⟨z.1, z.2.1, z.2.2.1, z.2.2.2.1, z.2.2.2.2.1⟩)]
theorem x_WT2 (h : Ev E) {W : Nat} (h10 : i 229 10 = nI W) (hW : W ≤ 40) : f_WT2 (mk E i j d) (zA E 229) = some (if W = 5 ∧ i 236 0 = 109 ∧ i 236 1 = 101 ∧ i 236 2 = 114 ∧ i 236 3 = 103 ∧ i 236 4 = 101 then 2 else if W = 6 ∧ i 236 0 = 99 ∧ i 236 1 = 97 ∧ i 236 2 = 110 ∧ i 236 3 = 99 ∧ i 236 4 = 101 ∧ i 236 5 = 108 then 3 else -5, mk E i j d) := by
  unfold f_WT2
  rw [ob_M h, show f_X6_isWord (mk E i j d) (zA E 229) (5 : Int32) 109 101 114 103 = _ from x_isW h h10 hW (n := 5) (by decide) 109 101 114 103, cl_go]
  by_cases q : W = 5 ∧ i 236 0 = 109 ∧ i 236 1 = 101 ∧ i 236 2 = 114 ∧ i 236 3 = 103
  · rw [bI_1 q, if_neg (by decide), ob_M h, R_txt h, ar_txt4 h, I_236 h.1]
    obtain ⟨p1, p2, p3, p4, p5⟩ := q
    by_cases q4 : i 236 4 = 101
    · rw [if_pos q4, if_pos ⟨p1, p2, p3, p4, p5, q4⟩]
    · rw [if_neg q4, x_WT3 h h10 hW]
      congr 2
      rw [if_neg (show ¬ (W = 5 ∧ i 236 0 = 109 ∧ i 236 1 = 101 ∧ i 236 2 = 114 ∧ i 236 3 = 103 ∧ i 236 4 = 101) from fun z => q4 z.2.2.2.2.2)]
  · rw [bI_0 q, if_pos rfl, x_WT3 h h10 hW]
    congr 2
    rw [if_neg (show ¬ (W = 5 ∧ i 236 0 = 109 ∧ i 236 1 = 101 ∧ i 236 2 = 114 ∧ i 236 3 = 103 ∧ i 236 4 = 101) from fun z => q ⟨z.1, z.2.1, z.2.2.1, z.2.2.2.1, z.2.2.2.2.1⟩)]
/-- the reference's numbers of commands -/
def rcd (c : Nat) : Int32 := if c = 0 then -5 else if c = 5 then 4 else nI (c - 1)
theorem x_WT (h : Ev E) {W : Nat} (h10 : i 229 10 = nI W) (hW : W ≤ 40) : f_WT (mk E i j d) (zA E 229) = some (rcd (cmd (i 236) W), mk E i j d) := by
  unfold f_WT cmd
  rw [ob_M h, show f_X6_isWord (mk E i j d) (zA E 229) (4 : Int32) 98 111 111 107 = _ from x_isW h h10 hW (n := 4) (by decide) 98 111 111 107, cl_go]
  by_cases q0 : W = 4 ∧ i 236 0 = 98 ∧ i 236 1 = 111 ∧ i 236 2 = 111 ∧ i 236 3 = 107
  · rw [bI_1 q0, if_neg (by decide), if_pos q0]; rfl
  · rw [bI_0 q0, if_pos rfl, if_neg q0, ob_M h, show f_X6_isWord (mk E i j d) (zA E 229) (4 : Int32) 108 101 97 100 = _ from x_isW h h10 hW (n := 4) (by decide) 108 101 97 100, cl_go]
    by_cases q4 : W = 4 ∧ i 236 0 = 108 ∧ i 236 1 = 101 ∧ i 236 2 = 97 ∧ i 236 3 = 100
    · have w5 : ¬ W = 5 := by rw [q4.1]; decide
      have w6 : ¬ W = 6 := by rw [q4.1]; decide
      rw [bI_1 q4, if_neg (by decide), if_neg (show ¬ (W = 5 ∧ _) from fun z => w5 z.1), if_neg (show ¬ (W = 5 ∧ _) from fun z => w5 z.1), if_neg (show ¬ (W = 6 ∧ _) from fun z => w6 z.1), if_pos q4]; rfl
    · rw [bI_0 q4, if_pos rfl, ob_M h, show f_X6_isWord (mk E i j d) (zA E 229) (5 : Int32) 108 101 97 118 = _ from x_isW h h10 hW (n := 5) (by decide) 108 101 97 118, cl_go]
      have R : ¬ (W = 5 ∧ i 236 0 = 108 ∧ i 236 1 = 101 ∧ i 236 2 = 97 ∧ i 236 3 = 118 ∧ i 236 4 = 101) → f_WT2 (mk E i j d) (zA E 229) = some (rcd (if W = 5 ∧ i 236 0 = 108 ∧ i 236 1 = 101 ∧ i 236 2 = 97 ∧ i 236 3 = 118 ∧ i 236 4 = 101 then 2 else if W = 5 ∧ i 236 0 = 109 ∧ i 236 1 = 101 ∧ i 236 2 = 114 ∧ i 236 3 = 103 ∧ i 236 4 = 101 then 3 else if W = 6 ∧ i 236 0 = 99 ∧ i 236 1 = 97 ∧ i 236 2 = 110 ∧ i 236 3 = 99 ∧ i 236 4 = 101 ∧ i 236 5 = 108 then 4 else if W = 4 ∧ i 236 0 = 108 ∧ i 236 1 = 101 ∧ i 236 2 = 97 ∧ i 236 3 = 100 then 5 else 0), mk E i j d) := fun n1 => by
        rw [x_WT2 h h10 hW, if_neg n1]
        by_cases q2 : W = 5 ∧ i 236 0 = 109 ∧ i 236 1 = 101 ∧ i 236 2 = 114 ∧ i 236 3 = 103 ∧ i 236 4 = 101
        · rw [if_pos q2, if_pos q2]; rfl
        · rw [if_neg q2, if_neg q2]
          by_cases q3 : W = 6 ∧ i 236 0 = 99 ∧ i 236 1 = 97 ∧ i 236 2 = 110 ∧ i 236 3 = 99 ∧ i 236 4 = 101 ∧ i 236 5 = 108
          · rw [if_pos q3, if_pos q3]; rfl
          · rw [if_neg q3, if_neg q3, if_neg q4]; rfl
      by_cases q1 : W = 5 ∧ i 236 0 = 108 ∧ i 236 1 = 101 ∧ i 236 2 = 97 ∧ i 236 3 = 118
      · rw [bI_1 q1, if_neg (by decide), ob_M h, R_txt h, ar_txt4 h, I_236 h.1]
        obtain ⟨p1, p2, p3, p4, p5⟩ := q1
        by_cases k4 : i 236 4 = 101
        · rw [if_pos k4, if_pos ⟨p1, p2, p3, p4, p5, k4⟩]; rfl
        · rw [if_neg k4]
          exact R (fun z => k4 z.2.2.2.2.2)
      · rw [bI_0 q1, if_pos rfl]
        exact R (fun z => q1 ⟨z.1, z.2.1, z.2.2.1, z.2.2.2.1, z.2.2.2.2.1⟩)
theorem x_word_L (h : Ev E) (hl : l ≤ 40) : ∀ m k fuel i, i 229 8 = nI l → i 229 10 = nI k → k + m = l → m < fuel → ∃ i', f_X6_word_L5 fuel (mk E i j d) (zA E 229) = some (rcd (cmd (i 236) (wl (i 236) m k)), mk E i' j d) ∧ (∀ q, q ≠ 229 → i' q = i q) ∧ (∀ x, x ≠ 10 → i' 229 x = i 229 x) ∧ i' 229 10 = nI (wl (i 236) m k) := by
  intro m
  induction m with
  | zero =>
    intro k fuel i h8 h10 hk hf
    obtain ⟨f, rfl⟩ : ∃ f, fuel = f + 1 := ⟨fuel - 1, by omega⟩
    show ∃ i', f_X6_word_L5_b (f_X6_word_L5 f) _ _ = _ ∧ _
    rw [word_b, ob_M h, I_229 h.1 8, h8, I_229 h.1 10, h10, if_pos (nI_le (by omega) (by omega)), x_WT h h10 (by omega)]
    exact ⟨i, rfl, fun _ _ => rfl, fun _ _ => rfl, h10⟩
  | succ m ih =>
    intro k fuel i h8 h10 hk hf
    obtain ⟨f, rfl⟩ : ∃ f, fuel = f + 1 := ⟨fuel - 1, by omega⟩
    show ∃ i', f_X6_word_L5_b (f_X6_word_L5 f) _ _ = _ ∧ _
    rw [word_b, ob_M h, I_229 h.1 8, h8, I_229 h.1 10, h10, if_neg (nI_ge (by omega) (by omega)), R_txt h, ar_txtn h (by omega), I_236 h.1, x_in, cl_go]
    by_cases c : 97 ≤ i 236 k ∧ i 236 k ≤ 122
    · have T : wl (i 236) (m + 1) k = wl (i 236) m (k + 1) := by
        show (if i 236 k < 97 then k else if 122 < i 236 k then k else wl (i 236) m (k + 1)) = _
        rw [if_neg (Int32.not_lt.mpr c.1), if_neg (Int32.not_lt.mpr c.2)]
      obtain ⟨i', e, F1, F2, F3⟩ := ih (k + 1) f (u2 i 229 10 (nI (k + 1))) (by rw [u2_nek _ _ (by decide)]; exact h8) (u2_self _ _ _ _) (by omega) (by omega)
      have e236 : (u2 i 229 10 (nI (k + 1))) 236 = i 236 := u2_row _ _ (by decide)
      rw [e236] at e F3
      rw [bI_1 c, if_neg (by decide), ob_M h, ob_M h, I_229 h.1 10, h10, nI_1, wI_229 h.1, bnd_go, T]
      exact ⟨i', e, fun q hq => (F1 q hq).trans (u2_row _ _ hq), fun x hx => (F2 x hx).trans (u2_nek _ _ hx), F3⟩
    · have T : wl (i 236) (m + 1) k = k := by
        show (if i 236 k < 97 then k else if 122 < i 236 k then k else wl (i 236) m (k + 1)) = _
        by_cases c1 : i 236 k < 97
        · rw [if_pos c1]
        · rw [if_neg c1, if_pos (Int32.not_le.mp (fun z => c ⟨Int32.not_lt.mp c1, z⟩))]
      rw [bI_0 c, if_pos rfl, x_WT h h10 (by omega), T]
      exact ⟨i, rfl, fun _ _ => rfl, fun _ _ => rfl, h10⟩
theorem x_word (h : Ev E) (hl : l ≤ 40) (h8 : i 229 8 = nI l) : ∃ i', f_X6_word (mk E i j d) (zA E 229) = some (rcd (cmd (i 236) (wl (i 236) l 0)), mk E i' j d) ∧ (∀ q, q ≠ 229 → i' q = i q) ∧ (∀ x, x ≠ 10 → i' 229 x = i 229 x) ∧ i' 229 10 = nI (wl (i 236) l 0) := by
  obtain ⟨i', e, F1, F2, F3⟩ := x_word_L (j := j) (d := d) h hl l 0 1000 (u2 i 229 10 0) (by rw [u2_nek _ _ (by decide)]; exact h8) (u2_self _ _ _ _) (by omega) (by omega)
  have e236 : (u2 i 229 10 0) 236 = i 236 := u2_row _ _ (by decide)
  rw [e236] at e F3
  unfold f_X6_word
  rw [ob_M h, wI_229 h.1, bnd_go]
  exact ⟨i', e, fun q hq => (F1 q hq).trans (u2_row _ _ hq), fun x hx => (F2 x hx).trans (u2_nek _ _ hx), F3⟩
end TXTS
