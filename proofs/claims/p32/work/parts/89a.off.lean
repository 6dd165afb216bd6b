/-! an office that is only asked: every answer, the heap as it was -/
def Off (E S : Hp) (N : Nat → Int32) (r : Nat → UInt64) (K : Nat) : Prop := Ev E ∧ ∃ B i j d, S = mk E i j d ∧ Rep i j d 1 N r ∧ WF B N r ∧ i 65 2 = nI K ∧ i 227 1 = 0
section OFF
variable {E S : Hp} {N : Nat → Int32} {r : Nat → UInt64} {K : Nat}
theorem Off.q (O : Off E S N r K) : WQ N r := by
  obtain ⟨h, B, i, j, d, rfl, a, w, hK, hl⟩ := O
  exact w.1
theorem Off.ob (O : Off E S N r K) {β : Type} {k : Nat → Option β} : ob S 5 (some (zA E 0)) k = k (zA E 0) := by
  obtain ⟨h, B, i, j, d, rfl, a, w, hK, hl⟩ := O
  exact ob_X h
theorem o_count (O : Off E S N r K) {k : Nat} (hk : k < 14) : f_X5_count S (zA E 0) (nI k) = some (sCount N K k, S) := by
  obtain ⟨h, B, i, j, d, rfl, a, w, hK, hl⟩ := O
  exact a_count h a w hK hl hk
theorem o_guide (O : Off E S N r K) {g k : Nat} (hg : g < cN N 1) (hk : k < 6) : f_X5_guide S (zA E 0) (nI g) (nI k) = some (sGuide N g k, S) := by
  obtain ⟨h, B, i, j, d, rfl, a, w, hK, hl⟩ := O
  exact a_guide h a w hg hk
theorem o_guideN (O : Off E S N r K) : f_X5_guide S (zA E 0) (N 1) 0 = some (-1, S) := by
  obtain ⟨h, B, i, j, d, rfl, a, w, hK, hl⟩ := O
  have n1 := w.n1
  exact a_guideN h a w (fun ⟨t, ht, e⟩ => by rw [n1.1] at e; have := (nI_eq (by omega) (by omega)).mp e; omega)
theorem o_tour (O : Off E S N r K) {t k : Nat} (ht : t < cN N 3) (hk : k < 12) : f_X5_tour S (zA E 0) (nI t) (nI k) = some (sTour N r t k, S) := by
  obtain ⟨h, B, i, j, d, rfl, a, w, hK, hl⟩ := O
  exact a_tour h a w ht hk
theorem o_tourN (O : Off E S N r K) : f_X5_tour S (zA E 0) (N 3) 0 = some (-1, S) := by
  obtain ⟨h, B, i, j, d, rfl, a, w, hK, hl⟩ := O
  have n1 := w.n3
  exact a_tourN h a w (fun ⟨t, ht, e⟩ => by rw [n1.1] at e; have := (nI_eq (by omega) (by omega)).mp e; omega)
theorem o_rope (O : Off E S N r K) {t k z : Nat} (ht : t < cN N 3) (hk : k < cN N (40 + 14 * t + 4)) (hz : z < 3) : f_X5_rope S (zA E 0) (nI t) (nI k) (nI z) = some (sRope N r t k z, S) := by
  obtain ⟨h, B, i, j, d, rfl, a, w, hK, hl⟩ := O
  exact a_rope h a w ht hk hz
theorem o_ropeN (O : Off E S N r K) {t : Nat} (ht : t < cN N 3) : f_X5_rope S (zA E 0) (nI t) (N (40 + 14 * t + 4)) 0 = some (-5, S) := by
  obtain ⟨h, B, i, j, d, rfl, a, w, hK, hl⟩ := O
  exact a_ropeN h a w ht
theorem o_thick (O : Off E S N r K) {b : Nat} (hb : b < cN N 2) : f_X5_thickness S (zA E 0) (nI b) = some (r (1 + b), S) := by
  obtain ⟨h, B, i, j, d, rfl, a, w, hK, hl⟩ := O
  have := w.n2.2
  rw [a_thick h a w (by omega)]
  unfold sThick
  rw [if_pos hb]
theorem o_thick0 (O : Off E S N r K) : f_X5_thickness S (zA E 0) 0 = some (sThick N r 0, S) := by
  obtain ⟨h, B, i, j, d, rfl, a, w, hK, hl⟩ := O
  exact a_thick h a w (b := 0) (by omega)
theorem o_fore (O : Off E S N r K) {n : Nat} (hn : n ≤ 30) : f_X5_foretold S (zA E 0) 0 (nI n) = some (if 0 < cN N 2 then sFore (r 0) n (r 1) else 9221120237041090560, S) := by
  obtain ⟨h, B, i, j, d, rfl, a, w, hK, hl⟩ := O
  exact a_fore h a w hn
theorem o_needed (O : Off E S N r K) {t : Nat} (ht : t < cN N 3) : f_X5_needed S (zA E 0) (nI t) = some (sNeed N r t, S) := by
  obtain ⟨h, B, i, j, d, rfl, a, w, hK, hl⟩ := O
  exact a_needed h a w ht
theorem o_holds (O : Off E S N r K) {t b : Nat} (ht : t < cN N 3) (hb : b < cN N 2) : f_X5_holds S (zA E 0) (nI t) (nI b) = some (sHolds N r t b, S) := by
  obtain ⟨h, B, i, j, d, rfl, a, w, hK, hl⟩ := O
  exact a_holds h a w ht hb
theorem o_best (O : Off E S N r K) {t : Nat} (ht : t < cN N 3) : f_X5_bestGuide S (zA E 0) (nI t) = some (oI (sBestG N r t), S) := by
  obtain ⟨h, B, i, j, d, rfl, a, w, hK, hl⟩ := O
  exact a_best h a w ht
theorem o_takes (O : Off E S N r K) {g : Nat} (hg : g < cN N 1) (y : Int32) : f_X5_takes S (zA E 0) y (nI g) = some (if 1 ≤ y ∧ y ≤ 3 then bI (N (8 + 4 * g + 0) = y) else -2, S) := by
  obtain ⟨h, B, i, j, d, rfl, a, w, hK, hl⟩ := O
  exact a_takes h a w hg y
theorem o_temp (O : Off E S N r K) : f_X5_temperature S (zA E 0) = some ((r 0).toInt64, S) := by
  obtain ⟨h, B, i, j, d, rfl, a, w, hK, hl⟩ := O
  exact a_temp h a
theorem At.off (h : Ev E) {B : Nat} {H : List Rw} {s : Option Rw} (A : At E S B N r H s) : Off E S N r H.length := by
  obtain ⟨i, j, d, e, V⟩ := A
  obtain ⟨o, -, -, h2, -⟩ := V.2.1.1
  exact ⟨h, B, i, j, d, e, V.1.1, V.1.2, h2, V.2.2.2⟩
theorem o_count0 (O : Off E S N r K) : f_X5_count S (zA E 0) (0 : Int32) = some (N 0, S) := o_count O (k := 0) (by decide)
theorem o_count1 (O : Off E S N r K) : f_X5_count S (zA E 0) (1 : Int32) = some (N 1, S) := o_count O (k := 1) (by decide)
theorem o_count2 (O : Off E S N r K) : f_X5_count S (zA E 0) (2 : Int32) = some (N 2, S) := o_count O (k := 2) (by decide)
theorem o_count3 (O : Off E S N r K) : f_X5_count S (zA E 0) (3 : Int32) = some (N 3, S) := o_count O (k := 3) (by decide)
theorem o_count4 (O : Off E S N r K) : f_X5_count S (zA E 0) (4 : Int32) = some (sStates N 0, S) := o_count O (k := 4) (by decide)
theorem o_count5 (O : Off E S N r K) : f_X5_count S (zA E 0) (5 : Int32) = some (sStates N 1, S) := o_count O (k := 5) (by decide)
theorem o_count6 (O : Off E S N r K) : f_X5_count S (zA E 0) (6 : Int32) = some (sStates N 2, S) := o_count O (k := 6) (by decide)
theorem o_count7 (O : Off E S N r K) : f_X5_count S (zA E 0) (7 : Int32) = some (sStates N 3, S) := o_count O (k := 7) (by decide)
theorem o_count8 (O : Off E S N r K) : f_X5_count S (zA E 0) (8 : Int32) = some (sPaidAll N, S) := o_count O (k := 8) (by decide)
theorem o_count9 (O : Off E S N r K) : f_X5_count S (zA E 0) (9 : Int32) = some (N 4, S) := o_count O (k := 9) (by decide)
theorem o_count10 (O : Off E S N r K) : f_X5_count S (zA E 0) (10 : Int32) = some (sGone N, S) := o_count O (k := 10) (by decide)
theorem o_count11 (O : Off E S N r K) : f_X5_count S (zA E 0) (11 : Int32) = some (nI K, S) := o_count O (k := 11) (by decide)
theorem o_count12 (O : Off E S N r K) : f_X5_count S (zA E 0) (12 : Int32) = some (0, S) := o_count O (k := 12) (by decide)
theorem o_count13 (O : Off E S N r K) : f_X5_count S (zA E 0) (13 : Int32) = some (-2, S) := o_count O (k := 13) (by decide)
theorem o_guide0 (O : Off E S N r K) {g : Nat} (hg : g < cN N 1) : f_X5_guide S (zA E 0) (nI g) (0 : Int32) = some (N (8 + 4 * g + 0), S) := o_guide O hg (k := 0) (by decide)
theorem o_guide1 (O : Off E S N r K) {g : Nat} (hg : g < cN N 1) : f_X5_guide S (zA E 0) (nI g) (1 : Int32) = some (N (8 + 4 * g + 1), S) := o_guide O hg (k := 1) (by decide)
theorem o_guide2 (O : Off E S N r K) {g : Nat} (hg : g < cN N 1) : f_X5_guide S (zA E 0) (nI g) (2 : Int32) = some (bI (¬ N (8 + 4 * g + 1) < N 0), S) := o_guide O hg (k := 2) (by decide)
theorem o_guide3 (O : Off E S N r K) {g : Nat} (hg : g < cN N 1) : f_X5_guide S (zA E 0) (nI g) (3 : Int32) = some (sFirst N (nI g) (cN N 3) 0, S) := o_guide O hg (k := 3) (by decide)
theorem o_guide4 (O : Off E S N r K) {g : Nat} (hg : g < cN N 1) : f_X5_guide S (zA E 0) (nI g) (4 : Int32) = some (N (8 + 4 * g + 2), S) := o_guide O hg (k := 4) (by decide)
theorem o_guide5 (O : Off E S N r K) {g : Nat} (hg : g < cN N 1) : f_X5_guide S (zA E 0) (nI g) (5 : Int32) = some (N (8 + 4 * g + 3), S) := o_guide O hg (k := 5) (by decide)
theorem o_tour0 (O : Off E S N r K) {t : Nat} (ht : t < cN N 3) : f_X5_tour S (zA E 0) (nI t) (0 : Int32) = some (N (40 + 14 * t + 0), S) := o_tour O ht (k := 0) (by decide)
theorem o_tour1 (O : Off E S N r K) {t : Nat} (ht : t < cN N 3) : f_X5_tour S (zA E 0) (nI t) (1 : Int32) = some (N (40 + 14 * t + 1), S) := o_tour O ht (k := 1) (by decide)
theorem o_tour2 (O : Off E S N r K) {t : Nat} (ht : t < cN N 3) : f_X5_tour S (zA E 0) (nI t) (2 : Int32) = some (N (40 + 14 * t + 2), S) := o_tour O ht (k := 2) (by decide)
theorem o_tour3 (O : Off E S N r K) {t : Nat} (ht : t < cN N 3) : f_X5_tour S (zA E 0) (nI t) (3 : Int32) = some (N (40 + 14 * t + 3), S) := o_tour O ht (k := 3) (by decide)
theorem o_tour4 (O : Off E S N r K) {t : Nat} (ht : t < cN N 3) : f_X5_tour S (zA E 0) (nI t) (4 : Int32) = some (N (40 + 14 * t + 4), S) := o_tour O ht (k := 4) (by decide)
theorem o_tour5 (O : Off E S N r K) {t : Nat} (ht : t < cN N 3) : f_X5_tour S (zA E 0) (nI t) (5 : Int32) = some (N (40 + 14 * t + 5), S) := o_tour O ht (k := 5) (by decide)
theorem o_tour6 (O : Off E S N r K) {t : Nat} (ht : t < cN N 3) : f_X5_tour S (zA E 0) (nI t) (6 : Int32) = some (N (40 + 14 * t + 6), S) := o_tour O ht (k := 6) (by decide)
theorem o_tour7 (O : Off E S N r K) {t : Nat} (ht : t < cN N 3) : f_X5_tour S (zA E 0) (nI t) (7 : Int32) = some (if N (40 + 14 * t + 6) = 2 then N (40 + 14 * t + 7) else -5, S) := o_tour O ht (k := 7) (by decide)
theorem o_tour8 (O : Off E S N r K) {t : Nat} (ht : t < cN N 3) : f_X5_tour S (zA E 0) (nI t) (8 : Int32) = some (nI (sLeft N r t (cN N (40 + 14 * t + 4))), S) := o_tour O ht (k := 8) (by decide)
theorem o_tour9 (O : Off E S N r K) {t : Nat} (ht : t < cN N 3) : f_X5_tour S (zA E 0) (nI t) (9 : Int32) = some (sBase (r (7 + t)), S) := o_tour O ht (k := 9) (by decide)
theorem o_tour10 (O : Off E S N r K) {t : Nat} (ht : t < cN N 3) : f_X5_tour S (zA E 0) (nI t) (10 : Int32) = some (if N (40 + 14 * t + 6) = 0 then sCause N r t else -5, S) := o_tour O ht (k := 10) (by decide)
theorem o_tour11 (O : Off E S N r K) {t : Nat} (ht : t < cN N 3) : f_X5_tour S (zA E 0) (nI t) (11 : Int32) = some (-2, S) := o_tour O ht (k := 11) (by decide)
theorem o_rope0 (O : Off E S N r K) {t k : Nat} (ht : t < cN N 3) (hk : k < cN N (40 + 14 * t + 4)) : f_X5_rope S (zA E 0) (nI t) (nI k) (0 : Int32) = some (N (48 + 14 * t + k), S) := o_rope O ht hk (z := 0) (by decide)
theorem o_rope1 (O : Off E S N r K) {t k : Nat} (ht : t < cN N 3) (hk : k < cN N (40 + 14 * t + 4)) : f_X5_rope S (zA E 0) (nI t) (nI k) (1 : Int32) = some (nI (sRat N r t (gN N t k)), S) := o_rope O ht hk (z := 1) (by decide)
theorem o_rope2 (O : Off E S N r K) {t k : Nat} (ht : t < cN N 3) (hk : k < cN N (40 + 14 * t + 4)) : f_X5_rope S (zA E 0) (nI t) (nI k) (2 : Int32) = some (nI (sOn N r t k), S) := o_rope O ht hk (z := 2) (by decide)
/-- the same answer from every heap on which the office stands -/
def Dg (E : Hp) (N : Nat → Int32) (r : Nat → UInt64) (F : Hp → Option (Int64 × Hp)) : Prop := ∃ v, ∀ S K, Off E S N r K → F S = some (v, S)
theorem fp_4096 {x : UInt64} (hx : dB x) : vf_n64 (FP.dmul x 4661225614328463360) := by
  have h1 := FP.Core.dmul_out (a := x) (b := 4661225614328463360) (fn_Bf hx) ((FP.Core.fin_bits _).mpr (by decide))
  exact (fn_n64 _).mpr ((FP.Core.notNaN_iff _).mp h1)
theorem sCount_K {k : Nat} (hk : k < 11) (K1 K2 : Nat) : sCount N K1 k = sCount N K2 k := by
  have hk6 : k = 0 ∨ k = 1 ∨ k = 2 ∨ k = 3 ∨ k = 4 ∨ k = 5 ∨ k = 6 ∨ k = 7 ∨ k = 8 ∨ k = 9 ∨ k = 10 := by omega
  rcases hk6 with rfl | rfl | rfl | rfl | rfl | rfl | rfl | rfl | rfl | rfl | rfl <;> rfl
theorem g11 {n k : Nat} (hn : n < 2 ^ 31) (hk : k < n) : ¬ nI n ≤ nI k := nI_ge hk hn
theorem dg_213 (w : WQ N r) : ∀ m k fuel (y1 : Int64), k + m = cN N 2 → m < fuel → Dg E N r (fun S => f_L_digest_L213 fuel S (some (zA E 0)) y1 (nI k)) := by
  have n2 := w.n2
  intro m
  induction m with
  | zero =>
    intro k fuel y1 hk hf
    obtain ⟨f, rfl⟩ : ∃ f, fuel = f + 1 := ⟨fuel - 1, by omega⟩
    refine ⟨31 * y1 + (r 0).toInt64, fun S K O => ?_⟩
    show f_L_digest_L213_b (f_L_digest_L213 f) _ _ _ _ = _
    unfold f_L_digest_L213_b
    rw [O.ob, o_count2 O, cl_go, n2.1, if_pos (nI_le (by omega) (by omega)), O.ob, o_temp O, cl_go]
  | succ m ih =>
    intro k fuel y1 hk hf
    obtain ⟨f, rfl⟩ : ∃ f, fuel = f + 1 := ⟨fuel - 1, by omega⟩
    obtain ⟨v, hv⟩ := ih (k + 1) f (31 * y1 + FP.d2l (FP.dmul (r (1 + k)) 4661225614328463360)) (by omega) (by omega)
    refine ⟨v, fun S K O => ?_⟩
    show f_L_digest_L213_b (f_L_digest_L213 f) _ _ _ _ = _
    unfold f_L_digest_L213_b
    rw [O.ob, o_count2 O, cl_go, n2.1, if_neg (nI_ge (by omega) (by omega)), O.ob, o_thick O (by omega), cl_go, fpg_go (fp_4096 (w.2.2.2.2.2 k (by omega))), bnd_go, bnd_go, nI_1]
    exact hv S K O
theorem dg_174 (w : WQ N r) {t : Nat} (ht : t < cN N 3) (kout : Hp → Option Nat → Int64 → Int32 → Option (Int64 × Hp)) (hk : ∀ y1, Dg E N r (fun S => kout S (some (zA E 0)) y1 (nI (t + 1)))) : ∀ m k fuel (y1 : Int64), k + m = cN N 2 → m < fuel → Dg E N r (fun S => f_L_digest_L174 kout fuel S (some (zA E 0)) y1 (nI t) (nI k)) := by
  have n2 := w.n2
  intro m
  induction m with
  | zero =>
    intro k fuel y1 hkm hf
    obtain ⟨f, rfl⟩ : ∃ f, fuel = f + 1 := ⟨fuel - 1, by omega⟩
    obtain ⟨v, hv⟩ := hk y1
    refine ⟨v, fun S K O => ?_⟩
    show f_L_digest_L174_b kout (f_L_digest_L174 kout f) _ _ _ _ _ = _
    unfold f_L_digest_L174_b
    rw [O.ob, o_count2 O, cl_go, n2.1, if_pos (nI_le (by omega) (by omega)), bnd_go, nI_1]
    exact hv S K O
  | succ m ih =>
    intro k fuel y1 hkm hf
    obtain ⟨f, rfl⟩ : ∃ f, fuel = f + 1 := ⟨fuel - 1, by omega⟩
    obtain ⟨v, hv⟩ := ih (k + 1) f (31 * y1 + (sHolds N r t k).toInt64) (by omega) (by omega)
    refine ⟨v, fun S K O => ?_⟩
    show f_L_digest_L174_b kout (f_L_digest_L174 kout f) _ _ _ _ _ = _
    unfold f_L_digest_L174_b
    rw [O.ob, o_count2 O, cl_go, n2.1, if_neg (nI_ge (by omega) (by omega)), O.ob, o_holds O ht (by omega), cl_go, bnd_go, bnd_go, nI_1]
    exact hv S K O
theorem dg_124 (w : WQ N r) {t : Nat} (ht : t < cN N 3) (kout : Hp → Option Nat → Int64 → Int32 → Option (Int64 × Hp)) (hk : ∀ y1, Dg E N r (fun S => kout S (some (zA E 0)) y1 (nI (t + 1)))) : ∀ m k fuel (y1 : Int64), k + m = cN N (40 + 14 * t + 4) → m < fuel → Dg E N r (fun S => f_L_digest_L124 kout fuel S (some (zA E 0)) y1 (nI t) (nI k)) := by
  have n2 := w.n2
  have hM := w.many ht
  intro m
  induction m with
  | zero =>
    intro k fuel y1 hkm hf
    obtain ⟨f, rfl⟩ : ∃ f, fuel = f + 1 := ⟨fuel - 1, by omega⟩
    obtain ⟨v, hv⟩ := dg_174 w ht kout hk (cN N 2) 0 1000 y1 (by omega) (by omega)
    refine ⟨v, fun S K O => ?_⟩
    show f_L_digest_L124_b kout (f_L_digest_L124 kout f) _ _ _ _ _ = _
    unfold f_L_digest_L124_b
    rw [O.ob, o_tour4 O ht, cl_go, hM.1, if_pos (nI_le (by omega) (by omega))]
    exact hv S K O
  | succ m ih =>
    intro k fuel y1 hkm hf
    obtain ⟨f, rfl⟩ : ∃ f, fuel = f + 1 := ⟨fuel - 1, by omega⟩
    obtain ⟨v, hv⟩ := ih (k + 1) f (31 * y1 + 7 * (N (48 + 14 * t + k)).toInt64 + (nI (sOn N r t k)).toInt64) (by omega) (by omega)
    refine ⟨v, fun S K O => ?_⟩
    show f_L_digest_L124_b kout (f_L_digest_L124 kout f) _ _ _ _ _ = _
    unfold f_L_digest_L124_b
    rw [O.ob, o_tour4 O ht, cl_go, hM.1, if_neg (nI_ge (by omega) (by omega)), O.ob, o_rope0 O ht (by omega), cl_go, O.ob, o_rope2 O ht (by omega), cl_go, bnd_go, bnd_go, nI_1]
    exact hv S K O
theorem dg_93 (w : WQ N r) {t : Nat} (ht : t < cN N 3) (kout : Hp → Option Nat → Int64 → Int32 → Option (Int64 × Hp)) (hk : ∀ y1, Dg E N r (fun S => kout S (some (zA E 0)) y1 (nI (t + 1)))) : ∀ m k fuel (y1 : Int64), k + m = 11 → m < fuel → Dg E N r (fun S => f_L_digest_L93 kout fuel S (some (zA E 0)) y1 (nI t) (nI k)) := by
  have hM := w.many ht
  intro m
  induction m with
  | zero =>
    intro k fuel y1 hkm hf
    obtain ⟨f, rfl⟩ : ∃ f, fuel = f + 1 := ⟨fuel - 1, by omega⟩
    obtain ⟨v, hv⟩ := dg_124 w ht kout hk (cN N (40 + 14 * t + 4)) 0 1000 y1 (by omega) (by omega)
    refine ⟨v, fun S K O => ?_⟩
    show f_L_digest_L93_b kout (f_L_digest_L93 kout f) _ _ _ _ _ = _
    unfold f_L_digest_L93_b
    rw [if_pos (show (11 : Int32) ≤ nI k from nI_le (a := 11) (by omega) (by omega))]
    exact hv S K O
  | succ m ih =>
    intro k fuel y1 hkm hf
    obtain ⟨f, rfl⟩ : ∃ f, fuel = f + 1 := ⟨fuel - 1, by omega⟩
    obtain ⟨v, hv⟩ := ih (k + 1) f (31 * y1 + (sTour N r t k).toInt64) (by omega) (by omega)
    refine ⟨v, fun S K O => ?_⟩
    show f_L_digest_L93_b kout (f_L_digest_L93 kout f) _ _ _ _ _ = _
    unfold f_L_digest_L93_b
    rw [if_neg (show ¬ (11 : Int32) ≤ nI k from nI_ge (b := 11) (by omega) (by omega)), O.ob, o_tour O ht (by omega), cl_go, bnd_go, bnd_go, nI_1]
    exact hv S K O
theorem dg_81 (w : WQ N r) : ∀ m k fuel (y1 : Int64), k + m = cN N 3 → m < fuel → Dg E N r (fun S => f_L_digest_L81 fuel S (some (zA E 0)) y1 (nI k)) := by
  have n3 := w.n3
  have n2 := w.n2
  intro m
  induction m with
  | zero =>
    intro k fuel y1 hkm hf
    obtain ⟨f, rfl⟩ : ∃ f, fuel = f + 1 := ⟨fuel - 1, by omega⟩
    obtain ⟨v, hv⟩ := dg_213 w (cN N 2) 0 1000 y1 (by omega) (by omega)
    refine ⟨v, fun S K O => ?_⟩
    show f_L_digest_L81_b (f_L_digest_L81 f) _ _ _ _ = _
    unfold f_L_digest_L81_b
    rw [O.ob, o_count3 O, cl_go, n3.1, if_pos (nI_le (by omega) (by omega))]
    exact hv S K O
  | succ m ih =>
    intro k fuel y1 hkm hf
    obtain ⟨f, rfl⟩ : ∃ f, fuel = f + 1 := ⟨fuel - 1, by omega⟩
    obtain ⟨v, hv⟩ := dg_93 w (t := k) (by omega) (f_L_digest_L81 f) (fun y1 => ih (k + 1) f y1 (by omega) (by omega)) 11 0 1000 y1 (by omega) (by omega)
    refine ⟨v, fun S K O => ?_⟩
    show f_L_digest_L81_b (f_L_digest_L81 f) _ _ _ _ = _
    unfold f_L_digest_L81_b
    rw [O.ob, o_count3 O, cl_go, n3.1, if_neg (nI_ge (by omega) (by omega))]
    exact hv S K O
theorem dg_45 (w : WQ N r) {t : Nat} (ht : t < cN N 1) (kout : Hp → Option Nat → Int64 → Int32 → Option (Int64 × Hp)) (hk : ∀ y1, Dg E N r (fun S => kout S (some (zA E 0)) y1 (nI (t + 1)))) : ∀ m k fuel (y1 : Int64), k + m = 6 → m < fuel → Dg E N r (fun S => f_L_digest_L45 kout fuel S (some (zA E 0)) y1 (nI t) (nI k)) := by
  intro m
  induction m with
  | zero =>
    intro k fuel y1 hkm hf
    obtain ⟨f, rfl⟩ : ∃ f, fuel = f + 1 := ⟨fuel - 1, by omega⟩
    obtain ⟨v, hv⟩ := hk y1
    refine ⟨v, fun S K O => ?_⟩
    show f_L_digest_L45_b kout (f_L_digest_L45 kout f) _ _ _ _ _ = _
    unfold f_L_digest_L45_b
    rw [if_pos (show (6 : Int32) ≤ nI k from nI_le (a := 6) (by omega) (by omega)), bnd_go, nI_1]
    exact hv S K O
  | succ m ih =>
    intro k fuel y1 hkm hf
    obtain ⟨f, rfl⟩ : ∃ f, fuel = f + 1 := ⟨fuel - 1, by omega⟩
    obtain ⟨v, hv⟩ := ih (k + 1) f (31 * y1 + (sGuide N t k).toInt64) (by omega) (by omega)
    refine ⟨v, fun S K O => ?_⟩
    show f_L_digest_L45_b kout (f_L_digest_L45 kout f) _ _ _ _ _ = _
    unfold f_L_digest_L45_b
    rw [if_neg (show ¬ (6 : Int32) ≤ nI k from nI_ge (b := 6) (by omega) (by omega)), O.ob, o_guide O ht (by omega), cl_go, bnd_go, bnd_go, nI_1]
    exact hv S K O
theorem dg_33 (w : WQ N r) : ∀ m k fuel (y1 : Int64), k + m = cN N 1 → m < fuel → Dg E N r (fun S => f_L_digest_L33 fuel S (some (zA E 0)) y1 (nI k)) := by
  have n1 := w.n1
  have n3 := w.n3
  intro m
  induction m with
  | zero =>
    intro k fuel y1 hkm hf
    obtain ⟨f, rfl⟩ : ∃ f, fuel = f + 1 := ⟨fuel - 1, by omega⟩
    obtain ⟨v, hv⟩ := dg_81 w (cN N 3) 0 1000 y1 (by omega) (by omega)
    refine ⟨v, fun S K O => ?_⟩
    show f_L_digest_L33_b (f_L_digest_L33 f) _ _ _ _ = _
    unfold f_L_digest_L33_b
    rw [O.ob, o_count1 O, cl_go, n1.1, if_pos (nI_le (by omega) (by omega))]
    exact hv S K O
  | succ m ih =>
    intro k fuel y1 hkm hf
    obtain ⟨f, rfl⟩ : ∃ f, fuel = f + 1 := ⟨fuel - 1, by omega⟩
    obtain ⟨v, hv⟩ := dg_45 w (t := k) (by omega) (f_L_digest_L33 f) (fun y1 => ih (k + 1) f y1 (by omega) (by omega)) 6 0 1000 y1 (by omega) (by omega)
    refine ⟨v, fun S K O => ?_⟩
    show f_L_digest_L33_b (f_L_digest_L33 f) _ _ _ _ = _
    unfold f_L_digest_L33_b
    rw [O.ob, o_count1 O, cl_go, n1.1, if_neg (nI_ge (by omega) (by omega))]
    exact hv S K O
theorem dg_6 (w : WQ N r) : ∀ m k fuel (y1 : Int64), k + m = 11 → m < fuel → Dg E N r (fun S => f_L_digest_L6 fuel S (some (zA E 0)) y1 (nI k)) := by
  have n1 := w.n1
  intro m
  induction m with
  | zero =>
    intro k fuel y1 hkm hf
    obtain ⟨f, rfl⟩ : ∃ f, fuel = f + 1 := ⟨fuel - 1, by omega⟩
    obtain ⟨v, hv⟩ := dg_33 w (cN N 1) 0 1000 y1 (by omega) (by omega)
    refine ⟨v, fun S K O => ?_⟩
    show f_L_digest_L6_b (f_L_digest_L6 f) _ _ _ _ = _
    unfold f_L_digest_L6_b
    rw [if_pos (show (11 : Int32) ≤ nI k from nI_le (a := 11) (by omega) (by omega))]
    exact hv S K O
  | succ m ih =>
    intro k fuel y1 hkm hf
    obtain ⟨f, rfl⟩ : ∃ f, fuel = f + 1 := ⟨fuel - 1, by omega⟩
    obtain ⟨v, hv⟩ := ih (k + 1) f (31 * y1 + (sCount N 0 k).toInt64) (by omega) (by omega)
    refine ⟨v, fun S K O => ?_⟩
    show f_L_digest_L6_b (f_L_digest_L6 f) _ _ _ _ = _
    unfold f_L_digest_L6_b
    rw [if_neg (show ¬ (11 : Int32) ≤ nI k from nI_ge (b := 11) (by omega) (by omega)), O.ob, o_count O (by omega), cl_go, sCount_K (by omega) K 0, bnd_go, bnd_go, nI_1]
    exact hv S K O
theorem dg_all (w : WQ N r) : Dg E N r (fun S => f_L_digest S (some (zA E 0))) := dg_6 w 11 0 1000 109 (by omega) (by omega)
end OFF
