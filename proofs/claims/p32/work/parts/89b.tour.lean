/-! the law's look at one tour -/
def TI (N : Nat → Int32) (t : Nat) : Prop := (N (40 + 14 * t + 6) = 2 → 0 ≤ N (40 + 14 * t + 7)) ∧ (¬ N (40 + 14 * t + 6) < 2 → N (40 + 14 * t + 5) = 0) ∧ (N (40 + 14 * t + 6) = 3 → N (40 + 14 * t + 3) = 0 ∧ N (40 + 14 * t + 4) = 0) ∧ (N (40 + 14 * t + 6) = 0 → N 0 ≤ N (40 + 14 * t + 0)) ∧ Cn N (40 + 14 * t + 6) 3
/-- no guide is on two open tours of one day -/
def DJ (N : Nat → Int32) (t x : Nat) : Prop := N (40 + 14 * t + 6) = 0 → N (40 + 14 * x + 6) = 0 → N (40 + 14 * x + 0) = N (40 + 14 * t + 0) → ∀ k, k < cN N (40 + 14 * t + 4) → ∀ y, y < cN N (40 + 14 * x + 4) → N (48 + 14 * x + y) ≠ N (48 + 14 * t + k)
section TOUR
variable {E S : Hp} {N : Nat → Int32} {r : Nat → UInt64} {K : Nat}
theorem lt_572 (O : Off E S N r K) {t : Nat} (ht : t < cN N 3) (hg : 1 ≤ cN N 1) (y : Int32) : f_L_tour_J572 S (some (zA E 0)) (nI t) y = some (1, S) := by
  have w := O.q
  have n1 := w.n1
  have hM := w.many ht
  have hG := w.guests ht
  unfold f_L_tour_J572
  rw [O.ob, o_tour4 O ht, cl_go, if_neg (show ¬ 4 < N (40 + 14 * t + 4) by rw [hM.1]; exact Int32.not_lt.mpr ((nI_leI (b := 4) (by omega) (by decide)).mpr hM.2)), O.ob, o_tour3 O ht, cl_go, if_neg (show ¬ 12 < N (40 + 14 * t + 3) by rw [hG.1]; exact Int32.not_lt.mpr ((nI_leI (b := 12) (by omega) (by decide)).mpr hG.2)), O.ob, o_tour4 O ht, cl_go, O.ob, o_ropeN O ht, cl_go, if_pos rfl, O.ob, o_tour11 O ht, cl_go, if_pos rfl]
  by_cases q : y = 0
  · rw [if_pos q]
  · rw [if_neg q, O.ob, o_count1 O, cl_go, n1.1, if_neg (nI_nle (by omega) (by omega))]
theorem lt_553 (O : Off E S N r K) {t : Nat} (ht : t < cN N 3) (hg : 1 ≤ cN N 1) (T : TI N t) (y : Int32) : f_L_tour_J553 S (some (zA E 0)) (nI t) (N (40 + 14 * t + 6)) y = some (1, S) := by
  unfold f_L_tour_J553
  by_cases q : N (40 + 14 * t + 6) = 0
  · rw [if_pos q, O.ob, o_tour0 O ht, cl_go, O.ob, o_count0 O, cl_go, if_neg (Int32.not_lt.mpr (T.2.2.2.1 q)), lt_572 O ht hg]
  · rw [if_neg q, lt_572 O ht hg]
theorem lt_529 (O : Off E S N r K) {t : Nat} (ht : t < cN N 3) (hg : 1 ≤ cN N 1) (T : TI N t) (y : Int32) : f_L_tour_J529 S (some (zA E 0)) (nI t) (N (40 + 14 * t + 6)) y = some (1, S) := by
  unfold f_L_tour_J529
  by_cases q : N (40 + 14 * t + 6) = 3
  · obtain ⟨q1, q2⟩ := T.2.2.1 q
    rw [if_pos q, O.ob, o_tour3 O ht, cl_go, if_pos q1, O.ob, o_tour4 O ht, cl_go, if_pos q2, lt_553 O ht hg T]
  · rw [if_neg q, lt_553 O ht hg T]
theorem lt_511 (O : Off E S N r K) {t : Nat} (ht : t < cN N 3) (hg : 1 ≤ cN N 1) (T : TI N t) (y z : Int32) : f_L_tour_J511 S (some (zA E 0)) (nI t) (N (40 + 14 * t + 6)) y z z = some (1, S) := by
  unfold f_L_tour_J511
  rw [if_pos rfl]
  by_cases q : N (40 + 14 * t + 6) < 2
  · rw [if_pos q, lt_529 O ht hg T]
  · rw [if_neg q, O.ob, o_tour5 O ht, cl_go, if_pos (T.2.1 q), lt_529 O ht hg T]
theorem lt_482 (O : Off E S N r K) {t : Nat} (ht : t < cN N 3) (hg : 1 ≤ cN N 1) (T : TI N t) (y z : Int32) : f_L_tour_J482 S (some (zA E 0)) (nI t) (N (40 + 14 * t + 6)) y z z = some (1, S) := by
  unfold f_L_tour_J482 f_L_tour_J500
  rw [if_pos rfl, O.ob, o_tour7 O ht, cl_go]
  by_cases q : N (40 + 14 * t + 6) = 2
  · rw [if_pos q, if_neg (Int32.not_lt.mpr (T.1 q)), if_pos q, lt_511 O ht hg T]
  · rw [if_neg q, if_pos (by decide), if_neg q, lt_511 O ht hg T]
theorem cmp_eq {x : UInt64} (h : vf_n64 x) : Op.cmpValue (FP.dcmp x x) CmpOp.l = 0 := by
  have hn := (fn_n64 x).mp h
  exact (fn_cmp hn hn).2.2.2.2.mpr rfl
theorem need_n (w : WQ N r) {t : Nat} (ht : t < cN N 3) : vf_n64 (sNeed N r t) := by
  have hm := sMost_le (N := N) (r := r) (t := t) (cN N (40 + 14 * t + 4))
  have hG := (w.guests ht).2
  exact (need_ok (sMost N r t (cN N (40 + 14 * t + 4)) + 1) (by omega)).2
theorem lt_439 (O : Off E S N r K) {t : Nat} (ht : t < cN N 3) (hg : 1 ≤ cN N 1) (T : TI N t) (y : Int32) : f_L_tour_J439 S (some (zA E 0)) (nI t) (nI (sLeft N r t (cN N (40 + 14 * t + 4)))) (sNeed N r t) (sCause N r t) (N (40 + 14 * t + 6)) y = some (1, S) := by
  unfold f_L_tour_J439
  rw [O.ob, o_needed O ht, cl_go, if_pos (cmp_eq (need_n O.q ht)), O.ob, o_tour8 O ht, cl_go, if_pos rfl, O.ob, o_tour10 O ht, cl_go]
  by_cases q : N (40 + 14 * t + 6) = 0
  · rw [if_pos q, if_pos q, lt_482 O ht hg T]
  · rw [if_neg q, if_neg q, lt_482 O ht hg T]
theorem lt_413 (O : Off E S N r K) {t : Nat} (ht : t < cN N 3) (hg : 1 ≤ cN N 1) (T : TI N t) : f_L_tour_J413 S (some (zA E 0)) (nI t) (nI (sLeft N r t (cN N (40 + 14 * t + 4)))) (sNeed N r t) (sCause N r t) = some (1, S) := by
  unfold f_L_tour_J413 f_L_tour_J438
  rw [O.ob, o_tour6 O ht, cl_go]
  by_cases q : N (40 + 14 * t + 6) = 1
  · rw [if_pos q]
    by_cases q2 : nI (sLeft N r t (cN N (40 + 14 * t + 4))) ≤ 0
    · rw [if_pos q2, lt_439 O ht hg T]
    · rw [if_neg q2, lt_439 O ht hg T]
  · rw [if_neg q, lt_439 O ht hg T]
def wkP (N : Nat → Int32) (r : Nat → UInt64) (t b : Nat) : Bool := !decide ((N (40 + 14 * t + 2) >>> (nI b &&& 31)) &&& 1 = 0) && !decide (0 ≤ Op.cmpValue (FP.dcmp (r (1 + b)) (sNeed N r t)) CmpOp.l)
theorem lt_289 (O : Off E S N r K) {t : Nat} (ht : t < cN N 3) (hg : 1 ≤ cN N 1) (T : TI N t) : ∀ m k fuel (h : Bool), k + m = cN N 2 → m < fuel → (!h || anyF (wkP N r t) m k) = sWeak N r t → f_L_tour_L289 fuel S (some (zA E 0)) (nI t) (nI (sLeft N r t (cN N (40 + 14 * t + 4)))) (bI (sBad N t = false)) (sNeed N r t) (bI (h = true)) (nI k) = some (1, S) := by
  have w := O.q
  have n2 := w.n2
  have hG := w.guests ht
  have hl := sLeft_g (N := N) (r := r) (t := t) (cN N (40 + 14 * t + 4))
  intro m
  induction m with
  | zero =>
    intro k fuel h hk hf hw
    obtain ⟨f, rfl⟩ : ∃ f, fuel = f + 1 := ⟨fuel - 1, by omega⟩
    have hw : (!h || false) = sWeak N r t := hw
    rw [Bool.or_false] at hw
    show f_L_tour_L289_b (f_L_tour_L289 f) _ _ _ _ _ _ _ _ = _
    unfold f_L_tour_L289_b f_L_tour_J408
    have e := lt_413 O ht hg T
    rw [O.ob, o_count2 O, cl_go, n2.1, if_pos (nI_le (by omega) (by omega)), O.ob, o_tour3 O ht, cl_go]
    unfold sCause at e
    by_cases q : N (40 + 14 * t + 3) = 0
    · rw [if_pos q] at e ⊢
      exact e
    · rw [if_neg q] at e ⊢
      by_cases q2 : sWeak N r t = true
      · rw [if_pos q2] at e
        rw [if_pos (show bI (h = true) = 0 by rw [q2] at hw; cases h <;> first | rfl | cases hw)]
        exact e
      · rw [if_neg q2] at e
        rw [if_neg (show ¬ bI (h = true) = 0 by have hq : sWeak N r t = false := Bool.eq_false_iff.mpr q2; rw [hq] at hw; cases h; cases hw; decide)]
        by_cases q3 : sLeft N r t (cN N (40 + 14 * t + 4)) = 0
        · rw [if_neg (show ¬ 0 < nI (sLeft N r t (cN N (40 + 14 * t + 4))) by rw [q3]; decide)]
          by_cases q4 : sBad N t = false
          · rw [if_pos ⟨q3, q4⟩] at e
            rw [if_neg (by rw [bI_1 q4]; decide)]
            exact e
          · rw [if_neg (fun e => q4 e.2)] at e
            rw [if_pos (bI_0 q4)]
            exact e
        · rw [if_neg (fun e => q3 e.1)] at e
          rw [if_pos (show 0 < nI (sLeft N r t (cN N (40 + 14 * t + 4))) from (nI_ltI (a := 0) (by omega) (by omega)).mpr (by omega))]
          exact e
  | succ m ih =>
    intro k fuel h hk hf hw
    obtain ⟨f, rfl⟩ : ∃ f, fuel = f + 1 := ⟨fuel - 1, by omega⟩
    show f_L_tour_L289_b (f_L_tour_L289 f) _ _ _ _ _ _ _ _ = _
    have IH := fun h' e => ih (k + 1) f h' (by omega) (by omega) e
    have hw : (!h || (wkP N r t k || anyF (wkP N r t) m (k + 1))) = sWeak N r t := hw
    have hP : ∀ b : Bool, b = wkP N r t k → ∀ h' : Bool, h' = (h && !b) → (!h' || anyF (wkP N r t) m (k + 1)) = sWeak N r t := fun b hb h' hh => by
      rw [← hw, ← hb, hh]; cases h <;> cases b <;> rfl
    unfold f_L_tour_L289_b f_L_tour_J316 f_L_tour_J335 f_L_tour_J368 f_L_tour_J364 f_L_tour_J369
    simp only [bnd_go]
    have hH : (if Op.cmpValue (FP.dcmp (r (1 + k)) (sNeed N r t)) CmpOp.l < 0 then (0 : Int32) else 1) = sHolds N r t k := by
      unfold sHolds
      by_cases q : 0 ≤ Op.cmpValue (FP.dcmp (r (1 + k)) (sNeed N r t)) CmpOp.l
      · rw [if_neg (Int32.not_lt.mpr q), bI_1 q]
      · rw [if_pos (Int32.not_le.mp q), bI_0 q]
    rw [O.ob, o_count2 O, cl_go, n2.1, if_neg (nI_ge (by omega) (by omega)), O.ob, o_thick O (by omega), cl_go]
    by_cases q : 0 ≤ Op.cmpValue (FP.dcmp (r (1 + k)) (sNeed N r t)) CmpOp.l
    · have e1 : sHolds N r t k = 1 := bI_1 q
      rw [if_neg (Int32.not_lt.mpr q), O.ob, o_holds O ht (by omega), cl_go, e1, if_neg (by decide), if_pos rfl]
      cases h with
      | false =>
        rw [if_pos (by decide), nI_1]
        exact IH false (hP _ rfl _ rfl)
      | true =>
        rw [if_neg (by decide), O.ob, o_tour2 O ht, cl_go]
        have hb : wkP N r t k = false := by unfold wkP; rw [decide_eq_true q]; simp
        have := IH true (hP _ rfl _ (by rw [hb]; rfl))
        by_cases q2 : (N (40 + 14 * t + 2) >>> (nI k &&& 31)) &&& 1 = 0
        · rw [if_pos q2, nI_1]; exact this
        · rw [if_neg q2, if_neg (by decide), nI_1]; exact this
    · have e1 : sHolds N r t k = 0 := bI_0 q
      rw [if_pos (Int32.not_le.mp q), O.ob, o_holds O ht (by omega), cl_go, e1, if_pos trivial, if_pos rfl]
      cases h with
      | false =>
        rw [if_pos (by decide), nI_1]
        exact IH false (hP _ rfl _ rfl)
      | true =>
        rw [if_neg (by decide), O.ob, o_tour2 O ht, cl_go]
        by_cases q2 : (N (40 + 14 * t + 2) >>> (nI k &&& 31)) &&& 1 = 0
        · have hb : wkP N r t k = false := by unfold wkP; rw [decide_eq_true q2]; rfl
          have := IH true (hP _ rfl _ (by rw [hb]; rfl))
          rw [if_pos q2, nI_1]; exact this
        · have hb : wkP N r t k = true := by unfold wkP; rw [decide_eq_false q2, decide_eq_false q]; rfl
          have := IH false (hP _ rfl _ (by rw [hb]; rfl))
          rw [if_neg q2, if_pos trivial, nI_1]; exact this
theorem lt_189 (O : Off E S N r K) {t k x : Nat} (ht : t < cN N 3) (hx : x < cN N 3) (hk : k < cN N (40 + 14 * t + 4)) (D : x ≠ t → DJ N t x) (q0 : N (40 + 14 * t + 6) = 0) (kout : Hp → Option Nat → Int32 → Int32 → Int32 → Int32 → Int32 → Int32 → Int32 → Int32 → Option (Int32 × Hp)) (y2 y3 y4 y5 y6 : Int32) : ∀ m y fuel, y + m = cN N (40 + 14 * x + 4) → m < fuel → f_L_tour_L189 kout fuel S (some (zA E 0)) (nI t) y2 y3 y4 y5 y6 (N (48 + 14 * t + k)) (nI x) (nI y) = kout S (some (zA E 0)) (nI t) y2 y3 y4 y5 y6 (N (48 + 14 * t + k)) (nI (x + 1)) := by
  have w := O.q
  have hM := w.many hx
  have n3 := w.n3
  intro m
  induction m with
  | zero =>
    intro y fuel hy hf
    obtain ⟨f, rfl⟩ : ∃ f, fuel = f + 1 := ⟨fuel - 1, by omega⟩
    show f_L_tour_L189_b kout (f_L_tour_L189 kout f) _ _ _ _ _ _ _ _ _ _ _ = _
    unfold f_L_tour_L189_b f_L_tour_J256
    rw [O.ob, o_tour4 O hx, cl_go, hM.1, if_pos (nI_le (by omega) (by omega)), bnd_go, nI_1]
  | succ m ih =>
    intro y fuel hy hf
    obtain ⟨f, rfl⟩ : ∃ f, fuel = f + 1 := ⟨fuel - 1, by omega⟩
    show f_L_tour_L189_b kout (f_L_tour_L189 kout f) _ _ _ _ _ _ _ _ _ _ _ = _
    unfold f_L_tour_L189_b f_L_tour_J256 f_L_tour_J250
    have IH := ih (y + 1) f (by omega) (by omega)
    simp only [bnd_go]
    rw [O.ob, o_tour4 O hx, cl_go, hM.1, if_neg (nI_ge (by omega) (by omega))]
    by_cases e : x = t
    · rw [if_pos (by rw [e]), nI_1]
    · rw [if_neg (fun z => e ((nI_eq (by omega) (by omega)).mp z)), O.ob, o_tour6 O hx, cl_go]
      by_cases q1 : N (40 + 14 * x + 6) = 0
      · rw [if_pos q1, O.ob, o_tour0 O hx, cl_go, O.ob, o_tour0 O ht, cl_go]
        by_cases q2 : N (40 + 14 * x + 0) = N (40 + 14 * t + 0)
        · rw [if_pos q2, O.ob, o_rope0 O hx (by omega), cl_go, if_neg (D e q0 q1 q2 k hk y (by omega)), nI_1]
          exact IH
        · rw [if_neg q2, nI_1]; exact IH
      · rw [if_neg q1, nI_1]; exact IH
theorem lt_166 (O : Off E S N r K) {t k : Nat} (ht : t < cN N 3) (hk : k < cN N (40 + 14 * t + 4)) (D : ∀ x, x < cN N 3 → x ≠ t → DJ N t x) (kout : Hp → Option Nat → Int32 → Int32 → Int32 → Int32 → Int32 → Int32 → Option (Int32 × Hp)) (y2 y3 y4 y5 : Int32) : ∀ m x fuel, x + m = cN N 3 → m < fuel → f_L_tour_L166 kout fuel S (some (zA E 0)) (nI t) y2 y3 y4 y5 (nI k) (N (48 + 14 * t + k)) (nI x) = kout S (some (zA E 0)) (nI t) y2 y3 y4 y5 (nI (k + 1)) := by
  have w := O.q
  have n3 := w.n3
  intro m
  induction m with
  | zero =>
    intro x fuel hx hf
    obtain ⟨f, rfl⟩ : ∃ f, fuel = f + 1 := ⟨fuel - 1, by omega⟩
    show f_L_tour_L166_b kout (f_L_tour_L166 kout f) _ _ _ _ _ _ _ _ _ _ = _
    unfold f_L_tour_L166_b f_L_tour_J262
    rw [O.ob, o_count3 O, cl_go, n3.1, if_pos (nI_le (by omega) (by omega)), bnd_go, nI_1]
  | succ m ih =>
    intro x fuel hx hf
    obtain ⟨f, rfl⟩ : ∃ f, fuel = f + 1 := ⟨fuel - 1, by omega⟩
    show f_L_tour_L166_b kout (f_L_tour_L166 kout f) _ _ _ _ _ _ _ _ _ _ = _
    unfold f_L_tour_L166_b f_L_tour_J262
    have hM := w.many (show x < cN N 3 by omega)
    rw [O.ob, o_count3 O, cl_go, n3.1, if_neg (nI_ge (by omega) (by omega)), O.ob, o_tour6 O ht, cl_go]
    by_cases q : N (40 + 14 * t + 6) = 0
    · rw [if_pos q, show (0 : Int32) = nI 0 from rfl, lt_189 O ht (show x < cN N 3 by omega) hk (D x (by omega)) q _ y2 y3 y4 y5 (nI k) (cN N (40 + 14 * x + 4)) 0 1000 (by omega) (by omega)]
      exact ih (x + 1) f (by omega) (by omega)
    · rw [if_neg q, bnd_go, nI_1]
def bdP (N : Nat → Int32) (t k : Nat) : Bool := decide (N (8 + 4 * gN N t k + 1) < N (40 + 14 * t + 0))
theorem lt_24 (O : Off E S N r K) {t : Nat} (ht : t < cN N 3) (hg : 1 ≤ cN N 1) (T : TI N t) (D : ∀ x, x < cN N 3 → x ≠ t → DJ N t x) : ∀ m k fuel (v : Bool), k + m = cN N (40 + 14 * t + 4) → m < fuel → (!v || anyF (bdP N t) m k) = sBad N t → f_L_tour_L24 fuel S (some (zA E 0)) (nI t) (sBase (r (7 + t))) (nI (sLeft N r t k)) (nI (sMost N r t k)) (bI (v = true)) (nI k) = some (1, S) := by
  have w := O.q
  have n2 := w.n2
  have n3 := w.n3
  have hG := w.guests ht
  have hM := w.many ht
  intro m
  induction m with
  | zero =>
    intro k fuel v hk hf hv
    obtain ⟨f, rfl⟩ : ∃ f, fuel = f + 1 := ⟨fuel - 1, by omega⟩
    have hv : (!v || false) = sBad N t := hv
    rw [Bool.or_false] at hv
    show f_L_tour_L24_b (f_L_tour_L24 f) _ _ _ _ _ _ _ _ = _
    unfold f_L_tour_L24_b
    have hk' : k = cN N (40 + 14 * t + 4) := by omega
    subst hk'
    have hm := sMost_le (N := N) (r := r) (t := t) (cN N (40 + 14 * t + 4))
    have ok := need_ok (sMost N r t (cN N (40 + 14 * t + 4)) + 1) (by omega)
    rw [O.ob, o_tour4 O ht, cl_go, hM.1, if_pos (nI_le (by omega) (by omega)), nI_1, fpg_go ok.1, fpg_go ok.2, bnd_go]
    have := lt_289 O ht hg T (cN N 2) 0 1000 true (by omega) (by omega) rfl
    rw [show bI (v = true) = bI (sBad N t = false) by rw [← hv]; cases v <;> rfl]
    exact this
  | succ m ih =>
    intro k fuel v hk hf hv
    obtain ⟨f, rfl⟩ : ∃ f, fuel = f + 1 := ⟨fuel - 1, by omega⟩
    have hv : (!v || (bdP N t k || anyF (bdP N t) m (k + 1))) = sBad N t := hv
    show f_L_tour_L24_b (f_L_tour_L24 f) _ _ _ _ _ _ _ _ = _
    unfold f_L_tour_L24_b
    obtain ⟨hr, hr1, hr8⟩ := w.rowk ht (k := k) (by omega)
    have hR := w.rat ht (k := k) (by omega)
    have hL := sLeft_g (N := N) (r := r) (t := t) k
    have hs := sLeft_s (N := N) (r := r) t k
    have hmo := sMost_le (N := N) (r := r) (t := t) k
    rw [O.ob, o_tour4 O ht, cl_go, hM.1, if_neg (nI_ge (by omega) (by omega)), O.ob, o_rope0 O ht (by omega), cl_go, hr, O.ob, o_guide0 O hr1, cl_go, bnd_go]
    refine (rat_val (r := r) (t := t) (w.kl hr1).1 (w.kl hr1).2 (fun z => f_L_tour_J70 (f_L_tour_L24 f) S (some (zA E 0)) (nI t) (sBase (r (7 + t))) (nI (sLeft N r t k)) (nI (sMost N r t k)) (bI (v = true)) (nI k) (nI (gN N t k)) z)).trans ?_
    show f_L_tour_J70 (f_L_tour_L24 f) S (some (zA E 0)) (nI t) (sBase (r (7 + t))) (nI (sLeft N r t k)) (nI (sMost N r t k)) (bI (v = true)) (nI k) (nI (gN N t k)) (nI (sRat N r t (gN N t k))) = _
    have eOn : f_L_tour_J70 (f_L_tour_L24 f) S (some (zA E 0)) (nI t) (sBase (r (7 + t))) (nI (sLeft N r t k)) (nI (sMost N r t k)) (bI (v = true)) (nI k) (nI (gN N t k)) (nI (sRat N r t (gN N t k))) = f_L_tour_J84 (f_L_tour_L24 f) S (some (zA E 0)) (nI t) (sBase (r (7 + t))) (nI (sLeft N r t k)) (nI (sMost N r t k)) (bI (v = true)) (nI k) (nI (gN N t k)) (nI (sRat N r t (gN N t k))) (nI (sOn N r t k)) := by
      unfold f_L_tour_J70 sOn
      by_cases c : sLeft N r t k ≤ sRat N r t (gN N t k)
      · rw [if_pos ((nI_leI (by omega) (by omega)).mpr c), hs, show sLeft N r t k - (sLeft N r t k - sRat N r t (gN N t k)) = sLeft N r t k by omega]
      · rw [if_neg (fun e => c ((nI_leI (by omega) (by omega)).mp e)), hs, show sLeft N r t k - (sLeft N r t k - sRat N r t (gN N t k)) = sRat N r t (gN N t k) by omega]
    rw [eOn]
    have hO : sOn N r t k ≤ sLeft N r t k := Nat.sub_le _ _
    have hl := sLeft_le (N := N) (r := r) (t := t) k
    have eL : sLeft N r t k - sOn N r t k = sLeft N r t (k + 1) := by unfold sOn; omega
    unfold f_L_tour_J84
    rw [O.ob, o_rope1 O ht (by omega), cl_go, if_pos rfl, O.ob, o_rope2 O ht (by omega), cl_go, if_pos rfl, bnd_go, pk_sub hO, eL]
    have eM : (if nI (sOn N r t k) ≤ nI (sMost N r t k) then f_L_tour_J133 (f_L_tour_L24 f) S (some (zA E 0)) (nI t) (sBase (r (7 + t))) (nI (sLeft N r t (k + 1))) (bI (v = true)) (nI k) (nI (gN N t k)) (nI (sMost N r t k)) else f_L_tour_J133 (f_L_tour_L24 f) S (some (zA E 0)) (nI t) (sBase (r (7 + t))) (nI (sLeft N r t (k + 1))) (bI (v = true)) (nI k) (nI (gN N t k)) (nI (sOn N r t k))) = f_L_tour_J133 (f_L_tour_L24 f) S (some (zA E 0)) (nI t) (sBase (r (7 + t))) (nI (sLeft N r t (k + 1))) (bI (v = true)) (nI k) (nI (gN N t k)) (nI (sMost N r t (k + 1))) := by
      have hq : sMost N r t (k + 1) = if sOn N r t k ≤ sMost N r t k then sMost N r t k else sOn N r t k := rfl
      by_cases c : sOn N r t k ≤ sMost N r t k
      · rw [if_pos ((nI_leI (by omega) (by omega)).mpr c), hq, if_pos c]
      · rw [if_neg (fun e => c ((nI_leI (by omega) (by omega)).mp e)), hq, if_neg c]
    rw [eM]
    have fin : ∀ v' : Bool, v' = (v && !bdP N t k) → f_L_tour_J161 (f_L_tour_L24 f) S (some (zA E 0)) (nI t) (sBase (r (7 + t))) (nI (sLeft N r t (k + 1))) (nI (sMost N r t (k + 1))) (nI k) (nI (gN N t k)) (bI (v' = true)) = some (1, S) := fun v' e => by
      unfold f_L_tour_J161
      have := lt_166 O ht (show k < cN N (40 + 14 * t + 4) by omega) D (f_L_tour_L24 f) (sBase (r (7 + t))) (nI (sLeft N r t (k + 1))) (nI (sMost N r t (k + 1))) (bI (v' = true)) (cN N 3) 0 1000 (by omega) (by omega)
      rw [hr] at this
      refine Eq.trans this (ih (k + 1) f v' (by omega) (by omega) ?_)
      rw [← hv, e]; cases v <;> cases bdP N t k <;> rfl
    unfold f_L_tour_J133 f_L_tour_J160
    cases v with
    | false =>
      rw [if_pos (by decide)]
      exact fin false rfl
    | true =>
      rw [if_neg (by decide), O.ob, o_guide1 O hr1, cl_go, O.ob, o_tour0 O ht, cl_go]
      by_cases c : N (8 + 4 * gN N t k + 1) < N (40 + 14 * t + 0)
      · rw [if_pos c]
        exact fin false (by unfold bdP; rw [decide_eq_true c]; rfl)
      · rw [if_neg c]
        exact fin true (by unfold bdP; rw [decide_eq_false c]; rfl)
theorem tour_ok (O : Off E S N r K) {t : Nat} (ht : t < cN N 3) (hg : 1 ≤ cN N 1) (T : TI N t) (D : ∀ x, x < cN N 3 → x ≠ t → DJ N t x) : f_L_tour S (some (zA E 0)) (nI t) = some (1, S) := by
  have w := O.q
  have hM := w.many ht
  unfold f_L_tour
  rw [O.ob, o_tour9 O ht, cl_go, O.ob, o_tour3 O ht, cl_go, (w.guests ht).1]
  exact lt_24 O ht hg T D (cN N (40 + 14 * t + 4)) 0 1000 true (by omega) (by omega) rfl
end TOUR
