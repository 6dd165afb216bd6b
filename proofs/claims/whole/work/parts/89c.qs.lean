/-! the questions of both, side by side -/
section QS
variable {E : Hp} {i : Nat → Nat → Int32} {j : Nat → Nat → Int64} {d : Nat → Nat → UInt64} {B p : Nat} {N : Nat → Int32} {r : Nat → UInt64} {β : Type}
theorem ob_X (h : Ev E) {k : Nat → Option β} : ob (mk E i j d) 5 (some (zA E 0)) k = k (zA E 0) := ob_mk h.1 (by decide) h.2.1.1.1
theorem R_X0 (h : Ev E) : zR (mk E i j d) (zA E 0) 0 = some (zA E 1) := h.2.1.1.2.1
theorem R_X1 (h : Ev E) : zR (mk E i j d) (zA E 0) 1 = some (zA E 33) := h.2.1.1.2.2.1
theorem R_X2 (h : Ev E) : zR (mk E i j d) (zA E 0) 2 = some (zA E 65) := h.2.1.1.2.2.2.1
theorem R_X3 (h : Ev E) : zR (mk E i j d) (zA E 0) 3 = some (zA E 227) := h.2.1.1.2.2.2.2
theorem ob_H (h : Ev E) {k : Nat → Option β} : ob (mk E i j d) 1 (some (zA E 65)) k = k (zA E 65) := ob_mk h.1 (by decide) h.2.1.2.2.2.1.1
theorem R_H (h : Ev E) : zR (mk E i j d) (zA E 65) 0 = some (zA E 66) := h.2.1.2.2.2.1.2.1
theorem ar_H (h : Ev E) {k : Nat → Nat → Option β} {n : Nat} (hn : n < 5) : ar (mk E i j d) 11 (some (zA E 66)) (nI n) k = k (zA E 66) n := ar_mk h.1 (by decide) h.2.1.2.2.2.1.2.2 rfl hn (by decide)
theorem R_Hs (h : Ev E) {n : Nat} (hn : n < 5) : zR (mk E i j d) (zA E 66) n = some (zA E (67 + 32 * n)) := by
  have := (h.2.1.2.2.2.2.1 n hn).1
  rw [show 1 + 66 + 32 * n = 67 + 32 * n by omega] at this
  exact this
theorem ob_Y (h : Ev E) {k : Nat → Option β} : ob (mk E i j d) 3 (some (zA E 227)) k = k (zA E 227) := ob_mk h.1 (by decide) h.2.1.2.2.2.2.2.1
theorem R_Y (h : Ev E) : zR (mk E i j d) (zA E 227) 0 = some (zA E 228) := h.2.1.2.2.2.2.2.2.1
theorem ar_Y (h : Ev E) {k : Nat → Nat → Option β} {n : Nat} (hn : n < 40) : ar (mk E i j d) 7 (some (zA E 228)) (nI n) k = k (zA E 228) n := ar_mk h.1 (by decide) h.2.1.2.2.2.2.2.2.2 rfl hn (by decide)
theorem I_0 (h : Nd E) (k : Nat) : zI (mk E i j d) (zA E 0) k = i 0 k := mk_I h (by decide) k
theorem wI_0 (h : Nd E) (k : Nat) (v : Int32) : wI (mk E i j d) (zA E 0) k v = mk E (u2 i 0 k v) j d := mk_wI h (by decide) k v
theorem I_65 (h : Nd E) (k : Nat) : zI (mk E i j d) (zA E 65) k = i 65 k := mk_I h (by decide) k
theorem wI_65 (h : Nd E) (k : Nat) (v : Int32) : wI (mk E i j d) (zA E 65) k v = mk E (u2 i 65 k v) j d := mk_wI h (by decide) k v
theorem I_227 (h : Nd E) (k : Nat) : zI (mk E i j d) (zA E 227) k = i 227 k := mk_I h (by decide) k
theorem wI_227 (h : Nd E) (k : Nat) (v : Int32) : wI (mk E i j d) (zA E 227) k v = mk E (u2 i 227 k v) j d := mk_wI h (by decide) k v
theorem I_228 (h : Nd E) (k : Nat) : zI (mk E i j d) (zA E 228) k = i 228 k := mk_I h (by decide) k
theorem wI_228 (h : Nd E) (k : Nat) (v : Int32) : wI (mk E i j d) (zA E 228) k v = mk E (u2 i 228 k v) j d := mk_wI h (by decide) k v
theorem z_d : FP.dsub = FP.dsub := rfl
theorem y_dayLater (h : Nd E) (hs : St E p) (a : Rep i j d p N r) {x : UInt64} (hg : dT (r 0)) (hx : dB x) : f_X2_dayLater (mk E i j d) (zA E p) x = some (sLater (r 0) x, mk E i j d) := by
  unfold f_X2_dayLater
  have c := fp_cold hg hx
  have e := fp_warm hg hx
  unfold sCold at c
  unfold sWarm at e
  rw [ob_S h hs, D_S h hs, a.f8, fpg_go c.1, fpg_go c.2, fpg_go e.1, fpg_go e.2]
  unfold sLater sCold sWarm
  by_cases q : (Op.cmpValue (FP.dcmp (r 0) FP.dconst0) CmpOp.l) ≤ 0
  · rw [if_pos q, if_pos q]
    by_cases q2 : 0 ≤ (Op.cmpValue (FP.dcmp (r 0) FP.dconst0) CmpOp.g)
    · rw [if_pos q2, if_pos q2]
    · rw [if_neg q2, if_neg q2, bnd_go]
      split <;> rfl
  · rw [if_neg q, if_neg q, bnd_go]
    split <;> rfl
theorem x_changed (h : Ev E) {x : UInt64} (hg : dT (d 233 0)) (hx : dB x) : f_X6_changed (mk E i j d) (zA E 229) x = some (sLater (d 233 0) x, mk E i j d) := by
  unfold f_X6_changed
  have c := fp_cold hg hx
  have e := fp_warm hg hx
  unfold sCold at c
  unfold sWarm at e
  rw [ob_M h, R_rea h, ar_rea0 h, D_233 h.1, bnd_go, fpg_go c.1, fpg_go c.2, fpg_go e.1, fpg_go e.2]
  unfold sLater sCold sWarm
  by_cases q : (Op.cmpValue (FP.dcmp (d 233 0) FP.dconst0) CmpOp.l) ≤ 0
  · rw [if_pos q, if_pos q]
    by_cases q2 : 0 ≤ (Op.cmpValue (FP.dcmp (d 233 0) FP.dconst0) CmpOp.g)
    · rw [if_pos q2, if_pos q2]
    · rw [if_neg q2, if_neg q2, bnd_go]
      split <;> rfl
  · rw [if_neg q, if_neg q, bnd_go]
    split <;> rfl
theorem WF.dg (w : WF B N r) : dT (r 0) := w.1.2.2.2.2.1
theorem WF.db (w : WF B N r) {b : Nat} (hb : b < 6) : dB (r (1 + b)) := w.1.2.2.2.2.2 b hb
theorem y_isClass {S : Hp} (x : Int32) : f_X5_isClass S x = some (bI (1 ≤ x ∧ x ≤ 3), S) := x_in x 1 3
theorem y_isLast {S : Hp} (x : Int32) : f_X5_isLastDay S x = some (bI (0 ≤ x ∧ x ≤ 999), S) := x_in x 0 999
theorem y_isGuests {S : Hp} (x : Int32) : f_X5_isGuests S x = some (bI (1 ≤ x ∧ x ≤ 12), S) := x_in x 1 12
theorem sm {β : Type} {x : β} : ¬ some x = none := fun e => by cases e
theorem lit_lt {y : Int32} {n m : Nat} (q : y < 0 ∨ nI n ≤ y) (hm : m < n) (hn : n < 2 ^ 31) : ¬ y = nI m := fun e => by
  rcases q with q | q
  · rw [e] at q; exact nI_pos (by omega) q
  · rw [e] at q; exact nI_ge hm hn q
theorem b30 {n : Nat} (hn : n ≤ 10) : n < 2 ^ 30 := by omega
theorem q_guide (h : Ev E) (a : Rep i j d 1 (i 230) (d 233)) (w : WF B (i 230) (d 233)) (x y : Int32) : ∃ v, f_X5_guide (mk E i j d) (zA E 0) x y = some (v, (mk E i j d)) ∧ f_X6_guide (mk E i j d) (zA E 229) x y = some (v, (mk E i j d)) := by
  have hn := w.n1
  unfold f_X5_guide f_X6_guide
  rw [ob_X h, R_X0 h, ob_S h.1 h.s1, ob_M h]
  by_cases hx : ∃ g, g < cN (i 230) 1 ∧ x = nI g
  · obtain ⟨g, hg, rfl⟩ := hx
    have hg8 : g < 8 := by omega
    rw [y_guideAt1 h.1 h.s1 a w hg, cl_go, if_neg sm, x_noGuide1 h hn.1 (by omega) hg, cl_go, if_pos rfl]
    rcases pk_ix y (n := 6) (by decide) with q | q | ⟨k, hk, rfl⟩
    · have q : y < 0 ∨ nI 6 ≤ y := Or.inl q
      refine ⟨-2, ?_, ?_⟩
      · rw [if_neg (show ¬ y = (0 : Int32) from lit_lt (m := 0) q (by decide) (by decide)), if_neg (show ¬ y = (1 : Int32) from lit_lt (m := 1) q (by decide) (by decide)), if_neg (show ¬ y = (2 : Int32) from lit_lt (m := 2) q (by decide) (by decide)), if_neg (show ¬ y = (3 : Int32) from lit_lt (m := 3) q (by decide) (by decide)), if_neg (show ¬ y = (4 : Int32) from lit_lt (m := 4) q (by decide) (by decide)), if_neg (show ¬ y = (5 : Int32) from lit_lt (m := 5) q (by decide) (by decide))]
      · rw [if_neg (show ¬ y = (0 : Int32) from lit_lt (m := 0) q (by decide) (by decide)), if_neg (show ¬ y = (1 : Int32) from lit_lt (m := 1) q (by decide) (by decide)), if_neg (show ¬ y = (2 : Int32) from lit_lt (m := 2) q (by decide) (by decide)), if_neg (show ¬ y = (3 : Int32) from lit_lt (m := 3) q (by decide) (by decide)), if_neg (show ¬ y = (4 : Int32) from lit_lt (m := 4) q (by decide) (by decide)), if_neg (show ¬ y = (5 : Int32) from lit_lt (m := 5) q (by decide) (by decide))]
    · have q : y < 0 ∨ nI 6 ≤ y := Or.inr q
      refine ⟨-2, ?_, ?_⟩
      · rw [if_neg (show ¬ y = (0 : Int32) from lit_lt (m := 0) q (by decide) (by decide)), if_neg (show ¬ y = (1 : Int32) from lit_lt (m := 1) q (by decide) (by decide)), if_neg (show ¬ y = (2 : Int32) from lit_lt (m := 2) q (by decide) (by decide)), if_neg (show ¬ y = (3 : Int32) from lit_lt (m := 3) q (by decide) (by decide)), if_neg (show ¬ y = (4 : Int32) from lit_lt (m := 4) q (by decide) (by decide)), if_neg (show ¬ y = (5 : Int32) from lit_lt (m := 5) q (by decide) (by decide))]
      · rw [if_neg (show ¬ y = (0 : Int32) from lit_lt (m := 0) q (by decide) (by decide)), if_neg (show ¬ y = (1 : Int32) from lit_lt (m := 1) q (by decide) (by decide)), if_neg (show ¬ y = (2 : Int32) from lit_lt (m := 2) q (by decide) (by decide)), if_neg (show ¬ y = (3 : Int32) from lit_lt (m := 3) q (by decide) (by decide)), if_neg (show ¬ y = (4 : Int32) from lit_lt (m := 4) q (by decide) (by decide)), if_neg (show ¬ y = (5 : Int32) from lit_lt (m := 5) q (by decide) (by decide))]
    · have hk6 : k = 0 ∨ k = 1 ∨ k = 2 ∨ k = 3 ∨ k = 4 ∨ k = 5 := by omega
      rcases hk6 with rfl | rfl | rfl | rfl | rfl | rfl
      · refine ⟨i 230 (8 + 4 * g + 0), ?_, ?_⟩
        · rw [if_pos (by decide), ob_G h.1 h.s1 hg8, I_G h.1 h.s1 hg8, a.g hg (by decide : 0 < 4)]
        · rw [if_pos (by decide), ob_M h, x_ofG0 h hg8, cl_go]
      · refine ⟨i 230 (8 + 4 * g + 1), ?_, ?_⟩
        · rw [if_neg (by decide), if_pos (by decide), ob_G h.1 h.s1 hg8, I_G h.1 h.s1 hg8, a.g hg (by decide : 1 < 4)]
        · rw [if_neg (by decide), if_pos (by decide), ob_M h, x_ofG1 h hg8, cl_go]
      · refine ⟨bI (¬ i 230 (8 + 4 * g + 1) < i 230 0), ?_, ?_⟩
        · rw [if_neg (by decide), if_neg (by decide), if_pos (by decide), ob_X h, R_X0 h, ob_S h.1 h.s1, ob_G h.1 h.s1 hg8, I_S h.1 h.s1, y_isValidOn h.1 h.s1 hg8, cl_go, a.g hg (by decide : 1 < 4), a.f6]
          by_cases q : i 230 (8 + 4 * g + 1) < i 230 0
          · rw [bI_0 (fun e => e q)]; rfl
          · rw [bI_1 q]; rfl
        · rw [if_neg (by decide), if_neg (by decide), if_pos (by decide), ob_M h, x_ofG1 h hg8, cl_go, ob_M h, R_now h, ar_now0 h, I_230 h.1]
          by_cases q : i 230 (8 + 4 * g + 1) < i 230 0
          · rw [bI_0 (fun e => e q), if_pos q]
          · rw [bI_1 q, if_neg q]
      · refine ⟨sFirst (i 230) (nI g) (cN (i 230) 3) 0, ?_, ?_⟩
        · rw [if_neg (by decide), if_neg (by decide), if_neg (by decide), if_pos (by decide), ob_X h, R_X0 h, ob_S h.1 h.s1, y_first h.1 h.s1 a w, cl_go]
        · rw [if_neg (by decide), if_neg (by decide), if_neg (by decide), if_pos (by decide), ob_M h, x_lowest h w, cl_go]
      · refine ⟨i 230 (8 + 4 * g + 2), ?_, ?_⟩
        · rw [if_neg (by decide), if_neg (by decide), if_neg (by decide), if_neg (by decide), if_pos (by decide), ob_G h.1 h.s1 hg8, I_G h.1 h.s1 hg8, a.g hg (by decide : 2 < 4)]
        · rw [if_neg (by decide), if_neg (by decide), if_neg (by decide), if_neg (by decide), if_pos (by decide), ob_M h, x_ofG2 h hg8, cl_go]
      · refine ⟨i 230 (8 + 4 * g + 3), ?_, ?_⟩
        · rw [if_neg (by decide), if_neg (by decide), if_neg (by decide), if_neg (by decide), if_neg (by decide), if_pos (by decide), ob_G h.1 h.s1 hg8, I_G h.1 h.s1 hg8, a.g hg (by decide : 3 < 4)]
        · rw [if_neg (by decide), if_neg (by decide), if_neg (by decide), if_neg (by decide), if_neg (by decide), if_pos (by decide), ob_M h, x_ofG3 h hg8, cl_go]
  · rw [y_guideAt0 h.1 h.s1 a w hx, cl_go, if_pos rfl, x_noGuide0 h hn.1 (by omega) hx, cl_go, if_neg (by decide)]
    exact ⟨_, rfl, rfl⟩
theorem q_tour (h : Ev E) (a : Rep i j d 1 (i 230) (d 233)) (w : WF B (i 230) (d 233)) (x y : Int32) : ∃ v, f_X5_tour (mk E i j d) (zA E 0) x y = some (v, (mk E i j d)) ∧ f_X6_tour (mk E i j d) (zA E 229) x y = some (v, (mk E i j d)) := by
  have hn := w.n3
  unfold f_X5_tour f_X6_tour
  rw [ob_X h, R_X0 h, ob_S h.1 h.s1, ob_M h]
  by_cases hx : ∃ t, t < cN (i 230) 3 ∧ x = nI t
  · obtain ⟨t, ht, rfl⟩ := hx
    have h10 := w.t10 ht
    rw [y_tourAt1 h.1 h.s1 a w ht, cl_go, if_neg sm, x_noTour1 h hn.1 (by omega) ht, cl_go, if_pos rfl, x_in, cl_go]
    rcases pk_ix y (n := 11) (by decide) with q | q | ⟨k, hk, rfl⟩
    · rw [bI_0 (fun e => Int32.not_lt.mpr e.1 q)]
      have q : y < 0 ∨ nI 11 ≤ y := Or.inl q
      refine ⟨-2, ?_, ?_⟩
      · rw [if_neg (show ¬ y = (0 : Int32) from lit_lt (m := 0) q (by decide) (by decide)), if_neg (show ¬ y = (1 : Int32) from lit_lt (m := 1) q (by decide) (by decide)), if_neg (show ¬ y = (2 : Int32) from lit_lt (m := 2) q (by decide) (by decide)), if_neg (show ¬ y = (3 : Int32) from lit_lt (m := 3) q (by decide) (by decide)), if_neg (show ¬ y = (4 : Int32) from lit_lt (m := 4) q (by decide) (by decide)), if_neg (show ¬ y = (5 : Int32) from lit_lt (m := 5) q (by decide) (by decide)), if_neg (show ¬ y = (6 : Int32) from lit_lt (m := 6) q (by decide) (by decide)), if_neg (show ¬ y = (7 : Int32) from lit_lt (m := 7) q (by decide) (by decide)), if_neg (show ¬ y = (8 : Int32) from lit_lt (m := 8) q (by decide) (by decide)), if_neg (show ¬ y = (9 : Int32) from lit_lt (m := 9) q (by decide) (by decide)), if_neg (show ¬ y = (10 : Int32) from lit_lt (m := 10) q (by decide) (by decide))]
      · rw [if_pos rfl, if_neg (show ¬ y = (7 : Int32) from lit_lt (m := 7) q (by decide) (by decide)), if_neg (show ¬ y = (8 : Int32) from lit_lt (m := 8) q (by decide) (by decide)), if_neg (show ¬ y = (9 : Int32) from lit_lt (m := 9) q (by decide) (by decide)), if_neg (show ¬ y = (10 : Int32) from lit_lt (m := 10) q (by decide) (by decide))]
    · rw [bI_0 (fun e => absurd (Int32.le_trans q e.2) (by decide))]
      have q : y < 0 ∨ nI 11 ≤ y := Or.inr q
      refine ⟨-2, ?_, ?_⟩
      · rw [if_neg (show ¬ y = (0 : Int32) from lit_lt (m := 0) q (by decide) (by decide)), if_neg (show ¬ y = (1 : Int32) from lit_lt (m := 1) q (by decide) (by decide)), if_neg (show ¬ y = (2 : Int32) from lit_lt (m := 2) q (by decide) (by decide)), if_neg (show ¬ y = (3 : Int32) from lit_lt (m := 3) q (by decide) (by decide)), if_neg (show ¬ y = (4 : Int32) from lit_lt (m := 4) q (by decide) (by decide)), if_neg (show ¬ y = (5 : Int32) from lit_lt (m := 5) q (by decide) (by decide)), if_neg (show ¬ y = (6 : Int32) from lit_lt (m := 6) q (by decide) (by decide)), if_neg (show ¬ y = (7 : Int32) from lit_lt (m := 7) q (by decide) (by decide)), if_neg (show ¬ y = (8 : Int32) from lit_lt (m := 8) q (by decide) (by decide)), if_neg (show ¬ y = (9 : Int32) from lit_lt (m := 9) q (by decide) (by decide)), if_neg (show ¬ y = (10 : Int32) from lit_lt (m := 10) q (by decide) (by decide))]
      · rw [if_pos rfl, if_neg (show ¬ y = (7 : Int32) from lit_lt (m := 7) q (by decide) (by decide)), if_neg (show ¬ y = (8 : Int32) from lit_lt (m := 8) q (by decide) (by decide)), if_neg (show ¬ y = (9 : Int32) from lit_lt (m := 9) q (by decide) (by decide)), if_neg (show ¬ y = (10 : Int32) from lit_lt (m := 10) q (by decide) (by decide))]
    · have hk6 : k = 0 ∨ k = 1 ∨ k = 2 ∨ k = 3 ∨ k = 4 ∨ k = 5 ∨ k = 6 ∨ k = 7 ∨ k = 8 ∨ k = 9 ∨ k = 10 := by omega
      rcases hk6 with rfl | rfl | rfl | rfl | rfl | rfl | rfl | rfl | rfl | rfl | rfl
      · refine ⟨i 230 (40 + 14 * t + 0), ?_, ?_⟩
        · rw [if_pos (by decide), ob_T h.1 h.s1 h10, I_T h.1 h.s1 h10, a.t1 ht]
        · rw [bI_1 (by decide), if_neg (by decide), ob_M h, x_of h h10 0 (by decide), cl_go]
      · refine ⟨i 230 (40 + 14 * t + 1), ?_, ?_⟩
        · rw [if_neg (by decide), if_pos (by decide), ob_T h.1 h.s1 h10, I_T h.1 h.s1 h10, a.t4 ht]
        · rw [bI_1 (by decide), if_neg (by decide), ob_M h, x_of h h10 1 (by decide), cl_go]
      · refine ⟨i 230 (40 + 14 * t + 2), ?_, ?_⟩
        · rw [if_neg (by decide), if_neg (by decide), if_pos (by decide), ob_T h.1 h.s1 h10, I_T h.1 h.s1 h10, a.t5 ht]
        · rw [bI_1 (by decide), if_neg (by decide), ob_M h, x_of h h10 2 (by decide), cl_go]
      · refine ⟨i 230 (40 + 14 * t + 3), ?_, ?_⟩
        · rw [if_neg (by decide), if_neg (by decide), if_neg (by decide), if_pos (by decide), ob_T h.1 h.s1 h10, I_T h.1 h.s1 h10, a.t6 ht]
        · rw [bI_1 (by decide), if_neg (by decide), ob_M h, x_of h h10 3 (by decide), cl_go]
      · refine ⟨i 230 (40 + 14 * t + 4), ?_, ?_⟩
        · rw [if_neg (by decide), if_neg (by decide), if_neg (by decide), if_neg (by decide), if_pos (by decide), ob_T h.1 h.s1 h10, I_T h.1 h.s1 h10, a.t7 ht]
        · rw [bI_1 (by decide), if_neg (by decide), ob_M h, x_of h h10 4 (by decide), cl_go]
      · refine ⟨i 230 (40 + 14 * t + 5), ?_, ?_⟩
        · rw [if_neg (by decide), if_neg (by decide), if_neg (by decide), if_neg (by decide), if_neg (by decide), if_pos (by decide), ob_T h.1 h.s1 h10, I_T h.1 h.s1 h10, a.t8 ht]
        · rw [bI_1 (by decide), if_neg (by decide), ob_M h, x_of h h10 5 (by decide), cl_go]
      · refine ⟨i 230 (40 + 14 * t + 6), ?_, ?_⟩
        · rw [if_neg (by decide), if_neg (by decide), if_neg (by decide), if_neg (by decide), if_neg (by decide), if_neg (by decide), if_pos (by decide), ob_T h.1 h.s1 h10, I_T h.1 h.s1 h10, a.t9 ht]
        · rw [bI_1 (by decide), if_neg (by decide), ob_M h, x_of h h10 6 (by decide), cl_go]
      · refine ⟨if i 230 (40 + 14 * t + 6) = 2 then i 230 (40 + 14 * t + 7) else -5, ?_, ?_⟩
        · rw [if_neg (by decide), if_neg (by decide), if_neg (by decide), if_neg (by decide), if_neg (by decide), if_neg (by decide), if_neg (by decide), if_pos (by decide), ob_T h.1 h.s1 h10, I_T h.1 h.s1 h10, a.t9 ht, I_T h.1 h.s1 h10, a.t10 ht]
          split <;> rfl
        · rw [bI_0 (by decide), if_pos rfl, if_pos (by decide), ob_M h, x_of6 h h10, cl_go, ob_M h, x_of7 h h10, cl_go]
          split <;> rfl
      · refine ⟨nI (sLeft (i 230) (d 233) t (cN (i 230) (40 + 14 * t + 4))), ?_, ?_⟩
        · rw [if_neg (by decide), if_neg (by decide), if_neg (by decide), if_neg (by decide), if_neg (by decide), if_neg (by decide), if_neg (by decide), if_neg (by decide), if_pos (by decide), ob_X h, ob_T h.1 h.s1 h10, R_X0 h, ob_S h.1 h.s1, I_T h.1 h.s1 h10, a.t7 ht, (w.many ht).1, y_leftAfter h.1 h.s1 a w ht (Nat.le_refl _), cl_go]
        · rw [bI_0 (by decide), if_pos rfl, if_neg (by decide), if_pos (by decide), ob_M h, x_leftOver h w ht, cl_go]
      · refine ⟨sBase (d 233 (7 + t)), ?_, ?_⟩
        · rw [if_neg (by decide), if_neg (by decide), if_neg (by decide), if_neg (by decide), if_neg (by decide), if_neg (by decide), if_neg (by decide), if_neg (by decide), if_neg (by decide), if_pos (by decide), ob_T h.1 h.s1 h10, I_T h.1 h.s1 h10, a.t3 ht]
        · rw [bI_0 (by decide), if_pos rfl, if_neg (by decide), if_neg (by decide), if_pos (by decide), ob_M h, x_baseOf h h10, cl_go]
      · refine ⟨if i 230 (40 + 14 * t + 6) = 0 then sCause (i 230) (d 233) t else -5, ?_, ?_⟩
        · rw [if_neg (by decide), if_neg (by decide), if_neg (by decide), if_neg (by decide), if_neg (by decide), if_neg (by decide), if_neg (by decide), if_neg (by decide), if_neg (by decide), if_neg (by decide), if_pos (by decide), ob_T h.1 h.s1 h10, I_T h.1 h.s1 h10, a.t9 ht, ob_X h, R_X0 h, ob_S h.1 h.s1, y_causeAgainst h.1 h.s1 a w ht, cl_go]
          split <;> rfl
        · rw [bI_0 (by decide), if_pos rfl, if_neg (by decide), if_neg (by decide), if_neg (by decide), if_pos (by decide), ob_M h, x_isOpen h h10, cl_go, ob_M h, x_causeOf h w ht, cl_go]
          by_cases q : i 230 (40 + 14 * t + 6) = 0
          · rw [bI_1 q, if_neg (by decide), if_pos q]
          · rw [bI_0 q, if_pos rfl, if_neg q]
  · rw [y_tourAt0 h.1 h.s1 a w hx, cl_go, if_pos rfl, x_noTour0 h hn.1 (by omega) hx, cl_go, if_neg (by decide)]
    exact ⟨_, rfl, rfl⟩
end QS
