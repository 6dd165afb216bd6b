/-! the class's questions and their answers -/
section QA
variable {E : Hp} {i : Nat → Nat → Int32} {j : Nat → Nat → Int64} {d : Nat → Nat → UInt64} {B : Nat} {N : Nat → Int32} {r : Nat → UInt64}
def sTour (N : Nat → Int32) (r : Nat → UInt64) (t : Nat) : Nat → Int32
  | 0 => N (40 + 14 * t + 0)
  | 1 => N (40 + 14 * t + 1)
  | 2 => N (40 + 14 * t + 2)
  | 3 => N (40 + 14 * t + 3)
  | 4 => N (40 + 14 * t + 4)
  | 5 => N (40 + 14 * t + 5)
  | 6 => N (40 + 14 * t + 6)
  | 7 => if N (40 + 14 * t + 6) = 2 then N (40 + 14 * t + 7) else -5
  | 8 => nI (sLeft N r t (cN N (40 + 14 * t + 4)))
  | 9 => sBase (r (7 + t))
  | 10 => if N (40 + 14 * t + 6) = 0 then sCause N r t else -5
  | _ => -2
def sGuide (N : Nat → Int32) (g : Nat) : Nat → Int32
  | 0 => N (8 + 4 * g + 0)
  | 1 => N (8 + 4 * g + 1)
  | 2 => bI (¬ N (8 + 4 * g + 1) < N 0)
  | 3 => sFirst N (nI g) (cN N 3) 0
  | 4 => N (8 + 4 * g + 2)
  | 5 => N (8 + 4 * g + 3)
  | _ => -2
def sCount (N : Nat → Int32) (K : Nat) : Nat → Int32
  | 0 => N 0
  | 1 => N 1
  | 2 => N 2
  | 3 => N 3
  | 4 => sStates N 0
  | 5 => sStates N 1
  | 6 => sStates N 2
  | 7 => sStates N 3
  | 8 => sPaidAll N
  | 9 => N 4
  | 10 => sGone N
  | 11 => nI K
  | 12 => 0
  | _ => -2
theorem a_guide (h : Ev E) (a : Rep i j d 1 N r) (w : WF B N r) {g : Nat} (hg : g < cN N 1) {k : Nat} (hk : k < 6) : f_X5_guide (mk E i j d) (zA E 0) (nI g) (nI k) = some (sGuide N g k, mk E i j d) := by
  have hn := w.n1
  have hg8 : g < 8 := by omega
  unfold f_X5_guide
  rw [ob_X h, R_X0 h, ob_S h.1 h.s1, y_guideAt1 h.1 h.s1 a w hg, cl_go, if_neg sm]
  have hk6 : k = 0 ∨ k = 1 ∨ k = 2 ∨ k = 3 ∨ k = 4 ∨ k = 5 := by omega
  rcases hk6 with rfl | rfl | rfl | rfl | rfl | rfl
  · rw [if_pos (by decide), ob_G h.1 h.s1 hg8, I_G h.1 h.s1 hg8, a.g hg (by decide : 0 < 4)]
    rfl
  · rw [if_neg (by decide), if_pos (by decide), ob_G h.1 h.s1 hg8, I_G h.1 h.s1 hg8, a.g hg (by decide : 1 < 4)]
    rfl
  · rw [if_neg (by decide), if_neg (by decide), if_pos (by decide), ob_X h, R_X0 h, ob_S h.1 h.s1, ob_G h.1 h.s1 hg8, I_S h.1 h.s1, y_isValidOn h.1 h.s1 hg8, cl_go, a.g hg (by decide : 1 < 4), a.f6]
    show _ = some (bI (¬ N (8 + 4 * g + 1) < N 0), _)
    by_cases q : N (8 + 4 * g + 1) < N 0
    · rw [bI_0 (fun e => e q)]; rfl
    · rw [bI_1 q]; rfl
  · rw [if_neg (by decide), if_neg (by decide), if_neg (by decide), if_pos (by decide), ob_X h, R_X0 h, ob_S h.1 h.s1, y_first h.1 h.s1 a w, cl_go]
    rfl
  · rw [if_neg (by decide), if_neg (by decide), if_neg (by decide), if_neg (by decide), if_pos (by decide), ob_G h.1 h.s1 hg8, I_G h.1 h.s1 hg8, a.g hg (by decide : 2 < 4)]
    rfl
  · rw [if_neg (by decide), if_neg (by decide), if_neg (by decide), if_neg (by decide), if_neg (by decide), if_pos (by decide), ob_G h.1 h.s1 hg8, I_G h.1 h.s1 hg8, a.g hg (by decide : 3 < 4)]
    rfl
theorem a_guideN (h : Ev E) (a : Rep i j d 1 N r) (w : WF B N r) {x y : Int32} (hx : ¬ ∃ t, t < cN N 1 ∧ x = nI t) : f_X5_guide (mk E i j d) (zA E 0) x y = some (-1, mk E i j d) := by
  unfold f_X5_guide
  rw [ob_X h, R_X0 h, ob_S h.1 h.s1, y_guideAt0 h.1 h.s1 a w hx, cl_go, if_pos rfl]
theorem a_tour (h : Ev E) (a : Rep i j d 1 N r) (w : WF B N r) {t : Nat} (ht : t < cN N 3) {k : Nat} (hk : k < 12) : f_X5_tour (mk E i j d) (zA E 0) (nI t) (nI k) = some (sTour N r t k, mk E i j d) := by
  have hn := w.n3
  have h10 := w.t10 ht
  unfold f_X5_tour
  rw [ob_X h, R_X0 h, ob_S h.1 h.s1, y_tourAt1 h.1 h.s1 a w ht, cl_go, if_neg sm]
  have hk6 : k = 0 ∨ k = 1 ∨ k = 2 ∨ k = 3 ∨ k = 4 ∨ k = 5 ∨ k = 6 ∨ k = 7 ∨ k = 8 ∨ k = 9 ∨ k = 10 ∨ k = 11 := by omega
  rcases hk6 with rfl | rfl | rfl | rfl | rfl | rfl | rfl | rfl | rfl | rfl | rfl | rfl
  · rw [if_pos (by decide), ob_T h.1 h.s1 h10, I_T h.1 h.s1 h10, a.t1 ht]
    rfl
  · rw [if_neg (by decide), if_pos (by decide), ob_T h.1 h.s1 h10, I_T h.1 h.s1 h10, a.t4 ht]
    rfl
  · rw [if_neg (by decide), if_neg (by decide), if_pos (by decide), ob_T h.1 h.s1 h10, I_T h.1 h.s1 h10, a.t5 ht]
    rfl
  · rw [if_neg (by decide), if_neg (by decide), if_neg (by decide), if_pos (by decide), ob_T h.1 h.s1 h10, I_T h.1 h.s1 h10, a.t6 ht]
    rfl
  · rw [if_neg (by decide), if_neg (by decide), if_neg (by decide), if_neg (by decide), if_pos (by decide), ob_T h.1 h.s1 h10, I_T h.1 h.s1 h10, a.t7 ht]
    rfl
  · rw [if_neg (by decide), if_neg (by decide), if_neg (by decide), if_neg (by decide), if_neg (by decide), if_pos (by decide), ob_T h.1 h.s1 h10, I_T h.1 h.s1 h10, a.t8 ht]
    rfl
  · rw [if_neg (by decide), if_neg (by decide), if_neg (by decide), if_neg (by decide), if_neg (by decide), if_neg (by decide), if_pos (by decide), ob_T h.1 h.s1 h10, I_T h.1 h.s1 h10, a.t9 ht]
    rfl
  · rw [if_neg (by decide), if_neg (by decide), if_neg (by decide), if_neg (by decide), if_neg (by decide), if_neg (by decide), if_neg (by decide), if_pos (by decide), ob_T h.1 h.s1 h10, I_T h.1 h.s1 h10, a.t9 ht, I_T h.1 h.s1 h10, a.t10 ht]
    show _ = some ((if N (40 + 14 * t + 6) = 2 then N (40 + 14 * t + 7) else -5), _)
    split <;> rfl
  · rw [if_neg (by decide), if_neg (by decide), if_neg (by decide), if_neg (by decide), if_neg (by decide), if_neg (by decide), if_neg (by decide), if_neg (by decide), if_pos (by decide), ob_X h, ob_T h.1 h.s1 h10, R_X0 h, ob_S h.1 h.s1, I_T h.1 h.s1 h10, a.t7 ht, (w.many ht).1, y_leftAfter h.1 h.s1 a w ht (Nat.le_refl _), cl_go]
    rfl
  · rw [if_neg (by decide), if_neg (by decide), if_neg (by decide), if_neg (by decide), if_neg (by decide), if_neg (by decide), if_neg (by decide), if_neg (by decide), if_neg (by decide), if_pos (by decide), ob_T h.1 h.s1 h10, I_T h.1 h.s1 h10, a.t3 ht]
    rfl
  · rw [if_neg (by decide), if_neg (by decide), if_neg (by decide), if_neg (by decide), if_neg (by decide), if_neg (by decide), if_neg (by decide), if_neg (by decide), if_neg (by decide), if_neg (by decide), if_pos (by decide), ob_T h.1 h.s1 h10, I_T h.1 h.s1 h10, a.t9 ht, ob_X h, R_X0 h, ob_S h.1 h.s1, y_causeAgainst h.1 h.s1 a w ht, cl_go]
    show _ = some ((if N (40 + 14 * t + 6) = 0 then sCause N r t else -5), _)
    split <;> rfl
  · rw [if_neg (by decide), if_neg (by decide), if_neg (by decide), if_neg (by decide), if_neg (by decide), if_neg (by decide), if_neg (by decide), if_neg (by decide), if_neg (by decide), if_neg (by decide), if_neg (by decide)]
    rfl
theorem a_tourN (h : Ev E) (a : Rep i j d 1 N r) (w : WF B N r) {x y : Int32} (hx : ¬ ∃ t, t < cN N 3 ∧ x = nI t) : f_X5_tour (mk E i j d) (zA E 0) x y = some (-1, mk E i j d) := by
  unfold f_X5_tour
  rw [ob_X h, R_X0 h, ob_S h.1 h.s1, y_tourAt0 h.1 h.s1 a w hx, cl_go, if_pos rfl]
theorem a_count (h : Ev E) (a : Rep i j d 1 N r) (w : WF B N r) {K : Nat} (hK : i 65 2 = nI K) (hl : i 227 1 = 0) {k : Nat} (hk : k < 14) : f_X5_count (mk E i j d) (zA E 0) (nI k) = some (sCount N K k, mk E i j d) := by
  unfold f_X5_count
  have hk6 : k = 0 ∨ k = 1 ∨ k = 2 ∨ k = 3 ∨ k = 4 ∨ k = 5 ∨ k = 6 ∨ k = 7 ∨ k = 8 ∨ k = 9 ∨ k = 10 ∨ k = 11 ∨ k = 12 ∨ k = 13 := by omega
  rcases hk6 with rfl | rfl | rfl | rfl | rfl | rfl | rfl | rfl | rfl | rfl | rfl | rfl | rfl | rfl
  · rw [if_pos (by decide), ob_X h, R_X0 h, ob_S h.1 h.s1, I_S h.1 h.s1, a.f6]
    rfl
  · rw [if_neg (by decide), if_pos (by decide), ob_X h, R_X0 h, ob_S h.1 h.s1, I_S h.1 h.s1, a.f3]
    rfl
  · rw [if_neg (by decide), if_neg (by decide), if_pos (by decide), ob_X h, R_X0 h, ob_S h.1 h.s1, I_S h.1 h.s1, a.f4]
    rfl
  · rw [if_neg (by decide), if_neg (by decide), if_neg (by decide), if_pos (by decide), ob_X h, R_X0 h, ob_S h.1 h.s1, I_S h.1 h.s1, a.f5]
    rfl
  · rw [if_neg (by decide), if_neg (by decide), if_neg (by decide), if_neg (by decide), if_pos (by decide), ob_X h, R_X0 h, ob_S h.1 h.s1, y_toursThatAre h.1 h.s1 a w, cl_go]
    rfl
  · rw [if_neg (by decide), if_neg (by decide), if_neg (by decide), if_neg (by decide), if_neg (by decide), if_pos (by decide), ob_X h, R_X0 h, ob_S h.1 h.s1, y_toursThatAre h.1 h.s1 a w, cl_go]
    rfl
  · rw [if_neg (by decide), if_neg (by decide), if_neg (by decide), if_neg (by decide), if_neg (by decide), if_neg (by decide), if_pos (by decide), ob_X h, R_X0 h, ob_S h.1 h.s1, y_toursThatAre h.1 h.s1 a w, cl_go]
    rfl
  · rw [if_neg (by decide), if_neg (by decide), if_neg (by decide), if_neg (by decide), if_neg (by decide), if_neg (by decide), if_neg (by decide), if_pos (by decide), ob_X h, R_X0 h, ob_S h.1 h.s1, y_toursThatAre h.1 h.s1 a w, cl_go]
    rfl
  · rw [if_neg (by decide), if_neg (by decide), if_neg (by decide), if_neg (by decide), if_neg (by decide), if_neg (by decide), if_neg (by decide), if_neg (by decide), if_pos (by decide), ob_X h, R_X0 h, ob_S h.1 h.s1, y_allPaid h.1 h.s1 a w, cl_go]
    rfl
  · rw [if_neg (by decide), if_neg (by decide), if_neg (by decide), if_neg (by decide), if_neg (by decide), if_neg (by decide), if_neg (by decide), if_neg (by decide), if_neg (by decide), if_pos (by decide), ob_X h, R_X0 h, ob_S h.1 h.s1, I_S h.1 h.s1, a.f9]
    rfl
  · rw [if_neg (by decide), if_neg (by decide), if_neg (by decide), if_neg (by decide), if_neg (by decide), if_neg (by decide), if_neg (by decide), if_neg (by decide), if_neg (by decide), if_neg (by decide), if_pos (by decide), ob_X h, R_X0 h, ob_S h.1 h.s1, y_guestsGone h.1 h.s1 a w, cl_go]
    rfl
  · rw [if_neg (by decide), if_neg (by decide), if_neg (by decide), if_neg (by decide), if_neg (by decide), if_neg (by decide), if_neg (by decide), if_neg (by decide), if_neg (by decide), if_neg (by decide), if_neg (by decide), if_pos (by decide), ob_X h, R_X2 h, ob_H h, I_65 h.1, hK]
    rfl
  · rw [if_neg (by decide), if_neg (by decide), if_neg (by decide), if_neg (by decide), if_neg (by decide), if_neg (by decide), if_neg (by decide), if_neg (by decide), if_neg (by decide), if_neg (by decide), if_neg (by decide), if_neg (by decide), if_pos (by decide), ob_X h, R_X3 h, ob_Y h, I_227 h.1, hl]
    rfl
  · rw [if_neg (by decide), if_neg (by decide), if_neg (by decide), if_neg (by decide), if_neg (by decide), if_neg (by decide), if_neg (by decide), if_neg (by decide), if_neg (by decide), if_neg (by decide), if_neg (by decide), if_neg (by decide), if_neg (by decide)]
    rfl
end QA
