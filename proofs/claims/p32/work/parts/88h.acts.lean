/-! the acts, one by one, with what they make of the rows -/
section ACTH
variable {E : Hp} {i : Nat → Nat → Int32} {j : Nat → Nat → Int64} {d : Nat → Nat → UInt64} {N : Nat → Int32} {r : Nat → UInt64} {B : Nat} {H : List Rw} {s : Option Rw}
def gdN (N : Nat → Int32) (k : Nat) (z : Int32) : Nat → Int32 := upd (upd (upd (upd (upd N (8 + 4 * (cN N 1) + 0) (nI k)) (8 + 4 * (cN N 1) + 1) z) (8 + 4 * (cN N 1) + 2) 0) (8 + 4 * (cN N 1) + 3) 0) 1 (nI (cN N 1 + 1))
theorem b_guide (h : Ev E) (V : IV B i j d N r H s) {k : Nat} (k1 : 1 ≤ k) (k3 : k ≤ 3) {z : Int32} (q2 : 0 ≤ z ∧ z ≤ 999) (q3 : cN N 1 < 8) : ∃ S', f_X5_addGuide (mk E i j d) (zA E 0) (nI k) z = some (nI (cN N 1), S') ∧ At E S' B (gdN N k z) r (push H (N, r)) s := by
  have a := V.rp
  have w := V.wf
  have n1 := w.n1.2
  have q1 : 1 ≤ nI k ∧ nI k ≤ 3 := ⟨(nI_leI (a := 1) (by decide) (by omega)).mpr k1, (nI_leI (b := 3) (by omega) (by decide)).mpr k3⟩
  have wq1 := w.q.cls q3 k1 k3
  have wq2 := wq1.free (z := 8 + 4 * (cN N 1) + 1) (by unfold Ess; omega) z
  have wq3 := wq2.free (z := 8 + 4 * (cN N 1) + 2) (by unfold Ess; omega) 0
  have wq4 := wq3.free (z := 8 + 4 * (cN N 1) + 3) (by unfold Ess; omega) 0
  have g1 : ∀ x, x < 8 ∨ 8 + 4 * (cN N 1) + 4 ≤ x ∨ x < 8 + 4 * (cN N 1) → (upd (upd (upd (upd N (8 + 4 * (cN N 1) + 0) (nI k)) (8 + 4 * (cN N 1) + 1) z) (8 + 4 * (cN N 1) + 2) 0) (8 + 4 * (cN N 1) + 3) 0) x = N x := fun x hx => by
    by_cases c : x < 8 ∨ 8 + 4 * (cN N 1) + 4 ≤ x ∨ x < 8 + 4 * (cN N 1)
    · rw [up_ne (by omega), up_ne (by omega), up_ne (by omega), up_ne (by omega)]
    · exact absurd hx c
  have g0 : (upd (upd (upd (upd N (8 + 4 * (cN N 1) + 0) (nI k)) (8 + 4 * (cN N 1) + 1) z) (8 + 4 * (cN N 1) + 2) 0) (8 + 4 * (cN N 1) + 3) 0) (8 + 4 * (cN N 1)) = nI k := by rw [up_ne (by omega), up_ne (by omega), up_ne (by omega)]; exact up_eq
  have e1' : cN (upd (upd (upd (upd N (8 + 4 * (cN N 1) + 0) (nI k)) (8 + 4 * (cN N 1) + 1) z) (8 + 4 * (cN N 1) + 2) 0) (8 + 4 * (cN N 1) + 3) 0) 1 = cN N 1 := cN_of (g1 1 (by omega))
  have wq5 : WQ (gdN N k z) r := wq4.c1 (by omega) (by rw [e1']; omega) (fun g hg => by
    by_cases c : g = cN N 1
    · rw [c]
      have := Cn.mk' (b := 3) g0 k3 (by decide)
      refine ⟨this, ?_⟩
      rw [cN_nI g0 (by omega)]; exact k1
    · have e : (upd (upd (upd (upd N (8 + 4 * (cN N 1) + 0) (nI k)) (8 + 4 * (cN N 1) + 1) z) (8 + 4 * (cN N 1) + 2) 0) (8 + 4 * (cN N 1) + 3) 0) (8 + 4 * g) = N (8 + 4 * g) := g1 _ (by omega)
      unfold Cn; rw [cN_of e, e]; exact w.kl (by omega))
  have p5 : PB B (gdN N k z) := ((((w.2.free (fun t' h' => by omega)).free (fun t' h' => by omega)).free (fun t' h' => by omega)).free (fun t' h' => by omega)).free (fun t' h' => by omega)
  refine act h V (Nat.le_refl _) (fX := fun S => f_X5_addGuide S (zA E 0) (nI k) z) (nI (cN N 1)) (gdN N k z) r ⟨wq5, p5⟩ ?_
  intro i1 j1 d1 er a1
  show ∃ i2 j2 d2, f_X5_addGuide _ _ _ _ = _ ∧ _
  unfold f_X5_addGuide f_X0_begin f_X0_certify
  have ne : 1 ≠ 1 + 2 + cN N 1 := by omega
  rw [y_isClass, cl_go, bI_1 q1, if_neg (by decide), y_isLast, cl_go, bI_1 q2, if_neg (by decide), ob_X h, R_X0 h, ob_S h.1 h.s1, I_S h.1 h.s1, a.f3, w.n1.1, if_pos (show nI (cN N 1) < 8 from (nI_ltI (b := 8) (by omega) (by decide)).mpr q3), R_X2 h, ob_H h, er, cl_go, ob_X h, R_X0 h, ob_S h.1 h.s1, bnd_go, I_S h.1 h.s1, a1.f3, w.n1.1, R_S0 h.s1, ar_S0 h.1 h.s1 q3, R_G h.s1 q3, ob_G h.1 h.s1 q3, ob_G h.1 h.s1 q3, ob_G h.1 h.s1 q3, wI_G h.1 h.s1 q3, bnd_go, ob_G h.1 h.s1 q3, wI_G h.1 h.s1 q3, bnd_go, cl_go, ob_G h.1 h.s1 q3, wI_G h.1 h.s1 q3, bnd_go, ob_G h.1 h.s1 q3, wI_G h.1 h.s1 q3, bnd_go, cl_go, ob_X h, R_X0 h, ob_S h.1 h.s1, ob_S h.1 h.s1, I_S h.1 h.s1, u2_row _ _ ne, u2_row _ _ ne, u2_row _ _ ne, u2_row _ _ ne, a1.f3, w.n1.1, nI_1, wI_S h.1 h.s1, bnd_go]
  have R4 := (((a1.wg w.q q3 (by decide : 0 < 4) (nI k)).wg wq1 q3 (by decide : 1 < 4) z).wg wq2 q3 (by decide : 2 < 4) 0).wg wq3 q3 (by decide : 3 < 4) 0
  refine ⟨_, _, _, rfl, fun q hq => ⟨?_, rfl, rfl⟩, R4.s3 wq4 (n := cN N 1 + 1) (by omega) _ rfl (fun g hg x hx => ?_)⟩
  · rw [u2_row _ _ (by omega), u2_row _ _ (by omega), u2_row _ _ (by omega), u2_row _ _ (by omega), u2_row _ _ (by omega)]
  · by_cases c : g = cN N 1
    · have : x = 0 ∨ x = 1 ∨ x = 2 ∨ x = 3 := by omega
      rw [c]
      rcases this with rfl | rfl | rfl | rfl
      · rw [u2_nek _ _ (by decide), u2_nek _ _ (by decide), u2_nek _ _ (by decide), u2_self, up_ne (by omega), up_ne (by omega), up_ne (by omega), up_eq]
      · rw [u2_nek _ _ (by decide), u2_nek _ _ (by decide), u2_self, up_ne (by omega), up_ne (by omega), up_eq]
      · rw [u2_nek _ _ (by decide), u2_self, up_ne (by omega), up_eq]
      · rw [u2_self, up_eq]
    · exact R4.g (by rw [e1']; omega) hx
theorem b_guideF (h : Ev E) (V : IV B i j d N r H s) {y z : Int32} (q1 : 1 ≤ y ∧ y ≤ 3) (q2 : 0 ≤ z ∧ z ≤ 999) (q3 : ¬ cN N 1 < 8) : f_X5_addGuide (mk E i j d) (zA E 0) y z = some (-3, mk E i j d) := by
  have a := V.rp
  have w := V.wf
  have n1 := w.n1.2
  unfold f_X5_addGuide
  rw [y_isClass, cl_go, bI_1 q1, if_neg (by decide), y_isLast, cl_go, bI_1 q2, if_neg (by decide), ob_X h, R_X0 h, ob_S h.1 h.s1, I_S h.1 h.s1, a.f3, w.n1.1, if_neg (show ¬ nI (cN N 1) < 8 from fun e => q3 ((nI_ltI (b := 8) (by omega) (by decide)).mp e))]
theorem b_guideB {S : Hp} {x : Nat} : f_X5_addGuide S x 4 0 = some (-2, S) := by
  unfold f_X5_addGuide
  rw [y_isClass, cl_go, bI_0 (by decide), if_pos rfl]
def brN (N : Nat → Int32) : Nat → Int32 := upd N 2 (nI (cN N 2 + 1))
theorem b_bridge (h : Ev E) (V : IV B i j d N r H s) {b : Int64} (q1 : 0 ≤ b ∧ b ≤ (4647503709213818880 : Int64)) (q3 : cN N 2 < 6) : ∃ S', f_X5_addBridge (mk E i j d) (zA E 0) b = some (nI (cN N 2), S') ∧ At E S' B (brN N) (vf_upd r (1 + cN N 2) b.toUInt64) (push H (N, r)) s := by
  have a := V.rp
  have w := V.wf
  have n2 := w.n2.2
  have hd := fp_dB b q1
  have wq : WQ (brN N) (vf_upd r (1 + cN N 2) b.toUInt64) := (w.q.rb q3 hd).c2 (by omega)
  have pb : PB B (brN N) := w.2.free (fun t' h' => by omega)
  refine act h V (Nat.le_refl _) (fX := fun S => f_X5_addBridge S (zA E 0) b) (nI (cN N 2)) (brN N) (vf_upd r (1 + cN N 2) b.toUInt64) ⟨wq, pb⟩ ?_
  intro i1 j1 d1 er a1
  show ∃ i2 j2 d2, f_X5_addBridge _ _ _ = _ ∧ _
  unfold f_X5_addBridge
  rw [fp_zero, cl_go, bI_1 q1, if_neg (by decide), ob_X h, R_X0 h, ob_S h.1 h.s1, I_S h.1 h.s1, a.f4, w.n2.1, if_pos (show nI (cN N 2) < 6 from (nI_ltI (b := 6) (by omega) (by decide)).mpr q3), R_X2 h, ob_H h, er, cl_go, ob_X h, R_X0 h, ob_S h.1 h.s1, bnd_go, I_S h.1 h.s1, a1.f4, w.n2.1, fp_num b (Or.inl hd), cl_go, R_S1 h.s1, ar_S1 h.1 h.s1 q3, wD_B h.1 h.s1, bnd_go, ob_X h, R_X0 h, ob_S h.1 h.s1, ob_S h.1 h.s1, I_S h.1 h.s1, a1.f4, w.n2.1, nI_1, wI_S h.1 h.s1, bnd_go]
  exact ⟨_, _, _, rfl, fun q hq => ⟨u2_row _ _ (by omega), rfl, u2_row _ _ (by omega)⟩, (a1.wb w.n3.2 q3 _).s4 (w.q.rb q3 hd) _⟩
theorem b_bridgeF (h : Ev E) (V : IV B i j d N r H s) {b : Int64} (q1 : 0 ≤ b ∧ b ≤ (4647503709213818880 : Int64)) (q3 : ¬ cN N 2 < 6) : f_X5_addBridge (mk E i j d) (zA E 0) b = some (-3, mk E i j d) := by
  have a := V.rp
  have w := V.wf
  have n2 := w.n2.2
  unfold f_X5_addBridge
  rw [fp_zero, cl_go, bI_1 q1, if_neg (by decide), ob_X h, R_X0 h, ob_S h.1 h.s1, I_S h.1 h.s1, a.f4, w.n2.1, if_neg (show ¬ nI (cN N 2) < 6 from fun e => q3 ((nI_ltI (b := 6) (by omega) (by decide)).mp e))]
theorem b_bridgeB {S : Hp} {x : Nat} {b : Int64} (q1 : ¬ (0 ≤ b ∧ b ≤ (4647503709213818880 : Int64))) : f_X5_addBridge S x b = some (-2, S) := by
  unfold f_X5_addBridge
  rw [fp_zero, cl_go, bI_0 q1, if_pos rfl]
theorem b_temp (h : Ev E) (V : IV B i j d N r H s) {b : Int64} (q1 : dT b.toUInt64) (q3 : ¬ (Op.cmpValue (FP.dcmp b.toUInt64 (r 0)) CmpOp.l) = 0) : ∃ S', f_X5_setTemperature (mk E i j d) (zA E 0) b = some (1, S') ∧ At E S' B N (vf_upd r 0 b.toUInt64) (push H (N, r)) s := by
  have a := V.rp
  have w := V.wf
  refine act h V (Nat.le_refl _) (fX := fun S => f_X5_setTemperature S (zA E 0) b) 1 N (vf_upd r 0 b.toUInt64) ⟨w.q.r0 q1, w.2⟩ ?_
  intro i1 j1 d1 er a1
  show ∃ i2 j2 d2, f_X5_setTemperature _ _ _ = _ ∧ _
  unfold f_X5_setTemperature
  rw [fp_isTemp1 b q1, cl_go, if_neg (by decide), fp_num b (Or.inr q1), cl_go, ob_X h, R_X0 h, ob_S h.1 h.s1, D_S h.1 h.s1, a.f8, if_neg q3, R_X2 h, ob_H h, er, cl_go, ob_X h, R_X0 h, ob_S h.1 h.s1, wD_S h.1 h.s1, bnd_go, ob_X h, R_X0 h, ob_S h.1 h.s1, wJ_S h.1 h.s1, bnd_go]
  exact ⟨_, _, _, rfl, fun q hq => ⟨rfl, u2_row _ _ (by omega), u2_row _ _ (by omega)⟩, a1.wd b.toUInt64⟩
theorem b_tempN (h : Ev E) (V : IV B i j d N r H s) {b : Int64} (q1 : dT b.toUInt64) (q3 : (Op.cmpValue (FP.dcmp b.toUInt64 (r 0)) CmpOp.l) = 0) : f_X5_setTemperature (mk E i j d) (zA E 0) b = some (-5, mk E i j d) := by
  have a := V.rp
  unfold f_X5_setTemperature
  rw [fp_isTemp1 b q1, cl_go, if_neg (by decide), fp_num b (Or.inr q1), cl_go, ob_X h, R_X0 h, ob_S h.1 h.s1, D_S h.1 h.s1, a.f8, if_pos q3]
theorem b_tempB {S : Hp} {x : Nat} {b : Int64} (q1 : ¬ dT b.toUInt64) : f_X5_setTemperature S x b = some (-2, S) := by
  unfold f_X5_setTemperature
  rw [fp_isTemp0 b q1, cl_go, if_pos rfl]
def trN (N : Nat → Int32) (x : Int32) (pr : Nat) (br : Int32) : Nat → Int32 := upd (upd (upd (upd (cp (fun _ => 0) N (40 + 14 * (cN N 3)) 14) (40 + 14 * (cN N 3) + 0) x) (40 + 14 * (cN N 3) + 1) (nI pr)) (40 + 14 * (cN N 3) + 2) br) 3 (nI (cN N 3 + 1))
theorem b_add (h : Ev E) (V : IV B i j d N r H s) (hB : B ≤ 67108864) {x br : Int32} {b : Int64} {pr : Nat} (q1 : N 0 ≤ x ∧ x ≤ 999) (q2 : 0 ≤ b ∧ b ≤ (4633641066610819072 : Int64)) (pr1 : 1 ≤ pr) (pr9 : pr ≤ 9999) (q4 : 0 ≤ br ∧ br ≤ (1 <<< (nI (cN N 2) &&& 31)) - 1) (q5 : cN N 3 < 10) : ∃ S', f_X5_addTour (mk E i j d) (zA E 0) x b (nI pr) br = some (nI (cN N 3), S') ∧ At E S' B (trN N x pr br) (vf_upd r (7 + cN N 3) b.toUInt64) (push H (N, r)) s := by
  have a := V.rp
  have w := V.wf
  have n3 := w.n3.2
  have q3 : 1 ≤ nI pr ∧ nI pr ≤ 9999 := ⟨(nI_leI (a := 1) (by decide) (by omega)).mpr pr1, (nI_leI (b := 9999) (by omega) (by decide)).mpr pr9⟩
  have q1a : ¬ x < N 0 := Int32.not_lt.mpr q1.1
  have q1b : ¬ 999 < x := Int32.not_lt.mpr q1.2
  have q3a : ¬ nI pr < 1 := Int32.not_lt.mpr q3.1
  have q3b : ¬ 9999 < nI pr := Int32.not_lt.mpr q3.2
  have q4a := (br_mask w.n2.2 br).mpr q4
  have hd := fp_dS b q2
  have g1 : ∀ z, z < 40 + 14 * (cN N 3) ∨ 40 + 14 * (cN N 3) + 14 ≤ z → (upd (upd (upd (cp (fun _ => 0) N (40 + 14 * (cN N 3)) 14) (40 + 14 * (cN N 3) + 0) x) (40 + 14 * (cN N 3) + 1) (nI pr)) (40 + 14 * (cN N 3) + 2) br) z = N z := fun z hz => by
    rw [up_ne (by omega), up_ne (by omega), up_ne (by omega), cp_out hz]
  have g0 : ∀ y, 3 ≤ y → y < 14 → (upd (upd (upd (cp (fun _ => 0) N (40 + 14 * (cN N 3)) 14) (40 + 14 * (cN N 3) + 0) x) (40 + 14 * (cN N 3) + 1) (nI pr)) (40 + 14 * (cN N 3) + 2) br) (40 + 14 * (cN N 3) + y) = 0 := fun y h1 h2 => by
    rw [up_ne (by omega), up_ne (by omega), up_ne (by omega), cp_in h2]
  have gp : (upd (upd (upd (cp (fun _ => 0) N (40 + 14 * (cN N 3)) 14) (40 + 14 * (cN N 3) + 0) x) (40 + 14 * (cN N 3) + 1) (nI pr)) (40 + 14 * (cN N 3) + 2) br) (40 + 14 * (cN N 3) + 1) = nI pr := by rw [up_ne (by omega)]; exact up_eq
  have wq1 : WQ (upd (upd (upd (cp (fun _ => 0) N (40 + 14 * (cN N 3)) 14) (40 + 14 * (cN N 3) + 0) x) (40 + 14 * (cN N 3) + 1) (nI pr)) (40 + 14 * (cN N 3) + 2) br) (vf_upd r (7 + (cN N 3)) b.toUInt64) := (w.q.cgo (fun z _ hz => g1 z (by omega))).rs q5
  have e3' : cN (upd (upd (upd (cp (fun _ => 0) N (40 + 14 * (cN N 3)) 14) (40 + 14 * (cN N 3) + 0) x) (40 + 14 * (cN N 3) + 1) (nI pr)) (40 + 14 * (cN N 3) + 2) br) 3 = cN N 3 := cN_of (g1 3 (by omega))
  have wq2 : WQ (trN N x pr br) (vf_upd r (7 + (cN N 3)) b.toUInt64) := wq1.c3 (by omega) (fun t ht => by
    by_cases c : t = cN N 3
    · rw [c]
      have z3 := g0 3 (by omega) (by omega)
      have z4 := g0 4 (by omega) (by omega)
      refine ⟨Cn.mk' gp pr9 (by decide), Cn.mk' (n := 0) z3 (by omega) (by decide), Cn.mk' (n := 0) z4 (by omega) (by decide), fun k hk => ?_⟩
      rw [cN_nI (n := 0) z4 (by omega)] at hk
      omega
    · exact wq1.to (by rw [e3']; omega))
  have pb1 : PB B (trN N x pr br) := (w.2.le (N1 := (upd (upd (upd (cp (fun _ => 0) N (40 + 14 * (cN N 3)) 14) (40 + 14 * (cN N 3) + 0) x) (40 + 14 * (cN N 3) + 1) (nI pr)) (40 + 14 * (cN N 3) + 2) br)) (by omega) (fun t ht => by
    by_cases c : t = cN N 3
    · rw [c]; exact Or.inr (g0 5 (by omega) (by omega))
    · exact Or.inl (g1 _ (by omega)))).free (fun t' h' => by omega)
  refine act h V (Nat.le_refl _) (fX := fun S => f_X5_addTour S (zA E 0) x b (nI pr) br) (nI (cN N 3)) (trN N x pr br) (vf_upd r (7 + (cN N 3)) b.toUInt64) ⟨wq2, pb1⟩ ?_
  intro i1 j1 d1 er a1
  show ∃ i2 j2 d2, f_X5_addTour _ _ _ _ _ _ = _ ∧ _
  unfold f_X5_addTour f_X2_hasBridges
  have ne : 1 ≠ 1 + 12 + 2 * cN N 3 := by omega
  have nr : 1 + 13 + 2 * cN N 3 ≠ 1 + 12 + 2 * cN N 3 := by omega
  rw [ob_X h, R_X0 h, ob_S h.1 h.s1, I_S h.1 h.s1, a.f6, if_neg q1a, if_neg q1b, fp_zero, cl_go, bI_1 q2, if_neg (by decide), if_neg q3a, if_neg q3b, ob_X h, R_X0 h, ob_S h.1 h.s1, ob_S h.1 h.s1, I_S h.1 h.s1, a.f4, w.n2.1, if_pos q4a, cl_go, if_neg (by decide), ob_X h, R_X0 h, ob_S h.1 h.s1, I_S h.1 h.s1, a.f5, w.n3.1, if_pos (show nI (cN N 3) < 10 from (nI_ltI (b := 10) (by omega) (by decide)).mpr q5), R_X2 h, ob_H h, er, cl_go, ob_X h, R_X0 h, ob_S h.1 h.s1, bnd_go, I_S h.1 h.s1, a1.f5, w.n3.1, R_S2 h.s1, ar_S2 h.1 h.s1 q5, fp_num b (Or.inl hd), cl_go, R_T h.s1 q5, ob_T h.1 h.s1 q5, y_begin h.1 h.s1 q5, cl_go, ob_X h, R_X0 h, ob_S h.1 h.s1, ob_S h.1 h.s1, I_S h.1 h.s1, u2_row _ _ ne, u2_row _ _ ne, u2_row _ _ ne, u2_row _ _ ne, u2_row _ _ ne, u2_row _ _ ne, u2_row _ _ ne, u2_row _ _ ne, u2_row _ _ ne, a1.f5, w.n3.1, nI_1, wI_S h.1 h.s1, bnd_go]
  have R1 := a1.tout w.n1.2 q5 (Nat.le_refl _) (i' := (u2 (u2 (u2 (u2 (u2 (u2 (u2 (u2 (u2 i1 (1 + 12 + 2 * (cN N 3)) 1 x) (1 + 12 + 2 * (cN N 3)) 3 (sBase b.toUInt64)) (1 + 12 + 2 * (cN N 3)) 4 (nI pr)) (1 + 12 + 2 * (cN N 3)) 5 br) (1 + 12 + 2 * (cN N 3)) 6 0) (1 + 12 + 2 * (cN N 3)) 7 0) (1 + 12 + 2 * (cN N 3)) 8 0) (1 + 12 + 2 * (cN N 3)) 9 0) (1 + 12 + 2 * (cN N 3)) 10 0)) (d' := u2 d1 (1 + 12 + 2 * (cN N 3)) 2 b.toUInt64) (fun q hq => ⟨by rw [u2_row _ _ hq, u2_row _ _ hq, u2_row _ _ hq, u2_row _ _ hq, u2_row _ _ hq, u2_row _ _ hq, u2_row _ _ hq, u2_row _ _ hq, u2_row _ _ hq], u2_row _ _ hq⟩)
  have R2 := R1.nout w.q (N1 := (upd (upd (upd (cp (fun _ => 0) N (40 + 14 * (cN N 3)) 14) (40 + 14 * (cN N 3) + 0) x) (40 + 14 * (cN N 3) + 1) (nI pr)) (40 + 14 * (cN N 3) + 2) br)) (r1 := vf_upd r (7 + (cN N 3)) b.toUInt64) (fun z hz => g1 z (by omega)) (fun z hz => vp_ne (by omega))
  refine ⟨_, _, _, rfl, fun q hq => ⟨?_, rfl, u2_row _ _ (by omega)⟩, R2.s5 wq1 (n := cN N 3 + 1) (by omega) _ rfl (fun t ht => ?_)⟩
  · rw [u2_row _ _ (by omega), u2_row _ _ (by omega), u2_row _ _ (by omega), u2_row _ _ (by omega), u2_row _ _ (by omega), u2_row _ _ (by omega), u2_row _ _ (by omega), u2_row _ _ (by omega), u2_row _ _ (by omega), u2_row _ _ (by omega)]
  · by_cases c : t = cN N 3
    · rw [c]
      refine ⟨⟨?_, ?_, ?_, ?_, ?_, ?_, ?_, ?_⟩, ⟨?_, ?_⟩, fun k hk => ?_⟩
      · rw [up_ne (by omega), up_ne (by omega), up_eq]; simp [u2]
      · rw [gp]; simp [u2]
      · rw [up_eq]; simp [u2]
      · rw [g0 3 (by omega) (by omega)]; simp [u2]
      · rw [g0 4 (by omega) (by omega)]; simp [u2]
      · rw [g0 5 (by omega) (by omega)]; simp [u2]
      · rw [g0 6 (by omega) (by omega)]; simp [u2]
      · rw [g0 7 (by omega) (by omega)]; simp [u2]
      · rw [vp_eq]; simp [u2]
      · rw [vp_eq]; simp [u2]
      · rw [cN_nI (n := 0) (g0 4 (by omega) (by omega)) (by omega)] at hk
        omega
    · exact R2.t (by rw [e3']; omega)
theorem b_addF (h : Ev E) (V : IV B i j d N r H s) {x y br : Int32} {b : Int64} (q1 : N 0 ≤ x ∧ x ≤ 999) (q2 : 0 ≤ b ∧ b ≤ (4633641066610819072 : Int64)) (q3 : 1 ≤ y ∧ y ≤ 9999) (q4 : 0 ≤ br ∧ br ≤ (1 <<< (nI (cN N 2) &&& 31)) - 1) (q5 : ¬ cN N 3 < 10) : f_X5_addTour (mk E i j d) (zA E 0) x b y br = some (-3, mk E i j d) := by
  have a := V.rp
  have w := V.wf
  have n3 := w.n3.2
  have q1a : ¬ x < N 0 := Int32.not_lt.mpr q1.1
  have q1b : ¬ 999 < x := Int32.not_lt.mpr q1.2
  have q3a : ¬ y < 1 := Int32.not_lt.mpr q3.1
  have q3b : ¬ 9999 < y := Int32.not_lt.mpr q3.2
  have q4a := (br_mask w.n2.2 br).mpr q4
  unfold f_X5_addTour f_X2_hasBridges
  rw [ob_X h, R_X0 h, ob_S h.1 h.s1, I_S h.1 h.s1, a.f6, if_neg q1a, if_neg q1b, fp_zero, cl_go, bI_1 q2, if_neg (by decide), if_neg q3a, if_neg q3b, ob_X h, R_X0 h, ob_S h.1 h.s1, ob_S h.1 h.s1, I_S h.1 h.s1, a.f4, w.n2.1, if_pos q4a, cl_go, if_neg (by decide), ob_X h, R_X0 h, ob_S h.1 h.s1, I_S h.1 h.s1, a.f5, w.n3.1, if_neg (show ¬ nI (cN N 3) < 10 from fun e => q5 ((nI_ltI (b := 10) (by omega) (by decide)).mp e))]
/-- a tour that is refused for its values -/
theorem b_addB (h : Ev E) (V : IV B i j d N r H s) {x y br : Int32} {b : Int64} (q : ¬ ((N 0 ≤ x ∧ x ≤ 999) ∧ (0 ≤ b ∧ b ≤ (4633641066610819072 : Int64)) ∧ (1 ≤ y ∧ y ≤ 9999) ∧ (0 ≤ br ∧ br ≤ (1 <<< (nI (cN N 2) &&& 31)) - 1))) : f_X5_addTour (mk E i j d) (zA E 0) x b y br = some (-2, mk E i j d) := by
  have a := V.rp
  have w := V.wf
  unfold f_X5_addTour f_X2_hasBridges
  rw [ob_X h, R_X0 h, ob_S h.1 h.s1, I_S h.1 h.s1, a.f6]
  by_cases q1 : N 0 ≤ x ∧ x ≤ 999
  · rw [if_neg (Int32.not_lt.mpr q1.1), if_neg (Int32.not_lt.mpr q1.2), fp_zero, cl_go]
    by_cases q2 : 0 ≤ b ∧ b ≤ (4633641066610819072 : Int64)
    · rw [bI_1 q2, if_neg (by decide)]
      by_cases q3 : 1 ≤ y ∧ y ≤ 9999
      · have q4 : ¬ (0 ≤ br ∧ br ≤ (1 <<< (nI (cN N 2) &&& 31)) - 1) := fun e => q ⟨q1, q2, q3, e⟩
        rw [if_neg (Int32.not_lt.mpr q3.1), if_neg (Int32.not_lt.mpr q3.2), ob_X h, R_X0 h, ob_S h.1 h.s1, ob_S h.1 h.s1, I_S h.1 h.s1, a.f4, w.n2.1, if_neg (fun e => q4 ((br_mask w.n2.2 br).mp e)), cl_go, if_pos rfl]
      · by_cases c : y < 1
        · rw [if_pos c]
        · rw [if_neg c, if_pos (Int32.not_le.mp (fun e => q3 ⟨Int32.not_lt.mp c, e⟩))]
    · rw [bI_0 q2, if_pos rfl]
  · by_cases c : x < N 0
    · rw [if_pos c]
    · rw [if_neg c, if_pos (Int32.not_le.mp (fun e => q1 ⟨Int32.not_lt.mp c, e⟩))]
end ACTH
