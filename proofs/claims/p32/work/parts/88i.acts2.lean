/-! the acts, one by one: booking, leaving, leading, releasing, merging, calling off, days -/
section ACTI
variable {E : Hp} {i : Nat → Nat → Int32} {j : Nat → Nat → Int64} {d : Nat → Nat → UInt64} {N : Nat → Int32} {r : Nat → UInt64} {B : Nat} {H : List Rw} {sn : Option Rw}
def bkN (N : Nat → Int32) (t m : Nat) : Nat → Int32 := upd (upd N (40 + 14 * t + 3) (nI (cN N (40 + 14 * t + 3) + m))) (40 + 14 * t + 5) (nI (cN N (40 + 14 * t + 5) + cN N (40 + 14 * t + 1) * m))
theorem b_book (h : Ev E) (V : IV B i j d N r H sn) (hB : B + 119988 ≤ 67108864) {t m : Nat} (ht : t < cN N 3) (m1 : 1 ≤ m) (m12 : m ≤ 12) (q2 : N (40 + 14 * t + 6) = 0) (hG : cN N (40 + 14 * t + 3) + m ≤ 12) : ∃ S', f_X5_book (mk E i j d) (zA E 0) (nI t) (nI m) = some (nI (cN N (40 + 14 * t + 1) * m), S') ∧ At E S' (B + 119988) (bkN N t m) r (push H (N, r)) sn := by
  have a := V.rp
  have w := V.wf
  have h10 := w.t10 ht
  have q1 : 1 ≤ nI m ∧ nI m ≤ 12 := ⟨(nI_leI (a := 1) (by decide) (by omega)).mpr m1, (nI_leI (b := 12) (by omega) (by decide)).mpr m12⟩
  have G := w.guests ht
  have Pr := (w.to ht).1
  have Pd := w.2.one h10
  have q3 : N (40 + 14 * t + 3) + nI m ≤ 12 := by
    rw [G.1, nI_add]
    exact (nI_leI (b := 12) (by omega) (by decide)).mpr hG
  have hp : cN N (40 + 14 * t + 1) * m ≤ 119988 := Nat.mul_le_mul Pr.2 m12
  have hs1 := sPaid_one (N := N) 10
  have hs2 := w.2.2
  have wq1 := w.q.g3 h10 hG
  refine act h V (B' := B + 119988) (by omega) (fX := fun S => f_X5_book S (zA E 0) (nI t) (nI m)) (nI (cN N (40 + 14 * t + 1) * m)) (bkN N t m) r ⟨wq1.free (by unfold Ess; omega) _, ?_⟩ ?_
  · have p1 : PB B (upd N (40 + 14 * t + 3) (nI (cN N (40 + 14 * t + 3) + m))) := w.2.free (fun t' h' => by omega)
    have e5 : cN (upd N (40 + 14 * t + 3) (nI (cN N (40 + 14 * t + 3) + m))) (40 + 14 * t + 5) = cN N (40 + 14 * t + 5) := cN_ne (by omega)
    have s5 : sPaid (upd N (40 + 14 * t + 3) (nI (cN N (40 + 14 * t + 3) + m))) 10 = sPaid N 10 := sPaid_ne (fun t' h' => by omega) 10 (by omega)
    exact p1.paid h10 (by omega) (by rw [s5, e5]; omega) (fun q hq => by have := (p1.one hq).2; omega) (by omega)
  · intro i1 j1 d1 er a1
    show ∃ i2 j2 d2, f_X5_book _ _ _ _ = _ ∧ _
    unfold f_X5_book
    rw [ob_X h, R_X0 h, ob_S h.1 h.s1, y_tourAt1 h.1 h.s1 a w ht, cl_go, if_neg sm, y_isGuests, cl_go, bI_1 q1, if_neg (by decide), ob_T h.1 h.s1 h10, I_T h.1 h.s1 h10, a.t9 ht, if_pos q2, I_T h.1 h.s1 h10, a.t6 ht, if_pos q3, ob_X h, R_X2 h, ob_H h, R_X0 h, er, cl_go, ob_T h.1 h.s1 h10, I_T h.1 h.s1 h10, a1.t4 ht, Pr.1, pk_mul, bnd_go, ob_T h.1 h.s1 h10, I_T h.1 h.s1 h10, a1.t6 ht, G.1, nI_add, wI_T h.1 h.s1 h10, bnd_go, ob_T h.1 h.s1 h10, ob_T h.1 h.s1 h10, I_T h.1 h.s1 h10, u2_nek _ _ (by decide : (8 : Nat) ≠ 6), a1.t8 ht, Pd.1, nI_add, wI_T h.1 h.s1 h10, bnd_go]
    refine ⟨_, _, _, rfl, fun q hq => ⟨?_, rfl, rfl⟩, ?_⟩
    · rw [u2_row _ _ (by omega), u2_row _ _ (by omega)]
    · exact (a1.w6 w.q h10 _).w8 wq1 h10 _
theorem b_bookF (h : Ev E) (V : IV B i j d N r H sn) {t m : Nat} (ht : t < cN N 3) (m1 : 1 ≤ m) (m12 : m ≤ 12) (q2 : N (40 + 14 * t + 6) = 0) (hG : ¬ cN N (40 + 14 * t + 3) + m ≤ 12) : f_X5_book (mk E i j d) (zA E 0) (nI t) (nI m) = some (-3, mk E i j d) := by
  have a := V.rp
  have w := V.wf
  have h10 := w.t10 ht
  have q1 : 1 ≤ nI m ∧ nI m ≤ 12 := ⟨(nI_leI (a := 1) (by decide) (by omega)).mpr m1, (nI_leI (b := 12) (by omega) (by decide)).mpr m12⟩
  have G := w.guests ht
  unfold f_X5_book
  rw [ob_X h, R_X0 h, ob_S h.1 h.s1, y_tourAt1 h.1 h.s1 a w ht, cl_go, if_neg sm, y_isGuests, cl_go, bI_1 q1, if_neg (by decide), ob_T h.1 h.s1 h10, I_T h.1 h.s1 h10, a.t9 ht, if_pos q2, I_T h.1 h.s1 h10, a.t6 ht, if_neg (by rw [G.1, nI_add]; exact fun e => hG ((nI_leI (b := 12) (by omega) (by decide)).mp e))]
theorem b_bookN (h : Ev E) (V : IV B i j d N r H sn) {t m : Nat} (ht : t < cN N 3) (m1 : 1 ≤ m) (m12 : m ≤ 12) (q2 : ¬ N (40 + 14 * t + 6) = 0) : f_X5_book (mk E i j d) (zA E 0) (nI t) (nI m) = some (-4, mk E i j d) := by
  have a := V.rp
  have w := V.wf
  have h10 := w.t10 ht
  have q1 : 1 ≤ nI m ∧ nI m ≤ 12 := ⟨(nI_leI (a := 1) (by decide) (by omega)).mpr m1, (nI_leI (b := 12) (by omega) (by decide)).mpr m12⟩
  unfold f_X5_book
  rw [ob_X h, R_X0 h, ob_S h.1 h.s1, y_tourAt1 h.1 h.s1 a w ht, cl_go, if_neg sm, y_isGuests, cl_go, bI_1 q1, if_neg (by decide), ob_T h.1 h.s1 h10, I_T h.1 h.s1 h10, a.t9 ht, if_neg q2]
theorem b_bookB (h : Ev E) (V : IV B i j d N r H sn) {t : Nat} (ht : t < cN N 3) : f_X5_book (mk E i j d) (zA E 0) (nI t) 13 = some (-2, mk E i j d) := by
  have a := V.rp
  have w := V.wf
  unfold f_X5_book
  rw [ob_X h, R_X0 h, ob_S h.1 h.s1, y_tourAt1 h.1 h.s1 a w ht, cl_go, if_neg sm, y_isGuests, cl_go, bI_0 (by decide), if_pos rfl]
/-- what a leave pays back -/
def sDue (N : Nat → Int32) (t l : Nat) : UInt64 := FP.dmul (FP.dmul (FP.ddiv (FP.i2d (N (40 + 14 * t + 5))) (FP.i2d (N (40 + 14 * t + 3)))) (FP.i2d (nI l))) (sShare (N (40 + 14 * t + 0) - N 0))
def lvN (N : Nat → Int32) (t l q : Nat) : Nat → Int32 := upd (upd (upd N (40 + 14 * t + 3) (nI (cN N (40 + 14 * t + 3) - l))) (40 + 14 * t + 5) (nI (cN N (40 + 14 * t + 5) - q))) 4 (N 4 + nI q)
theorem due_ok (w : WF B N r) (hB : B ≤ 67108864) {t l : Nat} (ht : t < cN N 3) (l1 : 1 ≤ l) (hG : l ≤ cN N (40 + 14 * t + 3)) : vf_n64 (FP.ddiv (FP.i2d (N (40 + 14 * t + 5))) (FP.i2d (N (40 + 14 * t + 3)))) ∧ vf_n64 (FP.dmul (FP.ddiv (FP.i2d (N (40 + 14 * t + 5))) (FP.i2d (N (40 + 14 * t + 3)))) (FP.i2d (nI l))) ∧ vf_n64 (sDue N t l) ∧ ∃ q, q ≤ cN N (40 + 14 * t + 5) ∧ FP.d2i (sDue N t l) = nI q := by
  have h10 := w.t10 ht
  have G := w.guests ht
  have Pd := w.2.one h10
  obtain ⟨f1, f2, f3, q, hq, f4⟩ := fp_refund (cN N (40 + 14 * t + 5)) (cN N (40 + 14 * t + 3)) l (N (40 + 14 * t + 0) - N 0) (by omega) l1 hG G.2
  unfold sDue
  rw [G.1, Pd.1]
  exact ⟨f1, f2, f3, q, hq, f4⟩
theorem b_leave (h : Ev E) (V : IV B i j d N r H sn) (hB : B ≤ 67108864) {t l : Nat} (ht : t < cN N 3) (l1 : 1 ≤ l) (hG : l ≤ cN N (40 + 14 * t + 3)) (q2 : N (40 + 14 * t + 6) = 0) : ∃ q, q ≤ cN N (40 + 14 * t + 5) ∧ FP.d2i (sDue N t l) = nI q ∧ ∃ S', f_X5_leave (mk E i j d) (zA E 0) (nI t) (nI l) = some (nI q, S') ∧ At E S' B (lvN N t l q) r (push H (N, r)) sn := by
  have a := V.rp
  have w := V.wf
  have h10 := w.t10 ht
  have G := w.guests ht
  have Pd := w.2.one h10
  have q1 : 1 ≤ nI l ∧ nI l ≤ 12 := ⟨(nI_leI (a := 1) (by decide) (by omega)).mpr l1, (nI_leI (b := 12) (by omega) (by decide)).mpr (by omega)⟩
  have q3 : nI l ≤ N (40 + 14 * t + 3) := by rw [G.1]; exact (nI_leI (by omega) (by omega)).mpr hG
  obtain ⟨f1, f2, f3, q, hq, f4⟩ := due_ok w hB ht l1 hG
  unfold sDue at f3
  have f4' := f4
  unfold sDue at f4'
  rw [G.1, Pd.1] at f1 f2 f3 f4'
  have wq1 := w.q.g3 (n := cN N (40 + 14 * t + 3) - l) h10 (by omega)
  have wq2 := wq1.free (z := 40 + 14 * t + 5) (by unfold Ess; omega) (nI (cN N (40 + 14 * t + 5) - q))
  have p1 : PB B (upd N (40 + 14 * t + 3) (nI (cN N (40 + 14 * t + 3) - l))) := w.2.free (fun t' h' => by omega)
  have e5 : cN (upd N (40 + 14 * t + 3) (nI (cN N (40 + 14 * t + 3) - l))) (40 + 14 * t + 5) = cN N (40 + 14 * t + 5) := cN_ne (by omega)
  have p2 := p1.paid (B' := B) (m := cN N (40 + 14 * t + 5) - q) h10 (by omega) (by have := p1.2; rw [e5]; omega) (fun q hq => (p1.one hq).2) (by omega)
  refine ⟨q, hq, f4, ?_⟩
  refine act h V (Nat.le_refl _) (fX := fun S => f_X5_leave S (zA E 0) (nI t) (nI l)) (nI q) (lvN N t l q) r ⟨wq2.free (by unfold Ess; omega) _, p2.free (fun t' h' => by omega)⟩ ?_
  intro i1 j1 d1 er a1
  show ∃ i2 j2 d2, f_X5_leave _ _ _ _ = _ ∧ _
  unfold f_X5_leave f_X4_refundFor f_X2_payBack
  have ne : 1 ≠ 1 + 12 + 2 * t := by omega
  rw [ob_X h, R_X0 h, ob_S h.1 h.s1, y_tourAt1 h.1 h.s1 a w ht, cl_go, if_neg sm, y_isGuests, cl_go, bI_1 q1, if_neg (by decide), ob_T h.1 h.s1 h10, I_T h.1 h.s1 h10, a.t9 ht, if_pos q2, I_T h.1 h.s1 h10, a.t6 ht, if_pos q3, ob_X h, R_X2 h, ob_H h, R_X0 h, er, cl_go, ob_X h, R_X0 h, ob_S h.1 h.s1, ob_T h.1 h.s1 h10, ob_T h.1 h.s1 h10, I_S h.1 h.s1, a1.f6, I_T h.1 h.s1 h10, a1.t6 ht, I_T h.1 h.s1 h10, a1.t8 ht, I_T h.1 h.s1 h10, a1.t1 ht, G.1, Pd.1, if_pos (show (0 : Int32) < nI (cN N (40 + 14 * t + 3)) from (nI_ltI (a := 0) (by decide) (by omega)).mpr (by omega)), fpg_go f1, fpg_go f2, y_share, cl_go, fpg_go f3, f4', cl_go, ob_T h.1 h.s1 h10, ob_T h.1 h.s1 h10, I_T h.1 h.s1 h10, a1.t6 ht, G.1, pk_sub hG, wI_T h.1 h.s1 h10, bnd_go, ob_X h, R_X0 h, ob_S h.1 h.s1, ob_T h.1 h.s1 h10, ob_T h.1 h.s1 h10, I_T h.1 h.s1 h10, u2_nek _ _ (by decide : (8 : Nat) ≠ 6), a1.t8 ht, Pd.1, pk_sub hq, wI_T h.1 h.s1 h10, bnd_go, ob_S h.1 h.s1, ob_S h.1 h.s1, I_S h.1 h.s1, u2_row _ _ ne, u2_row _ _ ne, a1.f9, wI_S h.1 h.s1, bnd_go, cl_go]
  refine ⟨_, _, _, rfl, fun q hq => ⟨?_, rfl, rfl⟩, ((a1.w6 w.q h10 _).w8 wq1 h10 _).s9 wq2 _⟩
  rw [u2_row _ _ (by omega), u2_row _ _ (by omega), u2_row _ _ (by omega)]
theorem b_leaveN (h : Ev E) (V : IV B i j d N r H sn) {t l : Nat} (ht : t < cN N 3) (l1 : 1 ≤ l) (l12 : l ≤ 12) (q : ¬ (N (40 + 14 * t + 6) = 0 ∧ l ≤ cN N (40 + 14 * t + 3))) : f_X5_leave (mk E i j d) (zA E 0) (nI t) (nI l) = some (-4, mk E i j d) := by
  have a := V.rp
  have w := V.wf
  have h10 := w.t10 ht
  have G := w.guests ht
  have q1 : 1 ≤ nI l ∧ nI l ≤ 12 := ⟨(nI_leI (a := 1) (by decide) (by omega)).mpr l1, (nI_leI (b := 12) (by omega) (by decide)).mpr (by omega)⟩
  unfold f_X5_leave
  rw [ob_X h, R_X0 h, ob_S h.1 h.s1, y_tourAt1 h.1 h.s1 a w ht, cl_go, if_neg sm, y_isGuests, cl_go, bI_1 q1, if_neg (by decide), ob_T h.1 h.s1 h10, I_T h.1 h.s1 h10, a.t9 ht]
  by_cases q2 : N (40 + 14 * t + 6) = 0
  · rw [if_pos q2, I_T h.1 h.s1 h10, a.t6 ht, if_neg (by rw [G.1]; exact fun e => q ⟨q2, (nI_leI (by omega) (by omega)).mp e⟩)]
  · rw [if_neg q2]
def ldN (N : Nat → Int32) (t g : Nat) : Nat → Int32 := upd (upd N (48 + 14 * t + cN N (40 + 14 * t + 4)) (nI g)) (40 + 14 * t + 4) (nI (cN N (40 + 14 * t + 4) + 1))
theorem b_lead (h : Ev E) (V : IV B i j d N r H sn) {t g : Nat} (ht : t < cN N 3) (hg : g < cN N 1) (q1 : sMay N t g = true) (q2 : cN N (40 + 14 * t + 4) < 4) : ∃ S', f_X5_lead (mk E i j d) (zA E 0) (nI g) (nI t) = some (nI (sRat N r t g), S') ∧ At E S' B (ldN N t g) r (push H (N, r)) sn := by
  have a := V.rp
  have w := V.wf
  have n1 := w.n1.2
  have n3 := w.n3.2
  have hg8 : g < 8 := by omega
  have h10 := w.t10 ht
  obtain ⟨hM, hM4⟩ := w.many ht
  have wq1 := w.q.row h10 q2 hg
  have cm : cN (upd N (48 + 14 * t + cN N (40 + 14 * t + 4)) (nI g)) (40 + 14 * t + 4) = cN N (40 + 14 * t + 4) := cN_ne (by omega)
  have wq2 : WQ (ldN N t g) r := wq1.m4 h10 (by omega) (fun h3 k hk => by
    by_cases e : k = cN N (40 + 14 * t + 4)
    · have hv : (upd N (48 + 14 * t + cN N (40 + 14 * t + 4)) (nI g)) (48 + 14 * t + k) = nI g := by rw [e]; exact up_eq
      refine ⟨Cn.mk' hv (by omega) (by decide), ?_⟩
      have hc : cN (upd N (48 + 14 * t + cN N (40 + 14 * t + 4)) (nI g)) (48 + 14 * t + k) = g := by rw [e]; exact cN_eq rfl (by omega)
      show cN _ (48 + 14 * t + k) < _
      rw [hc, cN_ne (by omega)]; exact hg
    · exact (wq1.to h3).2.2.2 k (by omega))
  have ww : WF B (ldN N t g) r := ⟨wq2, (w.2.free (fun t' h' => by omega)).free (fun t' h' => by omega)⟩
  have rt : sRat (ldN N t g) r t g = sRat N r t g := by
    unfold sRat ldN; rw [cN_ne (by omega), cN_ne (by omega)]
  have n1' : g < cN (ldN N t g) 1 := by
    unfold ldN; rw [cN_ne (by omega), cN_ne (by omega)]; exact hg
  have n3' : t < cN (ldN N t g) 3 := by
    unfold ldN; rw [cN_ne (by omega), cN_ne (by omega)]; exact ht
  refine act h V (Nat.le_refl _) (fX := fun S => f_X5_lead S (zA E 0) (nI g) (nI t)) (nI (sRat N r t g)) _ r ww ?_
  intro i1 j1 d1 er a1
  show ∃ i2 j2 d2, f_X5_lead _ _ _ _ = _ ∧ _
  unfold f_X5_lead f_X4_addToRow
  have nr : 1 + 12 + 2 * t ≠ 1 + 13 + 2 * t := by omega
  rw [ob_X h, R_X0 h, ob_S h.1 h.s1, y_tourAt1 h.1 h.s1 a w ht, cl_go, ob_X h, R_X0 h, ob_S h.1 h.s1, y_guideAt1 h.1 h.s1 a w hg, cl_go, if_neg sm, if_neg sm, ob_X h, R_X0 h, ob_S h.1 h.s1, y_mayLead h.1 h.s1 a w ht hg, cl_go, bI_1 q1, if_neg (by decide), ob_T h.1 h.s1 h10, I_T h.1 h.s1 h10, a.t7 ht, hM, if_pos (show nI (cN N (40 + 14 * t + 4)) < 4 from (nI_ltI (b := 4) (by omega) (by decide)).mpr q2), ob_X h, R_X2 h, ob_H h, R_X0 h, er, cl_go, ob_T h.1 h.s1 h10, ob_T h.1 h.s1 h10, I_T h.1 h.s1 h10, a1.t7 ht, hM, if_neg (show ¬ (4 : Int32) ≤ nI (cN N (40 + 14 * t + 4)) from fun e => by have := (nI_leI (a := 4) (by decide) (by omega)).mp e; omega), R_T0 h.s1 h10, ar_T0 h.1 h.s1 h10 q2, wI_R h.1 h.s1 h10, bnd_go, ob_T h.1 h.s1 h10, ob_T h.1 h.s1 h10, I_T h.1 h.s1 h10, u2_row _ _ nr, a1.t7 ht, hM, nI_1, wI_T h.1 h.s1 h10, bnd_go, cl_go, ob_X h, R_X0 h, ob_S h.1 h.s1]
  have R1 := a1.wr w.q h10 q2 (nI g)
  have R2 := R1.w7 wq1 h10 (n := cN N (40 + 14 * t + 4) + 1) (by omega) _ rfl (fun h3 k hk => by
    by_cases e : k = cN N (40 + 14 * t + 4)
    · rw [e, u2_self, up_eq]
    · exact R1.tr h3 (by omega))
  rw [y_ratioOf h.1 h.s1 R2 ww n3' n1', cl_go, show sRat (upd (upd N (48 + 14 * t + cN N (40 + 14 * t + 4)) (nI g)) (40 + 14 * t + 4) (nI (cN N (40 + 14 * t + 4) + 1))) r t g = sRat N r t g from rt]
  exact ⟨_, _, _, rfl, fun q hq => ⟨by rw [u2_row _ _ (by omega), u2_row _ _ (by omega)], rfl, rfl⟩, R2⟩
theorem b_leadF (h : Ev E) (V : IV B i j d N r H sn) {t g : Nat} (ht : t < cN N 3) (hg : g < cN N 1) (q1 : sMay N t g = true) (q2 : ¬ cN N (40 + 14 * t + 4) < 4) : f_X5_lead (mk E i j d) (zA E 0) (nI g) (nI t) = some (-3, mk E i j d) := by
  have a := V.rp
  have w := V.wf
  have h10 := w.t10 ht
  obtain ⟨hM, hM4⟩ := w.many ht
  unfold f_X5_lead
  rw [ob_X h, R_X0 h, ob_S h.1 h.s1, y_tourAt1 h.1 h.s1 a w ht, cl_go, ob_X h, R_X0 h, ob_S h.1 h.s1, y_guideAt1 h.1 h.s1 a w hg, cl_go, if_neg sm, if_neg sm, ob_X h, R_X0 h, ob_S h.1 h.s1, y_mayLead h.1 h.s1 a w ht hg, cl_go, bI_1 q1, if_neg (by decide), ob_T h.1 h.s1 h10, I_T h.1 h.s1 h10, a.t7 ht, hM, if_neg (show ¬ nI (cN N (40 + 14 * t + 4)) < 4 from fun e => q2 ((nI_ltI (b := 4) (by omega) (by decide)).mp e))]
theorem b_leadN (h : Ev E) (V : IV B i j d N r H sn) {t g : Nat} (ht : t < cN N 3) (hg : g < cN N 1) (q1 : ¬ sMay N t g = true) : f_X5_lead (mk E i j d) (zA E 0) (nI g) (nI t) = some (-4, mk E i j d) := by
  have a := V.rp
  have w := V.wf
  unfold f_X5_lead
  rw [ob_X h, R_X0 h, ob_S h.1 h.s1, y_tourAt1 h.1 h.s1 a w ht, cl_go, ob_X h, R_X0 h, ob_S h.1 h.s1, y_guideAt1 h.1 h.s1 a w hg, cl_go, if_neg sm, if_neg sm, ob_X h, R_X0 h, ob_S h.1 h.s1, y_mayLead h.1 h.s1 a w ht hg, cl_go, bI_0 q1, if_pos rfl]
theorem b_leadU (h : Ev E) (V : IV B i j d N r H sn) {x y : Int32} (hy : ¬ ∃ g, g < cN N 1 ∧ y = nI g) : f_X5_lead (mk E i j d) (zA E 0) y x = some (-1, mk E i j d) := by
  have a := V.rp
  have w := V.wf
  have hT : ∃ o, f_X2_tourAt (mk E i j d) (zA E 1) x = some (o, mk E i j d) := by
    by_cases hx : ∃ t, t < cN N 3 ∧ x = nI t
    · obtain ⟨t, ht, rfl⟩ := hx
      exact ⟨_, y_tourAt1 h.1 h.s1 a w ht⟩
    · exact ⟨_, y_tourAt0 h.1 h.s1 a w hx⟩
  obtain ⟨o, ho⟩ := hT
  unfold f_X5_lead
  rw [ob_X h, R_X0 h, ob_S h.1 h.s1, ho, cl_go, ob_X h, R_X0 h, ob_S h.1 h.s1, y_guideAt0 h.1 h.s1 a w hy, cl_go, if_pos rfl]
def rlN (N : Nat → Int32) (t g : Nat) : Nat → Int32 := tkF t (tk t (nI g) (cN N (40 + 14 * t + 4)) 0 0 N)
def rlM (N : Nat → Int32) (t g : Nat) : Nat := (tk t (nI g) (cN N (40 + 14 * t + 4)) 0 0 N).2
theorem b_release (h : Ev E) (V : IV B i j d N r H sn) {t g : Nat} (ht : t < cN N 3) (hg : g < cN N 1) (q1 : N (40 + 14 * t + 6) = 0) (q2 : sLeads N t (nI g) = true) : (∃ S', f_X5_release (mk E i j d) (zA E 0) (nI g) (nI t) = some (nI (sLeft (rlN N t g) r t (rlM N t g)), S') ∧ At E S' B (rlN N t g) r (push H (N, r)) sn) ∧ cN (rlN N t g) (40 + 14 * t + 4) = rlM N t g ∧ cN (rlN N t g) 3 = cN N 3 := by
  have a := V.rp
  have w := V.wf
  have h10 := w.t10 ht
  obtain ⟨hM, hM4⟩ := w.many ht
  have ⟨_, _, _, _, W, P, Z1, Z2⟩ := y_take_L h.1 h.s1 (nI g) (cN N (40 + 14 * t + 4)) 0 0 1000 i N a w.q ht (by omega) (by omega) (by omega)
  have ww : WF B (rlN N t g) r := ⟨W, P B w.2⟩
  refine ⟨act h V (Nat.le_refl _) (fX := fun S => f_X5_release S (zA E 0) (nI g) (nI t)) (nI (sLeft (rlN N t g) r t (rlM N t g))) (rlN N t g) r ww ?_, Z2, Z1⟩
  intro i1 j1 d1 er a1
  show ∃ i2 j2 d2, f_X5_release _ _ _ _ = _ ∧ _
  unfold f_X5_release f_X4_takeFromRow
  obtain ⟨i2, e, F, R, -⟩ := y_take_L h.1 h.s1 (nI g) (cN N (40 + 14 * t + 4)) 0 0 1000 i1 N a1 w.q ht (by omega) (by omega) (by omega)
  have ht' : t < cN (rlN N t g) 3 := by unfold rlN; rw [Z1]; exact ht
  rw [ob_X h, R_X0 h, ob_S h.1 h.s1, y_tourAt1 h.1 h.s1 a w ht, cl_go, ob_X h, R_X0 h, ob_S h.1 h.s1, y_guideAt1 h.1 h.s1 a w hg, cl_go, if_neg sm, if_neg sm, ob_T h.1 h.s1 h10, I_T h.1 h.s1 h10, a.t9 ht, if_pos q1, ob_T h.1 h.s1 h10, y_hasInRow h.1 h.s1 a w ht, cl_go, bI_1 q2, if_neg (by decide), ob_X h, R_X2 h, ob_H h, R_X0 h, er, cl_go, ob_T h.1 h.s1 h10, show f_X4_takeFromRow_L4 1000 (mk E i1 j1 d1) (zA E (1 + 12 + 2 * t)) (nI g) 0 0 = _ from e, cl_go, ob_X h, ob_T h.1 h.s1 h10, R_X0 h, ob_S h.1 h.s1, I_T h.1 h.s1 h10, (show Rep i2 j1 d1 1 (rlN N t g) r from R).t7 ht', (ww.many ht').1, y_leftAfter h.1 h.s1 (show Rep i2 j1 d1 1 (rlN N t g) r from R) ww ht' (Nat.le_refl _), cl_go, show cN (rlN N t g) (40 + 14 * t + 4) = rlM N t g from Z2]
  exact ⟨i2, j1, d1, rfl, fun q hq => ⟨F q hq, rfl, rfl⟩, R⟩
theorem b_releaseE (h : Ev E) (V : IV B i j d N r H sn) {t g : Nat} (ht : t < cN N 3) (hg : g < cN N 1) (q1 : N (40 + 14 * t + 6) = 0) (q2 : ¬ sLeads N t (nI g) = true) : f_X5_release (mk E i j d) (zA E 0) (nI g) (nI t) = some (-5, mk E i j d) := by
  have a := V.rp
  have w := V.wf
  have h10 := w.t10 ht
  unfold f_X5_release
  rw [ob_X h, R_X0 h, ob_S h.1 h.s1, y_tourAt1 h.1 h.s1 a w ht, cl_go, ob_X h, R_X0 h, ob_S h.1 h.s1, y_guideAt1 h.1 h.s1 a w hg, cl_go, if_neg sm, if_neg sm, ob_T h.1 h.s1 h10, I_T h.1 h.s1 h10, a.t9 ht, if_pos q1, ob_T h.1 h.s1 h10, y_hasInRow h.1 h.s1 a w ht, cl_go, bI_0 q2, if_pos rfl]
theorem b_releaseN (h : Ev E) (V : IV B i j d N r H sn) {t g : Nat} (ht : t < cN N 3) (hg : g < cN N 1) (q1 : ¬ N (40 + 14 * t + 6) = 0) : f_X5_release (mk E i j d) (zA E 0) (nI g) (nI t) = some (-4, mk E i j d) := by
  have a := V.rp
  have w := V.wf
  have h10 := w.t10 ht
  unfold f_X5_release
  rw [ob_X h, R_X0 h, ob_S h.1 h.s1, y_tourAt1 h.1 h.s1 a w ht, cl_go, ob_X h, R_X0 h, ob_S h.1 h.s1, y_guideAt1 h.1 h.s1 a w hg, cl_go, if_neg sm, if_neg sm, ob_T h.1 h.s1 h10, I_T h.1 h.s1 h10, a.t9 ht, if_neg q1]
theorem b_cancel (h : Ev E) (V : IV B i j d N r H sn) (hB : B ≤ 67108864) {t : Nat} (ht : t < cN N 3) (q2 : N (40 + 14 * t + 6) = 0) : ∃ S', f_X5_cancel (mk E i j d) (zA E 0) (nI t) = some (N (40 + 14 * t + 5), S') ∧ At E S' B (canc N t 4) r (push H (N, r)) sn := by
  have a := V.rp
  have w := V.wf
  have h10 := w.t10 ht
  refine act h V (Nat.le_refl _) (fX := fun S => f_X5_cancel S (zA E 0) (nI t)) (N (40 + 14 * t + 5)) (canc N t 4) r (w.off (by omega) h10 4) ?_
  intro i1 j1 d1 er a1
  show ∃ i2 j2 d2, f_X5_cancel _ _ _ = _ ∧ _
  unfold f_X5_cancel
  obtain ⟨i2, e, f, R⟩ := y_callOff h.1 h.s1 a1 w ht 4
  rw [ob_X h, R_X0 h, ob_S h.1 h.s1, y_tourAt1 h.1 h.s1 a w ht, cl_go, if_neg sm, ob_T h.1 h.s1 h10, I_T h.1 h.s1 h10, a.t9 ht, if_pos q2, ob_X h, R_X2 h, ob_H h, R_X0 h, er, cl_go, ob_X h, R_X0 h, ob_S h.1 h.s1, e, cl_go]
  exact ⟨i2, j1, d1, rfl, fun q hq => ⟨f q hq, rfl, rfl⟩, R⟩
theorem b_cancelN (h : Ev E) (V : IV B i j d N r H sn) {t : Nat} (ht : t < cN N 3) (q2 : ¬ N (40 + 14 * t + 6) = 0) : f_X5_cancel (mk E i j d) (zA E 0) (nI t) = some (-4, mk E i j d) := by
  have a := V.rp
  have w := V.wf
  have h10 := w.t10 ht
  unfold f_X5_cancel
  rw [ob_X h, R_X0 h, ob_S h.1 h.s1, y_tourAt1 h.1 h.s1 a w ht, cl_go, if_neg sm, ob_T h.1 h.s1 h10, I_T h.1 h.s1 h10, a.t9 ht, if_neg q2]
/-- what a merge pays back, and what it makes -/
def mgQ (N : Nat → Int32) (s t : Nat) : Nat := cN N (40 + 14 * s + 5) - cN N (40 + 14 * t + 1) * cN N (40 + 14 * s + 3)
def mg0 (N : Nat → Int32) (s t : Nat) : Nat → Int32 := upd (upd (upd (upd N (40 + 14 * s + 5) (nI (cN N (40 + 14 * s + 5) - mgQ N s t))) 4 (N 4 + nI (mgQ N s t))) (40 + 14 * t + 3) (nI (cN N (40 + 14 * t + 3) + cN N (40 + 14 * s + 3)))) (40 + 14 * t + 5) (nI (cN N (40 + 14 * t + 5) + (cN N (40 + 14 * s + 5) - mgQ N s t)))
def mgN (N : Nat → Int32) (s t : Nat) : Nat → Int32 := mvF s (mv s t (cN N (40 + 14 * s + 4)) 0 (mg0 N s t))
theorem fit_g (w : WF B N r) {s t : Nat} (hs : s < cN N 3) (ht : t < cN N 3) (q2 : fitP N r s t) : cN N (40 + 14 * s + 3) + cN N (40 + 14 * t + 3) ≤ 12 := by
  have := q2.2.2.2.2.2
  rw [(w.guests hs).1, (w.guests ht).1, nI_add] at this
  have g1 := (w.guests hs).2
  have g2 := (w.guests ht).2
  have := Int32.not_lt.mp this
  exact (nI_leI (b := 12) (by omega) (by decide)).mp this
theorem b_merge (h : Ev E) (V : IV B i j d N r H sn) (hB : B ≤ 67108864) {s t : Nat} (hs : s < cN N 3) (ht : t < cN N 3) (q1 : s ≠ t) (q2 : fitP N r s t) : ∃ S', f_X5_merge (mk E i j d) (zA E 0) (nI s) (nI t) = some (nI (mgQ N s t), S') ∧ At E S' B (mgN N s t) r (push H (N, r)) sn := by
  have a := V.rp
  have w := V.wf
  have n3 := w.n3.2
  have s10 := w.t10 hs
  have t10 := w.t10 ht
  have q1' : ¬ nI s = nI t := fun e => q1 ((nI_eq (by omega) (by omega)).mp e)
  obtain ⟨v1, f1, f2, f3⟩ := y_fits h.1 h.s1 a w.q hs ht
  have hv1 : ¬ v1 = 0 := fun e => (f3.mp e) q2
  have hG := fit_g w hs ht q2
  have Ps := w.2.one s10
  have Pr := (w.to ht).1
  have Gs := w.guests hs
  have hD : cN N (40 + 14 * t + 1) * cN N (40 + 14 * s + 3) ≤ 119988 := Nat.mul_le_mul Pr.2 Gs.2
  have hqe : mgQ N s t ≤ cN N (40 + 14 * s + 5) := Nat.sub_le _ _
  obtain ⟨wf, -⟩ := w.merge (q := mgQ N s t) hB q1 hs ht hG hqe
  refine act h V (Nat.le_refl _) (fX := fun S => f_X5_merge S (zA E 0) (nI s) (nI t)) (nI (mgQ N s t)) (mgN N s t) r wf ?_
  intro i1 j1 d1 er a1
  show ∃ i2 j2 d2, f_X5_merge _ _ _ _ = _ ∧ _
  unfold f_X5_merge
  obtain ⟨i2, e, F, R⟩ := y_mergeK (q := mgQ N s t) h.1 h.s1 a1 w hB q1 hs ht hG hqe
  have ep := y_pay (q := mgQ N s t) h.1 h.s1 a1 w hs hqe
  obtain ⟨D, hDe⟩ : ∃ D, D = cN N (40 + 14 * t + 1) * cN N (40 + 14 * s + 3) := ⟨_, rfl⟩
  rw [← hDe] at hD
  by_cases q3 : cN N (40 + 14 * s + 5) ≤ D
  · have z : mgQ N s t = 0 := by unfold mgQ; rw [← hDe]; omega
    rw [ob_X h, R_X0 h, ob_S h.1 h.s1, y_tourAt1 h.1 h.s1 a w hs, cl_go, ob_X h, R_X0 h, ob_S h.1 h.s1, y_tourAt1 h.1 h.s1 a w ht, cl_go, if_neg sm, if_neg sm, if_neg q1', ob_T h.1 h.s1 s10, f1, cl_go, if_neg hv1, ob_X h, R_X2 h, ob_H h, R_X0 h, er, cl_go, ob_T h.1 h.s1 t10, ob_T h.1 h.s1 s10, bnd_go, I_T h.1 h.s1 t10, a1.t4 ht, I_T h.1 h.s1 s10 6, a1.t6 hs, I_T h.1 h.s1 s10 8, a1.t8 hs, Ps.1, Pr.1, Gs.1, pk_mul, ← hDe, if_pos (nI_le q3 (by omega)), ob_X h, R_X0 h, ob_S h.1 h.s1]
    rw [z] at ep e R ⊢
    rw [show f_X2_payBack (mk E i1 j1 d1) (zA E 1) (some (zA E (1 + 12 + 2 * s))) 0 = _ from ep, cl_go, ob_T h.1 h.s1 s10, e, cl_go]
    refine ⟨i2, j1, d1, rfl, fun q hq => ⟨F q hq, rfl, rfl⟩, ?_⟩
    unfold mgN mg0
    rw [z]; exact R
  · have z : mgQ N s t = cN N (40 + 14 * s + 5) - D := by unfold mgQ; rw [← hDe]
    rw [ob_X h, R_X0 h, ob_S h.1 h.s1, y_tourAt1 h.1 h.s1 a w hs, cl_go, ob_X h, R_X0 h, ob_S h.1 h.s1, y_tourAt1 h.1 h.s1 a w ht, cl_go, if_neg sm, if_neg sm, if_neg q1', ob_T h.1 h.s1 s10, f1, cl_go, if_neg hv1, ob_X h, R_X2 h, ob_H h, R_X0 h, er, cl_go, ob_T h.1 h.s1 t10, ob_T h.1 h.s1 s10, bnd_go, I_T h.1 h.s1 t10, a1.t4 ht, I_T h.1 h.s1 s10 6, a1.t6 hs, I_T h.1 h.s1 s10 8, a1.t8 hs, Ps.1, Pr.1, Gs.1, pk_mul, ← hDe, if_neg (nI_ge (by omega) (by omega)), bnd_go, pk_sub (by omega), ← z, ob_X h, R_X0 h, ob_S h.1 h.s1, ep, cl_go, ob_T h.1 h.s1 s10, e, cl_go]
    exact ⟨i2, j1, d1, rfl, fun q hq => ⟨F q hq, rfl, rfl⟩, R⟩
theorem b_mergeN (h : Ev E) (V : IV B i j d N r H sn) {s t : Nat} (hs : s < cN N 3) (ht : t < cN N 3) (q1 : s ≠ t) (q2 : ¬ fitP N r s t) : f_X5_merge (mk E i j d) (zA E 0) (nI s) (nI t) = some (-4, mk E i j d) := by
  have a := V.rp
  have w := V.wf
  have n3 := w.n3.2
  have s10 := w.t10 hs
  have q1' : ¬ nI s = nI t := fun e => q1 ((nI_eq (by omega) (by omega)).mp e)
  obtain ⟨v1, f1, f2, f3⟩ := y_fits h.1 h.s1 a w.q hs ht
  have hv1 : v1 = 0 := f3.mpr q2
  subst hv1
  unfold f_X5_merge
  rw [ob_X h, R_X0 h, ob_S h.1 h.s1, y_tourAt1 h.1 h.s1 a w hs, cl_go, ob_X h, R_X0 h, ob_S h.1 h.s1, y_tourAt1 h.1 h.s1 a w ht, cl_go, if_neg sm, if_neg sm, if_neg q1', ob_T h.1 h.s1 s10, f1, cl_go, if_pos rfl]
theorem b_mergeB (h : Ev E) (V : IV B i j d N r H sn) {s : Nat} (hs : s < cN N 3) : f_X5_merge (mk E i j d) (zA E 0) (nI s) (nI s) = some (-2, mk E i j d) := by
  have a := V.rp
  have w := V.wf
  unfold f_X5_merge
  rw [ob_X h, R_X0 h, ob_S h.1 h.s1, y_tourAt1 h.1 h.s1 a w hs, cl_go, ob_X h, R_X0 h, ob_S h.1 h.s1, y_tourAt1 h.1 h.s1 a w hs, cl_go, if_neg sm, if_neg sm, if_pos rfl]
theorem b_mergeU (h : Ev E) (V : IV B i j d N r H sn) {x y : Int32} (hx : ¬ ∃ t, t < cN N 3 ∧ x = nI t) : f_X5_merge (mk E i j d) (zA E 0) x y = some (-1, mk E i j d) := by
  have a := V.rp
  have w := V.wf
  have hT : ∃ o, f_X2_tourAt (mk E i j d) (zA E 1) y = some (o, mk E i j d) := by
    by_cases hy : ∃ t, t < cN N 3 ∧ y = nI t
    · obtain ⟨t, ht, rfl⟩ := hy
      exact ⟨_, y_tourAt1 h.1 h.s1 a w ht⟩
    · exact ⟨_, y_tourAt0 h.1 h.s1 a w hy⟩
  obtain ⟨o, ho⟩ := hT
  unfold f_X5_merge
  rw [ob_X h, R_X0 h, ob_S h.1 h.s1, y_tourAt0 h.1 h.s1 a w hx, cl_go, ob_X h, R_X0 h, ob_S h.1 h.s1, ho, cl_go, if_pos rfl]
theorem b_pass (h : Ev E) (V : IV B i j d N r H sn) (hB : B ≤ 67108864) {n : Nat} (n1 : 1 ≤ n) (n30 : n ≤ 30) (q2 : N 0 + nI n ≤ 1000) : ∃ S', f_X5_pass (mk E i j d) (zA E 0) (nI n) = some ((days n 0 N r).1, S') ∧ At E S' B (days n 0 N r).2.1 (days n 0 N r).2.2 (push H (N, r)) sn := by
  have a := V.rp
  have w := V.wf
  have q1a : ¬ nI n < 1 := Int32.not_lt.mpr ((nI_leI (a := 1) (by decide) (by omega)).mpr n1)
  have q1b : nI n ≤ 30 := (nI_leI (b := 30) (by omega) (by decide)).mpr n30
  refine act h V (Nat.le_refl _) (fX := fun S => f_X5_pass S (zA E 0) (nI n)) (days n 0 N r).1 _ _ (days_ok (by omega) n 0 N r w) ?_
  intro i1 j1 d1 er a1
  show ∃ i2 j2 d2, f_X5_pass _ _ _ = _ ∧ _
  unfold f_X5_pass
  obtain ⟨i2, d2, e, F, R⟩ := y_days h (by omega) n30 n 0 1000 i1 d1 0 N r a1 w (by omega) (by omega)
  rw [if_neg q1a, if_pos q1b, ob_X h, R_X0 h, ob_S h.1 h.s1, I_S h.1 h.s1, a.f6, if_pos q2, R_X2 h, ob_H h, er, cl_go, show f_X5_pass_L47 1000 (mk E i1 j1 d1) (zA E 0) (nI n) 0 0 = _ from e]
  exact ⟨i2, j1, d2, rfl, fun q hq => ⟨(F q hq).1, rfl, (F q hq).2⟩, R⟩
theorem b_passB {S : Hp} {x : Nat} : f_X5_pass S x 31 = some (-2, S) := by
  unfold f_X5_pass
  rw [if_neg (by decide), if_neg (by decide)]
end ACTI
