/-! the acts, one by one: guides, bridges, weather, calling off, leading -/
section ACTS2
variable {E : Hp} {i : Nat → Nat → Int32} {j : Nat → Nat → Int64} {d : Nat → Nat → UInt64} {N : Nat → Int32} {r : Nat → UInt64} {B : Nat} {H : List Rw} {s : Option Rw}
theorem up_comm {N : Nat → Int32} {x y : Nat} {a b : Int32} (h : x ≠ y) : upd (upd N x a) y b = upd (upd N y b) x a := by
  funext z; unfold upd
  by_cases c1 : z = y
  · by_cases c2 : z = x
    · exact absurd (c2.symm.trans c1) h
    · rw [if_pos c1, if_neg c2, if_pos c1]
  · by_cases c2 : z = x
    · rw [if_neg c1, if_pos c2, if_pos c2]
    · rw [if_neg c1, if_neg c2, if_neg c2, if_neg c1]
/-- a tour is called off -/
def canc (N : Nat → Int32) (t : Nat) (c : Int32) : Nat → Int32 := upd (upd (upd (upd N (40 + 14 * t + 5) 0) 4 (N 4 + N (40 + 14 * t + 5))) (40 + 14 * t + 6) 2) (40 + 14 * t + 7) c
theorem canc2 (N : Nat → Int32) (t : Nat) (c : Int32) : upd (upd (upd (upd N (40 + 14 * t + 6) 2) (40 + 14 * t + 7) c) (40 + 14 * t + 5) 0) 4 (N 4 + N (40 + 14 * t + 5)) = canc N t c := by
  unfold canc
  rw [up_comm (x := 40 + 14 * t + 7) (y := 40 + 14 * t + 5) (by omega), up_comm (x := 40 + 14 * t + 6) (y := 40 + 14 * t + 5) (by omega), up_comm (x := 40 + 14 * t + 7) (y := 4) (by omega), up_comm (x := 40 + 14 * t + 6) (y := 4) (by omega)]
theorem WF.off (w : WF B N r) (hB : B < 2 ^ 31) {t : Nat} (ht : t < 10) (c : Int32) : WF B (canc N t c) r := by
  unfold canc
  have p5 : PB B (upd N (40 + 14 * t + 5) 0) := w.2.paid (m := 0) ht hB (by have := w.2.2; omega) (fun q hq => (w.2.one hq).2) (by omega)
  refine ⟨(((w.q.free (by unfold Ess; omega) _).free (by unfold Ess; omega) _).free (by unfold Ess; omega) _).free (by unfold Ess; omega) _, ((p5.free (fun q hq => by omega)).free (fun q hq => by omega)).free (fun q hq => by omega)⟩
theorem y_callOff (h : Nd E) {p : Nat} (hs : St E p) (a : Rep i j d p N r) (w : WF B N r) {t : Nat} (ht : t < cN N 3) (c : Int32) : ∃ i', f_X2_callOff (mk E i j d) (zA E p) (some (zA E (p + 12 + 2 * t))) c = some (N (40 + 14 * t + 5), mk E i' j d) ∧ (∀ q, q < p ∨ p + 31 < q → i' q = i q) ∧ Rep i' j d p (canc N t c) r := by
  have h10 := w.t10 ht
  unfold f_X2_callOff f_X2_payBack
  have ne : p ≠ p + 12 + 2 * t := by omega
  rw [ob_T h hs h10, bnd_go, I_T h hs h10, a.t8 ht, ob_T h hs h10, wI_T h hs h10, bnd_go, ob_T h hs h10, wI_T h hs h10, bnd_go, ob_S h hs, ob_T h hs h10, ob_T h hs h10, I_T h hs h10, u2_nek _ _ (by decide : (8 : Nat) ≠ 10), u2_nek _ _ (by decide : (8 : Nat) ≠ 9), a.t8 ht, Int32.sub_self, wI_T h hs h10, bnd_go, ob_S h hs, ob_S h hs, I_S h hs, u2_row _ _ ne, u2_row _ _ ne, u2_row _ _ ne, a.f9, wI_S h hs, bnd_go, cl_go]
  refine ⟨_, rfl, fun q hq => ?_, ?_⟩
  · rw [u2_row _ _ (by omega), u2_row _ _ (by omega), u2_row _ _ (by omega), u2_row _ _ (by omega)]
  · rw [← canc2]
    have w1 := w.q.free (z := 40 + 14 * t + 6) (by unfold Ess; omega) 2
    have w2 := w1.free (z := 40 + 14 * t + 7) (by unfold Ess; omega) c
    have w3 := w2.free (z := 40 + 14 * t + 5) (by unfold Ess; omega) 0
    exact (((a.w9 w.q h10 2).w10 w1 h10 c).w8 w2 h10 0).s9 w3 _
theorem x_refunds (h : Ev E) {t : Nat} (ht : t < 10) (v : Int32) : f_X6_refunds (mk E i j d) (zA E 229) (nI t) v = some ((), mk E (u2 (u2 i 230 (40 + 14 * t + 5) (i 230 (40 + 14 * t + 5) - v)) 230 4 (i 230 4 + v)) j d) := by
  unfold f_X6_refunds
  rw [ob_M h, x_of5 h ht, cl_go, ob_M h, x_to5 h ht, cl_go, ob_M h, R_now h, ar_now4 h, ar_now4 h, I_230 h.1, u2_nek _ _ (by omega), wI_230 h.1, bnd_go]
theorem x_cancels (h : Ev E) {t : Nat} (ht : t < 10) (c : Int32) : ∃ i', f_X6_cancels (mk E i j d) (zA E 229) (nI t) c = some (i 230 (40 + 14 * t + 5), mk E i' j d) ∧ (∀ q, q ≠ 230 → i' q = i q) ∧ i' 230 = canc (i 230) t c := by
  unfold f_X6_cancels
  rw [ob_M h, x_of5 h ht, cl_go, ob_M h, x_refunds h ht, cl_go, ob_M h, x_to6 h ht, cl_go, ob_M h, x_to7 h ht, cl_go, Int32.sub_self]
  refine ⟨_, rfl, fun q hq => ?_, ?_⟩
  · rw [u2_row _ _ hq, u2_row _ _ hq, u2_row _ _ hq, u2_row _ _ hq]
  · rw [upd_u2, upd_u2, upd_u2, upd_u2]; rfl
theorem p_cancel (h : Ev E) (V : IV B i j d N r H s) (hB : B + 119988 ≤ 67108864) (x : Int32) : LSp E (B + 119988) i j d (fun S => f_X5_cancel S (zA E 0) x) (fun S => f_X6_cancel S (zA E 229) x) := by
  have a := V.rp
  have w := V.wf
  have w0 := V.w0
  obtain ⟨⟨hN, hr⟩, -⟩ := V.1, V.2
  have c3 : i 230 3 = nI (cN N 3) := by rw [hN]; exact w.n3.1
  have n3 := w.n3.2
  have c1 : i 230 1 = nI (cN N 1) := by rw [hN]; exact w.n1.1
  have n1 := w.n1.2
  have c2 : i 230 2 = nI (cN N 2) := by rw [hN]; exact w.n2.1
  have n2 := w.n2.2
  by_cases hx : ∃ t, t < cN N 3 ∧ x = nI t
  · obtain ⟨t, ht, rfl⟩ := hx
    have h10 := w.t10 ht
    by_cases q2 : N (40 + 14 * t + 6) = 0
    · refine lp_act h V (by omega) (N (40 + 14 * t + 5)) (canc N t 4) r ((w.off (by omega) h10 4).mono (by omega)) ?_ ?_
      · intro i1 j1 d1 er a1
        show ∃ i2 j2 d2, f_X5_cancel _ _ _ = _ ∧ _
        unfold f_X5_cancel
        obtain ⟨i2, e, f, R⟩ := y_callOff h.1 h.s1 a1 w ht 4
        rw [ob_X h, R_X0 h, ob_S h.1 h.s1, y_tourAt1 h.1 h.s1 a w ht, cl_go, if_neg sm, ob_T h.1 h.s1 h10, I_T h.1 h.s1 h10, a.t9 ht, if_pos q2, ob_X h, R_X2 h, ob_H h, R_X0 h, er, cl_go, ob_X h, R_X0 h, ob_S h.1 h.s1, e, cl_go]
        exact ⟨i2, j1, d1, rfl, fun q hq => ⟨f q hq, rfl, rfl⟩, R⟩
      · intro i2 j2 d2 i3 d3 e1 e2 er e3 e4
        have w2 := w.of e1 e2
        have ht2 : t < cN (i2 230) 3 := by rw [e1]; exact ht
        show ∃ i4 d4, f_X6_cancel _ _ _ = _ ∧ _
        unfold f_X6_cancel
        obtain ⟨i4, e, f, R⟩ := x_cancels (i := i3) (j := j2) (d := d3) h h10 4
        rw [ob_M h, x_noTour1 h w2.n3.1 (b30 w2.n3.2) ht2, cl_go, if_pos rfl, ob_M h, x_isOpen h h10, cl_go, e1, bI_1 q2, if_neg (by decide), ob_M h, er, cl_go, ob_M h, e, cl_go, e3]
        exact ⟨i4, d3, rfl, f, fun q hq => rfl, by rw [R, e3], e4⟩
    · refine lp_0 V (by omega) (v := -4) ?_ ?_
      · show f_X5_cancel _ _ _ = _
        unfold f_X5_cancel
        rw [ob_X h, R_X0 h, ob_S h.1 h.s1, y_tourAt1 h.1 h.s1 a w ht, cl_go, if_neg sm, ob_T h.1 h.s1 h10, I_T h.1 h.s1 h10, a.t9 ht, if_neg q2]
      · intro i2 hN
        have c3 : i2 230 3 = nI (cN N 3) := by rw [hN]; exact w.n3.1
        have c1 : i2 230 1 = nI (cN N 1) := by rw [hN]; exact w.n1.1
        have w0 : WF B (i2 230) (d 233) := w.of hN hr
        show f_X6_cancel _ _ _ = _
        unfold f_X6_cancel
        rw [ob_M h, x_noTour1 h c3 (b30 n3) ht, cl_go, if_pos rfl, ob_M h, x_isOpen h h10, cl_go, hN, bI_0 q2, if_pos rfl]
  · refine lp_0 V (by omega) (v := -1) ?_ ?_
    · show f_X5_cancel _ _ _ = _
      unfold f_X5_cancel
      rw [ob_X h, R_X0 h, ob_S h.1 h.s1, y_tourAt0 h.1 h.s1 a w hx, cl_go, if_pos rfl]
    · intro i2 hN
      have c3 : i2 230 3 = nI (cN N 3) := by rw [hN]; exact w.n3.1
      have c1 : i2 230 1 = nI (cN N 1) := by rw [hN]; exact w.n1.1
      have w0 : WF B (i2 230) (d 233) := w.of hN hr
      show f_X6_cancel _ _ _ = _
      unfold f_X6_cancel
      rw [ob_M h, x_noTour0 h c3 (b30 n3) hx, cl_go, if_neg (by decide)]
theorem a_renew (h : Ev E) (V : IV B i j d N r H s) (hB : B + 119988 ≤ 67108864) (x y z : Int32) : LSt E (B + 119988) i j d (fun S => f_X5_renew S (zA E 0) x y z) (fun S => f_X6_renew S (zA E 229) x y z) := by
  have a := V.rp
  have w := V.wf
  have w0 := V.w0
  obtain ⟨⟨hN, hr⟩, -⟩ := V.1, V.2
  have c3 : i 230 3 = nI (cN N 3) := by rw [hN]; exact w.n3.1
  have n3 := w.n3.2
  have c1 : i 230 1 = nI (cN N 1) := by rw [hN]; exact w.n1.1
  have n1 := w.n1.2
  have c2 : i 230 2 = nI (cN N 2) := by rw [hN]; exact w.n2.1
  have n2 := w.n2.2
  by_cases hx : ∃ g, g < cN N 1 ∧ x = nI g
  · obtain ⟨g, hg, rfl⟩ := hx
    have hg8 : g < 8 := by omega
    by_cases q1 : 1 ≤ y ∧ y ≤ 3
    · by_cases q2 : 0 ≤ z ∧ z ≤ 999
      · by_cases q3 : N (8 + 4 * g + 0) = y ∧ N (8 + 4 * g + 1) = z
        · refine ls_0 V (by omega) (v := -5) ?_ ?_
          · show f_X5_renew _ _ _ _ _ = _
            unfold f_X5_renew
            rw [ob_X h, R_X0 h, ob_S h.1 h.s1, y_guideAt1 h.1 h.s1 a w hg, cl_go, if_neg sm, y_isClass, cl_go, bI_1 q1, if_neg (by decide), y_isLast, cl_go, bI_1 q2, if_neg (by decide), ob_G h.1 h.s1 hg8, I_G h.1 h.s1 hg8, a.g hg (by decide : 0 < 4), if_pos q3.1, I_G h.1 h.s1 hg8, a.g hg (by decide : 1 < 4), if_pos q3.2]
          · show f_X6_renew _ _ _ _ _ = _
            unfold f_X6_renew
            rw [ob_M h, x_noGuide1 h c1 (by omega) hg, cl_go, if_pos rfl, x_isCert, cl_go, bI_1 ⟨q1, q2⟩, if_neg (by decide), ob_M h, x_ofG1 h hg8, cl_go, hN, if_pos q3.2, ob_M h, x_ofG0 h hg8, cl_go, hN, if_pos q3.1]
        · obtain ⟨k, hk, rfl⟩ := nI_of (x := y) (Int32.not_lt.mpr (Int32.le_trans (by decide) q1.1))
          have k1 : 1 ≤ k := (nI_leI (a := 1) (by decide) hk).mp q1.1
          have k3 : k ≤ 3 := (nI_leI (b := 3) hk (by decide)).mp q1.2
          have wq1 := w.q.cls hg8 k1 k3
          refine ls_act h V (by omega) (N (8 + 4 * g + 1)) (upd (upd N (8 + 4 * g + 0) (nI k)) (8 + 4 * g + 1) z) r (WF.mono (B := B) ⟨wq1.free (by unfold Ess; omega) _, (w.2.free (fun t' h' => by omega)).free (fun t' h' => by omega)⟩ (by omega)) ?_ ?_
          · intro i1 j1 d1 er a1
            show ∃ i2 j2 d2, f_X5_renew _ _ _ _ _ = _ ∧ _
            unfold f_X5_renew f_X0_certify
            rw [ob_X h, R_X0 h, ob_S h.1 h.s1, y_guideAt1 h.1 h.s1 a w hg, cl_go, if_neg sm, y_isClass, cl_go, bI_1 q1, if_neg (by decide), y_isLast, cl_go, bI_1 q2, if_neg (by decide), ob_G h.1 h.s1 hg8, I_G h.1 h.s1 hg8, a.g hg (by decide : 0 < 4), I_G h.1 h.s1 hg8, a.g hg (by decide : 1 < 4), ob_X h, R_X2 h, ob_H h, R_X0 h, er, cl_go, ob_G h.1 h.s1 hg8, bnd_go, I_G h.1 h.s1 hg8, a1.g hg (by decide : 1 < 4), ob_G h.1 h.s1 hg8, ob_G h.1 h.s1 hg8, wI_G h.1 h.s1 hg8, bnd_go, ob_G h.1 h.s1 hg8, wI_G h.1 h.s1 hg8, bnd_go, cl_go]
            refine ⟨u2 (u2 i1 (1 + 2 + g) 0 (nI k)) (1 + 2 + g) 1 z, j1, d1, ?_, fun q hq => ⟨?_, rfl, rfl⟩, ?_⟩
            · by_cases z1 : N (8 + 4 * g + 0) = nI k
              · rw [if_pos z1, if_neg (fun e => q3 ⟨z1, e⟩)]
              · rw [if_neg z1]
            · rw [u2_row _ _ (by omega), u2_row _ _ (by omega)]
            · exact (a1.wg w.q hg8 (by decide) _).wg wq1 hg8 (by decide) _
          · intro i2 j2 d2 i3 d3 e1 e2 er e3 e4
            have w2 := w.of e1 e2
            have hg2 : g < cN (i2 230) 1 := by rw [e1]; exact hg
            show ∃ i4 d4, f_X6_renew _ _ _ _ _ = _ ∧ _
            unfold f_X6_renew
            have ix0 : (8 : Int32) + 4 * nI g + 0 = nI (8 + 4 * g + 0) := nI_lit4 g 0
            have ix1 : (8 : Int32) + 4 * nI g + 1 = nI (8 + 4 * g + 1) := nI_lit4 g 1
            rw [ob_M h, x_noGuide1 h w2.n1.1 (by have := w2.n1.2; omega) hg2, cl_go, if_pos rfl, x_isCert, cl_go, bI_1 ⟨q1, q2⟩, if_neg (by decide), ob_M h, x_ofG1 h hg8, cl_go, e1, ob_M h, x_ofG0 h hg8, cl_go, e1, ob_M h, er, cl_go, ob_M h, R_now h, ar_now h _ ix0 (by omega), wI_230 h.1, bnd_go, ob_M h, R_now h, ar_now h _ ix1 (by omega), wI_230 h.1, bnd_go]
            refine ⟨u2 (u2 i3 230 (8 + 4 * g + 0) (nI k)) 230 (8 + 4 * g + 1) z, d3, ?_, fun q hq => ?_, fun q hq => rfl, ?_, e4⟩
            · by_cases z1 : N (8 + 4 * g + 1) = z
              · rw [if_pos z1, if_neg (fun e => q3 ⟨e, z1⟩)]
              · rw [if_neg z1]
            · rw [u2_row _ _ hq, u2_row _ _ hq]
            · rw [upd_u2, upd_u2, e3]
      · refine ls_0 V (by omega) (v := -2) ?_ ?_
        · show f_X5_renew _ _ _ _ _ = _
          unfold f_X5_renew
          rw [ob_X h, R_X0 h, ob_S h.1 h.s1, y_guideAt1 h.1 h.s1 a w hg, cl_go, if_neg sm, y_isClass, cl_go, bI_1 q1, if_neg (by decide), y_isLast, cl_go, bI_0 q2, if_pos rfl]
        · show f_X6_renew _ _ _ _ _ = _
          unfold f_X6_renew
          rw [ob_M h, x_noGuide1 h c1 (by omega) hg, cl_go, if_pos rfl, x_isCert, cl_go, bI_0 (fun e => q2 e.2), if_pos rfl]
    · refine ls_0 V (by omega) (v := -2) ?_ ?_
      · show f_X5_renew _ _ _ _ _ = _
        unfold f_X5_renew
        rw [ob_X h, R_X0 h, ob_S h.1 h.s1, y_guideAt1 h.1 h.s1 a w hg, cl_go, if_neg sm, y_isClass, cl_go, bI_0 q1, if_pos rfl]
      · show f_X6_renew _ _ _ _ _ = _
        unfold f_X6_renew
        rw [ob_M h, x_noGuide1 h c1 (by omega) hg, cl_go, if_pos rfl, x_isCert, cl_go, bI_0 (fun e => q1 e.1), if_pos rfl]
  · refine ls_0 V (by omega) (v := -1) ?_ ?_
    · show f_X5_renew _ _ _ _ _ = _
      unfold f_X5_renew
      rw [ob_X h, R_X0 h, ob_S h.1 h.s1, y_guideAt0 h.1 h.s1 a w hx, cl_go, if_pos rfl]
    · show f_X6_renew _ _ _ _ _ = _
      unfold f_X6_renew
      rw [ob_M h, x_noGuide0 h c1 (by omega) hx, cl_go, if_neg (by decide)]
theorem p_lead (h : Ev E) (V : IV B i j d N r H s) (hB : B + 119988 ≤ 67108864) (y x : Int32) : LSp E (B + 119988) i j d (fun S => f_X5_lead S (zA E 0) y x) (fun S => f_X6_lead S (zA E 229) y x) := by
  have a := V.rp
  have w := V.wf
  have w0 := V.w0
  obtain ⟨⟨hN, hr⟩, -⟩ := V.1, V.2
  have c3 : i 230 3 = nI (cN N 3) := by rw [hN]; exact w.n3.1
  have n3 := w.n3.2
  have c1 : i 230 1 = nI (cN N 1) := by rw [hN]; exact w.n1.1
  have n1 := w.n1.2
  have c2 : i 230 2 = nI (cN N 2) := by rw [hN]; exact w.n2.1
  have n2 := w.n2.2
  by_cases hy : ∃ g, g < cN N 1 ∧ y = nI g
  · obtain ⟨g, hg, rfl⟩ := hy
    have hg8 : g < 8 := by omega
    by_cases hx : ∃ t, t < cN N 3 ∧ x = nI t
    · obtain ⟨t, ht, rfl⟩ := hx
      have h10 := w.t10 ht
      obtain ⟨hM, hM4⟩ := w.many ht
      by_cases q1 : sMay N t g = true
      · by_cases q2 : cN N (40 + 14 * t + 4) < 4
        · have wq1 := w.q.row h10 q2 hg
          have cm : cN (upd N (48 + 14 * t + cN N (40 + 14 * t + 4)) (nI g)) (40 + 14 * t + 4) = cN N (40 + 14 * t + 4) := cN_ne (by omega)
          have wq2 : WQ (upd (upd N (48 + 14 * t + cN N (40 + 14 * t + 4)) (nI g)) (40 + 14 * t + 4) (nI (cN N (40 + 14 * t + 4) + 1))) r := wq1.m4 h10 (by omega) (fun h3 k hk => by
            by_cases e : k = cN N (40 + 14 * t + 4)
            · have hv : (upd N (48 + 14 * t + cN N (40 + 14 * t + 4)) (nI g)) (48 + 14 * t + k) = nI g := by rw [e]; exact up_eq
              refine ⟨Cn.mk' hv (by omega) (by decide), ?_⟩
              have hc : cN (upd N (48 + 14 * t + cN N (40 + 14 * t + 4)) (nI g)) (48 + 14 * t + k) = g := by rw [e]; exact cN_eq rfl (by omega)
              show cN _ (48 + 14 * t + k) < _
              rw [hc, cN_ne (by omega)]; exact hg
            · exact (wq1.to h3).2.2.2 k (by omega))
          have ww : WF B (upd (upd N (48 + 14 * t + cN N (40 + 14 * t + 4)) (nI g)) (40 + 14 * t + 4) (nI (cN N (40 + 14 * t + 4) + 1))) r := ⟨wq2, (w.2.free (fun t' h' => by omega)).free (fun t' h' => by omega)⟩
          have rt : sRat (upd (upd N (48 + 14 * t + cN N (40 + 14 * t + 4)) (nI g)) (40 + 14 * t + 4) (nI (cN N (40 + 14 * t + 4) + 1))) r t g = sRat N r t g := by
            unfold sRat; rw [cN_ne (by omega), cN_ne (by omega)]
          have n1' : g < cN (upd (upd N (48 + 14 * t + cN N (40 + 14 * t + 4)) (nI g)) (40 + 14 * t + 4) (nI (cN N (40 + 14 * t + 4) + 1))) 1 := by
            rw [cN_ne (by omega), cN_ne (by omega)]; exact hg
          have n3' : t < cN (upd (upd N (48 + 14 * t + cN N (40 + 14 * t + 4)) (nI g)) (40 + 14 * t + 4) (nI (cN N (40 + 14 * t + 4) + 1))) 3 := by
            rw [cN_ne (by omega), cN_ne (by omega)]; exact ht
          refine lp_act h V (by omega) (nI (sRat N r t g)) _ r (ww.mono (by omega)) ?_ ?_
          · intro i1 j1 d1 er a1
            show ∃ i2 j2 d2, f_X5_lead _ _ _ _ = _ ∧ _
            unfold f_X5_lead f_X4_addToRow
            have nr : 1 + 12 + 2 * t ≠ 1 + 13 + 2 * t := by omega
            rw [ob_X h, R_X0 h, ob_S h.1 h.s1, y_tourAt1 h.1 h.s1 a w ht, cl_go, ob_X h, R_X0 h, ob_S h.1 h.s1, y_guideAt1 h.1 h.s1 a w hg, cl_go, if_neg sm, if_neg sm, ob_X h, R_X0 h, ob_S h.1 h.s1, y_mayLead h.1 h.s1 a w ht hg, cl_go, bI_1 q1, if_neg (by decide), ob_T h.1 h.s1 h10, I_T h.1 h.s1 h10, a.t7 ht, hM, if_pos (show nI (cN N (40 + 14 * t + 4)) < 4 from (nI_ltI (b := 4) (by omega) (by decide)).mpr q2), ob_X h, R_X2 h, ob_H h, R_X0 h, er, cl_go, ob_T h.1 h.s1 h10, ob_T h.1 h.s1 h10, I_T h.1 h.s1 h10, a1.t7 ht, hM, if_neg (show ¬ (4 : Int32) ≤ nI (cN N (40 + 14 * t + 4)) from fun e => by have := (nI_leI (a := 4) (by decide) (by omega)).mp e; omega), R_T0 h.s1 h10, ar_T0 h.1 h.s1 h10 q2, wI_R h.1 h.s1 h10, bnd_go, ob_T h.1 h.s1 h10, ob_T h.1 h.s1 h10, I_T h.1 h.s1 h10, u2_row _ _ nr, a1.t7 ht, hM, nI_1, wI_T h.1 h.s1 h10, bnd_go, cl_go, ob_X h, R_X0 h, ob_S h.1 h.s1]
            have R1 := a1.wr w.q h10 q2 (nI g)
            have R2 := R1.w7 wq1 h10 (n := cN N (40 + 14 * t + 4) + 1) (by omega) _ rfl (fun h3 k hk => by
              by_cases e : k = cN N (40 + 14 * t + 4)
              · rw [e, u2_self, up_eq]
              · exact R1.tr h3 (by omega))
            rw [y_ratioOf h.1 h.s1 R2 ww n3' n1', cl_go, rt]
            exact ⟨_, _, _, rfl, fun q hq => ⟨by rw [u2_row _ _ (by omega), u2_row _ _ (by omega)], rfl, rfl⟩, R2⟩
          · intro i2 j2 d2 i3 d3 e1 e2 er e3 e4
            have w2 := w.of e1 e2
            have ht2 : t < cN (i2 230) 3 := by rw [e1]; exact ht
            have hg2 : g < cN (i2 230) 1 := by rw [e1]; exact hg
            show ∃ i4 d4, f_X6_lead _ _ _ _ = _ ∧ _
            unfold f_X6_lead
            have hw : ∀ i4 : Nat → Nat → Int32, i4 230 = upd (upd N (48 + 14 * t + cN N (40 + 14 * t + 4)) (nI g)) (40 + 14 * t + 4) (nI (cN N (40 + 14 * t + 4) + 1)) → f_X6_ratio (mk E i4 j2 d3) (zA E 229) (nI t) (nI g) = some (nI (sRat N r t g), mk E i4 j2 d3) := fun i4 z => by
              rw [x_ratio h (ww.of z e4) h10 (by rw [z]; exact n1'), z, e4, rt]
            have ix : (8 : Int32) + nI (cN N (40 + 14 * t + 4)) = nI (8 + cN N (40 + 14 * t + 4)) := nI_add 8 _
            rw [ob_M h, x_noGuide1 h w2.n1.1 (by have := w2.n1.2; omega) hg2, cl_go, if_pos rfl, ob_M h, x_noTour1 h w2.n3.1 (b30 w2.n3.2) ht2, cl_go, if_pos rfl, ob_M h, x_mayLead h w2 h10 hg8, cl_go, e1, bI_1 q1, if_neg (by decide), ob_M h, x_of4 h h10, cl_go, e1, hM, if_neg (show ¬ nI (cN N (40 + 14 * t + 4)) = 4 from fun e => by have := (nI_eq (b := 4) (by omega) (by decide)).mp e; omega), ob_M h, er, cl_go, ob_M h, x_of4 h h10, cl_go, e3, hM, ix, ob_M h, x_to h h10 _ (by omega), cl_go, ob_M h, x_of4 h h10, cl_go, upd_u2, up_ne (by omega), e3, hM, nI_1, ob_M h, x_to4 h h10, cl_go, ob_M h, show 40 + 14 * t + (8 + cN N (40 + 14 * t + 4)) = 48 + 14 * t + cN N (40 + 14 * t + 4) by omega, hw _ (by rw [upd_u2, upd_u2, e3]), cl_go]
            exact ⟨_, _, rfl, fun q hq => by rw [u2_row _ _ hq, u2_row _ _ hq], fun q hq => rfl, by rw [upd_u2, upd_u2, e3], e4⟩
        · refine lp_0 V (by omega) (v := -3) ?_ ?_
          · show f_X5_lead _ _ _ _ = _
            unfold f_X5_lead
            rw [ob_X h, R_X0 h, ob_S h.1 h.s1, y_tourAt1 h.1 h.s1 a w ht, cl_go, ob_X h, R_X0 h, ob_S h.1 h.s1, y_guideAt1 h.1 h.s1 a w hg, cl_go, if_neg sm, if_neg sm, ob_X h, R_X0 h, ob_S h.1 h.s1, y_mayLead h.1 h.s1 a w ht hg, cl_go, bI_1 q1, if_neg (by decide), ob_T h.1 h.s1 h10, I_T h.1 h.s1 h10, a.t7 ht, hM, if_neg (show ¬ nI (cN N (40 + 14 * t + 4)) < 4 from fun e => q2 ((nI_ltI (b := 4) (by omega) (by decide)).mp e))]
          · intro i2 hN
            have c3 : i2 230 3 = nI (cN N 3) := by rw [hN]; exact w.n3.1
            have c1 : i2 230 1 = nI (cN N 1) := by rw [hN]; exact w.n1.1
            have w0 : WF B (i2 230) (d 233) := w.of hN hr
            show f_X6_lead _ _ _ _ = _
            unfold f_X6_lead
            rw [ob_M h, x_noGuide1 h c1 (by omega) hg, cl_go, if_pos rfl, ob_M h, x_noTour1 h c3 (b30 n3) ht, cl_go, if_pos rfl, ob_M h, x_mayLead h w0 h10 hg8, cl_go, hN, bI_1 q1, if_neg (by decide), ob_M h, x_of4 h h10, cl_go, hN, hM, if_pos (show nI (cN N (40 + 14 * t + 4)) = 4 by rw [show cN N (40 + 14 * t + 4) = 4 by omega]; rfl)]
      · refine lp_0 V (by omega) (v := -4) ?_ ?_
        · show f_X5_lead _ _ _ _ = _
          unfold f_X5_lead
          rw [ob_X h, R_X0 h, ob_S h.1 h.s1, y_tourAt1 h.1 h.s1 a w ht, cl_go, ob_X h, R_X0 h, ob_S h.1 h.s1, y_guideAt1 h.1 h.s1 a w hg, cl_go, if_neg sm, if_neg sm, ob_X h, R_X0 h, ob_S h.1 h.s1, y_mayLead h.1 h.s1 a w ht hg, cl_go, bI_0 q1, if_pos rfl]
        · intro i2 hN
          have c3 : i2 230 3 = nI (cN N 3) := by rw [hN]; exact w.n3.1
          have c1 : i2 230 1 = nI (cN N 1) := by rw [hN]; exact w.n1.1
          have w0 : WF B (i2 230) (d 233) := w.of hN hr
          show f_X6_lead _ _ _ _ = _
          unfold f_X6_lead
          rw [ob_M h, x_noGuide1 h c1 (by omega) hg, cl_go, if_pos rfl, ob_M h, x_noTour1 h c3 (b30 n3) ht, cl_go, if_pos rfl, ob_M h, x_mayLead h w0 h10 hg8, cl_go, hN, bI_0 q1, if_pos rfl]
    · refine lp_0 V (by omega) (v := -1) ?_ ?_
      · show f_X5_lead _ _ _ _ = _
        unfold f_X5_lead
        rw [ob_X h, R_X0 h, ob_S h.1 h.s1, y_tourAt0 h.1 h.s1 a w hx, cl_go, ob_X h, R_X0 h, ob_S h.1 h.s1, y_guideAt1 h.1 h.s1 a w hg, cl_go, if_neg sm, if_pos rfl]
      · intro i2 hN
        have c3 : i2 230 3 = nI (cN N 3) := by rw [hN]; exact w.n3.1
        have c1 : i2 230 1 = nI (cN N 1) := by rw [hN]; exact w.n1.1
        have w0 : WF B (i2 230) (d 233) := w.of hN hr
        show f_X6_lead _ _ _ _ = _
        unfold f_X6_lead
        rw [ob_M h, x_noGuide1 h c1 (by omega) hg, cl_go, if_pos rfl, ob_M h, x_noTour0 h c3 (b30 n3) hx, cl_go, if_neg (by decide)]
  · have hT : ∃ o, f_X2_tourAt (mk E i j d) (zA E 1) x = some (o, mk E i j d) := by
      by_cases hx : ∃ t, t < cN N 3 ∧ x = nI t
      · obtain ⟨t, ht, rfl⟩ := hx
        exact ⟨_, y_tourAt1 h.1 h.s1 a w ht⟩
      · exact ⟨_, y_tourAt0 h.1 h.s1 a w hx⟩
    obtain ⟨o, ho⟩ := hT
    refine lp_0 V (by omega) (v := -1) ?_ ?_
    · show f_X5_lead _ _ _ _ = _
      unfold f_X5_lead
      rw [ob_X h, R_X0 h, ob_S h.1 h.s1, ho, cl_go, ob_X h, R_X0 h, ob_S h.1 h.s1, y_guideAt0 h.1 h.s1 a w hy, cl_go, if_pos rfl]
    · intro i2 hN
      have c3 : i2 230 3 = nI (cN N 3) := by rw [hN]; exact w.n3.1
      have c1 : i2 230 1 = nI (cN N 1) := by rw [hN]; exact w.n1.1
      have w0 : WF B (i2 230) (d 233) := w.of hN hr
      show f_X6_lead _ _ _ _ = _
      unfold f_X6_lead
      rw [ob_M h, x_noGuide0 h c1 (by omega) hy, cl_go, if_neg (by decide)]
end ACTS2
