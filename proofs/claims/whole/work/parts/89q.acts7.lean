/-! the acts, one by one: merge, whole -/
section ACTS7
variable {E : Hp} {i : Nat → Nat → Int32} {j : Nat → Nat → Int64} {d : Nat → Nat → UInt64} {N : Nat → Int32} {r : Nat → UInt64} {B : Nat} {H : List Rw} {s' : Option Rw}
theorem p_merge (h : Ev E) (V : IV B i j d N r H s') (hB : B + 119988 ≤ 67108864) (x y : Int32) : LSp E (B + 119988) i j d (fun S => f_X5_merge S (zA E 0) x y) (fun S => f_X6_merge S (zA E 229) x y) := by
  have a := V.rp
  have w := V.wf
  have w0 := V.w0
  obtain ⟨⟨hN, hr⟩, -⟩ := V.1, V.2
  have c3 : i 230 3 = nI (cN N 3) := by rw [hN]; exact w.n3.1
  have n3 := w.n3.2
  have c1 : i 230 1 = nI (cN N 1) := by rw [hN]; exact w.n1.1
  have n1 := w.n1.2
  have c2 : i 230 2 = nI (cN N 2) := by rw [hN]; exact w.n2.1
  have n2 := w.n2.2
  by_cases hx : ∃ t, t < cN N 3 ∧ x = nI t
  · obtain ⟨s, hs, rfl⟩ := hx
    have s10 := w.t10 hs
    by_cases hy : ∃ t, t < cN N 3 ∧ y = nI t
    · obtain ⟨t, ht, rfl⟩ := hy
      have t10 := w.t10 ht
      by_cases q1 : s = t
      · subst q1
        refine lp_0 V (by omega) (v := -2) ?_ ?_
        · show f_X5_merge _ _ _ _ = _
          unfold f_X5_merge
          rw [ob_X h, R_X0 h, ob_S h.1 h.s1, y_tourAt1 h.1 h.s1 a w hs, cl_go, ob_X h, R_X0 h, ob_S h.1 h.s1, y_tourAt1 h.1 h.s1 a w hs, cl_go, if_neg sm, if_neg sm, if_pos rfl]
        · intro i2 hN
          have c3 : i2 230 3 = nI (cN N 3) := by rw [hN]; exact w.n3.1
          have c1 : i2 230 1 = nI (cN N 1) := by rw [hN]; exact w.n1.1
          have w0 : WF B (i2 230) (d 233) := w.of hN hr
          show f_X6_merge _ _ _ _ = _
          unfold f_X6_merge
          rw [ob_M h, x_noTour1 h c3 (b30 n3) hs, cl_go, if_pos rfl, ob_M h, x_noTour1 h c3 (b30 n3) hs, cl_go, if_pos rfl, if_pos rfl]
      · have q1' : ¬ nI s = nI t := fun e => q1 ((nI_eq (by omega) (by omega)).mp e)
        obtain ⟨v1, f1, f2, f3⟩ := y_fits h.1 h.s1 a w.q hs ht
        by_cases q2 : fitP N r s t
        · have hv1 : ¬ v1 = 0 := fun e => (f3.mp e) q2
          have hG : cN N (40 + 14 * s + 3) + cN N (40 + 14 * t + 3) ≤ 12 := by
            have := q2.2.2.2.2.2
            rw [(w.guests hs).1, (w.guests ht).1, nI_add] at this
            have g1 := (w.guests hs).2
            have g2 := (w.guests ht).2
            have := Int32.not_lt.mp this
            exact (nI_leI (b := 12) (by omega) (by decide)).mp this
          have Ps := w.2.one s10
          have Pr := (w.to ht).1
          have Gs := w.guests hs
          have hD : cN N (40 + 14 * t + 1) * cN N (40 + 14 * s + 3) ≤ 119988 := Nat.mul_le_mul Pr.2 Gs.2
          obtain ⟨D, hDe⟩ : ∃ D, D = cN N (40 + 14 * t + 1) * cN N (40 + 14 * s + 3) := ⟨_, rfl⟩
          rw [← hDe] at hD
          by_cases q3 : cN N (40 + 14 * s + 5) ≤ D
          · obtain ⟨wf, -⟩ := w.merge (q := 0) (by omega) q1 hs ht hG (by omega)
            refine lp_act h V (by omega) (nI 0) _ r (wf.mono (by omega)) ?_ ?_
            · intro i1 j1 d1 er a1
              show ∃ i2 j2 d2, f_X5_merge _ _ _ _ = _ ∧ _
              unfold f_X5_merge
              obtain ⟨i2, e, F, R⟩ := y_mergeK (q := 0) h.1 h.s1 a1 w (by omega) q1 hs ht hG (by omega)
              have ep := y_pay (q := 0) h.1 h.s1 a1 w hs (by omega)
              rw [ob_X h, R_X0 h, ob_S h.1 h.s1, y_tourAt1 h.1 h.s1 a w hs, cl_go, ob_X h, R_X0 h, ob_S h.1 h.s1, y_tourAt1 h.1 h.s1 a w ht, cl_go, if_neg sm, if_neg sm, if_neg q1', ob_T h.1 h.s1 s10, f1, cl_go, if_neg hv1, ob_X h, R_X2 h, ob_H h, R_X0 h, er, cl_go, ob_T h.1 h.s1 t10, ob_T h.1 h.s1 s10, bnd_go, I_T h.1 h.s1 t10, a1.t4 ht, I_T h.1 h.s1 s10 6, a1.t6 hs, I_T h.1 h.s1 s10 8, a1.t8 hs, Ps.1, Pr.1, Gs.1, pk_mul, ← hDe, if_pos (nI_le q3 (by omega)), ob_X h, R_X0 h, ob_S h.1 h.s1, show f_X2_payBack (mk E i1 j1 d1) (zA E 1) (some (zA E (1 + 12 + 2 * s))) 0 = _ from ep, cl_go, ob_T h.1 h.s1 s10, e, cl_go]
              exact ⟨i2, j1, d1, rfl, fun q hq => ⟨F q hq, rfl, rfl⟩, R⟩
            · intro i2 j2 d2 i3 d3 e1 e2 er e3 e4
              have w2 := w.of e1 e2
              have hs2 : s < cN (i2 230) 3 := by rw [e1]; exact hs
              have ht2 : t < cN (i2 230) 3 := by rw [e1]; exact ht
              obtain ⟨v2, g1, g2, g3⟩ := x_mayMerge (i := i2) (j := j2) (d := d2) h s10 t10
              rw [e1, e2] at g3
              have hv2 : ¬ v2 = 0 := fun e => (g3.mp e) q2
              show ∃ i4 d4, f_X6_merge _ _ _ _ = _ ∧ _
              unfold f_X6_merge
              have hle : nI (cN N (40 + 14 * s + 5)) - nI D ≤ 0 := by
                rw [Int32.le_iff_toInt_le, pk_sub_toInt (by omega) (by omega)]
                show _ ≤ (0 : Int)
                omega
              obtain ⟨i4, e, F, R⟩ := x_mergeK (j := j2) (d := d3) (q := 0) h w (by omega) q1 hs ht hG (by omega) e3 (nI (cN N (40 + 14 * s + 5)) - nI D)
              rw [ob_M h, x_noTour1 h w2.n3.1 (b30 w2.n3.2) hs2, cl_go, if_pos rfl, ob_M h, x_noTour1 h w2.n3.1 (b30 w2.n3.2) ht2, cl_go, if_pos rfl, if_neg q1', ob_M h, g1, cl_go, if_neg hv2, ob_M h, er, cl_go, ob_M h, x_of5 h s10, cl_go, ob_M h, x_of3 h s10, cl_go, ob_M h, x_of1 h t10, cl_go, bnd_go, e3, Ps.1, Pr.1, Gs.1, pk_mul, Nat.mul_comm (cN N (40 + 14 * s + 3)), ← hDe, if_pos hle]
              exact ⟨i4, d3, e, F, fun q hq => rfl, R, e4⟩
          · obtain ⟨wf, -⟩ := w.merge (q := cN N (40 + 14 * s + 5) - D) (by omega) q1 hs ht hG (by omega)
            refine lp_act h V (by omega) (nI (cN N (40 + 14 * s + 5) - D)) _ r (wf.mono (by omega)) ?_ ?_
            · intro i1 j1 d1 er a1
              show ∃ i2 j2 d2, f_X5_merge _ _ _ _ = _ ∧ _
              unfold f_X5_merge
              obtain ⟨i2, e, F, R⟩ := y_mergeK (q := cN N (40 + 14 * s + 5) - D) h.1 h.s1 a1 w (by omega) q1 hs ht hG (by omega)
              have ep := y_pay (q := cN N (40 + 14 * s + 5) - D) h.1 h.s1 a1 w hs (by omega)
              rw [ob_X h, R_X0 h, ob_S h.1 h.s1, y_tourAt1 h.1 h.s1 a w hs, cl_go, ob_X h, R_X0 h, ob_S h.1 h.s1, y_tourAt1 h.1 h.s1 a w ht, cl_go, if_neg sm, if_neg sm, if_neg q1', ob_T h.1 h.s1 s10, f1, cl_go, if_neg hv1, ob_X h, R_X2 h, ob_H h, R_X0 h, er, cl_go, ob_T h.1 h.s1 t10, ob_T h.1 h.s1 s10, bnd_go, I_T h.1 h.s1 t10, a1.t4 ht, I_T h.1 h.s1 s10 6, a1.t6 hs, I_T h.1 h.s1 s10 8, a1.t8 hs, Ps.1, Pr.1, Gs.1, pk_mul, ← hDe, if_neg (nI_ge (by omega) (by omega)), bnd_go, pk_sub (by omega), ob_X h, R_X0 h, ob_S h.1 h.s1, ep, cl_go, ob_T h.1 h.s1 s10, e, cl_go]
              exact ⟨i2, j1, d1, rfl, fun q hq => ⟨F q hq, rfl, rfl⟩, R⟩
            · intro i2 j2 d2 i3 d3 e1 e2 er e3 e4
              have w2 := w.of e1 e2
              have hs2 : s < cN (i2 230) 3 := by rw [e1]; exact hs
              have ht2 : t < cN (i2 230) 3 := by rw [e1]; exact ht
              obtain ⟨v2, g1, g2, g3⟩ := x_mayMerge (i := i2) (j := j2) (d := d2) h s10 t10
              rw [e1, e2] at g3
              have hv2 : ¬ v2 = 0 := fun e => (g3.mp e) q2
              show ∃ i4 d4, f_X6_merge _ _ _ _ = _ ∧ _
              unfold f_X6_merge
              have hle : ¬ nI (cN N (40 + 14 * s + 5) - D) ≤ 0 := nI_nle (by omega) (by omega)
              obtain ⟨i4, e, F, R⟩ := x_mergeK (j := j2) (d := d3) (q := cN N (40 + 14 * s + 5) - D) h w (by omega) q1 hs ht hG (by omega) e3 (nI (cN N (40 + 14 * s + 5) - D))
              rw [ob_M h, x_noTour1 h w2.n3.1 (b30 w2.n3.2) hs2, cl_go, if_pos rfl, ob_M h, x_noTour1 h w2.n3.1 (b30 w2.n3.2) ht2, cl_go, if_pos rfl, if_neg q1', ob_M h, g1, cl_go, if_neg hv2, ob_M h, er, cl_go, ob_M h, x_of5 h s10, cl_go, ob_M h, x_of3 h s10, cl_go, ob_M h, x_of1 h t10, cl_go, bnd_go, e3, Ps.1, Pr.1, Gs.1, pk_mul, Nat.mul_comm (cN N (40 + 14 * s + 3)), ← hDe, pk_sub (show D ≤ cN N (40 + 14 * s + 5) by omega), if_neg hle]
              exact ⟨i4, d3, e, F, fun q hq => rfl, R, e4⟩
        · have hv1 : v1 = 0 := f3.mpr q2
          subst hv1
          refine lp_0 V (by omega) (v := -4) ?_ ?_
          · show f_X5_merge _ _ _ _ = _
            unfold f_X5_merge
            rw [ob_X h, R_X0 h, ob_S h.1 h.s1, y_tourAt1 h.1 h.s1 a w hs, cl_go, ob_X h, R_X0 h, ob_S h.1 h.s1, y_tourAt1 h.1 h.s1 a w ht, cl_go, if_neg sm, if_neg sm, if_neg q1', ob_T h.1 h.s1 s10, f1, cl_go, if_pos rfl]
          · intro i2 hN
            have c3 : i2 230 3 = nI (cN N 3) := by rw [hN]; exact w.n3.1
            obtain ⟨v2, g1, g2, g3⟩ := x_mayMerge (i := i2) (j := j) (d := d) h s10 t10
            rw [hN, hr] at g3
            have hv2 : v2 = 0 := g3.mpr q2
            subst hv2
            show f_X6_merge _ _ _ _ = _
            unfold f_X6_merge
            rw [ob_M h, x_noTour1 h c3 (b30 n3) hs, cl_go, if_pos rfl, ob_M h, x_noTour1 h c3 (b30 n3) ht, cl_go, if_pos rfl, if_neg q1', ob_M h, g1, cl_go, if_pos rfl]
    · refine lp_0 V (by omega) (v := -1) ?_ ?_
      · show f_X5_merge _ _ _ _ = _
        unfold f_X5_merge
        rw [ob_X h, R_X0 h, ob_S h.1 h.s1, y_tourAt1 h.1 h.s1 a w hs, cl_go, ob_X h, R_X0 h, ob_S h.1 h.s1, y_tourAt0 h.1 h.s1 a w hy, cl_go, if_neg sm, if_pos rfl]
      · intro i2 hN
        have c3 : i2 230 3 = nI (cN N 3) := by rw [hN]; exact w.n3.1
        have c1 : i2 230 1 = nI (cN N 1) := by rw [hN]; exact w.n1.1
        have w0 : WF B (i2 230) (d 233) := w.of hN hr
        show f_X6_merge _ _ _ _ = _
        unfold f_X6_merge
        rw [ob_M h, x_noTour1 h c3 (b30 n3) hs, cl_go, if_pos rfl, ob_M h, x_noTour0 h c3 (b30 n3) hy, cl_go, if_neg (by decide)]
  · have hT : ∃ o, f_X2_tourAt (mk E i j d) (zA E 1) y = some (o, mk E i j d) := by
      by_cases hy : ∃ t, t < cN N 3 ∧ y = nI t
      · obtain ⟨t, ht, rfl⟩ := hy
        exact ⟨_, y_tourAt1 h.1 h.s1 a w ht⟩
      · exact ⟨_, y_tourAt0 h.1 h.s1 a w hy⟩
    obtain ⟨o, ho⟩ := hT
    refine lp_0 V (by omega) (v := -1) ?_ ?_
    · show f_X5_merge _ _ _ _ = _
      unfold f_X5_merge
      rw [ob_X h, R_X0 h, ob_S h.1 h.s1, y_tourAt0 h.1 h.s1 a w hx, cl_go, ob_X h, R_X0 h, ob_S h.1 h.s1, ho, cl_go, if_pos rfl]
    · intro i2 hN
      have c3 : i2 230 3 = nI (cN N 3) := by rw [hN]; exact w.n3.1
      have c1 : i2 230 1 = nI (cN N 1) := by rw [hN]; exact w.n1.1
      have w0 : WF B (i2 230) (d 233) := w.of hN hr
      show f_X6_merge _ _ _ _ = _
      unfold f_X6_merge
      rw [ob_M h, x_noTour0 h c3 (b30 n3) hx, cl_go, if_neg (by decide)]
end ACTS7
