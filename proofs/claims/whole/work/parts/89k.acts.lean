/-! the acts, one by one: guides, bridges, weather, booking, calling off -/
section ACTS
variable {E : Hp} {i : Nat → Nat → Int32} {j : Nat → Nat → Int64} {d : Nat → Nat → UInt64} {N : Nat → Int32} {r : Nat → UInt64} {B : Nat} {H : List Rw} {s : Option Rw}
theorem IV.rp (V : IV B i j d N r H s) : Rep i j d 1 N r := V.2.1.1
theorem IV.wf (V : IV B i j d N r H s) : WF B N r := V.2.1.2
theorem WF.of (w : WF B N r) {i2 : Nat → Nat → Int32} {d2 : Nat → Nat → UInt64} (e1 : i2 230 = N) (e2 : d2 233 = r) : WF B (i2 230) (d2 233) := by rw [e1, e2]; exact w
theorem IV.w0 (V : IV B i j d N r H s) : WF B (i 230) (d 233) := V.wf.of V.1.1 V.1.2
theorem p_book (h : Ev E) (V : IV B i j d N r H s) (hB : B + 119988 ≤ 67108864) (x n : Int32) : LSp E (B + 119988) i j d (fun S => f_X5_book S (zA E 0) x n) (fun S => f_X6_book S (zA E 229) x n) := by
  have a := V.rp
  have w := V.wf
  have w0 := V.w0
  obtain ⟨⟨hN, hr⟩, -⟩ := V.1, V.2
  have c3 : i 230 3 = nI (cN N 3) := by rw [hN]; exact w.n3.1
  have n3 := w.n3.2
  by_cases hx : ∃ t, t < cN N 3 ∧ x = nI t
  · obtain ⟨t, ht, rfl⟩ := hx
    have h10 := w.t10 ht
    by_cases q1 : 1 ≤ n ∧ n ≤ 12
    · by_cases q2 : N (40 + 14 * t + 6) = 0
      · by_cases q3 : N (40 + 14 * t + 3) + n ≤ 12
        · obtain ⟨m, hm, rfl⟩ := nI_of (x := n) (Int32.not_lt.mpr (Int32.le_trans (by decide) q1.1))
          have m1 : 1 ≤ m := (nI_leI (a := 1) (by decide) hm).mp q1.1
          have m12 : m ≤ 12 := (nI_leI (b := 12) hm (by decide)).mp q1.2
          have G := w.guests ht
          have Pr := (w.to ht).1
          have Pd := w.2.one h10
          have hG : cN N (40 + 14 * t + 3) + m ≤ 12 := by
            rw [G.1, nI_add] at q3
            exact (nI_leI (b := 12) (by omega) (by decide)).mp q3
          have hp : cN N (40 + 14 * t + 1) * m ≤ 119988 := Nat.mul_le_mul Pr.2 m12
          have hs1 := sPaid_one (N := N) 10
          have hs2 := w.2.2
          have wq1 := w.q.g3 h10 hG
          refine lp_act h V (by omega) (nI (cN N (40 + 14 * t + 1) * m)) (upd (upd N (40 + 14 * t + 3) (nI (cN N (40 + 14 * t + 3) + m))) (40 + 14 * t + 5) (nI (cN N (40 + 14 * t + 5) + cN N (40 + 14 * t + 1) * m))) r ⟨wq1.free (by unfold Ess; omega) _, ?_⟩ ?_ ?_
          · have p1 : PB B (upd N (40 + 14 * t + 3) (nI (cN N (40 + 14 * t + 3) + m))) := w.2.free (fun t' h' => by omega)
            have e5 : cN (upd N (40 + 14 * t + 3) (nI (cN N (40 + 14 * t + 3) + m))) (40 + 14 * t + 5) = cN N (40 + 14 * t + 5) := cN_ne (by omega)
            have s5 : sPaid (upd N (40 + 14 * t + 3) (nI (cN N (40 + 14 * t + 3) + m))) 10 = sPaid N 10 := sPaid_ne (fun t' h' => by omega) 10 (by omega)
            exact p1.paid h10 (by omega) (by rw [s5, e5]; omega) (fun q hq => by have := (p1.one hq).2; omega) (by omega)
          · intro i1 j1 d1 er a1
            show ∃ i2 j2 d2, f_X5_book _ _ _ _ = _ ∧ _
            unfold f_X5_book
            rw [ob_X h, R_X0 h, ob_S h.1 h.s1, y_tourAt1 h.1 h.s1 a w ht, cl_go, if_neg sm, y_isGuests, cl_go, bI_1 q1, if_neg (by decide), ob_T h.1 h.s1 h10, I_T h.1 h.s1 h10, a.t9 ht, if_pos q2, I_T h.1 h.s1 h10, a.t6 ht, if_pos q3, ob_X h, R_X2 h, ob_H h, R_X0 h, er, cl_go, ob_T h.1 h.s1 h10, I_T h.1 h.s1 h10, a1.t4 ht, Pr.1, pk_mul, bnd_go, ob_T h.1 h.s1 h10, I_T h.1 h.s1 h10, a1.t6 ht, G.1, nI_add, wI_T h.1 h.s1 h10, bnd_go, ob_T h.1 h.s1 h10, ob_T h.1 h.s1 h10, I_T h.1 h.s1 h10, u2_nek _ _ (by decide : (8 : Nat) ≠ 6), a1.t8 ht, Pd.1, nI_add, wI_T h.1 h.s1 h10, bnd_go]
            refine ⟨_, _, _, rfl, fun q hq => ⟨?_, rfl, rfl⟩, ?_⟩
            · rw [u2_row _ _ (by omega), u2_row _ _ (by omega)]
            · exact (a1.w6 w.q h10 _).w8 wq1 h10 _
          · intro i2 j2 d2 i3 d3 e1 e2 er e3 e4
            have w2 := w.of e1 e2
            have ht2 : t < cN (i2 230) 3 := by rw [e1]; exact ht
            show ∃ i4 d4, f_X6_book _ _ _ _ = _ ∧ _
            unfold f_X6_book
            rw [ob_M h, x_noTour1 h w2.n3.1 (b30 w2.n3.2) ht2, cl_go, if_pos rfl, x_in, cl_go, bI_1 q1, if_neg (by decide), ob_M h, x_isOpen h h10, cl_go, e1, bI_1 q2, if_neg (by decide), ob_M h, x_of3 h h10, cl_go, e1, if_pos q3, ob_M h, er, cl_go, ob_M h, x_of1 h h10, cl_go, e3, Pr.1, pk_mul, Nat.mul_comm m, bnd_go, ob_M h, x_of3 h h10, cl_go, e3, G.1, nI_add, ob_M h, x_to3 h h10, cl_go, ob_M h, x_of5 h h10, cl_go, upd_u2, up_ne (by omega), e3, Pd.1, nI_add, ob_M h, x_to5 h h10, cl_go]
            refine ⟨_, _, rfl, fun q hq => ?_, fun q hq => rfl, ?_, e4⟩
            · rw [u2_row _ _ hq, u2_row _ _ hq]
            · rw [upd_u2, upd_u2, e3]
        · refine lp_0 V (by omega) (v := -3) ?_ ?_
          · show f_X5_book _ _ _ _ = _
            unfold f_X5_book
            rw [ob_X h, R_X0 h, ob_S h.1 h.s1, y_tourAt1 h.1 h.s1 a w ht, cl_go, if_neg sm, y_isGuests, cl_go, bI_1 q1, if_neg (by decide), ob_T h.1 h.s1 h10, I_T h.1 h.s1 h10, a.t9 ht, if_pos q2, I_T h.1 h.s1 h10, a.t6 ht, if_neg q3]
          · intro i2 hN
            have c3 : i2 230 3 = nI (cN N 3) := by rw [hN]; exact w.n3.1
            have c1 : i2 230 1 = nI (cN N 1) := by rw [hN]; exact w.n1.1
            have w0 : WF B (i2 230) (d 233) := w.of hN hr
            show f_X6_book _ _ _ _ = _
            unfold f_X6_book
            rw [ob_M h, x_noTour1 h c3 (b30 n3) ht, cl_go, if_pos rfl, x_in, cl_go, bI_1 q1, if_neg (by decide), ob_M h, x_isOpen h h10, cl_go, hN, bI_1 q2, if_neg (by decide), ob_M h, x_of3 h h10, cl_go, hN, if_neg q3]
      · refine lp_0 V (by omega) (v := -4) ?_ ?_
        · show f_X5_book _ _ _ _ = _
          unfold f_X5_book
          rw [ob_X h, R_X0 h, ob_S h.1 h.s1, y_tourAt1 h.1 h.s1 a w ht, cl_go, if_neg sm, y_isGuests, cl_go, bI_1 q1, if_neg (by decide), ob_T h.1 h.s1 h10, I_T h.1 h.s1 h10, a.t9 ht, if_neg q2]
        · intro i2 hN
          have c3 : i2 230 3 = nI (cN N 3) := by rw [hN]; exact w.n3.1
          have c1 : i2 230 1 = nI (cN N 1) := by rw [hN]; exact w.n1.1
          have w0 : WF B (i2 230) (d 233) := w.of hN hr
          show f_X6_book _ _ _ _ = _
          unfold f_X6_book
          rw [ob_M h, x_noTour1 h c3 (b30 n3) ht, cl_go, if_pos rfl, x_in, cl_go, bI_1 q1, if_neg (by decide), ob_M h, x_isOpen h h10, cl_go, hN, bI_0 q2, if_pos rfl]
    · refine lp_0 V (by omega) (v := -2) ?_ ?_
      · show f_X5_book _ _ _ _ = _
        unfold f_X5_book
        rw [ob_X h, R_X0 h, ob_S h.1 h.s1, y_tourAt1 h.1 h.s1 a w ht, cl_go, if_neg sm, y_isGuests, cl_go, bI_0 q1, if_pos rfl]
      · intro i2 hN
        have c3 : i2 230 3 = nI (cN N 3) := by rw [hN]; exact w.n3.1
        have c1 : i2 230 1 = nI (cN N 1) := by rw [hN]; exact w.n1.1
        have w0 : WF B (i2 230) (d 233) := w.of hN hr
        show f_X6_book _ _ _ _ = _
        unfold f_X6_book
        rw [ob_M h, x_noTour1 h c3 (b30 n3) ht, cl_go, if_pos rfl, x_in, cl_go, bI_0 q1, if_pos rfl]
  · refine lp_0 V (by omega) (v := -1) ?_ ?_
    · show f_X5_book _ _ _ _ = _
      unfold f_X5_book
      rw [ob_X h, R_X0 h, ob_S h.1 h.s1, y_tourAt0 h.1 h.s1 a w hx, cl_go, if_pos rfl]
    · intro i2 hN
      have c3 : i2 230 3 = nI (cN N 3) := by rw [hN]; exact w.n3.1
      have c1 : i2 230 1 = nI (cN N 1) := by rw [hN]; exact w.n1.1
      have w0 : WF B (i2 230) (d 233) := w.of hN hr
      show f_X6_book _ _ _ _ = _
      unfold f_X6_book
      rw [ob_M h, x_noTour0 h c3 (b30 n3) hx, cl_go, if_neg (by decide)]
end ACTS
