/-! the acts, one by one: new guides, bridges, tours; the temperature; leaving -/
section ACTS3
variable {E : Hp} {i : Nat → Nat → Int32} {j : Nat → Nat → Int64} {d : Nat → Nat → UInt64} {N : Nat → Int32} {r : Nat → UInt64} {B : Nat} {H : List Rw} {s : Option Rw}
theorem cN_of {N M : Nat → Int32} {x y : Nat} (e : M x = N y) : cN M x = cN N y := by unfold cN; rw [e]
theorem cN_nI {M : Nat → Int32} {x n : Nat} (e : M x = nI n) (h : n < 2 ^ 31) : cN M x = n := by unfold cN; rw [e]; exact nI_clamp h
theorem WQ.c1 (w : WQ N r) {n : Nat} (hn : n ≤ 8) (h1 : cN N 1 ≤ n) (hc : ∀ g, g < n → Cn N (8 + 4 * g) 3 ∧ 1 ≤ cN N (8 + 4 * g)) : WQ (upd N 1 (nI n)) r := by
  have c : cN (upd N 1 (nI n)) 1 = n := cN_eq rfl (by omega)
  refine ⟨⟨Cn.mk' up_eq hn (by decide), ?_, ?_⟩, fun g hg => ?_, fun q hq => ?_, ⟨fun x hx => ?_, w.2.2.2.1.2⟩, w.2.2.2.2⟩
  · unfold Cn; rw [cN_ne (by omega), up_ne (by omega)]; exact w.n2
  · unfold Cn; rw [cN_ne (by omega), up_ne (by omega)]; exact w.n3
  · rw [c] at hg
    unfold Cn; rw [cN_ne (by omega), up_ne (by omega)]; exact hc g hg
  · rw [cN_ne (by omega)] at hq
    obtain ⟨a1, a2, a3, a4⟩ := w.to hq
    refine ⟨?_, ?_, ?_, fun k hk => ?_⟩
    · unfold Cn; rw [cN_ne (by omega), up_ne (by omega)]; exact a1
    · unfold Cn; rw [cN_ne (by omega), up_ne (by omega)]; exact a2
    · unfold Cn; rw [cN_ne (by omega), up_ne (by omega)]; exact a3
    · rw [cN_ne (by omega)] at hk
      have := a4 k hk
      unfold Cn gN; rw [cN_ne (by omega), up_ne (by omega), c]; exact ⟨this.1, Nat.lt_of_lt_of_le this.2 h1⟩
  · rw [up_ne (by omega)]; exact w.2.2.2.1.1 x hx
theorem WQ.c2 (w : WQ N r) {n : Nat} (hn : n ≤ 6) : WQ (upd N 2 (nI n)) r := by
  refine ⟨⟨?_, Cn.mk' up_eq hn (by decide), ?_⟩, fun g hg => ?_, fun q hq => ?_, ⟨fun x hx => ?_, w.2.2.2.1.2⟩, w.2.2.2.2⟩
  · unfold Cn; rw [cN_ne (by omega), up_ne (by omega)]; exact w.n1
  · unfold Cn; rw [cN_ne (by omega), up_ne (by omega)]; exact w.n3
  · rw [cN_ne (by omega)] at hg
    unfold Cn; rw [cN_ne (by omega), up_ne (by omega)]; exact w.kl hg
  · rw [cN_ne (by omega)] at hq
    obtain ⟨a1, a2, a3, a4⟩ := w.to hq
    refine ⟨?_, ?_, ?_, fun k hk => ?_⟩
    · unfold Cn; rw [cN_ne (by omega), up_ne (by omega)]; exact a1
    · unfold Cn; rw [cN_ne (by omega), up_ne (by omega)]; exact a2
    · unfold Cn; rw [cN_ne (by omega), up_ne (by omega)]; exact a3
    · rw [cN_ne (by omega)] at hk
      unfold Cn gN; rw [cN_ne (by omega), up_ne (by omega), cN_ne (by omega)]; exact a4 k hk
  · rw [up_ne (by omega)]; exact w.2.2.2.1.1 x hx
theorem WQ.c3 (w : WQ N r) {n : Nat} (hn : n ≤ 10) (hc : ∀ t, t < n → WFt N t) : WQ (upd N 3 (nI n)) r := by
  have c : cN (upd N 3 (nI n)) 3 = n := cN_eq rfl (by omega)
  refine ⟨⟨?_, ?_, Cn.mk' up_eq hn (by decide)⟩, fun g hg => ?_, fun q hq => ?_, ⟨fun x hx => ?_, w.2.2.2.1.2⟩, w.2.2.2.2⟩
  · unfold Cn; rw [cN_ne (by omega), up_ne (by omega)]; exact w.n1
  · unfold Cn; rw [cN_ne (by omega), up_ne (by omega)]; exact w.n2
  · rw [cN_ne (by omega)] at hg
    unfold Cn; rw [cN_ne (by omega), up_ne (by omega)]; exact w.kl hg
  · rw [c] at hq
    obtain ⟨a1, a2, a3, a4⟩ := hc q hq
    refine ⟨?_, ?_, ?_, fun k hk => ?_⟩
    · unfold Cn; rw [cN_ne (by omega), up_ne (by omega)]; exact a1
    · unfold Cn; rw [cN_ne (by omega), up_ne (by omega)]; exact a2
    · unfold Cn; rw [cN_ne (by omega), up_ne (by omega)]; exact a3
    · rw [cN_ne (by omega)] at hk
      unfold Cn gN; rw [cN_ne (by omega), up_ne (by omega), cN_ne (by omega)]; exact a4 k hk
  · rw [up_ne (by omega)]; exact w.2.2.2.1.1 x hx
theorem a_addGuide (h : Ev E) (V : IV B i j d N r H s) (hB : B + 119988 ≤ 67108864) (y z : Int32) : LSt E (B + 119988) i j d (fun S => f_X5_addGuide S (zA E 0) y z) (fun S => f_X6_addGuide S (zA E 229) y z) := by
  have a := V.rp
  have w := V.wf
  have w0 := V.w0
  obtain ⟨⟨hN, hr⟩, -⟩ := V.1, V.2
  have c3 : i 230 3 = nI (cN N 3) := by rw [hN]; exact w.n3.1
  have n3 := w.n3.2
  have c1 : i 230 1 = nI (cN N 1) := by rw [hN]; exact w.n1.1
  have n1 := w.n1.2
  have c2 : i 230 2 = nI (cN N 2) := by rw [hN]; exact w.n2.1
  have n2 := w.n2.2
  by_cases q1 : 1 ≤ y ∧ y ≤ 3
  · by_cases q2 : 0 ≤ z ∧ z ≤ 999
    · by_cases q3 : cN N 1 < 8
      · obtain ⟨k, hk, rfl⟩ := nI_of (x := y) (Int32.not_lt.mpr (Int32.le_trans (by decide) q1.1))
        have k1 : 1 ≤ k := (nI_leI (a := 1) (by decide) hk).mp q1.1
        have k3 : k ≤ 3 := (nI_leI (b := 3) hk (by decide)).mp q1.2
        have wq1 := w.q.cls q3 k1 k3
        have wq2 := wq1.free (z := 8 + 4 * (cN N 1) + 1) (by unfold Ess; omega) z
        have wq3 := wq2.free (z := 8 + 4 * (cN N 1) + 2) (by unfold Ess; omega) 0
        have wq4 := wq3.free (z := 8 + 4 * (cN N 1) + 3) (by unfold Ess; omega) 0
        have g1 : ∀ x, x < 8 ∨ 8 + 4 * (cN N 1) + 4 ≤ x ∨ x < 8 + 4 * (cN N 1) → (upd (upd (upd (upd N (8 + 4 * (cN N 1) + 0) (nI k)) (8 + 4 * (cN N 1) + 1) z) (8 + 4 * (cN N 1) + 2) 0) (8 + 4 * (cN N 1) + 3) 0) x = N x := fun x hx => by
          by_cases c : x < 8 ∨ 8 + 4 * (cN N 1) + 4 ≤ x ∨ x < 8 + 4 * (cN N 1)
          · rw [up_ne (by omega), up_ne (by omega), up_ne (by omega), up_ne (by omega)]
          · exact absurd hx c
        have g0 : (upd (upd (upd (upd N (8 + 4 * (cN N 1) + 0) (nI k)) (8 + 4 * (cN N 1) + 1) z) (8 + 4 * (cN N 1) + 2) 0) (8 + 4 * (cN N 1) + 3) 0) (8 + 4 * (cN N 1)) = nI k := by rw [up_ne (by omega), up_ne (by omega), up_ne (by omega)]; exact up_eq
        have e1' : cN (upd (upd (upd (upd N (8 + 4 * (cN N 1) + 0) (nI k)) (8 + 4 * (cN N 1) + 1) z) (8 + 4 * (cN N 1) + 2) 0) (8 + 4 * (cN N 1) + 3) 0) 1 = cN N 1 := cN_of (g1 1 (by omega))
        have wq5 : WQ (upd (upd (upd (upd (upd N (8 + 4 * (cN N 1) + 0) (nI k)) (8 + 4 * (cN N 1) + 1) z) (8 + 4 * (cN N 1) + 2) 0) (8 + 4 * (cN N 1) + 3) 0) 1 (nI (cN N 1 + 1))) r := wq4.c1 (by omega) (by rw [e1']; omega) (fun g hg => by
          by_cases c : g = cN N 1
          · rw [c]
            have := Cn.mk' (b := 3) g0 k3 (by decide)
            refine ⟨this, ?_⟩
            rw [cN_nI g0 (by omega)]; exact k1
          · have e : (upd (upd (upd (upd N (8 + 4 * (cN N 1) + 0) (nI k)) (8 + 4 * (cN N 1) + 1) z) (8 + 4 * (cN N 1) + 2) 0) (8 + 4 * (cN N 1) + 3) 0) (8 + 4 * g) = N (8 + 4 * g) := g1 _ (by omega)
            unfold Cn; rw [cN_of e, e]; exact w.kl (by omega))
        have p5 : PB B (upd (upd (upd (upd (upd N (8 + 4 * (cN N 1) + 0) (nI k)) (8 + 4 * (cN N 1) + 1) z) (8 + 4 * (cN N 1) + 2) 0) (8 + 4 * (cN N 1) + 3) 0) 1 (nI (cN N 1 + 1))) := ((((w.2.free (fun t' h' => by omega)).free (fun t' h' => by omega)).free (fun t' h' => by omega)).free (fun t' h' => by omega)).free (fun t' h' => by omega)
        have hN' : upd (upd (upd (upd (upd N 1 (nI (cN N 1 + 1))) (8 + 4 * (cN N 1) + 0) (nI k)) (8 + 4 * (cN N 1) + 1) z) (8 + 4 * (cN N 1) + 2) 0) (8 + 4 * (cN N 1) + 3) 0 = upd (upd (upd (upd (upd N (8 + 4 * (cN N 1) + 0) (nI k)) (8 + 4 * (cN N 1) + 1) z) (8 + 4 * (cN N 1) + 2) 0) (8 + 4 * (cN N 1) + 3) 0) 1 (nI (cN N 1 + 1)) := by
          rw [up_comm (x := 1) (by omega), up_comm (x := 1) (by omega), up_comm (x := 1) (by omega), up_comm (x := 1) (by omega)]
        refine ls_act h V (by omega) (nI (cN N 1)) (upd (upd (upd (upd (upd N (8 + 4 * (cN N 1) + 0) (nI k)) (8 + 4 * (cN N 1) + 1) z) (8 + 4 * (cN N 1) + 2) 0) (8 + 4 * (cN N 1) + 3) 0) 1 (nI (cN N 1 + 1))) r (WF.mono (B := B) ⟨wq5, p5⟩ (by omega)) ?_ ?_
        · intro i1 j1 d1 er a1
          show ∃ i2 j2 d2, f_X5_addGuide _ _ _ _ = _ ∧ _
          unfold f_X5_addGuide f_X0_begin f_X0_certify
          have ne : 1 ≠ 1 + 2 + cN N 1 := by omega
          rw [y_isClass, cl_go, bI_1 q1, if_neg (by decide), y_isLast, cl_go, bI_1 q2, if_neg (by decide), ob_X h, R_X0 h, ob_S h.1 h.s1, I_S h.1 h.s1, a.f3, w.n1.1, if_pos (show nI (cN N 1) < 8 from (nI_ltI (b := 8) (by omega) (by decide)).mpr q3), R_X2 h, ob_H h, er, cl_go, ob_X h, R_X0 h, ob_S h.1 h.s1, bnd_go, I_S h.1 h.s1, a1.f3, w.n1.1, R_S0 h.s1, ar_S0 h.1 h.s1 q3, R_G h.s1 q3, ob_G h.1 h.s1 q3, ob_G h.1 h.s1 q3, ob_G h.1 h.s1 q3, wI_G h.1 h.s1 q3, bnd_go, ob_G h.1 h.s1 q3, wI_G h.1 h.s1 q3, bnd_go, cl_go, ob_G h.1 h.s1 q3, wI_G h.1 h.s1 q3, bnd_go, ob_G h.1 h.s1 q3, wI_G h.1 h.s1 q3, bnd_go, cl_go, ob_X h, R_X0 h, ob_S h.1 h.s1, ob_S h.1 h.s1, I_S h.1 h.s1, u2_row _ _ ne, u2_row _ _ ne, u2_row _ _ ne, u2_row _ _ ne, a1.f3, w.n1.1, nI_1, wI_S h.1 h.s1, bnd_go]
          have R4 := (((a1.wg w.q q3 (by decide : 0 < 4) (nI k)).wg wq1 q3 (by decide : 1 < 4) z).wg wq2 q3 (by decide : 2 < 4) 0).wg wq3 q3 (by decide : 3 < 4) 0
          refine ⟨_, _, _, rfl, fun q hq => ⟨?_, rfl, rfl⟩, R4.s3 wq4 (n := cN N 1 + 1) (by omega) _ rfl (fun g hg x hx => ?_)⟩
          · rw [u2_row _ _ (by omega), u2_row _ _ (by omega), u2_row _ _ (by omega), u2_row _ _ (by omega), u2_row _ _ (by omega)]
          · by_cases c : g = cN N 1
            · have : x = 0 ∨ x = 1 ∨ x = 2 ∨ x = 3 := by omega
              rw [c]
              rcases this with rfl | rfl | rfl | rfl
              · rw [u2_nek _ _ (by decide), u2_nek _ _ (by decide), u2_nek _ _ (by decide), u2_self, up_ne (by omega), up_ne (by omega), up_ne (by omega), up_eq]
              · rw [u2_nek _ _ (by decide), u2_nek _ _ (by decide), u2_self, up_ne (by omega), up_ne (by omega), up_eq]
              · rw [u2_nek _ _ (by decide), u2_self, up_ne (by omega), up_eq]
              · rw [u2_self, up_eq]
            · exact R4.g (by rw [e1']; omega) hx
        · intro i2 j2 d2 i3 d3 e1 e2 er e3 e4
          have w2 := w.of e1 e2
          show ∃ i4 d4, f_X6_addGuide _ _ _ _ = _ ∧ _
          unfold f_X6_addGuide
          have ix0 : (8 : Int32) + 4 * nI (cN N 1) + 0 = nI (8 + 4 * (cN N 1) + 0) := nI_lit4 (cN N 1) 0
          have ix1 : (8 : Int32) + 4 * nI (cN N 1) + 1 = nI (8 + 4 * (cN N 1) + 1) := nI_lit4 (cN N 1) 1
          have ix2 : (8 : Int32) + 4 * nI (cN N 1) + 2 = nI (8 + 4 * (cN N 1) + 2) := nI_lit4 (cN N 1) 2
          have ix3 : (8 : Int32) + 4 * nI (cN N 1) + 3 = nI (8 + 4 * (cN N 1) + 3) := nI_lit4 (cN N 1) 3
          rw [x_isCert, cl_go, bI_1 ⟨q1, q2⟩, if_neg (by decide), ob_M h, R_now h, ar_now1 h, I_230 h.1, e1, w.n1.1, if_neg (show ¬ nI (cN N 1) = 8 from fun e => by have := (nI_eq (b := 8) (by omega) (by decide)).mp e; omega), ob_M h, er, cl_go, ob_M h, R_now h, ar_now1 h, bnd_go, I_230 h.1, e3, w.n1.1, ar_now1 h, ar_now1 h, I_230 h.1, e3, w.n1.1, nI_1, wI_230 h.1, bnd_go, ob_M h, R_now h, ar_now h _ ix0 (by omega), wI_230 h.1, bnd_go, ob_M h, R_now h, ar_now h _ ix1 (by omega), wI_230 h.1, bnd_go, ob_M h, R_now h, ar_now h _ ix2 (by omega), wI_230 h.1, bnd_go, ob_M h, R_now h, ar_now h _ ix3 (by omega), wI_230 h.1, bnd_go]
          refine ⟨_, _, rfl, fun q hq => ?_, fun q hq => rfl, ?_, e4⟩
          · rw [u2_row _ _ hq, u2_row _ _ hq, u2_row _ _ hq, u2_row _ _ hq, u2_row _ _ hq]
          · rw [upd_u2, upd_u2, upd_u2, upd_u2, upd_u2, e3, hN']
      · refine ls_0 V (by omega) (v := -3) ?_ ?_
        · show f_X5_addGuide _ _ _ _ = _
          unfold f_X5_addGuide
          rw [y_isClass, cl_go, bI_1 q1, if_neg (by decide), y_isLast, cl_go, bI_1 q2, if_neg (by decide), ob_X h, R_X0 h, ob_S h.1 h.s1, I_S h.1 h.s1, a.f3, w.n1.1, if_neg (show ¬ nI (cN N 1) < 8 from fun e => q3 ((nI_ltI (b := 8) (by omega) (by decide)).mp e))]
        · show f_X6_addGuide _ _ _ _ = _
          unfold f_X6_addGuide
          rw [x_isCert, cl_go, bI_1 ⟨q1, q2⟩, if_neg (by decide), ob_M h, R_now h, ar_now1 h, I_230 h.1, hN, w.n1.1, if_pos (show nI (cN N 1) = 8 by rw [show cN N 1 = 8 by omega]; rfl)]
    · refine ls_0 V (by omega) (v := -2) ?_ ?_
      · show f_X5_addGuide _ _ _ _ = _
        unfold f_X5_addGuide
        rw [y_isClass, cl_go, bI_1 q1, if_neg (by decide), y_isLast, cl_go, bI_0 q2, if_pos rfl]
      · show f_X6_addGuide _ _ _ _ = _
        unfold f_X6_addGuide
        rw [x_isCert, cl_go, bI_0 (fun e => q2 e.2), if_pos rfl]
  · refine ls_0 V (by omega) (v := -2) ?_ ?_
    · show f_X5_addGuide _ _ _ _ = _
      unfold f_X5_addGuide
      rw [y_isClass, cl_go, bI_0 q1, if_pos rfl]
    · show f_X6_addGuide _ _ _ _ = _
      unfold f_X6_addGuide
      rw [x_isCert, cl_go, bI_0 (fun e => q1 e.1), if_pos rfl]
theorem a_addBridge (h : Ev E) (V : IV B i j d N r H s) (hB : B + 119988 ≤ 67108864) (b : Int64) : LSt E (B + 119988) i j d (fun S => f_X5_addBridge S (zA E 0) b) (fun S => f_X6_addBridge S (zA E 229) b) := by
  have a := V.rp
  have w := V.wf
  have w0 := V.w0
  obtain ⟨⟨hN, hr⟩, -⟩ := V.1, V.2
  have c3 : i 230 3 = nI (cN N 3) := by rw [hN]; exact w.n3.1
  have n3 := w.n3.2
  have c1 : i 230 1 = nI (cN N 1) := by rw [hN]; exact w.n1.1
  have n1 := w.n1.2
  have c2 : i 230 2 = nI (cN N 2) := by rw [hN]; exact w.n2.1
  have n2 := w.n2.2
  by_cases q1 : 0 ≤ b ∧ b ≤ (4647503709213818880 : Int64)
  · have hd := fp_dB b q1
    by_cases q3 : cN N 2 < 6
    · have wq : WQ (upd N 2 (nI (cN N 2 + 1))) (vf_upd r (1 + cN N 2) b.toUInt64) := (w.q.rb q3 hd).c2 (by omega)
      have pb : PB B (upd N 2 (nI (cN N 2 + 1))) := w.2.free (fun t' h' => by omega)
      refine ls_act h V (by omega) (nI (cN N 2)) (upd N 2 (nI (cN N 2 + 1))) (vf_upd r (1 + cN N 2) b.toUInt64) (WF.mono (B := B) ⟨wq, pb⟩ (by omega)) ?_ ?_
      · intro i1 j1 d1 er a1
        show ∃ i2 j2 d2, f_X5_addBridge _ _ _ = _ ∧ _
        unfold f_X5_addBridge
        rw [fp_zero, cl_go, bI_1 q1, if_neg (by decide), ob_X h, R_X0 h, ob_S h.1 h.s1, I_S h.1 h.s1, a.f4, w.n2.1, if_pos (show nI (cN N 2) < 6 from (nI_ltI (b := 6) (by omega) (by decide)).mpr q3), R_X2 h, ob_H h, er, cl_go, ob_X h, R_X0 h, ob_S h.1 h.s1, bnd_go, I_S h.1 h.s1, a1.f4, w.n2.1, fp_num b (Or.inl hd), cl_go, R_S1 h.s1, ar_S1 h.1 h.s1 q3, wD_B h.1 h.s1, bnd_go, ob_X h, R_X0 h, ob_S h.1 h.s1, ob_S h.1 h.s1, I_S h.1 h.s1, a1.f4, w.n2.1, nI_1, wI_S h.1 h.s1, bnd_go]
        exact ⟨_, _, _, rfl, fun q hq => ⟨u2_row _ _ (by omega), rfl, u2_row _ _ (by omega)⟩, (a1.wb w.n3.2 q3 _).s4 (w.q.rb q3 hd) _⟩
      · intro i2 j2 d2 i3 d3 e1 e2 er e3 e4
        show ∃ i4 d4, f_X6_addBridge _ _ _ = _ ∧ _
        unfold f_X6_addBridge
        rw [fp_up500 b, cl_go, bI_1 q1, if_neg (by decide), ob_M h, R_now h, ar_now2 h, I_230 h.1, e1, w.n2.1, if_neg (show ¬ nI (cN N 2) = 6 from fun e => by have := (nI_eq (b := 6) (by omega) (by decide)).mp e; omega), ob_M h, er, cl_go, ob_M h, R_now h, ar_now2 h, gd_go (fp_snl b (Or.inl hd)), R_rea h, I_230 h.1, e3, w.n2.1, ar_rea h (x := 1 + nI (cN N 2)) (1 + cN N 2) (nI_add 1 _) (by omega), wD_233 h.1, bnd_go, ob_M h, R_now h, ar_now2 h, ar_now2 h, I_230 h.1, e3, w.n2.1, nI_1, wI_230 h.1, bnd_go, ob_M h, R_now h, ar_now2 h, I_230 h.1, u2_self, nI_pred]
        refine ⟨_, _, rfl, fun q hq => u2_row _ _ hq, fun q hq => u2_row _ _ hq, ?_, ?_⟩
        · rw [upd_u2, e3]
        · rw [u2_vupd, e4]
    · refine ls_0 V (by omega) (v := -3) ?_ ?_
      · show f_X5_addBridge _ _ _ = _
        unfold f_X5_addBridge
        rw [fp_zero, cl_go, bI_1 q1, if_neg (by decide), ob_X h, R_X0 h, ob_S h.1 h.s1, I_S h.1 h.s1, a.f4, w.n2.1, if_neg (show ¬ nI (cN N 2) < 6 from fun e => q3 ((nI_ltI (b := 6) (by omega) (by decide)).mp e))]
      · show f_X6_addBridge _ _ _ = _
        unfold f_X6_addBridge
        rw [fp_up500 b, cl_go, bI_1 q1, if_neg (by decide), ob_M h, R_now h, ar_now2 h, I_230 h.1, hN, w.n2.1, if_pos (show nI (cN N 2) = 6 by rw [show cN N 2 = 6 by omega]; rfl)]
  · refine ls_0 V (by omega) (v := -2) ?_ ?_
    · show f_X5_addBridge _ _ _ = _
      unfold f_X5_addBridge
      rw [fp_zero, cl_go, bI_0 q1, if_pos rfl]
    · show f_X6_addBridge _ _ _ = _
      unfold f_X6_addBridge
      rw [fp_up500 b, cl_go, bI_0 q1, if_pos rfl]
end ACTS3
