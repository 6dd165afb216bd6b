/-! the acts, one by one: release -/
section ACTS5
variable {E : Hp} {i : Nat → Nat → Int32} {j : Nat → Nat → Int64} {d : Nat → Nat → UInt64} {N : Nat → Int32} {r : Nat → UInt64} {B : Nat} {H : List Rw} {s : Option Rw}
def tk (t : Nat) (g : Int32) : Nat → Nat → Nat → (Nat → Int32) → (Nat → Int32) × Nat
  | 0, _, n, N => (N, n)
  | m + 1, k, n, N => if N (48 + 14 * t + k) = g then tk t g m (k + 1) n N else tk t g m (k + 1) (n + 1) (upd N (48 + 14 * t + n) (N (48 + 14 * t + k)))
def tkF (t : Nat) (q : (Nat → Int32) × Nat) : Nat → Int32 := upd q.1 (40 + 14 * t + 4) (nI q.2)
theorem y_take_L (h : Nd E) {p : Nat} (hs : St E p) {t : Nat} (g : Int32) : ∀ m k n fuel i N, Rep i j d p N r → WQ N r → t < cN N 3 → k + m = cN N (40 + 14 * t + 4) → n ≤ k → m < fuel → ∃ i', f_X4_takeFromRow_L4 fuel (mk E i j d) (zA E (p + 12 + 2 * t)) g (nI n) (nI k) = some ((), mk E i' j d) ∧ (∀ q, q < p ∨ p + 31 < q → i' q = i q) ∧ Rep i' j d p (tkF t (tk t g m k n N)) r ∧ WQ (tkF t (tk t g m k n N)) r ∧ (∀ B, PB B N → PB B (tkF t (tk t g m k n N))) ∧ cN (tkF t (tk t g m k n N)) 3 = cN N 3 ∧ cN (tkF t (tk t g m k n N)) (40 + 14 * t + 4) = (tk t g m k n N).2 := by
  intro m
  induction m with
  | zero =>
    intro k n fuel i N a w ht hk hn hf
    obtain ⟨f, rfl⟩ : ∃ f, fuel = f + 1 := ⟨fuel - 1, by omega⟩
    show ∃ i', f_X4_takeFromRow_L4_b (f_X4_takeFromRow_L4 f) _ _ _ _ _ = _ ∧ _
    unfold f_X4_takeFromRow_L4_b
    have h10 := w.t10 ht
    obtain ⟨hM, hM4⟩ := w.many ht
    rw [ob_T h hs h10, I_T h hs h10, a.t7 ht, hM, if_pos (nI_le (by omega) (by omega)), ob_T h hs h10, wI_T h hs h10, bnd_go]
    refine ⟨_, rfl, fun q hq => u2_row _ _ (by omega), ?_, ?_, fun B b => b.free (fun q hq => by omega), cN_ne (by omega), cN_eq rfl (by show n < _; omega)⟩
    · exact a.w7 w h10 (n := n) (by omega) _ rfl (fun h3 x hx => a.tr h3 (by omega))
    · exact w.m4 h10 (by show n ≤ 4; omega) (fun h3 x hx => (w.to h3).2.2.2 x (by have : x < n := hx; omega))
  | succ m ih =>
    intro k n fuel i N a w ht hk hn hf
    obtain ⟨f, rfl⟩ : ∃ f, fuel = f + 1 := ⟨fuel - 1, by omega⟩
    show ∃ i', f_X4_takeFromRow_L4_b (f_X4_takeFromRow_L4 f) _ _ _ _ _ = _ ∧ _
    unfold f_X4_takeFromRow_L4_b
    have h10 := w.t10 ht
    obtain ⟨hM, hM4⟩ := w.many ht
    obtain ⟨hr, hr1, hr8⟩ := w.rowk ht (k := k) (by omega)
    rw [ob_T h hs h10, I_T h hs h10, a.t7 ht, hM, if_neg (nI_ge (by omega) (by omega)), R_T0 hs h10, ar_T0 h hs h10 (by omega), I_R h hs h10, a.tr ht (by omega)]
    show ∃ i', _ ∧ _ ∧ Rep i' j d p (tkF t (if N (48 + 14 * t + k) = g then tk t g m (k + 1) n N else tk t g m (k + 1) (n + 1) (upd N (48 + 14 * t + n) (N (48 + 14 * t + k))))) r ∧ WQ (tkF t (if N (48 + 14 * t + k) = g then tk t g m (k + 1) n N else tk t g m (k + 1) (n + 1) (upd N (48 + 14 * t + n) (N (48 + 14 * t + k))))) r ∧ (∀ B, PB B N → PB B (tkF t (if N (48 + 14 * t + k) = g then tk t g m (k + 1) n N else tk t g m (k + 1) (n + 1) (upd N (48 + 14 * t + n) (N (48 + 14 * t + k)))))) ∧ cN (tkF t (if N (48 + 14 * t + k) = g then tk t g m (k + 1) n N else tk t g m (k + 1) (n + 1) (upd N (48 + 14 * t + n) (N (48 + 14 * t + k))))) 3 = cN N 3 ∧ cN (tkF t (if N (48 + 14 * t + k) = g then tk t g m (k + 1) n N else tk t g m (k + 1) (n + 1) (upd N (48 + 14 * t + n) (N (48 + 14 * t + k))))) (40 + 14 * t + 4) = (if N (48 + 14 * t + k) = g then tk t g m (k + 1) n N else tk t g m (k + 1) (n + 1) (upd N (48 + 14 * t + n) (N (48 + 14 * t + k)))).2
    by_cases c : N (48 + 14 * t + k) = g
    · rw [if_pos c, if_pos c, bnd_go, nI_1]
      exact ih (k + 1) n f i N a w ht (by omega) (by omega) (by omega)
    · rw [if_neg c, if_neg c, ar_T0 h hs h10 (by omega), ar_T0 h hs h10 (by omega), I_R h hs h10, a.tr ht (by omega), wI_R h hs h10, bnd_go, bnd_go, bnd_go, nI_1, nI_1]
      have a' := a.wr w h10 (k := n) (by omega) (N (48 + 14 * t + k))
      have w' : WQ (upd N (48 + 14 * t + n) (N (48 + 14 * t + k))) r := by rw [hr]; exact w.row h10 (by omega) hr1
      obtain ⟨i', e, F, R, W, P, Z1, Z2⟩ := ih (k + 1) (n + 1) f _ _ a' w' (by rw [cN_ne (by omega)]; exact ht) (by rw [cN_ne (by omega)]; omega) (by omega) (by omega)
      refine ⟨i', e, fun q hq => (F q hq).trans (u2_row _ _ (by omega)), R, W, fun B b => P B (b.free (fun q hq => by omega)), Z1.trans (cN_ne (by omega)), Z2⟩
theorem x_rel_L (h : Ev E) {t : Nat} (g : Int32) : ∀ m k n fuel i N, i 230 = N → d 233 = r → WQ N r → WF B (tkF t (tk t g m k n N)) r → t < cN N 3 → cN (tkF t (tk t g m k n N)) 3 = cN N 3 → cN (tkF t (tk t g m k n N)) (40 + 14 * t + 4) = (tk t g m k n N).2 → k + m = cN N (40 + 14 * t + 4) → n ≤ k → m < fuel → ∃ i', f_X6_release_L50 fuel (mk E i j d) (zA E 229) g (nI t) (nI n) (nI k) = some (nI (sLeft (tkF t (tk t g m k n N)) r t (tk t g m k n N).2), mk E i' j d) ∧ (∀ q, q ≠ 230 → i' q = i q) ∧ i' 230 = tkF t (tk t g m k n N) := by
  intro m
  induction m with
  | zero =>
    intro k n fuel i N e1 e2 w wf ht z1 z2 hk hn hf
    obtain ⟨f, rfl⟩ : ∃ f, fuel = f + 1 := ⟨fuel - 1, by omega⟩
    show ∃ i', f_X6_release_L50_b (f_X6_release_L50 f) _ _ _ _ _ _ = _ ∧ _
    unfold f_X6_release_L50_b
    have h10 := w.t10 ht
    obtain ⟨hM, hM4⟩ := w.many ht
    have hL : ∀ i4 : Nat → Nat → Int32, i4 230 = tkF t (tk t g 0 k n N) → f_X6_leftOver (mk E i4 j d) (zA E 229) (nI t) = some (nI (sLeft (tkF t (tk t g 0 k n N)) r t n), mk E i4 j d) := fun i4 z => by
      rw [x_leftOver h (wf.of z e2) (by rw [z, z1]; exact ht), z, e2, z2]; rfl
    rw [ob_M h, x_of4 h h10, cl_go, e1, hM, if_pos (nI_le (by omega) (by omega)), ob_M h, x_to4 h h10, cl_go, ob_M h, hL _ (by rw [upd_u2, e1]; rfl), cl_go]
    exact ⟨_, rfl, fun q hq => u2_row _ _ hq, by rw [upd_u2, e1]; rfl⟩
  | succ m ih =>
    intro k n fuel i N e1 e2 w wf ht z1 z2 hk hn hf
    obtain ⟨f, rfl⟩ : ∃ f, fuel = f + 1 := ⟨fuel - 1, by omega⟩
    show ∃ i', f_X6_release_L50_b (f_X6_release_L50 f) _ _ _ _ _ _ = _ ∧ _
    unfold f_X6_release_L50_b
    have h10 := w.t10 ht
    obtain ⟨hM, hM4⟩ := w.many ht
    obtain ⟨hr, hr1, hr8⟩ := w.rowk ht (k := k) (by omega)
    have T : tk t g (m + 1) k n N = if N (48 + 14 * t + k) = g then tk t g m (k + 1) n N else tk t g m (k + 1) (n + 1) (upd N (48 + 14 * t + n) (N (48 + 14 * t + k))) := rfl
    rw [T] at wf z1 z2 ⊢
    rw [ob_M h, x_of4 h h10, cl_go, e1, hM, if_neg (nI_ge (by omega) (by omega)), ob_M h, x_guideOn h h10 (by omega), cl_go, e1]
    by_cases c : N (48 + 14 * t + k) = g
    · rw [if_pos c] at wf z1 z2 ⊢
      rw [if_pos c, bnd_go, nI_1]
      exact ih (k + 1) n f i N e1 e2 w wf ht z1 z2 (by omega) (by omega) (by omega)
    · rw [if_neg c] at wf z1 z2 ⊢
      have ix : (8 : Int32) + nI n = nI (8 + n) := nI_add 8 n
      rw [if_neg c, ob_M h, x_guideOn h h10 (by omega), cl_go, e1, ob_M h, ix, x_to h h10 _ (by omega), cl_go, bnd_go, bnd_go, nI_1, nI_1, show 40 + 14 * t + (8 + n) = 48 + 14 * t + n by omega]
      have w' : WQ (upd N (48 + 14 * t + n) (N (48 + 14 * t + k))) r := by rw [hr]; exact w.row h10 (by omega) hr1
      have c3 : cN (upd N (48 + 14 * t + n) (N (48 + 14 * t + k))) 3 = cN N 3 := cN_ne (by omega)
      obtain ⟨i', e, F, R⟩ := ih (k + 1) (n + 1) f (u2 i 230 (48 + 14 * t + n) (N (48 + 14 * t + k))) _ (by rw [upd_u2, e1]) e2 w' wf (by rw [c3]; exact ht) (z1.trans c3.symm) z2 (by rw [cN_ne (by omega)]; omega) (by omega) (by omega)
      exact ⟨i', e, fun q hq => (F q hq).trans (u2_row _ _ hq), R⟩
theorem a_release (h : Ev E) (V : IV B i j d N r H s) (hB : B + 119988 ≤ 67108864) (y x : Int32) : LSt E (B + 119988) i j d (fun S => f_X5_release S (zA E 0) y x) (fun S => f_X6_release S (zA E 229) y x) := by
  have a := V.rp
  have w := V.wf
  have w0 := V.w0
  obtain ⟨⟨hN, hr⟩, -⟩ := V.1, V.2
  have c3 : i 230 3 = nI (cN N 3) := by rw [hN]; exact w.n3.1
  have n3 := w.n3.2
  have c1 : i 230 1 = nI (cN N 1) := by rw [hN]; exact w.n1.1
  have n1 := w.n1.2
  have c2 : i 230 2 = nI (cN N 2) := by rw [hN]; exact w.n2.1
  have n2 := w.n2.2
  by_cases hy : ∃ g, g < cN N 1 ∧ y = nI g
  · obtain ⟨g, hg, rfl⟩ := hy
    have hg8 : g < 8 := by omega
    by_cases hx : ∃ t, t < cN N 3 ∧ x = nI t
    · obtain ⟨t, ht, rfl⟩ := hx
      have h10 := w.t10 ht
      obtain ⟨hM, hM4⟩ := w.many ht
      by_cases q1 : N (40 + 14 * t + 6) = 0
      · by_cases q2 : sLeads N t (nI g) = true
        · have ⟨_, _, _, _, W, P, Z1, Z2⟩ := y_take_L h.1 h.s1 (nI g) (cN N (40 + 14 * t + 4)) 0 0 1000 i N a w.q ht (by omega) (by omega) (by omega)
          have ww : WF B (tkF t (tk t (nI g) (cN N (40 + 14 * t + 4)) 0 0 N)) r := ⟨W, P B w.2⟩
          refine ls_act h V (by omega) (nI (sLeft (tkF t (tk t (nI g) (cN N (40 + 14 * t + 4)) 0 0 N)) r t (tk t (nI g) (cN N (40 + 14 * t + 4)) 0 0 N).2)) _ r (ww.mono (by omega)) ?_ ?_
          · intro i1 j1 d1 er a1
            show ∃ i2 j2 d2, f_X5_release _ _ _ _ = _ ∧ _
            unfold f_X5_release f_X4_takeFromRow
            obtain ⟨i2, e, F, R, -⟩ := y_take_L h.1 h.s1 (nI g) (cN N (40 + 14 * t + 4)) 0 0 1000 i1 N a1 w.q ht (by omega) (by omega) (by omega)
            have ht' : t < cN (tkF t (tk t (nI g) (cN N (40 + 14 * t + 4)) 0 0 N)) 3 := by rw [Z1]; exact ht
            rw [ob_X h, R_X0 h, ob_S h.1 h.s1, y_tourAt1 h.1 h.s1 a w ht, cl_go, ob_X h, R_X0 h, ob_S h.1 h.s1, y_guideAt1 h.1 h.s1 a w hg, cl_go, if_neg sm, if_neg sm, ob_T h.1 h.s1 h10, I_T h.1 h.s1 h10, a.t9 ht, if_pos q1, ob_T h.1 h.s1 h10, y_hasInRow h.1 h.s1 a w ht, cl_go, bI_1 q2, if_neg (by decide), ob_X h, R_X2 h, ob_H h, R_X0 h, er, cl_go, ob_T h.1 h.s1 h10, show f_X4_takeFromRow_L4 1000 (mk E i1 j1 d1) (zA E (1 + 12 + 2 * t)) (nI g) 0 0 = _ from e, cl_go, ob_X h, ob_T h.1 h.s1 h10, R_X0 h, ob_S h.1 h.s1, I_T h.1 h.s1 h10, R.t7 ht', (ww.many ht').1, y_leftAfter h.1 h.s1 R ww ht' (Nat.le_refl _), cl_go, Z2]
            exact ⟨i2, j1, d1, rfl, fun q hq => ⟨F q hq, rfl, rfl⟩, R⟩
          · intro i2 j2 d2 i3 d3 e1 e2 er e3 e4
            have w2 := w.of e1 e2
            have ht2 : t < cN (i2 230) 3 := by rw [e1]; exact ht
            have hg2 : g < cN (i2 230) 1 := by rw [e1]; exact hg
            show ∃ i4 d4, f_X6_release _ _ _ _ = _ ∧ _
            unfold f_X6_release
            obtain ⟨i4, e, F, R⟩ := x_rel_L (j := j2) (B := B) h (nI g) (cN N (40 + 14 * t + 4)) 0 0 1000 i3 N e3 e4 w.q ww ht Z1 Z2 (by omega) (by omega) (by omega)
            rw [ob_M h, x_noGuide1 h w2.n1.1 (by have := w2.n1.2; omega) hg2, cl_go, if_pos rfl, ob_M h, x_noTour1 h w2.n3.1 (b30 w2.n3.2) ht2, cl_go, if_pos rfl, ob_M h, x_isOpen h h10, cl_go, e1, bI_1 q1, if_neg (by decide), ob_M h, x_leads h w2 ht2, cl_go, e1, bI_1 q2, if_neg (by decide), ob_M h, er, cl_go, show f_X6_release_L50 1000 (mk E i3 j2 d3) (zA E 229) (nI g) (nI t) 0 0 = _ from e]
            exact ⟨i4, d3, rfl, F, fun q hq => rfl, R, e4⟩
        · refine ls_0 V (by omega) (v := -5) ?_ ?_
          · show f_X5_release _ _ _ _ = _
            unfold f_X5_release
            rw [ob_X h, R_X0 h, ob_S h.1 h.s1, y_tourAt1 h.1 h.s1 a w ht, cl_go, ob_X h, R_X0 h, ob_S h.1 h.s1, y_guideAt1 h.1 h.s1 a w hg, cl_go, if_neg sm, if_neg sm, ob_T h.1 h.s1 h10, I_T h.1 h.s1 h10, a.t9 ht, if_pos q1, ob_T h.1 h.s1 h10, y_hasInRow h.1 h.s1 a w ht, cl_go, bI_0 q2, if_pos rfl]
          · show f_X6_release _ _ _ _ = _
            unfold f_X6_release
            rw [ob_M h, x_noGuide1 h c1 (by omega) hg, cl_go, if_pos rfl, ob_M h, x_noTour1 h c3 (b30 n3) ht, cl_go, if_pos rfl, ob_M h, x_isOpen h h10, cl_go, hN, bI_1 q1, if_neg (by decide), ob_M h, x_leads h w0 (by rw [hN]; exact ht), cl_go, hN, bI_0 q2, if_pos rfl]
      · refine ls_0 V (by omega) (v := -4) ?_ ?_
        · show f_X5_release _ _ _ _ = _
          unfold f_X5_release
          rw [ob_X h, R_X0 h, ob_S h.1 h.s1, y_tourAt1 h.1 h.s1 a w ht, cl_go, ob_X h, R_X0 h, ob_S h.1 h.s1, y_guideAt1 h.1 h.s1 a w hg, cl_go, if_neg sm, if_neg sm, ob_T h.1 h.s1 h10, I_T h.1 h.s1 h10, a.t9 ht, if_neg q1]
        · show f_X6_release _ _ _ _ = _
          unfold f_X6_release
          rw [ob_M h, x_noGuide1 h c1 (by omega) hg, cl_go, if_pos rfl, ob_M h, x_noTour1 h c3 (b30 n3) ht, cl_go, if_pos rfl, ob_M h, x_isOpen h h10, cl_go, hN, bI_0 q1, if_pos rfl]
    · refine ls_0 V (by omega) (v := -1) ?_ ?_
      · show f_X5_release _ _ _ _ = _
        unfold f_X5_release
        rw [ob_X h, R_X0 h, ob_S h.1 h.s1, y_tourAt0 h.1 h.s1 a w hx, cl_go, ob_X h, R_X0 h, ob_S h.1 h.s1, y_guideAt1 h.1 h.s1 a w hg, cl_go, if_neg sm, if_pos rfl]
      · show f_X6_release _ _ _ _ = _
        unfold f_X6_release
        rw [ob_M h, x_noGuide1 h c1 (by omega) hg, cl_go, if_pos rfl, ob_M h, x_noTour0 h c3 (b30 n3) hx, cl_go, if_neg (by decide)]
  · have hT : ∃ o, f_X2_tourAt (mk E i j d) (zA E 1) x = some (o, mk E i j d) := by
      by_cases hx : ∃ t, t < cN N 3 ∧ x = nI t
      · obtain ⟨t, ht, rfl⟩ := hx
        exact ⟨_, y_tourAt1 h.1 h.s1 a w ht⟩
      · exact ⟨_, y_tourAt0 h.1 h.s1 a w hx⟩
    obtain ⟨o, ho⟩ := hT
    refine ls_0 V (by omega) (v := -1) ?_ ?_
    · show f_X5_release _ _ _ _ = _
      unfold f_X5_release
      rw [ob_X h, R_X0 h, ob_S h.1 h.s1, ho, cl_go, ob_X h, R_X0 h, ob_S h.1 h.s1, y_guideAt0 h.1 h.s1 a w hy, cl_go, if_pos rfl]
    · show f_X6_release _ _ _ _ = _
      unfold f_X6_release
      rw [ob_M h, x_noGuide0 h c1 (by omega) hy, cl_go, if_neg (by decide)]
end ACTS5
