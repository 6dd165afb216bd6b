/-! the acts, one by one: merge -/
section ACTS6
variable {E : Hp} {i : Nat → Nat → Int32} {j : Nat → Nat → Int64} {d : Nat → Nat → UInt64} {N : Nat → Int32} {r : Nat → UInt64} {B : Nat} {H : List Rw} {s : Option Rw}
def mv (s t : Nat) : Nat → Nat → (Nat → Int32) → (Nat → Int32)
  | 0, _, N => N
  | m + 1, k, N => if cN N (40 + 14 * t + 4) < 4 then mv s t m (k + 1) (upd (upd N (48 + 14 * t + cN N (40 + 14 * t + 4)) (N (48 + 14 * s + k))) (40 + 14 * t + 4) (nI (cN N (40 + 14 * t + 4) + 1))) else mv s t m (k + 1) N
def mvF (s : Nat) (N : Nat → Int32) : Nat → Int32 := upd (upd (upd (upd N (40 + 14 * s + 3) 0) (40 + 14 * s + 4) 0) (40 + 14 * s + 5) 0) (40 + 14 * s + 6) 3
theorem mv_full {s t : Nat} : ∀ m k N, 4 ≤ cN N (40 + 14 * t + 4) → mv s t m k N = N
  | 0, _, _, _ => rfl
  | m + 1, k, N, h => by
    show (if _ then _ else _) = _
    rw [if_neg (by omega)]; exact mv_full m (k + 1) N h
/-- paid cells are numbers from 0 on -/
def CI (N : Nat → Int32) : Prop := ∀ t, t < 10 → N (40 + 14 * t + 5) = nI (cN N (40 + 14 * t + 5))
theorem CI.pb (c : CI N) (h : sPaid N 10 ≤ B) : PB B N := ⟨fun t ht => ⟨c t ht, Nat.le_trans (sPaid_one 10 t ht) h⟩, h⟩
theorem PB.ci (b : PB B N) : CI N := fun t ht => (b.one ht).1
theorem CI.free (c : CI N) {z : Nat} {v : Int32} (hz : ∀ t, t < 10 → z ≠ 40 + 14 * t + 5) : CI (upd N z v) := fun t ht => by
  have := hz t ht
  rw [cN_ne (by omega), up_ne (by omega)]; exact c t ht
theorem CI.paid (c : CI N) {t m : Nat} (hm : m < 2 ^ 31) : CI (upd N (40 + 14 * t + 5) (nI m)) := fun q hq => by
  by_cases e : q = t
  · rw [e, cN_eq rfl hm, up_eq]
  · rw [cN_ne (by omega), up_ne (by omega)]; exact c q hq
/-- what the moving of a row leaves -/
theorem mv_ok {s t : Nat} (hst : s ≠ t) (hs10 : s < 10) (ht10 : t < 10) : ∀ m k N, WQ N r → s < cN N 3 → t < cN N 3 → k + m ≤ cN N (40 + 14 * s + 4) → WQ (mv s t m k N) r ∧ cN (mv s t m k N) 3 = cN N 3 ∧ (∀ z, (z < 48 + 14 * t ∧ z ≠ 40 + 14 * t + 4) ∨ 52 + 14 * t ≤ z → mv s t m k N z = N z)
  | 0, _, _, w, _, _, _ => ⟨w, rfl, fun _ _ => rfl⟩
  | m + 1, k, N, w, h1, h2, h3 => by
    have e0 : mv s t (m + 1) k N = if cN N (40 + 14 * t + 4) < 4 then mv s t m (k + 1) (upd (upd N (48 + 14 * t + cN N (40 + 14 * t + 4)) (N (48 + 14 * s + k))) (40 + 14 * t + 4) (nI (cN N (40 + 14 * t + 4) + 1))) else mv s t m (k + 1) N := rfl
    rw [e0]
    by_cases c : cN N (40 + 14 * t + 4) < 4
    · rw [if_pos c]
      obtain ⟨hr, hr1, hr8⟩ := w.rowk h1 (k := k) (by omega)
      have w1 : WQ (upd N (48 + 14 * t + cN N (40 + 14 * t + 4)) (N (48 + 14 * s + k))) r := by rw [hr]; exact w.row ht10 c hr1
      have w2 : WQ (upd (upd N (48 + 14 * t + cN N (40 + 14 * t + 4)) (N (48 + 14 * s + k))) (40 + 14 * t + 4) (nI (cN N (40 + 14 * t + 4) + 1))) r := w1.m4 ht10 (by omega) (fun q3 x hx => by
        by_cases e : x = cN N (40 + 14 * t + 4)
        · have hv : (upd N (48 + 14 * t + cN N (40 + 14 * t + 4)) (N (48 + 14 * s + k))) (48 + 14 * t + x) = nI (gN N s k) := by rw [e, up_eq]; exact hr
          have n1 := w.n1.2
          have hc : cN (upd N (48 + 14 * t + cN N (40 + 14 * t + 4)) (N (48 + 14 * s + k))) (48 + 14 * t + x) = gN N s k := cN_nI hv (by omega)
          refine ⟨Cn.mk' hv (by omega) (by decide), ?_⟩
          show cN _ (48 + 14 * t + x) < _
          rw [hc, cN_ne (by omega)]; exact hr1
        · exact (w1.to q3).2.2.2 x (by rw [cN_ne (by omega)]; omega))
      obtain ⟨a1, a2, a3⟩ := mv_ok hst hs10 ht10 m (k + 1) _ w2 (by rw [cN_ne (by omega), cN_ne (by omega)]; exact h1) (by rw [cN_ne (by omega), cN_ne (by omega)]; exact h2) (by rw [cN_ne (by omega), cN_ne (by omega)]; omega)
      refine ⟨a1, a2.trans (by rw [cN_ne (by omega), cN_ne (by omega)]), fun z hz => (a3 z hz).trans ?_⟩
      rw [up_ne (by omega), up_ne (by omega)]
    · rw [if_neg c]
      exact mv_ok hst hs10 ht10 m (k + 1) N w h1 h2 (by omega)
theorem y_mv_L (h : Nd E) {p : Nat} (hs : St E p) {s t : Nat} (hst : s ≠ t) : ∀ m k fuel i N, Rep i j d p N r → WQ N r → s < cN N 3 → t < cN N 3 → k + m = cN N (40 + 14 * s + 4) → m < fuel → ∃ i', f_X4_moveInto_L28 fuel (mk E i j d) (zA E (p + 12 + 2 * s)) (some (zA E (p + 12 + 2 * t))) (nI k) = some ((), mk E i' j d) ∧ (∀ q, q < p ∨ p + 31 < q → i' q = i q) ∧ Rep i' j d p (mvF s (mv s t m k N)) r := by
  intro m
  induction m with
  | zero =>
    intro k fuel i N a w h1 h2 hk hf
    obtain ⟨f, rfl⟩ : ∃ f, fuel = f + 1 := ⟨fuel - 1, by omega⟩
    show ∃ i', f_X4_moveInto_L28_b (f_X4_moveInto_L28 f) _ _ _ _ = _ ∧ _
    unfold f_X4_moveInto_L28_b
    have s10 := w.t10 h1
    obtain ⟨hM, hM4⟩ := w.many h1
    rw [ob_T h hs s10, I_T h hs s10, a.t7 h1, hM, if_pos (nI_le (by omega) (by omega)), ob_T h hs s10, wI_T h hs s10, bnd_go, ob_T h hs s10, wI_T h hs s10, bnd_go, ob_T h hs s10, wI_T h hs s10, bnd_go, ob_T h hs s10, wI_T h hs s10, bnd_go]
    have w1 : WQ (upd N (40 + 14 * s + 3) 0) r := w.g3 (n := 0) s10 (by omega)
    have w2 : WQ (upd (upd N (40 + 14 * s + 3) 0) (40 + 14 * s + 4) 0) r := w1.m4 (n := 0) s10 (by omega) (fun _ k hk => absurd hk (Nat.not_lt_zero _))
    have w3 := w2.free (z := 40 + 14 * s + 5) (by unfold Ess; omega) 0
    refine ⟨_, rfl, fun q hq => ?_, ?_⟩
    · rw [u2_row _ _ (by omega), u2_row _ _ (by omega), u2_row _ _ (by omega), u2_row _ _ (by omega)]
    · exact (((a.w6 w s10 0).w7 w1 s10 (n := 0) (by omega) 0 rfl (fun _ k hk => absurd hk (Nat.not_lt_zero _))).w8 w2 s10 0).w9 w3 s10 3
  | succ m ih =>
    intro k fuel i N a w h1 h2 hk hf
    obtain ⟨f, rfl⟩ : ∃ f, fuel = f + 1 := ⟨fuel - 1, by omega⟩
    show ∃ i', f_X4_moveInto_L28_b (f_X4_moveInto_L28 f) _ _ _ _ = _ ∧ _
    unfold f_X4_moveInto_L28_b
    have s10 := w.t10 h1
    have t10 := w.t10 h2
    obtain ⟨hM, hM4⟩ := w.many h1
    obtain ⟨hT, hT4⟩ := w.many h2
    obtain ⟨hr, hr1, hr8⟩ := w.rowk h1 (k := k) (by omega)
    have W := mv_ok hst s10 t10 1 k N w h1 h2 (by omega)
    rw [ob_T h hs s10, I_T h hs s10, a.t7 h1, hM, if_neg (nI_ge (by omega) (by omega)), R_T0 hs s10, ar_T0 h hs s10 (by omega), ob_T h hs t10, I_R h hs s10, a.tr h1 (by omega)]
    unfold f_X4_addToRow
    have e1 : mv s t (m + 1) k N = if cN N (40 + 14 * t + 4) < 4 then mv s t m (k + 1) (upd (upd N (48 + 14 * t + cN N (40 + 14 * t + 4)) (N (48 + 14 * s + k))) (40 + 14 * t + 4) (nI (cN N (40 + 14 * t + 4) + 1))) else mv s t m (k + 1) N := rfl
    have e2 : mv s t 1 k N = if cN N (40 + 14 * t + 4) < 4 then (upd (upd N (48 + 14 * t + cN N (40 + 14 * t + 4)) (N (48 + 14 * s + k))) (40 + 14 * t + 4) (nI (cN N (40 + 14 * t + 4) + 1))) else N := rfl
    rw [e2] at W
    rw [e1, ob_T h hs t10, I_T h hs t10, a.t7 h2, hT]
    by_cases c : cN N (40 + 14 * t + 4) < 4
    · rw [if_pos c] at W
      have nr : p + 12 + 2 * t ≠ p + 13 + 2 * t := by omega
      have w1 : WQ (upd N (48 + 14 * t + cN N (40 + 14 * t + 4)) (N (48 + 14 * s + k))) r := by rw [hr]; exact w.row t10 c hr1
      have a1 := a.wr w t10 c (N (48 + 14 * s + k))
      have a2 := a1.w7 w1 t10 (n := cN N (40 + 14 * t + 4) + 1) (by omega) _ rfl (fun h3 x hx => by
        by_cases e : x = cN N (40 + 14 * t + 4)
        · rw [e, u2_self, up_eq]
        · exact a1.tr h3 (by rw [cN_ne (by omega)]; omega))
      rw [if_pos c, if_neg (show ¬ (4 : Int32) ≤ nI (cN N (40 + 14 * t + 4)) from fun e => by have := (nI_leI (a := 4) (by decide) (by omega)).mp e; omega), R_T0 hs t10, ar_T0 h hs t10 c, wI_R h hs t10, bnd_go, ob_T h hs t10, ob_T h hs t10, I_T h hs t10, u2_row _ _ nr, a.t7 h2, hT, nI_1, wI_T h hs t10, bnd_go, cl_go, bnd_go, nI_1]
      obtain ⟨i', e, F, R⟩ := ih (k + 1) f _ _ a2 W.1 (by rw [W.2.1]; exact h1) (by rw [W.2.1]; exact h2) (by rw [cN_ne (by omega), cN_ne (by omega)]; omega) (by omega)
      refine ⟨i', e, fun q hq => (F q hq).trans ?_, R⟩
      rw [u2_row _ _ (by omega), u2_row _ _ (by omega)]
    · rw [if_neg c, if_pos (show (4 : Int32) ≤ nI (cN N (40 + 14 * t + 4)) from (nI_leI (a := 4) (by decide) (by omega)).mpr (by omega)), cl_go, bnd_go, nI_1]
      exact ih (k + 1) f i N a w h1 h2 (by omega) (by omega)
def fitP (N : Nat → Int32) (r : Nat → UInt64) (s t : Nat) : Prop := N (40 + 14 * s + 6) = 0 ∧ N (40 + 14 * t + 6) = 0 ∧ N (40 + 14 * s + 0) = N (40 + 14 * t + 0) ∧ ¬ 0 < (Op.cmpValue (FP.dcmp (r (7 + t)) (r (7 + s))) CmpOp.g) ∧ (N (40 + 14 * t + 2) &&& (N (40 + 14 * s + 2) ^^^ (-1))) = 0 ∧ ¬ 12 < N (40 + 14 * s + 3) + N (40 + 14 * t + 3)
theorem y_fits (h : Nd E) {p : Nat} (hs : St E p) (a : Rep i j d p N r) (w : WQ N r) {s t : Nat} (h1 : s < cN N 3) (h2 : t < cN N 3) : ∃ v, f_X4_fitsInto (mk E i j d) (zA E (p + 12 + 2 * s)) (some (zA E (p + 12 + 2 * t))) = some (v, mk E i j d) ∧ (v = 0 ∨ v = 1) ∧ (v = 0 ↔ ¬ fitP N r s t) := by
  have s10 := w.t10 h1
  have t10 := w.t10 h2
  unfold f_X4_fitsInto fitP
  rw [ob_T h hs s10, I_T h hs s10, a.t9 h1, ob_T h hs t10, I_T h hs t10, a.t9 h2, I_T h hs s10, a.t1 h1, I_T h hs t10, a.t1 h2, D_T h hs t10, a.t2 h2, D_T h hs s10, a.t2 h1, I_T h hs t10, a.t5 h2, I_T h hs s10, a.t5 h1, I_T h hs s10, a.t6 h1, I_T h hs t10, a.t6 h2]
  repeat' split
  all_goals refine ⟨_, rfl, ?_, ?_⟩
  all_goals first | exact Or.inl rfl | exact Or.inr rfl | simp_all
theorem sPaid_cg {M : Nat → Int32} (e : ∀ u, u < 10 → M (40 + 14 * u + 5) = N (40 + 14 * u + 5)) : ∀ n, n ≤ 10 → sPaid M n = sPaid N n
  | 0, _ => rfl
  | n + 1, h => by
    show sPaid M n + cN M (40 + 14 * n + 5) = sPaid N n + cN N (40 + 14 * n + 5)
    rw [sPaid_cg e n (by omega), cN_of (e n (by omega))]
theorem CI.cg {M : Nat → Int32} (c : CI N) (e : ∀ u, u < 10 → M (40 + 14 * u + 5) = N (40 + 14 * u + 5)) : CI M := fun u hu => by
  rw [cN_of (e u hu), e u hu]; exact c u hu
theorem WQ.mvF (w : WQ N r) {s : Nat} (s10 : s < 10) : WQ (mvF s N) r := by
  have w1 : WQ (upd N (40 + 14 * s + 3) 0) r := w.g3 (n := 0) s10 (by omega)
  have w2 : WQ (upd (upd N (40 + 14 * s + 3) 0) (40 + 14 * s + 4) 0) r := w1.m4 (n := 0) s10 (by omega) (fun _ k hk => absurd hk (Nat.not_lt_zero _))
  exact (w2.free (z := 40 + 14 * s + 5) (by unfold Ess; omega) 0).free (by unfold Ess; omega) 3
theorem WF.merge (w : WF B N r) (hB : B ≤ 67108864) {s t q : Nat} (hst : s ≠ t) (h1 : s < cN N 3) (h2 : t < cN N 3) (hG : cN N (40 + 14 * s + 3) + cN N (40 + 14 * t + 3) ≤ 12) (hq : q ≤ cN N (40 + 14 * s + 5)) : WF B (mvF s (mv s t (cN N (40 + 14 * s + 4)) 0 (upd (upd (upd (upd N (40 + 14 * s + 5) (nI (cN N (40 + 14 * s + 5) - q))) 4 (N 4 + nI q)) (40 + 14 * t + 3) (nI (cN N (40 + 14 * t + 3) + cN N (40 + 14 * s + 3)))) (40 + 14 * t + 5) (nI (cN N (40 + 14 * t + 5) + (cN N (40 + 14 * s + 5) - q)))))) r ∧ WQ (upd (upd N (40 + 14 * s + 5) (nI (cN N (40 + 14 * s + 5) - q))) 4 (N 4 + nI q)) r ∧ WQ (upd (upd (upd (upd N (40 + 14 * s + 5) (nI (cN N (40 + 14 * s + 5) - q))) 4 (N 4 + nI q)) (40 + 14 * t + 3) (nI (cN N (40 + 14 * t + 3) + cN N (40 + 14 * s + 3)))) (40 + 14 * t + 5) (nI (cN N (40 + 14 * t + 5) + (cN N (40 + 14 * s + 5) - q)))) r ∧ cN (upd (upd (upd (upd N (40 + 14 * s + 5) (nI (cN N (40 + 14 * s + 5) - q))) 4 (N 4 + nI q)) (40 + 14 * t + 3) (nI (cN N (40 + 14 * t + 3) + cN N (40 + 14 * s + 3)))) (40 + 14 * t + 5) (nI (cN N (40 + 14 * t + 5) + (cN N (40 + 14 * s + 5) - q)))) 3 = cN N 3 ∧ cN (upd (upd (upd (upd N (40 + 14 * s + 5) (nI (cN N (40 + 14 * s + 5) - q))) 4 (N 4 + nI q)) (40 + 14 * t + 3) (nI (cN N (40 + 14 * t + 3) + cN N (40 + 14 * s + 3)))) (40 + 14 * t + 5) (nI (cN N (40 + 14 * t + 5) + (cN N (40 + 14 * s + 5) - q)))) (40 + 14 * s + 4) = cN N (40 + 14 * s + 4) := by
  have s10 := w.t10 h1
  have t10 := w.t10 h2
  have Ps := w.2.one s10
  have Pt := w.2.one t10
  have w1 : WQ (upd (upd N (40 + 14 * s + 5) (nI (cN N (40 + 14 * s + 5) - q))) 4 (N 4 + nI q)) r := (w.q.free (z := 40 + 14 * s + 5) (by unfold Ess; omega) _).free (by unfold Ess; omega) _
  have w2 := w1.g3 (n := cN N (40 + 14 * t + 3) + cN N (40 + 14 * s + 3)) t10 (by omega)
  have w3 : WQ (upd (upd (upd (upd N (40 + 14 * s + 5) (nI (cN N (40 + 14 * s + 5) - q))) 4 (N 4 + nI q)) (40 + 14 * t + 3) (nI (cN N (40 + 14 * t + 3) + cN N (40 + 14 * s + 3)))) (40 + 14 * t + 5) (nI (cN N (40 + 14 * t + 5) + (cN N (40 + 14 * s + 5) - q)))) r := w2.free (by unfold Ess; omega) _
  have c3 : cN (upd (upd (upd (upd N (40 + 14 * s + 5) (nI (cN N (40 + 14 * s + 5) - q))) 4 (N 4 + nI q)) (40 + 14 * t + 3) (nI (cN N (40 + 14 * t + 3) + cN N (40 + 14 * s + 3)))) (40 + 14 * t + 5) (nI (cN N (40 + 14 * t + 5) + (cN N (40 + 14 * s + 5) - q)))) 3 = cN N 3 := by rw [cN_ne (by omega), cN_ne (by omega), cN_ne (by omega), cN_ne (by omega)]
  have c4 : cN (upd (upd (upd (upd N (40 + 14 * s + 5) (nI (cN N (40 + 14 * s + 5) - q))) 4 (N 4 + nI q)) (40 + 14 * t + 3) (nI (cN N (40 + 14 * t + 3) + cN N (40 + 14 * s + 3)))) (40 + 14 * t + 5) (nI (cN N (40 + 14 * t + 5) + (cN N (40 + 14 * s + 5) - q)))) (40 + 14 * s + 4) = cN N (40 + 14 * s + 4) := by rw [cN_ne (by omega), cN_ne (by omega), cN_ne (by omega), cN_ne (by omega)]
  obtain ⟨m1, m2, m3⟩ := mv_ok hst s10 t10 (cN N (40 + 14 * s + 4)) 0 (upd (upd (upd (upd N (40 + 14 * s + 5) (nI (cN N (40 + 14 * s + 5) - q))) 4 (N 4 + nI q)) (40 + 14 * t + 3) (nI (cN N (40 + 14 * t + 3) + cN N (40 + 14 * s + 3)))) (40 + 14 * t + 5) (nI (cN N (40 + 14 * t + 5) + (cN N (40 + 14 * s + 5) - q)))) w3 (by rw [c3]; exact h1) (by rw [c3]; exact h2) (by rw [c4]; omega)
  have p1 : CI (upd (upd (upd (upd N (40 + 14 * s + 5) (nI (cN N (40 + 14 * s + 5) - q))) 4 (N 4 + nI q)) (40 + 14 * t + 3) (nI (cN N (40 + 14 * t + 3) + cN N (40 + 14 * s + 3)))) (40 + 14 * t + 5) (nI (cN N (40 + 14 * t + 5) + (cN N (40 + 14 * s + 5) - q)))) := (((w.2.ci.paid (t := s) (m := cN N (40 + 14 * s + 5) - q) (by omega)).free (fun u hu => by omega)).free (fun u hu => by omega)).paid (by omega)
  have pm : ∀ u, u < 10 → (mv s t (cN N (40 + 14 * s + 4)) 0 (upd (upd (upd (upd N (40 + 14 * s + 5) (nI (cN N (40 + 14 * s + 5) - q))) 4 (N 4 + nI q)) (40 + 14 * t + 3) (nI (cN N (40 + 14 * t + 3) + cN N (40 + 14 * s + 3)))) (40 + 14 * t + 5) (nI (cN N (40 + 14 * t + 5) + (cN N (40 + 14 * s + 5) - q))))) (40 + 14 * u + 5) = (upd (upd (upd (upd N (40 + 14 * s + 5) (nI (cN N (40 + 14 * s + 5) - q))) 4 (N 4 + nI q)) (40 + 14 * t + 3) (nI (cN N (40 + 14 * t + 3) + cN N (40 + 14 * s + 3)))) (40 + 14 * t + 5) (nI (cN N (40 + 14 * t + 5) + (cN N (40 + 14 * s + 5) - q)))) (40 + 14 * u + 5) := fun u hu => m3 _ (by omega)
  have p2 := p1.cg pm
  have s1 := sPaid_up (N := N) (t := s) (m := cN N (40 + 14 * s + 5) - q) (by omega) 10
  have s2 := sPaid_ne (N := upd N (40 + 14 * s + 5) (nI (cN N (40 + 14 * s + 5) - q))) (z := 4) (v := N 4 + nI q) (fun u hu => by omega) 10 (by omega)
  have s3 := sPaid_ne (N := (upd (upd N (40 + 14 * s + 5) (nI (cN N (40 + 14 * s + 5) - q))) 4 (N 4 + nI q))) (z := 40 + 14 * t + 3) (v := nI (cN N (40 + 14 * t + 3) + cN N (40 + 14 * s + 3))) (fun u hu => by omega) 10 (by omega)
  have s4 := sPaid_up (N := upd (upd (upd N (40 + 14 * s + 5) (nI (cN N (40 + 14 * s + 5) - q))) 4 (N 4 + nI q)) (40 + 14 * t + 3) (nI (cN N (40 + 14 * t + 3) + cN N (40 + 14 * s + 3)))) (t := t) (m := cN N (40 + 14 * t + 5) + (cN N (40 + 14 * s + 5) - q)) (by omega) 10
  have s4' : cN (upd (upd (upd N (40 + 14 * s + 5) (nI (cN N (40 + 14 * s + 5) - q))) 4 (N 4 + nI q)) (40 + 14 * t + 3) (nI (cN N (40 + 14 * t + 3) + cN N (40 + 14 * s + 3)))) (40 + 14 * t + 5) = cN N (40 + 14 * t + 5) := by rw [cN_ne (by omega), cN_ne (by omega), cN_ne (by omega)]
  rw [s4'] at s4
  have s5 := sPaid_cg pm 10 (by omega)
  have cs : cN (mv s t (cN N (40 + 14 * s + 4)) 0 (upd (upd (upd (upd N (40 + 14 * s + 5) (nI (cN N (40 + 14 * s + 5) - q))) 4 (N 4 + nI q)) (40 + 14 * t + 3) (nI (cN N (40 + 14 * t + 3) + cN N (40 + 14 * s + 3)))) (40 + 14 * t + 5) (nI (cN N (40 + 14 * t + 5) + (cN N (40 + 14 * s + 5) - q))))) (40 + 14 * s + 5) = cN N (40 + 14 * s + 5) - q := by
    rw [cN_of (pm s s10), cN_ne (by omega), cN_ne (by omega), cN_ne (by omega)]
    exact cN_eq rfl (by omega)
  obtain ⟨M, hM⟩ : ∃ M, M = mv s t (cN N (40 + 14 * s + 4)) 0 (upd (upd (upd (upd N (40 + 14 * s + 5) (nI (cN N (40 + 14 * s + 5) - q))) 4 (N 4 + nI q)) (40 + 14 * t + 3) (nI (cN N (40 + 14 * t + 3) + cN N (40 + 14 * s + 3)))) (40 + 14 * t + 5) (nI (cN N (40 + 14 * t + 5) + (cN N (40 + 14 * s + 5) - q)))) := ⟨_, rfl⟩
  rw [← hM] at cs s5 p2 m1
  have t1 := sPaid_ne (N := M) (z := 40 + 14 * s + 3) (v := 0) (fun u hu => by omega) 10 (by omega)
  have t2 := sPaid_ne (N := upd M (40 + 14 * s + 3) 0) (z := 40 + 14 * s + 4) (v := 0) (fun u hu => by omega) 10 (by omega)
  have t3 := sPaid_up (N := upd (upd M (40 + 14 * s + 3) 0) (40 + 14 * s + 4) 0) (t := s) (m := 0) (by omega) 10
  have t3' : cN (upd (upd M (40 + 14 * s + 3) 0) (40 + 14 * s + 4) 0) (40 + 14 * s + 5) = cN N (40 + 14 * s + 5) - q := by rw [cN_ne (by omega), cN_ne (by omega), cs]
  rw [t3'] at t3
  have t4 := sPaid_ne (N := upd (upd (upd M (40 + 14 * s + 3) 0) (40 + 14 * s + 4) 0) (40 + 14 * s + 5) (nI 0)) (z := 40 + 14 * s + 6) (v := 3) (fun u hu => by omega) 10 (by omega)
  rw [if_pos s10, if_pos s10] at s1 t3
  rw [if_pos t10, if_pos t10] at s4
  have hs0 := w.2.2
  rw [← hM]
  refine ⟨⟨m1.mvF s10, CI.pb (((((p2.free (fun u hu => by omega)).free (fun u hu => by omega)).paid (t := s) (m := 0) (by omega)).free (fun u hu => by omega))) ?_⟩, w1, w3, c3, c4⟩
  show sPaid (upd (upd (upd (upd M (40 + 14 * s + 3) 0) (40 + 14 * s + 4) 0) (40 + 14 * s + 5) (nI 0)) (40 + 14 * s + 6) 3) 10 ≤ B
  omega
theorem y_pay (h : Nd E) {p : Nat} (hs : St E p) (a : Rep i j d p N r) {t : Nat} (w : WF B N r) (ht : t < cN N 3) {q : Nat} (hq : q ≤ cN N (40 + 14 * t + 5)) : f_X2_payBack (mk E i j d) (zA E p) (some (zA E (p + 12 + 2 * t))) (nI q) = some ((), mk E (u2 (u2 i (p + 12 + 2 * t) 8 (nI (cN N (40 + 14 * t + 5) - q))) p 9 (N 4 + nI q)) j d) := by
  have h10 := w.t10 ht
  have ne : p ≠ p + 12 + 2 * t := by omega
  unfold f_X2_payBack
  rw [ob_T h hs h10, ob_T h hs h10, I_T h hs h10, a.t8 ht, (w.2.one h10).1, pk_sub hq, wI_T h hs h10, bnd_go, ob_S h hs, ob_S h hs, I_S h hs, u2_row _ _ ne, a.f9, wI_S h hs, bnd_go]
theorem y_mergeK (h : Nd E) {p : Nat} (hs : St E p) (a : Rep i j d p N r) (w : WF B N r) (hB : B ≤ 67108864) {s t q : Nat} (hst : s ≠ t) (h1 : s < cN N 3) (h2 : t < cN N 3) (hG : cN N (40 + 14 * s + 3) + cN N (40 + 14 * t + 3) ≤ 12) (hq : q ≤ cN N (40 + 14 * s + 5)) : ∃ i', f_X4_moveInto (mk E (u2 (u2 i (p + 12 + 2 * s) 8 (nI (cN N (40 + 14 * s + 5) - q))) p 9 (N 4 + nI q)) j d) (zA E (p + 12 + 2 * s)) (some (zA E (p + 12 + 2 * t))) = some ((), mk E i' j d) ∧ (∀ q, q < p ∨ p + 31 < q → i' q = i q) ∧ Rep i' j d p (mvF s (mv s t (cN N (40 + 14 * s + 4)) 0 (upd (upd (upd (upd N (40 + 14 * s + 5) (nI (cN N (40 + 14 * s + 5) - q))) 4 (N 4 + nI q)) (40 + 14 * t + 3) (nI (cN N (40 + 14 * t + 3) + cN N (40 + 14 * s + 3)))) (40 + 14 * t + 5) (nI (cN N (40 + 14 * t + 5) + (cN N (40 + 14 * s + 5) - q)))))) r := by
  have s10 := w.t10 h1
  have t10 := w.t10 h2
  obtain ⟨wf, w1, w3, c3, c4⟩ := w.merge hB hst h1 h2 hG hq
  have wa := w.q.free (z := 40 + 14 * s + 5) (by unfold Ess; omega) (nI (cN N (40 + 14 * s + 5) - q))
  have R1 := (a.w8 w.q s10 (nI (cN N (40 + 14 * s + 5) - q))).s9 wa (N 4 + nI q)
  have d3 : cN (upd (upd N (40 + 14 * s + 5) (nI (cN N (40 + 14 * s + 5) - q))) 4 (N 4 + nI q)) 3 = cN N 3 := by rw [cN_ne (by omega), cN_ne (by omega)]
  have h1' : s < cN (upd (upd N (40 + 14 * s + 5) (nI (cN N (40 + 14 * s + 5) - q))) 4 (N 4 + nI q)) 3 := by rw [d3]; exact h1
  have h2' : t < cN (upd (upd N (40 + 14 * s + 5) (nI (cN N (40 + 14 * s + 5) - q))) 4 (N 4 + nI q)) 3 := by rw [d3]; exact h2
  have w2 := w1.g3 (n := cN N (40 + 14 * t + 3) + cN N (40 + 14 * s + 3)) t10 (by omega)
  unfold f_X4_moveInto
  have nst : p + 12 + 2 * s ≠ p + 12 + 2 * t := by omega
  rw [ob_T h hs t10, ob_T h hs s10, ob_T h hs t10, I_T h hs t10, R1.t6 h2', I_T h hs s10, R1.t6 h1', up_ne (by omega), up_ne (by omega), up_ne (by omega), up_ne (by omega), (w.guests h2).1, (w.guests h1).1, nI_add, wI_T h hs t10, bnd_go, ob_T h hs t10, ob_T h hs s10, ob_T h hs t10, I_T h hs t10, u2_nek _ _ (by decide : (8 : Nat) ≠ 6), R1.t8 h2', I_T h hs s10, u2_row _ _ nst, R1.t8 h1', up_ne (by omega), up_ne (by omega), up_ne (by omega), up_eq, (w.2.one t10).1, nI_add, wI_T h hs t10, bnd_go]
  have R3 := (R1.w6 w1 t10 (nI (cN N (40 + 14 * t + 3) + cN N (40 + 14 * s + 3)))).w8 w2 t10 (nI (cN N (40 + 14 * t + 5) + (cN N (40 + 14 * s + 5) - q)))
  obtain ⟨i', e, F, R⟩ := y_mv_L h hs hst (cN N (40 + 14 * s + 4)) 0 1000 _ _ R3 w3 (by rw [c3]; exact h1) (by rw [c3]; exact h2) (by rw [c4]; omega) (by have := (w.many h1).2; omega)
  refine ⟨i', e, fun x hx => (F x hx).trans ?_, R⟩
  rw [u2_row _ _ (by omega), u2_row _ _ (by omega), u2_row _ _ (by omega), u2_row _ _ (by omega)]
end ACTS6
