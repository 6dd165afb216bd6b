/-! the acts, one by one: release -/
section ACTS5
variable {E : Hp} {i : Nat → Nat → Int32} {j : Nat → Nat → Int64} {d : Nat → Nat → UInt64} {N : Nat → Int32} {r : Nat → UInt64} {B : Nat} {H : List Rw} {s : Option Rw}
def tk (t : Nat) (g : Int32) : Nat → Nat → Nat → (Nat → Int32) → (Nat → Int32) × Nat
  | 0, _, n, N => (N, n)
  | m + 1, k, n, N => if N (48 + 14 * t + k) = g then tk t g m (k + 1) n N else tk t g m (k + 1) (n + 1) (upd N (48 + 14 * t + n) (N (48 + 14 * t + k)))
def tkF (t : Nat) (q : (Nat → Int32) × Nat) : Nat → Int32 := upd q.1 (40 + 14 * t + 4) (nI q.2)
theorem y_take_L (h : Nd E) {p : Nat} (hs : St E p) {t : Nat} (g : Int32) : ∀ m k n fuel i N, Rep i j d p N r → WQ N r → t < cN N 3 → k + m = cN N (40 + 14 * t + 4) → n ≤ k → m < fuel → ∃ i', f_X4_takeFromRow_L4 fuel (mk E i j d) (zA E (p + 12 + 2 * t)) g (nI n) (nI k) = some ((), mk E i' j d) ∧ (∀ q, q < p ∨ p + 31 < q → i' q = i q) ∧ Rep i' j d p (tkF t (tk t g m k n N)) r ∧ WQ (tkF t (tk t g m k n N)) r ∧ (∀ B, PB B N → PB B (tkF t (tk t g m k n N))) ∧ cN (tkF t (tk t g m k n N)) 3 = cN N 3 ∧ cN (tkF t (tk t g m k n N)) (40 + 14 * t + 4) = (tk t g m k n N).2 := by
  intro m
  induction m with
  | zero =>
    intro k n fuel i N a w ht hk hn hf
    obtain ⟨f, rfl⟩ : ∃ f, fuel = f + 1 := ⟨fuel - 1, by omega⟩
    show ∃ i', f_X4_takeFromRow_L4_b (f_X4_takeFromRow_L4 f) _ _ _ _ _ = _ ∧ _
    unfold f_X4_takeFromRow_L4_b
    have h10 := w.t10 ht
    obtain ⟨hM, hM4⟩ := w.many ht
    rw [ob_T h hs h10, I_T h hs h10, a.t7 ht, hM, if_pos (nI_le (by omega) (by omega)), ob_T h hs h10, wI_T h hs h10, bnd_go]
    refine ⟨_, rfl, fun q hq => u2_row _ _ (by omega), ?_, ?_, fun B b => b.free (fun q hq => by omega), cN_ne (by omega), cN_eq rfl (by show n < _; omega)⟩
    · exact a.w7 w h10 (n := n) (by omega) _ rfl (fun h3 x hx => a.tr h3 (by omega))
    · exact w.m4 h10 (by show n ≤ 4; omega) (fun h3 x hx => (w.to h3).2.2.2 x (by have : x < n := hx; omega))
  | succ m ih =>
    intro k n fuel i N a w ht hk hn hf
    obtain ⟨f, rfl⟩ : ∃ f, fuel = f + 1 := ⟨fuel - 1, by omega⟩
    show ∃ i', f_X4_takeFromRow_L4_b (f_X4_takeFromRow_L4 f) _ _ _ _ _ = _ ∧ _
    unfold f_X4_takeFromRow_L4_b
    have h10 := w.t10 ht
    obtain ⟨hM, hM4⟩ := w.many ht
    obtain ⟨hr, hr1, hr8⟩ := w.rowk ht (k := k) (by omega)
    rw [ob_T h hs h10, I_T h hs h10, a.t7 ht, hM, if_neg (nI_ge (by omega) (by omega)), R_T0 hs h10, ar_T0 h hs h10 (by omega), I_R h hs h10, a.tr ht (by omega)]
    show ∃ i', _ ∧ _ ∧ Rep i' j d p (tkF t (if N (48 + 14 * t + k) = g then tk t g m (k + 1) n N else tk t g m (k + 1) (n + 1) (upd N (48 + 14 * t + n) (N (48 + 14 * t + k))))) r ∧ WQ (tkF t (if N (48 + 14 * t + k) = g then tk t g m (k + 1) n N else tk t g m (k + 1) (n + 1) (upd N (48 + 14 * t + n) (N (48 + 14 * t + k))))) r ∧ (∀ B, PB B N → PB B (tkF t (if N (48 + 14 * t + k) = g then tk t g m (k + 1) n N else tk t g m (k + 1) (n + 1) (upd N (48 + 14 * t + n) (N (48 + 14 * t + k)))))) ∧ cN (tkF t (if N (48 + 14 * t + k) = g then tk t g m (k + 1) n N else tk t g m (k + 1) (n + 1) (upd N (48 + 14 * t + n) (N (48 + 14 * t + k))))) 3 = cN N 3 ∧ cN (tkF t (if N (48 + 14 * t + k) = g then tk t g m (k + 1) n N else tk t g m (k + 1) (n + 1) (upd N (48 + 14 * t + n) (N (48 + 14 * t + k))))) (40 + 14 * t + 4) = (if N (48 + 14 * t + k) = g then tk t g m (k + 1) n N else tk t g m (k + 1) (n + 1) (upd N (48 + 14 * t + n) (N (48 + 14 * t + k)))).2
    by_cases c : N (48 + 14 * t + k) = g
    · rw [if_pos c, if_pos c, bnd_go, nI_1]
      exact ih (k + 1) n f i N a w ht (by omega) (by omega) (by omega)
    · rw [if_neg c, if_neg c, ar_T0 h hs h10 (by omega), ar_T0 h hs h10 (by omega), I_R h hs h10, a.tr ht (by omega), wI_R h hs h10, bnd_go, bnd_go, bnd_go, nI_1, nI_1]
      have a' := a.wr w h10 (k := n) (by omega) (N (48 + 14 * t + k))
      have w' : WQ (upd N (48 + 14 * t + n) (N (48 + 14 * t + k))) r := by rw [hr]; exact w.row h10 (by omega) hr1
      obtain ⟨i', e, F, R, W, P, Z1, Z2⟩ := ih (k + 1) (n + 1) f _ _ a' w' (by rw [cN_ne (by omega)]; exact ht) (by rw [cN_ne (by omega)]; omega) (by omega) (by omega)
      refine ⟨i', e, fun q hq => (F q hq).trans (u2_row _ _ (by omega)), R, W, fun B b => P B (b.free (fun q hq => by omega)), Z1.trans (cN_ne (by omega)), Z2⟩
end ACTS5
