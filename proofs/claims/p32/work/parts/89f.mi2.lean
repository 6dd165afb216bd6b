/-! release and merge keep it -/
def cntF (p : Nat → Bool) : Nat → Nat → Nat
  | 0, _ => 0
  | m + 1, k => (if p k = true then 1 else 0) + cntF p m (k + 1)
theorem cnt_0 {p : Nat → Bool} : ∀ m k, (∀ x, k ≤ x → x < k + m → p x = false) → cntF p m k = 0
  | 0, _, _ => rfl
  | m + 1, k, h => by
    show (if p k = true then 1 else 0) + cntF p m (k + 1) = 0
    rw [h k (Nat.le_refl _) (by omega), cnt_0 m (k + 1) (fun x h1 h2 => h x (by omega) (by omega))]; rfl
theorem cnt_1 {p : Nat → Bool} : ∀ m k y, k ≤ y → y < k + m → p y = true → (∀ x, k ≤ x → x < k + m → p x = true → x = y) → cntF p m k = 1
  | 0, k, y, h1, h2, _, _ => absurd h2 (by omega)
  | m + 1, k, y, h1, h2, h3, h4 => by
    show (if p k = true then 1 else 0) + cntF p m (k + 1) = 1
    by_cases e : k = y
    · subst e
      rw [if_pos h3, cnt_0 m (k + 1) (fun x q1 q2 => by
        cases c : p x with
        | false => rfl
        | true => exact absurd (h4 x (by omega) (by omega) c) (by omega))]
    · rw [if_neg (fun c => e (h4 k (Nat.le_refl _) (by omega) c)), cnt_1 m (k + 1) y (by omega) (by omega) h3 (fun x q1 q2 c => h4 x (by omega) (by omega) c)]
section MI2
variable {N N' : Nat → Int32} {r : Nat → UInt64} {B : Nat}
theorem tk_ok {t : Nat} {g : Int32} : ∀ m k n N, n ≤ k → (∀ z, z < 48 + 14 * t + n ∨ 48 + 14 * t + k + m ≤ z → (tk t g m k n N).1 z = N z) ∧ n ≤ (tk t g m k n N).2 ∧ (tk t g m k n N).2 ≤ n + m ∧ (∃ f : Nat → Nat, (∀ p, n ≤ p → p < (tk t g m k n N).2 → k ≤ f p ∧ f p < k + m ∧ (tk t g m k n N).1 (48 + 14 * t + p) = N (48 + 14 * t + f p)) ∧ ∀ p p', n ≤ p → p < p' → p' < (tk t g m k n N).2 → f p < f p') ∧ (tk t g m k n N).2 + cntF (fun x => decide (N (48 + 14 * t + x) = g)) m k = n + m
  | 0, k, n, N, h => ⟨fun _ _ => rfl, Nat.le_refl _, Nat.le_refl _, ⟨id, fun p h1 h2 => absurd (show p < n from h2) (by omega), fun p p' h1 h2 h3 => absurd (show p' < n from h3) (by omega)⟩, rfl⟩
  | m + 1, k, n, N, h => by
    have e0 : tk t g (m + 1) k n N = if N (48 + 14 * t + k) = g then tk t g m (k + 1) n N else tk t g m (k + 1) (n + 1) (upd N (48 + 14 * t + n) (N (48 + 14 * t + k))) := rfl
    have ec : cntF (fun x => decide (N (48 + 14 * t + x) = g)) (m + 1) k = (if decide (N (48 + 14 * t + k) = g) = true then 1 else 0) + cntF (fun x => decide (N (48 + 14 * t + x) = g)) m (k + 1) := rfl
    rw [e0, ec]
    by_cases c : N (48 + 14 * t + k) = g
    · obtain ⟨a1, a2, a3, ⟨f, f1, f2⟩, a5⟩ := tk_ok (t := t) (g := g) m (k + 1) n N (by omega)
      rw [if_pos c, if_pos (decide_eq_true c)]
      refine ⟨fun z hz => a1 z (by omega), a2, by omega, ⟨f, fun p h1 h2 => ?_, f2⟩, by omega⟩
      obtain ⟨b1, b2, b3⟩ := f1 p h1 h2
      exact ⟨by omega, by omega, b3⟩
    · obtain ⟨a1, a2, a3, ⟨f, f1, f2⟩, a5⟩ := tk_ok (t := t) (g := g) m (k + 1) (n + 1) (upd N (48 + 14 * t + n) (N (48 + 14 * t + k))) (by omega)
      rw [if_neg c, if_neg (fun e => c (of_decide_eq_true e))]
      have ex : ∀ x, k + 1 ≤ x → (upd N (48 + 14 * t + n) (N (48 + 14 * t + k))) (48 + 14 * t + x) = N (48 + 14 * t + x) := fun x hx => up_ne (by omega)
      obtain ⟨F, F1, F2⟩ : ∃ F : Nat → Nat, F n = k ∧ ∀ p, p ≠ n → F p = f p := ⟨fun p => if p = n then k else f p, if_pos rfl, fun p h => if_neg h⟩
      refine ⟨fun z hz => ?_, by omega, by omega, ⟨F, fun p h1 h2 => ?_, fun p p' h1 h2 h3 => ?_⟩, ?_⟩
      · rw [a1 z (by omega), up_ne (by omega)]
      · by_cases e : p = n
        · rw [e, F1]
          refine ⟨Nat.le_refl _, by omega, ?_⟩
          rw [a1 _ (by omega), up_eq]
        · rw [F2 p e]
          obtain ⟨b1, b2, b3⟩ := f1 p (by omega) h2
          rw [ex _ b1] at b3
          exact ⟨by omega, by omega, b3⟩
      · rw [F2 p' (by omega)]
        by_cases e : p = n
        · rw [e, F1]
          have := (f1 p' (by omega) h3).1
          omega
        · rw [F2 p e]
          exact f2 p p' (by omega) h2 h3
      · have e1 : cntF (fun x => decide ((upd N (48 + 14 * t + n) (N (48 + 14 * t + k))) (48 + 14 * t + x) = g)) m (k + 1) = cntF (fun x => decide (N (48 + 14 * t + x) = g)) m (k + 1) := by
          have go : ∀ m y, k + 1 ≤ y → cntF (fun x => decide ((upd N (48 + 14 * t + n) (N (48 + 14 * t + k))) (48 + 14 * t + x) = g)) m y = cntF (fun x => decide (N (48 + 14 * t + x) = g)) m y := by
            intro m
            induction m with
            | zero => intro y _; rfl
            | succ m ih =>
              intro y hy
              show (if decide ((upd N (48 + 14 * t + n) (N (48 + 14 * t + k))) (48 + 14 * t + y) = g) = true then 1 else 0) + _ = (if decide (N (48 + 14 * t + y) = g) = true then 1 else 0) + _
              rw [ex y hy, ih (y + 1) (by omega)]
          exact go m (k + 1) (Nat.le_refl _)
        rw [e1] at a5
        omega
theorem rl_ok (w : WQ N r) {t g : Nat} (ht : t < cN N 3) : (∀ z, z ≠ 40 + 14 * t + 4 → z < 48 + 14 * t ∨ 52 + 14 * t ≤ z → rlN N t g z = N z) ∧ cN (rlN N t g) (40 + 14 * t + 4) = rlM N t g ∧ rlM N t g ≤ cN N (40 + 14 * t + 4) ∧ (∃ f : Nat → Nat, (∀ p, p < rlM N t g → f p < cN N (40 + 14 * t + 4) ∧ rlN N t g (48 + 14 * t + p) = N (48 + 14 * t + f p)) ∧ ∀ p p', p < p' → p' < rlM N t g → f p < f p') ∧ rlM N t g + cntF (fun x => decide (N (48 + 14 * t + x) = nI g)) (cN N (40 + 14 * t + 4)) 0 = cN N (40 + 14 * t + 4) := by
  have hM := (w.many ht).2
  obtain ⟨a1, a2, a3, ⟨f, f1, f2⟩, a5⟩ := tk_ok (t := t) (g := nI g) (cN N (40 + 14 * t + 4)) 0 0 N (Nat.le_refl _)
  have hle : rlM N t g ≤ cN N (40 + 14 * t + 4) := by
    have : rlM N t g ≤ 0 + cN N (40 + 14 * t + 4) := a3
    omega
  refine ⟨fun z h1 h2 => ?_, ?_, hle, ⟨f, fun p hp => ?_, fun p p' h1 h2 => f2 p p' (Nat.zero_le _) h1 h2⟩, ?_⟩
  · unfold rlN tkF
    rw [up_ne h1, a1 z (by omega)]
  · unfold rlN tkF
    exact cN_eq rfl (by have : (tk t (nI g) (cN N (40 + 14 * t + 4)) 0 0 N).2 ≤ cN N (40 + 14 * t + 4) := hle; omega)
  · obtain ⟨b1, b2, b3⟩ := f1 p (Nat.zero_le _) hp
    refine ⟨by omega, ?_⟩
    unfold rlN tkF
    rw [up_ne (by omega)]
    exact b3
  · have : rlM N t g + cntF (fun x => decide (N (48 + 14 * t + x) = nI g)) (cN N (40 + 14 * t + 4)) 0 = 0 + cN N (40 + 14 * t + 4) := a5
    omega
theorem rl_one (M : MT N) (w : WQ N r) {t g : Nat} (ht : t < cN N 3) (s0 : N (40 + 14 * t + 6) = 0) (hL : sLeads N t (nI g) = true) : rlM N t g + 1 = cN N (40 + 14 * t + 4) := by
  obtain ⟨-, -, -, -, e⟩ := rl_ok w ht (g := g)
  obtain ⟨y, h1, h2, h3⟩ := anyF_t hL
  rw [cnt_1 _ _ y h1 h2 h3 (fun x q1 q2 q3 => M.2.1 t ht s0 x (by omega) y (by omega) ((of_decide_eq_true q3).trans (of_decide_eq_true h3).symm))] at e
  exact e
theorem mt_release (M : MT N) (w : WQ N r) {t g : Nat} (ht : t < cN N 3) (s0 : N (40 + 14 * t + 6) = 0) : MT (rlN N t g) := by
  have h10 := w.t10 ht
  have hM := (w.many ht).2
  obtain ⟨ce, e4, hle, ⟨f, f1, f2⟩, -⟩ := rl_ok w ht (g := g)
  refine M.gen w (fun x => x = t) (ce _ (by omega) (by omega)) (ce _ (by omega) (by omega)) (ce _ (by omega) (by omega)) (fun g hg => ⟨ce _ (by omega) (by omega), ce _ (by omega) (by omega)⟩) (fun x hx hne y hy => ce _ (by omega) (by omega)) (fun x hx e => ?_)
  subst e
  have s0' : rlN N x g (40 + 14 * x + 6) = 0 := by rw [ce _ (by omega) (by omega)]; exact s0
  have d0 : rlN N x g (40 + 14 * x + 0) = N (40 + 14 * x + 0) := ce _ (by omega) (by omega)
  have e0 : rlN N x g 0 = N 0 := ce _ (by omega) (by omega)
  refine ⟨s0, TI.op s0' (by rw [d0, e0]; exact (M.1 x hx).2.2.2.1 s0), by rw [s0']; decide, fun _ => ⟨?_, ?_⟩⟩
  · intro k hk y hy e
    rw [e4] at hk hy
    obtain ⟨b1, b2⟩ := f1 k hk
    obtain ⟨c1, c2⟩ := f1 y hy
    rw [b2, c2] at e
    have := M.2.1 x hx s0 _ b1 _ c1 e
    rcases Nat.lt_trichotomy k y with q | q | q
    · have := f2 k y q hy; omega
    · exact q
    · have := f2 y k q hk; omega
  · intro y hy hne q1 q2' q3 k hk z hz
    have b : ∀ v, v < 14 → rlN N x g (40 + 14 * y + v) = N (40 + 14 * y + v) := fun v hv => ce _ (by omega) (by omega)
    rw [e4] at hk
    rw [cN_of (b 4 (by omega))] at hz
    have m4 := (w.many hy).2
    have bz := b (8 + z) (by omega)
    rw [show 40 + 14 * y + (8 + z) = 48 + 14 * y + z by omega] at bz
    rw [b 6 (by omega)] at q2'
    rw [b 0 (by omega), d0] at q3
    obtain ⟨b1, b2⟩ := f1 k hk
    rw [bz, b2]
    exact M.2.2.1 x hx y hy hne s0 q2' q3 _ b1 z hz
theorem mv_row {s t : Nat} (hst : s ≠ t) : ∀ m k N, k + m ≤ 4 → cN N (40 + 14 * t + 4) ≤ 4 → (∀ z, z ≠ 40 + 14 * t + 4 → z < 48 + 14 * t ∨ 52 + 14 * t ≤ z → mv s t m k N z = N z) ∧ cN N (40 + 14 * t + 4) ≤ cN (mv s t m k N) (40 + 14 * t + 4) ∧ cN (mv s t m k N) (40 + 14 * t + 4) ≤ 4 ∧ (∀ p, p < cN N (40 + 14 * t + 4) → mv s t m k N (48 + 14 * t + p) = N (48 + 14 * t + p)) ∧ ∃ f : Nat → Nat, (∀ p, cN N (40 + 14 * t + 4) ≤ p → p < cN (mv s t m k N) (40 + 14 * t + 4) → k ≤ f p ∧ f p < k + m ∧ mv s t m k N (48 + 14 * t + p) = N (48 + 14 * s + f p)) ∧ ∀ p p', cN N (40 + 14 * t + 4) ≤ p → p < p' → p' < cN (mv s t m k N) (40 + 14 * t + 4) → f p < f p'
  | 0, k, N, _, h4 => ⟨fun _ _ _ => rfl, Nat.le_refl _, h4, fun _ _ => rfl, id, fun p h1 h2 => absurd (show p < cN N (40 + 14 * t + 4) from h2) (by omega), fun p p' h1 h2 h3 => absurd (show p' < cN N (40 + 14 * t + 4) from h3) (by omega)⟩
  | m + 1, k, N, hk, h4 => by
    have e0 : mv s t (m + 1) k N = if cN N (40 + 14 * t + 4) < 4 then mv s t m (k + 1) (upd (upd N (48 + 14 * t + cN N (40 + 14 * t + 4)) (N (48 + 14 * s + k))) (40 + 14 * t + 4) (nI (cN N (40 + 14 * t + 4) + 1))) else mv s t m (k + 1) N := rfl
    rw [e0]
    by_cases c : cN N (40 + 14 * t + 4) < 4
    · rw [if_pos c]
      obtain ⟨N1, hN1⟩ : ∃ N1, N1 = upd (upd N (48 + 14 * t + cN N (40 + 14 * t + 4)) (N (48 + 14 * s + k))) (40 + 14 * t + 4) (nI (cN N (40 + 14 * t + 4) + 1)) := ⟨_, rfl⟩
      rw [← hN1]
      have c1 : cN N1 (40 + 14 * t + 4) = cN N (40 + 14 * t + 4) + 1 := by rw [hN1]; exact cN_eq rfl (by omega)
      have ne : ∀ z, z ≠ 40 + 14 * t + 4 → z ≠ 48 + 14 * t + cN N (40 + 14 * t + 4) → N1 z = N z := fun z h1 h2 => by rw [hN1, up_ne h1, up_ne h2]
      have en : N1 (48 + 14 * t + cN N (40 + 14 * t + 4)) = N (48 + 14 * s + k) := by rw [hN1, up_ne (by omega), up_eq]
      obtain ⟨a1, a2, a3, a4, f, f1, f2⟩ := mv_row hst m (k + 1) N1 (by omega) (by omega)
      rw [c1] at a2 a4 f1 f2
      obtain ⟨F, F1, F2⟩ : ∃ F : Nat → Nat, F (cN N (40 + 14 * t + 4)) = k ∧ ∀ p, p ≠ cN N (40 + 14 * t + 4) → F p = f p := ⟨fun p => if p = cN N (40 + 14 * t + 4) then k else f p, if_pos rfl, fun p h => if_neg h⟩
      refine ⟨fun z h1 h2 => (a1 z h1 h2).trans (ne z h1 (by omega)), by omega, a3, fun p hp => (a4 p (by omega)).trans (ne _ (by omega) (by omega)), F, fun p h1 h2 => ?_, fun p p' h1 h2 h3 => ?_⟩
      · by_cases e : p = cN N (40 + 14 * t + 4)
        · rw [e, F1]
          refine ⟨Nat.le_refl _, by omega, ?_⟩
          rw [a4 _ (by omega), en]
        · rw [F2 p e]
          obtain ⟨b1, b2, b3⟩ := f1 p (by omega) h2
          exact ⟨by omega, by omega, b3.trans (ne _ (by omega) (by omega))⟩
      · rw [F2 p' (by omega)]
        by_cases e : p = cN N (40 + 14 * t + 4)
        · rw [e, F1]
          have := (f1 p' (by omega) h3).1
          omega
        · rw [F2 p e]
          exact f2 p p' (by omega) h2 h3
    · rw [if_neg c]
      obtain ⟨a1, a2, a3, a4, f, f1, f2⟩ := mv_row hst m (k + 1) N (by omega) h4
      refine ⟨a1, a2, a3, a4, f, fun p h1 h2 => ?_, f2⟩
      obtain ⟨b1, b2, b3⟩ := f1 p h1 h2
      exact ⟨by omega, by omega, b3⟩
/-- the cells behind a merge -/
theorem mg_ok (w : WQ N r) {s t : Nat} (hs : s < cN N 3) (ht : t < cN N 3) (hst : s ≠ t) : (∀ z, z ≠ 4 → (z < 40 + 14 * s ∨ 54 + 14 * s ≤ z) → (z < 40 + 14 * t ∨ 54 + 14 * t ≤ z) → mgN N s t z = N z) ∧ (mgN N s t (40 + 14 * s + 3) = 0 ∧ mgN N s t (40 + 14 * s + 4) = 0 ∧ mgN N s t (40 + 14 * s + 5) = 0 ∧ mgN N s t (40 + 14 * s + 6) = 3 ∧ mgN N s t (40 + 14 * s + 0) = N (40 + 14 * s + 0)) ∧ (mgN N s t (40 + 14 * t + 0) = N (40 + 14 * t + 0) ∧ mgN N s t (40 + 14 * t + 6) = N (40 + 14 * t + 6) ∧ mgN N s t (40 + 14 * t + 3) = nI (cN N (40 + 14 * t + 3) + cN N (40 + 14 * s + 3)) ∧ mgN N s t (40 + 14 * t + 5) = nI (cN N (40 + 14 * t + 5) + (cN N (40 + 14 * s + 5) - mgQ N s t)) ∧ mgN N s t 4 = N 4 + nI (mgQ N s t)) ∧ cN (mgN N s t) (40 + 14 * t + 4) ≤ 4 ∧ (∀ p, p < cN N (40 + 14 * t + 4) → mgN N s t (48 + 14 * t + p) = N (48 + 14 * t + p)) ∧ ∃ f : Nat → Nat, (∀ p, cN N (40 + 14 * t + 4) ≤ p → p < cN (mgN N s t) (40 + 14 * t + 4) → f p < cN N (40 + 14 * s + 4) ∧ mgN N s t (48 + 14 * t + p) = N (48 + 14 * s + f p)) ∧ ∀ p p', cN N (40 + 14 * t + 4) ≤ p → p < p' → p' < cN (mgN N s t) (40 + 14 * t + 4) → f p < f p' := by
  have s10 := w.t10 hs
  have t10 := w.t10 ht
  have m4 := (w.many hs).2
  have m5 := (w.many ht).2
  obtain ⟨N0, h0⟩ : ∃ N0, N0 = mg0 N s t := ⟨_, rfl⟩
  have n0 : ∀ z, z ≠ 4 → z ≠ 40 + 14 * s + 5 → z ≠ 40 + 14 * t + 3 → z ≠ 40 + 14 * t + 5 → N0 z = N z := fun z h1 h2 h3 h4 => by rw [h0]; unfold mg0; rw [up_ne h4, up_ne h3, up_ne h1, up_ne h2]
  have c0 : cN N0 (40 + 14 * t + 4) = cN N (40 + 14 * t + 4) := cN_of (n0 _ (by omega) (by omega) (by omega) (by omega))
  have v3 : N0 (40 + 14 * t + 3) = nI (cN N (40 + 14 * t + 3) + cN N (40 + 14 * s + 3)) := by rw [h0]; unfold mg0; rw [up_ne (by omega), up_eq]
  have v5 : N0 (40 + 14 * t + 5) = nI (cN N (40 + 14 * t + 5) + (cN N (40 + 14 * s + 5) - mgQ N s t)) := by rw [h0]; unfold mg0; rw [up_eq]
  have v4 : N0 4 = N 4 + nI (mgQ N s t) := by rw [h0]; unfold mg0; rw [up_ne (by omega), up_ne (by omega), up_eq]
  obtain ⟨a1, a2, a3, a4, f, f1, f2⟩ := mv_row hst (cN N (40 + 14 * s + 4)) 0 N0 (by omega) (by omega)
  rw [c0] at a2 a4 f1 f2
  have hm : mgN N s t = mvF s (mv s t (cN N (40 + 14 * s + 4)) 0 N0) := by rw [h0]; rfl
  obtain ⟨M, hM⟩ : ∃ M, M = mv s t (cN N (40 + 14 * s + 4)) 0 N0 := ⟨_, rfl⟩
  rw [← hM] at a1 a2 a3 a4 f1 f2 hm
  have fe : ∀ z, z ≠ 40 + 14 * s + 3 → z ≠ 40 + 14 * s + 4 → z ≠ 40 + 14 * s + 5 → z ≠ 40 + 14 * s + 6 → mvF s M z = M z := fun z h1 h2 h3 h4 => by unfold mvF; rw [up_ne h4, up_ne h3, up_ne h2, up_ne h1]
  rw [hm]
  have ct : cN (mvF s M) (40 + 14 * t + 4) = cN M (40 + 14 * t + 4) := cN_of (fe _ (by omega) (by omega) (by omega) (by omega))
  rw [ct]
  refine ⟨fun z h4 h1 h2 => ?_, ⟨?_, ?_, ?_, ?_, ?_⟩, ⟨?_, ?_, ?_, ?_, ?_⟩, a3, fun p hp => ?_, f, fun p h1 h2 => ?_, f2⟩
  · rw [fe z (by omega) (by omega) (by omega) (by omega), a1 z (by omega) (by omega), n0 z h4 (by omega) (by omega) (by omega)]
  · unfold mvF; rw [up_ne (by omega), up_ne (by omega), up_ne (by omega), up_eq]
  · unfold mvF; rw [up_ne (by omega), up_ne (by omega), up_eq]
  · unfold mvF; rw [up_ne (by omega), up_eq]
  · unfold mvF; rw [up_eq]
  · rw [fe _ (by omega) (by omega) (by omega) (by omega), a1 _ (by omega) (by omega), n0 _ (by omega) (by omega) (by omega) (by omega)]
  · rw [fe _ (by omega) (by omega) (by omega) (by omega), a1 _ (by omega) (by omega), n0 _ (by omega) (by omega) (by omega) (by omega)]
  · rw [fe _ (by omega) (by omega) (by omega) (by omega), a1 _ (by omega) (by omega), n0 _ (by omega) (by omega) (by omega) (by omega)]
  · rw [fe _ (by omega) (by omega) (by omega) (by omega), a1 _ (by omega) (by omega), v3]
  · rw [fe _ (by omega) (by omega) (by omega) (by omega), a1 _ (by omega) (by omega), v5]
  · rw [fe _ (by omega) (by omega) (by omega) (by omega), a1 _ (by omega) (by omega), v4]
  · rw [fe _ (by omega) (by omega) (by omega) (by omega), a4 p hp, n0 _ (by omega) (by omega) (by omega) (by omega)]
  · obtain ⟨b1, b2, b3⟩ := f1 p h1 h2
    refine ⟨by omega, ?_⟩
    rw [fe _ (by omega) (by omega) (by omega) (by omega), b3, n0 _ (by omega) (by omega) (by omega) (by omega)]
theorem mt_merge (M : MT N) (w : WQ N r) {s t : Nat} (hs : s < cN N 3) (ht : t < cN N 3) (hst : s ≠ t) (q : fitP N r s t) : MT (mgN N s t) := by
  have s10 := w.t10 hs
  have t10 := w.t10 ht
  obtain ⟨qs, qt, qd, -⟩ := q
  obtain ⟨ce, ⟨s3, s4, s5, s6, sd⟩, ⟨d0, t6, -, -, -⟩, c4, rk, f, f1, f2⟩ := mg_ok w hs ht hst
  have e0 : mgN N s t 0 = N 0 := ce _ (by omega) (by omega) (by omega)
  refine M.gen w (fun x => x = s ∨ x = t) e0 (ce _ (by omega) (by omega) (by omega)) (ce _ (by omega) (by omega) (by omega)) (fun g hg => ⟨ce _ (by omega) (by omega) (by omega), ce _ (by omega) (by omega) (by omega)⟩) (fun x hx hne y hy => ce _ (by omega) (by omega) (by omega)) (fun x hx e => ?_)
  rcases e with rfl | rfl
  · refine ⟨qs, ⟨fun e => ?_, fun _ => s5, fun _ => ⟨s3, s4⟩, fun e => ?_, Cn.mk' (n := 3) s6 (by omega) (by decide)⟩, by rw [s6]; decide, fun e => ?_⟩
    · rw [s6] at e; exact absurd e (by decide)
    · rw [s6] at e; exact absurd e (by decide)
    · rw [s6] at e; exact absurd e (by decide)
  · have s0' : mgN N s x (40 + 14 * x + 6) = 0 := t6.trans qt
    refine ⟨qt, TI.op s0' (by rw [d0, e0]; exact (M.1 x hx).2.2.2.1 qt), by rw [s0']; decide, fun _ => ⟨?_, ?_⟩⟩
    · intro k hk y hy e
      by_cases c1 : k < cN N (40 + 14 * x + 4)
      · by_cases c2 : y < cN N (40 + 14 * x + 4)
        · rw [rk k c1, rk y c2] at e
          exact M.2.1 x hx qt k c1 y c2 e
        · obtain ⟨b1, b2⟩ := f1 y (by omega) hy
          rw [rk k c1, b2] at e
          exact absurd e.symm (M.2.2.1 x hx s hs hst qt qs qd k c1 _ b1)
      · obtain ⟨b1, b2⟩ := f1 k (by omega) hk
        by_cases c2 : y < cN N (40 + 14 * x + 4)
        · rw [b2, rk y c2] at e
          exact absurd e (M.2.2.1 x hx s hs hst qt qs qd y c2 _ b1)
        · obtain ⟨a1, a2⟩ := f1 y (by omega) hy
          rw [b2, a2] at e
          have := M.2.1 s hs qs _ b1 _ a1 e
          rcases Nat.lt_trichotomy k y with q | q | q
          · have := f2 k y (by omega) q hy; omega
          · exact q
          · have := f2 y k (by omega) q hk; omega
    · intro y hy hne q1 q2' q3 k hk z hz
      by_cases c : y = s
      · rw [c, s6] at q2'; exact absurd q2' (by decide)
      · have b : ∀ v, v < 14 → mgN N s x (40 + 14 * y + v) = N (40 + 14 * y + v) := fun v hv => ce _ (by omega) (by omega) (by omega)
        rw [cN_of (b 4 (by omega))] at hz
        have m4 := (w.many hy).2
        have bz := b (8 + z) (by omega)
        rw [show 40 + 14 * y + (8 + z) = 48 + 14 * y + z by omega] at bz
        rw [b 6 (by omega)] at q2'
        rw [b 0 (by omega), d0] at q3
        rw [bz]
        by_cases c1 : k < cN N (40 + 14 * x + 4)
        · rw [rk k c1]
          exact M.2.2.1 x hx y hy hne qt q2' q3 k c1 z hz
        · obtain ⟨b1, b2⟩ := f1 k (by omega) hk
          rw [b2]
          exact M.2.2.1 s hs y hy c qs q2' (q3.trans qd.symm) _ b1 z hz
theorem mg_paid (w : WF B N r) {s t : Nat} (hs : s < cN N 3) (ht : t < cN N 3) (hst : s ≠ t) : sPaidAll (mgN N s t) = sPaidAll N - nI (mgQ N s t) := by
  have s10 := w.t10 hs
  have t10 := w.t10 ht
  obtain ⟨ce, ⟨-, -, s5, -, -⟩, ⟨-, -, -, t5, -⟩, -⟩ := mg_ok w.q hs ht hst
  have e3 : cN (mgN N s t) 3 = cN N 3 := cN_of (ce _ (by omega) (by omega) (by omega))
  have Ps := w.2.one s10
  have Pt := w.2.one t10
  have hq : mgQ N s t ≤ cN N (40 + 14 * s + 5) := Nat.sub_le _ _
  unfold sPaidAll
  rw [e3]
  have a1 := sumF_up (f := fun x => N (40 + 14 * x + 5)) (f' := fun x => if x = s then (0 : Int32) else N (40 + 14 * x + 5)) (g := s) (v := -(N (40 + 14 * s + 5))) (cN N 3) 0 0 (Nat.zero_le _) (by omega) (by show (if s = s then (0 : Int32) else _) = _; rw [if_pos rfl]; grind) (fun x _ _ hne => if_neg hne)
  have a2 := sumF_up (f := fun x => if x = s then (0 : Int32) else N (40 + 14 * x + 5)) (f' := fun x => mgN N s t (40 + 14 * x + 5)) (g := t) (v := nI (cN N (40 + 14 * s + 5) - mgQ N s t)) (cN N 3) 0 0 (Nat.zero_le _) (by omega) (by
    show mgN N s t (40 + 14 * t + 5) = (if t = s then (0 : Int32) else N (40 + 14 * t + 5)) + _
    rw [t5, if_neg (fun e => hst e.symm), Pt.1, nI_add]) (fun x _ _ hne => by
    show mgN N s t (40 + 14 * x + 5) = if x = s then (0 : Int32) else N (40 + 14 * x + 5)
    by_cases e : x = s
    · rw [if_pos e, e, s5]
    · rw [if_neg e, ce _ (by omega) (by omega) (by omega)])
  rw [a2, a1, Ps.1, ← pk_sub hq]
  grind
end MI2
