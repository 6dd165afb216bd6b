/-! guides, bridges, tours and days keep it -/
section MI3
variable {N N' : Nat → Int32} {r : Nat → UInt64} {B : Nat}
theorem mt_cells (M : MT N) (w : WQ N r) (e : ∀ z, z ≠ 2 → z ≠ 4 → N' z = N z) : MT N' := by
  refine M.gen w (fun _ => False) (e _ (by omega) (by omega)) (e _ (by omega) (by omega)) (e _ (by omega) (by omega)) (fun g hg => ⟨e _ (by omega) (by omega), e _ (by omega) (by omega)⟩) (fun x hx _ y hy => e _ (by omega) (by omega)) (fun _ _ h => h.elim)
theorem mt_bridge (M : MT N) (w : WQ N r) : MT (brN N) := mt_cells M w (fun z h1 h2 => up_ne h1)
theorem mt_guide (M : MT N) (w : WQ N r) {k : Nat} {z : Int32} (q3 : cN N 1 < 8) : MT (gdN N k z) := by
  obtain ⟨M1, M2, M3, M4, M5⟩ := M
  have n3 := w.n3.2
  have ce : ∀ x, x ≠ 1 → (x < 8 + 4 * cN N 1 ∨ 12 + 4 * cN N 1 ≤ x) → gdN N k z x = N x := fun x h1 h2 => by
    unfold gdN; rw [up_ne h1, up_ne (by omega), up_ne (by omega), up_ne (by omega), up_ne (by omega)]
  have c1 : cN (gdN N k z) 1 = cN N 1 + 1 := by unfold gdN; exact cN_eq rfl (by omega)
  have c3 : cN (gdN N k z) 3 = cN N 3 := cN_of (ce 3 (by omega) (by omega))
  have bk : ∀ t, ∀ y, y < 14 → gdN N k z (40 + 14 * t + y) = N (40 + 14 * t + y) := fun t y hy => ce _ (by omega) (by omega)
  have b : ∀ t, Bk N (gdN N k z) t := fun t y hy => bk t y (by unfold Rc at hy; omega)
  refine ⟨fun t ht => ?_, fun t ht s0 => ?_, fun t ht x hx hne => ?_, ?_⟩
  · rw [c3] at ht
    exact (M1 t ht).cg (ce 0 (by omega) (by omega)) (bk t)
  · rw [c3] at ht
    rw [bk t 6 (by omega)] at s0
    exact (M2 t ht s0).cg (b t) (w.many ht).2
  · rw [c3] at ht hx
    exact (M3 t ht x hx hne).cg (b t) (b x) (w.many ht).2 (w.many hx).2
  · have g1 : sGone (gdN N k z) = sGone N := by
      unfold sGone
      rw [c3]
      exact sumF_cg _ _ _ (fun x _ hx => by rw [bk x 6 (by omega), bk x 3 (by omega)])
    have g2 : sLed (gdN N k z) = sLed N := by
      unfold sLed
      rw [c3]
      exact sumF_cg _ _ _ (fun x _ hx => by rw [bk x 6 (by omega), bk x 4 (by omega)])
    have v2 : gdN N k z (8 + 4 * cN N 1 + 2) = 0 := by unfold gdN; rw [up_ne (by omega), up_ne (by omega), up_eq]
    have v3 : gdN N k z (8 + 4 * cN N 1 + 3) = 0 := by unfold gdN; rw [up_ne (by omega), up_eq]
    unfold SU
    rw [g1, g2, c1, sumF_snoc, sumF_snoc, Nat.zero_add, v2, v3]
    refine ⟨?_, ?_⟩
    · rw [Int32.add_zero]
      exact Eq.trans (sumF_cg _ _ _ (fun x _ hx => ce _ (by omega) (by omega))) M4
    · rw [show (-(0 : Int32)) = 0 from rfl, Int32.add_zero]
      refine Eq.trans (sumF_cg _ _ _ (fun x _ hx => ?_)) M5
      show -(gdN N k z (8 + 4 * x + 2)) = -(N (8 + 4 * x + 2))
      rw [ce _ (by omega) (by omega)]
theorem tr_ne {x br : Int32} {pr z : Nat} (h3 : z ≠ 3) (h : z < 40 + 14 * cN N 3 ∨ 54 + 14 * cN N 3 ≤ z) : trN N x pr br z = N z := by
  unfold trN; rw [up_ne h3, up_ne (by omega), up_ne (by omega), up_ne (by omega), cp_out (by omega)]
theorem tr_0 {x br : Int32} {pr y : Nat} (h1 : 3 ≤ y) (h2 : y < 14) : trN N x pr br (40 + 14 * cN N 3 + y) = 0 := by
  unfold trN; rw [up_ne (by omega), up_ne (by omega), up_ne (by omega), up_ne (by omega), cp_in h2]
theorem tr_d {x br : Int32} {pr : Nat} : trN N x pr br (40 + 14 * cN N 3 + 0) = x := by
  unfold trN; rw [up_ne (by omega), up_ne (by omega), up_ne (by omega), up_eq]
theorem tr_b {x br : Int32} {pr : Nat} : trN N x pr br (40 + 14 * cN N 3 + 2) = br := by
  unfold trN; rw [up_ne (by omega), up_eq]
theorem tr_n {x br : Int32} {pr : Nat} (h : cN N 3 < 10) : cN (trN N x pr br) 3 = cN N 3 + 1 := by
  unfold trN; exact cN_eq rfl (by omega)
theorem mt_add (M : MT N) (w : WQ N r) {x br : Int32} {pr : Nat} (hx : N 0 ≤ x) (q5 : cN N 3 < 10) : MT (trN N x pr br) := by
  obtain ⟨M1, M2, M3, M4, M5⟩ := M
  have n1 := w.n1.2
  have c3 := tr_n (N := N) (x := x) (br := br) (pr := pr) q5
  have c1 : cN (trN N x pr br) 1 = cN N 1 := cN_of (tr_ne (by omega) (by omega))
  have s6 : trN N x pr br (40 + 14 * cN N 3 + 6) = 0 := tr_0 (by omega) (by omega)
  have m0 : cN (trN N x pr br) (40 + 14 * cN N 3 + 4) = 0 := cN_nI (n := 0) (tr_0 (by omega) (by omega)) (by omega)
  have e0 : trN N x pr br 0 = N 0 := tr_ne (by omega) (by omega)
  have bk : ∀ t, t < cN N 3 → ∀ y, y < 14 → trN N x pr br (40 + 14 * t + y) = N (40 + 14 * t + y) := fun t ht y hy => tr_ne (by omega) (by omega)
  have b : ∀ t, t < cN N 3 → Bk N (trN N x pr br) t := fun t ht y hy => bk t ht y (by unfold Rc at hy; omega)
  have hd : ∀ t, t < cN (trN N x pr br) 3 → t < cN N 3 ∨ t = cN N 3 := fun t ht => by rw [c3] at ht; omega
  refine ⟨fun t ht => ?_, fun t ht s0 => ?_, fun t ht y hy hne => ?_, ?_⟩
  · rcases hd t ht with h | rfl
    · exact (M1 t h).cg e0 (bk t h)
    · exact TI.op s6 (by rw [e0, tr_d]; exact hx)
  · rcases hd t ht with h | rfl
    · rw [bk t h 6 (by omega)] at s0
      exact (M2 t h s0).cg (b t h) (w.many h).2
    · intro k hk
      rw [m0] at hk; omega
  · rcases hd t ht with h | rfl
    · rcases hd y hy with h2 | rfl
      · exact (M3 t h y h2 hne).cg (b t h) (b y h2) (w.many h).2 (w.many h2).2
      · intro _ _ _ k hk z hz
        rw [m0] at hz; omega
    · intro _ _ _ k hk
      rw [m0] at hk; omega
  · have g1 : sGone (trN N x pr br) = sGone N := by
      unfold sGone
      rw [c3, sumF_snoc, Nat.zero_add, s6, if_neg (by decide), Int32.add_zero]
      exact sumF_cg _ _ _ (fun y _ hy => by rw [bk y (by omega) 6 (by omega), bk y (by omega) 3 (by omega)])
    have g2 : sLed (trN N x pr br) = sLed N := by
      unfold sLed
      rw [c3, sumF_snoc, Nat.zero_add, s6, if_neg (by decide), Int32.add_zero]
      exact sumF_cg _ _ _ (fun y _ hy => by rw [bk y (by omega) 6 (by omega), bk y (by omega) 4 (by omega)])
    unfold SU
    rw [g1, g2, c1]
    refine ⟨Eq.trans (sumF_cg _ _ _ (fun y _ hy => tr_ne (by omega) (by omega))) M4, Eq.trans (sumF_cg _ _ _ (fun y _ hy => ?_)) M5⟩
    show -(trN N x pr br (8 + 4 * y + 2)) = -(N (8 + 4 * y + 2))
    rw [tr_ne (by omega) (by omega)]
/-! days -/
def S3 (N : Nat → Int32) : Int32 := sumF (fun g => N (8 + 4 * g + 3)) (cN N 1) 0 0
def S2 (N : Nat → Int32) : Int32 := sumF (fun g => -(N (8 + 4 * g + 2))) (cN N 1) 0 0
theorem sLeft_cg {t : Nat} (e : ∀ z, 40 ≤ z → N' z = N z) (eg : ∀ g, N' (8 + 4 * g) = N (8 + 4 * g)) (k : Nat) : sLeft N' r t k = sLeft N r t k := by
  have h : ∀ k, sSum N' r t k = sSum N r t k := fun k => by
    induction k with
    | zero => rfl
    | succ k ih =>
      show sSum N' r t k + sRat N' r t (gN N' t k) = sSum N r t k + sRat N r t (gN N t k)
      have e1 : gN N' t k = gN N t k := cN_of (e _ (by omega))
      rw [ih, e1]
      unfold sRat
      rw [cN_of (eg _)]
  unfold sLeft
  rw [h k, cN_of (e _ (by omega))]
theorem go_su {t : Nat} : ∀ m k N, WF B N r → t < cN N 3 → k + m ≤ cN N (40 + 14 * t + 4) → S3 (go r t m k N) = S3 N + nI (sLeft N r t k - sLeft N r t (k + m)) ∧ S2 (go r t m k N) = S2 N + -(nI m) ∧ (∀ z, (z < 8 ∨ 40 ≤ z) → go r t m k N z = N z) ∧ ∀ g, go r t m k N (8 + 4 * g) = N (8 + 4 * g)
  | 0, k, N, w, ht, hk => ⟨by show S3 N = S3 N + nI (sLeft N r t k - sLeft N r t k); rw [Nat.sub_self]; exact (Int32.add_zero _).symm, (Int32.add_zero _).symm, fun _ _ => rfl, fun _ => rfl⟩
  | m + 1, k, N, w, ht, hk => by
    obtain ⟨hr, hr1, hr8⟩ := w.rowk ht (k := k) (by omega)
    have h10 := w.t10 ht
    obtain ⟨w1, f1⟩ := go1_ok (k := k) w ht (by omega)
    have eg : ∀ g, go1 r t k N (8 + 4 * g) = N (8 + 4 * g) := fun g => by unfold go1; rw [up_ne (by omega), up_ne (by omega)]
    have c1 : cN (go1 r t k N) 1 = cN N 1 := cN_of (f1 1 (by omega))
    obtain ⟨a1, a2, a3, a4⟩ := go_su (t := t) m (k + 1) (go1 r t k N) w1 (by rw [cN_of (f1 3 (by omega))]; exact ht) (by rw [cN_of (f1 _ (by omega))]; omega)
    have sl : ∀ k', sLeft (go1 r t k N) r t k' = sLeft N r t k' := fun k' => sLeft_cg (fun z hz => f1 z (by omega)) eg k'
    rw [sl, sl] at a1
    have u3 : S3 (go1 r t k N) = S3 N + nI (sOn N r t k) := by
      unfold S3
      rw [c1]
      refine sumF_up (g := gN N t k) _ _ _ (Nat.zero_le _) (by omega) ?_ (fun x _ hx hne => ?_)
      · show go1 r t k N (8 + 4 * gN N t k + 3) = _
        unfold go1; rw [up_eq]
      · show go1 r t k N (8 + 4 * x + 3) = N (8 + 4 * x + 3)
        unfold go1; rw [up_ne (by omega), up_ne (by omega)]
    have u2 : S2 (go1 r t k N) = S2 N + -(1 : Int32) := by
      unfold S2
      rw [c1]
      refine sumF_up (g := gN N t k) _ _ _ (Nat.zero_le _) (by omega) ?_ (fun x _ hx hne => ?_)
      · show -(go1 r t k N (8 + 4 * gN N t k + 2)) = -(N (8 + 4 * gN N t k + 2)) + -(1 : Int32)
        unfold go1; rw [up_ne (by omega), up_eq]; grind
      · show -(go1 r t k N (8 + 4 * x + 2)) = -(N (8 + 4 * x + 2))
        unfold go1; rw [up_ne (by omega), up_ne (by omega)]
    have l1 := sLeft_le (N := N) (r := r) (t := t) k
    have l2 : sLeft N r t (k + 1 + m) ≤ sLeft N r t (k + 1) := by
      have : ∀ m, sLeft N r t (k + 1 + m) ≤ sLeft N r t (k + 1) := fun m => by
        induction m with
        | zero => exact Nat.le_refl _
        | succ m ih => exact Nat.le_trans (sLeft_le (N := N) (r := r) (t := t) (k + 1 + m)) ih
      exact this m
    refine ⟨?_, ?_, fun z hz => (a3 z hz).trans (f1 z hz), fun g => (a4 g).trans (eg g)⟩
    · show S3 (go r t m (k + 1) (go1 r t k N)) = _
      rw [a1, u3, Int32.add_assoc, nI_add]
      unfold sOn
      rw [show k + (m + 1) = k + 1 + m by omega, show sLeft N r t k - sLeft N r t (k + 1) + (sLeft N r t (k + 1) - sLeft N r t (k + 1 + m)) = sLeft N r t k - sLeft N r t (k + 1 + m) by omega]
    · show S2 (go r t m (k + 1) (go1 r t k N)) = _
      rw [a2, u2, ← nI_1]
      grind
theorem su_iff : SU N ↔ S3 N = sGone N ∧ sLed N + S2 N = 0 := by
  unfold SU S3 S2
  rw [sumF_a _ _ _ (sLed N)]
theorem mt_go (M : MT N) (w : WF B N r) {t : Nat} (ht : t < cN N 3) (s0 : N (40 + 14 * t + 6) = 0) (hc : sCause N r t = 0) : MT (goF r t N) := by
  obtain ⟨M1, M2, M3, M4⟩ := M
  have h10 := w.t10 ht
  have n1 := w.n1.2
  have n3 := w.n3.2
  have w1 : WF B (upd N (40 + 14 * t + 6) 1) r := ⟨w.q.free (by unfold Ess; omega) _, w.2.free (fun u hu => by omega)⟩
  have cm : cN (upd N (40 + 14 * t + 6) 1) (40 + 14 * t + 4) = cN N (40 + 14 * t + 4) := cN_ne (by omega)
  obtain ⟨a1, a2, a3, a4⟩ := go_su (t := t) (cN N (40 + 14 * t + 4)) 0 (upd N (40 + 14 * t + 6) 1) w1 (by rw [cN_ne (by omega)]; exact ht) (by rw [cm]; omega)
  have hG : goF r t N = go r t (cN N (40 + 14 * t + 4)) 0 (upd N (40 + 14 * t + 6) 1) := rfl
  rw [← hG] at a1 a2 a3 a4
  have ce : ∀ z, (z < 8 ∨ 40 ≤ z) → z ≠ 40 + 14 * t + 6 → goF r t N z = N z := fun z h1 h2 => (a3 z h1).trans (up_ne h2)
  have s1 : goF r t N (40 + 14 * t + 6) = 1 := (a3 _ (by omega)).trans up_eq
  have c3 : cN (goF r t N) 3 = cN N 3 := cN_of (ce 3 (by omega) (by omega))
  have c1 : cN (goF r t N) 1 = cN N 1 := cN_of (ce 1 (by omega) (by omega))
  have e0 : goF r t N 0 = N 0 := ce 0 (by omega) (by omega)
  have bk : ∀ x, x ≠ t → ∀ y, y < 14 → goF r t N (40 + 14 * x + y) = N (40 + 14 * x + y) := fun x hx y hy => ce _ (by omega) (by omega)
  have b : ∀ x, x ≠ t → Bk N (goF r t N) x := fun x hx y hy => bk x hx y (by unfold Rc at hy; omega)
  refine ⟨fun x hx => ?_, fun x hx q0 => ?_, fun x hx y hy hne => ?_, ?_⟩
  · rw [c3] at hx
    by_cases e : x = t
    · subst e
      refine ⟨fun e => ?_, fun e => ?_, fun e => ?_, fun e => ?_, Cn.mk' (n := 1) s1 (by omega) (by decide)⟩
      · rw [s1] at e; exact absurd e (by decide)
      · rw [s1] at e; exact absurd e (by decide)
      · rw [s1] at e; exact absurd e (by decide)
      · rw [s1] at e; exact absurd e (by decide)
    · exact (M1 x hx).cg e0 (bk x e)
  · rw [c3] at hx
    by_cases e : x = t
    · subst e
      rw [s1] at q0; exact absurd q0 (by decide)
    · rw [bk x e 6 (by omega)] at q0
      exact (M2 x hx q0).cg (b x e) (w.many hx).2
  · rw [c3] at hx hy
    by_cases e : x = t
    · subst e
      intro q0; rw [s1] at q0; exact absurd q0 (by decide)
    · by_cases e2 : y = t
      · subst e2
        intro _ q0; rw [s1] at q0; exact absurd q0 (by decide)
      · exact (M3 x hx y hy hne).cg (b x e) (b y e2) (w.many hx).2 (w.many hy).2
  · have hl : sLeft N r t (cN N (40 + 14 * t + 4)) = 0 := by
      unfold sCause at hc
      by_cases q1 : N (40 + 14 * t + 3) = 0
      · rw [if_pos q1] at hc; exact absurd hc (by decide)
      · rw [if_neg q1] at hc
        by_cases q2 : sWeak N r t = true
        · rw [if_pos q2] at hc; exact absurd hc (by decide)
        · rw [if_neg q2] at hc
          by_cases q3 : sLeft N r t (cN N (40 + 14 * t + 4)) = 0 ∧ sBad N t = false
          · exact q3.1
          · rw [if_neg q3] at hc; exact absurd hc (by decide)
    have sl : ∀ k, k ≤ cN N (40 + 14 * t + 4) → sLeft (upd N (40 + 14 * t + 6) 1) r t k = sLeft N r t k := fun k hk => by
      have h : ∀ k, k ≤ cN N (40 + 14 * t + 4) → sSum (upd N (40 + 14 * t + 6) 1) r t k = sSum N r t k := fun k => by
        induction k with
        | zero => intro _; rfl
        | succ k ih =>
          intro hk
          show sSum _ r t k + sRat _ r t (gN _ t k) = sSum N r t k + sRat N r t (gN N t k)
          have e1 : gN (upd N (40 + 14 * t + 6) 1) t k = gN N t k := cN_ne (by omega)
          obtain ⟨hr, hr1, hr8⟩ := w.rowk ht (k := k) (by omega)
          rw [ih (by omega), e1]
          unfold sRat
          rw [cN_ne (by omega)]
      unfold sLeft
      rw [h k hk, cN_ne (by omega)]
    rw [sl _ (Nat.zero_le _), sl _ (by omega), Nat.zero_add, hl, Nat.sub_zero, show sLeft N r t 0 = cN N (40 + 14 * t + 3) from Nat.sub_zero _, ← (w.guests ht).1] at a1
    rw [← (w.many ht).1] at a2
    have s3 : S3 (upd N (40 + 14 * t + 6) 1) = S3 N := by
      unfold S3
      rw [cN_ne (by omega)]
      exact sumF_cg _ _ _ (fun x _ hx => up_ne (by omega))
    have s2 : S2 (upd N (40 + 14 * t + 6) 1) = S2 N := by
      unfold S2
      rw [cN_ne (by omega)]
      refine sumF_cg _ _ _ (fun x _ hx => ?_)
      show -(upd N (40 + 14 * t + 6) 1 (8 + 4 * x + 2)) = -(N (8 + 4 * x + 2))
      rw [up_ne (by omega)]
    have g1 : sGone (goF r t N) = sGone N + N (40 + 14 * t + 3) := by
      unfold sGone
      rw [c3]
      refine sumF_up (g := t) _ _ _ (Nat.zero_le _) (by omega) ?_ (fun x _ hx hne => ?_)
      · show (if goF r t N (40 + 14 * t + 6) = 1 then goF r t N (40 + 14 * t + 3) else 0) = (if N (40 + 14 * t + 6) = 1 then N (40 + 14 * t + 3) else 0) + N (40 + 14 * t + 3)
        rw [if_pos s1, if_neg (by rw [s0]; decide), ce _ (by omega) (by omega), Int32.zero_add]
      · show (if goF r t N (40 + 14 * x + 6) = 1 then goF r t N (40 + 14 * x + 3) else 0) = _
        rw [bk x hne 6 (by omega), bk x hne 3 (by omega)]
    have g2 : sLed (goF r t N) = sLed N + N (40 + 14 * t + 4) := by
      unfold sLed
      rw [c3]
      refine sumF_up (g := t) _ _ _ (Nat.zero_le _) (by omega) ?_ (fun x _ hx hne => ?_)
      · show (if goF r t N (40 + 14 * t + 6) = 1 then goF r t N (40 + 14 * t + 4) else 0) = (if N (40 + 14 * t + 6) = 1 then N (40 + 14 * t + 4) else 0) + N (40 + 14 * t + 4)
        rw [if_pos s1, if_neg (by rw [s0]; decide), ce _ (by omega) (by omega), Int32.zero_add]
      · show (if goF r t N (40 + 14 * x + 6) = 1 then goF r t N (40 + 14 * x + 4) else 0) = _
        rw [bk x hne 6 (by omega), bk x hne 4 (by omega)]
    obtain ⟨h1, h2⟩ := su_iff.mp M4
    refine su_iff.mpr ⟨?_, ?_⟩
    · rw [a1, s3, g1, h1]
    · rw [a2, s2, g2, ← h2]; grind
end MI3
