/-! what holds of every state that the law makes -/
theorem sumF_a (f : Nat → Int32) : ∀ m k a, sumF f m k a = a + sumF f m k 0
  | 0, _, a => (Int32.add_zero a).symm
  | m + 1, k, a => by
    show sumF f m (k + 1) (a + f k) = a + sumF f m (k + 1) (0 + f k)
    rw [sumF_a f m (k + 1) (a + f k), sumF_a f m (k + 1) (0 + f k), Int32.zero_add, Int32.add_assoc]
theorem sumF_cg {f f' : Nat → Int32} : ∀ m k a, (∀ x, k ≤ x → x < k + m → f' x = f x) → sumF f' m k a = sumF f m k a
  | 0, _, _, _ => rfl
  | m + 1, k, a, h => by
    show sumF f' m (k + 1) (a + f' k) = sumF f m (k + 1) (a + f k)
    rw [h k (Nat.le_refl _) (by omega)]
    exact sumF_cg m (k + 1) _ (fun x h1 h2 => h x (by omega) (by omega))
theorem sumF_up {f f' : Nat → Int32} {g : Nat} {v : Int32} : ∀ m k a, k ≤ g → g < k + m → f' g = f g + v → (∀ x, k ≤ x → x < k + m → x ≠ g → f' x = f x) → sumF f' m k a = sumF f m k a + v
  | 0, k, a, h1, h2, _, _ => absurd h2 (by omega)
  | m + 1, k, a, h1, h2, h3, h4 => by
    show sumF f' m (k + 1) (a + f' k) = sumF f m (k + 1) (a + f k) + v
    by_cases e : k = g
    · subst e
      rw [sumF_cg (f := f) m (k + 1) _ (fun x q1 q2 => h4 x (by omega) (by omega) (by omega)), h3, sumF_a f m (k + 1) (a + (f k + v)), sumF_a f m (k + 1) (a + f k)]
      grind
    · rw [h4 k (Nat.le_refl _) (by omega) e]
      exact sumF_up m (k + 1) _ (by omega) (by omega) h3 (fun x q1 q2 q3 => h4 x (by omega) (by omega) q3)
theorem sumF_snoc (f : Nat → Int32) : ∀ m k a, sumF f (m + 1) k a = sumF f m k a + f (k + m)
  | 0, k, a => rfl
  | m + 1, k, a => by
    show sumF f (m + 1) (k + 1) (a + f k) = sumF f m (k + 1) (a + f k) + f (k + (m + 1))
    rw [sumF_snoc f m (k + 1) (a + f k), show k + 1 + m = k + (m + 1) by omega]
theorem anyF_f {p : Nat → Bool} : ∀ m k, anyF p m k = false ↔ ∀ x, k ≤ x → x < k + m → p x = false
  | 0, k => ⟨fun _ x h1 h2 => absurd h2 (by omega), fun _ => rfl⟩
  | m + 1, k => by
    show (p k || anyF p m (k + 1)) = false ↔ _
    rw [Bool.or_eq_false_iff, anyF_f m (k + 1)]
    refine ⟨fun h x h1 h2 => ?_, fun h => ⟨h k (Nat.le_refl _) (by omega), fun x h1 h2 => h x (by omega) (by omega)⟩⟩
    by_cases e : x = k
    · rw [e]; exact h.1
    · exact h.2 x (by omega) (by omega)
theorem anyF_t {p : Nat → Bool} {m k : Nat} (h : anyF p m k = true) : ∃ x, k ≤ x ∧ x < k + m ∧ p x = true := by
  refine Classical.byContradiction fun q => ?_
  have : anyF p m k = false := (anyF_f m k).mpr (fun x h1 h2 => by
    cases e : p x with
    | false => rfl
    | true => exact absurd ⟨x, h1, h2, e⟩ q)
  rw [h] at this; cases this
def DR (N : Nat → Int32) (t : Nat) : Prop := ∀ k, k < cN N (40 + 14 * t + 4) → ∀ y, y < cN N (40 + 14 * t + 4) → N (48 + 14 * t + k) = N (48 + 14 * t + y) → k = y
def MT (N : Nat → Int32) : Prop := (∀ t, t < cN N 3 → TI N t) ∧ (∀ t, t < cN N 3 → N (40 + 14 * t + 6) = 0 → DR N t) ∧ (∀ t, t < cN N 3 → ∀ x, x < cN N 3 → x ≠ t → DJ N t x) ∧ SU N
section MIS
variable {N N' : Nat → Int32} {r : Nat → UInt64} {B : Nat}
theorem DJ.symm {t x : Nat} (h : DJ N t x) : DJ N x t := fun q1 q2 q3 k hk y hy e => h q2 q1 q3.symm y hy k hk e.symm
/-- the entries of a tour that the rows speak of -/
def Rc (y : Nat) : Prop := y = 0 ∨ y = 4 ∨ y = 6 ∨ (8 ≤ y ∧ y < 14)
def Bk (N N' : Nat → Int32) (t : Nat) : Prop := ∀ y, Rc y → N' (40 + 14 * t + y) = N (40 + 14 * t + y)
theorem Bk.m {t : Nat} (b : Bk N N' t) : cN N' (40 + 14 * t + 4) = cN N (40 + 14 * t + 4) := cN_of (b 4 (by unfold Rc; omega))
theorem Bk.row {t k : Nat} (b : Bk N N' t) (hk : k < 6) : N' (48 + 14 * t + k) = N (48 + 14 * t + k) := by
  have := b (8 + k) (by unfold Rc; omega)
  rw [show 40 + 14 * t + (8 + k) = 48 + 14 * t + k by omega] at this
  exact this
theorem DR.cg {t : Nat} (h : DR N t) (b : Bk N N' t) (h4 : cN N (40 + 14 * t + 4) ≤ 4) : DR N' t := fun k hk y hy e => by
  rw [b.m] at hk hy
  rw [b.row (by omega), b.row (by omega)] at e
  exact h k hk y hy e
theorem DJ.cg {t x : Nat} (h : DJ N t x) (b : Bk N N' t) (c : Bk N N' x) (h4 : cN N (40 + 14 * t + 4) ≤ 4) (h5 : cN N (40 + 14 * x + 4) ≤ 4) : DJ N' t x := fun q1 q2 q3 k hk y hy => by
  rw [b.m] at hk
  rw [c.m] at hy
  rw [b.row (by omega), c.row (by omega)]
  have b0 := b 0 (by unfold Rc; omega)
  have b6 := b 6 (by unfold Rc; omega)
  have c0 := c 0 (by unfold Rc; omega)
  have c6 := c 6 (by unfold Rc; omega)
  exact h (by rw [← b6]; exact q1) (by rw [← c6]; exact q2) (by rw [← b0, ← c0]; exact q3) k hk y hy
theorem TI.cg {t : Nat} (h : TI N t) (e0 : N' 0 = N 0) (e : ∀ y, y < 14 → N' (40 + 14 * t + y) = N (40 + 14 * t + y)) : TI N' t := by
  unfold TI Cn
  rw [cN_of (e 6 (by omega)), e 6 (by omega), e 7 (by omega), e 5 (by omega), e 3 (by omega), e 4 (by omega), e 0 (by omega), e0]
  exact h
theorem TI.op {t : Nat} (s0 : N' (40 + 14 * t + 6) = 0) (hd : N' 0 ≤ N' (40 + 14 * t + 0)) : TI N' t :=
  ⟨fun e => by rw [s0] at e; exact absurd e (by decide), fun e => by rw [s0] at e; exact absurd e (by decide), fun e => by rw [s0] at e; exact absurd e (by decide), fun _ => hd, Cn.mk' (n := 0) s0 (by omega) (by decide)⟩
theorem SU.cg (h : SU N) (e1 : N' 1 = N 1) (e3 : N' 3 = N 3) (n1 : cN N 1 ≤ 8) (eg : ∀ g, g < 8 → N' (8 + 4 * g + 2) = N (8 + 4 * g + 2) ∧ N' (8 + 4 * g + 3) = N (8 + 4 * g + 3)) (et : ∀ t, t < cN N 3 → (if N' (40 + 14 * t + 6) = 1 then N' (40 + 14 * t + 3) else 0) = (if N (40 + 14 * t + 6) = 1 then N (40 + 14 * t + 3) else 0) ∧ (if N' (40 + 14 * t + 6) = 1 then N' (40 + 14 * t + 4) else 0) = (if N (40 + 14 * t + 6) = 1 then N (40 + 14 * t + 4) else 0)) : SU N' := by
  obtain ⟨h1, h2⟩ := h
  unfold SU
  have g1 : sGone N' = sGone N := by
    unfold sGone
    rw [cN_of e3]
    exact sumF_cg _ _ _ (fun x _ hx => (et x (by omega)).1)
  have g2 : sLed N' = sLed N := by
    unfold sLed
    rw [cN_of e3]
    exact sumF_cg _ _ _ (fun x _ hx => (et x (by omega)).2)
  rw [g1, g2, cN_of e1]
  refine ⟨Eq.trans (sumF_cg _ _ _ (fun x _ hx => (eg x (by omega)).2)) h1, Eq.trans (sumF_cg _ _ _ (fun x _ hx => ?_)) h2⟩
  show -(N' (8 + 4 * x + 2)) = -(N (8 + 4 * x + 2))
  rw [(eg x (by omega)).1]
theorem MT.gen (M : MT N) (w : WQ N r) (P : Nat → Prop) (e0 : N' 0 = N 0) (e1 : N' 1 = N 1) (e3 : N' 3 = N 3) (eg : ∀ g, g < 8 → N' (8 + 4 * g + 2) = N (8 + 4 * g + 2) ∧ N' (8 + 4 * g + 3) = N (8 + 4 * g + 3))
    (ex : ∀ x, x < cN N 3 → ¬ P x → ∀ y, y < 14 → N' (40 + 14 * x + y) = N (40 + 14 * x + y))
    (hP : ∀ t, t < cN N 3 → P t → N (40 + 14 * t + 6) = 0 ∧ TI N' t ∧ N' (40 + 14 * t + 6) ≠ 1 ∧ (N' (40 + 14 * t + 6) = 0 → DR N' t ∧ ∀ x, x < cN N 3 → x ≠ t → DJ N' t x)) : MT N' := by
  obtain ⟨M1, M2, M3, M4⟩ := M
  have n1 := w.n1.2
  have c3 : cN N' 3 = cN N 3 := cN_of e3
  have bk : ∀ x, x < cN N 3 → ¬ P x → Bk N N' x := fun x hx hp y hy => ex x hx hp y (by unfold Rc at hy; omega)
  refine ⟨fun t ht => ?_, fun t ht s0 => ?_, fun t ht x hx hne => ?_, ?_⟩
  · rw [c3] at ht
    rcases Classical.em (P t) with hp | hp
    · exact (hP t ht hp).2.1
    · exact (M1 t ht).cg e0 (ex t ht hp)
  · rw [c3] at ht
    rcases Classical.em (P t) with hp | hp
    · exact ((hP t ht hp).2.2.2 s0).1
    · exact (M2 t ht (by rw [← ex t ht hp 6 (by omega)]; exact s0)).cg (bk t ht hp) (w.many ht).2
  · rw [c3] at ht hx
    rcases Classical.em (P t) with hp | hp
    · exact fun q1 => ((hP t ht hp).2.2.2 q1).2 x hx hne q1
    · rcases Classical.em (P x) with hp2 | hp2
      · exact DJ.symm (fun q1 => ((hP x hx hp2).2.2.2 q1).2 t ht (fun e => hne e.symm) q1)
      · exact (M3 t ht x hx hne).cg (bk t ht hp) (bk x hx hp2) (w.many ht).2 (w.many hx).2
  · refine M4.cg e1 e3 n1 eg (fun t ht => ?_)
    rcases Classical.em (P t) with hp | hp
    · obtain ⟨p1, -, p3, -⟩ := hP t ht hp
      have p1' : ¬ N (40 + 14 * t + 6) = 1 := by rw [p1]; decide
      rw [if_neg p3, if_neg p1', if_neg p3, if_neg p1']
      exact ⟨rfl, rfl⟩
    · rw [ex t ht hp 6 (by omega), ex t ht hp 3 (by omega), ex t ht hp 4 (by omega)]
      exact ⟨rfl, rfl⟩
/-! the acts that change one open tour -/
theorem mt_book (M : MT N) (w : WQ N r) {t m : Nat} (ht : t < cN N 3) (s0 : N (40 + 14 * t + 6) = 0) : MT (bkN N t m) := by
  have h10 := w.t10 ht
  have n1 := w.n1.2
  have n3 := w.n3.2
  have ce : ∀ z, z ≠ 40 + 14 * t + 3 → z ≠ 40 + 14 * t + 5 → bkN N t m z = N z := fun z h1 h2 => by unfold bkN; rw [up_ne h2, up_ne h1]
  have b : Bk N (bkN N t m) t := fun y hy => ce _ (by unfold Rc at hy; omega) (by unfold Rc at hy; omega)
  refine M.gen w (fun x => x = t) (ce _ (by omega) (by omega)) (ce _ (by omega) (by omega)) (ce _ (by omega) (by omega)) (fun g hg => ⟨ce _ (by omega) (by omega), ce _ (by omega) (by omega)⟩) (fun x hx hne y hy => ce _ (by omega) (by omega)) (fun x hx e => ?_)
  subst e
  have s0' : bkN N x m (40 + 14 * x + 6) = 0 := by rw [ce _ (by omega) (by omega)]; exact s0
  refine ⟨s0, TI.op s0' ?_, by rw [s0']; decide, fun _ => ⟨(M.2.1 x hx s0).cg b (w.many hx).2, fun y hy hne => (M.2.2.1 x hx y hy hne).cg b (fun z hz => ce _ (by unfold Rc at hz; omega) (by unfold Rc at hz; omega)) (w.many hx).2 (w.many hy).2⟩⟩
  rw [ce _ (by omega) (by omega), ce _ (by omega) (by omega)]
  exact (M.1 x hx).2.2.2.1 s0
theorem mt_leave (M : MT N) (w : WQ N r) {t l q : Nat} (ht : t < cN N 3) (s0 : N (40 + 14 * t + 6) = 0) : MT (lvN N t l q) := by
  have h10 := w.t10 ht
  have n1 := w.n1.2
  have n3 := w.n3.2
  have ce : ∀ z, z ≠ 40 + 14 * t + 3 → z ≠ 40 + 14 * t + 5 → z ≠ 4 → lvN N t l q z = N z := fun z h1 h2 h3 => by unfold lvN; rw [up_ne h3, up_ne h2, up_ne h1]
  have b : Bk N (lvN N t l q) t := fun y hy => ce _ (by unfold Rc at hy; omega) (by unfold Rc at hy; omega) (by omega)
  refine M.gen w (fun x => x = t) (ce _ (by omega) (by omega) (by omega)) (ce _ (by omega) (by omega) (by omega)) (ce _ (by omega) (by omega) (by omega)) (fun g hg => ⟨ce _ (by omega) (by omega) (by omega), ce _ (by omega) (by omega) (by omega)⟩) (fun x hx hne y hy => ce _ (by omega) (by omega) (by omega)) (fun x hx e => ?_)
  subst e
  have s0' : lvN N x l q (40 + 14 * x + 6) = 0 := by rw [ce _ (by omega) (by omega) (by omega)]; exact s0
  refine ⟨s0, TI.op s0' ?_, by rw [s0']; decide, fun _ => ⟨(M.2.1 x hx s0).cg b (w.many hx).2, fun y hy hne => (M.2.2.1 x hx y hy hne).cg b (fun z hz => ce _ (by unfold Rc at hz; omega) (by unfold Rc at hz; omega) (by omega)) (w.many hx).2 (w.many hy).2⟩⟩
  rw [ce _ (by omega) (by omega) (by omega), ce _ (by omega) (by omega) (by omega)]
  exact (M.1 x hx).2.2.2.1 s0
theorem canc_ne {t : Nat} {c : Int32} {z : Nat} (h5 : z ≠ 40 + 14 * t + 5) (h4 : z ≠ 4) (h6 : z ≠ 40 + 14 * t + 6) (h7 : z ≠ 40 + 14 * t + 7) : canc N t c z = N z := by
  unfold canc; rw [up_ne h7, up_ne h6, up_ne h4, up_ne h5]
theorem canc_6 {t : Nat} {c : Int32} : canc N t c (40 + 14 * t + 6) = 2 := by
  unfold canc; rw [up_ne (by omega), up_eq]
theorem canc_5 {t : Nat} {c : Int32} : canc N t c (40 + 14 * t + 5) = 0 := by
  unfold canc; rw [up_ne (by omega), up_ne (by omega), up_ne (by omega), up_eq]
theorem canc_7 {t : Nat} {c : Int32} : canc N t c (40 + 14 * t + 7) = c := by
  unfold canc; rw [up_eq]
theorem mt_cancel (M : MT N) (w : WQ N r) {t : Nat} {c : Int32} (hc : 0 ≤ c) (ht : t < cN N 3) (s0 : N (40 + 14 * t + 6) = 0) : MT (canc N t c) := by
  have h10 := w.t10 ht
  refine M.gen w (fun x => x = t) (canc_ne (by omega) (by omega) (by omega) (by omega)) (canc_ne (by omega) (by omega) (by omega) (by omega)) (canc_ne (by omega) (by omega) (by omega) (by omega)) (fun g hg => ⟨canc_ne (by omega) (by omega) (by omega) (by omega), canc_ne (by omega) (by omega) (by omega) (by omega)⟩) (fun x hx hne y hy => canc_ne (by omega) (by omega) (by omega) (by omega)) (fun x hx e => ?_)
  subst e
  refine ⟨s0, ⟨fun _ => ?_, fun _ => canc_5, fun e => ?_, fun e => ?_, Cn.mk' (n := 2) canc_6 (by omega) (by decide)⟩, by rw [canc_6]; decide, fun e => ?_⟩
  · rw [canc_7]; exact hc
  · rw [canc_6] at e; exact absurd e (by decide)
  · rw [canc_6] at e; exact absurd e (by decide)
  · rw [canc_6] at e; exact absurd e (by decide)
theorem leads_f {t : Nat} {g : Int32} (h : sLeads N t g = false) {k : Nat} (hk : k < cN N (40 + 14 * t + 4)) : N (48 + 14 * t + k) ≠ g := fun e => by
  have := (anyF_f _ _).mp h k (by omega) (by omega)
  rw [decide_eq_true e] at this; cases this
theorem busy_f {g day : Int32} (h : sBusy N g day = false) {x : Nat} (hx : x < cN N 3) (q6 : N (40 + 14 * x + 6) = 0) (q0 : N (40 + 14 * x + 0) = day) {k : Nat} (hk : k < cN N (40 + 14 * x + 4)) : N (48 + 14 * x + k) ≠ g := by
  have h1 := (anyF_f _ _).mp h x (by omega) (by omega)
  have h1 : (decide (N (40 + 14 * x + 6) = 0) && decide (N (40 + 14 * x + 0) = day) && sLeads N x g) = false := h1
  rw [decide_eq_true q6, decide_eq_true q0, Bool.true_and, Bool.true_and] at h1
  exact leads_f h1 hk
theorem may_t {t g : Nat} (h : sMay N t g = true) : N (40 + 14 * t + 6) = 0 ∧ ¬ N (8 + 4 * g + 1) < N (40 + 14 * t + 0) ∧ sBusy N (nI g) (N (40 + 14 * t + 0)) = false := by
  unfold sMay at h
  rw [Bool.and_eq_true, Bool.and_eq_true] at h
  refine ⟨of_decide_eq_true h.1.1, ?_, ?_⟩
  · have := h.1.2
    rw [Bool.not_eq_true'] at this
    exact of_decide_eq_false this
  · have := h.2
    rw [Bool.not_eq_true'] at this
    exact this
theorem ld_ne {t g z : Nat} (h1 : z ≠ 48 + 14 * t + cN N (40 + 14 * t + 4)) (h2 : z ≠ 40 + 14 * t + 4) : ldN N t g z = N z := by
  unfold ldN; rw [up_ne h2, up_ne h1]
theorem mt_lead (M : MT N) (w : WQ N r) {t g : Nat} (ht : t < cN N 3) (hg : g < cN N 1) (hm : sMay N t g = true) (q2 : cN N (40 + 14 * t + 4) < 4) : MT (ldN N t g) := by
  have h10 := w.t10 ht
  have n1 := w.n1.2
  obtain ⟨s0, -, hb⟩ := may_t hm
  have e4 : cN (ldN N t g) (40 + 14 * t + 4) = cN N (40 + 14 * t + 4) + 1 := by unfold ldN; exact cN_eq rfl (by omega)
  have ek : ∀ k, k < cN N (40 + 14 * t + 4) → ldN N t g (48 + 14 * t + k) = N (48 + 14 * t + k) := fun k hk => ld_ne (by omega) (by omega)
  have en : ldN N t g (48 + 14 * t + cN N (40 + 14 * t + 4)) = nI g := by unfold ldN; rw [up_ne (by omega), up_eq]
  refine M.gen w (fun x => x = t) (ld_ne (by omega) (by omega)) (ld_ne (by omega) (by omega)) (ld_ne (by omega) (by omega)) (fun g hg => ⟨ld_ne (by omega) (by omega), ld_ne (by omega) (by omega)⟩) (fun x hx hne y hy => ld_ne (by omega) (by omega)) (fun x hx e => ?_)
  subst e
  have s0' : ldN N x g (40 + 14 * x + 6) = 0 := by rw [ld_ne (by omega) (by omega)]; exact s0
  have d0 : ldN N x g (40 + 14 * x + 0) = N (40 + 14 * x + 0) := ld_ne (by omega) (by omega)
  have e0 : ldN N x g 0 = N 0 := ld_ne (by omega) (by omega)
  refine ⟨s0, TI.op s0' (by rw [d0, e0]; exact (M.1 x hx).2.2.2.1 s0), by rw [s0']; decide, fun _ => ⟨?_, ?_⟩⟩
  · intro k hk y hy e
    rw [e4] at hk hy
    by_cases c1 : k < cN N (40 + 14 * x + 4)
    · by_cases c2 : y < cN N (40 + 14 * x + 4)
      · rw [ek k c1, ek y c2] at e
        exact M.2.1 x hx s0 k c1 y c2 e
      · have : y = cN N (40 + 14 * x + 4) := by omega
        rw [ek k c1, this, en] at e
        exact absurd e (busy_f hb hx s0 rfl c1)
    · have hk' : k = cN N (40 + 14 * x + 4) := by omega
      by_cases c2 : y < cN N (40 + 14 * x + 4)
      · rw [ek y c2, hk', en] at e
        exact absurd e.symm (busy_f hb hx s0 rfl c2)
      · omega
  · intro y hy hne q1 q2' q3 k hk z hz
    have b : ∀ v, v < 14 → ldN N x g (40 + 14 * y + v) = N (40 + 14 * y + v) := fun v hv => ld_ne (by omega) (by omega)
    rw [e4] at hk
    rw [cN_of (b 4 (by omega))] at hz
    have m4 := (w.many hy).2
    have bz := b (8 + z) (by omega)
    rw [show 40 + 14 * y + (8 + z) = 48 + 14 * y + z by omega] at bz
    rw [b 6 (by omega)] at q2'
    rw [b 0 (by omega), d0] at q3
    rw [bz]
    by_cases c1 : k < cN N (40 + 14 * x + 4)
    · rw [ek k c1]
      exact M.2.2.1 x hx y hy hne s0 q2' q3 k c1 z hz
    · have hk' : k = cN N (40 + 14 * x + 4) := by omega
      rw [hk', en]
      exact busy_f hb hy q2' q3 hz
end MIS
