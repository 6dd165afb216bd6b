/-! one write of both, and what stands for what -/
section STEP
variable {i : Nat → Nat → Int32} {j : Nat → Nat → Int64} {d : Nat → Nat → UInt64} {p : Nat} {N : Nat → Int32} {r : Nat → UInt64} {B : Nat}
theorem up_ne {N : Nat → Int32} {k x : Nat} {v : Int32} (h : x ≠ k) : upd N k v x = N x := pk_un h
theorem up_eq {N : Nat → Int32} {k : Nat} {v : Int32} : upd N k v k = v := pk_us
theorem cN_ne {N : Nat → Int32} {k x : Nat} {v : Int32} (h : x ≠ k) : cN (upd N k v) x = cN N x := by unfold cN; rw [up_ne h]
theorem cN_eq {N : Nat → Int32} {k n : Nat} {v : Int32} (e : v = nI n) (h : n < 2 ^ 31) : cN (upd N k v) k = n := by unfold cN; rw [up_eq, e]; exact nI_clamp h
theorem vp_ne {r : Nat → UInt64} {k x : Nat} {v : UInt64} (h : x ≠ k) : vf_upd r k v x = r x := if_neg h
theorem vp_eq {r : Nat → UInt64} {k : Nat} {v : UInt64} : vf_upd r k v k = v := if_pos rfl
theorem Rep.w1 (a : Rep i j d p N r) (w : WQ N r) {t : Nat} (ht : t < 10) (v : Int32) : Rep (u2 i (p + 12 + 2 * t) 1 v) j d p (upd N (40 + 14 * t + 0) v) r := by
  have c1 : cN (upd N (40 + 14 * t + 0) v) 1 = cN N 1 := cN_ne (by omega)
  have c3 : cN (upd N (40 + 14 * t + 0) v) 3 = cN N 3 := cN_ne (by omega)
  refine ⟨⟨by rw [u2_row _ _ (show p ≠ _ by omega), up_ne (by omega)]; exact a.f3, by rw [u2_row _ _ (show p ≠ _ by omega), up_ne (by omega)]; exact a.f4, by rw [u2_row _ _ (show p ≠ _ by omega), up_ne (by omega)]; exact a.f5, by rw [u2_row _ _ (show p ≠ _ by omega), up_ne (by omega)]; exact a.f6, by rw [u2_row _ _ (show p ≠ _ by omega), up_ne (by omega)]; exact a.f9, a.f7, a.f8⟩, fun g hg k hk => ?_, fun b hb => a.b hb, fun q hq => ?_⟩
  · rw [c1] at hg
    have := w.n1.2
    rw [u2_row _ _ (by omega), up_ne (by omega)]; exact a.g hg hk
  · rw [c3] at hq
    have h10 := w.t10 hq
    have cm : cN (upd N (40 + 14 * t + 0) v) (40 + 14 * q + 4) = cN N (40 + 14 * q + 4) := cN_ne (by omega)
    have m4 := (w.many hq).2
    by_cases e : q = t
    · subst e
      refine ⟨⟨by rw [u2_self, up_eq], by rw [u2_nek _ _ (by decide), up_ne (by omega)]; exact a.t4 hq, by rw [u2_nek _ _ (by decide), up_ne (by omega)]; exact a.t5 hq, by rw [u2_nek _ _ (by decide), up_ne (by omega)]; exact a.t6 hq, by rw [u2_nek _ _ (by decide), up_ne (by omega)]; exact a.t7 hq, by rw [u2_nek _ _ (by decide), up_ne (by omega)]; exact a.t8 hq, by rw [u2_nek _ _ (by decide), up_ne (by omega)]; exact a.t9 hq, by rw [u2_nek _ _ (by decide), up_ne (by omega)]; exact a.t10 hq⟩, ⟨a.t2 hq, by rw [u2_nek _ _ (by decide)]; exact a.t3 hq⟩, fun k hk => ?_⟩
      rw [cm] at hk
      rw [u2_row _ _ (by omega), up_ne (by omega)]; exact a.tr hq hk
    · have := a.t hq
      refine ⟨⟨by rw [u2_row _ _ (by omega), up_ne (by omega)]; exact a.t1 hq, by rw [u2_row _ _ (by omega), up_ne (by omega)]; exact a.t4 hq, by rw [u2_row _ _ (by omega), up_ne (by omega)]; exact a.t5 hq, by rw [u2_row _ _ (by omega), up_ne (by omega)]; exact a.t6 hq, by rw [u2_row _ _ (by omega), up_ne (by omega)]; exact a.t7 hq, by rw [u2_row _ _ (by omega), up_ne (by omega)]; exact a.t8 hq, by rw [u2_row _ _ (by omega), up_ne (by omega)]; exact a.t9 hq, by rw [u2_row _ _ (by omega), up_ne (by omega)]; exact a.t10 hq⟩, ⟨a.t2 hq, by rw [u2_row _ _ (by omega)]; exact a.t3 hq⟩, fun k hk => ?_⟩
      rw [cm] at hk
      rw [u2_row _ _ (by omega), up_ne (by omega)]; exact a.tr hq hk
theorem Rep.w4 (a : Rep i j d p N r) (w : WQ N r) {t : Nat} (ht : t < 10) (v : Int32) : Rep (u2 i (p + 12 + 2 * t) 4 v) j d p (upd N (40 + 14 * t + 1) v) r := by
  have c1 : cN (upd N (40 + 14 * t + 1) v) 1 = cN N 1 := cN_ne (by omega)
  have c3 : cN (upd N (40 + 14 * t + 1) v) 3 = cN N 3 := cN_ne (by omega)
  refine ⟨⟨by rw [u2_row _ _ (show p ≠ _ by omega), up_ne (by omega)]; exact a.f3, by rw [u2_row _ _ (show p ≠ _ by omega), up_ne (by omega)]; exact a.f4, by rw [u2_row _ _ (show p ≠ _ by omega), up_ne (by omega)]; exact a.f5, by rw [u2_row _ _ (show p ≠ _ by omega), up_ne (by omega)]; exact a.f6, by rw [u2_row _ _ (show p ≠ _ by omega), up_ne (by omega)]; exact a.f9, a.f7, a.f8⟩, fun g hg k hk => ?_, fun b hb => a.b hb, fun q hq => ?_⟩
  · rw [c1] at hg
    have := w.n1.2
    rw [u2_row _ _ (by omega), up_ne (by omega)]; exact a.g hg hk
  · rw [c3] at hq
    have h10 := w.t10 hq
    have cm : cN (upd N (40 + 14 * t + 1) v) (40 + 14 * q + 4) = cN N (40 + 14 * q + 4) := cN_ne (by omega)
    have m4 := (w.many hq).2
    by_cases e : q = t
    · subst e
      refine ⟨⟨by rw [u2_nek _ _ (by decide), up_ne (by omega)]; exact a.t1 hq, by rw [u2_self, up_eq], by rw [u2_nek _ _ (by decide), up_ne (by omega)]; exact a.t5 hq, by rw [u2_nek _ _ (by decide), up_ne (by omega)]; exact a.t6 hq, by rw [u2_nek _ _ (by decide), up_ne (by omega)]; exact a.t7 hq, by rw [u2_nek _ _ (by decide), up_ne (by omega)]; exact a.t8 hq, by rw [u2_nek _ _ (by decide), up_ne (by omega)]; exact a.t9 hq, by rw [u2_nek _ _ (by decide), up_ne (by omega)]; exact a.t10 hq⟩, ⟨a.t2 hq, by rw [u2_nek _ _ (by decide)]; exact a.t3 hq⟩, fun k hk => ?_⟩
      rw [cm] at hk
      rw [u2_row _ _ (by omega), up_ne (by omega)]; exact a.tr hq hk
    · have := a.t hq
      refine ⟨⟨by rw [u2_row _ _ (by omega), up_ne (by omega)]; exact a.t1 hq, by rw [u2_row _ _ (by omega), up_ne (by omega)]; exact a.t4 hq, by rw [u2_row _ _ (by omega), up_ne (by omega)]; exact a.t5 hq, by rw [u2_row _ _ (by omega), up_ne (by omega)]; exact a.t6 hq, by rw [u2_row _ _ (by omega), up_ne (by omega)]; exact a.t7 hq, by rw [u2_row _ _ (by omega), up_ne (by omega)]; exact a.t8 hq, by rw [u2_row _ _ (by omega), up_ne (by omega)]; exact a.t9 hq, by rw [u2_row _ _ (by omega), up_ne (by omega)]; exact a.t10 hq⟩, ⟨a.t2 hq, by rw [u2_row _ _ (by omega)]; exact a.t3 hq⟩, fun k hk => ?_⟩
      rw [cm] at hk
      rw [u2_row _ _ (by omega), up_ne (by omega)]; exact a.tr hq hk
theorem Rep.w5 (a : Rep i j d p N r) (w : WQ N r) {t : Nat} (ht : t < 10) (v : Int32) : Rep (u2 i (p + 12 + 2 * t) 5 v) j d p (upd N (40 + 14 * t + 2) v) r := by
  have c1 : cN (upd N (40 + 14 * t + 2) v) 1 = cN N 1 := cN_ne (by omega)
  have c3 : cN (upd N (40 + 14 * t + 2) v) 3 = cN N 3 := cN_ne (by omega)
  refine ⟨⟨by rw [u2_row _ _ (show p ≠ _ by omega), up_ne (by omega)]; exact a.f3, by rw [u2_row _ _ (show p ≠ _ by omega), up_ne (by omega)]; exact a.f4, by rw [u2_row _ _ (show p ≠ _ by omega), up_ne (by omega)]; exact a.f5, by rw [u2_row _ _ (show p ≠ _ by omega), up_ne (by omega)]; exact a.f6, by rw [u2_row _ _ (show p ≠ _ by omega), up_ne (by omega)]; exact a.f9, a.f7, a.f8⟩, fun g hg k hk => ?_, fun b hb => a.b hb, fun q hq => ?_⟩
  · rw [c1] at hg
    have := w.n1.2
    rw [u2_row _ _ (by omega), up_ne (by omega)]; exact a.g hg hk
  · rw [c3] at hq
    have h10 := w.t10 hq
    have cm : cN (upd N (40 + 14 * t + 2) v) (40 + 14 * q + 4) = cN N (40 + 14 * q + 4) := cN_ne (by omega)
    have m4 := (w.many hq).2
    by_cases e : q = t
    · subst e
      refine ⟨⟨by rw [u2_nek _ _ (by decide), up_ne (by omega)]; exact a.t1 hq, by rw [u2_nek _ _ (by decide), up_ne (by omega)]; exact a.t4 hq, by rw [u2_self, up_eq], by rw [u2_nek _ _ (by decide), up_ne (by omega)]; exact a.t6 hq, by rw [u2_nek _ _ (by decide), up_ne (by omega)]; exact a.t7 hq, by rw [u2_nek _ _ (by decide), up_ne (by omega)]; exact a.t8 hq, by rw [u2_nek _ _ (by decide), up_ne (by omega)]; exact a.t9 hq, by rw [u2_nek _ _ (by decide), up_ne (by omega)]; exact a.t10 hq⟩, ⟨a.t2 hq, by rw [u2_nek _ _ (by decide)]; exact a.t3 hq⟩, fun k hk => ?_⟩
      rw [cm] at hk
      rw [u2_row _ _ (by omega), up_ne (by omega)]; exact a.tr hq hk
    · have := a.t hq
      refine ⟨⟨by rw [u2_row _ _ (by omega), up_ne (by omega)]; exact a.t1 hq, by rw [u2_row _ _ (by omega), up_ne (by omega)]; exact a.t4 hq, by rw [u2_row _ _ (by omega), up_ne (by omega)]; exact a.t5 hq, by rw [u2_row _ _ (by omega), up_ne (by omega)]; exact a.t6 hq, by rw [u2_row _ _ (by omega), up_ne (by omega)]; exact a.t7 hq, by rw [u2_row _ _ (by omega), up_ne (by omega)]; exact a.t8 hq, by rw [u2_row _ _ (by omega), up_ne (by omega)]; exact a.t9 hq, by rw [u2_row _ _ (by omega), up_ne (by omega)]; exact a.t10 hq⟩, ⟨a.t2 hq, by rw [u2_row _ _ (by omega)]; exact a.t3 hq⟩, fun k hk => ?_⟩
      rw [cm] at hk
      rw [u2_row _ _ (by omega), up_ne (by omega)]; exact a.tr hq hk
theorem Rep.w6 (a : Rep i j d p N r) (w : WQ N r) {t : Nat} (ht : t < 10) (v : Int32) : Rep (u2 i (p + 12 + 2 * t) 6 v) j d p (upd N (40 + 14 * t + 3) v) r := by
  have c1 : cN (upd N (40 + 14 * t + 3) v) 1 = cN N 1 := cN_ne (by omega)
  have c3 : cN (upd N (40 + 14 * t + 3) v) 3 = cN N 3 := cN_ne (by omega)
  refine ⟨⟨by rw [u2_row _ _ (show p ≠ _ by omega), up_ne (by omega)]; exact a.f3, by rw [u2_row _ _ (show p ≠ _ by omega), up_ne (by omega)]; exact a.f4, by rw [u2_row _ _ (show p ≠ _ by omega), up_ne (by omega)]; exact a.f5, by rw [u2_row _ _ (show p ≠ _ by omega), up_ne (by omega)]; exact a.f6, by rw [u2_row _ _ (show p ≠ _ by omega), up_ne (by omega)]; exact a.f9, a.f7, a.f8⟩, fun g hg k hk => ?_, fun b hb => a.b hb, fun q hq => ?_⟩
  · rw [c1] at hg
    have := w.n1.2
    rw [u2_row _ _ (by omega), up_ne (by omega)]; exact a.g hg hk
  · rw [c3] at hq
    have h10 := w.t10 hq
    have cm : cN (upd N (40 + 14 * t + 3) v) (40 + 14 * q + 4) = cN N (40 + 14 * q + 4) := cN_ne (by omega)
    have m4 := (w.many hq).2
    by_cases e : q = t
    · subst e
      refine ⟨⟨by rw [u2_nek _ _ (by decide), up_ne (by omega)]; exact a.t1 hq, by rw [u2_nek _ _ (by decide), up_ne (by omega)]; exact a.t4 hq, by rw [u2_nek _ _ (by decide), up_ne (by omega)]; exact a.t5 hq, by rw [u2_self, up_eq], by rw [u2_nek _ _ (by decide), up_ne (by omega)]; exact a.t7 hq, by rw [u2_nek _ _ (by decide), up_ne (by omega)]; exact a.t8 hq, by rw [u2_nek _ _ (by decide), up_ne (by omega)]; exact a.t9 hq, by rw [u2_nek _ _ (by decide), up_ne (by omega)]; exact a.t10 hq⟩, ⟨a.t2 hq, by rw [u2_nek _ _ (by decide)]; exact a.t3 hq⟩, fun k hk => ?_⟩
      rw [cm] at hk
      rw [u2_row _ _ (by omega), up_ne (by omega)]; exact a.tr hq hk
    · have := a.t hq
      refine ⟨⟨by rw [u2_row _ _ (by omega), up_ne (by omega)]; exact a.t1 hq, by rw [u2_row _ _ (by omega), up_ne (by omega)]; exact a.t4 hq, by rw [u2_row _ _ (by omega), up_ne (by omega)]; exact a.t5 hq, by rw [u2_row _ _ (by omega), up_ne (by omega)]; exact a.t6 hq, by rw [u2_row _ _ (by omega), up_ne (by omega)]; exact a.t7 hq, by rw [u2_row _ _ (by omega), up_ne (by omega)]; exact a.t8 hq, by rw [u2_row _ _ (by omega), up_ne (by omega)]; exact a.t9 hq, by rw [u2_row _ _ (by omega), up_ne (by omega)]; exact a.t10 hq⟩, ⟨a.t2 hq, by rw [u2_row _ _ (by omega)]; exact a.t3 hq⟩, fun k hk => ?_⟩
      rw [cm] at hk
      rw [u2_row _ _ (by omega), up_ne (by omega)]; exact a.tr hq hk
theorem Rep.w8 (a : Rep i j d p N r) (w : WQ N r) {t : Nat} (ht : t < 10) (v : Int32) : Rep (u2 i (p + 12 + 2 * t) 8 v) j d p (upd N (40 + 14 * t + 5) v) r := by
  have c1 : cN (upd N (40 + 14 * t + 5) v) 1 = cN N 1 := cN_ne (by omega)
  have c3 : cN (upd N (40 + 14 * t + 5) v) 3 = cN N 3 := cN_ne (by omega)
  refine ⟨⟨by rw [u2_row _ _ (show p ≠ _ by omega), up_ne (by omega)]; exact a.f3, by rw [u2_row _ _ (show p ≠ _ by omega), up_ne (by omega)]; exact a.f4, by rw [u2_row _ _ (show p ≠ _ by omega), up_ne (by omega)]; exact a.f5, by rw [u2_row _ _ (show p ≠ _ by omega), up_ne (by omega)]; exact a.f6, by rw [u2_row _ _ (show p ≠ _ by omega), up_ne (by omega)]; exact a.f9, a.f7, a.f8⟩, fun g hg k hk => ?_, fun b hb => a.b hb, fun q hq => ?_⟩
  · rw [c1] at hg
    have := w.n1.2
    rw [u2_row _ _ (by omega), up_ne (by omega)]; exact a.g hg hk
  · rw [c3] at hq
    have h10 := w.t10 hq
    have cm : cN (upd N (40 + 14 * t + 5) v) (40 + 14 * q + 4) = cN N (40 + 14 * q + 4) := cN_ne (by omega)
    have m4 := (w.many hq).2
    by_cases e : q = t
    · subst e
      refine ⟨⟨by rw [u2_nek _ _ (by decide), up_ne (by omega)]; exact a.t1 hq, by rw [u2_nek _ _ (by decide), up_ne (by omega)]; exact a.t4 hq, by rw [u2_nek _ _ (by decide), up_ne (by omega)]; exact a.t5 hq, by rw [u2_nek _ _ (by decide), up_ne (by omega)]; exact a.t6 hq, by rw [u2_nek _ _ (by decide), up_ne (by omega)]; exact a.t7 hq, by rw [u2_self, up_eq], by rw [u2_nek _ _ (by decide), up_ne (by omega)]; exact a.t9 hq, by rw [u2_nek _ _ (by decide), up_ne (by omega)]; exact a.t10 hq⟩, ⟨a.t2 hq, by rw [u2_nek _ _ (by decide)]; exact a.t3 hq⟩, fun k hk => ?_⟩
      rw [cm] at hk
      rw [u2_row _ _ (by omega), up_ne (by omega)]; exact a.tr hq hk
    · have := a.t hq
      refine ⟨⟨by rw [u2_row _ _ (by omega), up_ne (by omega)]; exact a.t1 hq, by rw [u2_row _ _ (by omega), up_ne (by omega)]; exact a.t4 hq, by rw [u2_row _ _ (by omega), up_ne (by omega)]; exact a.t5 hq, by rw [u2_row _ _ (by omega), up_ne (by omega)]; exact a.t6 hq, by rw [u2_row _ _ (by omega), up_ne (by omega)]; exact a.t7 hq, by rw [u2_row _ _ (by omega), up_ne (by omega)]; exact a.t8 hq, by rw [u2_row _ _ (by omega), up_ne (by omega)]; exact a.t9 hq, by rw [u2_row _ _ (by omega), up_ne (by omega)]; exact a.t10 hq⟩, ⟨a.t2 hq, by rw [u2_row _ _ (by omega)]; exact a.t3 hq⟩, fun k hk => ?_⟩
      rw [cm] at hk
      rw [u2_row _ _ (by omega), up_ne (by omega)]; exact a.tr hq hk
theorem Rep.w9 (a : Rep i j d p N r) (w : WQ N r) {t : Nat} (ht : t < 10) (v : Int32) : Rep (u2 i (p + 12 + 2 * t) 9 v) j d p (upd N (40 + 14 * t + 6) v) r := by
  have c1 : cN (upd N (40 + 14 * t + 6) v) 1 = cN N 1 := cN_ne (by omega)
  have c3 : cN (upd N (40 + 14 * t + 6) v) 3 = cN N 3 := cN_ne (by omega)
  refine ⟨⟨by rw [u2_row _ _ (show p ≠ _ by omega), up_ne (by omega)]; exact a.f3, by rw [u2_row _ _ (show p ≠ _ by omega), up_ne (by omega)]; exact a.f4, by rw [u2_row _ _ (show p ≠ _ by omega), up_ne (by omega)]; exact a.f5, by rw [u2_row _ _ (show p ≠ _ by omega), up_ne (by omega)]; exact a.f6, by rw [u2_row _ _ (show p ≠ _ by omega), up_ne (by omega)]; exact a.f9, a.f7, a.f8⟩, fun g hg k hk => ?_, fun b hb => a.b hb, fun q hq => ?_⟩
  · rw [c1] at hg
    have := w.n1.2
    rw [u2_row _ _ (by omega), up_ne (by omega)]; exact a.g hg hk
  · rw [c3] at hq
    have h10 := w.t10 hq
    have cm : cN (upd N (40 + 14 * t + 6) v) (40 + 14 * q + 4) = cN N (40 + 14 * q + 4) := cN_ne (by omega)
    have m4 := (w.many hq).2
    by_cases e : q = t
    · subst e
      refine ⟨⟨by rw [u2_nek _ _ (by decide), up_ne (by omega)]; exact a.t1 hq, by rw [u2_nek _ _ (by decide), up_ne (by omega)]; exact a.t4 hq, by rw [u2_nek _ _ (by decide), up_ne (by omega)]; exact a.t5 hq, by rw [u2_nek _ _ (by decide), up_ne (by omega)]; exact a.t6 hq, by rw [u2_nek _ _ (by decide), up_ne (by omega)]; exact a.t7 hq, by rw [u2_nek _ _ (by decide), up_ne (by omega)]; exact a.t8 hq, by rw [u2_self, up_eq], by rw [u2_nek _ _ (by decide), up_ne (by omega)]; exact a.t10 hq⟩, ⟨a.t2 hq, by rw [u2_nek _ _ (by decide)]; exact a.t3 hq⟩, fun k hk => ?_⟩
      rw [cm] at hk
      rw [u2_row _ _ (by omega), up_ne (by omega)]; exact a.tr hq hk
    · have := a.t hq
      refine ⟨⟨by rw [u2_row _ _ (by omega), up_ne (by omega)]; exact a.t1 hq, by rw [u2_row _ _ (by omega), up_ne (by omega)]; exact a.t4 hq, by rw [u2_row _ _ (by omega), up_ne (by omega)]; exact a.t5 hq, by rw [u2_row _ _ (by omega), up_ne (by omega)]; exact a.t6 hq, by rw [u2_row _ _ (by omega), up_ne (by omega)]; exact a.t7 hq, by rw [u2_row _ _ (by omega), up_ne (by omega)]; exact a.t8 hq, by rw [u2_row _ _ (by omega), up_ne (by omega)]; exact a.t9 hq, by rw [u2_row _ _ (by omega), up_ne (by omega)]; exact a.t10 hq⟩, ⟨a.t2 hq, by rw [u2_row _ _ (by omega)]; exact a.t3 hq⟩, fun k hk => ?_⟩
      rw [cm] at hk
      rw [u2_row _ _ (by omega), up_ne (by omega)]; exact a.tr hq hk
theorem Rep.w10 (a : Rep i j d p N r) (w : WQ N r) {t : Nat} (ht : t < 10) (v : Int32) : Rep (u2 i (p + 12 + 2 * t) 10 v) j d p (upd N (40 + 14 * t + 7) v) r := by
  have c1 : cN (upd N (40 + 14 * t + 7) v) 1 = cN N 1 := cN_ne (by omega)
  have c3 : cN (upd N (40 + 14 * t + 7) v) 3 = cN N 3 := cN_ne (by omega)
  refine ⟨⟨by rw [u2_row _ _ (show p ≠ _ by omega), up_ne (by omega)]; exact a.f3, by rw [u2_row _ _ (show p ≠ _ by omega), up_ne (by omega)]; exact a.f4, by rw [u2_row _ _ (show p ≠ _ by omega), up_ne (by omega)]; exact a.f5, by rw [u2_row _ _ (show p ≠ _ by omega), up_ne (by omega)]; exact a.f6, by rw [u2_row _ _ (show p ≠ _ by omega), up_ne (by omega)]; exact a.f9, a.f7, a.f8⟩, fun g hg k hk => ?_, fun b hb => a.b hb, fun q hq => ?_⟩
  · rw [c1] at hg
    have := w.n1.2
    rw [u2_row _ _ (by omega), up_ne (by omega)]; exact a.g hg hk
  · rw [c3] at hq
    have h10 := w.t10 hq
    have cm : cN (upd N (40 + 14 * t + 7) v) (40 + 14 * q + 4) = cN N (40 + 14 * q + 4) := cN_ne (by omega)
    have m4 := (w.many hq).2
    by_cases e : q = t
    · subst e
      refine ⟨⟨by rw [u2_nek _ _ (by decide), up_ne (by omega)]; exact a.t1 hq, by rw [u2_nek _ _ (by decide), up_ne (by omega)]; exact a.t4 hq, by rw [u2_nek _ _ (by decide), up_ne (by omega)]; exact a.t5 hq, by rw [u2_nek _ _ (by decide), up_ne (by omega)]; exact a.t6 hq, by rw [u2_nek _ _ (by decide), up_ne (by omega)]; exact a.t7 hq, by rw [u2_nek _ _ (by decide), up_ne (by omega)]; exact a.t8 hq, by rw [u2_nek _ _ (by decide), up_ne (by omega)]; exact a.t9 hq, by rw [u2_self, up_eq]⟩, ⟨a.t2 hq, by rw [u2_nek _ _ (by decide)]; exact a.t3 hq⟩, fun k hk => ?_⟩
      rw [cm] at hk
      rw [u2_row _ _ (by omega), up_ne (by omega)]; exact a.tr hq hk
    · have := a.t hq
      refine ⟨⟨by rw [u2_row _ _ (by omega), up_ne (by omega)]; exact a.t1 hq, by rw [u2_row _ _ (by omega), up_ne (by omega)]; exact a.t4 hq, by rw [u2_row _ _ (by omega), up_ne (by omega)]; exact a.t5 hq, by rw [u2_row _ _ (by omega), up_ne (by omega)]; exact a.t6 hq, by rw [u2_row _ _ (by omega), up_ne (by omega)]; exact a.t7 hq, by rw [u2_row _ _ (by omega), up_ne (by omega)]; exact a.t8 hq, by rw [u2_row _ _ (by omega), up_ne (by omega)]; exact a.t9 hq, by rw [u2_row _ _ (by omega), up_ne (by omega)]; exact a.t10 hq⟩, ⟨a.t2 hq, by rw [u2_row _ _ (by omega)]; exact a.t3 hq⟩, fun k hk => ?_⟩
      rw [cm] at hk
      rw [u2_row _ _ (by omega), up_ne (by omega)]; exact a.tr hq hk
theorem Rep.w7 (a : Rep i j d p N r) (w : WQ N r) {t : Nat} (ht : t < 10) {n : Nat} (hn : n ≤ 4) (v : Int32) (hv : v = nI n) (hrow : t < cN N 3 → ∀ k, k < n → i (p + 13 + 2 * t) k = N (48 + 14 * t + k)) : Rep (u2 i (p + 12 + 2 * t) 7 v) j d p (upd N (40 + 14 * t + 4) v) r := by
  have c1 : cN (upd N (40 + 14 * t + 4) v) 1 = cN N 1 := cN_ne (by omega)
  have c3 : cN (upd N (40 + 14 * t + 4) v) 3 = cN N 3 := cN_ne (by omega)
  refine ⟨⟨by rw [u2_row _ _ (show p ≠ _ by omega), up_ne (by omega)]; exact a.f3, by rw [u2_row _ _ (show p ≠ _ by omega), up_ne (by omega)]; exact a.f4, by rw [u2_row _ _ (show p ≠ _ by omega), up_ne (by omega)]; exact a.f5, by rw [u2_row _ _ (show p ≠ _ by omega), up_ne (by omega)]; exact a.f6, by rw [u2_row _ _ (show p ≠ _ by omega), up_ne (by omega)]; exact a.f9, a.f7, a.f8⟩, fun g hg k hk => ?_, fun b hb => a.b hb, fun q hq => ?_⟩
  · rw [c1] at hg
    have := w.n1.2
    rw [u2_row _ _ (by omega), up_ne (by omega)]; exact a.g hg hk
  · rw [c3] at hq
    have h10 := w.t10 hq
    have m4 := (w.many hq).2
    by_cases e : q = t
    · subst e
      refine ⟨⟨by rw [u2_nek _ _ (by decide), up_ne (by omega)]; exact a.t1 hq, by rw [u2_nek _ _ (by decide), up_ne (by omega)]; exact a.t4 hq, by rw [u2_nek _ _ (by decide), up_ne (by omega)]; exact a.t5 hq, by rw [u2_nek _ _ (by decide), up_ne (by omega)]; exact a.t6 hq, by rw [u2_self, up_eq], by rw [u2_nek _ _ (by decide), up_ne (by omega)]; exact a.t8 hq, by rw [u2_nek _ _ (by decide), up_ne (by omega)]; exact a.t9 hq, by rw [u2_nek _ _ (by decide), up_ne (by omega)]; exact a.t10 hq⟩, ⟨a.t2 hq, by rw [u2_nek _ _ (by decide)]; exact a.t3 hq⟩, fun k hk => ?_⟩
      rw [cN_eq hv (by omega)] at hk
      rw [u2_row _ _ (by omega), up_ne (by omega)]; exact hrow hq k hk
    · have cm : cN (upd N (40 + 14 * t + 4) v) (40 + 14 * q + 4) = cN N (40 + 14 * q + 4) := cN_ne (by omega)
      refine ⟨⟨by rw [u2_row _ _ (by omega), up_ne (by omega)]; exact a.t1 hq, by rw [u2_row _ _ (by omega), up_ne (by omega)]; exact a.t4 hq, by rw [u2_row _ _ (by omega), up_ne (by omega)]; exact a.t5 hq, by rw [u2_row _ _ (by omega), up_ne (by omega)]; exact a.t6 hq, by rw [u2_row _ _ (by omega), up_ne (by omega)]; exact a.t7 hq, by rw [u2_row _ _ (by omega), up_ne (by omega)]; exact a.t8 hq, by rw [u2_row _ _ (by omega), up_ne (by omega)]; exact a.t9 hq, by rw [u2_row _ _ (by omega), up_ne (by omega)]; exact a.t10 hq⟩, ⟨a.t2 hq, by rw [u2_row _ _ (by omega)]; exact a.t3 hq⟩, fun k hk => ?_⟩
      rw [cm] at hk
      rw [u2_row _ _ (by omega), up_ne (by omega)]; exact a.tr hq hk
theorem Rep.wr (a : Rep i j d p N r) (w : WQ N r) {t k : Nat} (ht : t < 10) (hk : k < 4) (v : Int32) : Rep (u2 i (p + 13 + 2 * t) k v) j d p (upd N (48 + 14 * t + k) v) r := by
  have c1 : cN (upd N (48 + 14 * t + k) v) 1 = cN N 1 := cN_ne (by omega)
  have c3 : cN (upd N (48 + 14 * t + k) v) 3 = cN N 3 := cN_ne (by omega)
  refine ⟨⟨by rw [u2_row _ _ (show p ≠ _ by omega), up_ne (by omega)]; exact a.f3, by rw [u2_row _ _ (show p ≠ _ by omega), up_ne (by omega)]; exact a.f4, by rw [u2_row _ _ (show p ≠ _ by omega), up_ne (by omega)]; exact a.f5, by rw [u2_row _ _ (show p ≠ _ by omega), up_ne (by omega)]; exact a.f6, by rw [u2_row _ _ (show p ≠ _ by omega), up_ne (by omega)]; exact a.f9, a.f7, a.f8⟩, fun g hg x hx => ?_, fun b hb => a.b hb, fun q hq => ?_⟩
  · rw [c1] at hg
    have := w.n1.2
    rw [u2_row _ _ (by omega), up_ne (by omega)]; exact a.g hg hx
  · rw [c3] at hq
    have h10 := w.t10 hq
    have m4 := (w.many hq).2
    have cm : cN (upd N (48 + 14 * t + k) v) (40 + 14 * q + 4) = cN N (40 + 14 * q + 4) := cN_ne (by omega)
    refine ⟨⟨by rw [u2_row _ _ (by omega), up_ne (by omega)]; exact a.t1 hq, by rw [u2_row _ _ (by omega), up_ne (by omega)]; exact a.t4 hq, by rw [u2_row _ _ (by omega), up_ne (by omega)]; exact a.t5 hq, by rw [u2_row _ _ (by omega), up_ne (by omega)]; exact a.t6 hq, by rw [u2_row _ _ (by omega), up_ne (by omega)]; exact a.t7 hq, by rw [u2_row _ _ (by omega), up_ne (by omega)]; exact a.t8 hq, by rw [u2_row _ _ (by omega), up_ne (by omega)]; exact a.t9 hq, by rw [u2_row _ _ (by omega), up_ne (by omega)]; exact a.t10 hq⟩, ⟨a.t2 hq, by rw [u2_row _ _ (by omega)]; exact a.t3 hq⟩, fun x hx => ?_⟩
    rw [cm] at hx
    by_cases e : q = t ∧ x = k
    · obtain ⟨rfl, rfl⟩ := e
      rw [u2_self, up_eq]
    · rw [up_ne (by omega)]
      by_cases e2 : q = t
      · rw [u2_nek _ _ (fun z => e ⟨e2, z⟩)]; exact a.tr hq hx
      · rw [u2_row _ _ (by omega)]; exact a.tr hq hx
theorem Rep.wg (a : Rep i j d p N r) (w : WQ N r) {g k : Nat} (hg8 : g < 8) (hk : k < 4) (v : Int32) : Rep (u2 i (p + 2 + g) k v) j d p (upd N (8 + 4 * g + k) v) r := by
  have c1 : cN (upd N (8 + 4 * g + k) v) 1 = cN N 1 := cN_ne (by omega)
  have c3 : cN (upd N (8 + 4 * g + k) v) 3 = cN N 3 := cN_ne (by omega)
  refine ⟨⟨by rw [u2_row _ _ (show p ≠ _ by omega), up_ne (by omega)]; exact a.f3, by rw [u2_row _ _ (show p ≠ _ by omega), up_ne (by omega)]; exact a.f4, by rw [u2_row _ _ (show p ≠ _ by omega), up_ne (by omega)]; exact a.f5, by rw [u2_row _ _ (show p ≠ _ by omega), up_ne (by omega)]; exact a.f6, by rw [u2_row _ _ (show p ≠ _ by omega), up_ne (by omega)]; exact a.f9, a.f7, a.f8⟩, fun q hq x hx => ?_, fun b hb => a.b hb, fun q hq => ?_⟩
  · rw [c1] at hq
    have := w.n1.2
    by_cases e : q = g ∧ x = k
    · obtain ⟨rfl, rfl⟩ := e
      rw [u2_self, up_eq]
    · rw [up_ne (by omega)]
      by_cases e2 : q = g
      · rw [u2_nek _ _ (fun z => e ⟨e2, z⟩)]; exact a.g hq hx
      · rw [u2_row _ _ (by omega)]; exact a.g hq hx
  · rw [c3] at hq
    have h10 := w.t10 hq
    have m4 := (w.many hq).2
    have cm : cN (upd N (8 + 4 * g + k) v) (40 + 14 * q + 4) = cN N (40 + 14 * q + 4) := cN_ne (by omega)
    refine ⟨⟨by rw [u2_row _ _ (by omega), up_ne (by omega)]; exact a.t1 hq, by rw [u2_row _ _ (by omega), up_ne (by omega)]; exact a.t4 hq, by rw [u2_row _ _ (by omega), up_ne (by omega)]; exact a.t5 hq, by rw [u2_row _ _ (by omega), up_ne (by omega)]; exact a.t6 hq, by rw [u2_row _ _ (by omega), up_ne (by omega)]; exact a.t7 hq, by rw [u2_row _ _ (by omega), up_ne (by omega)]; exact a.t8 hq, by rw [u2_row _ _ (by omega), up_ne (by omega)]; exact a.t9 hq, by rw [u2_row _ _ (by omega), up_ne (by omega)]; exact a.t10 hq⟩, ⟨a.t2 hq, by rw [u2_row _ _ (by omega)]; exact a.t3 hq⟩, fun x hx => ?_⟩
    rw [cm] at hx
    rw [u2_row _ _ (by omega), up_ne (by omega)]; exact a.tr hq hx
theorem Rep.s6 (a : Rep i j d p N r) (w : WQ N r) (v : Int32) : Rep (u2 i p 6 v) j d p (upd N 0 v) r := by
  have c1 : cN (upd N 0 v) 1 = cN N 1 := cN_ne (by decide)
  have c3 : cN (upd N 0 v) 3 = cN N 3 := cN_ne (by decide)
  refine ⟨⟨by rw [u2_nek _ _ (by decide), up_ne (by decide)]; exact a.f3, by rw [u2_nek _ _ (by decide), up_ne (by decide)]; exact a.f4, by rw [u2_nek _ _ (by decide), up_ne (by decide)]; exact a.f5, by rw [u2_self, up_eq], by rw [u2_nek _ _ (by decide), up_ne (by decide)]; exact a.f9, a.f7, a.f8⟩, fun q hq x hx => ?_, fun b hb => a.b hb, fun q hq => ?_⟩
  · rw [c1] at hq
    rw [u2_row _ _ (by omega), up_ne (by omega)]; exact a.g hq hx
  · rw [c3] at hq
    have cm : cN (upd N 0 v) (40 + 14 * q + 4) = cN N (40 + 14 * q + 4) := cN_ne (by omega)
    refine ⟨⟨by rw [u2_row _ _ (by omega), up_ne (by omega)]; exact a.t1 hq, by rw [u2_row _ _ (by omega), up_ne (by omega)]; exact a.t4 hq, by rw [u2_row _ _ (by omega), up_ne (by omega)]; exact a.t5 hq, by rw [u2_row _ _ (by omega), up_ne (by omega)]; exact a.t6 hq, by rw [u2_row _ _ (by omega), up_ne (by omega)]; exact a.t7 hq, by rw [u2_row _ _ (by omega), up_ne (by omega)]; exact a.t8 hq, by rw [u2_row _ _ (by omega), up_ne (by omega)]; exact a.t9 hq, by rw [u2_row _ _ (by omega), up_ne (by omega)]; exact a.t10 hq⟩, ⟨a.t2 hq, by rw [u2_row _ _ (by omega)]; exact a.t3 hq⟩, fun x hx => ?_⟩
    rw [cm] at hx
    rw [u2_row _ _ (by omega), up_ne (by omega)]; exact a.tr hq hx
theorem Rep.s9 (a : Rep i j d p N r) (w : WQ N r) (v : Int32) : Rep (u2 i p 9 v) j d p (upd N 4 v) r := by
  have c1 : cN (upd N 4 v) 1 = cN N 1 := cN_ne (by decide)
  have c3 : cN (upd N 4 v) 3 = cN N 3 := cN_ne (by decide)
  refine ⟨⟨by rw [u2_nek _ _ (by decide), up_ne (by decide)]; exact a.f3, by rw [u2_nek _ _ (by decide), up_ne (by decide)]; exact a.f4, by rw [u2_nek _ _ (by decide), up_ne (by decide)]; exact a.f5, by rw [u2_nek _ _ (by decide), up_ne (by decide)]; exact a.f6, by rw [u2_self, up_eq], a.f7, a.f8⟩, fun q hq x hx => ?_, fun b hb => a.b hb, fun q hq => ?_⟩
  · rw [c1] at hq
    rw [u2_row _ _ (by omega), up_ne (by omega)]; exact a.g hq hx
  · rw [c3] at hq
    have cm : cN (upd N 4 v) (40 + 14 * q + 4) = cN N (40 + 14 * q + 4) := cN_ne (by omega)
    refine ⟨⟨by rw [u2_row _ _ (by omega), up_ne (by omega)]; exact a.t1 hq, by rw [u2_row _ _ (by omega), up_ne (by omega)]; exact a.t4 hq, by rw [u2_row _ _ (by omega), up_ne (by omega)]; exact a.t5 hq, by rw [u2_row _ _ (by omega), up_ne (by omega)]; exact a.t6 hq, by rw [u2_row _ _ (by omega), up_ne (by omega)]; exact a.t7 hq, by rw [u2_row _ _ (by omega), up_ne (by omega)]; exact a.t8 hq, by rw [u2_row _ _ (by omega), up_ne (by omega)]; exact a.t9 hq, by rw [u2_row _ _ (by omega), up_ne (by omega)]; exact a.t10 hq⟩, ⟨a.t2 hq, by rw [u2_row _ _ (by omega)]; exact a.t3 hq⟩, fun x hx => ?_⟩
    rw [cm] at hx
    rw [u2_row _ _ (by omega), up_ne (by omega)]; exact a.tr hq hx
theorem Rep.s4 (a : Rep i j d p N r) (w : WQ N r) (v : Int32) : Rep (u2 i p 4 v) j d p (upd N 2 v) r := by
  have c1 : cN (upd N 2 v) 1 = cN N 1 := cN_ne (by decide)
  have c3 : cN (upd N 2 v) 3 = cN N 3 := cN_ne (by decide)
  refine ⟨⟨by rw [u2_nek _ _ (by decide), up_ne (by decide)]; exact a.f3, by rw [u2_self, up_eq], by rw [u2_nek _ _ (by decide), up_ne (by decide)]; exact a.f5, by rw [u2_nek _ _ (by decide), up_ne (by decide)]; exact a.f6, by rw [u2_nek _ _ (by decide), up_ne (by decide)]; exact a.f9, a.f7, a.f8⟩, fun q hq x hx => ?_, fun b hb => a.b hb, fun q hq => ?_⟩
  · rw [c1] at hq
    rw [u2_row _ _ (by omega), up_ne (by omega)]; exact a.g hq hx
  · rw [c3] at hq
    have cm : cN (upd N 2 v) (40 + 14 * q + 4) = cN N (40 + 14 * q + 4) := cN_ne (by omega)
    refine ⟨⟨by rw [u2_row _ _ (by omega), up_ne (by omega)]; exact a.t1 hq, by rw [u2_row _ _ (by omega), up_ne (by omega)]; exact a.t4 hq, by rw [u2_row _ _ (by omega), up_ne (by omega)]; exact a.t5 hq, by rw [u2_row _ _ (by omega), up_ne (by omega)]; exact a.t6 hq, by rw [u2_row _ _ (by omega), up_ne (by omega)]; exact a.t7 hq, by rw [u2_row _ _ (by omega), up_ne (by omega)]; exact a.t8 hq, by rw [u2_row _ _ (by omega), up_ne (by omega)]; exact a.t9 hq, by rw [u2_row _ _ (by omega), up_ne (by omega)]; exact a.t10 hq⟩, ⟨a.t2 hq, by rw [u2_row _ _ (by omega)]; exact a.t3 hq⟩, fun x hx => ?_⟩
    rw [cm] at hx
    rw [u2_row _ _ (by omega), up_ne (by omega)]; exact a.tr hq hx
theorem Rep.s3 (a : Rep i j d p N r) (w : WQ N r) {n : Nat} (hn : n < 2 ^ 31) (v : Int32) (hv : v = nI n) (hg : ∀ g, g < n → ∀ k, k < 4 → i (p + 2 + g) k = N (8 + 4 * g + k)) : Rep (u2 i p 3 v) j d p (upd N 1 v) r := by
  have c1 : cN (upd N 1 v) 1 = n := cN_eq hv hn
  have c3 : cN (upd N 1 v) 3 = cN N 3 := cN_ne (by decide)
  refine ⟨⟨by rw [u2_self, up_eq], by rw [u2_nek _ _ (by decide), up_ne (by decide)]; exact a.f4, by rw [u2_nek _ _ (by decide), up_ne (by decide)]; exact a.f5, by rw [u2_nek _ _ (by decide), up_ne (by decide)]; exact a.f6, by rw [u2_nek _ _ (by decide), up_ne (by decide)]; exact a.f9, a.f7, a.f8⟩, fun q hq x hx => ?_, fun b hb => a.b hb, fun q hq => ?_⟩
  · rw [c1] at hq
    rw [u2_row _ _ (by omega), up_ne (by omega)]; exact hg q hq x hx
  · rw [c3] at hq
    have cm : cN (upd N 1 v) (40 + 14 * q + 4) = cN N (40 + 14 * q + 4) := cN_ne (by omega)
    refine ⟨⟨by rw [u2_row _ _ (by omega), up_ne (by omega)]; exact a.t1 hq, by rw [u2_row _ _ (by omega), up_ne (by omega)]; exact a.t4 hq, by rw [u2_row _ _ (by omega), up_ne (by omega)]; exact a.t5 hq, by rw [u2_row _ _ (by omega), up_ne (by omega)]; exact a.t6 hq, by rw [u2_row _ _ (by omega), up_ne (by omega)]; exact a.t7 hq, by rw [u2_row _ _ (by omega), up_ne (by omega)]; exact a.t8 hq, by rw [u2_row _ _ (by omega), up_ne (by omega)]; exact a.t9 hq, by rw [u2_row _ _ (by omega), up_ne (by omega)]; exact a.t10 hq⟩, ⟨a.t2 hq, by rw [u2_row _ _ (by omega)]; exact a.t3 hq⟩, fun x hx => ?_⟩
    rw [cm] at hx
    rw [u2_row _ _ (by omega), up_ne (by omega)]; exact a.tr hq hx
theorem Rep.s5 (a : Rep i j d p N r) (w : WQ N r) {n : Nat} (hn : n < 2 ^ 31) (v : Int32) (hv : v = nI n) (hg : ∀ t, t < n → RepT i d p N r t) : Rep (u2 i p 5 v) j d p (upd N 3 v) r := by
  have c1 : cN (upd N 3 v) 1 = cN N 1 := cN_ne (by decide)
  have c3 : cN (upd N 3 v) 3 = n := cN_eq hv hn
  refine ⟨⟨by rw [u2_nek _ _ (by decide), up_ne (by decide)]; exact a.f3, by rw [u2_nek _ _ (by decide), up_ne (by decide)]; exact a.f4, by rw [u2_self, up_eq], by rw [u2_nek _ _ (by decide), up_ne (by decide)]; exact a.f6, by rw [u2_nek _ _ (by decide), up_ne (by decide)]; exact a.f9, a.f7, a.f8⟩, fun q hq x hx => ?_, fun b hb => a.b hb, fun q hq => ?_⟩
  · rw [c1] at hq
    rw [u2_row _ _ (by omega), up_ne (by omega)]; exact a.g hq hx
  · rw [c3] at hq
    have cm : cN (upd N 3 v) (40 + 14 * q + 4) = cN N (40 + 14 * q + 4) := cN_ne (by omega)
    have Z := hg q hq
    obtain ⟨⟨z1, z4, z5, z6, z7, z8, z9, z10⟩, ⟨y2, y3⟩, yr⟩ := Z
    refine ⟨⟨by rw [u2_row _ _ (by omega), up_ne (by omega)]; exact z1, by rw [u2_row _ _ (by omega), up_ne (by omega)]; exact z4, by rw [u2_row _ _ (by omega), up_ne (by omega)]; exact z5, by rw [u2_row _ _ (by omega), up_ne (by omega)]; exact z6, by rw [u2_row _ _ (by omega), up_ne (by omega)]; exact z7, by rw [u2_row _ _ (by omega), up_ne (by omega)]; exact z8, by rw [u2_row _ _ (by omega), up_ne (by omega)]; exact z9, by rw [u2_row _ _ (by omega), up_ne (by omega)]; exact z10⟩, ⟨y2, by rw [u2_row _ _ (by omega)]; exact y3⟩, fun x hx => ?_⟩
    rw [cm] at hx
    rw [u2_row _ _ (by omega), up_ne (by omega)]; exact yr x hx
/-- a bridge's thickness -/
theorem Rep.wb (a : Rep i j d p N r) (n3 : cN N 3 ≤ 10) {b : Nat} (hb6 : b < 6) (v : UInt64) : Rep i j (u2 d (p + 10) b v) p N (vf_upd r (1 + b) v) := by
  refine ⟨⟨a.f3, a.f4, a.f5, a.f6, a.f9, by rw [vp_ne (by omega)]; exact a.f7, by rw [u2_row _ _ (by omega), vp_ne (by omega)]; exact a.f8⟩, fun g hg k hk => a.g hg hk, fun q hq => ?_, fun t ht => ⟨(a.t ht).1, ⟨?_, ?_⟩, fun k hk => a.tr ht hk⟩⟩
  · by_cases e : q = b
    · subst e; rw [u2_self, vp_eq]
    · rw [u2_nek _ _ e, vp_ne (by omega)]; exact a.b hq
  · rw [u2_row _ _ (by omega), vp_ne (by omega)]; exact a.t2 ht
  · rw [vp_ne (by omega)]; exact a.t3 ht
/-- the temperature -/
theorem Rep.wd (a : Rep i j d p N r) (v : UInt64) : Rep i (u2 j p 7 v.toInt64) (u2 d p 8 v) p N (vf_upd r 0 v) := by
  refine ⟨⟨a.f3, a.f4, a.f5, a.f6, a.f9, by rw [u2_self, vp_eq], by rw [u2_self, vp_eq]⟩, fun g hg k hk => a.g hg hk, fun q hq => ?_, fun t ht => ⟨(a.t ht).1, ⟨?_, ?_⟩, fun k hk => a.tr ht hk⟩⟩
  · rw [u2_row _ _ (by omega), vp_ne (by omega)]; exact a.b hq
  · rw [u2_row _ _ (by omega), vp_ne (by omega)]; exact a.t2 ht
  · rw [vp_ne (by omega)]; exact a.t3 ht
/-- what lies behind the last tour, in the class -/
theorem Rep.tout (a : Rep i j d p N r) (n1 : cN N 1 ≤ 8) {t : Nat} (ht : t < 10) (h3 : cN N 3 ≤ t) {i' : Nat → Nat → Int32} {d' : Nat → Nat → UInt64} (c : ∀ q, q ≠ p + 12 + 2 * t → i' q = i q ∧ d' q = d q) : Rep i' j d' p N r := by
  refine ⟨?_, fun g hg k hk => ?_, fun b hb => ?_, fun q hq => ⟨?_, ?_, fun k hk => ?_⟩⟩
  · rw [(c p (by omega)).1, (c p (by omega)).2]; exact a.1
  · rw [(c _ (by omega)).1]; exact a.g hg hk
  · rw [(c _ (by omega)).2]; exact a.b hb
  · rw [(c _ (by omega)).1]; exact (a.t hq).1
  · rw [(c _ (by omega)).1, (c _ (by omega)).2]; exact (a.t hq).2.1
  · rw [(c _ (by omega)).1]; exact a.tr hq hk
theorem upd_u2 (i : Nat → Nat → Int32) (a k : Nat) (v : Int32) : (u2 i a k v) a = upd (i a) k v := u2_upd i a k v
end STEP
