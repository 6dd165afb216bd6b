/-! days keep it; days in parts -/
section MI4
variable {N N' : Nat → Int32} {r : Nat → UInt64} {B : Nat}
theorem cause_pos {t : Nat} : 0 ≤ sCause N r t := by
  unfold sCause
  repeat' split
  all_goals decide
theorem go_cells (w : WF B N r) {t : Nat} (ht : t < cN N 3) {z : Nat} (h1 : z < 8 ∨ 40 ≤ z) (h2 : z ≠ 40 + 14 * t + 6) : goF r t N z = N z ∧ goF r t N (40 + 14 * t + 6) = 1 := by
  have h10 := w.t10 ht
  have w1 : WF B (upd N (40 + 14 * t + 6) 1) r := ⟨w.q.free (by unfold Ess; omega) _, w.2.free (fun u hu => by omega)⟩
  have cm : cN (upd N (40 + 14 * t + 6) 1) (40 + 14 * t + 4) = cN N (40 + 14 * t + 4) := cN_ne (by omega)
  obtain ⟨-, -, a3, -⟩ := go_su (t := t) (cN N (40 + 14 * t + 4)) 0 (upd N (40 + 14 * t + 6) 1) w1 (by rw [cN_ne (by omega)]; exact ht) (by rw [cm]; omega)
  exact ⟨(a3 z h1).trans (up_ne h2), (a3 _ (by omega)).trans up_eq⟩
theorem mt_pt (M : MT N) (w : WF B N r) {t : Nat} {u : Int32} (ht : t < cN N 3) : MT (pt r t (N, u)).1 ∧ (∀ x, x ≠ t → ∀ y, y < 14 → (pt r t (N, u)).1 (40 + 14 * x + y) = N (40 + 14 * x + y)) ∧ (pt r t (N, u)).1 (40 + 14 * t + 0) = N (40 + 14 * t + 0) ∧ (pt r t (N, u)).1 0 = N 0 ∧ ¬ ((pt r t (N, u)).1 (40 + 14 * t + 6) = 0 ∧ (pt r t (N, u)).1 (40 + 14 * t + 0) = N 0) := by
  have h10 := w.t10 ht
  by_cases c : N (40 + 14 * t + 6) = 0 ∧ N (40 + 14 * t + 0) = N 0
  · by_cases c2 : sCause N r t = 0
    · have e : pt r t (N, u) = (goF r t N, u + 1) := by
        unfold pt
        rw [if_pos (show ((N, u) : (Nat → Int32) × Int32).1 (40 + 14 * t + 6) = 0 ∧ ((N, u) : (Nat → Int32) × Int32).1 (40 + 14 * t + 0) = ((N, u) : (Nat → Int32) × Int32).1 0 from c), if_pos (show sCause ((N, u) : (Nat → Int32) × Int32).1 r t = 0 from c2)]
      rw [e]
      refine ⟨mt_go M w ht c.1 c2, fun x hx y hy => (go_cells w ht (z := 40 + 14 * x + y) (by omega) (by omega)).1, (go_cells w ht (z := 40 + 14 * t + 0) (by omega) (by omega)).1, (go_cells w ht (z := 0) (by omega) (by omega)).1, fun q => ?_⟩
      have q1 : goF r t N (40 + 14 * t + 6) = 0 := q.1
      rw [(go_cells w ht (z := 0) (by omega) (by omega)).2] at q1
      exact absurd q1 (by decide)
    · have e : pt r t (N, u) = (canc N t (sCause N r t), u) := by
        unfold pt
        rw [if_pos (show ((N, u) : (Nat → Int32) × Int32).1 (40 + 14 * t + 6) = 0 ∧ ((N, u) : (Nat → Int32) × Int32).1 (40 + 14 * t + 0) = ((N, u) : (Nat → Int32) × Int32).1 0 from c), if_neg (show ¬ sCause ((N, u) : (Nat → Int32) × Int32).1 r t = 0 from c2)]
      rw [e]
      refine ⟨mt_cancel M w.q cause_pos ht c.1, fun x hx y hy => canc_ne (z := 40 + 14 * x + y) (by omega) (by omega) (by omega) (by omega), canc_ne (z := 40 + 14 * t + 0) (by omega) (by omega) (by omega) (by omega), canc_ne (N := N) (t := t) (c := sCause N r t) (z := 0) (by omega) (by omega) (by omega) (by omega), fun q => ?_⟩
      have q1 : canc N t (sCause N r t) (40 + 14 * t + 6) = 0 := q.1
      rw [canc_6] at q1
      exact absurd q1 (by decide)
  · have e : pt r t (N, u) = (N, u) := by
      unfold pt
      rw [if_neg (show ¬ (((N, u) : (Nat → Int32) × Int32).1 (40 + 14 * t + 6) = 0 ∧ ((N, u) : (Nat → Int32) × Int32).1 (40 + 14 * t + 0) = ((N, u) : (Nat → Int32) × Int32).1 0) from c)]
    rw [e]
    exact ⟨M, fun _ _ _ _ => rfl, rfl, rfl, c⟩
theorem mt_pts (hB : B < 2 ^ 31) : ∀ m k N u, WF B N r → MT N → k + m = cN N 3 → (∀ x, x < k → ¬ (N (40 + 14 * x + 6) = 0 ∧ N (40 + 14 * x + 0) = N 0)) → MT (pts r m k (N, u)).1 ∧ ∀ x, x < cN N 3 → ¬ ((pts r m k (N, u)).1 (40 + 14 * x + 6) = 0 ∧ (pts r m k (N, u)).1 (40 + 14 * x + 0) = N 0)
  | 0, k, N, u, w, M, hk, h => ⟨M, fun x hx => h x (by omega)⟩
  | m + 1, k, N, u, w, M, hk, h => by
    have hk3 : k < cN N 3 := by omega
    obtain ⟨w1, f1⟩ := pt_ok (u := u) w hB hk3
    obtain ⟨m1, m2, m3, m4, m5⟩ := mt_pt (u := u) M w hk3
    obtain ⟨N1, u1, e⟩ : ∃ N1 u1, pt r k (N, u) = (N1, u1) := ⟨_, _, rfl⟩
    rw [e] at w1 f1 m1 m2 m3 m4 m5
    have c3 : cN N1 3 = cN N 3 := cN_of (f1 3 (by omega))
    obtain ⟨a1, a2⟩ := mt_pts hB m (k + 1) N1 u1 w1 m1 (by rw [c3]; omega) (fun x hx => by
      by_cases c : x = k
      · rw [c, show N1 0 = N 0 from m4]; exact m5
      · rw [show N1 0 = N 0 from m4, show N1 (40 + 14 * x + 6) = _ from m2 x c 6 (by omega), show N1 (40 + 14 * x + 0) = _ from m2 x c 0 (by omega)]
        exact h x (by omega))
    have eP : pts r (m + 1) k (N, u) = pts r m (k + 1) (N1, u1) := by
      show pts r m (k + 1) (pt r k (N, u)) = _
      rw [e]
    rw [eP]
    refine ⟨a1, fun x hx => ?_⟩
    have := a2 x (by rw [c3]; exact hx)
    rw [show N1 0 = N 0 from m4] at this
    exact this
theorem brs_ne : ∀ m k (r : Nat → UInt64) z, z < 1 + k → brs m k r z = r z
  | 0, _, _, _, _ => rfl
  | m + 1, k, r, z, h => by
    show brs m (k + 1) (vf_upd r (1 + k) (sLater (r 0) (r (1 + k)))) z = r z
    rw [brs_ne m (k + 1) _ z (by omega), vp_ne (by omega)]
theorem day_mt (M : MT N) (w : WF B N r) (hB : B < 2 ^ 31) {dy : Nat} (hd : N 0 = nI dy) (hdy : dy < 2 ^ 30) : MT (dN N r) ∧ dN N r 0 = nI (dy + 1) ∧ (dN N r 1 = N 1 ∧ dN N r 2 = N 2 ∧ dN N r 3 = N 3) ∧ dr N r 0 = r 0 ∧ (0 < cN N 2 → dr N r 1 = sLater (r 0) (r 1)) := by
  obtain ⟨a1, a2⟩ := pts_ok (r := r) hB (cN N 3) 0 N 0 w (by omega)
  obtain ⟨b1, b2⟩ := mt_pts hB (cN N 3) 0 N 0 w M (by omega) (fun x hx => absurd hx (Nat.not_lt_zero _))
  obtain ⟨N1, u1, e⟩ : ∃ N1 u1, pts r (cN N 3) 0 (N, 0) = (N1, u1) := ⟨_, _, rfl⟩
  have eD : dN N r = upd N1 0 (N1 0 + 1) := by unfold dN; rw [e]
  have eR : dr N r = brs (cN N1 2) 0 r := by unfold dr; rw [e]
  rw [e] at a1 a2 b1 b2
  have a1 : WF B N1 r := a1
  have a2 : ∀ z, z < 4 → N1 z = N z := a2
  have b1 : MT N1 := b1
  have b2 : ∀ x, x < cN N 3 → ¬ (N1 (40 + 14 * x + 6) = 0 ∧ N1 (40 + 14 * x + 0) = N 0) := b2
  rw [eD, eR]
  have c3 : cN N1 3 = cN N 3 := cN_of (a2 3 (by omega))
  have c2 : cN N1 2 = cN N 2 := cN_of (a2 2 (by omega))
  have z0 : N1 0 = nI dy := (a2 0 (by omega)).trans hd
  have ce : ∀ z, z ≠ 0 → upd N1 0 (N1 0 + 1) z = N1 z := fun z hz => up_ne hz
  obtain ⟨M1, M2, M3, M4⟩ := b1
  have b : ∀ t, Bk N1 (upd N1 0 (N1 0 + 1)) t := fun t y hy => ce _ (by omega)
  have c3' : cN (upd N1 0 (N1 0 + 1)) 3 = cN N1 3 := cN_ne (by omega)
  refine ⟨⟨fun t ht => ?_, fun t ht s0 => ?_, fun t ht x hx hne => ?_, ?_⟩, ?_, ⟨(ce 1 (by omega)).trans (a2 1 (by omega)), (ce 2 (by omega)).trans (a2 2 (by omega)), (ce 3 (by omega)).trans (a2 3 (by omega))⟩, brs_ne _ _ _ _ (by omega), fun h2 => ?_⟩
  · rw [c3'] at ht
    obtain ⟨q1, q2, q3, q4, q5⟩ := M1 t ht
    unfold TI Cn
    rw [cN_of (ce (40 + 14 * t + 6) (by omega)), ce (40 + 14 * t + 6) (by omega), ce (40 + 14 * t + 7) (by omega), ce (40 + 14 * t + 5) (by omega), ce (40 + 14 * t + 3) (by omega), ce (40 + 14 * t + 4) (by omega), ce (40 + 14 * t + 0) (by omega), up_eq]
    refine ⟨q1, q2, q3, fun s0 => ?_, q5⟩
    have h1 := q4 s0
    have h2 := b2 t (by rw [← c3]; exact ht)
    rw [z0] at h1 ⊢
    obtain ⟨y, hy, ey⟩ := nI_of (x := N1 (40 + 14 * t + 0)) (fun q => absurd (Int32.lt_of_le_of_lt h1 q) (nI_pos (by omega)))
    rw [ey] at h1 ⊢
    have h3 := (nI_leI (by omega) hy).mp h1
    have h4 : y ≠ dy := fun c => h2 ⟨s0, by rw [ey, c, hd]⟩
    rw [nI_1]
    exact (nI_leI (by omega) hy).mpr (by omega)
  · rw [c3'] at ht
    rw [ce _ (by omega)] at s0
    exact (M2 t ht s0).cg (b t) (a1.many ht).2
  · rw [c3'] at ht hx
    exact (M3 t ht x hx hne).cg (b t) (b x) (a1.many ht).2 (a1.many hx).2
  · exact M4.cg (ce 1 (by omega)) (ce 3 (by omega)) a1.n1.2 (fun g hg => ⟨ce _ (by omega), ce _ (by omega)⟩) (fun t ht => by
      rw [ce _ (by omega), ce _ (by omega), ce _ (by omega)]; exact ⟨rfl, rfl⟩)
  · rw [up_eq, z0, nI_1]
  · rw [c2]
    obtain ⟨n, hn⟩ : ∃ n, cN N 2 = n + 1 := ⟨cN N 2 - 1, by omega⟩
    rw [hn]
    show brs n 1 (vf_upd r (1 + 0) (sLater (r 0) (r (1 + 0)))) 1 = _
    rw [brs_ne n 1 _ 1 (by omega)]
    exact vp_eq
theorem days_mt (hB : B < 2 ^ 31) : ∀ m u N r dy, WF B N r → MT N → N 0 = nI dy → dy + m < 2 ^ 30 → MT (days m u N r).2.1 ∧ (days m u N r).2.1 0 = nI (dy + m) ∧ ((days m u N r).2.1 1 = N 1 ∧ (days m u N r).2.1 2 = N 2 ∧ (days m u N r).2.1 3 = N 3) ∧ (days m u N r).2.2 0 = r 0 ∧ (0 < cN N 2 → (days m u N r).2.2 1 = sFore (r 0) m (r 1))
  | 0, u, N, r, dy, w, M, hd, h => ⟨M, hd, ⟨rfl, rfl, rfl⟩, rfl, fun _ => rfl⟩
  | m + 1, u, N, r, dy, w, M, hd, h => by
    obtain ⟨a1, a2, ⟨a3, a4, a5⟩, a6, a7⟩ := day_mt M w hB hd (by omega)
    obtain ⟨b1, b2, ⟨b3, b4, b5⟩, b6, b7⟩ := days_mt hB m (u + dw N r) (dN N r) (dr N r) (dy + 1) (day_ok w hB) a1 a2 (by omega)
    refine ⟨b1, ?_, ⟨b3.trans a3, b4.trans a4, b5.trans a5⟩, b6.trans a6, fun h2 => ?_⟩
    · show (days m (u + dw N r) (dN N r) (dr N r)).2.1 0 = _
      rw [b2, show dy + 1 + m = dy + (m + 1) by omega]
    · show (days m (u + dw N r) (dN N r) (dr N r)).2.2 1 = sFore (r 0) m (sLater (r 0) (r 1))
      rw [b7 (by rw [cN_of a4]; exact h2), a6, a7 h2]
theorem days_add : ∀ a b u (N : Nat → Int32) (r : Nat → UInt64), days (a + b) u N r = days b (days a u N r).1 (days a u N r).2.1 (days a u N r).2.2
  | 0, b, u, N, r => by rw [Nat.zero_add]; rfl
  | a + 1, b, u, N, r => by
    rw [show a + 1 + b = (a + b) + 1 by omega]
    show days (a + b) (u + dw N r) (dN N r) (dr N r) = _
    rw [days_add a b]
    rfl
theorem days_u : ∀ m u (N : Nat → Int32) (r : Nat → UInt64), (days m u N r).1 = u + (days m 0 N r).1 ∧ (days m u N r).2 = (days m 0 N r).2
  | 0, u, N, r => ⟨(Int32.add_zero u).symm, rfl⟩
  | m + 1, u, N, r => by
    have h1 := days_u m (u + dw N r) (dN N r) (dr N r)
    have h2 := days_u m (0 + dw N r) (dN N r) (dr N r)
    refine ⟨?_, h1.2.trans h2.2.symm⟩
    show (days m (u + dw N r) (dN N r) (dr N r)).1 = u + (days m (0 + dw N r) (dN N r) (dr N r)).1
    rw [h1.1, h2.1, Int32.zero_add, Int32.add_assoc]
end MI4
