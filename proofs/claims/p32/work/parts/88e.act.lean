/-! what holds stays: writes of the reference's row; the frame of an act -/
section ACT
variable {E : Hp} {i : Nat → Nat → Int32} {j : Nat → Nat → Int64} {d : Nat → Nat → UInt64} {N N' : Nat → Int32} {r r' : Nat → UInt64} {B B' : Nat} {H : List Rw} {s : Option Rw}
def Ess (x : Nat) : Prop := x = 1 ∨ x = 2 ∨ x = 3 ∨ (8 ≤ x ∧ x < 40 ∧ x % 4 = 0) ∨ (40 ≤ x ∧ x < 180 ∧ ((x - 40) % 14 = 1 ∨ (x - 40) % 14 = 3 ∨ (x - 40) % 14 = 4 ∨ (8 ≤ (x - 40) % 14 ∧ (x - 40) % 14 < 12))) ∨ 180 ≤ x
theorem WQ.cgo (w : WQ N r) (e : ∀ x, Ess x → (x < 40 + 14 * cN N 3 ∨ 180 ≤ x) → N' x = N x) : WQ N' r := by
  have c : ∀ x, Ess x → (x < 40 + 14 * cN N 3 ∨ 180 ≤ x) → cN N' x = cN N x := fun x hx hy => by unfold cN; rw [e x hx hy]
  have n1 := w.n1.2
  have n3 := w.n3.2
  have D : ∀ x b, Ess x → (x < 40 + 14 * cN N 3 ∨ 180 ≤ x) → Cn N x b → Cn N' x b := fun x b hx hy h => by unfold Cn; rw [c x hx hy, e x hx hy]; exact h
  have e1 : Ess 1 := Or.inl rfl
  have e2 : Ess 2 := Or.inr (Or.inl rfl)
  have e3 : Ess 3 := Or.inr (Or.inr (Or.inl rfl))
  refine ⟨⟨D 1 8 e1 (by omega) w.1.1, D 2 6 e2 (by omega) w.1.2.1, D 3 10 e3 (by omega) w.1.2.2⟩, fun g hg => ?_, fun t ht => ?_, ⟨fun x hx => ?_, w.2.2.2.1.2⟩, w.2.2.2.2⟩
  · rw [c 1 e1 (by omega)] at hg
    have eg : Ess (8 + 4 * g) := by unfold Ess; omega
    have := w.kl hg
    exact ⟨D _ _ eg (by omega) this.1, by rw [c _ eg (by omega)]; exact this.2⟩
  · rw [c 3 e3 (by omega)] at ht
    have h10 := w.t10 ht
    obtain ⟨a1, a2, a3, a4⟩ := w.to ht
    have m4 := a3.2
    have em : Ess (40 + 14 * t + 4) := by unfold Ess; omega
    refine ⟨D _ _ (by unfold Ess; omega) (by omega) a1, D _ _ (by unfold Ess; omega) (by omega) a2, D _ _ em (by omega) a3, fun k hk => ?_⟩
    rw [c _ em (by omega)] at hk
    have er : Ess (48 + 14 * t + k) := by unfold Ess; omega
    obtain ⟨b1, b2⟩ := a4 k hk
    exact ⟨D _ _ er (by omega) b1, by unfold gN at b2 ⊢; rw [c _ er (by omega), c 1 e1 (by omega)]; exact b2⟩
  · rw [e x (by unfold Ess; omega) (by omega)]; exact w.2.2.2.1.1 x hx
theorem WQ.cg (w : WQ N r) (e : ∀ x, Ess x → N' x = N x) : WQ N' r := w.cgo (fun x hx _ => e x hx)
theorem WQ.free (w : WQ N r) {z : Nat} (hz : ¬ Ess z) (v : Int32) : WQ (upd N z v) r := w.cg (fun x hx => up_ne (fun e => hz (e ▸ hx)))
theorem WQ.tz (w : WQ N r) {t y : Nat} (ht : t < 10) (hy : y < 14) (v : Int32) (hT : t < cN N 3 → WFt (upd N (40 + 14 * t + y) v) t) : WQ (upd N (40 + 14 * t + y) v) r := by
  have n1 := w.n1.2
  have n3 := w.n3.2
  refine ⟨⟨?_, ?_, ?_⟩, fun g hg => ?_, fun q hq => ?_, ⟨fun x hx => ?_, w.2.2.2.1.2⟩, w.2.2.2.2⟩
  · unfold Cn; rw [cN_ne (by omega), up_ne (by omega)]; exact w.n1
  · unfold Cn; rw [cN_ne (by omega), up_ne (by omega)]; exact w.n2
  · unfold Cn; rw [cN_ne (by omega), up_ne (by omega)]; exact w.n3
  · rw [cN_ne (by omega)] at hg
    unfold Cn; rw [cN_ne (by omega), up_ne (by omega)]; exact w.kl hg
  · rw [cN_ne (by omega)] at hq
    by_cases e : q = t
    · subst e; exact hT hq
    · obtain ⟨a1, a2, a3, a4⟩ := w.to hq
      have m4 := a3.2
      refine ⟨?_, ?_, ?_, fun k hk => ?_⟩
      · unfold Cn; rw [cN_ne (by omega), up_ne (by omega)]; exact a1
      · unfold Cn; rw [cN_ne (by omega), up_ne (by omega)]; exact a2
      · unfold Cn; rw [cN_ne (by omega), up_ne (by omega)]; exact a3
      · rw [cN_ne (by omega)] at hk
        unfold Cn gN; rw [cN_ne (by omega), up_ne (by omega), cN_ne (by omega)]; exact a4 k hk
  · rw [up_ne (by omega)]; exact w.2.2.2.1.1 x hx
theorem WQ.g3 (w : WQ N r) {t n : Nat} (ht : t < 10) (hn : n ≤ 12) : WQ (upd N (40 + 14 * t + 3) (nI n)) r := w.tz ht (by decide) _ (fun h3 => by
  obtain ⟨a1, a2, a3, a4⟩ := w.to h3
  have m4 := a3.2
  refine ⟨?_, Cn.mk' up_eq hn (by decide), ?_, fun k hk => ?_⟩
  · unfold Cn; rw [cN_ne (by omega), up_ne (by omega)]; exact a1
  · unfold Cn; rw [cN_ne (by omega), up_ne (by omega)]; exact a3
  · rw [cN_ne (by omega)] at hk
    unfold Cn gN; rw [cN_ne (by omega), up_ne (by omega), cN_ne (by omega)]; exact a4 k hk)
theorem WQ.m4 (w : WQ N r) {t n : Nat} (ht : t < 10) (hn : n ≤ 4) (hr : t < cN N 3 → ∀ k, k < n → Cn N (48 + 14 * t + k) 7 ∧ gN N t k < cN N 1) : WQ (upd N (40 + 14 * t + 4) (nI n)) r := w.tz ht (by decide) _ (fun h3 => by
  obtain ⟨a1, a2, a3, a4⟩ := w.to h3
  refine ⟨?_, ?_, Cn.mk' up_eq hn (by decide), fun k hk => ?_⟩
  · unfold Cn; rw [cN_ne (by omega), up_ne (by omega)]; exact a1
  · unfold Cn; rw [cN_ne (by omega), up_ne (by omega)]; exact a2
  · rw [cN_eq rfl (by omega)] at hk
    unfold Cn gN; rw [cN_ne (by omega), up_ne (by omega), cN_ne (by omega)]; exact hr h3 k hk)
theorem WQ.row (w : WQ N r) {t k g : Nat} (ht : t < 10) (hk : k < 4) (hg : g < cN N 1) : WQ (upd N (48 + 14 * t + k) (nI g)) r := by
  have n1 := w.n1.2
  have := w.tz (y := 8 + k) ht (by omega) (nI g) (fun h3 => by
    obtain ⟨a1, a2, a3, a4⟩ := w.to h3
    have m4 := a3.2
    refine ⟨?_, ?_, ?_, fun x hx => ?_⟩
    · unfold Cn; rw [cN_ne (by omega), up_ne (by omega)]; exact a1
    · unfold Cn; rw [cN_ne (by omega), up_ne (by omega)]; exact a2
    · unfold Cn; rw [cN_ne (by omega), up_ne (by omega)]; exact a3
    · rw [cN_ne (by omega)] at hx
      by_cases e : x = k
      · subst e
        have h1 : (upd N (40 + 14 * t + (8 + x)) (nI g)) (48 + 14 * t + x) = nI g := by
          rw [show 48 + 14 * t + x = 40 + 14 * t + (8 + x) by omega]; exact up_eq
        have h2 := Cn.mk' (b := 7) h1 (by omega) (by decide)
        refine ⟨h2, ?_⟩
        have h4 : gN (upd N (40 + 14 * t + (8 + x)) (nI g)) t x = g := by
          unfold gN cN; rw [h1]; exact nI_clamp (by omega)
        rw [h4, cN_ne (by omega)]; exact hg
      · unfold Cn gN; rw [cN_ne (by omega), up_ne (by omega), cN_ne (by omega)]; exact a4 x hx)
  rw [show 40 + 14 * t + (8 + k) = 48 + 14 * t + k by omega] at this
  exact this
theorem WQ.cls (w : WQ N r) {g n : Nat} (hg : g < 8) (h1 : 1 ≤ n) (h3 : n ≤ 3) : WQ (upd N (8 + 4 * g + 0) (nI n)) r := by
  have n1 := w.n1.2
  have n3 := w.n3.2
  have hc : Cn (upd N (8 + 4 * g + 0) (nI n)) (8 + 4 * g) 3 := Cn.mk' up_eq h3 (by decide)
  have hc2 : cN (upd N (8 + 4 * g + 0) (nI n)) (8 + 4 * g) = n := cN_eq rfl (by omega)
  refine ⟨⟨?_, ?_, ?_⟩, fun q hq => ?_, fun q hq => ?_, ⟨fun x hx => ?_, w.2.2.2.1.2⟩, w.2.2.2.2⟩
  · unfold Cn; rw [cN_ne (by omega), up_ne (by omega)]; exact w.n1
  · unfold Cn; rw [cN_ne (by omega), up_ne (by omega)]; exact w.n2
  · unfold Cn; rw [cN_ne (by omega), up_ne (by omega)]; exact w.n3
  · rw [cN_ne (by omega)] at hq
    by_cases e : q = g
    · subst e; exact ⟨hc, by rw [hc2]; exact h1⟩
    · unfold Cn; rw [cN_ne (by omega), up_ne (by omega)]; exact w.kl hq
  · rw [cN_ne (by omega)] at hq
    have h10 := w.t10 hq
    obtain ⟨a1, a2, a3, a4⟩ := w.to hq
    have m4 := a3.2
    refine ⟨?_, ?_, ?_, fun k hk => ?_⟩
    · unfold Cn; rw [cN_ne (by omega), up_ne (by omega)]; exact a1
    · unfold Cn; rw [cN_ne (by omega), up_ne (by omega)]; exact a2
    · unfold Cn; rw [cN_ne (by omega), up_ne (by omega)]; exact a3
    · rw [cN_ne (by omega)] at hk
      unfold Cn gN; rw [cN_ne (by omega), up_ne (by omega), cN_ne (by omega)]; exact a4 k hk
  · rw [up_ne (by omega)]; exact w.2.2.2.1.1 x hx
theorem WQ.rb (w : WQ N r) {b : Nat} (hb : b < 6) {v : UInt64} (hv : dB v) : WQ N (vf_upd r (1 + b) v) := by
  refine ⟨w.1, w.2.1, w.2.2.1, ⟨w.2.2.2.1.1, fun x hx => ?_⟩, ?_, fun q hq => ?_⟩
  · rw [vp_ne (by omega)]; exact w.2.2.2.1.2 x hx
  · rw [vp_ne (by omega)]; exact w.2.2.2.2.1
  · by_cases e : q = b
    · subst e; rw [vp_eq]; exact hv
    · rw [vp_ne (by omega)]; exact w.2.2.2.2.2 q hq
theorem WQ.r0 (w : WQ N r) {v : UInt64} (hv : dT v) : WQ N (vf_upd r 0 v) := by
  refine ⟨w.1, w.2.1, w.2.2.1, ⟨w.2.2.2.1.1, fun x hx => ?_⟩, ?_, fun q hq => ?_⟩
  · rw [vp_ne (by omega)]; exact w.2.2.2.1.2 x hx
  · rw [vp_eq]; exact hv
  · rw [vp_ne (by omega)]; exact w.2.2.2.2.2 q hq
theorem WQ.rs (w : WQ N r) {t : Nat} (ht : t < 10) {v : UInt64} : WQ N (vf_upd r (7 + t) v) := by
  refine ⟨w.1, w.2.1, w.2.2.1, ⟨w.2.2.2.1.1, fun x hx => ?_⟩, ?_, fun q hq => ?_⟩
  · rw [vp_ne (by omega)]; exact w.2.2.2.1.2 x hx
  · rw [vp_ne (by omega)]; exact w.2.2.2.2.1
  · rw [vp_ne (by omega)]; exact w.2.2.2.2.2 q hq
theorem sPaid_ne {z : Nat} {v : Int32} (hz : ∀ t, t < 10 → z ≠ 40 + 14 * t + 5) : ∀ n, n ≤ 10 → sPaid (upd N z v) n = sPaid N n
  | 0, _ => rfl
  | n + 1, h => by
    show sPaid (upd N z v) n + cN (upd N z v) (40 + 14 * n + 5) = sPaid N n + cN N (40 + 14 * n + 5)
    rw [sPaid_ne hz n (by omega), cN_ne (fun e => hz n (by omega) e.symm)]
theorem sPaid_up {t m : Nat} (hm : m < 2 ^ 31) : ∀ n, sPaid (upd N (40 + 14 * t + 5) (nI m)) n + (if t < n then cN N (40 + 14 * t + 5) else 0) = sPaid N n + (if t < n then m else 0)
  | 0 => by rw [if_neg (by omega), if_neg (by omega)]; rfl
  | n + 1 => by
    have ih := sPaid_up (t := t) hm n
    show sPaid (upd N (40 + 14 * t + 5) (nI m)) n + cN (upd N (40 + 14 * t + 5) (nI m)) (40 + 14 * n + 5) + _ = sPaid N n + cN N (40 + 14 * n + 5) + _
    by_cases e : n = t
    · subst e
      rw [cN_eq rfl hm, if_pos (by omega), if_pos (by omega)]
      rw [if_neg (by omega), if_neg (by omega)] at ih
      omega
    · rw [cN_ne (by omega)]
      by_cases c : t < n
      · rw [if_pos (by omega), if_pos (by omega)]
        rw [if_pos c, if_pos c] at ih
        omega
      · rw [if_neg (by omega), if_neg (by omega)]
        rw [if_neg c, if_neg c] at ih
        omega
theorem PB.free (b : PB B N) {z : Nat} {v : Int32} (hz : ∀ t, t < 10 → z ≠ 40 + 14 * t + 5) : PB B (upd N z v) := by
  refine ⟨fun t ht => ?_, by rw [sPaid_ne hz 10 (by omega)]; exact b.2⟩
  have := hz t ht
  unfold Cn; rw [cN_ne (by omega), up_ne (by omega)]; exact b.1 t ht
theorem PB.one (b : PB B N) {t : Nat} (ht : t < 10) : N (40 + 14 * t + 5) = nI (cN N (40 + 14 * t + 5)) ∧ cN N (40 + 14 * t + 5) ≤ B := b.1 t ht
theorem PB.paid (b : PB B N) {t m : Nat} (ht : t < 10) (hB : B' < 2 ^ 31) (h : sPaid N 10 + m ≤ B' + cN N (40 + 14 * t + 5)) (hle : ∀ q, q < 10 → cN N (40 + 14 * q + 5) ≤ B') (hm : m ≤ B') : PB B' (upd N (40 + 14 * t + 5) (nI m)) := by
  have e := sPaid_up (N := N) (t := t) (m := m) (by omega) 10
  rw [if_pos ht, if_pos ht] at e
  refine ⟨fun q hq => ?_, by omega⟩
  by_cases c : q = t
  · subst c; exact Cn.mk' up_eq hm (by omega)
  · unfold Cn; rw [cN_ne (by omega), up_ne (by omega)]; exact ⟨(b.one hq).1, hle q hq⟩
theorem sPaid_one : ∀ n t, t < n → cN N (40 + 14 * t + 5) ≤ sPaid N n
  | n + 1, t, h => by
    show _ ≤ sPaid N n + cN N (40 + 14 * n + 5)
    by_cases e : t = n
    · subst e; omega
    · have := sPaid_one n t (by omega); omega
theorem WF.mono (w : WF B N r) (h : B ≤ B') : WF B' N r := ⟨w.1, fun t ht => ⟨(w.2.one ht).1, Nat.le_trans (w.2.one ht).2 h⟩, Nat.le_trans w.2.2 h⟩
theorem push_get {H : List Rw} {q x : Rw} {k : Nat} (hl : H.length ≤ 5) (e : (push H q)[k]? = some x) : x = q ∨ ∃ k' : Nat, H[k']? = some x := by
  unfold push at e
  have go : ∀ (L : List Rw), (L ++ [q])[k]? = some x → x = q ∨ L[k]? = some x := fun L e => by
    by_cases hk : k < L.length
    · rw [List.getElem?_append_left hk] at e; exact Or.inr e
    · rw [List.getElem?_append_right (by omega)] at e
      have hk0 : k - L.length = 0 := by
        have := (List.getElem?_eq_some_iff.mp e).1
        simp at this; omega
      rw [hk0] at e; cases e; exact Or.inl rfl
  split at e
  · rcases go _ e with z | z
    · exact Or.inl z
    · rw [List.getElem?_tail] at z; exact Or.inr ⟨_, z⟩
  · rcases go _ e with z | z
    · exact Or.inl z
    · exact Or.inr ⟨_, z⟩
theorem WH.push (W : WH B H) (w : WF B N r) (hl : H.length ≤ 5) : WH B (push H (N, r)) := fun k q e => by
  rcases push_get hl e with rfl | ⟨k', z⟩
  · exact w
  · exact W k' q z
end ACT
