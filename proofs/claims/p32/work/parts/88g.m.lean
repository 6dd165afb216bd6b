/-! the acts, one by one: new guides, bridges, tours; the temperature; leaving -/
section ACTS3
variable {E : Hp} {i : Nat → Nat → Int32} {j : Nat → Nat → Int64} {d : Nat → Nat → UInt64} {N : Nat → Int32} {r : Nat → UInt64} {B : Nat} {H : List Rw} {s : Option Rw}
theorem cN_of {N M : Nat → Int32} {x y : Nat} (e : M x = N y) : cN M x = cN N y := by unfold cN; rw [e]
theorem cN_nI {M : Nat → Int32} {x n : Nat} (e : M x = nI n) (h : n < 2 ^ 31) : cN M x = n := by unfold cN; rw [e]; exact nI_clamp h
theorem WQ.c1 (w : WQ N r) {n : Nat} (hn : n ≤ 8) (h1 : cN N 1 ≤ n) (hc : ∀ g, g < n → Cn N (8 + 4 * g) 3 ∧ 1 ≤ cN N (8 + 4 * g)) : WQ (upd N 1 (nI n)) r := by
  have c : cN (upd N 1 (nI n)) 1 = n := cN_eq rfl (by omega)
  refine ⟨⟨Cn.mk' up_eq hn (by decide), ?_, ?_⟩, fun g hg => ?_, fun q hq => ?_, ⟨fun x hx => ?_, w.2.2.2.1.2⟩, w.2.2.2.2⟩
  · unfold Cn; rw [cN_ne (by omega), up_ne (by omega)]; exact w.n2
  · unfold Cn; rw [cN_ne (by omega), up_ne (by omega)]; exact w.n3
  · rw [c] at hg
    unfold Cn; rw [cN_ne (by omega), up_ne (by omega)]; exact hc g hg
  · rw [cN_ne (by omega)] at hq
    obtain ⟨a1, a2, a3, a4⟩ := w.to hq
    refine ⟨?_, ?_, ?_, fun k hk => ?_⟩
    · unfold Cn; rw [cN_ne (by omega), up_ne (by omega)]; exact a1
    · unfold Cn; rw [cN_ne (by omega), up_ne (by omega)]; exact a2
    · unfold Cn; rw [cN_ne (by omega), up_ne (by omega)]; exact a3
    · rw [cN_ne (by omega)] at hk
      have := a4 k hk
      unfold Cn gN; rw [cN_ne (by omega), up_ne (by omega), c]; exact ⟨this.1, Nat.lt_of_lt_of_le this.2 h1⟩
  · rw [up_ne (by omega)]; exact w.2.2.2.1.1 x hx
theorem WQ.c2 (w : WQ N r) {n : Nat} (hn : n ≤ 6) : WQ (upd N 2 (nI n)) r := by
  refine ⟨⟨?_, Cn.mk' up_eq hn (by decide), ?_⟩, fun g hg => ?_, fun q hq => ?_, ⟨fun x hx => ?_, w.2.2.2.1.2⟩, w.2.2.2.2⟩
  · unfold Cn; rw [cN_ne (by omega), up_ne (by omega)]; exact w.n1
  · unfold Cn; rw [cN_ne (by omega), up_ne (by omega)]; exact w.n3
  · rw [cN_ne (by omega)] at hg
    unfold Cn; rw [cN_ne (by omega), up_ne (by omega)]; exact w.kl hg
  · rw [cN_ne (by omega)] at hq
    obtain ⟨a1, a2, a3, a4⟩ := w.to hq
    refine ⟨?_, ?_, ?_, fun k hk => ?_⟩
    · unfold Cn; rw [cN_ne (by omega), up_ne (by omega)]; exact a1
    · unfold Cn; rw [cN_ne (by omega), up_ne (by omega)]; exact a2
    · unfold Cn; rw [cN_ne (by omega), up_ne (by omega)]; exact a3
    · rw [cN_ne (by omega)] at hk
      unfold Cn gN; rw [cN_ne (by omega), up_ne (by omega), cN_ne (by omega)]; exact a4 k hk
  · rw [up_ne (by omega)]; exact w.2.2.2.1.1 x hx
theorem WQ.c3 (w : WQ N r) {n : Nat} (hn : n ≤ 10) (hc : ∀ t, t < n → WFt N t) : WQ (upd N 3 (nI n)) r := by
  have c : cN (upd N 3 (nI n)) 3 = n := cN_eq rfl (by omega)
  refine ⟨⟨?_, ?_, Cn.mk' up_eq hn (by decide)⟩, fun g hg => ?_, fun q hq => ?_, ⟨fun x hx => ?_, w.2.2.2.1.2⟩, w.2.2.2.2⟩
  · unfold Cn; rw [cN_ne (by omega), up_ne (by omega)]; exact w.n1
  · unfold Cn; rw [cN_ne (by omega), up_ne (by omega)]; exact w.n2
  · rw [cN_ne (by omega)] at hg
    unfold Cn; rw [cN_ne (by omega), up_ne (by omega)]; exact w.kl hg
  · rw [c] at hq
    obtain ⟨a1, a2, a3, a4⟩ := hc q hq
    refine ⟨?_, ?_, ?_, fun k hk => ?_⟩
    · unfold Cn; rw [cN_ne (by omega), up_ne (by omega)]; exact a1
    · unfold Cn; rw [cN_ne (by omega), up_ne (by omega)]; exact a2
    · unfold Cn; rw [cN_ne (by omega), up_ne (by omega)]; exact a3
    · rw [cN_ne (by omega)] at hk
      unfold Cn gN; rw [cN_ne (by omega), up_ne (by omega), cN_ne (by omega)]; exact a4 k hk
  · rw [up_ne (by omega)]; exact w.2.2.2.1.1 x hx
end ACTS3
