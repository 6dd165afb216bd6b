/-! the reference's copies of rows -/
def cp {α : Type} (f g : Nat → α) (b k : Nat) : Nat → α := fun x => if b ≤ x ∧ x < b + k then f (x - b) else g x
theorem cp_0 {α : Type} (f g : Nat → α) (b : Nat) : cp f g b 0 = g := by
  funext x; unfold cp; rw [if_neg (by omega)]
theorem cp_in {α : Type} {f g : Nat → α} {b k x : Nat} (h : x < k) : cp f g b k (b + x) = f x := by
  unfold cp; rw [if_pos (by omega), show b + x - b = x by omega]
theorem cp_out {α : Type} {f g : Nat → α} {b k x : Nat} (h : x < b ∨ b + k ≤ x) : cp f g b k x = g x := by
  unfold cp; rw [if_neg (by omega)]
theorem r2_self {α : Type} (f : Nat → Nat → α) (a : Nat) (v : Nat → α) : r2 f a v a = v := if_pos rfl
theorem r2_ne {α : Type} (f : Nat → Nat → α) {a b : Nat} (v : Nat → α) (h : b ≠ a) : r2 f a v b = f b := if_neg h
theorem r2_id {α : Type} (f : Nat → Nat → α) (a : Nat) : r2 f a (f a) = f := by
  funext b; unfold r2; split
  · rename_i e; rw [e]
  · rfl
theorem r2_step {α : Type} {i : Nat → Nat → α} {a b k : Nat} {f g : Nat → α} : u2 (r2 i a (cp f g b k)) a (b + k) (f k) = r2 i a (cp f g b (k + 1)) := by
  funext q x
  by_cases hq : q = a
  · subst hq
    rw [r2_self]
    by_cases hx : x = b + k
    · subst hx
      rw [u2_self, cp_in (by omega)]
    · rw [u2_nek _ _ hx, r2_self]
      unfold cp
      by_cases c : b ≤ x ∧ x < b + k
      · rw [if_pos c, if_pos (by omega)]
      · rw [if_neg c, if_neg (by omega)]
  · rw [u2_ne _ _ hq, r2_ne _ _ hq, r2_ne _ _ hq]
theorem nI_180 (K k : Nat) : (180 : Int32) * nI K + nI k = nI (180 * K + k) := by rw [show (180 : Int32) = nI 180 from rfl, pk_mul, nI_add]
theorem nI_17 (K k : Nat) : (17 : Int32) * nI K + nI k = nI (17 * K + k) := by rw [show (17 : Int32) = nI 17 from rfl, pk_mul, nI_add]
section CP
variable {E : Hp} {i : Nat → Nat → Int32} {j : Nat → Nat → Int64} {d : Nat → Nat → UInt64}
end CP
