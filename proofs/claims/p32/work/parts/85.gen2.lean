/-! the reference's questions: ropes -/
theorem bnd_go {α β : Type} {x : α} {k : α → Option β} : bnd x k = k x := rfl
section REF2
variable {E : Hp} {i : Nat → Nat → Int32} {j : Nat → Nat → Int64} {d : Nat → Nat → UInt64} {B : Nat}
theorem sLeft_s {N : Nat → Int32} {r : Nat → UInt64} (t k : Nat) : sLeft N r t (k + 1) = sLeft N r t k - sRat N r t (gN N t k) := (Nat.sub_sub _ _ _).symm
end REF2
