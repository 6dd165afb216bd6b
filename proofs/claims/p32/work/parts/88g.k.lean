/-! the acts, one by one: guides, bridges, weather, booking, calling off -/
section ACTS
variable {E : Hp} {i : Nat → Nat → Int32} {j : Nat → Nat → Int64} {d : Nat → Nat → UInt64} {N : Nat → Int32} {r : Nat → UInt64} {B : Nat} {H : List Rw} {s : Option Rw}
theorem IV.rp (V : IV B i j d N r H s) : Rep i j d 1 N r := V.2.1.1
theorem IV.wf (V : IV B i j d N r H s) : WF B N r := V.2.1.2
end ACTS
