/-! rows that the law's own methods need beside -/
section GR8
variable {X : Cx} {cc : ByteArray} {own : String} {rm : Room} {k n pc : Nat} {S : Hp} {lv : List (Nat × Value)} {st : List Value}
theorem g_ldc (C : CxOK X cc own rm) {index : Nat} {v : Int32} (hw : Cond.constant own index v ∈ wsL_law) (hdg : decode cc pc = .ok (.ldc index, 2)) (kk : GW X k n S (pc + 2) lv (.int v :: st)) : GW X k n S pc lv st := fun H locs ls hP hD hS hl => lv_ldc C.1 C.2.1 C.2.2.2.1 (C.2.2.2.2.1 _ hw) hdg (kk H locs ls hP hD hS hl)
theorem g_lmul (C : CxOK X cc own rm) {x y : Int64} (hdg : decode cc pc = .ok (.lmul, 1)) (kk : GW X k n S (pc + 1) lv (.long (x * y) :: st)) : GW X k n S pc lv (.long y :: .long x :: st) := fun H locs ls hP hD hS hl => lv_lmul C.1 C.2.1 hdg (kk H locs ls hP hD hS hl)
theorem g_d2l (C : CxOK X cc own rm) {x : UInt64} (hdg : decode cc pc = .ok (.d2l, 1)) (kk : GW X k n S (pc + 1) lv (.long (FP.d2l x) :: st)) : GW X k n S pc lv (.double x :: st) := fun H locs ls hP hD hS hl => lv_d2l C.1 C.2.1 hdg (kk H locs ls hP hD hS hl)
end GR8
