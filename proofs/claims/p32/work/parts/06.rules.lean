/-! the rows: an instruction, a row; the heap's words behind GW -/
section GR
variable {X : Cx} {cc : ByteArray} {own : String} {rm : Room} {k n pc : Nat} {S : Hp} {lv lv' : List (Nat × Value)} {st : List Value}
theorem g_iconst (C : CxOK X cc own rm) {i : Int} {v : Int32} (hdg : decode cc pc = .ok (.iconst i, 1)) (hv : Int32.ofInt i = v) (kk : GW X k n S (pc + 1) lv (.int v :: st)) : GW X k n S pc lv st := fun H locs ls hP hD hS hl => lv_iconst C.1 C.2.1 hdg hv (kk H locs ls hP hD hS hl)
theorem g_bipush (C : CxOK X cc own rm) {i : Int} {v : Int32} (hdg : decode cc pc = .ok (.bipush i, 2)) (hv : (Int8.ofInt i).toInt32 = v) (kk : GW X k n S (pc + 2) lv (.int v :: st)) : GW X k n S pc lv st := fun H locs ls hP hD hS hl => lv_bipush C.1 C.2.1 hdg hv (kk H locs ls hP hD hS hl)
theorem g_sipush (C : CxOK X cc own rm) {i : Int} {v : Int32} (hdg : decode cc pc = .ok (.sipush i, 3)) (hv : (Int16.ofInt i).toInt32 = v) (kk : GW X k n S (pc + 3) lv (.int v :: st)) : GW X k n S pc lv st := fun H locs ls hP hD hS hl => lv_sipush C.1 C.2.1 hdg hv (kk H locs ls hP hD hS hl)
theorem g_lconst (C : CxOK X cc own rm) {i : Fin 2} {v : Int64} (hdg : decode cc pc = .ok (.lconst i, 1)) (hv : Int64.ofNat (i : Nat) = v) (kk : GW X k n S (pc + 1) lv (.long v :: st)) : GW X k n S pc lv st := fun H locs ls hP hD hS hl => lv_lconst C.1 C.2.1 hdg hv (kk H locs ls hP hD hS hl)
theorem g_dconst0 (C : CxOK X cc own rm) (hdg : decode cc pc = .ok (.dconst 0, 1)) (kk : GW X k n S (pc + 1) lv (.double FP.dconst0 :: st)) : GW X k n S pc lv st := fun H locs ls hP hD hS hl => lv_dconst0 C.1 C.2.1 hdg (kk H locs ls hP hD hS hl)
theorem g_dconst1 (C : CxOK X cc own rm) (hdg : decode cc pc = .ok (.dconst 1, 1)) (kk : GW X k n S (pc + 1) lv (.double FP.dconst1 :: st)) : GW X k n S pc lv st := fun H locs ls hP hD hS hl => lv_dconst1 C.1 C.2.1 hdg (kk H locs ls hP hD hS hl)
theorem g_ldc2d (C : CxOK X cc own rm) {index : Nat} {v : UInt64} (hw : Cond.constantDouble own index v ∈ wsL_law) (hdg : decode cc pc = .ok (.ldc2_w index, 3)) (kk : GW X k n S (pc + 3) lv (.double v :: st)) : GW X k n S pc lv st := fun H locs ls hP hD hS hl => lv_ldc2d C.1 C.2.1 C.2.2.2.1 (C.2.2.2.2.1 _ hw) hdg (kk H locs ls hP hD hS hl)
theorem g_ldc2l (C : CxOK X cc own rm) {index : Nat} {v : Int64} (hw : Cond.constantLong own index v ∈ wsL_law) (hdg : decode cc pc = .ok (.ldc2_w index, 3)) (kk : GW X k n S (pc + 3) lv (.long v :: st)) : GW X k n S pc lv st := fun H locs ls hP hD hS hl => lv_ldc2 C.1 C.2.1 C.2.2.2.1 (C.2.2.2.2.1 _ hw) hdg (kk H locs ls hP hD hS hl)
-- loads
theorem g_iload_n (C : CxOK X cc own rm) {f : Fin 4} {i q : Nat} {x : Int32} (hdg : decode cc pc = .ok (.iload_n f, 1)) (hi : (f : Nat) = i) (hq : lv[q]? = some (i, .int x)) (kk : GW X k n S (pc + 1) lv (.int x :: st)) : GW X k n S pc lv st := fun H locs ls hP hD hS hl => lv_iload_n C.1 C.2.1 hdg hi (lv_at hl q hq) (kk H locs ls hP hD hS hl)
theorem g_iload (C : CxOK X cc own rm) {i q : Nat} {x : Int32} (hdg : decode cc pc = .ok (.iload i, 2)) (hq : lv[q]? = some (i, .int x)) (kk : GW X k n S (pc + 2) lv (.int x :: st)) : GW X k n S pc lv st := fun H locs ls hP hD hS hl => lv_iload C.1 C.2.1 hdg (lv_at hl q hq) (kk H locs ls hP hD hS hl)
theorem g_lload_n (C : CxOK X cc own rm) {f : Fin 4} {i q : Nat} {x : Int64} (hdg : decode cc pc = .ok (.lload_n f, 1)) (hi : (f : Nat) = i) (hq : lv[q]? = some (i, .long x)) (kk : GW X k n S (pc + 1) lv (.long x :: st)) : GW X k n S pc lv st := fun H locs ls hP hD hS hl => lv_lload_n C.1 C.2.1 hdg hi (lv_at hl q hq) (kk H locs ls hP hD hS hl)
theorem g_lload (C : CxOK X cc own rm) {i q : Nat} {x : Int64} (hdg : decode cc pc = .ok (.lload i, 2)) (hq : lv[q]? = some (i, .long x)) (kk : GW X k n S (pc + 2) lv (.long x :: st)) : GW X k n S pc lv st := fun H locs ls hP hD hS hl => lv_lload C.1 C.2.1 hdg (lv_at hl q hq) (kk H locs ls hP hD hS hl)
theorem g_dload_n (C : CxOK X cc own rm) {f : Fin 4} {i q : Nat} {x : UInt64} (hdg : decode cc pc = .ok (.dload_n f, 1)) (hi : (f : Nat) = i) (hq : lv[q]? = some (i, .double x)) (kk : GW X k n S (pc + 1) lv (.double x :: st)) : GW X k n S pc lv st := fun H locs ls hP hD hS hl => lv_dload_n C.1 C.2.1 hdg hi (lv_at hl q hq) (kk H locs ls hP hD hS hl)
theorem g_dload (C : CxOK X cc own rm) {i q : Nat} {x : UInt64} (hdg : decode cc pc = .ok (.dload i, 2)) (hq : lv[q]? = some (i, .double x)) (kk : GW X k n S (pc + 2) lv (.double x :: st)) : GW X k n S pc lv st := fun H locs ls hP hD hS hl => lv_dload C.1 C.2.1 hdg (lv_at hl q hq) (kk H locs ls hP hD hS hl)
theorem g_aload_n (C : CxOK X cc own rm) {f : Fin 4} {i q : Nat} {x : Option Nat} (hdg : decode cc pc = .ok (.aload_n f, 1)) (hi : (f : Nat) = i) (hq : lv[q]? = some (i, va_rf x)) (kk : GW X k n S (pc + 1) lv (va_rf x :: st)) : GW X k n S pc lv st := by
  cases x with
  | none => exact fun H locs ls hP hD hS hl => lv_aload_nN C.1 C.2.1 hdg hi (lv_at hl q hq) (kk H locs ls hP hD hS hl)
  | some a => exact fun H locs ls hP hD hS hl => lv_aload_n C.1 C.2.1 hdg hi (lv_at hl q hq) (kk H locs ls hP hD hS hl)
theorem g_aload (C : CxOK X cc own rm) {i q : Nat} {x : Option Nat} (hdg : decode cc pc = .ok (.aload i, 2)) (hq : lv[q]? = some (i, va_rf x)) (kk : GW X k n S (pc + 2) lv (va_rf x :: st)) : GW X k n S pc lv st := by
  cases x with
  | none => exact fun H locs ls hP hD hS hl => lv_aloadN C.1 C.2.1 hdg (lv_at hl q hq) (kk H locs ls hP hD hS hl)
  | some a => exact fun H locs ls hP hD hS hl => lv_aload C.1 C.2.1 hdg (lv_at hl q hq) (kk H locs ls hP hD hS hl)
-- stores
theorem g_istore_n (C : CxOK X cc own rm) {f : Fin 4} {i : Nat} {x : Int32} (hdg : decode cc pc = .ok (.istore_n f, 1)) (hi : (f : Nat) = i) (hn : i < xn X) (hl : (i, Value.int x) :: lv.filter (fun q => !(q.1 == i) && !(q.1 + 1 == i && q.2.category == 2)) = lv') (kk : GW X k n S (pc + 1) lv' st) : GW X k n S pc lv (.int x :: st) := fun H locs ls hP hD hS h => lv_istore_n C.1 C.2.1 hdg hi h hn hl (fun ls h => kk H locs ls hP hD hS h)
theorem g_istore (C : CxOK X cc own rm) {i : Nat} {x : Int32} (hdg : decode cc pc = .ok (.istore i, 2)) (hn : i < xn X) (hl : (i, Value.int x) :: lv.filter (fun q => !(q.1 == i) && !(q.1 + 1 == i && q.2.category == 2)) = lv') (kk : GW X k n S (pc + 2) lv' st) : GW X k n S pc lv (.int x :: st) := fun H locs ls hP hD hS h => lv_istore C.1 C.2.1 hdg h hn hl (fun ls h => kk H locs ls hP hD hS h)
theorem g_lstore_n (C : CxOK X cc own rm) {f : Fin 4} {i : Nat} {x : Int64} (hdg : decode cc pc = .ok (.lstore_n f, 1)) (hi : (f : Nat) = i) (hn : i + 1 < xn X) (hl : (i, Value.long x) :: lv.filter (fun q => !(q.1 == i) && (!(q.1 == i + 1) && !(q.1 + 1 == i && q.2.category == 2))) = lv') (kk : GW X k n S (pc + 1) lv' st) : GW X k n S pc lv (.long x :: st) := fun H locs ls hP hD hS h => lv_lstore_n C.1 C.2.1 hdg hi h hn hl (fun ls h => kk H locs ls hP hD hS h)
theorem g_lstore (C : CxOK X cc own rm) {i : Nat} {x : Int64} (hdg : decode cc pc = .ok (.lstore i, 2)) (hn : i + 1 < xn X) (hl : (i, Value.long x) :: lv.filter (fun q => !(q.1 == i) && (!(q.1 == i + 1) && !(q.1 + 1 == i && q.2.category == 2))) = lv') (kk : GW X k n S (pc + 2) lv' st) : GW X k n S pc lv (.long x :: st) := fun H locs ls hP hD hS h => lv_lstore C.1 C.2.1 hdg h hn hl (fun ls h => kk H locs ls hP hD hS h)
theorem g_dstore_n (C : CxOK X cc own rm) {f : Fin 4} {i : Nat} {x : UInt64} (hdg : decode cc pc = .ok (.dstore_n f, 1)) (hi : (f : Nat) = i) (hn : i + 1 < xn X) (hl : (i, Value.double x) :: lv.filter (fun q => !(q.1 == i) && (!(q.1 == i + 1) && !(q.1 + 1 == i && q.2.category == 2))) = lv') (kk : GW X k n S (pc + 1) lv' st) : GW X k n S pc lv (.double x :: st) := fun H locs ls hP hD hS h => lv_dstore_n C.1 C.2.1 hdg hi h hn hl (fun ls h => kk H locs ls hP hD hS h)
theorem g_dstore (C : CxOK X cc own rm) {i : Nat} {x : UInt64} (hdg : decode cc pc = .ok (.dstore i, 2)) (hn : i + 1 < xn X) (hl : (i, Value.double x) :: lv.filter (fun q => !(q.1 == i) && (!(q.1 == i + 1) && !(q.1 + 1 == i && q.2.category == 2))) = lv') (kk : GW X k n S (pc + 2) lv' st) : GW X k n S pc lv (.double x :: st) := fun H locs ls hP hD hS h => lv_dstore C.1 C.2.1 hdg h hn hl (fun ls h => kk H locs ls hP hD hS h)
theorem g_astore_n (C : CxOK X cc own rm) {f : Fin 4} {i : Nat} {x : Option Nat} (hdg : decode cc pc = .ok (.astore_n f, 1)) (hi : (f : Nat) = i) (hn : i < xn X) (hl : (i, va_rf x) :: lv.filter (fun q => !(q.1 == i) && !(q.1 + 1 == i && q.2.category == 2)) = lv') (kk : GW X k n S (pc + 1) lv' st) : GW X k n S pc lv (va_rf x :: st) := by
  cases x with
  | none => exact fun H locs ls hP hD hS h => lv_astore_nN C.1 C.2.1 hdg hi h hn hl (fun ls h => kk H locs ls hP hD hS h)
  | some a => exact fun H locs ls hP hD hS h => lv_astore_n C.1 C.2.1 hdg hi h hn hl (fun ls h => kk H locs ls hP hD hS h)
theorem g_astore (C : CxOK X cc own rm) {i : Nat} {x : Option Nat} (hdg : decode cc pc = .ok (.astore i, 2)) (hn : i < xn X) (hl : (i, va_rf x) :: lv.filter (fun q => !(q.1 == i) && !(q.1 + 1 == i && q.2.category == 2)) = lv') (kk : GW X k n S (pc + 2) lv' st) : GW X k n S pc lv (va_rf x :: st) := by
  cases x with
  | none => exact fun H locs ls hP hD hS h => lv_astoreN C.1 C.2.1 hdg h hn hl (fun ls h => kk H locs ls hP hD hS h)
  | some a => exact fun H locs ls hP hD hS h => lv_astore C.1 C.2.1 hdg h hn hl (fun ls h => kk H locs ls hP hD hS h)
theorem g_iinc (C : CxOK X cc own rm) {i q : Nat} {d : Int} {x : Int32} (v : Int32) (hdg : decode cc pc = .ok (.iinc i d, 3)) (hq : lv[q]? = some (i, .int x)) (hv : x + Int32.ofInt d = v) (hn : i < xn X) (hl : (i, Value.int v) :: lv.filter (fun q => !(q.1 == i) && !(q.1 + 1 == i && q.2.category == 2)) = lv') (kk : GW X k n S (pc + 3) lv' st) : GW X k n S pc lv st := fun H locs ls hP hD hS h => lv_iinc (v := v) C.1 C.2.1 hdg h hq hv hn hl (fun ls h => kk H locs ls hP hD hS h)
theorem g_sub (ks : List Nat) (hl : lv_pick lv ks = lv') (kk : GW X k n S pc lv' st) : GW X k n S pc lv st := fun H locs ls hP hD hS h => kk H locs ls hP hD hS (lv_sub h ks hl)
-- names of the top
theorem g_topi {x : Int32} (kk : ∀ y : Int32, y = x → GW X k n S pc lv (.int y :: st)) : GW X k n S pc lv (.int x :: st) := kk x rfl
theorem g_topl {x : Int64} (kk : ∀ y : Int64, y = x → GW X k n S pc lv (.long y :: st)) : GW X k n S pc lv (.long x :: st) := kk x rfl
theorem g_topd {x : UInt64} (kk : ∀ y : UInt64, y = x → GW X k n S pc lv (.double y :: st)) : GW X k n S pc lv (.double x :: st) := kk x rfl
theorem g_topr {x : Option Nat} (kk : ∀ y : Option Nat, y = x → GW X k n S pc lv (va_rf y :: st)) : GW X k n S pc lv (va_rf x :: st) := kk x rfl
def fpg {β : Type} (r : UInt64) (k : Option β) : Option β := gd (r &&& 0x7fffffffffffffff ≤ 0x7ff0000000000000) k
theorem fpg_el {β : Type} {r : UInt64} {k : Option β} {o : β} (h : fpg r k = some o) : vf_n64 r ∧ k = some o := by
  have h := gd_el h
  exact ⟨h.1, h.2⟩
theorem fpg_go {β : Type} {r : UInt64} {k : Option β} (h : vf_n64 r) : fpg r k = k := gd_go (c := r &&& 0x7fffffffffffffff ≤ 0x7ff0000000000000) h
theorem bnd_ex {α β : Type} {x : α} {K : α → Option β} {o : β} (h : bnd x K = some o) : ∃ v, x = v ∧ K v = some o := ⟨x, rfl, h⟩
theorem g_nmI {β : Type} {o : β} {x : Int32} {K : Int32 → Option β} (h : bnd x K = some o) (kk : ∀ y, K y = some o → GW X k n S pc lv (.int y :: st)) : GW X k n S pc lv (.int x :: st) := kk x h
theorem g_nmJ {β : Type} {o : β} {x : Int64} {K : Int64 → Option β} (h : bnd x K = some o) (kk : ∀ y, K y = some o → GW X k n S pc lv (.long y :: st)) : GW X k n S pc lv (.long x :: st) := kk x h
theorem g_nmD {β : Type} {o : β} {x : UInt64} {K : UInt64 → Option β} (h : bnd x K = some o) (kk : ∀ y, K y = some o → GW X k n S pc lv (.double y :: st)) : GW X k n S pc lv (.double x :: st) := kk x h
theorem g_nmR {β : Type} {o : β} {x : Option Nat} {K : Option Nat → Option β} (h : bnd x K = some o) (kk : ∀ y, K y = some o → GW X k n S pc lv (va_rf y :: st)) : GW X k n S pc lv (va_rf x :: st) := kk x h
theorem cat_sum {st : List Value} (h : st.length ≤ 4) : (st.map fun v => v.category).sum ≤ 8 := by
  have : ∀ (l : List Value), (l.map fun v => v.category).sum ≤ 2 * l.length := by
    intro l
    induction l with
    | nil => exact Nat.le_refl 0
    | cons v l ih =>
      rw [List.map_cons, List.sum_cons, List.length_cons]
      rcases lv_cat v with h | h <;> omega
  have := this st
  omega
theorem g_iadd (C : CxOK X cc own rm) {x y : Int32} (hdg : decode cc pc = .ok (.iadd, 1)) (kk : GW X k n S (pc + 1) lv (.int (x + y) :: st)) : GW X k n S pc lv (.int y :: .int x :: st) := fun H locs ls hP hD hS hl => lv_iadd C.1 C.2.1 hdg (kk H locs ls hP hD hS hl)
theorem g_isub (C : CxOK X cc own rm) {x y : Int32} (hdg : decode cc pc = .ok (.isub, 1)) (kk : GW X k n S (pc + 1) lv (.int (x - y) :: st)) : GW X k n S pc lv (.int y :: .int x :: st) := fun H locs ls hP hD hS hl => lv_isub C.1 C.2.1 hdg (kk H locs ls hP hD hS hl)
theorem g_imul (C : CxOK X cc own rm) {x y : Int32} (hdg : decode cc pc = .ok (.imul, 1)) (kk : GW X k n S (pc + 1) lv (.int (x * y) :: st)) : GW X k n S pc lv (.int y :: .int x :: st) := fun H locs ls hP hD hS hl => lv_imul C.1 C.2.1 hdg (kk H locs ls hP hD hS hl)
theorem g_iand (C : CxOK X cc own rm) {x y : Int32} (hdg : decode cc pc = .ok (.iand, 1)) (kk : GW X k n S (pc + 1) lv (.int (x &&& y) :: st)) : GW X k n S pc lv (.int y :: .int x :: st) := fun H locs ls hP hD hS hl => lv_iand C.1 C.2.1 hdg (kk H locs ls hP hD hS hl)
theorem g_ior (C : CxOK X cc own rm) {x y : Int32} (hdg : decode cc pc = .ok (.ior, 1)) (kk : GW X k n S (pc + 1) lv (.int (x ||| y) :: st)) : GW X k n S pc lv (.int y :: .int x :: st) := fun H locs ls hP hD hS hl => lv_ior C.1 C.2.1 hdg (kk H locs ls hP hD hS hl)
theorem g_ixor (C : CxOK X cc own rm) {x y : Int32} (hdg : decode cc pc = .ok (.ixor, 1)) (kk : GW X k n S (pc + 1) lv (.int (x ^^^ y) :: st)) : GW X k n S pc lv (.int y :: .int x :: st) := fun H locs ls hP hD hS hl => lv_ixor C.1 C.2.1 hdg (kk H locs ls hP hD hS hl)
theorem g_ladd (C : CxOK X cc own rm) {x y : Int64} (hdg : decode cc pc = .ok (.ladd, 1)) (kk : GW X k n S (pc + 1) lv (.long (x + y) :: st)) : GW X k n S pc lv (.long y :: .long x :: st) := fun H locs ls hP hD hS hl => lv_ladd C.1 C.2.1 hdg (kk H locs ls hP hD hS hl)
theorem g_land (C : CxOK X cc own rm) {x y : Int64} (hdg : decode cc pc = .ok (.land, 1)) (kk : GW X k n S (pc + 1) lv (.long (x &&& y) :: st)) : GW X k n S pc lv (.long y :: .long x :: st) := fun H locs ls hP hD hS hl => lv_land C.1 C.2.1 hdg (kk H locs ls hP hD hS hl)
theorem g_lor (C : CxOK X cc own rm) {x y : Int64} (hdg : decode cc pc = .ok (.lor, 1)) (kk : GW X k n S (pc + 1) lv (.long (x ||| y) :: st)) : GW X k n S pc lv (.long y :: .long x :: st) := fun H locs ls hP hD hS hl => lv_lor C.1 C.2.1 hdg (kk H locs ls hP hD hS hl)
theorem g_lxor (C : CxOK X cc own rm) {x y : Int64} (hdg : decode cc pc = .ok (.lxor, 1)) (kk : GW X k n S (pc + 1) lv (.long (x ^^^ y) :: st)) : GW X k n S pc lv (.long y :: .long x :: st) := fun H locs ls hP hD hS hl => lv_lxor C.1 C.2.1 hdg (kk H locs ls hP hD hS hl)
theorem g_dadd (C : CxOK X cc own rm) {β : Type} {K : Option β} {o : β} {x y : UInt64} (hdg : decode cc pc = .ok (.dadd, 1)) (h : fpg (FP.dadd x y) K = some o) (kk : K = some o → GW X k n S (pc + 1) lv (.double (FP.dadd x y) :: st)) : GW X k n S pc lv (.double y :: .double x :: st) := fun H locs ls hP hD hS hl => lv_dadd C.1 C.2.1 hdg (fpg_el h).1 (kk (fpg_el h).2 H locs ls hP hD hS hl)
theorem g_dsub (C : CxOK X cc own rm) {β : Type} {K : Option β} {o : β} {x y : UInt64} (hdg : decode cc pc = .ok (.dsub, 1)) (h : fpg (FP.dsub x y) K = some o) (kk : K = some o → GW X k n S (pc + 1) lv (.double (FP.dsub x y) :: st)) : GW X k n S pc lv (.double y :: .double x :: st) := fun H locs ls hP hD hS hl => lv_dsub C.1 C.2.1 hdg (fpg_el h).1 (kk (fpg_el h).2 H locs ls hP hD hS hl)
theorem g_dmul (C : CxOK X cc own rm) {β : Type} {K : Option β} {o : β} {x y : UInt64} (hdg : decode cc pc = .ok (.dmul, 1)) (h : fpg (FP.dmul x y) K = some o) (kk : K = some o → GW X k n S (pc + 1) lv (.double (FP.dmul x y) :: st)) : GW X k n S pc lv (.double y :: .double x :: st) := fun H locs ls hP hD hS hl => lv_dmul C.1 C.2.1 hdg (fpg_el h).1 (kk (fpg_el h).2 H locs ls hP hD hS hl)
theorem g_ddiv (C : CxOK X cc own rm) {β : Type} {K : Option β} {o : β} {x y : UInt64} (hdg : decode cc pc = .ok (.ddiv, 1)) (h : fpg (FP.ddiv x y) K = some o) (kk : K = some o → GW X k n S (pc + 1) lv (.double (FP.ddiv x y) :: st)) : GW X k n S pc lv (.double y :: .double x :: st) := fun H locs ls hP hD hS hl => lv_ddiv C.1 C.2.1 hdg (fpg_el h).1 (kk (fpg_el h).2 H locs ls hP hD hS hl)
theorem g_dneg (C : CxOK X cc own rm) {x : UInt64} (hdg : decode cc pc = .ok (.dneg, 1)) (kk : GW X k n S (pc + 1) lv (.double (FP.dneg x) :: st)) : GW X k n S pc lv (.double x :: st) := fun H locs ls hP hD hS hl => lv_dneg C.1 C.2.1 hdg (kk H locs ls hP hD hS hl)
theorem g_i2d (C : CxOK X cc own rm) {x : Int32} (hdg : decode cc pc = .ok (.i2d, 1)) (kk : GW X k n S (pc + 1) lv (.double (FP.i2d x) :: st)) : GW X k n S pc lv (.int x :: st) := fun H locs ls hP hD hS hl => lv_i2d C.1 C.2.1 hdg (kk H locs ls hP hD hS hl)
theorem g_l2d (C : CxOK X cc own rm) {x : Int64} (hdg : decode cc pc = .ok (.l2d, 1)) (kk : GW X k n S (pc + 1) lv (.double (FP.l2d x) :: st)) : GW X k n S pc lv (.long x :: st) := fun H locs ls hP hD hS hl => lv_l2d C.1 C.2.1 hdg (kk H locs ls hP hD hS hl)
theorem g_d2i (C : CxOK X cc own rm) {x : UInt64} (hdg : decode cc pc = .ok (.d2i, 1)) (kk : GW X k n S (pc + 1) lv (.int (FP.d2i x) :: st)) : GW X k n S pc lv (.double x :: st) := fun H locs ls hP hD hS hl => lv_d2i C.1 C.2.1 hdg (kk H locs ls hP hD hS hl)
theorem g_i2l (C : CxOK X cc own rm) {x : Int32} (hdg : decode cc pc = .ok (.i2l, 1)) (kk : GW X k n S (pc + 1) lv (.long (x.toInt64) :: st)) : GW X k n S pc lv (.int x :: st) := fun H locs ls hP hD hS hl => lv_i2l C.1 C.2.1 hdg rfl (kk H locs ls hP hD hS hl)
theorem g_l2i (C : CxOK X cc own rm) {x : Int64} (hdg : decode cc pc = .ok (.l2i, 1)) (kk : GW X k n S (pc + 1) lv (.int (x.toInt32) :: st)) : GW X k n S pc lv (.long x :: st) := fun H locs ls hP hD hS hl => lv_l2i C.1 C.2.1 hdg rfl (kk H locs ls hP hD hS hl)
theorem g_i2c (C : CxOK X cc own rm) {x : Int32} (hdg : decode cc pc = .ok (.i2c, 1)) (kk : GW X k n S (pc + 1) lv (.int ((x.toUInt32 % 65536).toInt32) :: st)) : GW X k n S pc lv (.int x :: st) := fun H locs ls hP hD hS hl => lv_i2c C.1 C.2.1 hdg rfl (kk H locs ls hP hD hS hl)
theorem g_irem (C : CxOK X cc own rm) {β : Type} {K : Option β} {o : β} {x y : Int32} (hdg : decode cc pc = .ok (.irem, 1)) (h : gd (¬ y = 0) K = some o) (kk : K = some o → GW X k n S (pc + 1) lv (.int (x - x / y * y) :: st)) : GW X k n S pc lv (.int y :: .int x :: st) := fun H locs ls hP hD hS hl => lv_irem C.1 C.2.1 hdg (gd_el h).1 (kk (gd_el h).2 H locs ls hP hD hS hl)
theorem g_ishl (C : CxOK X cc own rm) {x y : Int32} (hdg : decode cc pc = .ok (.ishl, 1)) (kk : GW X k n S (pc + 1) lv (.int (x <<< (y &&& 31)) :: st)) : GW X k n S pc lv (.int y :: .int x :: st) := fun H locs ls hP hD hS hl => lv_ishl C.1 C.2.1 hdg (kk H locs ls hP hD hS hl)
theorem g_ishr (C : CxOK X cc own rm) {x y : Int32} (hdg : decode cc pc = .ok (.ishr, 1)) (kk : GW X k n S (pc + 1) lv (.int (x >>> (y &&& 31)) :: st)) : GW X k n S pc lv (.int y :: .int x :: st) := fun H locs ls hP hD hS hl => lv_ishr C.1 C.2.1 hdg (kk H locs ls hP hD hS hl)
theorem g_lushr (C : CxOK X cc own rm) {x : Int64} {y : Int32} (hdg : decode cc pc = .ok (.lushr, 1)) (kk : GW X k n S (pc + 1) lv (.long (x.toUInt64 >>> (y.toInt64.toUInt64 &&& Int64.toUInt64 63)).toInt64 :: st)) : GW X k n S pc lv (.int y :: .long x :: st) := fun H locs ls hP hD hS hl => lv_lushr C.1 C.2.1 hdg rfl (kk H locs ls hP hD hS hl)
theorem g_lshl (C : CxOK X cc own rm) {x : Int64} {y : Int32} (hdg : decode cc pc = .ok (.lshl, 1)) (kk : GW X k n S (pc + 1) lv (.long (x <<< (y.toInt64 &&& 63)) :: st)) : GW X k n S pc lv (.int y :: .long x :: st) := fun H locs ls hP hD hS hl => lv_lshl C.1 C.2.1 hdg rfl (kk H locs ls hP hD hS hl)
theorem g_lcmp (C : CxOK X cc own rm) {x y : Int64} (hdg : decode cc pc = .ok (.lcmp, 1)) (kk : GW X k n S (pc + 1) lv (.int (lg_cmp x y) :: st)) : GW X k n S pc lv (.long y :: .long x :: st) := fun H locs ls hP hD hS hl => W.lcmp C.1 C.2.1 hdg (kk H locs ls hP hD hS hl)
theorem g_dcmp (C : CxOK X cc own rm) {x y : UInt64} {op : CmpOp} (hdg : decode cc pc = .ok (.dcmp op, 1)) (kk : GW X k n S (pc + 1) lv (.int (Op.cmpValue (FP.dcmp x y) op) :: st)) : GW X k n S pc lv (.double y :: .double x :: st) := fun H locs ls hP hD hS hl => lv_dcmp C.1 C.2.1 hdg (kk H locs ls hP hD hS hl)
theorem g_dup (C : CxOK X cc own rm) {v : Value} (hdg : decode cc pc = .ok (.dup, 1)) (hv : v.category = 1) (kk : GW X k n S (pc + 1) lv (v :: v :: st)) : GW X k n S pc lv (v :: st) := fun H locs ls hP hD hS hl => lv_dup C.1 C.2.1 hdg hv (kk H locs ls hP hD hS hl)
theorem catI (x : Int32) : (Value.int x).category = 1 := rfl
theorem catJ (x : Int64) : (Value.long x).category = 2 := rfl
theorem catD (x : UInt64) : (Value.double x).category = 2 := rfl
theorem va_rf_cat (r : Option Nat) : (va_rf r).category = 1 := by cases r <;> rfl
theorem g_dup2 (C : CxOK X cc own rm) {v w : Value} (hdg : decode cc pc = .ok (.dup2, 1)) (hv : v.category = 1) (hw : w.category = 1) (kk : GW X k n S (pc + 1) lv (v :: w :: v :: w :: st)) : GW X k n S pc lv (v :: w :: st) := fun H locs ls hP hD hS hl => lv_dup2_11 C.1 C.2.1 hdg hv hw (kk H locs ls hP hD hS hl)
theorem g_pop (C : CxOK X cc own rm) {v : Value} (hdg : decode cc pc = .ok (.pop, 1)) (hv : v.category = 1) (kk : GW X k n S (pc + 1) lv st) : GW X k n S pc lv (v :: st) := fun H locs ls hP hD hS hl => lv_pop C.1 C.2.1 hdg hv (kk H locs ls hP hD hS hl)
theorem g_goto (C : CxOK X cc own rm) {off : Int} {tgt : Nat} (hdg : decode cc pc = .ok (.goto off, 3)) (ht : (pc : Int) + off = (tgt : Int)) (kk : GW X k n S tgt lv st) : GW X k n S pc lv st := fun H locs ls hP hD hS hl => lv_goto C.1 C.2.1 hdg ht (kk H locs ls hP hD hS hl)
theorem g_null (C : CxOK X cc own rm) (hdg : decode cc pc = .ok (.aconst_null, 1)) (kk : GW X k n S (pc + 1) lv (va_rf none :: st)) : GW X k n S pc lv st := fun H locs ls hP hD hS hl => lv_null C.1 C.2.1 hdg (kk H locs ls hP hD hS hl)
theorem g_if_eq (C : CxOK X cc own rm) {β : Type} {A B : Option β} {o : β} {x : Int32} {off : Int} {tgt : Nat} (hdg : decode cc pc = .ok (.ifCond .eq off, 3)) (ht : (pc : Int) + off = (tgt : Int)) (h : (if x = 0 then A else B) = some o) (ka : A = some o → GW X k n S tgt lv st) (kb : B = some o → GW X k n S (pc + 3) lv st) : GW X k n S pc lv (.int x :: st) := fun H locs ls hP hD hS hl => lv_if_eq C.1 C.2.1 hdg ht (fun c => ka (if_el1 h c) H locs ls hP hD hS hl) (fun c => kb (if_el2 h c) H locs ls hP hD hS hl)
theorem g_icmp_eq (C : CxOK X cc own rm) {β : Type} {A B : Option β} {o : β} {x y : Int32} {off : Int} {tgt : Nat} (hdg : decode cc pc = .ok (.if_icmp .eq off, 3)) (ht : (pc : Int) + off = (tgt : Int)) (h : (if x = y then A else B) = some o) (ka : A = some o → GW X k n S tgt lv st) (kb : B = some o → GW X k n S (pc + 3) lv st) : GW X k n S pc lv (.int y :: .int x :: st) := fun H locs ls hP hD hS hl => lv_icmp_eq C.1 C.2.1 hdg ht (fun c => ka (if_el1 h c) H locs ls hP hD hS hl) (fun c => kb (if_el2 h c) H locs ls hP hD hS hl)
theorem g_if_ne (C : CxOK X cc own rm) {β : Type} {A B : Option β} {o : β} {x : Int32} {off : Int} {tgt : Nat} (hdg : decode cc pc = .ok (.ifCond .ne off, 3)) (ht : (pc : Int) + off = (tgt : Int)) (h : (if x = 0 then A else B) = some o) (ka : A = some o → GW X k n S (pc + 3) lv st) (kb : B = some o → GW X k n S tgt lv st) : GW X k n S pc lv (.int x :: st) := fun H locs ls hP hD hS hl => lv_if_ne C.1 C.2.1 hdg ht (fun c => kb (if_el2 h c) H locs ls hP hD hS hl) (fun c => ka (if_el1 h c) H locs ls hP hD hS hl)
theorem g_icmp_ne (C : CxOK X cc own rm) {β : Type} {A B : Option β} {o : β} {x y : Int32} {off : Int} {tgt : Nat} (hdg : decode cc pc = .ok (.if_icmp .ne off, 3)) (ht : (pc : Int) + off = (tgt : Int)) (h : (if x = y then A else B) = some o) (ka : A = some o → GW X k n S (pc + 3) lv st) (kb : B = some o → GW X k n S tgt lv st) : GW X k n S pc lv (.int y :: .int x :: st) := fun H locs ls hP hD hS hl => lv_icmp_ne C.1 C.2.1 hdg ht (fun c => kb (if_el2 h c) H locs ls hP hD hS hl) (fun c => ka (if_el1 h c) H locs ls hP hD hS hl)
theorem g_if_lt (C : CxOK X cc own rm) {β : Type} {A B : Option β} {o : β} {x : Int32} {off : Int} {tgt : Nat} (hdg : decode cc pc = .ok (.ifCond .lt off, 3)) (ht : (pc : Int) + off = (tgt : Int)) (h : (if x < 0 then A else B) = some o) (ka : A = some o → GW X k n S tgt lv st) (kb : B = some o → GW X k n S (pc + 3) lv st) : GW X k n S pc lv (.int x :: st) := fun H locs ls hP hD hS hl => lv_if_lt C.1 C.2.1 hdg ht (fun c => ka (if_el1 h c) H locs ls hP hD hS hl) (fun c => kb (if_el2 h c) H locs ls hP hD hS hl)
theorem g_icmp_lt (C : CxOK X cc own rm) {β : Type} {A B : Option β} {o : β} {x y : Int32} {off : Int} {tgt : Nat} (hdg : decode cc pc = .ok (.if_icmp .lt off, 3)) (ht : (pc : Int) + off = (tgt : Int)) (h : (if x < y then A else B) = some o) (ka : A = some o → GW X k n S tgt lv st) (kb : B = some o → GW X k n S (pc + 3) lv st) : GW X k n S pc lv (.int y :: .int x :: st) := fun H locs ls hP hD hS hl => lv_icmp_lt C.1 C.2.1 hdg ht (fun c => ka (if_el1 h c) H locs ls hP hD hS hl) (fun c => kb (if_el2 h c) H locs ls hP hD hS hl)
theorem g_if_ge (C : CxOK X cc own rm) {β : Type} {A B : Option β} {o : β} {x : Int32} {off : Int} {tgt : Nat} (hdg : decode cc pc = .ok (.ifCond .ge off, 3)) (ht : (pc : Int) + off = (tgt : Int)) (h : (if 0 ≤ x then A else B) = some o) (ka : A = some o → GW X k n S tgt lv st) (kb : B = some o → GW X k n S (pc + 3) lv st) : GW X k n S pc lv (.int x :: st) := fun H locs ls hP hD hS hl => lv_if_ge C.1 C.2.1 hdg ht (fun c => ka (if_el1 h c) H locs ls hP hD hS hl) (fun c => kb (if_el2 h c) H locs ls hP hD hS hl)
theorem g_icmp_ge (C : CxOK X cc own rm) {β : Type} {A B : Option β} {o : β} {x y : Int32} {off : Int} {tgt : Nat} (hdg : decode cc pc = .ok (.if_icmp .ge off, 3)) (ht : (pc : Int) + off = (tgt : Int)) (h : (if y ≤ x then A else B) = some o) (ka : A = some o → GW X k n S tgt lv st) (kb : B = some o → GW X k n S (pc + 3) lv st) : GW X k n S pc lv (.int y :: .int x :: st) := fun H locs ls hP hD hS hl => lv_icmp_ge C.1 C.2.1 hdg ht (fun c => ka (if_el1 h c) H locs ls hP hD hS hl) (fun c => kb (if_el2 h c) H locs ls hP hD hS hl)
theorem g_if_gt (C : CxOK X cc own rm) {β : Type} {A B : Option β} {o : β} {x : Int32} {off : Int} {tgt : Nat} (hdg : decode cc pc = .ok (.ifCond .gt off, 3)) (ht : (pc : Int) + off = (tgt : Int)) (h : (if 0 < x then A else B) = some o) (ka : A = some o → GW X k n S tgt lv st) (kb : B = some o → GW X k n S (pc + 3) lv st) : GW X k n S pc lv (.int x :: st) := fun H locs ls hP hD hS hl => lv_if_gt C.1 C.2.1 hdg ht (fun c => ka (if_el1 h c) H locs ls hP hD hS hl) (fun c => kb (if_el2 h c) H locs ls hP hD hS hl)
theorem g_icmp_gt (C : CxOK X cc own rm) {β : Type} {A B : Option β} {o : β} {x y : Int32} {off : Int} {tgt : Nat} (hdg : decode cc pc = .ok (.if_icmp .gt off, 3)) (ht : (pc : Int) + off = (tgt : Int)) (h : (if y < x then A else B) = some o) (ka : A = some o → GW X k n S tgt lv st) (kb : B = some o → GW X k n S (pc + 3) lv st) : GW X k n S pc lv (.int y :: .int x :: st) := fun H locs ls hP hD hS hl => lv_icmp_gt C.1 C.2.1 hdg ht (fun c => ka (if_el1 h c) H locs ls hP hD hS hl) (fun c => kb (if_el2 h c) H locs ls hP hD hS hl)
theorem g_if_le (C : CxOK X cc own rm) {β : Type} {A B : Option β} {o : β} {x : Int32} {off : Int} {tgt : Nat} (hdg : decode cc pc = .ok (.ifCond .le off, 3)) (ht : (pc : Int) + off = (tgt : Int)) (h : (if x ≤ 0 then A else B) = some o) (ka : A = some o → GW X k n S tgt lv st) (kb : B = some o → GW X k n S (pc + 3) lv st) : GW X k n S pc lv (.int x :: st) := fun H locs ls hP hD hS hl => lv_if_le C.1 C.2.1 hdg ht (fun c => ka (if_el1 h c) H locs ls hP hD hS hl) (fun c => kb (if_el2 h c) H locs ls hP hD hS hl)
theorem g_icmp_le (C : CxOK X cc own rm) {β : Type} {A B : Option β} {o : β} {x y : Int32} {off : Int} {tgt : Nat} (hdg : decode cc pc = .ok (.if_icmp .le off, 3)) (ht : (pc : Int) + off = (tgt : Int)) (h : (if x ≤ y then A else B) = some o) (ka : A = some o → GW X k n S tgt lv st) (kb : B = some o → GW X k n S (pc + 3) lv st) : GW X k n S pc lv (.int y :: .int x :: st) := fun H locs ls hP hD hS hl => lv_icmp_le C.1 C.2.1 hdg ht (fun c => ka (if_el1 h c) H locs ls hP hD hS hl) (fun c => kb (if_el2 h c) H locs ls hP hD hS hl)
theorem g_ifnonnull (C : CxOK X cc own rm) {β : Type} {A B : Option β} {o : β} {r : Option Nat} {off : Int} {tgt : Nat} (hdg : decode cc pc = .ok (.ifnonnull off, 3)) (ht : (pc : Int) + off = (tgt : Int)) (h : (if r = none then A else B) = some o) (ka : A = some o → GW X k n S (pc + 3) lv st) (kb : B = some o → GW X k n S tgt lv st) : GW X k n S pc lv (va_rf r :: st) := by
  cases r with
  | none => exact fun H locs ls hP hD hS hl => lv_ifnonnullN C.1 C.2.1 hdg (ka (if_el1 h rfl) H locs ls hP hD hS hl)
  | some a => exact fun H locs ls hP hD hS hl => lv_ifnonnull C.1 C.2.1 hdg ht (kb (if_el2 h (fun e => by cases e)) H locs ls hP hD hS hl)
theorem g_ifnull (C : CxOK X cc own rm) {β : Type} {A B : Option β} {o : β} {r : Option Nat} {off : Int} {tgt : Nat} (hdg : decode cc pc = .ok (.ifnull off, 3)) (ht : (pc : Int) + off = (tgt : Int)) (h : (if r = none then A else B) = some o) (ka : A = some o → GW X k n S tgt lv st) (kb : B = some o → GW X k n S (pc + 3) lv st) : GW X k n S pc lv (va_rf r :: st) := by
  cases r with
  | none => exact fun H locs ls hP hD hS hl => lv_ifnullN C.1 C.2.1 hdg ht (ka (if_el1 h rfl) H locs ls hP hD hS hl)
  | some a => exact fun H locs ls hP hD hS hl => lv_ifnull C.1 C.2.1 hdg (kb (if_el2 h (fun e => by cases e)) H locs ls hP hD hS hl)
theorem g_tswIn (C : CxOK X cc own rm) {dflt lo hi : Int} {offs : Array Int} {len : Nat} {x v : Int32} {off : Int} {tgt : Nat} (hdg : decode cc pc = .ok (.tableswitch dflt lo hi offs, len)) (hx : x = v) (h1 : ¬ v.toInt < lo) (h2 : ¬ hi < v.toInt) (ho : offs[(v.toInt - lo).toNat]? = some off) (ht : (pc : Int) + off = (tgt : Int)) (kk : GW X k n S tgt lv st) : GW X k n S pc lv (.int x :: st) := by
  subst hx
  exact fun H locs ls hP hD hS hl => lv_tableIn C.1 C.2.1 hdg h1 h2 ho ht (kk H locs ls hP hD hS hl)
theorem sw_out {x : Int32} (lo : Nat) (N : Nat) (hN : lo + N < 1000) (h : ∀ j, j < N → ¬ x = Int32.ofNat (lo + j)) : x.toInt < (lo : Int) ∨ ((lo + N : Nat) : Int) - 1 < x.toInt := by
  rcases Int.lt_or_le x.toInt lo with q | q
  · exact Or.inl q
  · refine Or.inr ?_
    rcases Int.lt_or_le (((lo + N : Nat) : Int) - 1) x.toInt with r | r
    · exact r
    · exfalso
      have hj : (x.toInt.toNat - lo) < N := by omega
      refine h _ hj ?_
      apply Int32.toInt_inj.mp
      rw [Int32.toInt_ofNat_of_lt (by omega)]
      omega
theorem g_tswOut (C : CxOK X cc own rm) {dflt lo hi : Int} {offs : Array Int} {len : Nat} {x : Int32} {tgt : Nat} (hdg : decode cc pc = .ok (.tableswitch dflt lo hi offs, len)) (hx : x.toInt < lo ∨ hi < x.toInt) (ht : (pc : Int) + dflt = (tgt : Int)) (kk : GW X k n S tgt lv st) : GW X k n S pc lv (.int x :: st) := fun H locs ls hP hD hS hl => lv_tableOut C.1 C.2.1 hdg hx ht (kk H locs ls hP hD hS hl)
-- fields
theorem g_get (C : CxOK X cc own rm) {ci N slot t idx : Nat} {T : u_T} {Cn : String} (hc : vwCl[ci]? = some (Cn, T, N)) (hci : ci < 7) (hin : ∀ w ∈ u_ws Cn T N, w ∈ wsL_law) (hk : slot < N) (hz : (zs ci)[slot]? = some (slot, t)) (hlink : Cond.fieldLink own idx (T slot).1 (T slot).2.1 (T slot).2.2.1 ∈ wsL_law) (hdg : decode cc pc = .ok (.getfield idx, 3)) {a : Nat} (hL : a ∈ zL S) (hK : zK S a = ci) (kk : GW X k n S (pc + 3) lv (zv S a (slot, t) :: st)) : GW X k n S pc lv (va_rf (some a) :: st) := by
  intro H locs ls hP hD hS hl
  obtain ⟨q, hq⟩ := zP_get (cy := xy X) hL (zF_o hK hci)
  exact va_get (D := xG X) C.1 C.2.1 C.2.2.2.2.1 hin C.2.2.2.1 C.2.2.2.2.2.1 hP q hq hc slot hk (C.2.2.2.2.1 _ hlink) (fun _ h => h) (by rw [List.getElem?_map, hz]; rfl) hdg (kk H locs ls hP hD hS hl)
theorem zF_congr {cy : Nat → ClassId} {S S1 : Hp} {b : Nat} (hk : zK S1 b = zK S b) (hn : zN S1 b = zN S b) (hi : zI S1 b = zI S b) (hj : zJ S1 b = zJ S b) (hd : zD S1 b = zD S b) (hr : zR S1 b = zR S b) : zF cy S1 b = zF cy S b := by
  have hz : zv S1 b = zv S b := funext fun q => by unfold zv; rw [hi, hj, hd, hr]
  unfold zF
  rw [hk, hn, hi, hd, hr, hz]
theorem g_putG (C : CxOK X cc own rm) {S1 : Hp} {ci N slot t idx : Nat} {T : u_T} {Cn : String} (ty : Nat → FieldType) (hty : ∀ k, k < N → parseFieldDescriptor (T k).2.2.1 = some (ty k)) (hnm : ∀ a, a < N → ∀ b, b < N → a ≠ b → (T a).2.1 ≠ (T b).2.1) (hc : vwCl[ci]? = some (Cn, T, N)) (hci : ci < 7) (hin : ∀ w ∈ u_ws Cn T N, w ∈ wsL_law) (hk : slot < N) (hz : (zs ci)[slot]? = some (slot, t)) (hlink : Cond.fieldLink own idx (T slot).1 (T slot).2.1 (T slot).2.2.1 ∈ wsL_law) (hfin : (T slot).2.2.2 = false) (hdg : decode cc pc = .ok (.putfield idx, 3)) {a : Nat} {v : Value} (hn : narrow (ty slot) v = v) (hf : fits (ty slot) v = true) (hL : a ∈ zL S) (hK : zK S a = ci) (e1 : zL S1 = zL S) (e2 : zK S1 a = zK S a) (e3 : zv S1 a (slot, t) = v) (e4 : ∀ j u, j ≠ slot → zv S1 a (j, u) = zv S a (j, u)) (e5 : ∀ (cy : Nat → ClassId) b, b ≠ a → zF cy S1 b = zF cy S b) (kk : GW X k n S1 (pc + 3) lv st) : GW X k n S pc lv (v :: va_rf (some a) :: st) := by
  intro H locs ls hP hD hS hl
  obtain ⟨q, hq⟩ := zP_get (cy := xy X) hL (zF_o hK hci)
  have hlen : slot < ((zs ci).map (zv S a)).length := by rw [List.length_map]; exact (List.getElem?_eq_some_iff.mp hz).1
  refine va_put (D := xG X) C.1 C.2.1 C.2.2.2.2.1 hin ty hty hnm C.2.2.2.1 C.2.2.2.2.2.1 hP hD hS q hq hc slot hk (C.2.2.2.2.1 _ hlink) (fun _ h => h) hfin (hty slot hk) hn hf hlen hdg (fun H1 locs1 hP1 hD1 hS1 => ?_)
  have es : (zP (xy X) S).set q (a, .inr (ci, ((zs ci).map (zv S a)).set slot v)) = zP (xy X) S1 := by
    refine zP_set hD hL hq (zF_o hK hci) e1 ?_ (e5 (xy X))
    rw [zF_o (e2.trans hK) hci, zv_set hz e3 e4]
  rw [es] at hP1 hD1
  exact kk H1 locs1 ls hP1 hD1 hS1 hl
theorem wI_F (cy : Nat → ClassId) (S : Hp) (a j : Nat) (v : Int32) (b : Nat) (hb : b ≠ a) : zF cy (wI S a j v) b = zF cy S b := zF_congr rfl rfl (u2_row _ _ hb) rfl rfl rfl
theorem g_oputI (C : CxOK X cc own rm) {β : Type} {o : β} {K : Nat → Hp → Option β} {ci N slot idx : Nat} {T : u_T} {Cn : String} {r : Option Nat} {v : Int32} (ty : Nat → FieldType) (hty : ∀ k, k < N → parseFieldDescriptor (T k).2.2.1 = some (ty k)) (hnm : ∀ a, a < N → ∀ b, b < N → a ≠ b → (T a).2.1 ≠ (T b).2.1) (hc : vwCl[ci]? = some (Cn, T, N)) (hci : ci < 7) (hin : ∀ w ∈ u_ws Cn T N, w ∈ wsL_law) (hk : slot < N) (hz : (zs ci)[slot]? = some (slot, 0)) (hlink : Cond.fieldLink own idx (T slot).1 (T slot).2.1 (T slot).2.2.1 ∈ wsL_law) (hfin : (T slot).2.2.2 = false) (hdg : decode cc pc = .ok (.putfield idx, 3)) (hn : narrow (ty slot) (.int v) = .int v) (hf : fits (ty slot) (.int v) = true) (h : ob S ci r (fun a => bnd (wI S a slot v) (K a)) = some o) (kk : ∀ a S1, K a S1 = some o → GW X k n S1 (pc + 3) lv st) : GW X k n S pc lv (.int v :: va_rf r :: st) := by
  obtain ⟨a, rfl, hL, hK, h⟩ := ob_el h
  exact g_putG C ty hty hnm hc hci hin hk hz hlink hfin hdg hn hf hL hK (S1 := wI S a slot v) rfl rfl (congrArg Value.int (u2_self _ _ _ _)) (fun j u hj => by rcases u with _ | _ | _ | u <;> first | rfl | exact congrArg _ (u2_nek _ _ hj)) (fun cy b hb => wI_F cy S a slot v b hb) (kk a _ h)
theorem wJ_F (cy : Nat → ClassId) (S : Hp) (a j : Nat) (v : Int64) (b : Nat) (hb : b ≠ a) : zF cy (wJ S a j v) b = zF cy S b := zF_congr rfl rfl rfl (u2_row _ _ hb) rfl rfl
theorem g_oputJ (C : CxOK X cc own rm) {β : Type} {o : β} {K : Nat → Hp → Option β} {ci N slot idx : Nat} {T : u_T} {Cn : String} {r : Option Nat} {v : Int64} (ty : Nat → FieldType) (hty : ∀ k, k < N → parseFieldDescriptor (T k).2.2.1 = some (ty k)) (hnm : ∀ a, a < N → ∀ b, b < N → a ≠ b → (T a).2.1 ≠ (T b).2.1) (hc : vwCl[ci]? = some (Cn, T, N)) (hci : ci < 7) (hin : ∀ w ∈ u_ws Cn T N, w ∈ wsL_law) (hk : slot < N) (hz : (zs ci)[slot]? = some (slot, 1)) (hlink : Cond.fieldLink own idx (T slot).1 (T slot).2.1 (T slot).2.2.1 ∈ wsL_law) (hfin : (T slot).2.2.2 = false) (hdg : decode cc pc = .ok (.putfield idx, 3)) (hn : narrow (ty slot) (.long v) = .long v) (hf : fits (ty slot) (.long v) = true) (h : ob S ci r (fun a => bnd (wJ S a slot v) (K a)) = some o) (kk : ∀ a S1, K a S1 = some o → GW X k n S1 (pc + 3) lv st) : GW X k n S pc lv (.long v :: va_rf r :: st) := by
  obtain ⟨a, rfl, hL, hK, h⟩ := ob_el h
  exact g_putG C ty hty hnm hc hci hin hk hz hlink hfin hdg hn hf hL hK (S1 := wJ S a slot v) rfl rfl (congrArg Value.long (u2_self _ _ _ _)) (fun j u hj => by rcases u with _ | _ | _ | u <;> first | rfl | exact congrArg _ (u2_nek _ _ hj)) (fun cy b hb => wJ_F cy S a slot v b hb) (kk a _ h)
theorem wD_F (cy : Nat → ClassId) (S : Hp) (a j : Nat) (v : UInt64) (b : Nat) (hb : b ≠ a) : zF cy (wD S a j v) b = zF cy S b := zF_congr rfl rfl rfl rfl (u2_row _ _ hb) rfl
theorem g_oputD (C : CxOK X cc own rm) {β : Type} {o : β} {K : Nat → Hp → Option β} {ci N slot idx : Nat} {T : u_T} {Cn : String} {r : Option Nat} {v : UInt64} (ty : Nat → FieldType) (hty : ∀ k, k < N → parseFieldDescriptor (T k).2.2.1 = some (ty k)) (hnm : ∀ a, a < N → ∀ b, b < N → a ≠ b → (T a).2.1 ≠ (T b).2.1) (hc : vwCl[ci]? = some (Cn, T, N)) (hci : ci < 7) (hin : ∀ w ∈ u_ws Cn T N, w ∈ wsL_law) (hk : slot < N) (hz : (zs ci)[slot]? = some (slot, 2)) (hlink : Cond.fieldLink own idx (T slot).1 (T slot).2.1 (T slot).2.2.1 ∈ wsL_law) (hfin : (T slot).2.2.2 = false) (hdg : decode cc pc = .ok (.putfield idx, 3)) (hn : narrow (ty slot) (.double v) = .double v) (hf : fits (ty slot) (.double v) = true) (h : ob S ci r (fun a => bnd (wD S a slot v) (K a)) = some o) (kk : ∀ a S1, K a S1 = some o → GW X k n S1 (pc + 3) lv st) : GW X k n S pc lv (.double v :: va_rf r :: st) := by
  obtain ⟨a, rfl, hL, hK, h⟩ := ob_el h
  exact g_putG C ty hty hnm hc hci hin hk hz hlink hfin hdg hn hf hL hK (S1 := wD S a slot v) rfl rfl (congrArg Value.double (u2_self _ _ _ _)) (fun j u hj => by rcases u with _ | _ | _ | u <;> first | rfl | exact congrArg _ (u2_nek _ _ hj)) (fun cy b hb => wD_F cy S a slot v b hb) (kk a _ h)
theorem g_iald (C : CxOK X cc own rm) {β : Type} {o : β} {K : Nat → Nat → Option β} {r : Option Nat} {i : Int32} (hdg : decode cc pc = .ok (.iaload, 1)) (h : ar S 9 r i K = some o) (kk : ∀ a j, K a j = some o → GW X k n S (pc + 1) lv (.int (zI S a j) :: st)) : GW X k n S pc lv (.int i :: va_rf r :: st) := by
  obtain ⟨a, rfl, hL, hK, hi, h⟩ := ar_el h
  intro H locs ls hP hD hS hl
  obtain ⟨q, hq⟩ := zP_get (cy := xy X) hL (zF_i hK)
  exact va_iald (D := xG X) C.1 C.2.1 C.2.2.2.2.2.1 hP q 2 hq rfl hi hdg (kk a _ h H locs ls hP hD hS hl)
theorem g_cald (C : CxOK X cc own rm) {β : Type} {o : β} {K : Nat → Nat → Option β} {r : Option Nat} {i : Int32} (hdg : decode cc pc = .ok (.caload, 1)) (h : ar S 7 r i K = some o) (kk : ∀ a j, K a j = some o → GW X k n S (pc + 1) lv (.int (zI S a j) :: st)) : GW X k n S pc lv (.int i :: va_rf r :: st) := by
  obtain ⟨a, rfl, hL, hK, hi, h⟩ := ar_el h
  intro H locs ls hP hD hS hl
  obtain ⟨q, hq⟩ := zP_get (cy := xy X) hL (zF_c hK)
  exact va_cald (D := xG X) C.1 C.2.1 C.2.2.2.2.2.1 hP q 0 hq rfl hi hdg (kk a _ h H locs ls hP hD hS hl)
theorem g_dald (C : CxOK X cc own rm) {β : Type} {o : β} {K : Nat → Nat → Option β} {r : Option Nat} {i : Int32} (hdg : decode cc pc = .ok (.daload, 1)) (h : ar S 8 r i K = some o) (kk : ∀ a j, K a j = some o → GW X k n S (pc + 1) lv (.double (zD S a j) :: st)) : GW X k n S pc lv (.int i :: va_rf r :: st) := by
  obtain ⟨a, rfl, hL, hK, hi, h⟩ := ar_el h
  intro H locs ls hP hD hS hl
  obtain ⟨q, hq⟩ := zP_get (cy := xy X) hL (zF_d hK)
  exact va_dald (D := xG X) C.1 C.2.1 C.2.2.2.2.2.1 hP q 1 hq rfl hi hdg (kk a _ h H locs ls hP hD hS hl)
theorem g_aald10 (C : CxOK X cc own rm) {β : Type} {o : β} {K : Nat → Nat → Option β} {r : Option Nat} {i : Int32} (hdg : decode cc pc = .ok (.aaload, 1)) (h : ar S 10 r i K = some o) (kk : ∀ a j, K a j = some o → GW X k n S (pc + 1) lv (va_rf (zR S a j) :: st)) : GW X k n S pc lv (.int i :: va_rf r :: st) := by
  obtain ⟨a, rfl, hL, hK, hi, h⟩ := ar_el h
  intro H locs ls hP hD hS hl
  obtain ⟨q, hq⟩ := zP_get (cy := xy X) hL (zF_q hK (by decide))
  exact va_aldq (D := xG X) C.1 C.2.1 C.2.2.2.2.2.1 hP q 3 hq rfl hi hdg (kk a _ h H locs ls hP hD hS hl)
theorem g_aald11 (C : CxOK X cc own rm) {β : Type} {o : β} {K : Nat → Nat → Option β} {r : Option Nat} {i : Int32} (hdg : decode cc pc = .ok (.aaload, 1)) (h : ar S 11 r i K = some o) (kk : ∀ a j, K a j = some o → GW X k n S (pc + 1) lv (va_rf (zR S a j) :: st)) : GW X k n S pc lv (.int i :: va_rf r :: st) := by
  obtain ⟨a, rfl, hL, hK, hi, h⟩ := ar_el h
  intro H locs ls hP hD hS hl
  obtain ⟨q, hq⟩ := zP_get (cy := xy X) hL (zF_q hK (by decide))
  exact va_aldq (D := xG X) C.1 C.2.1 C.2.2.2.2.2.1 hP q 4 hq rfl hi hdg (kk a _ h H locs ls hP hD hS hl)
theorem g_aald12 (C : CxOK X cc own rm) {β : Type} {o : β} {K : Nat → Nat → Option β} {r : Option Nat} {i : Int32} (hdg : decode cc pc = .ok (.aaload, 1)) (h : ar S 12 r i K = some o) (kk : ∀ a j, K a j = some o → GW X k n S (pc + 1) lv (va_rf (zR S a j) :: st)) : GW X k n S pc lv (.int i :: va_rf r :: st) := by
  obtain ⟨a, rfl, hL, hK, hi, h⟩ := ar_el h
  intro H locs ls hP hD hS hl
  obtain ⟨q, hq⟩ := zP_get (cy := xy X) hL (zF_q hK (by decide))
  exact va_aldq (D := xG X) C.1 C.2.1 C.2.2.2.2.2.1 hP q 5 hq rfl hi hdg (kk a _ h H locs ls hP hD hS hl)
theorem g_iast (C : CxOK X cc own rm) {β : Type} {o : β} {K : Nat → Nat → Hp → Option β} {r : Option Nat} {i : Int32} {x : Int32} (hdg : decode cc pc = .ok (.iastore, 1)) (h : ar S 9 r i (fun a j => bnd (wI S a j x) (K a j)) = some o) (kk : ∀ a j S1, K a j S1 = some o → GW X k n S1 (pc + 1) lv st) : GW X k n S pc lv (.int x :: .int i :: va_rf r :: st) := by
  obtain ⟨a, rfl, hL, hK, hi, h⟩ := ar_el h
  intro H locs ls hP hD hS hl
  obtain ⟨q, hq⟩ := zP_get (cy := xy X) hL (zF_i hK)
  refine va_iast (D := xG X) C.1 C.2.1 C.2.2.2.2.2.1 hP hD hS q 2 hq rfl hi hdg (fun H1 locs1 hP1 hD1 hS1 => ?_)
  have es := zP_set (S1 := wI S a i.toNatClampNeg x) hD hL hq (zF_i hK) rfl (zF_i hK) (fun b hb => wI_F (xy X) S a i.toNatClampNeg x b hb)
  have er : zI (wI S a i.toNatClampNeg x) a = _ := u2_upd (zI S) a i.toNatClampNeg x
  rw [er] at es
  have en : zN (wI S a i.toNatClampNeg x) a = zN S a := rfl
  rw [en] at es
  rw [es] at hP1 hD1
  exact kk a _ _ h H1 locs1 ls hP1 hD1 hS1 hl
theorem g_cast (C : CxOK X cc own rm) {β : Type} {o : β} {K : Nat → Nat → Hp → Option β} {r : Option Nat} {i : Int32} {x : Int32} (hdg : decode cc pc = .ok (.castore, 1)) (h : ar S 7 r i (fun a j => bnd (wI S a j (vp_nar .char x)) (K a j)) = some o) (kk : ∀ a j S1, K a j S1 = some o → GW X k n S1 (pc + 1) lv st) : GW X k n S pc lv (.int x :: .int i :: va_rf r :: st) := by
  obtain ⟨a, rfl, hL, hK, hi, h⟩ := ar_el h
  intro H locs ls hP hD hS hl
  obtain ⟨q, hq⟩ := zP_get (cy := xy X) hL (zF_c hK)
  refine va_cast (D := xG X) C.1 C.2.1 C.2.2.2.2.2.1 hP hD hS q 0 hq rfl hi hdg (fun H1 locs1 hP1 hD1 hS1 => ?_)
  have es := zP_set (S1 := wI S a i.toNatClampNeg (vp_nar .char x)) hD hL hq (zF_c hK) rfl (zF_c hK) (fun b hb => wI_F (xy X) S a i.toNatClampNeg (vp_nar .char x) b hb)
  have er : zI (wI S a i.toNatClampNeg (vp_nar .char x)) a = _ := u2_upd (zI S) a i.toNatClampNeg (vp_nar .char x)
  rw [er] at es
  have en : zN (wI S a i.toNatClampNeg (vp_nar .char x)) a = zN S a := rfl
  rw [en] at es
  rw [es] at hP1 hD1
  exact kk a _ _ h H1 locs1 ls hP1 hD1 hS1 hl
theorem g_dast (C : CxOK X cc own rm) {β : Type} {o : β} {K : Nat → Nat → Hp → Option β} {r : Option Nat} {i : Int32} {x : UInt64} (hdg : decode cc pc = .ok (.dastore, 1)) (h : ar S 8 r i (fun a j => bnd (wD S a j x) (K a j)) = some o) (kk : ∀ a j S1, K a j S1 = some o → GW X k n S1 (pc + 1) lv st) : GW X k n S pc lv (.double x :: .int i :: va_rf r :: st) := by
  obtain ⟨a, rfl, hL, hK, hi, h⟩ := ar_el h
  intro H locs ls hP hD hS hl
  obtain ⟨q, hq⟩ := zP_get (cy := xy X) hL (zF_d hK)
  refine va_dast (D := xG X) C.1 C.2.1 C.2.2.2.2.2.1 hP hD hS q 1 hq rfl hi hdg (fun H1 locs1 hP1 hD1 hS1 => ?_)
  have es := zP_set (S1 := wD S a i.toNatClampNeg x) hD hL hq (zF_d hK) rfl (zF_d hK) (fun b hb => wD_F (xy X) S a i.toNatClampNeg x b hb)
  have er : zD (wD S a i.toNatClampNeg x) a = _ := u2_vupd (zD S) a i.toNatClampNeg x
  rw [er] at es
  have en : zN (wD S a i.toNatClampNeg x) a = zN S a := rfl
  rw [en] at es
  rw [es] at hP1 hD1
  exact kk a _ _ h H1 locs1 ls hP1 hD1 hS1 hl
end GR
