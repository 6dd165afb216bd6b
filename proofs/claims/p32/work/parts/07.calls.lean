/-! copies of rows, ends, calls -/
section GR2
variable {X : Cx} {cc : ByteArray} {own : String} {rm : Room} {k n pc : Nat} {S : Hp} {lv lv' : List (Nat × Value)} {st : List Value}
/-- both rows are there, of that kind, and long enough -/
def cpy {β : Type} (S : Hp) (c : Nat) (r1 r2 : Option Nat) (m : Nat) (K : Nat → Nat → Option β) : Option β := match r1, r2 with
  | some a, some b => if (a ∈ zL S ∧ zK S a = c ∧ m ≤ zN S a) ∧ (b ∈ zL S ∧ zK S b = c ∧ m ≤ zN S b) then K a b else none
  | _, _ => none
theorem cpy_el {β : Type} {S : Hp} {c m : Nat} {r1 r2 : Option Nat} {K : Nat → Nat → Option β} {o : β} (h : cpy S c r1 r2 m K = some o) : ∃ a b, r1 = some a ∧ r2 = some b ∧ ((a ∈ zL S ∧ zK S a = c ∧ m ≤ zN S a) ∧ (b ∈ zL S ∧ zK S b = c ∧ m ≤ zN S b)) ∧ K a b = some o := by
  cases r1 with
  | none => cases h
  | some a => cases r2 with
    | none => cases h
    | some b =>
      by_cases hc : (a ∈ zL S ∧ zK S a = c ∧ m ≤ zN S a) ∧ (b ∈ zL S ∧ zK S b = c ∧ m ≤ zN S b)
      · have : cpy S c (some a) (some b) m K = K a b := if_pos hc
        rw [this] at h
        exact ⟨a, b, rfl, rfl, hc, h⟩
      · have : cpy S c (some a) (some b) m K = none := if_neg hc
        rw [this] at h; cases h
theorem cpy_go {β : Type} {S : Hp} {c m a b : Nat} {K : Nat → Nat → Option β} (h1 : a ∈ zL S) (h2 : zK S a = c) (h3 : m ≤ zN S a) (h4 : b ∈ zL S) (h5 : zK S b = c) (h6 : m ≤ zN S b) : cpy S c (some a) (some b) m K = K a b := if_pos ⟨⟨h1, h2, h3⟩, h4, h5, h6⟩
theorem rI_F (cy : Nat → ClassId) (S : Hp) (a : Nat) (f : Nat → Int32) (b : Nat) (hb : b ≠ a) : zF cy (rI S a f) b = zF cy S b := zF_congr rfl rfl (if_neg hb) rfl rfl rfl
theorem rD_F (cy : Nat → ClassId) (S : Hp) (a : Nat) (f : Nat → UInt64) (b : Nat) (hb : b ≠ a) : zF cy (rD S a f) b = zF cy S b := zF_congr rfl rfl rfl rfl (if_neg hb) rfl
theorem g_copyi (C : CxOK X cc own rm) {β : Type} {o : β} {K : Nat → Nat → Hp → Option β} {r1 r2 : Option Nat} {idx m : Nat} {mi z1 z2 : Int32} (hz1 : z1 = 0) (hz2 : z2 = 0) (hm : mi.toNatClampNeg = m) (hm0 : ¬ mi < 0) (hw1 : Cond.methodLink own idx arraycopyName ∈ wsL_law) (hw2 : Cond.native arraycopyName ∈ wsL_law) (hw3 : Cond.static arraycopyName ∈ wsL_law) (hw4 : Cond.initialized "java/lang/System" ∈ wsL_law) (hfr : 1 ≤ rm.frames) (hlo : (st.map fun v => v.category).sum + (nativeFrameWords "java/lang/System" "arraycopy" 5 + 11) ≤ rm.locals) (hdg : decode cc pc = .ok (.invokestatic idx, 3)) (h : cpy S 9 r1 r2 m (fun a b => bnd (rI S b (va_cpy (zI S a) (zI S b) 0 0 m)) (K a b)) = some o) (kk : ∀ a b S1, K a b S1 = some o → GW X k n S1 (pc + 3) lv st) : GW X k n S pc lv (.int mi :: .int z2 :: va_rf r2 :: .int z1 :: va_rf r1 :: st) := by
  obtain ⟨a, b, rfl, rfl, ⟨⟨hL1, hK1, hm1⟩, hL2, hK2, hm2⟩, h⟩ := cpy_el h
  subst hz1; subst hz2
  intro H locs ls hP hD hS hl
  obtain ⟨q0, hq0⟩ := zP_get (cy := xy X) hL1 (zF_i hK1)
  obtain ⟨q1, hq1⟩ := zP_get (cy := xy X) hL2 (zF_i hK2)
  refine va_copyi (sp := 0) (dp := 0) (n := mi) (D := xG X) C.1 C.2.1 (C.2.2.1.trans hl.1.symm) C.2.2.2.1 (C.2.2.2.2.1 _ hw1) (C.2.2.2.2.1 _ hw2) (C.2.2.2.2.1 _ hw3) (C.2.2.2.2.1 _ hw4) C.2.2.2.2.2.1 hP hD hS q0 q1 2 2 hq0 hq1 rfl rfl rfl (by decide) (by decide) hm0 (by rw [hm, show (0 : Int32).toNatClampNeg = 0 from rfl, Nat.zero_add]; exact hm1) (by rw [hm, show (0 : Int32).toNatClampNeg = 0 from rfl, Nat.zero_add]; exact hm2) (fun _ _ => rfl) (by rw [C.2.2.2.2.2.2.2.2]; exact hfr) (by rw [C.2.2.2.2.2.2.2.2]; exact hlo) hdg (fun H1 locs1 hP1 hD1 hS1 => ?_)
  have es := zP_set (S1 := rI S b (va_cpy (zI S a) (zI S b) 0 0 m)) hD hL2 hq1 (zF_i hK2) rfl (zF_i hK2) (fun x hx => rI_F (xy X) S b _ x hx)
  have er : zI (rI S b (va_cpy (zI S a) (zI S b) 0 0 m)) b = va_cpy (zI S a) (zI S b) 0 0 m := if_pos rfl
  rw [er] at es
  have en : zN (rI S b (va_cpy (zI S a) (zI S b) 0 0 m)) b = zN S b := rfl
  rw [en] at es
  rw [hm] at hP1 hD1
  have e0 : (0 : Int32).toNatClampNeg = 0 := rfl
  rw [e0] at hP1 hD1
  rw [es] at hP1 hD1
  exact kk a b _ h H1 locs1 ls hP1 hD1 hS1 hl
theorem g_copyd (C : CxOK X cc own rm) {β : Type} {o : β} {K : Nat → Nat → Hp → Option β} {r1 r2 : Option Nat} {idx m : Nat} {mi z1 z2 : Int32} (hz1 : z1 = 0) (hz2 : z2 = 0) (hm : mi.toNatClampNeg = m) (hm0 : ¬ mi < 0) (hw1 : Cond.methodLink own idx arraycopyName ∈ wsL_law) (hw2 : Cond.native arraycopyName ∈ wsL_law) (hw3 : Cond.static arraycopyName ∈ wsL_law) (hw4 : Cond.initialized "java/lang/System" ∈ wsL_law) (hfr : 1 ≤ rm.frames) (hlo : (st.map fun v => v.category).sum + (nativeFrameWords "java/lang/System" "arraycopy" 5 + 11) ≤ rm.locals) (hdg : decode cc pc = .ok (.invokestatic idx, 3)) (h : cpy S 8 r1 r2 m (fun a b => bnd (rD S b (va_cpy (zD S a) (zD S b) 0 0 m)) (K a b)) = some o) (kk : ∀ a b S1, K a b S1 = some o → GW X k n S1 (pc + 3) lv st) : GW X k n S pc lv (.int mi :: .int z2 :: va_rf r2 :: .int z1 :: va_rf r1 :: st) := by
  obtain ⟨a, b, rfl, rfl, ⟨⟨hL1, hK1, hm1⟩, hL2, hK2, hm2⟩, h⟩ := cpy_el h
  subst hz1; subst hz2
  intro H locs ls hP hD hS hl
  obtain ⟨q0, hq0⟩ := zP_get (cy := xy X) hL1 (zF_d hK1)
  obtain ⟨q1, hq1⟩ := zP_get (cy := xy X) hL2 (zF_d hK2)
  refine va_copyd (sp := 0) (dp := 0) (n := mi) (D := xG X) C.1 C.2.1 (C.2.2.1.trans hl.1.symm) C.2.2.2.1 (C.2.2.2.2.1 _ hw1) (C.2.2.2.2.1 _ hw2) (C.2.2.2.2.1 _ hw3) (C.2.2.2.2.1 _ hw4) C.2.2.2.2.2.1 hP hD hS q0 q1 1 1 hq0 hq1 rfl rfl rfl (by decide) (by decide) hm0 (by rw [hm, show (0 : Int32).toNatClampNeg = 0 from rfl, Nat.zero_add]; exact hm1) (by rw [hm, show (0 : Int32).toNatClampNeg = 0 from rfl, Nat.zero_add]; exact hm2) (fun _ _ => rfl)  (by rw [C.2.2.2.2.2.2.2.2]; exact hfr) (by rw [C.2.2.2.2.2.2.2.2]; exact hlo) hdg (fun H1 locs1 hP1 hD1 hS1 => ?_)
  have es := zP_set (S1 := rD S b (va_cpy (zD S a) (zD S b) 0 0 m)) hD hL2 hq1 (zF_d hK2) rfl (zF_d hK2) (fun x hx => rD_F (xy X) S b _ x hx)
  have er : zD (rD S b (va_cpy (zD S a) (zD S b) 0 0 m)) b = va_cpy (zD S a) (zD S b) 0 0 m := if_pos rfl
  rw [er] at es
  have en : zN (rD S b (va_cpy (zD S a) (zD S b) 0 0 m)) b = zN S b := rfl
  rw [en] at es
  rw [hm] at hP1 hD1
  have e0 : (0 : Int32).toNatClampNeg = 0 := rfl
  rw [e0] at hP1 hD1
  rw [es] at hP1 hD1
  exact kk a b _ h H1 locs1 ls hP1 hD1 hS1 hl
theorem g_iret (C : CxOK X cc own rm) {S0 : Hp} {v : Int32} {o : Int32 × Hp} (hQ : QI X (some .int) S0 k n o) (hdg : decode cc pc = .ok (.ireturn, 1)) (h : some (v, S) = some o) : GW X k n S pc lv [.int v] := by
  cases h
  intro H locs ls hP hD hS hl
  rw [hQ.2.1]
  exact W.iret C.1 C.2.1 hQ.1 (fun t ht hW => ⟨⟨v, (), rfl, rfl, by rw [ht]; exact hP, va_K.moved hW.alike C.2.2.2.2.2.1, by rw [← hQ.2.2]; exact hD⟩, hS.F ht⟩) hS.2.2 hdg C.2.2.2.2.2.2.2.1
theorem g_lret (C : CxOK X cc own rm) {S0 : Hp} {v : Int64} {o : Int64 × Hp} (hQ : QJ X (some .long) S0 k n o) (hdg : decode cc pc = .ok (.lreturn, 1)) (h : some (v, S) = some o) : GW X k n S pc lv [.long v] := by
  cases h
  intro H locs ls hP hD hS hl
  rw [hQ.2.1]
  exact W.lret C.1 C.2.1 hQ.1 (fun t ht hW => ⟨⟨v, (), rfl, rfl, by rw [ht]; exact hP, va_K.moved hW.alike C.2.2.2.2.2.1, by rw [← hQ.2.2]; exact hD⟩, hS.F ht⟩) hS.2.2 hdg C.2.2.2.2.2.2.2.1
theorem g_dret (C : CxOK X cc own rm) {S0 : Hp} {v : UInt64} {o : UInt64 × Hp} (hQ : QD X (some .double) S0 k n o) (hdg : decode cc pc = .ok (.dreturn, 1)) (h : some (v, S) = some o) : GW X k n S pc lv [.double v] := by
  cases h
  intro H locs ls hP hD hS hl
  rw [hQ.2.1]
  exact W.dret C.1 C.2.1 hQ.1 (fun t ht hW => ⟨⟨v, (), rfl, rfl, by rw [ht]; exact hP, va_K.moved hW.alike C.2.2.2.2.2.1, by rw [← hQ.2.2]; exact hD⟩, hS.F ht⟩) hS.2.2 hdg C.2.2.2.2.2.2.2.1
theorem g_zret (C : CxOK X cc own rm) {S0 : Hp} {v : Int32} {o : Int32 × Hp} (hQ : QI X (some .boolean) S0 k n o) (hn : narrow .boolean (.int v) = .int v) (hdg : decode cc pc = .ok (.ireturn, 1)) (h : some (v, S) = some o) : GW X k n S pc lv [.int v] := by
  cases h
  intro H locs ls hP hD hS hl
  rw [hQ.2.1]
  exact W.zret C.1 C.2.1 hQ.1 hn (fun t ht hW => ⟨⟨v, (), rfl, rfl, by rw [ht]; exact hP, va_K.moved hW.alike C.2.2.2.2.2.1, by rw [← hQ.2.2]; exact hD⟩, hS.F ht⟩) hS.2.2 hdg C.2.2.2.2.2.2.2.1
theorem g_zretg (C : CxOK X cc own rm) {S0 : Hp} {v : Int32} {o : Int32 × Hp} (hQ : QI X (some .boolean) S0 k n o) (hdg : decode cc pc = .ok (.ireturn, 1)) (h : gd (v = 0 ∨ v = 1) (some (v, S)) = some o) : GW X k n S pc lv [.int v] := by
  obtain ⟨hc, h⟩ := gd_el h
  refine g_zret C hQ ?_ hdg h
  rcases hc with rfl | rfl <;> decide
theorem g_aret (C : CxOK X cc own rm) {S0 : Hp} {v : Option Nat} {nm : String} {o : Option Nat × Hp} (hQ : QR X (some (.object nm)) S0 k n o) (hdg : decode cc pc = .ok (.areturn, 1)) (h : some (v, S) = some o) : GW X k n S pc lv [va_rf v] := by
  cases h
  intro H locs ls hP hD hS hl
  rw [hQ.2.1]
  exact W.aret C.1 C.2.1 hQ.1 (Or.inl ⟨nm, rfl⟩) (va_rf_or v) (fun t ht hW => ⟨⟨v, (), rfl, rfl, by rw [ht]; exact hP, va_K.moved hW.alike C.2.2.2.2.2.1, by rw [← hQ.2.2]; exact hD⟩, hS.F ht⟩) hS.2.2 hdg C.2.2.2.2.2.2.2.1
theorem g_vret (C : CxOK X cc own rm) {S0 : Hp} {o : Unit × Hp} (hQ : QV X none S0 k n o) (hdg : decode cc pc = .ok (.return_, 1)) (h : some ((), S) = some o) : GW X k n S pc lv [] := by
  cases h
  intro H locs ls hP hD hS hl
  rw [hQ.2.1]
  exact W.vret C.1 C.2.1 hQ.1 (fun t ht hW => ⟨⟨(), rfl, trivial, by rw [ht]; exact hP, va_K.moved hW.alike C.2.2.2.2.2.1, by rw [← hQ.2.2]; exact hD⟩, hS.F ht⟩) hS.2.2 hdg C.2.2.2.2.2.2.2.1
theorem good_all {ws : List Cond} (h : ∀ w ∈ ws, w ∈ wsL_law) : GoodIn wsL_law ws := fun w hw => ⟨h w hw, good_of_word (List.all_eq_true.mp wd_good w (h w hw))⟩
theorem good_V {idx : Nat} {C : String} {y : MethodName} {c : Cond} (h1 : Cond.methodLink own idx y ∈ wsL_law) (h2 : Cond.instanceMethod y ∈ wsL_law) (h3 : Cond.selects C y y ∈ wsL_law) (h4 : Cond.initialized C ∈ wsL_law) (h5 : c ∈ wsL_law) : GoodIn wsL_law (wsV own idx C y (c :: wsL_law)) := good_all (fun w hw => by
  unfold wsV at hw
  rcases List.mem_append.mp hw with h | h
  · simp only [List.mem_cons, List.not_mem_nil, or_false] at h
    rcases h with rfl | rfl | rfl | rfl <;> assumption
  · rcases List.mem_cons.mp h with rfl | h
    · exact h5
    · exact h)
theorem good_S {idx : Nat} {y : MethodName} {c : Cond} (h1 : Cond.methodLink own idx y ∈ wsL_law) (h2 : Cond.static y ∈ wsL_law) (h4 : Cond.initialized y.cls ∈ wsL_law) (h5 : c ∈ wsL_law) : GoodIn wsL_law (va_wsS own idx y (c :: wsL_law)) := good_all (fun w hw => by
  unfold va_wsS at hw
  rcases List.mem_append.mp hw with h | h
  · simp only [List.mem_cons, List.not_mem_nil, or_false] at h
    rcases h with rfl | rfl | rfl <;> assumption
  · rcases List.mem_cons.mp h with rfl | h
    · exact h5
    · exact h)
theorem zfree (C : CxOK X cc own rm) {H : Heap} {locs : List Loc} (hD : va_D (xA X) (zP (xy X) S)) (hS : va_S (xA X) (xs X).heap H locs) : ∀ q, va_A (zP (xy X) S) H.size q → xA X q := by
  intro q h
  rcases h with ⟨j, e, h⟩ | h
  · exact hD.2 j _ h
  · exact C.2.2.2.2.2.2.1 q (Nat.le_trans hS.1 h)
theorem g_callVI (C : CxOK X cc own rm) {β : Type} {o : β} {K : Int32 → Hp → Option β} {F : Nat → Option (Int32 × Hp)} {y : MethodName} {cy : ByteArray} {nL np idx ci N : Nat} {ret : Option FieldType} {rm1 : Room} {As st0 : List Value} {r : Option Nat} {Cn : String} {T : u_T} (hc : vwCl[ci]? = some (Cn, T, N)) (hci : ci < 7)
    (hct : ∀ b q, F b = some q → CtI y cy nL ret rm1 0 0 (va_rf (some b) :: As) S q) (hg : GoodIn wsL_law (wsV own idx Cn y (.code y cy nL ret :: wsL_law))) (hcells : rm1.cells = 0) (hslots : rm1.slots = 0) (hds : y.cls = Cn ∧ y.cls ≠ "java/lang/invoke/MethodHandle" ∧ y.cls ≠ "java/lang/invoke/VarHandle" ∧ (parseMethodDescriptor y.desc).map (fun d => d.parameters.length) = some np) (hnp : As.length = np) (hR : rm1.frames + 1 ≤ rm.frames ∧ 8 + (nL + 11) + rm1.locals ≤ rm.locals) (hst : st0 = As.reverse ++ va_rf r :: st) (hsum : (st.map fun v => v.category).sum ≤ 8) (hfit : k ≤ rm.cells ∧ n ≤ rm.slots) (hdg : decode cc pc = .ok (.invokevirtual idx, 3))
    (h : ob S ci r (fun b => cl (F b) K) = some o) (kk : ∀ v S1, K v S1 = some o → GW X k n S1 (pc + 3) lv (.int v :: st)) : GW X k n S pc lv st0 := by
  subst hst
  obtain ⟨b, rfl, hL, hK, h⟩ := ob_el h
  obtain ⟨r1, S1, hF, h⟩ := cl_el h
  intro H locs ls hP hD hS hl
  have hfr := zfree C hD hS
  have hRX := C.2.2.2.2.2.2.2.2
  obtain ⟨q, hq⟩ := zP_get (cy := xy X) hL (zF_o hK hci)
  refine va_calli (va_runV (As := As) (rest := st) ⟨C.1, C.2.1, C.2.2.1, C.2.2.2.1, C.2.2.2.2.1⟩ (hct b _ hF (xl X) (xG X) (xy X) H.size) (cwV np C.2.2.2.2.1 hg rfl hcells hslots hds (by rw [hRX]; exact hR)) ⟨ct_bl, va_recv C.2.2.2.2.2.1 hP hc hq, fun U hU hW => ⟨rfl, by rw [hU], by rw [hU]; exact hP, va_K.moved hW.alike C.2.2.2.2.2.1, hD.weaken (fun _ _ _ _ => trivial)⟩⟩ rfl hnp hl.1 rfl (lv_room hsum) hdg (by rw [hRX]; exact hfit)) hS (fun q _ h => hfr q h) hfr (fun r u t H1 locs1 ht hvm hw hB hz1 hk1 hS1 => ?_)
  cases hw; obtain ⟨hP1, hK1, hD1⟩ := hB
  rw [ht] at hP1
  exact kk r1 S1 h H1 locs1 ls hP1 (hD1.weaken (fun _ q _ h => hfr q.1 h)) hS1 hl
theorem g_callSI (C : CxOK X cc own rm) {β : Type} {o : β} {K : Int32 → Hp → Option β} {F : Option (Int32 × Hp)} {y : MethodName} {cy : ByteArray} {nL np idx : Nat} {ret : Option FieldType} {rm1 : Room} {As st0 : List Value}
    (hct : ∀ q, F = some q → CtI y cy nL ret rm1 0 0 As S q) (hg : GoodIn wsL_law (va_wsS own idx y (.code y cy nL ret :: wsL_law))) (hcells : rm1.cells = 0) (hslots : rm1.slots = 0) (hds : y.cls ≠ "java/lang/invoke/MethodHandle" ∧ y.cls ≠ "java/lang/invoke/VarHandle" ∧ (parseMethodDescriptor y.desc).map (fun d => d.parameters.length) = some np) (hnp : As.length = np) (hR : rm1.frames + 1 ≤ rm.frames ∧ 8 + (nL + 11) + rm1.locals ≤ rm.locals) (hst : st0 = As.reverse ++ st) (hsum : (st.map fun v => v.category).sum ≤ 8) (hfit : k ≤ rm.cells ∧ n ≤ rm.slots) (hdg : decode cc pc = .ok (.invokestatic idx, 3))
    (h : cl F K = some o) (kk : ∀ v S1, K v S1 = some o → GW X k n S1 (pc + 3) lv (.int v :: st)) : GW X k n S pc lv st0 := by
  subst hst
  obtain ⟨r1, S1, hF, h⟩ := cl_el h
  intro H locs ls hP hD hS hl
  have hfr := zfree C hD hS
  have hRX := C.2.2.2.2.2.2.2.2
  refine va_calli (va_runS (As := As) (rest := st) ⟨C.1, C.2.1, C.2.2.1, C.2.2.2.1, C.2.2.2.2.1⟩ (hct _ hF (xl X) (xG X) (xy X) H.size) (va_cwS np C.2.2.2.2.1 hg rfl hcells hslots hds (by rw [hRX]; exact hR)) ⟨ct_bl, fun U hU hW => ⟨rfl, by rw [hU], by rw [hU]; exact hP, va_K.moved hW.alike C.2.2.2.2.2.1, hD.weaken (fun _ _ _ _ => trivial)⟩⟩ rfl hnp hl.1 rfl (lv_room hsum) hdg (by rw [hRX]; exact hfit)) hS (fun q _ h => hfr q h) hfr (fun r u t H1 locs1 ht hvm hw hB hz1 hk1 hS1 => ?_)
  cases hw; obtain ⟨hP1, hK1, hD1⟩ := hB
  rw [ht] at hP1
  exact kk r1 S1 h H1 locs1 ls hP1 (hD1.weaken (fun _ q _ h => hfr q.1 h)) hS1 hl
theorem g_callVJ (C : CxOK X cc own rm) {β : Type} {o : β} {K : Int64 → Hp → Option β} {F : Nat → Option (Int64 × Hp)} {y : MethodName} {cy : ByteArray} {nL np idx ci N : Nat} {ret : Option FieldType} {rm1 : Room} {As st0 : List Value} {r : Option Nat} {Cn : String} {T : u_T} (hc : vwCl[ci]? = some (Cn, T, N)) (hci : ci < 7)
    (hct : ∀ b q, F b = some q → CtJ y cy nL ret rm1 0 0 (va_rf (some b) :: As) S q) (hg : GoodIn wsL_law (wsV own idx Cn y (.code y cy nL ret :: wsL_law))) (hcells : rm1.cells = 0) (hslots : rm1.slots = 0) (hds : y.cls = Cn ∧ y.cls ≠ "java/lang/invoke/MethodHandle" ∧ y.cls ≠ "java/lang/invoke/VarHandle" ∧ (parseMethodDescriptor y.desc).map (fun d => d.parameters.length) = some np) (hnp : As.length = np) (hR : rm1.frames + 1 ≤ rm.frames ∧ 8 + (nL + 11) + rm1.locals ≤ rm.locals) (hst : st0 = As.reverse ++ va_rf r :: st) (hsum : (st.map fun v => v.category).sum ≤ 8) (hfit : k ≤ rm.cells ∧ n ≤ rm.slots) (hdg : decode cc pc = .ok (.invokevirtual idx, 3))
    (h : ob S ci r (fun b => cl (F b) K) = some o) (kk : ∀ v S1, K v S1 = some o → GW X k n S1 (pc + 3) lv (.long v :: st)) : GW X k n S pc lv st0 := by
  subst hst
  obtain ⟨b, rfl, hL, hK, h⟩ := ob_el h
  obtain ⟨r1, S1, hF, h⟩ := cl_el h
  intro H locs ls hP hD hS hl
  have hfr := zfree C hD hS
  have hRX := C.2.2.2.2.2.2.2.2
  obtain ⟨q, hq⟩ := zP_get (cy := xy X) hL (zF_o hK hci)
  refine va_calll (va_runV (As := As) (rest := st) ⟨C.1, C.2.1, C.2.2.1, C.2.2.2.1, C.2.2.2.2.1⟩ (hct b _ hF (xl X) (xG X) (xy X) H.size) (cwV np C.2.2.2.2.1 hg rfl hcells hslots hds (by rw [hRX]; exact hR)) ⟨ct_bl, va_recv C.2.2.2.2.2.1 hP hc hq, fun U hU hW => ⟨rfl, by rw [hU], by rw [hU]; exact hP, va_K.moved hW.alike C.2.2.2.2.2.1, hD.weaken (fun _ _ _ _ => trivial)⟩⟩ rfl hnp hl.1 rfl (lv_room hsum) hdg (by rw [hRX]; exact hfit)) hS (fun q _ h => hfr q h) hfr (fun r u t H1 locs1 ht hvm hw hB hz1 hk1 hS1 => ?_)
  cases hw; obtain ⟨hP1, hK1, hD1⟩ := hB
  rw [ht] at hP1
  exact kk r1 S1 h H1 locs1 ls hP1 (hD1.weaken (fun _ q _ h => hfr q.1 h)) hS1 hl
theorem g_callSJ (C : CxOK X cc own rm) {β : Type} {o : β} {K : Int64 → Hp → Option β} {F : Option (Int64 × Hp)} {y : MethodName} {cy : ByteArray} {nL np idx : Nat} {ret : Option FieldType} {rm1 : Room} {As st0 : List Value}
    (hct : ∀ q, F = some q → CtJ y cy nL ret rm1 0 0 As S q) (hg : GoodIn wsL_law (va_wsS own idx y (.code y cy nL ret :: wsL_law))) (hcells : rm1.cells = 0) (hslots : rm1.slots = 0) (hds : y.cls ≠ "java/lang/invoke/MethodHandle" ∧ y.cls ≠ "java/lang/invoke/VarHandle" ∧ (parseMethodDescriptor y.desc).map (fun d => d.parameters.length) = some np) (hnp : As.length = np) (hR : rm1.frames + 1 ≤ rm.frames ∧ 8 + (nL + 11) + rm1.locals ≤ rm.locals) (hst : st0 = As.reverse ++ st) (hsum : (st.map fun v => v.category).sum ≤ 8) (hfit : k ≤ rm.cells ∧ n ≤ rm.slots) (hdg : decode cc pc = .ok (.invokestatic idx, 3))
    (h : cl F K = some o) (kk : ∀ v S1, K v S1 = some o → GW X k n S1 (pc + 3) lv (.long v :: st)) : GW X k n S pc lv st0 := by
  subst hst
  obtain ⟨r1, S1, hF, h⟩ := cl_el h
  intro H locs ls hP hD hS hl
  have hfr := zfree C hD hS
  have hRX := C.2.2.2.2.2.2.2.2
  refine va_calll (va_runS (As := As) (rest := st) ⟨C.1, C.2.1, C.2.2.1, C.2.2.2.1, C.2.2.2.2.1⟩ (hct _ hF (xl X) (xG X) (xy X) H.size) (va_cwS np C.2.2.2.2.1 hg rfl hcells hslots hds (by rw [hRX]; exact hR)) ⟨ct_bl, fun U hU hW => ⟨rfl, by rw [hU], by rw [hU]; exact hP, va_K.moved hW.alike C.2.2.2.2.2.1, hD.weaken (fun _ _ _ _ => trivial)⟩⟩ rfl hnp hl.1 rfl (lv_room hsum) hdg (by rw [hRX]; exact hfit)) hS (fun q _ h => hfr q h) hfr (fun r u t H1 locs1 ht hvm hw hB hz1 hk1 hS1 => ?_)
  cases hw; obtain ⟨hP1, hK1, hD1⟩ := hB
  rw [ht] at hP1
  exact kk r1 S1 h H1 locs1 ls hP1 (hD1.weaken (fun _ q _ h => hfr q.1 h)) hS1 hl
theorem g_callVD (C : CxOK X cc own rm) {β : Type} {o : β} {K : UInt64 → Hp → Option β} {F : Nat → Option (UInt64 × Hp)} {y : MethodName} {cy : ByteArray} {nL np idx ci N : Nat} {ret : Option FieldType} {rm1 : Room} {As st0 : List Value} {r : Option Nat} {Cn : String} {T : u_T} (hc : vwCl[ci]? = some (Cn, T, N)) (hci : ci < 7)
    (hct : ∀ b q, F b = some q → CtD y cy nL ret rm1 0 0 (va_rf (some b) :: As) S q) (hg : GoodIn wsL_law (wsV own idx Cn y (.code y cy nL ret :: wsL_law))) (hcells : rm1.cells = 0) (hslots : rm1.slots = 0) (hds : y.cls = Cn ∧ y.cls ≠ "java/lang/invoke/MethodHandle" ∧ y.cls ≠ "java/lang/invoke/VarHandle" ∧ (parseMethodDescriptor y.desc).map (fun d => d.parameters.length) = some np) (hnp : As.length = np) (hR : rm1.frames + 1 ≤ rm.frames ∧ 8 + (nL + 11) + rm1.locals ≤ rm.locals) (hst : st0 = As.reverse ++ va_rf r :: st) (hsum : (st.map fun v => v.category).sum ≤ 8) (hfit : k ≤ rm.cells ∧ n ≤ rm.slots) (hdg : decode cc pc = .ok (.invokevirtual idx, 3))
    (h : ob S ci r (fun b => cl (F b) K) = some o) (kk : ∀ v S1, K v S1 = some o → GW X k n S1 (pc + 3) lv (.double v :: st)) : GW X k n S pc lv st0 := by
  subst hst
  obtain ⟨b, rfl, hL, hK, h⟩ := ob_el h
  obtain ⟨r1, S1, hF, h⟩ := cl_el h
  intro H locs ls hP hD hS hl
  have hfr := zfree C hD hS
  have hRX := C.2.2.2.2.2.2.2.2
  obtain ⟨q, hq⟩ := zP_get (cy := xy X) hL (zF_o hK hci)
  refine va_calld (va_runV (As := As) (rest := st) ⟨C.1, C.2.1, C.2.2.1, C.2.2.2.1, C.2.2.2.2.1⟩ (hct b _ hF (xl X) (xG X) (xy X) H.size) (cwV np C.2.2.2.2.1 hg rfl hcells hslots hds (by rw [hRX]; exact hR)) ⟨ct_bl, va_recv C.2.2.2.2.2.1 hP hc hq, fun U hU hW => ⟨rfl, by rw [hU], by rw [hU]; exact hP, va_K.moved hW.alike C.2.2.2.2.2.1, hD.weaken (fun _ _ _ _ => trivial)⟩⟩ rfl hnp hl.1 rfl (lv_room hsum) hdg (by rw [hRX]; exact hfit)) hS (fun q _ h => hfr q h) hfr (fun r u t H1 locs1 ht hvm hw hB hz1 hk1 hS1 => ?_)
  cases hw; obtain ⟨hP1, hK1, hD1⟩ := hB
  rw [ht] at hP1
  exact kk r1 S1 h H1 locs1 ls hP1 (hD1.weaken (fun _ q _ h => hfr q.1 h)) hS1 hl
theorem g_callSD (C : CxOK X cc own rm) {β : Type} {o : β} {K : UInt64 → Hp → Option β} {F : Option (UInt64 × Hp)} {y : MethodName} {cy : ByteArray} {nL np idx : Nat} {ret : Option FieldType} {rm1 : Room} {As st0 : List Value}
    (hct : ∀ q, F = some q → CtD y cy nL ret rm1 0 0 As S q) (hg : GoodIn wsL_law (va_wsS own idx y (.code y cy nL ret :: wsL_law))) (hcells : rm1.cells = 0) (hslots : rm1.slots = 0) (hds : y.cls ≠ "java/lang/invoke/MethodHandle" ∧ y.cls ≠ "java/lang/invoke/VarHandle" ∧ (parseMethodDescriptor y.desc).map (fun d => d.parameters.length) = some np) (hnp : As.length = np) (hR : rm1.frames + 1 ≤ rm.frames ∧ 8 + (nL + 11) + rm1.locals ≤ rm.locals) (hst : st0 = As.reverse ++ st) (hsum : (st.map fun v => v.category).sum ≤ 8) (hfit : k ≤ rm.cells ∧ n ≤ rm.slots) (hdg : decode cc pc = .ok (.invokestatic idx, 3))
    (h : cl F K = some o) (kk : ∀ v S1, K v S1 = some o → GW X k n S1 (pc + 3) lv (.double v :: st)) : GW X k n S pc lv st0 := by
  subst hst
  obtain ⟨r1, S1, hF, h⟩ := cl_el h
  intro H locs ls hP hD hS hl
  have hfr := zfree C hD hS
  have hRX := C.2.2.2.2.2.2.2.2
  refine va_calld (va_runS (As := As) (rest := st) ⟨C.1, C.2.1, C.2.2.1, C.2.2.2.1, C.2.2.2.2.1⟩ (hct _ hF (xl X) (xG X) (xy X) H.size) (va_cwS np C.2.2.2.2.1 hg rfl hcells hslots hds (by rw [hRX]; exact hR)) ⟨ct_bl, fun U hU hW => ⟨rfl, by rw [hU], by rw [hU]; exact hP, va_K.moved hW.alike C.2.2.2.2.2.1, hD.weaken (fun _ _ _ _ => trivial)⟩⟩ rfl hnp hl.1 rfl (lv_room hsum) hdg (by rw [hRX]; exact hfit)) hS (fun q _ h => hfr q h) hfr (fun r u t H1 locs1 ht hvm hw hB hz1 hk1 hS1 => ?_)
  cases hw; obtain ⟨hP1, hK1, hD1⟩ := hB
  rw [ht] at hP1
  exact kk r1 S1 h H1 locs1 ls hP1 (hD1.weaken (fun _ q _ h => hfr q.1 h)) hS1 hl
theorem g_callVR (C : CxOK X cc own rm) {β : Type} {o : β} {K : Option Nat → Hp → Option β} {F : Nat → Option (Option Nat × Hp)} {y : MethodName} {cy : ByteArray} {nL np idx ci N : Nat} {ret : Option FieldType} {rm1 : Room} {As st0 : List Value} {r : Option Nat} {Cn : String} {T : u_T} (hc : vwCl[ci]? = some (Cn, T, N)) (hci : ci < 7)
    (hct : ∀ b q, F b = some q → CtR y cy nL ret rm1 0 0 (va_rf (some b) :: As) S q) (hg : GoodIn wsL_law (wsV own idx Cn y (.code y cy nL ret :: wsL_law))) (hcells : rm1.cells = 0) (hslots : rm1.slots = 0) (hds : y.cls = Cn ∧ y.cls ≠ "java/lang/invoke/MethodHandle" ∧ y.cls ≠ "java/lang/invoke/VarHandle" ∧ (parseMethodDescriptor y.desc).map (fun d => d.parameters.length) = some np) (hnp : As.length = np) (hR : rm1.frames + 1 ≤ rm.frames ∧ 8 + (nL + 11) + rm1.locals ≤ rm.locals) (hst : st0 = As.reverse ++ va_rf r :: st) (hsum : (st.map fun v => v.category).sum ≤ 8) (hfit : k ≤ rm.cells ∧ n ≤ rm.slots) (hdg : decode cc pc = .ok (.invokevirtual idx, 3))
    (h : ob S ci r (fun b => cl (F b) K) = some o) (kk : ∀ v S1, K v S1 = some o → GW X k n S1 (pc + 3) lv (va_rf v :: st)) : GW X k n S pc lv st0 := by
  subst hst
  obtain ⟨b, rfl, hL, hK, h⟩ := ob_el h
  obtain ⟨r1, S1, hF, h⟩ := cl_el h
  intro H locs ls hP hD hS hl
  have hfr := zfree C hD hS
  have hRX := C.2.2.2.2.2.2.2.2
  obtain ⟨q, hq⟩ := zP_get (cy := xy X) hL (zF_o hK hci)
  refine va_callq (va_runV (As := As) (rest := st) ⟨C.1, C.2.1, C.2.2.1, C.2.2.2.1, C.2.2.2.2.1⟩ (hct b _ hF (xl X) (xG X) (xy X) H.size) (cwV np C.2.2.2.2.1 hg rfl hcells hslots hds (by rw [hRX]; exact hR)) ⟨ct_bl, va_recv C.2.2.2.2.2.1 hP hc hq, fun U hU hW => ⟨rfl, by rw [hU], by rw [hU]; exact hP, va_K.moved hW.alike C.2.2.2.2.2.1, hD.weaken (fun _ _ _ _ => trivial)⟩⟩ rfl hnp hl.1 rfl (lv_room hsum) hdg (by rw [hRX]; exact hfit)) hS (fun q _ h => hfr q h) hfr (fun r u t H1 locs1 ht hvm hw hB hz1 hk1 hS1 => ?_)
  cases hw; obtain ⟨hP1, hK1, hD1⟩ := hB
  rw [ht] at hP1
  exact kk r1 S1 h H1 locs1 ls hP1 (hD1.weaken (fun _ q _ h => hfr q.1 h)) hS1 hl
theorem g_callSR (C : CxOK X cc own rm) {β : Type} {o : β} {K : Option Nat → Hp → Option β} {F : Option (Option Nat × Hp)} {y : MethodName} {cy : ByteArray} {nL np idx : Nat} {ret : Option FieldType} {rm1 : Room} {As st0 : List Value}
    (hct : ∀ q, F = some q → CtR y cy nL ret rm1 0 0 As S q) (hg : GoodIn wsL_law (va_wsS own idx y (.code y cy nL ret :: wsL_law))) (hcells : rm1.cells = 0) (hslots : rm1.slots = 0) (hds : y.cls ≠ "java/lang/invoke/MethodHandle" ∧ y.cls ≠ "java/lang/invoke/VarHandle" ∧ (parseMethodDescriptor y.desc).map (fun d => d.parameters.length) = some np) (hnp : As.length = np) (hR : rm1.frames + 1 ≤ rm.frames ∧ 8 + (nL + 11) + rm1.locals ≤ rm.locals) (hst : st0 = As.reverse ++ st) (hsum : (st.map fun v => v.category).sum ≤ 8) (hfit : k ≤ rm.cells ∧ n ≤ rm.slots) (hdg : decode cc pc = .ok (.invokestatic idx, 3))
    (h : cl F K = some o) (kk : ∀ v S1, K v S1 = some o → GW X k n S1 (pc + 3) lv (va_rf v :: st)) : GW X k n S pc lv st0 := by
  subst hst
  obtain ⟨r1, S1, hF, h⟩ := cl_el h
  intro H locs ls hP hD hS hl
  have hfr := zfree C hD hS
  have hRX := C.2.2.2.2.2.2.2.2
  refine va_callq (va_runS (As := As) (rest := st) ⟨C.1, C.2.1, C.2.2.1, C.2.2.2.1, C.2.2.2.2.1⟩ (hct _ hF (xl X) (xG X) (xy X) H.size) (va_cwS np C.2.2.2.2.1 hg rfl hcells hslots hds (by rw [hRX]; exact hR)) ⟨ct_bl, fun U hU hW => ⟨rfl, by rw [hU], by rw [hU]; exact hP, va_K.moved hW.alike C.2.2.2.2.2.1, hD.weaken (fun _ _ _ _ => trivial)⟩⟩ rfl hnp hl.1 rfl (lv_room hsum) hdg (by rw [hRX]; exact hfit)) hS (fun q _ h => hfr q h) hfr (fun r u t H1 locs1 ht hvm hw hB hz1 hk1 hS1 => ?_)
  cases hw; obtain ⟨hP1, hK1, hD1⟩ := hB
  rw [ht] at hP1
  exact kk r1 S1 h H1 locs1 ls hP1 (hD1.weaken (fun _ q _ h => hfr q.1 h)) hS1 hl
theorem g_callVV (C : CxOK X cc own rm) {β : Type} {o : β} {K : Unit → Hp → Option β} {F : Nat → Option (Unit × Hp)} {y : MethodName} {cy : ByteArray} {nL np idx ci N : Nat} {ret : Option FieldType} {rm1 : Room} {As st0 : List Value} {r : Option Nat} {Cn : String} {T : u_T} (hc : vwCl[ci]? = some (Cn, T, N)) (hci : ci < 7)
    (hct : ∀ b q, F b = some q → CtV y cy nL ret rm1 0 0 (va_rf (some b) :: As) S q) (hg : GoodIn wsL_law (wsV own idx Cn y (.code y cy nL ret :: wsL_law))) (hcells : rm1.cells = 0) (hslots : rm1.slots = 0) (hds : y.cls = Cn ∧ y.cls ≠ "java/lang/invoke/MethodHandle" ∧ y.cls ≠ "java/lang/invoke/VarHandle" ∧ (parseMethodDescriptor y.desc).map (fun d => d.parameters.length) = some np) (hnp : As.length = np) (hR : rm1.frames + 1 ≤ rm.frames ∧ 8 + (nL + 11) + rm1.locals ≤ rm.locals) (hst : st0 = As.reverse ++ va_rf r :: st) (hsum : (st.map fun v => v.category).sum ≤ 8) (hfit : k ≤ rm.cells ∧ n ≤ rm.slots) (hdg : decode cc pc = .ok (.invokevirtual idx, 3))
    (h : ob S ci r (fun b => cl (F b) K) = some o) (kk : ∀ S1, K () S1 = some o → GW X k n S1 (pc + 3) lv (st)) : GW X k n S pc lv st0 := by
  subst hst
  obtain ⟨b, rfl, hL, hK, h⟩ := ob_el h
  obtain ⟨r1, S1, hF, h⟩ := cl_el h
  intro H locs ls hP hD hS hl
  have hfr := zfree C hD hS
  have hRX := C.2.2.2.2.2.2.2.2
  obtain ⟨q, hq⟩ := zP_get (cy := xy X) hL (zF_o hK hci)
  refine va_callv (va_runV (As := As) (rest := st) ⟨C.1, C.2.1, C.2.2.1, C.2.2.2.1, C.2.2.2.2.1⟩ (hct b _ hF (xl X) (xG X) (xy X) H.size) (cwV np C.2.2.2.2.1 hg rfl hcells hslots hds (by rw [hRX]; exact hR)) ⟨ct_bl, va_recv C.2.2.2.2.2.1 hP hc hq, fun U hU hW => ⟨rfl, by rw [hU], by rw [hU]; exact hP, va_K.moved hW.alike C.2.2.2.2.2.1, hD.weaken (fun _ _ _ _ => trivial)⟩⟩ rfl hnp hl.1 rfl (lv_room hsum) hdg (by rw [hRX]; exact hfit)) hS (fun q _ h => hfr q h) hfr (fun u t H1 locs1 ht hvm hw hB hz1 hk1 hS1 => ?_)
  obtain ⟨hP1, hK1, hD1⟩ := hB
  rw [ht] at hP1
  exact kk S1 h H1 locs1 ls hP1 (hD1.weaken (fun _ q _ h => hfr q.1 h)) hS1 hl
theorem g_callSV (C : CxOK X cc own rm) {β : Type} {o : β} {K : Unit → Hp → Option β} {F : Option (Unit × Hp)} {y : MethodName} {cy : ByteArray} {nL np idx : Nat} {ret : Option FieldType} {rm1 : Room} {As st0 : List Value}
    (hct : ∀ q, F = some q → CtV y cy nL ret rm1 0 0 As S q) (hg : GoodIn wsL_law (va_wsS own idx y (.code y cy nL ret :: wsL_law))) (hcells : rm1.cells = 0) (hslots : rm1.slots = 0) (hds : y.cls ≠ "java/lang/invoke/MethodHandle" ∧ y.cls ≠ "java/lang/invoke/VarHandle" ∧ (parseMethodDescriptor y.desc).map (fun d => d.parameters.length) = some np) (hnp : As.length = np) (hR : rm1.frames + 1 ≤ rm.frames ∧ 8 + (nL + 11) + rm1.locals ≤ rm.locals) (hst : st0 = As.reverse ++ st) (hsum : (st.map fun v => v.category).sum ≤ 8) (hfit : k ≤ rm.cells ∧ n ≤ rm.slots) (hdg : decode cc pc = .ok (.invokestatic idx, 3))
    (h : cl F K = some o) (kk : ∀ S1, K () S1 = some o → GW X k n S1 (pc + 3) lv (st)) : GW X k n S pc lv st0 := by
  subst hst
  obtain ⟨r1, S1, hF, h⟩ := cl_el h
  intro H locs ls hP hD hS hl
  have hfr := zfree C hD hS
  have hRX := C.2.2.2.2.2.2.2.2
  refine va_callv (va_runS (As := As) (rest := st) ⟨C.1, C.2.1, C.2.2.1, C.2.2.2.1, C.2.2.2.2.1⟩ (hct _ hF (xl X) (xG X) (xy X) H.size) (va_cwS np C.2.2.2.2.1 hg rfl hcells hslots hds (by rw [hRX]; exact hR)) ⟨ct_bl, fun U hU hW => ⟨rfl, by rw [hU], by rw [hU]; exact hP, va_K.moved hW.alike C.2.2.2.2.2.1, hD.weaken (fun _ _ _ _ => trivial)⟩⟩ rfl hnp hl.1 rfl (lv_room hsum) hdg (by rw [hRX]; exact hfit)) hS (fun q _ h => hfr q h) hfr (fun u t H1 locs1 ht hvm hw hB hz1 hk1 hS1 => ?_)
  obtain ⟨hP1, hK1, hD1⟩ := hB
  rw [ht] at hP1
  exact kk S1 h H1 locs1 ls hP1 (hD1.weaken (fun _ q _ h => hfr q.1 h)) hS1 hl
theorem g_lb2d (C : CxOK X cc own rm) {β : Type} {K : Option β} {o : β} {b : Int64} {idx : Nat} (h1 : Cond.methodLink own idx ⟨"java/lang/Double", "longBitsToDouble", "(J)D"⟩ ∈ wsL_law) (h2 : Cond.native ⟨"java/lang/Double", "longBitsToDouble", "(J)D"⟩ ∈ wsL_law) (h3 : Cond.static ⟨"java/lang/Double", "longBitsToDouble", "(J)D"⟩ ∈ wsL_law) (h4 : Cond.initialized "java/lang/Double" ∈ wsL_law) (hfr : 1 ≤ rm.frames) (hlo : 8 + 15 ≤ rm.locals) (hsum : (st.map fun v => v.category).sum ≤ 8) (hdg : decode cc pc = .ok (.invokestatic idx, 3)) (h : gd (vn_snl2d b = false) K = some o) (kk : K = some o → GW X k n S (pc + 3) lv (.double b.toUInt64 :: st)) : GW X k n S pc lv (.long b :: st) := fun H locs ls hP hD hS hl => vn_l2d C.1 C.2.1 (C.2.2.1.trans hl.1.symm) C.2.2.2.1 (C.2.2.2.2.1 _ h1) (C.2.2.2.2.1 _ h2) (C.2.2.2.2.1 _ h3) (C.2.2.2.2.1 _ h4) (gd_el h).1 (by rw [C.2.2.2.2.2.2.2.2]; exact hfr) (by rw [C.2.2.2.2.2.2.2.2]; omega) hdg (kk (gd_el h).2 H locs ls hP hD hS hl)
theorem g_d2lb (C : CxOK X cc own rm) {b : UInt64} {idx : Nat} (h1 : Cond.methodLink own idx ⟨"java/lang/Double", "doubleToRawLongBits", "(D)J"⟩ ∈ wsL_law) (h2 : Cond.native ⟨"java/lang/Double", "doubleToRawLongBits", "(D)J"⟩ ∈ wsL_law) (h3 : Cond.static ⟨"java/lang/Double", "doubleToRawLongBits", "(D)J"⟩ ∈ wsL_law) (h4 : Cond.initialized "java/lang/Double" ∈ wsL_law) (hfr : 1 ≤ rm.frames) (hlo : 8 + 15 ≤ rm.locals) (hsum : (st.map fun v => v.category).sum ≤ 8) (hdg : decode cc pc = .ok (.invokestatic idx, 3)) (kk : GW X k n S (pc + 3) lv (.long b.toInt64 :: st)) : GW X k n S pc lv (.double b :: st) := fun H locs ls hP hD hS hl => vn_d2l C.1 C.2.1 (C.2.2.1.trans hl.1.symm) C.2.2.2.1 (C.2.2.2.2.1 _ h1) (C.2.2.2.2.1 _ h2) (C.2.2.2.2.1 _ h3) (C.2.2.2.2.1 _ h4) (by rw [C.2.2.2.2.2.2.2.2]; exact hfr) (by rw [C.2.2.2.2.2.2.2.2]; omega) hdg (kk H locs ls hP hD hS hl)
theorem g_ogetI (C : CxOK X cc own rm) {β : Type} {o : β} {K : Nat → Option β} {ci N slot idx : Nat} {T : u_T} {Cn : String} {r : Option Nat} (hc : vwCl[ci]? = some (Cn, T, N)) (hci : ci < 7) (hin : ∀ w ∈ u_ws Cn T N, w ∈ wsL_law) (hk : slot < N) (hz : (zs ci)[slot]? = some (slot, 0)) (hlink : Cond.fieldLink own idx (T slot).1 (T slot).2.1 (T slot).2.2.1 ∈ wsL_law) (hdg : decode cc pc = .ok (.getfield idx, 3)) (h : ob S ci r K = some o) (kk : ∀ a, r = some a → K a = some o → a ∈ zL S → zK S a = ci → GW X k n S (pc + 3) lv (.int (zI S a slot) :: st)) : GW X k n S pc lv (va_rf r :: st) := by
  obtain ⟨a, hr, hL, hK, h2⟩ := ob_el h
  subst hr
  exact g_get C hc hci hin hk hz hlink hdg hL hK (kk a rfl h2 hL hK)
theorem g_ogetSI (C : CxOK X cc own rm) {β : Type} {o : β} {K : Nat → Option β} {ci N slot idx : Nat} {T : u_T} {Cn : String} {a : Nat} (hc : vwCl[ci]? = some (Cn, T, N)) (hci : ci < 7) (hin : ∀ w ∈ u_ws Cn T N, w ∈ wsL_law) (hk : slot < N) (hz : (zs ci)[slot]? = some (slot, 0)) (hlink : Cond.fieldLink own idx (T slot).1 (T slot).2.1 (T slot).2.2.1 ∈ wsL_law) (hdg : decode cc pc = .ok (.getfield idx, 3)) (h : ob S ci (some a) K = some o) (kk : K a = some o → a ∈ zL S → zK S a = ci → GW X k n S (pc + 3) lv (.int (zI S a slot) :: st)) : GW X k n S pc lv (va_rf (some a) :: st) := by
  obtain ⟨b, hr, hL, hK, h2⟩ := ob_el h
  cases hr
  exact g_get C hc hci hin hk hz hlink hdg hL hK (kk h2 hL hK)
theorem g_getEI (C : CxOK X cc own rm) {ci N slot idx : Nat} {T : u_T} {Cn : String} {a : Nat} {r : Option Nat} (hc : vwCl[ci]? = some (Cn, T, N)) (hci : ci < 7) (hin : ∀ w ∈ u_ws Cn T N, w ∈ wsL_law) (hk : slot < N) (hz : (zs ci)[slot]? = some (slot, 0)) (hlink : Cond.fieldLink own idx (T slot).1 (T slot).2.1 (T slot).2.2.1 ∈ wsL_law) (hdg : decode cc pc = .ok (.getfield idx, 3)) (hr : r = some a) (hL : a ∈ zL S) (hK : zK S a = ci) (kk : GW X k n S (pc + 3) lv (.int (zI S a slot) :: st)) : GW X k n S pc lv (va_rf r :: st) := by
  subst hr
  exact g_get C hc hci hin hk hz hlink hdg hL hK kk
theorem g_ogetJ (C : CxOK X cc own rm) {β : Type} {o : β} {K : Nat → Option β} {ci N slot idx : Nat} {T : u_T} {Cn : String} {r : Option Nat} (hc : vwCl[ci]? = some (Cn, T, N)) (hci : ci < 7) (hin : ∀ w ∈ u_ws Cn T N, w ∈ wsL_law) (hk : slot < N) (hz : (zs ci)[slot]? = some (slot, 1)) (hlink : Cond.fieldLink own idx (T slot).1 (T slot).2.1 (T slot).2.2.1 ∈ wsL_law) (hdg : decode cc pc = .ok (.getfield idx, 3)) (h : ob S ci r K = some o) (kk : ∀ a, r = some a → K a = some o → a ∈ zL S → zK S a = ci → GW X k n S (pc + 3) lv (.long (zJ S a slot) :: st)) : GW X k n S pc lv (va_rf r :: st) := by
  obtain ⟨a, hr, hL, hK, h2⟩ := ob_el h
  subst hr
  exact g_get C hc hci hin hk hz hlink hdg hL hK (kk a rfl h2 hL hK)
theorem g_ogetSJ (C : CxOK X cc own rm) {β : Type} {o : β} {K : Nat → Option β} {ci N slot idx : Nat} {T : u_T} {Cn : String} {a : Nat} (hc : vwCl[ci]? = some (Cn, T, N)) (hci : ci < 7) (hin : ∀ w ∈ u_ws Cn T N, w ∈ wsL_law) (hk : slot < N) (hz : (zs ci)[slot]? = some (slot, 1)) (hlink : Cond.fieldLink own idx (T slot).1 (T slot).2.1 (T slot).2.2.1 ∈ wsL_law) (hdg : decode cc pc = .ok (.getfield idx, 3)) (h : ob S ci (some a) K = some o) (kk : K a = some o → a ∈ zL S → zK S a = ci → GW X k n S (pc + 3) lv (.long (zJ S a slot) :: st)) : GW X k n S pc lv (va_rf (some a) :: st) := by
  obtain ⟨b, hr, hL, hK, h2⟩ := ob_el h
  cases hr
  exact g_get C hc hci hin hk hz hlink hdg hL hK (kk h2 hL hK)
theorem g_getEJ (C : CxOK X cc own rm) {ci N slot idx : Nat} {T : u_T} {Cn : String} {a : Nat} {r : Option Nat} (hc : vwCl[ci]? = some (Cn, T, N)) (hci : ci < 7) (hin : ∀ w ∈ u_ws Cn T N, w ∈ wsL_law) (hk : slot < N) (hz : (zs ci)[slot]? = some (slot, 1)) (hlink : Cond.fieldLink own idx (T slot).1 (T slot).2.1 (T slot).2.2.1 ∈ wsL_law) (hdg : decode cc pc = .ok (.getfield idx, 3)) (hr : r = some a) (hL : a ∈ zL S) (hK : zK S a = ci) (kk : GW X k n S (pc + 3) lv (.long (zJ S a slot) :: st)) : GW X k n S pc lv (va_rf r :: st) := by
  subst hr
  exact g_get C hc hci hin hk hz hlink hdg hL hK kk
theorem g_ogetD (C : CxOK X cc own rm) {β : Type} {o : β} {K : Nat → Option β} {ci N slot idx : Nat} {T : u_T} {Cn : String} {r : Option Nat} (hc : vwCl[ci]? = some (Cn, T, N)) (hci : ci < 7) (hin : ∀ w ∈ u_ws Cn T N, w ∈ wsL_law) (hk : slot < N) (hz : (zs ci)[slot]? = some (slot, 2)) (hlink : Cond.fieldLink own idx (T slot).1 (T slot).2.1 (T slot).2.2.1 ∈ wsL_law) (hdg : decode cc pc = .ok (.getfield idx, 3)) (h : ob S ci r K = some o) (kk : ∀ a, r = some a → K a = some o → a ∈ zL S → zK S a = ci → GW X k n S (pc + 3) lv (.double (zD S a slot) :: st)) : GW X k n S pc lv (va_rf r :: st) := by
  obtain ⟨a, hr, hL, hK, h2⟩ := ob_el h
  subst hr
  exact g_get C hc hci hin hk hz hlink hdg hL hK (kk a rfl h2 hL hK)
theorem g_ogetSD (C : CxOK X cc own rm) {β : Type} {o : β} {K : Nat → Option β} {ci N slot idx : Nat} {T : u_T} {Cn : String} {a : Nat} (hc : vwCl[ci]? = some (Cn, T, N)) (hci : ci < 7) (hin : ∀ w ∈ u_ws Cn T N, w ∈ wsL_law) (hk : slot < N) (hz : (zs ci)[slot]? = some (slot, 2)) (hlink : Cond.fieldLink own idx (T slot).1 (T slot).2.1 (T slot).2.2.1 ∈ wsL_law) (hdg : decode cc pc = .ok (.getfield idx, 3)) (h : ob S ci (some a) K = some o) (kk : K a = some o → a ∈ zL S → zK S a = ci → GW X k n S (pc + 3) lv (.double (zD S a slot) :: st)) : GW X k n S pc lv (va_rf (some a) :: st) := by
  obtain ⟨b, hr, hL, hK, h2⟩ := ob_el h
  cases hr
  exact g_get C hc hci hin hk hz hlink hdg hL hK (kk h2 hL hK)
theorem g_getED (C : CxOK X cc own rm) {ci N slot idx : Nat} {T : u_T} {Cn : String} {a : Nat} {r : Option Nat} (hc : vwCl[ci]? = some (Cn, T, N)) (hci : ci < 7) (hin : ∀ w ∈ u_ws Cn T N, w ∈ wsL_law) (hk : slot < N) (hz : (zs ci)[slot]? = some (slot, 2)) (hlink : Cond.fieldLink own idx (T slot).1 (T slot).2.1 (T slot).2.2.1 ∈ wsL_law) (hdg : decode cc pc = .ok (.getfield idx, 3)) (hr : r = some a) (hL : a ∈ zL S) (hK : zK S a = ci) (kk : GW X k n S (pc + 3) lv (.double (zD S a slot) :: st)) : GW X k n S pc lv (va_rf r :: st) := by
  subst hr
  exact g_get C hc hci hin hk hz hlink hdg hL hK kk
theorem g_ogetR (C : CxOK X cc own rm) {β : Type} {o : β} {K : Nat → Option β} {ci N slot idx : Nat} {T : u_T} {Cn : String} {r : Option Nat} (hc : vwCl[ci]? = some (Cn, T, N)) (hci : ci < 7) (hin : ∀ w ∈ u_ws Cn T N, w ∈ wsL_law) (hk : slot < N) (hz : (zs ci)[slot]? = some (slot, 3)) (hlink : Cond.fieldLink own idx (T slot).1 (T slot).2.1 (T slot).2.2.1 ∈ wsL_law) (hdg : decode cc pc = .ok (.getfield idx, 3)) (h : ob S ci r K = some o) (kk : ∀ a, r = some a → K a = some o → a ∈ zL S → zK S a = ci → GW X k n S (pc + 3) lv (va_rf (zR S a slot) :: st)) : GW X k n S pc lv (va_rf r :: st) := by
  obtain ⟨a, hr, hL, hK, h2⟩ := ob_el h
  subst hr
  exact g_get C hc hci hin hk hz hlink hdg hL hK (kk a rfl h2 hL hK)
theorem g_ogetSR (C : CxOK X cc own rm) {β : Type} {o : β} {K : Nat → Option β} {ci N slot idx : Nat} {T : u_T} {Cn : String} {a : Nat} (hc : vwCl[ci]? = some (Cn, T, N)) (hci : ci < 7) (hin : ∀ w ∈ u_ws Cn T N, w ∈ wsL_law) (hk : slot < N) (hz : (zs ci)[slot]? = some (slot, 3)) (hlink : Cond.fieldLink own idx (T slot).1 (T slot).2.1 (T slot).2.2.1 ∈ wsL_law) (hdg : decode cc pc = .ok (.getfield idx, 3)) (h : ob S ci (some a) K = some o) (kk : K a = some o → a ∈ zL S → zK S a = ci → GW X k n S (pc + 3) lv (va_rf (zR S a slot) :: st)) : GW X k n S pc lv (va_rf (some a) :: st) := by
  obtain ⟨b, hr, hL, hK, h2⟩ := ob_el h
  cases hr
  exact g_get C hc hci hin hk hz hlink hdg hL hK (kk h2 hL hK)
theorem g_getER (C : CxOK X cc own rm) {ci N slot idx : Nat} {T : u_T} {Cn : String} {a : Nat} {r : Option Nat} (hc : vwCl[ci]? = some (Cn, T, N)) (hci : ci < 7) (hin : ∀ w ∈ u_ws Cn T N, w ∈ wsL_law) (hk : slot < N) (hz : (zs ci)[slot]? = some (slot, 3)) (hlink : Cond.fieldLink own idx (T slot).1 (T slot).2.1 (T slot).2.2.1 ∈ wsL_law) (hdg : decode cc pc = .ok (.getfield idx, 3)) (hr : r = some a) (hL : a ∈ zL S) (hK : zK S a = ci) (kk : GW X k n S (pc + 3) lv (va_rf (zR S a slot) :: st)) : GW X k n S pc lv (va_rf r :: st) := by
  subst hr
  exact g_get C hc hci hin hk hz hlink hdg hL hK kk
end GR2
