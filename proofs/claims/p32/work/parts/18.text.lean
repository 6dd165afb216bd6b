/-! the five literals: lengths, letters, places in Text's pool -/
def txL : List Nat := [4, 5, 5, 6, 4]
def txB : List (List Int32) := [[98, 111, 111, 107], [108, 101, 97, 118, 101], [109, 101, 114, 103, 101], [99, 97, 110, 99, 101, 108], [108, 101, 97, 100]]
def txK : Nat → Nat := fun i => match i with
  | 0 => 44
  | 1 => 50
  | 2 => 52
  | 3 => 54
  | _ => 56
def txS : Nat → String := fun i => match i with
  | 0 => "book"
  | 1 => "leave"
  | 2 => "merge"
  | 3 => "cancel"
  | _ => "lead"
def EV (adK adV : Nat → Nat) (A : Nat → Prop) (U : State) (H : Heap) : Prop := vk_S 5 txL txB adK adV A U H ∧ (∀ i, i < 5 → vk_R RX3 (txK i) (txS i) (adK i) U) ∧ va_Z "java/lang/String" "COMPACT_STRINGS" "Z" (.int 1) A U H ∧ va_Zq "jdk/internal/util/Preconditions" "SIOOBE_FORMATTER" "Ljava/util/function/BiFunction;" A U H
theorem EV.pass {adK adV : Nat → Nat} {A B : Nat → Prop} {s U : State} {H : Heap} {locs : List Loc} (h : EV adK adV A s s.heap) (hS : va_S A s.heap H locs) (hB : ∀ q, B q → A q) (hU : U.heap = H) (hW : s.WarmedH U.vm) : EV adK adV B U U.heap := by
  rw [hU]
  exact ⟨((h.1.kept hS.2.1).narrow hB).moved hW.alike, fun i hi => (h.2.1 i hi).warm hW, ((h.2.2.1.kept hS.2.1).narrow hB).moved hW.alike, ((h.2.2.2.kept hS.2.1).narrow hB).moved hW.alike⟩
theorem EV.blind {adK adV : Nat → Nat} {A : Nat → Prop} {U : State} {g : JFrame} {mk : MethodId} {a : Array Value} (h : EV adK adV A U U.heap) : EV adK adV A (U.calling g mk a) (U.calling g mk a).heap :=
  ⟨h.1.moved (Vm.Alike.refl U.vm), fun i hi => vk_R.same rfl (h.2.1 i hi), h.2.2.1.moved (Vm.Alike.refl U.vm), h.2.2.2.moved (Vm.Alike.refl U.vm)⟩
def CtPE (As : List Value) (S : Hp) (D : va_G) (cy : Nat → ClassId) (sz : Nat) (adK adV : Nat → Nat) : Array Value → State → Prop := va_Pc As (fun U => (U.heap.size = sz ∧ va_P D vwCl (zP cy S) U.heap ∧ va_K D vwCl (ztys cy) U ∧ va_D (fun _ => True) (zP cy S)) ∧ EV adK adV (va_A (zP cy S) sz) U U.heap)
theorem ctE_bl {As : List Value} {S : Hp} {D : va_G} {cy : Nat → ClassId} {sz : Nat} {adK adV : Nat → Nat} : FrameBlind (CtPE As S D cy sz adK adV) := fun a U g mk q => by
  obtain ⟨q0, ⟨q1, qP, qK, qD⟩, qE⟩ := q
  exact ⟨q0, ⟨q1, qP, va_K.moved (u := U) (U := U.calling g mk a) (Vm.Alike.refl U.vm) qK, qD⟩, qE.blind⟩
def CtE (y : MethodName) (cc : ByteArray) (nL : Nat) (ret : Option FieldType) (rm : Room) (As : (Nat → Nat) → (Nat → Nat) → List Value) (S : Hp) (o : Int32 × Hp) : Prop := ∀ (l : Launch) (D : va_G) (cy : Nat → ClassId) (sz : Nat) (adK adV : Nat → Nat), Met l y (.code y cc nL ret :: wsL_law) rm (CtPE (As adK adV) S D cy sz adK adV) (va_Qi (fun r (_ : Unit) => r = o.1) (CtB S o.2 D cy sz) (va_A (zP cy S) sz)) 0 0 (va_A (zP cy S) sz)
def CtEV (y : MethodName) (cc : ByteArray) (nL : Nat) (ret : Option FieldType) (rm : Room) (As : (Nat → Nat) → (Nat → Nat) → List Value) (S : Hp) (o : Unit × Hp) : Prop := ∀ (l : Launch) (D : va_G) (cy : Nat → ClassId) (sz : Nat) (adK adV : Nat → Nat), Met l y (.code y cc nL ret :: wsL_law) rm (CtPE (As adK adV) S D cy sz adK adV) (va_Qv (fun (_ : Unit) => True) (CtB S o.2 D cy sz) (va_A (zP cy S) sz)) 0 0 (va_A (zP cy S) sz)
theorem ctE_entry {y : MethodName} {cc : ByteArray} {nL : Nat} {ret : Option FieldType} {rm : Room} {As : List Value} {S : Hp} {own : String} {l : Launch} {D : va_G} {cy : Nat → ClassId} {sz : Nat} {adK adV : Nat → Nat} {Qc : Array Value → State → Outcome → State → Prop}
    (hy : plainName y.cls = true) (hcls : y.cls = own) (hlen : (lg_sl As).length ≤ nL) (body : ∀ X : Cx, CxOK X cc own rm → xn X = nL → xG X = D → xy X = cy → (xs X).heap.size = sz → EV adK adV (xA X) (xs X) (xs X).heap → QQ X ret S 0 0 Qc → GW X 0 0 S 0 (lv_args 0 As) []) :
    Met l y (.code y cc nL ret :: wsL_law) rm (CtPE As S D cy sz adK adV) Qc 0 0 (va_A (zP cy S) sz) := by
  refine Met.ofW (cc := cc) (maxL := nL) (ret := ret) hy rfl ?_
  intro p e s m args below meth c s₁ B hml hv
  obtain ⟨rfl, ⟨hsz, hP, hK, hD0⟩, hE⟩ := hv
  have hts := atoms_spec (ws := .code y cc nL ret :: wsL_law) B.pre
  have hown : s.vm.findClass own = some m.cls := hcls ▸ findClass_of_methodNamed B.named
  subst hsz
  have hD := hD0.self (sz := s.heap.size)
  have hl := lv_entry As (n := nL) hlen
  rw [lg_entry_eq]
  exact body (p, l, e, rm, s, m, As.toArray, below, meth, c, MQ below Qc As.toArray s 0 0 (va_A (zP cy S) s.heap.size), D, cy, va_A (zP cy S) s.heap.size, nL)
    ⟨B.exec, B.bytes, hml, hown, fun w h => hts w (List.mem_cons_of_mem _ h), hK, fun q h => Or.inr h, B.notSynchronized, rfl⟩ rfl rfl rfl rfl hE ⟨B.returns, rfl, rfl⟩ _ _ _ hP hD va_S.rf hl
theorem ct_E {y : MethodName} {cc : ByteArray} {nL : Nat} {ret : Option FieldType} {rm : Room} {As : (Nat → Nat) → (Nat → Nat) → List Value} {S : Hp} {own : String} {o : Int32 × Hp} (hy : plainName y.cls = true) (hcls : y.cls = own) (hlen : ∀ adK adV, (lg_sl (As adK adV)).length ≤ nL)
    (body : ∀ (X : Cx) (adK adV : Nat → Nat), CxOK X cc own rm → xn X = nL → EV adK adV (xA X) (xs X) (xs X).heap → QI X ret S 0 0 o → GW X 0 0 S 0 (lv_args 0 (As adK adV)) []) : CtE y cc nL ret rm As S o := fun l D cy sz adK adV => ctE_entry hy hcls (hlen adK adV) (fun X h1 h2 h3 h4 h5 hE h6 => body X adK adV h1 h2 hE (by
  have h7 := h6.2.2
  subst h3; subst h4; subst h5
  unfold QI; rw [h7]; exact h6))
theorem ct_EV {y : MethodName} {cc : ByteArray} {nL : Nat} {ret : Option FieldType} {rm : Room} {As : (Nat → Nat) → (Nat → Nat) → List Value} {S : Hp} {own : String} {o : Unit × Hp} (hy : plainName y.cls = true) (hcls : y.cls = own) (hlen : ∀ adK adV, (lg_sl (As adK adV)).length ≤ nL)
    (body : ∀ (X : Cx) (adK adV : Nat → Nat), CxOK X cc own rm → xn X = nL → EV adK adV (xA X) (xs X) (xs X).heap → QV X ret S 0 0 o → GW X 0 0 S 0 (lv_args 0 (As adK adV)) []) : CtEV y cc nL ret rm As S o := fun l D cy sz adK adV => ctE_entry hy hcls (hlen adK adV) (fun X h1 h2 h3 h4 h5 hE h6 => body X adK adV h1 h2 hE (by
  have h7 := h6.2.2
  subst h3; subst h4; subst h5
  unfold QV; rw [h7]; exact h6))
section GR5
variable {X : Cx} {cc : ByteArray} {own : String} {rm : Room} {k n pc : Nat} {S : Hp} {lv lv' : List (Nat × Value)} {st : List Value} {adK adV : Nat → Nat}
theorem g_nret (C : CxOK X cc own rm) {S0 : Hp} {v : Int32} {ty : FieldType} {o : Int32 × Hp} (hQ : QI X (some ty) S0 k n o) (hn : narrow ty (.int v) = .int v) (hdg : decode cc pc = .ok (.ireturn, 1)) (h : some (v, S) = some o) : GW X k n S pc lv [.int v] := by
  cases h
  intro H locs ls hP hD hS hl
  rw [hQ.2.1]
  exact W.zret C.1 C.2.1 hQ.1 hn (fun t ht hW => ⟨⟨v, (), rfl, rfl, by rw [ht]; exact hP, va_K.moved hW.alike C.2.2.2.2.2.1, by rw [← hQ.2.2]; exact hD⟩, hS.F ht⟩) hS.2.2 hdg C.2.2.2.2.2.2.2.1
theorem g_ldcS (C : CxOK X cc RX3 rm) (E : EV adK adV (xA X) (xs X) (xs X).heap) {i idx : Nat} (hi : i < 5) (hk : txK i = idx) (hdg : decode cc pc = .ok (.ldc idx, 2)) (kk : GW X k n S (pc + 2) lv (va_rf (some (adK i)) :: st)) : GW X k n S pc lv st := by
  subst hk
  exact fun H locs ls hP hD hS hl => va_ldcS C.1 C.2.1 C.2.2.2.1 (E.2.1 i hi) hdg (kk H locs ls hP hD hS hl)
theorem g_strv (C : CxOK X cc own rm) (E : EV adK adV (xA X) (xs X) (xs X).heap) {i idx : Nat} (hi : i < 5) (hw : Cond.fieldLink own idx "java/lang/String" "value" "[B" ∈ wsL_law) (hdg : decode cc pc = .ok (.getfield idx, 3)) (kk : GW X k n S (pc + 3) lv (va_rf (some (adV i)) :: st)) : GW X k n S pc lv (va_rf (some (adK i)) :: st) := fun H locs ls hP hD hS hl => vk_getf C.1 C.2.1 (E.1.1 i hi).2.2.1 hS C.2.2.2.1 (C.2.2.2.2.1 _ hw) (fun _ h => h) hdg (kk H locs ls hP hD hS hl)
theorem g_strc (C : CxOK X cc own rm) (E : EV adK adV (xA X) (xs X) (xs X).heap) {i idx : Nat} (hi : i < 5) (hw : Cond.fieldLink own idx "java/lang/String" "coder" "B" ∈ wsL_law) (hdg : decode cc pc = .ok (.getfield idx, 3)) (kk : GW X k n S (pc + 3) lv (.int 0 :: st)) : GW X k n S pc lv (va_rf (some (adK i)) :: st) := fun H locs ls hP hD hS hl => vk_getf C.1 C.2.1 (E.1.1 i hi).2.1 hS C.2.2.2.1 (C.2.2.2.2.1 _ hw) (fun _ h => h) hdg (kk H locs ls hP hD hS hl)
theorem g_compact (C : CxOK X cc own rm) (E : EV adK adV (xA X) (xs X) (xs X).heap) {idx : Nat} (hw : Cond.fieldLink own idx "java/lang/String" "COMPACT_STRINGS" "Z" ∈ wsL_law) (hdg : decode cc pc = .ok (.getstatic idx, 3)) (kk : GW X k n S (pc + 3) lv (.int 1 :: st)) : GW X k n S pc lv st := fun H locs ls hP hD hS hl => va_gets C.1 C.2.1 E.2.2.1 hS C.2.2.2.1 (C.2.2.2.2.1 _ hw) (fun _ h => h) hdg (kk H locs ls hP hD hS hl)
theorem g_sioobe (C : CxOK X cc own rm) (E : EV adK adV (xA X) (xs X) (xs X).heap) {idx : Nat} (hw : Cond.fieldLink own idx "jdk/internal/util/Preconditions" "SIOOBE_FORMATTER" "Ljava/util/function/BiFunction;" ∈ wsL_law) (hdg : decode cc pc = .ok (.getstatic idx, 3)) (kk : ∀ r : Option Nat, GW X k n S (pc + 3) lv (va_rf r :: st)) : GW X k n S pc lv st := fun H locs ls hP hD hS hl => by
  rcases E.2.2.2 with h | ⟨t, h⟩
  · exact va_gets C.1 C.2.1 h hS C.2.2.2.1 (C.2.2.2.2.1 _ hw) (fun _ h => h) hdg (kk none H locs ls hP hD hS hl)
  · exact va_gets C.1 C.2.1 h hS C.2.2.2.1 (C.2.2.2.2.1 _ hw) (fun _ h => h) hdg (kk (some t) H locs ls hP hD hS hl)
theorem g_tlen (C : CxOK X cc own rm) (E : EV adK adV (xA X) (xs X) (xs X).heap) {i : Nat} (hi : i < 5) (hdg : decode cc pc = .ok (.arraylength, 1)) (kk : GW X k n S (pc + 1) lv (.int (nI (txL.getD i 0)) :: st)) : GW X k n S pc lv (va_rf (some (adV i)) :: st) := fun H locs ls hP hD hS hl => va_tlen C.1 C.2.1 (E.1.1 i hi).2.2.2 hS rfl hdg (kk H locs ls hP hD hS hl)
theorem g_tb (C : CxOK X cc own rm) (E : EV adK adV (xA X) (xs X) (xs X).heap) {i : Nat} {j : Int32} (hi : i < 5) (hj : vp_in j (txL.getD i 0)) (hdg : decode cc pc = .ok (.baload, 1)) (kk : GW X k n S (pc + 1) lv (.int ((txB.getD i []).getD j.toNatClampNeg 0) :: st)) : GW X k n S pc lv (.int j :: va_rf (some (adV i)) :: st) := fun H locs ls hP hD hS hl => va_tb C.1 C.2.1 (E.1.1 i hi).2.2.2 hS hj rfl hdg (kk H locs ls hP hD hS hl)
theorem g_if_ltI (C : CxOK X cc own rm) {x : Int32} {off : Int} {tgt : Nat} (hdg : decode cc pc = .ok (.ifCond .lt off, 3)) (ht : (pc : Int) + off = (tgt : Int)) (hx : ¬ x < 0) (kk : GW X k n S (pc + 3) lv st) : GW X k n S pc lv (.int x :: st) := fun H locs ls hP hD hS hl => lv_if_lt C.1 C.2.1 hdg ht (fun c => absurd c hx) (fun _ => kk H locs ls hP hD hS hl)
theorem g_icmp_ltI (C : CxOK X cc own rm) {x y : Int32} {off : Int} {tgt : Nat} (hdg : decode cc pc = .ok (.if_icmp .lt off, 3)) (ht : (pc : Int) + off = (tgt : Int)) (hx : x < y) (kk : GW X k n S tgt lv st) : GW X k n S pc lv (.int y :: .int x :: st) := fun H locs ls hP hD hS hl => lv_icmp_lt C.1 C.2.1 hdg ht (fun _ => kk H locs ls hP hD hS hl) (fun c => absurd hx c)
theorem g_if_eqI (C : CxOK X cc own rm) {x : Int32} {off : Int} {tgt : Nat} (hdg : decode cc pc = .ok (.ifCond .eq off, 3)) (ht : (pc : Int) + off = (tgt : Int)) (hx : ¬ x = 0) (kk : GW X k n S (pc + 3) lv st) : GW X k n S pc lv (.int x :: st) := fun H locs ls hP hD hS hl => lv_if_eq C.1 C.2.1 hdg ht (fun c => absurd c hx) (fun _ => kk H locs ls hP hD hS hl)
theorem g_if_neI (C : CxOK X cc own rm) {x : Int32} {off : Int} {tgt : Nat} (hdg : decode cc pc = .ok (.ifCond .ne off, 3)) (ht : (pc : Int) + off = (tgt : Int)) (hx : x = 0) (kk : GW X k n S (pc + 3) lv st) : GW X k n S pc lv (.int x :: st) := fun H locs ls hP hD hS hl => lv_if_ne C.1 C.2.1 hdg ht (fun c => absurd hx c) (fun _ => kk H locs ls hP hD hS hl)
theorem g_callVE (C : CxOK X cc own rm) (E : EV adK adV (xA X) (xs X) (xs X).heap) {β : Type} {o : β} {K : Int32 → Hp → Option β} {F : Nat → Option (Int32 × Hp)} {y : MethodName} {cy : ByteArray} {nL np idx ci N : Nat} {ret : Option FieldType} {rm1 : Room} {As : (Nat → Nat) → (Nat → Nat) → List Value} {st0 : List Value} {r : Option Nat} {Cn : String} {T : u_T} (hc : vwCl[ci]? = some (Cn, T, N)) (hci : ci < 7)
    (hct : ∀ b q, F b = some q → CtE y cy nL ret rm1 (fun adK adV => va_rf (some b) :: As adK adV) S q) (hg : GoodIn wsL_law (wsV own idx Cn y (.code y cy nL ret :: wsL_law))) (hcells : rm1.cells = 0) (hslots : rm1.slots = 0) (hds : y.cls = Cn ∧ y.cls ≠ "java/lang/invoke/MethodHandle" ∧ y.cls ≠ "java/lang/invoke/VarHandle" ∧ (parseMethodDescriptor y.desc).map (fun d => d.parameters.length) = some np) (hnp : (As adK adV).length = np) (hR : rm1.frames + 1 ≤ rm.frames ∧ 8 + (nL + 11) + rm1.locals ≤ rm.locals) (hst : st0 = (As adK adV).reverse ++ va_rf r :: st) (hsum : (st.map fun v => v.category).sum ≤ 8) (hfit : k ≤ rm.cells ∧ n ≤ rm.slots) (hdg : decode cc pc = .ok (.invokevirtual idx, 3))
    (h : ob S ci r (fun b => cl (F b) K) = some o) (kk : ∀ v S1, K v S1 = some o → GW X k n S1 (pc + 3) lv (.int v :: st)) : GW X k n S pc lv st0 := by
  subst hst
  obtain ⟨b, rfl, hL, hK, h⟩ := ob_el h
  obtain ⟨r1, S1, hF, h⟩ := cl_el h
  intro H locs ls hP hD hS hl
  have hfr := zfree C hD hS
  have hRX := C.2.2.2.2.2.2.2.2
  obtain ⟨q, hq⟩ := zP_get (cy := xy X) hL (zF_o hK hci)
  refine va_calli (va_runV (As := As adK adV) (rest := st) ⟨C.1, C.2.1, C.2.2.1, C.2.2.2.1, C.2.2.2.2.1⟩ (hct b _ hF (xl X) (xG X) (xy X) H.size adK adV) (cwV np C.2.2.2.2.1 hg rfl hcells hslots hds (by rw [hRX]; exact hR)) ⟨ctE_bl, va_recv C.2.2.2.2.2.1 hP hc hq, fun U hU hW => ⟨rfl, ⟨by rw [hU], by rw [hU]; exact hP, va_K.moved hW.alike C.2.2.2.2.2.1, hD.weaken (fun _ _ _ _ => trivial)⟩, E.pass hS hfr hU hW⟩⟩ rfl hnp hl.1 rfl (lv_room hsum) hdg (by rw [hRX]; exact hfit)) hS (fun q _ h => hfr q h) hfr (fun r u t H1 locs1 ht hvm hw hB hz1 hk1 hS1 => ?_)
  cases hw; obtain ⟨hP1, hK1, hD1⟩ := hB
  rw [ht] at hP1
  exact kk r1 S1 h H1 locs1 ls hP1 (hD1.weaken (fun _ q _ h => hfr q.1 h)) hS1 hl
theorem g_callJE (C : CxOK X cc own rm) (E : EV adK adV (xA X) (xs X) (xs X).heap) {v : Int32} {y : MethodName} {cy : ByteArray} {nL np idx i : Nat} {ret : Option FieldType} {rm1 : Room} {As st0 : List Value} (hi : i < 5)
    (hct : CtE y cy nL ret rm1 (fun adK _ => va_rf (some (adK i)) :: As) S (v, S)) (hg : GoodIn wsL_law (wsV own idx "java/lang/String" y (.code y cy nL ret :: wsL_law))) (hcells : rm1.cells = 0) (hslots : rm1.slots = 0) (hds : y.cls = "java/lang/String" ∧ y.cls ≠ "java/lang/invoke/MethodHandle" ∧ y.cls ≠ "java/lang/invoke/VarHandle" ∧ (parseMethodDescriptor y.desc).map (fun d => d.parameters.length) = some np) (hnp : As.length = np) (hR : rm1.frames + 1 ≤ rm.frames ∧ 8 + (nL + 11) + rm1.locals ≤ rm.locals) (hst : st0 = As.reverse ++ va_rf (some (adK i)) :: st) (hsum : (st.map fun v => v.category).sum ≤ 8) (hfit : k ≤ rm.cells ∧ n ≤ rm.slots) (hdg : decode cc pc = .ok (.invokevirtual idx, 3)) (kk : GW X k n S (pc + 3) lv (.int v :: st)) : GW X k n S pc lv st0 := by
  subst hst
  intro H locs ls hP hD hS hl
  have hfr := zfree C hD hS
  have hRX := C.2.2.2.2.2.2.2.2
  refine va_calli (va_runV (As := As) (rest := st) ⟨C.1, C.2.1, C.2.2.1, C.2.2.2.1, C.2.2.2.2.1⟩ (hct (xl X) (xG X) (xy X) H.size adK adV) (cwV np C.2.2.2.2.1 hg rfl hcells hslots hds (by rw [hRX]; exact hR)) ⟨ctE_bl, vk_recv E.1 hi hS, fun U hU hW => ⟨rfl, ⟨by rw [hU], by rw [hU]; exact hP, va_K.moved hW.alike C.2.2.2.2.2.1, hD.weaken (fun _ _ _ _ => trivial)⟩, E.pass hS hfr hU hW⟩⟩ rfl hnp hl.1 rfl (lv_room hsum) hdg (by rw [hRX]; exact hfit)) hS (fun q _ h => hfr q h) hfr (fun r u t H1 locs1 ht hvm hw hB hz1 hk1 hS1 => ?_)
  cases hw; obtain ⟨hP1, hK1, hD1⟩ := hB
  rw [ht] at hP1
  exact kk H1 locs1 ls hP1 (hD1.weaken (fun _ q _ h => hfr q.1 h)) hS1 hl
theorem g_callSE (C : CxOK X cc own rm) (E : EV adK adV (xA X) (xs X) (xs X).heap) {v : Int32} {y : MethodName} {cy : ByteArray} {nL np idx : Nat} {ret : Option FieldType} {rm1 : Room} {As : (Nat → Nat) → (Nat → Nat) → List Value} {st0 : List Value}
    (hct : CtE y cy nL ret rm1 As S (v, S)) (hg : GoodIn wsL_law (va_wsS own idx y (.code y cy nL ret :: wsL_law))) (hcells : rm1.cells = 0) (hslots : rm1.slots = 0) (hds : y.cls ≠ "java/lang/invoke/MethodHandle" ∧ y.cls ≠ "java/lang/invoke/VarHandle" ∧ (parseMethodDescriptor y.desc).map (fun d => d.parameters.length) = some np) (hnp : (As adK adV).length = np) (hR : rm1.frames + 1 ≤ rm.frames ∧ 8 + (nL + 11) + rm1.locals ≤ rm.locals) (hst : st0 = (As adK adV).reverse ++ st) (hsum : (st.map fun v => v.category).sum ≤ 8) (hfit : k ≤ rm.cells ∧ n ≤ rm.slots) (hdg : decode cc pc = .ok (.invokestatic idx, 3)) (kk : GW X k n S (pc + 3) lv (.int v :: st)) : GW X k n S pc lv st0 := by
  subst hst
  intro H locs ls hP hD hS hl
  have hfr := zfree C hD hS
  have hRX := C.2.2.2.2.2.2.2.2
  refine va_calli (va_runS (As := As adK adV) (rest := st) ⟨C.1, C.2.1, C.2.2.1, C.2.2.2.1, C.2.2.2.2.1⟩ (hct (xl X) (xG X) (xy X) H.size adK adV) (va_cwS np C.2.2.2.2.1 hg rfl hcells hslots hds (by rw [hRX]; exact hR)) ⟨ctE_bl, fun U hU hW => ⟨rfl, ⟨by rw [hU], by rw [hU]; exact hP, va_K.moved hW.alike C.2.2.2.2.2.1, hD.weaken (fun _ _ _ _ => trivial)⟩, E.pass hS hfr hU hW⟩⟩ rfl hnp hl.1 rfl (lv_room hsum) hdg (by rw [hRX]; exact hfit)) hS (fun q _ h => hfr q h) hfr (fun r u t H1 locs1 ht hvm hw hB hz1 hk1 hS1 => ?_)
  cases hw; obtain ⟨hP1, hK1, hD1⟩ := hB
  rw [ht] at hP1
  exact kk H1 locs1 ls hP1 (hD1.weaken (fun _ q _ h => hfr q.1 h)) hS1 hl
theorem g_callSEV (C : CxOK X cc own rm) (E : EV adK adV (xA X) (xs X) (xs X).heap) {y : MethodName} {cy : ByteArray} {nL np idx : Nat} {ret : Option FieldType} {rm1 : Room} {As : (Nat → Nat) → (Nat → Nat) → List Value} {st0 : List Value}
    (hct : CtEV y cy nL ret rm1 As S ((), S)) (hg : GoodIn wsL_law (va_wsS own idx y (.code y cy nL ret :: wsL_law))) (hcells : rm1.cells = 0) (hslots : rm1.slots = 0) (hds : y.cls ≠ "java/lang/invoke/MethodHandle" ∧ y.cls ≠ "java/lang/invoke/VarHandle" ∧ (parseMethodDescriptor y.desc).map (fun d => d.parameters.length) = some np) (hnp : (As adK adV).length = np) (hR : rm1.frames + 1 ≤ rm.frames ∧ 8 + (nL + 11) + rm1.locals ≤ rm.locals) (hst : st0 = (As adK adV).reverse ++ st) (hsum : (st.map fun v => v.category).sum ≤ 8) (hfit : k ≤ rm.cells ∧ n ≤ rm.slots) (hdg : decode cc pc = .ok (.invokestatic idx, 3)) (kk : GW X k n S (pc + 3) lv st) : GW X k n S pc lv st0 := by
  subst hst
  intro H locs ls hP hD hS hl
  have hfr := zfree C hD hS
  have hRX := C.2.2.2.2.2.2.2.2
  refine va_callv (va_runS (As := As adK adV) (rest := st) ⟨C.1, C.2.1, C.2.2.1, C.2.2.2.1, C.2.2.2.2.1⟩ (hct (xl X) (xG X) (xy X) H.size adK adV) (va_cwS np C.2.2.2.2.1 hg rfl hcells hslots hds (by rw [hRX]; exact hR)) ⟨ctE_bl, fun U hU hW => ⟨rfl, ⟨by rw [hU], by rw [hU]; exact hP, va_K.moved hW.alike C.2.2.2.2.2.1, hD.weaken (fun _ _ _ _ => trivial)⟩, E.pass hS hfr hU hW⟩⟩ rfl hnp hl.1 rfl (lv_room hsum) hdg (by rw [hRX]; exact hfit)) hS (fun q _ h => hfr q h) hfr (fun u t H1 locs1 ht hvm hw hB hz1 hk1 hS1 => ?_)
  obtain ⟨hP1, hK1, hD1⟩ := hB
  rw [ht] at hP1
  exact kk H1 locs1 ls hP1 (hD1.weaken (fun _ q _ h => hfr q.1 h)) hS1 hl
end GR5
theorem dsJ3_checkIndex_8e157 : yJ3_checkIndex_8e157.cls ≠ "java/lang/invoke/MethodHandle" ∧ yJ3_checkIndex_8e157.cls ≠ "java/lang/invoke/VarHandle" ∧ (parseMethodDescriptor yJ3_checkIndex_8e157.desc).map (fun d => d.parameters.length) = some 3 := by decide +kernel
theorem dsJ0_checkIndex_df160 : yJ0_checkIndex_df160.cls ≠ "java/lang/invoke/MethodHandle" ∧ yJ0_checkIndex_df160.cls ≠ "java/lang/invoke/VarHandle" ∧ (parseMethodDescriptor yJ0_checkIndex_df160.desc).map (fun d => d.parameters.length) = some 2 := by decide +kernel
theorem dsJ1_charAt_3b067 : yJ1_charAt_3b067.cls ≠ "java/lang/invoke/MethodHandle" ∧ yJ1_charAt_3b067.cls ≠ "java/lang/invoke/VarHandle" ∧ (parseMethodDescriptor yJ1_charAt_3b067.desc).map (fun d => d.parameters.length) = some 2 := by decide +kernel
theorem dsJ0_isLatin1_aae02 : yJ0_isLatin1_aae02.cls = "java/lang/String" ∧ yJ0_isLatin1_aae02.cls ≠ "java/lang/invoke/MethodHandle" ∧ yJ0_isLatin1_aae02.cls ≠ "java/lang/invoke/VarHandle" ∧ (parseMethodDescriptor yJ0_isLatin1_aae02.desc).map (fun d => d.parameters.length) = some 0 := by decide +kernel
theorem dsJ0_coder_7d493 : yJ0_coder_7d493.cls = "java/lang/String" ∧ yJ0_coder_7d493.cls ≠ "java/lang/invoke/MethodHandle" ∧ yJ0_coder_7d493.cls ≠ "java/lang/invoke/VarHandle" ∧ (parseMethodDescriptor yJ0_coder_7d493.desc).map (fun d => d.parameters.length) = some 0 := by decide +kernel
theorem dsJ0_length_8abf5 : yJ0_length_8abf5.cls = "java/lang/String" ∧ yJ0_length_8abf5.cls ≠ "java/lang/invoke/MethodHandle" ∧ yJ0_length_8abf5.cls ≠ "java/lang/invoke/VarHandle" ∧ (parseMethodDescriptor yJ0_length_8abf5.desc).map (fun d => d.parameters.length) = some 0 := by decide +kernel
theorem dsJ0_charAt_5068e : yJ0_charAt_5068e.cls = "java/lang/String" ∧ yJ0_charAt_5068e.cls ≠ "java/lang/invoke/MethodHandle" ∧ yJ0_charAt_5068e.cls ≠ "java/lang/invoke/VarHandle" ∧ (parseMethodDescriptor yJ0_charAt_5068e.desc).map (fun d => d.parameters.length) = some 1 := by decide +kernel
theorem gs_RJ0_J3_checkIndex_8e157 : GoodIn wsL_law (va_wsS RJ0 1059 yJ3_checkIndex_8e157 (.code yJ3_checkIndex_8e157 cJ3_checkIndex_8e157 3 (some .int) :: wsL_law)) := good_S q215 q216 q217 q218
theorem gs_RJ1_J0_checkIndex_df160 : GoodIn wsL_law (va_wsS RJ1 9 yJ0_checkIndex_df160 (.code yJ0_checkIndex_df160 cJ0_checkIndex_df160 2 none :: wsL_law)) := good_S q211 q212 q190 q213
theorem gs_RJ0_J1_charAt_3b067 : GoodIn wsL_law (va_wsS RJ0 495 yJ1_charAt_3b067 (.code yJ1_charAt_3b067 cJ1_charAt_3b067 2 (some .char) :: wsL_law)) := good_S q207 q208 q209 q210
theorem gv_RJ0_J0_isLatin1_aae02 : GoodIn wsL_law (wsV RJ0 492 RJ0 yJ0_isLatin1_aae02 (.code yJ0_isLatin1_aae02 cJ0_isLatin1_aae02 1 (some .boolean) :: wsL_law)) := good_V q203 q204 q205 q190 q206
theorem gv_RJ0_J0_coder_7d493 : GoodIn wsL_law (wsV RJ0 335 RJ0 yJ0_coder_7d493 (.code yJ0_coder_7d493 cJ0_coder_7d493 1 (some .byte) :: wsL_law)) := good_V q193 q194 q195 q190 q196
theorem gv_RX3_J0_length_8abf5 : GoodIn wsL_law (wsV RX3 58 RJ0 yJ0_length_8abf5 (.code yJ0_length_8abf5 cJ0_length_8abf5 1 (some .int) :: wsL_law)) := good_V q187 q188 q189 q190 q191
theorem gv_RX3_J0_charAt_5068e : GoodIn wsL_law (wsV RX3 62 RJ0 yJ0_charAt_5068e (.code yJ0_charAt_5068e cJ0_charAt_5068e 2 (some .char) :: wsL_law)) := good_V q199 q200 q201 q190 q202
abbrev rm_J3_checkIndex_8e157 : Room := { frames := 0, cells := 0, slots := 0, locals := 0 }
abbrev rm_J0_checkIndex_df160 : Room := { frames := 1, cells := 0, slots := 0, locals := 23 }
abbrev rm_J1_charAt_3b067 : Room := { frames := 2, cells := 0, slots := 0, locals := 46 }
abbrev rm_J0_charAt_5068e : Room := { frames := 3, cells := 0, slots := 0, locals := 70 }
abbrev rm_J0_isLatin1_aae02 : Room := { frames := 0, cells := 0, slots := 0, locals := 0 }
abbrev rm_J0_coder_7d493 : Room := { frames := 0, cells := 0, slots := 0, locals := 0 }
abbrev rm_J0_length_8abf5 : Room := { frames := 1, cells := 0, slots := 0, locals := 22 }
set_option maxHeartbeats 4000000 in
set_option maxRecDepth 100000 in
theorem c_J3_checkIndex_8e157 (S : Hp) (x n : Int32) (r : Option Nat) (h0 : ¬ x < 0) (h1 : x < n) : CtE yJ3_checkIndex_8e157 cJ3_checkIndex_8e157 3 (some .int) rm_J3_checkIndex_8e157 (fun adK adV => [.int x, .int n, va_rf r]) S (x, S) := by
  refine ct_E (own := RJ3) (by decide) rfl (fun adK adV => by simp [lg_sl, va_rf_cat, catI]) (fun X adK adV C hn E hQ => ?_)
  rw [show lv_args 0 [.int x, .int n, va_rf r] = [(0, .int x), (1, .int n), (2, va_rf r)] by simp [lv_args, va_rf_cat, catI]]
  refine g_iload_n C (q := 0) dJ3_checkIndex_8e157_0 rfl rfl ?_
  refine g_if_ltI C (tgt := 9) dJ3_checkIndex_8e157_1 (by decide) h0 ?_
  refine g_iload_n C (q := 0) dJ3_checkIndex_8e157_4 rfl rfl ?_
  refine g_iload_n C (q := 1) dJ3_checkIndex_8e157_5 rfl rfl ?_
  refine g_icmp_ltI C (tgt := 16) dJ3_checkIndex_8e157_6 (by decide) h1 ?_
  refine g_iload_n C (q := 0) dJ3_checkIndex_8e157_16 rfl rfl ?_
  exact g_iret C hQ dJ3_checkIndex_8e157_17 rfl
set_option maxHeartbeats 4000000 in
set_option maxRecDepth 100000 in
theorem c_J0_checkIndex_df160 (S : Hp) (x n : Int32) (h0 : ¬ x < 0) (h1 : x < n) : CtEV yJ0_checkIndex_df160 cJ0_checkIndex_df160 2 none rm_J0_checkIndex_df160 (fun adK adV => [.int x, .int n]) S ((), S) := by
  refine ct_EV (own := RJ0) (by decide) rfl (fun adK adV => Nat.le_of_ble_eq_true rfl) (fun X adK adV C hn E hQ => ?_)
  show GW X 0 0 S 0 [(0, .int x), (1, .int n)] []
  refine g_iload_n C (q := 0) dJ0_checkIndex_df160_0 rfl rfl ?_
  refine g_iload_n C (q := 1) dJ0_checkIndex_df160_1 rfl rfl ?_
  refine g_sioobe C E q214 dJ0_checkIndex_df160_2 (fun r => ?_)
  refine g_callSE C E (As := fun _ _ => [.int x, .int n, va_rf r]) (np := 3) (st := []) (c_J3_checkIndex_8e157 S x n r h0 h1) gs_RJ0_J3_checkIndex_8e157 rfl rfl dsJ3_checkIndex_8e157 rfl ⟨(Nat.le_of_ble_eq_true rfl), (Nat.le_of_ble_eq_true rfl)⟩ rfl (cat_sum (Nat.le_of_ble_eq_true rfl)) ⟨Nat.zero_le _, Nat.zero_le _⟩ dJ0_checkIndex_df160_5 ?_
  refine g_pop C dJ0_checkIndex_df160_8 rfl ?_
  exact g_vret C hQ dJ0_checkIndex_df160_9 rfl
theorem tx_len : ∀ i, i < 5 → txL.getD i 0 < 2 ^ 31 := by decide
theorem tx_low {i : Nat} {j : Int32} (hi : i < 5) (hj : vp_in j (txL.getD i 0)) : ¬ j < 0 ∧ j < nI (txL.getD i 0) := by
  obtain ⟨k, hk, rfl⟩ := vp_in_of hj (tx_len i hi)
  exact ⟨nI_pos (by have := tx_len i hi; omega), nI_lt hk (tx_len i hi)⟩
theorem tx_chr : ∀ i, i < 5 → ∀ k, k < txL.getD i 0 → ((((txB.getD i []).getD k 0) &&& 255).toUInt32 % 65536).toInt32 = (txB.getD i []).getD k 0 ∧ narrow .char (.int ((txB.getD i []).getD k 0)) = .int ((txB.getD i []).getD k 0) := by decide +kernel
theorem tx_chr2 {i : Nat} {j : Int32} (hi : i < 5) (hj : vp_in j (txL.getD i 0)) : ((((txB.getD i []).getD j.toNatClampNeg 0) &&& 255).toUInt32 % 65536).toInt32 = (txB.getD i []).getD j.toNatClampNeg 0 ∧ narrow .char (.int ((txB.getD i []).getD j.toNatClampNeg 0)) = .int ((txB.getD i []).getD j.toNatClampNeg 0) := tx_chr i hi _ (Nat.not_le.mp (fun q => hj (Or.inr q)))
set_option maxHeartbeats 4000000 in
set_option maxRecDepth 100000 in
theorem c_J1_charAt_3b067 (S : Hp) (i : Nat) (j : Int32) (hi : i < 5) (hj : vp_in j (txL.getD i 0)) : CtE yJ1_charAt_3b067 cJ1_charAt_3b067 2 (some .char) rm_J1_charAt_3b067 (fun adK adV => [va_rf (some (adV i)), .int j]) S ((txB.getD i []).getD j.toNatClampNeg 0, S) := by
  refine ct_E (own := RJ1) (by decide) rfl (fun adK adV => by simp [lg_sl, va_rf_cat, catI]) (fun X adK adV C hn E hQ => ?_)
  rw [show lv_args 0 [va_rf (some (adV i)), .int j] = [(0, va_rf (some (adV i))), (1, .int j)] by simp [lv_args, va_rf_cat, catI]]
  refine g_iload_n C (q := 1) dJ1_charAt_3b067_0 rfl rfl ?_
  refine g_aload_n C (q := 0) dJ1_charAt_3b067_1 rfl rfl ?_
  refine g_tlen C E hi dJ1_charAt_3b067_2 ?_
  refine g_callSEV C E (As := fun _ _ => [.int j, .int (nI (txL.getD i 0))]) (np := 2) (st := []) (c_J0_checkIndex_df160 S j _ (tx_low hi hj).1 (tx_low hi hj).2) gs_RJ1_J0_checkIndex_df160 rfl rfl dsJ0_checkIndex_df160 rfl ⟨(Nat.le_of_ble_eq_true rfl), (Nat.le_of_ble_eq_true rfl)⟩ rfl (cat_sum (Nat.le_of_ble_eq_true rfl)) ⟨Nat.zero_le _, Nat.zero_le _⟩ dJ1_charAt_3b067_3 ?_
  refine g_aload_n C (q := 0) dJ1_charAt_3b067_6 rfl rfl ?_
  refine g_iload_n C (q := 1) dJ1_charAt_3b067_7 rfl rfl ?_
  refine g_tb C E hi hj dJ1_charAt_3b067_8 ?_
  refine g_sipush C (v := 255) dJ1_charAt_3b067_9 (by decide) ?_
  refine g_iand C dJ1_charAt_3b067_12 ?_
  refine g_i2c C dJ1_charAt_3b067_13 ?_
  rw [(tx_chr2 hi hj).1]
  exact g_nret C hQ (tx_chr2 hi hj).2 dJ1_charAt_3b067_14 rfl
set_option maxHeartbeats 4000000 in
set_option maxRecDepth 100000 in
theorem c_J0_isLatin1_aae02 (S : Hp) (i : Nat) (hi : i < 5) : CtE yJ0_isLatin1_aae02 cJ0_isLatin1_aae02 1 (some .boolean) rm_J0_isLatin1_aae02 (fun adK adV => [va_rf (some (adK i))]) S (1, S) := by
  refine ct_E (own := RJ0) (by decide) rfl (fun adK adV => by simp [lg_sl, va_rf_cat, catI]) (fun X adK adV C hn E hQ => ?_)
  rw [show lv_args 0 [va_rf (some (adK i))] = [(0, va_rf (some (adK i)))] by simp [lv_args, va_rf_cat, catI]]
  refine g_compact C E q197 dJ0_isLatin1_aae02_0 ?_
  refine g_if_eqI C (tgt := 17) dJ0_isLatin1_aae02_3 (by decide) (by decide) ?_
  refine g_aload_n C (q := 0) dJ0_isLatin1_aae02_6 rfl rfl ?_
  refine g_strc C E hi q198 dJ0_isLatin1_aae02_7 ?_
  refine g_if_neI C (tgt := 17) dJ0_isLatin1_aae02_10 (by decide) rfl ?_
  refine g_iconst C (v := 1) dJ0_isLatin1_aae02_13 (by decide) ?_
  refine g_goto C (tgt := 18) dJ0_isLatin1_aae02_14 (by decide) ?_
  exact g_nret C hQ (by decide) dJ0_isLatin1_aae02_18 rfl
set_option maxHeartbeats 4000000 in
set_option maxRecDepth 100000 in
theorem c_J0_coder_7d493 (S : Hp) (i : Nat) (hi : i < 5) : CtE yJ0_coder_7d493 cJ0_coder_7d493 1 (some .byte) rm_J0_coder_7d493 (fun adK adV => [va_rf (some (adK i))]) S (0, S) := by
  refine ct_E (own := RJ0) (by decide) rfl (fun adK adV => by simp [lg_sl, va_rf_cat, catI]) (fun X adK adV C hn E hQ => ?_)
  rw [show lv_args 0 [va_rf (some (adK i))] = [(0, va_rf (some (adK i)))] by simp [lv_args, va_rf_cat, catI]]
  refine g_compact C E q197 dJ0_coder_7d493_0 ?_
  refine g_if_eqI C (tgt := 13) dJ0_coder_7d493_3 (by decide) (by decide) ?_
  refine g_aload_n C (q := 0) dJ0_coder_7d493_6 rfl rfl ?_
  refine g_strc C E hi q198 dJ0_coder_7d493_7 ?_
  refine g_goto C (tgt := 14) dJ0_coder_7d493_10 (by decide) ?_
  exact g_nret C hQ (by decide) dJ0_coder_7d493_14 rfl
theorem tx_shr : ∀ i, i < 5 → nI (txL.getD i 0) >>> ((0 : Int32) &&& 31) = nI (txL.getD i 0) := by decide +kernel
set_option maxHeartbeats 4000000 in
set_option maxRecDepth 100000 in
theorem c_J0_length_8abf5 (S : Hp) (i : Nat) (hi : i < 5) : CtE yJ0_length_8abf5 cJ0_length_8abf5 1 (some .int) rm_J0_length_8abf5 (fun adK adV => [va_rf (some (adK i))]) S (nI (txL.getD i 0), S) := by
  refine ct_E (own := RJ0) (by decide) rfl (fun adK adV => by simp [lg_sl, va_rf_cat, catI]) (fun X adK adV C hn E hQ => ?_)
  rw [show lv_args 0 [va_rf (some (adK i))] = [(0, va_rf (some (adK i)))] by simp [lv_args, va_rf_cat, catI]]
  refine g_aload_n C (q := 0) dJ0_length_8abf5_0 rfl rfl ?_
  refine g_strv C E hi q192 dJ0_length_8abf5_1 ?_
  refine g_tlen C E hi dJ0_length_8abf5_4 ?_
  refine g_aload_n C (q := 0) dJ0_length_8abf5_5 rfl rfl ?_
  refine g_callJE C E (As := []) (np := 0) (st := [.int (nI (txL.getD i 0))]) hi (c_J0_coder_7d493 S i hi) gv_RJ0_J0_coder_7d493 rfl rfl dsJ0_coder_7d493 rfl ⟨(Nat.le_of_ble_eq_true rfl), (Nat.le_of_ble_eq_true rfl)⟩ rfl (cat_sum (Nat.le_of_ble_eq_true rfl)) ⟨Nat.zero_le _, Nat.zero_le _⟩ dJ0_length_8abf5_6 ?_
  refine g_ishr C dJ0_length_8abf5_9 ?_
  rw [tx_shr i hi]
  exact g_iret C hQ dJ0_length_8abf5_10 rfl
set_option maxHeartbeats 4000000 in
set_option maxRecDepth 100000 in
theorem c_J0_charAt_5068e (S : Hp) (i : Nat) (j : Int32) (hi : i < 5) (hj : vp_in j (txL.getD i 0)) : CtE yJ0_charAt_5068e cJ0_charAt_5068e 2 (some .char) rm_J0_charAt_5068e (fun adK adV => [va_rf (some (adK i)), .int j]) S ((txB.getD i []).getD j.toNatClampNeg 0, S) := by
  refine ct_E (own := RJ0) (by decide) rfl (fun adK adV => by simp [lg_sl, va_rf_cat, catI]) (fun X adK adV C hn E hQ => ?_)
  rw [show lv_args 0 [va_rf (some (adK i)), .int j] = [(0, va_rf (some (adK i))), (1, .int j)] by simp [lv_args, va_rf_cat, catI]]
  refine g_aload_n C (q := 0) dJ0_charAt_5068e_0 rfl rfl ?_
  refine g_callJE C E (As := []) (np := 0) (st := []) hi (c_J0_isLatin1_aae02 S i hi) gv_RJ0_J0_isLatin1_aae02 rfl rfl dsJ0_isLatin1_aae02 rfl ⟨(Nat.le_of_ble_eq_true rfl), (Nat.le_of_ble_eq_true rfl)⟩ rfl (cat_sum (Nat.le_of_ble_eq_true rfl)) ⟨Nat.zero_le _, Nat.zero_le _⟩ dJ0_charAt_5068e_1 ?_
  refine g_if_eqI C (tgt := 16) dJ0_charAt_5068e_4 (by decide) (by decide) ?_
  refine g_aload_n C (q := 0) dJ0_charAt_5068e_7 rfl rfl ?_
  refine g_strv C E hi q192 dJ0_charAt_5068e_8 ?_
  refine g_iload_n C (q := 1) dJ0_charAt_5068e_11 rfl rfl ?_
  refine g_callSE C E (As := fun _ adV => [va_rf (some (adV i)), .int j]) (np := 2) (st := []) (c_J1_charAt_3b067 S i j hi hj) gs_RJ0_J1_charAt_3b067 rfl rfl dsJ1_charAt_3b067 rfl ⟨(Nat.le_of_ble_eq_true rfl), (Nat.le_of_ble_eq_true rfl)⟩ rfl (cat_sum (Nat.le_of_ble_eq_true rfl)) ⟨Nat.zero_le _, Nat.zero_le _⟩ dJ0_charAt_5068e_12 ?_
  exact g_nret C hQ (tx_chr2 hi hj).2 dJ0_charAt_5068e_15 rfl
