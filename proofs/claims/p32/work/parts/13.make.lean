/-! objects and arrays that are made: the heap with one address more -/
def nO (S : Hp) (q c m : Nat) : Hp := (fun b => if b = q then (fun _ => 0) else S.1 b, fun b => if b = q then (fun _ => 0) else S.2.1 b, fun b => if b = q then (fun _ => 0) else S.2.2.1 b, fun b => if b = q then (fun _ => none) else S.2.2.2.1 b, fun b => if b = q then c else S.2.2.2.2.1 b, fun b => if b = q then m else S.2.2.2.2.2.1 b, S.2.2.2.2.2.2 ++ [q])
def z0 (q : Nat × Nat) : Value := match q.2 with
  | 0 => .int 0
  | 1 => .long 0
  | 2 => .double 0
  | _ => .null
theorem nO_F {cy : Nat → ClassId} {S : Hp} {q c m b : Nat} (h : b ≠ q) : zF cy (nO S q c m) b = zF cy S b := zF_congr (if_neg h) (if_neg h) (if_neg h) (if_neg h) (if_neg h) (if_neg h)
theorem nO_I {S : Hp} {q c m : Nat} : zI (nO S q c m) q = fun _ => 0 := if_pos rfl
theorem nO_J {S : Hp} {q c m : Nat} : zJ (nO S q c m) q = fun _ => 0 := if_pos rfl
theorem nO_D {S : Hp} {q c m : Nat} : zD (nO S q c m) q = fun _ => 0 := if_pos rfl
theorem nO_R {S : Hp} {q c m : Nat} : zR (nO S q c m) q = fun _ => none := if_pos rfl
theorem nO_K {S : Hp} {q c m : Nat} : zK (nO S q c m) q = c := if_pos rfl
theorem nO_N {S : Hp} {q c m : Nat} : zN (nO S q c m) q = m := if_pos rfl
theorem nO_L {S : Hp} {q c m : Nat} : zL (nO S q c m) = zL S ++ [q] := rfl
theorem nO_v {S : Hp} {q c m : Nat} : zv (nO S q c m) q = z0 := funext fun x => by
  obtain ⟨i, t⟩ := x
  unfold zv z0
  rcases t with _ | _ | _ | t
  · show Value.int (zI _ q i) = Value.int 0; rw [nO_I]
  · show Value.long (zJ _ q i) = Value.long 0; rw [nO_J]
  · show Value.double (zD _ q i) = Value.double 0; rw [nO_D]
  · show va_rf (zR _ q i) = Value.null; rw [nO_R]; rfl
theorem zP_new {cy : Nat → ClassId} {S : Hp} {q c m : Nat} {e : va_E} (hq : q ∉ zL S) (he : zF cy (nO S q c m) q = e) : zP cy S ++ [(q, e)] = zP cy (nO S q c m) := by
  unfold zP
  refine Eq.trans (va_pl_push (f := zF cy S) (e := e) hq) ?_
  show va_pl (zL S ++ [q]) _ = va_pl (zL S ++ [q]) _
  exact va_pl_congr (fun b => by
    by_cases hb : b = q
    · subst hb; rw [va_up_self, he]
    · rw [va_up_ne _ _ hb, nO_F hb])
theorem wR_F (cy : Nat → ClassId) (S : Hp) (a j : Nat) (v : Option Nat) (b : Nat) (hb : b ≠ a) : zF cy (wR S a j v) b = zF cy S b := zF_congr rfl rfl rfl rfl rfl (u2_row _ _ hb)
theorem u2_rup (f : Nat → Nat → Option Nat) (a k : Nat) (v : Option Nat) : u2 f a k v a = va_up (f a) k v := by
  funext j
  by_cases h : j = k
  · subst h; simp [u2, va_up]
  · simp [u2, va_up, h]
/-- what the makers need beside: the arrays over the three classes, the link to a private maker -/
def EC (U : State) : Prop := va_AO "GlacierGuides$Guide" U ∧ va_AO "GlacierGuides$State" U ∧ va_AO "GlacierGuides$Tour" U ∧ va_Nw (.methodLinkNest RX2 17 yX0_init RX5) U
theorem EC.warm {s U : State} (hW : s.WarmedH U.vm) (h : EC s) : EC U := ⟨h.1.moved hW.alike, h.2.1.moved hW.alike, h.2.2.1.moved hW.alike, va_Nw.warmM hW h.2.2.2⟩
def CtPN (As : List Value) (S : Hp) (D : va_G) (cy : Nat → ClassId) (sz : Nat) : Array Value → State → Prop := va_Pc As (fun U => (U.heap.size = sz ∧ va_P D vwCl (zP cy S) U.heap ∧ va_K D vwCl (ztys cy) U ∧ va_D (fun _ => True) (zP cy S)) ∧ EC U)
def CtN (y : MethodName) (cc : ByteArray) (nL : Nat) (rm : Room) (mc ms : Nat) (As : List Value) (S : Hp) (P : Hp → Prop) : Prop := ∀ (l : Launch) (D : va_G) (cy : Nat → ClassId) (sz : Nat), Met l y (.code y cc nL none :: wsL_law) rm (CtPN As S D cy sz) (va_Qv P (fun S' t => va_P D vwCl (zP cy S') t.heap ∧ va_K D vwCl (ztys cy) t ∧ va_D (va_A (zP cy S) sz) (zP cy S')) (va_A (zP cy S) sz)) mc ms (va_A (zP cy S) sz)
theorem ctN_bl {As : List Value} {S : Hp} {D : va_G} {cy : Nat → ClassId} {sz : Nat} : FrameBlind (CtPN As S D cy sz) := fun a U g mk q => by
  obtain ⟨q0, ⟨q1, qP, qK, qD⟩, qE⟩ := q
  exact ⟨q0, ⟨q1, qP, va_K.moved (u := U) (U := U.calling g mk a) (Vm.Alike.refl U.vm) qK, qD⟩, qE.1.moved (Vm.Alike.refl U.vm), qE.2.1.moved (Vm.Alike.refl U.vm), qE.2.2.1.moved (Vm.Alike.refl U.vm), va_Nw.same rfl rfl qE.2.2.2⟩
/-- the goal of a maker's walk -/
def QN (X : Cx) (S0 : Hp) (mc ms : Nat) (P : Hp → Prop) : Prop := QQ X none S0 mc ms (va_Qv P (fun S' t => va_P (xG X) vwCl (zP (xy X) S') t.heap ∧ va_K (xG X) vwCl (ztys (xy X)) t ∧ va_D (va_A (zP (xy X) S0) (xs X).heap.size) (zP (xy X) S')) (xA X))
theorem ct_N {y : MethodName} {cc : ByteArray} {nL : Nat} {rm : Room} {mc ms : Nat} {As : List Value} {S : Hp} {own : String} {P : Hp → Prop} (hy : plainName y.cls = true) (hini : y.name = "<init>") (hcls : y.cls = own) (hlen : (lg_sl As).length ≤ nL)
    (body : ∀ X : Cx, CxOK X cc own rm → xn X = nL → EC (xs X) → (xM X).name = "<init>" → QN X S mc ms P → GW X 0 0 S 0 (lv_args 0 As) []) : CtN y cc nL rm mc ms As S P := by
  intro l D cy sz
  refine Met.ofW (cc := cc) (maxL := nL) (ret := none) hy rfl ?_
  intro p e s m args below meth c s₁ B hml hv
  obtain ⟨rfl, ⟨hsz, hP, hK, hD0⟩, hE⟩ := hv
  have hts := atoms_spec (ws := .code y cc nL none :: wsL_law) B.pre
  have hown : s.vm.findClass own = some m.cls := hcls ▸ findClass_of_methodNamed B.named
  subst hsz
  have hD := hD0.self (sz := s.heap.size)
  have hl := lv_entry As (n := nL) hlen
  rw [lg_entry_eq]
  have hin : meth.name = "<init>" := (name_of_methodNamed B.named B.method).1.trans hini
  exact body (p, l, e, rm, s, m, As.toArray, below, meth, c, _, D, cy, va_A (zP cy S) s.heap.size, nL)
    ⟨B.exec, B.bytes, hml, hown, fun w h => hts w (List.mem_cons_of_mem _ h), hK, fun q h => Or.inr h, B.notSynchronized, rfl⟩ rfl hE hin ⟨B.returns, rfl, rfl⟩ _ _ _ hP hD va_S.rf hl
section GR3
variable {X : Cx} {cc : ByteArray} {own : String} {rm : Room} {k n pc : Nat} {S : Hp} {lv lv' : List (Nat × Value)} {st : List Value}
theorem g_vretN (C : CxOK X cc own rm) {S0 : Hp} {P : Hp → Prop} (hQ : QN X S0 k n P) (hdg : decode cc pc = .ok (.return_, 1)) (h : P S) : GW X k n S pc lv [] := by
  intro H locs ls hP hD hS hl
  rw [hQ.2.1]
  exact W.vret C.1 C.2.1 hQ.1 (fun t ht hW => ⟨⟨S, rfl, h, by rw [ht]; exact hP, va_K.moved hW.alike C.2.2.2.2.2.1, by rw [← hQ.2.2]; exact hD⟩, hS.F ht⟩) hS.2.2 hdg C.2.2.2.2.2.2.2.1
theorem g_oinit (C : CxOK X cc own rm) {idx : Nat} {r : Option Nat} {a : Nat} (hr : r = some a) (h1 : Cond.methodLink own idx objectInit ∈ wsL_law) (h2 : Cond.instanceMethod objectInit ∈ wsL_law) (h3 : Cond.code objectInit ⟨#[0xb1]⟩ 1 none ∈ wsL_law) (hfr : 1 ≤ rm.frames) (hlo : 8 + 12 ≤ rm.locals) (hsum : (st.map fun v => v.category).sum ≤ 8) (hdg : decode cc pc = .ok (.invokespecial idx, 3)) (kk : GW X k n S (pc + 3) lv st) : GW X k n S pc lv (va_rf r :: st) := by
  subst hr
  intro H locs ls hP hD hS hl
  refine W.objInit C.1 C.2.1 C.2.2.2.1 (C.2.2.2.2.1 _ h1) (C.2.2.2.2.1 _ h2) (C.2.2.2.2.1 _ h3) rfl (by rw [C.2.2.1]; exact hl.1) rfl hdg (by rw [C.2.2.2.2.2.2.2.2]; exact hfr) (by rw [C.2.2.2.2.2.2.2.2]; show 2 * 0 + _ + _ ≤ _; omega) ?_
  exact kk H locs ls hP hD hS hl
theorem g_new (C : CxOK X cc own rm) {ci N idx : Nat} {T : u_T} {Cn : String} (ty : Nat → FieldType) (hty : ∀ k, k < N → parseFieldDescriptor (T k).2.2.1 = some (ty k)) (hc : vwCl[ci]? = some (Cn, T, N)) (hci : ci < 7) (hin : ∀ w ∈ u_ws Cn T N, w ∈ wsL_law) (hdef : ∀ j, j < N → defaultValue (ty j) = vp_V ((zs ci).map z0) j) (h1 : Cond.classLink own idx Cn ∈ wsL_law) (h2 : Cond.instantiable Cn N ∈ wsL_law) (h3 : Cond.initialized Cn ∈ wsL_law) (hcells : k + 1 ≤ rm.cells) (hslots : n + N ≤ rm.slots) (hdg : decode cc pc = .ok (.new idx, 3)) (kk : ∀ q, q ∉ zL S → GW X (k + 1) (n + N) (nO S q ci 0) (pc + 3) lv (va_rf (some q) :: st)) : GW X k n S pc lv st := by
  intro H locs ls hP hD hS hl
  refine va_new (D := xG X) (fs := (zs ci).map z0) C.1 C.2.1 C.2.2.2.2.1 hin ty hty C.2.2.2.1 (C.2.2.2.2.1 _ h1) (C.2.2.2.2.1 _ h2) (C.2.2.2.2.1 _ h3) C.2.2.2.2.2.1 hP hD hS C.2.2.2.2.2.2.1 hc hdef (by rw [C.2.2.2.2.2.2.2.2]; exact hcells) (by rw [C.2.2.2.2.2.2.2.2]; exact hslots) hdg (fun q H1 hP1 hD1 hS1 => ?_)
  have hq : q ∉ zL S := va_pl_fresh2 (X := []) (f := zF (xy X) S) hD1
  have e := zP_new (cy := xy X) (c := ci) (m := 0) hq (by rw [zF_o nO_K hci, nO_v])
  rw [e] at hP1 hD1
  exact kk q hq H1 locs ls hP1 hD1 hS1 hl
theorem g_newi (C : CxOK X cc own rm) {m : Nat} {mi : Int32} (hw : Cond.arrayClass .int ∈ wsL_law) (hm0 : ¬ mi < 0) (hm : mi.toNatClampNeg = m) (hmb : m * componentBytes .int ≤ 536870912) (hcells : k + 1 ≤ rm.cells) (hslots : n + m ≤ rm.slots) (hdg : decode cc pc = .ok (.newarray .int, 2)) (kk : ∀ q, q ∉ zL S → GW X (k + 1) (n + m) (nO S q 9 m) (pc + 2) lv (va_rf (some q) :: st)) : GW X k n S pc lv (.int mi :: st) := by
  intro H locs ls hP hD hS hl
  refine va_newa (D := xG X) (a0 := (m, .inl (fun _ => 0))) (atype := .int) C.1 C.2.1 (C.2.2.2.2.1 _ hw) rfl C.2.2.2.2.2.1 hP hD hS C.2.2.2.2.2.2.1 (fun _ => rfl) hm0 hm hmb (by rw [C.2.2.2.2.2.2.2.2]; exact hcells) (by rw [C.2.2.2.2.2.2.2.2]; exact hslots) hdg (fun q cA H1 hK1 hP1 hD1 hS1 => ?_)
  have hcA : cA = xy X 2 := Option.some.inj (((hK1.2 6 _ rfl).2).symm.trans ((hK1.2 2 _ rfl).2))
  have hq : q ∉ zL S := va_pl_fresh2 (X := []) (f := zF (xy X) S) hD1
  have e := zP_new (cy := xy X) (c := 9) (m := m) hq (by rw [zF_i nO_K, nO_I, nO_N])
  rw [hcA, e] at hP1 hD1
  exact kk q hq H1 locs ls hP1 hD1 hS1 hl
theorem g_newd (C : CxOK X cc own rm) {m : Nat} {mi : Int32} (hw : Cond.arrayClass .double ∈ wsL_law) (hm0 : ¬ mi < 0) (hm : mi.toNatClampNeg = m) (hmb : m * componentBytes .double ≤ 536870912) (hcells : k + 1 ≤ rm.cells) (hslots : n + m ≤ rm.slots) (hdg : decode cc pc = .ok (.newarray .double, 2)) (kk : ∀ q, q ∉ zL S → GW X (k + 1) (n + m) (nO S q 8 m) (pc + 2) lv (va_rf (some q) :: st)) : GW X k n S pc lv (.int mi :: st) := by
  intro H locs ls hP hD hS hl
  refine va_newa (D := xG X) (a0 := (m, .inr (.inr (.inr (.inl (fun _ => 0)))))) (atype := .double) C.1 C.2.1 (C.2.2.2.2.1 _ hw) rfl C.2.2.2.2.2.1 hP hD hS C.2.2.2.2.2.2.1 (fun _ => rfl) hm0 hm hmb (by rw [C.2.2.2.2.2.2.2.2]; exact hcells) (by rw [C.2.2.2.2.2.2.2.2]; exact hslots) hdg (fun q cA H1 hK1 hP1 hD1 hS1 => ?_)
  have hcA : cA = xy X 1 := Option.some.inj (((hK1.2 6 _ rfl).2).symm.trans ((hK1.2 1 _ rfl).2))
  have hq : q ∉ zL S := va_pl_fresh2 (X := []) (f := zF (xy X) S) hD1
  have e := zP_new (cy := xy X) (c := 8) (m := m) hq (by rw [zF_d nO_K, nO_D, nO_N])
  rw [hcA, e] at hP1 hD1
  exact kk q hq H1 locs ls hP1 hD1 hS1 hl
theorem g_newc (C : CxOK X cc own rm) {m : Nat} {mi : Int32} (hw : Cond.arrayClass .char ∈ wsL_law) (hm0 : ¬ mi < 0) (hm : mi.toNatClampNeg = m) (hmb : m * componentBytes .char ≤ 536870912) (hcells : k + 1 ≤ rm.cells) (hslots : n + m ≤ rm.slots) (hdg : decode cc pc = .ok (.newarray .char, 2)) (kk : ∀ q, q ∉ zL S → GW X (k + 1) (n + m) (nO S q 7 m) (pc + 2) lv (va_rf (some q) :: st)) : GW X k n S pc lv (.int mi :: st) := by
  intro H locs ls hP hD hS hl
  refine va_newa (D := xG X) (a0 := (m, .inl (fun _ => 0))) (atype := .char) C.1 C.2.1 (C.2.2.2.2.1 _ hw) rfl C.2.2.2.2.2.1 hP hD hS C.2.2.2.2.2.2.1 (fun _ => rfl) hm0 hm hmb (by rw [C.2.2.2.2.2.2.2.2]; exact hcells) (by rw [C.2.2.2.2.2.2.2.2]; exact hslots) hdg (fun q cA H1 hK1 hP1 hD1 hS1 => ?_)
  have hcA : cA = xy X 0 := Option.some.inj (((hK1.2 6 _ rfl).2).symm.trans ((hK1.2 0 _ rfl).2))
  have hq : q ∉ zL S := va_pl_fresh2 (X := []) (f := zF (xy X) S) hD1
  have e := zP_new (cy := xy X) (c := 7) (m := m) hq (by rw [zF_c nO_K, nO_I, nO_N])
  rw [hcA, e] at hP1 hD1
  exact kk q hq H1 locs ls hP1 hD1 hS1 hl
theorem g_anew10 (C : CxOK X cc own rm) (E : EC (xs X)) {idx m : Nat} {mi : Int32} (hw : Cond.classLink own idx "GlacierGuides$Guide" ∈ wsL_law) (hm0 : ¬ mi < 0) (hm : mi.toNatClampNeg = m) (hmb : m * 4 ≤ 536870912) (hcells : k + 1 ≤ rm.cells) (hslots : n + m ≤ rm.slots) (hdg : decode cc pc = .ok (.anewarray idx, 3)) (kk : ∀ q, q ∉ zL S → GW X (k + 1) (n + m) (nO S q 10 m) (pc + 3) lv (va_rf (some q) :: st)) : GW X k n S pc lv (.int mi :: st) := by
  intro H locs ls hP hD hS hl
  refine va_newq (D := xG X) C.1 C.2.1 C.2.2.2.1 (C.2.2.2.2.1 _ hw) E.1 C.2.2.2.2.2.1 hP hD hS C.2.2.2.2.2.2.1 hm0 hm hmb (by rw [C.2.2.2.2.2.2.2.2]; exact hcells) (by rw [C.2.2.2.2.2.2.2.2]; exact hslots) hdg (fun q cA H1 hK1 hP1 hD1 hS1 => ?_)
  have hcA : cA = xy X 3 := by
    obtain ⟨_, _, _, _, _, e1⟩ := (hK1.2 6 _ rfl).2
    obtain ⟨_, _, _, _, _, e2⟩ := (hK1.2 3 _ rfl).2
    exact Option.some.inj (e1.symm.trans e2)
  have hq : q ∉ zL S := va_pl_fresh2 (X := []) (f := zF (xy X) S) hD1
  have e := zP_new (cy := xy X) (c := 10) (m := m) hq (by rw [zF_q nO_K (by decide), nO_R, nO_N])
  rw [hcA, e] at hP1 hD1
  exact kk q hq H1 locs ls hP1 hD1 hS1 hl
theorem g_aast10 (C : CxOK X cc own rm) {r : Option Nat} {i : Int32} {a v : Nat} (hdg : decode cc pc = .ok (.aastore, 1)) (hr : r = some a) (hL : a ∈ zL S) (hK : zK S a = 10) (hi : vp_in i (zN S a)) (hLv : v ∈ zL S) (hKv : zK S v = 0) (kk : GW X k n (wR S a i.toNatClampNeg (some v)) (pc + 1) lv st) : GW X k n S pc lv (va_rf (some v) :: .int i :: va_rf r :: st) := by
  subst hr
  intro H locs ls hP hD hS hl
  obtain ⟨q, hq⟩ := zP_get (cy := xy X) hL (zF_q hK (by decide))
  obtain ⟨qv, hqv⟩ := zP_get (cy := xy X) hLv (zF_o hKv (by decide))
  refine va_astq (D := xG X) C.1 C.2.1 C.2.2.2.2.2.1 hP hD hS q 3 qv 0 hq rfl hqv rfl hi hdg (fun H1 locs1 hP1 hD1 hS1 => ?_)
  have es := zP_set (S1 := wR S a i.toNatClampNeg (some v)) hD hL hq (zF_q hK (by decide)) rfl (zF_q hK (by decide)) (fun b hb => wR_F (xy X) S a i.toNatClampNeg (some v) b hb)
  have er : zR (wR S a i.toNatClampNeg (some v)) a = _ := u2_rup (zR S) a i.toNatClampNeg (some v)
  rw [er] at es
  have en : zN (wR S a i.toNatClampNeg (some v)) a = zN S a := rfl
  rw [en] at es
  rw [es] at hP1 hD1
  exact kk H1 locs1 ls hP1 hD1 hS1 hl
theorem g_anew11 (C : CxOK X cc own rm) (E : EC (xs X)) {idx m : Nat} {mi : Int32} (hw : Cond.classLink own idx "GlacierGuides$State" ∈ wsL_law) (hm0 : ¬ mi < 0) (hm : mi.toNatClampNeg = m) (hmb : m * 4 ≤ 536870912) (hcells : k + 1 ≤ rm.cells) (hslots : n + m ≤ rm.slots) (hdg : decode cc pc = .ok (.anewarray idx, 3)) (kk : ∀ q, q ∉ zL S → GW X (k + 1) (n + m) (nO S q 11 m) (pc + 3) lv (va_rf (some q) :: st)) : GW X k n S pc lv (.int mi :: st) := by
  intro H locs ls hP hD hS hl
  refine va_newq (D := xG X) C.1 C.2.1 C.2.2.2.1 (C.2.2.2.2.1 _ hw) E.2.1 C.2.2.2.2.2.1 hP hD hS C.2.2.2.2.2.2.1 hm0 hm hmb (by rw [C.2.2.2.2.2.2.2.2]; exact hcells) (by rw [C.2.2.2.2.2.2.2.2]; exact hslots) hdg (fun q cA H1 hK1 hP1 hD1 hS1 => ?_)
  have hcA : cA = xy X 4 := by
    obtain ⟨_, _, _, _, _, e1⟩ := (hK1.2 6 _ rfl).2
    obtain ⟨_, _, _, _, _, e2⟩ := (hK1.2 4 _ rfl).2
    exact Option.some.inj (e1.symm.trans e2)
  have hq : q ∉ zL S := va_pl_fresh2 (X := []) (f := zF (xy X) S) hD1
  have e := zP_new (cy := xy X) (c := 11) (m := m) hq (by rw [zF_q nO_K (by decide), nO_R, nO_N])
  rw [hcA, e] at hP1 hD1
  exact kk q hq H1 locs ls hP1 hD1 hS1 hl
theorem g_aast11 (C : CxOK X cc own rm) {r : Option Nat} {i : Int32} {a v : Nat} (hdg : decode cc pc = .ok (.aastore, 1)) (hr : r = some a) (hL : a ∈ zL S) (hK : zK S a = 11) (hi : vp_in i (zN S a)) (hLv : v ∈ zL S) (hKv : zK S v = 2) (kk : GW X k n (wR S a i.toNatClampNeg (some v)) (pc + 1) lv st) : GW X k n S pc lv (va_rf (some v) :: .int i :: va_rf r :: st) := by
  subst hr
  intro H locs ls hP hD hS hl
  obtain ⟨q, hq⟩ := zP_get (cy := xy X) hL (zF_q hK (by decide))
  obtain ⟨qv, hqv⟩ := zP_get (cy := xy X) hLv (zF_o hKv (by decide))
  refine va_astq (D := xG X) C.1 C.2.1 C.2.2.2.2.2.1 hP hD hS q 4 qv 2 hq rfl hqv rfl hi hdg (fun H1 locs1 hP1 hD1 hS1 => ?_)
  have es := zP_set (S1 := wR S a i.toNatClampNeg (some v)) hD hL hq (zF_q hK (by decide)) rfl (zF_q hK (by decide)) (fun b hb => wR_F (xy X) S a i.toNatClampNeg (some v) b hb)
  have er : zR (wR S a i.toNatClampNeg (some v)) a = _ := u2_rup (zR S) a i.toNatClampNeg (some v)
  rw [er] at es
  have en : zN (wR S a i.toNatClampNeg (some v)) a = zN S a := rfl
  rw [en] at es
  rw [es] at hP1 hD1
  exact kk H1 locs1 ls hP1 hD1 hS1 hl
theorem g_anew12 (C : CxOK X cc own rm) (E : EC (xs X)) {idx m : Nat} {mi : Int32} (hw : Cond.classLink own idx "GlacierGuides$Tour" ∈ wsL_law) (hm0 : ¬ mi < 0) (hm : mi.toNatClampNeg = m) (hmb : m * 4 ≤ 536870912) (hcells : k + 1 ≤ rm.cells) (hslots : n + m ≤ rm.slots) (hdg : decode cc pc = .ok (.anewarray idx, 3)) (kk : ∀ q, q ∉ zL S → GW X (k + 1) (n + m) (nO S q 12 m) (pc + 3) lv (va_rf (some q) :: st)) : GW X k n S pc lv (.int mi :: st) := by
  intro H locs ls hP hD hS hl
  refine va_newq (D := xG X) C.1 C.2.1 C.2.2.2.1 (C.2.2.2.2.1 _ hw) E.2.2.1 C.2.2.2.2.2.1 hP hD hS C.2.2.2.2.2.2.1 hm0 hm hmb (by rw [C.2.2.2.2.2.2.2.2]; exact hcells) (by rw [C.2.2.2.2.2.2.2.2]; exact hslots) hdg (fun q cA H1 hK1 hP1 hD1 hS1 => ?_)
  have hcA : cA = xy X 5 := by
    obtain ⟨_, _, _, _, _, e1⟩ := (hK1.2 6 _ rfl).2
    obtain ⟨_, _, _, _, _, e2⟩ := (hK1.2 5 _ rfl).2
    exact Option.some.inj (e1.symm.trans e2)
  have hq : q ∉ zL S := va_pl_fresh2 (X := []) (f := zF (xy X) S) hD1
  have e := zP_new (cy := xy X) (c := 12) (m := m) hq (by rw [zF_q nO_K (by decide), nO_R, nO_N])
  rw [hcA, e] at hP1 hD1
  exact kk q hq H1 locs ls hP1 hD1 hS1 hl
theorem g_aast12 (C : CxOK X cc own rm) {r : Option Nat} {i : Int32} {a v : Nat} (hdg : decode cc pc = .ok (.aastore, 1)) (hr : r = some a) (hL : a ∈ zL S) (hK : zK S a = 12) (hi : vp_in i (zN S a)) (hLv : v ∈ zL S) (hKv : zK S v = 4) (kk : GW X k n (wR S a i.toNatClampNeg (some v)) (pc + 1) lv st) : GW X k n S pc lv (va_rf (some v) :: .int i :: va_rf r :: st) := by
  subst hr
  intro H locs ls hP hD hS hl
  obtain ⟨q, hq⟩ := zP_get (cy := xy X) hL (zF_q hK (by decide))
  obtain ⟨qv, hqv⟩ := zP_get (cy := xy X) hLv (zF_o hKv (by decide))
  refine va_astq (D := xG X) C.1 C.2.1 C.2.2.2.2.2.1 hP hD hS q 5 qv 4 hq rfl hqv rfl hi hdg (fun H1 locs1 hP1 hD1 hS1 => ?_)
  have es := zP_set (S1 := wR S a i.toNatClampNeg (some v)) hD hL hq (zF_q hK (by decide)) rfl (zF_q hK (by decide)) (fun b hb => wR_F (xy X) S a i.toNatClampNeg (some v) b hb)
  have er : zR (wR S a i.toNatClampNeg (some v)) a = _ := u2_rup (zR S) a i.toNatClampNeg (some v)
  rw [er] at es
  have en : zN (wR S a i.toNatClampNeg (some v)) a = zN S a := rfl
  rw [en] at es
  rw [es] at hP1 hD1
  exact kk H1 locs1 ls hP1 hD1 hS1 hl
theorem g_putR (C : CxOK X cc own rm) (hini : (xM X).name = "<init>") {ci N slot idx : Nat} {T : u_T} {Cn : String} (ty : Nat → FieldType) (hty : ∀ k, k < N → parseFieldDescriptor (T k).2.2.1 = some (ty k)) (hnm : ∀ a, a < N → ∀ b, b < N → a ≠ b → (T a).2.1 ≠ (T b).2.1) (hc : vwCl[ci]? = some (Cn, T, N)) (hci : ci < 7) (hin : ∀ w ∈ u_ws Cn T N, w ∈ wsL_law) (hk : slot < N) (hz : (zs ci)[slot]? = some (slot, 3)) (hlink : Cond.fieldLink own idx (T slot).1 (T slot).2.1 (T slot).2.2.1 ∈ wsL_law) (hfin : (T slot).2.2.2 = true) (hdecl : (T slot).1 = own) (hdg : decode cc pc = .ok (.putfield idx, 3)) {r : Option Nat} {a v : Nat} (hr : r = some a) (hn : narrow (ty slot) (va_rf (some v)) = va_rf (some v)) (hf : fits (ty slot) (va_rf (some v)) = true) (hL : a ∈ zL S) (hK : zK S a = ci) (kk : GW X k n (wR S a slot (some v)) (pc + 3) lv st) : GW X k n S pc lv (va_rf (some v) :: va_rf r :: st) := by
  subst hr
  intro H locs ls hP hD hS hl
  obtain ⟨q, hq⟩ := zP_get (cy := xy X) hL (zF_o hK hci)
  have hlen : slot < ((zs ci).map (zv S a)).length := by rw [List.length_map]; exact (List.getElem?_eq_some_iff.mp hz).1
  refine va_putF (D := xG X) C.1 C.2.1 C.2.2.2.2.1 hin ty hty hnm C.2.2.2.1 C.2.2.2.2.2.1 hP hD hS q hq hc slot hk (C.2.2.2.2.1 _ hlink) (fun _ h => h) hfin hini hdecl (hty slot hk) hn hf hlen hdg (fun H1 locs1 hP1 hD1 hS1 => ?_)
  have es : (zP (xy X) S).set q (a, .inr (ci, ((zs ci).map (zv S a)).set slot (va_rf (some v)))) = zP (xy X) (wR S a slot (some v)) := by
    refine zP_set hD hL hq (zF_o hK hci) rfl ?_ (fun b hb => wR_F (xy X) S a slot (some v) b hb)
    rw [zF_o (S := wR S a slot (some v)) hK hci, zv_set hz (S1 := wR S a slot (some v)) (v := va_rf (some v)) (congrArg va_rf (u2_self _ _ _ _)) (fun j u hj => by rcases u with _ | _ | _ | u <;> first | rfl | exact congrArg va_rf (u2_nek _ _ hj))]
  rw [es] at hP1 hD1
  exact kk H1 locs1 ls hP1 hD1 hS1 hl
theorem g_callN (C : CxOK X cc own rm) (E : EC (xs X)) {P : Hp → Prop} {y : MethodName} {cy : ByteArray} {nL idx mc ms : Nat} {rm1 : Room} {b : Nat} (hct : CtN y cy nL rm1 mc ms [va_rf (some b)] S P) (hg : GoodIn wsL_law (.code y cy nL none :: wsL_law)) (hcells : rm1.cells = mc) (hslots : rm1.slots = ms) (h1 : Cond.initialized y.cls ∈ wsL_law) (h2 : Cond.methodLink own idx y ∈ wsL_law) (h3 : Cond.instanceMethod y ∈ wsL_law) (hy : y.name = "<init>") (hds : y.cls ≠ "java/lang/invoke/MethodHandle" ∧ y.cls ≠ "java/lang/invoke/VarHandle" ∧ (parseMethodDescriptor y.desc).map (fun d => d.parameters.length) = some 0) (hR : rm1.frames + 1 ≤ rm.frames ∧ 8 + (nL + 11) + rm1.locals ≤ rm.locals) (hsum : (st.map fun v => v.category).sum ≤ 8) (hfit : k + mc ≤ rm.cells ∧ n + ms ≤ rm.slots) (hdg : decode cc pc = .ok (.invokespecial idx, 3)) (kk : ∀ S1, P S1 → GW X (k + mc) (n + ms) S1 (pc + 3) lv st) : GW X k n S pc lv (va_rf (some b) :: st) := by
  intro H locs ls hP hD hS hl
  have hfr := zfree C hD hS
  have hRX := C.2.2.2.2.2.2.2.2
  refine va_callv (va_runI (As := []) (rest := st) ⟨C.1, C.2.1, C.2.2.1, C.2.2.2.1, C.2.2.2.2.1⟩ (hct (xl X) (xG X) (xy X) H.size) (cwI 0 C.2.2.2.2.1 hg rfl hcells hslots (C.2.2.2.2.1 _ h1) (C.2.2.2.2.1 _ h2) (C.2.2.2.2.1 _ h3) hy hds (by rw [hRX]; exact hR)) ⟨ctN_bl, fun U hU hW => ⟨rfl, ⟨by rw [hU], by rw [hU]; exact hP, va_K.moved hW.alike C.2.2.2.2.2.1, hD.weaken (fun _ _ _ _ => trivial)⟩, E.warm hW⟩⟩ rfl rfl hl.1 rfl (lv_room hsum) hdg (by rw [hRX]; exact hfit)) hS (fun q _ h => hfr q h) hfr (fun u t H1 locs1 ht hvm hw hB hz1 hk1 hS1 => ?_)
  obtain ⟨hP1, hK1, hD1⟩ := hB
  rw [ht] at hP1
  exact kk u hw H1 locs1 ls hP1 (hD1.weaken (fun _ q _ h => hfr q.1 h)) hS1 hl
theorem g_callNN (C : CxOK X cc own rm) (E : EC (xs X)) {P : Hp → Prop} {y : MethodName} {cy : ByteArray} {nL idx mc ms : Nat} {rm1 : Room} {b : Nat} {host : String} (hct : CtN y cy nL rm1 mc ms [va_rf (some b)] S P) (hg : GoodIn wsL_law (.code y cy nL none :: wsL_law)) (hcells : rm1.cells = mc) (hslots : rm1.slots = ms) (h1 : Cond.initialized y.cls ∈ wsL_law) (h2 : va_Nw (.methodLinkNest own idx y host) (xs X)) (h3 : Cond.instanceMethod y ∈ wsL_law) (hy : y.name = "<init>") (hds : y.cls ≠ "java/lang/invoke/MethodHandle" ∧ y.cls ≠ "java/lang/invoke/VarHandle" ∧ (parseMethodDescriptor y.desc).map (fun d => d.parameters.length) = some 0) (hR : rm1.frames + 1 ≤ rm.frames ∧ 8 + (nL + 11) + rm1.locals ≤ rm.locals) (hsum : (st.map fun v => v.category).sum ≤ 8) (hfit : k + mc ≤ rm.cells ∧ n + ms ≤ rm.slots) (hdg : decode cc pc = .ok (.invokespecial idx, 3)) (kk : ∀ S1, P S1 → GW X (k + mc) (n + ms) S1 (pc + 3) lv st) : GW X k n S pc lv (va_rf (some b) :: st) := by
  intro H locs ls hP hD hS hl
  have hfr := zfree C hD hS
  have hRX := C.2.2.2.2.2.2.2.2
  refine va_callv (va_runIN (As := []) (rest := st) ⟨C.1, C.2.1, C.2.2.1, C.2.2.2.1, C.2.2.2.2.1⟩ (hct (xl X) (xG X) (xy X) H.size) ⟨va_cnB 0 C.2.2.2.2.1 hg rfl hcells hslots h2 (C.2.2.2.2.1 _ h1) hds (by rw [hRX]; exact hR), hy, C.2.2.2.2.1 _ h3⟩ ⟨ctN_bl, fun U hU hW => ⟨rfl, ⟨by rw [hU], by rw [hU]; exact hP, va_K.moved hW.alike C.2.2.2.2.2.1, hD.weaken (fun _ _ _ _ => trivial)⟩, E.warm hW⟩⟩ rfl rfl hl.1 rfl (lv_room hsum) hdg (by rw [hRX]; exact hfit)) hS (fun q _ h => hfr q h) hfr (fun u t H1 locs1 ht hvm hw hB hz1 hk1 hS1 => ?_)
  obtain ⟨hP1, hK1, hD1⟩ := hB
  rw [ht] at hP1
  exact kk u hw H1 locs1 ls hP1 (hD1.weaken (fun _ q _ h => hfr q.1 h)) hS1 hl
end GR3
