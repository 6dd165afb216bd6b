/-! what the law's own methods need: a row that is dropped at the end, the script, calls that make cells -/
def Kp (S0 : Hp) (q : Nat) (S : Hp) : Prop := zL S = zL S0 ++ [q] ∧ ∀ a, a ∈ zL S0 → zK S a = zK S0 a ∧ zN S a = zN S0 a ∧ zI S a = zI S0 a ∧ zJ S a = zJ S0 a ∧ zD S a = zD S0 a ∧ zR S a = zR S0 a
theorem Kp.P {S0 S : Hp} {q : Nat} (h : Kp S0 q S) (cy : Nat → ClassId) : zP cy S = zP cy S0 ++ [(q, zF cy S q)] := by
  unfold zP va_pl
  rw [h.1, List.map_append]
  congr 1
  apply List.map_congr_left
  intro a ha
  obtain ⟨e1, e2, e3, e4, e5, e6⟩ := h.2 a ha
  rw [zF_congr (cy := cy) e1 e2 e3 e4 e5 e6]
theorem Kp.drP {S0 S : Hp} {q : Nat} (h : Kp S0 q S) {cy : Nat → ClassId} {D : va_G} {cl : List vw_C} {H : Heap} (hP : va_P D cl (zP cy S) H) : va_P D cl (zP cy S0) H := fun k e hk => hP k e (by
  rw [h.P cy, List.getElem?_append_left ((List.getElem?_eq_some_iff.mp hk).1)]; exact hk)
theorem Kp.drD {S0 S : Hp} {q : Nat} (h : Kp S0 q S) {cy : Nat → ClassId} {A : Nat → Prop} (hD : va_D A (zP cy S)) : va_D A (zP cy S0) := by
  have go : ∀ (k : Nat) (e : Nat × va_E), (zP cy S0)[k]? = some e → (zP cy S)[k]? = some e := fun k e hk => by
    rw [h.P cy, List.getElem?_append_left ((List.getElem?_eq_some_iff.mp hk).1)]; exact hk
  exact ⟨fun i j p q hi hj e => hD.1 i j p q (go i p hi) (go j q hj) e, fun k e hk => hD.2 k e (go k e hk)⟩
/-- the script's number at a place -/
def cellv (sc : Nat → Int32) (L : Nat) (i : Int32) : Option Int32 := if nI L ≤ i then some (2750003 * i + 1409) else if ¬ (i < 0 ∨ L ≤ i.toNatClampNeg) then some (sc i.toNatClampNeg) else none
def clv {β : Type} (x : Option Int32) (k : Int32 → Option β) : Option β := match x with
  | none => none
  | some v => k v
theorem clv_el {β : Type} {x : Option Int32} {k : Int32 → Option β} {o : β} (h : clv x k = some o) : ∃ v, x = some v ∧ k v = some o := by
  cases x with
  | none => cases h
  | some v => exact ⟨v, rfl, h⟩
def CtPX (As : List Value) (b L : Nat) (sc : Nat → Int32) (S : Hp) (D : va_G) (cy : Nat → ClassId) (sz : Nat) : Array Value → State → Prop := va_Pc As (fun U => (U.heap.size = sz ∧ va_P D vwCl (zP cy S) U.heap ∧ va_K D vwCl (ztys cy) U ∧ va_D (fun _ => True) (zP cy S)) ∧ va_X b L sc U U.heap ∧ b < sz ∧ ¬ va_A (zP cy S) sz b)
theorem ctX_bl {As : List Value} {b L : Nat} {sc : Nat → Int32} {S : Hp} {D : va_G} {cy : Nat → ClassId} {sz : Nat} : FrameBlind (CtPX As b L sc S D cy sz) := fun a U g mk q => by
  obtain ⟨q0, ⟨q1, qP, qK, qD⟩, qX, qb⟩ := q
  exact ⟨q0, ⟨q1, qP, va_K.moved (u := U) (U := U.calling g mk a) (Vm.Alike.refl U.vm) qK, qD⟩, qX.moved (U := U.calling g mk a) (Vm.Alike.refl U.vm), qb⟩
section GR9
variable {X : Cx} {cc : ByteArray} {own : String} {rm : Room} {k n pc : Nat} {S : Hp} {lv : List (Nat × Value)} {st : List Value}
theorem g_zretA (C : CxOK X cc own rm) {S0 : Hp} {v : Int32} {q : Nat} {o : Int32 × Hp} (hQ : QI X (some .boolean) S0 k n (o.1, S0)) (hK : Kp S0 q o.2) (hn : narrow .boolean (.int v) = .int v) (hdg : decode cc pc = .ok (.ireturn, 1)) (h : some (v, S) = some o) : GW X k n S pc lv [.int v] := by
  cases h
  intro H locs ls hP hD hS hl
  rw [hQ.2.1]
  exact W.zret C.1 C.2.1 hQ.1 hn (fun t ht hW => ⟨⟨v, (), rfl, rfl, by rw [ht]; exact hK.drP hP, va_K.moved hW.alike C.2.2.2.2.2.1, by rw [← hQ.2.2]; exact hK.drD hD⟩, hS.F ht⟩) hS.2.2 hdg C.2.2.2.2.2.2.2.1
theorem g_zretgA (C : CxOK X cc own rm) {S0 : Hp} {v : Int32} {q : Nat} {o : Int32 × Hp} (hQ : QI X (some .boolean) S0 k n (o.1, S0)) (hK : Kp S0 q o.2) (hdg : decode cc pc = .ok (.ireturn, 1)) (h : gd (v = 0 ∨ v = 1) (some (v, S)) = some o) : GW X k n S pc lv [.int v] := by
  obtain ⟨hc, h⟩ := gd_el h
  refine g_zretA C hQ hK ?_ hdg h
  rcases hc with rfl | rfl <;> decide
theorem g_callSIm (C : CxOK X cc own rm) {β : Type} {o : β} {K : Int32 → Hp → Option β} {F : Option (Int32 × Hp)} {y : MethodName} {cy : ByteArray} {nL np idx mc ms : Nat} {ret : Option FieldType} {rm1 : Room} {As st0 : List Value}
    (hct : ∀ q, F = some q → CtI y cy nL ret rm1 mc ms As S q) (hg : GoodIn wsL_law (va_wsS own idx y (.code y cy nL ret :: wsL_law))) (hcells : rm1.cells = mc) (hslots : rm1.slots = ms) (hds : y.cls ≠ "java/lang/invoke/MethodHandle" ∧ y.cls ≠ "java/lang/invoke/VarHandle" ∧ (parseMethodDescriptor y.desc).map (fun d => d.parameters.length) = some np) (hnp : As.length = np) (hR : rm1.frames + 1 ≤ rm.frames ∧ 8 + (nL + 11) + rm1.locals ≤ rm.locals) (hst : st0 = As.reverse ++ st) (hsum : (st.map fun v => v.category).sum ≤ 8) (hfit : k + mc ≤ rm.cells ∧ n + ms ≤ rm.slots) (hdg : decode cc pc = .ok (.invokestatic idx, 3))
    (h : cl F K = some o) (kk : ∀ v S1, K v S1 = some o → GW X (k + mc) (n + ms) S1 (pc + 3) lv (.int v :: st)) : GW X k n S pc lv st0 := by
  subst hst
  obtain ⟨r1, S1, hF, h⟩ := cl_el h
  intro H locs ls hP hD hS hl
  have hfr := zfree C hD hS
  have hRX := C.2.2.2.2.2.2.2.2
  refine va_calli (va_runS (As := As) (rest := st) ⟨C.1, C.2.1, C.2.2.1, C.2.2.2.1, C.2.2.2.2.1⟩ (hct _ hF (xl X) (xG X) (xy X) H.size) (va_cwS np C.2.2.2.2.1 hg rfl hcells hslots hds (by rw [hRX]; exact hR)) ⟨ct_bl, fun U hU hW => ⟨rfl, by rw [hU], by rw [hU]; exact hP, va_K.moved hW.alike C.2.2.2.2.2.1, hD.weaken (fun _ _ _ _ => trivial)⟩⟩ rfl hnp hl.1 rfl (lv_room hsum) hdg (by rw [hRX]; exact hfit)) hS (fun q _ h => hfr q h) hfr (fun r u t H1 locs1 ht hvm hw hB hz1 hk1 hS1 => ?_)
  cases hw; obtain ⟨hP1, hK1, hD1⟩ := hB
  rw [ht] at hP1
  exact kk r1 S1 h H1 locs1 ls hP1 (hD1.weaken (fun _ q _ h => hfr q.1 h)) hS1 hl
end GR9
section GR10
variable {X : Cx} {cc : ByteArray} {own : String} {rm : Room} {k n pc : Nat} {S : Hp} {lv : List (Nat × Value)} {st : List Value} {b L : Nat} {sc : Nat → Int32}
theorem g_slen (C : CxOK X cc own rm) (hX : va_X b L sc (xs X) (xs X).heap) (hbl : b < (xs X).heap.size) (hbA : ¬ xA X b) (hdg : decode cc pc = .ok (.arraylength, 1)) (kk : GW X k n S (pc + 1) lv (.int (nI L) :: st)) : GW X k n S pc lv (va_rf (some b) :: st) := fun H locs ls hP hD hS hl => va_slen C.1 C.2.1 hX hbl hbA hS hdg (kk H locs ls hP hD hS hl)
theorem g_sld (C : CxOK X cc own rm) (hX : va_X b L sc (xs X) (xs X).heap) (hbl : b < (xs X).heap.size) (hbA : ¬ xA X b) {i : Int32} (hdg : decode cc pc = .ok (.iaload, 1)) (hi : vp_in i L) (kk : GW X k n S (pc + 1) lv (.int (sc i.toNatClampNeg) :: st)) : GW X k n S pc lv (.int i :: va_rf (some b) :: st) := fun H locs ls hP hD hS hl => va_sld C.1 C.2.1 hX hbl hbA hS hi hdg (kk H locs ls hP hD hS hl)
end GR10
abbrev rm_L_cell : Room := { frames := 0, cells := 0, slots := 0, locals := 0 }
theorem dsL_cell : yL_cell.cls ≠ "java/lang/invoke/MethodHandle" ∧ yL_cell.cls ≠ "java/lang/invoke/VarHandle" ∧ (parseMethodDescriptor yL_cell.desc).map (fun d => d.parameters.length) = some 2 := by decide +kernel
theorem gs_L_cell : GoodIn wsL_law (va_wsS RL 160 yL_cell (.code yL_cell cL_cell 2 (some .int) :: wsL_law)) := good_S q349 q350 q351 q352
theorem c_L_cell (S : Hp) (b L : Nat) (sc : Nat → Int32) (i v : Int32) (h : cellv sc L i = some v) (l : Launch) (D : va_G) (cy : Nat → ClassId) (sz : Nat) : Met l yL_cell (.code yL_cell cL_cell 2 (some .int) :: wsL_law) rm_L_cell (CtPX [va_rf (some b), .int i] b L sc S D cy sz) (va_Qi (fun r (_ : Unit) => r = v) (CtB S S D cy sz) (va_A (zP cy S) sz)) 0 0 (va_A (zP cy S) sz) := by
  refine Met.ofW (cc := cL_cell) (maxL := 2) (ret := some .int) (by decide) rfl ?_
  intro p e s m args below meth c s₁ B hml hv
  obtain ⟨rfl, ⟨hsz, hP, hK, hD0⟩, hX, hbl, hbA⟩ := hv
  have hts := atoms_spec (ws := .code yL_cell cL_cell 2 (some .int) :: wsL_law) B.pre
  have hown : s.vm.findClass RL = some m.cls := findClass_of_methodNamed B.named
  subst hsz
  have hD := hD0.self (sz := s.heap.size)
  have hl := lv_entry [va_rf (some b), Value.int i] (n := 2) (by simp [lg_sl, va_rf_cat, catI])
  rw [lg_entry_eq]
  obtain ⟨X, eX⟩ : ∃ X : Cx, X = (p, l, e, rm_L_cell, s, m, [va_rf (some b), Value.int i].toArray, below, meth, c, MQ below (va_Qi (fun r (_ : Unit) => r = v) (CtB S S D cy s.heap.size) (va_A (zP cy S) s.heap.size)) [va_rf (some b), Value.int i].toArray s 0 0 (va_A (zP cy S) s.heap.size), D, cy, va_A (zP cy S) s.heap.size, 2) := ⟨_, rfl⟩
  have C : CxOK X cL_cell RL rm_L_cell := by
    subst eX
    exact ⟨B.exec, B.bytes, hml, hown, fun w h => hts w (List.mem_cons_of_mem _ h), hK, fun q h => Or.inr h, B.notSynchronized, rfl⟩
  have hQ : QI X (some .int) S 0 0 (v, S) := by subst eX; exact ⟨B.returns, rfl, rfl⟩
  have hXX : va_X b L sc (xs X) (xs X).heap := by subst eX; exact hX
  have hblX : b < (xs X).heap.size := by subst eX; exact hbl
  have hbAX : ¬ xA X b := by subst eX; exact hbA
  have key : GW X 0 0 S 0 [(0, va_rf (some b)), (1, .int i)] [] := by
    refine g_iload_n C (q := 1) dL_cell_0 rfl rfl ?_
    refine g_aload_n C (q := 0) dL_cell_1 rfl rfl ?_
    refine g_slen C hXX hblX hbAX dL_cell_2 ?_
    unfold cellv at h
    refine g_icmp_ge C (tgt := 12) dL_cell_3 (by decide) h (fun h => ?_) (fun h => ?_)
    · refine g_ldc C q353 dL_cell_12 ?_
      refine g_iload_n C (q := 1) dL_cell_14 rfl rfl ?_
      refine g_imul C dL_cell_15 ?_
      refine g_sipush C (v := 1409) dL_cell_16 (by decide) ?_
      refine g_iadd C dL_cell_19 ?_
      exact g_iret C hQ dL_cell_20 (by injection h with h; rw [h])
    · by_cases hi : ¬ (i < 0 ∨ L ≤ i.toNatClampNeg)
      · rw [if_pos hi] at h
        refine g_aload_n C (q := 0) dL_cell_6 rfl rfl ?_
        refine g_iload_n C (q := 1) dL_cell_7 rfl rfl ?_
        refine g_sld C hXX hblX hbAX dL_cell_8 hi ?_
        refine g_goto C (tgt := 20) dL_cell_9 (by decide) ?_
        exact g_iret C hQ dL_cell_20 (by injection h with h; rw [h])
      · rw [if_neg hi] at h; cases h
  rw [show lv_args 0 [va_rf (some b), Value.int i] = [(0, va_rf (some b)), (1, .int i)] by simp [lv_args, va_rf_cat, catI]] at hl
  subst eX
  exact key _ _ _ hP hD va_S.rf hl
section GR11
variable {X : Cx} {cc : ByteArray} {own : String} {rm : Room} {k n pc : Nat} {S : Hp} {lv : List (Nat × Value)} {st : List Value} {b L : Nat} {sc : Nat → Int32}
theorem g_cell (C : CxOK X cc RL rm) (hX : va_X b L sc (xs X) (xs X).heap) (hbl : b < (xs X).heap.size) (hbA : ¬ xA X b) {β : Type} {o : β} {K : Int32 → Option β} {i : Int32} (hR : rm_L_cell.frames + 1 ≤ rm.frames ∧ 8 + (2 + 11) + rm_L_cell.locals ≤ rm.locals) (hsum : (st.map fun v => v.category).sum ≤ 8) (hfit : k ≤ rm.cells ∧ n ≤ rm.slots) (hdg : decode cc pc = .ok (.invokestatic 160, 3)) (h : clv (cellv sc L i) K = some o) (kk : ∀ v, K v = some o → GW X k n S (pc + 3) lv (.int v :: st)) : GW X k n S pc lv (.int i :: va_rf (some b) :: st) := by
  obtain ⟨v, hF, h⟩ := clv_el h
  intro H locs ls hP hD hS hl
  have hfr := zfree C hD hS
  have hRX := C.2.2.2.2.2.2.2.2
  refine va_calli (va_runS (As := [va_rf (some b), .int i]) (rest := st) ⟨C.1, C.2.1, C.2.2.1, C.2.2.2.1, C.2.2.2.2.1⟩ (c_L_cell S b L sc i v hF (xl X) (xG X) (xy X) H.size) (va_cwS 2 C.2.2.2.2.1 gs_L_cell rfl rfl rfl dsL_cell (by rw [hRX]; exact hR)) ⟨ctX_bl, fun U hU hW => ⟨rfl, ⟨by rw [hU], by rw [hU]; exact hP, va_K.moved hW.alike C.2.2.2.2.2.1, hD.weaken (fun _ _ _ _ => trivial)⟩, by rw [hU]; exact (hX.kept (hS.2.1 b hbl hbA)).moved hW.alike, Nat.lt_of_lt_of_le hbl hS.1, fun e => hbA (hfr b e)⟩⟩ rfl rfl hl.1 rfl (lv_room hsum) hdg (by rw [hRX]; exact hfit)) hS (fun q _ h => hfr q h) hfr (fun r u t H1 locs1 ht hvm hw hB hz1 hk1 hS1 => ?_)
  cases hw; obtain ⟨hP1, hK1, hD1⟩ := hB
  rw [ht] at hP1
  exact kk v h H1 locs1 ls hP1 (hD1.weaken (fun _ q _ h => hfr q.1 h)) hS1 hl
end GR11
theorem law0 {S S' : Hp} {P : Prop} (h : some ((0 : Int32), S) = some ((1 : Int32), S')) : P := by
  injection h with h
  injection h with h1
  exact absurd h1 (by decide)
