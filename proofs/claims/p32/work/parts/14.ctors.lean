/-! positions: the j-th address that was made -/
def zA (S : Hp) (j : Nat) : Nat := (zL S).getD j 0
theorem zA_mem {S : Hp} {j : Nat} (h : j < (zL S).length) : zA S j ∈ zL S := by
  unfold zA; rw [List.getD_eq_getElem?_getD, List.getElem?_eq_getElem h]; exact List.getElem_mem h
theorem zA_new {S : Hp} {q c m : Nat} : zA (nO S q c m) (zL S).length = q := by
  unfold zA; rw [nO_L, List.getD_eq_getElem?_getD, List.getElem?_append_right (Nat.le_refl _), Nat.sub_self]; rfl
theorem zA_old {S : Hp} {q c m j : Nat} (h : j < (zL S).length) : zA (nO S q c m) j = zA S j := by
  unfold zA; rw [nO_L, List.getD_eq_getElem?_getD, List.getD_eq_getElem?_getD, List.getElem?_append_left h]
theorem zA_inj {S : Hp} (hn : (zL S).Nodup) {i j : Nat} (hi : i < (zL S).length) (hj : j < (zL S).length) (h : zA S i = zA S j) : i = j := by
  unfold zA at h
  rw [List.getD_eq_getElem?_getD, List.getD_eq_getElem?_getD, List.getElem?_eq_getElem hi, List.getElem?_eq_getElem hj] at h
  have hp := List.pairwise_iff_getElem.mp hn
  rcases Nat.lt_trichotomy i j with q | q | q
  · exact absurd h (hp i j hi hj q)
  · exact q
  · exact absurd h.symm (hp j i hj hi q)
def Unch (S0 : Hp) (x : Nat) (S : Hp) : Prop := ∀ c, c ∈ zL S0 → zI S c = zI S0 c ∧ zJ S c = zJ S0 c ∧ zD S c = zD S0 c ∧ zK S c = zK S0 c ∧ zN S c = zN S0 c ∧ (c ≠ x → zR S c = zR S0 c)
/-- the heap has n addresses more; of what was there only x's references may differ -/
def Ex (S0 : Hp) (x n : Nat) (S : Hp) : Prop := (∃ L1 : List Nat, L1.length = n ∧ zL S = zL S0 ++ L1) ∧ ((zL S0).Nodup → (zL S).Nodup) ∧ Unch S0 x S ∧ ∀ c, c ∈ zL S → c ∉ zL S0 → (zI S c = fun _ => 0) ∧ (zJ S c = fun _ => 0) ∧ zD S c = fun _ => 0
theorem Ex.rf {S : Hp} {x : Nat} : Ex S x 0 S := ⟨⟨[], rfl, (List.append_nil _).symm⟩, id, fun c _ => ⟨rfl, rfl, rfl, rfl, rfl, fun _ => rfl⟩, fun c h1 h2 => absurd h1 h2⟩
theorem nO_unch {S : Hp} {q c m b : Nat} (h : b ∈ zL S) (hq : q ∉ zL S) : zI (nO S q c m) b = zI S b ∧ zJ (nO S q c m) b = zJ S b ∧ zD (nO S q c m) b = zD S b ∧ zK (nO S q c m) b = zK S b ∧ zN (nO S q c m) b = zN S b ∧ zR (nO S q c m) b = zR S b := by
  have hb : b ≠ q := fun e => hq (e ▸ h)
  exact ⟨if_neg hb, if_neg hb, if_neg hb, if_neg hb, if_neg hb, if_neg hb⟩
theorem Ex.mem {S0 S : Hp} {x n c : Nat} (h : Ex S0 x n S) (hc : c ∈ zL S0) : c ∈ zL S := by
  obtain ⟨L1, -, e⟩ := h.1
  rw [e]; exact List.mem_append_left _ hc
theorem Ex.len {S0 S : Hp} {x n : Nat} (h : Ex S0 x n S) : (zL S).length = (zL S0).length + n := by
  obtain ⟨L1, e1, e⟩ := h.1
  rw [e, List.length_append, e1]
theorem Ex.A {S0 S : Hp} {x n j : Nat} (h : Ex S0 x n S) (hj : j < (zL S0).length) : zA S j = zA S0 j := by
  obtain ⟨L1, -, e⟩ := h.1
  unfold zA; rw [e, List.getD_eq_getElem?_getD, List.getD_eq_getElem?_getD, List.getElem?_append_left hj]
theorem Ex.new {S0 S : Hp} {x n q c m : Nat} (h : Ex S0 x n S) (hq : q ∉ zL S) : Ex S0 x (n + 1) (nO S q c m) := by
  obtain ⟨⟨L1, e1, e⟩, h2, h3, h4⟩ := id h
  refine ⟨⟨L1 ++ [q], by rw [List.length_append, e1]; rfl, by rw [nO_L, e, List.append_assoc]⟩, fun hn => ?_, fun b hb => ?_, fun b hb hb0 => ?_⟩
  · rw [nO_L]
    rw [List.nodup_append]
    exact ⟨h2 hn, List.nodup_cons.mpr ⟨List.not_mem_nil, List.nodup_nil⟩, fun a ha b hb e => hq (by rw [List.mem_singleton.mp hb] at e; exact e ▸ ha)⟩
  · obtain ⟨a1, a2, a3, a4, a5, a6⟩ := nO_unch (c := c) (m := m) (h.mem hb) hq
    obtain ⟨b1, b2, b3, b4, b5, b6⟩ := h3 b hb
    exact ⟨a1.trans b1, a2.trans b2, a3.trans b3, a4.trans b4, a5.trans b5, fun hx => a6.trans (b6 hx)⟩
  · rw [nO_L] at hb
    rcases List.mem_append.mp hb with hb | hb
    · obtain ⟨a1, a2, a3, -⟩ := nO_unch (c := c) (m := m) hb hq
      obtain ⟨b1, b2, b3⟩ := h4 b hb hb0
      exact ⟨a1.trans b1, a2.trans b2, a3.trans b3⟩
    · rw [List.mem_singleton.mp hb]
      exact ⟨nO_I, nO_J, nO_D⟩
theorem Ex.put {S0 S : Hp} {x n a j : Nat} {v : Option Nat} (h : Ex S0 x n S) (ha : a = x ∨ a ∉ zL S0) : Ex S0 x n (wR S a j v) := by
  refine ⟨h.1, h.2.1, fun b hb => ?_, h.2.2.2⟩
  obtain ⟨b1, b2, b3, b4, b5, b6⟩ := h.2.2.1 b hb
  refine ⟨b1, b2, b3, b4, b5, fun hx => ?_⟩
  have hba : b ≠ a := by
    rcases ha with ha | ha
    · rw [ha]; exact hx
    · exact fun e => ha (e ▸ hb)
  exact (u2_row _ _ hba).trans (b6 hx)
theorem Ex.call {S0 S S1 : Hp} {x n m b : Nat} (h : Ex S0 x n S) (hb : b ∉ zL S0) (h1 : Ex S b m S1) : Ex S0 x (n + m) S1 := by
  obtain ⟨⟨L1, e1, e⟩, h2, h3, h4⟩ := id h
  obtain ⟨⟨M1, f1, f⟩, g2, g3, g4⟩ := id h1
  refine ⟨⟨L1 ++ M1, by rw [List.length_append, e1, f1], by rw [f, e, List.append_assoc]⟩, fun hn => g2 (h2 hn), fun c hc => ?_, fun c hc hc0 => ?_⟩
  · obtain ⟨a1, a2, a3, a4, a5, a6⟩ := g3 c (h.mem hc)
    obtain ⟨b1, b2, b3, b4, b5, b6⟩ := h3 c hc
    exact ⟨a1.trans b1, a2.trans b2, a3.trans b3, a4.trans b4, a5.trans b5, fun hx => (a6 (fun e => hb (e ▸ hc))).trans (b6 hx)⟩
  · by_cases hs : c ∈ zL S
    · obtain ⟨a1, a2, a3, -⟩ := g3 c hs
      obtain ⟨b1, b2, b3⟩ := h4 c hs hc0
      exact ⟨a1.trans b1, a2.trans b2, a3.trans b3⟩
    · exact g4 c hc hs
/-- place i of the object or row at position p holds the address at position r -/
def lk (S : Hp) (p i r : Nat) : Prop := zR S (zA S p) i = some (zA S r)
def kd (S : Hp) (p c m : Nat) : Prop := zK S (zA S p) = c ∧ zN S (zA S p) = m
theorem lk.new {S : Hp} {p i r q c m : Nat} (h : lk S p i r) (hp : p < (zL S).length) (hr : r < (zL S).length) (hq : q ∉ zL S) : lk (nO S q c m) p i r := by
  unfold lk
  rw [zA_old hp, zA_old hr, (nO_unch (zA_mem hp) hq).2.2.2.2.2]; exact h
theorem kd.new {S : Hp} {p a b q c m : Nat} (h : kd S p a b) (hp : p < (zL S).length) (hq : q ∉ zL S) : kd (nO S q c m) p a b := by
  unfold kd
  rw [zA_old hp, (nO_unch (zA_mem hp) hq).2.2.2.1, (nO_unch (zA_mem hp) hq).2.2.2.2.1]; exact h
theorem kd.made {S : Hp} {q c m : Nat} : kd (nO S q c m) (zL S).length c m := by
  unfold kd; rw [zA_new]; exact ⟨nO_K, nO_N⟩
theorem lk.put {S : Hp} {p i r a j : Nat} {v : Option Nat} (h : lk S p i r) (ho : zA S p ≠ a ∨ i ≠ j) : lk (wR S a j v) p i r := by
  unfold lk
  show u2 (zR S) a j v (zA S p) i = some (zA S r)
  rcases ho with ho | ho
  · rw [u2_ne _ _ ho]; exact h
  · rw [u2_nek _ _ ho]; exact h
theorem lk.self {S : Hp} {p r a j : Nat} {v : Nat} (hp : zA S p = a) (hr : zA S r = v) : lk (wR S a j (some v)) p j r := by
  unfold lk
  show u2 (zR S) a j (some v) (zA S p) j = some (zA S r)
  rw [hp, hr]; exact u2_self _ _ _ _
theorem kd.put {S : Hp} {p a b x j : Nat} {v : Option Nat} (h : kd S p a b) : kd (wR S x j v) p a b := h
theorem lk.ex {S S1 : Hp} {p i r x n : Nat} (h : lk S p i r) (hp : p < (zL S).length) (hr : r < (zL S).length) (hx : zA S p ≠ x) (he : Ex S x n S1) : lk S1 p i r := by
  unfold lk
  rw [he.A hp, he.A hr, (he.2.2.1 _ (zA_mem hp)).2.2.2.2.2 hx]; exact h
theorem kd.ex {S S1 : Hp} {p a b x n : Nat} (h : kd S p a b) (hp : p < (zL S).length) (he : Ex S x n S1) : kd S1 p a b := by
  unfold kd
  rw [he.A hp, (he.2.2.1 _ (zA_mem hp)).2.2.2.1, (he.2.2.1 _ (zA_mem hp)).2.2.2.2.1]; exact h
/-- a Tour's own layout at position p: its row behind it -/
def LTour (S : Hp) (p : Nat) : Prop := zK S (zA S p) = 4 ∧ lk S p 0 (p + 1) ∧ kd S (p + 1) 9 4
/-- a State's layout: its parts from position b on -/
def LState (S : Hp) (p b : Nat) : Prop := (zK S (zA S p) = 2 ∧ lk S p 0 b ∧ lk S p 1 (b + 9) ∧ lk S p 2 (b + 10)) ∧ (kd S b 10 8 ∧ kd S (b + 9) 8 6 ∧ kd S (b + 10) 12 10) ∧ (∀ i, i < 8 → lk S b i (b + 1 + i) ∧ zK S (zA S (b + 1 + i)) = 0) ∧ ∀ i, i < 10 → lk S (b + 10) i (b + 11 + 2 * i) ∧ LTour S (b + 11 + 2 * i)
section GR4
variable {X : Cx} {cc : ByteArray} {own : String} {rm : Room} {k n pc : Nat} {S : Hp} {lv lv' : List (Nat × Value)} {st : List Value}
theorem g_cs {k2 n2 : Nat} (hk : k = k2) (hn : n = n2) (kk : GW X k2 n2 S pc lv st) : GW X k n S pc lv st := by subst hk; subst hn; exact kk
theorem g_icmp_geI (C : CxOK X cc own rm) {x y : Int32} {off : Int} {tgt : Nat} (hdg : decode cc pc = .ok (.if_icmp .ge off, 3)) (ht : (pc : Int) + off = (tgt : Int)) (ka : y ≤ x → GW X k n S tgt lv st) (kb : ¬ y ≤ x → GW X k n S (pc + 3) lv st) : GW X k n S pc lv (.int y :: .int x :: st) := fun H locs ls hP hD hS hl => lv_icmp_ge C.1 C.2.1 hdg ht (fun c => ka c H locs ls hP hD hS hl) (fun c => kb c H locs ls hP hD hS hl)
end GR4
theorem dsi0 : yX0_init.cls ≠ "java/lang/invoke/MethodHandle" ∧ yX0_init.cls ≠ "java/lang/invoke/VarHandle" ∧ (parseMethodDescriptor yX0_init.desc).map (fun d => d.parameters.length) = some 0 := by decide +kernel
theorem dsi1 : yX1_init.cls ≠ "java/lang/invoke/MethodHandle" ∧ yX1_init.cls ≠ "java/lang/invoke/VarHandle" ∧ (parseMethodDescriptor yX1_init.desc).map (fun d => d.parameters.length) = some 0 := by decide +kernel
theorem dsi2 : yX2_init.cls ≠ "java/lang/invoke/MethodHandle" ∧ yX2_init.cls ≠ "java/lang/invoke/VarHandle" ∧ (parseMethodDescriptor yX2_init.desc).map (fun d => d.parameters.length) = some 0 := by decide +kernel
theorem dsi3 : yX3_init.cls ≠ "java/lang/invoke/MethodHandle" ∧ yX3_init.cls ≠ "java/lang/invoke/VarHandle" ∧ (parseMethodDescriptor yX3_init.desc).map (fun d => d.parameters.length) = some 0 := by decide +kernel
theorem dsi4 : yX4_init.cls ≠ "java/lang/invoke/MethodHandle" ∧ yX4_init.cls ≠ "java/lang/invoke/VarHandle" ∧ (parseMethodDescriptor yX4_init.desc).map (fun d => d.parameters.length) = some 0 := by decide +kernel
theorem good_c {c : Cond} (h : c ∈ wsL_law) : GoodIn wsL_law (c :: wsL_law) := good_all (fun w hw => by
  rcases List.mem_cons.mp hw with rfl | h1
  · exact h
  · exact h1)
abbrev rm_X0_init : Room := { frames := 1, cells := 0, slots := 0, locals := 20 }
abbrev rm_X4_init : Room := { frames := 1, cells := 1, slots := 4, locals := 20 }
abbrev rm_X3_init : Room := { frames := 1, cells := 1, slots := 40, locals := 20 }
abbrev rm_X2_init : Room := { frames := 2, cells := 31, slots := 206, locals := 40 }
abbrev rm_X1_init : Room := { frames := 3, cells := 161, slots := 1085, locals := 61 }
abbrev rm_X5_init : Room := { frames := 4, cells := 228, slots := 1565, locals := 82 }

set_option maxHeartbeats 4000000 in
set_option maxRecDepth 100000 in
theorem c_X0_init (S : Hp) (x0 : Nat) : CtN yX0_init cX0_init 1 rm_X0_init 0 0 [va_rf (some x0)] S (fun S' => S' = S) := by
  refine ct_N (own := RX0) (by decide) rfl rfl (Nat.le_of_ble_eq_true rfl) (fun X C hn E hini hQ => ?_)
  show GW X 0 0 S 0 [(0, va_rf (some x0))] []
  refine g_aload_n C (q := 0) dX0_init_0 rfl rfl ?_
  refine g_oinit C rfl q38 q7 q8 (by decide) (by decide) (cat_sum (Nat.le_of_ble_eq_true rfl)) dX0_init_1 ?_
  exact g_vretN C hQ dX0_init_4 rfl

set_option maxHeartbeats 4000000 in
set_option maxRecDepth 100000 in
theorem c_X4_init (S : Hp) (p : Nat) (hp : p < (zL S).length) (hk : zK S (zA S p) = 4) : CtN yX4_init cX4_init 1 rm_X4_init 1 4 [va_rf (some (zA S p))] S (fun S' => Ex S (zA S p) 1 S' ∧ zK S' (zA S' p) = 4 ∧ lk S' p 0 (zL S).length ∧ kd S' (zL S).length 9 4) := by
  refine ct_N (own := RX4) (by decide) rfl rfl (Nat.le_of_ble_eq_true rfl) (fun X C hn E hini hQ => ?_)
  show GW X 0 0 S 0 [(0, va_rf (some (zA S p)))] []
  refine g_aload_n C (q := 0) dX4_init_0 rfl rfl ?_
  refine g_oinit C rfl q42 q7 q8 (by decide) (by decide) (cat_sum (Nat.le_of_ble_eq_true rfl)) dX4_init_1 ?_
  refine g_aload_n C (q := 0) dX4_init_4 rfl rfl ?_
  refine g_iconst C (v := 4) dX4_init_5 (by decide) ?_
  refine g_newi C (m := 4) q43 (by decide) (by decide) (by decide) (Nat.le_of_ble_eq_true rfl) (Nat.le_of_ble_eq_true rfl) dX4_init_6 (fun q hq => ?_)
  have hx := nO_unch (c := 9) (m := 4) (zA_mem hp) hq
  have hpa : zA (nO S q 9 4) p = zA S p := zA_old hp
  refine g_putR C hini (ci := 4) (slot := 0) tyX4 tyX4_ok nmX4 rfl (by decide) inlX4 (by decide) rfl q44 rfl rfl dX4_init_8 rfl rfl rfl (by rw [nO_L]; exact List.mem_append_left _ (zA_mem hp)) (hx.2.2.2.1.trans hk) ?_
  refine g_vretN C hQ dX4_init_11 ⟨(Ex.rf.new hq).put (Or.inl rfl), ?_, lk.self hpa zA_new, kd.made.put⟩
  show zK (nO S q 9 4) (zA (nO S q 9 4) p) = 4
  rw [hpa]; exact hx.2.2.2.1.trans hk

set_option maxHeartbeats 4000000 in
set_option maxRecDepth 100000 in
theorem c_X3_init (S : Hp) (p : Nat) (hp : p < (zL S).length) (hk : zK S (zA S p) = 3) : CtN yX3_init cX3_init 1 rm_X3_init 1 40 [va_rf (some (zA S p))] S (fun S' => Ex S (zA S p) 1 S' ∧ zK S' (zA S' p) = 3 ∧ lk S' p 0 (zL S).length ∧ kd S' (zL S).length 7 40) := by
  refine ct_N (own := RX3) (by decide) rfl rfl (Nat.le_of_ble_eq_true rfl) (fun X C hn E hini hQ => ?_)
  show GW X 0 0 S 0 [(0, va_rf (some (zA S p)))] []
  refine g_aload_n C (q := 0) dX3_init_0 rfl rfl ?_
  refine g_oinit C rfl q55 q7 q8 (by decide) (by decide) (cat_sum (Nat.le_of_ble_eq_true rfl)) dX3_init_1 ?_
  refine g_aload_n C (q := 0) dX3_init_4 rfl rfl ?_
  refine g_bipush C (v := 40) dX3_init_5 (by decide) ?_
  refine g_newc C (m := 40) q56 (by decide) (by decide) (by decide) (Nat.le_of_ble_eq_true rfl) (Nat.le_of_ble_eq_true rfl) dX3_init_7 (fun q hq => ?_)
  have hx := nO_unch (c := 7) (m := 40) (zA_mem hp) hq
  have hpa : zA (nO S q 7 40) p = zA S p := zA_old hp
  refine g_putR C hini (ci := 3) (slot := 0) tyX3 tyX3_ok nmX3 rfl (by decide) inlX3 (by decide) rfl q57 rfl rfl dX3_init_9 rfl rfl rfl (by rw [nO_L]; exact List.mem_append_left _ (zA_mem hp)) (hx.2.2.2.1.trans hk) ?_
  refine g_vretN C hQ dX3_init_12 ⟨(Ex.rf.new hq).put (Or.inl rfl), ?_, lk.self hpa zA_new, kd.made.put⟩
  show zK (nO S q 7 40) (zA (nO S q 7 40) p) = 3
  rw [hpa]; exact hx.2.2.2.1.trans hk

/-- the first loop of State(): i guides are made -/
def IS1 (S0 : Hp) (p b i : Nat) (S : Hp) : Prop := Ex S0 (zA S0 p) (1 + i) S ∧ zK S (zA S p) = 2 ∧ lk S p 0 b ∧ kd S b 10 8 ∧ ∀ j, j < i → lk S b j (b + 1 + j) ∧ zK S (zA S (b + 1 + j)) = 0
/-- the second: i tours -/
def IS2 (S0 : Hp) (p b i : Nat) (S : Hp) : Prop := Ex S0 (zA S0 p) (11 + 2 * i) S ∧ (zK S (zA S p) = 2 ∧ lk S p 0 b ∧ lk S p 1 (b + 9) ∧ lk S p 2 (b + 10)) ∧ (kd S b 10 8 ∧ kd S (b + 9) 8 6 ∧ kd S (b + 10) 12 10) ∧ (∀ j, j < 8 → lk S b j (b + 1 + j) ∧ zK S (zA S (b + 1 + j)) = 0) ∧ ∀ j, j < i → lk S (b + 10) j (b + 11 + 2 * j) ∧ LTour S (b + 11 + 2 * j)
theorem kne {S : Hp} {p r a c : Nat} (h1 : zK S (zA S p) = a) (h2 : zK S (zA S r) = c) (h : a ≠ c) : zA S p ≠ zA S r := fun e => h (by rw [← h1, ← h2, e])
theorem Ex.notin {S0 S : Hp} {x n b : Nat} (h : Ex S0 x n S) (hn : (zL S).Nodup) (hb : (zL S0).length ≤ b) (hl : b < (zL S).length) : zA S b ∉ zL S0 := fun hm => by
  obtain ⟨j, hj, e⟩ := List.getElem_of_mem hm
  have e1 : zA S0 j = zA S b := by
    show (zL S0).getD j 0 = _
    rw [List.getD_eq_getElem?_getD, List.getElem?_eq_getElem hj]; exact e
  have e2 := zA_inj hn (i := j) (j := b) (by have := h.len; omega) hl ((h.A hj).trans e1)
  omega
theorem IS1.step {S0 S : Hp} {p b i q : Nat} (hb : b = (zL S0).length) (hp : p < b) (h : IS1 S0 p b i S) (hn : (zL S).Nodup) (hq : q ∉ zL S) : IS1 S0 p b (i + 1) (wR (nO S q 0 0) (zA S b) i (some q)) := by
  obtain ⟨hE, hk, h0, hkb, hj⟩ := h
  have hlen : (zL S).length = b + 1 + i := by rw [hE.len, hb]; omega
  have hbl : b < (zL S).length := by omega
  have hpl : p < (zL S).length := by omega
  have eb : zA (nO S q 0 0) b = zA S b := zA_old hbl
  have ep : zA (nO S q 0 0) p = zA S p := zA_old hpl
  have hbn : zA S b ∉ zL S0 := hE.notin hn (by omega) hbl
  refine ⟨by rw [Nat.add_assoc 1 i 1 |>.symm]; exact (hE.new hq).put (Or.inr hbn), ?_, (h0.new hpl hbl hq).put (Or.inl ?_), (hkb.new hbl hq).put, fun j hj2 => ?_⟩
  · show zK (nO S q 0 0) (zA (nO S q 0 0) p) = 2
    rw [ep, (nO_unch (zA_mem hpl) hq).2.2.2.1]; exact hk
  · rw [ep]; exact kne hk hkb.1 (by decide)
  · rcases Nat.lt_or_ge j i with hlt | hge
    · obtain ⟨g1, g2⟩ := hj j hlt
      have hl2 : b + 1 + j < (zL S).length := by omega
      refine ⟨(g1.new hbl hl2 hq).put (Or.inr (by omega)), ?_⟩
      show zK (nO S q 0 0) (zA (nO S q 0 0) (b + 1 + j)) = 0
      rw [zA_old hl2, (nO_unch (zA_mem hl2) hq).2.2.2.1]; exact g2
    · have : j = i := by omega
      subst this
      have eq : zA (nO S q 0 0) (b + 1 + j) = q := by rw [← hlen]; exact zA_new
      refine ⟨lk.self eb eq, ?_⟩
      show zK (nO S q 0 0) (zA (nO S q 0 0) (b + 1 + j)) = 0
      rw [eq]; exact nO_K
theorem kz.new {S : Hp} {p a q c m : Nat} (h : zK S (zA S p) = a) (hp : p < (zL S).length) (hq : q ∉ zL S) : zK (nO S q c m) (zA (nO S q c m) p) = a := by
  rw [zA_old hp, (nO_unch (zA_mem hp) hq).2.2.2.1]; exact h
theorem kz.ex {S S1 : Hp} {p a x n : Nat} (h : zK S (zA S p) = a) (hp : p < (zL S).length) (he : Ex S x n S1) : zK S1 (zA S1 p) = a := by
  rw [he.A hp, (he.2.2.1 _ (zA_mem hp)).2.2.2.1]; exact h
theorem kz.put {S : Hp} {p a x j : Nat} {v : Option Nat} (h : zK S (zA S p) = a) : zK (wR S x j v) (zA (wR S x j v) p) = a := h
theorem IS2.step {S0 S S2 : Hp} {p b i q : Nat} (hb : b = (zL S0).length) (hp : p < b) (hi : i < 10) (h : IS2 S0 p b i S) (hn : (zL S).Nodup) (hq : q ∉ zL S) (h2 : Ex (nO S q 4 0) (zA (nO S q 4 0) (b + 11 + 2 * i)) 1 S2 ∧ zK S2 (zA S2 (b + 11 + 2 * i)) = 4 ∧ lk S2 (b + 11 + 2 * i) 0 (zL (nO S q 4 0)).length ∧ kd S2 (zL (nO S q 4 0)).length 9 4) : IS2 S0 p b (i + 1) (wR S2 (zA S2 (b + 10)) i (some q)) := by
  obtain ⟨hE, ⟨hk, k0, k1, k2⟩, ⟨d0, d1, d2⟩, hg, ht⟩ := h
  obtain ⟨f1, f2, f3, f4⟩ := h2
  have hlen : (zL S).length = b + 11 + 2 * i := by rw [hE.len, hb]; omega
  have eq : zA (nO S q 4 0) (b + 11 + 2 * i) = q := by rw [← hlen]; exact zA_new
  have hl1 : (zL (nO S q 4 0)).length = b + 12 + 2 * i := by rw [nO_L, List.length_append, hlen]; show b + 11 + 2 * i + 1 = _; omega
  rw [eq] at f1
  have lt : ∀ {j : Nat}, j < b + 11 + 2 * i → j < (zL S).length := fun h => by omega
  have lt1 : ∀ {j : Nat}, j < b + 11 + 2 * i → j < (zL (nO S q 4 0)).length := fun h => by omega
  have neq : ∀ {j : Nat}, j < b + 11 + 2 * i → zA (nO S q 4 0) j ≠ q := fun {j} h e => hq (by rw [zA_old (lt h)] at e; exact e ▸ zA_mem (lt h))
  have LK : ∀ {u j r : Nat}, lk S u j r → u < b + 11 + 2 * i → r < b + 11 + 2 * i → lk S2 u j r := fun h hu hr => (h.new (lt hu) (lt hr) hq).ex (lt1 hu) (lt1 hr) (neq hu) f1
  have KD : ∀ {u c m : Nat}, kd S u c m → u < b + 11 + 2 * i → kd S2 u c m := fun h hu => (h.new (lt hu) hq).ex (lt1 hu) f1
  have KZ : ∀ {u c : Nat}, zK S (zA S u) = c → u < b + 11 + 2 * i → zK S2 (zA S2 u) = c := fun h hu => kz.ex (kz.new h (lt hu) hq) (lt1 hu) f1
  have hE1 : Ex S0 (zA S0 p) (11 + 2 * i + 1) (nO S q 4 0) := hE.new hq
  have hqn : q ∉ zL S0 := fun hm => hq (hE.mem hm)
  have hE2 : Ex S0 (zA S0 p) (11 + 2 * i + 1 + 1) S2 := hE1.call hqn f1
  have hn2 : (zL S2).Nodup := f1.2.1 (by
    rw [nO_L, List.nodup_append]
    exact ⟨hn, List.nodup_cons.mpr ⟨List.not_mem_nil, List.nodup_nil⟩, fun a ha b hb e => hq (by rw [List.mem_singleton.mp hb] at e; exact e ▸ ha)⟩)
  have hbn : zA S2 (b + 10) ∉ zL S0 := hE2.notin hn2 (by omega) (by rw [hE2.len]; omega)
  have e2 : zA S2 (b + 11 + 2 * i) = q := (f1.A (by omega)).trans eq
  have d2' := KD d2 (by omega)
  refine ⟨by rw [show 11 + 2 * (i + 1) = 11 + 2 * i + 1 + 1 by omega]; exact hE2.put (Or.inr hbn), ⟨kz.put (KZ hk (by omega)), (LK k0 (by omega) (by omega)).put (Or.inl (kne (KZ hk (by omega)) d2'.1 (by decide))), (LK k1 (by omega) (by omega)).put (Or.inl (kne (KZ hk (by omega)) d2'.1 (by decide))), (LK k2 (by omega) (by omega)).put (Or.inl (kne (KZ hk (by omega)) d2'.1 (by decide)))⟩, ⟨(KD d0 (by omega)).put, (KD d1 (by omega)).put, d2'.put⟩, fun j hj => ?_, fun j hj => ?_⟩
  · obtain ⟨g1, g2⟩ := hg j hj
    exact ⟨(LK g1 (by omega) (by omega)).put (Or.inl (kne (KD d0 (by omega)).1 d2'.1 (by decide))), kz.put (KZ g2 (by omega))⟩
  · rcases Nat.lt_or_ge j i with hlt | hge
    · obtain ⟨g1, g2, g3, g4⟩ := ht j hlt
      exact ⟨(LK g1 (by omega) (by omega)).put (Or.inr (by omega)), kz.put (KZ g2 (by omega)), (LK g3 (by omega) (by omega)).put (Or.inl (kne (KZ g2 (by omega)) d2'.1 (by decide))), (KD g4 (by omega)).put⟩
    · have : j = i := by omega
      subst this
      rw [hl1] at f3 f4
      refine ⟨lk.self rfl e2, kz.put f2, ?_, ?_⟩
      · rw [show b + 11 + 2 * j + 1 = b + 12 + 2 * j by omega]
        exact f3.put (Or.inl (kne f2 d2'.1 (by decide)))
      · rw [show b + 11 + 2 * j + 1 = b + 12 + 2 * j by omega]
        exact f4.put
theorem nd_of {cy : Nat → ClassId} {S : Hp} {A : Nat → Prop} (h : va_D A (zP cy S)) : (zL S).Nodup := by
  refine List.pairwise_iff_getElem.mpr (fun i j hi hj hij e => ?_)
  have gi : (zP cy S)[i]? = some ((zL S)[i], zF cy S (zL S)[i]) := by unfold zP va_pl; rw [List.getElem?_map, List.getElem?_eq_getElem hi]; rfl
  have gj : (zP cy S)[j]? = some ((zL S)[j], zF cy S (zL S)[j]) := by unfold zP va_pl; rw [List.getElem?_map, List.getElem?_eq_getElem hj]; rfl
  have := h.1 i j _ _ gi gj e
  omega
theorem g_nd {X : Cx} {k n pc : Nat} {S : Hp} {lv : List (Nat × Value)} {st : List Value} (kk : (zL S).Nodup → GW X k n S pc lv st) : GW X k n S pc lv st := fun H locs ls hP hD hS hl => kk (nd_of hD) H locs ls hP hD hS hl
theorem LState.tr {S S' : Hp} {p b : Nat} (h : LState S p b) (LK : ∀ {u j r : Nat}, lk S u j r → (u = p ∨ (b ≤ u ∧ u < b + 31)) → (b ≤ r ∧ r < b + 31) → lk S' u j r) (KD : ∀ {u c m : Nat}, kd S u c m → (b ≤ u ∧ u < b + 31) → kd S' u c m) (KZ : ∀ {u c : Nat}, zK S (zA S u) = c → (u = p ∨ (b ≤ u ∧ u < b + 31)) → zK S' (zA S' u) = c) : LState S' p b := by
  obtain ⟨⟨hk, k0, k1, k2⟩, ⟨d0, d1, d2⟩, hg, ht⟩ := h
  refine ⟨⟨KZ hk (by omega), LK k0 (by omega) (by omega), LK k1 (by omega) (by omega), LK k2 (by omega) (by omega)⟩, ⟨KD d0 (by omega), KD d1 (by omega), KD d2 (by omega)⟩, fun j hj => ?_, fun j hj => ?_⟩
  · obtain ⟨g1, g2⟩ := hg j hj
    exact ⟨LK g1 (by omega) (by omega), KZ g2 (by omega)⟩
  · obtain ⟨g1, g2, g3, g4⟩ := ht j hj
    exact ⟨LK g1 (by omega) (by omega), KZ g2 (by omega), LK g3 (by omega) (by omega), KD g4 (by omega)⟩
theorem LState.new {S : Hp} {p b q c m : Nat} (h : LState S p b) (hp : p < (zL S).length) (hb : b + 31 ≤ (zL S).length) (hq : q ∉ zL S) : LState (nO S q c m) p b :=
  h.tr (fun h hu hr => h.new (by omega) (by omega) hq) (fun h hu => h.new (by omega) hq) (fun h hu => kz.new h (by omega) hq)
theorem LState.ex {S S1 : Hp} {p b x n : Nat} (h : LState S p b) (hn : (zL S).Nodup) (hp : p < (zL S).length) (hb : b + 31 ≤ (zL S).length) (hx : x < (zL S).length) (hxp : x ≠ p) (hxb : x < b ∨ b + 31 ≤ x) (he : Ex S (zA S x) n S1) : LState S1 p b :=
  h.tr (fun h hu hr => h.ex (by omega) (by omega) (fun e => by have := zA_inj hn (by omega) hx e; omega) he) (fun h hu => h.ex (by omega) he) (fun h hu => kz.ex h (by omega) he)
theorem LState.put {S : Hp} {p b x j : Nat} {v : Option Nat} (h : LState S p b) (hn : (zL S).Nodup) (hp : p < (zL S).length) (hb : b + 31 ≤ (zL S).length) (hx : x < (zL S).length) (hxp : x ≠ p) (hxb : x < b ∨ b + 31 ≤ x) : LState (wR S (zA S x) j v) p b :=
  h.tr (fun h hu hr => h.put (Or.inl (fun e => by have := zA_inj hn (by omega) hx e; omega))) (fun h hu => h.put) (fun h hu => kz.put h)
theorem nd_new {S : Hp} {q c m : Nat} (hn : (zL S).Nodup) (hq : q ∉ zL S) : (zL (nO S q c m)).Nodup := by
  rw [nO_L, List.nodup_append]
  exact ⟨hn, List.nodup_cons.mpr ⟨List.not_mem_nil, List.nodup_nil⟩, fun a ha b hb e => hq (by rw [List.mem_singleton.mp hb] at e; exact e ▸ ha)⟩
/-- the loop of History(): i states -/
def IH1 (S0 : Hp) (p b i : Nat) (S : Hp) : Prop := Ex S0 (zA S0 p) (1 + 32 * i) S ∧ zK S (zA S p) = 1 ∧ lk S p 0 b ∧ kd S b 11 5 ∧ ∀ j, j < i → lk S b j (b + 1 + 32 * j) ∧ LState S (b + 1 + 32 * j) (b + 2 + 32 * j)
theorem IH1.step {S0 S S2 : Hp} {p b i q : Nat} (hb : b = (zL S0).length) (hp : p < b) (h : IH1 S0 p b i S) (hn : (zL S).Nodup) (hq : q ∉ zL S) (h2 : Ex (nO S q 2 0) (zA (nO S q 2 0) (b + 1 + 32 * i)) 31 S2 ∧ LState S2 (b + 1 + 32 * i) (b + 2 + 32 * i)) : IH1 S0 p b (i + 1) (wR S2 (zA S2 b) i (some q)) := by
  obtain ⟨hE, hk, k0, d0, hg⟩ := h
  obtain ⟨f1, f2⟩ := h2
  have hlen : (zL S).length = b + 1 + 32 * i := by rw [hE.len, hb]; omega
  have hq1 : zA (nO S q 2 0) (b + 1 + 32 * i) = q := by rw [← hlen]; exact zA_new
  have hl1 : (zL (nO S q 2 0)).length = b + 2 + 32 * i := by rw [nO_L, List.length_append, hlen]; show b + 1 + 32 * i + 1 = _; omega
  have hn1 : (zL (nO S q 2 0)).Nodup := nd_new hn hq
  have hl2 : (zL S2).length = b + 33 + 32 * i := by rw [f1.len, hl1]; omega
  have hn2 : (zL S2).Nodup := f1.2.1 hn1
  have hqn : q ∉ zL S0 := fun hm => hq (hE.mem hm)
  have hE2 : Ex S0 (zA S0 p) (1 + 32 * i + 1 + 31) S2 := (hE.new hq).call hqn (hq1 ▸ f1)
  have hbn : zA S2 b ∉ zL S0 := hE2.notin hn2 (by omega) (by omega)
  have neq : ∀ {j : Nat}, j < b + 1 + 32 * i → zA (nO S q 2 0) j ≠ zA (nO S q 2 0) (b + 1 + 32 * i) := fun {j} h e => by have := zA_inj hn1 (by omega) (by omega) e; omega
  have d0' := (d0.new (by omega) hq).ex (by omega) f1
  have hk' := kz.ex (kz.new hk (by omega) hq) (by omega) f1
  refine ⟨by rw [show 1 + 32 * (i + 1) = 1 + 32 * i + 1 + 31 by omega]; exact hE2.put (Or.inr hbn), kz.put hk', ((k0.new (by omega) (by omega) hq).ex (by omega) (by omega) (neq (by omega)) f1).put (Or.inl (kne hk' d0'.1 (by decide))), d0'.put, fun j hj => ?_⟩
  rcases Nat.lt_or_ge j i with hlt | hge
  · obtain ⟨g1, g2⟩ := hg j hlt
    exact ⟨((g1.new (by omega) (by omega) hq).ex (by omega) (by omega) (neq (by omega)) f1).put (Or.inr (by omega)), ((g2.new (by omega) (by omega) hq).ex hn1 (by omega) (by omega) (by omega) (by omega) (by omega) f1).put hn2 (by omega) (by omega) (by omega) (by omega) (by omega)⟩
  · have : j = i := by omega
    subst this
    exact ⟨lk.self rfl ((f1.A (by omega)).trans hq1), f2.put hn2 (by omega) (by omega) (by omega) (by omega) (by omega)⟩
/-- at the first n positions all is as before, but place s of p -/
def Kx (S S' : Hp) (n p s : Nat) : Prop := ∀ j, j < n → zA S' j = zA S j ∧ zK S' (zA S j) = zK S (zA S j) ∧ zN S' (zA S j) = zN S (zA S j) ∧ ∀ k, (j ≠ p ∨ k ≠ s) → zR S' (zA S j) k = zR S (zA S j) k
theorem Kx.new {S : Hp} {n p s q c m : Nat} (hn : n ≤ (zL S).length) (hq : q ∉ zL S) : Kx S (nO S q c m) n p s := fun j hj => by
  have h := nO_unch (c := c) (m := m) (zA_mem (Nat.lt_of_lt_of_le hj hn)) hq
  exact ⟨zA_old (Nat.lt_of_lt_of_le hj hn), h.2.2.2.1, h.2.2.2.2.1, fun k _ => by rw [h.2.2.2.2.2]⟩
theorem Kx.ex {S S1 : Hp} {n p s x m : Nat} (hnd : (zL S).Nodup) (hn : n ≤ x) (hx : x < (zL S).length) (he : Ex S (zA S x) m S1) : Kx S S1 n p s := fun j hj => by
  have hl : j < (zL S).length := by omega
  have h := he.2.2.1 _ (zA_mem hl)
  exact ⟨he.A hl, h.2.2.2.1, h.2.2.2.2.1, fun k _ => by rw [h.2.2.2.2.2 (fun e => by have := zA_inj hnd hl hx e; omega)]⟩
theorem Kx.put {S : Hp} {n p s : Nat} {v : Option Nat} (hnd : (zL S).Nodup) (hn : n ≤ (zL S).length) (hp : p < (zL S).length) : Kx S (wR S (zA S p) s v) n p s := fun j hj => by
  refine ⟨rfl, rfl, rfl, fun k hk => ?_⟩
  show u2 (zR S) (zA S p) s v (zA S j) k = _
  rcases hk with hk | hk
  · exact u2_ne _ _ (fun e => hk (zA_inj hnd (Nat.lt_of_lt_of_le hj hn) hp e)) k
  · exact u2_nek _ _ hk
theorem Kx.trans {S S1 S2 : Hp} {n p s : Nat} (h1 : Kx S S1 n p s) (h2 : Kx S1 S2 n p s) : Kx S S2 n p s := fun j hj => by
  obtain ⟨a1, a2, a3, a4⟩ := h1 j hj
  obtain ⟨b1, b2, b3, b4⟩ := h2 j hj
  rw [a1] at b1 b2 b3 b4
  exact ⟨b1, b2.trans a2, b3.trans a3, fun k hk => (b4 k hk).trans (a4 k hk)⟩
theorem lk.kx {S S1 : Hp} {n p s u j r : Nat} (h : lk S u j r) (K : Kx S S1 n p s) (hu : u < n) (hr : r < n) (ho : u ≠ p ∨ j ≠ s) : lk S1 u j r := by
  unfold lk
  rw [(K u hu).1, (K r hr).1, (K u hu).2.2.2 j ho]; exact h
theorem kd.kx {S S1 : Hp} {n p s u c m : Nat} (h : kd S u c m) (K : Kx S S1 n p s) (hu : u < n) : kd S1 u c m := by
  unfold kd
  rw [(K u hu).1, (K u hu).2.1, (K u hu).2.2.1]; exact h
theorem kz.kx {S S1 : Hp} {n p s u c : Nat} (h : zK S (zA S u) = c) (K : Kx S S1 n p s) (hu : u < n) : zK S1 (zA S1 u) = c := by
  rw [(K u hu).1, (K u hu).2.1]; exact h
theorem LState.kx {S S1 : Hp} {n p s u b : Nat} (h : LState S u b) (K : Kx S S1 n p s) (hu : u < n) (hb : b + 31 ≤ n) (h1 : p ≠ u) (h2 : p < b) : LState S1 u b :=
  h.tr (fun h hu hr => h.kx K (by omega) (by omega) (Or.inl (by omega))) (fun h hu => h.kx K (by omega)) (fun h hu => kz.kx h K (by omega))
/-- the whole layout of GlacierGuides at position p: its parts from b on -/
def LGG (S : Hp) (p b : Nat) : Prop := (zK S (zA S p) = 5 ∧ lk S p 0 b ∧ lk S p 1 (b + 32) ∧ lk S p 2 (b + 64) ∧ lk S p 3 (b + 226)) ∧ LState S b (b + 1) ∧ LState S (b + 32) (b + 33) ∧ (zK S (zA S (b + 64)) = 1 ∧ lk S (b + 64) 0 (b + 65) ∧ kd S (b + 65) 11 5) ∧ (∀ j, j < 5 → lk S (b + 65) j (b + 66 + 32 * j) ∧ LState S (b + 66 + 32 * j) (b + 67 + 32 * j)) ∧ (zK S (zA S (b + 226)) = 3 ∧ lk S (b + 226) 0 (b + 227) ∧ kd S (b + 227) 7 40)
