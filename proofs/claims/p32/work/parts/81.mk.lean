/-! the heap by positions: what changes are three functions by position; the skeleton stays -/
def Nd (E : Hp) : Prop := (zL E).Nodup ∧ 229 ≤ (zL E).length
def po (E : Hp) (a : Nat) : Nat := (zL E).findIdx (fun b => b == a)
theorem po_Al {E : Hp} (hn : (zL E).Nodup) {p : Nat} (hl : p < (zL E).length) : po E (zA E p) = p := by
  have hA : zA E p = (zL E)[p] := by
    unfold zA
    rw [List.getD_eq_getElem?_getD, List.getElem?_eq_getElem hl]; rfl
  unfold po
  rw [List.findIdx_eq hl]
  refine ⟨by rw [hA]; exact beq_self_eq_true _, fun j hj => ?_⟩
  have hne : (zL E)[j]'(by omega) ≠ (zL E)[p] := List.pairwise_iff_getElem.mp hn j p (by omega) hl hj
  rw [hA]
  exact beq_eq_false_iff_ne.mpr hne
theorem po_A {E : Hp} (h : Nd E) {p : Nat} (hp : p < 229) : po E (zA E p) = p := po_Al h.1 (Nat.lt_of_lt_of_le hp h.2)
def mk (E : Hp) (i : Nat → Nat → Int32) (j : Nat → Nat → Int64) (d : Nat → Nat → UInt64) : Hp := (fun a k => if a ∈ zL E then i (po E a) k else zI E a k, fun a k => if a ∈ zL E then j (po E a) k else zJ E a k, fun a k => if a ∈ zL E then d (po E a) k else zD E a k, zR E, zK E, zN E, zL E)
section MK
variable {E : Hp} {i : Nat → Nat → Int32} {j : Nat → Nat → Int64} {d : Nat → Nat → UInt64}
theorem mk_R : zR (mk E i j d) = zR E := rfl
theorem mk_K : zK (mk E i j d) = zK E := rfl
theorem mk_N : zN (mk E i j d) = zN E := rfl
theorem mk_L : zL (mk E i j d) = zL E := rfl
theorem A_mem (h : Nd E) {p : Nat} (hp : p < 229) : zA E p ∈ zL E := zA_mem (Nat.lt_of_lt_of_le hp h.2)
theorem mk_I (h : Nd E) {p : Nat} (hp : p < 229) (k : Nat) : zI (mk E i j d) (zA E p) k = i p k := by
  show (if _ then _ else _) = _
  rw [if_pos (A_mem h hp), po_A h hp]
theorem mk_J (h : Nd E) {p : Nat} (hp : p < 229) (k : Nat) : zJ (mk E i j d) (zA E p) k = j p k := by
  show (if _ then _ else _) = _
  rw [if_pos (A_mem h hp), po_A h hp]
theorem mk_D (h : Nd E) {p : Nat} (hp : p < 229) (k : Nat) : zD (mk E i j d) (zA E p) k = d p k := by
  show (if _ then _ else _) = _
  rw [if_pos (A_mem h hp), po_A h hp]
theorem mk_Ir (h : Nd E) {p : Nat} (hp : p < 229) : zI (mk E i j d) (zA E p) = i p := funext fun k => mk_I h hp k
theorem mk_Dr (h : Nd E) {p : Nat} (hp : p < 229) : zD (mk E i j d) (zA E p) = d p := funext fun k => mk_D h hp k
theorem po_inj (h : Nd E) {p a : Nat} (hp : p < 229) (ha : a ∈ zL E) : po E a = p ↔ a = zA E p := by
  refine ⟨fun e => ?_, fun e => by rw [e, po_A h hp]⟩
  obtain ⟨q, hq, rfl⟩ := List.mem_iff_getElem.mp ha
  have hA : zA E q = (zL E)[q] := by
    unfold zA
    rw [List.getD_eq_getElem?_getD, List.getElem?_eq_getElem hq]; rfl
  rw [← hA, po_Al h.1 hq] at e
  rw [← hA, e]
theorem mk_up {α : Type} (h : Nd E) {p : Nat} (hp : p < 229) (f : Nat → Nat → α) (g : Nat → Nat → α) (k : Nat) (v : α) : u2 (fun a k => if a ∈ zL E then f (po E a) k else g a k) (zA E p) k v = fun a k' => if a ∈ zL E then u2 f p k v (po E a) k' else g a k' := by
  funext a k'
  show (if a = zA E p ∧ k' = k then v else if a ∈ zL E then f (po E a) k' else g a k') = if a ∈ zL E then (if po E a = p ∧ k' = k then v else f (po E a) k') else g a k'
  by_cases ha : a ∈ zL E
  · rw [if_pos ha, if_pos ha]
    by_cases hk : k' = k
    · by_cases hc : a = zA E p
      · rw [if_pos ⟨hc, hk⟩, if_pos ⟨(po_inj h hp ha).mpr hc, hk⟩]
      · rw [if_neg (fun q => hc q.1), if_neg (fun q => hc ((po_inj h hp ha).mp q.1))]
    · rw [if_neg (fun q => hk q.2), if_neg (fun q => hk q.2)]
  · have hc : a ≠ zA E p := fun q => ha (q ▸ A_mem h hp)
    rw [if_neg ha, if_neg ha, if_neg (fun q => hc q.1)]
theorem mk_wI (h : Nd E) {p : Nat} (hp : p < 229) (k : Nat) (v : Int32) : wI (mk E i j d) (zA E p) k v = mk E (u2 i p k v) j d := by
  unfold wI mk
  rw [← mk_up h hp]
theorem mk_wJ (h : Nd E) {p : Nat} (hp : p < 229) (k : Nat) (v : Int64) : wJ (mk E i j d) (zA E p) k v = mk E i (u2 j p k v) d := by
  unfold wJ mk
  rw [← mk_up h hp]
theorem mk_wD (h : Nd E) {p : Nat} (hp : p < 229) (k : Nat) (v : UInt64) : wD (mk E i j d) (zA E p) k v = mk E i j (u2 d p k v) := by
  unfold wD mk
  rw [← mk_up h hp]
def r2 {α : Type} (f : Nat → Nat → α) (a : Nat) (v : Nat → α) : Nat → Nat → α := fun b => if b = a then v else f b
theorem mk_ur {α : Type} (h : Nd E) {p : Nat} (hp : p < 229) (f : Nat → Nat → α) (g : Nat → Nat → α) (v : Nat → α) : (fun b => if b = zA E p then v else (fun a k => if a ∈ zL E then f (po E a) k else g a k) b) = fun a k' => if a ∈ zL E then r2 f p v (po E a) k' else g a k' := by
  funext a k'
  unfold r2
  by_cases ha : a ∈ zL E
  · rw [if_pos ha]
    by_cases hc : a = zA E p
    · rw [if_pos hc, if_pos ((po_inj h hp ha).mpr hc)]
    · rw [if_neg hc, if_neg (fun q => hc ((po_inj h hp ha).mp q))]
      show (if _ then _ else _) = _
      rw [if_pos ha]
  · have hc : a ≠ zA E p := fun q => ha (q ▸ A_mem h hp)
    rw [if_neg ha, if_neg hc]
    show (if _ then _ else _) = _
    rw [if_neg ha]
theorem mk_rI (h : Nd E) {p : Nat} (hp : p < 229) (v : Nat → Int32) : rI (mk E i j d) (zA E p) v = mk E (r2 i p v) j d := by
  unfold rI mk
  rw [← mk_ur h hp]
theorem mk_rD (h : Nd E) {p : Nat} (hp : p < 229) (v : Nat → UInt64) : rD (mk E i j d) (zA E p) v = mk E i j (r2 d p v) := by
  unfold rD mk
  rw [← mk_ur h hp]
/-! guards -/
theorem ob_mk {β : Type} (h : Nd E) {p c : Nat} {k : Nat → Option β} (hp : p < 229) (hk : zK E (zA E p) = c) : ob (mk E i j d) c (some (zA E p)) k = k (zA E p) := ob_go (A_mem h hp) hk
theorem ar_mk {β : Type} (h : Nd E) {p c m n : Nat} {x : Int32} {k : Nat → Nat → Option β} (hp : p < 229) (hk : kd E p c m) (hx : x = nI n) (hn : n < m) (hm : m < 2 ^ 31) : ar (mk E i j d) c (some (zA E p)) x k = k (zA E p) n := by
  have h1 : vp_in x (zN E (zA E p)) := by rw [hx, hk.2]; exact vp_in_nI hn hm
  rw [ar_go (S := mk E i j d) (A_mem h hp) hk.1 h1, hx, nI_clamp (by omega)]
theorem ini_mk (h : Ini E) : mk E (fun _ _ => 0) (fun _ _ => 0) (fun _ _ => 0) = E := by
  obtain ⟨-, -, -, hz⟩ := h
  have e1 : (fun (a k : Nat) => if a ∈ zL E then (0 : Int32) else zI E a k) = zI E := by
    funext a k; by_cases ha : a ∈ zL E
    · rw [if_pos ha, (hz a ha).1]
    · rw [if_neg ha]
  have e2 : (fun (a k : Nat) => if a ∈ zL E then (0 : Int64) else zJ E a k) = zJ E := by
    funext a k; by_cases ha : a ∈ zL E
    · rw [if_pos ha, (hz a ha).2.1]
    · rw [if_neg ha]
  have e3 : (fun (a k : Nat) => if a ∈ zL E then (0 : UInt64) else zD E a k) = zD E := by
    funext a k; by_cases ha : a ∈ zL E
    · rw [if_pos ha, (hz a ha).2.2]
    · rw [if_neg ha]
  unfold mk
  rw [e1, e2, e3]
  rfl
end MK
