/-! one array more behind the office: the law's four numbers -/
section EXT
variable {E : Hp} {q : Nat} {i : Nat → Nat → Int32} {j : Nat → Nat → Int64} {d : Nat → Nat → UInt64} {N : Nat → Int32} {r : Nat → UInt64} {B : Nat} {H : List Rw} {s : Option Rw}
theorem po_new (hE : Ev E) (hl : (zL E).length = 229) (hq : q ∉ zL E) : po (nO E q 9 4) q = 229 := by
  have h1 : (zL (nO E q 9 4)).Nodup := nd_new hE.1.1 hq
  have h2 : (zL (nO E q 9 4)).length = 230 := by rw [nO_L, List.length_append, hl]; rfl
  have h3 := po_Al h1 (p := 229) (by omega)
  have h4 : zA (nO E q 9 4) 229 = q := by rw [← hl]; exact zA_new
  rw [h4] at h3; exact h3
theorem po_old (hE : Ev E) (hl : (zL E).length = 229) (hq : q ∉ zL E) {a : Nat} (ha : a ∈ zL E) : po (nO E q 9 4) a = po E a ∧ po E a < 229 := by
  obtain ⟨p, hp, rfl⟩ := List.mem_iff_getElem.mp ha
  have h1 : (zL (nO E q 9 4)).Nodup := nd_new hE.1.1 hq
  have h2 : (zL (nO E q 9 4)).length = 230 := by rw [nO_L, List.length_append, hl]; rfl
  have hA : zA E p = (zL E)[p] := by
    unfold zA
    rw [List.getD_eq_getElem?_getD, List.getElem?_eq_getElem hp]; rfl
  have e1 := po_Al hE.1.1 (p := p) hp
  have e2 := po_Al h1 (p := p) (by omega)
  rw [zA_old hp] at e2
  rw [hA] at e1 e2
  exact ⟨e2.trans e1.symm, by rw [e1]; omega⟩
theorem ext_f {α : Type} (hE : Ev E) (hl : (zL E).length = 229) (hq : q ∉ zL E) (f g : Nat → Nat → α) (z : Nat → α) : (fun b => if b = q then z else (fun a k => if a ∈ zL E then f (po E a) k else g a k) b) = fun a k => if a ∈ zL E ++ [q] then r2 f 229 z (po (nO E q 9 4) a) k else (if a = q then z else g a) k := by
  funext b k
  by_cases hb : b = q
  · subst hb
    rw [if_pos rfl, if_pos (List.mem_append_right _ (List.mem_singleton.mpr rfl)), po_new hE hl hq, r2_self]
  · rw [if_neg hb]
    by_cases hm : b ∈ zL E
    · obtain ⟨e1, e2⟩ := po_old hE hl hq hm
      rw [if_pos (List.mem_append_left _ hm), e1, r2_ne _ _ (by omega)]
      show (if _ then _ else _) = _
      rw [if_pos hm]
    · rw [if_neg (show ¬ b ∈ zL E ++ [q] from fun e => by
        rcases List.mem_append.mp e with e | e
        · exact hm e
        · exact hb (List.mem_singleton.mp e)), if_neg hb]
      show (if _ then _ else _) = _
      rw [if_neg hm]
/-- the heap with the row c behind -/
def SC (E : Hp) (q : Nat) (i : Nat → Nat → Int32) (j : Nat → Nat → Int64) (d : Nat → Nat → UInt64) (c : Nat → Int32) : Hp := mk (nO E q 9 4) (r2 i 229 c) (r2 j 229 (fun _ => 0)) (r2 d 229 (fun _ => 0))
theorem SC_0 (hE : Ev E) (hl : (zL E).length = 229) (hq : q ∉ zL E) : nO (mk E i j d) q 9 4 = SC E q i j d (fun _ => 0) := by
  have e1 := ext_f hE hl hq i (zI E) (fun _ => 0)
  have e2 := ext_f hE hl hq j (zJ E) (fun _ => 0)
  have e3 := ext_f hE hl hq d (zD E) (fun _ => 0)
  have k1 : (fun (a k : Nat) => if a ∈ zL E ++ [q] then r2 i 229 (fun _ => 0) (po (nO E q 9 4) a) k else (if a = q then (fun _ => (0 : Int32)) else zI E a) k) = fun a k => if a ∈ zL (nO E q 9 4) then r2 i 229 (fun _ => 0) (po (nO E q 9 4) a) k else zI (nO E q 9 4) a k := rfl
  unfold SC
  show (_, _) = (_, _)
  refine Prod.ext ?_ (Prod.ext ?_ (Prod.ext ?_ rfl))
  · exact e1
  · exact e2
  · exact e3
theorem ev_ext (hE : Ev E) (hl : (zL E).length = 229) (hq : q ∉ zL E) : Ev (nO E q 9 4) :=
  ⟨⟨nd_new hE.1.1 hq, by rw [nO_L, List.length_append, hl]; exact Nat.le_add_right _ _⟩, hE.2.1.tr (n := 229) (x := 229) (s := 0) (Nat.le_refl _) (Nat.le_refl _) (Kx.new (by omega) hq), trivial⟩
theorem zA_ext (hl : (zL E).length = 229) {p : Nat} (hp : p < 229) : zA (nO E q 9 4) p = zA E p := zA_old (by omega)
theorem IV.ext (V : IV B i j d N r H s) (c : Nat → Int32) : IV B (r2 i 229 c) (r2 j 229 (fun _ => 0)) (r2 d 229 (fun _ => 0)) N r H s := by
  obtain ⟨⟨a, w⟩, ⟨xh, wh⟩, ⟨xs, ws⟩, tl⟩ := V
  exact ⟨⟨a.cg w.n1.2 w.n3.2 (fun p h1 h2 => ⟨r2_ne _ _ (by omega), r2_ne _ _ (by omega), r2_ne _ _ (by omega)⟩), w⟩, ⟨xh.cg wh (fun p h1 h2 => ⟨r2_ne _ _ (by omega), r2_ne _ _ (by omega), r2_ne _ _ (by omega)⟩), wh⟩, ⟨xs.cg ws (by rw [r2_ne _ _ (by decide)]) (fun p h1 h2 => ⟨r2_ne _ _ (by omega), r2_ne _ _ (by omega), r2_ne _ _ (by omega)⟩), ws⟩, by rw [r2_ne _ _ (by decide)]; exact tl⟩
theorem SC_off (hE : Ev E) (hl : (zL E).length = 229) (hq : q ∉ zL E) (V : IV B i j d N r H s) (c : Nat → Int32) : Off (nO E q 9 4) (SC E q i j d c) N r H.length := At.off (ev_ext hE hl hq) ⟨_, _, _, rfl, V.ext c⟩
theorem SC_mem (c : Nat → Int32) : q ∈ zL (SC E q i j d c) := List.mem_append_right _ (List.mem_singleton.mpr rfl)
theorem SC_K (c : Nat → Int32) : zK (SC E q i j d c) q = 9 := nO_K
theorem SC_N (c : Nat → Int32) : zN (SC E q i j d c) q = 4 := nO_N
theorem SC_ar {β : Type} {c : Nat → Int32} {k : Nat} (hk : k < 4) {F : Nat → Nat → Option β} : ar (SC E q i j d c) 9 (some q) (nI k) F = F q k := by
  rw [ar_go (SC_mem c) (SC_K c) (by rw [SC_N]; exact vp_in_nI hk (by decide)), nI_clamp (by omega)]
theorem SC_I (hE : Ev E) (hl : (zL E).length = 229) (hq : q ∉ zL E) (c : Nat → Int32) (k : Nat) : zI (SC E q i j d c) q k = c k := by
  show (if q ∈ zL (nO E q 9 4) then r2 i 229 c (po (nO E q 9 4) q) k else _) = _
  rw [if_pos (show q ∈ zL (nO E q 9 4) from List.mem_append_right _ (List.mem_singleton.mpr rfl)), po_new hE hl hq, r2_self]
theorem SC_w (hE : Ev E) (hl : (zL E).length = 229) (hq : q ∉ zL E) (c : Nat → Int32) (k : Nat) (v : Int32) : wI (SC E q i j d c) q k v = SC E q i j d (upd c k v) := by
  unfold wI SC mk
  refine Prod.ext ?_ rfl
  funext a x
  show u2 (fun a k => if a ∈ zL (nO E q 9 4) then r2 i 229 c (po (nO E q 9 4) a) k else zI (nO E q 9 4) a k) q k v a x = if a ∈ zL (nO E q 9 4) then r2 i 229 (upd c k v) (po (nO E q 9 4) a) x else zI (nO E q 9 4) a x
  by_cases ha : a = q
  · subst ha
    have hm : a ∈ zL (nO E a 9 4) := List.mem_append_right _ (List.mem_singleton.mpr rfl)
    rw [if_pos hm, po_new hE hl hq, r2_self]
    by_cases hx : x = k
    · subst hx; rw [u2_self, up_eq]
    · rw [u2_nek _ _ hx, up_ne hx, if_pos hm, po_new hE hl hq, r2_self]
  · rw [u2_ne _ _ ha]
    by_cases hm : a ∈ zL (nO E q 9 4)
    · rw [if_pos hm, if_pos hm]
      have hm2 : a ∈ zL E := by
        rcases List.mem_append.mp hm with e | e
        · exact e
        · exact absurd (List.mem_singleton.mp e) ha
      obtain ⟨e1, e2⟩ := po_old hE hl hq hm2
      rw [e1, r2_ne _ _ (by omega), r2_ne _ _ (by omega)]
    · rw [if_neg hm, if_neg hm]
theorem SC_kp (hE : Ev E) (hl : (zL E).length = 229) (hq : q ∉ zL E) (c : Nat → Int32) : Kp (mk E i j d) q (SC E q i j d c) := by
  refine ⟨rfl, fun a ha => ?_⟩
  have ha : a ∈ zL E := ha
  have hm : a ∈ zL (nO E q 9 4) := List.mem_append_left _ ha
  have hn : a ≠ q := fun e => hq (e ▸ ha)
  obtain ⟨e1, e2⟩ := po_old hE hl hq ha
  refine ⟨if_neg hn, if_neg hn, ?_, ?_, ?_, if_neg hn⟩
  · funext x
    show (if a ∈ zL (nO E q 9 4) then r2 i 229 c (po (nO E q 9 4) a) x else _) = if a ∈ zL E then i (po E a) x else _
    rw [if_pos hm, if_pos ha, e1, r2_ne _ _ (by omega)]
  · funext x
    show (if a ∈ zL (nO E q 9 4) then r2 j 229 _ (po (nO E q 9 4) a) x else _) = if a ∈ zL E then j (po E a) x else _
    rw [if_pos hm, if_pos ha, e1, r2_ne _ _ (by omega)]
  · funext x
    show (if a ∈ zL (nO E q 9 4) then r2 d 229 _ (po (nO E q 9 4) a) x else _) = if a ∈ zL E then d (po E a) x else _
    rw [if_pos hm, if_pos ha, e1, r2_ne _ _ (by omega)]
end EXT
