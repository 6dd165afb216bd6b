/-! the class's ring of states, its snapshot -/
def XH (i : Nat → Nat → Int32) (j : Nat → Nat → Int64) (d : Nat → Nat → UInt64) (H : List Rw) : Prop := ∃ o : Nat, o < 5 ∧ i 65 1 = nI o ∧ i 65 2 = nI H.length ∧ H.length ≤ 5 ∧ ∀ k q, H[k]? = some q → Rep i j d (67 + 32 * ((o + k) % 5)) q.1 q.2
def XS (i : Nat → Nat → Int32) (j : Nat → Nat → Int64) (d : Nat → Nat → UInt64) (s : Option Rw) : Prop := (s = none → i 0 4 = 0) ∧ ∀ q, s = some q → i 0 4 = 1 ∧ Rep i j d 33 q.1 q.2
def WH (B : Nat) (H : List Rw) : Prop := ∀ (k : Nat) (q : Rw), H[k]? = some q → WF B q.1 q.2
section HIS
variable {E : Hp} {i : Nat → Nat → Int32} {j : Nat → Nat → Int64} {d : Nat → Nat → UInt64} {N : Nat → Int32} {r : Nat → UInt64} {B : Nat} {H : List Rw}
theorem nI_m5 (a b : Nat) (h : a + b < 100) : nI a + nI b - (nI a + nI b) / 5 * 5 = nI ((a + b) % 5) := by
  rw [nI_add]
  exact pk_rem (a := a + b) (d := 5) (by omega) (by omega) (by omega)
theorem y_rec_tail (h : Ev E) {o : Nat} (ho : o < 5) (h1 : i 65 1 = nI o) (h2 : i 65 2 = nI H.length) (hl : H.length < 5) (hR : ∀ k q, H[k]? = some q → Rep i j d (67 + 32 * ((o + k) % 5)) q.1 q.2) (hW : WH B H) (a : Rep i j d 1 N r) (w : WF B N r) :
    ∃ i' j' d', (gd (¬ (5 : Int32) = 0) <| ar (mk E i j d) 11 (zR (mk E i j d) (zA E 65) 0) ((zI (mk E i j d) (zA E 65) 1 + zI (mk E i j d) (zA E 65) 2) - (zI (mk E i j d) (zA E 65) 1 + zI (mk E i j d) (zA E 65) 2) / 5 * 5) fun a9 i2 =>
      ob (mk E i j d) 2 (zR (mk E i j d) a9 i2) fun b2 => cl (f_X2_copyFrom (mk E i j d) b2 (some (zA E 1))) fun _ S5 =>
      ob S5 1 (some (zA E 65)) fun _ => ob S5 1 (some (zA E 65)) fun a11 => bnd (wI S5 a11 2 ((zI S5 (zA E 65) 2) + 1)) fun S6 => some ((), S6)) = some ((), mk E i' j' d') ∧ XH i' j' d' (H ++ [(N, r)]) ∧ ∀ q, q < 65 ∨ 227 ≤ q → i' q = i q ∧ j' q = j q ∧ d' q = d q := by
  have hm : (o + H.length) % 5 < 5 := Nat.mod_lt _ (by decide)
  have hs := h.sH hm
  have hA : Ap (67 + 32 * ((o + H.length) % 5)) 1 := by unfold Ap; omega
  obtain ⟨i1, j1, d1, e, F, R⟩ := y_copy (i := i) (j := j) (d := d) h.1 hs h.s1 hA w a
  have f65 := (F 65 (by omega)).1
  rw [gd_go (by decide), R_H h, I_65 h.1, I_65 h.1, h1, h2, nI_m5 _ _ (by omega), ar_H h hm, R_Hs h hm, ob_S h.1 hs, e, cl_go, ob_H h, ob_H h, I_65 h.1, wI_65 h.1, bnd_go, f65, h2, nI_1]
  refine ⟨_, _, _, rfl, ⟨o, ho, ?_, ?_, ?_, ?_⟩, ?_⟩
  · rw [u2_nek _ _ (by decide), f65, h1]
  · rw [u2_self, List.length_append]; rfl
  · rw [List.length_append]; show H.length + 1 ≤ 5; omega
  · intro k q e
    have key : ∀ q', q' ≠ 65 → (u2 i1 65 2 (nI (H.length + 1))) q' = i1 q' := fun q' hq => u2_row _ _ hq
    by_cases hk : k < H.length
    · rw [List.getElem?_append_left hk] at e
      have wq := hW k q e
      have n1 := wq.n1.2
      have n3 := wq.n3.2
      have ne : (o + k) % 5 ≠ (o + H.length) % 5 := by omega
      have R1 := (hR k q e).fr n1 n3 (P := 67 + 32 * ((o + H.length) % 5)) (by unfold Ap; omega) F
      exact R1.cg n1 n3 (fun q' a1 a2 => ⟨key q' (by omega), rfl, rfl⟩)
    · rw [List.getElem?_append_right (by omega)] at e
      have hk0 : k = H.length := by
        have := (List.getElem?_eq_some_iff.mp e).1
        simp at this; omega
      subst hk0
      rw [Nat.sub_self] at e
      cases e
      exact R.cg w.n1.2 w.n3.2 (fun q' a1 a2 => ⟨key q' (by omega), rfl, rfl⟩)
  · intro q hq
    have := F q (by omega)
    exact ⟨(u2_row _ _ (by omega)).trans this.1, this.2⟩
theorem y_record (h : Ev E) (x : XH i j d H) (hW : WH B H) (a : Rep i j d 1 N r) (w : WF B N r) : ∃ i' j' d', f_X1_record (mk E i j d) (zA E 65) (some (zA E 1)) = some ((), mk E i' j' d') ∧ XH i' j' d' (push H (N, r)) ∧ ∀ q, q < 65 ∨ 227 ≤ q → i' q = i q ∧ j' q = j q ∧ d' q = d q := by
  obtain ⟨o, ho, h1, h2, hl, hR⟩ := x
  unfold f_X1_record push
  rw [ob_H h, I_65 h.1 2, h2]
  by_cases q5 : H.length = 5
  · rw [if_pos (show nI H.length = 5 by rw [q5]; rfl), if_pos q5, gd_go (by decide), ob_H h, I_65 h.1, h1, show nI o + 1 - (nI o + 1) / 5 * 5 = nI ((o + 1) % 5) from nI_m5 o 1 (by omega), wI_65 h.1, bnd_go, ob_H h, ob_H h, I_65 h.1, u2_nek _ _ (by decide : (2 : Nat) ≠ 1), h2, q5, wI_65 h.1, bnd_go, ob_H h]
    have hm : (o + 1) % 5 < 5 := Nat.mod_lt _ (by decide)
    have key : ∀ q', q' ≠ 65 → (u2 (u2 i 65 1 (nI ((o + 1) % 5))) 65 2 (nI 5 - 1)) q' = i q' := fun q' hq => (u2_row _ _ hq).trans (u2_row _ _ hq)
    obtain ⟨i', j', d', e, X, F⟩ := y_rec_tail (i := u2 (u2 i 65 1 (nI ((o + 1) % 5))) 65 2 (nI 5 - 1)) (j := j) (d := d) (H := H.tail) (B := B) (N := N) (r := r) h hm (by rw [u2_nek _ _ (by decide), u2_self]) (by rw [u2_self, List.length_tail, q5]; rfl) (by rw [List.length_tail]; omega) (fun k q e => by
      rw [List.getElem?_tail] at e
      have wq := hW _ q e
      have := hR _ q e
      rw [show (o + (k + 1)) % 5 = ((o + 1) % 5 + k) % 5 by omega] at this
      have hb : ((o + 1) % 5 + k) % 5 < 5 := Nat.mod_lt _ (by decide)
      exact this.cg wq.n1.2 wq.n3.2 (fun q' a1 a2 => ⟨key q' (by omega), rfl, rfl⟩)) (fun k q e => by
      rw [List.getElem?_tail] at e
      exact hW _ q e) (a.cg w.n1.2 w.n3.2 (fun q' a1 a2 => ⟨key q' (by omega), rfl, rfl⟩)) w
    exact ⟨i', j', d', e, X, fun q hq => ⟨(F q hq).1.trans (key q (by omega)), (F q hq).2⟩⟩
  · rw [if_neg (show ¬ nI H.length = 5 from fun e => q5 ((nI_eq (b := 5) (by omega) (by decide)).mp e)), if_neg q5]
    have := y_rec_tail (i := i) (j := j) (d := d) (H := H) h ho h1 h2 (by omega) hR hW a w
    rw [I_65 h.1 2, h2] at this
    exact this
theorem y_takeBack (h : Ev E) {q : Rw} (x : XH i j d (H ++ [q])) (hW : WH B (H ++ [q])) : ∃ i' j' d', f_X1_takeBack (mk E i j d) (zA E 65) (some (zA E 1)) = some ((), mk E i' j' d') ∧ XH i' j' d' H ∧ Rep i' j' d' 1 q.1 q.2 ∧ (i' 65 2 = nI H.length) ∧ ∀ q, q = 0 ∨ (33 ≤ q ∧ q ≠ 65) → i' q = i q ∧ j' q = j q ∧ d' q = d q := by
  obtain ⟨o, ho, h1, h2, hl, hR⟩ := x
  rw [List.length_append, show H.length + [q].length = H.length + 1 from rfl] at h2 hl
  have hq : (H ++ [q])[H.length]? = some q := by rw [List.getElem?_append_right (Nat.le_refl _), Nat.sub_self]; rfl
  have hm : (o + H.length) % 5 < 5 := Nat.mod_lt _ (by decide)
  have hs := h.sH hm
  have wq := hW _ _ hq
  have key : ∀ q', q' ≠ 65 → (u2 i 65 2 (nI H.length)) q' = i q' := fun q' hq => u2_row _ _ hq
  have a := (hR _ _ hq).cg wq.n1.2 wq.n3.2 (i' := u2 i 65 2 (nI H.length)) (j' := j) (d' := d) (fun q' a1 a2 => ⟨key q' (by omega), rfl, rfl⟩)
  have hA : Ap 1 (67 + 32 * ((o + H.length) % 5)) := by unfold Ap; omega
  obtain ⟨i1, j1, d1, e, F, R⟩ := y_copy (i := u2 i 65 2 (nI H.length)) (j := j) (d := d) h.1 h.s1 hs hA wq a
  unfold f_X1_takeBack
  rw [ob_H h, I_65 h.1 2, h2, if_neg (nI_nle (by omega) (by omega)), ob_H h, nI_pred, wI_65 h.1, bnd_go, ob_H h, gd_go (by decide), R_H h, I_65 h.1, I_65 h.1, u2_self, u2_nek _ _ (by decide : (1 : Nat) ≠ 2), h1, nI_m5 _ _ (by omega), ar_H h hm, ob_S h.1 h.s1, R_Hs h hm, e, cl_go]
  have f65 := (F 65 (by omega)).1
  refine ⟨_, _, _, rfl, ⟨o, ho, ?_, ?_, by omega, ?_⟩, R, ?_, ?_⟩
  · rw [f65, u2_nek _ _ (by decide), h1]
  · rw [f65, u2_self]
  · intro k q' e
    have hk : k < H.length := (List.getElem?_eq_some_iff.mp e).1
    have e' : (H ++ [q])[k]? = some q' := by rw [List.getElem?_append_left hk]; exact e
    have wq' := hW k q' e'
    have hb : (o + k) % 5 < 5 := Nat.mod_lt _ (by decide)
    exact (hR k q' e').cg wq'.n1.2 wq'.n3.2 (fun x a1 a2 => ⟨(F x (by omega)).1.trans (key x (by omega)), (F x (by omega)).2⟩)
  · rw [f65, u2_self]
  · intro x hx
    exact ⟨(F x (by omega)).1.trans (key x (by omega)), (F x (by omega)).2⟩
theorem XH.cg {i' : Nat → Nat → Int32} {j' : Nat → Nat → Int64} {d' : Nat → Nat → UInt64} (x : XH i j d H) (hW : WH B H) (c : ∀ q, 65 ≤ q → q < 227 → i' q = i q ∧ j' q = j q ∧ d' q = d q) : XH i' j' d' H := by
  obtain ⟨o, ho, h1, h2, hl, hR⟩ := x
  have c65 := (c 65 (by omega) (by omega)).1
  refine ⟨o, ho, by rw [c65]; exact h1, by rw [c65]; exact h2, hl, fun k q e => ?_⟩
  have wq := hW k q e
  have hb : (o + k) % 5 < 5 := Nat.mod_lt _ (by decide)
  exact (hR k q e).cg wq.n1.2 wq.n3.2 (fun x a1 a2 => c x (by omega) (by omega))
theorem XS.cg {i' : Nat → Nat → Int32} {j' : Nat → Nat → Int64} {d' : Nat → Nat → UInt64} {s : Option Rw} (x : XS i j d s) (hW : ∀ q, s = some q → WF B q.1 q.2) (c0 : i' 0 4 = i 0 4) (c : ∀ q, 33 ≤ q → q < 65 → i' q = i q ∧ j' q = j q ∧ d' q = d q) : XS i' j' d' s := by
  refine ⟨fun e => by rw [c0]; exact x.1 e, fun q e => ⟨by rw [c0]; exact (x.2 q e).1, ?_⟩⟩
  have wq := hW q e
  exact (x.2 q e).2.cg wq.n1.2 wq.n3.2 (fun x a1 a2 => c x (by omega) (by omega))
end HIS
