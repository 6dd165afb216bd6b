/-! what the reference keeps: states before the latest acts, a snapshot -/
abbrev Rw : Type := (Nat → Int32) × (Nat → UInt64)
def push (H : List Rw) (q : Rw) : List Rw := if H.length = 5 then H.tail ++ [q] else H ++ [q]
theorem push_len {H : List Rw} {q : Rw} (h : H.length ≤ 5) : (push H q).length = if H.length = 5 then 5 else H.length + 1 := by
  unfold push
  split
  · rename_i e; rw [List.length_append, List.length_tail, e]; rfl
  · rw [List.length_append]; rfl
def RH (i : Nat → Nat → Int32) (d : Nat → Nat → UInt64) (H : List Rw) : Prop := i 229 6 = nI H.length ∧ H.length ≤ 5 ∧ ∀ k q, H[k]? = some q → (∀ x, x < 180 → i 231 (180 * k + x) = q.1 x) ∧ ∀ x, x < 17 → d 234 (17 * k + x) = q.2 x
def RS (i : Nat → Nat → Int32) (d : Nat → Nat → UInt64) (s : Option Rw) : Prop := (s = none → i 229 7 = 0) ∧ ∀ q, s = some q → i 229 7 = 1 ∧ (∀ x, x < 180 → i 232 x = q.1 x) ∧ ∀ x, x < 17 → d 235 x = q.2 x
theorem RH.congr {i i' : Nat → Nat → Int32} {d d' : Nat → Nat → UInt64} {H : List Rw} (a : RH i d H) (h1 : i' 229 6 = i 229 6) (h2 : i' 231 = i 231) (h3 : d' 234 = d 234) : RH i' d' H := by
  refine ⟨by rw [h1]; exact a.1, a.2.1, fun k q e => ⟨fun x hx => ?_, fun x hx => ?_⟩⟩
  · rw [h2]; exact (a.2.2 k q e).1 x hx
  · rw [h3]; exact (a.2.2 k q e).2 x hx
theorem RS.congr {i i' : Nat → Nat → Int32} {d d' : Nat → Nat → UInt64} {s : Option Rw} (a : RS i d s) (h1 : i' 229 7 = i 229 7) (h2 : i' 232 = i 232) (h3 : d' 235 = d 235) : RS i' d' s := by
  refine ⟨fun e => by rw [h1]; exact a.1 e, fun q e => ⟨by rw [h1]; exact (a.2 q e).1, fun x hx => ?_, fun x hx => ?_⟩⟩
  · rw [h2]; exact (a.2 q e).2.1 x hx
  · rw [h3]; exact (a.2 q e).2.2 x hx
section REC
variable {E : Hp} {i : Nat → Nat → Int32} {j : Nat → Nat → Int64} {d : Nat → Nat → UInt64} {H : List Rw}
theorem cp0_id {α : Type} (i : Nat → Nat → α) (a : Nat) (f : Nat → α) (b : Nat) : r2 i a (cp f (i a) b 0) = i := by rw [cp_0, r2_id]
theorem x_rec80 (h : Ev E) (a : RH i d H) (hl : H.length < 5) : ∃ i' d', f_X6_record_L80 1000 (mk E i j d) (zA E 229) 0 = some ((), mk E i' j d') ∧ RH i' d' (H ++ [(i 230, d 233)]) ∧ (∀ q, q ≠ 229 → q ≠ 231 → i' q = i q) ∧ (∀ x, x ≠ 6 → i' 229 x = i 229 x) ∧ ∀ q, q ≠ 234 → d' q = d q := by
  have e1 := l_record_L80 (j := j) (d := d) h a.1 hl 180 0 1000 (by omega) (by omega)
  rw [cp0_id] at e1
  have e2 := l_record_L116 (i := r2 i 231 (cp (fun k => i 230 k) (i 231) (180 * H.length) 180)) (j := j) (d := d) h (K := H.length) (by rw [r2_ne _ _ (by decide)]; exact a.1) hl 17 0 1000 (by omega) (by omega)
  rw [cp0_id] at e2
  refine ⟨_, _, e1.trans e2, ⟨?_, ?_, ?_⟩, ?_, ?_, ?_⟩
  · rw [u2_self, List.length_append]; rfl
  · rw [List.length_append]; show H.length + 1 ≤ 5; omega
  · intro k q e
    by_cases hk : k < H.length
    · rw [List.getElem?_append_left hk] at e
      obtain ⟨z1, z2⟩ := a.2.2 k q e
      refine ⟨fun x hx => ?_, fun x hx => ?_⟩
      · rw [u2_ne _ _ (by decide), r2_self, cp_out (by omega)]; exact z1 x hx
      · rw [r2_self, cp_out (by omega)]; exact z2 x hx
    · rw [List.getElem?_append_right (by omega)] at e
      have hk0 : k = H.length := by
        have := (List.getElem?_eq_some_iff.mp e).1
        simp at this; omega
      subst hk0
      rw [Nat.sub_self] at e
      cases e
      refine ⟨fun x hx => ?_, fun x hx => ?_⟩
      · rw [u2_ne _ _ (by decide), r2_self, cp_in hx]
      · rw [r2_self, cp_in hx]
  · intro q h1 h2
    funext x
    rw [u2_ne _ _ h1, r2_ne _ _ h2]
  · intro x hx
    rw [u2_nek _ _ hx, r2_ne _ _ (by decide)]
  · intro q h1
    rw [r2_ne _ _ h1]
theorem x_record (h : Ev E) (a : RH i d H) : ∃ i' d', f_X6_record (mk E i j d) (zA E 229) = some ((), mk E i' j d') ∧ RH i' d' (push H (i 230, d 233)) ∧ (∀ q, q ≠ 229 → q ≠ 231 → i' q = i q) ∧ (∀ x, x ≠ 6 → i' 229 x = i 229 x) ∧ ∀ q, q ≠ 234 → d' q = d q := by
  unfold f_X6_record push
  rw [ob_M h, I_229 h.1, a.1]
  by_cases hl : H.length = 5
  · rw [if_pos (by rw [hl]; rfl), if_pos hl]
    have e1 := l_record_L10 (i := i) (j := j) (d := d) h 720 0 1000 (by omega) (by omega)
    rw [cp0_id] at e1
    have e2 := l_record_L41 (i := r2 i 231 (cp (fun k => i 231 (k + 180)) (i 231) 0 720)) (j := j) (d := d) h 68 0 1000 (by omega) (by omega)
    rw [cp0_id] at e2
    have hT : RH (u2 (r2 i 231 (cp (fun k => i 231 (k + 180)) (i 231) 0 720)) 229 6 ((r2 i 231 (cp (fun k => i 231 (k + 180)) (i 231) 0 720)) 229 6 - 1)) (r2 d 234 (cp (fun k => d 234 (k + 17)) (d 234) 0 68)) H.tail := by
      refine ⟨?_, by rw [List.length_tail]; omega, ?_⟩
      · rw [u2_self, r2_ne _ _ (by decide), a.1, List.length_tail, hl]; rfl
      · intro k q e
        have hk : k < H.tail.length := (List.getElem?_eq_some_iff.mp e).1
        rw [List.length_tail] at hk
        rw [List.getElem?_tail] at e
        obtain ⟨z1, z2⟩ := a.2.2 (k + 1) q e
        refine ⟨fun x hx => ?_, fun x hx => ?_⟩
        · rw [u2_ne _ _ (by decide), r2_self]
          have := cp_in (f := fun k => i 231 (k + 180)) (g := i 231) (b := 0) (k := 720) (x := 180 * k + x) (by omega)
          rw [Nat.zero_add] at this
          rw [this, ← z1 x hx]
          show i 231 (180 * k + x + 180) = _
          rw [show 180 * k + x + 180 = 180 * (k + 1) + x by omega]
        · rw [r2_self]
          have := cp_in (f := fun k => d 234 (k + 17)) (g := d 234) (b := 0) (k := 68) (x := 17 * k + x) (by omega)
          rw [Nat.zero_add] at this
          rw [this, ← z2 x hx]
          show d 234 (17 * k + x + 17) = _
          rw [show 17 * k + x + 17 = 17 * (k + 1) + x by omega]
    obtain ⟨i', d', e3, r3, f1, f2, f3⟩ := x_rec80 (j := j) h hT (by rw [List.length_tail]; omega)
    refine ⟨i', d', e1.trans (e2.trans e3), ?_, ?_, ?_, ?_⟩
    · rw [show (u2 (r2 i 231 (cp (fun k => i 231 (k + 180)) (i 231) 0 720)) 229 6 ((r2 i 231 (cp (fun k => i 231 (k + 180)) (i 231) 0 720)) 229 6 - 1)) 230 = i 230 from by funext x; rw [u2_ne _ _ (by decide), r2_ne _ _ (by decide)], r2_ne _ _ (by decide)] at r3
      exact r3
    · intro q h1 h2
      rw [f1 q h1 h2]
      funext x
      rw [u2_ne _ _ h1, r2_ne _ _ h2]
    · intro x hx
      rw [f2 x hx, u2_nek _ _ hx, r2_ne _ _ (by decide)]
    · intro q h1
      rw [f3 q h1, r2_ne _ _ h1]
  · have h5 := a.2.1
    rw [if_neg (show ¬ nI H.length = 5 from fun e => hl ((nI_eq (b := 5) (by omega) (by decide)).mp e)), if_neg hl]
    exact x_rec80 h a (by omega)
theorem x_undo0 (h : Ev E) (a : RH i d []) : f_X6_undo (mk E i j d) (zA E 229) = some (-5, mk E i j d) := by
  unfold f_X6_undo
  rw [ob_M h, I_229 h.1, a.1, if_pos (by decide)]
theorem x_undo1 (h : Ev E) {H : List Rw} {q : Rw} (a : RH i d (H ++ [q])) (z1 : ∀ x, 180 ≤ x → i 230 x = q.1 x) (z2 : ∀ x, 17 ≤ x → d 233 x = q.2 x) : ∃ i' d', f_X6_undo (mk E i j d) (zA E 229) = some (nI H.length, mk E i' j d') ∧ RH i' d' H ∧ i' 230 = q.1 ∧ d' 233 = q.2 ∧ (∀ q, q ≠ 229 → q ≠ 230 → i' q = i q) ∧ (∀ x, x ≠ 6 → i' 229 x = i 229 x) ∧ ∀ q, q ≠ 233 → d' q = d q := by
  have hl : H.length < 5 := by have := a.2.1; rw [List.length_append] at this; exact this
  have hq : (H ++ [q])[H.length]? = some q := by rw [List.getElem?_append_right (Nat.le_refl _), Nat.sub_self]; rfl
  obtain ⟨c1, c2⟩ := a.2.2 _ _ hq
  unfold f_X6_undo
  rw [ob_M h, I_229 h.1, a.1, List.length_append, show H.length + [q].length = H.length + 1 from rfl, if_neg (nI_ne0 (by omega) (by omega)), ob_M h, wI_229 h.1, bnd_go, nI_pred]
  have e1 := l_undo_L22 (i := u2 i 229 6 (nI H.length)) (j := j) (d := d) h (K := H.length) (by rw [u2_self]) hl 180 0 1000 (by omega) (by omega)
  rw [cp0_id] at e1
  have e2 := l_undo_L58 (i := r2 (u2 i 229 6 (nI H.length)) 230 (cp (fun k => (u2 i 229 6 (nI H.length)) 231 (180 * H.length + k)) ((u2 i 229 6 (nI H.length)) 230) 0 180)) (j := j) (d := d) h (K := H.length) (by rw [r2_ne _ _ (by decide), u2_self]) hl 17 0 1000 (by omega) (by omega)
  rw [cp0_id] at e2
  refine ⟨_, _, e1.trans e2, ⟨?_, by omega, ?_⟩, ?_, ?_, ?_, ?_, ?_⟩
  · rw [r2_ne _ _ (by decide), u2_self]
  · intro k q' e
    have hk : k < H.length := (List.getElem?_eq_some_iff.mp e).1
    obtain ⟨y1, y2⟩ := a.2.2 k q' (by rw [List.getElem?_append_left hk]; exact e)
    refine ⟨fun x hx => ?_, fun x hx => ?_⟩
    · rw [r2_ne _ _ (by decide), u2_ne _ _ (by decide)]; exact y1 x hx
    · rw [r2_ne _ _ (by decide)]; exact y2 x hx
  · rw [r2_self]
    funext x
    by_cases hx : x < 180
    · have := cp_in (f := fun k => (u2 i 229 6 (nI H.length)) 231 (180 * H.length + k)) (g := (u2 i 229 6 (nI H.length)) 230) (b := 0) (k := 180) hx
      rw [Nat.zero_add] at this
      rw [this, u2_ne _ _ (by decide)]; exact c1 x hx
    · rw [cp_out (by omega), u2_ne _ _ (by decide)]; exact z1 x (by omega)
  · rw [r2_self]
    funext x
    by_cases hx : x < 17
    · have := cp_in (f := fun k => d 234 (17 * H.length + k)) (g := d 233) (b := 0) (k := 17) hx
      rw [Nat.zero_add] at this
      rw [this]; exact c2 x hx
    · rw [cp_out (by omega)]; exact z2 x (by omega)
  · intro q h1 h2
    rw [r2_ne _ _ h2]
    funext x
    rw [u2_ne _ _ h1]
  · intro x hx
    rw [r2_ne _ _ (by decide), u2_nek _ _ hx]
  · intro q h1
    rw [r2_ne _ _ h1]
theorem x_keep (h : Ev E) : ∃ i' d', f_X6_keep (mk E i j d) (zA E 229) = some (i 230 0, mk E i' j d') ∧ RS i' d' (some (i 230, d 233)) ∧ (∀ q, q ≠ 229 → q ≠ 232 → i' q = i q) ∧ (∀ x, x ≠ 7 → i' 229 x = i 229 x) ∧ ∀ q, q ≠ 235 → d' q = d q := by
  have e1 := l_keep_L2 (i := i) (j := j) (d := d) h 180 0 1000 (by omega) (by omega)
  rw [cp0_id] at e1
  have e2 := l_keep_L29 (i := r2 i 232 (cp (fun k => i 230 k) (i 232) 0 180)) (j := j) (d := d) h 17 0 1000 (by omega) (by omega)
  rw [cp0_id, r2_ne (b := 230) _ _ (by decide)] at e2
  unfold f_X6_keep
  refine ⟨_, _, e1.trans e2, ⟨(fun e => by cases e), fun q e => ?_⟩, ?_, ?_, ?_⟩
  · cases e
    refine ⟨by rw [u2_self], fun x hx => ?_, fun x hx => ?_⟩
    · have := cp_in (f := fun k => i 230 k) (g := i 232) (b := 0) (k := 180) hx
      rw [Nat.zero_add] at this
      rw [u2_ne _ _ (by decide), r2_self, this]
    · have := cp_in (f := fun k => d 233 k) (g := d 235) (b := 0) (k := 17) hx
      rw [Nat.zero_add] at this
      rw [r2_self, this]
  · intro q h1 h2
    funext x
    rw [u2_ne _ _ h1, r2_ne _ _ h2]
  · intro x hx
    rw [u2_nek _ _ hx, r2_ne _ _ (by decide)]
  · intro q h1
    rw [r2_ne _ _ h1]
theorem x_restore0 (h : Ev E) (a : RS i d none) : f_X6_restore (mk E i j d) (zA E 229) = some (-5, mk E i j d) := by
  unfold f_X6_restore
  rw [ob_M h, I_229 h.1, a.1 rfl, if_pos rfl]
theorem x_restore1 (h : Ev E) {q : Rw} (a : RH i d H) (b : RS i d (some q)) (z1 : ∀ x, 180 ≤ x → i 230 x = q.1 x) (z2 : ∀ x, 17 ≤ x → d 233 x = q.2 x) : ∃ i' d', f_X6_restore (mk E i j d) (zA E 229) = some (q.1 0, mk E i' j d') ∧ RH i' d' (push H (i 230, d 233)) ∧ i' 230 = q.1 ∧ d' 233 = q.2 ∧ (∀ q, q ≠ 229 → q ≠ 230 → q ≠ 231 → i' q = i q) ∧ (∀ x, x ≠ 6 → i' 229 x = i 229 x) ∧ ∀ q, q ≠ 233 → q ≠ 234 → d' q = d q := by
  obtain ⟨b1, b2, b3⟩ := b.2 q rfl
  unfold f_X6_restore
  rw [ob_M h, I_229 h.1, b1, if_neg (by decide), ob_M h]
  obtain ⟨i1, d1, e0, r0, f1, f2, f3⟩ := x_record (j := j) h a
  rw [e0, cl_go]
  have e1 := l_restore_L16 (i := i1) (j := j) (d := d1) h 180 0 1000 (by omega) (by omega)
  rw [cp0_id] at e1
  have e2 := l_restore_L43 (i := r2 i1 230 (cp (fun k => i1 232 k) (i1 230) 0 180)) (j := j) (d := d1) h 17 0 1000 (by omega) (by omega)
  rw [cp0_id] at e2
  have hN : (r2 i1 230 (cp (fun k => i1 232 k) (i1 230) 0 180)) 230 = q.1 := by
    rw [r2_self]
    funext x
    by_cases hx : x < 180
    · have := cp_in (f := fun k => i1 232 k) (g := i1 230) (b := 0) (k := 180) hx
      rw [Nat.zero_add] at this
      rw [this, f1 232 (by decide) (by decide)]; exact b2 x hx
    · rw [cp_out (by omega), f1 230 (by decide) (by decide)]; exact z1 x (by omega)
  rw [hN] at e2
  refine ⟨_, _, e1.trans e2, ?_, hN, ?_, ?_, ?_, ?_⟩
  · exact r0.congr (by rw [r2_ne _ _ (by decide)]) (by rw [r2_ne _ _ (by decide)]) (by rw [r2_ne _ _ (by decide)])
  · rw [r2_self]
    funext x
    by_cases hx : x < 17
    · have := cp_in (f := fun k => d1 235 k) (g := d1 233) (b := 0) (k := 17) hx
      rw [Nat.zero_add] at this
      rw [this, f3 235 (by decide)]; exact b3 x hx
    · rw [cp_out (by omega), f3 233 (by decide)]; exact z2 x (by omega)
  · intro q h1 h2 h3
    rw [r2_ne _ _ h2, f1 q h1 h3]
  · intro x hx
    rw [r2_ne _ _ (by decide), f2 x hx]
  · intro q h1 h2
    rw [r2_ne _ _ h1, f3 q h2]
end REC
