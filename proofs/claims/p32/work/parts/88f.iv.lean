/-! an office stands on the heap: the state now, the recorded states, the snapshot; an act -/
section IVS
variable {E : Hp} {i : Nat → Nat → Int32} {j : Nat → Nat → Int64} {d : Nat → Nat → UInt64} {N : Nat → Int32} {r : Nat → UInt64} {B B' : Nat} {H : List Rw} {s : Option Rw}
def IV (B : Nat) (i : Nat → Nat → Int32) (j : Nat → Nat → Int64) (d : Nat → Nat → UInt64) (N : Nat → Int32) (r : Nat → UInt64) (H : List Rw) (s : Option Rw) : Prop :=
  (Rep i j d 1 N r ∧ WF B N r) ∧ (XH i j d H ∧ WH B H) ∧ (XS i j d s ∧ ∀ q, s = some q → WF B q.1 q.2) ∧ i 227 1 = 0
def At (E S : Hp) (B : Nat) (N : Nat → Int32) (r : Nat → UInt64) (H : List Rw) (s : Option Rw) : Prop := ∃ i j d, S = mk E i j d ∧ IV B i j d N r H s
theorem IV.rp (V : IV B i j d N r H s) : Rep i j d 1 N r := V.1.1
theorem IV.wf (V : IV B i j d N r H s) : WF B N r := V.1.2
theorem IV.mono (V : IV B i j d N r H s) (h : B ≤ B') : IV B' i j d N r H s := ⟨⟨V.1.1, V.1.2.mono h⟩, ⟨V.2.1.1, fun k q e => (V.2.1.2 k q e).mono h⟩, ⟨V.2.2.1.1, fun q e => (V.2.2.1.2 q e).mono h⟩, V.2.2.2⟩
theorem At.mono {S : Hp} (A : At E S B N r H s) (h : B ≤ B') : At E S B' N r H s := by
  obtain ⟨i, j, d, e, V⟩ := A
  exact ⟨i, j, d, e, V.mono h⟩
theorem At.wf {S : Hp} (A : At E S B N r H s) : WF B N r := by
  obtain ⟨i, j, d, e, V⟩ := A
  exact V.wf
theorem At.len {S : Hp} (A : At E S B N r H s) : H.length ≤ 5 := by
  obtain ⟨i, j, d, e, V⟩ := A
  obtain ⟨o, -, -, -, hl, -⟩ := V.2.1.1
  exact hl
theorem act (h : Ev E) (V : IV B i j d N r H s) (hB : B ≤ B') {fX : Hp → Option (Int32 × Hp)} (v : Int32) (N' : Nat → Int32) (r' : Nat → UInt64) (w' : WF B' N' r')
    (hx : ∀ i1 j1 d1, f_X1_record (mk E i j d) (zA E 65) (some (zA E 1)) = some ((), mk E i1 j1 d1) → Rep i1 j1 d1 1 N r → ∃ i2 j2 d2, fX (mk E i j d) = some (v, mk E i2 j2 d2) ∧ Fr 1 i1 j1 d1 i2 j2 d2 ∧ Rep i2 j2 d2 1 N' r') :
    ∃ S', fX (mk E i j d) = some (v, S') ∧ At E S' B' N' r' (push H (N, r)) s := by
  obtain ⟨⟨a, w⟩, ⟨xh, wh⟩, ⟨xs, ws⟩, tl⟩ := V
  have hl : H.length ≤ 5 := by obtain ⟨o, -, -, -, hl, -⟩ := xh; exact hl
  obtain ⟨i1, j1, d1, e1, xh1, f1⟩ := y_record h xh wh a w
  have a1 : Rep i1 j1 d1 1 N r := a.cg w.n1.2 w.n3.2 (fun q h1 h2 => f1 q (by omega))
  obtain ⟨i2, j2, d2, e2, f2, a2⟩ := hx i1 j1 d1 e1 a1
  have g2 : ∀ q, (q = 0 ∨ 33 ≤ q ∧ q < 65) ∨ 227 ≤ q → i2 q = i q ∧ j2 q = j q ∧ d2 q = d q := fun q hq => by
    have y1 := f1 q (by omega)
    have y2 := f2 q (by omega)
    exact ⟨y2.1.trans y1.1, y2.2.1.trans y1.2.1, y2.2.2.trans y1.2.2⟩
  refine ⟨_, e2, i2, j2, d2, rfl, ⟨a2, w'⟩, ⟨?_, fun k q e => ((wh.push w hl) k q e).mono hB⟩, ⟨?_, fun q e => (ws q e).mono hB⟩, ?_⟩
  · exact xh1.cg (wh.push w hl) (fun q h1 h2 => f2 q (by omega))
  · exact xs.cg ws (by rw [(g2 0 (by omega)).1]) (fun q h1 h2 => g2 q (by omega))
  · rw [(g2 227 (by omega)).1]; exact tl
theorem b_undo0 (h : Ev E) (V : IV B i j d N r [] s) : f_X5_undo (mk E i j d) (zA E 0) = some (-5, mk E i j d) := by
  obtain ⟨o, ho, h1, h2, hl, hR⟩ := V.2.1.1
  unfold f_X5_undo
  rw [ob_X h, R_X2 h, ob_H h, I_65 h.1 2, h2, if_pos (show nI ([] : List Rw).length = 0 from rfl)]
theorem b_undo1 (h : Ev E) {q : Rw} (V : IV B i j d N r (H ++ [q]) s) : ∃ S', f_X5_undo (mk E i j d) (zA E 0) = some (nI H.length, S') ∧ At E S' B q.1 q.2 H s := by
  obtain ⟨⟨a, w⟩, ⟨xh, wh⟩, ⟨xs, ws⟩, tl⟩ := V
  have hH : (H ++ [q]).length = H.length + 1 := by rw [List.length_append]; rfl
  have hl : (H ++ [q]).length ≤ 5 := by obtain ⟨o, -, -, -, hl, -⟩ := xh; exact hl
  have hq : (H ++ [q])[H.length]? = some q := by rw [List.getElem?_append_right (Nat.le_refl _), Nat.sub_self]; rfl
  have wq := wh _ _ hq
  have wh1 : WH B H := fun k x e => wh k x (by rw [List.getElem?_append_left (List.getElem?_eq_some_iff.mp e).1]; exact e)
  have h2 : i 65 2 = nI (H.length + 1) := by obtain ⟨o, ho, h1, h2, -⟩ := xh; rw [h2, hH]
  obtain ⟨i1, j1, d1, e1, X, R, l1, F⟩ := y_takeBack h xh wh
  refine ⟨_, ?_, i1, j1, d1, rfl, ⟨R, wq⟩, ⟨X, wh1⟩, ⟨?_, ws⟩, ?_⟩
  · unfold f_X5_undo
    rw [ob_X h, R_X2 h, ob_H h, I_65 h.1 2, h2, if_neg (nI_ne0 (by omega) (by omega)), ob_H h, R_X0 h, e1, cl_go, ob_X h, R_X2 h, ob_H h, I_65 h.1 2, l1]
  · exact xs.cg ws (by rw [(F 0 (by omega)).1]) (fun x h1 h2 => F x (by omega))
  · rw [(F 227 (by omega)).1]; exact tl
theorem b_keep (h : Ev E) (V : IV B i j d N r H s) : ∃ S', f_X5_keep (mk E i j d) (zA E 0) = some (N 0, S') ∧ At E S' B N r H (some (N, r)) := by
  obtain ⟨⟨a, w⟩, ⟨xh, wh⟩, ⟨xs, ws⟩, tl⟩ := V
  obtain ⟨i1, j1, d1, e1, F, R⟩ := y_copy h.1 h.s33 h.s1 (show Ap 33 1 by unfold Ap; omega) w a
  have F2 : ∀ q, q ≠ 0 → (q < 33 ∨ 64 < q) → (u2 i1 0 4 1) q = i q ∧ j1 q = j q ∧ d1 q = d q := fun q h0 hq => ⟨(u2_row _ _ h0).trans (F q (by omega)).1, (F q (by omega)).2⟩
  have b0 : i1 1 6 = N 0 := by rw [(F 1 (by omega)).1]; exact a.f6
  refine ⟨_, ?_, u2 i1 0 4 1, j1, d1, rfl, ⟨a.cg w.n1.2 w.n3.2 (fun q h1 h2 => F2 q (by omega) (by omega)), w⟩, ⟨xh.cg wh (fun q h1 h2 => F2 q (by omega) (by omega)), wh⟩, ⟨⟨fun e => (by cases e), fun x e => ?_⟩, fun x e => (by cases e; exact w)⟩, ?_⟩
  · unfold f_X5_keep
    rw [ob_X h, R_X1 h, ob_S h.1 h.s33, R_X0 h, e1, cl_go, ob_X h, wI_0 h.1, bnd_go, ob_X h, R_X0 h, ob_S h.1 h.s1, I_S h.1 h.s1, u2_row _ _ (by decide), b0]
  · cases e
    exact ⟨u2_self _ _ _ _, R.cg w.n1.2 w.n3.2 (fun q h1 h2 => ⟨u2_row _ _ (by omega), rfl, rfl⟩)⟩
  · rw [(F2 227 (by decide) (by omega)).1]; exact tl
theorem b_restore0 (h : Ev E) (V : IV B i j d N r H none) : f_X5_restore (mk E i j d) (zA E 0) = some (-5, mk E i j d) := by
  unfold f_X5_restore
  rw [ob_X h, I_0 h.1 4, V.2.2.1.1.1 rfl, if_pos rfl]
theorem b_restore1 (h : Ev E) {q : Rw} (V : IV B i j d N r H (some q)) : ∃ S', f_X5_restore (mk E i j d) (zA E 0) = some (q.1 0, S') ∧ At E S' B q.1 q.2 (push H (N, r)) (some q) := by
  obtain ⟨⟨a, w⟩, ⟨xh, wh⟩, ⟨xs, ws⟩, tl⟩ := V
  have hl : H.length ≤ 5 := by obtain ⟨o, -, -, -, hl, -⟩ := xh; exact hl
  have wq := ws q rfl
  obtain ⟨s1, sR⟩ := xs.2 q rfl
  obtain ⟨i1, j1, d1, e1, xh1, f1⟩ := y_record h xh wh a w
  have sR1 : Rep i1 j1 d1 33 q.1 q.2 := sR.cg wq.n1.2 wq.n3.2 (fun x h1 h2 => f1 x (by omega))
  obtain ⟨i2, j2, d2, e2, F, R⟩ := y_copy h.1 h.s1 h.s33 (show Ap 1 33 by unfold Ap; omega) wq sR1
  have g2 : ∀ x, (x = 0 ∨ 33 ≤ x ∧ x < 65) ∨ 227 ≤ x → i2 x = i x ∧ j2 x = j x ∧ d2 x = d x := fun x hx => by
    have y1 := f1 x (by omega)
    have y2 := F x (by omega)
    exact ⟨y2.1.trans y1.1, y2.2.1.trans y1.2.1, y2.2.2.trans y1.2.2⟩
  have whp := wh.push w hl
  refine ⟨_, ?_, i2, j2, d2, rfl, ⟨R, wq⟩, ⟨xh1.cg whp (fun x h1 h2 => F x (by omega)), whp⟩, ⟨xs.cg ws (by rw [(g2 0 (by omega)).1]) (fun x h1 h2 => g2 x (by omega)), ws⟩, ?_⟩
  · unfold f_X5_restore
    rw [ob_X h, I_0 h.1 4, s1, if_neg (by decide), R_X2 h, ob_H h, R_X0 h, e1, cl_go, ob_X h, R_X0 h, ob_S h.1 h.s1, R_X1 h, e2, cl_go, ob_X h, R_X0 h, ob_S h.1 h.s1, I_S h.1 h.s1, R.f6]
  · rw [(g2 227 (by omega)).1]; exact tl
end IVS
