/-! the acts, one by one: the history, the snapshot, the text -/
section ACTS9
variable {E : Hp} {i : Nat → Nat → Int32} {j : Nat → Nat → Int64} {d : Nat → Nat → UInt64} {N : Nat → Int32} {r : Nat → UInt64} {B : Nat} {H : List Rw} {s : Option Rw}
theorem snoc {α : Type} (l : List α) : l = [] ∨ ∃ L b, l = L ++ [b] := by
  induction l with
  | nil => exact Or.inl rfl
  | cons a l ih =>
    rcases ih with rfl | ⟨L, b, rfl⟩
    · exact Or.inr ⟨[], a, rfl⟩
    · exact Or.inr ⟨a :: L, b, rfl⟩
theorem WQ.zN (w : WQ N r) {x : Nat} (hx : 180 ≤ x) : N x = 0 := w.2.2.2.1.1 x hx
theorem WQ.zr (w : WQ N r) {x : Nat} (hx : 17 ≤ x) : r x = 0 := w.2.2.2.1.2 x hx
theorem a_undo (h : Ev E) (V : IV B i j d N r H s) (hB : B + 119988 ≤ 67108864) : LSt E (B + 119988) i j d (fun S => f_X5_undo S (zA E 0)) (fun S => f_X6_undo S (zA E 229)) := by
  have V0 := V
  obtain ⟨⟨hN, hr⟩, ⟨a, w⟩, ⟨rh, xh, wh⟩, ⟨rs, xs, ws⟩, ⟨t1, l, tl, t2, t3⟩⟩ := V
  rcases snoc H with rfl | ⟨H1, q, rfl⟩
  · refine ls_0 V0 (by omega) (v := -5) ?_ (x_undo0 h rh)
    obtain ⟨o, ho, h1, h2, hl, hR⟩ := xh
    show f_X5_undo _ _ = _
    unfold f_X5_undo
    rw [ob_X h, R_X2 h, ob_H h, I_65 h.1 2, h2, if_pos (show nI ([] : List Rw).length = 0 from rfl)]
  · have hH : (H1 ++ [q]).length = H1.length + 1 := by rw [List.length_append]; rfl
    have hl : (H1 ++ [q]).length ≤ 5 := rh.2.1
    have hq : (H1 ++ [q])[H1.length]? = some q := by rw [List.getElem?_append_right (Nat.le_refl _), Nat.sub_self]; rfl
    have wq := wh _ _ hq
    have wh1 : WH B H1 := fun k x e => wh k x (by rw [List.getElem?_append_left (List.getElem?_eq_some_iff.mp e).1]; exact e)
    have h2 : i 65 2 = nI (H1.length + 1) := by obtain ⟨o, ho, h1, h2, -⟩ := xh; rw [h2, hH]
    obtain ⟨i1, j1, d1, e1, X, R, l1, F⟩ := y_takeBack h xh wh
    have rh1 : RH i1 d1 (H1 ++ [q]) := rh.congr (by rw [(F 229 (by omega)).1]) (F 231 (by omega)).1 (F 234 (by omega)).2.2
    have k1 : i1 230 = N := (F 230 (by omega)).1.trans hN
    have k2 : d1 233 = r := (F 233 (by omega)).2.2.trans hr
    obtain ⟨i4, d4, e4, rh4, z1, z2, g1, g2, g3⟩ := x_undo1 (j := j1) h rh1 (fun x hx => by rw [k1, w.q.zN hx, wq.q.zN hx]) (fun x hx => by rw [k2, w.q.zr hx, wq.q.zr hx])
    refine ⟨nI H1.length, i1, j1, d1, i4, d4, ?_, e4, q.1, q.2, H1, s, ⟨z1, z2⟩, ⟨?_, wq.mono (by omega)⟩, ⟨rh4, ?_, fun k x e => (wh1 k x e).mono (by omega)⟩, ⟨?_, ?_, fun x e => (ws x e).mono (by omega)⟩, ?_, l, tl, ?_, ?_⟩
    · show f_X5_undo _ _ = _
      unfold f_X5_undo
      rw [ob_X h, R_X2 h, ob_H h, I_65 h.1 2, h2, if_neg (nI_ne0 (by omega) (by omega)), ob_H h, R_X0 h, e1, cl_go, ob_X h, R_X2 h, ob_H h, I_65 h.1 2, l1]
    · exact R.cg wq.n1.2 wq.n3.2 (fun x h1 h2 => ⟨g1 x (by omega) (by omega), rfl, g3 x (by omega)⟩)
    · exact X.cg wh1 (fun x h1 h2 => ⟨g1 x (by omega) (by omega), rfl, g3 x (by omega)⟩)
    · exact rs.congr (by rw [g2 7 (by decide), (F 229 (by omega)).1]) ((g1 232 (by decide) (by decide)).trans (F 232 (by omega)).1) ((g3 235 (by decide)).trans (F 235 (by omega)).2.2)
    · exact xs.cg ws (by rw [g1 0 (by decide) (by decide), (F 0 (by omega)).1]) (fun x h1 h2 => ⟨(g1 x (by omega) (by omega)).trans (F x (by omega)).1, (F x (by omega)).2.1, (g3 x (by omega)).trans (F x (by omega)).2.2⟩)
    · rw [g1 228 (by decide) (by decide), (F 228 (by omega)).1, g1 236 (by decide) (by decide), (F 236 (by omega)).1]; exact t1
    · rw [g1 227 (by decide) (by decide), (F 227 (by omega)).1]; exact t2
    · rw [g2 8 (by decide), (F 229 (by omega)).1]; exact t3
theorem a_keep (h : Ev E) (V : IV B i j d N r H s) (hB : B + 119988 ≤ 67108864) : LSt E (B + 119988) i j d (fun S => f_X5_keep S (zA E 0)) (fun S => f_X6_keep S (zA E 229)) := by
  obtain ⟨⟨hN, hr⟩, ⟨a, w⟩, ⟨rh, xh, wh⟩, ⟨rs, xs, ws⟩, ⟨t1, l, tl, t2, t3⟩⟩ := V
  obtain ⟨i1, j1, d1, e1, F, R⟩ := y_copy h.1 h.s33 h.s1 (show Ap 33 1 by unfold Ap; omega) w a
  have F2 : ∀ q, q ≠ 0 → (q < 33 ∨ 64 < q) → (u2 i1 0 4 1) q = i q ∧ j1 q = j q ∧ d1 q = d q := fun q h0 hq => ⟨(u2_row _ _ h0).trans (F q (by omega)).1, (F q (by omega)).2⟩
  have k0 : i1 0 = i 0 := (F 0 (by omega)).1
  have k1 : (u2 i1 0 4 1) 230 = N := (F2 230 (by decide) (by omega)).1.trans hN
  have k2 : d1 233 = r := (F2 233 (by decide) (by omega)).2.2.trans hr
  obtain ⟨i4, d4, e4, rs4, g1, g2, g3⟩ := x_keep (i := u2 i1 0 4 1) (j := j1) (d := d1) h
  rw [k1] at e4
  rw [k1, k2] at rs4
  have b0 : i1 1 6 = N 0 := by rw [(F 1 (by omega)).1]; exact a.f6
  refine ⟨N 0, u2 i1 0 4 1, j1, d1, i4, d4, ?_, e4, N, r, H, some (N, r), ⟨(g1 230 (by decide) (by decide)).trans k1, (g3 233 (by decide)).trans k2⟩, ⟨?_, w.mono (by omega)⟩, ⟨?_, ?_, fun k x e => (wh k x e).mono (by omega)⟩, ⟨rs4, ⟨fun e => (by cases e), fun x e => ?_⟩, fun x e => (by cases e; exact w.mono (by omega))⟩, ?_, l, tl, ?_, ?_⟩
  · show f_X5_keep _ _ = _
    unfold f_X5_keep
    rw [ob_X h, R_X1 h, ob_S h.1 h.s33, R_X0 h, e1, cl_go, ob_X h, wI_0 h.1, bnd_go, ob_X h, R_X0 h, ob_S h.1 h.s1, I_S h.1 h.s1, u2_row _ _ (by decide), b0]
  · exact a.cg w.n1.2 w.n3.2 (fun q h1 h2 => ⟨(g1 q (by omega) (by omega)).trans (F2 q (by omega) (by omega)).1, (F2 q (by omega) (by omega)).2.1, (g3 q (by omega)).trans (F2 q (by omega) (by omega)).2.2⟩)
  · exact rh.congr (by rw [g2 6 (by decide), (F2 229 (by decide) (by omega)).1]) ((g1 231 (by decide) (by decide)).trans (F2 231 (by decide) (by omega)).1) ((g3 234 (by decide)).trans (F2 234 (by decide) (by omega)).2.2)
  · exact xh.cg wh (fun q h1 h2 => ⟨(g1 q (by omega) (by omega)).trans (F2 q (by omega) (by omega)).1, (F2 q (by omega) (by omega)).2.1, (g3 q (by omega)).trans (F2 q (by omega) (by omega)).2.2⟩)
  · cases e
    refine ⟨by rw [g1 0 (by decide) (by decide), u2_self], R.cg w.n1.2 w.n3.2 (fun q h1 h2 => ⟨(g1 q (by omega) (by omega)).trans (u2_row _ _ (by omega)), rfl, g3 q (by omega)⟩)⟩
  · rw [g1 228 (by decide) (by decide), (F2 228 (by decide) (by omega)).1, g1 236 (by decide) (by decide), (F2 236 (by decide) (by omega)).1]; exact t1
  · rw [g1 227 (by decide) (by decide), (F2 227 (by decide) (by omega)).1]; exact t2
  · rw [g2 8 (by decide), (F2 229 (by decide) (by omega)).1]; exact t3
theorem a_restore (h : Ev E) (V : IV B i j d N r H s) (hB : B + 119988 ≤ 67108864) : LSt E (B + 119988) i j d (fun S => f_X5_restore S (zA E 0)) (fun S => f_X6_restore S (zA E 229)) := by
  have V0 := V
  obtain ⟨⟨hN, hr⟩, ⟨a, w⟩, ⟨rh, xh, wh⟩, ⟨rs, xs, ws⟩, ⟨t1, l, tl, t2, t3⟩⟩ := V
  cases s with
  | none =>
    refine ls_0 V0 (by omega) (v := -5) ?_ (x_restore0 h rs)
    show f_X5_restore _ _ = _
    unfold f_X5_restore
    rw [ob_X h, I_0 h.1 4, xs.1 rfl, if_pos rfl]
  | some q =>
    have wq := ws q rfl
    obtain ⟨s1, sR⟩ := xs.2 q rfl
    obtain ⟨i1, j1, d1, e1, xh1, f1⟩ := y_record h xh wh a w
    have sR1 : Rep i1 j1 d1 33 q.1 q.2 := sR.cg wq.n1.2 wq.n3.2 (fun x h1 h2 => f1 x (by omega))
    obtain ⟨i2, j2, d2, e2, F, R⟩ := y_copy h.1 h.s1 h.s33 (show Ap 1 33 by unfold Ap; omega) wq sR1
    have g2 : ∀ x, (x = 0 ∨ 33 ≤ x ∧ x < 65) ∨ 227 ≤ x → i2 x = i x ∧ j2 x = j x ∧ d2 x = d x := fun x hx => by
      have y1 := f1 x (by omega)
      have y2 := F x (by omega)
      exact ⟨y2.1.trans y1.1, y2.2.1.trans y1.2.1, y2.2.2.trans y1.2.2⟩
    have rh2 : RH i2 d2 H := rh.congr (by rw [(g2 229 (by omega)).1]) (g2 231 (by omega)).1 (g2 234 (by omega)).2.2
    have rs2 : RS i2 d2 (some q) := rs.congr (by rw [(g2 229 (by omega)).1]) (g2 232 (by omega)).1 (g2 235 (by omega)).2.2
    have k1 : i2 230 = N := (g2 230 (by omega)).1.trans hN
    have k2 : d2 233 = r := (g2 233 (by omega)).2.2.trans hr
    obtain ⟨i4, d4, e4, rh4, z1, z2, p1, p2, p3⟩ := x_restore1 (j := j2) h rh2 rs2 (fun x hx => by rw [k1, w.q.zN hx, wq.q.zN hx]) (fun x hx => by rw [k2, w.q.zr hx, wq.q.zr hx])
    rw [k1, k2] at rh4
    have whp := wh.push w rh.2.1
    refine ⟨q.1 0, i2, j2, d2, i4, d4, ?_, e4, q.1, q.2, push H (N, r), some q, ⟨z1, z2⟩, ⟨?_, wq.mono (by omega)⟩, ⟨rh4, ?_, fun k x e => (whp k x e).mono (by omega)⟩, ⟨?_, ?_, fun x e => (ws x e).mono (by omega)⟩, ?_, l, tl, ?_, ?_⟩
    · show f_X5_restore _ _ = _
      unfold f_X5_restore
      rw [ob_X h, I_0 h.1 4, s1, if_neg (by decide), R_X2 h, ob_H h, R_X0 h, e1, cl_go, ob_X h, R_X0 h, ob_S h.1 h.s1, R_X1 h, e2, cl_go, ob_X h, R_X0 h, ob_S h.1 h.s1, I_S h.1 h.s1, R.f6]
    · exact R.cg wq.n1.2 wq.n3.2 (fun x h1 h2 => ⟨p1 x (by omega) (by omega) (by omega), rfl, p3 x (by omega) (by omega)⟩)
    · exact xh1.cg whp (fun x h1 h2 => ⟨(p1 x (by omega) (by omega) (by omega)).trans (F x (by omega)).1, (F x (by omega)).2.1, (p3 x (by omega) (by omega)).trans (F x (by omega)).2.2⟩)
    · exact rs.congr (by rw [p2 7 (by decide), (g2 229 (by omega)).1]) ((p1 232 (by decide) (by decide) (by decide)).trans (g2 232 (by omega)).1) ((p3 235 (by decide) (by decide)).trans (g2 235 (by omega)).2.2)
    · exact xs.cg ws (by rw [p1 0 (by decide) (by decide) (by decide), (g2 0 (by omega)).1]) (fun x h1 h2 => ⟨(p1 x (by omega) (by omega) (by omega)).trans (g2 x (by omega)).1, (g2 x (by omega)).2.1, (p3 x (by omega) (by omega)).trans (g2 x (by omega)).2.2⟩)
    · rw [p1 228 (by decide) (by decide) (by decide), (g2 228 (by omega)).1, p1 236 (by decide) (by decide) (by decide), (g2 236 (by omega)).1]; exact t1
    · rw [p1 227 (by decide) (by decide) (by decide), (g2 227 (by omega)).1]; exact t2
    · rw [p2 8 (by decide), (g2 229 (by omega)).1]; exact t3
theorem a_type (h : Ev E) (V : IV B i j d N r H s) (hB : B + 119988 ≤ 67108864) (x : Int32) : LSt E (B + 119988) i j d (fun S => f_X5_type S (zA E 0) x) (fun S => f_X6_type S (zA E 229) x) := by
  obtain ⟨t1, l, tl, t2, t3⟩ := V.2.2.2.2
  by_cases q : l = 40
  · subst q
    refine ls_0 V (by omega) (v := -3) ?_ ?_
    · show f_X5_type _ _ _ = _
      unfold f_X5_type
      rw [ob_X h, R_X3 h, ob_Y h, I_227 h.1, t2, if_neg (by decide)]
    · show f_X6_type _ _ _ = _
      unfold f_X6_type
      rw [ob_M h, I_229 h.1, t3, if_pos (by decide)]
  · have hl : l < 40 := by omega
    have c40 : nI l < 40 := (nI_ltI (b := 40) (by omega) (by decide)).mpr hl
    refine ⟨nI (l + 1), u2 (u2 i 228 l (vp_nar .char x)) 227 1 (nI (l + 1)), j, d, u2 (u2 (u2 (u2 i 228 l (vp_nar .char x)) 227 1 (nI (l + 1))) 236 l (vp_nar .char x)) 229 8 (nI (l + 1)), d, ?_, ?_, N, r, H, s, (V.mono (by omega)).tx ?_ ?_ ⟨?_, l + 1, by omega, ?_, ?_⟩⟩
    · show f_X5_type _ _ _ = _
      unfold f_X5_type f_X3_append
      rw [ob_X h, R_X3 h, ob_Y h, I_227 h.1, t2, if_pos c40, ob_Y h, ob_Y h, I_227 h.1, t2, if_neg (show ¬ (40 : Int32) ≤ nI l from fun e => by have := (nI_leI (a := 40) (by decide) (by omega)).mp e; omega), R_Y h, ar_Y h hl, wI_228 h.1, bnd_go, ob_Y h, ob_Y h, I_227 h.1, u2_row _ _ (by decide : (227 : Nat) ≠ 228), t2, nI_1, wI_227 h.1, bnd_go, cl_go, ob_X h, R_X3 h, ob_Y h, I_227 h.1, u2_self]
    · show f_X6_type _ _ _ = _
      unfold f_X6_type
      rw [ob_M h, I_229 h.1, u2_row _ _ (by decide : (229 : Nat) ≠ 227), u2_row _ _ (by decide : (229 : Nat) ≠ 228), t3, if_neg (show ¬ nI l = 40 from fun e => by have := (nI_eq (b := 40) (by omega) (by decide)).mp e; omega), R_txt h, ar_txtn h hl, wI_236 h.1, bnd_go, ob_M h, ob_M h, I_229 h.1, u2_row _ _ (by decide : (229 : Nat) ≠ 236), u2_row _ _ (by decide : (229 : Nat) ≠ 227), u2_row _ _ (by decide : (229 : Nat) ≠ 228), t3, nI_1, wI_229 h.1, bnd_go, ob_M h, I_229 h.1, u2_self]
    · intro q h7 h8 h9 h6
      rw [u2_row _ _ h9, u2_row _ _ h6, u2_row _ _ h7, u2_row _ _ h8]
    · intro x hx
      rw [u2_nek _ _ (by omega), u2_row _ _ (by decide), u2_row _ _ (by decide), u2_row _ _ (by decide)]
    · rw [u2_row _ _ (by decide : (228 : Nat) ≠ 229), u2_row _ _ (by decide : (228 : Nat) ≠ 236), u2_row _ _ (by decide : (228 : Nat) ≠ 227), u2_row _ _ (by decide : (236 : Nat) ≠ 229), upd_u2, upd_u2, u2_row _ _ (by decide : (236 : Nat) ≠ 227), u2_row _ _ (by decide : (236 : Nat) ≠ 228), t1]
    · rw [u2_row _ _ (by decide : (227 : Nat) ≠ 229), u2_row _ _ (by decide : (227 : Nat) ≠ 236), u2_self]
    · rw [u2_self]
theorem a_clear (h : Ev E) (V : IV B i j d N r H s) (hB : B + 119988 ≤ 67108864) : LSt E (B + 119988) i j d (fun S => f_X5_clearText S (zA E 0)) (fun S => f_X6_clearText S (zA E 229)) := by
  obtain ⟨t1, l, tl, t2, t3⟩ := V.2.2.2.2
  refine ⟨nI l, u2 i 227 1 0, j, d, u2 (u2 i 227 1 0) 229 8 0, d, ?_, ?_, N, r, H, s, (V.mono (by omega)).tx ?_ ?_ ⟨?_, 0, by omega, ?_, ?_⟩⟩
  · show f_X5_clearText _ _ = _
    unfold f_X5_clearText
    rw [ob_X h, R_X3 h, ob_Y h, bnd_go, ob_Y h, I_227 h.1, t2, wI_227 h.1, bnd_go]
  · show f_X6_clearText _ _ = _
    unfold f_X6_clearText
    rw [ob_M h, bnd_go, ob_M h, I_229 h.1, u2_row _ _ (by decide : (229 : Nat) ≠ 227), t3, wI_229 h.1, bnd_go]
  · intro q h7 h8 h9 h6
    rw [u2_row _ _ h9, u2_row _ _ h7]
  · intro x hx
    rw [u2_nek _ _ (by omega), u2_row _ _ (by decide)]
  · rw [u2_row _ _ (by decide : (228 : Nat) ≠ 229), u2_row _ _ (by decide : (228 : Nat) ≠ 227), u2_row _ _ (by decide : (236 : Nat) ≠ 229), u2_row _ _ (by decide : (236 : Nat) ≠ 227)]; exact t1
  · rw [u2_row _ _ (by decide : (227 : Nat) ≠ 229), u2_self]; rfl
  · rw [u2_self]; rfl
end ACTS9
