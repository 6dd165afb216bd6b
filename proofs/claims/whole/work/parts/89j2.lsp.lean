/-! a call's frame, with the reference's slots of the text's reading left free -/
section LSPS
variable {E : Hp} {i : Nat → Nat → Int32} {j : Nat → Nat → Int64} {d : Nat → Nat → UInt64} {N : Nat → Int32} {r : Nat → UInt64} {B B' : Nat} {H : List Rw} {s : Option Rw}
def Nt (i i' : Nat → Nat → Int32) : Prop := (∀ q, q ≠ 229 → i' q = i q) ∧ ∀ x, x < 10 → i' 229 x = i 229 x
def LSp (E : Hp) (B : Nat) (i : Nat → Nat → Int32) (j : Nat → Nat → Int64) (d : Nat → Nat → UInt64) (fX fM : Hp → Option (Int32 × Hp)) : Prop := ∃ v i2 j2 d2, fX (mk E i j d) = some (v, mk E i2 j2 d2) ∧ (∀ q, 227 ≤ q → i2 q = i q) ∧ ∀ i3, Nt i2 i3 → ∃ i4 d4, fM (mk E i3 j2 d2) = some (v, mk E i4 j2 d4) ∧ Inv B i4 j2 d4
theorem LSp.ls {fX fM : Hp → Option (Int32 × Hp)} (a : LSp E B i j d fX fM) : LSt E B i j d fX fM := by
  obtain ⟨v, i2, j2, d2, e, -, f⟩ := a
  obtain ⟨i4, d4, e4, I⟩ := f i2 ⟨fun _ _ => rfl, fun _ _ => rfl⟩
  exact ⟨v, i2, j2, d2, i4, d4, e, e4, I⟩
theorem IV.tx (V : IV B i j d N r H s) {i' : Nat → Nat → Int32} (c : ∀ q, q ≠ 227 → q ≠ 228 → q ≠ 229 → q ≠ 236 → i' q = i q) (c9 : ∀ x, x < 8 → i' 229 x = i 229 x) (t : TX i') : IV B i' j d N r H s := by
  obtain ⟨⟨hN, hr⟩, ⟨a, w⟩, ⟨rh, xh, wh⟩, ⟨rs, xs, ws⟩, -⟩ := V
  refine ⟨⟨(c 230 (by decide) (by decide) (by decide) (by decide)).trans hN, hr⟩, ⟨a.cg w.n1.2 w.n3.2 (fun q h1 h2 => ⟨c q (by omega) (by omega) (by omega) (by omega), rfl, rfl⟩), w⟩, ⟨rh.congr (c9 6 (by decide)) (c 231 (by decide) (by decide) (by decide) (by decide)) rfl, xh.cg wh (fun q h1 h2 => ⟨c q (by omega) (by omega) (by omega) (by omega), rfl, rfl⟩), wh⟩, ⟨rs.congr (c9 7 (by decide)) (c 232 (by decide) (by decide) (by decide) (by decide)) rfl, xs.cg ws (by rw [c 0 (by decide) (by decide) (by decide) (by decide)]) (fun q h1 h2 => ⟨c q (by omega) (by omega) (by omega) (by omega), rfl, rfl⟩), ws⟩, t⟩
theorem TX.nt {i' : Nat → Nat → Int32} (t : TX i) (c : Nt i i') : TX i' := by
  obtain ⟨t1, l, tl, t2, t3⟩ := t
  exact ⟨by rw [c.1 228 (by decide), c.1 236 (by decide)]; exact t1, l, tl, by rw [c.1 227 (by decide)]; exact t2, by rw [c.2 8 (by decide)]; exact t3⟩
theorem IV.nt (V : IV B i j d N r H s) {i' : Nat → Nat → Int32} (c : Nt i i') : IV B i' j d N r H s := V.tx (fun q _ _ h9 _ => c.1 q h9) (fun x hx => c.2 x (by omega)) (V.2.2.2.2.nt c)
theorem lp_0 (V : IV B i j d N r H s) (hB : B ≤ B') {fX fM : Hp → Option (Int32 × Hp)} {v : Int32} (e1 : fX (mk E i j d) = some (v, mk E i j d)) (e2 : ∀ i2, i2 230 = N → fM (mk E i2 j d) = some (v, mk E i2 j d)) : LSp E B' i j d fX fM := ⟨v, i, j, d, e1, fun _ _ => rfl, fun i3 c => ⟨i3, d, e2 i3 ((c.1 230 (by decide)).trans V.1.1), N, r, H, s, (V.mono hB).nt c⟩⟩
theorem lp_act (h : Ev E) (V : IV B i j d N r H s) (hB : B ≤ B') {fX fM : Hp → Option (Int32 × Hp)} (v : Int32) (N' : Nat → Int32) (r' : Nat → UInt64) (w' : WF B' N' r')
    (hx : ∀ i1 j1 d1, f_X1_record (mk E i j d) (zA E 65) (some (zA E 1)) = some ((), mk E i1 j1 d1) → Rep i1 j1 d1 1 N r → ∃ i2 j2 d2, fX (mk E i j d) = some (v, mk E i2 j2 d2) ∧ Fr 1 i1 j1 d1 i2 j2 d2 ∧ Rep i2 j2 d2 1 N' r')
    (hm : ∀ i2 j2 d2 i3 d3, i2 230 = N → d2 233 = r → f_X6_record (mk E i2 j2 d2) (zA E 229) = some ((), mk E i3 j2 d3) → i3 230 = N → d3 233 = r → ∃ i4 d4, fM (mk E i2 j2 d2) = some (v, mk E i4 j2 d4) ∧ (∀ q, q ≠ 230 → i4 q = i3 q) ∧ (∀ q, q ≠ 233 → d4 q = d3 q) ∧ i4 230 = N' ∧ d4 233 = r') : LSp E B' i j d fX fM := by
  obtain ⟨⟨hN, hr⟩, ⟨a, w⟩, ⟨rh, xh, wh⟩, ⟨rs, xs, ws⟩, ⟨t1, l, tl, t2, t3⟩⟩ := V
  obtain ⟨i1, j1, d1, e1, xh1, f1⟩ := y_record h xh wh a w
  have a1 : Rep i1 j1 d1 1 N r := a.cg w.n1.2 w.n3.2 (fun q h1 h2 => f1 q (by omega))
  obtain ⟨i2, j2, d2, e2, f2, a2⟩ := hx i1 j1 d1 e1 a1
  have g2 : ∀ q, (q = 0 ∨ 33 ≤ q ∧ q < 65) ∨ 227 ≤ q → i2 q = i q ∧ j2 q = j q ∧ d2 q = d q := fun q hq => by
    have y1 := f1 q (by omega)
    have y2 := f2 q (by omega)
    exact ⟨y2.1.trans y1.1, y2.2.1.trans y1.2.1, y2.2.2.trans y1.2.2⟩
  refine ⟨v, i2, j2, d2, e2, fun q hq => (g2 q (Or.inr hq)).1, fun i5 c => ?_⟩
  obtain ⟨cq, c9⟩ := c
  have rh2 : RH i5 d2 H := rh.congr (by rw [c9 6 (by decide), (g2 229 (by omega)).1]) ((cq 231 (by decide)).trans (g2 231 (by omega)).1) (g2 234 (by omega)).2.2
  have hN2 : i5 230 = N := (cq 230 (by decide)).trans ((g2 230 (by omega)).1.trans hN)
  have hr2 : d2 233 = r := (g2 233 (by omega)).2.2.trans hr
  obtain ⟨i3, d3, e3, rh3, f31, f32, f33⟩ := x_record (j := j2) h rh2
  rw [hN2, hr2] at rh3
  obtain ⟨i4, d4, e4, f41, f42, hN4, hr4⟩ := hm i5 j2 d2 i3 d3 hN2 hr2 e3 ((f31 230 (by decide) (by decide)).trans hN2) ((f33 233 (by decide)).trans hr2)
  have wh' : WH B' (push H (N, r)) := fun k q e => ((wh.push w rh.2.1) k q e).mono hB
  have g4 : ∀ q, q < 227 → i4 q = i2 q ∧ d4 q = d2 q := fun q hq => ⟨((f41 q (by omega)).trans (f31 q (by omega) (by omega))).trans (cq q (by omega)), (f42 q (by omega)).trans (f33 q (by omega))⟩
  refine ⟨i4, d4, e4, N', r', push H (N, r), s, ⟨hN4, hr4⟩, ⟨?_, w'⟩, ⟨?_, ?_, wh'⟩, ⟨?_, ?_, fun q e => (ws q e).mono hB⟩, ?_, l, tl, ?_, ?_⟩
  · exact a2.cg w'.n1.2 w'.n3.2 (fun q h1 h2 => ⟨(g4 q (by omega)).1, rfl, (g4 q (by omega)).2⟩)
  · exact rh3.congr (by rw [f41 229 (by decide)]) (f41 231 (by decide)) (f42 234 (by decide))
  · exact xh1.cg (wh.push w rh.2.1) (fun q h1 h2 => by
      have y2 := f2 q (by omega)
      exact ⟨(g4 q h2).1.trans y2.1, y2.2.1, (g4 q h2).2.trans y2.2.2⟩)
  · exact rs.congr (by rw [f41 229 (by decide), f32 7 (by decide), c9 7 (by decide), (g2 229 (by omega)).1]) ((f41 232 (by decide)).trans ((f31 232 (by decide) (by decide)).trans ((cq 232 (by decide)).trans (g2 232 (by omega)).1))) ((f42 235 (by decide)).trans ((f33 235 (by decide)).trans (g2 235 (by omega)).2.2))
  · exact xs.cg ws (by rw [(g4 0 (by omega)).1, (g2 0 (by omega)).1]) (fun q h1 h2 => ⟨(g4 q (by omega)).1.trans (g2 q (by omega)).1, (g2 q (by omega)).2.1, (g4 q (by omega)).2.trans (g2 q (by omega)).2.2⟩)
  · rw [f41 228 (by decide), f31 228 (by decide) (by decide), cq 228 (by decide), (g2 228 (by omega)).1, f41 236 (by decide), f31 236 (by decide) (by decide), cq 236 (by decide), (g2 236 (by omega)).1]; exact t1
  · rw [f41 227 (by decide), f31 227 (by decide) (by decide), cq 227 (by decide), (g2 227 (by omega)).1]; exact t2
  · rw [f41 229 (by decide), f32 8 (by decide), c9 8 (by decide), (g2 229 (by omega)).1]; exact t3
end LSPS
