/-! the law's days, its loop, its start -/
section LOOP
variable {E S : Hp} {N : Nat → Int32} {r : Nat → UInt64} {B : Nat} {H : List Rw} {s : Option Rw}
theorem cmp3 (e : UInt64) {β : Type} {a b : β} : (if (Op.cmpValue (FP.dcmp e e) CmpOp.l) = 0 then a else if (Op.cmpValue (FP.dcmp e e) CmpOp.l) = 0 then b else if (Op.cmpValue (FP.dcmp e e) CmpOp.l) = 0 then b else a) = a := by
  by_cases c : Op.cmpValue (FP.dcmp e e) CmpOp.l = 0
  · rw [if_pos c]
  · rw [if_neg c, if_neg c, if_neg c]
theorem lpasses (h : Ev E) (A : At E S B N r H s) (M : MI N r) (hB : B ≤ 67108864) {dy p q : Nat} (hd : N 0 = nI dy) (p1 : 1 ≤ p) (p4 : p ≤ 4) (q1 : 1 ≤ q) (q4 : q ≤ 4) (hdy : dy + p + q ≤ 1000) : ∃ S' N' r' H' s', f_L_passes S (some (zA E 0)) (nI p) (nI q) = some (1, S') ∧ At E S' B N' r' H' s' ∧ MI N' r' ∧ N' 0 = nI (dy + p + q) ∧ cN N' 1 = cN N 1 := by
  have O := A.off h
  have w := A.wf
  have hB2 : B < 2 ^ 31 := by omega
  obtain ⟨S1, e1, A1⟩ : ∃ S', f_X5_keep S (zA E 0) = some (N 0, S') ∧ At E S' B N r H (some (N, r)) := by
    obtain ⟨i, j, d, rfl, V⟩ := A
    exact b_keep h V
  have O1 := A1.off h
  have ep : N 0 + nI (p + q) ≤ 1000 := by rw [hd, nI_add]; exact (nI_leI (b := 1000) (by omega) (by decide)).mpr (by omega)
  obtain ⟨S2, e2, A2⟩ : ∃ S', f_X5_pass S1 (zA E 0) (nI (p + q)) = some ((days (p + q) 0 N r).1, S') ∧ At E S' B (days (p + q) 0 N r).2.1 (days (p + q) 0 N r).2.2 (push H (N, r)) (some (N, r)) := by
    obtain ⟨i, j, d, rfl, V⟩ := A1
    exact b_pass h V hB (by omega) (by omega) ep
  obtain ⟨m1, m2, ⟨m3, m4, m5⟩, m6, m7⟩ := days_mt hB2 (p + q) 0 N r dy w M.1 hd (by omega)
  obtain ⟨k1, k2, ⟨k3, k4, k5⟩, k6, k7⟩ := days_mt hB2 p 0 N r dy w M.1 hd (by omega)
  have kw := days_ok hB2 p 0 N r w
  have ed := days_add p q 0 N r
  obtain ⟨u1, u2⟩ := days_u q (days p 0 N r).1 (days p 0 N r).2.1 (days p 0 N r).2.2
  obtain ⟨D, hD⟩ : ∃ D, D = days (p + q) 0 N r := ⟨_, rfl⟩
  obtain ⟨P, hP⟩ : ∃ P, P = days p 0 N r := ⟨_, rfl⟩
  rw [← hD] at e2 A2 m1 m2 m3 m4 m5 m6 m7 ed
  rw [← hP] at k1 k2 k3 k4 k5 k6 k7 kw ed u1 u2
  have O2 := A2.off h
  obtain ⟨dv, hdv'⟩ := dg_all (E := E) A2.wf.q
  have hdv : ∀ S K, Off E S D.2.1 D.2.2 K → f_L_digest S (some (zA E 0)) = some (dv, S) := hdv'
  have th : sThick D.2.1 D.2.2 0 = (if 0 < cN N 2 then sFore (r 0) (p + q) (r 1) else 9221120237041090560) := by
    unfold sThick
    rw [cN_of m4]
    by_cases c : 0 < cN N 2
    · rw [if_pos c, if_pos c]; exact m7 c
    · rw [if_neg c, if_neg c]
  obtain ⟨S3, e3, A3⟩ : ∃ S', f_X5_restore S2 (zA E 0) = some (N 0, S') ∧ At E S' B N r (push (push H (N, r)) (D.2.1, D.2.2)) (some (N, r)) := by
    obtain ⟨i, j, d, rfl, V⟩ := A2
    exact b_restore1 h V
  have O3 := A3.off h
  obtain ⟨S4, e4, A4⟩ : ∃ S', f_X5_pass S3 (zA E 0) (nI p) = some (P.1, S') ∧ At E S' B P.2.1 P.2.2 (push (push (push H (N, r)) (D.2.1, D.2.2)) (N, r)) (some (N, r)) := by
    obtain ⟨i, j, d, rfl, V⟩ := A3
    rw [hP]
    exact b_pass h V hB p1 (by omega) (by rw [hd, nI_add]; exact (nI_leI (b := 1000) (by omega) (by decide)).mpr (by omega))
  have O4 := A4.off h
  obtain ⟨S5, e5, A5⟩ : ∃ S', f_X5_pass S4 (zA E 0) (nI q) = some ((days q 0 P.2.1 P.2.2).1, S') ∧ At E S' B (days q 0 P.2.1 P.2.2).2.1 (days q 0 P.2.1 P.2.2).2.2 (push (push (push (push H (N, r)) (D.2.1, D.2.2)) (N, r)) (P.2.1, P.2.2)) (some (N, r)) := by
    obtain ⟨i, j, d, rfl, V⟩ := A4
    exact b_pass h V hB q1 (by omega) (by rw [k2, nI_add]; exact (nI_leI (b := 1000) (by omega) (by decide)).mpr (by omega))
  rw [← ed] at u1 u2
  rw [← u2] at A5
  have O5 := A5.off h
  have es : P.1 + (days q 0 P.2.1 P.2.2).1 = D.1 := u1.symm
  refine ⟨S5, D.2.1, D.2.2, _, _, ?_, A5, ⟨m1, by rw [m6]; exact M.2⟩, by rw [m2, show dy + (p + q) = dy + p + q by omega], cN_of m3⟩
  have c0 : D.2.1 0 = N 0 + nI p + nI q := by rw [m2, hd, nI_add, nI_add, show dy + (p + q) = dy + p + q by omega]
  have eJ : f_L_passes_J66 S2 (some (zA E 0)) (nI p) (nI q) (N 0) D.1 dv 1 = some (1, S5) := by
    unfold f_L_passes_J66
    rw [if_neg (by decide), O2.ob, o_count0 O2, cl_go, if_pos c0, O2.ob, e3, cl_go, if_pos rfl, O3.ob, b_passB, cl_go, if_pos rfl, O3.ob, e4, cl_go, O4.ob, e5, cl_go, if_pos es, hdv S5 _ O5, cl_go, if_pos (lg_refl dv)]
  unfold f_L_passes f_L_passes_J61
  rw [O.ob, e1, cl_go, O1.ob, nI_add, o_fore O1 (by omega), cl_go, O1.ob, e2, cl_go, hdv S2 _ O2, cl_go, O2.ob, o_thick0 O2, cl_go, th]
  refine Eq.trans (cmp3 _) ?_
  exact eJ
section TL
variable {sc : Nat → Int32} {L : Nat} {kout : Hp → Option Nat → Int32 → Option (Int32 × Hp)}
theorem lw_453 (h : Ev E) (A : At E S B N r H s) (M : MT N) (hg : 1 ≤ cN N 1) (e : Nat) : ∀ m t fuel, t + m = cN N 3 → m < fuel → f_L_law_L453 sc L kout fuel S (some (zA E 0)) (nI e) (nI t) = kout S (some (zA E 0)) (nI (e + 1)) := by
  have O := A.off h
  have n3 := A.wf.n3
  intro m
  induction m with
  | zero =>
    intro t fuel ht hf
    obtain ⟨f, rfl⟩ : ∃ f, fuel = f + 1 := ⟨fuel - 1, by omega⟩
    show f_L_law_L453_b sc L kout (f_L_law_L453 sc L kout f) _ _ _ _ = _
    unfold f_L_law_L453_b
    rw [O.ob, o_count3 O, cl_go, n3.1, if_pos (nI_le (by omega) (by omega)), bnd_go, nI_1]
  | succ m ih =>
    intro t fuel ht hf
    obtain ⟨f, rfl⟩ : ∃ f, fuel = f + 1 := ⟨fuel - 1, by omega⟩
    show f_L_law_L453_b sc L kout (f_L_law_L453 sc L kout f) _ _ _ _ = _
    unfold f_L_law_L453_b
    have ht3 : t < cN N 3 := by omega
    rw [O.ob, o_count3 O, cl_go, n3.1, if_neg (nI_ge (by omega) (by omega)), tour_ok O ht3 hg (M.1 t ht3) (fun x hx hne => M.2.2.1 t ht3 x hx hne), cl_go, if_neg (by decide), bnd_go, nI_1]
    exact ih (t + 1) f (by omega) (by omega)
theorem lw_436 (h : Ev E) (hl : (zL E).length = 229) (A : At E S B N r H s) (M : MT N) (hg : 1 ≤ cN N 1) (e : Nat) : f_L_law_J436 sc L kout S (some (zA E 0)) (nI e) 1 = kout S (some (zA E 0)) (nI (e + 1)) := by
  have n3 := A.wf.n3.2
  unfold f_L_law_J436
  rw [if_neg (by decide), acc_ok h hl A M.2.2.2 (fun t ht => (M.1 t ht).2.2.2.2), cl_go, if_neg (by decide)]
  exact lw_453 h A M hg e (cN N 3) 0 1000 (by omega) (by omega)
theorem lw_342a {e : Nat} {y8 y9 y10 : Int32} {y11 : Int64} (he : e < 2 ^ 31) (c : e ≤ 4 ∨ 15 ≤ y9) : f_L_law_J342 sc L kout S (some (zA E 0)) (nI e) y8 y9 y10 y11 1 = f_L_law_J436 sc L kout S (some (zA E 0)) (nI e) 1 := by
  have k : ∀ z, f_L_law_J354 sc L kout S (some (zA E 0)) (nI e) y8 y9 y10 y11 1 z = f_L_law_J436 sc L kout S (some (zA E 0)) (nI e) 1 := fun z => by
    unfold f_L_law_J354
    rw [if_neg (by decide)]
    by_cases c1 : nI e ≤ 4
    · rw [if_pos c1]
    · rw [if_neg c1]
      rcases c with c | c
      · exact absurd ((nI_leI (b := 4) he (by decide)).mpr c) c1
      · rw [if_pos c]
  unfold f_L_law_J342
  by_cases c2 : y10 = 5
  · rw [if_pos c2, k]
  · rw [if_neg c2, k]
theorem lw_342 (h : Ev E) (hl : (zL E).length = 229) (A : At E S B N r H s) (M : MI N r) (hg : 1 ≤ cN N 1) {dv : Int64} (hdv : ∀ S K, Off E S N r K → f_L_digest S (some (zA E 0)) = some (dv, S)) {B' : Nat} {S' : Hp} {N' : Nat → Int32} {r' : Nat → UInt64} {H' : List Rw} (A' : At E S' B' N' r' H' s) (M' : MI N' r') (hh : N' = N ∧ r' = r ∧ H' = H ∨ H' = push H (N, r)) (h0 : N' 0 = N 0) (h1 : cN N 1 ≤ cN N' 1) {e : Nat} {y8 y9 : Int32} : ∃ S2 N2 r2 H2, f_L_law_J342 sc L kout S' (some (zA E 0)) (nI e) y8 y9 (nI H.length) dv 1 = kout S2 (some (zA E 0)) (nI (e + 1)) ∧ At E S2 B' N2 r2 H2 s ∧ MI N2 r2 ∧ N2 0 = N 0 ∧ 1 ≤ cN N2 1 := by
  have O' := A'.off h
  have hlen := A.len
  have g' : 1 ≤ cN N' 1 := by omega
  have stay : f_L_law_J436 sc L kout S' (some (zA E 0)) (nI e) 1 = kout S' (some (zA E 0)) (nI (e + 1)) := lw_436 h hl A' M'.1 g' e
  have out : ∀ F, F = f_L_law_J436 sc L kout S' (some (zA E 0)) (nI e) 1 → ∃ S2 N2 r2 H2, F = kout S2 (some (zA E 0)) (nI (e + 1)) ∧ At E S2 B' N2 r2 H2 s ∧ MI N2 r2 ∧ N2 0 = N 0 ∧ 1 ≤ cN N2 1 := fun F eF => ⟨S', N', r', H', eF.trans stay, A', M', h0, g'⟩
  -- the act that is taken back
  have back : H' = push H (N, r) → ∃ S2 N2 r2 H2, f_L_law_J410 sc L kout S' (some (zA E 0)) (nI e) dv (if nI H.length = 5 then 4 else nI H.length) = kout S2 (some (zA E 0)) (nI (e + 1)) ∧ At E S2 B' N2 r2 H2 s ∧ MI N2 r2 ∧ N2 0 = N 0 ∧ 1 ≤ cN N2 1 := fun hp => by
    obtain ⟨Lp, e1, e2⟩ : ∃ Lp : List Rw, H' = Lp ++ [(N, r)] ∧ (if nI H.length = 5 then (4 : Int32) else nI H.length) = nI Lp.length := by
      unfold push at hp
      by_cases c : H.length = 5
      · rw [if_pos c] at hp
        refine ⟨H.tail, hp, ?_⟩
        rw [c, if_pos (show nI 5 = 5 from rfl), List.length_tail, c]; rfl
      · rw [if_neg c] at hp
        exact ⟨H, hp, if_neg (fun q => c ((nI_eq (b := 5) (by omega) (by decide)).mp q))⟩
    rw [e1] at A'
    obtain ⟨S2, e3, A2⟩ : ∃ S2, f_X5_undo S' (zA E 0) = some (nI Lp.length, S2) ∧ At E S2 B' N r Lp s := by
      obtain ⟨i, j, d, rfl, V⟩ := A'
      exact b_undo1 h V
    have O2 := A2.off h
    refine ⟨S2, N, r, Lp, ?_, A2, M, rfl, hg⟩
    unfold f_L_law_J410 f_L_law_J434
    rw [O'.ob, e3, cl_go, e2, if_pos rfl, hdv S2 _ O2, cl_go, if_pos (lg_refl dv)]
    exact lw_436 h hl A2 M.1 hg e
  have main : ∃ S2 N2 r2 H2, f_L_law_J354 sc L kout S' (some (zA E 0)) (nI e) y8 y9 (nI H.length) dv 1 (if nI H.length = 5 then 4 else nI H.length) = kout S2 (some (zA E 0)) (nI (e + 1)) ∧ At E S2 B' N2 r2 H2 s ∧ MI N2 r2 ∧ N2 0 = N 0 ∧ 1 ≤ cN N2 1 := by
    unfold f_L_law_J354
    rw [if_neg (by decide)]
    by_cases c1 : nI e ≤ 4
    · rw [if_pos c1]; exact out _ rfl
    · rw [if_neg c1]
      by_cases c2 : 15 ≤ y9
      · rw [if_pos c2]; exact out _ rfl
      · rw [if_neg c2]
        by_cases c3 : (y8 &&& 3072) = 0
        · rw [if_pos c3, O'.ob, o_count11 O', cl_go]
          rcases hh with ⟨q1, q2, q3⟩ | hp
          · rw [q3, if_pos rfl]
            by_cases c4 : nI H.length = 5
            · have e1 : f_L_digest S' (some (zA E 0)) = some (dv, S') := hdv S' H'.length (by rw [← q1, ← q2]; exact O')
              rw [if_pos c4, e1, cl_go, if_pos (lg_refl dv)]
              exact out _ rfl
            · rw [if_neg c4]; exact out _ rfl
          · by_cases c5 : nI H'.length = nI H.length
            · rw [if_pos c5]
              by_cases c4 : nI H.length = 5
              · rw [if_pos c4]
                obtain ⟨dv', hdv0⟩ := dg_all (E := E) A'.wf.q
                have hdv' : ∀ S K, Off E S N' r' K → f_L_digest S (some (zA E 0)) = some (dv', S) := hdv0
                have bk := back hp
                rw [if_pos c4] at bk
                rw [hdv' S' _ O', cl_go]
                by_cases c6 : lg_cmp dv' dv = 0
                · rw [if_pos c6]; exact out _ rfl
                · rw [if_neg c6, if_pos c4]; exact bk
              · rw [if_neg c4]; exact out _ rfl
            · rw [if_neg c5]
              exact back hp
        · rw [if_neg c3]; exact out _ rfl
  unfold f_L_law_J342
  by_cases c : nI H.length = 5
  · rw [if_pos c] at main ⊢
    exact main
  · rw [if_neg c] at main ⊢
    exact main
end TL
end LOOP
