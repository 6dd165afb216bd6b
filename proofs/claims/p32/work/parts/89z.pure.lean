/-! the law's days, its loop, its start -/
section TLP
variable {E S : Hp} {N : Nat → Int32} {r : Nat → UInt64} {B : Nat} {H : List Rw} {s : Option Rw} {sc : Nat → Int32} {L : Nat} {kout : Hp → Option Nat → Int32 → Option (Int32 × Hp)}
theorem clv_go {β : Type} {v : Int32} {k : Int32 → Option β} : clv (some v) k = k v := rfl
theorem cell_ok (sc : Nat → Int32) {L i : Nat} (hi : i < 2 ^ 31) : ∃ v, cellv sc L (nI i) = some v := by
  unfold cellv
  by_cases c : nI L ≤ nI i
  · rw [if_pos c]; exact ⟨_, rfl⟩
  · have hc : i < L := by
      rcases Nat.lt_or_ge i L with q | q
      · exact q
      · exact absurd (nI_le q hi) c
    have hn : ¬ (nI i < 0 ∨ L ≤ (nI i).toNatClampNeg) := fun z => by
      rcases z with z | z
      · exact absurd z (Int32.not_lt.mpr (nI_le (Nat.zero_le i) hi))
      · rw [nI_clamp hi] at z; omega
    rw [if_neg c, if_pos hn]; exact ⟨_, rfl⟩
/-- the next cell stands -/
def Nx (E : Hp) (kout : Hp → Option Nat → Int32 → Option (Int32 × Hp)) (B' e dy9 : Nat) (F : Option (Int32 × Hp)) : Prop := ∃ S2 N2 r2 H2 s2 dy2, F = kout S2 (some (zA E 0)) (nI (e + 1)) ∧ At E S2 B' N2 r2 H2 s2 ∧ MI N2 r2 ∧ N2 0 = nI dy2 ∧ dy2 ≤ dy9 ∧ 1 ≤ cN N2 1
theorem lw_res (h : Ev E) (hl : (zL E).length = 229) (A : At E S B N r H s) (M : MI N r) (hg : 1 ≤ cN N 1) {dv : Int64} (hdv : ∀ S K, Off E S N r K → f_L_digest S (some (zA E 0)) = some (dv, S)) {dy : Nat} (hd : N 0 = nI dy) {B' B2 : Nat} {F : Option (Int32 × Hp)} (R : Res E B' N r H s F) (hB : B' ≤ B2) (e : Nat) (y8 y9 : Int32) : Nx E kout B2 e (dy + 8) (cl F fun v S' => f_L_law_J342 sc L kout S' (some (zA E 0)) (nI e) y8 y9 (nI H.length) dv v) ∧ Nx E kout B2 e (dy + 8) (cl F fun v S' => if v = 0 then f_L_law_J342 sc L kout S' (some (zA E 0)) (nI e) y8 y9 (nI H.length) dv 0 else f_L_law_J342 sc L kout S' (some (zA E 0)) (nI e) y8 y9 (nI H.length) dv 1) := by
  obtain ⟨S', N', r', H', eF, A', M', hh, h0, h1⟩ := R
  obtain ⟨S2, N2, r2, H2, q1, q2, q3, q4, q5⟩ := lw_342 (sc := sc) (L := L) (kout := kout) h hl A M hg hdv A' M' hh h0 h1 (e := e) (y8 := y8) (y9 := y9)
  have z : Nx E kout B2 e (dy + 8) (f_L_law_J342 sc L kout S' (some (zA E 0)) (nI e) y8 y9 (nI H.length) dv 1) := ⟨S2, N2, r2, H2, s, dy, q1, q2.mono hB, q3, by rw [q4, hd], by omega, q5⟩
  rw [eF, cl_go, cl_go, if_neg (by decide)]
  exact ⟨z, z⟩
theorem lw_164 (h : Ev E) (hl : (zL E).length = 229) (A : At E S B N r H s) (M : MI N r) (hg : 1 ≤ cN N 1) (hB : B + 119988 ≤ 67108864) {dy : Nat} (hd : N 0 = nI dy) (hdy : dy ≤ 900) {e so : Nat} (he : e < 2 ^ 31) (hso : so < 18) (g x : Int32) : Nx E kout (B + 119988) e (dy + 8) (f_L_law_J164 sc L kout S (some (zA E 0)) (nI e) g x (nI so)) := by
  have O := A.off h
  obtain ⟨dv, hdv'⟩ := dg_all (E := E) A.wf.q
  have hdv : ∀ S K, Off E S N r K → f_L_digest S (some (zA E 0)) = some (dv, S) := hdv'
  have n3 := A.wf.n3
  have R0 : Res E (B + 119988) N r H s (some (1, S)) := res_same (A.mono (by omega)) M rfl
  have stay := fun y8 y9 => (lw_res (sc := sc) (L := L) (kout := kout) h hl A M hg hdv hd R0 (Nat.le_refl _) e y8 y9).1
  have pos : ¬ N 3 = 0 → 0 < cN N 3 := fun z => Nat.pos_of_ne_zero (fun q => z (by rw [n3.1, q]; rfl))
  unfold f_L_law_J164
  rw [O.ob, o_count11 O, cl_go, hdv S _ O, cl_go]
  by_cases c4 : 4 ≤ so
  · rw [if_pos (show (4 : Int32) ≤ nI so from nI_le (a := 4) (b := so) c4 (by omega))]
    by_cases c8 : 8 ≤ so
    · rw [if_pos (show (8 : Int32) ≤ nI so from nI_le (a := 8) (b := so) c8 (by omega))]
      by_cases c12 : 12 ≤ so
      · rw [if_pos (show (12 : Int32) ≤ nI so from nI_le (a := 12) (b := so) c12 (by omega))]
        by_cases c15 : 15 ≤ so
        · have k15 : (15 : Int32) ≤ nI so := nI_le (a := 15) (b := so) c15 (by omega)
          obtain ⟨l1, b1, q1⟩ := low_ok x (m := 4) (by decide) (by decide)
          obtain ⟨l2, b2, q2⟩ := low_ok (x >>> (4 &&& 31)) (m := 4) (by decide) (by decide)
          obtain ⟨S', N', r', H', s', eF, A', M', hd', hc'⟩ := lpasses h A M (by omega) hd (p := 1 + l1) (q := 1 + l2) (by omega) (by omega) (by omega) (by omega) (by omega)
          rw [if_pos k15, show f_L_low S x (4 : Int32) = _ from q1 S, cl_go, show f_L_low S (x >>> (4 &&& 31)) (4 : Int32) = _ from q2 S, cl_go, show (1 : Int32) + nI l1 = nI (1 + l1) from nI_add 1 l1, show (1 : Int32) + nI l2 = nI (1 + l2) from nI_add 1 l2, eF, cl_go, lw_342a he (Or.inr k15), lw_436 h hl A' M'.1 (by omega) e]
          exact ⟨S', N', r', H', s', _, rfl, A'.mono (by omega), M', hd', by omega, by omega⟩
        · rw [if_neg (show ¬ (15 : Int32) ≤ nI so from nI_ge (a := so) (b := 15) (by omega) (by decide)), O.ob, o_count3 O, cl_go]
          by_cases z : N 3 = 0
          · rw [if_pos z]; exact stay x (nI so)
          · rw [if_neg z]
            exact (lw_res h hl A M hg hdv hd (lends h A M (by omega) (pos z) (nI so) g x) (by omega) e x (nI so)).2
      · rw [if_neg (show ¬ (12 : Int32) ≤ nI so from nI_ge (a := so) (b := 12) (by omega) (by decide)), O.ob, o_count3 O, cl_go]
        by_cases z : N 3 = 0
        · rw [if_pos z]; exact stay x (nI so)
        · rw [if_neg z]
          exact (lw_res h hl A M hg hdv hd (lrows h A M (pos z) (nI so) g x) (by omega) e x (nI so)).2
    · rw [if_neg (show ¬ (8 : Int32) ≤ nI so from nI_ge (a := so) (b := 8) (by omega) (by decide)), O.ob, o_count3 O, cl_go]
      by_cases z : N 3 = 0
      · rw [if_pos z]; exact stay x (nI so)
      · rw [if_neg z]
        exact (lw_res h hl A M hg hdv hd (lguests h A M hB (pos z) (nI so) g x) (by omega) e x (nI so)).2
  · rw [if_neg (show ¬ (4 : Int32) ≤ nI so from nI_ge (a := so) (b := 4) (by omega) (by decide))]
    have R : Res E B N r H s (f_L_adds S (some (zA E 0)) (nI so) g x) := by
      by_cases z0 : so = 0
      · subst z0; exact (ladd_0 h A M g x).1
      by_cases z1 : so = 1
      · subst z1; exact ladd_1 h A M g x
      by_cases z2 : so = 2
      · subst z2; exact ladd_2 h A M g x
      have z3 : so = 3 := by omega
      subst z3
      exact ladd_3 h A M (by omega) (by decide) (by decide) (by decide) hd (by omega) g x
    exact (lw_res h hl A M hg hdv hd R (by omega) e x (nI so)).1
theorem lw_first (h : Ev E) (hl : (zL E).length = 229) (A : At E S B N r H s) (M : MI N r) (c0 : cN N 1 = 0) {dy : Nat} (hd : N 0 = nI dy) (g x : Int32) : Nx E kout (B + 119988) 0 (dy + 8) (f_L_law_J164 sc L kout S (some (zA E 0)) (nI 0) g x 0) := by
  have O := A.off h
  obtain ⟨dv, hdv'⟩ := dg_all (E := E) A.wf.q
  have hdv : ∀ S K, Off E S N r K → f_L_digest S (some (zA E 0)) = some (dv, S) := hdv'
  obtain ⟨S', N', r', H', eF, A', M', h0, h1⟩ := (ladd_0 h A M g x).2 c0
  unfold f_L_law_J164
  rw [O.ob, o_count11 O, cl_go, hdv S _ O, cl_go, if_neg (by decide), eF, cl_go, lw_342a (by decide) (Or.inl (by decide)), lw_436 h hl A' M'.1 h1 0]
  exact ⟨S', N', r', H', s, dy, rfl, A'.mono (by omega), M', by rw [h0, hd], by omega, h1⟩
theorem lw_95 (h : Ev E) (hl : (zL E).length = 229) : ∀ m e fuel S B N r H s dy, e + m = 28 → m < fuel → At E S B N r H s → MI N r → B ≤ 119988 * e → N 0 = nI dy → dy ≤ 8 * e → (1 ≤ e → 1 ≤ cN N 1) → (e = 0 → cN N 1 = 0) → ∃ S9, f_L_law_L95 sc L fuel S (some (zA E 0)) (nI e) = some ((1 : Int32), S9) := by
  intro m
  induction m with
  | zero =>
    intro e fuel S B N r H s dy he hf A M hB hd hdy c1 c0
    obtain ⟨f, rfl⟩ : ∃ f, fuel = f + 1 := ⟨fuel - 1, by omega⟩
    show ∃ S9, f_L_law_L95_b sc L (f_L_law_L95 sc L f) _ _ _ = _
    unfold f_L_law_L95_b
    rw [if_pos (show (28 : Int32) ≤ nI e from nI_le (a := 28) (b := e) (by omega) (by omega))]
    exact ⟨_, rfl⟩
  | succ m ih =>
    intro e fuel S B N r H s dy he hf A M hB hd hdy c1 c0
    obtain ⟨f, rfl⟩ : ∃ f, fuel = f + 1 := ⟨fuel - 1, by omega⟩
    show ∃ S9, f_L_law_L95_b sc L (f_L_law_L95 sc L f) _ _ _ = _
    unfold f_L_law_L95_b
    obtain ⟨v1, q1⟩ := cell_ok sc (L := L) (i := 2 * e) (by omega)
    obtain ⟨v2, q2⟩ := cell_ok sc (L := L) (i := 2 * e + 1) (by omega)
    have go : ∀ F, Nx E (f_L_law_L95 sc L f) (B + 119988) e (dy + 8) F → ∃ S9, F = some ((1 : Int32), S9) := fun F X => by
      obtain ⟨S2, N2, r2, H2, s2, dy2, eF, A2, M2, hd2, hdy2, hg2⟩ := X
      rw [eF]
      exact ih (e + 1) f S2 (B + 119988) N2 r2 H2 s2 dy2 (by omega) (by omega) A2 M2 (by omega) hd2 (by omega) (fun _ => hg2) (fun z => by omega)
    rw [if_neg (show ¬ (28 : Int32) ≤ nI e from nI_ge (a := e) (b := 28) (by omega) (by decide)), show (2 : Int32) * nI e = nI (2 * e) from pk_mul 2 e, q1, clv_go, nI_1, q2, clv_go]
    by_cases e2 : 2 ≤ e
    · have hg := c1 (by omega)
      rw [if_pos (show (2 : Int32) ≤ nI e from nI_le (a := 2) (b := e) e2 (by omega))]
      by_cases e3 : e = 2
      · rw [if_pos (by rw [e3]; rfl)]
        exact go _ (lw_164 (so := 1) h hl A M hg (by omega) hd (by omega) (by omega) (by decide) v1 v2)
      · rw [if_neg (fun z : nI e = (2 : Int32) => e3 ((nI_eq (a := e) (b := 2) (by omega) (by decide)).mp z))]
        by_cases e5 : 5 ≤ e
        · obtain ⟨l, b, q⟩ := low_ok (v1 >>> (9 &&& 31)) (m := 18) (by decide) (by decide)
          rw [if_pos (show (5 : Int32) ≤ nI e from nI_le (a := 5) (b := e) e5 (by omega)), show f_L_low S (v1 >>> (9 &&& 31)) (18 : Int32) = _ from q S, cl_go]
          exact go _ (lw_164 (so := l) h hl A M hg (by omega) hd (by omega) (by omega) b v1 v2)
        · rw [if_neg (show ¬ (5 : Int32) ≤ nI e from nI_ge (a := e) (b := 5) (by omega) (by decide))]
          exact go _ (lw_164 (so := 3) h hl A M hg (by omega) hd (by omega) (by omega) (by decide) v1 v2)
    · rw [if_neg (show ¬ (2 : Int32) ≤ nI e from nI_ge (a := e) (b := 2) (by omega) (by decide))]
      by_cases e0 : e = 0
      · subst e0
        exact go _ (lw_first h hl A M (c0 rfl) hd v1 v2)
      · exact go _ (lw_164 (so := 0) h hl A M (c1 (by omega)) (by omega) hd (by omega) (by omega) (by decide) v1 v2)
end TLP
section START
variable {E : Hp} {i : Nat → Nat → Int32} {j : Nat → Nat → Int64} {d : Nat → Nat → UInt64} {N : Nat → Int32} {r : Nat → UInt64} {B : Nat} {H : List Rw} {s : Option Rw}
/-- the empty text is a fault at its first place -/
theorem perf0 (h : Ev E) (V : IV B i j d N r H s) : ∃ i1, f_X5_perform (mk E i j d) (zA E 0) = some (-100, mk E i1 j d) ∧ IV B i1 j d N r H s := by
  have wl : f_X3_wordLength (mk E i j d) (zA E 227) = some (0, mk E i j d) := by
    show f_X3_wordLength_L2_b (f_X3_wordLength_L2 999) _ _ _ = _
    unfold f_X3_wordLength_L2_b
    rw [ob_Y h, I_227 h.1, V.2.2.2, if_pos (by decide)]
  have n0 : ∀ y, y < 5 → ¬ (0 : Int32) = nI (txL.getD y 0) := by decide
  have is : ∀ y, y < 5 → f_X3_isWord (mk E i j d) (zA E 227) y 0 = some (0, mk E i j d) := fun y hy => by
    unfold f_X3_isWord
    rw [gd_go hy, if_neg (n0 y hy)]
  have cm : f_X3_commandOf (mk E i j d) (zA E 227) 0 = some (0, mk E i j d) := by
    unfold f_X3_commandOf
    rw [ob_Y h, is 0 (by decide), cl_go, if_pos rfl, ob_Y h, is 1 (by decide), cl_go, if_pos rfl, ob_Y h, is 2 (by decide), cl_go, if_pos rfl, ob_Y h, is 3 (by decide), cl_go, if_pos rfl, ob_Y h, is 4 (by decide), cl_go, if_pos rfl]
  have rd : f_X3_read (mk E i j d) (zA E 227) = some (0, mk E (u2 i 227 2 0) j d) := by
    unfold f_X3_read
    rw [ob_Y h, wl, cl_go, ob_Y h, cm, cl_go, ob_Y h, wI_227 h.1, bnd_go, ob_Y h, I_227 h.1, u2_self, if_pos rfl]
  refine ⟨u2 i 227 2 0, ?_, ?_⟩
  · unfold f_X5_perform
    rw [ob_X h, R_X3 h, ob_Y h, rd, cl_go, if_neg (by decide)]
    rfl
  · obtain ⟨⟨a, w⟩, ⟨xh, wh⟩, ⟨xs, ws⟩, tl⟩ := V
    exact ⟨⟨a.cg w.n1.2 w.n3.2 (fun p h1 h2 => ⟨u2_row _ _ (by omega), rfl, rfl⟩), w⟩, ⟨xh.cg wh (fun p h1 h2 => ⟨u2_row _ _ (by omega), rfl, rfl⟩), wh⟩, ⟨xs.cg ws (by rw [u2_row _ _ (by decide)]) (fun p h1 h2 => ⟨u2_row _ _ (by omega), rfl, rfl⟩), ws⟩, by rw [u2_nek _ _ (by decide)]; exact tl⟩
theorem cN0 (x : Nat) : cN (fun _ => (0 : Int32)) x = 0 := rfl
theorem sP0 : ∀ n, sPaid (fun _ => (0 : Int32)) n = 0
  | 0 => rfl
  | n + 1 => by
    show sPaid (fun _ => (0 : Int32)) n + cN (fun _ => (0 : Int32)) (40 + 14 * n + 5) = 0
    rw [sP0 n, cN0]
theorem Cn0 (x b : Nat) : Cn (fun _ => (0 : Int32)) x b := ⟨by rw [cN0]; rfl, by rw [cN0]; exact Nat.zero_le _⟩
theorem iv_0 : IV 0 (fun _ _ => 0) (fun _ _ => 0) (fun _ _ => 0) (fun _ => 0) (fun _ => 0) [] none := by
  have wf : WF 0 (fun _ => (0 : Int32)) (fun _ => (0 : UInt64)) := by
    refine ⟨⟨⟨Cn0 _ _, Cn0 _ _, Cn0 _ _⟩, fun g hg => ?_, fun t ht => ?_, ⟨fun _ _ => rfl, fun _ _ => rfl⟩, Or.inl (by decide), fun b hb => (show (0 : UInt64).toNat ≤ 4647503709213818880 by decide)⟩, fun t ht => Cn0 _ _, by rw [sP0]; exact Nat.le_refl _⟩
    · rw [cN0] at hg; omega
    · rw [cN0] at ht; omega
  refine ⟨⟨⟨⟨rfl, rfl, rfl, rfl, rfl, rfl, rfl⟩, fun g hg => ?_, fun b hb => rfl, fun t ht => ?_⟩, wf⟩, ⟨⟨0, by decide, rfl, rfl, Nat.zero_le _, fun k q e => ?_⟩, fun k q e => ?_⟩, ⟨⟨fun _ => rfl, fun q e => ?_⟩, fun q e => ?_⟩, rfl⟩
  · rw [cN0] at hg; omega
  · rw [cN0] at ht; omega
  · rw [List.getElem?_nil] at e; cases e
  · rw [List.getElem?_nil] at e; cases e
  · cases e
  · cases e
theorem mi_0 : MI (fun _ => 0) (fun _ => 0) := by
  refine ⟨⟨fun t ht => ?_, fun t ht => ?_, fun t ht => ?_, rfl, rfl⟩, Or.inl rfl⟩
  · rw [cN0] at ht; omega
  · rw [cN0] at ht; omega
  · rw [cN0] at ht; omega
theorem law_start (h : Ev E) (hl : (zL E).length = 229) (V : IV 0 i j d (fun _ => 0) (fun _ => 0) [] none) (sc : Nat → Int32) (L : Nat) : ∃ S9, f_L_law sc L (mk E i j d) (some (zA E 0)) = some ((1 : Int32), S9) := by
  obtain ⟨i1, ep, V1⟩ := perf0 h V
  have hx : ¬ ∃ t, t < cN (fun _ => (0 : Int32)) 3 ∧ (0 : Int32) = nI t := fun ⟨t, ht, _⟩ => absurd ht (Nat.not_lt_zero t)
  have nn : ¬ Op.cmpValue (FP.dcmp 9221120237041090560 9221120237041090560) CmpOp.l = 0 := by decide +kernel
  unfold f_L_law
  rw [ob_X h, o_thick0 (At.off h ⟨i, j, d, rfl, V⟩), cl_go, ob_X h, a_neededN h V.rp V.wf hx, cl_go, ob_X h, b_undo0 h V, cl_go, if_pos rfl, ob_X h, b_restore0 h V, cl_go, if_pos rfl, ob_X h, ep, cl_go, if_pos rfl, ob_X h, b_mergeU h V1 hx, cl_go, if_pos rfl, ob_X h, a_bestN h V1.rp V1.wf hx, cl_go, if_pos rfl, ob_X h, a_temp h V1.rp, cl_go, if_pos (by decide)]
  rw [if_neg (show ¬ Op.cmpValue (FP.dcmp (sThick (fun _ => 0) (fun _ => 0) 0) (sThick (fun _ => 0) (fun _ => 0) 0)) CmpOp.l = 0 from nn), if_neg nn]
  exact lw_95 h hl 28 0 1000 _ 0 _ _ _ _ 0 (by omega) (by omega) ⟨i1, j, d, rfl, V1⟩ mi_0 (by omega) rfl (by omega) (fun z => by omega) (fun _ => rfl)
end START
theorem pure_law (sc : Nat → Int32) (L : Nat) (hL : L ≤ 260) (S : Hp) (h : Ini S) : ∃ S9, f_L_law sc L S (some (zA S 0)) = some ((1 : Int32), S9) := by
  have e := ini_mk h
  have ev : Ev S := ⟨⟨h.2.1, Nat.le_of_eq h.1.symm⟩, h.2.2.1, trivial⟩
  have := law_start ev h.1 iv_0 sc L
  rw [e] at this
  exact this
