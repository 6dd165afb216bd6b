/-! the law's cells: what is added, what guests do -/
def T4 (e : UInt64) : Prop := e = 0 ∨ e = 4621819117588971520 ∨ e = 13846598529327300608 ∨ e = 13840687554816376832
def MI (N : Nat → Int32) (r : Nat → UInt64) : Prop := MT N ∧ T4 (r 0)
def Res (E : Hp) (B' : Nat) (N : Nat → Int32) (r : Nat → UInt64) (H : List Rw) (s : Option Rw) (F : Option (Int32 × Hp)) : Prop := ∃ S' N' r' H', F = some (1, S') ∧ At E S' B' N' r' H' s ∧ MI N' r' ∧ (N' = N ∧ r' = r ∧ H' = H ∨ H' = push H (N, r)) ∧ N' 0 = N 0 ∧ cN N 1 ≤ cN N' 1
theorem low_ok (x : Int32) {m : Nat} (h0 : 0 < m) (hm : m < 2 ^ 31) : ∃ l, l < m ∧ ∀ S : Hp, f_L_low S x (nI m) = some (nI l, S) := by
  have e := pk_and x (m := 2147483647) 31 (by decide)
  obtain ⟨j, hj⟩ : ∃ j, j = x.toBitVec.toNat % 2 ^ 31 := ⟨_, rfl⟩
  have hj2 : j < 2 ^ 31 := by rw [hj]; exact Nat.mod_lt _ (by decide)
  rw [← hj] at e
  refine ⟨j % m, Nat.mod_lt _ h0, fun S => ?_⟩
  unfold f_L_low
  rw [gd_go (nI_ne0 h0 hm), e, pk_rem hj2 h0 hm]
theorem bits_ok (x : Int32) : ∃ b : Int64, (0 ≤ b ∧ b ≤ (4633641066610819072 : Int64)) ∧ ∀ S : Hp, f_L_bits S x = some (b, S) := by
  unfold f_L_bits
  by_cases c0 : x = 0
  · exact ⟨0, by decide, fun S => by rw [if_pos c0]⟩
  by_cases c1 : x = 1
  · exact ⟨4625619029774565376, by decide, fun S => by rw [if_neg c0, if_pos c1]⟩
  by_cases c2 : x = 2
  · exact ⟨4626322717216342016, by decide, fun S => by rw [if_neg c0, if_neg c1, if_pos c2]⟩
  by_cases c3 : x = 3
  · exact ⟨4631515930536653619, by decide, fun S => by rw [if_neg c0, if_neg c1, if_neg c2, if_pos c3]⟩
  by_cases c4 : x = 4
  · exact ⟨4633641066610819072, by decide, fun S => by rw [if_neg c0, if_neg c1, if_neg c2, if_neg c3, if_pos c4]⟩
  · exact ⟨4623085754984169472, by decide, fun S => by rw [if_neg c0, if_neg c1, if_neg c2, if_neg c3, if_neg c4]⟩
theorem sh_ok {c : Nat} (h : c ≤ 6) : (1 : Int32) <<< (nI c &&& 31) = nI (2 ^ c) := by
  have : c = 0 ∨ c = 1 ∨ c = 2 ∨ c = 3 ∨ c = 4 ∨ c = 5 ∨ c = 6 := by omega
  rcases this with rfl | rfl | rfl | rfl | rfl | rfl | rfl <;> decide
theorem pw_le {c : Nat} (h : c ≤ 6) : 2 ^ c ≤ 64 := Nat.pow_le_pow_right (by decide) h
theorem T4.isT {e : UInt64} (h : T4 e) : dT e := by
  unfold dT
  rcases h with rfl | rfl | rfl | rfl <;> decide
theorem T4.eq {a b : UInt64} (ha : T4 a) (hb : T4 b) : (Op.cmpValue (FP.dcmp b a) CmpOp.l = 0 ↔ b = a) ∧ (lg_cmp a.toInt64 b.toInt64 = 0 ↔ b = a) := by
  rcases ha with rfl | rfl | rfl | rfl <;> rcases hb with rfl | rfl | rfl | rfl <;> decide +kernel
section ADDS
variable {E S : Hp} {N : Nat → Int32} {r : Nat → UInt64} {B : Nat} {H : List Rw} {s : Option Rw}
theorem res_same (A : At E S B N r H s) (M : MI N r) {F : Option (Int32 × Hp)} (e : F = some (1, S)) : Res E B N r H s F := ⟨S, N, r, H, e, A, M, Or.inl ⟨rfl, rfl, rfl⟩, rfl, Nat.le_refl _⟩
theorem ladd_0 (h : Ev E) (A : At E S B N r H s) (M : MI N r) (g x : Int32) : Res E B N r H s (f_L_adds S (some (zA E 0)) 0 g x) ∧ (cN N 1 = 0 → ∃ S' N' r' H', f_L_adds S (some (zA E 0)) 0 g x = some (1, S') ∧ At E S' B N' r' H' s ∧ MI N' r' ∧ N' 0 = N 0 ∧ 1 ≤ cN N' 1) := by
  have O := A.off h
  have w := A.wf
  have n1 := w.n1
  obtain ⟨l, hl, el⟩ := low_ok g (m := 3) (by decide) (by decide)
  obtain ⟨u, hu, eu⟩ := low_ok x (m := 60) (by decide) (by decide)
  have el' : ∀ S : Hp, f_L_low S g (3 : Int32) = some (nI l, S) := el
  have eu' : ∀ S : Hp, f_L_low S x (60 : Int32) = some (nI u, S) := eu
  have e1 : (1 : Int32) + nI l = nI (1 + l) := nI_add 1 l
  have q2 : 0 ≤ nI u ∧ nI u ≤ 999 := ⟨nI_pos' (by omega), (nI_leI (b := 999) (by omega) (by decide)).mpr (by omega)⟩
  have key : ∀ S' v, f_X5_addGuide S (zA E 0) (nI (1 + l)) (nI u) = some (v, S') → (if N 1 = 8 then v = -3 else v = N 1) → f_X5_addGuide S' (zA E 0) 4 0 = some (-2, S') → Off E S' N r 0 ∨ True → (∀ {β : Type} {k : Nat → Option β}, ob S' 5 (some (zA E 0)) k = k (zA E 0)) → f_L_adds S (some (zA E 0)) 0 g x = some (1, S') := fun S' v h1 h2 h3 _ h5 => by
    unfold f_L_adds f_L_adds_J42
    rw [if_pos rfl, O.ob, o_count1 O, cl_go, el', cl_go, eu', cl_go, O.ob, e1, h1, cl_go]
    by_cases c : N 1 = 8
    · rw [if_pos c] at h2
      rw [if_pos c, if_pos h2, h5, h3, cl_go, if_pos rfl]
    · rw [if_neg c] at h2
      rw [if_neg c, if_pos h2, h5, h3, cl_go, if_pos rfl]
  by_cases q3 : cN N 1 < 8
  · have c8 : ¬ N 1 = 8 := by rw [n1.1]; exact fun e => by have := (nI_eq (b := 8) (by omega) (by decide)).mp e; omega
    obtain ⟨S', e, A'⟩ : ∃ S', f_X5_addGuide S (zA E 0) (nI (1 + l)) (nI u) = some (nI (cN N 1), S') ∧ At E S' B (gdN N (1 + l) (nI u)) r (push H (N, r)) s := by
      obtain ⟨i, j, d, rfl, V⟩ := A
      exact b_guide h V (by omega) (by omega) q2 q3
    have O' := A'.off h
    have eF := key S' _ e (by rw [if_neg c8]; exact n1.1.symm) b_guideB (Or.inr trivial) O'.ob
    have d0 : gdN N (1 + l) (nI u) 0 = N 0 := by unfold gdN; rw [up_ne (by omega), up_ne (by omega), up_ne (by omega), up_ne (by omega), up_ne (by omega)]
    have c1 : cN (gdN N (1 + l) (nI u)) 1 = cN N 1 + 1 := by unfold gdN; exact cN_eq rfl (by omega)
    have m1 : MI (gdN N (1 + l) (nI u)) r := ⟨mt_guide M.1 w.q q3, M.2⟩
    exact ⟨⟨S', _, _, _, eF, A', m1, Or.inr rfl, d0, by omega⟩, fun _ => ⟨S', _, _, _, eF, A', m1, d0, by omega⟩⟩
  · have c8 : N 1 = 8 := by rw [n1.1, show cN N 1 = 8 by omega]; rfl
    have q1 : 1 ≤ nI (1 + l) ∧ nI (1 + l) ≤ 3 := ⟨(nI_leI (a := 1) (by decide) (by omega)).mpr (by omega), (nI_leI (b := 3) (by omega) (by decide)).mpr (by omega)⟩
    have e : f_X5_addGuide S (zA E 0) (nI (1 + l)) (nI u) = some (-3, S) := by
      obtain ⟨i, j, d, rfl, V⟩ := A
      exact b_guideF h V q1 q2 q3
    have eF := key S _ e (by rw [if_pos c8]) b_guideB (Or.inr trivial) O.ob
    exact ⟨res_same A M eF, fun e => by omega⟩
theorem ladd_102 (h : Ev E) (A : At E S B N r H s) (M : MI N r) {b : Int64} (q1 : 0 ≤ b ∧ b ≤ (4647503709213818880 : Int64)) : Res E B N r H s (f_L_adds_J102 S (some (zA E 0)) (N 2) b) := by
  have O := A.off h
  have w := A.wf
  have n2 := w.n2
  have key : ∀ S' v, f_X5_addBridge S (zA E 0) b = some (v, S') → (if N 2 = 6 then v = -3 else v = N 2) → f_L_adds_J102 S (some (zA E 0)) (N 2) b = some (1, S') := fun S' v h1 h2 => by
    unfold f_L_adds_J102 f_L_adds_J160
    rw [O.ob, b_bridgeB (by decide), cl_go, if_pos rfl, O.ob, b_bridgeB (by decide), cl_go, if_pos rfl, O.ob, b_bridgeB (by decide), cl_go, if_pos rfl, O.ob, h1, cl_go]
    by_cases c : N 2 = 6
    · rw [if_pos c] at h2
      rw [if_pos c, if_pos h2]
    · rw [if_neg c] at h2
      rw [if_neg c, if_pos h2]
  by_cases q3 : cN N 2 < 6
  · have c6 : ¬ N 2 = 6 := by rw [n2.1]; exact fun e => by have := (nI_eq (b := 6) (by omega) (by decide)).mp e; omega
    obtain ⟨S', e, A'⟩ : ∃ S', f_X5_addBridge S (zA E 0) b = some (nI (cN N 2), S') ∧ At E S' B (brN N) (vf_upd r (1 + cN N 2) b.toUInt64) (push H (N, r)) s := by
      obtain ⟨i, j, d, rfl, V⟩ := A
      exact b_bridge h V q1 q3
    refine ⟨S', _, _, _, key S' _ e (by rw [if_neg c6]; exact n2.1.symm), A', ⟨mt_bridge M.1 w.q, by rw [vp_ne (by omega)]; exact M.2⟩, Or.inr rfl, up_ne (by omega), Nat.le_of_eq (cN_of (up_ne (by omega))).symm⟩
  · have c6 : N 2 = 6 := by rw [n2.1, show cN N 2 = 6 by omega]; rfl
    have e : f_X5_addBridge S (zA E 0) b = some (-3, S) := by
      obtain ⟨i, j, d, rfl, V⟩ := A
      exact b_bridgeF h V q1 q3
    exact res_same A M (key S _ e (by rw [if_pos c6]))
theorem ladd_1 (h : Ev E) (A : At E S B N r H s) (M : MI N r) (g x : Int32) : Res E B N r H s (f_L_adds S (some (zA E 0)) 1 g x) := by
  have O := A.off h
  unfold f_L_adds
  rw [if_neg (by decide), if_pos rfl, O.ob, o_count2 O, cl_go]
  by_cases c : (x &&& 3) = 0
  · rw [if_pos c]; exact ladd_102 h A M (by decide)
  · rw [if_neg c]
    by_cases c2 : (x &&& 3) = 1
    · rw [if_pos c2]; exact ladd_102 h A M (by decide)
    · rw [if_neg c2]; exact ladd_102 h A M (by decide)
theorem ladd_224 (h : Ev E) (A : At E S B N r H s) (M : MI N r) {z : Int64} (hz : T4 z.toUInt64) : Res E B N r H s (f_L_adds_J224 S (some (zA E 0)) (r 0).toInt64 z) := by
  have O := A.off h
  have w := A.wf
  obtain ⟨t1, t2⟩ := T4.eq M.2 hz
  have tz : z.toUInt64.toInt64 = z := by simp
  rw [tz] at t2
  unfold f_L_adds_J224
  rw [O.ob, b_tempB (by unfold dT; decide), cl_go, if_pos rfl, O.ob, b_tempB (by unfold dT; decide), cl_go, if_pos rfl, O.ob]
  have lg : lg_cmp z z = 0 := by
    have := (T4.eq hz hz).2.mpr rfl
    rw [tz] at this
    exact this
  by_cases c : z.toUInt64 = r 0
  · have e : f_X5_setTemperature S (zA E 0) z = some (-5, S) := by
      obtain ⟨i, j, d, rfl, V⟩ := A
      exact b_tempN h V hz.isT (t1.mpr c)
    rw [e, cl_go, if_pos (t2.mpr c)]
    unfold f_L_adds_J270
    rw [if_pos rfl, O.ob, o_temp O, cl_go, ← c, tz, if_pos lg]
    exact res_same A M rfl
  · obtain ⟨S', e, A'⟩ : ∃ S', f_X5_setTemperature S (zA E 0) z = some (1, S') ∧ At E S' B N (vf_upd r 0 z.toUInt64) (push H (N, r)) s := by
      obtain ⟨i, j, d, rfl, V⟩ := A
      exact b_temp h V hz.isT (fun q => c (t1.mp q))
    have O' := A'.off h
    rw [e, cl_go, if_neg (fun q => c (t2.mp q))]
    unfold f_L_adds_J270
    rw [if_pos rfl, O'.ob, o_temp O', cl_go, vp_eq, tz, if_pos lg]
    exact ⟨S', _, _, _, rfl, A', ⟨M.1, by rw [vp_eq]; exact hz⟩, Or.inr rfl, rfl, Nat.le_refl _⟩
theorem ladd_2 (h : Ev E) (A : At E S B N r H s) (M : MI N r) (g x : Int32) : Res E B N r H s (f_L_adds S (some (zA E 0)) 2 g x) := by
  have O := A.off h
  unfold f_L_adds
  rw [if_neg (by decide), if_neg (by decide), if_pos rfl, O.ob, o_temp O, cl_go]
  by_cases c : 2 ≤ (x &&& 7)
  · rw [if_pos c]
    by_cases c2 : 4 ≤ (x &&& 7)
    · rw [if_pos c2]
      by_cases c3 : 6 ≤ (x &&& 7)
      · rw [if_pos c3]; exact ladd_224 h A M (Or.inr (Or.inr (Or.inr rfl)))
      · rw [if_neg c3]; exact ladd_224 h A M (Or.inr (Or.inr (Or.inl rfl)))
    · rw [if_neg c2]; exact ladd_224 h A M (Or.inr (Or.inl rfl))
  · rw [if_neg c]; exact ladd_224 h A M (Or.inl rfl)
theorem add_ref (h : Ev E) {S' : Hp} {N' : Nat → Int32} {r' : Nat → UInt64} {H' : List Rw} {B' : Nat} (A : At E S' B' N' r' H' s) {x y br : Int32} {b : Int64} (q : ¬ ((N' 0 ≤ x ∧ x ≤ 999) ∧ (0 ≤ b ∧ b ≤ (4633641066610819072 : Int64)) ∧ (1 ≤ y ∧ y ≤ 9999) ∧ (0 ≤ br ∧ br ≤ (1 <<< (nI (cN N' 2) &&& 31)) - 1))) : f_X5_addTour S' (zA E 0) x b y br = some (-2, S') := by
  obtain ⟨i, j, d, rfl, V⟩ := A
  exact b_addB h V q
theorem ladd_3 (h : Ev E) (A : At E S B N r H s) (M : MI N r) (hB : B ≤ 67108864) {sort : Int32} (k0 : ¬ sort = 0) (k1 : ¬ sort = 1) (k2 : ¬ sort = 2) {dy : Nat} (hd : N 0 = nI dy) (hdy : dy ≤ 1000) (g x : Int32) : Res E B N r H s (f_L_adds S (some (zA E 0)) sort g x) := by
  have O := A.off h
  have w := A.wf
  have n2 := w.n2
  have n3 := w.n3
  obtain ⟨l1, hl1, e1⟩ := low_ok g (m := 18) (by decide) (by decide)
  obtain ⟨b1, hb1, e2⟩ := low_ok x (m := 2 ^ cN N 2) (Nat.two_pow_pos _) (by have := pw_le n2.2; omega)
  obtain ⟨l3, hl3, e3⟩ := low_ok (g >>> (5 &&& 31)) (m := 6) (by decide) (by decide)
  obtain ⟨bb, hbb, e4⟩ := bits_ok (nI l3)
  obtain ⟨p, hp, e5⟩ := low_ok (x >>> (4 &&& 31)) (m := 9999) (by decide) (by decide)
  have e1' : ∀ S : Hp, f_L_low S g (18 : Int32) = some (nI l1, S) := e1
  have e3' : ∀ S : Hp, f_L_low S (g >>> (5 &&& 31)) (6 : Int32) = some (nI l3, S) := e3
  have e5' : ∀ S : Hp, f_L_low S (x >>> (4 &&& 31)) (9999 : Int32) = some (nI p, S) := e5
  have pw := pw_le n2.2
  have sh : (1 : Int32) <<< (N 2 &&& 31) = nI (2 ^ cN N 2) := by rw [n2.1]; exact sh_ok n2.2
  have eday : N 0 + nI l1 = nI (dy + l1) := by rw [hd, nI_add]
  have epr : (1 : Int32) + nI p = nI (1 + p) := nI_add 1 p
  have q4 : 0 ≤ nI b1 ∧ nI b1 ≤ (1 <<< (nI (cN N 2) &&& 31)) - 1 := by
    rw [sh_ok n2.2]
    refine ⟨nI_pos' (by omega), ?_⟩
    rw [show nI (2 ^ cN N 2) - 1 = nI (2 ^ cN N 2 - 1) from pk_sub (b := 1) (Nat.two_pow_pos _)]
    exact nI_le (by omega) (by omega)
  have q3 : 1 ≤ nI (1 + p) ∧ nI (1 + p) ≤ 9999 := ⟨(nI_leI (a := 1) (by decide) (by omega)).mpr (by omega), (nI_leI (b := 9999) (by omega) (by decide)).mpr (by omega)⟩
  have key : ∀ S' v N' r' H' B', f_X5_addTour S (zA E 0) (nI (dy + l1)) bb (nI (1 + p)) (nI b1) = some (v, S') → At E S' B' N' r' H' s → N' 0 = N 0 → N' 2 = N 2 → (if nI (dy + l1) ≤ 999 then (if N 3 = 10 then v = -3 else v = N 3) else v = -2) → (¬ v < 0 → cN N 3 < cN N' 3 ∧ N' (40 + 14 * cN N 3 + 0) = nI (dy + l1) ∧ N' (40 + 14 * cN N 3 + 2) = nI b1 ∧ N' (40 + 14 * cN N 3 + 3) = 0) → f_L_adds S (some (zA E 0)) sort g x = some (1, S') := fun S' v N' r' H' B' h1 A' z0 z2 h2 h3 => by
    have O' := A'.off h
    have n2' : nI (cN N' 2) = N 2 := by rw [← A'.wf.n2.1, z2]
    have f1 : f_X5_addTour S' (zA E 0) (N' 0 - 1) 0 1 0 = some (-2, S') := add_ref h A' (fun q => by
      have := q.1.1
      rw [z0, hd] at this
      by_cases c : dy = 0
      · rw [c] at this; exact absurd this (by decide)
      · rw [show nI dy - 1 = nI (dy - 1) from pk_sub (b := 1) (by omega)] at this
        have := (nI_leI (by omega) (by omega)).mp this
        omega)
    have f2 : f_X5_addTour S' (zA E 0) (nI (dy + l1)) 4633641066610819073 1 0 = some (-2, S') := add_ref h A' (fun q => absurd q.2.1 (by decide))
    have f3 : f_X5_addTour S' (zA E 0) (nI (dy + l1)) 0 1 (1 <<< (N' 2 &&& 31)) = some (-2, S') := add_ref h A' (fun q => by
      have := q.2.2.2.2
      rw [n2', z2, sh, show nI (2 ^ cN N 2) - 1 = nI (2 ^ cN N 2 - 1) from pk_sub (b := 1) (Nat.two_pow_pos _)] at this
      have := (nI_leI (by omega) (by omega)).mp this
      have := Nat.two_pow_pos (cN N 2)
      omega)
    unfold f_L_adds
    rw [if_neg k0, if_neg k1, if_neg k2, O.ob, o_count3 O, cl_go, O.ob, o_count0 O, cl_go, e1', cl_go, bnd_go, O.ob, o_count2 O, cl_go, sh, e2, cl_go, e3', cl_go, e4, cl_go, e5', cl_go, O.ob, eday, epr, h1, cl_go, O'.ob, o_count0 O', cl_go, O'.ob, f1, cl_go, if_pos rfl, O'.ob, f2, cl_go, if_pos rfl, O'.ob, o_count2 O', cl_go, O'.ob, f3, cl_go, if_pos rfl]
    have fin : f_L_adds_J451 S' (some (zA E 0)) (N 3) (nI (dy + l1)) (nI b1) v v v = some (1, S') := by
      unfold f_L_adds_J451
      rw [if_pos rfl]
      by_cases c : v < 0
      · rw [if_pos c]
      · obtain ⟨g0, g1, g2, g3⟩ := h3 c
        rw [if_neg c, n3.1, O'.ob, o_tour0 O' g0, cl_go, if_pos g1, O'.ob, o_tour2 O' g0, cl_go, if_pos g2, O'.ob, o_tour3 O' g0, cl_go, if_pos g3]
    unfold f_L_adds_J415
    rw [if_neg (by decide)]
    by_cases c : nI (dy + l1) ≤ 999
    · rw [if_pos c] at h2 ⊢
      by_cases c2 : N 3 = 10
      · rw [if_pos c2] at h2 ⊢
        rw [h2] at fin ⊢; exact fin
      · rw [if_neg c2] at h2 ⊢
        rw [h2] at fin ⊢; exact fin
    · rw [if_neg c] at h2 ⊢
      rw [h2] at fin ⊢; exact fin
  by_cases c : dy + l1 ≤ 999
  · have c' : nI (dy + l1) ≤ 999 := (nI_leI (b := 999) (by omega) (by decide)).mpr c
    have q1 : N 0 ≤ nI (dy + l1) ∧ nI (dy + l1) ≤ 999 := ⟨by rw [hd]; exact nI_le (by omega) (by omega), c'⟩
    by_cases q5 : cN N 3 < 10
    · have c10 : ¬ N 3 = 10 := by rw [n3.1]; exact fun e => by have := (nI_eq (b := 10) (by omega) (by decide)).mp e; omega
      obtain ⟨S', e, A'⟩ : ∃ S', f_X5_addTour S (zA E 0) (nI (dy + l1)) bb (nI (1 + p)) (nI b1) = some (nI (cN N 3), S') ∧ At E S' B (trN N (nI (dy + l1)) (1 + p) (nI b1)) (vf_upd r (7 + cN N 3) bb.toUInt64) (push H (N, r)) s := by
        obtain ⟨i, j, d, rfl, V⟩ := A
        exact b_add h V hB q1 hbb (by omega) (by omega) q4 q5
      have z0 : trN N (nI (dy + l1)) (1 + p) (nI b1) 0 = N 0 := tr_ne (by omega) (by omega)
      have z2 : trN N (nI (dy + l1)) (1 + p) (nI b1) 2 = N 2 := tr_ne (by omega) (by omega)
      refine ⟨S', _, _, _, key S' _ _ _ _ _ e A' z0 z2 (by rw [if_pos c', if_neg c10]; exact n3.1.symm) (fun _ => ⟨by rw [tr_n q5]; omega, tr_d, tr_b, tr_0 (by omega) (by omega)⟩), A', ⟨mt_add M.1 w.q q1.1 q5, by rw [vp_ne (by omega)]; exact M.2⟩, Or.inr rfl, z0, Nat.le_of_eq (cN_of (tr_ne (by omega) (by omega))).symm⟩
    · have c10 : N 3 = 10 := by rw [n3.1, show cN N 3 = 10 by omega]; rfl
      have e : f_X5_addTour S (zA E 0) (nI (dy + l1)) bb (nI (1 + p)) (nI b1) = some (-3, S) := by
        obtain ⟨i, j, d, rfl, V⟩ := A
        exact b_addF h V q1 hbb q3 q4 q5
      exact res_same A M (key S _ _ _ _ _ e A rfl rfl (by rw [if_pos c', if_pos c10]) (fun q => absurd (by decide) q))
  · have c' : ¬ nI (dy + l1) ≤ 999 := fun e => c ((nI_leI (b := 999) (by omega) (by decide)).mp e)
    have e : f_X5_addTour S (zA E 0) (nI (dy + l1)) bb (nI (1 + p)) (nI b1) = some (-2, S) := add_ref h A (fun q => c' q.1.2)
    exact res_same A M (key S _ _ _ _ _ e A rfl rfl (by rw [if_neg c']) (fun q => absurd (by decide) q))
end ADDS
