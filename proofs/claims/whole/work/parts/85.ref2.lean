/-! the reference's questions: ropes -/
theorem bnd_go {α β : Type} {x : α} {k : α → Option β} : bnd x k = k x := rfl
section REF2
variable {E : Hp} {i : Nat → Nat → Int32} {j : Nat → Nat → Int64} {d : Nat → Nat → UInt64} {B : Nat}
theorem sLeft_s {N : Nat → Int32} {r : Nat → UInt64} (t k : Nat) : sLeft N r t (k + 1) = sLeft N r t k - sRat N r t (gN N t k) := (Nat.sub_sub _ _ _).symm
theorem x_baseOf (h : Ev E) {t : Nat} (ht : t < 10) : f_X6_baseOf (mk E i j d) (zA E 229) (nI t) = some (sBase (d 233 (7 + t)), mk E i j d) := by
  unfold f_X6_baseOf
  rw [ob_M h, R_rea h, ar_rea h (x := 7 + nI t) (7 + t) (nI_add 7 t) (by omega), bnd_go, D_233 h.1]
  unfold sBase
  repeat' split
  all_goals rfl
theorem x_ratio (h : Ev E) (w : WF B (i 230) (d 233)) {t g : Nat} (ht : t < 10) (hg : g < cN (i 230) 1) : f_X6_ratio (mk E i j d) (zA E 229) (nI t) (nI g) = some (nI (sRat (i 230) (d 233) t g), mk E i j d) := by
  have hg8 : g < 8 := Nat.lt_of_lt_of_le hg w.n1.2
  unfold f_X6_ratio
  rw [ob_M h, x_baseOf h ht, cl_go, ob_M h, x_ofG0 h hg8, cl_go, bnd_go]
  exact rat_val (w.kl hg).1 (w.kl hg).2 (fun v => some (v, mk E i j d))
theorem x_onRope_L (h : Ev E) (w : WF B (i 230) (d 233)) {t : Nat} (ht : t < cN (i 230) 3) (pl : Nat) (hpl : pl ≤ 4) : ∀ m k fuel, k + m = cN (i 230) (40 + 14 * t + 4) → k ≤ pl → m < fuel → f_X6_onRope_L10 fuel (mk E i j d) (zA E 229) (nI t) (nI pl) (nI (sLeft (i 230) (d 233) t k)) (nI k) = some (nI (if pl < cN (i 230) (40 + 14 * t + 4) then sOn (i 230) (d 233) t pl else sLeft (i 230) (d 233) t (cN (i 230) (40 + 14 * t + 4))), mk E i j d) := by
  have h10 := w.t10 ht
  obtain ⟨hM, hM4⟩ := w.many ht
  have hG := (w.guests ht).2
  intro m
  induction m with
  | zero =>
    intro k fuel hk hp hf
    obtain ⟨f, rfl⟩ : ∃ f, fuel = f + 1 := ⟨fuel - 1, by omega⟩
    show f_X6_onRope_L10_b (f_X6_onRope_L10 f) _ _ _ _ _ _ = _
    unfold f_X6_onRope_L10_b
    rw [ob_M h, x_of4 h h10, cl_go, hM, if_pos (nI_le (by omega) (by omega)), if_neg (by omega)]
    rw [show k = cN (i 230) (40 + 14 * t + 4) by omega]
  | succ m ih =>
    intro k fuel hk hp hf
    obtain ⟨f, rfl⟩ : ∃ f, fuel = f + 1 := ⟨fuel - 1, by omega⟩
    show f_X6_onRope_L10_b (f_X6_onRope_L10 f) _ _ _ _ _ _ = _
    unfold f_X6_onRope_L10_b
    obtain ⟨hr, hr1, hr8⟩ := w.rowk ht (k := k) (by omega)
    have hR := w.rat ht (k := k) (by omega)
    have hL := sLeft_g (N := i 230) (r := d 233) (t := t) k
    have hs := sLeft_s (N := i 230) (r := d 233) t k
    rw [ob_M h, x_of4 h h10, cl_go, hM, if_neg (nI_ge (by omega) (by omega)), ob_M h, x_guideOn h h10 (by omega), cl_go, hr, ob_M h, x_ratio h w h10 hr1, cl_go]
    by_cases q : sLeft (i 230) (d 233) t k ≤ sRat (i 230) (d 233) t (gN (i 230) t k)
    · rw [if_pos ((nI_leI (by omega) (by omega)).mpr q)]
      by_cases e : k = pl
      · rw [if_pos (by rw [e]), if_pos (by omega), ← e]
        unfold sOn
        rw [hs, show sLeft (i 230) (d 233) t k - sRat (i 230) (d 233) t (gN (i 230) t k) = 0 by omega, Nat.sub_zero]
      · rw [if_neg (fun a => e ((nI_eq (by omega) (by omega)).mp a)), bnd_go, bnd_go, nI_1]
        have := ih (k + 1) f (by omega) (by omega) (by omega)
        rw [hs, show sLeft (i 230) (d 233) t k - sRat (i 230) (d 233) t (gN (i 230) t k) = sLeft (i 230) (d 233) t k - sLeft (i 230) (d 233) t k by omega] at this
        rw [pk_sub (Nat.le_refl _)]
        exact this
    · rw [if_neg (fun a => q ((nI_leI (by omega) (by omega)).mp a)), ob_M h, x_guideOn h h10 (by omega), cl_go, hr, ob_M h, x_ratio h w h10 hr1, cl_go]
      by_cases e : k = pl
      · rw [if_pos (by rw [e]), if_pos (by omega), ← e]
        unfold sOn
        rw [hs, show sLeft (i 230) (d 233) t k - (sLeft (i 230) (d 233) t k - sRat (i 230) (d 233) t (gN (i 230) t k)) = sRat (i 230) (d 233) t (gN (i 230) t k) by omega]
      · rw [if_neg (fun a => e ((nI_eq (by omega) (by omega)).mp a)), bnd_go, bnd_go, nI_1, pk_sub (by omega)]
        have := ih (k + 1) f (by omega) (by omega) (by omega)
        rw [hs] at this
        exact this
theorem x_onRope (h : Ev E) (w : WF B (i 230) (d 233)) {t : Nat} (ht : t < cN (i 230) 3) {pl : Nat} (hpl : pl ≤ 4) : f_X6_onRope (mk E i j d) (zA E 229) (nI t) (nI pl) = some (nI (if pl < cN (i 230) (40 + 14 * t + 4) then sOn (i 230) (d 233) t pl else sLeft (i 230) (d 233) t (cN (i 230) (40 + 14 * t + 4))), mk E i j d) := by
  unfold f_X6_onRope
  rw [ob_M h, x_of3 h (w.t10 ht), cl_go, (w.guests ht).1]
  have hM4 := (w.many ht).2
  exact x_onRope_L h w ht pl hpl (cN (i 230) (40 + 14 * t + 4)) 0 1000 (by omega) (by omega) (by omega)
theorem x_onRope1 (h : Ev E) (w : WF B (i 230) (d 233)) {t : Nat} (ht : t < cN (i 230) 3) {pl : Nat} (hpl : pl < cN (i 230) (40 + 14 * t + 4)) : f_X6_onRope (mk E i j d) (zA E 229) (nI t) (nI pl) = some (nI (sOn (i 230) (d 233) t pl), mk E i j d) := by
  rw [x_onRope h w ht (by have := (w.many ht).2; omega), if_pos hpl]
theorem x_leftOver (h : Ev E) (w : WF B (i 230) (d 233)) {t : Nat} (ht : t < cN (i 230) 3) : f_X6_leftOver (mk E i j d) (zA E 229) (nI t) = some (nI (sLeft (i 230) (d 233) t (cN (i 230) (40 + 14 * t + 4))), mk E i j d) := by
  unfold f_X6_leftOver
  rw [ob_M h, x_of4 h (w.t10 ht), cl_go, ob_M h, (w.many ht).1, x_onRope h w ht (w.many ht).2, cl_go, if_neg (Nat.lt_irrefl _)]
theorem x_neededBy_L (h : Ev E) (w : WF B (i 230) (d 233)) {t : Nat} (ht : t < cN (i 230) 3) : ∀ m k fuel, k + m = cN (i 230) (40 + 14 * t + 4) → m < fuel → f_X6_neededBy_L4 fuel (mk E i j d) (zA E 229) (nI t) (nI (sMost (i 230) (d 233) t k)) (nI k) = some (sNeed (i 230) (d 233) t, mk E i j d) := by
  have h10 := w.t10 ht
  obtain ⟨hM, hM4⟩ := w.many ht
  have hG := (w.guests ht).2
  intro m
  induction m with
  | zero =>
    intro k fuel hk hf
    obtain ⟨f, rfl⟩ : ∃ f, fuel = f + 1 := ⟨fuel - 1, by omega⟩
    show f_X6_neededBy_L4_b (f_X6_neededBy_L4 f) _ _ _ _ _ = _
    unfold f_X6_neededBy_L4_b
    have hm := sMost_le (N := i 230) (r := d 233) (t := t) k
    have hok := need_ok (sMost (i 230) (d 233) t k + 1) (by omega)
    rw [ob_M h, x_of4 h h10, cl_go, hM, if_pos (nI_le (by omega) (by omega)), bnd_go, nI_1, fpg_go hok.1, fpg_go hok.2]
    unfold sNeed
    rw [show k = cN (i 230) (40 + 14 * t + 4) by omega]
  | succ m ih =>
    intro k fuel hk hf
    obtain ⟨f, rfl⟩ : ∃ f, fuel = f + 1 := ⟨fuel - 1, by omega⟩
    show f_X6_neededBy_L4_b (f_X6_neededBy_L4 f) _ _ _ _ _ = _
    unfold f_X6_neededBy_L4_b
    have hm := sMost_le (N := i 230) (r := d 233) (t := t) k
    have hL := sLeft_g (N := i 230) (r := d 233) (t := t) k
    have hO : sOn (i 230) (d 233) t k ≤ 12 := by unfold sOn; omega
    have hs : sMost (i 230) (d 233) t (k + 1) = if sOn (i 230) (d 233) t k ≤ sMost (i 230) (d 233) t k then sMost (i 230) (d 233) t k else sOn (i 230) (d 233) t k := rfl
    have := ih (k + 1) f (by omega) (by omega)
    rw [ob_M h, x_of4 h h10, cl_go, hM, if_neg (nI_ge (by omega) (by omega)), ob_M h, x_onRope1 h w ht (by omega), cl_go]
    by_cases q : sOn (i 230) (d 233) t k ≤ sMost (i 230) (d 233) t k
    · rw [if_pos ((nI_leI (by omega) (by omega)).mpr q), bnd_go, nI_1]
      rw [hs, if_pos q] at this
      exact this
    · rw [if_neg (fun a => q ((nI_leI (by omega) (by omega)).mp a)), ob_M h, x_onRope1 h w ht (by omega), cl_go, bnd_go, nI_1]
      rw [hs, if_neg q] at this
      exact this
theorem x_neededBy (h : Ev E) (w : WF B (i 230) (d 233)) {t : Nat} (ht : t < cN (i 230) 3) : f_X6_neededBy (mk E i j d) (zA E 229) (nI t) = some (sNeed (i 230) (d 233) t, mk E i j d) := by
  have hM4 := (w.many ht).2
  exact x_neededBy_L h w ht (cN (i 230) (40 + 14 * t + 4)) 0 1000 (by omega) (by omega)
theorem x_isHeld (h : Ev E) (w : WF B (i 230) (d 233)) {t b : Nat} (ht : t < cN (i 230) 3) (hb : b < 6) : f_X6_isHeld (mk E i j d) (zA E 229) (nI t) (nI b) = some (bI (0 ≤ Op.cmpValue (FP.dcmp (d 233 (1 + b)) (sNeed (i 230) (d 233) t)) CmpOp.l), mk E i j d) := by
  unfold f_X6_isHeld
  rw [ob_M h, R_rea h, ar_rea h (x := 1 + nI b) (1 + b) (nI_add 1 b) (by omega), ob_M h, x_neededBy h w ht, cl_go, D_233 h.1]
  by_cases q : 0 ≤ Op.cmpValue (FP.dcmp (d 233 (1 + b)) (sNeed (i 230) (d 233) t)) CmpOp.l
  · rw [if_neg (Int32.not_lt.mpr q), bI_1 q]
  · rw [if_pos (Int32.not_le.mp q), bI_0 q]
end REF2
