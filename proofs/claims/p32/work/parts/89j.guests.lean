/-! the law's cells: guests, ends, days -/
section GUE
variable {E S : Hp} {N : Nat → Int32} {r : Nat → UInt64} {B : Nat} {H : List Rw} {s : Option Rw}
theorem i32_le13 (x : Int32) : (x ≤ 13 ↔ x < 14) ∧ (x ≤ 6 ↔ x < 7) ∧ (x ≤ 2 ↔ x < 3) := by
  refine ⟨?_, ?_, ?_⟩
  · rw [Int32.le_iff_toInt_le, Int32.lt_iff_toInt_lt]
    show x.toInt ≤ 13 ↔ x.toInt < 14
    omega
  · rw [Int32.le_iff_toInt_le, Int32.lt_iff_toInt_lt]
    show x.toInt ≤ 6 ↔ x.toInt < 7
    omega
  · rw [Int32.le_iff_toInt_le, Int32.lt_iff_toInt_lt]
    show x.toInt ≤ 2 ↔ x.toInt < 3
    omega
theorem lg_148 (h : Ev E) {N' : Nat → Int32} {r' : Nat → UInt64} {S' : Hp} {B' : Nat} {H' : List Rw} (A : At E S' B' N' r' H' s) {t : Nat} (ht : t < cN N' 3) : f_L_guests_J148 S' (some (zA E 0)) (nI t) = some (1, S') := by
  have O := A.off h
  have e : f_X5_book S' (zA E 0) (nI t) 13 = some (-2, S') := by
    obtain ⟨i, j, d, rfl, V⟩ := A
    exact b_bookB h V ht
  unfold f_L_guests_J148
  rw [O.ob, e, cl_go, if_pos rfl]
theorem lguests (h : Ev E) (A : At E S B N r H s) (M : MI N r) (hB : B + 119988 ≤ 67108864) (hc : 0 < cN N 3) (sort g x : Int32) : Res E (B + 119988) N r H s (f_L_guests S (some (zA E 0)) sort g x) := by
  have O := A.off h
  have w := A.wf
  have n3 := w.n3
  obtain ⟨t, ht, e1⟩ := low_ok g hc (show cN N 3 < 2 ^ 31 by omega)
  obtain ⟨l, hl, e2⟩ := low_ok x (m := 12) (by decide) (by decide)
  have e1' : ∀ S : Hp, f_L_low S g (N 3) = some (nI t, S) := by rw [n3.1]; exact e1
  have e2' : ∀ S : Hp, f_L_low S x (12 : Int32) = some (nI l, S) := e2
  have h10 := w.t10 ht
  have G := w.guests ht
  have Pd := w.2.one h10
  have Pr := (w.to ht).1
  have em : (1 : Int32) + nI l = nI (1 + l) := nI_add 1 l
  obtain ⟨m, hm⟩ : ∃ m, m = 1 + l := ⟨_, rfl⟩
  rw [← hm] at em
  unfold f_L_guests
  rw [O.ob, o_count3 O, cl_go, e1', cl_go, e2', cl_go, bnd_go, em, O.ob, o_tour6 O ht, cl_go, O.ob, o_tour3 O ht, cl_go, O.ob, o_tour5 O ht, cl_go, O.ob, o_count9 O, cl_go]
  by_cases c7 : 7 ≤ sort
  · rw [if_pos c7]
    have no : ¬ (N (40 + 14 * t + 6) = 0 ∧ m ≤ cN N (40 + 14 * t + 3)) → f_L_guests_J179 S (some (zA E 0)) (nI t) (nI m) = some (1, S) := fun q => by
      have e : f_X5_leave S (zA E 0) (nI t) (nI m) = some (-4, S) := by
        obtain ⟨i, j, d, rfl, V⟩ := A
        exact b_leaveN h V ht (by omega) (by omega) q
      unfold f_L_guests_J179
      rw [O.ob, e, cl_go, if_pos rfl]
    by_cases q0 : N (40 + 14 * t + 6) = 0
    · rw [if_pos q0]
      by_cases q1 : m ≤ cN N (40 + 14 * t + 3)
      · have q1' : nI m ≤ N (40 + 14 * t + 3) := by rw [G.1]; exact nI_le q1 (by omega)
        rw [if_pos q1', O.ob, o_tour0 O ht, cl_go, O.ob, o_count0 O, cl_go, bnd_go]
        obtain ⟨d1, d2, d3, -⟩ := due_ok w (by omega) ht (show 1 ≤ m by omega) q1
        obtain ⟨q, hq, ed, S', e, A'⟩ : ∃ q, q ≤ cN N (40 + 14 * t + 5) ∧ FP.d2i (sDue N t m) = nI q ∧ ∃ S', f_X5_leave S (zA E 0) (nI t) (nI m) = some (nI q, S') ∧ At E S' B (lvN N t m q) r (push H (N, r)) s := by
          obtain ⟨i, j, d, rfl, V⟩ := A
          exact b_leave h V (by omega) ht (by omega) q1 q0
        have O' := A'.off h
        have c3 : cN (lvN N t m q) 3 = cN N 3 := by unfold lvN; rw [cN_ne (by omega), cN_ne (by omega), cN_ne (by omega)]
        have ht' : t < cN (lvN N t m q) 3 := by rw [c3]; exact ht
        have v3 : lvN N t m q (40 + 14 * t + 3) = N (40 + 14 * t + 3) - nI m := by
          unfold lvN; rw [up_ne (by omega), up_ne (by omega), up_eq, G.1, pk_sub (by rw [← G.1] at *; exact q1)]
        have v5 : lvN N t m q (40 + 14 * t + 5) = N (40 + 14 * t + 5) - nI q := by
          unfold lvN; rw [up_ne (by omega), up_eq, Pd.1, pk_sub hq]
        have v4 : lvN N t m q 4 = N 4 + nI q := by unfold lvN; rw [up_eq]
        have fin : ∀ sh, sh = sShare (N (40 + 14 * t + 0) - N 0) → f_L_guests_J250 S (some (zA E 0)) (nI t) (nI m) (N (40 + 14 * t + 3)) (N (40 + 14 * t + 5)) (N 4) sh = some (1, S') := fun sh es => by
          subst es
          unfold sDue at d3 ed
          unfold f_L_guests_J250
          rw [fpg_go d1, fpg_go d2, fpg_go d3, ed, bnd_go, O.ob, e, cl_go, if_pos rfl, O'.ob, o_tour3 O' ht', cl_go, if_pos v3, O'.ob, o_tour5 O' ht', cl_go, if_pos v5, O'.ob, o_count9 O', cl_go, if_pos v4]
        have res : ∀ F, F = some ((1 : Int32), S') → Res E (B + 119988) N r H s F := fun F eF => ⟨S', _, _, _, eF, A'.mono (by omega), ⟨mt_leave M.1 w.q ht q0, M.2⟩, Or.inr rfl, by unfold lvN; rw [up_ne (by omega), up_ne (by omega), up_ne (by omega)], Nat.le_of_eq (by unfold lvN; rw [cN_ne (by omega), cN_ne (by omega), cN_ne (by omega)])⟩
        obtain ⟨i1, i2, i3⟩ := i32_le13 (N (40 + 14 * t + 0) - N 0)
        refine res _ ?_
        unfold sShare at fin
        by_cases c1 : N (40 + 14 * t + 0) - N 0 ≤ 13
        · rw [if_pos c1]
          rw [if_pos (i1.mp c1)] at fin
          by_cases c2 : N (40 + 14 * t + 0) - N 0 ≤ 6
          · rw [if_pos c2]
            rw [if_pos (i2.mp c2)] at fin
            by_cases c4 : N (40 + 14 * t + 0) - N 0 ≤ 2
            · rw [if_pos c4]
              rw [if_pos (i3.mp c4)] at fin
              exact fin _ rfl
            · rw [if_neg c4]
              rw [if_neg (fun q => c4 (i3.mpr q))] at fin
              exact fin _ rfl
          · rw [if_neg c2]
            rw [if_neg (fun q => c2 (i2.mpr q))] at fin
            exact fin _ rfl
        · rw [if_neg c1]
          rw [if_neg (fun q => c1 (i1.mpr q))] at fin
          exact fin _ rfl
      · have q1' : ¬ nI m ≤ N (40 + 14 * t + 3) := by rw [G.1]; exact fun e => q1 ((nI_leI (by omega) (by omega)).mp e)
        rw [if_neg q1']
        exact res_same (A.mono (by omega)) M (no (fun q => q1 q.2))
    · rw [if_neg q0]
      exact res_same (A.mono (by omega)) M (no (fun q => q0 q.1))
  · rw [if_neg c7]
    by_cases q0 : N (40 + 14 * t + 6) = 0
    · rw [if_pos q0]
      by_cases q1 : cN N (40 + 14 * t + 3) + m ≤ 12
      · have q1' : N (40 + 14 * t + 3) + nI m ≤ 12 := by rw [G.1, nI_add]; exact (nI_leI (b := 12) (by omega) (by decide)).mpr q1
        rw [if_pos q1', O.ob, o_tour1 O ht, cl_go]
        obtain ⟨S', e, A'⟩ : ∃ S', f_X5_book S (zA E 0) (nI t) (nI m) = some (nI (cN N (40 + 14 * t + 1) * m), S') ∧ At E S' (B + 119988) (bkN N t m) r (push H (N, r)) s := by
          obtain ⟨i, j, d, rfl, V⟩ := A
          exact b_book h V hB ht (by omega) (by omega) q0 q1
        have O' := A'.off h
        have c3 : cN (bkN N t m) 3 = cN N 3 := by unfold bkN; rw [cN_ne (by omega), cN_ne (by omega)]
        have ht' : t < cN (bkN N t m) 3 := by rw [c3]; exact ht
        have hp : cN N (40 + 14 * t + 1) * m ≤ 119988 := Nat.mul_le_mul Pr.2 (show m ≤ 12 by omega)
        have v3 : bkN N t m (40 + 14 * t + 3) = N (40 + 14 * t + 3) + nI m := by unfold bkN; rw [up_ne (by omega), up_eq, G.1, nI_add]
        have v5 : bkN N t m (40 + 14 * t + 5) = N (40 + 14 * t + 5) + nI (cN N (40 + 14 * t + 1) * m) := by unfold bkN; rw [up_eq, Pd.1, nI_add]
        have emul : nI m * N (40 + 14 * t + 1) = nI (cN N (40 + 14 * t + 1) * m) := by rw [Pr.1, pk_mul, Nat.mul_comm]
        refine ⟨S', _, _, _, ?_, A', ⟨mt_book M.1 w.q ht q0, M.2⟩, Or.inr rfl, by unfold bkN; rw [up_ne (by omega), up_ne (by omega)], Nat.le_of_eq (by unfold bkN; rw [cN_ne (by omega), cN_ne (by omega)])⟩
        unfold f_L_guests_J98
        rw [emul, O.ob, e, cl_go, if_pos rfl, if_neg (nI_pos (by omega)), O'.ob, o_tour3 O' ht', cl_go, if_pos v3, O'.ob, o_tour5 O' ht', cl_go, if_pos v5]
        exact lg_148 h A' ht'
      · have q1' : ¬ N (40 + 14 * t + 3) + nI m ≤ 12 := by rw [G.1, nI_add]; exact fun e => q1 ((nI_leI (b := 12) (by omega) (by decide)).mp e)
        have e : f_X5_book S (zA E 0) (nI t) (nI m) = some (-3, S) := by
          obtain ⟨i, j, d, rfl, V⟩ := A
          exact b_bookF h V ht (by omega) (by omega) q0 q1
        rw [if_neg q1']
        refine res_same (A.mono (by omega)) M ?_
        unfold f_L_guests_J98
        rw [O.ob, e, cl_go, if_pos rfl, if_pos (by decide)]
        exact lg_148 h A ht
    · have e : f_X5_book S (zA E 0) (nI t) (nI m) = some (-4, S) := by
        obtain ⟨i, j, d, rfl, V⟩ := A
        exact b_bookN h V ht (by omega) (by omega) q0
      rw [if_neg q0]
      refine res_same (A.mono (by omega)) M ?_
      unfold f_L_guests_J98
      rw [O.ob, e, cl_go, if_pos rfl, if_pos (by decide)]
      exact lg_148 h A ht
theorem lends (h : Ev E) (A : At E S B N r H s) (M : MI N r) (hB : B ≤ 67108864) (hc : 0 < cN N 3) (sort g x : Int32) : Res E B N r H s (f_L_ends S (some (zA E 0)) sort g x) := by
  have O := A.off h
  have w := A.wf
  have n3 := w.n3
  obtain ⟨t, ht, e1⟩ := low_ok g hc (show cN N 3 < 2 ^ 31 by omega)
  obtain ⟨u, hu, e2⟩ := low_ok x hc (show cN N 3 < 2 ^ 31 by omega)
  have e1' : ∀ S : Hp, f_L_low S g (N 3) = some (nI t, S) := by rw [n3.1]; exact e1
  have e2' : ∀ S : Hp, f_L_low S x (N 3) = some (nI u, S) := by rw [n3.1]; exact e2
  have h10 := w.t10 ht
  have u10 := w.t10 hu
  unfold f_L_ends
  rw [O.ob, o_count3 O, cl_go, e1', cl_go, O.ob, o_count3 O, cl_go, e2', cl_go, O.ob, o_tour5 O ht, cl_go, O.ob, o_count9 O, cl_go, O.ob, o_tour6 O ht, cl_go]
  have key : Res E B N r H s (f_L_ends_J55 S (some (zA E 0)) sort (nI t) (nI u) (N (40 + 14 * t + 5)) (N 4) (bI (N (40 + 14 * t + 6) = 0))) := by
    unfold f_L_ends_J55
    by_cases k : sort = 12
    · rw [if_pos k]
      by_cases q0 : N (40 + 14 * t + 6) = 0
      · obtain ⟨S', e, A'⟩ : ∃ S', f_X5_cancel S (zA E 0) (nI t) = some (N (40 + 14 * t + 5), S') ∧ At E S' B (canc N t 4) r (push H (N, r)) s := by
          obtain ⟨i, j, d, rfl, V⟩ := A
          exact b_cancel h V hB ht q0
        have O' := A'.off h
        have c3 : cN (canc N t 4) 3 = cN N 3 := cN_of (canc_ne (by omega) (by omega) (by omega) (by omega))
        have ht' : t < cN (canc N t 4) 3 := by rw [c3]; exact ht
        have v4 : canc N t 4 4 = N 4 + N (40 + 14 * t + 5) := by unfold canc; rw [up_ne (by omega), up_ne (by omega), up_eq]
        refine ⟨S', _, _, _, ?_, A', ⟨mt_cancel M.1 w.q (by decide) ht q0, M.2⟩, Or.inr rfl, canc_ne (by omega) (by omega) (by omega) (by omega), Nat.le_of_eq (cN_of (canc_ne (by omega) (by omega) (by omega) (by omega))).symm⟩
        rw [O.ob, e, cl_go, bI_1 q0, if_neg (by decide), if_pos rfl, O'.ob, o_tour7 O' ht', cl_go, if_pos canc_6, if_pos canc_7, O'.ob, o_count9 O', cl_go, if_pos v4]
      · have e : f_X5_cancel S (zA E 0) (nI t) = some (-4, S) := by
          obtain ⟨i, j, d, rfl, V⟩ := A
          exact b_cancelN h V ht q0
        refine res_same A M ?_
        rw [O.ob, e, cl_go, bI_0 q0, if_pos rfl, if_pos rfl]
    · rw [if_neg k, O.ob, o_tour3 O hu, cl_go, O.ob, o_count8 O, cl_go, O.ob, o_tour3 O ht, cl_go]
      by_cases q1 : t = u
      · subst q1
        have e : f_X5_merge S (zA E 0) (nI t) (nI t) = some (-2, S) := by
          obtain ⟨i, j, d, rfl, V⟩ := A
          exact b_mergeB h V ht
        refine res_same A M ?_
        rw [O.ob, e, cl_go, if_pos rfl, if_pos rfl]
      · have q1' : ¬ nI t = nI u := fun e => q1 ((nI_eq (by omega) (by omega)).mp e)
        by_cases q2 : fitP N r t u
        · obtain ⟨S', e, A'⟩ : ∃ S', f_X5_merge S (zA E 0) (nI t) (nI u) = some (nI (mgQ N t u), S') ∧ At E S' B (mgN N t u) r (push H (N, r)) s := by
            obtain ⟨i, j, d, rfl, V⟩ := A
            exact b_merge h V hB ht hu q1 q2
          have O' := A'.off h
          have Ps := w.2.one h10
          have hq : mgQ N t u ≤ cN N (40 + 14 * t + 5) := Nat.sub_le _ _
          obtain ⟨ce, ⟨s3, s4, s5, s6, sd⟩, ⟨d0, t6, t3, t5, t4⟩, -⟩ := mg_ok w.q ht hu q1
          have c3 : cN (mgN N t u) 3 = cN N 3 := cN_of (ce _ (by omega) (by omega) (by omega))
          have ht' : t < cN (mgN N t u) 3 := by rw [c3]; exact ht
          have hu' : u < cN (mgN N t u) 3 := by rw [c3]; exact hu
          have v3 : mgN N t u (40 + 14 * u + 3) = N (40 + 14 * u + 3) + N (40 + 14 * t + 3) := by rw [t3, ← nI_add, ← (w.guests ht).1, ← (w.guests hu).1]
          have vd : mgN N t u (40 + 14 * u + 0) = mgN N t u (40 + 14 * t + 0) := by rw [d0, sd]; exact q2.2.2.1.symm
          refine ⟨S', _, _, _, ?_, A', ⟨mt_merge M.1 w.q ht hu q1 q2, M.2⟩, Or.inr rfl, ce _ (by omega) (by omega) (by omega), Nat.le_of_eq (cN_of (ce _ (by omega) (by omega) (by omega))).symm⟩
          rw [O.ob, e, cl_go, if_neg q1', if_neg (fun z => absurd (show nI (mgQ N t u) < 0 by rw [z]; decide) (nI_pos (by omega))), if_neg (nI_pos (by omega)), bI_1 q2.1, if_neg (by decide), O'.ob, o_tour3 O' hu', cl_go, if_pos v3, O'.ob, o_tour6 O' ht', cl_go, if_pos s6, O'.ob, o_count8 O', cl_go, if_pos (mg_paid w ht hu q1), O'.ob, o_count9 O', cl_go, if_pos t4, O'.ob, o_tour0 O' hu', cl_go, O'.ob, o_tour0 O' ht', cl_go, if_pos vd]
        · have e : f_X5_merge S (zA E 0) (nI t) (nI u) = some (-4, S) := by
            obtain ⟨i, j, d, rfl, V⟩ := A
            exact b_mergeN h V ht hu q1 q2
          refine res_same A M ?_
          rw [O.ob, e, cl_go, if_neg q1', if_pos rfl]
  by_cases q0 : N (40 + 14 * t + 6) = 0
  · rw [bI_1 q0] at key
    rw [if_pos q0]
    exact key
  · rw [bI_0 q0] at key
    rw [if_neg q0]
    exact key
end GUE
