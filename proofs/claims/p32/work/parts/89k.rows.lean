/-! the law's cells: rows and days -/
theorem lg_refl (x : Int64) : lg_cmp x x = 0 := by
  unfold lg_cmp
  rw [if_neg (by simp), if_pos rfl]
section ROWS
variable {E S : Hp} {N : Nat → Int32} {r : Nat → UInt64} {B : Nat} {H : List Rw} {s : Option Rw} {K : Nat}
theorem best_ok {t : Nat} : ∀ m k b c, sBest N r t m k b = some c → (b = some c ∨ (k ≤ c ∧ c < k + m)) ∧ (∀ g, k ≤ g → g < k + m → sMay N t g = true → sRat N r t g ≤ sRat N r t c) ∧ (∀ c0, b = some c0 → sRat N r t c0 ≤ sRat N r t c)
  | 0, k, b, c, h => by
    have h : b = some c := h
    exact ⟨Or.inl h, fun g h1 h2 => absurd h2 (by omega), fun c0 e => by rw [h] at e; cases e; exact Nat.le_refl _⟩
  | m + 1, k, none, c, h => by
    have h : sBest N r t m (k + 1) (if sMay N t k = true then some k else none) = some c := h
    obtain ⟨a1, a2, a3⟩ := best_ok m (k + 1) _ c h
    by_cases q : sMay N t k = true
    · rw [if_pos q] at a1 a3
      refine ⟨Or.inr ?_, fun g h1 h2 hm => ?_, fun c0 e => by cases e⟩
      · rcases a1 with e | e
        · cases e; omega
        · omega
      · by_cases e : g = k
        · rw [e]; exact a3 k rfl
        · exact a2 g (by omega) (by omega) hm
    · rw [if_neg q] at a1 a3
      refine ⟨Or.inr ?_, fun g h1 h2 hm => ?_, fun c0 e => by cases e⟩
      · rcases a1 with e | e
        · cases e
        · omega
      · by_cases e : g = k
        · rw [e] at hm; exact absurd hm q
        · exact a2 g (by omega) (by omega) hm
  | m + 1, k, some c1, c, h => by
    have h : sBest N r t m (k + 1) (if sMay N t k = true ∧ sRat N r t c1 < sRat N r t k then some k else some c1) = some c := h
    obtain ⟨a1, a2, a3⟩ := best_ok m (k + 1) _ c h
    by_cases q : sMay N t k = true ∧ sRat N r t c1 < sRat N r t k
    · rw [if_pos q] at a1 a3
      have e3 := a3 k rfl
      refine ⟨Or.inr ?_, fun g h1 h2 hm => ?_, fun c0 e => by cases e; have := q.2; omega⟩
      · rcases a1 with e | e
        · cases e; omega
        · omega
      · by_cases e : g = k
        · rw [e]; exact e3
        · exact a2 g (by omega) (by omega) hm
    · rw [if_neg q] at a1 a3
      have e3 := a3 c1 rfl
      refine ⟨?_, fun g h1 h2 hm => ?_, fun c0 e => by cases e; exact e3⟩
      · rcases a1 with e | e
        · exact Or.inl e
        · exact Or.inr (by omega)
      · by_cases e : g = k
        · rw [e] at hm ⊢
          have : ¬ sRat N r t c1 < sRat N r t k := fun z => q ⟨hm, z⟩
          omega
        · exact a2 g (by omega) (by omega) hm
theorem lr_279 (h : Ev E) (A : At E S B N r H s) (M : MI N r) {t k : Nat} (ht : t < cN N 3) (hk : k < cN N 1) : Res E B N r H s (f_L_rows_J279 S (some (zA E 0)) (nI t) (nI k) (oI (sBestG N r t)) (N (40 + 14 * t + 4)) (bI (sMay N t k = true))) := by
  have O := A.off h
  have w := A.wf
  have h10 := w.t10 ht
  have hM := w.many ht
  have n1 := w.n1.2
  unfold f_L_rows_J279
  by_cases q1 : sMay N t k = true
  · by_cases q2 : cN N (40 + 14 * t + 4) < 4
    · obtain ⟨S', e, A'⟩ : ∃ S', f_X5_lead S (zA E 0) (nI k) (nI t) = some (nI (sRat N r t k), S') ∧ At E S' B (ldN N t k) r (push H (N, r)) s := by
        obtain ⟨i, j, d, rfl, V⟩ := A
        exact b_lead h V ht hk q1 q2
      have O' := A'.off h
      have c3 : cN (ldN N t k) 3 = cN N 3 := cN_of (ld_ne (by omega) (by omega))
      have ht' : t < cN (ldN N t k) 3 := by rw [c3]; exact ht
      have e4 : cN (ldN N t k) (40 + 14 * t + 4) = cN N (40 + 14 * t + 4) + 1 := by unfold ldN; exact cN_eq rfl (by omega)
      have en : ldN N t k (48 + 14 * t + cN N (40 + 14 * t + 4)) = nI k := by unfold ldN; rw [up_ne (by omega), up_eq]
      have eg : gN (ldN N t k) t (cN N (40 + 14 * t + 4)) = k := cN_nI en (by omega)
      have er : sRat (ldN N t k) r t k = sRat N r t k := by unfold sRat ldN; rw [cN_ne (by omega), cN_ne (by omega)]
      have hlt : cN N (40 + 14 * t + 4) < cN (ldN N t k) (40 + 14 * t + 4) := by rw [e4]; omega
      refine ⟨S', _, _, _, ?_, A', ⟨mt_lead M.1 w.q ht hk q1 q2, M.2⟩, Or.inr rfl, ld_ne (by omega) (by omega), Nat.le_of_eq (cN_of (ld_ne (by omega) (by omega))).symm⟩
      rw [O.ob, e, cl_go, bI_1 q1, if_neg (by decide), if_neg (show ¬ N (40 + 14 * t + 4) = 4 by rw [hM.1]; exact fun e => by have := (nI_eq (b := 4) (by omega) (by decide)).mp e; omega), hM.1, O'.ob, o_rope0 O' ht' hlt, cl_go, if_pos en, O'.ob, o_rope1 O' ht' hlt, cl_go, eg, er, if_pos rfl]
    · have e : f_X5_lead S (zA E 0) (nI k) (nI t) = some (-3, S) := by
        obtain ⟨i, j, d, rfl, V⟩ := A
        exact b_leadF h V ht hk q1 q2
      have eb : sBestG N r t = none := by unfold sBestG; rw [if_neg q2]
      refine res_same A M ?_
      rw [O.ob, e, cl_go, bI_1 q1, if_neg (by decide), if_pos (show N (40 + 14 * t + 4) = 4 by rw [hM.1, show cN N (40 + 14 * t + 4) = 4 by omega]; rfl), if_pos rfl, eb, if_pos (show oI none = -5 from rfl)]
  · have e : f_X5_lead S (zA E 0) (nI k) (nI t) = some (-4, S) := by
      obtain ⟨i, j, d, rfl, V⟩ := A
      exact b_leadN h V ht hk q1
    refine res_same A M ?_
    rw [O.ob, e, cl_go, bI_0 q1, if_pos rfl, if_pos rfl]
theorem lr_236 (h : Ev E) (A : At E S B N r H s) (M : MI N r) {t k : Nat} (ht : t < cN N 3) (hk : k < cN N 1) : Res E B N r H s (f_L_rows_J236 S (some (zA E 0)) (nI t) (nI k) (oI (sBestG N r t)) (N (40 + 14 * t + 4)) (bI (sMay N t k = true))) := by
  have O := A.off h
  have w := A.wf
  have h10 := w.t10 ht
  have n1 := w.n1.2
  have F := lr_279 h A M ht hk
  unfold f_L_rows_J236
  cases hb : sBestG N r t with
  | none =>
    rw [hb] at F
    rw [if_pos (show oI none < 0 by decide)]
    exact F
  | some c =>
    rw [hb] at F
    have hs : sBest N r t (cN N 1) 0 none = some c := by
      unfold sBestG at hb
      by_cases q : cN N (40 + 14 * t + 4) < 4
      · rw [if_pos q] at hb; exact hb
      · rw [if_neg q] at hb; cases hb
    obtain ⟨b1, b2, -⟩ := best_ok (cN N 1) 0 none c hs
    have hc : c < cN N 1 := by
      rcases b1 with e | e
      · cases e
      · omega
    rw [if_neg (show ¬ oI (some c) < 0 from nI_pos (by omega))]
    by_cases q1 : sMay N t k = true
    · rw [bI_1 q1] at F ⊢
      rw [if_neg (by decide), O.ob, o_guide0 O hk, cl_go, show oI (some c) = nI c from rfl, O.ob, o_guide0 O hc, cl_go]
      by_cases q2 : N (8 + 4 * k + 0) ≤ N (8 + 4 * c + 0)
      · rw [if_pos q2]; exact F
      · rw [if_neg q2, O.ob, o_tour9 O ht, cl_go]
        by_cases q3 : sBase (r (7 + t)) ≤ 1
        · rw [if_pos q3]; exact F
        · exfalso
          obtain ⟨k1, k2⟩ := w.kl hk
          obtain ⟨c1, c2⟩ := w.kl hc
          have hle := b2 k (by omega) (by omega) q1
          obtain ⟨s1, s2, s3⟩ := sBase_n (r (7 + t))
          have k1e : N (8 + 4 * k + 0) = nI (cN N (8 + 4 * k)) := k1.1
          have c1e : N (8 + 4 * c + 0) = nI (cN N (8 + 4 * c)) := c1.1
          have k13 := k1.2
          have c13 := c1.2
          rw [k1e, c1e] at q2
          have q2' : ¬ cN N (8 + 4 * k) ≤ cN N (8 + 4 * c) := fun z => q2 (nI_le z (by omega))
          rw [s1] at q3
          have q3' : ¬ sBn (r (7 + t)) ≤ 1 := fun z => q3 ((nI_leI (b := 1) (by omega) (by decide)).mpr z)
          unfold sRat at hle
          split at hle <;> split at hle <;> omega
    · rw [bI_0 q1] at F ⊢
      rw [if_pos rfl]
      exact F
def bzP (N : Nat → Int32) (t k x : Nat) : Bool := decide (N (40 + 14 * x + 6) = 0) && decide (N (40 + 14 * x + 0) = N (40 + 14 * t + 0)) && sLeads N x (nI k)
theorem or_b (b c : Bool) : bI (b = true) ||| bI (c = true) = bI ((b || c) = true) := by cases b <;> cases c <;> decide
theorem lr_128 (O : Off E S N r K) {t x : Nat} (ht : t < cN N 3) (hx : x < cN N 3) (k : Nat) (kout : Hp → Option Nat → Int32 → Int32 → Int32 → Int32 → Int32 → Int32 → Int32 → Option (Int32 × Hp)) (y6 y7 y8 : Int32) : ∀ m y fuel (bz : Bool), y + m = cN N (40 + 14 * x + 4) → m < fuel → f_L_rows_L128 kout fuel S (some (zA E 0)) (nI t) (nI k) y6 y7 y8 (bI (bz = true)) (nI x) (nI y) = kout S (some (zA E 0)) (nI t) (nI k) y6 y7 y8 (bI ((bz || (decide (N (40 + 14 * x + 6) = 0) && decide (N (40 + 14 * x + 0) = N (40 + 14 * t + 0)) && anyF (fun y => decide (N (48 + 14 * x + y) = nI k)) m y)) = true)) (nI (x + 1)) := by
  have w := O.q
  have hM := w.many hx
  intro m
  induction m with
  | zero =>
    intro y fuel bz hy hf
    obtain ⟨f, rfl⟩ : ∃ f, fuel = f + 1 := ⟨fuel - 1, by omega⟩
    show f_L_rows_L128_b kout (f_L_rows_L128 kout f) _ _ _ _ _ _ _ _ _ _ = kout _ _ _ _ _ _ _ (bI ((bz || (decide (N (40 + 14 * x + 6) = 0) && decide (N (40 + 14 * x + 0) = N (40 + 14 * t + 0)) && false)) = true)) _
    unfold f_L_rows_L128_b f_L_rows_J198
    rw [O.ob, o_tour4 O hx, cl_go, hM.1, if_pos (nI_le (by omega) (by omega)), bnd_go, nI_1, Bool.and_false, Bool.or_false]
  | succ m ih =>
    intro y fuel bz hy hf
    obtain ⟨f, rfl⟩ : ∃ f, fuel = f + 1 := ⟨fuel - 1, by omega⟩
    show f_L_rows_L128_b kout (f_L_rows_L128 kout f) _ _ _ _ _ _ _ _ _ _ = kout _ _ _ _ _ _ _ (bI ((bz || (decide (N (40 + 14 * x + 6) = 0) && decide (N (40 + 14 * x + 0) = N (40 + 14 * t + 0)) && (decide (N (48 + 14 * x + y) = nI k) || anyF (fun y => decide (N (48 + 14 * x + y) = nI k)) m (y + 1)))) = true)) _
    unfold f_L_rows_L128_b f_L_rows_J198 f_L_rows_J188 f_L_rows_J189
    have IH := fun b => ih (y + 1) f b (by omega) (by omega)
    simp only [bnd_go]
    rw [O.ob, o_tour4 O hx, cl_go, hM.1, if_neg (nI_ge (by omega) (by omega)), O.ob, o_tour6 O hx, cl_go]
    have o1 := or_b bz true
    have o0 := or_b bz false
    rw [show bI (true = true) = 1 from rfl] at o1
    rw [show bI (false = true) = 0 from rfl] at o0
    by_cases q0 : N (40 + 14 * x + 6) = 0
    · rw [if_pos q0, O.ob, o_tour0 O hx, cl_go, O.ob, o_tour0 O ht, cl_go, decide_eq_true q0, Bool.true_and]
      by_cases q1 : N (40 + 14 * x + 0) = N (40 + 14 * t + 0)
      · rw [if_pos q1, O.ob, o_rope0 O hx (by omega), cl_go, decide_eq_true q1, Bool.true_and]
        by_cases q2 : N (48 + 14 * x + y) = nI k
        · rw [if_pos q2, o1, nI_1, IH, decide_eq_true q0, decide_eq_true q1, decide_eq_true q2]
          cases bz <;> rfl
        · rw [if_neg q2, o0, nI_1, IH, decide_eq_true q0, decide_eq_true q1, decide_eq_false q2]
          cases bz <;> simp
      · rw [if_neg q1, o0, nI_1, IH, decide_eq_true q0, decide_eq_false q1]
        cases bz <;> simp
    · rw [if_neg q0, decide_eq_false q0, nI_1]
      cases bz <;> simp
theorem lr_115 (h : Ev E) (A : At E S B N r H s) (M : MI N r) {t k : Nat} (ht : t < cN N 3) (hk : k < cN N 1) : ∀ m x fuel (bz : Bool), x + m = cN N 3 → m < fuel → (bz || anyF (bzP N t k) m x) = sBusy N (nI k) (N (40 + 14 * t + 0)) → Res E B N r H s (f_L_rows_L115 fuel S (some (zA E 0)) (nI t) (nI k) (oI (sBestG N r t)) (N (40 + 14 * t + 4)) (bI (N (40 + 14 * t + 6) = 0)) (bI (bz = true)) (nI x)) := by
  have O := A.off h
  have w := A.wf
  have n3 := w.n3
  intro m
  induction m with
  | zero =>
    intro x fuel bz hx hf hb
    obtain ⟨f, rfl⟩ : ∃ f, fuel = f + 1 := ⟨fuel - 1, by omega⟩
    have hb : (bz || false) = sBusy N (nI k) (N (40 + 14 * t + 0)) := hb
    rw [Bool.or_false] at hb
    have F := lr_236 h A M ht hk
    show Res E B N r H s (f_L_rows_L115_b (f_L_rows_L115 f) _ _ _ _ _ _ _ _ _)
    unfold f_L_rows_L115_b f_L_rows_J235
    rw [O.ob, o_count3 O, cl_go, n3.1, if_pos (nI_le (by omega) (by omega))]
    by_cases q0 : N (40 + 14 * t + 6) = 0
    · rw [if_neg (by rw [bI_1 q0]; decide)]
      cases bz with
      | true =>
        have : ¬ sMay N t k = true := fun e => by have := (may_t e).2.2; rw [← hb] at this; cases this
        rw [bI_0 this] at F
        rw [if_neg (by decide)]
        exact F
      | false =>
        rw [if_pos (by decide), O.ob, o_guide1 O hk, cl_go, O.ob, o_tour0 O ht, cl_go]
        by_cases q1 : N (8 + 4 * k + 1) < N (40 + 14 * t + 0)
        · have : ¬ sMay N t k = true := fun e => (may_t e).2.1 q1
          rw [bI_0 this] at F
          rw [if_pos q1]; exact F
        · have : sMay N t k = true := by unfold sMay; rw [← hb, decide_eq_true q0, decide_eq_false q1]; rfl
          rw [bI_1 this] at F
          rw [if_neg q1]; exact F
    · have : ¬ sMay N t k = true := fun e => q0 (may_t e).1
      rw [bI_0 this] at F
      rw [if_pos (bI_0 q0)]
      exact F
  | succ m ih =>
    intro x fuel bz hx hf hb
    obtain ⟨f, rfl⟩ : ∃ f, fuel = f + 1 := ⟨fuel - 1, by omega⟩
    have hb : (bz || (bzP N t k x || anyF (bzP N t k) m (x + 1))) = sBusy N (nI k) (N (40 + 14 * t + 0)) := hb
    show Res E B N r H s (f_L_rows_L115_b (f_L_rows_L115 f) _ _ _ _ _ _ _ _ _)
    unfold f_L_rows_L115_b
    have L := lr_128 O ht (show x < cN N 3 by omega) k (f_L_rows_L115 f) (oI (sBestG N r t)) (N (40 + 14 * t + 4)) (bI (N (40 + 14 * t + 6) = 0)) (cN N (40 + 14 * x + 4)) 0 1000 bz (by omega) (by have := (w.many (show x < cN N 3 by omega)).2; omega)
    rw [show nI 0 = (0 : Int32) from rfl] at L
    rw [O.ob, o_count3 O, cl_go, n3.1, if_neg (nI_ge (by omega) (by omega)), L]
    exact ih (x + 1) f (bz || bzP N t k x) (by omega) (by omega) (by rw [← hb, Bool.or_assoc])
theorem lr_377 (O : Off E S N r K) {t : Nat} (ht : t < cN N 3) (k : Nat) (op : Int32) : ∀ m y fuel at_, y + m = cN N (40 + 14 * t + 4) → m < fuel → ∃ at', f_L_rows_L377 fuel S (some (zA E 0)) (nI t) (nI k) (N (40 + 14 * t + 4)) op at_ (nI y) = f_L_rows_L377_b (fun _ _ _ _ _ _ _ _ => none) S (some (zA E 0)) (nI t) (nI k) (N (40 + 14 * t + 4)) op at' (N (40 + 14 * t + 4)) ∧ (0 ≤ at' ↔ 0 ≤ at_ ∨ anyF (fun y => decide (N (48 + 14 * t + y) = nI k)) m y = true) := by
  have w := O.q
  have hM := w.many ht
  intro m
  induction m with
  | zero =>
    intro y fuel at_ hy hf
    obtain ⟨f, rfl⟩ : ∃ f, fuel = f + 1 := ⟨fuel - 1, by omega⟩
    refine ⟨at_, ?_, ⟨Or.inl, fun e => e.elim id (fun e => by cases e)⟩⟩
    show f_L_rows_L377_b (f_L_rows_L377 f) _ _ _ _ _ _ _ _ = _
    unfold f_L_rows_L377_b
    rw [if_pos (show N (40 + 14 * t + 4) ≤ nI y by rw [hM.1]; exact nI_le (by omega) (by omega)), if_pos (Int32.le_refl _)]
  | succ m ih =>
    intro y fuel at_ hy hf
    obtain ⟨f, rfl⟩ : ∃ f, fuel = f + 1 := ⟨fuel - 1, by omega⟩
    by_cases q : N (48 + 14 * t + y) = nI k
    · obtain ⟨a1, a2, a3⟩ := ih (y + 1) f (nI y) (by omega) (by omega)
      refine ⟨a1, ?_, ⟨fun _ => Or.inr (anyF_1 (decide_eq_true q)), fun _ => a3.mpr (Or.inl (nI_pos' (by omega)))⟩⟩
      rw [← a2]
      show f_L_rows_L377_b (f_L_rows_L377 f) _ _ _ _ _ _ _ _ = _
      conv => lhs; unfold f_L_rows_L377_b f_L_rows_J405
      rw [if_neg (show ¬ N (40 + 14 * t + 4) ≤ nI y by rw [hM.1]; exact nI_ge (by omega) (by omega)), O.ob, o_rope0 O ht (by omega), cl_go, if_pos q, bnd_go, nI_1]
    · obtain ⟨a1, a2, a3⟩ := ih (y + 1) f at_ (by omega) (by omega)
      refine ⟨a1, ?_, ?_⟩
      · rw [← a2]
        show f_L_rows_L377_b (f_L_rows_L377 f) _ _ _ _ _ _ _ _ = _
        conv => lhs; unfold f_L_rows_L377_b f_L_rows_J405
        rw [if_neg (show ¬ N (40 + 14 * t + 4) ≤ nI y by rw [hM.1]; exact nI_ge (by omega) (by omega)), O.ob, o_rope0 O ht (by omega), cl_go, if_neg q, bnd_go, nI_1]
      · rw [anyF_0 (decide_eq_false q)]; exact a3
theorem lr_101 (h : Ev E) (A : At E S B N r H s) (M : MI N r) {t k : Nat} (ht : t < cN N 3) (hk : k < cN N 1) (sort : Int32) : Res E B N r H s (f_L_rows_J101 S (some (zA E 0)) sort (nI t) (nI k) (oI (sBestG N r t)) (N (40 + 14 * t + 4)) (bI (N (40 + 14 * t + 6) = 0))) := by
  have O := A.off h
  have w := A.wf
  have h10 := w.t10 ht
  have hM := w.many ht
  have n3 := w.n3.2
  unfold f_L_rows_J101
  by_cases c : 11 ≤ sort
  · rw [if_pos c]
    obtain ⟨a1, a2, a3⟩ := lr_377 O ht k (bI (N (40 + 14 * t + 6) = 0)) (cN N (40 + 14 * t + 4)) 0 1000 (-1) (by omega) (by omega)
    rw [show nI 0 = (0 : Int32) from rfl] at a2
    rw [a2]
    have a3' : 0 ≤ a1 ↔ sLeads N t (nI k) = true := a3.trans ⟨fun e => e.elim (fun e => absurd e (by decide)) id, Or.inr⟩
    unfold f_L_rows_L377_b
    rw [if_pos (Int32.le_refl _)]
    by_cases q0 : N (40 + 14 * t + 6) = 0
    · by_cases q1 : sLeads N t (nI k) = true
      · obtain ⟨⟨S', e, A'⟩, z1, z2⟩ : (∃ S', f_X5_release S (zA E 0) (nI k) (nI t) = some (nI (sLeft (rlN N t k) r t (rlM N t k)), S') ∧ At E S' B (rlN N t k) r (push H (N, r)) s) ∧ cN (rlN N t k) (40 + 14 * t + 4) = rlM N t k ∧ cN (rlN N t k) 3 = cN N 3 := by
          obtain ⟨i, j, d, rfl, V⟩ := A
          exact b_release h V ht hk q0 q1
        have O' := A'.off h
        have ht' : t < cN (rlN N t k) 3 := by rw [z2]; exact ht
        have e1 := rl_one M.1 w.q ht q0 q1
        have v4 : rlN N t k (40 + 14 * t + 4) = N (40 + 14 * t + 4) - 1 := by
          rw [(A'.wf.many ht').1, z1, hM.1, ← e1, nI_pred]
        obtain ⟨ce, -⟩ := rl_ok w.q ht (g := k)
        refine ⟨S', _, _, _, ?_, A', ⟨mt_release M.1 w.q ht q0, M.2⟩, Or.inr rfl, ce _ (by omega) (by omega), Nat.le_of_eq (cN_of (ce _ (by omega) (by omega))).symm⟩
        rw [O.ob, e, cl_go, bI_1 q0, if_neg (by decide), if_pos (a3'.mpr q1), O'.ob, o_tour8 O' ht', cl_go, z1, if_pos rfl, O'.ob, o_tour4 O' ht', cl_go, if_pos v4]
      · have e : f_X5_release S (zA E 0) (nI k) (nI t) = some (-5, S) := by
          obtain ⟨i, j, d, rfl, V⟩ := A
          exact b_releaseE h V ht hk q0 q1
        refine res_same A M ?_
        rw [O.ob, e, cl_go, bI_1 q0, if_neg (by decide), if_neg (fun z => q1 (a3'.mp z)), if_pos rfl]
    · have e : f_X5_release S (zA E 0) (nI k) (nI t) = some (-4, S) := by
        obtain ⟨i, j, d, rfl, V⟩ := A
        exact b_releaseN h V ht hk q0
      refine res_same A M ?_
      rw [O.ob, e, cl_go, bI_0 q0, if_pos rfl, if_pos rfl]
  · rw [if_neg c]
    exact lr_115 h A M ht hk (cN N 3) 0 1000 false (by omega) (by omega) rfl
theorem lr_74 (h : Ev E) (A : At E S B N r H s) (M : MI N r) {t k : Nat} (ht : t < cN N 3) (hk : k < cN N 1) (sort : Int32) : Res E B N r H s (f_L_rows_J74 S (some (zA E 0)) sort (nI t) (oI (sBestG N r t)) (nI k)) := by
  have O := A.off h
  have F := lr_101 h A M ht hk sort
  unfold f_L_rows_J74
  rw [O.ob, o_tour4 O ht, cl_go, O.ob, o_tour6 O ht, cl_go]
  by_cases q0 : N (40 + 14 * t + 6) = 0
  · rw [bI_1 q0] at F
    rw [if_pos q0]; exact F
  · rw [bI_0 q0] at F
    rw [if_neg q0]; exact F
theorem lrows (h : Ev E) (A : At E S B N r H s) (M : MI N r) (hc : 0 < cN N 3) (sort g x : Int32) : Res E B N r H s (f_L_rows S (some (zA E 0)) sort g x) := by
  have O := A.off h
  have w := A.wf
  have n3 := w.n3
  have n1 := w.n1
  unfold f_L_rows
  rw [O.ob, o_count1 O, cl_go]
  by_cases c0 : N 1 = 0
  · have e : f_X5_lead S (zA E 0) 0 0 = some (-1, S) := by
      have : cN N 1 = 0 := cN_nI (n := 0) c0 (by omega)
      obtain ⟨i, j, d, rfl, V⟩ := A
      exact b_leadU h V (fun ⟨g, hg, _⟩ => by omega)
    rw [if_pos c0, O.ob, e, cl_go, if_pos rfl]
    exact res_same A M rfl
  · have h1 : 0 < cN N 1 := by
      rcases Nat.eq_zero_or_pos (cN N 1) with z | z
      · rw [n1.1, z] at c0; exact absurd rfl c0
      · exact z
    obtain ⟨t, ht, e1⟩ := low_ok g hc (show cN N 3 < 2 ^ 31 by omega)
    obtain ⟨k, hk, e2⟩ := low_ok x h1 (show cN N 1 < 2 ^ 31 by omega)
    have e1' : ∀ S : Hp, f_L_low S g (N 3) = some (nI t, S) := by rw [n3.1]; exact e1
    have e2' : ∀ S : Hp, f_L_low S x (N 1) = some (nI k, S) := by rw [n1.1]; exact e2
    unfold f_L_rows_J72
    rw [if_neg c0, O.ob, o_count3 O, cl_go, e1', cl_go, O.ob, o_count1 O, cl_go, e2', cl_go, O.ob, o_best O ht, cl_go]
    by_cases c1 : (x &&& 256) = 0
    · rw [if_pos c1]
      cases hb : sBestG N r t with
      | none =>
        have F := lr_74 h A M ht hk sort
        rw [hb] at F
        rw [if_pos (by decide)]
        exact F
      | some c =>
        have hs : sBest N r t (cN N 1) 0 none = some c := by
          unfold sBestG at hb
          by_cases q : cN N (40 + 14 * t + 4) < 4
          · rw [if_pos q] at hb; exact hb
          · rw [if_neg q] at hb; cases hb
        obtain ⟨b1, -, -⟩ := best_ok (cN N 1) 0 none c hs
        have hcc : c < cN N 1 := by
          rcases b1 with e | e
          · cases e
          · omega
        have F := lr_74 h A M ht hcc sort
        rw [hb] at F
        rw [if_neg (show ¬ oI (some c) < 0 from nI_pos (by omega))]
        exact F
    · rw [if_neg c1]
      exact lr_74 h A M ht hk sort
end ROWS
