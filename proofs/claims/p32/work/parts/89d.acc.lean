/-! the law's accounts -/
def sLed (N : Nat → Int32) : Int32 := sumF (fun t => if N (40 + 14 * t + 6) = 1 then N (40 + 14 * t + 4) else 0) (cN N 3) 0 0
/-- what the guides led is what went -/
def SU (N : Nat → Int32) : Prop := sumF (fun g => N (8 + 4 * g + 3)) (cN N 1) 0 0 = sGone N ∧ sumF (fun g => -(N (8 + 4 * g + 2))) (cN N 1) 0 (sLed N) = 0
section ACC
variable {E : Hp} {q : Nat} {i : Nat → Nat → Int32} {j : Nat → Nat → Int64} {d : Nat → Nat → UInt64} {N : Nat → Int32} {r : Nat → UInt64} {B : Nat} {H : List Rw} {s : Option Rw}
theorem la_329 (hE : Ev E) (hl : (zL E).length = 229) (hq : q ∉ zL E) (V : IV B i j d N r H s) (c : Nat → Int32) (hc : ∀ k, k < 4 → c k = sStates N (nI k)) : ∀ m k fuel, k + m = 4 → m < fuel → f_L_accounts_L329 fuel (SC E q i j d c) (some (zA E 0)) (some q) (sPaidAll N) (sGone N) (sGone N) 0 (nI k) = some (1, SC E q i j d c) := by
  have O := SC_off hE hl hq V c
  have z0 : zA (nO E q 9 4) 0 = zA E 0 := zA_ext hl (by decide)
  intro m
  induction m with
  | zero =>
    intro k fuel hk hf
    obtain ⟨f, rfl⟩ : ∃ f, fuel = f + 1 := ⟨fuel - 1, by omega⟩
    show f_L_accounts_L329_b (f_L_accounts_L329 f) _ _ _ _ _ _ _ _ = _
    unfold f_L_accounts_L329_b
    rw [if_pos (show (4 : Int32) ≤ nI k from nI_le (a := 4) (by omega) (by omega)), ← z0, O.ob, o_count8 O, cl_go, if_pos rfl, O.ob, o_count10 O, cl_go, if_pos rfl, if_pos rfl, if_pos rfl, O.ob, o_count1 O, cl_go, O.ob, o_guideN O, cl_go, if_pos rfl, O.ob, o_count3 O, cl_go, O.ob, o_tourN O, cl_go, if_pos rfl, O.ob, o_count13 O, cl_go, if_pos rfl]
  | succ m ih =>
    intro k fuel hk hf
    obtain ⟨f, rfl⟩ : ∃ f, fuel = f + 1 := ⟨fuel - 1, by omega⟩
    show f_L_accounts_L329_b (f_L_accounts_L329 f) _ _ _ _ _ _ _ _ = _
    unfold f_L_accounts_L329_b
    have e4 : (4 : Int32) + nI k = nI (4 + k) := nI_add 4 k
    have ev : sCount N H.length (4 + k) = sStates N (nI k) := by
      have : k = 0 ∨ k = 1 ∨ k = 2 ∨ k = 3 := by omega
      rcases this with rfl | rfl | rfl | rfl <;> rfl
    rw [if_neg (show ¬ (4 : Int32) ≤ nI k from nI_ge (b := 4) (by omega) (by omega)), e4]
    have IH := ih (k + 1) f (by omega) (by omega)
    rw [← z0] at IH ⊢
    rw [O.ob, o_count O (by omega), cl_go, SC_ar (by omega), SC_I hE hl hq, ev, if_pos (hc k (by omega)).symm, bnd_go, nI_1]
    exact IH
theorem la_145 (hE : Ev E) (hl : (zL E).length = 229) (hq : q ∉ zL E) (V : IV B i j d N r H s) (c : Nat → Int32) {t : Nat} (ht : t < cN N 3) (kout : Hp → Option Nat → Option Nat → Int32 → Int32 → Int32 → Int32 → Int32 → Int32 → Int32 → Option (Int32 × Hp)) (y2 y3 y4 y5 g : Int32) : ∀ m k fuel y7, k + m = cN N (40 + 14 * t + 4) → m < fuel → f_L_accounts_L145 kout fuel (SC E q i j d c) (some (zA E 0)) (some q) y2 y3 y4 y5 g y7 (nI t) (nI k) = kout (SC E q i j d c) (some (zA E 0)) (some q) y2 y3 y4 y5 g (if (decide (N (40 + 14 * t + 6) = 0) && anyF (fun k => decide (N (48 + 14 * t + k) = g)) m k) = true then nI t else y7) (nI t - 1) := by
  have O := SC_off hE hl hq V c
  have w := O.q
  have hM := w.many ht
  have z0 : zA (nO E q 9 4) 0 = zA E 0 := zA_ext hl (by decide)
  have e1 : nI t + (-1) = nI t - 1 := by grind
  intro m
  induction m with
  | zero =>
    intro k fuel y7 hk hf
    obtain ⟨f, rfl⟩ : ∃ f, fuel = f + 1 := ⟨fuel - 1, by omega⟩
    show f_L_accounts_L145_b kout (f_L_accounts_L145 kout f) _ _ _ _ _ _ _ _ _ _ _ = _
    unfold f_L_accounts_L145_b f_L_accounts_J197
    rw [← z0, O.ob, o_tour4 O ht, cl_go, hM.1, if_pos (nI_le (by omega) (by omega)), bnd_go, e1]
    show kout _ _ _ _ _ _ _ _ y7 _ = kout _ _ _ _ _ _ _ _ (if (decide (N (40 + 14 * t + 6) = 0) && false) = true then nI t else y7) _
    rw [Bool.and_false, if_neg (by decide)]
  | succ m ih =>
    intro k fuel y7 hk hf
    obtain ⟨f, rfl⟩ : ∃ f, fuel = f + 1 := ⟨fuel - 1, by omega⟩
    show f_L_accounts_L145_b kout (f_L_accounts_L145 kout f) _ _ _ _ _ _ _ _ _ _ _ = kout _ _ _ _ _ _ _ _ (if (decide (N (40 + 14 * t + 6) = 0) && (decide (N (48 + 14 * t + k) = g) || anyF (fun k => decide (N (48 + 14 * t + k) = g)) m (k + 1))) = true then nI t else y7) _
    unfold f_L_accounts_L145_b f_L_accounts_J197 f_L_accounts_J189
    have IH := fun y => ih (k + 1) f y (by omega) (by omega)
    rw [← z0] at IH ⊢
    rw [O.ob, o_tour4 O ht, cl_go, hM.1, if_neg (nI_ge (by omega) (by omega)), O.ob, o_tour6 O ht, cl_go]
    by_cases q0 : N (40 + 14 * t + 6) = 0
    · rw [if_pos q0, O.ob, o_rope0 O ht (by omega), cl_go, bnd_go, bnd_go, nI_1]
      by_cases q1 : N (48 + 14 * t + k) = g
      · rw [if_pos q1, IH, decide_eq_true q0, decide_eq_true q1]
        cases anyF (fun k => decide (N (48 + 14 * t + k) = g)) m (k + 1) <;> rfl
      · rw [if_neg q1, IH, decide_eq_true q0, decide_eq_false q1, Bool.false_or]
    · rw [if_neg q0, bnd_go, e1, decide_eq_false q0]; rfl
theorem la_137 (hE : Ev E) (hl : (zL E).length = 229) (hq : q ∉ zL E) (V : IV B i j d N r H s) (c : Nat → Int32) {g : Nat} (hg : g < cN N 1) (kout : Hp → Option Nat → Option Nat → Int32 → Int32 → Int32 → Int32 → Int32 → Option (Int32 × Hp)) (y2 y3 y4 y5 : Int32) : ∀ t fuel, t ≤ cN N 3 → t < fuel → f_L_accounts_L137 kout fuel (SC E q i j d c) (some (zA E 0)) (some q) y2 y3 y4 y5 (nI g) (sFirst N (nI g) (cN N 3 - t) t) (nI t - 1) = kout (SC E q i j d c) (some (zA E 0)) (some q) y2 y3 (y4 + N (8 + 4 * g + 3)) (y5 + -(N (8 + 4 * g + 2))) (nI (g + 1)) := by
  have O := SC_off hE hl hq V c
  have w := O.q
  have n3 := w.n3
  have n1 := w.n1
  have z0 : zA (nO E q 9 4) 0 = zA E 0 := zA_ext hl (by decide)
  intro t
  induction t with
  | zero =>
    intro fuel ht hf
    obtain ⟨f, rfl⟩ : ∃ f, fuel = f + 1 := ⟨fuel - 1, by omega⟩
    show f_L_accounts_L137_b kout (f_L_accounts_L137 kout f) _ _ _ _ _ _ _ _ _ _ = _
    unfold f_L_accounts_L137_b
    have e1 : y5 - N (8 + 4 * g + 2) = y5 + -(N (8 + 4 * g + 2)) := by grind
    obtain ⟨kc, k1⟩ := w.kl hg
    have kv : N (8 + 4 * g + 0) = nI (cN N (8 + 4 * g)) := kc.1
    rw [if_pos (show nI 0 - 1 < 0 by decide), ← z0, O.ob, o_guide5 O hg, cl_go, bnd_go, O.ob, o_guide4 O hg, cl_go, bnd_go, O.ob, o_guide3 O hg, cl_go, if_pos (by rw [Nat.sub_zero]), O.ob, o_guide2 O hg, cl_go, O.ob, o_guide1 O hg, cl_go, O.ob, o_count0 O, cl_go, e1]
    have fin : ∀ z, f_L_accounts_J266 kout (SC E q i j d c) (some (zA (nO E q 9 4) 0)) (some q) y2 y3 (y4 + N (8 + 4 * g + 3)) (y5 + -(N (8 + 4 * g + 2))) (nI g) z z = kout (SC E q i j d c) (some (zA (nO E q 9 4) 0)) (some q) y2 y3 (y4 + N (8 + 4 * g + 3)) (y5 + -(N (8 + 4 * g + 2))) (nI (g + 1)) := fun z => by
      unfold f_L_accounts_J266
      rw [if_pos rfl, O.ob, o_guide0 O hg, cl_go, O.ob, o_takes O hg, cl_go, O.ob, o_guide0 O hg, cl_go, gd_go (by decide), O.ob, o_takes O hg, cl_go, O.ob, o_takes O hg, cl_go, kv, bnd_go, nI_1]
      have k3 : cN N (8 + 4 * g) = 1 ∨ cN N (8 + 4 * g) = 2 ∨ cN N (8 + 4 * g) = 3 := by have := kc.2; omega
      rcases k3 with e | e | e <;> rw [e] <;> rfl
    by_cases c0 : N (8 + 4 * g + 1) < N 0
    · rw [if_pos c0, bI_0 (fun e => e c0)]
      exact fin 0
    · rw [if_neg c0, bI_1 c0]
      exact fin 1
  | succ t ih =>
    intro fuel ht hf
    obtain ⟨f, rfl⟩ : ∃ f, fuel = f + 1 := ⟨fuel - 1, by omega⟩
    have IH := ih f (by omega) (by omega)
    show f_L_accounts_L137_b kout (f_L_accounts_L137 kout f) _ _ _ _ _ _ _ _ _ _ = _
    unfold f_L_accounts_L137_b
    rw [nI_pred, if_neg (nI_pos (by omega)), show (0 : Int32) = nI 0 from rfl, la_145 hE hl hq V c (show t < cN N 3 by omega) _ y2 y3 y4 y5 (nI g) (cN N (40 + 14 * t + 4)) 0 1000 _ (by omega) (by have := (w.many (show t < cN N 3 by omega)).2; omega)]
    rw [show cN N 3 - t = (cN N 3 - (t + 1)) + 1 by omega] at IH
    exact IH
theorem la_114 (hE : Ev E) (hl : (zL E).length = 229) (hq : q ∉ zL E) (V : IV B i j d N r H s) (c : Nat → Int32) (hc : ∀ k, k < 4 → c k = sStates N (nI k)) : ∀ m k fuel y4 y5, k + m = cN N 1 → m < fuel → sumF (fun g => N (8 + 4 * g + 3)) m k y4 = sGone N → sumF (fun g => -(N (8 + 4 * g + 2))) m k y5 = 0 → f_L_accounts_L114 fuel (SC E q i j d c) (some (zA E 0)) (some q) (sPaidAll N) (sGone N) y4 y5 (nI k) = some (1, SC E q i j d c) := by
  have O := SC_off hE hl hq V c
  have w := O.q
  have n1 := w.n1
  have n3 := w.n3
  have z0 : zA (nO E q 9 4) 0 = zA E 0 := zA_ext hl (by decide)
  intro m
  induction m with
  | zero =>
    intro k fuel y4 y5 hk hf h1 h2
    obtain ⟨f, rfl⟩ : ∃ f, fuel = f + 1 := ⟨fuel - 1, by omega⟩
    have h1 : y4 = sGone N := h1
    have h2 : y5 = 0 := h2
    show f_L_accounts_L114_b (f_L_accounts_L114 f) _ _ _ _ _ _ _ _ = _
    unfold f_L_accounts_L114_b
    have L := la_329 hE hl hq V c hc 4 0 1000 (by omega) (by omega)
    rw [← z0] at L ⊢
    rw [O.ob, o_count1 O, cl_go, n1.1, if_pos (nI_le (by omega) (by omega)), h1, h2]
    exact L
  | succ m ih =>
    intro k fuel y4 y5 hk hf h1 h2
    obtain ⟨f, rfl⟩ : ∃ f, fuel = f + 1 := ⟨fuel - 1, by omega⟩
    show f_L_accounts_L114_b (f_L_accounts_L114 f) _ _ _ _ _ _ _ _ = _
    unfold f_L_accounts_L114_b
    have L := la_137 hE hl hq V c (show k < cN N 1 by omega) (f_L_accounts_L114 f) (sPaidAll N) (sGone N) y4 y5 (cN N 3) 1000 (Nat.le_refl _) (by omega)
    rw [Nat.sub_self] at L
    have IH := ih (k + 1) f _ _ (by omega) (by omega) h1 h2
    rw [← z0] at L IH ⊢
    rw [O.ob, o_count1 O, cl_go, n1.1, if_neg (nI_ge (by omega) (by omega)), O.ob, o_count3 O, cl_go, n3.1, bnd_go]
    exact Eq.trans L IH
theorem la_17 (hE : Ev E) (hl : (zL E).length = 229) (hq : q ∉ zL E) (V : IV B i j d N r H s) (hS : SU N) (hT : ∀ t, t < cN N 3 → Cn N (40 + 14 * t + 6) 3) : ∀ m k fuel y2 y3 y5 c, k + m = cN N 3 → m < fuel → sumF (fun t => N (40 + 14 * t + 5)) m k y2 = sPaidAll N → sumF (fun t => if N (40 + 14 * t + 6) = 1 then N (40 + 14 * t + 3) else 0) m k y3 = sGone N → sumF (fun t => if N (40 + 14 * t + 6) = 1 then N (40 + 14 * t + 4) else 0) m k y5 = sLed N → (∀ x, x < 4 → sumF (fun t => if N (40 + 14 * t + 6) = nI x then 1 else 0) m k (c x) = sStates N (nI x)) → ∃ c', f_L_accounts_L17 fuel (SC E q i j d c) (some (zA E 0)) (some q) y2 y3 0 y5 (nI k) = some (1, SC E q i j d c') := by
  have w := (SC_off hE hl hq V (fun _ => 0)).q
  have n1 := w.n1
  have n3 := w.n3
  have z0 : zA (nO E q 9 4) 0 = zA E 0 := zA_ext hl (by decide)
  intro m
  induction m with
  | zero =>
    intro k fuel y2 y3 y5 c hk hf h1 h2 h3 h4
    obtain ⟨f, rfl⟩ : ∃ f, fuel = f + 1 := ⟨fuel - 1, by omega⟩
    have O := SC_off hE hl hq V c
    have h1 : y2 = sPaidAll N := h1
    have h2 : y3 = sGone N := h2
    have h3 : y5 = sLed N := h3
    have h4 : ∀ x, x < 4 → c x = sStates N (nI x) := h4
    refine ⟨c, ?_⟩
    show f_L_accounts_L17_b (f_L_accounts_L17 f) _ _ _ _ _ _ _ _ = _
    unfold f_L_accounts_L17_b
    have L := la_114 hE hl hq V c h4 (cN N 1) 0 1000 0 (sLed N) (by omega) (by omega) hS.1 hS.2
    rw [← z0] at L ⊢
    rw [O.ob, o_count3 O, cl_go, n3.1, if_pos (nI_le (by omega) (by omega)), h1, h2, h3]
    exact L
  | succ m ih =>
    intro k fuel y2 y3 y5 c hk hf h1 h2 h3 h4
    obtain ⟨f, rfl⟩ : ∃ f, fuel = f + 1 := ⟨fuel - 1, by omega⟩
    have hk3 : k < cN N 3 := by omega
    have O := SC_off hE hl hq V c
    obtain ⟨e6, b6⟩ := hT k hk3
    obtain ⟨x0, hx0⟩ : ∃ x, x = cN N (40 + 14 * k + 6) := ⟨_, rfl⟩
    rw [← hx0] at e6 b6
    have O2 := SC_off hE hl hq V (upd c x0 (c x0 + 1))
    obtain ⟨c', IH⟩ := ih (k + 1) f (y2 + N (40 + 14 * k + 5)) (y3 + (if N (40 + 14 * k + 6) = 1 then N (40 + 14 * k + 3) else 0)) (y5 + (if N (40 + 14 * k + 6) = 1 then N (40 + 14 * k + 4) else 0)) (upd c x0 (c x0 + 1)) (by omega) (by omega) h1 h2 h3 (fun x hx => by
      have e := h4 x hx
      have e : sumF (fun t => if N (40 + 14 * t + 6) = nI x then 1 else 0) m (k + 1) (c x + (if N (40 + 14 * k + 6) = nI x then 1 else 0)) = sStates N (nI x) := e
      by_cases c0 : x = x0
      · rw [c0, up_eq]
        rw [c0, if_pos e6] at e
        exact e
      · rw [up_ne c0]
        rw [if_neg (by rw [e6]; exact fun z => c0 ((nI_eq (by omega) (by omega)).mp z).symm), Int32.add_zero] at e
        exact e)
    refine ⟨c', ?_⟩
    show f_L_accounts_L17_b (f_L_accounts_L17 f) _ _ _ _ _ _ _ _ = _
    unfold f_L_accounts_L17_b f_L_accounts_J75 f_L_accounts_J102
    rw [← z0] at IH ⊢
    simp only [bnd_go]
    rw [O.ob, o_count3 O, cl_go, n3.1, if_neg (nI_ge (by omega) (by omega)), O.ob, o_tour6 O hk3, cl_go, e6, SC_ar (by omega), SC_ar (by omega), SC_I hE hl hq, SC_w hE hl hq, O2.ob, o_tour5 O2 hk3, cl_go, O2.ob, o_tour6 O2 hk3, cl_go]
    by_cases q1 : N (40 + 14 * k + 6) = 1
    · rw [if_pos q1, if_pos q1] at IH
      rw [if_pos q1, O2.ob, o_tour3 O2 hk3, cl_go, O2.ob, o_tour6 O2 hk3, cl_go, if_pos q1, O2.ob, o_tour4 O2 hk3, cl_go, nI_1]
      exact IH
    · rw [if_neg q1, if_neg q1] at IH
      rw [if_neg q1, O2.ob, o_tour6 O2 hk3, cl_go, if_neg q1, nI_1]
      exact IH
theorem acc_ok (hE : Ev E) (hl : (zL E).length = 229) {S : Hp} (A : At E S B N r H s) (hS : SU N) (hT : ∀ t, t < cN N 3 → Cn N (40 + 14 * t + 6) 3) : f_L_accounts S (some (zA E 0)) = some (1, S) := by
  obtain ⟨i, j, d, rfl, V⟩ := A
  refine f_acc_go (fun q hq => ?_)
  have hq : q ∉ zL E := hq
  have n3 := V.wf.n3.2
  obtain ⟨c', e⟩ := la_17 hE hl hq V hS hT (cN N 3) 0 1000 0 0 0 (fun _ => 0) (by omega) (by omega) rfl rfl rfl (fun x hx => rfl)
  refine ⟨_, ?_, SC_kp hE hl hq c'⟩
  rw [SC_0 hE hl hq]
  exact e
end ACC
