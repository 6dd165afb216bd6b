/-! the class's copies of states -/
section CPY
variable {E : Hp} {i : Nat → Nat → Int32} {j : Nat → Nat → Int64} {d : Nat → Nat → UInt64} {P Q : Nat} {N : Nat → Int32} {r : Nat → UInt64} {B : Nat}
/-- the blocks of two states lie apart -/
def Ap (P Q : Nat) : Prop := P + 32 ≤ Q ∨ Q + 32 ≤ P
/-- nothing changed outside the block -/
def Fr (P : Nat) (i : Nat → Nat → Int32) (j : Nat → Nat → Int64) (d : Nat → Nat → UInt64) (i' : Nat → Nat → Int32) (j' : Nat → Nat → Int64) (d' : Nat → Nat → UInt64) : Prop := ∀ q, q < P ∨ P + 31 < q → i' q = i q ∧ j' q = j q ∧ d' q = d q
theorem Fr.rf : Fr P i j d i j d := fun _ _ => ⟨rfl, rfl, rfl⟩
theorem Fr.tr {i1 i2 : Nat → Nat → Int32} {j1 j2 : Nat → Nat → Int64} {d1 d2 : Nat → Nat → UInt64} (a : Fr P i j d i1 j1 d1) (b : Fr P i1 j1 d1 i2 j2 d2) : Fr P i j d i2 j2 d2 := fun q hq => ⟨(b q hq).1.trans (a q hq).1, (b q hq).2.1.trans (a q hq).2.1, (b q hq).2.2.trans (a q hq).2.2⟩
theorem Rep.cg {i' : Nat → Nat → Int32} {j' : Nat → Nat → Int64} {d' : Nat → Nat → UInt64} (a : Rep i j d P N r) (n1 : cN N 1 ≤ 8) (n3 : cN N 3 ≤ 10) (c : ∀ q, P ≤ q → q ≤ P + 31 → i' q = i q ∧ j' q = j q ∧ d' q = d q) : Rep i' j' d' P N r := by
  refine ⟨?_, fun g hg k hk => ?_, fun b hb => ?_, fun t ht => ⟨?_, ?_, fun k hk => ?_⟩⟩
  · rw [(c P (by omega) (by omega)).1, (c P (by omega) (by omega)).2.1, (c P (by omega) (by omega)).2.2]; exact a.1
  · rw [(c (P + 2 + g) (by omega) (by omega)).1]; exact a.g hg hk
  · rw [(c (P + 10) (by omega) (by omega)).2.2]; exact a.b hb
  · rw [(c (P + 12 + 2 * t) (by omega) (by omega)).1]; exact (a.t ht).1
  · rw [(c (P + 12 + 2 * t) (by omega) (by omega)).1, (c (P + 12 + 2 * t) (by omega) (by omega)).2.2]; exact (a.t ht).2.1
  · rw [(c (P + 13 + 2 * t) (by omega) (by omega)).1]; exact a.tr ht hk
theorem Rep.fr {i' : Nat → Nat → Int32} {j' : Nat → Nat → Int64} {d' : Nat → Nat → UInt64} (a : Rep i j d Q N r) (n1 : cN N 1 ≤ 8) (n3 : cN N 3 ≤ 10) (hA : Ap P Q) (F : Fr P i j d i' j' d') : Rep i' j' d' Q N r := a.cg n1 n3 (fun q h1 h2 => F q (by unfold Ap at hA; omega))
theorem y_gcopy (h : Nd E) (hP : St E P) (hQ : St E Q) {g : Nat} (hg : g < 8) (hne : Q + 2 + g ≠ P + 2 + g) : ∃ i', f_X0_copyFrom (mk E i j d) (zA E (P + 2 + g)) (some (zA E (Q + 2 + g))) = some ((), mk E i' j d) ∧ (∀ q, q ≠ P + 2 + g → i' q = i q) ∧ ∀ k, k < 4 → i' (P + 2 + g) k = i (Q + 2 + g) k := by
  unfold f_X0_copyFrom f_X0_certify
  simp only [ob_G h hQ hg, ob_G h hP hg, I_G h hQ hg, wI_G h hP hg, bnd_go, cl_go, u2_row _ _ hne]
  refine ⟨_, rfl, fun q hq => ?_, fun k hk => ?_⟩
  · rw [u2_row _ _ hq, u2_row _ _ hq, u2_row _ _ hq, u2_row _ _ hq]
  · have : k = 0 ∨ k = 1 ∨ k = 2 ∨ k = 3 := by omega
    rcases this with rfl | rfl | rfl | rfl <;> simp [u2]
theorem y_tcopy (h : Nd E) (hP : St E P) (hQ : St E Q) {t : Nat} (ht : t < 10) (hne : Q + 12 + 2 * t ≠ P + 12 + 2 * t) (hn2 : Q + 12 + 2 * t ≠ P + 13 + 2 * t) : ∃ i' d', f_X4_copyFrom (mk E i j d) (zA E (P + 12 + 2 * t)) (some (zA E (Q + 12 + 2 * t))) = some ((), mk E i' j d') ∧ (∀ q, q ≠ P + 12 + 2 * t → q ≠ P + 13 + 2 * t → i' q = i q ∧ d' q = d q) ∧ (i' (P + 12 + 2 * t) 1 = i (Q + 12 + 2 * t) 1 ∧ i' (P + 12 + 2 * t) 3 = i (Q + 12 + 2 * t) 3 ∧ i' (P + 12 + 2 * t) 4 = i (Q + 12 + 2 * t) 4 ∧ i' (P + 12 + 2 * t) 5 = i (Q + 12 + 2 * t) 5 ∧ i' (P + 12 + 2 * t) 6 = i (Q + 12 + 2 * t) 6 ∧ i' (P + 12 + 2 * t) 7 = i (Q + 12 + 2 * t) 7 ∧ i' (P + 12 + 2 * t) 8 = i (Q + 12 + 2 * t) 8 ∧ i' (P + 12 + 2 * t) 9 = i (Q + 12 + 2 * t) 9 ∧ i' (P + 12 + 2 * t) 10 = i (Q + 12 + 2 * t) 10) ∧ d' (P + 12 + 2 * t) 2 = d (Q + 12 + 2 * t) 2 ∧ ∀ k, k < 4 → i' (P + 13 + 2 * t) k = i (Q + 13 + 2 * t) k := by
  unfold f_X4_copyFrom
  have b1 : P + 13 + 2 * t < 229 := by have := hP.1; omega
  have b2 : Q + 13 + 2 * t < 229 := by have := hQ.1; omega
  have k1 : kd E (P + 13 + 2 * t) 9 4 := by
    have := (hP.2.2.2.2 t ht).2.2.2
    rw [show P + 1 + 11 + 2 * t + 1 = P + 13 + 2 * t by omega] at this
    exact this
  have k2 : kd E (Q + 13 + 2 * t) 9 4 := by
    have := (hQ.2.2.2.2 t ht).2.2.2
    rw [show Q + 1 + 11 + 2 * t + 1 = Q + 13 + 2 * t by omega] at this
    exact this
  rw [ob_T h hQ ht, ob_T h hP ht, R_T0 hQ ht, R_T0 hP ht, cpy_go (S := mk E i j d) (A_mem h b2) k2.1 (by rw [mk_N, k2.2]; omega) (A_mem h b1) k1.1 (by rw [mk_N, k1.2]; omega), bnd_go, mk_rI h b1, mk_Ir h b2, mk_Ir h b1]
  simp only [ob_T h hQ ht, ob_T h hP ht, I_T h hQ ht, D_T h hQ ht, wI_T h hP ht, wD_T h hP ht, bnd_go, u2_row _ _ hne, r2_ne _ _ hn2]
  refine ⟨_, _, rfl, fun q h1 h2 => ⟨?_, ?_⟩, ?_, ?_, fun k hk => ?_⟩
  · simp only [u2_row _ _ h1, r2_ne _ _ h2]
  · simp only [u2_row _ _ h1]
  · simp [u2]
  · simp [u2]
  · have h3 : P + 13 + 2 * t ≠ P + 12 + 2 * t := by omega
    simp only [u2_row _ _ h3, r2_self]
    unfold va_cpy
    rw [if_pos (by omega), Nat.zero_add, Nat.sub_zero]
theorem y_copy_L2 (h : Nd E) (hP : St E P) (hQ : St E Q) (hA : Ap P Q) (w : WF B N r) (KX : ∀ i d, Rep i j d Q N r → (∀ g, g < cN N 1 → ∀ k, k < 4 → i (P + 2 + g) k = N (8 + 4 * g + k)) → (∀ b, b < 6 → d (P + 10) b = r (1 + b)) → ∃ i' j' d', f_X2_copyFrom_L48 1000 (mk E i j d) (zA E P) (some (zA E Q)) 0 = some ((), mk E i' j' d') ∧ Fr P i j d i' j' d' ∧ Rep i' j' d' P N r) : ∀ m k fuel i d, k + m = cN N 1 → m < fuel → Rep i j d Q N r → (∀ g, g < k → ∀ x, x < 4 → i (P + 2 + g) x = N (8 + 4 * g + x)) → ∃ i' j' d', f_X2_copyFrom_L2 fuel (mk E i j d) (zA E P) (some (zA E Q)) (nI k) = some ((), mk E i' j' d') ∧ Fr P i j d i' j' d' ∧ Rep i' j' d' P N r := by
  obtain ⟨hM, hM4⟩ := w.n1
  have p1 := hP.1
  have q1 := hQ.1
  have hA' := hA
  unfold Ap at hA'
  intro m
  induction m with
  | zero =>
    intro k fuel i d hk hf a hg
    obtain ⟨f, rfl⟩ : ∃ f, fuel = f + 1 := ⟨fuel - 1, by omega⟩
    show ∃ i' j' d', f_X2_copyFrom_L2_b (f_X2_copyFrom_L2 f) _ _ _ _ = _ ∧ _
    unfold f_X2_copyFrom_L2_b
    have b1 : P + 10 < 229 := by omega
    have b2 : Q + 10 < 229 := by omega
    have k1 := hP.2.2.1.2.1
    have k2 := hQ.2.2.1.2.1
    rw [ob_S h hQ, I_S h hQ, a.f3, hM, if_pos (nI_le (by omega) (by omega)), ob_S h hP, R_S1 hQ, R_S1 hP, cpy_go (S := mk E i j d) (A_mem h b2) k2.1 (by rw [mk_N, k2.2]; omega) (A_mem h b1) k1.1 (by rw [mk_N, k1.2]; omega), bnd_go, mk_rD h b1, mk_Dr h b2, mk_Dr h b1]
    have F1 : Fr P i j d i j (r2 d (P + 10) (va_cpy (d (Q + 10)) (d (P + 10)) 0 0 6)) := fun q hq => ⟨rfl, rfl, by rw [r2_ne _ _ (by omega)]⟩
    obtain ⟨i', j', d', e, F, R⟩ := KX i (r2 d (P + 10) (va_cpy (d (Q + 10)) (d (P + 10)) 0 0 6)) (a.fr w.n1.2 w.n3.2 hA F1) (fun g hg2 => hg g (by omega)) (fun b hb => by
      rw [r2_self]; unfold va_cpy
      rw [if_pos (by omega), Nat.zero_add, Nat.sub_zero]; exact a.b hb)
    exact ⟨i', j', d', e, F1.tr F, R⟩
  | succ m ih =>
    intro k fuel i d hk hf a hg
    obtain ⟨f, rfl⟩ : ∃ f, fuel = f + 1 := ⟨fuel - 1, by omega⟩
    show ∃ i' j' d', f_X2_copyFrom_L2_b (f_X2_copyFrom_L2 f) _ _ _ _ = _ ∧ _
    unfold f_X2_copyFrom_L2_b
    have k8 : k < 8 := by omega
    obtain ⟨i1, e1, f1, g1⟩ := y_gcopy (i := i) (j := j) (d := d) h hP hQ k8 (by omega)
    rw [ob_S h hQ, I_S h hQ, a.f3, hM, if_neg (nI_ge (by omega) (by omega)), ob_S h hP, R_S0 hP, ar_S0 h hP k8, R_S0 hQ, ar_S0 h hQ k8, R_G hP k8, R_G hQ k8, ob_G h hP k8, e1, cl_go, bnd_go, nI_1]
    have F1 : Fr P i j d i1 j d := fun q hq => ⟨f1 q (by omega), rfl, rfl⟩
    obtain ⟨i', j', d', e, F, R⟩ := ih (k + 1) f i1 d (by omega) (by omega) (a.fr w.n1.2 w.n3.2 hA F1) (fun g hg2 x hx => by
      by_cases c : g = k
      · subst c; rw [g1 x hx]; exact a.g (by omega) hx
      · rw [f1 _ (by omega)]; exact hg g (by omega) x hx)
    exact ⟨i', j', d', e, F1.tr F, R⟩
theorem y_copy_L48 (h : Nd E) (hP : St E P) (hQ : St E Q) (hA : Ap P Q) (w : WF B N r) : ∀ m k fuel i d, k + m = cN N 3 → m < fuel → Rep i j d Q N r → (∀ g, g < cN N 1 → ∀ k, k < 4 → i (P + 2 + g) k = N (8 + 4 * g + k)) → (∀ b, b < 6 → d (P + 10) b = r (1 + b)) → (∀ t, t < k → RepT i d P N r t) → ∃ i' j' d', f_X2_copyFrom_L48 fuel (mk E i j d) (zA E P) (some (zA E Q)) (nI k) = some ((), mk E i' j' d') ∧ Fr P i j d i' j' d' ∧ Rep i' j' d' P N r := by
  obtain ⟨hM, hM4⟩ := w.n3
  have n1 := w.n1.2
  have p1 := hP.1
  have q1 := hQ.1
  have hA' := hA
  unfold Ap at hA'
  intro m
  induction m with
  | zero =>
    intro k fuel i d hk hf a hg hb ht
    obtain ⟨f, rfl⟩ : ∃ f, fuel = f + 1 := ⟨fuel - 1, by omega⟩
    show ∃ i' j' d', f_X2_copyFrom_L48_b (f_X2_copyFrom_L48 f) _ _ _ _ = _ ∧ _
    unfold f_X2_copyFrom_L48_b
    have hne : Q ≠ P := by omega
    rw [ob_S h hQ, I_S h hQ, a.f5, hM, if_pos (nI_le (by omega) (by omega))]
    simp only [ob_S h hQ, ob_S h hP, I_S h hQ, J_S h hQ, D_S h hQ, wI_S h hP, wJ_S h hP, wD_S h hP, bnd_go, u2_row _ _ hne]
    refine ⟨_, _, _, rfl, fun q hq => ⟨?_, ?_, ?_⟩, ⟨?_, ?_, ?_, ?_⟩⟩
    · have h1 : q ≠ P := by omega
      simp only [u2_row _ _ h1]
    · have h1 : q ≠ P := by omega
      simp only [u2_row _ _ h1]
    · have h1 : q ≠ P := by omega
      simp only [u2_row _ _ h1]
    · have A := a.1
      simp [u2]
      exact A
    · intro g hg2 x hx
      have h1 : P + 2 + g ≠ P := by omega
      simp only [u2_row _ _ h1]
      exact hg g hg2 x hx
    · intro b hb2
      have h1 : P + 10 ≠ P := by omega
      simp only [u2_row _ _ h1]
      exact hb b hb2
    · intro t ht2
      have h1 : P + 12 + 2 * t ≠ P := by omega
      have h2 : P + 13 + 2 * t ≠ P := by omega
      unfold RepT
      simp only [u2_row _ _ h1, u2_row _ _ h2]
      exact ht t (by omega)
  | succ m ih =>
    intro k fuel i d hk hf a hg hb ht
    obtain ⟨f, rfl⟩ : ∃ f, fuel = f + 1 := ⟨fuel - 1, by omega⟩
    show ∃ i' j' d', f_X2_copyFrom_L48_b (f_X2_copyFrom_L48 f) _ _ _ _ = _ ∧ _
    unfold f_X2_copyFrom_L48_b
    have k10 : k < 10 := by omega
    have k3 : k < cN N 3 := by omega
    have hm4 := (w.many k3).2
    obtain ⟨i1, d1, e1, f1, g1, s1, r1⟩ := y_tcopy (i := i) (j := j) (d := d) h hP hQ k10 (by omega) (by omega)
    rw [ob_S h hQ, I_S h hQ, a.f5, hM, if_neg (nI_ge (by omega) (by omega)), ob_S h hP, R_S2 hP, ar_S2 h hP k10, R_S2 hQ, ar_S2 h hQ k10, R_T hP k10, R_T hQ k10, ob_T h hP k10, e1, cl_go, bnd_go, nI_1]
    have F1 : Fr P i j d i1 j d1 := fun q hq => ⟨(f1 q (by omega) (by omega)).1, rfl, (f1 q (by omega) (by omega)).2⟩
    have a1 := a.fr w.n1.2 w.n3.2 hA F1
    obtain ⟨i', j', d', e, F, R⟩ := ih (k + 1) f i1 d1 (by omega) (by omega) a1 (fun g hg2 x hx => by
        rw [(f1 (P + 2 + g) (by omega) (by omega)).1]; exact hg g hg2 x hx) (fun b hb2 => by
        rw [(f1 (P + 10) (by omega) (by omega)).2]; exact hb b hb2) (fun t ht2 => by
      by_cases c : t = k
      · subst c
        obtain ⟨c1, c3, c4, c5, c6, c7, c8, c9, c10⟩ := g1
        exact ⟨⟨c1.trans (a.t1 k3), c4.trans (a.t4 k3), c5.trans (a.t5 k3), c6.trans (a.t6 k3), c7.trans (a.t7 k3), c8.trans (a.t8 k3), c9.trans (a.t9 k3), c10.trans (a.t10 k3)⟩, ⟨s1.trans (a.t2 k3), c3.trans (a.t3 k3)⟩, fun x hx => (r1 x (by omega)).trans (a.tr k3 hx)⟩
      · have z1 := f1 (P + 12 + 2 * t) (by omega) (by omega)
        have z2 := f1 (P + 13 + 2 * t) (by omega) (by omega)
        have := ht t (by omega)
        unfold RepT at this ⊢
        rw [z1.1, z1.2, z2.1]; exact this)
    exact ⟨i', j', d', e, F1.tr F, R⟩
theorem y_copy (h : Nd E) (hP : St E P) (hQ : St E Q) (hA : Ap P Q) (w : WF B N r) (a : Rep i j d Q N r) : ∃ i' j' d', f_X2_copyFrom (mk E i j d) (zA E P) (some (zA E Q)) = some ((), mk E i' j' d') ∧ Fr P i j d i' j' d' ∧ Rep i' j' d' P N r := by
  have n1 := w.n1.2
  have n3 := w.n3.2
  unfold f_X2_copyFrom
  exact y_copy_L2 h hP hQ hA w (fun i d a1 a2 a3 => y_copy_L48 h hP hQ hA w (cN N 3) 0 1000 i d (by omega) (by omega) a1 a2 a3 (fun t ht => absurd ht (Nat.not_lt_zero _))) (cN N 1) 0 1000 i d (by omega) (by omega) a (fun g hg => absurd hg (Nat.not_lt_zero _))
end CPY
