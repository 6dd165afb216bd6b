/-! the reference's copies of rows -/
def cp {α : Type} (f g : Nat → α) (b k : Nat) : Nat → α := fun x => if b ≤ x ∧ x < b + k then f (x - b) else g x
theorem cp_0 {α : Type} (f g : Nat → α) (b : Nat) : cp f g b 0 = g := by
  funext x; unfold cp; rw [if_neg (by omega)]
theorem cp_in {α : Type} {f g : Nat → α} {b k x : Nat} (h : x < k) : cp f g b k (b + x) = f x := by
  unfold cp; rw [if_pos (by omega), show b + x - b = x by omega]
theorem cp_out {α : Type} {f g : Nat → α} {b k x : Nat} (h : x < b ∨ b + k ≤ x) : cp f g b k x = g x := by
  unfold cp; rw [if_neg (by omega)]
theorem r2_self {α : Type} (f : Nat → Nat → α) (a : Nat) (v : Nat → α) : r2 f a v a = v := if_pos rfl
theorem r2_ne {α : Type} (f : Nat → Nat → α) {a b : Nat} (v : Nat → α) (h : b ≠ a) : r2 f a v b = f b := if_neg h
theorem r2_id {α : Type} (f : Nat → Nat → α) (a : Nat) : r2 f a (f a) = f := by
  funext b; unfold r2; split
  · rename_i e; rw [e]
  · rfl
theorem r2_step {α : Type} {i : Nat → Nat → α} {a b k : Nat} {f g : Nat → α} : u2 (r2 i a (cp f g b k)) a (b + k) (f k) = r2 i a (cp f g b (k + 1)) := by
  funext q x
  by_cases hq : q = a
  · subst hq
    rw [r2_self]
    by_cases hx : x = b + k
    · subst hx
      rw [u2_self, cp_in (by omega)]
    · rw [u2_nek _ _ hx, r2_self]
      unfold cp
      by_cases c : b ≤ x ∧ x < b + k
      · rw [if_pos c, if_pos (by omega)]
      · rw [if_neg c, if_neg (by omega)]
  · rw [u2_ne _ _ hq, r2_ne _ _ hq, r2_ne _ _ hq]
theorem nI_180 (K k : Nat) : (180 : Int32) * nI K + nI k = nI (180 * K + k) := by rw [show (180 : Int32) = nI 180 from rfl, pk_mul, nI_add]
theorem nI_17 (K k : Nat) : (17 : Int32) * nI K + nI k = nI (17 * K + k) := by rw [show (17 : Int32) = nI 17 from rfl, pk_mul, nI_add]
section CP
variable {E : Hp} {i : Nat → Nat → Int32} {j : Nat → Nat → Int64} {d : Nat → Nat → UInt64}
theorem l_record_L10 (h : Ev E) : ∀ m k fuel, k + m = 720 → m < fuel → f_X6_record_L10 fuel (mk E (r2 i 231 (cp (fun k => i 231 (k + 180)) (i 231) (0) k)) j d) (zA E 229) (nI k) = f_X6_record_L41 1000 (mk E (r2 i 231 (cp (fun k => i 231 (k + 180)) (i 231) (0) 720)) j d) (zA E 229) 0 := by
  intro m
  induction m with
  | zero =>
    intro k fuel hk hf
    obtain ⟨f, rfl⟩ : ∃ f, fuel = f + 1 := ⟨fuel - 1, by omega⟩
    have hkn : k = 720 := by omega
    subst hkn
    show f_X6_record_L10_b (f_X6_record_L10 f) _ _ _ = _
    unfold f_X6_record_L10_b
    rw [if_pos (by decide)]
  | succ m ih =>
    intro k fuel hk hf
    obtain ⟨f, rfl⟩ : ∃ f, fuel = f + 1 := ⟨fuel - 1, by omega⟩
    show f_X6_record_L10_b (f_X6_record_L10 f) _ _ _ = _
    unfold f_X6_record_L10_b
    have hv : (r2 i 231 (cp (fun k => i 231 (k + 180)) (i 231) (0) k)) 231 (k + 180) = (fun k => i 231 (k + 180)) k := by rw [r2_self, cp_out (by omega)]
    have IH := ih (k + 1) f (by omega) (by omega)
    rw [if_neg (show ¬ (720 : Int32) ≤ nI k from nI_ge (b := 720) (by omega) (by decide)), ob_M h]
    rw [R_his h, ar_his h (x := nI k + 180) (k + 180) (nI_add k 180) (by omega), ar_hisn h (by omega)]
    rw [I_231 h.1, wI_231 h.1, hv, bnd_go, bnd_go, nI_1]
    have hz := r2_step (i := i) (a := 231) (b := 0) (k := k) (f := (fun k => i 231 (k + 180))) (g := i 231)
    rw [Nat.zero_add] at hz
    rw [hz]
    exact IH
theorem l_record_L41 (h : Ev E) : ∀ m k fuel, k + m = 68 → m < fuel → f_X6_record_L41 fuel (mk E i j (r2 d 234 (cp (fun k => d 234 (k + 17)) (d 234) (0) k))) (zA E 229) (nI k) = f_X6_record_L80 1000 (mk E (u2 i 229 6 (i 229 6 - 1)) j (r2 d 234 (cp (fun k => d 234 (k + 17)) (d 234) 0 68))) (zA E 229) 0 := by
  intro m
  induction m with
  | zero =>
    intro k fuel hk hf
    obtain ⟨f, rfl⟩ : ∃ f, fuel = f + 1 := ⟨fuel - 1, by omega⟩
    have hkn : k = 68 := by omega
    subst hkn
    show f_X6_record_L41_b (f_X6_record_L41 f) _ _ _ = _
    unfold f_X6_record_L41_b
    rw [if_pos (by decide)]
    rw [ob_M h, ob_M h, I_229 h.1, wI_229 h.1, bnd_go]
  | succ m ih =>
    intro k fuel hk hf
    obtain ⟨f, rfl⟩ : ∃ f, fuel = f + 1 := ⟨fuel - 1, by omega⟩
    show f_X6_record_L41_b (f_X6_record_L41 f) _ _ _ = _
    unfold f_X6_record_L41_b
    have hv : (r2 d 234 (cp (fun k => d 234 (k + 17)) (d 234) (0) k)) 234 (k + 17) = (fun k => d 234 (k + 17)) k := by rw [r2_self, cp_out (by omega)]
    have IH := ih (k + 1) f (by omega) (by omega)
    rw [if_neg (show ¬ (68 : Int32) ≤ nI k from nI_ge (b := 68) (by omega) (by decide)), ob_M h]
    rw [R_reh h, ar_reh h (x := nI k + 17) (k + 17) (nI_add k 17) (by omega), ar_rehn h (by omega)]
    rw [D_234 h.1, wD_234 h.1, hv, bnd_go, bnd_go, nI_1]
    have hz := r2_step (i := d) (a := 234) (b := 0) (k := k) (f := (fun k => d 234 (k + 17))) (g := d 234)
    rw [Nat.zero_add] at hz
    rw [hz]
    exact IH
theorem l_record_L80 (h : Ev E) {K : Nat} (hK : i 229 6 = nI K) (hK5 : K < 5) : ∀ m k fuel, k + m = 180 → m < fuel → f_X6_record_L80 fuel (mk E (r2 i 231 (cp (fun k => i 230 (k)) (i 231) (180 * K) k)) j d) (zA E 229) (nI k) = f_X6_record_L116 1000 (mk E (r2 i 231 (cp (fun k => i 230 (k)) (i 231) (180 * K) 180)) j d) (zA E 229) 0 := by
  intro m
  induction m with
  | zero =>
    intro k fuel hk hf
    obtain ⟨f, rfl⟩ : ∃ f, fuel = f + 1 := ⟨fuel - 1, by omega⟩
    have hkn : k = 180 := by omega
    subst hkn
    show f_X6_record_L80_b (f_X6_record_L80 f) _ _ _ = _
    unfold f_X6_record_L80_b
    rw [if_pos (by decide)]
  | succ m ih =>
    intro k fuel hk hf
    obtain ⟨f, rfl⟩ : ∃ f, fuel = f + 1 := ⟨fuel - 1, by omega⟩
    show f_X6_record_L80_b (f_X6_record_L80 f) _ _ _ = _
    unfold f_X6_record_L80_b
    have hv : (r2 i 231 (cp (fun k => i 230 (k)) (i 231) (180 * K) k)) 230 (k) = (fun k => i 230 (k)) k := by rw [r2_ne _ _ (by decide)]
    have IH := ih (k + 1) f (by omega) (by omega)
    rw [if_neg (show ¬ (180 : Int32) ≤ nI k from nI_ge (b := 180) (by omega) (by decide)), ob_M h]
    have h6 : (r2 i 231 (cp (fun k => i 230 (k)) (i 231) (180 * K) k)) 229 6 = nI K := by rw [r2_ne _ _ (by decide), hK]
    rw [I_229 h.1, h6, R_now h, ar_nown h (by omega), R_his h, ar_his h (x := 180 * nI K + nI k) (180 * K + k) (nI_180 K k) (by omega)]
    rw [I_230 h.1, wI_231 h.1, hv, bnd_go, bnd_go, nI_1, r2_step]
    exact IH
theorem l_record_L116 (h : Ev E) {K : Nat} (hK : i 229 6 = nI K) (hK5 : K < 5) : ∀ m k fuel, k + m = 17 → m < fuel → f_X6_record_L116 fuel (mk E i j (r2 d 234 (cp (fun k => d 233 (k)) (d 234) (17 * K) k))) (zA E 229) (nI k) = some ((), mk E (u2 i 229 6 (nI (K + 1))) j (r2 d 234 (cp (fun k => d 233 k) (d 234) (17 * K) 17))) := by
  intro m
  induction m with
  | zero =>
    intro k fuel hk hf
    obtain ⟨f, rfl⟩ : ∃ f, fuel = f + 1 := ⟨fuel - 1, by omega⟩
    have hkn : k = 17 := by omega
    subst hkn
    show f_X6_record_L116_b (f_X6_record_L116 f) _ _ _ = _
    unfold f_X6_record_L116_b
    rw [if_pos (by decide)]
    rw [ob_M h, ob_M h, I_229 h.1, wI_229 h.1, bnd_go, hK, nI_1]
  | succ m ih =>
    intro k fuel hk hf
    obtain ⟨f, rfl⟩ : ∃ f, fuel = f + 1 := ⟨fuel - 1, by omega⟩
    show f_X6_record_L116_b (f_X6_record_L116 f) _ _ _ = _
    unfold f_X6_record_L116_b
    have hv : (r2 d 234 (cp (fun k => d 233 (k)) (d 234) (17 * K) k)) 233 (k) = (fun k => d 233 (k)) k := by rw [r2_ne _ _ (by decide)]
    have IH := ih (k + 1) f (by omega) (by omega)
    rw [if_neg (show ¬ (17 : Int32) ≤ nI k from nI_ge (b := 17) (by omega) (by decide)), ob_M h]
    rw [I_229 h.1, hK, R_rea h, ar_rean h (by omega), R_reh h, ar_reh h (x := 17 * nI K + nI k) (17 * K + k) (nI_17 K k) (by omega)]
    rw [D_233 h.1, wD_234 h.1, hv, bnd_go, bnd_go, nI_1, r2_step]
    exact IH
theorem l_undo_L22 (h : Ev E) {K : Nat} (hK : i 229 6 = nI K) (hK5 : K < 5) : ∀ m k fuel, k + m = 180 → m < fuel → f_X6_undo_L22 fuel (mk E (r2 i 230 (cp (fun k => i 231 (180 * K + k)) (i 230) (0) k)) j d) (zA E 229) (nI k) = f_X6_undo_L58 1000 (mk E (r2 i 230 (cp (fun k => i 231 (180 * K + k)) (i 230) (0) 180)) j d) (zA E 229) 0 := by
  intro m
  induction m with
  | zero =>
    intro k fuel hk hf
    obtain ⟨f, rfl⟩ : ∃ f, fuel = f + 1 := ⟨fuel - 1, by omega⟩
    have hkn : k = 180 := by omega
    subst hkn
    show f_X6_undo_L22_b (f_X6_undo_L22 f) _ _ _ = _
    unfold f_X6_undo_L22_b
    rw [if_pos (by decide)]
  | succ m ih =>
    intro k fuel hk hf
    obtain ⟨f, rfl⟩ : ∃ f, fuel = f + 1 := ⟨fuel - 1, by omega⟩
    show f_X6_undo_L22_b (f_X6_undo_L22 f) _ _ _ = _
    unfold f_X6_undo_L22_b
    have hv : (r2 i 230 (cp (fun k => i 231 (180 * K + k)) (i 230) (0) k)) 231 (180 * K + k) = (fun k => i 231 (180 * K + k)) k := by rw [r2_ne _ _ (by decide)]
    have IH := ih (k + 1) f (by omega) (by omega)
    rw [if_neg (show ¬ (180 : Int32) ≤ nI k from nI_ge (b := 180) (by omega) (by decide)), ob_M h]
    have h6 : (r2 i 230 (cp (fun k => i 231 (180 * K + k)) (i 230) (0) k)) 229 6 = nI K := by rw [r2_ne _ _ (by decide), hK]
    rw [I_229 h.1, h6, R_his h, ar_his h (x := 180 * nI K + nI k) (180 * K + k) (nI_180 K k) (by omega), R_now h, ar_nown h (by omega)]
    rw [I_231 h.1, wI_230 h.1, hv, bnd_go, bnd_go, nI_1]
    have hz := r2_step (i := i) (a := 230) (b := 0) (k := k) (f := (fun k => i 231 (180 * K + k))) (g := i 230)
    rw [Nat.zero_add] at hz
    rw [hz]
    exact IH
theorem l_undo_L58 (h : Ev E) {K : Nat} (hK : i 229 6 = nI K) (hK5 : K < 5) : ∀ m k fuel, k + m = 17 → m < fuel → f_X6_undo_L58 fuel (mk E i j (r2 d 233 (cp (fun k => d 234 (17 * K + k)) (d 233) (0) k))) (zA E 229) (nI k) = some (nI K, (mk E i j (r2 d 233 (cp (fun k => d 234 (17 * K + k)) (d 233) (0) 17)))) := by
  intro m
  induction m with
  | zero =>
    intro k fuel hk hf
    obtain ⟨f, rfl⟩ : ∃ f, fuel = f + 1 := ⟨fuel - 1, by omega⟩
    have hkn : k = 17 := by omega
    subst hkn
    show f_X6_undo_L58_b (f_X6_undo_L58 f) _ _ _ = _
    unfold f_X6_undo_L58_b
    rw [if_pos (by decide)]
    rw [ob_M h, I_229 h.1, hK]
  | succ m ih =>
    intro k fuel hk hf
    obtain ⟨f, rfl⟩ : ∃ f, fuel = f + 1 := ⟨fuel - 1, by omega⟩
    show f_X6_undo_L58_b (f_X6_undo_L58 f) _ _ _ = _
    unfold f_X6_undo_L58_b
    have hv : (r2 d 233 (cp (fun k => d 234 (17 * K + k)) (d 233) (0) k)) 234 (17 * K + k) = (fun k => d 234 (17 * K + k)) k := by rw [r2_ne _ _ (by decide)]
    have IH := ih (k + 1) f (by omega) (by omega)
    rw [if_neg (show ¬ (17 : Int32) ≤ nI k from nI_ge (b := 17) (by omega) (by decide)), ob_M h]
    rw [I_229 h.1, hK, R_reh h, ar_reh h (x := 17 * nI K + nI k) (17 * K + k) (nI_17 K k) (by omega), R_rea h, ar_rean h (by omega)]
    rw [D_234 h.1, wD_233 h.1, hv, bnd_go, bnd_go, nI_1]
    have hz := r2_step (i := d) (a := 233) (b := 0) (k := k) (f := (fun k => d 234 (17 * K + k))) (g := d 233)
    rw [Nat.zero_add] at hz
    rw [hz]
    exact IH
theorem l_keep_L2 (h : Ev E) : ∀ m k fuel, k + m = 180 → m < fuel → f_X6_keep_L2 fuel (mk E (r2 i 232 (cp (fun k => i 230 (k)) (i 232) (0) k)) j d) (zA E 229) (nI k) = f_X6_keep_L29 1000 (mk E (r2 i 232 (cp (fun k => i 230 (k)) (i 232) (0) 180)) j d) (zA E 229) 0 := by
  intro m
  induction m with
  | zero =>
    intro k fuel hk hf
    obtain ⟨f, rfl⟩ : ∃ f, fuel = f + 1 := ⟨fuel - 1, by omega⟩
    have hkn : k = 180 := by omega
    subst hkn
    show f_X6_keep_L2_b (f_X6_keep_L2 f) _ _ _ = _
    unfold f_X6_keep_L2_b
    rw [if_pos (by decide)]
  | succ m ih =>
    intro k fuel hk hf
    obtain ⟨f, rfl⟩ : ∃ f, fuel = f + 1 := ⟨fuel - 1, by omega⟩
    show f_X6_keep_L2_b (f_X6_keep_L2 f) _ _ _ = _
    unfold f_X6_keep_L2_b
    have hv : (r2 i 232 (cp (fun k => i 230 (k)) (i 232) (0) k)) 230 (k) = (fun k => i 230 (k)) k := by rw [r2_ne _ _ (by decide)]
    have IH := ih (k + 1) f (by omega) (by omega)
    rw [if_neg (show ¬ (180 : Int32) ≤ nI k from nI_ge (b := 180) (by omega) (by decide)), ob_M h]
    rw [R_now h, ar_nown h (by omega), R_slo h, ar_slon h (by omega)]
    rw [I_230 h.1, wI_232 h.1, hv, bnd_go, bnd_go, nI_1]
    have hz := r2_step (i := i) (a := 232) (b := 0) (k := k) (f := (fun k => i 230 (k))) (g := i 232)
    rw [Nat.zero_add] at hz
    rw [hz]
    exact IH
theorem l_keep_L29 (h : Ev E) : ∀ m k fuel, k + m = 17 → m < fuel → f_X6_keep_L29 fuel (mk E i j (r2 d 235 (cp (fun k => d 233 (k)) (d 235) (0) k))) (zA E 229) (nI k) = some (i 230 0, mk E (u2 i 229 7 1) j (r2 d 235 (cp (fun k => d 233 k) (d 235) 0 17))) := by
  intro m
  induction m with
  | zero =>
    intro k fuel hk hf
    obtain ⟨f, rfl⟩ : ∃ f, fuel = f + 1 := ⟨fuel - 1, by omega⟩
    have hkn : k = 17 := by omega
    subst hkn
    show f_X6_keep_L29_b (f_X6_keep_L29 f) _ _ _ = _
    unfold f_X6_keep_L29_b
    rw [if_pos (by decide)]
    rw [ob_M h, wI_229 h.1, bnd_go, ob_M h, R_now h, ar_now0 h, I_230 h.1, u2_ne _ _ (by decide)]
  | succ m ih =>
    intro k fuel hk hf
    obtain ⟨f, rfl⟩ : ∃ f, fuel = f + 1 := ⟨fuel - 1, by omega⟩
    show f_X6_keep_L29_b (f_X6_keep_L29 f) _ _ _ = _
    unfold f_X6_keep_L29_b
    have hv : (r2 d 235 (cp (fun k => d 233 (k)) (d 235) (0) k)) 233 (k) = (fun k => d 233 (k)) k := by rw [r2_ne _ _ (by decide)]
    have IH := ih (k + 1) f (by omega) (by omega)
    rw [if_neg (show ¬ (17 : Int32) ≤ nI k from nI_ge (b := 17) (by omega) (by decide)), ob_M h]
    rw [R_rea h, ar_rean h (by omega), R_res h, ar_resn h (by omega)]
    rw [D_233 h.1, wD_235 h.1, hv, bnd_go, bnd_go, nI_1]
    have hz := r2_step (i := d) (a := 235) (b := 0) (k := k) (f := (fun k => d 233 (k))) (g := d 235)
    rw [Nat.zero_add] at hz
    rw [hz]
    exact IH
theorem l_restore_L16 (h : Ev E) : ∀ m k fuel, k + m = 180 → m < fuel → f_X6_restore_L16 fuel (mk E (r2 i 230 (cp (fun k => i 232 (k)) (i 230) (0) k)) j d) (zA E 229) (nI k) = f_X6_restore_L43 1000 (mk E (r2 i 230 (cp (fun k => i 232 (k)) (i 230) (0) 180)) j d) (zA E 229) 0 := by
  intro m
  induction m with
  | zero =>
    intro k fuel hk hf
    obtain ⟨f, rfl⟩ : ∃ f, fuel = f + 1 := ⟨fuel - 1, by omega⟩
    have hkn : k = 180 := by omega
    subst hkn
    show f_X6_restore_L16_b (f_X6_restore_L16 f) _ _ _ = _
    unfold f_X6_restore_L16_b
    rw [if_pos (by decide)]
  | succ m ih =>
    intro k fuel hk hf
    obtain ⟨f, rfl⟩ : ∃ f, fuel = f + 1 := ⟨fuel - 1, by omega⟩
    show f_X6_restore_L16_b (f_X6_restore_L16 f) _ _ _ = _
    unfold f_X6_restore_L16_b
    have hv : (r2 i 230 (cp (fun k => i 232 (k)) (i 230) (0) k)) 232 (k) = (fun k => i 232 (k)) k := by rw [r2_ne _ _ (by decide)]
    have IH := ih (k + 1) f (by omega) (by omega)
    rw [if_neg (show ¬ (180 : Int32) ≤ nI k from nI_ge (b := 180) (by omega) (by decide)), ob_M h]
    rw [R_slo h, ar_slon h (by omega), R_now h, ar_nown h (by omega)]
    rw [I_232 h.1, wI_230 h.1, hv, bnd_go, bnd_go, nI_1]
    have hz := r2_step (i := i) (a := 230) (b := 0) (k := k) (f := (fun k => i 232 (k))) (g := i 230)
    rw [Nat.zero_add] at hz
    rw [hz]
    exact IH
theorem l_restore_L43 (h : Ev E) : ∀ m k fuel, k + m = 17 → m < fuel → f_X6_restore_L43 fuel (mk E i j (r2 d 233 (cp (fun k => d 235 (k)) (d 233) (0) k))) (zA E 229) (nI k) = some (i 230 0, (mk E i j (r2 d 233 (cp (fun k => d 235 (k)) (d 233) (0) 17)))) := by
  intro m
  induction m with
  | zero =>
    intro k fuel hk hf
    obtain ⟨f, rfl⟩ : ∃ f, fuel = f + 1 := ⟨fuel - 1, by omega⟩
    have hkn : k = 17 := by omega
    subst hkn
    show f_X6_restore_L43_b (f_X6_restore_L43 f) _ _ _ = _
    unfold f_X6_restore_L43_b
    rw [if_pos (by decide)]
    rw [ob_M h, R_now h, ar_now0 h, I_230 h.1]
  | succ m ih =>
    intro k fuel hk hf
    obtain ⟨f, rfl⟩ : ∃ f, fuel = f + 1 := ⟨fuel - 1, by omega⟩
    show f_X6_restore_L43_b (f_X6_restore_L43 f) _ _ _ = _
    unfold f_X6_restore_L43_b
    have hv : (r2 d 233 (cp (fun k => d 235 (k)) (d 233) (0) k)) 235 (k) = (fun k => d 235 (k)) k := by rw [r2_ne _ _ (by decide)]
    have IH := ih (k + 1) f (by omega) (by omega)
    rw [if_neg (show ¬ (17 : Int32) ≤ nI k from nI_ge (b := 17) (by omega) (by decide)), ob_M h]
    rw [R_res h, ar_resn h (by omega), R_rea h, ar_rean h (by omega)]
    rw [D_235 h.1, wD_233 h.1, hv, bnd_go, bnd_go, nI_1]
    have hz := r2_step (i := d) (a := 233) (b := 0) (k := k) (f := (fun k => d 235 (k))) (g := d 233)
    rw [Nat.zero_add] at hz
    rw [hz]
    exact IH
end CP
