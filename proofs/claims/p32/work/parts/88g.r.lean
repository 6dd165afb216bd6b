/-! the acts, one by one: the days -/
section ACTS8
variable {E : Hp} {i : Nat → Nat → Int32} {j : Nat → Nat → Int64} {d : Nat → Nat → UInt64} {N : Nat → Int32} {r : Nat → UInt64} {B : Nat} {H : List Rw} {s : Option Rw}
def go1 (r : Nat → UInt64) (t k : Nat) (N : Nat → Int32) : Nat → Int32 := upd (upd N (8 + 4 * gN N t k + 2) (N (8 + 4 * gN N t k + 2) + 1)) (8 + 4 * gN N t k + 3) (N (8 + 4 * gN N t k + 3) + nI (sOn N r t k))
def go (r : Nat → UInt64) (t : Nat) : Nat → Nat → (Nat → Int32) → (Nat → Int32)
  | 0, _, N => N
  | m + 1, k, N => go r t m (k + 1) (go1 r t k N)
def goF (r : Nat → UInt64) (t : Nat) (N : Nat → Int32) : Nat → Int32 := go r t (cN N (40 + 14 * t + 4)) 0 (upd N (40 + 14 * t + 6) 1)
def pt (r : Nat → UInt64) (t : Nat) (q : (Nat → Int32) × Int32) : (Nat → Int32) × Int32 :=
  if q.1 (40 + 14 * t + 6) = 0 ∧ q.1 (40 + 14 * t + 0) = q.1 0 then (if sCause q.1 r t = 0 then (goF r t q.1, q.2 + 1) else (canc q.1 t (sCause q.1 r t), q.2)) else q
def pts (r : Nat → UInt64) : Nat → Nat → (Nat → Int32) × Int32 → (Nat → Int32) × Int32
  | 0, _, q => q
  | m + 1, k, q => pts r m (k + 1) (pt r k q)
def brs : Nat → Nat → (Nat → UInt64) → (Nat → UInt64)
  | 0, _, r => r
  | m + 1, k, r => brs m (k + 1) (vf_upd r (1 + k) (sLater (r 0) (r (1 + k))))
def dN (N : Nat → Int32) (r : Nat → UInt64) : Nat → Int32 := upd (pts r (cN N 3) 0 (N, 0)).1 0 ((pts r (cN N 3) 0 (N, 0)).1 0 + 1)
def dr (N : Nat → Int32) (r : Nat → UInt64) : Nat → UInt64 := brs (cN (pts r (cN N 3) 0 (N, 0)).1 2) 0 r
def dw (N : Nat → Int32) (r : Nat → UInt64) : Int32 := (pts r (cN N 3) 0 (N, 0)).2
theorem sSum_up {g t : Nat} (v : Int32) (hg : g < 8) : ∀ k, sSum (upd N (8 + 4 * g + 2) v) r t k = sSum N r t k
  | 0 => rfl
  | k + 1 => by
    show sSum (upd N (8 + 4 * g + 2) v) r t k + sRat (upd N (8 + 4 * g + 2) v) r t (gN (upd N (8 + 4 * g + 2) v) t k) = sSum N r t k + sRat N r t (gN N t k)
    have e : gN (upd N (8 + 4 * g + 2) v) t k = gN N t k := cN_ne (by omega)
    rw [sSum_up v hg k, e]
    unfold sRat
    rw [cN_ne (by omega)]
theorem sOn_up {g t k : Nat} (v : Int32) (hg : g < 8) : sOn (upd N (8 + 4 * g + 2) v) r t k = sOn N r t k := by
  unfold sOn sLeft
  rw [sSum_up (N := N) (r := r) (t := t) v hg k, sSum_up (N := N) (r := r) (t := t) v hg (k + 1), cN_ne (by omega)]
theorem sCause_le {t : Nat} : (sCause N r t ≤ 0) ↔ sCause N r t = 0 := by
  unfold sCause
  repeat' split
  all_goals decide
/-- what a go leaves -/
theorem go1_ok {t k : Nat} (w : WF B N r) (ht : t < cN N 3) (hk : k < cN N (40 + 14 * t + 4)) : WF B (go1 r t k N) r ∧ ∀ z, z < 8 ∨ 40 ≤ z → go1 r t k N z = N z := by
  obtain ⟨hr, hr1, hr8⟩ := w.rowk ht hk
  unfold go1
  refine ⟨⟨(w.q.free (by unfold Ess; omega) _).free (by unfold Ess; omega) _, (w.2.free (fun u hu => by omega)).free (fun u hu => by omega)⟩, fun z hz => ?_⟩
  rw [up_ne (by omega), up_ne (by omega)]
theorem go_ok {t : Nat} : ∀ m k N, WF B N r → t < cN N 3 → k + m ≤ cN N (40 + 14 * t + 4) → WF B (go r t m k N) r ∧ ∀ z, z < 8 ∨ 40 ≤ z → go r t m k N z = N z
  | 0, _, _, w, _, _ => ⟨w, fun _ _ => rfl⟩
  | m + 1, k, N, w, ht, hk => by
    obtain ⟨a1, a2⟩ := go1_ok (k := k) w ht (by omega)
    obtain ⟨b1, b2⟩ := go_ok m (k + 1) (go1 r t k N) a1 (by rw [cN_of (a2 3 (by omega))]; exact ht) (by rw [cN_of (a2 (40 + 14 * t + 4) (by omega))]; omega)
    exact ⟨b1, fun z hz => (b2 z hz).trans (a2 z hz)⟩
theorem goF_ok {t : Nat} (w : WF B N r) (ht : t < cN N 3) : WF B (goF r t N) r ∧ ∀ z, z < 8 → goF r t N z = N z := by
  have h10 := w.t10 ht
  have w1 : WF B (upd N (40 + 14 * t + 6) 1) r := ⟨w.q.free (by unfold Ess; omega) _, w.2.free (fun u hu => by omega)⟩
  obtain ⟨b1, b2⟩ := go_ok (cN N (40 + 14 * t + 4)) 0 (upd N (40 + 14 * t + 6) 1) w1 (by rw [cN_ne (by omega)]; exact ht) (by rw [cN_ne (by omega)]; omega)
  exact ⟨b1, fun z hz => (b2 z (by omega)).trans (up_ne (by omega))⟩
theorem pt_ok {t : Nat} {u : Int32} (w : WF B N r) (hB : B < 2 ^ 31) (ht : t < cN N 3) : WF B (pt r t (N, u)).1 r ∧ ∀ z, z < 4 → (pt r t (N, u)).1 z = N z := by
  unfold pt
  have h10 := w.t10 ht
  split
  · split
    · obtain ⟨b1, b2⟩ := goF_ok w ht
      exact ⟨b1, fun z hz => b2 z (by omega)⟩
    · refine ⟨w.off hB h10 _, fun z hz => ?_⟩
      show canc N t _ z = N z
      unfold canc
      rw [up_ne (by omega), up_ne (by omega), up_ne (by omega), up_ne (by omega)]
  · exact ⟨w, fun _ _ => rfl⟩
theorem pts_ok (hB : B < 2 ^ 31) : ∀ m k N u, WF B N r → k + m ≤ cN N 3 → WF B (pts r m k (N, u)).1 r ∧ ∀ z, z < 4 → (pts r m k (N, u)).1 z = N z
  | 0, _, _, _, w, _ => ⟨w, fun _ _ => rfl⟩
  | m + 1, k, N, u, w, hk => by
    obtain ⟨a1, a2⟩ := pt_ok (t := k) (u := u) w hB (by omega)
    obtain ⟨b1, b2⟩ := pts_ok hB m (k + 1) (pt r k (N, u)).1 (pt r k (N, u)).2 a1 (by rw [cN_of (a2 3 (by omega))]; omega)
    exact ⟨b1, fun z hz => (b2 z hz).trans (a2 z hz)⟩
theorem brs_ok : ∀ m k r, WQ N r → k + m ≤ 6 → WQ N (brs m k r) ∧ brs m k r 0 = r 0
  | 0, _, _, w, _ => ⟨w, rfl⟩
  | m + 1, k, r, w, hk => by
    have hb : dB (sLater (r 0) (r (1 + k))) := fp_later w.2.2.2.2.1 (w.2.2.2.2.2 k (by omega))
    obtain ⟨b1, b2⟩ := brs_ok m (k + 1) _ (w.rb (b := k) (by omega) hb) (by omega)
    exact ⟨b1, b2.trans (vp_ne (by omega))⟩
theorem day_ok (w : WF B N r) (hB : B < 2 ^ 31) : WF B (dN N r) (dr N r) := by
  obtain ⟨a1, a2⟩ := pts_ok (r := r) hB (cN N 3) 0 N 0 w (by omega)
  have n2 := a1.n2.2
  obtain ⟨b1, b2⟩ := brs_ok (cN (pts r (cN N 3) 0 (N, 0)).1 2) 0 r a1.q (by omega)
  exact ⟨b1.free (by unfold Ess; omega) _, a1.2.free (fun u hu => by omega)⟩
theorem y_go_L (h : Nd E) {p : Nat} (hs : St E p) {t : Nat} : ∀ m k fuel i N, Rep i j d p N r → WF B N r → t < cN N 3 → k + m = cN N (40 + 14 * t + 4) → m < fuel → ∃ i', f_X2_letGo_L7 fuel (mk E i j d) (zA E p) (some (zA E (p + 12 + 2 * t))) (nI k) = some ((), mk E i' j d) ∧ (∀ q, q < p ∨ p + 31 < q → i' q = i q) ∧ Rep i' j d p (go r t m k N) r := by
  intro m
  induction m with
  | zero =>
    intro k fuel i N a w ht hk hf
    obtain ⟨f, rfl⟩ : ∃ f, fuel = f + 1 := ⟨fuel - 1, by omega⟩
    show ∃ i', f_X2_letGo_L7_b (f_X2_letGo_L7 f) _ _ _ _ = _ ∧ _
    unfold f_X2_letGo_L7_b
    have h10 := w.t10 ht
    obtain ⟨hM, hM4⟩ := w.many ht
    rw [ob_T h hs h10, I_T h hs h10, a.t7 ht, hM, if_pos (nI_le (by omega) (by omega))]
    exact ⟨i, rfl, fun _ _ => rfl, a⟩
  | succ m ih =>
    intro k fuel i N a w ht hk hf
    obtain ⟨f, rfl⟩ : ∃ f, fuel = f + 1 := ⟨fuel - 1, by omega⟩
    show ∃ i', f_X2_letGo_L7_b (f_X2_letGo_L7 f) _ _ _ _ = _ ∧ _
    unfold f_X2_letGo_L7_b
    have h10 := w.t10 ht
    obtain ⟨hM, hM4⟩ := w.many ht
    obtain ⟨hr, hr1, hr8⟩ := w.rowk ht (k := k) (by omega)
    obtain ⟨o1, o2⟩ := go1_ok (k := k) w ht (by omega)
    have hl : f_X0_haveLed (mk E i j d) (zA E (p + 2 + gN N t k)) (nI (sOn N r t k)) = some ((), mk E (u2 (u2 i (p + 2 + gN N t k) 2 (N (8 + 4 * gN N t k + 2) + 1)) (p + 2 + gN N t k) 3 (N (8 + 4 * gN N t k + 3) + nI (sOn N r t k))) j d) := by
      unfold f_X0_haveLed
      rw [ob_G h hs hr8, ob_G h hs hr8, I_G h hs hr8, a.g hr1 (by decide : 2 < 4), wI_G h hs hr8, bnd_go, ob_G h hs hr8, ob_G h hs hr8, I_G h hs hr8, u2_nek _ _ (by decide : (3 : Nat) ≠ 2), a.g hr1 (by decide : 3 < 4), wI_G h hs hr8, bnd_go]
    rw [ob_T h hs h10, I_T h hs h10, a.t7 ht, hM, if_neg (nI_ge (by omega) (by omega)), ob_S h hs, R_T0 hs h10, ar_T0 h hs h10 (by omega), I_R h hs h10, a.tr ht (by omega), hr, R_S0 hs, ar_S0 h hs hr8, ob_S h hs, y_guestsOnRope h hs a w ht (by omega), cl_go, R_G hs hr8, ob_G h hs hr8, hl, cl_go, bnd_go, nI_1]
    have a1 := (a.wg w.q hr8 (by decide : 2 < 4) (N (8 + 4 * gN N t k + 2) + 1)).wg (w.q.free (by unfold Ess; omega) _) hr8 (by decide : 3 < 4) (N (8 + 4 * gN N t k + 3) + nI (sOn N r t k))
    obtain ⟨i', e, F, R⟩ := ih (k + 1) f _ (go1 r t k N) a1 o1 (by rw [cN_of (o2 3 (by omega))]; exact ht) (by rw [cN_of (o2 (40 + 14 * t + 4) (by omega))]; omega) (by omega)
    refine ⟨i', e, fun q hq => (F q hq).trans ?_, R⟩
    rw [u2_row _ _ (by omega), u2_row _ _ (by omega)]
theorem y_goes (h : Nd E) {p : Nat} (hs : St E p) {t : Nat} (a : Rep i j d p N r) (w : WF B N r) (ht : t < cN N 3) : ∃ i', f_X2_letGo (mk E i j d) (zA E p) (some (zA E (p + 12 + 2 * t))) = some ((), mk E i' j d) ∧ (∀ q, q < p ∨ p + 31 < q → i' q = i q) ∧ Rep i' j d p (goF r t N) r := by
  have h10 := w.t10 ht
  have w1 : WF B (upd N (40 + 14 * t + 6) 1) r := ⟨w.q.free (by unfold Ess; omega) _, w.2.free (fun u hu => by omega)⟩
  unfold f_X2_letGo
  rw [ob_T h hs h10, wI_T h hs h10, bnd_go]
  obtain ⟨i', e, F, R⟩ := y_go_L h hs (t := t) (cN N (40 + 14 * t + 4)) 0 1000 _ _ (a.w9 w.q h10 1) w1 (by rw [cN_ne (by omega)]; exact ht) (by rw [cN_ne (by omega)]; omega) (by have := (w.many ht).2; omega)
  exact ⟨i', e, fun q hq => (F q hq).trans (u2_row _ _ (by omega)), R⟩
theorem y_br_L (h : Nd E) {p : Nat} (hs : St E p) (u : Int32) : ∀ m k fuel d r, Rep i j d p N r → WQ N r → k + m = cN N 2 → m < fuel → ∃ i' d', f_X2_passDay_L76 fuel (mk E i j d) (zA E p) u (nI k) = some (u, mk E i' j d') ∧ (∀ q, q < p ∨ p + 31 < q → i' q = i q ∧ d' q = d q) ∧ Rep i' j d' p (upd N 0 (N 0 + 1)) (brs m k r) := by
  intro m
  induction m with
  | zero =>
    intro k fuel d r a w hk hf
    obtain ⟨f, rfl⟩ : ∃ f, fuel = f + 1 := ⟨fuel - 1, by omega⟩
    show ∃ i' d', f_X2_passDay_L76_b (f_X2_passDay_L76 f) _ _ _ _ = _ ∧ _
    unfold f_X2_passDay_L76_b
    have n2 := w.n2
    rw [ob_S h hs, I_S h hs, a.f4, n2.1, if_pos (nI_le (by omega) (by omega)), ob_S h hs, I_S h hs, a.f6, wI_S h hs, bnd_go]
    exact ⟨_, _, rfl, fun q hq => ⟨u2_row _ _ (by omega), rfl⟩, a.s6 w _⟩
  | succ m ih =>
    intro k fuel d r a w hk hf
    obtain ⟨f, rfl⟩ : ∃ f, fuel = f + 1 := ⟨fuel - 1, by omega⟩
    show ∃ i' d', f_X2_passDay_L76_b (f_X2_passDay_L76 f) _ _ _ _ = _ ∧ _
    unfold f_X2_passDay_L76_b
    have n2 := w.n2
    have hd := w.2.2.2.2.2 k (by omega)
    rw [ob_S h hs, I_S h hs, a.f4, n2.1, if_neg (nI_ge (by omega) (by omega)), R_S1 hs, ar_S1 h hs (by omega), ob_S h hs, D_B h hs, a.b (by omega), y_dayLater h hs a w.2.2.2.2.1 hd, cl_go, ar_S1 h hs (by omega), wD_B h hs, bnd_go, bnd_go, nI_1]
    obtain ⟨i', d', e, F, R⟩ := ih (k + 1) f _ _ (a.wb w.n3.2 (b := k) (by omega) (sLater (r 0) (r (1 + k)))) (w.rb (by omega) (fp_later w.2.2.2.2.1 hd)) (by omega) (by omega)
    exact ⟨i', d', e, fun q hq => ⟨(F q hq).1, (F q hq).2.trans (u2_row _ _ (by omega))⟩, R⟩
def dayN (q : (Nat → Int32) × Int32) : Nat → Int32 := upd q.1 0 (q.1 0 + 1)
theorem y_day_L (h : Nd E) {p : Nat} (hs : St E p) (hB : B < 2 ^ 31) : ∀ m k fuel i N u, Rep i j d p N r → WF B N r → k + m = cN N 3 → m < fuel → ∃ i' d', f_X2_passDay_L4 fuel (mk E i j d) (zA E p) u (nI k) = some ((pts r m k (N, u)).2, mk E i' j d') ∧ (∀ q, q < p ∨ p + 31 < q → i' q = i q ∧ d' q = d q) ∧ Rep i' j d' p (dayN (pts r m k (N, u))) (brs (cN (pts r m k (N, u)).1 2) 0 r) := by
  intro m
  induction m with
  | zero =>
    intro k fuel i N u a w hk hf
    obtain ⟨f, rfl⟩ : ∃ f, fuel = f + 1 := ⟨fuel - 1, by omega⟩
    show ∃ i' d', f_X2_passDay_L4_b (f_X2_passDay_L4 f) _ _ _ _ = _ ∧ _
    unfold f_X2_passDay_L4_b
    have n3 := w.n3
    have n2 := w.n2.2
    rw [ob_S h hs, I_S h hs, a.f5, n3.1, if_pos (nI_le (by omega) (by omega))]
    obtain ⟨i', d', e, F, R⟩ := y_br_L h hs u (cN N 2) 0 1000 d r a w.q (by omega) (by omega)
    exact ⟨i', d', e, F, R⟩
  | succ m ih =>
    intro k fuel i N u a w hk hf
    obtain ⟨f, rfl⟩ : ∃ f, fuel = f + 1 := ⟨fuel - 1, by omega⟩
    show ∃ i' d', f_X2_passDay_L4_b (f_X2_passDay_L4 f) _ _ _ _ = _ ∧ _
    unfold f_X2_passDay_L4_b
    have n3 := w.n3
    have hk3 : k < cN N 3 := by omega
    have h10 : k < 10 := by omega
    obtain ⟨o1, o2⟩ := pt_ok (t := k) (u := u) w hB hk3
    have T : pts r (m + 1) k (N, u) = pts r m (k + 1) (pt r k (N, u)) := rfl
    rw [T, ob_S h hs, I_S h hs, a.f5, n3.1, if_neg (nI_ge (by omega) (by omega)), R_S2 hs, ar_S2 h hs h10, bnd_go, R_T hs h10, ob_T h hs h10, I_T h hs h10, a.t9 hk3, I_T h hs h10, a.t1 hk3, I_S h hs, a.f6]
    unfold pt at o1 o2 ⊢
    show ∃ i' d', _ = some ((pts r m (k + 1) (if N (40 + 14 * k + 6) = 0 ∧ N (40 + 14 * k + 0) = N 0 then (if sCause N r k = 0 then (goF r k N, u + 1) else (canc N k (sCause N r k), u)) else (N, u))).2, mk E i' j d') ∧ _ ∧ Rep i' j d' p (dayN (pts r m (k + 1) (if N (40 + 14 * k + 6) = 0 ∧ N (40 + 14 * k + 0) = N 0 then (if sCause N r k = 0 then (goF r k N, u + 1) else (canc N k (sCause N r k), u)) else (N, u)))) (brs (cN (pts r m (k + 1) (if N (40 + 14 * k + 6) = 0 ∧ N (40 + 14 * k + 0) = N 0 then (if sCause N r k = 0 then (goF r k N, u + 1) else (canc N k (sCause N r k), u)) else (N, u))).1 2) 0 r)
    have O1 : WF B (if N (40 + 14 * k + 6) = 0 ∧ N (40 + 14 * k + 0) = N 0 then (if sCause N r k = 0 then (goF r k N, u + 1) else (canc N k (sCause N r k), u)) else (N, u)).1 r := o1
    have O2 : ∀ z, z < 4 → (if N (40 + 14 * k + 6) = 0 ∧ N (40 + 14 * k + 0) = N 0 then (if sCause N r k = 0 then (goF r k N, u + 1) else (canc N k (sCause N r k), u)) else (N, u)).1 z = N z := o2
    by_cases c1 : N (40 + 14 * k + 6) = 0
    · by_cases c2 : N (40 + 14 * k + 0) = N 0
      · have c12 : N (40 + 14 * k + 6) = 0 ∧ N (40 + 14 * k + 0) = N 0 := ⟨c1, c2⟩
        rw [if_pos c12] at O1 O2 ⊢
        rw [if_pos c1, if_pos c2, ob_S h hs, y_causeAgainst h hs a w hk3, cl_go]
        by_cases c3 : sCause N r k = 0
        · rw [if_pos c3] at O1 O2 ⊢
          obtain ⟨i1, e1, F1, R1⟩ := y_goes h hs a w hk3
          rw [if_pos c3, ob_S h hs, e1, cl_go, bnd_go, bnd_go, nI_1]
          obtain ⟨i', d', e, F, R⟩ := ih (k + 1) f i1 (goF r k N) (u + 1) R1 O1 (by rw [cN_of (O2 3 (by omega))]; omega) (by omega)
          exact ⟨i', d', e, fun q hq => ⟨(F q hq).1.trans (F1 q hq), (F q hq).2⟩, R⟩
        · rw [if_neg c3] at O1 O2 ⊢
          obtain ⟨i1, e1, F1, R1⟩ := y_callOff h hs a w hk3 (sCause N r k)
          rw [if_neg c3, ob_S h hs, e1, cl_go, bnd_go, nI_1]
          obtain ⟨i', d', e, F, R⟩ := ih (k + 1) f i1 (canc N k (sCause N r k)) u R1 O1 (by rw [cN_of (O2 3 (by omega))]; omega) (by omega)
          exact ⟨i', d', e, fun q hq => ⟨(F q hq).1.trans (F1 q hq), (F q hq).2⟩, R⟩
      · have c12 : ¬ (N (40 + 14 * k + 6) = 0 ∧ N (40 + 14 * k + 0) = N 0) := fun e => c2 e.2
        rw [if_neg c12]
        rw [if_pos c1, if_neg c2, bnd_go, nI_1]
        exact ih (k + 1) f i N u a w (by omega) (by omega)
    · have c12 : ¬ (N (40 + 14 * k + 6) = 0 ∧ N (40 + 14 * k + 0) = N 0) := fun e => c1 e.1
      rw [if_neg c12]
      rw [if_neg c1, bnd_go, nI_1]
      exact ih (k + 1) f i N u a w (by omega) (by omega)
def days : Nat → Int32 → (Nat → Int32) → (Nat → UInt64) → Int32 × (Nat → Int32) × (Nat → UInt64)
  | 0, u, N, r => (u, N, r)
  | m + 1, u, N, r => days m (u + dw N r) (dN N r) (dr N r)
theorem days_ok (hB : B < 2 ^ 31) : ∀ m u N r, WF B N r → WF B (days m u N r).2.1 (days m u N r).2.2
  | 0, _, _, _, w => w
  | m + 1, u, N, r, w => days_ok hB m _ _ _ (day_ok w hB)
theorem y_days (h : Ev E) (hB : B < 2 ^ 31) {n : Nat} (hn : n ≤ 30) : ∀ m k fuel i d u N r, Rep i j d 1 N r → WF B N r → k + m = n → m < fuel → ∃ i' d', f_X5_pass_L47 fuel (mk E i j d) (zA E 0) (nI n) u (nI k) = some ((days m u N r).1, mk E i' j d') ∧ (∀ q, q < 1 ∨ 1 + 31 < q → i' q = i q ∧ d' q = d q) ∧ Rep i' j d' 1 (days m u N r).2.1 (days m u N r).2.2 := by
  intro m
  induction m with
  | zero =>
    intro k fuel i d u N r a w hk hf
    obtain ⟨f, rfl⟩ : ∃ f, fuel = f + 1 := ⟨fuel - 1, by omega⟩
    show ∃ i' d', f_X5_pass_L47_b (f_X5_pass_L47 f) _ _ _ _ _ = _ ∧ _
    unfold f_X5_pass_L47_b
    rw [if_pos (nI_le (by omega) (by omega))]
    exact ⟨i, d, rfl, fun _ _ => ⟨rfl, rfl⟩, a⟩
  | succ m ih =>
    intro k fuel i d u N r a w hk hf
    obtain ⟨f, rfl⟩ : ∃ f, fuel = f + 1 := ⟨fuel - 1, by omega⟩
    show ∃ i' d', f_X5_pass_L47_b (f_X5_pass_L47 f) _ _ _ _ _ = _ ∧ _
    unfold f_X5_pass_L47_b f_X2_passDay
    obtain ⟨i1, d1, e1, F1, R1⟩ := y_day_L h.1 h.s1 hB (cN N 3) 0 1000 i N 0 a w (by omega) (by have := w.n3.2; omega)
    rw [if_neg (nI_ge (by omega) (by omega)), ob_X h, R_X0 h, ob_S h.1 h.s1, show f_X2_passDay_L4 1000 (mk E i j d) (zA E 1) 0 0 = _ from e1, cl_go, bnd_go, bnd_go, nI_1]
    obtain ⟨i', d', e, F, R⟩ := ih (k + 1) f i1 d1 (u + dw N r) (dN N r) (dr N r) R1 (day_ok w hB) (by omega) (by omega)
    exact ⟨i', d', e, fun q hq => ⟨(F q hq).1.trans (F1 q hq).1, (F q hq).2.trans (F1 q hq).2⟩, R⟩
end ACTS8
