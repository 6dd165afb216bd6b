theorem dsi5 : yX5_init.cls ≠ "java/lang/invoke/MethodHandle" ∧ yX5_init.cls ≠ "java/lang/invoke/VarHandle" ∧ (parseMethodDescriptor yX5_init.desc).map (fun d => d.parameters.length) = some 0 := by decide +kernel
theorem g_widen {X : Cx} {k n k2 n2 pc : Nat} {S : Hp} {lv : List (Nat × Value)} {st : List Value} (h1 : k ≤ k2) (h2 : n ≤ n2) (kk : GW X k2 n2 S pc lv st) : GW X k n S pc lv st := fun H locs ls hP hD hS hl => W.widen h1 h2 (kk H locs ls hP hD hS hl)
abbrev xSt (X : Cx) : State := xs X
set_option maxHeartbeats 4000000 in
set_option maxRecDepth 100000 in
/-- the law, from its entry -/
theorem whole_start {p : Program} {e : Env} {s : State} {m : MethodId} {below : List Frame} {meth : Method} {c : Code} (l : Launch) (hflags : l.flags = flags0) {b L : Nat} {xs : Nat → Int32} (hL : L ≤ 260) (C0 : lw_At p s m meth c b L xs) : W p l e room_1 s m #[Value.ref b] below meth c s.heap [] 0 0 (lw_Z below #[Value.ref b] s) (entryFrame m ([Value.ref b] : List Value).toArray 16) := by
  obtain ⟨hx, hb, hr, hml, hown, hts, hX, hbl, hlocks, hgv⟩ := id C0
  have hfl := flat_of_before _ hgv
  have hA : ∀ a : Nat, a < s.heap.size → ¬ (fun q : Nat => s.heap.size ≤ q) a := fun a h => Nat.not_le.mpr h
  have hwl : ∀ w ∈ wsL_law, w.before #[Value.ref b] s = true := fun w h => hts w (wsL_law_in w h)
  obtain ⟨c0, i0, k0⟩ := u_known (C := RX0) (T := TX0) (N := 4) (n := 4) hwl inlX0 (hwl _ q28)
  obtain ⟨c1, i1, k1⟩ := u_known (C := RX1) (T := TX1) (N := 3) (n := 3) hwl inlX1 (hwl _ q15)
  obtain ⟨c2, i2, k2⟩ := u_known (C := RX2) (T := TX2) (N := 10) (n := 10) hwl inlX2 (hwl _ q10)
  obtain ⟨c3, i3, k3⟩ := u_known (C := RX3) (T := TX3) (N := 5) (n := 5) hwl inlX3 (hwl _ q19)
  obtain ⟨c4, i4, k4⟩ := u_known (C := RX4) (T := TX4) (N := 11) (n := 11) hwl inlX4 (hwl _ q34)
  obtain ⟨c5, i5, k5⟩ := u_known (C := RX5) (T := TX5) (N := 5) (n := 5) hwl inlX5 (hwl _ q1)
  obtain ⟨a0, A0, B0⟩ := arrT_of (hwl _ q56)
  obtain ⟨a1, A1, B1⟩ := arrT_of (hwl _ q30)
  obtain ⟨a2, A2, B2⟩ := arrT_of (hwl _ q43)
  obtain ⟨a3, A3, B3⟩ := arrO_of (hts _ ao0)
  obtain ⟨a4, A4, B4⟩ := arrO_of (hts _ ao1)
  obtain ⟨a5, A5, B5⟩ := arrO_of (hts _ ao2)
  obtain ⟨D, hD⟩ : ∃ D : va_G, ∀ (k : Nat) (q : vw_C), vwCl[k]? = some q → u_Kn s q.1 q.2.1 q.2.2 (D.1 k) (D.2 k) := by
    refine ⟨(fun k => match k with | 0 => c0 | 1 => c1 | 2 => c2 | 3 => c3 | 4 => c4 | _ => c5, fun k => match k with | 0 => i0 | 1 => i1 | 2 => i2 | 3 => i3 | 4 => i4 | _ => i5), ?_⟩
    intro k q hq
    match k, hq with
    | 0, hq => cases hq; exact k0
    | 1, hq => cases hq; exact k1
    | 2, hq => cases hq; exact k2
    | 3, hq => cases hq; exact k3
    | 4, hq => cases hq; exact k4
    | 5, hq => cases hq; exact k5
    | k + 6, hq => simp [vwCl] at hq
  obtain ⟨cy, hcy⟩ : ∃ cy : Nat → ClassId, ∀ (k : Nat) (q : ClassId × FieldType), (ztys cy)[k]? = some q → ArrOfT s q.1 q.2 ∧ va_RA s q.1 q.2 := by
    refine ⟨fun k => match k with | 0 => a0 | 1 => a1 | 2 => a2 | 3 => a3 | 4 => a4 | _ => a5, ?_⟩
    intro k q hq
    match k, hq with
    | 0, hq => cases hq; exact ⟨A0, B0⟩
    | 1, hq => cases hq; exact ⟨A1, B1⟩
    | 2, hq => cases hq; exact ⟨A2, B2⟩
    | 3, hq => cases hq; exact ⟨A3, B3⟩
    | 4, hq => cases hq; exact ⟨A4, B4⟩
    | 5, hq => cases hq; exact ⟨A5, B5⟩
    | k + 6, hq => simp [ztys] at hq
  have hK : va_K D vwCl (ztys cy) s := ⟨hD, hcy⟩
  have E0 : EC s := ⟨va_AO.of (hts _ ao0), va_AO.of (hts _ ao1), va_AO.of (hts _ ao2), va_Nw.of rfl (hts _ nl0)⟩
  obtain ⟨adK, adV, hS5, hev⟩ := vk_Sof (s := s) (args := #[Value.ref b]) (N := 5) (tm := txT) (len := txL) (byt := txB) (A := fun q : Nat => s.heap.size ≤ q) tx_len (fun i hi => hfl _ (tx_ex i hi)) (fun i hi => hfl _ (tx_co i hi)) (fun i hi => hfl _ (tx_ar i hi)) (fun i hi => hfl _ (tx_le i hi)) (fun i hi j hj => hfl _ (tx_el i hi j hj)) (fun i j hi hj hne => (tx_ne i hi j hj hne).elim (fun h => Or.inl (hfl _ h)) (fun h => Or.inr (hfl _ h))) hA
  have EV0 : EV adK adV (fun q : Nat => s.heap.size ≤ q) s s.heap := ⟨hS5, fun i hi => vk_R.of (A := #[Value.ref b]) (hts _ (tx_sr i hi)) (hev i hi), va_Zof (hts _ ls0) (hwl _ q190) (va_eqt (hfl _ tx_cs)) hA, va_Zqof (hts _ ls1) (hwl _ q217) (hfl _ tx_si) hA⟩
  refine W.base ?_
  have hl := lv_entry ([.ref b]) (n := 16) (Nat.le_of_ble_eq_true rfl)
  rw [lg_entry_eq]
  generalize (lg_sl ([.ref b]) ++ List.replicate (16 - (lg_sl ([.ref b])).length) Slot.unset).toArray = ls at hl ⊢
  have hl : lv_has ls 16 [(0, va_rf (some b))] := hl
  obtain ⟨X, eX⟩ : ∃ X : Cx, X = (p, l, e, room_1, s.setDrawn s.drawn, m, #[Value.ref b], below, meth, c, lw_Z below #[Value.ref b] s, D, cy, fun q : Nat => s.heap.size ≤ q, 16) := ⟨_, rfl⟩
  have C : CxOK X cL_law RL room_1 := by
    subst eX
    exact ⟨hx, hb, hml, hown, dr_words hwl _, hK, fun _ h => h, hlocks, rfl⟩
  have hn : xn X = 16 := by subst eX; rfl
  have E : EC ((xSt X)) := by subst eX; exact E0
  have EVX : EV adK adV (xA X) ((xSt X)) ((xSt X)).heap := by subst eX; exact EV0
  have hXX : va_X b L xs ((xSt X)) ((xSt X)).heap := by subst eX; exact hX
  have hblX : b < ((xSt X)).heap.size := by subst eX; exact hbl
  have hbA : ¬ xA X b := by subst eX; exact Nat.not_le.mpr hbl
  have hret : ∀ (k n : Nat), k ≤ 628669 → n ≤ 7216242 → ∀ (S : Hp) (pc : Nat) (lv : List (Nat × Value)), decode cL_law pc = .ok (.ireturn, 1) → GW X k n S pc lv [.int 1] := by
    subst eX
    intro k n hk hn S pc lv hd
    refine g_widen (k2 := 628669) (n2 := 7216242) hk hn ?_
    intro H locs ls hP hD hS hl
    refine va_forget (fun q hq => hS.2.2 q hq) ?_
    exact lw_ret (Drawn.sameBut.refl s.drawn lw_cs) hx hb hr hlocks hd
  have key : GW X 0 0 Hp0 0 [(0, va_rf (some b))] [] := by
    have hn1 : 1 < xn X := by rw [hn]; decide
    refine g_new C (ci := 5) tyX5 tyX5_ok rfl (by decide) inlX5 (by decide) q0 q1 q2 (Nat.le_of_ble_eq_true rfl) (Nat.le_of_ble_eq_true rfl) dL_law_0 (fun q hq => ?_)
    refine g_dup C dL_law_3 rfl ?_
    have zq : zA (nO Hp0 q 5 0) 0 = q := rfl
    have hc := c_X5_init (nO Hp0 q 5 0) 0 1 rfl (by decide) (by rw [zq]; exact nO_K)
    rw [show va_rf (some (zA (nO Hp0 q 5 0) 0)) = va_rf (some q) by rw [zq]] at hc
    refine g_callN C E hc (good_c q5) rfl rfl q2 q3 q4 rfl dsi5 ⟨(Nat.le_of_ble_eq_true rfl), (Nat.le_of_ble_eq_true rfl)⟩ (cat_sum (Nat.le_of_ble_eq_true rfl)) ⟨(Nat.le_of_ble_eq_true rfl), (Nat.le_of_ble_eq_true rfl)⟩ dL_law_4 (fun S2 h2 => ?_)
    refine g_astore_n C (i := 1) (lv' := [(1, va_rf (some q)), (0, va_rf (some b))]) dL_law_7 rfl hn1 (by simp [va_rf_cat]) ?_
    have hI := ini_of h2.1 h2.2
    have e0 : zA S2 0 = q := (h2.1.A (show 0 < 1 from Nat.zero_lt_one)).trans zq
    obtain ⟨S9, h9⟩ := pure_law xs L hL S2 hI
    rw [e0] at h9
    exact w_L_law EVX C hn hXX hblX hbA rfl hret _ _ (Nat.le_of_ble_eq_true rfl) (Nat.le_of_ble_eq_true rfl) S2 (some q) h9
  subst eX
  exact key s.heap [] ls (fun k q h => by simp [Hp0_nil] at h) ⟨fun i j p q h => by simp [Hp0_nil] at h, fun k q h => by simp [Hp0_nil] at h⟩ va_S.rf hl
