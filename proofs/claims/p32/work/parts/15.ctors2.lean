set_option maxHeartbeats 4000000 in
set_option maxRecDepth 100000 in
theorem c_X2_L1 {X : Cx} (C : CxOK X cX2_init RX2 rm_X2_init) (hn : xn X = 2) (E : EC (xs X)) (S0 : Hp) (p b : Nat) (hb : b = (zL S0).length) (hp : p < b) (kx : ∀ S, IS1 S0 p b 8 S → GW X 9 40 S 40 [(0, va_rf (some (zA S0 p)))] []) : ∀ (m i : Nat) (S : Hp), i + m = 8 → IS1 S0 p b i S → GW X (1 + i) (8 + 4 * i) S 15 [(0, va_rf (some (zA S0 p))), (1, .int (nI i))] [] := by
  have hn1 : 1 < xn X := by rw [hn]; decide
  intro m
  induction m with
  | zero =>
    intro i S him h
    have : i = 8 := by omega
    subst this
    refine g_iload_n C (q := 1) dX2_init_15 rfl rfl ?_
    refine g_bipush C (v := 8) dX2_init_16 (by decide) ?_
    refine g_icmp_geI C (tgt := 40) dX2_init_18 (by decide) (fun _ => ?_) (fun c => absurd (by decide) c)
    refine g_sub (lv' := [(0, va_rf (some (zA S0 p)))]) [0] rfl ?_
    exact kx S h
  | succ m ih =>
    intro i S him h
    refine g_nd (fun hnd => ?_)
    refine g_iload_n C (q := 1) dX2_init_15 rfl rfl ?_
    refine g_bipush C (v := 8) dX2_init_16 (by decide) ?_
    refine g_icmp_geI C (tgt := 40) dX2_init_18 (by decide) (fun c => absurd c (nI_ge (b := 8) (by omega) (by decide))) (fun _ => ?_)
    have hlen : (zL S).length = b + 1 + i := by rw [h.1.len, hb]; omega
    have hpS : zA S p = zA S0 p := h.1.A (hb ▸ hp)
    have hpl : p < (zL S).length := by omega
    refine g_aload_n C (q := 0) dX2_init_21 rfl rfl ?_
    refine g_getER C (ci := 2) (slot := 0) rfl (by decide) inlX2 (by decide) rfl q27 dX2_init_22 rfl (hpS ▸ zA_mem hpl) (hpS ▸ h.2.1) ?_
    refine g_iload_n C (q := 1) dX2_init_25 rfl rfl ?_
    refine g_new C (ci := 0) tyX0 tyX0_ok rfl (by decide) inlX0 (by decide) q26 q28 q29 (show 1 + i + 1 ≤ 31 by omega) (show 8 + 4 * i + 4 ≤ 206 by omega) dX2_init_26 (fun q hq => ?_)
    refine g_dup C dX2_init_29 rfl ?_
    refine g_callNN C E (c_X0_init (nO S q 0 0) q) (good_c q37) rfl rfl q29 E.2.2.2 q36 rfl dsi0 ⟨(Nat.le_of_ble_eq_true rfl), (Nat.le_of_ble_eq_true rfl)⟩ (by simp [va_rf_cat, catI]) ⟨(show 1 + i + 1 + 0 ≤ 31 by omega), (show 8 + 4 * i + 4 + 0 ≤ 206 by omega)⟩ dX2_init_30 (fun S1 e1 => ?_)
    subst e1
    have hbl : b < (zL S).length := by omega
    have h0 : zR S (zA S0 p) 0 = some (zA S b) := by have := h.2.2.1; unfold lk at this; rwa [hpS] at this
    have hkb := h.2.2.2.1.new (c := 0) (m := 0) hbl hq
    have eb : zA (nO S q 0 0) b = zA S b := zA_old hbl
    unfold kd at hkb
    rw [eb] at hkb
    refine g_aast10 C dX2_init_33 h0 (by rw [nO_L]; exact List.mem_append_left _ (zA_mem hbl)) hkb.1 (by rw [hkb.2]; exact vp_in_nI (by omega) (by decide)) (by rw [nO_L]; exact List.mem_append_right _ (List.mem_singleton.mpr rfl)) nO_K ?_
    rw [nI_clamp (by omega)]
    refine g_iinc C (i := 1) (lv' := [(1, .int (nI (i + 1))), (0, va_rf (some (zA S0 p)))]) (q := 1) (nI (i + 1)) dX2_init_34 rfl (by rw [← nI_1]; rfl) hn1 rfl ?_
    refine g_goto C (tgt := 15) dX2_init_37 (by decide) ?_
    refine g_sub (lv' := [(0, va_rf (some (zA S0 p))), (1, .int (nI (i + 1)))]) [1, 0] rfl ?_
    refine g_cs (k2 := 1 + (i + 1)) (n2 := 8 + 4 * (i + 1)) (by omega) (by omega) ?_
    exact ih (i + 1) _ (by omega) (h.step hb hp hnd hq)

set_option maxHeartbeats 4000000 in
set_option maxRecDepth 100000 in
theorem c_X2_L2 {X : Cx} (C : CxOK X cX2_init RX2 rm_X2_init) (hn : xn X = 2) (E : EC (xs X)) (S0 : Hp) (p b : Nat) (hb : b = (zL S0).length) (hp : p < b) (kx : ∀ S, IS2 S0 p b 10 S → GW X 31 206 S 84 [(0, va_rf (some (zA S0 p)))] []) : ∀ (m i : Nat) (S : Hp), i + m = 10 → IS2 S0 p b i S → GW X (11 + 2 * i) (56 + 15 * i) S 59 [(0, va_rf (some (zA S0 p))), (1, .int (nI i))] [] := by
  have hn1 : 1 < xn X := by rw [hn]; decide
  intro m
  induction m with
  | zero =>
    intro i S him h
    have : i = 10 := by omega
    subst this
    refine g_iload_n C (q := 1) dX2_init_59 rfl rfl ?_
    refine g_bipush C (v := 10) dX2_init_60 (by decide) ?_
    refine g_icmp_geI C (tgt := 84) dX2_init_62 (by decide) (fun _ => ?_) (fun c => absurd (by decide) c)
    refine g_sub (lv' := [(0, va_rf (some (zA S0 p)))]) [0] rfl ?_
    exact kx S h
  | succ m ih =>
    intro i S him h
    refine g_nd (fun hnd => ?_)
    refine g_iload_n C (q := 1) dX2_init_59 rfl rfl ?_
    refine g_bipush C (v := 10) dX2_init_60 (by decide) ?_
    refine g_icmp_geI C (tgt := 84) dX2_init_62 (by decide) (fun c => absurd c (nI_ge (b := 10) (by omega) (by decide))) (fun _ => ?_)
    have hlen : (zL S).length = b + 11 + 2 * i := by rw [h.1.len, hb]; omega
    have hpS : zA S p = zA S0 p := h.1.A (hb ▸ hp)
    have hpl : p < (zL S).length := by omega
    refine g_aload_n C (q := 0) dX2_init_65 rfl rfl ?_
    refine g_getER C (ci := 2) (slot := 2) rfl (by decide) inlX2 (by decide) rfl q33 dX2_init_66 rfl (hpS ▸ zA_mem hpl) (hpS ▸ h.2.1.1) ?_
    refine g_iload_n C (q := 1) dX2_init_69 rfl rfl ?_
    refine g_new C (ci := 4) tyX4 tyX4_ok rfl (by decide) inlX4 (by decide) q32 q34 q35 (show 11 + 2 * i + 1 ≤ 31 by omega) (show 56 + 15 * i + 11 ≤ 206 by omega) dX2_init_70 (fun q hq => ?_)
    refine g_dup C dX2_init_73 rfl ?_
    have hq1 : zA (nO S q 4 0) (b + 11 + 2 * i) = q := by rw [← hlen]; exact zA_new
    have hc := c_X4_init (nO S q 4 0) (b + 11 + 2 * i) (by rw [nO_L, List.length_append, hlen]; show _ < b + 11 + 2 * i + 1; omega) (by rw [hq1]; exact nO_K)
    rw [hq1] at hc
    refine g_callN C E hc (good_c q41) rfl rfl q35 q39 q40 rfl dsi4 ⟨(Nat.le_of_ble_eq_true rfl), (Nat.le_of_ble_eq_true rfl)⟩ (by simp [va_rf_cat, catI]) ⟨(show 11 + 2 * i + 1 + 1 ≤ 31 by omega), (show 56 + 15 * i + 11 + 4 ≤ 206 by omega)⟩ dX2_init_74 (fun S1 e1 => ?_)
    have hbl : b + 10 < (zL S).length := by omega
    have h0 : zR S (zA S0 p) 2 = some (zA S (b + 10)) := by have := h.2.1.2.2.2; unfold lk at this; rwa [hpS] at this
    have hl1 : b + 10 < (zL (nO S q 4 0)).length := by rw [nO_L, List.length_append]; omega
    have hkb := (h.2.2.1.2.2.new (c := 4) (m := 0) hbl hq).ex hl1 e1.1
    have eb : zA S1 (b + 10) = zA S (b + 10) := (e1.1.A hl1).trans (zA_old hbl)
    have hs := IS2.step (S2 := S1) hb hp (by omega) h hnd hq (by rw [hq1]; exact e1)
    unfold kd at hkb
    rw [eb] at hkb hs
    have hm : zA S (b + 10) ∈ zL S1 := eb ▸ zA_mem (by rw [e1.1.len]; omega)
    have hqm : q ∈ zL S1 := e1.1.mem (by rw [nO_L]; exact List.mem_append_right _ (List.mem_singleton.mpr rfl))
    have hqk : zK S1 q = 4 := by have := e1.2.1; rwa [show zA S1 (b + 11 + 2 * i) = q from (e1.1.A (by rw [nO_L, List.length_append, hlen]; show _ < b + 11 + 2 * i + 1; omega)).trans hq1] at this
    refine g_aast12 C dX2_init_77 h0 hm hkb.1 (by rw [hkb.2]; exact vp_in_nI (by omega) (by decide)) hqm hqk ?_
    rw [nI_clamp (by omega)]
    refine g_iinc C (i := 1) (lv' := [(1, .int (nI (i + 1))), (0, va_rf (some (zA S0 p)))]) (q := 1) (nI (i + 1)) dX2_init_78 rfl (by rw [← nI_1]; rfl) hn1 rfl ?_
    refine g_goto C (tgt := 59) dX2_init_81 (by decide) ?_
    refine g_sub (lv' := [(0, va_rf (some (zA S0 p))), (1, .int (nI (i + 1)))]) [1, 0] rfl ?_
    refine g_cs (k2 := 11 + 2 * (i + 1)) (n2 := 56 + 15 * (i + 1)) (by omega) (by omega) ?_
    exact ih (i + 1) _ (by omega) hs

set_option maxHeartbeats 4000000 in
set_option maxRecDepth 100000 in
/-- State(): its arrays, guides and tours come behind what was there -/
theorem c_X2_init (S : Hp) (p b : Nat) (hb : b = (zL S).length) (hp : p < b) (hk : zK S (zA S p) = 2) : CtN yX2_init cX2_init 2 rm_X2_init 31 206 [va_rf (some (zA S p))] S (fun S' => Ex S (zA S p) 31 S' ∧ LState S' p b) := by
  refine ct_N (own := RX2) (by decide) rfl rfl (Nat.le_of_ble_eq_true rfl) (fun X C hn E hini hQ => ?_)
  have hn1 : 1 < xn X := by rw [hn]; decide
  have hpl : p < (zL S).length := hb ▸ hp
  show GW X 0 0 S 0 [(0, va_rf (some (zA S p)))] []
  refine g_aload_n C (q := 0) dX2_init_0 rfl rfl ?_
  refine g_oinit C rfl q25 q7 q8 (by decide) (by decide) (cat_sum (Nat.le_of_ble_eq_true rfl)) dX2_init_1 ?_
  refine g_aload_n C (q := 0) dX2_init_4 rfl rfl ?_
  refine g_bipush C (v := 8) dX2_init_5 (by decide) ?_
  refine g_anew10 C E (m := 8) q26 (by decide) (by decide) (by decide) (Nat.le_of_ble_eq_true rfl) (Nat.le_of_ble_eq_true rfl) dX2_init_7 (fun q hq => ?_)
  have hx := nO_unch (c := 10) (m := 8) (zA_mem hpl) hq
  have hpa : zA (nO S q 10 8) p = zA S p := zA_old hpl
  refine g_putR C hini (ci := 2) (slot := 0) tyX2 tyX2_ok nmX2 rfl (by decide) inlX2 (by decide) rfl q27 rfl rfl dX2_init_10 rfl rfl rfl (by rw [nO_L]; exact List.mem_append_left _ (zA_mem hpl)) (hx.2.2.2.1.trans hk) ?_
  refine g_iconst C (v := 0) dX2_init_13 (by decide) ?_
  refine g_istore_n C (i := 1) (lv' := [(1, .int 0), (0, va_rf (some (zA S p)))]) dX2_init_14 rfl hn1 (by simp [va_rf_cat, catI]) ?_
  refine g_sub (lv' := [(0, va_rf (some (zA S p))), (1, .int (nI 0))]) [1, 0] rfl ?_
  refine c_X2_L1 C hn E S p b hb hp (fun S1 h1 => ?_) 8 0 _ rfl ⟨(Ex.rf.new hq).put (Or.inl rfl), ?_, ?_, ?_, fun j hj => absurd hj (Nat.not_lt_zero j)⟩
  · -- behind the first loop
    have hlen : (zL S1).length = b + 9 := by rw [h1.1.len, hb]
    have hpS : zA S1 p = zA S p := h1.1.A hpl
    have hpl1 : p < (zL S1).length := by omega
    have hm1 : zA S p ∈ zL S1 := hpS ▸ zA_mem hpl1
    have hk1 : zK S1 (zA S p) = 2 := hpS ▸ h1.2.1
    refine g_aload_n C (q := 0) dX2_init_40 rfl rfl ?_
    refine g_bipush C (v := 6) dX2_init_41 (by decide) ?_
    refine g_newd C (m := 6) q30 (by decide) (by decide) (by decide) (Nat.le_of_ble_eq_true rfl) (Nat.le_of_ble_eq_true rfl) dX2_init_43 (fun q2 hq2 => ?_)
    have hpa2 : zA (nO S1 q2 8 6) p = zA S p := (zA_old hpl1).trans hpS
    have hm2 : zA S p ∈ zL (nO S1 q2 8 6) := by rw [nO_L]; exact List.mem_append_left _ hm1
    have hk2 : zK (nO S1 q2 8 6) (zA S p) = 2 := (nO_unch hm1 hq2).2.2.2.1.trans hk1
    refine g_putR C hini (ci := 2) (slot := 1) tyX2 tyX2_ok nmX2 rfl (by decide) inlX2 (by decide) rfl q31 rfl rfl dX2_init_45 rfl rfl rfl hm2 hk2 ?_
    obtain ⟨S3, e3⟩ : ∃ S3, S3 = wR (nO S1 q2 8 6) (zA S p) 1 (some q2) := ⟨_, rfl⟩
    rw [← e3]
    have hl3 : (zL S3).length = b + 10 := by rw [e3]; show (zL (nO S1 q2 8 6)).length = _; rw [nO_L, List.length_append, hlen]; rfl
    have eA : ∀ j, zA S3 j = zA (nO S1 q2 8 6) j := fun j => by rw [e3]; rfl
    have hp3 : zA S3 p = zA S p := (eA p).trans hpa2
    have hm3 : zA S p ∈ zL S3 := by rw [e3]; exact hm2
    have hk3 : zK S3 (zA S p) = 2 := by rw [e3]; exact hk2
    refine g_aload_n C (q := 0) dX2_init_48 rfl rfl ?_
    refine g_bipush C (v := 10) dX2_init_49 (by decide) ?_
    refine g_anew12 C E (m := 10) q32 (by decide) (by decide) (by decide) (Nat.le_of_ble_eq_true rfl) (Nat.le_of_ble_eq_true rfl) dX2_init_51 (fun q4 hq4 => ?_)
    refine g_putR C hini (ci := 2) (slot := 2) tyX2 tyX2_ok nmX2 rfl (by decide) inlX2 (by decide) rfl q33 rfl rfl dX2_init_54 rfl rfl rfl (by rw [nO_L]; exact List.mem_append_left _ hm3) ((nO_unch hm3 hq4).2.2.2.1.trans hk3) ?_
    refine g_iconst C (v := 0) dX2_init_57 (by decide) ?_
    refine g_istore_n C (i := 1) (lv' := [(1, .int 0), (0, va_rf (some (zA S p)))]) dX2_init_58 rfl hn1 (by simp [va_rf_cat, catI]) ?_
    refine g_sub (lv' := [(0, va_rf (some (zA S p))), (1, .int (nI 0))]) [1, 0] rfl ?_
    have hb1 : b < (zL S1).length := by omega
    have hE3 : Ex S (zA S p) 10 S3 := by rw [e3]; exact (h1.1.new hq2).put (Or.inl rfl)
    have hp3l : p < (zL S3).length := by omega
    have d93 : kd S3 (b + 9) 8 6 := by rw [e3, ← hlen]; exact kd.made.put
    have d03 : kd S3 b 10 8 := by rw [e3]; exact (h1.2.2.2.1.new hb1 hq2).put
    have l03 : lk S3 p 0 b := by rw [e3]; exact (h1.2.2.1.new hpl1 hb1 hq2).put (Or.inr (by decide))
    have l13 : lk S3 p 1 (b + 9) := by rw [e3]; exact lk.self hpa2 (by rw [← hlen]; exact zA_new)
    have g3 : ∀ j, j < 8 → lk S3 b j (b + 1 + j) ∧ zK S3 (zA S3 (b + 1 + j)) = 0 := fun j hj => by
      obtain ⟨u1, u2⟩ := h1.2.2.2.2 j hj
      rw [e3]
      exact ⟨(u1.new hb1 (by omega) hq2).put (Or.inl (by rw [zA_old hb1, ← hpS]; exact kne h1.2.2.2.1.1 h1.2.1 (by decide))), kz.put (kz.new u2 (by omega) hq2)⟩
    have hp4 : zA (nO S3 q4 12 10) p = zA S p := (zA_old hp3l).trans hp3
    have z3 : zK S3 (zA S3 p) = 2 := hp3.symm ▸ hk3
    refine g_cs (k2 := 11 + 2 * 0) (n2 := 56 + 15 * 0) rfl rfl ?_
    refine c_X2_L2 C hn E S p b hb hp (fun S5 h5 => ?_) 10 0 _ rfl ⟨(hE3.new hq4).put (Or.inl rfl), ⟨kz.put (kz.new z3 hp3l hq4), (l03.new hp3l (by omega) hq4).put (Or.inr (by decide)), (l13.new hp3l (by omega) hq4).put (Or.inr (by decide)), lk.self hp4 (by rw [← hl3]; exact zA_new)⟩, ⟨(d03.new (by omega) hq4).put, (d93.new (by omega) hq4).put, by rw [← hl3]; exact kd.made.put⟩, fun j hj => ?_, fun j hj => absurd hj (Nat.not_lt_zero j)⟩
    · exact g_vretN C hQ dX2_init_84 ⟨h5.1, h5.2.1, h5.2.2.1, h5.2.2.2.1, h5.2.2.2.2⟩
    · obtain ⟨u1, u2⟩ := g3 j hj
      exact ⟨(u1.new (by omega) (by omega) hq4).put (Or.inl (by rw [zA_old (by omega), ← hp3]; exact kne d03.1 z3 (by decide))), kz.put (kz.new u2 (by omega) hq4)⟩
  · exact kz.put (kz.new hk hpl hq)
  · exact lk.self hpa (by rw [hb]; exact zA_new)
  · rw [hb]; exact kd.made.put

set_option maxHeartbeats 4000000 in
set_option maxRecDepth 100000 in
theorem c_X1_L {X : Cx} (C : CxOK X cX1_init RX1 rm_X1_init) (hn : xn X = 2) (E : EC (xs X)) (S0 : Hp) (p b : Nat) (hb : b = (zL S0).length) (hp : p < b) (kx : ∀ S, IH1 S0 p b 5 S → GW X 161 1085 S 38 [(0, va_rf (some (zA S0 p)))] []) : ∀ (m i : Nat) (S : Hp), i + m = 5 → IH1 S0 p b i S → GW X (1 + 32 * i) (5 + 216 * i) S 14 [(0, va_rf (some (zA S0 p))), (1, .int (nI i))] [] := by
  have hn1 : 1 < xn X := by rw [hn]; decide
  intro m
  induction m with
  | zero =>
    intro i S him h
    have : i = 5 := by omega
    subst this
    refine g_iload_n C (q := 1) dX1_init_14 rfl rfl ?_
    refine g_iconst C (v := 5) dX1_init_15 (by decide) ?_
    refine g_icmp_geI C (tgt := 38) dX1_init_16 (by decide) (fun _ => ?_) (fun c => absurd (by decide) c)
    refine g_sub (lv' := [(0, va_rf (some (zA S0 p)))]) [0] rfl ?_
    exact kx S h
  | succ m ih =>
    intro i S him h
    refine g_nd (fun hnd => ?_)
    refine g_iload_n C (q := 1) dX1_init_14 rfl rfl ?_
    refine g_iconst C (v := 5) dX1_init_15 (by decide) ?_
    refine g_icmp_geI C (tgt := 38) dX1_init_16 (by decide) (fun c => absurd c (nI_ge (b := 5) (by omega) (by decide))) (fun _ => ?_)
    have hlen : (zL S).length = b + 1 + 32 * i := by rw [h.1.len, hb]; omega
    have hpS : zA S p = zA S0 p := h.1.A (hb ▸ hp)
    have hpl : p < (zL S).length := by omega
    refine g_aload_n C (q := 0) dX1_init_19 rfl rfl ?_
    refine g_getER C (ci := 1) (slot := 0) rfl (by decide) inlX1 (by decide) rfl q50 dX1_init_20 rfl (hpS ▸ zA_mem hpl) (hpS ▸ h.2.1) ?_
    refine g_iload_n C (q := 1) dX1_init_23 rfl rfl ?_
    refine g_new C (ci := 2) tyX2 tyX2_ok rfl (by decide) inlX2 (by decide) q49 q10 q11 (show 1 + 32 * i + 1 ≤ 161 by omega) (show 5 + 216 * i + 10 ≤ 1085 by omega) dX1_init_24 (fun q hq => ?_)
    refine g_dup C dX1_init_27 rfl ?_
    have hq1 : zA (nO S q 2 0) (b + 1 + 32 * i) = q := by rw [← hlen]; exact zA_new
    have hl1 : (zL (nO S q 2 0)).length = b + 2 + 32 * i := by rw [nO_L, List.length_append, hlen]; show b + 1 + 32 * i + 1 = _; omega
    have hc := c_X2_init (nO S q 2 0) (b + 1 + 32 * i) (b + 2 + 32 * i) hl1.symm (by omega) (by rw [hq1]; exact nO_K)
    rw [hq1] at hc
    refine g_callN C E hc (good_c q24) rfl rfl q11 q51 q23 rfl dsi2 ⟨(Nat.le_of_ble_eq_true rfl), (Nat.le_of_ble_eq_true rfl)⟩ (by simp [va_rf_cat, catI]) ⟨(show 1 + 32 * i + 1 + 31 ≤ 161 by omega), (show 5 + 216 * i + 10 + 206 ≤ 1085 by omega)⟩ dX1_init_28 (fun S1 e1 => ?_)
    have hbl : b < (zL S).length := by omega
    have h0 : zR S (zA S0 p) 0 = some (zA S b) := by have := h.2.2.1; unfold lk at this; rwa [hpS] at this
    have hkb := (h.2.2.2.1.new (c := 2) (m := 0) hbl hq).ex (by omega) e1.1
    have eb : zA S1 b = zA S b := (e1.1.A (by omega)).trans (zA_old hbl)
    have hs := IH1.step (S2 := S1) hb hp h hnd hq (by rw [hq1]; exact e1)
    unfold kd at hkb
    rw [eb] at hkb hs
    have hm : zA S b ∈ zL S1 := eb ▸ zA_mem (by rw [e1.1.len]; omega)
    have hqm : q ∈ zL S1 := e1.1.mem (by rw [nO_L]; exact List.mem_append_right _ (List.mem_singleton.mpr rfl))
    have hqk : zK S1 q = 2 := by have := e1.2.1.1; rwa [show zA S1 (b + 1 + 32 * i) = q from (e1.1.A (by omega)).trans hq1] at this
    refine g_aast11 C dX1_init_31 h0 hm hkb.1 (by rw [hkb.2]; exact vp_in_nI (by omega) (by decide)) hqm hqk ?_
    rw [nI_clamp (by omega)]
    refine g_iinc C (i := 1) (lv' := [(1, .int (nI (i + 1))), (0, va_rf (some (zA S0 p)))]) (q := 1) (nI (i + 1)) dX1_init_32 rfl (by rw [← nI_1]; rfl) hn1 rfl ?_
    refine g_goto C (tgt := 14) dX1_init_35 (by decide) ?_
    refine g_sub (lv' := [(0, va_rf (some (zA S0 p))), (1, .int (nI (i + 1)))]) [1, 0] rfl ?_
    refine g_cs (k2 := 1 + 32 * (i + 1)) (n2 := 5 + 216 * (i + 1)) (by omega) (by omega) ?_
    exact ih (i + 1) _ (by omega) hs

set_option maxHeartbeats 4000000 in
set_option maxRecDepth 100000 in
/-- History(): five states behind -/
theorem c_X1_init (S : Hp) (p b : Nat) (hb : b = (zL S).length) (hp : p < b) (hk : zK S (zA S p) = 1) : CtN yX1_init cX1_init 2 rm_X1_init 161 1085 [va_rf (some (zA S p))] S (fun S' => IH1 S p b 5 S') := by
  refine ct_N (own := RX1) (by decide) rfl rfl (Nat.le_of_ble_eq_true rfl) (fun X C hn E hini hQ => ?_)
  have hn1 : 1 < xn X := by rw [hn]; decide
  have hpl : p < (zL S).length := hb ▸ hp
  show GW X 0 0 S 0 [(0, va_rf (some (zA S p)))] []
  refine g_aload_n C (q := 0) dX1_init_0 rfl rfl ?_
  refine g_oinit C rfl q48 q7 q8 (by decide) (by decide) (cat_sum (Nat.le_of_ble_eq_true rfl)) dX1_init_1 ?_
  refine g_aload_n C (q := 0) dX1_init_4 rfl rfl ?_
  refine g_iconst C (v := 5) dX1_init_5 (by decide) ?_
  refine g_anew11 C E (m := 5) q49 (by decide) (by decide) (by decide) (Nat.le_of_ble_eq_true rfl) (Nat.le_of_ble_eq_true rfl) dX1_init_6 (fun q hq => ?_)
  have hx := nO_unch (c := 11) (m := 5) (zA_mem hpl) hq
  have hpa : zA (nO S q 11 5) p = zA S p := zA_old hpl
  refine g_putR C hini (ci := 1) (slot := 0) tyX1 tyX1_ok nmX1 rfl (by decide) inlX1 (by decide) rfl q50 rfl rfl dX1_init_9 rfl rfl rfl (by rw [nO_L]; exact List.mem_append_left _ (zA_mem hpl)) (hx.2.2.2.1.trans hk) ?_
  refine g_iconst C (v := 0) dX1_init_12 (by decide) ?_
  refine g_istore_n C (i := 1) (lv' := [(1, .int 0), (0, va_rf (some (zA S p)))]) dX1_init_13 rfl hn1 (by simp [va_rf_cat, catI]) ?_
  refine g_sub (lv' := [(0, va_rf (some (zA S p))), (1, .int (nI 0))]) [1, 0] rfl ?_
  refine g_cs (k2 := 1 + 32 * 0) (n2 := 5 + 216 * 0) rfl rfl ?_
  refine c_X1_L C hn E S p b hb hp (fun S1 h1 => g_vretN C hQ dX1_init_38 h1) 5 0 _ rfl ⟨(Ex.rf.new hq).put (Or.inl rfl), kz.put (kz.new hk hpl hq), lk.self hpa (by rw [hb]; exact zA_new), by rw [hb]; exact kd.made.put, fun j hj => absurd hj (Nat.not_lt_zero j)⟩
