theorem GG_s0 {S S0 A B : Hp} {p b q : Nat} (hb : b = (zL S0).length) (hp : p < b) (hE : Ex S0 (zA S0 p) 0 S) (hn : (zL S).Nodup) (hq : q ∉ zL S) (hA : A = nO S q 2 0) (he : Ex A (zA A (b + 0)) 31 B) (hc : LState B (b + 0) (b + 1)) (h : (zK S (zA S (p)) = 5)) : Ex S0 (zA S0 p) 32 (wR B (zA S0 p) 0 (some q)) ∧ (zK (wR B (zA S0 p) 0 (some q)) (zA (wR B (zA S0 p) 0 (some q)) (p)) = 5) ∧ (lk (wR B (zA S0 p) 0 (some q)) (p) 0 (b)) ∧ (LState (wR B (zA S0 p) 0 (some q)) (b) (b + 1)) := by
  have hl : (zL S).length = b + 0 := by rw [hE.len, hb]
  have hlA : (zL A).length = b + 1 := by rw [hA, nO_L, List.length_append, hl]; rfl
  have hlB : (zL B).length = b + 32 := by rw [he.len, hlA]
  have hnA : (zL A).Nodup := by rw [hA]; exact nd_new hn hq
  have hnB : (zL B).Nodup := he.2.1 hnA
  have hqA : zA A (b + 0) = q := by rw [hA, ← hl]; exact zA_new
  have hqB : zA B (b + 0) = q := (he.A (by omega)).trans hqA
  have hEA : Ex S0 (zA S0 p) 1 A := by rw [hA]; exact hE.new hq
  have hEB : Ex S0 (zA S0 p) 32 B := hEA.call (fun hm => hq (hE.mem hm)) (hqA ▸ he)
  have hpB : zA B p = zA S0 p := hEB.A (hb ▸ hp)
  have KA : Kx S A (b + 0) p 0 := by rw [hA]; exact Kx.new (by omega) hq
  have KB : Kx A B (b + 0) p 0 := Kx.ex hnA (Nat.le_refl _) (by omega) he
  have KC : Kx B (wR B (zA B p) 0 (some q)) (b + 32) p 0 := Kx.put hnB (by omega) (by omega)
  have KC0 : Kx B (wR B (zA B p) 0 (some q)) (b + 0) p 0 := fun j hj => KC j (by omega)
  have K := (KA.trans KB).trans KC0
  have hlp : lk (wR B (zA B p) 0 (some q)) p 0 (b + 0) := lk.self rfl hqB
  rw [hpB] at KC KC0 K hlp
  clear KA KB KC0 hpB hqA hnA hnB hqB hEA
  have f0 := h
  exact ⟨hEB.put (Or.inl rfl), (kz.kx f0 K (by omega)), hlp, (hc.kx KC (by omega) (by omega) (by omega) (by omega))⟩
theorem GG_s1 {S S0 A B : Hp} {p b q : Nat} (hb : b = (zL S0).length) (hp : p < b) (hE : Ex S0 (zA S0 p) 32 S) (hn : (zL S).Nodup) (hq : q ∉ zL S) (hA : A = nO S q 2 0) (he : Ex A (zA A (b + 32)) 31 B) (hc : LState B (b + 32) (b + 33)) (h : (zK S (zA S (p)) = 5) ∧ (lk S (p) 0 (b)) ∧ (LState S (b) (b + 1))) : Ex S0 (zA S0 p) 64 (wR B (zA S0 p) 1 (some q)) ∧ (zK (wR B (zA S0 p) 1 (some q)) (zA (wR B (zA S0 p) 1 (some q)) (p)) = 5) ∧ (lk (wR B (zA S0 p) 1 (some q)) (p) 0 (b)) ∧ (LState (wR B (zA S0 p) 1 (some q)) (b) (b + 1)) ∧ (lk (wR B (zA S0 p) 1 (some q)) (p) 1 (b + 32)) ∧ (LState (wR B (zA S0 p) 1 (some q)) (b + 32) (b + 33)) := by
  have hl : (zL S).length = b + 32 := by rw [hE.len, hb]
  have hlA : (zL A).length = b + 33 := by rw [hA, nO_L, List.length_append, hl]; rfl
  have hlB : (zL B).length = b + 64 := by rw [he.len, hlA]
  have hnA : (zL A).Nodup := by rw [hA]; exact nd_new hn hq
  have hnB : (zL B).Nodup := he.2.1 hnA
  have hqA : zA A (b + 32) = q := by rw [hA, ← hl]; exact zA_new
  have hqB : zA B (b + 32) = q := (he.A (by omega)).trans hqA
  have hEA : Ex S0 (zA S0 p) 33 A := by rw [hA]; exact hE.new hq
  have hEB : Ex S0 (zA S0 p) 64 B := hEA.call (fun hm => hq (hE.mem hm)) (hqA ▸ he)
  have hpB : zA B p = zA S0 p := hEB.A (hb ▸ hp)
  have KA : Kx S A (b + 32) p 1 := by rw [hA]; exact Kx.new (by omega) hq
  have KB : Kx A B (b + 32) p 1 := Kx.ex hnA (Nat.le_refl _) (by omega) he
  have KC : Kx B (wR B (zA B p) 1 (some q)) (b + 64) p 1 := Kx.put hnB (by omega) (by omega)
  have KC0 : Kx B (wR B (zA B p) 1 (some q)) (b + 32) p 1 := fun j hj => KC j (by omega)
  have K := (KA.trans KB).trans KC0
  have hlp : lk (wR B (zA B p) 1 (some q)) p 1 (b + 32) := lk.self rfl hqB
  rw [hpB] at KC KC0 K hlp
  clear KA KB KC0 hpB hqA hnA hnB hqB hEA
  obtain ⟨f0, f1, f2⟩ := h
  exact ⟨hEB.put (Or.inl rfl), (kz.kx f0 K (by omega)), (f1.kx K (by omega) (by omega) (Or.inr (by decide))), (f2.kx K (by omega) (by omega) (by omega) (by omega)), hlp, (hc.kx KC (by omega) (by omega) (by omega) (by omega))⟩
theorem GG_s2 {S S0 A B : Hp} {p b q : Nat} (hb : b = (zL S0).length) (hp : p < b) (hE : Ex S0 (zA S0 p) 64 S) (hn : (zL S).Nodup) (hq : q ∉ zL S) (hA : A = nO S q 1 0) (he : Ex A (zA A (b + 64)) 161 B) (hc : IH1 A (b + 64) (b + 65) 5 B) (h : (zK S (zA S (p)) = 5) ∧ (lk S (p) 0 (b)) ∧ (LState S (b) (b + 1)) ∧ (lk S (p) 1 (b + 32)) ∧ (LState S (b + 32) (b + 33))) : Ex S0 (zA S0 p) 226 (wR B (zA S0 p) 2 (some q)) ∧ (zK (wR B (zA S0 p) 2 (some q)) (zA (wR B (zA S0 p) 2 (some q)) (p)) = 5) ∧ (lk (wR B (zA S0 p) 2 (some q)) (p) 0 (b)) ∧ (LState (wR B (zA S0 p) 2 (some q)) (b) (b + 1)) ∧ (lk (wR B (zA S0 p) 2 (some q)) (p) 1 (b + 32)) ∧ (LState (wR B (zA S0 p) 2 (some q)) (b + 32) (b + 33)) ∧ (lk (wR B (zA S0 p) 2 (some q)) (p) 2 (b + 64)) ∧ (zK (wR B (zA S0 p) 2 (some q)) (zA (wR B (zA S0 p) 2 (some q)) (b + 64)) = 1) ∧ (lk (wR B (zA S0 p) 2 (some q)) (b + 64) 0 (b + 65)) ∧ (kd (wR B (zA S0 p) 2 (some q)) (b + 65) 11 5) ∧ (∀ j, j < 5 → lk (wR B (zA S0 p) 2 (some q)) (b + 65) j (b + 66 + 32 * j) ∧ LState (wR B (zA S0 p) 2 (some q)) (b + 66 + 32 * j) (b + 67 + 32 * j)) := by
  have hl : (zL S).length = b + 64 := by rw [hE.len, hb]
  have hlA : (zL A).length = b + 65 := by rw [hA, nO_L, List.length_append, hl]; rfl
  have hlB : (zL B).length = b + 226 := by rw [he.len, hlA]
  have hnA : (zL A).Nodup := by rw [hA]; exact nd_new hn hq
  have hnB : (zL B).Nodup := he.2.1 hnA
  have hqA : zA A (b + 64) = q := by rw [hA, ← hl]; exact zA_new
  have hqB : zA B (b + 64) = q := (he.A (by omega)).trans hqA
  have hEA : Ex S0 (zA S0 p) 65 A := by rw [hA]; exact hE.new hq
  have hEB : Ex S0 (zA S0 p) 226 B := hEA.call (fun hm => hq (hE.mem hm)) (hqA ▸ he)
  have hpB : zA B p = zA S0 p := hEB.A (hb ▸ hp)
  have KA : Kx S A (b + 64) p 2 := by rw [hA]; exact Kx.new (by omega) hq
  have KB : Kx A B (b + 64) p 2 := Kx.ex hnA (Nat.le_refl _) (by omega) he
  have KC : Kx B (wR B (zA B p) 2 (some q)) (b + 226) p 2 := Kx.put hnB (by omega) (by omega)
  have KC0 : Kx B (wR B (zA B p) 2 (some q)) (b + 64) p 2 := fun j hj => KC j (by omega)
  have K := (KA.trans KB).trans KC0
  have hlp : lk (wR B (zA B p) 2 (some q)) p 2 (b + 64) := lk.self rfl hqB
  rw [hpB] at KC KC0 K hlp
  clear KA KB KC0 hpB hqA hnA hnB hqB hEA
  obtain ⟨f0, f1, f2, f3, f4⟩ := h
  obtain ⟨-, g1, g2, g3, g4⟩ := hc
  exact ⟨hEB.put (Or.inl rfl), (kz.kx f0 K (by omega)), (f1.kx K (by omega) (by omega) (Or.inr (by decide))), (f2.kx K (by omega) (by omega) (by omega) (by omega)), (f3.kx K (by omega) (by omega) (Or.inr (by decide))), (f4.kx K (by omega) (by omega) (by omega) (by omega)), hlp, (kz.kx g1 KC (by omega)), (g2.kx KC (by omega) (by omega) (Or.inl (by omega))), (g3.kx KC (by omega)), (fun j hj => ⟨(g4 j hj).1.kx KC (by omega) (by omega) (Or.inl (by omega)), (g4 j hj).2.kx KC (by omega) (by omega) (by omega) (by omega)⟩)⟩
theorem GG_s3 {S S0 A B : Hp} {p b q : Nat} (hb : b = (zL S0).length) (hp : p < b) (hE : Ex S0 (zA S0 p) 226 S) (hn : (zL S).Nodup) (hq : q ∉ zL S) (hA : A = nO S q 3 0) (he : Ex A (zA A (b + 226)) 1 B) (hc : zK B (zA B (b + 226)) = 3 ∧ lk B (b + 226) 0 (zL A).length ∧ kd B (zL A).length 7 40) (h : (zK S (zA S (p)) = 5) ∧ (lk S (p) 0 (b)) ∧ (LState S (b) (b + 1)) ∧ (lk S (p) 1 (b + 32)) ∧ (LState S (b + 32) (b + 33)) ∧ (lk S (p) 2 (b + 64)) ∧ (zK S (zA S (b + 64)) = 1) ∧ (lk S (b + 64) 0 (b + 65)) ∧ (kd S (b + 65) 11 5) ∧ (∀ j, j < 5 → lk S (b + 65) j (b + 66 + 32 * j) ∧ LState S (b + 66 + 32 * j) (b + 67 + 32 * j))) : Ex S0 (zA S0 p) 228 (wR B (zA S0 p) 3 (some q)) ∧ (zK (wR B (zA S0 p) 3 (some q)) (zA (wR B (zA S0 p) 3 (some q)) (p)) = 5) ∧ (lk (wR B (zA S0 p) 3 (some q)) (p) 0 (b)) ∧ (LState (wR B (zA S0 p) 3 (some q)) (b) (b + 1)) ∧ (lk (wR B (zA S0 p) 3 (some q)) (p) 1 (b + 32)) ∧ (LState (wR B (zA S0 p) 3 (some q)) (b + 32) (b + 33)) ∧ (lk (wR B (zA S0 p) 3 (some q)) (p) 2 (b + 64)) ∧ (zK (wR B (zA S0 p) 3 (some q)) (zA (wR B (zA S0 p) 3 (some q)) (b + 64)) = 1) ∧ (lk (wR B (zA S0 p) 3 (some q)) (b + 64) 0 (b + 65)) ∧ (kd (wR B (zA S0 p) 3 (some q)) (b + 65) 11 5) ∧ (∀ j, j < 5 → lk (wR B (zA S0 p) 3 (some q)) (b + 65) j (b + 66 + 32 * j) ∧ LState (wR B (zA S0 p) 3 (some q)) (b + 66 + 32 * j) (b + 67 + 32 * j)) ∧ (lk (wR B (zA S0 p) 3 (some q)) (p) 3 (b + 226)) ∧ (zK (wR B (zA S0 p) 3 (some q)) (zA (wR B (zA S0 p) 3 (some q)) (b + 226)) = 3) ∧ (lk (wR B (zA S0 p) 3 (some q)) (b + 226) 0 (b + 227)) ∧ (kd (wR B (zA S0 p) 3 (some q)) (b + 227) 7 40) := by
  have hl : (zL S).length = b + 226 := by rw [hE.len, hb]
  have hlA : (zL A).length = b + 227 := by rw [hA, nO_L, List.length_append, hl]; rfl
  have hlB : (zL B).length = b + 228 := by rw [he.len, hlA]
  have hnA : (zL A).Nodup := by rw [hA]; exact nd_new hn hq
  have hnB : (zL B).Nodup := he.2.1 hnA
  have hqA : zA A (b + 226) = q := by rw [hA, ← hl]; exact zA_new
  have hqB : zA B (b + 226) = q := (he.A (by omega)).trans hqA
  have hEA : Ex S0 (zA S0 p) 227 A := by rw [hA]; exact hE.new hq
  have hEB : Ex S0 (zA S0 p) 228 B := hEA.call (fun hm => hq (hE.mem hm)) (hqA ▸ he)
  have hpB : zA B p = zA S0 p := hEB.A (hb ▸ hp)
  have KA : Kx S A (b + 226) p 3 := by rw [hA]; exact Kx.new (by omega) hq
  have KB : Kx A B (b + 226) p 3 := Kx.ex hnA (Nat.le_refl _) (by omega) he
  have KC : Kx B (wR B (zA B p) 3 (some q)) (b + 228) p 3 := Kx.put hnB (by omega) (by omega)
  have KC0 : Kx B (wR B (zA B p) 3 (some q)) (b + 226) p 3 := fun j hj => KC j (by omega)
  have K := (KA.trans KB).trans KC0
  have hlp : lk (wR B (zA B p) 3 (some q)) p 3 (b + 226) := lk.self rfl hqB
  rw [hpB] at KC KC0 K hlp
  clear KA KB KC0 hpB hqA hnA hnB hqB hEA
  obtain ⟨f0, f1, f2, f3, f4, f5, f6, f7, f8, f9⟩ := h
  obtain ⟨g1, g2, g3⟩ := hc
  rw [hlA] at g2 g3
  exact ⟨hEB.put (Or.inl rfl), (kz.kx f0 K (by omega)), (f1.kx K (by omega) (by omega) (Or.inr (by decide))), (f2.kx K (by omega) (by omega) (by omega) (by omega)), (f3.kx K (by omega) (by omega) (Or.inr (by decide))), (f4.kx K (by omega) (by omega) (by omega) (by omega)), (f5.kx K (by omega) (by omega) (Or.inr (by decide))), (kz.kx f6 K (by omega)), (f7.kx K (by omega) (by omega) (Or.inl (by omega))), (f8.kx K (by omega)), (fun j hj => ⟨(f9 j hj).1.kx K (by omega) (by omega) (Or.inl (by omega)), (f9 j hj).2.kx K (by omega) (by omega) (by omega) (by omega)⟩), hlp, (kz.kx g1 KC (by omega)), (g2.kx KC (by omega) (by omega) (Or.inl (by omega))), (g3.kx KC (by omega))⟩
set_option maxHeartbeats 4000000 in
set_option maxRecDepth 100000 in
/-- GlacierGuides(): its layout -/
theorem c_X5_init (S : Hp) (p b : Nat) (hb : b = (zL S).length) (hp : p < b) (hk : zK S (zA S p) = 5) : CtN yX5_init cX5_init 1 rm_X5_init 228 1565 [va_rf (some (zA S p))] S (fun S' => Ex S (zA S p) 228 S' ∧ LGG S' p b) := by
  refine ct_N (own := RX5) (by decide) rfl rfl (Nat.le_of_ble_eq_true rfl) (fun X C hn E hini hQ => ?_)
  show GW X 0 0 S 0 [(0, va_rf (some (zA S p)))] []
  refine g_aload_n C (q := 0) dX5_init_0 rfl rfl ?_
  refine g_oinit C rfl q6 q7 q8 (by decide) (by decide) (cat_sum (Nat.le_of_ble_eq_true rfl)) dX5_init_1 ?_
  refine g_aload_n C (q := 0) dX5_init_4 rfl rfl ?_
  refine g_nd (fun hn0 => ?_)
  refine g_new C (ci := 2) tyX2 tyX2_ok rfl (by decide) inlX2 (by decide) q9 q10 q11 (Nat.le_of_ble_eq_true rfl) (Nat.le_of_ble_eq_true rfl) dX5_init_5 (fun q0 hq0 => ?_)
  have hl0 : (zL S).length = b + 0 := by rw [(Ex.rf : Ex S (zA S p) 0 S).len, hb]
  obtain ⟨A0, eA0⟩ : ∃ S1, S1 = nO S q0 2 0 := ⟨_, rfl⟩
  rw [← eA0]
  have hlA0 : (zL A0).length = b + 1 := by rw [eA0, nO_L, List.length_append, hl0]; rfl
  have hqA0 : zA A0 (b + 0) = q0 := by rw [eA0, ← hl0]; exact zA_new
  have hkA0 : zK A0 (zA A0 (b + 0)) = 2 := by rw [hqA0, eA0]; exact nO_K
  refine g_dup C dX5_init_8 rfl ?_
  have hc0 := c_X2_init A0 (b + 0) (b + 1) hlA0.symm (by omega) hkA0
  rw [show va_rf (some (zA A0 (b + 0))) = va_rf (some q0) by rw [hqA0]] at hc0
  refine g_callN C E hc0 (good_c q24) rfl rfl q11 q22 q23 rfl dsi2 ⟨(Nat.le_of_ble_eq_true rfl), (Nat.le_of_ble_eq_true rfl)⟩ (by simp [va_rf_cat, catI]) ⟨(Nat.le_of_ble_eq_true rfl), (Nat.le_of_ble_eq_true rfl)⟩ dX5_init_9 (fun B0 hB0 => ?_)
  have hs0 := GG_s0 hb hp (Ex.rf) hn0 hq0 eA0 hB0.1 hB0.2 hk
  have hEB0 : Ex S (zA S p) 32 B0 := (by rw [eA0]; exact (Ex.rf : Ex S (zA S p) 0 S).new hq0 : Ex S (zA S p) 1 A0).call (fun hm => hq0 ((Ex.rf : Ex S (zA S p) 0 S).mem hm)) (hqA0 ▸ hB0.1)
  have hkp0 : zK B0 (zA S p) = 5 := ((hEB0.2.2.1 _ (zA_mem (hb ▸ hp))).2.2.2.1).trans hk
  refine g_putR C hini (ci := 5) (slot := 0) tyX5 tyX5_ok nmX5 rfl (by decide) inlX5 (by decide) rfl q12 rfl rfl dX5_init_12 rfl rfl rfl (hEB0.mem (zA_mem (hb ▸ hp))) hkp0 ?_
  obtain ⟨C0, eC0⟩ : ∃ S1, S1 = wR B0 (zA S p) 0 (some q0) := ⟨_, rfl⟩
  rw [← eC0] at hs0 ⊢
  clear hc0 hkp0 hEB0 hkA0 hqA0 hlA0 hl0 hB0
  refine g_aload_n C (q := 0) dX5_init_15 rfl rfl ?_
  refine g_nd (fun hn1 => ?_)
  refine g_new C (ci := 2) tyX2 tyX2_ok rfl (by decide) inlX2 (by decide) q9 q10 q11 (Nat.le_of_ble_eq_true rfl) (Nat.le_of_ble_eq_true rfl) dX5_init_16 (fun q1 hq1 => ?_)
  have hl1 : (zL C0).length = b + 32 := by rw [(hs0.1 : Ex S (zA S p) 32 C0).len, hb]
  obtain ⟨A1, eA1⟩ : ∃ S1, S1 = nO C0 q1 2 0 := ⟨_, rfl⟩
  rw [← eA1]
  have hlA1 : (zL A1).length = b + 33 := by rw [eA1, nO_L, List.length_append, hl1]; rfl
  have hqA1 : zA A1 (b + 32) = q1 := by rw [eA1, ← hl1]; exact zA_new
  have hkA1 : zK A1 (zA A1 (b + 32)) = 2 := by rw [hqA1, eA1]; exact nO_K
  refine g_dup C dX5_init_19 rfl ?_
  have hc1 := c_X2_init A1 (b + 32) (b + 33) hlA1.symm (by omega) hkA1
  rw [show va_rf (some (zA A1 (b + 32))) = va_rf (some q1) by rw [hqA1]] at hc1
  refine g_callN C E hc1 (good_c q24) rfl rfl q11 q22 q23 rfl dsi2 ⟨(Nat.le_of_ble_eq_true rfl), (Nat.le_of_ble_eq_true rfl)⟩ (by simp [va_rf_cat, catI]) ⟨(Nat.le_of_ble_eq_true rfl), (Nat.le_of_ble_eq_true rfl)⟩ dX5_init_20 (fun B1 hB1 => ?_)
  have hs1 := GG_s1 hb hp (hs0.1) hn1 hq1 eA1 hB1.1 hB1.2 hs0.2
  have hEB1 : Ex S (zA S p) 64 B1 := (by rw [eA1]; exact (hs0.1 : Ex S (zA S p) 32 C0).new hq1 : Ex S (zA S p) 33 A1).call (fun hm => hq1 ((hs0.1 : Ex S (zA S p) 32 C0).mem hm)) (hqA1 ▸ hB1.1)
  have hkp1 : zK B1 (zA S p) = 5 := ((hEB1.2.2.1 _ (zA_mem (hb ▸ hp))).2.2.2.1).trans hk
  refine g_putR C hini (ci := 5) (slot := 1) tyX5 tyX5_ok nmX5 rfl (by decide) inlX5 (by decide) rfl q13 rfl rfl dX5_init_23 rfl rfl rfl (hEB1.mem (zA_mem (hb ▸ hp))) hkp1 ?_
  obtain ⟨C1, eC1⟩ : ∃ S1, S1 = wR B1 (zA S p) 1 (some q1) := ⟨_, rfl⟩
  rw [← eC1] at hs1 ⊢
  clear hc1 hkp1 hEB1 hkA1 hqA1 hlA1 hl1 hB1
  refine g_aload_n C (q := 0) dX5_init_26 rfl rfl ?_
  refine g_nd (fun hn2 => ?_)
  refine g_new C (ci := 1) tyX1 tyX1_ok rfl (by decide) inlX1 (by decide) q14 q15 q16 (Nat.le_of_ble_eq_true rfl) (Nat.le_of_ble_eq_true rfl) dX5_init_27 (fun q2 hq2 => ?_)
  have hl2 : (zL C1).length = b + 64 := by rw [(hs1.1 : Ex S (zA S p) 64 C1).len, hb]
  obtain ⟨A2, eA2⟩ : ∃ S1, S1 = nO C1 q2 1 0 := ⟨_, rfl⟩
  rw [← eA2]
  have hlA2 : (zL A2).length = b + 65 := by rw [eA2, nO_L, List.length_append, hl2]; rfl
  have hqA2 : zA A2 (b + 64) = q2 := by rw [eA2, ← hl2]; exact zA_new
  have hkA2 : zK A2 (zA A2 (b + 64)) = 1 := by rw [hqA2, eA2]; exact nO_K
  refine g_dup C dX5_init_30 rfl ?_
  have hc2 := c_X1_init A2 (b + 64) (b + 65) hlA2.symm (by omega) hkA2
  rw [show va_rf (some (zA A2 (b + 64))) = va_rf (some q2) by rw [hqA2]] at hc2
  refine g_callN C E hc2 (good_c q47) rfl rfl q16 q45 q46 rfl dsi1 ⟨(Nat.le_of_ble_eq_true rfl), (Nat.le_of_ble_eq_true rfl)⟩ (by simp [va_rf_cat, catI]) ⟨(Nat.le_of_ble_eq_true rfl), (Nat.le_of_ble_eq_true rfl)⟩ dX5_init_31 (fun B2 hB2 => ?_)
  have hs2 := GG_s2 hb hp (hs1.1) hn2 hq2 eA2 hB2.1 hB2 hs1.2
  have hEB2 : Ex S (zA S p) 226 B2 := (by rw [eA2]; exact (hs1.1 : Ex S (zA S p) 64 C1).new hq2 : Ex S (zA S p) 65 A2).call (fun hm => hq2 ((hs1.1 : Ex S (zA S p) 64 C1).mem hm)) (hqA2 ▸ hB2.1)
  have hkp2 : zK B2 (zA S p) = 5 := ((hEB2.2.2.1 _ (zA_mem (hb ▸ hp))).2.2.2.1).trans hk
  refine g_putR C hini (ci := 5) (slot := 2) tyX5 tyX5_ok nmX5 rfl (by decide) inlX5 (by decide) rfl q17 rfl rfl dX5_init_34 rfl rfl rfl (hEB2.mem (zA_mem (hb ▸ hp))) hkp2 ?_
  obtain ⟨C2, eC2⟩ : ∃ S1, S1 = wR B2 (zA S p) 2 (some q2) := ⟨_, rfl⟩
  rw [← eC2] at hs2 ⊢
  clear hc2 hkp2 hEB2 hkA2 hqA2 hlA2 hl2 hB2
  refine g_aload_n C (q := 0) dX5_init_37 rfl rfl ?_
  refine g_nd (fun hn3 => ?_)
  refine g_new C (ci := 3) tyX3 tyX3_ok rfl (by decide) inlX3 (by decide) q18 q19 q20 (Nat.le_of_ble_eq_true rfl) (Nat.le_of_ble_eq_true rfl) dX5_init_38 (fun q3 hq3 => ?_)
  have hl3 : (zL C2).length = b + 226 := by rw [(hs2.1 : Ex S (zA S p) 226 C2).len, hb]
  obtain ⟨A3, eA3⟩ : ∃ S1, S1 = nO C2 q3 3 0 := ⟨_, rfl⟩
  rw [← eA3]
  have hlA3 : (zL A3).length = b + 227 := by rw [eA3, nO_L, List.length_append, hl3]; rfl
  have hqA3 : zA A3 (b + 226) = q3 := by rw [eA3, ← hl3]; exact zA_new
  have hkA3 : zK A3 (zA A3 (b + 226)) = 3 := by rw [hqA3, eA3]; exact nO_K
  refine g_dup C dX5_init_41 rfl ?_
  have hc3 := c_X3_init A3 (b + 226) (by omega) hkA3
  rw [show va_rf (some (zA A3 (b + 226))) = va_rf (some q3) by rw [hqA3]] at hc3
  refine g_callN C E hc3 (good_c q54) rfl rfl q20 q52 q53 rfl dsi3 ⟨(Nat.le_of_ble_eq_true rfl), (Nat.le_of_ble_eq_true rfl)⟩ (by simp [va_rf_cat, catI]) ⟨(Nat.le_of_ble_eq_true rfl), (Nat.le_of_ble_eq_true rfl)⟩ dX5_init_42 (fun B3 hB3 => ?_)
  have hs3 := GG_s3 hb hp (hs2.1) hn3 hq3 eA3 hB3.1 hB3.2 hs2.2
  have hEB3 : Ex S (zA S p) 228 B3 := (by rw [eA3]; exact (hs2.1 : Ex S (zA S p) 226 C2).new hq3 : Ex S (zA S p) 227 A3).call (fun hm => hq3 ((hs2.1 : Ex S (zA S p) 226 C2).mem hm)) (hqA3 ▸ hB3.1)
  have hkp3 : zK B3 (zA S p) = 5 := ((hEB3.2.2.1 _ (zA_mem (hb ▸ hp))).2.2.2.1).trans hk
  refine g_putR C hini (ci := 5) (slot := 3) tyX5 tyX5_ok nmX5 rfl (by decide) inlX5 (by decide) rfl q21 rfl rfl dX5_init_45 rfl rfl rfl (hEB3.mem (zA_mem (hb ▸ hp))) hkp3 ?_
  obtain ⟨C3, eC3⟩ : ∃ S1, S1 = wR B3 (zA S p) 3 (some q3) := ⟨_, rfl⟩
  rw [← eC3] at hs3 ⊢
  clear hc3 hkp3 hEB3 hkA3 hqA3 hlA3 hl3 hB3
  obtain ⟨hE, f0, f1, f2, f3, f4, f5, f6, f7, f8, f9, f10, f11, f12, f13⟩ := hs3
  exact g_vretN C hQ dX5_init_48 ⟨hE, ⟨f0, f1, f3, f5, f10⟩, f2, f4, ⟨f6, f7, f8⟩, f9, f11, f12, f13⟩
