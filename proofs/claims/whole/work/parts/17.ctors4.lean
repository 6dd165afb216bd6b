theorem MM_s0 {S S0 : Hp} {p b q : Nat} (hb : b = (zL S0).length) (hp : p < b) (hE : Ex S0 (zA S0 p) 0 S) (hn : (zL S).Nodup) (hq : q ∉ zL S) (h : (zK S (zA S (p)) = 6)) : Ex S0 (zA S0 p) 1 (wR (nO S q 9 180) (zA S0 p) 0 (some q)) ∧ (zK (wR (nO S q 9 180) (zA S0 p) 0 (some q)) (zA (wR (nO S q 9 180) (zA S0 p) 0 (some q)) (p)) = 6) ∧ (lk (wR (nO S q 9 180) (zA S0 p) 0 (some q)) (p) 0 (b + 0)) ∧ (kd (wR (nO S q 9 180) (zA S0 p) 0 (some q)) (b + 0) 9 180) := by
  have hl : (zL S).length = b + 0 := by rw [hE.len, hb]
  obtain ⟨A, hA⟩ : ∃ A, A = nO S q 9 180 := ⟨_, rfl⟩
  have hlA : (zL A).length = b + 1 := by rw [hA, nO_L, List.length_append, hl]; rfl
  have hnA : (zL A).Nodup := by rw [hA]; exact nd_new hn hq
  have hqA : zA A (b + 0) = q := by rw [hA, ← hl]; exact zA_new
  have hEA : Ex S0 (zA S0 p) 1 A := by rw [hA]; exact hE.new hq
  have hpA : zA A p = zA S0 p := hEA.A (hb ▸ hp)
  have hdA : kd A (b + 0) 9 180 := by rw [hA, ← hl]; exact kd.made
  have KA : Kx S A (b + 0) p 0 := by rw [hA]; exact Kx.new (by omega) hq
  have KC : Kx A (wR A (zA A p) 0 (some q)) (b + 1) p 0 := Kx.put hnA (by omega) (by omega)
  have KC0 : Kx A (wR A (zA A p) 0 (some q)) (b + 0) p 0 := fun j hj => KC j (by omega)
  have K := KA.trans KC0
  have hlp : lk (wR A (zA A p) 0 (some q)) p 0 (b + 0) := lk.self rfl hqA
  rw [hpA] at KC KC0 K hlp
  rw [← hA]
  clear KA KC0 hpA hqA hnA
  have f0 := h
  exact ⟨hEA.put (Or.inl rfl), (kz.kx f0 K (by omega)), hlp, (hdA.kx KC (by omega))⟩
theorem MM_s1 {S S0 : Hp} {p b q : Nat} (hb : b = (zL S0).length) (hp : p < b) (hE : Ex S0 (zA S0 p) 1 S) (hn : (zL S).Nodup) (hq : q ∉ zL S) (h : (zK S (zA S (p)) = 6) ∧ (lk S (p) 0 (b + 0)) ∧ (kd S (b + 0) 9 180)) : Ex S0 (zA S0 p) 2 (wR (nO S q 9 900) (zA S0 p) 1 (some q)) ∧ (zK (wR (nO S q 9 900) (zA S0 p) 1 (some q)) (zA (wR (nO S q 9 900) (zA S0 p) 1 (some q)) (p)) = 6) ∧ (lk (wR (nO S q 9 900) (zA S0 p) 1 (some q)) (p) 0 (b + 0)) ∧ (kd (wR (nO S q 9 900) (zA S0 p) 1 (some q)) (b + 0) 9 180) ∧ (lk (wR (nO S q 9 900) (zA S0 p) 1 (some q)) (p) 1 (b + 1)) ∧ (kd (wR (nO S q 9 900) (zA S0 p) 1 (some q)) (b + 1) 9 900) := by
  have hl : (zL S).length = b + 1 := by rw [hE.len, hb]
  obtain ⟨A, hA⟩ : ∃ A, A = nO S q 9 900 := ⟨_, rfl⟩
  have hlA : (zL A).length = b + 2 := by rw [hA, nO_L, List.length_append, hl]; rfl
  have hnA : (zL A).Nodup := by rw [hA]; exact nd_new hn hq
  have hqA : zA A (b + 1) = q := by rw [hA, ← hl]; exact zA_new
  have hEA : Ex S0 (zA S0 p) 2 A := by rw [hA]; exact hE.new hq
  have hpA : zA A p = zA S0 p := hEA.A (hb ▸ hp)
  have hdA : kd A (b + 1) 9 900 := by rw [hA, ← hl]; exact kd.made
  have KA : Kx S A (b + 1) p 1 := by rw [hA]; exact Kx.new (by omega) hq
  have KC : Kx A (wR A (zA A p) 1 (some q)) (b + 2) p 1 := Kx.put hnA (by omega) (by omega)
  have KC0 : Kx A (wR A (zA A p) 1 (some q)) (b + 1) p 1 := fun j hj => KC j (by omega)
  have K := KA.trans KC0
  have hlp : lk (wR A (zA A p) 1 (some q)) p 1 (b + 1) := lk.self rfl hqA
  rw [hpA] at KC KC0 K hlp
  rw [← hA]
  clear KA KC0 hpA hqA hnA
  obtain ⟨f0, f1, f2⟩ := h
  exact ⟨hEA.put (Or.inl rfl), (kz.kx f0 K (by omega)), (f1.kx K (by omega) (by omega) (Or.inr (by decide))), (f2.kx K (by omega)), hlp, (hdA.kx KC (by omega))⟩
theorem MM_s2 {S S0 : Hp} {p b q : Nat} (hb : b = (zL S0).length) (hp : p < b) (hE : Ex S0 (zA S0 p) 2 S) (hn : (zL S).Nodup) (hq : q ∉ zL S) (h : (zK S (zA S (p)) = 6) ∧ (lk S (p) 0 (b + 0)) ∧ (kd S (b + 0) 9 180) ∧ (lk S (p) 1 (b + 1)) ∧ (kd S (b + 1) 9 900)) : Ex S0 (zA S0 p) 3 (wR (nO S q 9 180) (zA S0 p) 2 (some q)) ∧ (zK (wR (nO S q 9 180) (zA S0 p) 2 (some q)) (zA (wR (nO S q 9 180) (zA S0 p) 2 (some q)) (p)) = 6) ∧ (lk (wR (nO S q 9 180) (zA S0 p) 2 (some q)) (p) 0 (b + 0)) ∧ (kd (wR (nO S q 9 180) (zA S0 p) 2 (some q)) (b + 0) 9 180) ∧ (lk (wR (nO S q 9 180) (zA S0 p) 2 (some q)) (p) 1 (b + 1)) ∧ (kd (wR (nO S q 9 180) (zA S0 p) 2 (some q)) (b + 1) 9 900) ∧ (lk (wR (nO S q 9 180) (zA S0 p) 2 (some q)) (p) 2 (b + 2)) ∧ (kd (wR (nO S q 9 180) (zA S0 p) 2 (some q)) (b + 2) 9 180) := by
  have hl : (zL S).length = b + 2 := by rw [hE.len, hb]
  obtain ⟨A, hA⟩ : ∃ A, A = nO S q 9 180 := ⟨_, rfl⟩
  have hlA : (zL A).length = b + 3 := by rw [hA, nO_L, List.length_append, hl]; rfl
  have hnA : (zL A).Nodup := by rw [hA]; exact nd_new hn hq
  have hqA : zA A (b + 2) = q := by rw [hA, ← hl]; exact zA_new
  have hEA : Ex S0 (zA S0 p) 3 A := by rw [hA]; exact hE.new hq
  have hpA : zA A p = zA S0 p := hEA.A (hb ▸ hp)
  have hdA : kd A (b + 2) 9 180 := by rw [hA, ← hl]; exact kd.made
  have KA : Kx S A (b + 2) p 2 := by rw [hA]; exact Kx.new (by omega) hq
  have KC : Kx A (wR A (zA A p) 2 (some q)) (b + 3) p 2 := Kx.put hnA (by omega) (by omega)
  have KC0 : Kx A (wR A (zA A p) 2 (some q)) (b + 2) p 2 := fun j hj => KC j (by omega)
  have K := KA.trans KC0
  have hlp : lk (wR A (zA A p) 2 (some q)) p 2 (b + 2) := lk.self rfl hqA
  rw [hpA] at KC KC0 K hlp
  rw [← hA]
  clear KA KC0 hpA hqA hnA
  obtain ⟨f0, f1, f2, f3, f4⟩ := h
  exact ⟨hEA.put (Or.inl rfl), (kz.kx f0 K (by omega)), (f1.kx K (by omega) (by omega) (Or.inr (by decide))), (f2.kx K (by omega)), (f3.kx K (by omega) (by omega) (Or.inr (by decide))), (f4.kx K (by omega)), hlp, (hdA.kx KC (by omega))⟩
theorem MM_s3 {S S0 : Hp} {p b q : Nat} (hb : b = (zL S0).length) (hp : p < b) (hE : Ex S0 (zA S0 p) 3 S) (hn : (zL S).Nodup) (hq : q ∉ zL S) (h : (zK S (zA S (p)) = 6) ∧ (lk S (p) 0 (b + 0)) ∧ (kd S (b + 0) 9 180) ∧ (lk S (p) 1 (b + 1)) ∧ (kd S (b + 1) 9 900) ∧ (lk S (p) 2 (b + 2)) ∧ (kd S (b + 2) 9 180)) : Ex S0 (zA S0 p) 4 (wR (nO S q 8 17) (zA S0 p) 3 (some q)) ∧ (zK (wR (nO S q 8 17) (zA S0 p) 3 (some q)) (zA (wR (nO S q 8 17) (zA S0 p) 3 (some q)) (p)) = 6) ∧ (lk (wR (nO S q 8 17) (zA S0 p) 3 (some q)) (p) 0 (b + 0)) ∧ (kd (wR (nO S q 8 17) (zA S0 p) 3 (some q)) (b + 0) 9 180) ∧ (lk (wR (nO S q 8 17) (zA S0 p) 3 (some q)) (p) 1 (b + 1)) ∧ (kd (wR (nO S q 8 17) (zA S0 p) 3 (some q)) (b + 1) 9 900) ∧ (lk (wR (nO S q 8 17) (zA S0 p) 3 (some q)) (p) 2 (b + 2)) ∧ (kd (wR (nO S q 8 17) (zA S0 p) 3 (some q)) (b + 2) 9 180) ∧ (lk (wR (nO S q 8 17) (zA S0 p) 3 (some q)) (p) 3 (b + 3)) ∧ (kd (wR (nO S q 8 17) (zA S0 p) 3 (some q)) (b + 3) 8 17) := by
  have hl : (zL S).length = b + 3 := by rw [hE.len, hb]
  obtain ⟨A, hA⟩ : ∃ A, A = nO S q 8 17 := ⟨_, rfl⟩
  have hlA : (zL A).length = b + 4 := by rw [hA, nO_L, List.length_append, hl]; rfl
  have hnA : (zL A).Nodup := by rw [hA]; exact nd_new hn hq
  have hqA : zA A (b + 3) = q := by rw [hA, ← hl]; exact zA_new
  have hEA : Ex S0 (zA S0 p) 4 A := by rw [hA]; exact hE.new hq
  have hpA : zA A p = zA S0 p := hEA.A (hb ▸ hp)
  have hdA : kd A (b + 3) 8 17 := by rw [hA, ← hl]; exact kd.made
  have KA : Kx S A (b + 3) p 3 := by rw [hA]; exact Kx.new (by omega) hq
  have KC : Kx A (wR A (zA A p) 3 (some q)) (b + 4) p 3 := Kx.put hnA (by omega) (by omega)
  have KC0 : Kx A (wR A (zA A p) 3 (some q)) (b + 3) p 3 := fun j hj => KC j (by omega)
  have K := KA.trans KC0
  have hlp : lk (wR A (zA A p) 3 (some q)) p 3 (b + 3) := lk.self rfl hqA
  rw [hpA] at KC KC0 K hlp
  rw [← hA]
  clear KA KC0 hpA hqA hnA
  obtain ⟨f0, f1, f2, f3, f4, f5, f6⟩ := h
  exact ⟨hEA.put (Or.inl rfl), (kz.kx f0 K (by omega)), (f1.kx K (by omega) (by omega) (Or.inr (by decide))), (f2.kx K (by omega)), (f3.kx K (by omega) (by omega) (Or.inr (by decide))), (f4.kx K (by omega)), (f5.kx K (by omega) (by omega) (Or.inr (by decide))), (f6.kx K (by omega)), hlp, (hdA.kx KC (by omega))⟩
theorem MM_s4 {S S0 : Hp} {p b q : Nat} (hb : b = (zL S0).length) (hp : p < b) (hE : Ex S0 (zA S0 p) 4 S) (hn : (zL S).Nodup) (hq : q ∉ zL S) (h : (zK S (zA S (p)) = 6) ∧ (lk S (p) 0 (b + 0)) ∧ (kd S (b + 0) 9 180) ∧ (lk S (p) 1 (b + 1)) ∧ (kd S (b + 1) 9 900) ∧ (lk S (p) 2 (b + 2)) ∧ (kd S (b + 2) 9 180) ∧ (lk S (p) 3 (b + 3)) ∧ (kd S (b + 3) 8 17)) : Ex S0 (zA S0 p) 5 (wR (nO S q 8 85) (zA S0 p) 4 (some q)) ∧ (zK (wR (nO S q 8 85) (zA S0 p) 4 (some q)) (zA (wR (nO S q 8 85) (zA S0 p) 4 (some q)) (p)) = 6) ∧ (lk (wR (nO S q 8 85) (zA S0 p) 4 (some q)) (p) 0 (b + 0)) ∧ (kd (wR (nO S q 8 85) (zA S0 p) 4 (some q)) (b + 0) 9 180) ∧ (lk (wR (nO S q 8 85) (zA S0 p) 4 (some q)) (p) 1 (b + 1)) ∧ (kd (wR (nO S q 8 85) (zA S0 p) 4 (some q)) (b + 1) 9 900) ∧ (lk (wR (nO S q 8 85) (zA S0 p) 4 (some q)) (p) 2 (b + 2)) ∧ (kd (wR (nO S q 8 85) (zA S0 p) 4 (some q)) (b + 2) 9 180) ∧ (lk (wR (nO S q 8 85) (zA S0 p) 4 (some q)) (p) 3 (b + 3)) ∧ (kd (wR (nO S q 8 85) (zA S0 p) 4 (some q)) (b + 3) 8 17) ∧ (lk (wR (nO S q 8 85) (zA S0 p) 4 (some q)) (p) 4 (b + 4)) ∧ (kd (wR (nO S q 8 85) (zA S0 p) 4 (some q)) (b + 4) 8 85) := by
  have hl : (zL S).length = b + 4 := by rw [hE.len, hb]
  obtain ⟨A, hA⟩ : ∃ A, A = nO S q 8 85 := ⟨_, rfl⟩
  have hlA : (zL A).length = b + 5 := by rw [hA, nO_L, List.length_append, hl]; rfl
  have hnA : (zL A).Nodup := by rw [hA]; exact nd_new hn hq
  have hqA : zA A (b + 4) = q := by rw [hA, ← hl]; exact zA_new
  have hEA : Ex S0 (zA S0 p) 5 A := by rw [hA]; exact hE.new hq
  have hpA : zA A p = zA S0 p := hEA.A (hb ▸ hp)
  have hdA : kd A (b + 4) 8 85 := by rw [hA, ← hl]; exact kd.made
  have KA : Kx S A (b + 4) p 4 := by rw [hA]; exact Kx.new (by omega) hq
  have KC : Kx A (wR A (zA A p) 4 (some q)) (b + 5) p 4 := Kx.put hnA (by omega) (by omega)
  have KC0 : Kx A (wR A (zA A p) 4 (some q)) (b + 4) p 4 := fun j hj => KC j (by omega)
  have K := KA.trans KC0
  have hlp : lk (wR A (zA A p) 4 (some q)) p 4 (b + 4) := lk.self rfl hqA
  rw [hpA] at KC KC0 K hlp
  rw [← hA]
  clear KA KC0 hpA hqA hnA
  obtain ⟨f0, f1, f2, f3, f4, f5, f6, f7, f8⟩ := h
  exact ⟨hEA.put (Or.inl rfl), (kz.kx f0 K (by omega)), (f1.kx K (by omega) (by omega) (Or.inr (by decide))), (f2.kx K (by omega)), (f3.kx K (by omega) (by omega) (Or.inr (by decide))), (f4.kx K (by omega)), (f5.kx K (by omega) (by omega) (Or.inr (by decide))), (f6.kx K (by omega)), (f7.kx K (by omega) (by omega) (Or.inr (by decide))), (f8.kx K (by omega)), hlp, (hdA.kx KC (by omega))⟩
theorem MM_s5 {S S0 : Hp} {p b q : Nat} (hb : b = (zL S0).length) (hp : p < b) (hE : Ex S0 (zA S0 p) 5 S) (hn : (zL S).Nodup) (hq : q ∉ zL S) (h : (zK S (zA S (p)) = 6) ∧ (lk S (p) 0 (b + 0)) ∧ (kd S (b + 0) 9 180) ∧ (lk S (p) 1 (b + 1)) ∧ (kd S (b + 1) 9 900) ∧ (lk S (p) 2 (b + 2)) ∧ (kd S (b + 2) 9 180) ∧ (lk S (p) 3 (b + 3)) ∧ (kd S (b + 3) 8 17) ∧ (lk S (p) 4 (b + 4)) ∧ (kd S (b + 4) 8 85)) : Ex S0 (zA S0 p) 6 (wR (nO S q 8 17) (zA S0 p) 5 (some q)) ∧ (zK (wR (nO S q 8 17) (zA S0 p) 5 (some q)) (zA (wR (nO S q 8 17) (zA S0 p) 5 (some q)) (p)) = 6) ∧ (lk (wR (nO S q 8 17) (zA S0 p) 5 (some q)) (p) 0 (b + 0)) ∧ (kd (wR (nO S q 8 17) (zA S0 p) 5 (some q)) (b + 0) 9 180) ∧ (lk (wR (nO S q 8 17) (zA S0 p) 5 (some q)) (p) 1 (b + 1)) ∧ (kd (wR (nO S q 8 17) (zA S0 p) 5 (some q)) (b + 1) 9 900) ∧ (lk (wR (nO S q 8 17) (zA S0 p) 5 (some q)) (p) 2 (b + 2)) ∧ (kd (wR (nO S q 8 17) (zA S0 p) 5 (some q)) (b + 2) 9 180) ∧ (lk (wR (nO S q 8 17) (zA S0 p) 5 (some q)) (p) 3 (b + 3)) ∧ (kd (wR (nO S q 8 17) (zA S0 p) 5 (some q)) (b + 3) 8 17) ∧ (lk (wR (nO S q 8 17) (zA S0 p) 5 (some q)) (p) 4 (b + 4)) ∧ (kd (wR (nO S q 8 17) (zA S0 p) 5 (some q)) (b + 4) 8 85) ∧ (lk (wR (nO S q 8 17) (zA S0 p) 5 (some q)) (p) 5 (b + 5)) ∧ (kd (wR (nO S q 8 17) (zA S0 p) 5 (some q)) (b + 5) 8 17) := by
  have hl : (zL S).length = b + 5 := by rw [hE.len, hb]
  obtain ⟨A, hA⟩ : ∃ A, A = nO S q 8 17 := ⟨_, rfl⟩
  have hlA : (zL A).length = b + 6 := by rw [hA, nO_L, List.length_append, hl]; rfl
  have hnA : (zL A).Nodup := by rw [hA]; exact nd_new hn hq
  have hqA : zA A (b + 5) = q := by rw [hA, ← hl]; exact zA_new
  have hEA : Ex S0 (zA S0 p) 6 A := by rw [hA]; exact hE.new hq
  have hpA : zA A p = zA S0 p := hEA.A (hb ▸ hp)
  have hdA : kd A (b + 5) 8 17 := by rw [hA, ← hl]; exact kd.made
  have KA : Kx S A (b + 5) p 5 := by rw [hA]; exact Kx.new (by omega) hq
  have KC : Kx A (wR A (zA A p) 5 (some q)) (b + 6) p 5 := Kx.put hnA (by omega) (by omega)
  have KC0 : Kx A (wR A (zA A p) 5 (some q)) (b + 5) p 5 := fun j hj => KC j (by omega)
  have K := KA.trans KC0
  have hlp : lk (wR A (zA A p) 5 (some q)) p 5 (b + 5) := lk.self rfl hqA
  rw [hpA] at KC KC0 K hlp
  rw [← hA]
  clear KA KC0 hpA hqA hnA
  obtain ⟨f0, f1, f2, f3, f4, f5, f6, f7, f8, f9, f10⟩ := h
  exact ⟨hEA.put (Or.inl rfl), (kz.kx f0 K (by omega)), (f1.kx K (by omega) (by omega) (Or.inr (by decide))), (f2.kx K (by omega)), (f3.kx K (by omega) (by omega) (Or.inr (by decide))), (f4.kx K (by omega)), (f5.kx K (by omega) (by omega) (Or.inr (by decide))), (f6.kx K (by omega)), (f7.kx K (by omega) (by omega) (Or.inr (by decide))), (f8.kx K (by omega)), (f9.kx K (by omega) (by omega) (Or.inr (by decide))), (f10.kx K (by omega)), hlp, (hdA.kx KC (by omega))⟩
theorem MM_s6 {S S0 : Hp} {p b q : Nat} (hb : b = (zL S0).length) (hp : p < b) (hE : Ex S0 (zA S0 p) 6 S) (hn : (zL S).Nodup) (hq : q ∉ zL S) (h : (zK S (zA S (p)) = 6) ∧ (lk S (p) 0 (b + 0)) ∧ (kd S (b + 0) 9 180) ∧ (lk S (p) 1 (b + 1)) ∧ (kd S (b + 1) 9 900) ∧ (lk S (p) 2 (b + 2)) ∧ (kd S (b + 2) 9 180) ∧ (lk S (p) 3 (b + 3)) ∧ (kd S (b + 3) 8 17) ∧ (lk S (p) 4 (b + 4)) ∧ (kd S (b + 4) 8 85) ∧ (lk S (p) 5 (b + 5)) ∧ (kd S (b + 5) 8 17)) : Ex S0 (zA S0 p) 7 (wR (nO S q 7 40) (zA S0 p) 9 (some q)) ∧ (zK (wR (nO S q 7 40) (zA S0 p) 9 (some q)) (zA (wR (nO S q 7 40) (zA S0 p) 9 (some q)) (p)) = 6) ∧ (lk (wR (nO S q 7 40) (zA S0 p) 9 (some q)) (p) 0 (b + 0)) ∧ (kd (wR (nO S q 7 40) (zA S0 p) 9 (some q)) (b + 0) 9 180) ∧ (lk (wR (nO S q 7 40) (zA S0 p) 9 (some q)) (p) 1 (b + 1)) ∧ (kd (wR (nO S q 7 40) (zA S0 p) 9 (some q)) (b + 1) 9 900) ∧ (lk (wR (nO S q 7 40) (zA S0 p) 9 (some q)) (p) 2 (b + 2)) ∧ (kd (wR (nO S q 7 40) (zA S0 p) 9 (some q)) (b + 2) 9 180) ∧ (lk (wR (nO S q 7 40) (zA S0 p) 9 (some q)) (p) 3 (b + 3)) ∧ (kd (wR (nO S q 7 40) (zA S0 p) 9 (some q)) (b + 3) 8 17) ∧ (lk (wR (nO S q 7 40) (zA S0 p) 9 (some q)) (p) 4 (b + 4)) ∧ (kd (wR (nO S q 7 40) (zA S0 p) 9 (some q)) (b + 4) 8 85) ∧ (lk (wR (nO S q 7 40) (zA S0 p) 9 (some q)) (p) 5 (b + 5)) ∧ (kd (wR (nO S q 7 40) (zA S0 p) 9 (some q)) (b + 5) 8 17) ∧ (lk (wR (nO S q 7 40) (zA S0 p) 9 (some q)) (p) 9 (b + 6)) ∧ (kd (wR (nO S q 7 40) (zA S0 p) 9 (some q)) (b + 6) 7 40) := by
  have hl : (zL S).length = b + 6 := by rw [hE.len, hb]
  obtain ⟨A, hA⟩ : ∃ A, A = nO S q 7 40 := ⟨_, rfl⟩
  have hlA : (zL A).length = b + 7 := by rw [hA, nO_L, List.length_append, hl]; rfl
  have hnA : (zL A).Nodup := by rw [hA]; exact nd_new hn hq
  have hqA : zA A (b + 6) = q := by rw [hA, ← hl]; exact zA_new
  have hEA : Ex S0 (zA S0 p) 7 A := by rw [hA]; exact hE.new hq
  have hpA : zA A p = zA S0 p := hEA.A (hb ▸ hp)
  have hdA : kd A (b + 6) 7 40 := by rw [hA, ← hl]; exact kd.made
  have KA : Kx S A (b + 6) p 9 := by rw [hA]; exact Kx.new (by omega) hq
  have KC : Kx A (wR A (zA A p) 9 (some q)) (b + 7) p 9 := Kx.put hnA (by omega) (by omega)
  have KC0 : Kx A (wR A (zA A p) 9 (some q)) (b + 6) p 9 := fun j hj => KC j (by omega)
  have K := KA.trans KC0
  have hlp : lk (wR A (zA A p) 9 (some q)) p 9 (b + 6) := lk.self rfl hqA
  rw [hpA] at KC KC0 K hlp
  rw [← hA]
  clear KA KC0 hpA hqA hnA
  obtain ⟨f0, f1, f2, f3, f4, f5, f6, f7, f8, f9, f10, f11, f12⟩ := h
  exact ⟨hEA.put (Or.inl rfl), (kz.kx f0 K (by omega)), (f1.kx K (by omega) (by omega) (Or.inr (by decide))), (f2.kx K (by omega)), (f3.kx K (by omega) (by omega) (Or.inr (by decide))), (f4.kx K (by omega)), (f5.kx K (by omega) (by omega) (Or.inr (by decide))), (f6.kx K (by omega)), (f7.kx K (by omega) (by omega) (Or.inr (by decide))), (f8.kx K (by omega)), (f9.kx K (by omega) (by omega) (Or.inr (by decide))), (f10.kx K (by omega)), (f11.kx K (by omega) (by omega) (Or.inr (by decide))), (f12.kx K (by omega)), hlp, (hdA.kx KC (by omega))⟩
set_option maxHeartbeats 4000000 in
set_option maxRecDepth 100000 in
/-- GlacierGuidesModel(): its layout -/
theorem c_X6_init (S : Hp) (p b : Nat) (hb : b = (zL S).length) (hp : p < b) (hk : zK S (zA S p) = 6) : CtN yX6_init cX6_init 1 rm_X6_init 7 1419 [va_rf (some (zA S p))] S (fun S' => Ex S (zA S p) 7 S' ∧ LM S' p b) := by
  refine ct_N (own := RX6) (by decide) rfl rfl (Nat.le_of_ble_eq_true rfl) (fun X C hn E hini hQ => ?_)
  show GW X 0 0 S 0 [(0, va_rf (some (zA S p)))] []
  refine g_aload_n C (q := 0) dX6_init_0 rfl rfl ?_
  refine g_oinit C rfl q65 q11 q12 (by decide) (by decide) (cat_sum (Nat.le_of_ble_eq_true rfl)) dX6_init_1 ?_
  refine g_aload_n C (q := 0) dX6_init_4 rfl rfl ?_
  refine g_sipush C (v := 180) dX6_init_5 (by decide) ?_
  refine g_nd (fun hn0 => ?_)
  refine g_newi C (m := 180) q47 (by decide) rfl (Nat.le_of_ble_eq_true rfl) (Nat.le_of_ble_eq_true rfl) (Nat.le_of_ble_eq_true rfl) dX6_init_8 (fun q0 hq0 => ?_)
  have hs0 := MM_s0 hb hp (Ex.rf) hn0 hq0 hk
  have hEB0 : Ex S (zA S p) 1 (nO S q0 9 180) := (Ex.rf : Ex S (zA S p) 0 S).new hq0
  have hkp0 : zK (nO S q0 9 180) (zA S p) = 6 := ((hEB0.2.2.1 _ (zA_mem (hb ▸ hp))).2.2.2.1).trans hk
  refine g_putR C hini (ci := 6) (slot := 0) tyX6 tyX6_ok nmX6 rfl (by decide) inlX6 (by decide) rfl q66 rfl rfl dX6_init_10 rfl rfl rfl (hEB0.mem (zA_mem (hb ▸ hp))) hkp0 ?_
  obtain ⟨C0, eC0⟩ : ∃ S1, S1 = wR (nO S q0 9 180) (zA S p) 0 (some q0) := ⟨_, rfl⟩
  rw [← eC0] at hs0 ⊢
  clear hkp0 hEB0
  refine g_aload_n C (q := 0) dX6_init_13 rfl rfl ?_
  refine g_sipush C (v := 900) dX6_init_14 (by decide) ?_
  refine g_nd (fun hn1 => ?_)
  refine g_newi C (m := 900) q47 (by decide) rfl (Nat.le_of_ble_eq_true rfl) (Nat.le_of_ble_eq_true rfl) (Nat.le_of_ble_eq_true rfl) dX6_init_17 (fun q1 hq1 => ?_)
  have hs1 := MM_s1 hb hp (hs0.1) hn1 hq1 hs0.2
  have hEB1 : Ex S (zA S p) 2 (nO C0 q1 9 900) := (hs0.1 : Ex S (zA S p) 1 C0).new hq1
  have hkp1 : zK (nO C0 q1 9 900) (zA S p) = 6 := ((hEB1.2.2.1 _ (zA_mem (hb ▸ hp))).2.2.2.1).trans hk
  refine g_putR C hini (ci := 6) (slot := 1) tyX6 tyX6_ok nmX6 rfl (by decide) inlX6 (by decide) rfl q67 rfl rfl dX6_init_19 rfl rfl rfl (hEB1.mem (zA_mem (hb ▸ hp))) hkp1 ?_
  obtain ⟨C1, eC1⟩ : ∃ S1, S1 = wR (nO C0 q1 9 900) (zA S p) 1 (some q1) := ⟨_, rfl⟩
  rw [← eC1] at hs1 ⊢
  clear hkp1 hEB1
  refine g_aload_n C (q := 0) dX6_init_22 rfl rfl ?_
  refine g_sipush C (v := 180) dX6_init_23 (by decide) ?_
  refine g_nd (fun hn2 => ?_)
  refine g_newi C (m := 180) q47 (by decide) rfl (Nat.le_of_ble_eq_true rfl) (Nat.le_of_ble_eq_true rfl) (Nat.le_of_ble_eq_true rfl) dX6_init_26 (fun q2 hq2 => ?_)
  have hs2 := MM_s2 hb hp (hs1.1) hn2 hq2 hs1.2
  have hEB2 : Ex S (zA S p) 3 (nO C1 q2 9 180) := (hs1.1 : Ex S (zA S p) 2 C1).new hq2
  have hkp2 : zK (nO C1 q2 9 180) (zA S p) = 6 := ((hEB2.2.2.1 _ (zA_mem (hb ▸ hp))).2.2.2.1).trans hk
  refine g_putR C hini (ci := 6) (slot := 2) tyX6 tyX6_ok nmX6 rfl (by decide) inlX6 (by decide) rfl q68 rfl rfl dX6_init_28 rfl rfl rfl (hEB2.mem (zA_mem (hb ▸ hp))) hkp2 ?_
  obtain ⟨C2, eC2⟩ : ∃ S1, S1 = wR (nO C1 q2 9 180) (zA S p) 2 (some q2) := ⟨_, rfl⟩
  rw [← eC2] at hs2 ⊢
  clear hkp2 hEB2
  refine g_aload_n C (q := 0) dX6_init_31 rfl rfl ?_
  refine g_bipush C (v := 17) dX6_init_32 (by decide) ?_
  refine g_nd (fun hn3 => ?_)
  refine g_newd C (m := 17) q34 (by decide) rfl (Nat.le_of_ble_eq_true rfl) (Nat.le_of_ble_eq_true rfl) (Nat.le_of_ble_eq_true rfl) dX6_init_34 (fun q3 hq3 => ?_)
  have hs3 := MM_s3 hb hp (hs2.1) hn3 hq3 hs2.2
  have hEB3 : Ex S (zA S p) 4 (nO C2 q3 8 17) := (hs2.1 : Ex S (zA S p) 3 C2).new hq3
  have hkp3 : zK (nO C2 q3 8 17) (zA S p) = 6 := ((hEB3.2.2.1 _ (zA_mem (hb ▸ hp))).2.2.2.1).trans hk
  refine g_putR C hini (ci := 6) (slot := 3) tyX6 tyX6_ok nmX6 rfl (by decide) inlX6 (by decide) rfl q69 rfl rfl dX6_init_36 rfl rfl rfl (hEB3.mem (zA_mem (hb ▸ hp))) hkp3 ?_
  obtain ⟨C3, eC3⟩ : ∃ S1, S1 = wR (nO C2 q3 8 17) (zA S p) 3 (some q3) := ⟨_, rfl⟩
  rw [← eC3] at hs3 ⊢
  clear hkp3 hEB3
  refine g_aload_n C (q := 0) dX6_init_39 rfl rfl ?_
  refine g_bipush C (v := 85) dX6_init_40 (by decide) ?_
  refine g_nd (fun hn4 => ?_)
  refine g_newd C (m := 85) q34 (by decide) rfl (Nat.le_of_ble_eq_true rfl) (Nat.le_of_ble_eq_true rfl) (Nat.le_of_ble_eq_true rfl) dX6_init_42 (fun q4 hq4 => ?_)
  have hs4 := MM_s4 hb hp (hs3.1) hn4 hq4 hs3.2
  have hEB4 : Ex S (zA S p) 5 (nO C3 q4 8 85) := (hs3.1 : Ex S (zA S p) 4 C3).new hq4
  have hkp4 : zK (nO C3 q4 8 85) (zA S p) = 6 := ((hEB4.2.2.1 _ (zA_mem (hb ▸ hp))).2.2.2.1).trans hk
  refine g_putR C hini (ci := 6) (slot := 4) tyX6 tyX6_ok nmX6 rfl (by decide) inlX6 (by decide) rfl q70 rfl rfl dX6_init_44 rfl rfl rfl (hEB4.mem (zA_mem (hb ▸ hp))) hkp4 ?_
  obtain ⟨C4, eC4⟩ : ∃ S1, S1 = wR (nO C3 q4 8 85) (zA S p) 4 (some q4) := ⟨_, rfl⟩
  rw [← eC4] at hs4 ⊢
  clear hkp4 hEB4
  refine g_aload_n C (q := 0) dX6_init_47 rfl rfl ?_
  refine g_bipush C (v := 17) dX6_init_48 (by decide) ?_
  refine g_nd (fun hn5 => ?_)
  refine g_newd C (m := 17) q34 (by decide) rfl (Nat.le_of_ble_eq_true rfl) (Nat.le_of_ble_eq_true rfl) (Nat.le_of_ble_eq_true rfl) dX6_init_50 (fun q5 hq5 => ?_)
  have hs5 := MM_s5 hb hp (hs4.1) hn5 hq5 hs4.2
  have hEB5 : Ex S (zA S p) 6 (nO C4 q5 8 17) := (hs4.1 : Ex S (zA S p) 5 C4).new hq5
  have hkp5 : zK (nO C4 q5 8 17) (zA S p) = 6 := ((hEB5.2.2.1 _ (zA_mem (hb ▸ hp))).2.2.2.1).trans hk
  refine g_putR C hini (ci := 6) (slot := 5) tyX6 tyX6_ok nmX6 rfl (by decide) inlX6 (by decide) rfl q71 rfl rfl dX6_init_52 rfl rfl rfl (hEB5.mem (zA_mem (hb ▸ hp))) hkp5 ?_
  obtain ⟨C5, eC5⟩ : ∃ S1, S1 = wR (nO C4 q5 8 17) (zA S p) 5 (some q5) := ⟨_, rfl⟩
  rw [← eC5] at hs5 ⊢
  clear hkp5 hEB5
  refine g_aload_n C (q := 0) dX6_init_55 rfl rfl ?_
  refine g_bipush C (v := 40) dX6_init_56 (by decide) ?_
  refine g_nd (fun hn6 => ?_)
  refine g_newc C (m := 40) q60 (by decide) rfl (Nat.le_of_ble_eq_true rfl) (Nat.le_of_ble_eq_true rfl) (Nat.le_of_ble_eq_true rfl) dX6_init_58 (fun q6 hq6 => ?_)
  have hs6 := MM_s6 hb hp (hs5.1) hn6 hq6 hs5.2
  have hEB6 : Ex S (zA S p) 7 (nO C5 q6 7 40) := (hs5.1 : Ex S (zA S p) 6 C5).new hq6
  have hkp6 : zK (nO C5 q6 7 40) (zA S p) = 6 := ((hEB6.2.2.1 _ (zA_mem (hb ▸ hp))).2.2.2.1).trans hk
  refine g_putR C hini (ci := 6) (slot := 9) tyX6 tyX6_ok nmX6 rfl (by decide) inlX6 (by decide) rfl q72 rfl rfl dX6_init_60 rfl rfl rfl (hEB6.mem (zA_mem (hb ▸ hp))) hkp6 ?_
  obtain ⟨C6, eC6⟩ : ∃ S1, S1 = wR (nO C5 q6 7 40) (zA S p) 9 (some q6) := ⟨_, rfl⟩
  rw [← eC6] at hs6 ⊢
  clear hkp6 hEB6
  obtain ⟨hE, f0, g0, d0, g1, d1, g2, d2, g3, d3, g4, d4, g5, d5, g6, d6⟩ := hs6
  exact g_vretN C hQ dX6_init_63 ⟨hE, f0, ⟨g0, g1, g2, g3, g4, g5, g6⟩, d0, d1, d2, d3, d4, d5, d6⟩
