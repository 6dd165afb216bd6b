/-! the questions of both, side by side -/
section QS
variable {E : Hp} {i : Nat → Nat → Int32} {j : Nat → Nat → Int64} {d : Nat → Nat → UInt64} {B p : Nat} {N : Nat → Int32} {r : Nat → UInt64} {β : Type}
theorem ob_X (h : Ev E) {k : Nat → Option β} : ob (mk E i j d) 5 (some (zA E 0)) k = k (zA E 0) := ob_mk h.1 (by decide) h.2.1.1.1
theorem R_X0 (h : Ev E) : zR (mk E i j d) (zA E 0) 0 = some (zA E 1) := h.2.1.1.2.1
theorem R_X1 (h : Ev E) : zR (mk E i j d) (zA E 0) 1 = some (zA E 33) := h.2.1.1.2.2.1
theorem R_X2 (h : Ev E) : zR (mk E i j d) (zA E 0) 2 = some (zA E 65) := h.2.1.1.2.2.2.1
theorem R_X3 (h : Ev E) : zR (mk E i j d) (zA E 0) 3 = some (zA E 227) := h.2.1.1.2.2.2.2
theorem ob_H (h : Ev E) {k : Nat → Option β} : ob (mk E i j d) 1 (some (zA E 65)) k = k (zA E 65) := ob_mk h.1 (by decide) h.2.1.2.2.2.1.1
theorem R_H (h : Ev E) : zR (mk E i j d) (zA E 65) 0 = some (zA E 66) := h.2.1.2.2.2.1.2.1
theorem ar_H (h : Ev E) {k : Nat → Nat → Option β} {n : Nat} (hn : n < 5) : ar (mk E i j d) 11 (some (zA E 66)) (nI n) k = k (zA E 66) n := ar_mk h.1 (by decide) h.2.1.2.2.2.1.2.2 rfl hn (by decide)
theorem R_Hs (h : Ev E) {n : Nat} (hn : n < 5) : zR (mk E i j d) (zA E 66) n = some (zA E (67 + 32 * n)) := by
  have := (h.2.1.2.2.2.2.1 n hn).1
  rw [show 1 + 66 + 32 * n = 67 + 32 * n by omega] at this
  exact this
theorem ob_Y (h : Ev E) {k : Nat → Option β} : ob (mk E i j d) 3 (some (zA E 227)) k = k (zA E 227) := ob_mk h.1 (by decide) h.2.1.2.2.2.2.2.1
theorem R_Y (h : Ev E) : zR (mk E i j d) (zA E 227) 0 = some (zA E 228) := h.2.1.2.2.2.2.2.2.1
theorem ar_Y (h : Ev E) {k : Nat → Nat → Option β} {n : Nat} (hn : n < 40) : ar (mk E i j d) 7 (some (zA E 228)) (nI n) k = k (zA E 228) n := ar_mk h.1 (by decide) h.2.1.2.2.2.2.2.2.2 rfl hn (by decide)
theorem I_0 (h : Nd E) (k : Nat) : zI (mk E i j d) (zA E 0) k = i 0 k := mk_I h (by decide) k
theorem wI_0 (h : Nd E) (k : Nat) (v : Int32) : wI (mk E i j d) (zA E 0) k v = mk E (u2 i 0 k v) j d := mk_wI h (by decide) k v
theorem I_65 (h : Nd E) (k : Nat) : zI (mk E i j d) (zA E 65) k = i 65 k := mk_I h (by decide) k
theorem wI_65 (h : Nd E) (k : Nat) (v : Int32) : wI (mk E i j d) (zA E 65) k v = mk E (u2 i 65 k v) j d := mk_wI h (by decide) k v
theorem I_227 (h : Nd E) (k : Nat) : zI (mk E i j d) (zA E 227) k = i 227 k := mk_I h (by decide) k
theorem wI_227 (h : Nd E) (k : Nat) (v : Int32) : wI (mk E i j d) (zA E 227) k v = mk E (u2 i 227 k v) j d := mk_wI h (by decide) k v
theorem I_228 (h : Nd E) (k : Nat) : zI (mk E i j d) (zA E 228) k = i 228 k := mk_I h (by decide) k
theorem wI_228 (h : Nd E) (k : Nat) (v : Int32) : wI (mk E i j d) (zA E 228) k v = mk E (u2 i 228 k v) j d := mk_wI h (by decide) k v
theorem z_d : FP.dsub = FP.dsub := rfl
theorem y_dayLater (h : Nd E) (hs : St E p) (a : Rep i j d p N r) {x : UInt64} (hg : dT (r 0)) (hx : dB x) : f_X2_dayLater (mk E i j d) (zA E p) x = some (sLater (r 0) x, mk E i j d) := by
  unfold f_X2_dayLater
  have c := fp_cold hg hx
  have e := fp_warm hg hx
  unfold sCold at c
  unfold sWarm at e
  rw [ob_S h hs, D_S h hs, a.f8, fpg_go c.1, fpg_go c.2, fpg_go e.1, fpg_go e.2]
  unfold sLater sCold sWarm
  by_cases q : (Op.cmpValue (FP.dcmp (r 0) FP.dconst0) CmpOp.l) ≤ 0
  · rw [if_pos q, if_pos q]
    by_cases q2 : 0 ≤ (Op.cmpValue (FP.dcmp (r 0) FP.dconst0) CmpOp.g)
    · rw [if_pos q2, if_pos q2]
    · rw [if_neg q2, if_neg q2, bnd_go]
      split <;> rfl
  · rw [if_neg q, if_neg q, bnd_go]
    split <;> rfl
theorem WF.dg (w : WF B N r) : dT (r 0) := w.1.2.2.2.2.1
theorem WF.db (w : WF B N r) {b : Nat} (hb : b < 6) : dB (r (1 + b)) := w.1.2.2.2.2.2 b hb
theorem y_isClass {S : Hp} (x : Int32) : f_X5_isClass S x = some (bI (1 ≤ x ∧ x ≤ 3), S) := y_in3 x 1 3
theorem y_isLast {S : Hp} (x : Int32) : f_X5_isLastDay S x = some (bI (0 ≤ x ∧ x ≤ 999), S) := y_in3 x 0 999
theorem y_isGuests {S : Hp} (x : Int32) : f_X5_isGuests S x = some (bI (1 ≤ x ∧ x ≤ 12), S) := y_in3 x 1 12
theorem sm {β : Type} {x : β} : ¬ some x = none := fun e => by cases e
theorem lit_lt {y : Int32} {n m : Nat} (q : y < 0 ∨ nI n ≤ y) (hm : m < n) (hn : n < 2 ^ 31) : ¬ y = nI m := fun e => by
  rcases q with q | q
  · rw [e] at q; exact nI_pos (by omega) q
  · rw [e] at q; exact nI_ge hm hn q
theorem b30 {n : Nat} (hn : n ≤ 10) : n < 2 ^ 30 := by omega
end QS
