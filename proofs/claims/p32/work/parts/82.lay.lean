/-! the layout: states, tours, guides of the class; the reference's rows -/
def St (E : Hp) (p : Nat) : Prop := p ≤ 195 ∧ LState E p (p + 1)
def Ev (E : Hp) : Prop := Nd E ∧ LGG E 0 1 ∧ True
theorem Ev.nd {E : Hp} (h : Ev E) : Nd E := h.1
theorem Ev.s1 {E : Hp} (h : Ev E) : St E 1 := ⟨by omega, h.2.1.2.1⟩
theorem Ev.s33 {E : Hp} (h : Ev E) : St E 33 := ⟨by omega, h.2.1.2.2.1⟩
theorem Ev.sH {E : Hp} (h : Ev E) {k : Nat} (hk : k < 5) : St E (67 + 32 * k) := ⟨by omega, by
  have := (h.2.1.2.2.2.2.1 k hk).2
  rw [show 1 + 66 + 32 * k = 67 + 32 * k by omega, show 1 + 67 + 32 * k = 67 + 32 * k + 1 by omega] at this
  exact this⟩
section LAY
variable {E : Hp} {i : Nat → Nat → Int32} {j : Nat → Nat → Int64} {d : Nat → Nat → UInt64} {β : Type} {p : Nat}
theorem nI_lit14 (t x : Nat) : nI 40 + nI 14 * nI t + nI x = nI (40 + 14 * t + x) := by rw [pk_mul, nI_add, nI_add]
theorem nI_lit4 (t x : Nat) : nI 8 + nI 4 * nI t + nI x = nI (8 + 4 * t + x) := by rw [pk_mul, nI_add, nI_add]
theorem ob_S (h : Nd E) (hs : St E p) {k : Nat → Option β} : ob (mk E i j d) 2 (some (zA E p)) k = k (zA E p) := ob_mk h (by have := hs.1; omega) hs.2.1.1
theorem R_S0 (hs : St E p) : zR (mk E i j d) (zA E p) 0 = some (zA E (p + 1)) := hs.2.1.2.1
theorem R_S1 (hs : St E p) : zR (mk E i j d) (zA E p) 1 = some (zA E (p + 10)) := hs.2.1.2.2.1
theorem R_S2 (hs : St E p) : zR (mk E i j d) (zA E p) 2 = some (zA E (p + 11)) := hs.2.1.2.2.2
theorem ar_S0 (h : Nd E) (hs : St E p) {k : Nat → Nat → Option β} {g : Nat} (hg : g < 8) : ar (mk E i j d) 10 (some (zA E (p + 1))) (nI g) k = k (zA E (p + 1)) g := ar_mk h (by have := hs.1; omega) hs.2.2.1.1 rfl hg (by decide)
theorem ar_S1 (h : Nd E) (hs : St E p) {k : Nat → Nat → Option β} {g : Nat} (hg : g < 6) : ar (mk E i j d) 8 (some (zA E (p + 10))) (nI g) k = k (zA E (p + 10)) g := ar_mk h (by have := hs.1; omega) hs.2.2.1.2.1 rfl hg (by decide)
theorem ar_S2 (h : Nd E) (hs : St E p) {k : Nat → Nat → Option β} {g : Nat} (hg : g < 10) : ar (mk E i j d) 12 (some (zA E (p + 11))) (nI g) k = k (zA E (p + 11)) g := ar_mk h (by have := hs.1; omega) hs.2.2.1.2.2 rfl hg (by decide)
theorem R_G (hs : St E p) {g : Nat} (hg : g < 8) : zR (mk E i j d) (zA E (p + 1)) g = some (zA E (p + 2 + g)) := (hs.2.2.2.1 g hg).1
theorem R_T (hs : St E p) {t : Nat} (ht : t < 10) : zR (mk E i j d) (zA E (p + 11)) t = some (zA E (p + 12 + 2 * t)) := (hs.2.2.2.2 t ht).1
theorem ob_G (h : Nd E) (hs : St E p) {g : Nat} (hg : g < 8) {k : Nat → Option β} : ob (mk E i j d) 0 (some (zA E (p + 2 + g))) k = k (zA E (p + 2 + g)) := ob_mk h (by have := hs.1; omega) (hs.2.2.2.1 g hg).2
theorem ob_T (h : Nd E) (hs : St E p) {t : Nat} (ht : t < 10) {k : Nat → Option β} : ob (mk E i j d) 4 (some (zA E (p + 12 + 2 * t))) k = k (zA E (p + 12 + 2 * t)) := ob_mk h (by have := hs.1; omega) (hs.2.2.2.2 t ht).2.1
theorem R_T0 (hs : St E p) {t : Nat} (ht : t < 10) : zR (mk E i j d) (zA E (p + 12 + 2 * t)) 0 = some (zA E (p + 13 + 2 * t)) := by
  have := (hs.2.2.2.2 t ht).2.2.1
  rw [show p + 1 + 11 + 2 * t + 1 = p + 13 + 2 * t by omega] at this
  exact this
theorem ar_T0 (h : Nd E) (hs : St E p) {t : Nat} (ht : t < 10) {k : Nat → Nat → Option β} {g : Nat} (hg : g < 4) : ar (mk E i j d) 9 (some (zA E (p + 13 + 2 * t))) (nI g) k = k (zA E (p + 13 + 2 * t)) g := by
  refine ar_mk h (by have := hs.1; omega) ?_ rfl hg (by decide)
  have := (hs.2.2.2.2 t ht).2.2.2
  rw [show p + 1 + 11 + 2 * t + 1 = p + 13 + 2 * t by omega] at this
  exact this
theorem I_S (h : Nd E) (hs : St E p) (k : Nat) : zI (mk E i j d) (zA E p) k = i p k := mk_I h (by have := hs.1; omega) k
theorem J_S (h : Nd E) (hs : St E p) (k : Nat) : zJ (mk E i j d) (zA E p) k = j p k := mk_J h (by have := hs.1; omega) k
theorem D_S (h : Nd E) (hs : St E p) (k : Nat) : zD (mk E i j d) (zA E p) k = d p k := mk_D h (by have := hs.1; omega) k
theorem I_G (h : Nd E) (hs : St E p) {g : Nat} (hg : g < 8) (k : Nat) : zI (mk E i j d) (zA E (p + 2 + g)) k = i (p + 2 + g) k := mk_I h (by have := hs.1; omega) k
theorem I_T (h : Nd E) (hs : St E p) {t : Nat} (ht : t < 10) (k : Nat) : zI (mk E i j d) (zA E (p + 12 + 2 * t)) k = i (p + 12 + 2 * t) k := mk_I h (by have := hs.1; omega) k
theorem D_T (h : Nd E) (hs : St E p) {t : Nat} (ht : t < 10) (k : Nat) : zD (mk E i j d) (zA E (p + 12 + 2 * t)) k = d (p + 12 + 2 * t) k := mk_D h (by have := hs.1; omega) k
theorem I_R (h : Nd E) (hs : St E p) {t : Nat} (ht : t < 10) (k : Nat) : zI (mk E i j d) (zA E (p + 13 + 2 * t)) k = i (p + 13 + 2 * t) k := mk_I h (by have := hs.1; omega) k
theorem D_B (h : Nd E) (hs : St E p) (k : Nat) : zD (mk E i j d) (zA E (p + 10)) k = d (p + 10) k := mk_D h (by have := hs.1; omega) k
theorem wI_S (h : Nd E) (hs : St E p) (k : Nat) (v : Int32) : wI (mk E i j d) (zA E p) k v = mk E (u2 i p k v) j d := mk_wI h (by have := hs.1; omega) k v
theorem wJ_S (h : Nd E) (hs : St E p) (k : Nat) (v : Int64) : wJ (mk E i j d) (zA E p) k v = mk E i (u2 j p k v) d := mk_wJ h (by have := hs.1; omega) k v
theorem wD_S (h : Nd E) (hs : St E p) (k : Nat) (v : UInt64) : wD (mk E i j d) (zA E p) k v = mk E i j (u2 d p k v) := mk_wD h (by have := hs.1; omega) k v
theorem wI_G (h : Nd E) (hs : St E p) {g : Nat} (hg : g < 8) (k : Nat) (v : Int32) : wI (mk E i j d) (zA E (p + 2 + g)) k v = mk E (u2 i (p + 2 + g) k v) j d := mk_wI h (by have := hs.1; omega) k v
theorem wI_T (h : Nd E) (hs : St E p) {t : Nat} (ht : t < 10) (k : Nat) (v : Int32) : wI (mk E i j d) (zA E (p + 12 + 2 * t)) k v = mk E (u2 i (p + 12 + 2 * t) k v) j d := mk_wI h (by have := hs.1; omega) k v
theorem wD_T (h : Nd E) (hs : St E p) {t : Nat} (ht : t < 10) (k : Nat) (v : UInt64) : wD (mk E i j d) (zA E (p + 12 + 2 * t)) k v = mk E i j (u2 d (p + 12 + 2 * t) k v) := mk_wD h (by have := hs.1; omega) k v
theorem wI_R (h : Nd E) (hs : St E p) {t : Nat} (ht : t < 10) (k : Nat) (v : Int32) : wI (mk E i j d) (zA E (p + 13 + 2 * t)) k v = mk E (u2 i (p + 13 + 2 * t) k v) j d := mk_wI h (by have := hs.1; omega) k v
theorem wD_B (h : Nd E) (hs : St E p) (k : Nat) (v : UInt64) : wD (mk E i j d) (zA E (p + 10)) k v = mk E i j (u2 d (p + 10) k v) := mk_wD h (by have := hs.1; omega) k v
/-! the reference -/
end LAY
