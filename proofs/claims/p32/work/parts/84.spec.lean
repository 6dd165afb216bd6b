/-! what is said of a state: its row of numbers N, its row of doubles r -/
def cN (N : Nat → Int32) (x : Nat) : Nat := (N x).toNatClampNeg
def Cn (N : Nat → Int32) (x b : Nat) : Prop := N x = nI (cN N x) ∧ cN N x ≤ b
theorem Cn.mk' {N : Nat → Int32} {x b n : Nat} (h : N x = nI n) (hn : n ≤ b) (hb : b < 2 ^ 31) : Cn N x b := by
  have : cN N x = n := by unfold cN; rw [h]; exact nI_clamp (by omega)
  exact ⟨by rw [this]; exact h, by rw [this]; exact hn⟩
def sBase (e1 : UInt64) : Int32 :=
  if 0 ≤ (Op.cmpValue (FP.dcmp e1 4624633867356078080) CmpOp.g) then
    if 0 ≤ (Op.cmpValue (FP.dcmp e1 4629137466983448576) CmpOp.g) then
      if 0 ≤ (Op.cmpValue (FP.dcmp e1 4631530004285489152) CmpOp.g) then 1 else 3
    else 5
  else 7
def sBn (e1 : UInt64) : Nat :=
  if 0 ≤ (Op.cmpValue (FP.dcmp e1 4624633867356078080) CmpOp.g) then
    if 0 ≤ (Op.cmpValue (FP.dcmp e1 4629137466983448576) CmpOp.g) then
      if 0 ≤ (Op.cmpValue (FP.dcmp e1 4631530004285489152) CmpOp.g) then 1 else 3
    else 5
  else 7
theorem sBase_n (e : UInt64) : sBase e = nI (sBn e) ∧ 1 ≤ sBn e ∧ sBn e ≤ 7 := by
  unfold sBase sBn
  repeat' split
  all_goals exact ⟨rfl, by decide, by decide⟩
/-- a rope's ratio, of the guide g on tour t -/
def sRat (N : Nat → Int32) (r : Nat → UInt64) (t g : Nat) : Nat := if sBn (r (7 + t)) + cN N (8 + 4 * g) ≤ 3 then 1 else sBn (r (7 + t)) + cN N (8 + 4 * g) - 2
theorem rat_val {N : Nat → Int32} {r : Nat → UInt64} {t g : Nat} (hc : Cn N (8 + 4 * g) 3) (h1 : 1 ≤ cN N (8 + 4 * g)) {β : Type} (K : Int32 → β) : (if 1 ≤ sBase (r (7 + t)) + N (8 + 4 * g) - 2 then K (sBase (r (7 + t)) + N (8 + 4 * g) - 2) else K 1) = K (nI (sRat N r t g)) := by
  obtain ⟨hb, hb1, hb2⟩ := sBase_n (r (7 + t))
  rw [hb, hc.1, nI_add]
  unfold sRat
  have h3 := hc.2
  by_cases q : sBn (r (7 + t)) + cN N (8 + 4 * g) ≤ 2
  · have : sBn (r (7 + t)) + cN N (8 + 4 * g) = 2 := by omega
    rw [this, if_pos (by decide : 2 ≤ 3)]; rfl
  · rw [show nI (sBn (r (7 + t)) + cN N (8 + 4 * g)) - 2 = nI (sBn (r (7 + t)) + cN N (8 + 4 * g) - 2) from pk_sub (a := sBn (r (7 + t)) + cN N (8 + 4 * g)) (b := 2) (by omega), if_pos (show (1 : Int32) ≤ nI (sBn (r (7 + t)) + cN N (8 + 4 * g) - 2) from (nI_leI (a := 1) (b := sBn (r (7 + t)) + cN N (8 + 4 * g) - 2) (by omega) (by omega)).mpr (by omega))]
    by_cases q3 : sBn (r (7 + t)) + cN N (8 + 4 * g) ≤ 3
    · rw [if_pos q3, show sBn (r (7 + t)) + cN N (8 + 4 * g) - 2 = 1 by omega]
    · rw [if_neg q3]
theorem rat_le {N : Nat → Int32} {r : Nat → UInt64} {t g : Nat} (hc : Cn N (8 + 4 * g) 3) : 1 ≤ sRat N r t g ∧ sRat N r t g ≤ 8 := by
  obtain ⟨hb, hb1, hb2⟩ := sBase_n (r (7 + t))
  have := hc.2
  unfold sRat
  split <;> omega
/-- the guide at a place of a row -/
def gN (N : Nat → Int32) (t k : Nat) : Nat := cN N (48 + 14 * t + k)
def sSum (N : Nat → Int32) (r : Nat → UInt64) (t : Nat) : Nat → Nat
  | 0 => 0
  | k + 1 => sSum N r t k + sRat N r t (gN N t k)
/-- the guests who have no place on the first k ropes -/
def sLeft (N : Nat → Int32) (r : Nat → UInt64) (t k : Nat) : Nat := cN N (40 + 14 * t + 3) - sSum N r t k
def sOn (N : Nat → Int32) (r : Nat → UInt64) (t k : Nat) : Nat := sLeft N r t k - sLeft N r t (k + 1)
def sMost (N : Nat → Int32) (r : Nat → UInt64) (t : Nat) : Nat → Nat
  | 0 => 0
  | k + 1 => if sOn N r t k ≤ sMost N r t k then sMost N r t k else sOn N r t k
def sNeed (N : Nat → Int32) (r : Nat → UInt64) (t : Nat) : UInt64 := FP.dadd 4624633867356078080 (FP.dmul 4612811918334230528 (FP.i2d (nI (sMost N r t (cN N (40 + 14 * t + 4)) + 1))))
theorem sLeft_le {N : Nat → Int32} {r : Nat → UInt64} {t : Nat} (k : Nat) : sLeft N r t (k + 1) ≤ sLeft N r t k := by
  show cN N (40 + 14 * t + 3) - (sSum N r t k + sRat N r t (gN N t k)) ≤ cN N (40 + 14 * t + 3) - sSum N r t k
  omega
theorem sLeft_g {N : Nat → Int32} {r : Nat → UInt64} {t : Nat} (k : Nat) : sLeft N r t k ≤ cN N (40 + 14 * t + 3) := by
  unfold sLeft; omega
theorem sMost_le {N : Nat → Int32} {r : Nat → UInt64} {t : Nat} : ∀ k, sMost N r t k ≤ cN N (40 + 14 * t + 3)
  | 0 => Nat.zero_le _
  | k + 1 => by
    have h1 := sMost_le (N := N) (r := r) (t := t) k
    have h2 := sLeft_g (N := N) (r := r) (t := t) k
    show (if sOn N r t k ≤ sMost N r t k then sMost N r t k else sOn N r t k) ≤ _
    unfold sOn
    split <;> omega
theorem need_ok : ∀ n : Nat, n < 14 → vf_n64 (FP.dmul 4612811918334230528 (FP.i2d (nI n))) ∧ vf_n64 (FP.dadd 4624633867356078080 (FP.dmul 4612811918334230528 (FP.i2d (nI n)))) := by
  unfold vf_n64
  decide +kernel
def WFt (N : Nat → Int32) (t : Nat) : Prop := Cn N (40 + 14 * t + 1) 9999 ∧ Cn N (40 + 14 * t + 3) 12 ∧ Cn N (40 + 14 * t + 4) 4 ∧ ∀ k, k < cN N (40 + 14 * t + 4) → Cn N (48 + 14 * t + k) 7 ∧ gN N t k < cN N 1
def sPaid (N : Nat → Int32) : Nat → Nat
  | 0 => 0
  | t + 1 => sPaid N t + cN N (40 + 14 * t + 5)
/-- what holds of every state that stands, is kept or was recorded -/
def WQ (N : Nat → Int32) (r : Nat → UInt64) : Prop :=
  (Cn N 1 8 ∧ Cn N 2 6 ∧ Cn N 3 10) ∧ (∀ g, g < cN N 1 → Cn N (8 + 4 * g) 3 ∧ 1 ≤ cN N (8 + 4 * g)) ∧ (∀ t, t < cN N 3 → WFt N t) ∧
  ((∀ x, 180 ≤ x → N x = 0) ∧ ∀ x, 17 ≤ x → r x = 0) ∧ dT (r 0) ∧ (∀ b, b < 6 → dB (r (1 + b)))
def PB (B : Nat) (N : Nat → Int32) : Prop := (∀ t, t < 10 → Cn N (40 + 14 * t + 5) B) ∧ sPaid N 10 ≤ B
def WF (B : Nat) (N : Nat → Int32) (r : Nat → UInt64) : Prop := WQ N r ∧ PB B N
section WQS
variable {N : Nat → Int32} {r : Nat → UInt64}
theorem WQ.n1 (w : WQ N r) : N 1 = nI (cN N 1) ∧ cN N 1 ≤ 8 := w.1.1
theorem WQ.n2 (w : WQ N r) : N 2 = nI (cN N 2) ∧ cN N 2 ≤ 6 := w.1.2.1
theorem WQ.n3 (w : WQ N r) : N 3 = nI (cN N 3) ∧ cN N 3 ≤ 10 := w.1.2.2
theorem WQ.kl (w : WQ N r) {g : Nat} (hg : g < cN N 1) : Cn N (8 + 4 * g) 3 ∧ 1 ≤ cN N (8 + 4 * g) := w.2.1 g hg
theorem WQ.to (w : WQ N r) {t : Nat} (ht : t < cN N 3) : WFt N t := w.2.2.1 t ht
theorem WQ.t10 (w : WQ N r) {t : Nat} (ht : t < cN N 3) : t < 10 := Nat.lt_of_lt_of_le ht w.1.2.2.2
theorem WQ.rowk (w : WQ N r) {t k : Nat} (ht : t < cN N 3) (hk : k < cN N (40 + 14 * t + 4)) : N (48 + 14 * t + k) = nI (gN N t k) ∧ gN N t k < cN N 1 ∧ gN N t k < 8 := by
  obtain ⟨⟨a, b⟩, c⟩ := (w.to ht).2.2.2 k hk
  exact ⟨a, c, Nat.lt_of_lt_of_le c w.n1.2⟩
theorem WQ.many (w : WQ N r) {t : Nat} (ht : t < cN N 3) : N (40 + 14 * t + 4) = nI (cN N (40 + 14 * t + 4)) ∧ cN N (40 + 14 * t + 4) ≤ 4 := (w.to ht).2.2.1
theorem WQ.guests (w : WQ N r) {t : Nat} (ht : t < cN N 3) : N (40 + 14 * t + 3) = nI (cN N (40 + 14 * t + 3)) ∧ cN N (40 + 14 * t + 3) ≤ 12 := (w.to ht).2.1
theorem WQ.rat (w : WQ N r) {t k : Nat} (ht : t < cN N 3) (hk : k < cN N (40 + 14 * t + 4)) : 1 ≤ sRat N r t (gN N t k) ∧ sRat N r t (gN N t k) ≤ 8 := rat_le (w.kl (w.rowk ht hk).2.1).1
theorem WQ.sum (w : WQ N r) {t : Nat} (ht : t < cN N 3) : ∀ k, k ≤ cN N (40 + 14 * t + 4) → sSum N r t k ≤ 8 * k
  | 0, _ => Nat.le_refl _
  | k + 1, hk => by
    have h1 := w.sum ht k (by omega)
    have h2 := (w.rat ht (k := k) (by omega)).2
    show sSum N r t k + sRat N r t (gN N t k) ≤ 8 * (k + 1)
    omega
end WQS
section W
variable {B : Nat} {N : Nat → Int32} {r : Nat → UInt64}
theorem WF.q (w : WF B N r) : WQ N r := w.1
theorem WF.n1 (w : WF B N r) : N 1 = nI (cN N 1) ∧ cN N 1 ≤ 8 := w.1.n1 
theorem WF.n2 (w : WF B N r) : N 2 = nI (cN N 2) ∧ cN N 2 ≤ 6 := w.1.n2 
theorem WF.n3 (w : WF B N r) : N 3 = nI (cN N 3) ∧ cN N 3 ≤ 10 := w.1.n3 
theorem WF.kl (w : WF B N r) {g : Nat} (hg : g < cN N 1) : Cn N (8 + 4 * g) 3 ∧ 1 ≤ cN N (8 + 4 * g) := w.1.kl hg
theorem WF.to (w : WF B N r) {t : Nat} (ht : t < cN N 3) : WFt N t := w.1.to ht
theorem WF.t10 (w : WF B N r) {t : Nat} (ht : t < cN N 3) : t < 10 := w.1.t10 ht
theorem WF.rowk (w : WF B N r) {t k : Nat} (ht : t < cN N 3) (hk : k < cN N (40 + 14 * t + 4)) : N (48 + 14 * t + k) = nI (gN N t k) ∧ gN N t k < cN N 1 ∧ gN N t k < 8 := w.1.rowk ht hk
theorem WF.many (w : WF B N r) {t : Nat} (ht : t < cN N 3) : N (40 + 14 * t + 4) = nI (cN N (40 + 14 * t + 4)) ∧ cN N (40 + 14 * t + 4) ≤ 4 := w.1.many ht
theorem WF.guests (w : WF B N r) {t : Nat} (ht : t < cN N 3) : N (40 + 14 * t + 3) = nI (cN N (40 + 14 * t + 3)) ∧ cN N (40 + 14 * t + 3) ≤ 12 := w.1.guests ht
theorem WF.rat (w : WF B N r) {t k : Nat} (ht : t < cN N 3) (hk : k < cN N (40 + 14 * t + 4)) : 1 ≤ sRat N r t (gN N t k) ∧ sRat N r t (gN N t k) ≤ 8 := w.1.rat ht hk
theorem WF.sum (w : WF B N r) {t : Nat} (ht : t < cN N 3) : ∀ k, k ≤ cN N (40 + 14 * t + 4) → sSum N r t k ≤ 8 * k := fun k hk => w.1.sum ht k hk
end W
