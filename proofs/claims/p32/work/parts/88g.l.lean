/-! the acts, one by one: guides, bridges, weather, calling off, leading -/
section ACTS2
variable {E : Hp} {i : Nat → Nat → Int32} {j : Nat → Nat → Int64} {d : Nat → Nat → UInt64} {N : Nat → Int32} {r : Nat → UInt64} {B : Nat} {H : List Rw} {s : Option Rw}
theorem up_comm {N : Nat → Int32} {x y : Nat} {a b : Int32} (h : x ≠ y) : upd (upd N x a) y b = upd (upd N y b) x a := by
  funext z; unfold upd
  by_cases c1 : z = y
  · by_cases c2 : z = x
    · exact absurd (c2.symm.trans c1) h
    · rw [if_pos c1, if_neg c2, if_pos c1]
  · by_cases c2 : z = x
    · rw [if_neg c1, if_pos c2, if_pos c2]
    · rw [if_neg c1, if_neg c2, if_neg c2, if_neg c1]
/-- a tour is called off -/
def canc (N : Nat → Int32) (t : Nat) (c : Int32) : Nat → Int32 := upd (upd (upd (upd N (40 + 14 * t + 5) 0) 4 (N 4 + N (40 + 14 * t + 5))) (40 + 14 * t + 6) 2) (40 + 14 * t + 7) c
theorem canc2 (N : Nat → Int32) (t : Nat) (c : Int32) : upd (upd (upd (upd N (40 + 14 * t + 6) 2) (40 + 14 * t + 7) c) (40 + 14 * t + 5) 0) 4 (N 4 + N (40 + 14 * t + 5)) = canc N t c := by
  unfold canc
  rw [up_comm (x := 40 + 14 * t + 7) (y := 40 + 14 * t + 5) (by omega), up_comm (x := 40 + 14 * t + 6) (y := 40 + 14 * t + 5) (by omega), up_comm (x := 40 + 14 * t + 7) (y := 4) (by omega), up_comm (x := 40 + 14 * t + 6) (y := 4) (by omega)]
theorem WF.off (w : WF B N r) (hB : B < 2 ^ 31) {t : Nat} (ht : t < 10) (c : Int32) : WF B (canc N t c) r := by
  unfold canc
  have p5 : PB B (upd N (40 + 14 * t + 5) 0) := w.2.paid (m := 0) ht hB (by have := w.2.2; omega) (fun q hq => (w.2.one hq).2) (by omega)
  refine ⟨(((w.q.free (by unfold Ess; omega) _).free (by unfold Ess; omega) _).free (by unfold Ess; omega) _).free (by unfold Ess; omega) _, ((p5.free (fun q hq => by omega)).free (fun q hq => by omega)).free (fun q hq => by omega)⟩
theorem y_callOff (h : Nd E) {p : Nat} (hs : St E p) (a : Rep i j d p N r) (w : WF B N r) {t : Nat} (ht : t < cN N 3) (c : Int32) : ∃ i', f_X2_callOff (mk E i j d) (zA E p) (some (zA E (p + 12 + 2 * t))) c = some (N (40 + 14 * t + 5), mk E i' j d) ∧ (∀ q, q < p ∨ p + 31 < q → i' q = i q) ∧ Rep i' j d p (canc N t c) r := by
  have h10 := w.t10 ht
  unfold f_X2_callOff f_X2_payBack
  have ne : p ≠ p + 12 + 2 * t := by omega
  rw [ob_T h hs h10, bnd_go, I_T h hs h10, a.t8 ht, ob_T h hs h10, wI_T h hs h10, bnd_go, ob_T h hs h10, wI_T h hs h10, bnd_go, ob_S h hs, ob_T h hs h10, ob_T h hs h10, I_T h hs h10, u2_nek _ _ (by decide : (8 : Nat) ≠ 10), u2_nek _ _ (by decide : (8 : Nat) ≠ 9), a.t8 ht, Int32.sub_self, wI_T h hs h10, bnd_go, ob_S h hs, ob_S h hs, I_S h hs, u2_row _ _ ne, u2_row _ _ ne, u2_row _ _ ne, a.f9, wI_S h hs, bnd_go, cl_go]
  refine ⟨_, rfl, fun q hq => ?_, ?_⟩
  · rw [u2_row _ _ (by omega), u2_row _ _ (by omega), u2_row _ _ (by omega), u2_row _ _ (by omega)]
  · rw [← canc2]
    have w1 := w.q.free (z := 40 + 14 * t + 6) (by unfold Ess; omega) 2
    have w2 := w1.free (z := 40 + 14 * t + 7) (by unfold Ess; omega) c
    have w3 := w2.free (z := 40 + 14 * t + 5) (by unfold Ess; omega) 0
    exact (((a.w9 w.q h10 2).w10 w1 h10 c).w8 w2 h10 0).s9 w3 _
end ACTS2
