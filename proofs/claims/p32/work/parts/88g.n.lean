/-! the acts, one by one: the temperature, new tours, leaving -/
section ACTS4
variable {E : Hp} {i : Nat → Nat → Int32} {j : Nat → Nat → Int64} {d : Nat → Nat → UInt64} {N : Nat → Int32} {r : Nat → UInt64} {B : Nat} {H : List Rw} {s : Option Rw}
theorem cp_upd {f : Nat → Int32} {N : Nat → Int32} {b k z : Nat} {v : Int32} (hz : z < b) : cp f (upd N z v) b k = upd (cp f N b k) z v := by
  funext x
  unfold cp upd
  by_cases c : b ≤ x ∧ x < b + k
  · rw [if_pos c, if_neg (by omega)]; exact (if_pos c).symm
  · rw [if_neg c]
    show _ = if x = z then v else (if b ≤ x ∧ x < b + k then f (x - b) else N x)
    rw [if_neg c]
theorem Rep.nout {p : Nat} (a : Rep i j d p N r) (w : WQ N r) {N1 : Nat → Int32} {r1 : Nat → UInt64} (e : ∀ x, x < 40 + 14 * cN N 3 → N1 x = N x) (e2 : ∀ x, x < 7 + cN N 3 → r1 x = r x) : Rep i j d p N1 r1 := by
  have n1 := w.n1.2
  have n3 := w.n3.2
  have c1 : cN N1 1 = cN N 1 := by unfold cN; rw [e 1 (by omega)]
  have c3 : cN N1 3 = cN N 3 := by unfold cN; rw [e 3 (by omega)]
  refine ⟨?_, fun g hg k hk => ?_, fun b hb => ?_, fun t ht => ⟨?_, ?_, fun k hk => ?_⟩⟩
  · rw [e 1 (by omega), e 2 (by omega), e 3 (by omega), e 0 (by omega), e 4 (by omega), e2 0 (by omega)]; exact a.1
  · rw [c1] at hg
    rw [e _ (by omega)]; exact a.g hg hk
  · rw [e2 _ (by omega)]; exact a.b hb
  · rw [c3] at ht
    rw [e _ (by omega), e _ (by omega), e _ (by omega), e _ (by omega), e _ (by omega), e _ (by omega), e _ (by omega), e _ (by omega)]; exact (a.t ht).1
  · rw [c3] at ht
    rw [e2 _ (by omega)]; exact (a.t ht).2.1
  · rw [c3] at ht
    have m4 := (w.many ht).2
    have cm : cN N1 (40 + 14 * t + 4) = cN N (40 + 14 * t + 4) := by unfold cN; rw [e _ (by omega)]
    rw [cm] at hk
    rw [e _ (by omega)]; exact a.tr ht hk
theorem PB.le {N1 : Nat → Int32} (b : PB B N) (hB : B < 2 ^ 31) (e : ∀ t, t < 10 → N1 (40 + 14 * t + 5) = N (40 + 14 * t + 5) ∨ N1 (40 + 14 * t + 5) = 0) : PB B N1 := by
  have c : ∀ t, t < 10 → cN N1 (40 + 14 * t + 5) ≤ cN N (40 + 14 * t + 5) := fun t ht => by
    rcases e t ht with z | z
    · rw [cN_of z]; omega
    · rw [cN_nI (n := 0) z (by omega)]; omega
  have s : ∀ n, n ≤ 10 → sPaid N1 n ≤ sPaid N n := fun n => by
    induction n with
    | zero => intro _; exact Nat.le_refl _
    | succ n ih =>
      intro hn
      show sPaid N1 n + cN N1 (40 + 14 * n + 5) ≤ sPaid N n + cN N (40 + 14 * n + 5)
      have := ih (by omega)
      have := c n (by omega)
      omega
  refine ⟨fun t ht => ?_, Nat.le_trans (s 10 (by omega)) b.2⟩
  have hc := c t ht
  have ho := b.one ht
  refine ⟨?_, by omega⟩
  rcases e t ht with z | z
  · rw [cN_of z, z]; exact ho.1
  · rw [cN_nI (n := 0) z (by omega), z]; rfl
theorem y_begin (h : Nd E) {p : Nat} (hs : St E p) {t : Nat} (ht : t < 10) (day : Int32) (sl : UInt64) (pr br : Int32) : f_X4_begin (mk E i j d) (zA E (p + 12 + 2 * t)) day sl pr br = some ((), mk E (u2 (u2 (u2 (u2 (u2 (u2 (u2 (u2 (u2 i (p + 12 + 2 * t) 1 day) (p + 12 + 2 * t) 3 (sBase sl)) (p + 12 + 2 * t) 4 pr) (p + 12 + 2 * t) 5 br) (p + 12 + 2 * t) 6 0) (p + 12 + 2 * t) 7 0) (p + 12 + 2 * t) 8 0) (p + 12 + 2 * t) 9 0) (p + 12 + 2 * t) 10 0) j (u2 d (p + 12 + 2 * t) 2 sl)) := by
  have hb : ∀ S : Hp, f_X4_baseOf S sl = some (sBase sl, S) := fun S => by
    unfold f_X4_baseOf sBase
    repeat' split
    all_goals rfl
  unfold f_X4_begin
  rw [ob_T h hs ht, wI_T h hs ht, bnd_go, ob_T h hs ht, wD_T h hs ht, bnd_go, hb, cl_go, ob_T h hs ht, wI_T h hs ht, bnd_go, ob_T h hs ht, wI_T h hs ht, bnd_go, ob_T h hs ht, wI_T h hs ht, bnd_go, ob_T h hs ht, wI_T h hs ht, bnd_go, ob_T h hs ht, wI_T h hs ht, bnd_go, ob_T h hs ht, wI_T h hs ht, bnd_go, ob_T h hs ht, wI_T h hs ht, bnd_go, ob_T h hs ht, wI_T h hs ht, bnd_go]
theorem y_share {S : Hp} (x : Int32) : f_X4_shareAt S x = some (sShare x, S) := by
  unfold f_X4_shareAt sShare
  repeat' split
  all_goals rfl
end ACTS4
