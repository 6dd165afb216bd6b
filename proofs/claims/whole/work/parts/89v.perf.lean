/-! the text's command, done -/
section PERF
variable {E : Hp} {i : Nat → Nat → Int32} {j : Nat → Nat → Int64} {d : Nat → Nat → UInt64} {K : Nat → Int32} {l : Nat} {N : Nat → Int32} {r : Nat → UInt64} {B : Nat} {H : List Rw} {s : Option Rw}
theorem cl_id {α : Type} (x : Option (α × Hp)) : cl x (fun v S => some (v, S)) = x := by cases x <;> rfl
/-- what the text tells: the command (0: a fault), the fault, the numbers -/
def prs (K : Nat → Int32) (l : Nat) : Nat × Nat × Int32 × Int32 :=
  if cmd K (wl K l 0) = 0 then (0, 0, 0, 0)
  else if (num K l (wl K l 0)).1 = false then (0, (num K l (wl K l 0)).2.1, 0, 0)
  else if cmd K (wl K l 0) = 4 then
    if l ≤ (num K l (wl K l 0)).2.1 then (4, 0, (num K l (wl K l 0)).2.2, 0) else (0, (num K l (wl K l 0)).2.1, 0, 0)
  else if (num K l (num K l (wl K l 0)).2.1).1 = false then (0, (num K l (num K l (wl K l 0)).2.1).2.1, 0, 0)
  else if l ≤ (num K l (num K l (wl K l 0)).2.1).2.1 then (cmd K (wl K l 0), 0, (num K l (wl K l 0)).2.2, (num K l (num K l (wl K l 0)).2.1).2.2) else (0, (num K l (num K l (wl K l 0)).2.1).2.1, 0, 0)
/-- the same, the class's way: what read() answers, and the fields behind it -/
def RdX (K : Nat → Int32) (l : Nat) (q : Int32) (i1 : Nat → Nat → Int32) : Prop := ((prs K l).1 = 0 → q = nI (prs K l).2.1 ∧ (prs K l).2.1 ≤ l) ∧ (¬ (prs K l).1 = 0 → q = -1 ∧ i1 227 2 = nI (prs K l).1 ∧ i1 227 3 = (prs K l).2.2.1 ∧ (¬ (prs K l).1 = 4 → i1 227 4 = (prs K l).2.2.2))
theorem y_read (h : Ev E) (hl : l ≤ 40) (h1 : i 227 1 = nI l) : ∃ i1 q, f_X3_read (mk E i j d) (zA E 227) = some (q, mk E i1 j d) ∧ (∀ x, x ≠ 227 → i1 x = i x) ∧ i1 227 1 = nI l ∧ RdX (i 228) l q i1 := by
  have w0 := wl_le (K := i 228) l 0
  have c5 := cmd_le (K := i 228) (W := wl (i 228) l 0)
  unfold f_X3_read
  rw [ob_Y h, y_wl h hl h1, cl_go, ob_Y h, y_cmd h hl h1 (by omega), cl_go, ob_Y h, wI_227 h.1, bnd_go, ob_Y h, I_227 h.1, u2_self]
  have e1 : (u2 i 227 2 (nI (cmd (i 228) (wl (i 228) l 0)))) 227 1 = nI l := by rw [u2_nek _ _ (by decide)]; exact h1
  have e8 : (u2 i 227 2 (nI (cmd (i 228) (wl (i 228) l 0)))) 228 = i 228 := u2_row _ _ (by decide)
  have F1 : ∀ x, x ≠ 227 → (u2 i 227 2 (nI (cmd (i 228) (wl (i 228) l 0)))) x = i x := fun x hx => u2_row _ _ hx
  have e2 : (u2 i 227 2 (nI (cmd (i 228) (wl (i 228) l 0)))) 227 2 = nI (cmd (i 228) (wl (i 228) l 0)) := u2_self _ _ _ _
  unfold RdX
  by_cases c0 : cmd (i 228) (wl (i 228) l 0) = 0
  · have T : prs (i 228) l = (0, 0, 0, 0) := if_pos c0
    rw [if_pos (by rw [c0]; rfl), T]
    exact ⟨_, _, rfl, F1, e1, fun _ => ⟨rfl, Nat.zero_le _⟩, fun z => absurd rfl z⟩
  · rw [if_neg (nI_ne0 (by omega) (by omega))]
    generalize hi1 : u2 i 227 2 (nI (cmd (i 228) (wl (i 228) l 0))) = i1 at e1 e8 F1 e2 ⊢
    have nl := num_le (K := i 228) (l := l) (a := wl (i 228) l 0) (by omega)
    by_cases c4 : cmd (i 228) (wl (i 228) l 0) = 4
    · rw [if_pos (by rw [c4]; rfl), show f_X3_read_L39 1000 (mk E i1 j d) (zA E 227) (nI (wl (i 228) l 0)) (1 : Int32) (0 : Int32) = _ from y_num (f := 999) (n := 1) (t := 0) h hl e1 (a := wl (i 228) l 0) (by omega) (by omega) (by omega), e8]
      by_cases b1 : (num (i 228) l (wl (i 228) l 0)).1 = true
      · have b1' : ¬ (num (i 228) l (wl (i 228) l 0)).1 = false := by rw [b1]; decide
        rw [if_pos b1]
        have e1' : (u2 i1 227 (3 + 0) (num (i 228) l (wl (i 228) l 0)).2.2) 227 1 = nI l := by rw [u2_nek _ _ (by decide)]; exact e1
        have F2 : ∀ x, x ≠ 227 → (u2 i1 227 (3 + 0) (num (i 228) l (wl (i 228) l 0)).2.2) x = i x := fun x hx => (u2_row _ _ hx).trans (F1 x hx)
        rw [show f_X3_read_L39 999 (mk E (u2 i1 227 (3 + 0) (num (i 228) l (wl (i 228) l 0)).2.2) j d) (zA E 227) (nI (num (i 228) l (wl (i 228) l 0)).2.1) (nI 1) (nI (0 + 1)) = _ from y_end (f := 998) (n := 1) h hl e1' nl (by omega)]
        by_cases z : l ≤ (num (i 228) l (wl (i 228) l 0)).2.1
        · have T : prs (i 228) l = (4, 0, (num (i 228) l (wl (i 228) l 0)).2.2, 0) := by unfold prs; rw [if_neg c0, if_neg b1', if_pos c4, if_pos z]
          rw [if_pos z, T]
          exact ⟨_, _, rfl, F2, e1', fun y => absurd y (by decide : ¬ (4 : Nat) = 0), fun _ => ⟨rfl, by rw [u2_nek _ _ (by decide), e2, c4], u2_self _ _ _ _, fun y => absurd rfl y⟩⟩
        · have T : prs (i 228) l = (0, (num (i 228) l (wl (i 228) l 0)).2.1, 0, 0) := by unfold prs; rw [if_neg c0, if_neg b1', if_pos c4, if_neg z]
          rw [if_neg z, T]
          exact ⟨_, _, rfl, F2, e1', fun _ => ⟨rfl, nl⟩, fun y => absurd rfl y⟩
      · have b1' : (num (i 228) l (wl (i 228) l 0)).1 = false := Bool.eq_false_iff.mpr b1
        have T : prs (i 228) l = (0, (num (i 228) l (wl (i 228) l 0)).2.1, 0, 0) := by unfold prs; rw [if_neg c0, if_pos b1']
        rw [if_neg b1, T]
        exact ⟨_, _, rfl, F1, e1, fun _ => ⟨rfl, nl⟩, fun y => absurd rfl y⟩
    · rw [if_neg (show ¬ nI (cmd (i 228) (wl (i 228) l 0)) = 4 from fun y => c4 ((nI_eq (b := 4) (by omega) (by decide)).mp y)), show f_X3_read_L39 1000 (mk E i1 j d) (zA E 227) (nI (wl (i 228) l 0)) (2 : Int32) (0 : Int32) = _ from y_num (f := 999) (n := 2) (t := 0) h hl e1 (a := wl (i 228) l 0) (by omega) (by omega) (by omega), e8]
      by_cases b1 : (num (i 228) l (wl (i 228) l 0)).1 = true
      · have b1' : ¬ (num (i 228) l (wl (i 228) l 0)).1 = false := by rw [b1]; decide
        rw [if_pos b1]
        have e1' : (u2 i1 227 (3 + 0) (num (i 228) l (wl (i 228) l 0)).2.2) 227 1 = nI l := by rw [u2_nek _ _ (by decide)]; exact e1
        have e8' : (u2 i1 227 (3 + 0) (num (i 228) l (wl (i 228) l 0)).2.2) 228 = i 228 := by rw [u2_row _ _ (by decide)]; exact e8
        have F2 : ∀ x, x ≠ 227 → (u2 i1 227 (3 + 0) (num (i 228) l (wl (i 228) l 0)).2.2) x = i x := fun x hx => (u2_row _ _ hx).trans (F1 x hx)
        have nl2 := num_le (K := i 228) (l := l) (a := (num (i 228) l (wl (i 228) l 0)).2.1) nl
        rw [show f_X3_read_L39 999 (mk E (u2 i1 227 (3 + 0) (num (i 228) l (wl (i 228) l 0)).2.2) j d) (zA E 227) (nI (num (i 228) l (wl (i 228) l 0)).2.1) (nI 2) (nI (0 + 1)) = _ from y_num (f := 998) (n := 2) (t := 1) h hl e1' nl (by omega) (by omega), e8']
        generalize hp : (num (i 228) l (wl (i 228) l 0)).2.1 = p1 at nl nl2 ⊢
        by_cases b2 : (num (i 228) l p1).1 = true
        · have b2' : ¬ (num (i 228) l p1).1 = false := by rw [b2]; decide
          rw [if_pos b2]
          have e1'' : (u2 (u2 i1 227 (3 + 0) (num (i 228) l (wl (i 228) l 0)).2.2) 227 (3 + 1) (num (i 228) l p1).2.2) 227 1 = nI l := by rw [u2_nek _ _ (by decide)]; exact e1'
          have F3 : ∀ x, x ≠ 227 → (u2 (u2 i1 227 (3 + 0) (num (i 228) l (wl (i 228) l 0)).2.2) 227 (3 + 1) (num (i 228) l p1).2.2) x = i x := fun x hx => (u2_row _ _ hx).trans (F2 x hx)
          rw [show f_X3_read_L39 998 (mk E (u2 (u2 i1 227 (3 + 0) (num (i 228) l (wl (i 228) l 0)).2.2) 227 (3 + 1) (num (i 228) l p1).2.2) j d) (zA E 227) (nI (num (i 228) l p1).2.1) (nI 2) (nI (1 + 1)) = _ from y_end (f := 997) (n := 2) h hl e1'' nl2 (by omega)]
          by_cases z : l ≤ (num (i 228) l p1).2.1
          · have T : prs (i 228) l = (cmd (i 228) (wl (i 228) l 0), 0, (num (i 228) l (wl (i 228) l 0)).2.2, (num (i 228) l p1).2.2) := by unfold prs; rw [if_neg c0, if_neg b1', if_neg c4, hp, if_neg b2', if_pos z]
            rw [if_pos z, T]
            exact ⟨_, _, rfl, F3, e1'', fun y => absurd y c0, fun _ => ⟨rfl, by rw [u2_nek _ _ (by decide), u2_nek _ _ (by decide), e2], by rw [u2_nek _ _ (by decide), u2_self], fun y => u2_self _ _ _ _⟩⟩
          · have T : prs (i 228) l = (0, (num (i 228) l p1).2.1, 0, 0) := by unfold prs; rw [if_neg c0, if_neg b1', if_neg c4, hp, if_neg b2', if_neg z]
            rw [if_neg z, T]
            exact ⟨_, _, rfl, F3, e1'', fun _ => ⟨rfl, nl2⟩, fun y => absurd rfl y⟩
        · have b2' : (num (i 228) l p1).1 = false := Bool.eq_false_iff.mpr b2
          have T : prs (i 228) l = (0, (num (i 228) l p1).2.1, 0, 0) := by unfold prs; rw [if_neg c0, if_neg b1', if_neg c4, hp, if_pos b2']
          rw [if_neg b2, T]
          exact ⟨_, _, rfl, F2, e1', fun _ => ⟨rfl, nl2⟩, fun y => absurd rfl y⟩
      · have b1' : (num (i 228) l (wl (i 228) l 0)).1 = false := Bool.eq_false_iff.mpr b1
        have T : prs (i 228) l = (0, (num (i 228) l (wl (i 228) l 0)).2.1, 0, 0) := by unfold prs; rw [if_neg c0, if_pos b1']
        rw [if_neg b1, T]
        exact ⟨_, _, rfl, F1, e1, fun _ => ⟨rfl, nl⟩, fun y => absurd rfl y⟩
/-- what the reference does with a command -/
def dsM (c : Nat) (S : Hp) (a : Nat) (v w : Int32) : Option (Int32 × Hp) := if c = 1 then f_X6_book S a v w else if c = 2 then f_X6_leave S a v w else if c = 3 then f_X6_merge S a v w else if c = 4 then f_X6_cancel S a v else f_X6_lead S a v w
def dsX (c : Nat) (S : Hp) (a : Nat) (v w : Int32) : Option (Int32 × Hp) := if c = 1 then f_X5_book S a v w else if c = 2 then f_X5_leave S a v w else if c = 3 then f_X5_merge S a v w else if c = 4 then f_X5_cancel S a v else f_X5_lead S a v w
theorem prs_le : (prs K l).1 ≤ 5 := by
  have c5 := cmd_le (K := K) (W := wl K l 0)
  unfold prs
  by_cases a1 : cmd K (wl K l 0) = 0
  · rw [if_pos a1]; exact Nat.zero_le _
  · rw [if_neg a1]
    by_cases a2 : (num K l (wl K l 0)).1 = false
    · rw [if_pos a2]; exact Nat.zero_le _
    · rw [if_neg a2]
      by_cases a3 : cmd K (wl K l 0) = 4
      · rw [if_pos a3]
        split
        · show 4 ≤ 5; decide
        · exact Nat.zero_le _
      · rw [if_neg a3]
        split
        · exact Nat.zero_le _
        · split
          · exact c5
          · exact Nat.zero_le _
theorem y_perf0 (h : Ev E) (hl : l ≤ 40) (h1 : i 227 1 = nI l) (c : (prs (i 228) l).1 = 0) : ∃ i1, f_X5_perform (mk E i j d) (zA E 0) = some (-100 - nI (prs (i 228) l).2.1, mk E i1 j d) ∧ (∀ x, x ≠ 227 → i1 x = i x) ∧ i1 227 1 = nI l := by
  obtain ⟨i1, q, e, F, e1, R, -⟩ := y_read (j := j) (d := d) h hl h1
  obtain ⟨rfl, hq⟩ := R c
  unfold f_X5_perform
  rw [ob_X h, R_X3 h, ob_Y h, e, cl_go, if_neg (nI_m1' (by omega))]
  exact ⟨i1, rfl, F, e1⟩
theorem y_perf1 (h : Ev E) (hl : l ≤ 40) (h1 : i 227 1 = nI l) (c : ¬ (prs (i 228) l).1 = 0) : ∃ i1, f_X5_perform (mk E i j d) (zA E 0) = dsX (prs (i 228) l).1 (mk E i1 j d) (zA E 0) (prs (i 228) l).2.2.1 (prs (i 228) l).2.2.2 ∧ (∀ x, x ≠ 227 → i1 x = i x) ∧ i1 227 1 = nI l := by
  obtain ⟨i1, q, e, F, e1, -, R⟩ := y_read (j := j) (d := d) h hl h1
  obtain ⟨rfl, r2, r3, r4⟩ := R c
  have c5 := prs_le (K := i 228) (l := l)
  refine ⟨i1, ?_, F, e1⟩
  unfold f_X5_perform
  rw [ob_X h, R_X3 h, ob_Y h, e, cl_go, if_pos rfl, ob_X h, R_X3 h, ob_Y h, I_227 h.1 2, r2, I_227 h.1 3, r3, I_227 h.1 4]
  generalize (prs (i 228) l).2.2.1 = v at r3 ⊢
  generalize (prs (i 228) l).2.2.2 = w at r4 ⊢
  generalize (prs (i 228) l).1 = n at c c5 r2 r4 ⊢
  have : n = 1 ∨ n = 2 ∨ n = 3 ∨ n = 4 ∨ n = 5 := by omega
  rcases this with rfl | rfl | rfl | rfl | rfl
  · rw [r4 (by decide), if_pos (by decide), ob_X h, cl_id]; rfl
  · rw [r4 (by decide), if_neg (by decide), if_pos (by decide), ob_X h, cl_id]; rfl
  · rw [r4 (by decide), if_neg (by decide), if_neg (by decide), if_pos (by decide), ob_X h, cl_id]; rfl
  · rw [if_neg (by decide), if_neg (by decide), if_neg (by decide), if_pos (by decide), ob_X h, cl_id]; rfl
  · rw [r4 (by decide), if_neg (by decide), if_neg (by decide), if_neg (by decide), if_neg (by decide), if_pos (by decide), ob_X h, cl_id]; rfl
theorem rcd_ne {c : Nat} (h0 : ¬ c = 0) (h5 : c ≤ 5) : ¬ rcd c = -5 := by
  have : c = 1 ∨ c = 2 ∨ c = 3 ∨ c = 4 ∨ c = 5 := by omega
  rcases this with rfl | rfl | rfl | rfl | rfl <;> decide
theorem rcd_3 {c : Nat} (h0 : ¬ c = 0) (h5 : c ≤ 5) (h4 : ¬ c = 4) : ¬ rcd c = 3 := by
  have : c = 1 ∨ c = 2 ∨ c = 3 ∨ c = 4 ∨ c = 5 := by omega
  rcases this with rfl | rfl | rfl | rfl | rfl
  · decide
  · decide
  · decide
  · exact absurd rfl h4
  · decide
theorem Nt.rf : Nt i i := ⟨fun _ _ => rfl, fun _ _ => rfl⟩
theorem Nt.tr {i1 i2 : Nat → Nat → Int32} (a : Nt i i1) (b : Nt i1 i2) : Nt i i2 := ⟨fun q hq => (b.1 q hq).trans (a.1 q hq), fun x hx => (b.2 x hx).trans (a.2 x hx)⟩
theorem Nt.u {x : Nat} (hx : 10 ≤ x) (v : Int32) : Nt i (u2 i 229 x v) := ⟨fun q hq => u2_row _ _ hq, fun y hy => u2_nek _ _ (by omega)⟩
theorem Nt.m10 {i' : Nat → Nat → Int32} (F1 : ∀ q, q ≠ 229 → i' q = i q) (F2 : ∀ x, x ≠ 10 → i' 229 x = i 229 x) : Nt i i' := ⟨F1, fun x hx => F2 x (by omega)⟩
/-- the reference's perform: a fault, or the command -/
def oM (p : Nat × Nat × Int32 × Int32) (S : Hp) (a : Nat) : Option (Int32 × Hp) := if p.1 = 0 then some (-100 - nI p.2.1, S) else dsM p.1 S a p.2.2.1 p.2.2.2
theorem m100 : (-100 : Int32) = -100 - nI 0 := by decide
theorem x_perf (h : Ev E) (hl : l ≤ 40) (h8 : i 229 8 = nI l) : ∃ i1, Nt i i1 ∧ f_X6_perform (mk E i j d) (zA E 229) = oM (prs (i 236) l) (mk E i1 j d) (zA E 229) := by
  have w0 := wl_le (K := i 236) l 0
  have c5 := cmd_le (K := i 236) (W := wl (i 236) l 0)
  obtain ⟨i1, e1, F1, F2, F3⟩ := x_word (j := j) (d := d) h hl h8
  have k1 : Nt i i1 := Nt.m10 F1 F2
  have q1 : i1 229 8 = nI l := (F2 8 (by decide)).trans h8
  have p1 : i1 236 = i 236 := F1 236 (by decide)
  unfold f_X6_perform
  rw [ob_M h, e1, cl_go]
  generalize hW : wl (i 236) l 0 = W at w0 c5 F3 ⊢
  by_cases c0 : cmd (i 236) W = 0
  · have T : prs (i 236) l = (0, 0, 0, 0) := by unfold prs; rw [hW, if_pos c0]
    rw [if_pos (by rw [c0]; rfl), T]
    exact ⟨i1, k1, congrArg (fun z => some (z, mk E i1 j d)) m100⟩
  · obtain ⟨i2, e2, G1, G2, G3⟩ := x_num (j := j) (d := d) h hl (by omega) q1 F3
    have k2 : Nt i i2 := k1.tr (Nt.m10 G1 G2)
    have q2 : i2 229 8 = nI l := (G2 8 (by decide)).trans q1
    have p2 : i2 236 = i 236 := (G1 236 (by decide)).trans p1
    rw [p1] at e2 G3
    rw [if_neg (rcd_ne c0 c5), ob_M h, e2, cl_go, ob_M h, wI_229 h.1, bnd_go, ob_M h, I_229 h.1 11, u2_self]
    have nl := num_le (K := i 236) (l := l) (a := W) (by omega)
    by_cases b1 : (num (i 236) l W).1 = true
    · have b1' : ¬ (num (i 236) l W).1 = false := by rw [b1]; decide
      rw [if_pos b1, if_neg (num_v b1)]
      by_cases c4 : cmd (i 236) W = 4
      · rw [if_pos (show rcd (cmd (i 236) W) = 3 by rw [c4]; rfl), ob_M h, wI_229 h.1, bnd_go, ob_M h, I_229 h.1 12, u2_self, if_neg (by decide), I_229 h.1 10, u2_nek _ _ (by decide), u2_nek _ _ (by decide), G3, I_229 h.1 8, u2_nek _ _ (by decide), u2_nek _ _ (by decide), q2]
        by_cases z : l ≤ (num (i 236) l W).2.1
        · have T : prs (i 236) l = (4, 0, (num (i 236) l W).2.2, 0) := by unfold prs; rw [hW, if_neg c0, if_neg b1', if_pos c4, if_pos z]
          rw [if_pos (congrArg nI (Nat.le_antisymm nl z)), c4, if_neg (by decide), if_neg (by decide), if_neg (by decide), if_pos (by decide), ob_M h, cl_id, I_229 h.1 11, u2_nek _ _ (by decide), u2_self, T]
          exact ⟨_, (k2.tr (Nt.u (by decide) _)).tr (Nt.u (by decide) _), rfl⟩
        · have T : prs (i 236) l = (0, (num (i 236) l W).2.1, 0, 0) := by unfold prs; rw [hW, if_neg c0, if_neg b1', if_pos c4, if_neg z]
          rw [if_neg (fun y => z (Nat.le_of_eq ((nI_eq (by omega) (by omega)).mp y).symm)), T]
          exact ⟨_, (k2.tr (Nt.u (by decide) _)).tr (Nt.u (by decide) _), rfl⟩
      · have k3 : Nt i (u2 i2 229 11 (num (i 236) l W).2.2) := k2.tr (Nt.u (by decide) _)
        have q3 : (u2 i2 229 11 (num (i 236) l W).2.2) 229 8 = nI l := by rw [u2_nek _ _ (by decide)]; exact q2
        have p3 : (u2 i2 229 11 (num (i 236) l W).2.2) 236 = i 236 := by rw [u2_row _ _ (by decide)]; exact p2
        obtain ⟨i4, e4, H1, H2, H3⟩ := x_num (j := j) (d := d) h hl nl q3 (by rw [u2_nek _ _ (by decide)]; exact G3)
        rw [p3] at e4 H3
        have k4 : Nt i i4 := k3.tr (Nt.m10 H1 H2)
        have q4 : i4 229 8 = nI l := (H2 8 (by decide)).trans q3
        have v4 : i4 229 11 = (num (i 236) l W).2.2 := (H2 11 (by decide)).trans (u2_self _ _ _ _)
        rw [if_neg (rcd_3 c0 c5 c4), ob_M h, e4, cl_go, ob_M h, wI_229 h.1, bnd_go, ob_M h, I_229 h.1 12, u2_self]
        have nl2 := num_le (K := i 236) (l := l) (a := (num (i 236) l W).2.1) nl
        generalize hp : (num (i 236) l W).2.1 = p at nl nl2 H3 ⊢
        by_cases b2 : (num (i 236) l p).1 = true
        · have b2' : ¬ (num (i 236) l p).1 = false := by rw [b2]; decide
          rw [if_pos b2, if_neg (num_v b2), I_229 h.1 10, u2_nek _ _ (by decide), H3, I_229 h.1 8, u2_nek _ _ (by decide), q4]
          by_cases z : l ≤ (num (i 236) l p).2.1
          · have T : prs (i 236) l = (cmd (i 236) W, 0, (num (i 236) l W).2.2, (num (i 236) l p).2.2) := by unfold prs; rw [hW, if_neg c0, if_neg b1', if_neg c4, hp, if_neg b2', if_pos z]
            rw [if_pos (congrArg nI (Nat.le_antisymm nl2 z)), T, I_229 h.1 11, u2_nek _ _ (by decide), v4]
            refine ⟨_, k4.tr (Nt.u (x := 12) (by decide) (num (i 236) l p).2.2), ?_⟩
            show _ = if cmd (i 236) W = 0 then _ else dsM (cmd (i 236) W) _ _ _ _
            rw [if_neg c0]
            generalize cmd (i 236) W = n at c0 c5 c4 ⊢
            have : n = 1 ∨ n = 2 ∨ n = 3 ∨ n = 5 := by omega
            rcases this with rfl | rfl | rfl | rfl
            · rw [if_pos (by decide), ob_M h, cl_id]; rfl
            · rw [if_neg (by decide), if_pos (by decide), ob_M h, cl_id]; rfl
            · rw [if_neg (by decide), if_neg (by decide), if_pos (by decide), ob_M h, cl_id]; rfl
            · rw [if_neg (by decide), if_neg (by decide), if_neg (by decide), if_neg (by decide), ob_M h, cl_id]; rfl
          · have T : prs (i 236) l = (0, (num (i 236) l p).2.1, 0, 0) := by unfold prs; rw [hW, if_neg c0, if_neg b1', if_neg c4, hp, if_neg b2', if_neg z]
            rw [if_neg (fun y => z (Nat.le_of_eq ((nI_eq (by omega) (by omega)).mp y).symm)), T]
            exact ⟨_, k4.tr (Nt.u (by decide) _), rfl⟩
        · have b2' : (num (i 236) l p).1 = false := Bool.eq_false_iff.mpr b2
          have T : prs (i 236) l = (0, (num (i 236) l p).2.1, 0, 0) := by unfold prs; rw [hW, if_neg c0, if_neg b1', if_neg c4, hp, if_pos b2']
          rw [if_neg b2, if_pos rfl, T, I_229 h.1 10, u2_nek _ _ (by decide), H3]
          exact ⟨_, k4.tr (Nt.u (by decide) _), rfl⟩
    · have b1' : (num (i 236) l W).1 = false := Bool.eq_false_iff.mpr b1
      have T : prs (i 236) l = (0, (num (i 236) l W).2.1, 0, 0) := by unfold prs; rw [hW, if_neg c0, if_pos b1']
      rw [if_neg b1, if_pos rfl, T, I_229 h.1 10, u2_nek _ _ (by decide), G3]
      exact ⟨_, k2.tr (Nt.u (by decide) _), rfl⟩
theorem perf_go {i1 : Nat → Nat → Int32} {fX fM gX gM : Hp → Option (Int32 × Hp)} (L : LSp E B i1 j d fX fM) (hX : gX (mk E i j d) = fX (mk E i1 j d)) (hM : ∀ i2 j2 d2, (∀ q, 227 ≤ q → i2 q = i1 q) → ∃ i3, Nt i2 i3 ∧ gM (mk E i2 j2 d2) = fM (mk E i3 j2 d2)) : LSt E B i j d gX gM := by
  obtain ⟨v, i2, j2, d2, e, fr, f⟩ := L
  obtain ⟨i3, c, e3⟩ := hM i2 j2 d2 fr
  obtain ⟨i4, d4, e4, I⟩ := f i3 c
  exact ⟨v, i2, j2, d2, i4, d4, hX.trans e, e3.trans e4, I⟩
theorem a_perform (h : Ev E) (V : IV B i j d N r H s) (hB : B + 119988 ≤ 67108864) : LSt E (B + 119988) i j d (fun S => f_X5_perform S (zA E 0)) (fun S => f_X6_perform S (zA E 229)) := by
  obtain ⟨t1, l, tl, t2, t3⟩ := V.2.2.2.2
  have VT : ∀ i1 : Nat → Nat → Int32, (∀ x, x ≠ 227 → i1 x = i x) → i1 227 1 = nI l → IV B i1 j d N r H s := fun i1 F e1 => V.tx (fun q h7 _ _ _ => F q h7) (fun x _ => by rw [F 229 (by decide)]) ⟨by rw [F 228 (by decide), F 236 (by decide)]; exact t1, l, tl, e1, by rw [F 229 (by decide)]; exact t3⟩
  by_cases c : (prs (i 228) l).1 = 0
  · obtain ⟨i1, e, F, e1⟩ := y_perf0 (j := j) (d := d) h tl t2 c
    have V1 := VT i1 F e1
    have p1 : i1 236 = i 228 := (F 236 (by decide)).trans t1.symm
    obtain ⟨i4, k4, e4⟩ := x_perf (j := j) (d := d) h tl (show i1 229 8 = nI l by rw [F 229 (by decide)]; exact t3)
    rw [p1] at e4
    unfold oM at e4
    rw [if_pos c] at e4
    exact ⟨_, i1, j, d, i4, d, e, e4, N, r, H, s, (V1.nt k4).mono (by omega)⟩
  · obtain ⟨i1, e, F, e1⟩ := y_perf1 (j := j) (d := d) h tl t2 c
    have V1 := VT i1 F e1
    have c5 := prs_le (K := i 228) (l := l)
    have hM : ∀ i2 j2 d2, (∀ q, 227 ≤ q → i2 q = i1 q) → ∃ i3, Nt i2 i3 ∧ f_X6_perform (mk E i2 j2 d2) (zA E 229) = dsM (prs (i 228) l).1 (mk E i3 j2 d2) (zA E 229) (prs (i 228) l).2.2.1 (prs (i 228) l).2.2.2 := fun i2 j2 d2 fr => by
      obtain ⟨i3, k3, e3⟩ := x_perf (i := i2) (j := j2) (d := d2) h tl (by rw [fr 229 (by decide), F 229 (by decide)]; exact t3)
      have p2 : i2 236 = i 228 := (fr 236 (by decide)).trans ((F 236 (by decide)).trans t1.symm)
      rw [p2] at e3
      unfold oM at e3
      rw [if_neg c] at e3
      exact ⟨i3, k3, e3⟩
    generalize (prs (i 228) l).2.2.1 = v at e hM
    generalize (prs (i 228) l).2.2.2 = w at e hM
    generalize (prs (i 228) l).1 = n at c c5 e hM
    have : n = 1 ∨ n = 2 ∨ n = 3 ∨ n = 4 ∨ n = 5 := by omega
    rcases this with rfl | rfl | rfl | rfl | rfl
    · exact perf_go (p_book h V1 hB v w) e hM
    · exact perf_go (p_leave h V1 hB v w) e hM
    · exact perf_go (p_merge h V1 hB v w) e hM
    · exact perf_go (p_cancel h V1 hB v) e hM
    · exact perf_go (p_lead h V1 hB v w) e hM
end PERF
