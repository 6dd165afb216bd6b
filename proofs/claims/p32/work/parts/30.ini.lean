/-! the start: two objects, their layouts, all zero -/
def Ini (S : Hp) : Prop := (zL S).length = 229 ∧ (zL S).Nodup ∧ LGG S 0 1 ∧ ∀ c, c ∈ zL S → (zI S c = fun _ => 0) ∧ (zJ S c = fun _ => 0) ∧ zD S c = fun _ => 0
theorem LGG.tr {S S' : Hp} {n s x : Nat} (h : LGG S 0 1) (hn : 229 ≤ n) (hx : 229 ≤ x) (Kk : Kx S S' n x s) : LGG S' 0 1 := by
  obtain ⟨⟨a0, a1, a2, a3, a4⟩, b1, b2, ⟨c1, c2, c3⟩, d, e1, e2, e3⟩ := h
  have ls : ∀ {p b : Nat}, LState S p b → p < 229 → b + 31 ≤ 229 → LState S' p b := fun h hp hb => h.tr (fun h hu hr => h.kx Kk (by omega) (by omega) (Or.inl (by omega))) (fun h hu => h.kx Kk (by omega)) (fun h hu => kz.kx h Kk (by omega))
  refine ⟨⟨kz.kx a0 Kk (by omega), a1.kx Kk (by omega) (by omega) (Or.inl (by omega)), a2.kx Kk (by omega) (by omega) (Or.inl (by omega)), a3.kx Kk (by omega) (by omega) (Or.inl (by omega)), a4.kx Kk (by omega) (by omega) (Or.inl (by omega))⟩, ls b1 (by omega) (by omega), ls b2 (by omega) (by omega), ⟨kz.kx c1 Kk (by omega), c2.kx Kk (by omega) (by omega) (Or.inl (by omega)), c3.kx Kk (by omega)⟩, fun j hj => ?_, kz.kx e1 Kk (by omega), e2.kx Kk (by omega) (by omega) (Or.inl (by omega)), e3.kx Kk (by omega)⟩
  exact ⟨(d j hj).1.kx Kk (by omega) (by omega) (Or.inl (by omega)), ls (d j hj).2 (by omega) (by omega)⟩
def Z1 (S : Hp) : Prop := ∀ c, c ∈ zL S → (zI S c = fun _ => 0) ∧ (zJ S c = fun _ => 0) ∧ zD S c = fun _ => 0
theorem Z1.new {S : Hp} {q c m : Nat} (h : Z1 S) (hq : q ∉ zL S) : Z1 (nO S q c m) := fun b hb => by
  rw [nO_L] at hb
  rcases List.mem_append.mp hb with hb | hb
  · obtain ⟨a1, a2, a3, -⟩ := nO_unch (c := c) (m := m) hb hq
    obtain ⟨b1, b2, b3⟩ := h b hb
    exact ⟨a1.trans b1, a2.trans b2, a3.trans b3⟩
  · rw [List.mem_singleton.mp hb]; exact ⟨nO_I, nO_J, nO_D⟩
theorem Z1.ex {S S1 : Hp} {x n : Nat} (h : Z1 S) (he : Ex S x n S1) : Z1 S1 := fun c hc => by
  by_cases hs : c ∈ zL S
  · obtain ⟨a1, a2, a3, -⟩ := he.2.2.1 c hs
    obtain ⟨b1, b2, b3⟩ := h c hs
    exact ⟨a1.trans b1, a2.trans b2, a3.trans b3⟩
  · exact he.2.2.2 c hc hs
def Hp0 : Hp := (fun _ _ => 0, fun _ _ => 0, fun _ _ => 0, fun _ _ => none, fun _ => 0, fun _ => 0, [])
theorem Hp0_nil {cy : Nat → ClassId} : zP cy Hp0 = [] := rfl
theorem ini_of {q : Nat} {S2 : Hp} (hx : Ex (nO Hp0 q 5 0) (zA (nO Hp0 q 5 0) 0) 228 S2) (hg : LGG S2 0 1) : Ini S2 := by
  have n1 : (zL (nO Hp0 q 5 0)).Nodup := nd_new List.nodup_nil List.not_mem_nil
  have n2 := hx.2.1 n1
  have l2 : (zL S2).length = 229 := by rw [hx.len]; rfl
  have z4 : Z1 S2 := (Z1.new (S := Hp0) (fun c hc => absurd hc List.not_mem_nil) List.not_mem_nil).ex hx
  exact ⟨l2, n2, hg, z4⟩
