/-! The heap of the system as typed functions: by address and slot (objects) or place (arrays); the kind of each address, the length of each array, the addresses. -/
abbrev Hp : Type := (Nat → Nat → Int32) × (Nat → Nat → Int64) × (Nat → Nat → UInt64) × (Nat → Nat → Option Nat) × (Nat → Nat) × (Nat → Nat) × List Nat
def zI (S : Hp) : Nat → Nat → Int32 := S.1
def zJ (S : Hp) : Nat → Nat → Int64 := S.2.1
def zD (S : Hp) : Nat → Nat → UInt64 := S.2.2.1
def zR (S : Hp) : Nat → Nat → Option Nat := S.2.2.2.1
def zK (S : Hp) : Nat → Nat := S.2.2.2.2.1
def zN (S : Hp) : Nat → Nat := S.2.2.2.2.2.1
def zL (S : Hp) : List Nat := S.2.2.2.2.2.2
def u2 {α : Type} (f : Nat → Nat → α) (a k : Nat) (v : α) : Nat → Nat → α := fun b j => if b = a ∧ j = k then v else f b j
def wI (S : Hp) (a k : Nat) (v : Int32) : Hp := (u2 S.1 a k v, S.2)
def wJ (S : Hp) (a k : Nat) (v : Int64) : Hp := (S.1, u2 S.2.1 a k v, S.2.2)
def wD (S : Hp) (a k : Nat) (v : UInt64) : Hp := (S.1, S.2.1, u2 S.2.2.1 a k v, S.2.2.2)
def wR (S : Hp) (a k : Nat) (v : Option Nat) : Hp := (S.1, S.2.1, S.2.2.1, u2 S.2.2.2.1 a k v, S.2.2.2.2)
/-- a row's new contents -/
def rI (S : Hp) (a : Nat) (f : Nat → Int32) : Hp := ((fun b => if b = a then f else S.1 b), S.2)
def rD (S : Hp) (a : Nat) (f : Nat → UInt64) : Hp := (S.1, S.2.1, (fun b => if b = a then f else S.2.2.1 b), S.2.2.2)
/-- kinds 0 to 5: the classes; a slot and its type (0 int, 1 long, 2 double, 3 a reference) -/
def zs : Nat → List (Nat × Nat)
  | 0 => [(0, 0), (1, 0), (2, 0), (3, 0)]
  | 1 => [(0, 3), (1, 0), (2, 0)]
  | 2 => [(0, 3), (1, 3), (2, 3), (3, 0), (4, 0), (5, 0), (6, 0), (7, 1), (8, 2), (9, 0)]
  | 3 => [(0, 3), (1, 0), (2, 0), (3, 0), (4, 0)]
  | 4 => [(0, 3), (1, 0), (2, 2), (3, 0), (4, 0), (5, 0), (6, 0), (7, 0), (8, 0), (9, 0), (10, 0)]
  | 5 => [(0, 3), (1, 3), (2, 3), (3, 3), (4, 0)]
  | _ => []
def zv (S : Hp) (a : Nat) (q : Nat × Nat) : Value := match q.2 with
  | 0 => .int (zI S a q.1)
  | 1 => .long (zJ S a q.1)
  | 2 => .double (zD S a q.1)
  | _ => va_rf (zR S a q.1)
def zF (cy : Nat → ClassId) (S : Hp) (a : Nat) : va_E :=
  if zK S a < 7 then .inr (zK S a, (zs (zK S a)).map (zv S a))
  else if zK S a = 7 then .inl (cy 0, zN S a, .inl (zI S a))
  else if zK S a = 8 then .inl (cy 1, zN S a, .inr (.inr (.inr (.inl (zD S a)))))
  else if zK S a = 9 then .inl (cy 2, zN S a, .inl (zI S a))
  else .inl (cy (zK S a - 7), zN S a, .inr (.inr (.inr (.inr (zR S a)))))
def ztys (cy : Nat → ClassId) : List (ClassId × FieldType) := [(cy 0, .char), (cy 1, .double), (cy 2, .int), (cy 3, .object "GlacierGuides$Guide"), (cy 4, .object "GlacierGuides$State"), (cy 5, .object "GlacierGuides$Tour")]
def zP (cy : Nat → ClassId) (S : Hp) : va_W := va_pl (zL S) (zF cy S)
theorem zF_o {cy : Nat → ClassId} {S : Hp} {a c : Nat} (h : zK S a = c) (hc : c < 7) : zF cy S a = .inr (c, (zs c).map (zv S a)) := by
  unfold zF; rw [h, if_pos hc]
theorem zF_c {cy : Nat → ClassId} {S : Hp} {a : Nat} (h : zK S a = 7) : zF cy S a = .inl (cy 0, zN S a, .inl (zI S a)) := by
  unfold zF; rw [h, if_neg (by decide), if_pos rfl]
theorem zF_d {cy : Nat → ClassId} {S : Hp} {a : Nat} (h : zK S a = 8) : zF cy S a = .inl (cy 1, zN S a, .inr (.inr (.inr (.inl (zD S a))))) := by
  unfold zF; rw [h, if_neg (by decide), if_neg (by decide), if_pos rfl]
theorem zF_i {cy : Nat → ClassId} {S : Hp} {a : Nat} (h : zK S a = 9) : zF cy S a = .inl (cy 2, zN S a, .inl (zI S a)) := by
  unfold zF; rw [h, if_neg (by decide), if_neg (by decide), if_neg (by decide), if_pos rfl]
theorem zF_q {cy : Nat → ClassId} {S : Hp} {a c : Nat} (h : zK S a = c) (hc : 10 ≤ c) : zF cy S a = .inl (cy (c - 7), zN S a, .inr (.inr (.inr (.inr (zR S a))))) := by
  unfold zF; rw [h, if_neg (by omega), if_neg (by omega), if_neg (by omega), if_neg (by omega)]
theorem zP_get {cy : Nat → ClassId} {S : Hp} {a : Nat} {e : va_E} (h : a ∈ zL S) (he : zF cy S a = e) : ∃ k : Nat, (zP cy S)[k]? = some (a, e) := by
  subst he
  exact va_pl_get (X := []) (f := zF cy S) h
theorem zP_set {cy : Nat → ClassId} {S S1 : Hp} {A : Nat → Prop} {a k : Nat} {e e1 : va_E} (hD : va_D A (zP cy S)) (h : a ∈ zL S) (hk : (zP cy S)[k]? = some (a, e)) (he : zF cy S a = e) (h1 : zL S1 = zL S) (h2 : zF cy S1 a = e1) (h3 : ∀ b, b ≠ a → zF cy S1 b = zF cy S b) : (zP cy S).set k (a, e1) = zP cy S1 := by
  have hk' : ([] ++ va_pl (zL S) (zF cy S))[k]? = some (a, zF cy S a) := by rw [he]; exact hk
  have := va_pl_set (X := []) (e := e1) (f := zF cy S) (L := zL S) (A := A) hD h hk'
  unfold zP
  rw [h1]
  refine Eq.trans this ?_
  show va_pl (zL S) _ = _
  exact va_pl_congr (fun b => by
    by_cases hb : b = a
    · subst hb; rw [va_up_self, h2]
    · rw [va_up_ne _ _ hb, h3 b hb])
theorem u2_self {α : Type} (f : Nat → Nat → α) (a k : Nat) (v : α) : u2 f a k v a k = v := if_pos ⟨rfl, rfl⟩
theorem u2_ne {α : Type} (f : Nat → Nat → α) {a k b : Nat} (v : α) (h : b ≠ a) (j : Nat) : u2 f a k v b j = f b j := if_neg (fun q => h q.1)
theorem u2_nek {α : Type} (f : Nat → Nat → α) {a k b j : Nat} (v : α) (h : j ≠ k) : u2 f a k v b j = f b j := if_neg (fun q => h q.2)
theorem u2_row {α : Type} (f : Nat → Nat → α) {a k b : Nat} (v : α) (h : b ≠ a) : u2 f a k v b = f b := funext fun j => u2_ne f v h j
theorem u2_upd (f : Nat → Nat → Int32) (a k : Nat) (v : Int32) : u2 f a k v a = upd (f a) k v := by
  funext j
  by_cases h : j = k
  · subst h; simp [u2, upd]
  · simp [u2, upd, h]
theorem u2_vupd (f : Nat → Nat → UInt64) (a k : Nat) (v : UInt64) : u2 f a k v a = vf_upd (f a) k v := by
  funext j
  by_cases h : j = k
  · subst h; simp [u2, vf_upd]
  · simp [u2, vf_upd, h]
theorem zs_fst_aux (l : List (Nat × Nat)) (hl : (List.range l.length).all (fun i => decide ((l[i]?.map (fun q => q.1)) = some i)) = true) (k : Nat) (q : Nat × Nat) (h : l[k]? = some q) : q.1 = k := by
  have hk : k < l.length := (List.getElem?_eq_some_iff.mp h).1
  have := List.all_eq_true.mp hl k (List.mem_range.mpr hk)
  have := of_decide_eq_true this
  rw [h] at this
  exact Option.some.inj this
theorem zs_fst (c k : Nat) (q : Nat × Nat) (h : (zs c)[k]? = some q) : q.1 = k := by
  match c, h with
  | 0, h => exact zs_fst_aux _ (by decide) k q h
  | 1, h => exact zs_fst_aux _ (by decide) k q h
  | 2, h => exact zs_fst_aux _ (by decide) k q h
  | 3, h => exact zs_fst_aux _ (by decide) k q h
  | 4, h => exact zs_fst_aux _ (by decide) k q h
  | 5, h => exact zs_fst_aux _ (by decide) k q h
  | n + 6, h => exact zs_fst_aux [] (by decide) k q h
/-- an object's row after a write of one of its slots -/
theorem zv_set {S S1 : Hp} {a k t c : Nat} {v : Value} (hz : (zs c)[k]? = some (k, t)) (hv : zv S1 a (k, t) = v) (ho : ∀ j u, j ≠ k → zv S1 a (j, u) = zv S a (j, u)) : ((zs c).map (zv S a)).set k v = (zs c).map (zv S1 a) := by
  apply List.ext_getElem?
  intro j
  rw [List.getElem?_set, List.getElem?_map, List.getElem?_map]
  by_cases hj : k = j
  · subst hj
    have hk : k < (zs c).length := (List.getElem?_eq_some_iff.mp hz).1
    rw [if_pos rfl, if_pos (by rw [List.length_map]; exact hk), hz]
    show some v = some _
    rw [hv]
  · rw [if_neg hj]
    cases hq : (zs c)[j]? with
    | none => rfl
    | some q =>
      obtain ⟨q1, q2⟩ := q
      have : q1 = j := zs_fst c j _ hq
      subst this
      show some (zv S a (q1, q2)) = some (zv S1 a (q1, q2))
      rw [ho q1 q2 (fun e => hj e.symm)]
/-! the walk's context: program, launch, env, room, start, method, arguments, frames below, method, code, goal; classes' numbers and slots, arrays' classes, what may change, locals -/
abbrev Cx : Type := Program × Launch × Env × Room × State × MethodId × Array Value × List Frame × Method × Code × (State → Prop) × va_G × (Nat → ClassId) × (Nat → Prop) × Nat
abbrev xp (X : Cx) : Program := X.1
abbrev xl (X : Cx) : Launch := X.2.1
abbrev xe (X : Cx) : Env := X.2.2.1
abbrev xR (X : Cx) : Room := X.2.2.2.1
abbrev xs (X : Cx) : State := X.2.2.2.2.1
abbrev xm (X : Cx) : MethodId := X.2.2.2.2.2.1
abbrev xa (X : Cx) : Array Value := X.2.2.2.2.2.2.1
abbrev xb (X : Cx) : List Frame := X.2.2.2.2.2.2.2.1
abbrev xM (X : Cx) : Method := X.2.2.2.2.2.2.2.2.1
abbrev xc (X : Cx) : Code := X.2.2.2.2.2.2.2.2.2.1
abbrev xQ (X : Cx) : State → Prop := X.2.2.2.2.2.2.2.2.2.2.1
abbrev xG (X : Cx) : va_G := X.2.2.2.2.2.2.2.2.2.2.2.1
abbrev xy (X : Cx) : Nat → ClassId := X.2.2.2.2.2.2.2.2.2.2.2.2.1
abbrev xA (X : Cx) : Nat → Prop := X.2.2.2.2.2.2.2.2.2.2.2.2.2.1
abbrev xn (X : Cx) : Nat := X.2.2.2.2.2.2.2.2.2.2.2.2.2.2
def GW (X : Cx) (k n : Nat) (S : Hp) (pc : Nat) (lv : List (Nat × Value)) (st : List Value) : Prop :=
  ∀ (H : Heap) (locs : List Loc) (ls : Array Slot), va_P (xG X) vwCl (zP (xy X) S) H → va_D (xA X) (zP (xy X) S) → va_S (xA X) (xs X).heap H locs → lv_has ls (xn X) lv →
    W (xp X) (xl X) (xe X) (xR X) (xs X) (xm X) (xa X) (xb X) (xM X) (xc X) H locs k n (xQ X) (F0 (xm X) pc ls st)
def CxOK (X : Cx) (cc : ByteArray) (own : String) (rm : Room) : Prop :=
  (xp X).tables.exec = Jvm.exec ∧ (xc X).code = cc ∧ (xc X).maxLocals = xn X ∧ (xs X).vm.findClass own = some (xm X).cls ∧ (∀ w ∈ wsL_law, w.before (xa X) (xs X) = true) ∧ va_K (xG X) vwCl (ztys (xy X)) (xs X) ∧ (∀ q : Nat, (xs X).heap.size ≤ q → xA X q) ∧ (xM X).locks = false ∧ xR X = rm
/-! the words of a method's picture: guards and writes, each with what comes behind -/
def ob {β : Type} (S : Hp) (c : Nat) (r : Option Nat) (k : Nat → Option β) : Option β := match r with
  | none => none
  | some a => if a ∈ zL S ∧ zK S a = c then k a else none
def ar {β : Type} (S : Hp) (c : Nat) (r : Option Nat) (i : Int32) (k : Nat → Nat → Option β) : Option β := match r with
  | none => none
  | some a => if a ∈ zL S ∧ zK S a = c ∧ ¬ (i < 0 ∨ zN S a ≤ i.toNatClampNeg) then k a i.toNatClampNeg else none
def bnd {α β : Type} (x : α) (k : α → Option β) : Option β := k x
def cl {α β : Type} (x : Option (α × Hp)) (k : α → Hp → Option β) : Option β := match x with
  | none => none
  | some q => k q.1 q.2
def gd {β : Type} (c : Prop) [Decidable c] (k : Option β) : Option β := if c then k else none
theorem ob_el {β : Type} {S : Hp} {c : Nat} {r : Option Nat} {k : Nat → Option β} {o : β} (h : ob S c r k = some o) : ∃ a, r = some a ∧ a ∈ zL S ∧ zK S a = c ∧ k a = some o := by
  cases r with
  | none => cases h
  | some a =>
    by_cases hc : a ∈ zL S ∧ zK S a = c
    · have h2 : k a = some o := by
        have : ob S c (some a) k = k a := if_pos hc
        rw [this] at h; exact h
      exact ⟨a, rfl, hc.1, hc.2, h2⟩
    · have : ob S c (some a) k = none := if_neg hc
      rw [this] at h; cases h
theorem ar_el {β : Type} {S : Hp} {c : Nat} {r : Option Nat} {i : Int32} {k : Nat → Nat → Option β} {o : β} (h : ar S c r i k = some o) : ∃ a, r = some a ∧ a ∈ zL S ∧ zK S a = c ∧ vp_in i (zN S a) ∧ k a i.toNatClampNeg = some o := by
  cases r with
  | none => cases h
  | some a =>
    by_cases hc : a ∈ zL S ∧ zK S a = c ∧ ¬ (i < 0 ∨ zN S a ≤ i.toNatClampNeg)
    · have h2 : k a i.toNatClampNeg = some o := by
        have : ar S c (some a) i k = k a i.toNatClampNeg := if_pos hc
        rw [this] at h; exact h
      exact ⟨a, rfl, hc.1, hc.2.1, hc.2.2, h2⟩
    · have : ar S c (some a) i k = none := if_neg hc
      rw [this] at h; cases h
theorem cl_el {α β : Type} {x : Option (α × Hp)} {k : α → Hp → Option β} {o : β} (h : cl x k = some o) : ∃ r S, x = some (r, S) ∧ k r S = some o := by
  cases x with
  | none => cases h
  | some q => exact ⟨q.1, q.2, rfl, h⟩
theorem gd_el {β : Type} {c : Prop} [Decidable c] {k : Option β} {o : β} (h : gd c k = some o) : c ∧ k = some o := by
  by_cases hc : c
  · exact ⟨hc, by unfold gd at h; rwa [if_pos hc] at h⟩
  · unfold gd at h; rw [if_neg hc] at h; cases h
theorem if_el1 {β : Type} {c : Prop} [Decidable c] {A B : Option β} {o : β} (h : (if c then A else B) = some o) (hc : c) : A = some o := by rwa [if_pos hc] at h
theorem if_el2 {β : Type} {c : Prop} [Decidable c] {A B : Option β} {o : β} (h : (if c then A else B) = some o) (hc : ¬ c) : B = some o := by rwa [if_neg hc] at h
/-! the words of a method's picture, by what they do when all is well (for the pure part) -/
theorem ob_go {β : Type} {S : Hp} {c a : Nat} {k : Nat → Option β} (h1 : a ∈ zL S) (h2 : zK S a = c) : ob S c (some a) k = k a := if_pos ⟨h1, h2⟩
theorem ar_go {β : Type} {S : Hp} {c a : Nat} {i : Int32} {k : Nat → Nat → Option β} (h1 : a ∈ zL S) (h2 : zK S a = c) (h3 : vp_in i (zN S a)) : ar S c (some a) i k = k a i.toNatClampNeg := if_pos ⟨h1, h2, h3⟩
theorem cl_go {α β : Type} {r : α} {S : Hp} {k : α → Hp → Option β} : cl (some (r, S)) k = k r S := rfl
theorem gd_go {β : Type} {c : Prop} [Decidable c] {k : Option β} (h : c) : gd c k = k := if_pos h
/-! contracts -/
def CtP (As : List Value) (S : Hp) (D : va_G) (cy : Nat → ClassId) (sz : Nat) : Array Value → State → Prop := va_Pc As (fun U => U.heap.size = sz ∧ va_P D vwCl (zP cy S) U.heap ∧ va_K D vwCl (ztys cy) U ∧ va_D (fun _ => True) (zP cy S))
def CtB (S S' : Hp) (D : va_G) (cy : Nat → ClassId) (sz : Nat) : Unit → State → Prop := fun _ t => va_P D vwCl (zP cy S') t.heap ∧ va_K D vwCl (ztys cy) t ∧ va_D (va_A (zP cy S) sz) (zP cy S')
def CtI (y : MethodName) (cc : ByteArray) (nL : Nat) (ret : Option FieldType) (rm : Room) (mc ms : Nat) (As : List Value) (S : Hp) (o : Int32 × Hp) : Prop := ∀ (l : Launch) (D : va_G) (cy : Nat → ClassId) (sz : Nat), Met l y (.code y cc nL ret :: wsL_law) rm (CtP As S D cy sz) (va_Qi (fun r (_ : Unit) => r = o.1) (CtB S o.2 D cy sz) (va_A (zP cy S) sz)) mc ms (va_A (zP cy S) sz)
def CtJ (y : MethodName) (cc : ByteArray) (nL : Nat) (ret : Option FieldType) (rm : Room) (mc ms : Nat) (As : List Value) (S : Hp) (o : Int64 × Hp) : Prop := ∀ (l : Launch) (D : va_G) (cy : Nat → ClassId) (sz : Nat), Met l y (.code y cc nL ret :: wsL_law) rm (CtP As S D cy sz) (va_Ql (fun r (_ : Unit) => r = o.1) (CtB S o.2 D cy sz) (va_A (zP cy S) sz)) mc ms (va_A (zP cy S) sz)
def CtD (y : MethodName) (cc : ByteArray) (nL : Nat) (ret : Option FieldType) (rm : Room) (mc ms : Nat) (As : List Value) (S : Hp) (o : UInt64 × Hp) : Prop := ∀ (l : Launch) (D : va_G) (cy : Nat → ClassId) (sz : Nat), Met l y (.code y cc nL ret :: wsL_law) rm (CtP As S D cy sz) (va_Qd (fun r (_ : Unit) => r = o.1) (CtB S o.2 D cy sz) (va_A (zP cy S) sz)) mc ms (va_A (zP cy S) sz)
def CtR (y : MethodName) (cc : ByteArray) (nL : Nat) (ret : Option FieldType) (rm : Room) (mc ms : Nat) (As : List Value) (S : Hp) (o : Option Nat × Hp) : Prop := ∀ (l : Launch) (D : va_G) (cy : Nat → ClassId) (sz : Nat), Met l y (.code y cc nL ret :: wsL_law) rm (CtP As S D cy sz) (va_Qq (fun r (_ : Unit) => r = o.1) (CtB S o.2 D cy sz) (va_A (zP cy S) sz)) mc ms (va_A (zP cy S) sz)
def CtV (y : MethodName) (cc : ByteArray) (nL : Nat) (ret : Option FieldType) (rm : Room) (mc ms : Nat) (As : List Value) (S : Hp) (o : Unit × Hp) : Prop := ∀ (l : Launch) (D : va_G) (cy : Nat → ClassId) (sz : Nat), Met l y (.code y cc nL ret :: wsL_law) rm (CtP As S D cy sz) (va_Qv (fun (_ : Unit) => True) (CtB S o.2 D cy sz) (va_A (zP cy S) sz)) mc ms (va_A (zP cy S) sz)
/-- what a context says of its method's end: its type, and the goal -/
def QQ (X : Cx) (ret : Option FieldType) (S0 : Hp) (mc ms : Nat) (Qc : Array Value → State → Outcome → State → Prop) : Prop := (xM X).sig.returnType = ret ∧ xQ X = MQ (xb X) Qc (xa X) (xs X) mc ms (xA X) ∧ xA X = va_A (zP (xy X) S0) (xs X).heap.size
def QI (X : Cx) (ret : Option FieldType) (S0 : Hp) (mc ms : Nat) (o : Int32 × Hp) : Prop := QQ X ret S0 mc ms (va_Qi (fun r (_ : Unit) => r = o.1) (CtB S0 o.2 (xG X) (xy X) (xs X).heap.size) (xA X))
def QJ (X : Cx) (ret : Option FieldType) (S0 : Hp) (mc ms : Nat) (o : Int64 × Hp) : Prop := QQ X ret S0 mc ms (va_Ql (fun r (_ : Unit) => r = o.1) (CtB S0 o.2 (xG X) (xy X) (xs X).heap.size) (xA X))
def QD (X : Cx) (ret : Option FieldType) (S0 : Hp) (mc ms : Nat) (o : UInt64 × Hp) : Prop := QQ X ret S0 mc ms (va_Qd (fun r (_ : Unit) => r = o.1) (CtB S0 o.2 (xG X) (xy X) (xs X).heap.size) (xA X))
def QR (X : Cx) (ret : Option FieldType) (S0 : Hp) (mc ms : Nat) (o : Option Nat × Hp) : Prop := QQ X ret S0 mc ms (va_Qq (fun r (_ : Unit) => r = o.1) (CtB S0 o.2 (xG X) (xy X) (xs X).heap.size) (xA X))
def QV (X : Cx) (ret : Option FieldType) (S0 : Hp) (mc ms : Nat) (o : Unit × Hp) : Prop := QQ X ret S0 mc ms (va_Qv (fun (_ : Unit) => True) (CtB S0 o.2 (xG X) (xy X) (xs X).heap.size) (xA X))
theorem ct_bl {As : List Value} {S : Hp} {D : va_G} {cy : Nat → ClassId} {sz : Nat} : FrameBlind (CtP As S D cy sz) := fun a U g mk q => by
  obtain ⟨q0, q1, qP, qK, qD⟩ := q
  exact ⟨q0, q1, qP, va_K.moved (u := U) (U := U.calling g mk a) (Vm.Alike.refl U.vm) qK, qD⟩
theorem ct_entry {y : MethodName} {cc : ByteArray} {nL : Nat} {ret : Option FieldType} {rm : Room} {mc ms : Nat} {As : List Value} {S : Hp} {own : String} {l : Launch} {D : va_G} {cy : Nat → ClassId} {sz : Nat} {Qc : Array Value → State → Outcome → State → Prop}
    (hy : plainName y.cls = true) (hcls : y.cls = own) (hlen : (lg_sl As).length ≤ nL) (body : ∀ X : Cx, CxOK X cc own rm → xn X = nL → xG X = D → xy X = cy → (xs X).heap.size = sz → QQ X ret S mc ms Qc → GW X 0 0 S 0 (lv_args 0 As) []) :
    Met l y (.code y cc nL ret :: wsL_law) rm (CtP As S D cy sz) Qc mc ms (va_A (zP cy S) sz) := by
  refine Met.ofW (cc := cc) (maxL := nL) (ret := ret) hy rfl ?_
  intro p e s m args below meth c s₁ B hml hv
  obtain ⟨rfl, hsz, hP, hK, hD0⟩ := hv
  have hts := atoms_spec (ws := .code y cc nL ret :: wsL_law) B.pre
  have hown : s.vm.findClass own = some m.cls := hcls ▸ findClass_of_methodNamed B.named
  subst hsz
  have hD := hD0.self (sz := s.heap.size)
  have hl := lv_entry As (n := nL) hlen
  rw [lg_entry_eq]
  exact body (p, l, e, rm, s, m, As.toArray, below, meth, c, MQ below Qc As.toArray s mc ms (va_A (zP cy S) s.heap.size), D, cy, va_A (zP cy S) s.heap.size, nL)
    ⟨B.exec, B.bytes, hml, hown, fun w h => hts w (List.mem_cons_of_mem _ h), hK, fun q h => Or.inr h, B.notSynchronized, rfl⟩ rfl rfl rfl rfl ⟨B.returns, rfl, rfl⟩ _ _ _ hP hD va_S.rf hl
theorem ct_I {y : MethodName} {cc : ByteArray} {nL : Nat} {ret : Option FieldType} {rm : Room} {mc ms : Nat} {As : List Value} {S : Hp} {own : String} {o : Int32 × Hp} (hy : plainName y.cls = true) (hcls : y.cls = own) (hlen : (lg_sl As).length ≤ nL)
    (body : ∀ X : Cx, CxOK X cc own rm → xn X = nL → QI X ret S mc ms o → GW X 0 0 S 0 (lv_args 0 As) []) : CtI y cc nL ret rm mc ms As S o := fun l D cy sz => ct_entry hy hcls hlen (fun X h1 h2 h3 h4 h5 h6 => body X h1 h2 (by
  have h7 := h6.2.2
  subst h3; subst h4; subst h5
  unfold QI; rw [h7]; exact h6))
theorem ct_J {y : MethodName} {cc : ByteArray} {nL : Nat} {ret : Option FieldType} {rm : Room} {mc ms : Nat} {As : List Value} {S : Hp} {own : String} {o : Int64 × Hp} (hy : plainName y.cls = true) (hcls : y.cls = own) (hlen : (lg_sl As).length ≤ nL)
    (body : ∀ X : Cx, CxOK X cc own rm → xn X = nL → QJ X ret S mc ms o → GW X 0 0 S 0 (lv_args 0 As) []) : CtJ y cc nL ret rm mc ms As S o := fun l D cy sz => ct_entry hy hcls hlen (fun X h1 h2 h3 h4 h5 h6 => body X h1 h2 (by
  have h7 := h6.2.2
  subst h3; subst h4; subst h5
  unfold QJ; rw [h7]; exact h6))
theorem ct_D {y : MethodName} {cc : ByteArray} {nL : Nat} {ret : Option FieldType} {rm : Room} {mc ms : Nat} {As : List Value} {S : Hp} {own : String} {o : UInt64 × Hp} (hy : plainName y.cls = true) (hcls : y.cls = own) (hlen : (lg_sl As).length ≤ nL)
    (body : ∀ X : Cx, CxOK X cc own rm → xn X = nL → QD X ret S mc ms o → GW X 0 0 S 0 (lv_args 0 As) []) : CtD y cc nL ret rm mc ms As S o := fun l D cy sz => ct_entry hy hcls hlen (fun X h1 h2 h3 h4 h5 h6 => body X h1 h2 (by
  have h7 := h6.2.2
  subst h3; subst h4; subst h5
  unfold QD; rw [h7]; exact h6))
theorem ct_R {y : MethodName} {cc : ByteArray} {nL : Nat} {ret : Option FieldType} {rm : Room} {mc ms : Nat} {As : List Value} {S : Hp} {own : String} {o : Option Nat × Hp} (hy : plainName y.cls = true) (hcls : y.cls = own) (hlen : (lg_sl As).length ≤ nL)
    (body : ∀ X : Cx, CxOK X cc own rm → xn X = nL → QR X ret S mc ms o → GW X 0 0 S 0 (lv_args 0 As) []) : CtR y cc nL ret rm mc ms As S o := fun l D cy sz => ct_entry hy hcls hlen (fun X h1 h2 h3 h4 h5 h6 => body X h1 h2 (by
  have h7 := h6.2.2
  subst h3; subst h4; subst h5
  unfold QR; rw [h7]; exact h6))
theorem ct_V {y : MethodName} {cc : ByteArray} {nL : Nat} {ret : Option FieldType} {rm : Room} {mc ms : Nat} {As : List Value} {S : Hp} {own : String} {o : Unit × Hp} (hy : plainName y.cls = true) (hcls : y.cls = own) (hlen : (lg_sl As).length ≤ nL)
    (body : ∀ X : Cx, CxOK X cc own rm → xn X = nL → QV X ret S mc ms o → GW X 0 0 S 0 (lv_args 0 As) []) : CtV y cc nL ret rm mc ms As S o := fun l D cy sz => ct_entry hy hcls hlen (fun X h1 h2 h3 h4 h5 h6 => body X h1 h2 (by
  have h7 := h6.2.2
  subst h3; subst h4; subst h5
  unfold QV; rw [h7]; exact h6))
