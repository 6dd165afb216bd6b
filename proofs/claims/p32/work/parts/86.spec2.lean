/-! loops, by what they find -/
def anyF (p : Nat → Bool) : Nat → Nat → Bool
  | 0, _ => false
  | m + 1, k => p k || anyF p m (k + 1)
def sumF (f : Nat → Int32) : Nat → Nat → Int32 → Int32
  | 0, _, a => a
  | m + 1, k, a => sumF f m (k + 1) (a + f k)
theorem anyF_1 {p : Nat → Bool} {m k : Nat} (h : p k = true) : anyF p (m + 1) k = true := by
  show (p k || anyF p m (k + 1)) = true
  rw [h]; rfl
theorem anyF_0 {p : Nat → Bool} {m k : Nat} (h : p k = false) : anyF p (m + 1) k = anyF p m (k + 1) := by
  show (p k || anyF p m (k + 1)) = _
  rw [h]; rfl
def sLeads (N : Nat → Int32) (t : Nat) (g : Int32) : Bool := anyF (fun k => decide (N (48 + 14 * t + k) = g)) (cN N (40 + 14 * t + 4)) 0
def sBusy (N : Nat → Int32) (g day : Int32) : Bool := anyF (fun t => decide (N (40 + 14 * t + 6) = 0) && decide (N (40 + 14 * t + 0) = day) && sLeads N t g) (cN N 3) 0
def sMay (N : Nat → Int32) (t g : Nat) : Bool := decide (N (40 + 14 * t + 6) = 0) && !decide (N (8 + 4 * g + 1) < N (40 + 14 * t + 0)) && !sBusy N (nI g) (N (40 + 14 * t + 0))
def sFirst (N : Nat → Int32) (g : Int32) : Nat → Nat → Int32
  | 0, _ => -5
  | m + 1, k => if (decide (N (40 + 14 * k + 6) = 0) && sLeads N k g) = true then nI k else sFirst N g m (k + 1)
def sWeak (N : Nat → Int32) (r : Nat → UInt64) (t : Nat) : Bool := anyF (fun b => !decide ((N (40 + 14 * t + 2) >>> (nI b &&& 31)) &&& 1 = 0) && !decide (0 ≤ Op.cmpValue (FP.dcmp (r (1 + b)) (sNeed N r t)) CmpOp.l)) (cN N 2) 0
def sBad (N : Nat → Int32) (t : Nat) : Bool := anyF (fun k => decide (N (8 + 4 * gN N t k + 1) < N (40 + 14 * t + 0))) (cN N (40 + 14 * t + 4)) 0
def sCause (N : Nat → Int32) (r : Nat → UInt64) (t : Nat) : Int32 := if N (40 + 14 * t + 3) = 0 then 1 else if sWeak N r t = true then 2 else if sLeft N r t (cN N (40 + 14 * t + 4)) = 0 ∧ sBad N t = false then 0 else 3
def sBest (N : Nat → Int32) (r : Nat → UInt64) (t : Nat) : Nat → Nat → Option Nat → Option Nat
  | 0, _, b => b
  | m + 1, k, none => sBest N r t m (k + 1) (if sMay N t k = true then some k else none)
  | m + 1, k, some c => sBest N r t m (k + 1) (if sMay N t k = true ∧ sRat N r t c < sRat N r t k then some k else some c)
def oI : Option Nat → Int32
  | none => -5
  | some c => nI c
def sStates (N : Nat → Int32) (s : Int32) : Int32 := sumF (fun t => if N (40 + 14 * t + 6) = s then 1 else 0) (cN N 3) 0 0
def sPaidAll (N : Nat → Int32) : Int32 := sumF (fun t => N (40 + 14 * t + 5)) (cN N 3) 0 0
def sGone (N : Nat → Int32) : Int32 := sumF (fun t => if N (40 + 14 * t + 6) = 1 then N (40 + 14 * t + 3) else 0) (cN N 3) 0 0
theorem and1 (x : Int32) : (x &&& 1 = 1) ↔ ¬ (x &&& 1 = 0) := by
  obtain ⟨j, hj, e⟩ := pk_andE x (m := 1) 1 rfl
  rw [e]
  have : j = 0 ∨ j = 1 := by omega
  rcases this with rfl | rfl <;> decide
