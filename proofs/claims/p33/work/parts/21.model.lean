/-! THE REFERENCE, method by method (s: its row of numbers, cell 141) -/
def rW (s : Nat → Int32) (p : Nat) : Nat → Int32
  | 0 => 0
  | q + 1 => rW s p q ||| (if s (14 + q) = 0 then s (69 + p) &&& ((1 : Int32) <<< (nI q &&& 31)) else 0)
def rC (x : Int32) : Nat → Int32
  | 0 => 0
  | q + 1 => rC x q + ((x >>> (nI q &&& 31)) &&& 1)
def rSB (s : Nat → Int32) (p : Nat) : Nat → Int32
  | 0 => 0
  | q + 1 => rSB s p q + (if q = p then 0 else s (14 + q))
def rSO (s : Nat → Int32) : Nat → Int32
  | 0 => 0
  | q + 1 => rSO s q ||| (s (14 + q) <<< (nI q &&& 31))
/-- what s holds where: DUE 222, FADE 227, STEPMANY 232, by HOLDING -/
def rT (s : Nat → Int32) (hd : Option Nat) (w : Nat) (no : Int32) : Int32 := match hd with
  | none => no
  | some h => s (w + h)
def rHold (s : Nat → Int32) (hd : Option Nat) : Prop := match hd with
  | none => s 32 = -1
  | some h => s 32 = nI h ∧ h < 5
def rOp (s : Nat → Int32) (p : Nat) : Bool := decide (s (14 + p) = 0) && decide (s (20 + p) = 0)
def rRd (s : Nat → Int32) (n p : Nat) : Bool := rOp s p && decide (rW s p n = 0)
def bI (b : Bool) : Int32 := if b = true then 1 else 0
def rRO (s : Nat → Int32) (n : Nat) : Nat → Int32
  | 0 => 0
  | q + 1 => rRO s n q ||| (if rRd s n q = true then (1 : Int32) <<< (nI q &&& 31) else 0)
section MODEL
variable {X : Nat × (Nat → Int32)} {d : Nat} {T : List (Nat × Nat)} {I : Nat → Nat → Int32} {G : Nat → Nat → Option Nat} {s : Nat → Int32} {n p : Nat}
theorem z1_ok {P : Prop} [Decidable P] : nfit .boolean (if P then (1 : Int32) else 0) = true := by
  by_cases h : P
  · rw [if_pos h]; rfl
  · rw [if_neg h]; rfl
theorem bI_0 {b : Bool} : bI b = 0 ↔ b = false := by cases b <;> simp [bI]
end MODEL
