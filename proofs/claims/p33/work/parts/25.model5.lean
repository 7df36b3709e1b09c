/-! THE REFERENCE: seen, plans, acts, the image -/
section MODEL5
variable {X : Nat × (Nat → Int32)} {d : Nat} {T : List (Nat × Nat)} {I : Nat → Nat → Int32} {G : Nat → Nat → Option Nat} {s : Nat → Int32} {n p : Nat}
theorem isM_ne {x : Int32} (h : isM n x) : x ≠ -1 := fun e => by
  rw [e] at h
  exact absurd h.1 (by decide)
def rPw (n : Nat) : Nat → Int32
  | 0 => 1
  | k + 1 => rPw n k * (nI n + 1)
end MODEL5
