/-! THE REFERENCE: STIR and TOPIC -/
def rMar (s : Nat → Int32) (n p : Nat) (cls : Cls) : Int32 := if 10 ≤ s (2 + p) then rSum s n p cls / 2 else rSum s n p cls
def rBou (s : Nat → Int32) (n p : Nat) (cls : Cls) : Int32 := rSum s n p cls - s (39 + p)
def rLoa (s : Nat → Int32) (n p : Nat) (cls : Cls) : Int32 := rSum s n p cls + rSB s p n
def rStK (s : Nat → Int32) (n p : Nat) (cls : Cls) : Nat → Int32
  | 1 => rMar s n p cls
  | 2 => rBou s n p cls
  | 3 => rLoa s n p cls
  | 4 => if s 0 - s 0 / 2 * 2 = 1 then 0 else rMar s n p cls
  | 5 => if s (69 + p) = 0 then 2 * rBou s n p cls else rBou s n p cls
  | 6 => rLoa s n p cls + s (45 + 4 * p + (s 0).toNatClampNeg % 4)
  | _ => rSum s n p cls
/-- STIR -/
def rStir (s : Nat → Int32) (n p : Nat) (cls : Cls) : Int32 := rStK s n p cls (s (33 + p)).toNatClampNeg
def tv : Option Nat → Int32
  | none => -5
  | some p => nI p
def rTop (s : Nat → Int32) (n : Nat) (cls : Cls) : Nat → Option Nat × Int32
  | 0 => (none, 0)
  | q + 1 => (if (if rRd s n q = true then rStir s n q cls else 0) ≤ (rTop s n cls q).2 then (rTop s n cls q).1 else some q, if (if rRd s n q = true then rStir s n q cls else 0) ≤ (rTop s n cls q).2 then (rTop s n cls q).2 else (if rRd s n q = true then rStir s n q cls else 0))
/-- what a row of numbers keeps to -/
def SV (s : Nat → Int32) (n : Nat) (hd : Option Nat) (cls : Cls) (e : Nat) : Prop := s 26 = nI n ∧ n ≤ 6 ∧ (∀ p, p < 6 → ∃ kk, kk ≤ 6 ∧ s (33 + p) = nI kk) ∧ s 0 = nI e ∧ e < 1000000 ∧ stOK s hd cls
section STIR
variable {X : Nat × (Nat → Int32)} {d : Nat} {T : List (Nat × Nat)} {I : Nat → Nat → Int32} {G : Nat → Nat → Option Nat} {s : Nat → Int32} {n p : Nat} {hd : Option Nat} {cls : Cls} {e : Nat}
end STIR
