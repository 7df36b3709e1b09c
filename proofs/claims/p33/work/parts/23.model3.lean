/-! THE REFERENCE: refusals, tellings by hand, nets -/
theorem upd_same (s : Nat → Int32) (j : Nat) : upd s j (s j) = s := by
  funext k
  unfold upd
  by_cases h : k = j
  · rw [if_pos h, h]
  · rw [if_neg h]
theorem upd_at (s : Nat → Int32) (j : Nat) (x : Int32) : upd s j x j = x := if_pos rfl
theorem upd_ne {s : Nat → Int32} {j k : Nat} {x : Int32} (h : k ≠ j) : upd s j x k = s k := if_neg h
def rNi (s : Nat → Int32) (n : Nat) (x : Int32) : Nat → Int32
  | 0 => x
  | q + 1 => rNi s n x q ||| (if ((rNi s n x q >>> (nI q &&& 31)) &&& 1) = 1 then rW s q n else 0)
def rNo (s : Nat → Int32) (n p : Nat) : Nat → Int32
  | 0 => rW s p n
  | k + 1 => rNi s n (rNo s n p k) n
/-- NET -/
def rNet (s : Nat → Int32) (n p : Nat) : Int32 := rNo s n p 6
def rIn (s : Nat → Int32) (n : Nat) : Nat → Int32
  | 0 => 0
  | q + 1 => rIn s n q ||| (rNet s n q &&& ((1 : Int32) <<< (nI q &&& 31)))
def rRing (s : Nat → Int32) (n : Nat) : Nat → Int32
  | 0 => 0
  | q + 1 => rRing s n q ||| (if rNet s n q &&& rIn s n n = 0 then 0 else (1 : Int32) <<< (nI q &&& 31))
def rTF (s : Nat → Int32) (n p : Nat) (x : Int32) : Int32 := if s (14 + p) = 1 then 0 else rC (rW s p n &&& x) 6
section MODEL3
variable {X : Nat × (Nat → Int32)} {d : Nat} {T : List (Nat × Nat)} {I : Nat → Nat → Int32} {G : Nat → Nat → Option Nat} {s : Nat → Int32} {n p : Nat}
end MODEL3
