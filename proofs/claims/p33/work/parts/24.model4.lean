/-! THE REFERENCE: matters, ties, what is told by hand -/
theorem nI_4mul {p : Nat} (hp : p < 6) : (4 : Int32) * nI p = nI (4 * p) := by
  rcases (by omega : p = 0 ∨ p = 1 ∨ p = 2 ∨ p = 3 ∨ p = 4 ∨ p = 5) with rfl | rfl | rfl | rfl | rfl | rfl <;> decide
theorem ix_row {p k : Nat} (hp : p < 6) : (45 : Int32) + 4 * nI p + nI k = nI (45 + 4 * p + k) := by
  rw [nI_4mul hp, show (45 : Int32) = nI 45 from rfl, nI_add, nI_add]
def rz (s : Nat → Int32) (p : Nat) : Nat → Nat → Int32
  | 0 => s
  | k + 1 => upd (rz s p k) (45 + 4 * p + k) 0
def rMat (s : Nat → Int32) (p : Nat) (x y : Int32) : Nat → Int32 := upd (rz (upd (upd (upd (upd (upd (upd (upd s (33 + p) x) (39 + p) y) (69 + p) 0) (2 + p) 0) (8 + p) 0) (14 + p) 0) (20 + p) 0) p 4) 26 (nI (p + 1))
theorem rz_26 (s : Nat → Int32) (p : Nat) : ∀ k, rz s p k 26 = s 26
  | 0 => rfl
  | k + 1 => by rw [rz, upd_ne (by omega), rz_26 s p k]
section MODEL4
variable {X : Nat × (Nat → Int32)} {d : Nat} {T : List (Nat × Nat)} {I : Nat → Nat → Int32} {G : Nat → Nat → Option Nat} {s : Nat → Int32} {n p : Nat}
end MODEL4
