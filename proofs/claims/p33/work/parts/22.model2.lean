/-! THE REFERENCE: what writes its row -/
/-- what a method of the reference leaves as it was: all but s, its scratch rows and numbers -/
def MF (I I' : Nat → Nat → Int32) : Prop := (∀ q, q < 140 → I' q = I q) ∧ (∀ q, 149 ≤ q → I' q = I q) ∧ I' 142 = I 142 ∧ I' 148 = I 148 ∧ I' 140 4 = I 140 4 ∧ I' 140 5 = I 140 5 ∧ I' 140 16 = I 140 16
theorem MF.rf (I : Nat → Nat → Int32) : MF I I := ⟨fun _ _ => rfl, fun _ _ => rfl, rfl, rfl, rfl, rfl, rfl⟩
theorem MF.tr {I I' I'' : Nat → Nat → Int32} (h : MF I I') (h' : MF I' I'') : MF I I'' := ⟨fun q hq => (h'.1 q hq).trans (h.1 q hq), fun q hq => (h'.2.1 q hq).trans (h.2.1 q hq), h'.2.2.1.trans h.2.2.1, h'.2.2.2.1.trans h.2.2.2.1, h'.2.2.2.2.1.trans h.2.2.2.2.1, h'.2.2.2.2.2.1.trans h.2.2.2.2.2.1, h'.2.2.2.2.2.2.trans h.2.2.2.2.2.2⟩
theorem MF.up {I : Nat → Nat → Int32} {p j : Nat} {x : Int32} (hp : p = 141 ∨ p = 143 ∨ p = 144 ∨ p = 145 ∨ p = 146 ∨ p = 147) : MF I (upI I p j x) := by
  refine ⟨fun q hq => upI_ne (by omega), fun q hq => upI_ne (by omega), upI_ne (by omega), upI_ne (by omega), ?_, ?_, ?_⟩ <;> (rw [upI_ne (by omega)])
theorem up143 {I : Nat → Nat → Int32} {s : Nat → Int32} {j : Nat} {x : Int32} (h : I 141 = s) : upI I 141 j x 141 = upd s j x := by rw [upI_eq, h]
theorem upo {I : Nat → Nat → Int32} {s : Nat → Int32} {p j : Nat} {x : Int32} (h : I 141 = s) (hp : p ≠ 141) : upI I p j x 141 = s := by rw [upI_ne (Ne.symm hp), h]
/-- the first m of f, the rest of g -/
def mixf (f g : Nat → Int32) (m : Nat) : Nat → Int32 := fun j => if j < m then f j else g j
theorem mixf_up (f g : Nat → Int32) (m : Nat) : upd (mixf f g m) m (f m) = mixf f g (m + 1) := by
  funext j
  unfold upd mixf
  by_cases h : j = m
  · subst h; simp
  · by_cases h2 : j < m
    · rw [if_neg h, if_pos h2, if_pos (by omega)]
    · rw [if_neg h, if_neg h2, if_neg (by omega)]
theorem mixf_0 (f g : Nat → Int32) : mixf f g 0 = g := by funext j; simp [mixf]
section MODEL2
variable {X : Nat × (Nat → Int32)} {d : Nat} {T : List (Nat × Nat)} {I : Nat → Nat → Int32} {G : Nat → Nat → Option Nat} {s : Nat → Int32} {n p : Nat}
/-- which is a MATTER -/
def isM (n : Nat) (x : Int32) : Prop := 0 ≤ x ∧ x ≤ nI n - 1
theorem isM_iff {n : Nat} (hn : n ≤ 6) {x : Int32} : isM n x ↔ ∃ p, p < n ∧ x = nI p := by
  constructor
  · rintro ⟨h1, h2⟩
    obtain ⟨j, hj, rfl⟩ := nI_of (Int32.not_lt.mpr h1)
    refine ⟨j, ?_, rfl⟩
    cases n with
    | zero =>
      exfalso
      have h3 : nI j ≤ -1 := h2
      have h4 := Int32.le_trans h1 h3
      exact absurd h4 (by decide)
    | succ n =>
      rw [nI_pred] at h2
      have := (nI_leI hj (by omega)).mp h2
      omega
  · rintro ⟨p, hp, rfl⟩
    refine ⟨nI_pos' (by omega), ?_⟩
    cases n with
    | zero => omega
    | succ n =>
      rw [nI_pred]
      exact nI_le (by omega) (by omega)
end MODEL2
