/-! THE REFERENCE: station -/
theorem pS_ok {t : Nat → Int32} {z : Nat} : ∀ (m a : Nat) (st : Stn), a ≤ z → stI a st → (pS t z m a st).2.1 ≤ z ∧ stI (pS t z m a st).2.1 (pS t z m a st).2.2 ∧ (pS t z m a st).2.2.2.2.length ≤ st.2.2.length + m := by
  intro m
  induction m with
  | zero => intro a st ha hs; exact ⟨ha, hs, Nat.le_refl _⟩
  | succ m ih =>
    intro a st ha hs
    rw [pS_1]
    have h1 := pC_ok (t := t) ha hs
    rcases hr : pC t z a st with ⟨ok, b, st'⟩
    rw [hr] at h1
    dsimp only at h1
    cases ok with
    | false => exact ⟨h1.2.1, h1.2.2.1, by show st'.2.2.length ≤ _; omega⟩
    | true =>
      show (if z ≤ b then ((true, b, st') : Bool × Nat × Stn) else if m = 0 ∨ pk t z b ≠ 59 then (false, b, st') else pS t z m (b + 1) st').2.1 ≤ z ∧ _
      by_cases hzb : z ≤ b
      · have e : pS1 t z m (true, b, st') = (true, b, st') := if_pos hzb
        rw [e]
        exact ⟨by rw [if_pos hzb]; exact h1.2.1, h1.2.2.1, by dsimp only; omega⟩
      · by_cases hm : m = 0 ∨ pk t z b ≠ 59
        · have e : pS1 t z m (true, b, st') = (false, b, st') := by show (if z ≤ b then _ else _) = _; rw [if_neg hzb, if_pos hm]
          rw [e]
          exact ⟨by rw [if_neg hzb, if_pos hm]; exact h1.2.1, h1.2.2.1, by dsimp only; omega⟩
        · have e : pS1 t z m (true, b, st') = pS t z m (b + 1) st' := by show (if z ≤ b then _ else _) = _; rw [if_neg hzb, if_neg hm]
          rw [e, if_neg hzb, if_neg hm]
          have h2 := ih (b + 1) st' (by omega) (h1.2.2.1.mo (by omega))
          exact ⟨h2.1, h2.2.1, by have := h2.2.2; omega⟩
theorem ff {P : Prop} (h : (false : Bool) = true) : P := by cases h
theorem ft {P : Prop} (h : (true : Bool) = false) : P := by cases h
theorem stI_0 : stI 0 (20, 1, []) := by
  show (20 : Nat) ≤ 99 ∧ (1 : Nat) ≤ 99 ∧ clOK [] ∧ (0 : Nat) ≤ 0 ∧ (0 : Nat) ≤ 0
  exact ⟨by omega, by omega, (fun q hq => by cases hq), Nat.le_refl _, Nat.le_refl _⟩
section STAT2
variable {X : Nat × (Nat → Int32)} {d : Nat} {T : List (Nat × Nat)} {I : Nat → Nat → Int32} {G : Nat → Nat → Option Nat} {t : Nat → Int32} {z act a : Nat} {st : Stn} {s : Nat → Int32}
/-- what station leaves of the row, but for what it says -/
def FS (act : Nat) (s u : Nat → Int32) : Prop := ∀ j, j ≠ 27 → j ≠ 31 → j ≠ 32 → j ≠ 222 + act → j ≠ 227 + act → j ≠ 232 + act → (j < 237 + 140 * act ∨ 377 + 140 * act ≤ j) → u j = s j
end STAT2
