/-! THE REFERENCE reads a station: letters, E -/
/-- behind letters: r as p6 or p3 gives it -/
def RO1 (J : Nat → Nat → Int32) (t : Nat → Int32) (z act a o : Nat) (L : List Int32) (x : Int32) (r : Option Nat) : Prop := match r with
  | none => x = -1 ∧ RP J t z act a o false L
  | some w => x = nI w ∧ RP J t z act (a + 1) o false L
/-- behind E: r as pp gives it -/
def RA (J : Nat → Nat → Int32) (t : Nat → Int32) (z act o : Nat) (L : List Int32) (r : Bool × Nat × List Nat) : Prop := match r with
  | (true, b, ts) => RP J t z act b o false (L ++ ts.map tokR)
  | (false, b, _) => ∃ L', RP J t z act b o true L'
def idx (l : List Int32) (c : Int32) : Nat → Nat → Option Nat
  | 0, _ => none
  | m + 1, q => if c = l.getD q 0 then some q else idx l c m (q + 1)
theorem nI_nm1 {v : Nat} (h : v < 2 ^ 31) : nI v ≠ -1 := fun e => by
  have := nI_pos' h
  rw [e] at this
  exact absurd this (by decide)
theorem exec_dep (X : Nat × (Nat → Int32)) : ∀ (f d k pc : Nat) (ls : List (Option Value)) (st : List Value) (h : Hp) (R : Option Value × Hp), exec X f d k pc ls st h = some R → exec X f (d + 1) k pc ls st h = some R := by
  intro f
  induction f with
  | zero => intro d k pc ls st h R hR; simp [exec] at hR
  | succ f ih =>
    intro d k pc ls st h R hR
    rw [exec_succ] at hR ⊢
    cases hl : look k pc with
    | none => rw [hl] at hR; simp at hR
    | some e =>
      rw [hl] at hR
      simp only at hR ⊢
      split at hR
      · cases hs : stp X e ls st h with
        | none => rw [hs] at hR; simp at hR
        | some q =>
          obtain ⟨pc', ls', st', h'⟩ := q
          rw [hs] at hR
          simp only at hR ⊢
          exact ih _ _ _ _ _ _ _ hR
      · cases d with
        | zero => simp at hR
        | succ d' =>
          simp only at hR ⊢
          cases hc : cle e st h with
          | none => rw [hc] at hR; simp at hR
          | some q =>
            obtain ⟨k', As, rest, np⟩ := q
            rw [hc] at hR
            simp only at hR ⊢
            cases he : exec X f d' k' 0 (ent k' As) [] h with
            | none => rw [he] at hR; simp at hR
            | some q =>
              obtain ⟨r, h'⟩ := q
              rw [he] at hR
              rw [ih _ _ _ _ _ _ _ he]
              simp only at hR ⊢
              exact ih _ _ _ _ _ _ _ hR
      · exact hR
/-- more depth does no harm -/
theorem Ev.dp {X : Nat × (Nat → Int32)} {d d' k pc : Nat} {ls : List (Option Value)} {st : List Value} {h : Hp} {R : Option Value × Hp} (t : Ev X d k pc ls st h R) (hd : d ≤ d') : Ev X d' k pc ls st h R := by
  obtain ⟨n, rfl⟩ := Nat.exists_eq_add_of_le hd
  induction n with
  | zero => exact t
  | succ n ih =>
    obtain ⟨f, hf⟩ := ih (Nat.le_add_right _ _)
    exact ⟨f, exec_dep X _ _ _ _ _ _ _ _ hf⟩
section READ2
variable {X : Nat × (Nat → Int32)} {d : Nat} {T : List (Nat × Nat)} {I : Nat → Nat → Int32} {G : Nat → Nat → Option Nat} {t : Nat → Int32} {z act a o : Nat} {w : Bool} {L : List Int32}
theorem tok_t {w o n : Nat} : tokR (w + 8 * o + 32 * n + 3) = nI w + 8 * nI o + 32 * nI n := by
  show nI (w + 8 * o + 32 * n) = _
  rw [show (8 : Int32) * nI o = nI (8 * o) from pk_mul 8 o, show (32 : Int32) * nI n = nI (32 * n) from pk_mul 32 n, nI_add, nI_add]
end READ2
