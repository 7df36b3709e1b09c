/-! THE REFERENCE, method by method (s: its row of numbers, cell 143) -/
section MODEL
variable {X : Nat × (Nat → Int32)} {d : Nat} {T : List (Nat × Nat)} {I : Nat → Nat → Int32} {G : Nat → Nat → Option Nat}
theorem m_in (h : Hp) (v lo hi : Int32) : Ev X d kX12_in 0 (ent kX12_in [.int v, .int lo, .int hi]) [] h (some (.int (if lo ≤ v ∧ v ≤ hi then 1 else 0)), h) := by
  iterate 3 refine Ev.s rfl ?_
  refine Ev.bp rfl (fun c => ?_) (fun c => ?_)
  · iterate 1 refine Ev.s rfl ?_
    rw [if_neg (fun q => by have := q.1; exact absurd c (Int32.not_lt.mpr this))]
    exact Ev.r rfl
  · iterate 3 refine Ev.s rfl ?_
    refine Ev.bp rfl (fun c2 => ?_) (fun c2 => ?_)
    · refine Ev.s rfl ?_
      rw [if_neg (fun q => absurd c2 (Int32.not_lt.mpr q.2))]
      exact Ev.r rfl
    · iterate 2 refine Ev.s rfl ?_
      rw [if_pos ⟨Int32.not_lt.mp c, Int32.not_lt.mp c2⟩]
      exact Ev.r rfl
end MODEL
