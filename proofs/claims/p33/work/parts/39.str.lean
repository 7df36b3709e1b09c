/-! TEXTS -/
theorem txt_c : ∀ i, i < 13 → ∀ j, j < (txt i).length → (((txt i).getD j 0 &&& 255).toUInt32 % 65536).toInt32 = (txt i).getD j 0 ∧ nfit .char ((txt i).getD j 0) = true := by decide +kernel
theorem Ev.balr {X : Nat × (Nat → Int32)} {d k pc np q j : Nat} {i : Int32} {ls : List (Option Value)} {r : List Value} {h : Hp} {Z : Option Value × Hp} (ha : arq k pc = (3, np)) (hq : 13 ≤ q ∧ q < 26) (hi : i = nI j) (hj : j < (txt (q - 13)).length) (t : Ev X d k np ls (.int ((txt (q - 13)).getD j 0) :: r) h Z) : Ev X d k pc ls (.int i :: .retAddr q :: r) h Z := by
  obtain ⟨a, b, c, v, h9⟩ := arq_look ha (by omega)
  have h9 : look k pc = some (.baload, np, a, b, c, v) := by rcases h9 with h | h | h | h | h | h <;> first | exact h.2 | (have := h.1; omega)
  subst hi
  have hlen : (txt (q - 13)).length < 100 := by
    rcases (by omega : q = 13 ∨ q = 14 ∨ q = 15 ∨ q = 16 ∨ q = 17 ∨ q = 18 ∨ q = 19 ∨ q = 20 ∨ q = 21 ∨ q = 22 ∨ q = 23 ∨ q = 24 ∨ q = 25) with rfl | rfl | rfl | rfl | rfl | rfl | rfl | rfl | rfl | rfl | rfl | rfl | rfl <;> decide
  refine Ev.s (pc' := np) (ls' := ls) (st' := .int ((txt (q - 13)).getD j 0) :: r) (h' := h) ?_ t
  unfold stq
  rw [h9]
  show stp X _ ls _ h = _
  dsimp only [stp]
  rw [show Nat.blt q 13 = false from by rw [Bool.eq_false_iff]; intro h; have := Nat.lt_of_lt_of_le (Nat.le_of_ble_eq_true h) hq.1; omega, show Nat.blt q 26 = true from Nat.ble_eq_true_of_le hq.2]
  dsimp only [cond_false, cond_true]
  rw [oob_nI hj (by omega), nI_clamp (by omega)]
  rfl
section STR
variable {X : Nat × (Nat → Int32)} {d : Nat} {i : Nat}
theorem j_coder (hi : i < 13) (h : Hp) : Ev X d kJ0_coder_7d493 0 (ent kJ0_coder_7d493 [.retAddr i]) [] h (some (.int 0), h) := by
  rcases (by omega : i = 0 ∨ i = 1 ∨ i = 2 ∨ i = 3 ∨ i = 4 ∨ i = 5 ∨ i = 6 ∨ i = 7 ∨ i = 8 ∨ i = 9 ∨ i = 10 ∨ i = 11 ∨ i = 12) with rfl | rfl | rfl | rfl | rfl | rfl | rfl | rfl | rfl | rfl | rfl | rfl | rfl <;> ((repeat refine Ev.p rfl rfl ?_); exact Ev.r rfl)
theorem j_isLatin1 (hi : i < 13) (h : Hp) : Ev X d kJ0_isLatin1_aae02 0 (ent kJ0_isLatin1_aae02 [.retAddr i]) [] h (some (.int 1), h) := by
  rcases (by omega : i = 0 ∨ i = 1 ∨ i = 2 ∨ i = 3 ∨ i = 4 ∨ i = 5 ∨ i = 6 ∨ i = 7 ∨ i = 8 ∨ i = 9 ∨ i = 10 ∨ i = 11 ∨ i = 12) with rfl | rfl | rfl | rfl | rfl | rfl | rfl | rfl | rfl | rfl | rfl | rfl | rfl <;> ((repeat refine Ev.p rfl rfl ?_); exact Ev.r rfl)
theorem j_length (hi : i < 13) (h : Hp) : Ev X (d + 1) kJ0_length_8abf5 0 (ent kJ0_length_8abf5 [.retAddr i]) [] h (some (.int (nI (txt i).length)), h) := by
  have hc := j_coder (X := X) (d := d) hi h
  rcases (by omega : i = 0 ∨ i = 1 ∨ i = 2 ∨ i = 3 ∨ i = 4 ∨ i = 5 ∨ i = 6 ∨ i = 7 ∨ i = 8 ∨ i = 9 ∨ i = 10 ∨ i = 11 ∨ i = 12) with rfl | rfl | rfl | rfl | rfl | rfl | rfl | rfl | rfl | rfl | rfl | rfl | rfl <;> ((repeat refine Ev.p rfl rfl ?_); refine Ev.c rfl hc ?_; ((repeat refine Ev.p rfl rfl ?_); exact Ev.r rfl))
theorem j_isEmpty (hi : i < 13) (h : Hp) : Ev X d kJ0_isEmpty_aae02 0 (ent kJ0_isEmpty_aae02 [.retAddr i]) [] h (some (.int (bI (decide (i = 4)))), h) := by
  rcases (by omega : i = 0 ∨ i = 1 ∨ i = 2 ∨ i = 3 ∨ i = 4 ∨ i = 5 ∨ i = 6 ∨ i = 7 ∨ i = 8 ∨ i = 9 ∨ i = 10 ∨ i = 11 ∨ i = 12) with rfl | rfl | rfl | rfl | rfl | rfl | rfl | rfl | rfl | rfl | rfl | rfl | rfl <;> ((repeat refine Ev.p rfl rfl ?_); exact Ev.r rfl)
theorem j_check (h : Hp) {j n : Nat} (hj : j < n) (hn : n < 2 ^ 31) : Ev X (d + 1) kJ0_checkIndex_df160 0 (ent kJ0_checkIndex_df160 [.int (nI j), .int (nI n)]) [] h (none, h) := by
  have h1 : Ev X d kJ3_checkIndex_8e157 0 (ent kJ3_checkIndex_8e157 [.int (nI j), .int (nI n), .retAddr 27]) [] h (some (.int (nI j)), h) := by
    (repeat refine Ev.p rfl rfl ?_)
    refine Ev.bp rfl (fun c => ?_) (fun c => ?_)
    · exact absurd c (nI_pos (by omega))
    · (repeat refine Ev.p rfl rfl ?_)
      refine Ev.bp rfl (fun c2 => ?_) (fun c2 => ?_)
      · ((repeat refine Ev.p rfl rfl ?_); exact Ev.r rfl)
      · exact absurd (nI_lt hj hn) c2
  (repeat refine Ev.p rfl rfl ?_)
  refine Ev.c rfl h1 ?_
  ((repeat refine Ev.p rfl rfl ?_); exact Ev.r rfl)
theorem j_charAt (hi : i < 13) (h : Hp) {j : Nat} (hj : j < (txt i).length) : Ev X (d + 3) kJ0_charAt_5068e 0 (ent kJ0_charAt_5068e [.retAddr i, .int (nI j)]) [] h (some (.int ((txt i).getD j 0)), h) := by
  have hl := j_isLatin1 (X := X) (d := d + 2) hi h
  have hlen : (txt i).length < 100 := by
    rcases (by omega : i = 0 ∨ i = 1 ∨ i = 2 ∨ i = 3 ∨ i = 4 ∨ i = 5 ∨ i = 6 ∨ i = 7 ∨ i = 8 ∨ i = 9 ∨ i = 10 ∨ i = 11 ∨ i = 12) with rfl | rfl | rfl | rfl | rfl | rfl | rfl | rfl | rfl | rfl | rfl | rfl | rfl <;> decide
  have hc := txt_c i hi j hj
  have hk := j_check (X := X) (d := d) h hj (by omega)
  have h1 : Ev X (d + 2) kJ1_charAt_3b067 0 (ent kJ1_charAt_3b067 [.retAddr (13 + i), .int (nI j)]) [] h (some (.int ((txt i).getD j 0)), h) := by
    have go : Ev X (d + 2) kJ1_charAt_3b067 8 (ent kJ1_charAt_3b067 [.retAddr (13 + i), .int (nI j)]) [.int (nI j), .retAddr (13 + i)] h (some (.int ((txt i).getD j 0)), h) := by
      refine Ev.balr (q := 13 + i) rfl (by omega) rfl (by rw [show 13 + i - 13 = i by omega]; exact hj) ?_
      rw [show 13 + i - 13 = i by omega]
      (repeat refine Ev.p rfl rfl ?_)
      rw [hc.1]
      refine Ev.r ?_
      show (bif nfit .char ((txt i).getD j 0) then _ else none) = _
      rw [hc.2]
      rfl
    rcases (by omega : i = 0 ∨ i = 1 ∨ i = 2 ∨ i = 3 ∨ i = 4 ∨ i = 5 ∨ i = 6 ∨ i = 7 ∨ i = 8 ∨ i = 9 ∨ i = 10 ∨ i = 11 ∨ i = 12) with rfl | rfl | rfl | rfl | rfl | rfl | rfl | rfl | rfl | rfl | rfl | rfl | rfl <;> ((repeat refine Ev.p rfl rfl ?_); refine Ev.c rfl hk ?_; (repeat (first | (refine Ev.at (q := 8) rfl ?_; exact go) | refine Ev.p rfl rfl ?_)))
  have go2 : Ev X (d + 3) kJ0_charAt_5068e 15 (ent kJ0_charAt_5068e [.retAddr i, .int (nI j)]) [.int ((txt i).getD j 0)] h (some (.int ((txt i).getD j 0)), h) := by
    refine Ev.r ?_
    show (bif nfit .char ((txt i).getD j 0) then _ else none) = _
    rw [hc.2]
    rfl
  rcases (by omega : i = 0 ∨ i = 1 ∨ i = 2 ∨ i = 3 ∨ i = 4 ∨ i = 5 ∨ i = 6 ∨ i = 7 ∨ i = 8 ∨ i = 9 ∨ i = 10 ∨ i = 11 ∨ i = 12) with rfl | rfl | rfl | rfl | rfl | rfl | rfl | rfl | rfl | rfl | rfl | rfl | rfl <;> ((repeat refine Ev.p rfl rfl ?_); refine Ev.c rfl hl ?_; (repeat refine Ev.p rfl rfl ?_); refine Ev.c rfl h1 ?_; (repeat (first | (refine Ev.at (q := 15) rfl ?_; exact go2) | refine Ev.p rfl rfl ?_)))
end STR
