/-! THE LAW'S SMALL METHODS -/
/-- what some gives back -/
def sm (v : Int32) (m : Nat) : Int32 := if v - v / nI m * nI m < 0 then v - v / nI m * nI m + nI m else v - v / nI m * nI m
theorem sm_toInt (v : Int32) {m : Nat} (h0 : 0 < m) (hm : m ≤ 200) : (v - v / nI m * nI m).toInt = v.toInt.tmod m := by
  have hne : nI m ≠ -1 := fun g => by
    have := congrArg Int32.toInt g
    rw [nI_toInt (by omega), show (-1 : Int32).toInt = -1 from by decide] at this
    omega
  rw [Int32.toInt_sub, Int32.toInt_mul, Int.sub_bmod_bmod, Int32.toInt_div_of_ne_right _ _ hne, nI_toInt (by omega)]
  have h1 := Int.tmod_add_mul_tdiv v.toInt (m : Int)
  rw [Int.mul_comm] at h1
  rw [show v.toInt - v.toInt.tdiv m * m = v.toInt.tmod m by omega]
  have h2 := Int.tmod_lt_of_pos v.toInt (show (0 : Int) < (m : Int) by omega)
  have h3 := Int.lt_tmod_of_pos v.toInt (show (0 : Int) < (m : Int) by omega)
  exact Int.bmod_eq_of_le (by omega) (by omega)
theorem sm_lt (v : Int32) {m : Nat} (h0 : 0 < m) (hm : m ≤ 200) : ∃ j, j < m ∧ sm v m = nI j := by
  have hr := sm_toInt v h0 hm
  have h2 := Int.tmod_lt_of_pos v.toInt (show (0 : Int) < (m : Int) by omega)
  have h3 := Int.lt_tmod_of_pos v.toInt (show (0 : Int) < (m : Int) by omega)
  obtain ⟨r, er⟩ : ∃ r, r = v - v / nI m * nI m := ⟨_, rfl⟩
  unfold sm
  rw [← er] at hr ⊢
  rw [← hr] at h2 h3
  by_cases h : r < 0
  · rw [if_pos h]
    have h' := Int32.lt_iff_toInt_lt.mp h
    rw [show (0 : Int32).toInt = 0 from by decide] at h'
    refine ⟨(r.toInt + m).toNat, by omega, Int32.toInt_inj.mp ?_⟩
    rw [Int32.toInt_add, nI_toInt (show m < 2 ^ 31 by omega), nI_toInt (by omega), Int.toNat_of_nonneg (by omega)]
    exact Int.bmod_eq_of_le (by omega) (by omega)
  · rw [if_neg h]
    have h' : ¬ r.toInt < (0 : Int32).toInt := fun g => h (Int32.lt_iff_toInt_lt.mpr g)
    rw [show (0 : Int32).toInt = 0 from by decide] at h'
    refine ⟨r.toInt.toNat, by omega, Int32.toInt_inj.mp ?_⟩
    rw [nI_toInt (by omega), Int.toNat_of_nonneg (by omega)]
/-- the script's int at k, 0 behind its end -/
def xa (X : Nat × (Nat → Int32)) (k : Nat) : Int32 := if k < X.1 then X.2 k else 0
section LAW1
variable {X : Nat × (Nat → Int32)} {d : Nat} {h : Hp}
theorem l_at (hX : X.1 ≤ 260) {k : Nat} (hk : k < 10) : Ev X d kL_at 0 (ent kL_at [.retAddr 28, .int (nI k)]) [] h (some (.int (xa X k)), h) := by
  obtain ⟨K, I, R⟩ := h
  unfold xa
  by_cases hl : k < X.1
  · rw [if_pos hl]
    (repeat refine Ev.p rfl rfl ?_)
    refine Ev.bp rfl (fun c => absurd c (nI_ge hl (by omega))) (fun c => ?_)
    (repeat refine Ev.p rfl rfl ?_)
    refine Ev.sld (j := k) (by rfl) (by rfl) hl (by omega) ?_
    ((repeat refine Ev.p rfl rfl ?_); exact Ev.r rfl)
  · rw [if_neg hl]
    (repeat refine Ev.p rfl rfl ?_)
    refine Ev.bp rfl (fun c => ?_) (fun c => absurd (nI_le (a := X.1) (b := k) (by omega) (by omega)) c)
    ((repeat refine Ev.p rfl rfl ?_); exact Ev.r rfl)
theorem l_some (v : Int32) {m : Nat} (h0 : 0 < m) (hm : m ≤ 200) : Ev X d kL_some 0 (ent kL_some [.int v, .int (nI m)]) [] h (some (.int (sm v m)), h) := by
  obtain ⟨r, er⟩ : ∃ r, r = v - v / nI m * nI m := ⟨_, rfl⟩
  unfold sm
  (repeat refine Ev.p rfl rfl ?_)
  refine Ev.rm rfl (nI_ne0 h0 (by omega)) ?_
  rw [← er]
  by_cases hr : r < 0
  · rw [if_pos hr]
    (repeat refine Ev.p rfl rfl ?_)
    refine Ev.bp rfl (fun c => absurd hr (Int32.not_lt.mpr c)) (fun c => ?_)
    ((repeat refine Ev.p rfl rfl ?_); exact Ev.r rfl)
  · rw [if_neg hr]
    (repeat refine Ev.p rfl rfl ?_)
    refine Ev.bp rfl (fun c => ?_) (fun c => absurd (Int32.not_lt.mp hr) c)
    ((repeat refine Ev.p rfl rfl ?_); exact Ev.r rfl)
/-- what the script says -/
def whX (X : Nat × (Nat → Int32)) : Int32 := sm (xa X 0) 3
def duX (X : Nat × (Nat → Int32)) : Int32 := 4 + sm (xa X 0 >>> ((5 : Int32) &&& 31)) 20
def maX (X : Nat × (Nat → Int32)) : Int32 := 1 + sm (xa X 0 >>> ((2 : Int32) &&& 31)) 6
def kiX (X : Nat × (Nat → Int32)) (p : Nat) : Int32 := sm (xa X 1 >>> ((3 * nI p) &&& 31)) 7
def vX (X : Nat × (Nat → Int32)) (p : Nat) : Int32 := sm (xa X 1 >>> ((2 * nI p + 7) &&& 31)) 10
def roX (X : Nat × (Nat → Int32)) (p k : Nat) : Int32 := sm (xa X 2 >>> ((nI p + 3 * nI k) &&& 31)) 10
theorem l_which (hX : X.1 ≤ 260) : Ev X (d + 1) kL_which 0 (ent kL_which [.retAddr 28]) [] h (some (.int (whX X)), h) := by
  have h1 := l_at (d := d) (h := h) hX (k := 0) (by omega)
  have h2 := l_some (X := X) (d := d) (h := h) (xa X 0) (m := 3) (by omega) (by omega)
  (repeat refine Ev.p rfl rfl ?_)
  refine Ev.c rfl h1 ?_
  (repeat refine Ev.p rfl rfl ?_)
  refine Ev.c rfl h2 ?_
  ((repeat refine Ev.p rfl rfl ?_); exact Ev.r rfl)
theorem l_due (hX : X.1 ≤ 260) : Ev X (d + 1) kL_due 0 (ent kL_due [.retAddr 28]) [] h (some (.int (duX X)), h) := by
  have h1 := l_at (d := d) (h := h) hX (k := 0) (by omega)
  have h2 := l_some (X := X) (d := d) (h := h) (xa X 0 >>> ((5 : Int32) &&& 31)) (m := 20) (by omega) (by omega)
  (repeat refine Ev.p rfl rfl ?_)
  refine Ev.c rfl h1 ?_
  (repeat refine Ev.p rfl rfl ?_)
  refine Ev.c rfl h2 ?_
  ((repeat refine Ev.p rfl rfl ?_); exact Ev.r rfl)
theorem l_matters (hX : X.1 ≤ 260) : Ev X (d + 1) kL_matters 0 (ent kL_matters [.retAddr 28]) [] h (some (.int (maX X)), h) := by
  have h1 := l_at (d := d) (h := h) hX (k := 0) (by omega)
  have h2 := l_some (X := X) (d := d) (h := h) (xa X 0 >>> ((2 : Int32) &&& 31)) (m := 6) (by omega) (by omega)
  (repeat refine Ev.p rfl rfl ?_)
  refine Ev.c rfl h1 ?_
  (repeat refine Ev.p rfl rfl ?_)
  refine Ev.c rfl h2 ?_
  ((repeat refine Ev.p rfl rfl ?_); exact Ev.r rfl)
theorem l_kind (hX : X.1 ≤ 260) (p : Nat) : Ev X (d + 1) kL_kind 0 (ent kL_kind [.retAddr 28, .int (nI p)]) [] h (some (.int (kiX X p)), h) := by
  have h1 := l_at (d := d) (h := h) hX (k := 1) (by omega)
  have h2 := l_some (X := X) (d := d) (h := h) (xa X 1 >>> ((3 * nI p) &&& 31)) (m := 7) (by omega) (by omega)
  (repeat refine Ev.p rfl rfl ?_)
  refine Ev.c rfl h1 ?_
  (repeat refine Ev.p rfl rfl ?_)
  refine Ev.c rfl h2 ?_
  ((repeat refine Ev.p rfl rfl ?_); exact Ev.r rfl)
theorem l_v (hX : X.1 ≤ 260) (p : Nat) : Ev X (d + 1) kL_v 0 (ent kL_v [.retAddr 28, .int (nI p)]) [] h (some (.int (vX X p)), h) := by
  have h1 := l_at (d := d) (h := h) hX (k := 1) (by omega)
  have h2 := l_some (X := X) (d := d) (h := h) (xa X 1 >>> ((2 * nI p + 7) &&& 31)) (m := 10) (by omega) (by omega)
  (repeat refine Ev.p rfl rfl ?_)
  refine Ev.c rfl h1 ?_
  (repeat refine Ev.p rfl rfl ?_)
  refine Ev.c rfl h2 ?_
  ((repeat refine Ev.p rfl rfl ?_); exact Ev.r rfl)
theorem l_row (hX : X.1 ≤ 260) (p k : Nat) : Ev X (d + 1) kL_row 0 (ent kL_row [.retAddr 28, .int (nI p), .int (nI k)]) [] h (some (.int (roX X p k)), h) := by
  have h1 := l_at (d := d) (h := h) hX (k := 2) (by omega)
  have h2 := l_some (X := X) (d := d) (h := h) (xa X 2 >>> ((nI p + 3 * nI k) &&& 31)) (m := 10) (by omega) (by omega)
  (repeat refine Ev.p rfl rfl ?_)
  refine Ev.c rfl h1 ?_
  (repeat refine Ev.p rfl rfl ?_)
  refine Ev.c rfl h2 ?_
  ((repeat refine Ev.p rfl rfl ?_); exact Ev.r rfl)
theorem l_text (x : Int32) (hx : ∃ j, j < 3 ∧ x = nI j) : ∃ i, 7 ≤ i ∧ i ≤ 9 ∧ Ev X d kL_text 0 (ent kL_text [.int x]) [] h (some (.retAddr i), h) := by
  obtain ⟨j, hj, rfl⟩ := hx
  rcases (by omega : j = 0 ∨ j = 1 ∨ j = 2) with rfl | rfl | rfl
  · refine ⟨7, by omega, by omega, ?_⟩
    ((repeat refine Ev.p rfl rfl ?_); exact Ev.r rfl)
  · refine ⟨8, by omega, by omega, ?_⟩
    ((repeat refine Ev.p rfl rfl ?_); exact Ev.r rfl)
  · refine ⟨9, by omega, by omega, ?_⟩
    ((repeat refine Ev.p rfl rfl ?_); exact Ev.r rfl)
/-- an act by hand -/
def act0X (k i x : Int32) : Int32 := if k = 1 ∨ k = 4 then x * 3 + i else if k = 5 then (x + i) ^^^ i else x + i
def act1X (k i v x : Int32) : Int32 := if k = 2 ∨ k = 5 then -(act0X k i x - v) else if k = 6 then act0X k i x - v + v else act0X k i x - v
theorem l_act0 (k i x : Int32) : Ev X d kL_act0 0 (ent kL_act0 [.int k, .int i, .int x]) [] h (some (.int (act0X k i x)), h) := by
  unfold act0X
  (repeat refine Ev.p rfl rfl ?_)
  refine Ev.bp rfl (fun c => ?_) (fun c => ?_)
  · rw [if_pos (Or.inl c)]
    ((repeat refine Ev.p rfl rfl ?_); exact Ev.r rfl)
  · (repeat refine Ev.p rfl rfl ?_)
    refine Ev.bp rfl (fun c2 => ?_) (fun c2 => ?_)
    · rw [if_neg (fun g => g.elim c c2)]
      (repeat refine Ev.p rfl rfl ?_)
      refine Ev.bp rfl (fun c3 => ?_) (fun c3 => ?_)
      · rw [if_neg c3]
        ((repeat refine Ev.p rfl rfl ?_); exact Ev.r rfl)
      · rw [if_pos (Decidable.not_not.mp c3)]
        ((repeat refine Ev.p rfl rfl ?_); exact Ev.r rfl)
    · rw [if_pos (Or.inr (Decidable.not_not.mp c2))]
      ((repeat refine Ev.p rfl rfl ?_); exact Ev.r rfl)
theorem l_act1 (k i v x : Int32) : Ev X (d + 1) kL_act1 0 (ent kL_act1 [.int k, .int i, .int v, .int x]) [] h (some (.int (act1X k i v x)), h) := by
  have h1 := l_act0 (X := X) (d := d) (h := h) k i x
  unfold act1X
  (repeat refine Ev.p rfl rfl ?_)
  refine Ev.bp rfl (fun c => ?_) (fun c => ?_)
  · rw [if_pos (Or.inl c)]
    (repeat refine Ev.p rfl rfl ?_)
    refine Ev.c rfl h1 ?_
    ((repeat refine Ev.p rfl rfl ?_); exact Ev.r rfl)
  · (repeat refine Ev.p rfl rfl ?_)
    refine Ev.bp rfl (fun c2 => ?_) (fun c2 => ?_)
    · rw [if_neg (fun g => g.elim c c2)]
      (repeat refine Ev.p rfl rfl ?_)
      refine Ev.bp rfl (fun c3 => ?_) (fun c3 => ?_)
      · rw [if_neg c3]
        (repeat refine Ev.p rfl rfl ?_)
        refine Ev.c rfl h1 ?_
        ((repeat refine Ev.p rfl rfl ?_); exact Ev.r rfl)
      · rw [if_pos (Decidable.not_not.mp c3)]
        (repeat refine Ev.p rfl rfl ?_)
        refine Ev.c rfl h1 ?_
        ((repeat refine Ev.p rfl rfl ?_); exact Ev.r rfl)
    · rw [if_pos (Or.inr (Decidable.not_not.mp c2))]
      (repeat refine Ev.p rfl rfl ?_)
      refine Ev.c rfl h1 ?_
      ((repeat refine Ev.p rfl rfl ?_); exact Ev.r rfl)
end LAW1
