/-! THE REFERENCE reads a station: signs, numbers, letters, steps -/
/-- between two signs: act the station, a where, o how much is open, w whether wrong, L the steps so far -/
def RP (J : Nat → Nat → Int32) (t : Nat → Int32) (z act a o : Nat) (w : Bool) (L : List Int32) : Prop := J 140 6 = nI act ∧ J 140 7 = nI a ∧ J 140 8 = nI z ∧ J 140 9 = bI w ∧ J 140 10 = nI o ∧ (∀ i, i < z → J 141 (122 + i) = t i) ∧ J 141 (232 + act) = nI L.length ∧ (∀ (i : Nat) (x : Int32), L[i]? = some x → J 141 (237 + 140 * act + i) = x)
/-- what reading leaves -/
def FP (act : Nat) (J J' : Nat → Nat → Int32) : Prop := (∀ q, q ≠ 140 → q ≠ 141 → J' q = J q) ∧ (∀ j, j < 6 ∨ 10 < j → J' 140 j = J 140 j) ∧ (∀ j, j ≠ 232 + act → (j < 237 + 140 * act ∨ 377 + 140 * act ≤ j) → J' 141 j = J 141 j)
theorem FP.rf (act : Nat) (J : Nat → Nat → Int32) : FP act J J := ⟨fun _ _ _ => rfl, fun _ _ => rfl, fun _ _ _ => rfl⟩
theorem FP.tr {act : Nat} {J J' J'' : Nat → Nat → Int32} (h : FP act J J') (h' : FP act J' J'') : FP act J J'' := ⟨fun q h1 h2 => (h'.1 q h1 h2).trans (h.1 q h1 h2), fun j hj => (h'.2.1 j hj).trans (h.2.1 j hj), fun j h1 h2 => (h'.2.2 j h1 h2).trans (h.2.2 j h1 h2)⟩
theorem FP.s {act : Nat} {J J' : Nat → Nat → Int32} (h : FP act J J') {j : Nat} (hj : 6 ≤ j ∧ j ≤ 10) (x : Int32) : FP act J (upI J' 140 j x) := by
  refine ⟨fun q h1 h2 => by rw [upI_ne h1]; exact h.1 q h1 h2, fun i hi => by rw [upI_eq, upd_ne (by omega)]; exact h.2.1 i hi, fun i h1 h2 => by rw [upI_ne (by omega)]; exact h.2.2 i h1 h2⟩
theorem FP.e {act : Nat} {J J' : Nat → Nat → Int32} (h : FP act J J') {j : Nat} (hj : j = 232 + act ∨ (237 + 140 * act ≤ j ∧ j < 377 + 140 * act)) (x : Int32) : FP act J (upI J' 141 j x) := by
  refine ⟨fun q h1 h2 => by rw [upI_ne h2]; exact h.1 q h1 h2, fun i hi => by rw [upI_ne (by omega)]; exact h.2.1 i hi, fun i h1 h2 => by rw [upI_eq, upd_ne (by omega)]; exact h.2.2 i h1 h2⟩
section READ
variable {X : Nat × (Nat → Int32)} {d : Nat} {T : List (Nat × Nat)} {I : Nat → Nat → Int32} {G : Nat → Nat → Option Nat} {t : Nat → Int32} {z act a o : Nat} {w : Bool} {L : List Int32}
theorem RP.s7 (h : RP I t z act a o w L) {x : Int32} {b : Nat} (hx : x = nI b) : RP (upI I 140 7 x) t z act b o w L := by
  obtain ⟨h1, h2, h3, h4, h5, h6, h7, h8⟩ := h
  have e : upI I 140 7 x 141 = I 141 := upI_ne (by omega)
  refine ⟨by rw [upI_eq, upd_ne (by omega)]; exact h1, by rw [upI_eq, upd_at]; exact hx, by rw [upI_eq, upd_ne (by omega)]; exact h3, by rw [upI_eq, upd_ne (by omega)]; exact h4, by rw [upI_eq, upd_ne (by omega)]; exact h5, by rw [e]; exact h6, by rw [e]; exact h7, by rw [e]; exact h8⟩
theorem RP.s9 (h : RP I t z act a o w L) {x : Int32} {w' : Bool} (hx : x = bI w') : RP (upI I 140 9 x) t z act a o w' L := by
  obtain ⟨h1, h2, h3, h4, h5, h6, h7, h8⟩ := h
  have e : upI I 140 9 x 141 = I 141 := upI_ne (by omega)
  refine ⟨by rw [upI_eq, upd_ne (by omega)]; exact h1, by rw [upI_eq, upd_ne (by omega)]; exact h2, by rw [upI_eq, upd_ne (by omega)]; exact h3, by rw [upI_eq, upd_at]; exact hx, by rw [upI_eq, upd_ne (by omega)]; exact h5, by rw [e]; exact h6, by rw [e]; exact h7, by rw [e]; exact h8⟩
theorem RP.s10 (h : RP I t z act a o w L) {x : Int32} {b : Nat} (hx : x = nI b) : RP (upI I 140 10 x) t z act a b w L := by
  obtain ⟨h1, h2, h3, h4, h5, h6, h7, h8⟩ := h
  have e : upI I 140 10 x 141 = I 141 := upI_ne (by omega)
  refine ⟨by rw [upI_eq, upd_ne (by omega)]; exact h1, by rw [upI_eq, upd_ne (by omega)]; exact h2, by rw [upI_eq, upd_ne (by omega)]; exact h3, by rw [upI_eq, upd_ne (by omega)]; exact h4, by rw [upI_eq, upd_at]; exact hx, by rw [e]; exact h6, by rw [e]; exact h7, by rw [e]; exact h8⟩
theorem RP.emit (h : RP I t z act a o w L) (hz : z ≤ 100) (ha : act < 5) (hL : L.length < 140) (x : Int32) {y : Int32} (hy : y = nI (L.length + 1)) : RP (upI (upI I 141 (237 + 140 * act + L.length) x) 141 (232 + act) y) t z act a o w (L ++ [x]) := by
  obtain ⟨h1, h2, h3, h4, h5, h6, h7, h8⟩ := h
  have e : ∀ q, q ≠ 141 → upI (upI I 141 (237 + 140 * act + L.length) x) 141 (232 + act) y q = I q := fun q hq => by rw [upI_ne hq, upI_ne hq]
  refine ⟨by rw [e _ (by omega)]; exact h1, by rw [e _ (by omega)]; exact h2, by rw [e _ (by omega)]; exact h3, by rw [e _ (by omega)]; exact h4, by rw [e _ (by omega)]; exact h5, fun i hi => ?_, ?_, fun i v hv => ?_⟩
  · rw [upI_eq, upd_ne (by omega), upI_eq, upd_ne (by omega)]; exact h6 i hi
  · rw [upI_eq, upd_at, hy, List.length_append]; rfl
  · rw [upI_eq, upd_ne (by omega), upI_eq]
    rw [List.getElem?_append] at hv
    split at hv
    · rename_i h9
      rw [upd_ne (by omega)]
      exact h8 i v hv
    · rename_i h9
      have hq : i - L.length = 0 := by
        rcases Nat.eq_zero_or_pos (i - L.length) with h | h
        · exact h
        · rw [List.getElem?_eq_none (by simp; omega)] at hv; cases hv
      rw [hq] at hv
      cases hv
      rw [show i = L.length by omega, upd_at]
theorem drop_cons (l : List Int32) (q : Nat) (h : q < l.length) : l.drop q = l.getD q 0 :: l.drop (q + 1) := by
  rw [List.drop_eq_getElem_cons h]
  congr 1
  rw [List.getD_eq_getElem?_getD, List.getElem?_eq_getElem h]
  rfl
/-- behind words: r as pW gives it -/
def RW (J : Nat → Nat → Int32) (t : Nat → Int32) (z act o : Nat) (L : List Int32) (r : Bool × Nat) : Prop := RP J t z act r.2 o (!r.1) L
theorem isD_in (c : Int32) : (if 48 ≤ c ∧ c ≤ 57 then (1 : Int32) else 0) = bI (isD c) := by
  unfold isD bI
  by_cases h : 48 ≤ c ∧ c ≤ 57
  · rw [if_pos h, decide_eq_true h]; rfl
  · rw [if_neg h, decide_eq_false h]; rfl
/-- behind a number: r as pN gives it -/
def RN (J : Nat → Nat → Int32) (t : Nat → Int32) (z act a o : Nat) (L : List Int32) (x : Int32) (r : Option (Nat × Nat)) : Prop := match r with
  | none => RP J t z act a o true L
  | some (n, b) => x = nI n ∧ RP J t z act b o false L
end READ
