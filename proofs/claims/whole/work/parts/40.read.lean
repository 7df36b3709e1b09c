/-! THE REFERENCE reads a station: signs, numbers, letters, steps -/
/-- between two signs: act the station, a where, o how much is open, w whether wrong, L the steps so far -/
def RP (J : Nat → Nat → Int32) (t : Nat → Int32) (z act a o : Nat) (w : Bool) (L : List Int32) : Prop := J 140 6 = nI act ∧ J 140 7 = nI a ∧ J 140 8 = nI z ∧ J 140 9 = bI w ∧ J 140 10 = nI o ∧ (∀ i, i < z → J 141 (122 + i) = t i) ∧ J 141 (232 + act) = nI L.length ∧ (∀ (i : Nat) (x : Int32), L[i]? = some x → J 141 (237 + 140 * act + i) = x)
/-- what reading leaves -/
def FP (act : Nat) (J J' : Nat → Nat → Int32) : Prop := (∀ q, q ≠ 140 → q ≠ 141 → J' q = J q) ∧ (∀ j, j < 6 ∨ 10 < j → J' 140 j = J 140 j) ∧ (∀ j, j ≠ 232 + act → (j < 237 + 140 * act ∨ 377 + 140 * act ≤ j) → J' 141 j = J 141 j)
theorem FP.rf (act : Nat) (J : Nat → Nat → Int32) : FP act J J := ⟨fun _ _ _ => rfl, fun _ _ => rfl, fun _ _ _ => rfl⟩
theorem FP.tr {act : Nat} {J J' J'' : Nat → Nat → Int32} (h : FP act J J') (h' : FP act J' J'') : FP act J J'' := ⟨fun q h1 h2 => (h'.1 q h1 h2).trans (h.1 q h1 h2), fun j hj => (h'.2.1 j hj).trans (h.2.1 j hj), fun j h1 h2 => (h'.2.2 j h1 h2).trans (h.2.2 j h1 h2)⟩
theorem FP.s {act : Nat} {J J' : Nat → Nat → Int32} (h : FP act J J') {j : Nat} (hj : 6 ≤ j ∧ j ≤ 10) (x : Int32) : FP act J (upI J' 140 j x) := by
  refine ⟨fun q h1 h2 => by rw [upI_ne h1]; exact h.1 q h1 h2, fun i hi => by rw [upI_eq, upd_ne (by omega)]; exact h.2.1 i hi, fun i h1 h2 => by rw [upI_ne (by omega)]; exact h.2.2 i h1 h2⟩
theorem FP.e {act : Nat} {J J' : Nat → Nat → Int32} (h : FP act J J') {j : Nat} (hj : j = 232 + act ∨ (237 + 140 * act ≤ j ∧ j < 377 + 140 * act)) (x : Int32) : FP act J (upI J' 141 j x) := by
  refine ⟨fun q h1 h2 => by rw [upI_ne h2]; exact h.1 q h1 h2, fun i hi => by rw [upI_ne (by omega)]; exact h.2.1 i hi, fun i h1 h2 => by rw [upI_eq, upd_ne (by omega)]; exact h.2.2 i h1 h2⟩
section READ
variable {X : Nat × (Nat → Int32)} {d : Nat} {T : List (Nat × Nat)} {I : Nat → Nat → Int32} {G : Nat → Nat → Option Nat} {t : Nat → Int32} {z act a o : Nat} {w : Bool} {L : List Int32}
theorem RP.s7 (h : RP I t z act a o w L) {x : Int32} {b : Nat} (hx : x = nI b) : RP (upI I 140 7 x) t z act b o w L := by
  obtain ⟨h1, h2, h3, h4, h5, h6, h7, h8⟩ := h
  have e : upI I 140 7 x 141 = I 141 := upI_ne (by omega)
  refine ⟨by rw [upI_eq, upd_ne (by omega)]; exact h1, by rw [upI_eq, upd_at]; exact hx, by rw [upI_eq, upd_ne (by omega)]; exact h3, by rw [upI_eq, upd_ne (by omega)]; exact h4, by rw [upI_eq, upd_ne (by omega)]; exact h5, by rw [e]; exact h6, by rw [e]; exact h7, by rw [e]; exact h8⟩
theorem RP.s9 (h : RP I t z act a o w L) {x : Int32} {w' : Bool} (hx : x = bI w') : RP (upI I 140 9 x) t z act a o w' L := by
  obtain ⟨h1, h2, h3, h4, h5, h6, h7, h8⟩ := h
  have e : upI I 140 9 x 141 = I 141 := upI_ne (by omega)
  refine ⟨by rw [upI_eq, upd_ne (by omega)]; exact h1, by rw [upI_eq, upd_ne (by omega)]; exact h2, by rw [upI_eq, upd_ne (by omega)]; exact h3, by rw [upI_eq, upd_at]; exact hx, by rw [upI_eq, upd_ne (by omega)]; exact h5, by rw [e]; exact h6, by rw [e]; exact h7, by rw [e]; exact h8⟩
theorem RP.s10 (h : RP I t z act a o w L) {x : Int32} {b : Nat} (hx : x = nI b) : RP (upI I 140 10 x) t z act a b w L := by
  obtain ⟨h1, h2, h3, h4, h5, h6, h7, h8⟩ := h
  have e : upI I 140 10 x 141 = I 141 := upI_ne (by omega)
  refine ⟨by rw [upI_eq, upd_ne (by omega)]; exact h1, by rw [upI_eq, upd_ne (by omega)]; exact h2, by rw [upI_eq, upd_ne (by omega)]; exact h3, by rw [upI_eq, upd_ne (by omega)]; exact h4, by rw [upI_eq, upd_at]; exact hx, by rw [e]; exact h6, by rw [e]; exact h7, by rw [e]; exact h8⟩
theorem RP.emit (h : RP I t z act a o w L) (hz : z ≤ 100) (ha : act < 5) (hL : L.length < 140) (x : Int32) {y : Int32} (hy : y = nI (L.length + 1)) : RP (upI (upI I 141 (237 + 140 * act + L.length) x) 141 (232 + act) y) t z act a o w (L ++ [x]) := by
  obtain ⟨h1, h2, h3, h4, h5, h6, h7, h8⟩ := h
  have e : ∀ q, q ≠ 141 → upI (upI I 141 (237 + 140 * act + L.length) x) 141 (232 + act) y q = I q := fun q hq => by rw [upI_ne hq, upI_ne hq]
  refine ⟨by rw [e _ (by omega)]; exact h1, by rw [e _ (by omega)]; exact h2, by rw [e _ (by omega)]; exact h3, by rw [e _ (by omega)]; exact h4, by rw [e _ (by omega)]; exact h5, fun i hi => ?_, ?_, fun i v hv => ?_⟩
  · rw [upI_eq, upd_ne (by omega), upI_eq, upd_ne (by omega)]; exact h6 i hi
  · rw [upI_eq, upd_at, hy, List.length_append]; rfl
  · rw [upI_eq, upd_ne (by omega), upI_eq]
    rw [List.getElem?_append] at hv
    split at hv
    · rename_i h9
      rw [upd_ne (by omega)]
      exact h8 i v hv
    · rename_i h9
      have hq : i - L.length = 0 := by
        rcases Nat.eq_zero_or_pos (i - L.length) with h | h
        · exact h
        · rw [List.getElem?_eq_none (by simp; omega)] at hv; cases hv
      rw [hq] at hv
      cases hv
      rw [show i = L.length by omega, upd_at]
theorem m_here (hR : RP I t z act a o w L) (hz : z ≤ 100) (ha : a ≤ z) : Ev X d kX12_here 0 (ent kX12_here [.ref 140]) [] (K0 ++ T, I, RS G) (some (.int (pk t z a)), (K0 ++ T, I, RS G)) := by
  obtain ⟨h1, h2, h3, h4, h5, h6, h7, h8⟩ := hR
  (repeat refine Ev.p rfl rfl ?_)
  refine Ev.bp rfl (fun c => ?_) (fun c => ?_)
  · have c : I 140 8 ≤ I 140 7 := c
    rw [h2, h3] at c
    rw [show pk t z a = -1 from if_neg (fun h => absurd c (nI_ge h (by omega)))]
    ((repeat refine Ev.p rfl rfl ?_); exact Ev.r rfl)
  · have c : ¬ I 140 8 ≤ I 140 7 := c
    rw [h2, h3] at c
    have hlt : a < z := by
      rcases Nat.lt_or_ge a z with h | h
      · exact h
      · exact absurd (nI_le h (by omega)) c
    rw [show pk t z a = t a from if_pos hlt, ← h6 a hlt]
    (repeat refine Ev.p rfl rfl ?_)
    refine Ev.iald (j := 122 + a) rfl rfl (by show (122 : Int32) + I 140 7 = _; rw [h2]; exact nI_add 122 a) (by omega) (by omega) ?_
    ((repeat refine Ev.p rfl rfl ?_); exact Ev.r rfl)
theorem m_must (hR : RP I t z act a o false L) (hz : z ≤ 100) (ha : a ≤ z) (x : Int32) : ∃ I', Ev X (d + 1) kX12_must 0 (ent kX12_must [.ref 140, .int x]) [] (K0 ++ T, I, RS G) (none, (K0 ++ T, I', RS G)) ∧ (pk t z a = x → RP I' t z act (a + 1) o false L) ∧ (pk t z a ≠ x → RP I' t z act a o true L) ∧ FP act I I' := by
  have h9 : I 140 9 = 0 := hR.2.2.2.1
  have h7 : I 140 7 = nI a := hR.2.1
  by_cases hx : pk t z a = x
  · refine ⟨upI (upI I 140 9 0) 140 7 (I 140 7 + 1), ?_, fun _ => (hR.s9 (w' := false) rfl).s7 (by rw [h7, nI_1]), fun h => absurd hx h, ((FP.rf act I).s (by omega) 0).s (by omega) _⟩
    (repeat refine Ev.p rfl rfl ?_)
    refine Ev.bp rfl (fun c => ?_) (fun c => ?_)
    · exact absurd h9 c
    · (repeat refine Ev.p rfl rfl ?_)
      refine Ev.c rfl (m_here hR hz ha) ?_
      (repeat refine Ev.p rfl rfl ?_)
      refine Ev.bp rfl (fun c => ?_) (fun c => ?_)
      · ((repeat refine Ev.p rfl rfl ?_); exact Ev.r rfl)
      · exact absurd hx c
  · refine ⟨upI (upI I 140 9 1) 140 7 (I 140 7 + 0), ?_, fun h => absurd h hx, fun _ => (hR.s9 (w' := true) rfl).s7 (by rw [h7, Int32.add_zero]), ((FP.rf act I).s (by omega) 1).s (by omega) _⟩
    (repeat refine Ev.p rfl rfl ?_)
    refine Ev.bp rfl (fun c => ?_) (fun c => ?_)
    · exact absurd h9 c
    · (repeat refine Ev.p rfl rfl ?_)
      refine Ev.c rfl (m_here hR hz ha) ?_
      (repeat refine Ev.p rfl rfl ?_)
      refine Ev.bp rfl (fun c => ?_) (fun c => ?_)
      · exact absurd c hx
      · ((repeat refine Ev.p rfl rfl ?_); exact Ev.r rfl)
theorem m_must_w (hR : RP I t z act a o true L) (x : Int32) : ∃ I', Ev X (d + 1) kX12_must 0 (ent kX12_must [.ref 140, .int x]) [] (K0 ++ T, I, RS G) (none, (K0 ++ T, I', RS G)) ∧ RP I' t z act a o true L ∧ FP act I I' := by
  have h9 : I 140 9 = 1 := hR.2.2.2.1
  have h7 : I 140 7 = nI a := hR.2.1
  refine ⟨upI (upI I 140 9 1) 140 7 (I 140 7 + 0), ?_, (hR.s9 (w' := true) rfl).s7 (by rw [h7, Int32.add_zero]), ((FP.rf act I).s (by omega) 1).s (by omega) _⟩
  (repeat refine Ev.p rfl rfl ?_)
  refine Ev.bp rfl (fun c => ?_) (fun c => ?_)
  · ((repeat refine Ev.p rfl rfl ?_); exact Ev.r rfl)
  · exact absurd h9 (fun h => c (by show I 140 9 ≠ 0; rw [h]; decide))
theorem m_spells_w (hR : RP I t z act a o true L) {i : Nat} (hi4 : i = 7 ∨ i = 8 ∨ i = 9 ∨ i = 12) : ∃ I', Ev X (d + 4) kX12_spells 0 (ent kX12_spells [.ref 140, .retAddr i]) [] (K0 ++ T, I, RS G) (none, (K0 ++ T, I', RS G)) ∧ RP I' t z act a o true L ∧ FP act I I' := by
  have hi : i < 13 := by omega
  have hlen : (txt i).length < 100 := by
    rcases hi4 with rfl | rfl | rfl | rfl <;> decide
  have lp : ∀ m q (J : Nat → Nat → Int32), q + m = (txt i).length → RP J t z act a o true L → FP act I J → ∃ I', Ev X (d + 4) kX12_spells 2 [some (.ref 140), some (.retAddr i), some (.int (nI q))] [] (K0 ++ T, J, RS G) (none, (K0 ++ T, I', RS G)) ∧ RP I' t z act a o true L ∧ FP act I I' := by
    intro m
    induction m with
    | zero =>
      intro q J hq h1 h2
      refine ⟨J, ?_, h1, h2⟩
      have hl := j_length (X := X) (d := d + 2) hi (K0 ++ T, J, RS G)
      rw [show (txt i).length = q by omega] at hl
      iterate 2 refine Ev.p rfl rfl ?_
      refine Ev.c (rest := [.int (nI q)]) (np := 7) (by rcases hi4 with rfl | rfl | rfl | rfl <;> rfl) hl ?_
      (repeat refine Ev.p rfl rfl ?_)
      refine Ev.bp rfl (fun c => ?_) (fun c => ?_)
      · ((repeat refine Ev.p rfl rfl ?_); exact Ev.r rfl)
      · exact absurd (Int32.le_refl _) c
    | succ m ih =>
      intro q J hq h1 h2
      have hl := j_length (X := X) (d := d + 2) hi (K0 ++ T, J, RS G)
      have hc := j_charAt (X := X) (d := d) hi (K0 ++ T, J, RS G) (j := q) (by omega)
      obtain ⟨J2, e1, e2, e3⟩ := m_must_w (X := X) (d := d + 2) (T := T) (G := G) h1 ((txt i).getD q 0)
      obtain ⟨I', f1, f2⟩ := ih (q + 1) J2 (by omega) e2 (h2.tr e3)
      refine ⟨I', ?_, f2⟩
      rw [nI_succ] at f1
      iterate 2 refine Ev.p rfl rfl ?_
      refine Ev.c (rest := [.int (nI q)]) (np := 7) (by rcases hi4 with rfl | rfl | rfl | rfl <;> rfl) hl ?_
      (repeat refine Ev.p rfl rfl ?_)
      refine Ev.bp rfl (fun c => ?_) (fun c => ?_)
      · exact absurd c (nI_ge (by omega) (by omega))
      · (repeat refine Ev.p rfl rfl ?_)
        refine Ev.c (rest := [.ref 140]) (np := 16) (by rcases hi4 with rfl | rfl | rfl | rfl <;> rfl) hc ?_
        (repeat refine Ev.p rfl rfl ?_)
        refine Ev.c rfl e1 ?_
        (repeat (first | (refine Ev.at (q := 2) rfl ?_; exact f1) | refine Ev.p rfl rfl ?_))
  obtain ⟨I', e1, e2⟩ := lp (txt i).length 0 I (by omega) hR (FP.rf act I)
  refine ⟨I', ?_, e2⟩
  (repeat (first | (refine Ev.at (q := 2) rfl ?_; exact e1) | refine Ev.p rfl rfl ?_))
theorem drop_cons (l : List Int32) (q : Nat) (h : q < l.length) : l.drop q = l.getD q 0 :: l.drop (q + 1) := by
  rw [List.drop_eq_getElem_cons h]
  congr 1
  rw [List.getD_eq_getElem?_getD, List.getElem?_eq_getElem h]
  rfl
/-- behind words: r as pW gives it -/
def RW (J : Nat → Nat → Int32) (t : Nat → Int32) (z act o : Nat) (L : List Int32) (r : Bool × Nat) : Prop := RP J t z act r.2 o (!r.1) L
theorem m_spells (hR : RP I t z act a o false L) (hz : z ≤ 100) (ha : a ≤ z) {i : Nat} (hi4 : i = 7 ∨ i = 8 ∨ i = 9 ∨ i = 12) : ∃ I', Ev X (d + 4) kX12_spells 0 (ent kX12_spells [.ref 140, .retAddr i]) [] (K0 ++ T, I, RS G) (none, (K0 ++ T, I', RS G)) ∧ RW I' t z act o L (pW t z (txt i) a) ∧ FP act I I' := by
  have hi : i < 13 := by omega
  have hlen : (txt i).length < 100 := by
    rcases hi4 with rfl | rfl | rfl | rfl <;> decide
  have hne : ∀ q, q < (txt i).length → (txt i).getD q 0 ≠ -1 := by
    rcases hi4 with rfl | rfl | rfl | rfl <;> decide
  -- once it is wrong
  have lw : ∀ m q a (J : Nat → Nat → Int32), q + m = (txt i).length → RP J t z act a o true L → FP act I J → ∃ I', Ev X (d + 4) kX12_spells 2 [some (.ref 140), some (.retAddr i), some (.int (nI q))] [] (K0 ++ T, J, RS G) (none, (K0 ++ T, I', RS G)) ∧ RP I' t z act a o true L ∧ FP act I I' := by
    intro m
    induction m with
    | zero =>
      intro q a J hq h1 h2
      refine ⟨J, ?_, h1, h2⟩
      have hl := j_length (X := X) (d := d + 2) hi (K0 ++ T, J, RS G)
      rw [show (txt i).length = q by omega] at hl
      iterate 2 refine Ev.p rfl rfl ?_
      refine Ev.c (rest := [.int (nI q)]) (np := 7) (by rcases hi4 with rfl | rfl | rfl | rfl <;> rfl) hl ?_
      (repeat refine Ev.p rfl rfl ?_)
      refine Ev.bp rfl (fun c => ?_) (fun c => ?_)
      · ((repeat refine Ev.p rfl rfl ?_); exact Ev.r rfl)
      · exact absurd (Int32.le_refl _) c
    | succ m ih =>
      intro q a J hq h1 h2
      have hl := j_length (X := X) (d := d + 2) hi (K0 ++ T, J, RS G)
      have hc := j_charAt (X := X) (d := d) hi (K0 ++ T, J, RS G) (j := q) (by omega)
      obtain ⟨J2, e1, e2, e3⟩ := m_must_w (X := X) (d := d + 2) (T := T) (G := G) h1 ((txt i).getD q 0)
      obtain ⟨I', f1, f2⟩ := ih (q + 1) a J2 (by omega) e2 (h2.tr e3)
      refine ⟨I', ?_, f2⟩
      rw [nI_succ] at f1
      iterate 2 refine Ev.p rfl rfl ?_
      refine Ev.c (rest := [.int (nI q)]) (np := 7) (by rcases hi4 with rfl | rfl | rfl | rfl <;> rfl) hl ?_
      (repeat refine Ev.p rfl rfl ?_)
      refine Ev.bp rfl (fun c => ?_) (fun c => ?_)
      · exact absurd c (nI_ge (by omega) (by omega))
      · (repeat refine Ev.p rfl rfl ?_)
        refine Ev.c (rest := [.ref 140]) (np := 16) (by rcases hi4 with rfl | rfl | rfl | rfl <;> rfl) hc ?_
        (repeat refine Ev.p rfl rfl ?_)
        refine Ev.c rfl e1 ?_
        (repeat (first | (refine Ev.at (q := 2) rfl ?_; exact f1) | refine Ev.p rfl rfl ?_))
  have lp : ∀ m q a (J : Nat → Nat → Int32), a ≤ z → q + m = (txt i).length → RP J t z act a o false L → FP act I J → ∃ I', Ev X (d + 4) kX12_spells 2 [some (.ref 140), some (.retAddr i), some (.int (nI q))] [] (K0 ++ T, J, RS G) (none, (K0 ++ T, I', RS G)) ∧ RW I' t z act o L (pW t z ((txt i).drop q) a) ∧ FP act I I' := by
    intro m
    induction m with
    | zero =>
      intro q a J ha hq h1 h2
      refine ⟨J, ?_, by rw [List.drop_eq_nil_of_le (by omega)]; exact h1, h2⟩
      have hl := j_length (X := X) (d := d + 2) hi (K0 ++ T, J, RS G)
      rw [show (txt i).length = q by omega] at hl
      iterate 2 refine Ev.p rfl rfl ?_
      refine Ev.c (rest := [.int (nI q)]) (np := 7) (by rcases hi4 with rfl | rfl | rfl | rfl <;> rfl) hl ?_
      (repeat refine Ev.p rfl rfl ?_)
      refine Ev.bp rfl (fun c => ?_) (fun c => ?_)
      · ((repeat refine Ev.p rfl rfl ?_); exact Ev.r rfl)
      · exact absurd (Int32.le_refl _) c
    | succ m ih =>
      intro q a J ha hq h1 h2
      have hl := j_length (X := X) (d := d + 2) hi (K0 ++ T, J, RS G)
      have hc := j_charAt (X := X) (d := d) hi (K0 ++ T, J, RS G) (j := q) (by omega)
      obtain ⟨J2, e1, e2, e3, e4⟩ := m_must (X := X) (d := d + 2) (T := T) (G := G) h1 hz ha ((txt i).getD q 0)
      have go : ∀ {R : Option Value × Hp}, Ev X (d + 4) kX12_spells 2 [some (.ref 140), some (.retAddr i), some (.int (nI q + 1))] [] (K0 ++ T, J2, RS G) R → Ev X (d + 4) kX12_spells 2 [some (.ref 140), some (.retAddr i), some (.int (nI q))] [] (K0 ++ T, J, RS G) R := by
        intro R g
        iterate 2 refine Ev.p rfl rfl ?_
        refine Ev.c (rest := [.int (nI q)]) (np := 7) (by rcases hi4 with rfl | rfl | rfl | rfl <;> rfl) hl ?_
        (repeat refine Ev.p rfl rfl ?_)
        refine Ev.bp rfl (fun c => ?_) (fun c => ?_)
        · exact absurd c (nI_ge (by omega) (by omega))
        · (repeat refine Ev.p rfl rfl ?_)
          refine Ev.c (rest := [.ref 140]) (np := 16) (by rcases hi4 with rfl | rfl | rfl | rfl <;> rfl) hc ?_
          (repeat refine Ev.p rfl rfl ?_)
          refine Ev.c rfl e1 ?_
          (repeat (first | (refine Ev.at (q := 2) rfl ?_; exact g) | refine Ev.p rfl rfl ?_))
      rw [drop_cons _ q (by omega)]
      simp only [pW]
      by_cases h9 : pk t z a = (txt i).getD q 0
      · rw [if_pos h9]
        have hlt := pq_lt h9 (hne q (by omega))
        obtain ⟨I', f1, f2⟩ := ih (q + 1) (a + 1) J2 hlt (by omega) (e2 h9) (h2.tr e4)
        refine ⟨I', go ?_, f2⟩
        rw [nI_succ] at f1
        exact f1
      · rw [if_neg h9]
        obtain ⟨I', f1, f2⟩ := lw m (q + 1) a J2 (by omega) (e3 h9) (h2.tr e4)
        refine ⟨I', go ?_, f2⟩
        rw [nI_succ] at f1
        exact f1
  obtain ⟨I', e1, e2⟩ := lp (txt i).length 0 a I ha (by omega) hR (FP.rf act I)
  refine ⟨I', ?_, e2⟩
  (repeat (first | (refine Ev.at (q := 2) rfl ?_; exact e1) | refine Ev.p rfl rfl ?_))
theorem m_emits (hR : RP I t z act a o false L) (hz : z ≤ 100) (hact : act < 5) (hL : L.length < 140) (x : Int32) : ∃ I', Ev X d kX12_emits 0 (ent kX12_emits [.ref 140, .int x]) [] (K0 ++ T, I, RS G) (none, (K0 ++ T, I', RS G)) ∧ RP I' t z act a o false (L ++ [x]) ∧ FP act I I' := by
  have h9 : I 140 9 = 0 := hR.2.2.2.1
  have h6 : I 140 6 = nI act := hR.1
  have hs : I 141 (232 + act) = nI L.length := hR.2.2.2.2.2.2.1
  have h140 : (140 : Int32) * nI act = nI (140 * act) := pk_mul 140 act
  obtain ⟨J, hJ⟩ : ∃ J, J = upI I 141 (237 + 140 * act + L.length) x := ⟨_, rfl⟩
  have j1 : J 140 6 = nI act := by rw [hJ, upI_ne (by omega)]; exact h6
  have j2 : J 141 (232 + act) = nI L.length := by rw [hJ, upI_eq, upd_ne (by omega)]; exact hs
  refine ⟨upI J 141 (232 + act) (J 141 (232 + act) + 1), ?_, ?_, ?_⟩
  · (repeat refine Ev.p rfl rfl ?_)
    refine Ev.bp rfl (fun c => ?_) (fun c => ?_)
    · exact absurd h9 c
    · (repeat refine Ev.p rfl rfl ?_)
      refine Ev.iald (j := 232 + act) rfl rfl (by show (232 : Int32) + I 140 6 = _; rw [h6]; exact nI_add 232 act) (by omega) (by omega) ?_
      (repeat refine Ev.p rfl rfl ?_)
      refine Ev.iast (j := 237 + 140 * act + L.length) rfl rfl (by show (237 : Int32) + 140 * I 140 6 + I 141 (232 + act) = _; rw [h6, hs, h140]; show nI 237 + nI (140 * act) + nI L.length = _; rw [nI_add, nI_add]) (by omega) (by omega) ?_
      try dsimp only
      rw [← hJ]
      (repeat refine Ev.p rfl rfl ?_)
      refine Ev.iald (j := 232 + act) rfl rfl (by show (232 : Int32) + J 140 6 = _; rw [j1]; exact nI_add 232 act) (by omega) (by omega) ?_
      (repeat refine Ev.p rfl rfl ?_)
      refine Ev.iast (j := 232 + act) rfl rfl (by show (232 : Int32) + J 140 6 = _; rw [j1]; exact nI_add 232 act) (by omega) (by omega) ?_
      ((repeat refine Ev.p rfl rfl ?_); exact Ev.r rfl)
  · rw [hJ] at j2 ⊢
    exact hR.emit hz hact hL x (by rw [j2, nI_1])
  · rw [hJ]
    exact ((FP.rf act I).e (by omega) _).e (by omega) _
theorem m_emits_w (hR : RP I t z act a o true L) (x : Int32) : Ev X d kX12_emits 0 (ent kX12_emits [.ref 140, .int x]) [] (K0 ++ T, I, RS G) (none, (K0 ++ T, I, RS G)) := by
  have h9 : I 140 9 = 1 := hR.2.2.2.1
  (repeat refine Ev.p rfl rfl ?_)
  refine Ev.bp rfl (fun c => ?_) (fun c => ?_)
  · ((repeat refine Ev.p rfl rfl ?_); exact Ev.r rfl)
  · exact absurd h9 (fun h => c (by show I 140 9 ≠ 0; rw [h]; decide))
theorem isD_in (c : Int32) : (if 48 ≤ c ∧ c ≤ 57 then (1 : Int32) else 0) = bI (isD c) := by
  unfold isD bI
  by_cases h : 48 ≤ c ∧ c ≤ 57
  · rw [if_pos h, decide_eq_true h]; rfl
  · rw [if_neg h, decide_eq_false h]; rfl
theorem m_figures_w (hR : RP I t z act a o true L) : ∃ I' x, Ev X (d + 1) kX12_figures 0 (ent kX12_figures [.ref 140]) [] (K0 ++ T, I, RS G) (some (.int x), (K0 ++ T, I', RS G)) ∧ RP I' t z act a o true L ∧ FP act I I' := by
  have h9 : I 140 9 = 1 := hR.2.2.2.1
  refine ⟨upI I 140 9 1, 0, ?_, hR.s9 (w' := true) rfl, (FP.rf act I).s (by omega) _⟩
  (repeat refine Ev.p rfl rfl ?_)
  refine Ev.bp rfl (fun c => ?_) (fun c => ?_)
  · ((repeat refine Ev.p rfl rfl ?_); exact Ev.r rfl)
  · exact absurd h9 (fun h => c (by show I 140 9 ≠ 0; rw [h]; decide))
/-- behind a number: r as pN gives it -/
def RN (J : Nat → Nat → Int32) (t : Nat → Int32) (z act a o : Nat) (L : List Int32) (x : Int32) (r : Option (Nat × Nat)) : Prop := match r with
  | none => RP J t z act a o true L
  | some (n, b) => x = nI n ∧ RP J t z act b o false L
theorem m_figures (hR : RP I t z act a o false L) (hz : z ≤ 100) (ha : a ≤ z) : ∃ I' x, Ev X (d + 1) kX12_figures 0 (ent kX12_figures [.ref 140]) [] (K0 ++ T, I, RS G) (some (.int x), (K0 ++ T, I', RS G)) ∧ RN I' t z act a o L x (pN t z a) ∧ FP act I I' := by
  have h9 : I 140 9 = 0 := hR.2.2.2.1
  have h7 : I 140 7 = nI a := hR.2.1
  have hin := fun (J : Nat → Nat → Int32) (c : Int32) => m_in (X := X) (d := d) (K0 ++ T, J, RS G) c 48 57
  simp only [isD_in] at hin
  unfold pN
  cases hD : isD (pk t z a) with
  | false =>
    refine ⟨upI I 140 9 1, 0, ?_, by rw [if_neg (by decide)]; exact hR.s9 (w' := true) rfl, (FP.rf act I).s (by omega) _⟩
    (repeat refine Ev.p rfl rfl ?_)
    refine Ev.bp rfl (fun c => ?_) (fun c => ?_)
    · exact absurd h9 c
    · (repeat refine Ev.p rfl rfl ?_)
      refine Ev.c rfl (m_here hR hz ha) ?_
      (repeat refine Ev.p rfl rfl ?_)
      refine Ev.c rfl (hin _ _) ?_
      rw [hD]
      ((repeat refine Ev.p rfl rfl ?_); exact Ev.r rfl)
  | true =>
    rw [if_pos rfl]
    have hlt := pk_D hD
    obtain ⟨d1, e1⟩ := isD_dg hD
    obtain ⟨J1, hJ1⟩ : ∃ J, J = upI I 140 9 0 := ⟨_, rfl⟩
    have r1 : RP J1 t z act a o false L := by rw [hJ1]; exact hR.s9 (w' := false) rfl
    have f1 : FP act I J1 := by rw [hJ1]; exact (FP.rf act I).s (by omega) _
    obtain ⟨J2, hJ2⟩ : ∃ J, J = upI J1 140 7 (J1 140 7 + 1) := ⟨_, rfl⟩
    have r2 : RP J2 t z act (a + 1) o false L := by rw [hJ2]; exact r1.s7 (by rw [r1.2.1, nI_1])
    have f2 : FP act I J2 := by rw [hJ2]; exact f1.s (by omega) _
    obtain ⟨u, hu⟩ : ∃ u, u = dg (pk t z a) := ⟨_, rfl⟩
    rw [← hu] at d1 e1 ⊢
    have dig : ∀ v u : Nat, (10 : Int32) * nI v + nI (u + 48) - 48 = nI (10 * v + u) := by
      intro v u
      rw [show (10 : Int32) * nI v = nI (10 * v) from pk_mul 10 v, nI_add, show (48 : Int32) = nI 48 from rfl, pk_sub (by omega), show 10 * v + (u + 48) - 48 = 10 * v + u by omega]
    -- behind the first
    have go : ∀ {R : Option Value × Hp}, Ev X (d + 1) kX12_figures 34 [some (.ref 140), some (.int (nI u)), some (.int 1)] [] (K0 ++ T, J2, RS G) R → Ev X (d + 1) kX12_figures 0 (ent kX12_figures [.ref 140]) [] (K0 ++ T, I, RS G) R := by
      intro R g
      have e0 := dig 0 u
      rw [show 10 * 0 + u = u by omega, ← e1] at e0
      rw [← e0] at g
      (repeat refine Ev.p rfl rfl ?_)
      refine Ev.bp rfl (fun c => ?_) (fun c => ?_)
      · exact absurd h9 c
      · (repeat refine Ev.p rfl rfl ?_)
        refine Ev.c rfl (m_here hR hz ha) ?_
        (repeat refine Ev.p rfl rfl ?_)
        refine Ev.c rfl (hin _ _) ?_
        rw [hD]
        iterate 4 refine Ev.p rfl rfl ?_
        try dsimp only
        rw [← hJ1]
        (repeat refine Ev.p rfl rfl ?_)
        refine Ev.bp rfl (fun c => ?_) (fun c => ?_)
        · exact absurd (show J1 140 9 = 0 from r1.2.2.2.1) c
        · (repeat refine Ev.p rfl rfl ?_)
          refine Ev.c rfl (m_here r1 hz ha) ?_
          (repeat refine Ev.p rfl rfl ?_)
          refine Ev.c rfl (hin _ _) ?_
          rw [hD]
          (repeat refine Ev.p rfl rfl ?_)
          refine Ev.c rfl (m_here r1 hz ha) ?_
          iterate 8 refine Ev.p rfl rfl ?_
          try dsimp only
          iterate 2 refine Ev.p rfl rfl ?_
          try dsimp only
          rw [← hJ2]
          (repeat (first | (refine Ev.at (q := 34) rfl ?_; exact g) | refine Ev.p rfl rfl ?_))
    by_cases hu0 : 0 < u
    · by_cases hD2 : isD (pk t z (a + 1)) = true
      · rw [if_pos ⟨hu0, hD2⟩]
        have hlt2 := pk_D hD2
        obtain ⟨d2, e2⟩ := isD_dg hD2
        obtain ⟨u2, hu2⟩ : ∃ u, u = dg (pk t z (a + 1)) := ⟨_, rfl⟩
        rw [← hu2] at d2 e2 ⊢
        obtain ⟨J3, hJ3⟩ : ∃ J, J = upI J2 140 7 (J2 140 7 + 1) := ⟨_, rfl⟩
        have r3 : RP J3 t z act (a + 2) o false L := by rw [hJ3]; exact r2.s7 (by rw [r2.2.1, nI_1])
        refine ⟨J3, nI (10 * u + u2), ?_, ⟨rfl, r3⟩, by rw [hJ3]; exact f2.s (by omega) _⟩
        refine go ?_
        (repeat refine Ev.p rfl rfl ?_)
        refine Ev.bp rfl (fun c => ?_) (fun c => ?_)
        · exact absurd (show J2 140 9 = 0 from r2.2.2.2.1) c
        · (repeat refine Ev.p rfl rfl ?_)
          refine Ev.c rfl (m_here r2 hz (by omega)) ?_
          (repeat refine Ev.p rfl rfl ?_)
          refine Ev.c rfl (hin _ _) ?_
          rw [hD2]
          (repeat refine Ev.p rfl rfl ?_)
          refine Ev.bp rfl (fun c => ?_) (fun c => ?_)
          · exact absurd c (nI_nle hu0 (by omega))
          · (repeat refine Ev.p rfl rfl ?_)
            refine Ev.c rfl (m_here r2 hz (by omega)) ?_
            iterate 3 refine Ev.p rfl rfl ?_
            rw [e2, dig u u2]
            iterate 5 refine Ev.p rfl rfl ?_
            try dsimp only
            iterate 2 refine Ev.p rfl rfl ?_
            try dsimp only
            rw [← hJ3]
            ((repeat refine Ev.p rfl rfl ?_); exact Ev.r rfl)
      · rw [if_neg (fun h => hD2 h.2)]
        refine ⟨J2, nI u, ?_, ⟨rfl, r2⟩, f2⟩
        refine go ?_
        have hD3 : isD (pk t z (a + 1)) = false := by
          cases h : isD (pk t z (a + 1)) with
          | true => exact absurd h hD2
          | false => rfl
        (repeat refine Ev.p rfl rfl ?_)
        refine Ev.bp rfl (fun c => ?_) (fun c => ?_)
        · exact absurd (show J2 140 9 = 0 from r2.2.2.2.1) c
        · (repeat refine Ev.p rfl rfl ?_)
          refine Ev.c rfl (m_here r2 hz (by omega)) ?_
          (repeat refine Ev.p rfl rfl ?_)
          refine Ev.c rfl (hin _ _) ?_
          rw [hD3]
          ((repeat refine Ev.p rfl rfl ?_); exact Ev.r rfl)
    · rw [if_neg (fun h => hu0 h.1)]
      have hz0 : u = 0 := by omega
      refine ⟨J2, nI u, ?_, ⟨rfl, r2⟩, f2⟩
      refine go ?_
      rw [hz0]
      (repeat refine Ev.p rfl rfl ?_)
      refine Ev.bp rfl (fun c => ?_) (fun c => ?_)
      · exact absurd (show J2 140 9 = 0 from r2.2.2.2.1) c
      · (repeat refine Ev.p rfl rfl ?_)
        refine Ev.c rfl (m_here r2 hz (by omega)) ?_
        (repeat refine Ev.p rfl rfl ?_)
        refine Ev.c rfl (hin _ _) ?_
        cases isD (pk t z (a + 1)) with
        | false => ((repeat refine Ev.p rfl rfl ?_); exact Ev.r rfl)
        | true => ((repeat refine Ev.p rfl rfl ?_); exact Ev.r rfl)
end READ
