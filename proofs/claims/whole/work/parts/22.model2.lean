/-! THE REFERENCE: what writes its row -/
/-- what a method of the reference leaves as it was: all but s, its scratch rows and numbers -/
def MF (I I' : Nat → Nat → Int32) : Prop := (∀ q, q < 140 → I' q = I q) ∧ (∀ q, 149 ≤ q → I' q = I q) ∧ I' 142 = I 142 ∧ I' 148 = I 148 ∧ I' 140 4 = I 140 4 ∧ I' 140 5 = I 140 5 ∧ I' 140 16 = I 140 16
theorem MF.rf (I : Nat → Nat → Int32) : MF I I := ⟨fun _ _ => rfl, fun _ _ => rfl, rfl, rfl, rfl, rfl, rfl⟩
theorem MF.tr {I I' I'' : Nat → Nat → Int32} (h : MF I I') (h' : MF I' I'') : MF I I'' := ⟨fun q hq => (h'.1 q hq).trans (h.1 q hq), fun q hq => (h'.2.1 q hq).trans (h.2.1 q hq), h'.2.2.1.trans h.2.2.1, h'.2.2.2.1.trans h.2.2.2.1, h'.2.2.2.2.1.trans h.2.2.2.2.1, h'.2.2.2.2.2.1.trans h.2.2.2.2.2.1, h'.2.2.2.2.2.2.trans h.2.2.2.2.2.2⟩
theorem MF.up {I : Nat → Nat → Int32} {p j : Nat} {x : Int32} (hp : p = 141 ∨ p = 143 ∨ p = 144 ∨ p = 145 ∨ p = 146 ∨ p = 147) : MF I (upI I p j x) := by
  refine ⟨fun q hq => upI_ne (by omega), fun q hq => upI_ne (by omega), upI_ne (by omega), upI_ne (by omega), ?_, ?_, ?_⟩ <;> (rw [upI_ne (by omega)])
theorem up143 {I : Nat → Nat → Int32} {s : Nat → Int32} {j : Nat} {x : Int32} (h : I 141 = s) : upI I 141 j x 141 = upd s j x := by rw [upI_eq, h]
theorem upo {I : Nat → Nat → Int32} {s : Nat → Int32} {p j : Nat} {x : Int32} (h : I 141 = s) (hp : p ≠ 141) : upI I p j x 141 = s := by rw [upI_ne (Ne.symm hp), h]
/-- the first m of f, the rest of g -/
def mixf (f g : Nat → Int32) (m : Nat) : Nat → Int32 := fun j => if j < m then f j else g j
theorem mixf_up (f g : Nat → Int32) (m : Nat) : upd (mixf f g m) m (f m) = mixf f g (m + 1) := by
  funext j
  unfold upd mixf
  by_cases h : j = m
  · subst h; simp
  · by_cases h2 : j < m
    · rw [if_neg h, if_pos h2, if_pos (by omega)]
    · rw [if_neg h, if_neg h2, if_neg (by omega)]
theorem mixf_0 (f g : Nat → Int32) : mixf f g 0 = g := by funext j; simp [mixf]
section MODEL2
variable {X : Nat × (Nat → Int32)} {d : Nat} {T : List (Nat × Nat)} {I : Nat → Nat → Int32} {G : Nat → Nat → Option Nat} {s : Nat → Int32} {n p : Nat}
theorem m_becomes (hI : I 141 = s) {w : Nat} {i : Int32} (hi : i = nI w) (hw : w < 937) (x : Int32) : Ev X d kX12_becomes 0 (ent kX12_becomes [.ref 140, .int i, .int x]) [] (K0 ++ T, I, RS G) (some (.int (s w)), (K0 ++ T, upI I 141 w x, RS G)) := by
  (repeat refine Ev.p rfl rfl ?_)
  (refine Ev.iald (j := w) rfl rfl hi (by omega) (by omega) ?_; rw [hI])
  (repeat refine Ev.p rfl rfl ?_)
  refine Ev.iast (j := w) rfl rfl hi (by omega) (by omega) ?_
  ((repeat refine Ev.p rfl rfl ?_); exact Ev.r rfl)
theorem m_keeps : ∃ I', Ev X d kX12_keeps 0 (ent kX12_keeps [.ref 140]) [] (K0 ++ T, I, RS G) (none, (K0 ++ T, I', RS G)) ∧ I' 141 = I 141 ∧ MF I I' ∧ I' 143 = mixf (I 141) (I 143) 26 := by
  have lp : ∀ m q (J : Nat → Nat → Int32), q + m = 26 → J 141 = I 141 → MF I J → J 143 = mixf (I 141) (I 143) q → ∃ I', Ev X d kX12_keeps 2 [some (.ref 140), some (.int (nI q))] [] (K0 ++ T, J, RS G) (none, (K0 ++ T, I', RS G)) ∧ I' 141 = I 141 ∧ MF I I' ∧ I' 143 = mixf (I 141) (I 143) 26 := by
    intro m
    induction m with
    | zero =>
      intro q J hq h1 h2 h3
      have e : q = 26 := by omega
      subst e
      refine ⟨J, ?_, h1, h2, h3⟩
      ((repeat refine Ev.p rfl rfl ?_); exact Ev.r rfl)
    | succ m ih =>
      intro q J hq h1 h2 h3
      obtain ⟨I', e1, e2, e3, e4⟩ := ih (q + 1) (upI J 143 q (I 141 q)) (by omega) (by rw [upI_ne (by omega), h1]) (h2.tr (MF.up (by omega))) (by rw [upI_eq, h3, mixf_up])
      refine ⟨I', ?_, e2, e3, e4⟩
      rw [nI_succ] at e1
      (repeat refine Ev.p rfl rfl ?_)
      refine Ev.bp rfl (fun c => ?_) (fun c => ?_)
      · exact absurd c (nI_ge (a := q) (b := 26) (by omega) (by omega))
      · (repeat refine Ev.p rfl rfl ?_)
        (refine Ev.iald (j := q) rfl rfl rfl (by omega) (by omega) ?_; rw [h1])
        (repeat refine Ev.p rfl rfl ?_)
        refine Ev.iast (j := q) rfl rfl rfl (by omega) (by omega) ?_
        (repeat (first | exact e1 | refine Ev.p rfl rfl ?_))
  obtain ⟨I', e1, e2⟩ := lp 26 0 I rfl rfl (MF.rf I) (mixf_0 _ _).symm
  refine ⟨I', ?_, e2⟩
  (repeat (first | exact e1 | refine Ev.p rfl rfl ?_))
theorem m_goesBack : ∃ I', Ev X d kX12_goesBack 0 (ent kX12_goesBack [.ref 140]) [] (K0 ++ T, I, RS G) (none, (K0 ++ T, I', RS G)) ∧ I' 141 = mixf (I 143) (I 141) 26 ∧ MF I I' := by
  have lp : ∀ m q (J : Nat → Nat → Int32), q + m = 26 → J 143 = I 143 → MF I J → J 141 = mixf (I 143) (I 141) q → ∃ I', Ev X d kX12_goesBack 2 [some (.ref 140), some (.int (nI q))] [] (K0 ++ T, J, RS G) (none, (K0 ++ T, I', RS G)) ∧ I' 141 = mixf (I 143) (I 141) 26 ∧ MF I I' := by
    intro m
    induction m with
    | zero =>
      intro q J hq h1 h2 h3
      have e : q = 26 := by omega
      subst e
      refine ⟨J, ?_, h3, h2⟩
      ((repeat refine Ev.p rfl rfl ?_); exact Ev.r rfl)
    | succ m ih =>
      intro q J hq h1 h2 h3
      obtain ⟨I', e1, e2, e3⟩ := ih (q + 1) (upI J 141 q (I 143 q)) (by omega) (by rw [upI_ne (by omega), h1]) (h2.tr (MF.up (by omega))) (by rw [upI_eq, h3, mixf_up])
      refine ⟨I', ?_, e2, e3⟩
      rw [nI_succ] at e1
      (repeat refine Ev.p rfl rfl ?_)
      refine Ev.bp rfl (fun c => ?_) (fun c => ?_)
      · exact absurd c (nI_ge (a := q) (b := 26) (by omega) (by omega))
      · (repeat refine Ev.p rfl rfl ?_)
        (refine Ev.iald (j := q) rfl rfl rfl (by omega) (by omega) ?_; rw [h1])
        (repeat refine Ev.p rfl rfl ?_)
        refine Ev.iast (j := q) rfl rfl rfl (by omega) (by omega) ?_
        (repeat (first | exact e1 | refine Ev.p rfl rfl ?_))
  obtain ⟨I', e1, e2⟩ := lp 26 0 I rfl rfl (MF.rf I) (mixf_0 _ _).symm
  refine ⟨I', ?_, e2⟩
  (repeat (first | exact e1 | refine Ev.p rfl rfl ?_))
theorem m_feed (hI : I 141 = s) {z : Nat} (hz : s 31 = nI z) (hz2 : z ≤ 100) (x : Int32) : ∃ I' r, Ev X (d + 1) kX12_feed 0 (ent kX12_feed [.ref 140, .int x]) [] (K0 ++ T, I, RS G) (some (.int r), (K0 ++ T, I', RS G)) ∧ MF I I' ∧ ((¬ (0 ≤ x ∧ x ≤ 127) ∧ r = -2 ∧ I' 141 = s) ∨ ((0 ≤ x ∧ x ≤ 127) ∧ z = 100 ∧ r = -4 ∧ I' 141 = s) ∨ ((0 ≤ x ∧ x ≤ 127) ∧ z < 100 ∧ r = nI (z + 1) ∧ I' 141 = upd (upd s (122 + z) x) 31 (nI (z + 1)))) := by
  by_cases hx : 0 ≤ x ∧ x ≤ 127
  · by_cases hz3 : z = 100
    · refine ⟨I, -4, ?_, MF.rf I, Or.inr (Or.inl ⟨hx, hz3, rfl, hI⟩)⟩
      (repeat refine Ev.p rfl rfl ?_)
      refine Ev.c rfl (m_in _ _ _ _) ?_
      rw [if_pos hx]
      (repeat refine Ev.p rfl rfl ?_)
      (refine Ev.iald (j := 31) rfl rfl rfl (by omega) (by omega) ?_; rw [hI])
      rw [hz, hz3]
      ((repeat refine Ev.p rfl rfl ?_); exact Ev.r rfl)
    · refine ⟨upI (upI I 141 (122 + z) x) 141 31 (nI (z + 1)), nI (z + 1), ?_, (MF.up (by omega)).tr (MF.up (by omega)), Or.inr (Or.inr ⟨hx, by omega, rfl, ?_⟩)⟩
      · (repeat refine Ev.p rfl rfl ?_)
        refine Ev.c rfl (m_in _ _ _ _) ?_
        rw [if_pos hx]
        (repeat refine Ev.p rfl rfl ?_)
        (refine Ev.iald (j := 31) rfl rfl rfl (by omega) (by omega) ?_; rw [hI])
        rw [hz]
        (repeat refine Ev.p rfl rfl ?_)
        refine Ev.bp rfl (fun c => ?_) (fun c => absurd (Decidable.not_not.mp c) (fun e => hz3 ((nI_eq (by omega) (by omega : 100 < 2 ^ 31)).mp e)))
        (repeat refine Ev.p rfl rfl ?_)
        (refine Ev.iald (j := 31) rfl rfl rfl (by omega) (by omega) ?_; rw [hI])
        rw [hz]
        (repeat refine Ev.p rfl rfl ?_)
        refine Ev.iast (j := 122 + z) rfl rfl (nI_add 122 z) (by omega) (by omega) ?_
        (repeat refine Ev.p rfl rfl ?_)
        (refine Ev.iald (j := 31) rfl rfl rfl (by omega) (by omega) ?_; rw [up143 hI, show upd s (122 + z) x 31 = nI z from by rw [← hz]; exact if_neg (by omega)])
        (repeat refine Ev.p rfl rfl ?_)
        refine Ev.iast (j := 31) rfl rfl rfl (by omega) (by omega) ?_
        (repeat refine Ev.p rfl rfl ?_)
        (refine Ev.iald (j := 31) rfl rfl rfl (by omega) (by omega) ?_; rw [upI_eq, show upd (upI I 141 (122 + z) x 141) 31 (nI z + 1) 31 = nI z + 1 from if_pos rfl, ← nI_succ])
        ((repeat refine Ev.p rfl rfl ?_); exact Ev.r rfl)
      · rw [upI_eq, up143 hI]
  · refine ⟨I, -2, ?_, MF.rf I, Or.inl ⟨hx, rfl, hI⟩⟩
    (repeat refine Ev.p rfl rfl ?_)
    refine Ev.c rfl (m_in _ _ _ _) ?_
    rw [if_neg hx]
    ((repeat refine Ev.p rfl rfl ?_); exact Ev.r rfl)
/-- which is a MATTER -/
def isM (n : Nat) (x : Int32) : Prop := 0 ≤ x ∧ x ≤ nI n - 1
theorem isM_iff {n : Nat} (hn : n ≤ 6) {x : Int32} : isM n x ↔ ∃ p, p < n ∧ x = nI p := by
  constructor
  · rintro ⟨h1, h2⟩
    obtain ⟨j, hj, rfl⟩ := nI_of (Int32.not_lt.mpr h1)
    refine ⟨j, ?_, rfl⟩
    cases n with
    | zero =>
      exfalso
      have h3 : nI j ≤ -1 := h2
      have h4 := Int32.le_trans h1 h3
      exact absurd h4 (by decide)
    | succ n =>
      rw [nI_pred] at h2
      have := (nI_leI hj (by omega)).mp h2
      omega
  · rintro ⟨p, hp, rfl⟩
    refine ⟨nI_pos' (by omega), ?_⟩
    cases n with
    | zero => omega
    | succ n =>
      rw [nI_pred]
      exact nI_le (by omega) (by omega)
theorem m_isM (hI : I 141 = s) (hn : s 26 = nI n) (x : Int32) : (isM n x → Ev X (d + 1) kX12_isMatter 0 (ent kX12_isMatter [.ref 140, .int x]) [] (K0 ++ T, I, RS G) (some (.int 1), (K0 ++ T, I, RS G))) ∧ (¬ isM n x → Ev X (d + 1) kX12_isMatter 0 (ent kX12_isMatter [.ref 140, .int x]) [] (K0 ++ T, I, RS G) (some (.int 0), (K0 ++ T, I, RS G))) := by
  have h := m_isMatter (X := X) (d := d) (T := T) (G := G) hI x
  rw [hn] at h
  refine ⟨fun q => ?_, fun q => ?_⟩
  · have q2 : 0 ≤ x ∧ x ≤ nI n - 1 := q
    rw [if_pos q2] at h
    exact h
  · have q2 : ¬ (0 ≤ x ∧ x ≤ nI n - 1) := q
    rw [if_neg q2] at h
    exact h
theorem m_shelve (hI : I 141 = s) (hn : s 26 = nI n) (hn6 : n ≤ 6) (x : Int32) (b : Bool) : (∀ p, p < n → x = nI p → Ev X (d + 2) kX12_shelve 0 (ent kX12_shelve [.ref 140, .int x, .int (bI b)]) [] (K0 ++ T, I, RS G) (some (.int (s (20 + p))), (K0 ++ T, upI I 141 (20 + p) (bI b), RS G))) ∧ (¬ isM n x → Ev X (d + 2) kX12_shelve 0 (ent kX12_shelve [.ref 140, .int x, .int (bI b)]) [] (K0 ++ T, I, RS G) (some (.int (-1)), (K0 ++ T, I, RS G))) := by
  refine ⟨fun p hp e => ?_, fun q => ?_⟩
  · (repeat refine Ev.p rfl rfl ?_)
    refine Ev.c rfl ((m_isM hI hn x).1 ((isM_iff hn6).mpr ⟨p, hp, e⟩)) ?_
    subst e
    (repeat refine Ev.p rfl rfl ?_)
    cases b with
    | true =>
      (repeat refine Ev.p rfl rfl ?_)
      refine Ev.c rfl (m_becomes hI (nI_add 20 p) (by omega) 1) ?_
      ((repeat refine Ev.p rfl rfl ?_); exact Ev.r rfl)
    | false =>
      (repeat refine Ev.p rfl rfl ?_)
      refine Ev.c rfl (m_becomes hI (nI_add 20 p) (by omega) 0) ?_
      ((repeat refine Ev.p rfl rfl ?_); exact Ev.r rfl)
  · (repeat refine Ev.p rfl rfl ?_)
    refine Ev.c rfl ((m_isM hI hn x).2 q) ?_
    ((repeat refine Ev.p rfl rfl ?_); exact Ev.r rfl)
theorem m_reopen (hI : I 141 = s) (hn : s 26 = nI n) (hn6 : n ≤ 6) (x : Int32) : (∀ p, p < n → x = nI p → Ev X (d + 2) kX12_reopen 0 (ent kX12_reopen [.ref 140, .int x]) [] (K0 ++ T, I, RS G) (some (.int (s (14 + p))), (K0 ++ T, upI (upI (upI I 141 (8 + p) 0) 141 (2 + p) 0) 141 (14 + p) 0, RS G))) ∧ (¬ isM n x → Ev X (d + 2) kX12_reopen 0 (ent kX12_reopen [.ref 140, .int x]) [] (K0 ++ T, I, RS G) (some (.int (-1)), (K0 ++ T, I, RS G))) := by
  refine ⟨fun p hp e => ?_, fun q => ?_⟩
  · (repeat refine Ev.p rfl rfl ?_)
    refine Ev.c rfl ((m_isM hI hn x).1 ((isM_iff hn6).mpr ⟨p, hp, e⟩)) ?_
    subst e
    (repeat refine Ev.p rfl rfl ?_)
    refine Ev.iast (j := 8 + p) rfl rfl (nI_add 8 p) (by omega) (by omega) ?_
    (repeat refine Ev.p rfl rfl ?_)
    refine Ev.iast (j := 2 + p) rfl rfl (nI_add 2 p) (by omega) (by omega) ?_
    (repeat refine Ev.p rfl rfl ?_)
    have h9 := m_becomes (X := X) (d := d + 1) (T := T) (G := G) (I := upI (upI I 141 (8 + p) 0) 141 (2 + p) 0) (s := upd (upd s (8 + p) 0) (2 + p) 0) (by rw [upI_eq, up143 hI]) (nI_add 14 p) (by omega) 0
    rw [show upd (upd s (8 + p) 0) (2 + p) 0 (14 + p) = s (14 + p) from by simp [upd] <;> omega] at h9
    refine Ev.c rfl h9 ?_
    ((repeat refine Ev.p rfl rfl ?_); exact Ev.r rfl)
  · (repeat refine Ev.p rfl rfl ?_)
    refine Ev.c rfl ((m_isM hI hn x).2 q) ?_
    ((repeat refine Ev.p rfl rfl ?_); exact Ev.r rfl)
end MODEL2
