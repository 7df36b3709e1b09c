/-! THE LAW'S goes, act, feeds -/
/-- a piece of act -/
def AC (X : Nat × (Nat → Int32)) (P : (Nat → Int32) → Nat → Prop) (m : Nat) (im : Option Img) (K : List (Nat × Nat)) (pc n0 : Nat) (c : Int32) (I : Nat → Nat → Int32) (R : Nat → Nat → Option Nat) : Prop := ∃ I1 R1, Ev X 61 kL_act pc [some (.ref 0), some (.int (nI n0)), some (.int c), none] [] (K, I, R) (none, (K, I1, R1)) ∧ ST P m im K I1 R1
section ACTL
variable {X : Nat × (Nat → Int32)} {d : Nat} {K : List (Nat × Nat)} {I : Nat → Nat → Int32} {R : Nat → Nat → Option Nat} {m n0 : Nat} {im : Option Img} {P : (Nat → Int32) → Nat → Prop} {c : Int32}
theorem l_goes (h : ST P m im K I R) (hP : Stb P) : ∃ (w : Int32) (I1 : Nat → Nat → Int32) (R1 : Nat → Nat → Option Nat), Ev X 60 kL_goes 0 (ent kL_goes [.ref 0]) [] (K, I, R) (some (.int w), (K, I1, R1)) ∧ ST P m im K I1 R1 := by
  obtain ⟨s, n, hd, cls, e, l, hc, hp⟩ := h
  have k0 := hc.k0
  obtain ⟨I1, R1, e1, c1⟩ := q_told (X := X) hc (x := 6) (w := 6) (by omega) rfl
  have h1 : ST P m im K I1 R1 := ⟨s, n, hd, cls, e, l, c1, hp⟩
  obtain ⟨t, et⟩ : ∃ t, t = rTold s n hd cls 6 := ⟨_, rfl⟩
  rw [← et] at e1
  by_cases ht : t < 0
  · obtain ⟨w, I2, R2, e2, h2⟩ := u_talk (X := X) h1 hP (-1)
    refine ⟨w, I2, R2, ?_, h2⟩
    (repeat refine Ev.p rfl rfl ?_)
    refine Ev.cv (by rfl) (by rfl) (by assumption) (by rfl) (by rfl) (by rfl) (by rfl) (by rfl) e1 ?_
    (repeat refine Ev.p rfl rfl ?_)
    refine Ev.bp rfl (fun c => absurd ht (Int32.not_lt.mpr c)) (fun c => ?_)
    (repeat refine Ev.p rfl rfl ?_)
    refine Ev.cv (by rfl) (by rfl) (by assumption) (by rfl) (by rfl) (by rfl) (by rfl) (by rfl) e2 ?_
    ((repeat refine Ev.p rfl rfl ?_); exact Ev.r rfl)
  · obtain ⟨w, I2, R2, e2, h2⟩ := u_talk (X := X) h1 hP t
    refine ⟨w, I2, R2, ?_, h2⟩
    (repeat refine Ev.p rfl rfl ?_)
    refine Ev.cv (by rfl) (by rfl) (by assumption) (by rfl) (by rfl) (by rfl) (by rfl) (by rfl) e1 ?_
    (repeat refine Ev.p rfl rfl ?_)
    refine Ev.bp rfl (fun c => ?_) (fun c => absurd (Int32.not_lt.mp ht) c)
    (repeat refine Ev.p rfl rfl ?_)
    refine Ev.cv (by rfl) (by rfl) (by assumption) (by rfl) (by rfl) (by rfl) (by rfl) (by rfl) e2 ?_
    ((repeat refine Ev.p rfl rfl ?_); exact Ev.r rfl)
theorem ac_247 (h : ST P m im K I R) : AC X P m im K 247 n0 c I R := by
  refine ⟨I, R, ?_, h⟩
  ((repeat refine Ev.p rfl rfl ?_); exact Ev.r rfl)
/-- a bit of the cell says which -/
theorem bit1 (x : Int32) : ∃ b : Bool, (x = 0 ∧ b = true) ∨ (x ≠ 0 ∧ b = false) := by
  by_cases h : x = 0
  · exact ⟨true, Or.inl ⟨h, rfl⟩⟩
  · exact ⟨false, Or.inr ⟨h, rfl⟩⟩
theorem ac_28 (h : ST P m im K I R) (hP : Stb P) (h0 : 0 < n0) (hn : n0 ≤ 6) : AC X P m im K 28 n0 c I R := by
  have k0 := h.k0
  have s1 := l_some (X := X) (d := 60) (h := (K, I, R)) (c >>> ((2 : Int32) &&& 31)) (m := 4) (by omega) (by omega)
  obtain ⟨w1, I1, R1, e1, h1⟩ := u_pass (X := X) h hP (sm (c >>> ((2 : Int32) &&& 31)) 4)
  have e1 := e1.dp (d' := 60) (by omega)
  have s2 := l_some (X := X) (d := 60) (h := (K, I1, R1)) (c >>> ((4 : Int32) &&& 31)) (m := n0) h0 (by omega)
  obtain ⟨b, hb⟩ := bit1 ((c >>> ((8 : Int32) &&& 31)) &&& 1)
  obtain ⟨w2, I2, R2, e2, h2⟩ := u_shelve (X := X) h1 hP (sm (c >>> ((4 : Int32) &&& 31)) n0) b
  have e2 := e2.dp (d' := 60) (by omega)
  by_cases hz : (c >>> ((6 : Int32) &&& 31)) &&& 3 = 0
  · obtain ⟨I3, R3, e3, h3⟩ := ac_247 (X := X) (n0 := n0) (c := c) h2
    refine ⟨I3, R3, ?_, h3⟩
    (repeat refine Ev.p rfl rfl ?_)
    refine Ev.c rfl s1 ?_
    (repeat refine Ev.p rfl rfl ?_)
    refine Ev.cv (by rfl) (by rfl) (by assumption) (by rfl) (by rfl) (by rfl) (by rfl) (by rfl) e1 ?_
    (repeat refine Ev.p rfl rfl ?_)
    refine Ev.bp rfl (fun c => absurd hz c) (fun c => ?_)
    (repeat refine Ev.p rfl rfl ?_)
    refine Ev.c rfl s2 ?_
    (repeat refine Ev.p rfl rfl ?_)
    rcases hb with ⟨hb1, rfl⟩ | ⟨hb1, rfl⟩
    · refine Ev.bp rfl (fun c => absurd hb1 c) (fun c => ?_)
      (repeat refine Ev.p rfl rfl ?_)
      refine Ev.cv (by rfl) (by rfl) (by assumption) (by rfl) (by rfl) (by rfl) (by rfl) (by rfl) e2 ?_
      (repeat (first | (refine Ev.at (q := 247) rfl ?_; exact e3) | refine Ev.p rfl rfl ?_))
    · refine Ev.bp rfl (fun c => ?_) (fun c => absurd hb1 c)
      (repeat refine Ev.p rfl rfl ?_)
      refine Ev.cv (by rfl) (by rfl) (by assumption) (by rfl) (by rfl) (by rfl) (by rfl) (by rfl) e2 ?_
      (repeat (first | (refine Ev.at (q := 247) rfl ?_; exact e3) | refine Ev.p rfl rfl ?_))
  · obtain ⟨I3, R3, e3, h3⟩ := ac_247 (X := X) (n0 := n0) (c := c) h1
    refine ⟨I3, R3, ?_, h3⟩
    (repeat refine Ev.p rfl rfl ?_)
    refine Ev.c rfl s1 ?_
    (repeat refine Ev.p rfl rfl ?_)
    refine Ev.cv (by rfl) (by rfl) (by assumption) (by rfl) (by rfl) (by rfl) (by rfl) (by rfl) e1 ?_
    (repeat refine Ev.p rfl rfl ?_)
    refine Ev.bp rfl (fun c => ?_) (fun c => absurd hz c)
    (repeat (first | (refine Ev.at (q := 247) rfl ?_; exact e3) | refine Ev.p rfl rfl ?_))
theorem ac_87 (hP : Stb P) : ∀ (j : Nat) (I : Nat → Nat → Int32) (R : Nat → Nat → Option Nat), j < 1000 → ST P m im K I R → ∃ I1 R1, Ev X 61 kL_act 87 [some (.ref 0), some (.int (nI n0)), some (.int c), some (.int (nI j))] [] (K, I, R) (none, (K, I1, R1)) ∧ ST P m im K I1 R1 := by
  intro j
  induction j with
  | zero =>
    intro I R _ h
    refine ⟨I, R, ?_, h⟩
    ((repeat refine Ev.p rfl rfl ?_); exact Ev.r rfl)
  | succ j ih =>
    intro I R hj h
    have k0 := h.k0
    obtain ⟨w, I1, R1, e1, h1⟩ := l_goes (X := X) h hP
    obtain ⟨I2, R2, e2, h2⟩ := ih I1 R1 (by omega) h1
    refine ⟨I2, R2, ?_, h2⟩
    have ej : nI (j + 1) + -1 = nI j := by rw [nI_succ, ← Int32.sub_eq_add_neg]; exact Int32.add_sub_cancel _ _
    rw [← ej] at e2
    (repeat refine Ev.p rfl rfl ?_)
    refine Ev.bp rfl (fun c => absurd c (nI_nle (by omega) (by omega))) (fun c => ?_)
    (repeat refine Ev.p rfl rfl ?_)
    refine Ev.c rfl e1 ?_
    (repeat (first | (refine Ev.at (q := 87) rfl ?_; exact e2) | refine Ev.p rfl rfl ?_))
theorem ac_78 (h : ST P m im K I R) (hP : Stb P) : AC X P m im K 78 n0 c I R := by
  have s1 := l_some (X := X) (d := 60) (h := (K, I, R)) (c >>> ((3 : Int32) &&& 31)) (m := 7) (by omega) (by omega)
  obtain ⟨j, hj, ej⟩ := sm_lt (c >>> ((3 : Int32) &&& 31)) (m := 7) (by omega) (by omega)
  rw [ej] at s1
  obtain ⟨I1, R1, e1, h1⟩ := ac_87 (X := X) (n0 := n0) (c := c) hP j I R (by omega) h
  refine ⟨I1, R1, ?_, h1⟩
  (repeat refine Ev.p rfl rfl ?_)
  refine Ev.c rfl s1 ?_
  (repeat (first | (refine Ev.at (q := 87) rfl ?_; exact e1) | refine Ev.p rfl rfl ?_))
theorem ac_172 (h : ST P m im K I R) (hP : Stb P) (h0 : 0 < n0) (hn : n0 ≤ 6) : AC X P m im K 172 n0 c I R := by
  have k0 := h.k0
  have s1 := l_some (X := X) (d := 60) (h := (K, I, R)) (c >>> ((6 : Int32) &&& 31)) (m := n0) h0 (by omega)
  obtain ⟨w1, I1, R1, e1, h1⟩ := u_reopen (X := X) h hP (sm (c >>> ((6 : Int32) &&& 31)) n0)
  have e1 := e1.dp (d' := 60) (by omega)
  obtain ⟨I3, R3, e3, h3⟩ := ac_247 (X := X) (n0 := n0) (c := c) h1
  refine ⟨I3, R3, ?_, h3⟩
  (repeat refine Ev.p rfl rfl ?_)
  refine Ev.c rfl s1 ?_
  (repeat refine Ev.p rfl rfl ?_)
  refine Ev.cv (by rfl) (by rfl) (by assumption) (by rfl) (by rfl) (by rfl) (by rfl) (by rfl) e1 ?_
  (repeat (first | (refine Ev.at (q := 247) rfl ?_; exact e3) | refine Ev.p rfl rfl ?_))
theorem ac_151 (h : ST P m im K I R) (hP : Stb P) (h0 : 0 < n0) (hn : n0 ≤ 6) : AC X P m im K 151 n0 c I R := by
  have k0 := h.k0
  have s1 := l_some (X := X) (d := 60) (h := (K, I, R)) (c >>> ((3 : Int32) &&& 31)) (m := n0) h0 (by omega)
  obtain ⟨w1, I1, R1, e1, h1⟩ := u_talk (X := X) h hP (sm (c >>> ((3 : Int32) &&& 31)) n0)
  have e1 := e1.dp (d' := 60) (by omega)
  by_cases hz : (c >>> ((9 : Int32) &&& 31)) &&& 3 = 0
  · obtain ⟨I3, R3, e3, h3⟩ := ac_172 (X := X) (c := c) h1 hP h0 hn
    refine ⟨I3, R3, ?_, h3⟩
    (repeat refine Ev.p rfl rfl ?_)
    refine Ev.c rfl s1 ?_
    (repeat refine Ev.p rfl rfl ?_)
    refine Ev.cv (by rfl) (by rfl) (by assumption) (by rfl) (by rfl) (by rfl) (by rfl) (by rfl) e1 ?_
    (repeat refine Ev.p rfl rfl ?_)
    refine Ev.bp rfl (fun c => absurd hz c) (fun c => ?_)
    (repeat (first | (refine Ev.at (q := 172) rfl ?_; exact e3) | refine Ev.p rfl rfl ?_))
  · obtain ⟨I3, R3, e3, h3⟩ := ac_247 (X := X) (n0 := n0) (c := c) h1
    refine ⟨I3, R3, ?_, h3⟩
    (repeat refine Ev.p rfl rfl ?_)
    refine Ev.c rfl s1 ?_
    (repeat refine Ev.p rfl rfl ?_)
    refine Ev.cv (by rfl) (by rfl) (by assumption) (by rfl) (by rfl) (by rfl) (by rfl) (by rfl) e1 ?_
    (repeat refine Ev.p rfl rfl ?_)
    refine Ev.bp rfl (fun c => ?_) (fun c => absurd hz c)
    (repeat (first | (refine Ev.at (q := 247) rfl ?_; exact e3) | refine Ev.p rfl rfl ?_))
theorem ac_105 (h : ST P m im K I R) (hP : Stb P) (h0 : 0 < n0) (hn : n0 ≤ 6) : AC X P m im K 105 n0 c I R := by
  have k0 := h.k0
  have s1 := l_some (X := X) (d := 60) (h := (K, I, R)) (c >>> ((2 : Int32) &&& 31)) (m := n0) h0 (by omega)
  have s2 := l_some (X := X) (d := 60) (h := (K, I, R)) (c >>> ((5 : Int32) &&& 31)) (m := 21) (by omega) (by omega)
  obtain ⟨b, hb⟩ := bit1 ((c >>> ((7 : Int32) &&& 31)) &&& 1)
  obtain ⟨w1, I1, R1, e1, h1⟩ := u_see (X := X) h hP (sm (c >>> ((2 : Int32) &&& 31)) n0) (sm (c >>> ((5 : Int32) &&& 31)) 21) b
  have e1 := e1.dp (d' := 60) (by omega)
  have go : ∀ {Z : Option Value × Hp}, Ev X 61 kL_act 138 [some (.ref 0), some (.int (nI n0)), some (.int c), none] [.int w1] (K, I1, R1) Z → Ev X 61 kL_act 105 [some (.ref 0), some (.int (nI n0)), some (.int c), none] [] (K, I, R) Z := by
    intro Z g
    (repeat refine Ev.p rfl rfl ?_)
    refine Ev.c rfl s1 ?_
    (repeat refine Ev.p rfl rfl ?_)
    refine Ev.c rfl s2 ?_
    (repeat refine Ev.p rfl rfl ?_)
    rcases hb with ⟨hb1, rfl⟩ | ⟨hb1, rfl⟩
    · refine Ev.bp rfl (fun c => absurd hb1 c) (fun c => ?_)
      (repeat refine Ev.p rfl rfl ?_)
      refine Ev.cv (by rfl) (by rfl) (by assumption) (by rfl) (by rfl) (by rfl) (by rfl) (by rfl) e1 ?_
      exact g
    · refine Ev.bp rfl (fun c => ?_) (fun c => absurd hb1 c)
      (repeat refine Ev.p rfl rfl ?_)
      refine Ev.cv (by rfl) (by rfl) (by assumption) (by rfl) (by rfl) (by rfl) (by rfl) (by rfl) e1 ?_
      exact g
  by_cases hw : w1 = -4
  · obtain ⟨w2, I2, R2, e2, h2⟩ := u_see (X := X) h1 hP (-1) 0 true
    have e2 := e2.dp (d' := 60) (by omega)
    obtain ⟨I3, R3, e3, h3⟩ := ac_151 (X := X) (c := c) h2 hP h0 hn
    refine ⟨I3, R3, go ?_, h3⟩
    (repeat refine Ev.p rfl rfl ?_)
    refine Ev.bp rfl (fun c => absurd hw c) (fun c => ?_)
    (repeat refine Ev.p rfl rfl ?_)
    refine Ev.cv (by rfl) (by rfl) (by assumption) (by rfl) (by rfl) (by rfl) (by rfl) (by rfl) e2 ?_
    (repeat (first | (refine Ev.at (q := 151) rfl ?_; exact e3) | refine Ev.p rfl rfl ?_))
  · obtain ⟨I3, R3, e3, h3⟩ := ac_151 (X := X) (c := c) h1 hP h0 hn
    refine ⟨I3, R3, go ?_, h3⟩
    (repeat refine Ev.p rfl rfl ?_)
    refine Ev.bp rfl (fun c => ?_) (fun c => absurd hw c)
    (repeat (first | (refine Ev.at (q := 151) rfl ?_; exact e3) | refine Ev.p rfl rfl ?_))
theorem ac_219 (h : ST P m im K I R) (hP : Stb P) (h0 : 0 < n0) (hn : n0 ≤ 6) : AC X P m im K 219 n0 c I R := by
  have k0 := h.k0
  have s1 := l_some (X := X) (d := 60) (h := (K, I, R)) (c >>> ((4 : Int32) &&& 31)) (m := n0) h0 (by omega)
  obtain ⟨w1, I1, R1, e1, h1⟩ := u_plan (X := X) h hP ((c >>> ((3 : Int32) &&& 31)) &&& 3) (sm (c >>> ((4 : Int32) &&& 31)) n0)
  have e1 := e1.dp (d' := 60) (by omega)
  by_cases hw : w1 = -4
  · obtain ⟨w2, I2, R2, e2, h2⟩ := u_plan (X := X) h1 hP (-1) 0
    have e2 := e2.dp (d' := 60) (by omega)
    obtain ⟨I3, R3, e3, h3⟩ := ac_247 (X := X) (n0 := n0) (c := c) h2
    refine ⟨I3, R3, ?_, h3⟩
    (repeat refine Ev.p rfl rfl ?_)
    refine Ev.c rfl s1 ?_
    (repeat refine Ev.p rfl rfl ?_)
    refine Ev.cv (by rfl) (by rfl) (by assumption) (by rfl) (by rfl) (by rfl) (by rfl) (by rfl) e1 ?_
    (repeat refine Ev.p rfl rfl ?_)
    refine Ev.bp rfl (fun c => absurd hw c) (fun c => ?_)
    (repeat refine Ev.p rfl rfl ?_)
    refine Ev.cv (by rfl) (by rfl) (by assumption) (by rfl) (by rfl) (by rfl) (by rfl) (by rfl) e2 ?_
    (repeat (first | (refine Ev.at (q := 247) rfl ?_; exact e3) | refine Ev.p rfl rfl ?_))
  · obtain ⟨I3, R3, e3, h3⟩ := ac_247 (X := X) (n0 := n0) (c := c) h1
    refine ⟨I3, R3, ?_, h3⟩
    (repeat refine Ev.p rfl rfl ?_)
    refine Ev.c rfl s1 ?_
    (repeat refine Ev.p rfl rfl ?_)
    refine Ev.cv (by rfl) (by rfl) (by assumption) (by rfl) (by rfl) (by rfl) (by rfl) (by rfl) e1 ?_
    (repeat refine Ev.p rfl rfl ?_)
    refine Ev.bp rfl (fun c => ?_) (fun c => absurd hw c)
    (repeat (first | (refine Ev.at (q := 247) rfl ?_; exact e3) | refine Ev.p rfl rfl ?_))
theorem ac_188 (h : ST P m im K I R) (hP : Stb P) (h0 : 0 < n0) (hn : n0 ≤ 6) : AC X P m im K 188 n0 c I R := by
  have k0 := h.k0
  have s1 := l_some (X := X) (d := 60) (h := (K, I, R)) (c >>> ((2 : Int32) &&& 31)) (m := n0) h0 (by omega)
  have s2 := l_some (X := X) (d := 60) (h := (K, I, R)) (c >>> ((5 : Int32) &&& 31)) (m := 100) (by omega) (by omega)
  obtain ⟨w1, I1, R1, e1, h1⟩ := u_book (X := X) h hP (sm (c >>> ((2 : Int32) &&& 31)) n0) (sm (c >>> ((5 : Int32) &&& 31)) 100)
  have e1 := e1.dp (d' := 60) (by omega)
  by_cases hw : w1 = -4
  · obtain ⟨w2, I2, R2, e2, h2⟩ := u_book (X := X) h1 hP (-1) 0
    have e2 := e2.dp (d' := 60) (by omega)
    obtain ⟨I3, R3, e3, h3⟩ := ac_219 (X := X) (c := c) h2 hP h0 hn
    refine ⟨I3, R3, ?_, h3⟩
    (repeat refine Ev.p rfl rfl ?_)
    refine Ev.c rfl s1 ?_
    (repeat refine Ev.p rfl rfl ?_)
    refine Ev.c rfl s2 ?_
    (repeat refine Ev.p rfl rfl ?_)
    refine Ev.cv (by rfl) (by rfl) (by assumption) (by rfl) (by rfl) (by rfl) (by rfl) (by rfl) e1 ?_
    (repeat refine Ev.p rfl rfl ?_)
    refine Ev.bp rfl (fun c => absurd hw c) (fun c => ?_)
    (repeat refine Ev.p rfl rfl ?_)
    refine Ev.cv (by rfl) (by rfl) (by assumption) (by rfl) (by rfl) (by rfl) (by rfl) (by rfl) e2 ?_
    (repeat (first | (refine Ev.at (q := 219) rfl ?_; exact e3) | refine Ev.p rfl rfl ?_))
  · obtain ⟨I3, R3, e3, h3⟩ := ac_219 (X := X) (c := c) h1 hP h0 hn
    refine ⟨I3, R3, ?_, h3⟩
    (repeat refine Ev.p rfl rfl ?_)
    refine Ev.c rfl s1 ?_
    (repeat refine Ev.p rfl rfl ?_)
    refine Ev.c rfl s2 ?_
    (repeat refine Ev.p rfl rfl ?_)
    refine Ev.cv (by rfl) (by rfl) (by assumption) (by rfl) (by rfl) (by rfl) (by rfl) (by rfl) e1 ?_
    (repeat refine Ev.p rfl rfl ?_)
    refine Ev.bp rfl (fun c => ?_) (fun c => absurd hw c)
    (repeat (first | (refine Ev.at (q := 219) rfl ?_; exact e3) | refine Ev.p rfl rfl ?_))
/-- something from outside -/
theorem l_act (h : ST P m im K I R) (hP : Stb P) (h0 : 0 < n0) (hn : n0 ≤ 6) (c : Int32) : ∃ I1 R1, Ev X 61 kL_act 0 (ent kL_act [.ref 0, .int (nI n0), .int c]) [] (K, I, R) (none, (K, I1, R1)) ∧ ST P m im K I1 R1 := by
  obtain ⟨j, hj, ej⟩ := pk_andE c (m := 3) 2 (by decide)
  have go : ∀ {Z : Option Value × Hp}, Ev X 61 kL_act 3 [some (.ref 0), some (.int (nI n0)), some (.int c), none] [.int (nI j)] (K, I, R) Z → Ev X 61 kL_act 0 (ent kL_act [.ref 0, .int (nI n0), .int c]) [] (K, I, R) Z := by
    intro Z g
    rw [← ej] at g
    (repeat (first | (refine Ev.at (q := 3) rfl ?_; exact g) | refine Ev.p rfl rfl ?_))
  rcases (by omega : j = 0 ∨ j = 1 ∨ j = 2 ∨ j = 3) with rfl | rfl | rfl | rfl
  · obtain ⟨I3, R3, e3, h3⟩ := ac_28 (X := X) (c := c) h hP h0 hn
    exact ⟨I3, R3, go (by (repeat (first | (refine Ev.at (q := 28) rfl ?_; exact e3) | refine Ev.p rfl rfl ?_))), h3⟩
  · obtain ⟨I3, R3, e3, h3⟩ := ac_78 (X := X) (n0 := n0) (c := c) h hP
    exact ⟨I3, R3, go (by (repeat (first | (refine Ev.at (q := 78) rfl ?_; exact e3) | refine Ev.p rfl rfl ?_))), h3⟩
  · obtain ⟨I3, R3, e3, h3⟩ := ac_105 (X := X) (c := c) h hP h0 hn
    exact ⟨I3, R3, go (by (repeat (first | (refine Ev.at (q := 105) rfl ?_; exact e3) | refine Ev.p rfl rfl ?_))), h3⟩
  · obtain ⟨I3, R3, e3, h3⟩ := ac_188 (X := X) (c := c) h hP h0 hn
    exact ⟨I3, R3, go (by (repeat (first | (refine Ev.at (q := 188) rfl ?_; exact e3) | refine Ev.p rfl rfl ?_))), h3⟩
/-- a text told, then a station -/
theorem l_feeds (h : ST P m im K I R) (hP : Stb P) : ∃ (w : Int32) (K1 : List (Nat × Nat)) (I1 : Nat → Nat → Int32) (R1 : Nat → Nat → Option Nat), Ev X 61 kL_feeds 0 (ent kL_feeds [.ref 0, .retAddr 10, .int (nI (txt 10).length)]) [] (K, I, R) (some (.int w), (K1, I1, R1)) ∧ ST P (m + 1) im K1 I1 R1 := by
  obtain ⟨N, hN⟩ : ∃ N, N = (txt 10).length := ⟨_, rfl⟩
  have hN1 : N < 100 := by rw [hN]; decide
  have lp : ∀ mm k (I : Nat → Nat → Int32) (R : Nat → Nat → Option Nat), k + mm = N → ST P m im K I R → ∃ (w : Int32) (K1 : List (Nat × Nat)) (I1 : Nat → Nat → Int32) (R1 : Nat → Nat → Option Nat), Ev X 61 kL_feeds 2 [some (.ref 0), some (.retAddr 10), some (.int (nI N)), some (.int (nI k))] [] (K, I, R) (some (.int w), (K1, I1, R1)) ∧ ST P (m + 1) im K1 I1 R1 := by
    intro mm
    induction mm with
    | zero =>
      intro k I R hk h
      have e0 : k = N := by omega
      have k0 := h.k0
      obtain ⟨w, K1, I1, R1, e1, h1⟩ := u_station (X := X) h hP
      have e1 := e1.dp (d' := 60) (by omega)
      refine ⟨w, K1, I1, R1, ?_, h1⟩
      rw [e0]
      (repeat refine Ev.p rfl rfl ?_)
      refine Ev.bp rfl (fun c => ?_) (fun c => absurd (Int32.le_refl _) c)
      (repeat refine Ev.p rfl rfl ?_)
      refine Ev.cv (by rfl) (by rfl) (by assumption) (by rfl) (by rfl) (by rfl) (by rfl) (by rfl) e1 ?_
      ((repeat refine Ev.p rfl rfl ?_); exact Ev.r rfl)
    | succ mm ih =>
      intro k I R hk h
      have k0 := h.k0
      have j1 := j_charAt (X := X) (d := 57) (i := 10) (by omega) (K, I, R) (j := k) (by omega)
      obtain ⟨w, I1, R1, e1, h1⟩ := u_feed (X := X) h hP ((txt 10).getD k 0)
      have e1 := e1.dp (d' := 60) (by omega)
      obtain ⟨w2, K2, I2, R2, e2, h2⟩ := ih (k + 1) I1 R1 (by omega) h1
      refine ⟨w2, K2, I2, R2, ?_, h2⟩
      rw [nI_succ k] at e2
      (repeat refine Ev.p rfl rfl ?_)
      refine Ev.bp rfl (fun c => absurd c (nI_ge (by omega) (by omega))) (fun c => ?_)
      (repeat refine Ev.p rfl rfl ?_)
      refine Ev.c rfl j1 ?_
      (repeat refine Ev.p rfl rfl ?_)
      refine Ev.cv (by rfl) (by rfl) (by assumption) (by rfl) (by rfl) (by rfl) (by rfl) (by rfl) e1 ?_
      (repeat (first | (refine Ev.at (q := 2) rfl ?_; exact e2) | refine Ev.p rfl rfl ?_))
  obtain ⟨w, K1, I1, R1, e1, h1⟩ := lp N 0 I R (by omega) h
  refine ⟨w, K1, I1, R1, ?_, h1⟩
  rw [← hN]
  (repeat (first | (refine Ev.at (q := 2) rfl ?_; exact e1) | refine Ev.p rfl rfl ?_))
end ACTL
