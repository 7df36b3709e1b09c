/-! THE REFERENCE: talk, pass, on, when -/
def rPs (s : Nat → Int32) (n : Nat) (cls : Cls) (du fd : Int32) : Nat → (Nat → Int32)
  | 0 => s
  | k + 1 => rGo (rPs s n cls du fd k) n cls du fd none
theorem rPs_al {s : Nat → Int32} {n : Nat} (hn6 : n ≤ 6) (cls : Cls) (du fd : Int32) (k : Nat) : AL s (rPs s n cls du fd k) := by
  induction k with
  | zero => exact fun _ _ => rfl
  | succ k ih => exact ih.tr (rGo_al (tk := none) (x := -1) hn6 cls du fd (by show (-1 : Int32) < 0; decide))
theorem rPs_V {s : Nat → Int32} {n : Nat} {hd : Option Nat} {cls : Cls} {e : Nat} (hv : SV s n hd cls e) (du fd : Int32) : ∀ k, e + k < 1000000 → SV (rPs s n cls du fd k) n hd cls (e + k) := by
  intro k
  induction k with
  | zero => intro _; exact hv
  | succ k ih => intro h; exact rGo_V (tk := none) (x := -1) (ih (by omega)) (by omega) du fd (by show (-1 : Int32) < 0; decide)
/-- COST and AGE stay below where they would be held -/
def cap (u : Nat → Int32) (n : Nat) : Prop := ¬ (999999 : Int32) < u 1 ∧ ∀ q, q < n → ¬ (9999 : Int32) < u (2 + q)
theorem DF.mf {I I' : Nat → Nat → Int32} {s u : Nat → Int32} {hd : Option Nat} {du fd : Int32} (h : DF I s hd du fd) (ha : AL s u) (hM : MF I I') : DF I' u hd du fd := by
  refine ⟨?_, ?_⟩
  · rw [ha.T (by omega), hM.2.2.2.2.2.1]; exact h.1
  · rw [ha.T (by omega)]; exact h.2
theorem mix_back {s u : Nat → Int32} (g : Nat → Int32) (h : AL s u) : mixf (mixf s g 26) u 26 = s := by
  funext j
  unfold mixf
  by_cases hj : j < 26
  · rw [if_pos hj, if_pos hj]
  · rw [if_neg hj]; exact h j (by omega)
section ASK
variable {X : Nat × (Nat → Int32)} {d : Nat} {T : List (Nat × Nat)} {I : Nat → Nat → Int32} {G : Nat → Nat → Option Nat} {s : Nat → Int32} {n p : Nat} {hd : Option Nat} {cls : Cls} {e : Nat} {du fd : Int32}
theorem m_talk (hI : I 141 = s) (hv : SV s n hd cls e) (hdf : DF I s hd du fd) (x : Int32) :
    ((x = -1 ∨ isM n x) → e = 9999 → Ev X (d + 5) kX12_talk 0 (ent kX12_talk [.ref 140, .int x]) [] (K0 ++ T, I, RS G) (some (.int (-3)), (K0 ++ T, I, RS G))) ∧
    (∀ tk, (x = -1 ∨ isM n x) → e ≠ 9999 → tkV tk n x → cap (rGo s n cls du fd tk) n → ∃ I', Ev X (d + 5) kX12_talk 0 (ent kX12_talk [.ref 140, .int x]) [] (K0 ++ T, I, RS G) (some (.int (rSO (rGo s n cls du fd tk) n)), (K0 ++ T, I', RS G)) ∧ I' 141 = rGo s n cls du fd tk ∧ MF I I') ∧
    (x ≠ -1 → ¬ isM n x → Ev X (d + 5) kX12_talk 0 (ent kX12_talk [.ref 140, .int x]) [] (K0 ++ T, I, RS G) (some (.int (-1)), (K0 ++ T, I, RS G))) := by
  have hn := hv.1
  have hn6 := hv.2.1
  have he := hv.2.2.2.1
  have he2 := hv.2.2.2.2.1
  have go : ∀ {R : Option Value × Hp}, (x = -1 ∨ isM n x) → Ev X (d + 5) kX12_talk 15 [some (.ref 140), some (.int x)] [] (K0 ++ T, I, RS G) R → Ev X (d + 5) kX12_talk 0 (ent kX12_talk [.ref 140, .int x]) [] (K0 ++ T, I, RS G) R := by
    intro R h g
    (repeat refine Ev.p rfl rfl ?_)
    refine Ev.bp rfl (fun c => ?_) (fun c => ?_)
    · (repeat (first | (refine Ev.at (q := 15) rfl ?_; exact g) | refine Ev.p rfl rfl ?_))
    · have h2 : isM n x := h.resolve_left c
      (repeat refine Ev.p rfl rfl ?_)
      refine Ev.c rfl ((m_isM hI hn x).1 h2) ?_
      (repeat (first | (refine Ev.at (q := 15) rfl ?_; exact g) | refine Ev.p rfl rfl ?_))
  refine ⟨fun h he9 => ?_, fun tk h he9 hx hc => ?_, fun h1 h2 => ?_⟩
  · refine go h ?_
    (repeat refine Ev.p rfl rfl ?_)
    (refine Ev.iald (j := 0) rfl rfl rfl (by omega) (by omega) ?_; rw [hI])
    rw [he, he9]
    ((repeat refine Ev.p rfl rfl ?_); exact Ev.r rfl)
  · obtain ⟨J, e1, e2, e3⟩ := m_goes (X := X) (d := d) (T := T) (G := G) hI hv hdf hx
    have al := rGo_al (s := s) hn6 cls du fd hx
    have hN : rGo s n cls du fd tk 26 = nI n := (al 26 (by omega)).trans hn
    obtain ⟨I', f1, f2, f3⟩ := m_holds (X := X) (d := d + 4) (T := T) (G := G) e2 hN hn6 hc.1 hc.2
    refine ⟨I', ?_, f2, (PG.f e3).tr f3⟩
    refine go h ?_
    (repeat refine Ev.p rfl rfl ?_)
    (refine Ev.iald (j := 0) rfl rfl rfl (by omega) (by omega) ?_; rw [hI])
    rw [he]
    (repeat refine Ev.p rfl rfl ?_)
    refine Ev.bp rfl (fun c => ?_) (fun c => ?_)
    · (repeat refine Ev.p rfl rfl ?_)
      refine Ev.c rfl e1 ?_
      (repeat refine Ev.p rfl rfl ?_)
      refine Ev.c rfl f1 ?_
      (repeat refine Ev.p rfl rfl ?_)
      refine Ev.c rfl (m_settledOnes f2 hN hn6) ?_
      ((repeat refine Ev.p rfl rfl ?_); exact Ev.r rfl)
    · exact absurd ((nI_eq (b := 9999) (by omega) (by omega)).mp (Decidable.not_not.mp c)) he9
  · (repeat refine Ev.p rfl rfl ?_)
    refine Ev.bp rfl (fun c => ?_) (fun c => ?_)
    · exact absurd c h1
    · (repeat refine Ev.p rfl rfl ?_)
      refine Ev.c rfl ((m_isM hI hn x).2 h2) ?_
      ((repeat refine Ev.p rfl rfl ?_); exact Ev.r rfl)
theorem m_pass (hI : I 141 = s) (hv : SV s n hd cls e) (hdf : DF I s hd du fd) (x : Int32) :
    (¬ (0 ≤ x ∧ x ≤ 60) → Ev X (d + 5) kX12_pass 0 (ent kX12_pass [.ref 140, .int x]) [] (K0 ++ T, I, RS G) (some (.int (-2)), (K0 ++ T, I, RS G))) ∧
    (∀ k, k ≤ 60 → x = nI k → 9999 < e + k → Ev X (d + 5) kX12_pass 0 (ent kX12_pass [.ref 140, .int x]) [] (K0 ++ T, I, RS G) (some (.int (-3)), (K0 ++ T, I, RS G))) ∧
    (∀ k, k ≤ 60 → x = nI k → e + k ≤ 9999 → (∀ j, j ≤ k → cap (rPs s n cls du fd j) n) → ∃ I', Ev X (d + 5) kX12_pass 0 (ent kX12_pass [.ref 140, .int x]) [] (K0 ++ T, I, RS G) (some (.int (nI (e + k))), (K0 ++ T, I', RS G)) ∧ I' 141 = rPs s n cls du fd k ∧ MF I I') := by
  have hn := hv.1
  have hn6 := hv.2.1
  have he := hv.2.2.2.1
  have he2 := hv.2.2.2.2.1
  refine ⟨fun h => ?_, fun k hk hx h9 => ?_, fun k hk hx h9 hc => ?_⟩
  · (repeat refine Ev.p rfl rfl ?_)
    refine Ev.c rfl (m_in _ _ _ _) ?_
    rw [if_neg h]
    ((repeat refine Ev.p rfl rfl ?_); exact Ev.r rfl)
  · subst hx
    (repeat refine Ev.p rfl rfl ?_)
    refine Ev.c rfl (m_in _ _ _ _) ?_
    rw [if_pos ⟨nI_pos' (by omega), nI_le (b := 60) hk (by omega)⟩]
    (repeat refine Ev.p rfl rfl ?_)
    (refine Ev.iald (j := 0) rfl rfl rfl (by omega) (by omega) ?_; rw [hI])
    rw [he]
    iterate 2 refine Ev.p rfl rfl ?_
    rw [nI_add]
    (repeat refine Ev.p rfl rfl ?_)
    refine Ev.bp rfl (fun c => ?_) (fun c => ?_)
    · exact absurd c (nI_ge (a := 9999) h9 (by omega))
    · ((repeat refine Ev.p rfl rfl ?_); exact Ev.r rfl)
  · subst hx
    have lp : ∀ m q (J : Nat → Nat → Int32), q + m = k → J 141 = rPs s n cls du fd q → MF I J → ∃ I', Ev X (d + 5) kX12_pass 32 [some (.ref 140), some (.int (nI k)), some (.int (nI q))] [] (K0 ++ T, J, RS G) (some (.int (nI (e + k))), (K0 ++ T, I', RS G)) ∧ I' 141 = rPs s n cls du fd k ∧ MF I I' := by
      intro m
      induction m with
      | zero =>
        intro q J hq h1 h2
        have e : q = k := by omega
        subst e
        refine ⟨J, ?_, h1, h2⟩
        (repeat refine Ev.p rfl rfl ?_)
        refine Ev.bp rfl (fun c => ?_) (fun c => ?_)
        · (repeat refine Ev.p rfl rfl ?_)
          (refine Ev.iald (j := 0) rfl rfl rfl (by omega) (by omega) ?_; rw [h1, (rPs_V hv du fd q (by omega)).2.2.2.1])
          ((repeat refine Ev.p rfl rfl ?_); exact Ev.r rfl)
        · exact absurd (Int32.le_refl _) c
      | succ m ih =>
        intro q J hq h1 h2
        have v1 := rPs_V hv du fd q (by omega)
        have v2 := rPs_V hv du fd (q + 1) (by omega)
        obtain ⟨J2, g1, g2, g3⟩ := m_goes (X := X) (d := d) (T := T) (G := G) (tk := none) (x := -1) h1 v1 (hdf.mf (rPs_al hn6 cls du fd q) h2) (by show (-1 : Int32) < 0; decide)
        have hcq := hc (q + 1) (by omega)
        obtain ⟨J3, f1, f2, f3⟩ := m_holds (X := X) (d := d + 4) (T := T) (G := G) g2 v2.1 hn6 hcq.1 hcq.2
        obtain ⟨I', e1, e2⟩ := ih (q + 1) J3 (by omega) f2 ((h2.tr (PG.f g3)).tr f3)
        refine ⟨I', ?_, e2⟩
        rw [nI_succ] at e1
        (repeat refine Ev.p rfl rfl ?_)
        refine Ev.bp rfl (fun c => ?_) (fun c => ?_)
        · exact absurd c (nI_ge (by omega) (by omega))
        · (repeat refine Ev.p rfl rfl ?_)
          refine Ev.c rfl g1 ?_
          (repeat refine Ev.p rfl rfl ?_)
          refine Ev.c rfl f1 ?_
          (repeat (first | (refine Ev.at (q := 32) rfl ?_; exact e1) | refine Ev.p rfl rfl ?_))
    obtain ⟨I', e1, e2⟩ := lp k 0 I (by omega) hI (MF.rf I)
    refine ⟨I', ?_, e2⟩
    (repeat refine Ev.p rfl rfl ?_)
    refine Ev.c rfl (m_in _ _ _ _) ?_
    rw [if_pos ⟨nI_pos' (by omega), nI_le (b := 60) hk (by omega)⟩]
    (repeat refine Ev.p rfl rfl ?_)
    (refine Ev.iald (j := 0) rfl rfl rfl (by omega) (by omega) ?_; rw [hI])
    rw [he]
    iterate 2 refine Ev.p rfl rfl ?_
    rw [nI_add]
    (repeat refine Ev.p rfl rfl ?_)
    refine Ev.bp rfl (fun c => ?_) (fun c => ?_)
    · (repeat (first | (refine Ev.at (q := 32) rfl ?_; exact e1) | refine Ev.p rfl rfl ?_))
    · exact absurd (nI_le (b := 9999) h9 (by omega)) c
/-- what is kept is back -/
theorem m_back {J : Nat → Nat → Int32} {u g : Nat → Int32} (hJ : J 141 = u) (ha : AL s u) (h5 : J 143 = mixf s g 26) (hM : MF I J) : ∃ I', Ev X d kX12_goesBack 0 (ent kX12_goesBack [.ref 140]) [] (K0 ++ T, J, RS G) (none, (K0 ++ T, I', RS G)) ∧ I' 141 = s ∧ MF I I' := by
  obtain ⟨I', e1, e2, e3⟩ := m_goesBack (X := X) (d := d) (T := T) (G := G) (I := J)
  refine ⟨I', e1, ?_, hM.tr e3⟩
  rw [e2, h5, hJ]
  exact mix_back g ha
def rOnV (u : Nat → Int32) (n : Nat) (w : Nat) : Int32 := if w = 0 then rSO u n else if w = 1 then u 1 else u (8 + (w - 10))
theorem m_on (hI : I 141 = s) (hv : SV s n hd cls e) (hdf : DF I s hd du fd) (he : e ≤ 9999) (x y : Int32) :
    (¬ ((0 ≤ y ∧ y ≤ 1) ∨ isM n (y - 10)) → Ev X (d + 6) kX12_on 0 (ent kX12_on [.ref 140, .int x, .int y]) [] (K0 ++ T, I, RS G) (some (.int (-1)), (K0 ++ T, I, RS G))) ∧
    (((0 ≤ y ∧ y ≤ 1) ∨ isM n (y - 10)) → ¬ (0 ≤ x ∧ x ≤ 60) → Ev X (d + 6) kX12_on 0 (ent kX12_on [.ref 140, .int x, .int y]) [] (K0 ++ T, I, RS G) (some (.int (-2)), (K0 ++ T, I, RS G))) ∧
    (∀ k w, (w = 0 ∨ w = 1 ∨ ∃ p, p < n ∧ w = 10 + p) → y = nI w → k ≤ 60 → x = nI k → ∃ I', Ev X (d + 6) kX12_on 0 (ent kX12_on [.ref 140, .int x, .int y]) [] (K0 ++ T, I, RS G) (some (.int (rOnV (rOn s n cls du fd k) n w)), (K0 ++ T, I', RS G)) ∧ I' 141 = s ∧ MF I I') := by
  have hn := hv.1
  have hn6 := hv.2.1
  have go : ∀ {R : Option Value × Hp}, ((0 ≤ y ∧ y ≤ 1) ∨ isM n (y - 10)) → Ev X (d + 6) kX12_on 22 [some (.ref 140), some (.int x), some (.int y), none] [] (K0 ++ T, I, RS G) R → Ev X (d + 6) kX12_on 0 (ent kX12_on [.ref 140, .int x, .int y]) [] (K0 ++ T, I, RS G) R := by
    intro R h g
    (repeat refine Ev.p rfl rfl ?_)
    refine Ev.c rfl (m_in _ _ _ _) ?_
    by_cases h1 : 0 ≤ y ∧ y ≤ 1
    · rw [if_pos h1]
      (repeat (first | (refine Ev.at (q := 22) rfl ?_; exact g) | refine Ev.p rfl rfl ?_))
    · rw [if_neg h1]
      (repeat refine Ev.p rfl rfl ?_)
      refine Ev.c rfl ((m_isM hI hn _).1 (h.resolve_left h1)) ?_
      (repeat (first | (refine Ev.at (q := 22) rfl ?_; exact g) | refine Ev.p rfl rfl ?_))
  refine ⟨fun h => ?_, fun h h2 => ?_, fun k w hw hy hk hx => ?_⟩
  · (repeat refine Ev.p rfl rfl ?_)
    refine Ev.c rfl (m_in _ _ _ _) ?_
    rw [if_neg (fun g => h (Or.inl g))]
    (repeat refine Ev.p rfl rfl ?_)
    refine Ev.c rfl ((m_isM hI hn _).2 (fun g => h (Or.inr g))) ?_
    ((repeat refine Ev.p rfl rfl ?_); exact Ev.r rfl)
  · refine go h ?_
    (repeat refine Ev.p rfl rfl ?_)
    refine Ev.c rfl (m_in _ _ _ _) ?_
    rw [if_neg h2]
    ((repeat refine Ev.p rfl rfl ?_); exact Ev.r rfl)
  · subst hx
    have hy2 : (0 ≤ y ∧ y ≤ 1) ∨ isM n (y - 10) := by
      subst hy
      rcases hw with rfl | rfl | ⟨p, hp, rfl⟩
      · exact Or.inl (by decide)
      · exact Or.inl (by decide)
      · refine Or.inr ((isM_iff hn6).mpr ⟨p, hp, ?_⟩)
        have := pk_sub (a := 10 + p) (b := 10) (by omega)
        rw [show 10 + p - 10 = p by omega] at this
        exact this
    obtain ⟨J, a1, a2, a3, a4⟩ := m_keeps (X := X) (d := d + 5) (T := T) (I := I) (G := G)
    obtain ⟨J2, b1, b2, b3⟩ := m_goesOn (X := X) (d := d) (T := T) (G := G) (a2.trans hI) hv (hdf.mf (fun _ _ => rfl) a3) k (by omega)
    have hal : AL s (rOn s n cls du fd k) := rOn_al hn6 cls du fd k
    have hN : rOn s n cls du fd k 26 = nI n := (hal 26 (by omega)).trans hn
    obtain ⟨I', c1, c2, c3⟩ := m_back (X := X) (d := d + 5) (T := T) (I := I) (G := G) (s := s) (g := I 143) b2 hal (by rw [b3 143 (by unfold PG; omega), a4, hI]) (a3.tr (PG.f b3))
    refine ⟨I', ?_, c2, c3⟩
    have k81 : Ev X (d + 6) kX12_on 81 [some (.ref 140), some (.int (nI k)), some (.int y), none] [.int (rOnV (rOn s n cls du fd k) n w)] (K0 ++ T, J2, RS G) (some (.int (rOnV (rOn s n cls du fd k) n w)), (K0 ++ T, I', RS G)) := by
      (repeat refine Ev.p rfl rfl ?_)
      refine Ev.c rfl c1 ?_
      ((repeat refine Ev.p rfl rfl ?_); exact Ev.r rfl)
    refine go hy2 ?_
    (repeat refine Ev.p rfl rfl ?_)
    refine Ev.c rfl (m_in _ _ _ _) ?_
    rw [if_pos ⟨nI_pos' (by omega), nI_le (b := 60) hk (by omega)⟩]
    (repeat refine Ev.p rfl rfl ?_)
    refine Ev.c rfl a1 ?_
    (repeat refine Ev.p rfl rfl ?_)
    refine Ev.c rfl b1 ?_
    subst hy
    rcases hw with rfl | rfl | ⟨p, hp, rfl⟩
    · (repeat refine Ev.p rfl rfl ?_)
      refine Ev.c rfl (m_settledOnes b2 hN hn6) ?_
      (repeat (first | (refine Ev.at (q := 81) rfl ?_; exact k81) | refine Ev.p rfl rfl ?_))
    · (repeat refine Ev.p rfl rfl ?_)
      (refine Ev.iald (j := 1) rfl rfl rfl (by omega) (by omega) ?_; rw [b2])
      (repeat (first | (refine Ev.at (q := 81) rfl ?_; exact k81) | refine Ev.p rfl rfl ?_))
    · (repeat refine Ev.p rfl rfl ?_)
      refine Ev.bp rfl (fun c => ?_) (fun c => ?_)
      · (repeat refine Ev.p rfl rfl ?_)
        refine Ev.bp rfl (fun c2 => ?_) (fun c2 => ?_)
        · (repeat refine Ev.p rfl rfl ?_)
          have hi : (8 : Int32) + nI (10 + p) - 10 = nI (8 + p) := by
            rw [show (8 : Int32) = nI 8 from rfl, nI_add]
            have := pk_sub (a := 8 + (10 + p)) (b := 10) (by omega)
            rw [show 8 + (10 + p) - 10 = 8 + p by omega] at this
            exact this
          (refine Ev.iald (j := 8 + p) rfl rfl hi (by omega) (by omega) ?_; rw [b2])
          have e9 : rOnV (rOn s n cls du fd k) n (10 + p) = rOn s n cls du fd k (8 + p) := by
            unfold rOnV
            rw [if_neg (by omega), if_neg (by omega), show 10 + p - 10 = p by omega]
          rw [e9] at k81 ⊢
          (repeat (first | (refine Ev.at (q := 81) rfl ?_; exact k81) | refine Ev.p rfl rfl ?_))
        · exact absurd ((nI_eq (a := 10 + p) (b := 1) (by omega) (by omega)).mp (Decidable.not_not.mp c2)) (by omega)
      · exact absurd ((nI_eq (a := 10 + p) (b := 0) (by omega) (by omega)).mp (Decidable.not_not.mp c)) (by omega)
/-- the first of the evenings up to m behind which f holds -/
def fst (f : Nat → Bool) : Nat → Nat → Option Nat
  | 0, _ => none
  | m + 1, q => if f q = true then some q else fst f m (q + 1)
def rSet (s : Nat → Int32) (n : Nat) (cls : Cls) (du fd : Int32) (p : Nat) (k : Nat) : Bool := decide (rOn s n cls du fd k (14 + p) = 1)
theorem m_when (hI : I 141 = s) (hv : SV s n hd cls e) (hdf : DF I s hd du fd) (he : e ≤ 9999) (x : Int32) :
    (¬ isM n x → Ev X (d + 6) kX12_when 0 (ent kX12_when [.ref 140, .int x]) [] (K0 ++ T, I, RS G) (some (.int (-1)), (K0 ++ T, I, RS G))) ∧
    (∀ p, p < n → x = nI p → ∃ I', Ev X (d + 6) kX12_when 0 (ent kX12_when [.ref 140, .int x]) [] (K0 ++ T, I, RS G) (some (.int (tv (fst (rSet s n cls du fd p) 61 0))), (K0 ++ T, I', RS G)) ∧ I' 141 = s ∧ MF I I') := by
  have hn := hv.1
  have hn6 := hv.2.1
  refine ⟨fun h => ?_, fun p hp hx => ?_⟩
  · (repeat refine Ev.p rfl rfl ?_)
    refine Ev.c rfl ((m_isM hI hn x).2 h) ?_
    ((repeat refine Ev.p rfl rfl ?_); exact Ev.r rfl)
  · subst hx
    obtain ⟨J, a1, a2, a3, a4⟩ := m_keeps (X := X) (d := d + 5) (T := T) (I := I) (G := G)
    have lp : ∀ m q (J2 : Nat → Nat → Int32), q + m = 61 → J2 141 = rOn s n cls du fd q → FR PG J J2 → ∃ I', Ev X (d + 6) kX12_when 19 [some (.ref 140), some (.int (nI p)), some (.int (-5)), some (.int (nI q))] [] (K0 ++ T, J2, RS G) (some (.int (tv (fst (rSet s n cls du fd p) m q))), (K0 ++ T, I', RS G)) ∧ I' 141 = s ∧ MF I I' := by
      have fin : ∀ (q : Nat) (r : Int32) (J2 : Nat → Nat → Int32), J2 141 = rOn s n cls du fd q → FR PG J J2 → ∃ I', (∀ y : Int32, Ev X (d + 6) kX12_when 62 [some (.ref 140), some (.int (nI p)), some (.int r), some (.int y)] [] (K0 ++ T, J2, RS G) (some (.int r), (K0 ++ T, I', RS G))) ∧ I' 141 = s ∧ MF I I' := by
        intro q r J2 h1 h2
        obtain ⟨I', c1, c2, c3⟩ := m_back (X := X) (d := d + 5) (T := T) (I := I) (G := G) (s := s) (g := I 143) h1 (rOn_al hn6 cls du fd q) (by rw [h2 143 (by unfold PG; omega), a4, hI]) (a3.tr (PG.f h2))
        refine ⟨I', fun y => ?_, c2, c3⟩
        (repeat refine Ev.p rfl rfl ?_)
        refine Ev.c rfl c1 ?_
        ((repeat refine Ev.p rfl rfl ?_); exact Ev.r rfl)
      intro m
      induction m with
      | zero =>
        intro q J2 hq h1 h2
        have e : q = 61 := by omega
        subst e
        obtain ⟨I', c1, c2⟩ := fin 61 (-5) J2 h1 h2
        refine ⟨I', ?_, c2⟩
        (repeat (first | (refine Ev.at (q := 62) rfl ?_; exact (c1 _)) | refine Ev.p rfl rfl ?_))
      | succ m ih =>
        intro q J2 hq h1 h2
        have v1 := rOn_V hv du fd q (by omega)
        have hdf2 : DF J2 (rOn s n cls du fd q) hd du fd := (hdf.mf (fun _ _ => rfl) a3).al (rOn_al hn6 cls du fd q) h2
        obtain ⟨J3, b1, b2, b3⟩ := m_goesOn (X := X) (d := d) (T := T) (G := G) h1 v1 hdf2 1 (by omega)
        by_cases hs : rOn s n cls du fd q (14 + p) = 1
        · obtain ⟨I', c1, c2⟩ := fin (q + 1) (nI q) J3 b2 (h2.tr b3)
          refine ⟨I', ?_, c2⟩
          rw [show fst (rSet s n cls du fd p) (m + 1) q = some q from by unfold fst; rw [if_pos (by unfold rSet; exact decide_eq_true hs)]]
          (repeat refine Ev.p rfl rfl ?_)
          refine Ev.bp rfl (fun c => ?_) (fun c => ?_)
          · exact absurd c (nI_nlt (a := 60) (b := q) (by omega) (by omega))
          · (repeat refine Ev.p rfl rfl ?_)
            (refine Ev.iald (j := 14 + p) rfl rfl (nI_add 14 p) (by omega) (by omega) ?_; rw [h1])
            (repeat refine Ev.p rfl rfl ?_)
            refine Ev.bp rfl (fun c => ?_) (fun c => ?_)
            · exact absurd hs c
            · ((repeat refine Ev.p rfl rfl ?_); refine Ev.ls (ls2 := [_, _, _, _]) rfl ?_)
              refine Ev.c rfl b1 ?_
              ((repeat refine Ev.p rfl rfl ?_); refine Ev.ls (ls2 := [_, _, _, _]) rfl ?_)
              refine Ev.bp rfl (fun c => ?_) (fun c => ?_)
              · (repeat (first | (refine Ev.at (q := 62) rfl ?_; exact (c1 _)) | refine Ev.p rfl rfl ?_))
              · (repeat refine Ev.p rfl rfl ?_)
                refine Ev.bp rfl (fun c2 => ?_) (fun c2 => ?_)
                · (repeat (first | (refine Ev.at (q := 62) rfl ?_; exact (c1 _)) | refine Ev.p rfl rfl ?_))
                · exact absurd (Decidable.not_not.mp c2) (fun h => absurd (nI_pos' (n := q) (by omega)) (by rw [h]; decide))
        · obtain ⟨I', c1, c2⟩ := ih (q + 1) J3 (by omega) b2 (h2.tr b3)
          refine ⟨I', ?_, c2⟩
          rw [nI_succ] at c1
          rw [show fst (rSet s n cls du fd p) (m + 1) q = fst (rSet s n cls du fd p) m (q + 1) from by rw [fst, if_neg (by unfold rSet; rw [decide_eq_false hs]; decide)]]
          (repeat refine Ev.p rfl rfl ?_)
          refine Ev.bp rfl (fun c => ?_) (fun c => ?_)
          · exact absurd c (nI_nlt (a := 60) (b := q) (by omega) (by omega))
          · (repeat refine Ev.p rfl rfl ?_)
            (refine Ev.iald (j := 14 + p) rfl rfl (nI_add 14 p) (by omega) (by omega) ?_; rw [h1])
            (repeat refine Ev.p rfl rfl ?_)
            refine Ev.bp rfl (fun c => ?_) (fun c => ?_)
            · ((repeat refine Ev.p rfl rfl ?_); refine Ev.ls (ls2 := [_, _, _, _]) rfl ?_)
              refine Ev.c rfl b1 ?_
              (repeat (first | (refine Ev.at (q := 19) rfl ?_; exact c1) | refine Ev.p rfl rfl ?_))
            · exact absurd (Decidable.not_not.mp c) hs
    obtain ⟨I', e1, e2⟩ := lp 61 0 J (by omega) (a2.trans hI) (FR.rf J)
    refine ⟨I', ?_, e2⟩
    (repeat refine Ev.p rfl rfl ?_)
    refine Ev.c rfl ((m_isM hI hn _).1 ((isM_iff hn6).mpr ⟨p, hp, rfl⟩)) ?_
    (repeat refine Ev.p rfl rfl ?_)
    refine Ev.c rfl a1 ?_
    (repeat (first | (refine Ev.at (q := 19) rfl ?_; exact e1) | refine Ev.p rfl rfl ?_))
end ASK
