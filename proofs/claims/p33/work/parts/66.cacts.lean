/-! THE CLASS: acts -/
def TCc (J : Nat → Nat → Int32) (rc : Nat) (l : List Int32) : Prop := J rc 0 = nI l.length ∧ ∀ (i : Nat) (x : Int32), l[i]? = some x → i < 20 → J rc (i + 1) = x
/-- a MATTER as acts look at it -/
def MK (K : List (Nat × Nat)) (I : Nat → Nat → Int32) (R : Nat → Nat → Option Nat) (m rc kk : Nat) (nu v : Int32) : Prop := kk ≤ 6 ∧ K[m]? = some (kt kk, 4) ∧ I m 0 = nu ∧ I m 2 = v ∧ R m 3 = some rc ∧ K[rc]? = some (20, 21)
section CACTS
variable {X : Nat × (Nat → Int32)} {d : Nat} {K : List (Nat × Nat)} {I : Nat → Nat → Int32} {R : Nat → Nat → Option Nat} {m rc kk : Nat} {nu v : Int32} {l : List Int32}
theorem MK.fr (h : MK K I R m rc kk nu v) {I' : Nat → Nat → Int32} (hf : FR (fun c => c = rc) I I') : MK K I' R m rc kk nu v := by
  obtain ⟨h1, h2, h3, h4, h5, h6⟩ := h
  have hne : m ≠ rc := fun g => by rw [g, h6] at h2; exact absurd (congrArg Prod.snd (Option.some.inj h2)) (show ¬ (21 : Nat) = 4 by decide)
  exact ⟨h1, h2, by rw [hf m hne]; exact h3, by rw [hf m hne]; exact h4, h5, h6⟩
theorem c_begin (h : MK K I R m rc kk nu v) (hT : TCc I rc l) (hl : l.length < 20) (x : Int32) : ∃ I', Ev X d kX6_begin 0 (ent kX6_begin [.ref m, .int x]) [] (K, I, R) (none, (K, I', R)) ∧ TCc I' rc (l ++ [x]) ∧ FR (fun c => c = rc) I I' := by
  obtain ⟨h1, h2, h3, h4, h5, h6⟩ := h
  obtain ⟨t0, t1⟩ := hT
  refine ⟨upI (upI I rc (l.length + 1) x) rc 0 (nI (l.length + 1)), ?_, ⟨?_, fun i y hi h20 => ?_⟩, (FR.up (P := fun c => c = rc) rfl).tr (FR.up (P := fun c => c = rc) rfl)⟩
  · rcases (by omega : kk = 0 ∨ kk = 1 ∨ kk = 2 ∨ kk = 3 ∨ kk = 4 ∨ kk = 5 ∨ kk = 6) with rfl | rfl | rfl | rfl | rfl | rfl | rfl
    all_goals
      (repeat (first | refine Ev.p rfl rfl ?_ | refine Ev.gr (by rfl) (by rfl) (by assumption) (by rfl) (by assumption) ?_ | refine Ev.gi (by rfl) (by rfl) (by assumption) (by rfl) (by assumption) ?_))
      (refine Ev.iald (j := 0) (by rfl) (by assumption) (by rfl) (by omega) (by omega) ?_; rw [t0])
      iterate 2 refine Ev.p rfl rfl ?_
      rw [nI_1]
      (repeat refine Ev.p rfl rfl ?_)
      refine Ev.bp rfl (fun c => absurd c (nI_nle (by omega) (by omega))) (fun c => ?_)
      (repeat (first | refine Ev.p rfl rfl ?_ | refine Ev.gr (by rfl) (by rfl) (by assumption) (by rfl) (by assumption) ?_ | refine Ev.gi (by rfl) (by rfl) (by assumption) (by rfl) (by assumption) ?_))
      refine Ev.alen (by rfl) (by assumption) (by rfl) ?_
      (repeat refine Ev.p rfl rfl ?_)
      refine Ev.bp rfl (fun c => absurd c (nI_ge (by omega) (by omega))) (fun c => ?_)
      (repeat (first | refine Ev.p rfl rfl ?_ | refine Ev.gr (by rfl) (by rfl) (by assumption) (by rfl) (by assumption) ?_ | refine Ev.gi (by rfl) (by rfl) (by assumption) (by rfl) (by assumption) ?_))
      refine Ev.iast (j := l.length + 1) (by rfl) (by assumption) (by rfl) (by omega) (by omega) ?_
      (repeat (first | refine Ev.p rfl rfl ?_ | refine Ev.gr (by rfl) (by rfl) (by assumption) (by rfl) (by assumption) ?_ | refine Ev.gi (by rfl) (by rfl) (by assumption) (by rfl) (by assumption) ?_))
      refine Ev.iast (j := 0) (by rfl) (by assumption) (by rfl) (by omega) (by omega) ?_
      ((repeat refine Ev.p rfl rfl ?_); exact Ev.r rfl)
  · rw [upI_eq, upd_at, List.length_append]; rfl
  · rw [upI_eq, upd_ne (by omega), upI_eq]
    rw [List.getElem?_append] at hi
    split at hi
    · rename_i h9
      rw [upd_ne (by omega)]
      exact t1 i y hi h20
    · rename_i h9
      have h8 : i - l.length = 0 := by
        rcases Nat.eq_zero_or_pos (i - l.length) with g | g
        · exact g
        · rw [List.getElem?_eq_none (by simp; omega)] at hi; cases hi
      rw [h8] at hi
      cases hi
      rw [show i + 1 = l.length + 1 by omega, upd_at]
theorem c_PW (h : MK K I R m rc kk nu v) (hT : TCc I rc l) (hl : l.length < 20) (x : Int32) : ∃ I', Ev X (d + 1) kX6_waits 0 (ent kX6_waits [.ref m, .int x]) [] (K, I, R) (some (.int (aPW nu x).1), (K, I', R)) ∧ TCc I' rc (l ++ (aPW nu x).2) ∧ FR (fun c => c = rc) I I' := by
  obtain ⟨J, e1, e2, e3⟩ := c_begin (X := X) (d := d) h hT hl 1
  obtain ⟨h1, h2, h3, h4, h5, h6⟩ := h.fr e3
  refine ⟨J, ?_, e2, e3⟩
  rcases (by omega : kk = 0 ∨ kk = 1 ∨ kk = 2 ∨ kk = 3 ∨ kk = 4 ∨ kk = 5 ∨ kk = 6) with rfl | rfl | rfl | rfl | rfl | rfl | rfl
  all_goals
    (repeat (first | refine Ev.p rfl rfl ?_ | refine Ev.gr (by rfl) (by rfl) (by assumption) (by rfl) (by assumption) ?_ | refine Ev.gi (by rfl) (by rfl) (by assumption) (by rfl) (by assumption) ?_))
    refine Ev.cv (by rfl) (by rfl) h2 (by rfl) (by rfl) (by rfl) (by rfl) (by rfl) e1 ?_
    ((repeat (first | refine Ev.p rfl rfl ?_ | refine Ev.gr (by rfl) (by rfl) (by assumption) (by rfl) (by assumption) ?_ | refine Ev.gi (by rfl) (by rfl) (by assumption) (by rfl) (by assumption) ?_)); exact Ev.r rfl)
theorem c_W (h : MK K I R m rc kk nu v) (hT : TCc I rc l) (hl : l.length < 18) (x : Int32) : ∃ I', Ev X (d + 2) (vg 501 (kt kk)) 0 (ent (vg 501 (kt kk)) [.ref m, .int x]) [] (K, I, R) (some (.int (aW kk nu x).1), (K, I', R)) ∧ TCc I' rc (l ++ (aW kk nu x).2) ∧ FR (fun c => c = rc) I I' := by
  have plain := c_PW (X := X) (d := d + 1) h hT (by omega) x
  have hk := h.1
  have h2 := h.2.1
  have step : ∀ (b : Int32) (y : Int32), ∃ J I', Ev X (d + 1) kX6_begin 0 (ent kX6_begin [.ref m, .int b]) [] (K, I, R) (none, (K, J, R)) ∧ Ev X (d + 1) kX6_waits 0 (ent kX6_waits [.ref m, .int y]) [] (K, J, R) (some (.int (aPW nu y).1), (K, I', R)) ∧ TCc I' rc (l ++ b :: (aPW nu y).2) ∧ FR (fun c => c = rc) I I' := fun b y => by
    obtain ⟨J, e1, e2, e3⟩ := c_begin (X := X) (d := d + 1) h hT (by omega) b
    obtain ⟨I', f1, f2, f3⟩ := c_PW (X := X) (d := d) (h.fr e3) e2 (by simp; omega) y
    exact ⟨J, I', e1, f1, by rw [List.append_assoc] at f2; exact f2, e3.tr f3⟩
  rcases (by omega : kk = 0 ∨ kk = 1 ∨ kk = 2 ∨ kk = 3 ∨ kk = 4 ∨ kk = 5 ∨ kk = 6) with rfl | rfl | rfl | rfl | rfl | rfl | rfl
  · exact plain
  · obtain ⟨J, I', e1, f1, f2, f3⟩ := step 11 (x * 3)
    refine ⟨I', ?_, f2, f3⟩
    show Ev X (d + 2) kX5_waits 0 (ent kX5_waits _) [] _ _
    have h2 : K[m]? = some (5, 4) := h2
    (repeat (first | refine Ev.p rfl rfl ?_ | refine Ev.gr (by rfl) (by rfl) (by assumption) (by rfl) (by assumption) ?_ | refine Ev.gi (by rfl) (by rfl) (by assumption) (by rfl) (by assumption) ?_))
    refine Ev.cv (by rfl) (by rfl) (by assumption) (by rfl) (by rfl) (by rfl) (by rfl) (by rfl) e1 ?_
    (repeat (first | refine Ev.p rfl rfl ?_ | refine Ev.gr (by rfl) (by rfl) (by assumption) (by rfl) (by assumption) ?_ | refine Ev.gi (by rfl) (by rfl) (by assumption) (by rfl) (by assumption) ?_))
    refine Ev.csp (by rfl) (by rfl) (by rfl) (by assumption) (by rfl) (by rfl) (by rfl) (by rfl) f1 ?_
    ((repeat refine Ev.p rfl rfl ?_); exact Ev.r rfl)
  · exact plain
  · exact plain
  · obtain ⟨J, I', e1, f1, f2, f3⟩ := step 11 (x * 3)
    refine ⟨I', ?_, f2, f3⟩
    show Ev X (d + 2) kX5_waits 0 (ent kX5_waits _) [] _ _
    have h2 : K[m]? = some (7, 4) := h2
    (repeat (first | refine Ev.p rfl rfl ?_ | refine Ev.gr (by rfl) (by rfl) (by assumption) (by rfl) (by assumption) ?_ | refine Ev.gi (by rfl) (by rfl) (by assumption) (by rfl) (by assumption) ?_))
    refine Ev.cv (by rfl) (by rfl) (by assumption) (by rfl) (by rfl) (by rfl) (by rfl) (by rfl) e1 ?_
    (repeat (first | refine Ev.p rfl rfl ?_ | refine Ev.gr (by rfl) (by rfl) (by assumption) (by rfl) (by assumption) ?_ | refine Ev.gi (by rfl) (by rfl) (by assumption) (by rfl) (by assumption) ?_))
    refine Ev.csp (by rfl) (by rfl) (by rfl) (by assumption) (by rfl) (by rfl) (by rfl) (by rfl) f1 ?_
    ((repeat refine Ev.p rfl rfl ?_); exact Ev.r rfl)
  · obtain ⟨J, I', e1, f1, f2, f3⟩ := step 51 x
    refine ⟨I', ?_, f2, f3⟩
    show Ev X (d + 2) kX2_waits 0 (ent kX2_waits _) [] _ _
    have h2 : K[m]? = some (2, 4) := h2
    have h0 := (h.fr f3).2.2.1
    (repeat (first | refine Ev.p rfl rfl ?_ | refine Ev.gr (by rfl) (by rfl) (by assumption) (by rfl) (by assumption) ?_ | refine Ev.gi (by rfl) (by rfl) (by assumption) (by rfl) (by assumption) ?_))
    refine Ev.cv (by rfl) (by rfl) (by assumption) (by rfl) (by rfl) (by rfl) (by rfl) (by rfl) e1 ?_
    (repeat (first | refine Ev.p rfl rfl ?_ | refine Ev.gr (by rfl) (by rfl) (by assumption) (by rfl) (by assumption) ?_ | refine Ev.gi (by rfl) (by rfl) (by assumption) (by rfl) (by assumption) ?_))
    refine Ev.csp (by rfl) (by rfl) (by rfl) (by assumption) (by rfl) (by rfl) (by rfl) (by rfl) f1 ?_
    ((repeat (first | refine Ev.p rfl rfl ?_ | refine Ev.gr (by rfl) (by rfl) (by assumption) (by rfl) (by assumption) ?_ | refine Ev.gi (by rfl) (by rfl) (by assumption) (by rfl) (by assumption) ?_)); exact Ev.r rfl)
  · exact plain
theorem c_PN (h : MK K I R m rc kk nu v) (hT : TCc I rc l) (hl : l.length < 17) (x : Int32) : ∃ I', Ev X (d + 3) kX6_nods 0 (ent kX6_nods [.ref m, .int x]) [] (K, I, R) (some (.int (aPN kk nu v x).1), (K, I', R)) ∧ TCc I' rc (l ++ (aPN kk nu v x).2) ∧ FR (fun c => c = rc) I I' := by
  obtain ⟨J, e1, e2, e3⟩ := c_begin (X := X) (d := d + 2) h hT (by omega) 2
  obtain ⟨I', f1, f2, f3⟩ := c_W (X := X) (d := d) (h.fr e3) e2 (by simp; omega) x
  obtain ⟨h1, h2, h3, h4, h5, h6⟩ := h.fr (e3.tr f3)
  refine ⟨I', ?_, by rw [List.append_assoc] at f2; exact f2, e3.tr f3⟩
  rcases (by omega : kk = 0 ∨ kk = 1 ∨ kk = 2 ∨ kk = 3 ∨ kk = 4 ∨ kk = 5 ∨ kk = 6) with rfl | rfl | rfl | rfl | rfl | rfl | rfl
  all_goals
    (repeat (first | refine Ev.p rfl rfl ?_ | refine Ev.gr (by rfl) (by rfl) (by assumption) (by rfl) (by assumption) ?_ | refine Ev.gi (by rfl) (by rfl) (by assumption) (by rfl) (by assumption) ?_))
    refine Ev.cv (by rfl) (by rfl) h2 (by rfl) (by rfl) (by rfl) (by rfl) (by rfl) e1 ?_
    (repeat (first | refine Ev.p rfl rfl ?_ | refine Ev.gr (by rfl) (by rfl) (by assumption) (by rfl) (by assumption) ?_ | refine Ev.gi (by rfl) (by rfl) (by assumption) (by rfl) (by assumption) ?_))
    refine Ev.cv (by rfl) (by rfl) h2 (by rfl) (by rfl) (by rfl) (by rfl) (by rfl) f1 ?_
    ((repeat (first | refine Ev.p rfl rfl ?_ | refine Ev.gr (by rfl) (by rfl) (by assumption) (by rfl) (by assumption) ?_ | refine Ev.gi (by rfl) (by rfl) (by assumption) (by rfl) (by assumption) ?_)); exact Ev.r rfl)
theorem c_N (h : MK K I R m rc kk nu v) (hT : TCc I rc l) (hl : l.length < 16) (x : Int32) : ∃ I', Ev X (d + 4) (vg 502 (kt kk)) 0 (ent (vg 502 (kt kk)) [.ref m, .int x]) [] (K, I, R) (some (.int (aN kk nu v x).1), (K, I', R)) ∧ TCc I' rc (l ++ (aN kk nu v x).2) ∧ FR (fun c => c = rc) I I' := by
  have plain : ∃ I', Ev X (d + 4) kX6_nods 0 (ent kX6_nods [.ref m, .int x]) [] (K, I, R) (some (.int (aPN kk nu v x).1), (K, I', R)) ∧ TCc I' rc (l ++ (aPN kk nu v x).2) ∧ FR (fun c => c = rc) I I' := by
    obtain ⟨I', f1, f2⟩ := c_PN (X := X) (d := d) h hT (by omega) x
    exact ⟨I', f1.dp (by omega), f2⟩
  have hk := h.1
  have h2 := h.2.1
  have step : ∀ (b : Int32), ∃ J I', Ev X (d + 3) kX6_begin 0 (ent kX6_begin [.ref m, .int b]) [] (K, I, R) (none, (K, J, R)) ∧ Ev X (d + 3) kX6_nods 0 (ent kX6_nods [.ref m, .int x]) [] (K, J, R) (some (.int (aPN kk nu v x).1), (K, I', R)) ∧ TCc I' rc (l ++ b :: (aPN kk nu v x).2) ∧ FR (fun c => c = rc) I I' := fun b => by
    obtain ⟨J, e1, e2, e3⟩ := c_begin (X := X) (d := d + 3) h hT (by omega) b
    obtain ⟨I', f1, f2, f3⟩ := c_PN (X := X) (d := d) (h.fr e3) e2 (by simp; omega) x
    exact ⟨J, I', e1, f1, by rw [List.append_assoc] at f2; exact f2, e3.tr f3⟩
  rcases (by omega : kk = 0 ∨ kk = 1 ∨ kk = 2 ∨ kk = 3 ∨ kk = 4 ∨ kk = 5 ∨ kk = 6) with rfl | rfl | rfl | rfl | rfl | rfl | rfl
  · exact plain
  · exact plain
  · obtain ⟨J, I', e1, f1, f2, f3⟩ := step 21
    refine ⟨I', ?_, f2, f3⟩
    show Ev X (d + 4) kX1_nods 0 (ent kX1_nods _) [] _ _
    have h2 : K[m]? = some (1, 4) := h2
    (repeat (first | refine Ev.p rfl rfl ?_ | refine Ev.gr (by rfl) (by rfl) (by assumption) (by rfl) (by assumption) ?_ | refine Ev.gi (by rfl) (by rfl) (by assumption) (by rfl) (by assumption) ?_))
    refine Ev.cv (by rfl) (by rfl) (by assumption) (by rfl) (by rfl) (by rfl) (by rfl) (by rfl) e1 ?_
    (repeat (first | refine Ev.p rfl rfl ?_ | refine Ev.gr (by rfl) (by rfl) (by assumption) (by rfl) (by assumption) ?_ | refine Ev.gi (by rfl) (by rfl) (by assumption) (by rfl) (by assumption) ?_))
    refine Ev.csp (by rfl) (by rfl) (by rfl) (by assumption) (by rfl) (by rfl) (by rfl) (by rfl) f1 ?_
    ((repeat refine Ev.p rfl rfl ?_); exact Ev.r rfl)
  · exact plain
  · exact plain
  · obtain ⟨J, I', e1, f1, f2, f3⟩ := step 21
    refine ⟨I', ?_, f2, f3⟩
    show Ev X (d + 4) kX1_nods 0 (ent kX1_nods _) [] _ _
    have h2 : K[m]? = some (2, 4) := h2
    (repeat (first | refine Ev.p rfl rfl ?_ | refine Ev.gr (by rfl) (by rfl) (by assumption) (by rfl) (by assumption) ?_ | refine Ev.gi (by rfl) (by rfl) (by assumption) (by rfl) (by assumption) ?_))
    refine Ev.cv (by rfl) (by rfl) (by assumption) (by rfl) (by rfl) (by rfl) (by rfl) (by rfl) e1 ?_
    (repeat (first | refine Ev.p rfl rfl ?_ | refine Ev.gr (by rfl) (by rfl) (by assumption) (by rfl) (by assumption) ?_ | refine Ev.gi (by rfl) (by rfl) (by assumption) (by rfl) (by assumption) ?_))
    refine Ev.csp (by rfl) (by rfl) (by rfl) (by assumption) (by rfl) (by rfl) (by rfl) (by rfl) f1 ?_
    ((repeat refine Ev.p rfl rfl ?_); exact Ev.r rfl)
  · obtain ⟨J, I', e1, f1, f2, f3⟩ := step 61
    refine ⟨I', ?_, f2, f3⟩
    show Ev X (d + 4) kX9_nods 0 (ent kX9_nods _) [] _ _
    have h2 : K[m]? = some (9, 4) := h2
    have hv := (h.fr f3).2.2.2.1
    (repeat (first | refine Ev.p rfl rfl ?_ | refine Ev.gr (by rfl) (by rfl) (by assumption) (by rfl) (by assumption) ?_ | refine Ev.gi (by rfl) (by rfl) (by assumption) (by rfl) (by assumption) ?_))
    refine Ev.cv (by rfl) (by rfl) (by assumption) (by rfl) (by rfl) (by rfl) (by rfl) (by rfl) e1 ?_
    (repeat (first | refine Ev.p rfl rfl ?_ | refine Ev.gr (by rfl) (by rfl) (by assumption) (by rfl) (by assumption) ?_ | refine Ev.gi (by rfl) (by rfl) (by assumption) (by rfl) (by assumption) ?_))
    refine Ev.csp (by rfl) (by rfl) (by rfl) (by assumption) (by rfl) (by rfl) (by rfl) (by rfl) f1 ?_
    ((repeat (first | refine Ev.p rfl rfl ?_ | refine Ev.gr (by rfl) (by rfl) (by assumption) (by rfl) (by assumption) ?_ | refine Ev.gi (by rfl) (by rfl) (by assumption) (by rfl) (by assumption) ?_)); exact Ev.r rfl)
theorem c_PT (h : MK K I R m rc kk nu v) (hT : TCc I rc l) (hl : l.length < 15) (x : Int32) : ∃ I', Ev X (d + 5) kX6_turns 0 (ent kX6_turns [.ref m, .int x]) [] (K, I, R) (some (.int (aPT kk nu v x).1), (K, I', R)) ∧ TCc I' rc (l ++ (aPT kk nu v x).2) ∧ FR (fun c => c = rc) I I' := by
  obtain ⟨J, e1, e2, e3⟩ := c_begin (X := X) (d := d + 4) h hT (by omega) 3
  obtain ⟨I', f1, f2, f3⟩ := c_N (X := X) (d := d) (h.fr e3) e2 (by simp; omega) x
  obtain ⟨h1, h2, h3, h4, h5, h6⟩ := h.fr (e3.tr f3)
  refine ⟨I', ?_, by rw [List.append_assoc] at f2; exact f2, e3.tr f3⟩
  rcases (by omega : kk = 0 ∨ kk = 1 ∨ kk = 2 ∨ kk = 3 ∨ kk = 4 ∨ kk = 5 ∨ kk = 6) with rfl | rfl | rfl | rfl | rfl | rfl | rfl
  all_goals
    (repeat (first | refine Ev.p rfl rfl ?_ | refine Ev.gr (by rfl) (by rfl) (by assumption) (by rfl) (by assumption) ?_ | refine Ev.gi (by rfl) (by rfl) (by assumption) (by rfl) (by assumption) ?_))
    refine Ev.cv (by rfl) (by rfl) h2 (by rfl) (by rfl) (by rfl) (by rfl) (by rfl) e1 ?_
    (repeat (first | refine Ev.p rfl rfl ?_ | refine Ev.gr (by rfl) (by rfl) (by assumption) (by rfl) (by assumption) ?_ | refine Ev.gi (by rfl) (by rfl) (by assumption) (by rfl) (by assumption) ?_))
    refine Ev.cv (by rfl) (by rfl) h2 (by rfl) (by rfl) (by rfl) (by rfl) (by rfl) f1 ?_
    ((repeat (first | refine Ev.p rfl rfl ?_ | refine Ev.gr (by rfl) (by rfl) (by assumption) (by rfl) (by assumption) ?_ | refine Ev.gi (by rfl) (by rfl) (by assumption) (by rfl) (by assumption) ?_)); exact Ev.r rfl)
theorem c_T (h : MK K I R m rc kk nu v) (hT : TCc I rc l) (hl : l.length < 10) (x : Int32) : ∃ I', Ev X (d + 6) (vg 503 (kt kk)) 0 (ent (vg 503 (kt kk)) [.ref m, .int x]) [] (K, I, R) (some (.int (aT kk nu v x).1), (K, I', R)) ∧ TCc I' rc (l ++ (aT kk nu v x).2) ∧ FR (fun c => c = rc) I I' := by
  have plain : ∃ I', Ev X (d + 6) kX6_turns 0 (ent kX6_turns [.ref m, .int x]) [] (K, I, R) (some (.int (aPT kk nu v x).1), (K, I', R)) ∧ TCc I' rc (l ++ (aPT kk nu v x).2) ∧ FR (fun c => c = rc) I I' := by
    obtain ⟨I', f1, f2⟩ := c_PT (X := X) (d := d) h hT (by omega) x
    exact ⟨I', f1.dp (by omega), f2⟩
  have hk := h.1
  have h2 := h.2.1
  have step : ∀ (b y : Int32), ∃ J I', Ev X (d + 5) kX6_begin 0 (ent kX6_begin [.ref m, .int b]) [] (K, I, R) (none, (K, J, R)) ∧ Ev X (d + 5) kX6_turns 0 (ent kX6_turns [.ref m, .int y]) [] (K, J, R) (some (.int (aPT kk nu v y).1), (K, I', R)) ∧ TCc I' rc (l ++ b :: (aPT kk nu v y).2) ∧ FR (fun c => c = rc) I I' := fun b y => by
    obtain ⟨J, e1, e2, e3⟩ := c_begin (X := X) (d := d + 5) h hT (by omega) b
    obtain ⟨I', f1, f2, f3⟩ := c_PT (X := X) (d := d) (h.fr e3) e2 (by simp; omega) y
    exact ⟨J, I', e1, f1, by rw [List.append_assoc] at f2; exact f2, e3.tr f3⟩
  rcases (by omega : kk = 0 ∨ kk = 1 ∨ kk = 2 ∨ kk = 3 ∨ kk = 4 ∨ kk = 5 ∨ kk = 6) with rfl | rfl | rfl | rfl | rfl | rfl | rfl
  · exact plain
  · exact plain
  · exact plain
  · obtain ⟨J, I', e1, f1, f2, f3⟩ := step 31 x
    refine ⟨I', ?_, f2, f3⟩
    show Ev X (d + 6) kX4_turns 0 (ent kX4_turns _) [] _ _
    have h2 : K[m]? = some (4, 4) := h2
    (repeat (first | refine Ev.p rfl rfl ?_ | refine Ev.gr (by rfl) (by rfl) (by assumption) (by rfl) (by assumption) ?_ | refine Ev.gi (by rfl) (by rfl) (by assumption) (by rfl) (by assumption) ?_))
    refine Ev.cv (by rfl) (by rfl) (by assumption) (by rfl) (by rfl) (by rfl) (by rfl) (by rfl) e1 ?_
    (repeat (first | refine Ev.p rfl rfl ?_ | refine Ev.gr (by rfl) (by rfl) (by assumption) (by rfl) (by assumption) ?_ | refine Ev.gi (by rfl) (by rfl) (by assumption) (by rfl) (by assumption) ?_))
    refine Ev.csp (by rfl) (by rfl) (by rfl) (by assumption) (by rfl) (by rfl) (by rfl) (by rfl) f1 ?_
    ((repeat refine Ev.p rfl rfl ?_); exact Ev.r rfl)
  · have hln := aPT_len 4 nu v (x - 1)
    obtain ⟨J, I1, e1, f1, f2, f3⟩ := step 41 (x - 1)
    obtain ⟨I', g1, g2, g3⟩ := c_W (X := X) (d := d + 3) (h.fr f3) f2 (by simp; omega) 2
    refine ⟨I', ?_, by rw [List.append_assoc] at g2; exact g2, f3.tr g3⟩
    have g1 : Ev X (d + 5) kX5_waits 0 (ent kX5_waits [.ref m, .int 2]) [] (K, I1, R) (some (.int (aW 4 nu 2).1), (K, I', R)) := g1
    show Ev X (d + 6) kX7_turns 0 (ent kX7_turns _) [] _ _
    have h2 : K[m]? = some (7, 4) := h2
    (repeat (first | refine Ev.p rfl rfl ?_ | refine Ev.gr (by rfl) (by rfl) (by assumption) (by rfl) (by assumption) ?_ | refine Ev.gi (by rfl) (by rfl) (by assumption) (by rfl) (by assumption) ?_))
    refine Ev.cv (by rfl) (by rfl) (by assumption) (by rfl) (by rfl) (by rfl) (by rfl) (by rfl) e1 ?_
    (repeat (first | refine Ev.p rfl rfl ?_ | refine Ev.gr (by rfl) (by rfl) (by assumption) (by rfl) (by assumption) ?_ | refine Ev.gi (by rfl) (by rfl) (by assumption) (by rfl) (by assumption) ?_))
    refine Ev.csp (by rfl) (by rfl) (by rfl) (by assumption) (by rfl) (by rfl) (by rfl) (by rfl) f1 ?_
    (repeat (first | refine Ev.p rfl rfl ?_ | refine Ev.gr (by rfl) (by rfl) (by assumption) (by rfl) (by assumption) ?_ | refine Ev.gi (by rfl) (by rfl) (by assumption) (by rfl) (by assumption) ?_))
    refine Ev.cv (by rfl) (by rfl) (by assumption) (by rfl) (by rfl) (by rfl) (by rfl) (by rfl) g1 ?_
    ((repeat refine Ev.p rfl rfl ?_); exact Ev.r rfl)
  · exact plain
  · obtain ⟨J, I', e1, f1, f2, f3⟩ := step 31 x
    refine ⟨I', ?_, f2, f3⟩
    show Ev X (d + 6) kX4_turns 0 (ent kX4_turns _) [] _ _
    have h2 : K[m]? = some (9, 4) := h2
    (repeat (first | refine Ev.p rfl rfl ?_ | refine Ev.gr (by rfl) (by rfl) (by assumption) (by rfl) (by assumption) ?_ | refine Ev.gi (by rfl) (by rfl) (by assumption) (by rfl) (by assumption) ?_))
    refine Ev.cv (by rfl) (by rfl) (by assumption) (by rfl) (by rfl) (by rfl) (by rfl) (by rfl) e1 ?_
    (repeat (first | refine Ev.p rfl rfl ?_ | refine Ev.gr (by rfl) (by rfl) (by assumption) (by rfl) (by assumption) ?_ | refine Ev.gi (by rfl) (by rfl) (by assumption) (by rfl) (by assumption) ?_))
    refine Ev.csp (by rfl) (by rfl) (by rfl) (by assumption) (by rfl) (by rfl) (by rfl) (by rfl) f1 ?_
    ((repeat refine Ev.p rfl rfl ?_); exact Ev.r rfl)
end CACTS
