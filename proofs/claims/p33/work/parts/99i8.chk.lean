/-! WHAT IS REFUSED leaves all as it was -/
/-- the law's locals -/
def LW (n i : Nat) (c al : Int32) (bf : Int64) (r : List (Option Value)) : List (Option Value) := some (.retAddr 28) :: some (.ref 0) :: some (.int (nI n)) :: some (.int (nI i)) :: some (.int c) :: some (.int al) :: some (.long bf) :: none :: r
def N10 : List (Option Value) := [none, none, none, none, none, none, none, none, none, none]
section CHK
variable {X : Nat × (Nat → Int32)} {d : Nat} {K : List (Nat × Nat)} {I : Nat → Nat → Int32} {R : Nat → Nat → Option Nat} {s : Nat → Int32} {n e m i : Nat} {hd : Option Nat} {cls : Cls} {l : List Int32} {im : Option Img} {c al : Int32} {bf : Int64}
theorem isM_0 (hn : n ≤ 6) (h : 0 < n) : isM n 0 := (isM_iff hn).mpr ⟨0, h, rfl⟩
theorem isM_big (hn : n ≤ 6) {x : Int32} {k : Nat} (hx : x = nI k) (h : n ≤ k) (hk : k < 1000) : ¬ isM n x := fun g => by
  obtain ⟨p, hp, e⟩ := (isM_iff hn).mp g
  have := (nI_eq (by omega) (by omega)).mp (hx.symm.trans e)
  omega
theorem law_chk (h : CK K I R s n hd cls e l im m) (hn : 0 < n) {b1 b2 : Nat} {r : Int32} (h1 : SN s n b1) (h2 : SP s n b2) (h3 : LR s r) (hbf : bf = nuV s n hd cls b1 b2 r) : ∃ I1 R1, CK K I1 R1 s n hd cls e l im m ∧ ∀ Z : Option Value × Hp, Ev X 62 0 233 (LW n i c al bf N10) [] (K, I1, R1) Z → Ev X 62 0 54 (LW n i c al bf N10) [] (K, I, R) Z := by
  have n6 := h.n6
  have k0 := h.k0
  have m0 : isM n 0 := isM_0 n6 hn
  have m9 : ¬ isM n 9 := isM_big n6 (k := 9) rfl (by omega) (by omega)
  have m6 : ¬ isM n 6 := isM_big n6 (k := 6) rfl (by omega) (by omega)
  obtain ⟨z, hz, h31, -⟩ := h.G.2.2.2.2.2.2.2.2.1
  obtain ⟨bb, hb8, hb, -⟩ := h.G.2.2.2.2.2.2.2.1
  have e1 := ((c_matter (X := X) h.F h.G h.V (-1) 0).2.2.2 (by decide)).dp (d' := 61) (by omega)
  have e2 := ((c_feed (X := X) h.F h.V.2.2.2.2 h31 hz 128).1 (by decide)).dp (d' := 61) (by omega)
  have e3 := ((c_row (X := X) h.F h.G h.V 0 9 0).2.2.2 (fun g => absurd g.2.2 (by decide))).dp (d' := 61) (by omega)
  have e4 := ((c_tie (X := X) h.F h.G h.V 9 0 true).2.2 (fun g => m9 g.1)).dp (d' := 61) (by omega)
  have e5 := ((c_tie (X := X) h.F h.G h.V 0 0 true).2.1 m0 rfl).dp (d' := 61) (by omega)
  have e6 := ((c_shelve (X := X) h.F h.G h.V 9 true).2 m9).dp (d' := 61) (by omega)
  have e7 := ((c_reopen (X := X) h.F h.G h.V 9).2 m9).dp (d' := 61) (by omega)
  have e8 := ((c_talk (X := X) h.F h.G h.V 9).2.2 (by decide) m9).dp (d' := 61) (by omega)
  have e9 := ((c_pass (X := X) h.F h.G h.V 99).1 (by decide)).dp (d' := 61) (by omega)
  have e10 := ((c_see (X := X) h.F h.G h.V h1.1 h1.2.1 0 99 true).2.2.1 m0 (by decide)).dp (d' := 61) (by omega)
  have e11 := ((c_plan (X := X) h.F h.G h.V h2.1 h2.2.1 9 0).2.1 (by decide) (fun g => absurd g.1 (by decide))).dp (d' := 61) (by omega)
  have e12 := ((c_book (X := X) h.F h.G h.V hb hb8 9 0).2.1 (by decide) m9).dp (d' := 61) (by omega)
  have e13 := ((c_as (X := X) h.F h.G h.V 6 0).2 (fun g => m6 g.1)).dp (d' := 61) (by omega)
  have e14 := ((c_as (X := X) h.F h.G h.V 0 7).2 (fun g => absurd g.2.2 (by decide))).dp (d' := 61) (by omega)
  have e15 := ((c_count (X := X) h.F h.G h.V h.T 7).2.2 (by decide) (by decide)).dp (d' := 61) (by omega)
  obtain ⟨I1, R1, e16, c16⟩ := l_all (X := X) h hn h1 h2 h3
  have e16 := e16.dp (d' := 61) (by omega)
  rw [← hbf] at e16
  refine ⟨I1, R1, c16, fun Z g => ?_⟩
  unfold LW N10 at g ⊢
  have go : Ev X 62 0 221 [some (.retAddr 28), some (.ref 0), some (.int (nI n)), some (.int (nI i)), some (.int c), some (.int al), some (.long bf), none, none, none, none, none, none, none, none, none, none, none] [] (K, I, R) Z := by
    (repeat refine Ev.p rfl rfl ?_)
    refine Ev.c rfl e16 ?_
    (repeat refine Ev.p rfl rfl ?_)
    refine Ev.bp rfl (fun c => ?_) (fun c => absurd ((lg_cmp_eq _ _).mpr rfl) c)
    (repeat (first | (refine Ev.at (q := 233) rfl ?_; exact g) | refine Ev.p rfl rfl ?_))
  (repeat refine Ev.p rfl rfl ?_)
  refine Ev.cv (by rfl) (by rfl) (by assumption) (by rfl) (by rfl) (by rfl) (by rfl) (by rfl) e1 ?_
  (repeat refine Ev.p rfl rfl ?_)
  refine Ev.cv (by rfl) (by rfl) (by assumption) (by rfl) (by rfl) (by rfl) (by rfl) (by rfl) e2 ?_
  (repeat refine Ev.p rfl rfl ?_)
  refine Ev.cv (by rfl) (by rfl) (by assumption) (by rfl) (by rfl) (by rfl) (by rfl) (by rfl) e3 ?_
  (repeat refine Ev.p rfl rfl ?_)
  refine Ev.cv (by rfl) (by rfl) (by assumption) (by rfl) (by rfl) (by rfl) (by rfl) (by rfl) e4 ?_
  (repeat refine Ev.p rfl rfl ?_)
  refine Ev.cv (by rfl) (by rfl) (by assumption) (by rfl) (by rfl) (by rfl) (by rfl) (by rfl) e5 ?_
  (repeat refine Ev.p rfl rfl ?_)
  refine Ev.cv (by rfl) (by rfl) (by assumption) (by rfl) (by rfl) (by rfl) (by rfl) (by rfl) e6 ?_
  (repeat refine Ev.p rfl rfl ?_)
  refine Ev.cv (by rfl) (by rfl) (by assumption) (by rfl) (by rfl) (by rfl) (by rfl) (by rfl) e7 ?_
  (repeat refine Ev.p rfl rfl ?_)
  refine Ev.cv (by rfl) (by rfl) (by assumption) (by rfl) (by rfl) (by rfl) (by rfl) (by rfl) e8 ?_
  (repeat refine Ev.p rfl rfl ?_)
  refine Ev.cv (by rfl) (by rfl) (by assumption) (by rfl) (by rfl) (by rfl) (by rfl) (by rfl) e9 ?_
  (repeat refine Ev.p rfl rfl ?_)
  refine Ev.cv (by rfl) (by rfl) (by assumption) (by rfl) (by rfl) (by rfl) (by rfl) (by rfl) e10 ?_
  (repeat refine Ev.p rfl rfl ?_)
  refine Ev.cv (by rfl) (by rfl) (by assumption) (by rfl) (by rfl) (by rfl) (by rfl) (by rfl) e11 ?_
  (repeat refine Ev.p rfl rfl ?_)
  refine Ev.cv (by rfl) (by rfl) (by assumption) (by rfl) (by rfl) (by rfl) (by rfl) (by rfl) e12 ?_
  (repeat refine Ev.p rfl rfl ?_)
  refine Ev.cv (by rfl) (by rfl) (by assumption) (by rfl) (by rfl) (by rfl) (by rfl) (by rfl) e13 ?_
  (repeat refine Ev.p rfl rfl ?_)
  refine Ev.cv (by rfl) (by rfl) (by assumption) (by rfl) (by rfl) (by rfl) (by rfl) (by rfl) e14 ?_
  (repeat refine Ev.p rfl rfl ?_)
  refine Ev.cv (by rfl) (by rfl) (by assumption) (by rfl) (by rfl) (by rfl) (by rfl) (by rfl) e15 ?_
  (repeat (first | (refine Ev.at (q := 221) rfl ?_; exact go) | refine Ev.p rfl rfl ?_))
end CHK
