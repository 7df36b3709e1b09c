/-! A ROUND OF THE LAW: acts of all, what is done then, undone -/
def TT : (Nat → Int32) → Nat → Prop := fun _ _ => True
theorem stb_TT : Stb TT := fun _ _ _ _ _ _ => trivial
section REST
variable {X : Nat × (Nat → Int32)} {d : Nat} {K : List (Nat × Nat)} {I : Nat → Nat → Int32} {R : Nat → Nat → Option Nat} {s : Nat → Int32} {n e m i : Nat} {hd : Option Nat} {cls : Cls} {l : List Int32} {im : Option Img} {c al x : Int32} {bf : Int64} {P : (Nat → Int32) → Nat → Prop}
theorem law_acts (hX : X.1 ≤ 260) (hkx : KX X s n) : ∀ (mm j : Nat) (I : Nat → Nat → Int32) (R : Nat → Nat → Option Nat) (l : List Int32), j + mm = n → CK K I R s n hd cls e l im m → ∃ I1 R1 l1, CK K I1 R1 s n hd cls e l1 im m ∧ ∀ Z : Option Value × Hp, Ev X 62 0 708 (LW n i c al bf N10) [] (K, I1, R1) Z → Ev X 62 0 351 (LW n i c al bf [none, none, some (.int x), some (.int (nI j)), none, none, none, none, none, none]) [] (K, I, R) Z := by
  intro mm
  induction mm with
  | zero =>
    intro j I R l hj h
    have e0 : j = n := by omega
    subst e0
    refine ⟨I, R, l, h, fun Z g => ?_⟩
    unfold LW N10 at g
    unfold LW
    (repeat refine Ev.p rfl rfl ?_)
    refine Ev.bp rfl (fun c => ?_) (fun c => absurd (Int32.le_refl _) c)
    (repeat (first | (refine Ev.at (q := 708) rfl ?_; exact Ev.fg (le_of (by repeat (first | exact trivial | refine And.intro rfl ?_))) g) | refine Ev.p rfl rfl ?_))
  | succ mm ih =>
    intro j I R l hj h
    obtain ⟨kk, hkk, ek⟩ : ∃ kk, kk < 7 ∧ kiX X j = nI kk := sm_lt _ (by omega) (by omega)
    obtain ⟨h1, h2⟩ := hkx j (by omega)
    obtain ⟨I1, R1, l1, c1, g1⟩ := law_j (X := X) (i := i) (c := c) (al := al) (bf := bf) (x := x) hX h (j := j) (kk := kk) (v := vX X j) (by omega) (by omega) ek rfl (h1.trans ek) h2
    obtain ⟨I2, R2, l2, c2, g2⟩ := ih (j + 1) I1 R1 l1 (by omega) c1
    refine ⟨I2, R2, l2, c2, fun Z g => g1 Z (law_as c1 (by omega) (by omega) (h1.trans ek) h2 ?_ 7 0 (by omega))⟩
    have g3 := g2 Z g
    rw [nI_succ j] at g3
    unfold LW at g3 ⊢
    (repeat (first | (refine Ev.at (q := 351) rfl ?_; exact g3) | refine Ev.p rfl rfl ?_))
theorem law_332 (hX : X.1 ≤ 260) (hkx : KX X s n) (h : CK K I R s n hd cls e l im m) : ∃ I1 R1 l1, CK K I1 R1 s n hd cls e l1 im m ∧ ∀ Z : Option Value × Hp, Ev X 62 0 708 (LW n i c al bf N10) [] (K, I1, R1) Z → Ev X 62 0 332 (LW n i c al bf N10) [] (K, I, R) Z := by
  have s1 := l_some (X := X) (d := 61) (h := (K, I, R)) (c >>> ((9 : Int32) &&& 31)) (m := 200) (by omega) (by omega)
  obtain ⟨I1, R1, l1, c1, g1⟩ := law_acts (X := X) (i := i) (c := c) (al := al) (bf := bf) (x := sm (c >>> ((9 : Int32) &&& 31)) 200 - 90) hX hkx n 0 I R l (by omega) h
  refine ⟨I1, R1, l1, c1, fun Z g => ?_⟩
  have g2 := g1 Z g
  unfold LW at g2
  unfold LW N10
  (repeat refine Ev.p rfl rfl ?_)
  refine Ev.c rfl s1 ?_
  (repeat (first | (refine Ev.at (q := 351) rfl ?_; exact g2) | refine Ev.p rfl rfl ?_))
theorem law_708 (h : CK K I R s n hd cls e l im m) (hn : 0 < n) {b1 b2 : Nat} {r : Int32} (h1 : SN s n b1) (h2 : SP s n b2) (h3 : LR s r) (hbf : bf = nuV s n hd cls b1 b2 r) : ∃ I1 R1 l1, CK K I1 R1 s n hd cls e l1 im m ∧ ∀ Z : Option Value × Hp, Ev X 62 0 743 (LW n i c al bf N10) [] (K, I1, R1) Z → Ev X 62 0 708 (LW n i c al bf N10) [] (K, I, R) Z := by
  have k0 := h.k0
  have n6 := h.n6
  obtain ⟨I1, R1, e1, c1⟩ := q_count (X := X) h (x := 0) (k := 0) (by omega) rfl
  rw [show s (26 + 0) = nI n from h.G.1.1] at e1
  obtain ⟨I2, e2, t2, q2⟩ := (c_act (X := X) c1.F c1.G c1.V (nI n) 0 1).1 (fun g => isM_big n6 (k := n) rfl (Nat.le_refl _) (by omega) g.1)
  have c2 := c1.act (by show 0 ≤ 20; omega) t2 q2
  have e3 := k_count6 (X := X) c2
  obtain ⟨I4, R4, e4, c4⟩ := l_all (X := X) c2 hn h1 h2 h3
  rw [← hbf] at e4
  have e1 := e1.dp (d' := 61) (by omega)
  have e2 := e2.dp (d' := 61) (by omega)
  have e3 := e3.dp (d' := 61) (by omega)
  have e4 := e4.dp (d' := 61) (by omega)
  refine ⟨I4, R4, [], c4, fun Z g => ?_⟩
  unfold LW N10 at g ⊢
  (repeat refine Ev.p rfl rfl ?_)
  refine Ev.cv (by rfl) (by rfl) (by assumption) (by rfl) (by rfl) (by rfl) (by rfl) (by rfl) e1 ?_
  (repeat refine Ev.p rfl rfl ?_)
  refine Ev.cv (by rfl) (by rfl) (by assumption) (by rfl) (by rfl) (by rfl) (by rfl) (by rfl) e2 ?_
  (repeat refine Ev.p rfl rfl ?_)
  refine Ev.cv (by rfl) (by rfl) (by assumption) (by rfl) (by rfl) (by rfl) (by rfl) (by rfl) e3 ?_
  (repeat refine Ev.p rfl rfl ?_)
  refine Ev.c rfl e4 ?_
  (repeat refine Ev.p rfl rfl ?_)
  refine Ev.bp rfl (fun c => ?_) (fun c => absurd ((lg_cmp_eq _ _).mpr rfl) c)
  (repeat (first | (refine Ev.at (q := 743) rfl ?_; exact g) | refine Ev.p rfl rfl ?_))
theorem ST.mo (h : ST P m im K I R) {m' : Nat} (hm : m ≤ m') : ST P m' im K I R := by
  obtain ⟨s, n, hd, cls, e, l, h, hp⟩ := h
  exact ⟨s, n, hd, cls, e, l, h.mo hm, hp⟩
theorem u_of (h : ST P m im K I R) (x : Int32) : UO X K I R kX11_of [.int x, .int 8] P m im := by
  obtain ⟨s, n, hd, cls, e, l, h, hp⟩ := h
  by_cases hx : isM n x
  · obtain ⟨p, hp2, ex⟩ := (isM_iff h.n6).mp hx
    obtain ⟨I1, R1, e1, c1⟩ := q_of (X := X) h (x := x) (y := 8) (p := p) (w := 8) hp2 (by omega) ex rfl
    exact ⟨_, I1, R1, e1, s, n, hd, cls, e, l, c1, hp⟩
  · exact ⟨_, I, R, (c_of (X := X) h.F h.G h.V x 8).2.2 hx, s, n, hd, cls, e, l, h, hp⟩
theorem u_count1 (h : ST P m im K I R) : UO X K I R kX11_count [.int 1] P m im := by
  obtain ⟨s, n, hd, cls, e, l, h, hp⟩ := h
  obtain ⟨I1, R1, e1, c1⟩ := q_count (X := X) h (x := 1) (k := 1) (by omega) rfl
  exact ⟨_, I1, R1, e1, s, n, hd, cls, e, l, c1, hp⟩
theorem law_743 (h : ST TT m im K I R) (h0 : 0 < n) (hn : n ≤ 6) : ∃ I1 R1, ST TT m im K I1 R1 ∧ ∀ Z : Option Value × Hp, Ev X 62 0 762 (LW n i c al bf N10) [] (K, I1, R1) Z → Ev X 62 0 743 (LW n i c al bf N10) [] (K, I, R) Z := by
  obtain ⟨I1, R1, e1, h1⟩ := l_act (X := X) h stb_TT h0 hn (c >>> ((3 : Int32) &&& 31))
  obtain ⟨I2, R2, e2, h2⟩ := l_act (X := X) h1 stb_TT h0 hn (c >>> ((6 : Int32) &&& 31))
  refine ⟨I2, R2, h2, fun Z g => ?_⟩
  unfold LW N10 at g ⊢
  (repeat refine Ev.p rfl rfl ?_)
  refine Ev.c rfl e1 ?_
  (repeat refine Ev.p rfl rfl ?_)
  refine Ev.c rfl e2 ?_
  (repeat (first | (refine Ev.at (q := 762) rfl ?_; exact g) | refine Ev.p rfl rfl ?_))
theorem law_762 (h : ST TT m im K I R) : ∃ K1 I1 R1, ST TT (m + 1) im K1 I1 R1 ∧ ∀ Z : Option Value × Hp, Ev X 62 0 781 (LW n i c al bf N10) [] (K1, I1, R1) Z → Ev X 62 0 762 (LW n i c al bf N10) [] (K, I, R) Z := by
  have k0 := h.k0
  obtain ⟨s, n', hd, cls, e, l, h, -⟩ := h
  obtain ⟨I1, R1, e1, c1⟩ := q_count (X := X) h (x := 0) (k := 0) (by omega) rfl
  rw [show s (26 + 0) = nI n' from h.G.1.1] at e1
  have n6 := h.n6
  have e1 := e1.dp (d' := 61) (by omega)
  by_cases h6 : n' < 6
  · obtain ⟨K2, I2, R2, e2, c2⟩ := k_matter (X := X) c1 h6 (kk := 6) (w := 9) (by omega) (by omega)
    have e2 := e2.dp (d' := 61) (by omega)
    refine ⟨K2, I2, R2, ⟨_, n' + 1, hd, cls, e, l, c2, trivial⟩, fun Z g => ?_⟩
    unfold LW N10 at g ⊢
    (repeat refine Ev.p rfl rfl ?_)
    refine Ev.cv (by rfl) (by rfl) (by assumption) (by rfl) (by rfl) (by rfl) (by rfl) (by rfl) e1 ?_
    (repeat refine Ev.p rfl rfl ?_)
    refine Ev.bp rfl (fun c => absurd c (nI_ge (b := 6) h6 (by omega))) (fun c => ?_)
    (repeat refine Ev.p rfl rfl ?_)
    refine Ev.cv (by rfl) (by rfl) (by assumption) (by rfl) (by rfl) (by rfl) (by rfl) (by rfl) e2 ?_
    (repeat (first | (refine Ev.at (q := 781) rfl ?_; exact g) | refine Ev.p rfl rfl ?_))
  · refine ⟨K, I1, R1, ⟨s, n', hd, cls, e, l, c1.mo (by omega), trivial⟩, fun Z g => ?_⟩
    unfold LW N10 at g ⊢
    (repeat refine Ev.p rfl rfl ?_)
    refine Ev.cv (by rfl) (by rfl) (by assumption) (by rfl) (by rfl) (by rfl) (by rfl) (by rfl) e1 ?_
    (repeat refine Ev.p rfl rfl ?_)
    refine Ev.bp rfl (fun c => ?_) (fun c => absurd (nI_le (a := 6) (b := n') (by omega) (by omega)) c)
    (repeat (first | (refine Ev.at (q := 781) rfl ?_; exact g) | refine Ev.p rfl rfl ?_))
theorem law_781 (h : ST TT m im K I R) (h0 : 0 < n) (hn : n ≤ 6) : ∃ I1 R1, ST TT m im K I1 R1 ∧ ∀ Z : Option Value × Hp, Ev X 62 0 814 (LW n i c al bf N10) [] (K, I1, R1) Z → Ev X 62 0 781 (LW n i c al bf N10) [] (K, I, R) Z := by
  have k0 := h.k0
  by_cases h1 : n ≤ 1
  · refine ⟨I, R, h, fun Z g => ?_⟩
    unfold LW N10 at g ⊢
    (repeat refine Ev.p rfl rfl ?_)
    refine Ev.bp rfl (fun c => ?_) (fun c => absurd (nI_le (a := n) (b := 1) h1 (by omega)) c)
    (repeat (first | (refine Ev.at (q := 814) rfl ?_; exact g) | refine Ev.p rfl rfl ?_))
  · obtain ⟨w1, I1, R1, e1, c1⟩ := u_of (X := X) h (nI n - 1)
    obtain ⟨b, hb⟩ := bit1 (w1 &&& 1)
    obtain ⟨w2, I2, R2, e2, c2⟩ := u_tie (X := X) c1 stb_TT (nI n - 1) 0 b
    have e1 := e1.dp (d' := 61) (by omega)
    have e2 := e2.dp (d' := 61) (by omega)
    refine ⟨I2, R2, c2, fun Z g => ?_⟩
    unfold LW N10 at g ⊢
    (repeat refine Ev.p rfl rfl ?_)
    refine Ev.bp rfl (fun c => absurd c (nI_ge (a := 1) (b := n) (by omega) (by omega))) (fun c => ?_)
    (repeat refine Ev.p rfl rfl ?_)
    refine Ev.cv (by rfl) (by rfl) (by assumption) (by rfl) (by rfl) (by rfl) (by rfl) (by rfl) e1 ?_
    (repeat refine Ev.p rfl rfl ?_)
    rcases hb with ⟨hb1, rfl⟩ | ⟨hb1, rfl⟩
    · refine Ev.bp rfl (fun c => absurd hb1 c) (fun c => ?_)
      (repeat refine Ev.p rfl rfl ?_)
      refine Ev.cv (by rfl) (by rfl) (by assumption) (by rfl) (by rfl) (by rfl) (by rfl) (by rfl) e2 ?_
      (repeat (first | (refine Ev.at (q := 814) rfl ?_; exact g) | refine Ev.p rfl rfl ?_))
    · refine Ev.bp rfl (fun c => ?_) (fun c => absurd hb1 c)
      (repeat refine Ev.p rfl rfl ?_)
      refine Ev.cv (by rfl) (by rfl) (by assumption) (by rfl) (by rfl) (by rfl) (by rfl) (by rfl) e2 ?_
      (repeat (first | (refine Ev.at (q := 814) rfl ?_; exact g) | refine Ev.p rfl rfl ?_))
theorem law_814 (h : ST TT m im K I R) : ∃ I1 R1, ST TT m im K I1 R1 ∧ ∀ Z : Option Value × Hp, Ev X 62 0 835 (LW n i c al bf [none, none, none, some (.retAddr 10), none, none, none, none, none, none]) [] (K, I1, R1) Z → Ev X 62 0 814 (LW n i c al bf N10) [] (K, I, R) Z := by
  have k0 := h.k0
  obtain ⟨w1, I1, R1, e1, c1⟩ := u_row (X := X) h stb_TT (nI n - 1) 1 9
  obtain ⟨w2, I2, R2, e2, c2⟩ := u_pass (X := X) c1 stb_TT 3
  have e1 := e1.dp (d' := 61) (by omega)
  have e2 := e2.dp (d' := 61) (by omega)
  refine ⟨I2, R2, c2, fun Z g => ?_⟩
  unfold LW at g
  unfold LW N10
  (repeat refine Ev.p rfl rfl ?_)
  refine Ev.cv (by rfl) (by rfl) (by assumption) (by rfl) (by rfl) (by rfl) (by rfl) (by rfl) e1 ?_
  (repeat refine Ev.p rfl rfl ?_)
  refine Ev.cv (by rfl) (by rfl) (by assumption) (by rfl) (by rfl) (by rfl) (by rfl) (by rfl) e2 ?_
  (repeat (first | (refine Ev.at (q := 835) rfl ?_; exact g) | refine Ev.p rfl rfl ?_))
theorem law_856 (h : ST TT m im K I R) : ∃ I1 R1, ST TT m im K I1 R1 ∧ ∀ Z : Option Value × Hp, Ev X 62 0 863 (LW n i c al bf N10) [] (K, I1, R1) Z → Ev X 62 0 856 (LW n i c al bf [none, none, none, some (.retAddr 10), none, none, none, none, none, none]) [] (K, I, R) Z := by
  have k0 := h.k0
  obtain ⟨w1, I1, R1, e1, c1⟩ := u_feed (X := X) h stb_TT 65
  have e1 := e1.dp (d' := 61) (by omega)
  refine ⟨I1, R1, c1, fun Z g => ?_⟩
  unfold LW N10 at g
  unfold LW
  (repeat refine Ev.p rfl rfl ?_)
  refine Ev.cv (by rfl) (by rfl) (by assumption) (by rfl) (by rfl) (by rfl) (by rfl) (by rfl) e1 ?_
  (repeat (first | (refine Ev.at (q := 863) rfl ?_; exact Ev.fg (le_of (by repeat (first | exact trivial | refine And.intro rfl ?_))) g) | refine Ev.p rfl rfl ?_))
theorem law_835 (h : ST TT m im K I R) : ∃ K1 I1 R1, ST TT (m + 1) im K1 I1 R1 ∧ ∀ Z : Option Value × Hp, Ev X 62 0 863 (LW n i c al bf N10) [] (K1, I1, R1) Z → Ev X 62 0 835 (LW n i c al bf [none, none, none, some (.retAddr 10), none, none, none, none, none, none]) [] (K, I, R) Z := by
  have k0 := h.k0
  obtain ⟨w1, I1, R1, e1, c1⟩ := u_count1 (X := X) h
  have e1 := e1.dp (d' := 61) (by omega)
  by_cases h5 : w1 < 5
  · have s1 := j_length (X := X) (d := 60) (i := 10) (by omega) (K, I1, R1)
    obtain ⟨w2, K2, I2, R2, e2, c2⟩ := l_feeds (X := X) c1 stb_TT
    obtain ⟨I3, R3, c3, g3⟩ := law_856 (X := X) (n := n) (i := i) (c := c) (al := al) (bf := bf) c2
    refine ⟨K2, I3, R3, c3, fun Z g => ?_⟩
    have g4 := g3 Z g
    unfold LW at g4 ⊢
    (repeat refine Ev.p rfl rfl ?_)
    refine Ev.cv (by rfl) (by rfl) (by assumption) (by rfl) (by rfl) (by rfl) (by rfl) (by rfl) e1 ?_
    (repeat refine Ev.p rfl rfl ?_)
    refine Ev.bp rfl (fun c => absurd h5 (Int32.not_lt.mpr c)) (fun c => ?_)
    (repeat refine Ev.p rfl rfl ?_)
    refine Ev.c rfl s1 ?_
    (repeat refine Ev.p rfl rfl ?_)
    refine Ev.c rfl e2 ?_
    (repeat (first | (refine Ev.at (q := 856) rfl ?_; exact g4) | refine Ev.p rfl rfl ?_))
  · obtain ⟨I3, R3, c3, g3⟩ := law_856 (X := X) (n := n) (i := i) (c := c) (al := al) (bf := bf) c1
    refine ⟨K, I3, R3, c3.mo (by omega), fun Z g => ?_⟩
    have g4 := g3 Z g
    unfold LW at g4 ⊢
    (repeat refine Ev.p rfl rfl ?_)
    refine Ev.cv (by rfl) (by rfl) (by assumption) (by rfl) (by rfl) (by rfl) (by rfl) (by rfl) e1 ?_
    (repeat refine Ev.p rfl rfl ?_)
    refine Ev.bp rfl (fun c => ?_) (fun c => absurd (Int32.not_lt.mp h5) c)
    (repeat (first | (refine Ev.at (q := 856) rfl ?_; exact g4) | refine Ev.p rfl rfl ?_))
/-- what is done from outside, behind the image -/
theorem law_out (h : ST TT m im K I R) (h0 : 0 < n) (hn : n ≤ 6) : ∃ K1 I1 R1, ST TT (m + 2) im K1 I1 R1 ∧ ∀ Z : Option Value × Hp, Ev X 62 0 863 (LW n i c al bf N10) [] (K1, I1, R1) Z → Ev X 62 0 743 (LW n i c al bf N10) [] (K, I, R) Z := by
  obtain ⟨I1, R1, c1, g1⟩ := law_743 (X := X) (i := i) (c := c) (al := al) (bf := bf) h h0 hn
  obtain ⟨K2, I2, R2, c2, g2⟩ := law_762 (X := X) (n := n) (i := i) (c := c) (al := al) (bf := bf) c1
  obtain ⟨I3, R3, c3, g3⟩ := law_781 (X := X) (i := i) (c := c) (al := al) (bf := bf) c2 h0 hn
  obtain ⟨I4, R4, c4, g4⟩ := law_814 (X := X) (n := n) (i := i) (c := c) (al := al) (bf := bf) c3
  obtain ⟨K5, I5, R5, c5, g5⟩ := law_835 (X := X) (n := n) (i := i) (c := c) (al := al) (bf := bf) c4
  exact ⟨K5, I5, R5, c5, fun Z g => g1 Z (g2 Z (g3 Z (g4 Z (g5 Z g))))⟩
/-- undone all is as the image -/
theorem law_863 {im' : Img} (h : ST TT m (some im') K I R) (hal : al = nI im'.2.1) (hn : 0 < im'.2.1) {b1 b2 : Nat} {r : Int32} (h1 : SN im'.1 im'.2.1 b1) (h2 : SP im'.1 im'.2.1 b2) (h3 : LR im'.1 r) (hbf : bf = nuV im'.1 im'.2.1 im'.2.2.1 im'.2.2.2.1 b1 b2 r) : ∃ I1 R1 l1, CK K I1 R1 im'.1 im'.2.1 im'.2.2.1 im'.2.2.2.1 im'.2.2.2.2 l1 (some im') m ∧ ∀ Z : Option Value × Hp, Ev X 62 0 884 (LW n i c al bf N10) [] (K, I1, R1) Z → Ev X 62 0 863 (LW n i c al bf N10) [] (K, I, R) Z := by
  have k0 := h.k0
  obtain ⟨s, n', hd, cls, e, l, h, -⟩ := h
  obtain ⟨I1, R1, e1, c1⟩ := k_undo (X := X) h
  obtain ⟨I2, R2, e2, c2⟩ := l_all (X := X) c1 hn h1 h2 h3
  rw [← hbf] at e2
  rw [← hal] at e1
  have e1 := e1.dp (d' := 61) (by omega)
  have e2 := e2.dp (d' := 61) (by omega)
  refine ⟨I2, R2, l, c2, fun Z g => ?_⟩
  unfold LW N10 at g ⊢
  (repeat refine Ev.p rfl rfl ?_)
  refine Ev.cv (by rfl) (by rfl) (by assumption) (by rfl) (by rfl) (by rfl) (by rfl) (by rfl) e1 ?_
  (repeat refine Ev.p rfl rfl ?_)
  refine Ev.bp rfl (fun c => absurd rfl c) (fun c => ?_)
  (repeat refine Ev.p rfl rfl ?_)
  refine Ev.c rfl e2 ?_
  (repeat refine Ev.p rfl rfl ?_)
  refine Ev.bp rfl (fun c => ?_) (fun c => absurd ((lg_cmp_eq _ _).mpr rfl) c)
  (repeat (first | (refine Ev.at (q := 884) rfl ?_; exact g) | refine Ev.p rfl rfl ?_))
end REST
