/-! THE LAW'S LOOP, and the pure statement -/
section LOOPL
variable {X : Nat × (Nat → Int32)} {N : Nat}
theorem K0_len : K0.length = 140 := by decide +kernel
theorem K0_sum : ksum K0 ≤ 10000 := Nat.le_of_ble_eq_true (by decide +kernel)
theorem ST.big {P : (Nat → Int32) → Nat → Prop} {m : Nat} {im : Option Img} {K : List (Nat × Nat)} {I : Nat → Nat → Int32} {R : Nat → Nat → Option Nat} (h : ST P m im K I R) (hm : m ≤ 100) : K.length ≤ 600000 ∧ ksum K ≤ 7302250 := by
  obtain ⟨s, n, hd, cls, e, l, ⟨T, rfl, ⟨h1, h2⟩, -⟩, -⟩ := h
  have := K0_sum
  rw [List.length_append, ksum_ap2, K0_len]
  omega
theorem law_loop (hX : X.1 ≤ 260) (h0 : 0 < N) (hN6 : N ≤ 6) : ∀ (mm i m : Nat) (im : Option Img) (K : List (Nat × Nat)) (I : Nat → Nat → Int32) (R : Nat → Nat → Option Nat), i + mm = 10 → m + 2 * mm ≤ 100 → ST (PX X N) m im K I R → ∃ h' : Hp, Ev X 62 0 18 [some (.retAddr 28), some (.ref 0), some (.int (nI N)), some (.int (nI i)), none, none, none, none, none, none, none, none, none, none, none, none, none, none] [] (K, I, R) (some (.int 1), h') ∧ h'.1.length ≤ 600000 ∧ ksum h'.1 ≤ 7302250 := by
  intro mm
  induction mm with
  | zero =>
    intro i m im K I R hi hm h
    have e0 : i = 10 := by omega
    subst e0
    have hb := h.big (by omega)
    refine ⟨(K, I, R), ?_, hb.1, hb.2⟩
    (repeat refine Ev.p rfl rfl ?_)
    refine Ev.bp rfl (fun c => ?_) (fun c => ?_)
    · ((repeat refine Ev.p rfl rfl ?_); exact Ev.r rfl)
    · ((repeat refine Ev.p rfl rfl ?_); exact Ev.r rfl)
  | succ mm ih =>
    intro i m im K I R hi hm h
    by_cases hl : i < X.1
    · obtain ⟨c, hc⟩ : ∃ c, c = X.2 i := ⟨_, rfl⟩
      obtain ⟨I1, R1, e1, h1⟩ := l_act (X := X) h (stb_PX X N) h0 hN6 c
      obtain ⟨s, n, hd, cls, e, l, c1, ⟨en, hkx⟩⟩ := h1
      subst en
      have k0 := c1.k0
      obtain ⟨I2, R2, e2, c2⟩ := k_image (X := X) c1
      obtain ⟨b1, hb1⟩ := c2.G.2.2.2.2.2.1
      obtain ⟨b2, hb2⟩ := c2.G.2.2.2.2.2.2.1
      obtain ⟨r, hr⟩ := lr_ex c2
      obtain ⟨bf, hbf⟩ : ∃ bf, bf = nuV s n hd cls b1 b2 r := ⟨_, rfl⟩
      obtain ⟨I3, R3, e3, c3⟩ := l_all (X := X) c2 h0 hb1 hb2 hr
      rw [← hbf] at e3
      obtain ⟨al, hal⟩ : ∃ al, al = nI n := ⟨_, rfl⟩
      obtain ⟨I4, R4, c4, g4⟩ := law_chk (X := X) (i := i) (c := c) (al := al) c3 h0 hb1 hb2 hr hbf
      obtain ⟨I5, R5, c5, g5⟩ := law_ask (X := X) (i := i) (c := c) (al := al) c4 h0 hb1 hb2 hr hbf
      obtain ⟨I6, R6, l6, c6, g6⟩ := law_332 (X := X) (i := i) (c := c) (al := al) (bf := bf) hX hkx c5
      obtain ⟨I7, R7, l7, c7, g7⟩ := law_708 (X := X) (i := i) (c := c) (al := al) c6 h0 hb1 hb2 hr hbf
      obtain ⟨K8, I8, R8, h8, g8⟩ := law_out (X := X) (n := n) (i := i) (c := c) (al := al) (bf := bf) (show ST TT m (some (s, n, hd, cls, e)) K I7 R7 from ⟨s, n, hd, cls, e, l7, c7, trivial⟩) h0 hN6
      obtain ⟨I9, R9, l9, c9, g9⟩ := law_863 (X := X) (n := n) (i := i) (c := c) (al := al) (bf := bf) h8 hal h0 hb1 hb2 hr hbf
      obtain ⟨h', a1, a2⟩ := ih (i + 1) (m + 2) (some (s, n, hd, cls, e)) K8 I9 R9 (by omega) (by omega) ⟨s, n, hd, cls, e, l9, c9, rfl, hkx⟩
      refine ⟨h', ?_, a2⟩
      rw [nI_succ i] at a1
      have z9 : Ev X 62 0 884 (LW n i c al bf N10) [] (K8, I9, R9) (some (.int 1), h') := by
        unfold LW N10
        (repeat (first | (refine Ev.at (q := 18) rfl ?_; exact Ev.fg (le_of (by repeat (first | exact trivial | refine And.intro rfl ?_))) a1) | refine Ev.p rfl rfl ?_))
      have z4 := g4 _ (g5 _ (g6 _ (g7 _ (g8 _ (g9 _ z9)))))
      have e2 := e2.dp (d' := 61) (by omega)
      have e3 := e3.dp (d' := 61) (by omega)
      rw [← hal] at e2
      unfold LW N10 at z4
      (repeat refine Ev.p rfl rfl ?_)
      refine Ev.bp rfl (fun c => absurd c (nI_ge (a := i) (b := X.1) hl (by omega))) (fun _ => ?_)
      (repeat refine Ev.p rfl rfl ?_)
      refine Ev.bp rfl (fun c => absurd c (nI_ge (a := i) (b := 10) (by omega) (by omega))) (fun _ => ?_)
      (repeat refine Ev.p rfl rfl ?_)
      refine Ev.sld (j := i) (by rfl) (by rfl) hl (by omega) ?_
      rw [← hc]
      (repeat refine Ev.p rfl rfl ?_)
      refine Ev.c rfl e1 ?_
      (repeat refine Ev.p rfl rfl ?_)
      refine Ev.cv (by rfl) (by rfl) (by assumption) (by rfl) (by rfl) (by rfl) (by rfl) (by rfl) e2 ?_
      (repeat refine Ev.p rfl rfl ?_)
      refine Ev.c rfl e3 ?_
      (repeat (first | (refine Ev.at (q := 54) rfl ?_; exact z4) | refine Ev.p rfl rfl ?_))
    · have hb := h.big (by omega)
      refine ⟨(K, I, R), ?_, hb.1, hb.2⟩
      (repeat refine Ev.p rfl rfl ?_)
      refine Ev.bp rfl (fun c => ?_) (fun c => absurd (nI_le (a := X.1) (b := i) (by omega) (by omega)) c)
      ((repeat refine Ev.p rfl rfl ?_); exact Ev.r rfl)
end LOOPL
/-- the machine of the tables: the law comes back with true -/
theorem pure_ok : Pure := by
  intro L xs hL
  obtain ⟨X, hXe⟩ : ∃ X : Nat × (Nat → Int32), X = (L, xs) := ⟨_, rfl⟩
  have hX : X.1 ≤ 260 := by rw [hXe]; exact hL
  rw [← hXe]
  obtain ⟨j, hj, ej⟩ := sm_lt (xa X 0 >>> ((2 : Int32) &&& 31)) (m := 6) (by omega) (by omega)
  have hN : maX X = nI (j + 1) := by
    unfold maX
    rw [ej, nI_succ, Int32.add_comm]
  obtain ⟨K1, I1, R1, e1, h1⟩ := l_station (X := X) hX hN (by omega) (duX X)
  have s1 := l_due (X := X) (d := 60) (h := ([], fun _ _ => 0, fun _ _ => none)) hX
  have s2 := l_matters (X := X) (d := 60) (h := (K1, I1, R1)) hX
  rw [hN] at s2
  obtain ⟨h', a1, a2, a3⟩ := law_loop (X := X) (N := j + 1) hX (by omega) (by omega) 6 4 (j + 1 + 1) none K1 I1 R1 (by omega) (by omega) h1
  have fin : Ev X 62 0 0 (some (.retAddr 28) :: List.replicate 17 none) [] ([], fun _ _ => 0, fun _ _ => none) (some (.int 1), h') := by
    refine Ev.ls (ls2 := [some (.retAddr 28), none, none, none, none, none, none, none, none, none, none, none, none, none, none, none, none, none]) rfl ?_
    (repeat refine Ev.p rfl rfl ?_)
    refine Ev.c rfl s1 ?_
    (repeat refine Ev.p rfl rfl ?_)
    refine Ev.c rfl e1 ?_
    (repeat refine Ev.p rfl rfl ?_)
    refine Ev.c rfl s2 ?_
    (repeat (first | (refine Ev.at (q := 18) rfl ?_; exact a1) | refine Ev.p rfl rfl ?_))
  obtain ⟨f, hf⟩ := fin
  exact ⟨f, h', hf, a2, a3⟩
