/-! CALLS OF THE LAW: talk, pass -/
theorem GS_go {s : Nat → Int32} {n e : Nat} {hd : Option Nat} {cls : Cls} {du fd : Int32} {tk : Option Nat} {x : Int32} (h : GS s n hd cls e) (he : e < 9999) (hx : tkV tk n x) (hfd : rT s hd 227 1 = fd) : GS (rGo s n cls du fd tk) n hd cls (e + 1) := by
  have hn6 := h.2.1.1
  have hal := rGo_al (s := s) hn6 cls du fd hx
  have ho : VOo s (rGo s n cls du fd tk) := fun j h1 _ => hal j (by omega)
  obtain ⟨f, hf, ef⟩ := h.2.2.2.2.2.2.2.2.2.2.1
  have hRI := RI_go (du := du) h.2.1 hx (hfd.symm.trans ef) hf
  refine h.vo ho (fun p hp => by rw [hal _ (by omega)]; exact h.1.2.2.1 p hp) hRI (by omega) ?_ (fun p hp => ?_)
  · obtain ⟨c, hc, ec⟩ := h.2.2.2.1
    refine ⟨c + cnt (rOp (rGo s n cls du fd tk)) n, ?_, by rw [go_1 hn6, ec, nI_add]⟩
    have := cnt_le (rOp (rGo s n cls du fd tk)) n
    omega
  · obtain ⟨a, ha, ea⟩ := h.2.2.2.2.1 p hp
    rcases Nat.lt_or_ge p n with g | g
    · rw [go_2 hn6 g, ea]
      by_cases h0 : rGo s n cls du fd tk (14 + p) = 0
      · rw [if_pos h0]; exact ⟨a + 1, by omega, nI_1 a⟩
      · rw [if_neg h0, Int32.add_zero]; exact ⟨a, by omega, rfl⟩
    · rw [(go_o hn6 hx hp g).2]; exact ⟨a, by omega, ea⟩
theorem GS.cap {s : Nat → Int32} {n e : Nat} {hd : Option Nat} {cls : Cls} (h : GS s n hd cls e) : cap s n := by
  have he := h.2.2.1
  have hn6 := h.2.1.1
  obtain ⟨c, hc, ec⟩ := h.2.2.2.1
  refine ⟨?_, fun q hq => ?_⟩
  · rw [ec]; exact nI_nlt (a := 999999) (by omega) (by omega)
  · obtain ⟨a, ha, ea⟩ := h.2.2.2.2.1 q (by omega)
    rw [ea]; exact nI_nlt (a := 9999) (by omega) (by omega)
section TALK
variable {X : Nat × (Nat → Int32)} {d : Nat} {K : List (Nat × Nat)} {T : List (Nat × Nat)} {I : Nat → Nat → Int32} {R : Nat → Nat → Option Nat} {s : Nat → Int32} {n e : Nat} {hd : Option Nat} {cls : Cls} {l : List Int32} {im : Option Img} {kc km : Nat} {As : List Value}
/-- an evening goes, on the class's side -/
theorem c_goV (hF : FX K R) (hG : GS s n hd cls e) (hVH : VH K I R 1 15 s n hd cls) (he : e < 9999) {tk : Option Nat} {x : Int32} (hx : tkV tk n x) : ∃ I', Ev X (d + 5) kX10_goOn 0 (ent kX10_goOn [.ref 1, .int x]) [] (K, I, R) (none, (K, I', R)) ∧ VH K I' R 1 15 (rGo s n cls (rT s hd 222 20) (rT s hd 227 1) tk) n hd cls ∧ FR UC I I' := by
  have hn6 := hG.2.1.1
  obtain ⟨I', g1, g2, g3, g4, g5⟩ := c_goA (X := X) (d := d) hVH.1 hG.2.1 (by omega) hx
  have hal := rGo_al (s := s) hn6 cls (rT s hd 222 20) (rT s hd 227 1) hx
  have ho : VOo s (rGo s n cls (rT s hd 222 20) (rT s hd 227 1) tk) := fun j h1 _ => hal j (by omega)
  have hq : FR UC I I' := g3.mo (fun c hc => by unfold PGo at hc; unfold UC; omega)
  refine ⟨I', g1, hVH.vo ho g2 g4 (fun p p1 p2 => ?_) (fun p hp => ⟨hal _ (by omega), hal _ (by omega)⟩) (fun c t hk ht => uc_tags hF hq c t 4 hk (Or.inl ⟨ht, rfl⟩)) (fun c c1 c2 => g3 c (fun g => by unfold PGo at g; omega)), hq⟩
  obtain ⟨z1, z2, z3, z4⟩ := hVH.2.2.1 p p1 p2
  refine ⟨(g5 p p1).1.trans z1, (g5 p p1).2.trans z2, ?_, fun k hk => ?_⟩
  · rw [g3 (1 + 6) (fun g => by unfold PGo at g; omega)]; exact z3
  · rw [g3 (1 + 7) (fun g => by unfold PGo at g; omega)]; exact z4 k hk
theorem c_talk (hF : FX K R) (hG : GS s n hd cls e) (hVH : VH K I R 1 15 s n hd cls) (x : Int32) : ((x = -1 ∨ isM n x) → e = 9999 → Ev X 59 kX11_talk 0 (ent kX11_talk [.ref 0, .int x]) [] (K, I, R) (some (.int (-3)), (K, I, R))) ∧ (∀ tk, (x = -1 ∨ isM n x) → e < 9999 → tkV tk n x → ∃ I', Ev X 59 kX11_talk 0 (ent kX11_talk [.ref 0, .int x]) [] (K, I, R) (some (.int (rSO (rGo s n cls (rT s hd 222 20) (rT s hd 227 1) tk) n)), (K, I', R)) ∧ VH K I' R 1 15 (rGo s n cls (rT s hd 222 20) (rT s hd 227 1) tk) n hd cls ∧ FR UC I I') ∧ (x ≠ -1 → ¬ isM n x → Ev X 59 kX11_talk 0 (ent kX11_talk [.ref 0, .int x]) [] (K, I, R) (some (.int (-1)), (K, I, R))) := by
  have hn6 := hG.2.1.1
  have he := hG.2.2.1
  have hFF := hF
  have hm := c_isM (X := X) (d := 58) hF hVH.1.2.1.1 hn6 x
  obtain ⟨f0, f1, f2, f3, f4, f5, f6, fv1, fv2, fv3, fh1, fh2, f7, f8, f9, f10, f11, f12⟩ := hF
  obtain ⟨k0, -⟩ := id fv1
  have v12 : I 1 12 = nI e := hVH.1.2.1.2.2.2.2.1.trans hG.1.2.2.2.1
  have go : ∀ {Z : Option Value × Hp}, (x = -1 ∨ isM n x) → Ev X 59 kX11_talk 15 [some (.ref 0), some (.int x)] [] (K, I, R) Z → Ev X 59 kX11_talk 0 (ent kX11_talk [.ref 0, .int x]) [] (K, I, R) Z := by
    intro Z h g
    iterate 3 refine Ev.p rfl rfl ?_
    refine Ev.bp rfl (fun c => ?_) (fun c => ?_)
    · exact g
    · iterate 2 refine Ev.p rfl rfl ?_
      refine Ev.cv (by rfl) (by rfl) (by assumption) (by rfl) (by rfl) (by rfl) (by rfl) (by rfl) (hm.1 (h.resolve_left c)) ?_
      iterate 1 refine Ev.p rfl rfl ?_
      exact g
  refine ⟨fun h h2 => go h ?_, fun tk h h2 hx => ?_, fun h1 h2 => ?_⟩
  · subst h2
    (repeat (first | refine Ev.p rfl rfl ?_ | refine Ev.gr (by rfl) (by rfl) (by assumption) (by rfl) (by assumption) ?_ | refine Ev.gi (by rfl) (by rfl) (by assumption) (by rfl) (by assumption) ?_))
    ((repeat refine Ev.p rfl rfl ?_); exact Ev.r rfl)
  · obtain ⟨I', g1, g2, g3⟩ := c_goV (X := X) (d := 53) hFF hG hVH h2 hx
    refine ⟨I', go h ?_, g2, g3⟩
    have v9 := g2.1.2.1.2.1
    have hG2 := GS_go (du := rT s hd 222 20) hG h2 hx rfl
    rw [rSO_mk hG2.2.1.2.1.1 n hn6]
    (repeat (first | refine Ev.p rfl rfl ?_ | refine Ev.gr (by rfl) (by rfl) (by assumption) (by rfl) (by assumption) ?_ | refine Ev.gi (by rfl) (by rfl) (by assumption) (by rfl) (by assumption) ?_))
    refine Ev.bp rfl (fun c => ?_) (fun c => ?_)
    · (repeat (first | refine Ev.p rfl rfl ?_ | refine Ev.gr (by rfl) (by rfl) (by assumption) (by rfl) (by assumption) ?_ | refine Ev.gi (by rfl) (by rfl) (by assumption) (by rfl) (by assumption) ?_))
      refine Ev.cv (by rfl) (by rfl) (by assumption) (by rfl) (by rfl) (by rfl) (by rfl) (by rfl) g1 ?_
      (repeat (first | refine Ev.p rfl rfl ?_ | refine Ev.gr (by rfl) (by rfl) (by assumption) (by rfl) (by assumption) ?_ | refine Ev.gi (by rfl) (by rfl) (by assumption) (by rfl) (by assumption) ?_))
      ((repeat refine Ev.p rfl rfl ?_); exact Ev.r rfl)
    · exact absurd (nI_lt (b := 9999) h2 (by omega)) c
  · (repeat (first | refine Ev.p rfl rfl ?_ | refine Ev.gr (by rfl) (by rfl) (by assumption) (by rfl) (by assumption) ?_ | refine Ev.gi (by rfl) (by rfl) (by assumption) (by rfl) (by assumption) ?_))
    refine Ev.bp rfl (fun c => ?_) (fun c => ?_)
    · exact absurd c h1
    · (repeat (first | refine Ev.p rfl rfl ?_ | refine Ev.gr (by rfl) (by rfl) (by assumption) (by rfl) (by assumption) ?_ | refine Ev.gi (by rfl) (by rfl) (by assumption) (by rfl) (by assumption) ?_))
      refine Ev.cv (by rfl) (by rfl) (by assumption) (by rfl) (by rfl) (by rfl) (by rfl) (by rfl) (hm.2 h2) ?_
      ((repeat refine Ev.p rfl rfl ?_); exact Ev.r rfl)
theorem tkm {n : Nat} : tkV none n (-1) := by show (-1 : Int32) < 0; decide
theorem GS_ps (h : GS s n hd cls e) {du fd : Int32} (hfd : rT s hd 227 1 = fd) : ∀ k, e + k ≤ 9999 → GS (rPs s n cls du fd k) n hd cls (e + k) := by
  intro k
  induction k with
  | zero => intro _; exact h
  | succ k ih =>
    intro hk
    have := ih (by omega)
    have hal := rPs_al (s := s) h.2.1.1 cls du fd k
    have hlt : e + k < 9999 := by omega
    exact GS_go (tk := none) (x := -1) this hlt tkm ((hal.T (by omega) 1).trans hfd)
theorem c_pass (hF : FX K R) (hG : GS s n hd cls e) (hVH : VH K I R 1 15 s n hd cls) (x : Int32) : (¬ (0 ≤ x ∧ x ≤ 60) → Ev X 59 kX11_pass 0 (ent kX11_pass [.ref 0, .int x]) [] (K, I, R) (some (.int (-2)), (K, I, R))) ∧ (∀ k, k ≤ 60 → x = nI k → 9999 < e + k → Ev X 59 kX11_pass 0 (ent kX11_pass [.ref 0, .int x]) [] (K, I, R) (some (.int (-3)), (K, I, R))) ∧ (∀ k, k ≤ 60 → x = nI k → e + k ≤ 9999 → ∃ I', Ev X 59 kX11_pass 0 (ent kX11_pass [.ref 0, .int x]) [] (K, I, R) (some (.int (nI (e + k))), (K, I', R)) ∧ VH K I' R 1 15 (rPs s n cls (rT s hd 222 20) (rT s hd 227 1) k) n hd cls ∧ FR UC I I') := by
  have hn6 := hG.2.1.1
  have he := hG.2.2.1
  have hFF := hF
  obtain ⟨f0, f1, f2, f3, f4, f5, f6, fv1, fv2, fv3, fh1, fh2, f7, f8, f9, f10, f11, f12⟩ := hF
  obtain ⟨k0, -⟩ := id fv1
  have v12 : I 1 12 = nI e := hVH.1.2.1.2.2.2.2.1.trans hG.1.2.2.2.1
  refine ⟨fun h => ?_, fun k hk ex h2 => ?_, fun k hk ex h2 => ?_⟩
  · (repeat (first | refine Ev.p rfl rfl ?_ | refine Ev.gr (by rfl) (by rfl) (by assumption) (by rfl) (by assumption) ?_ | refine Ev.gi (by rfl) (by rfl) (by assumption) (by rfl) (by assumption) ?_))
    refine Ev.bp rfl (fun c => ?_) (fun c => ?_)
    · ((repeat refine Ev.p rfl rfl ?_); exact Ev.r rfl)
    · (repeat (first | refine Ev.p rfl rfl ?_ | refine Ev.gr (by rfl) (by rfl) (by assumption) (by rfl) (by assumption) ?_ | refine Ev.gi (by rfl) (by rfl) (by assumption) (by rfl) (by assumption) ?_))
      refine Ev.bp rfl (fun c2 => ?_) (fun c2 => ?_)
      · exact absurd ⟨Int32.not_lt.mp c, c2⟩ h
      · ((repeat refine Ev.p rfl rfl ?_); exact Ev.r rfl)
  · subst ex
    (repeat (first | refine Ev.p rfl rfl ?_ | refine Ev.gr (by rfl) (by rfl) (by assumption) (by rfl) (by assumption) ?_ | refine Ev.gi (by rfl) (by rfl) (by assumption) (by rfl) (by assumption) ?_))
    refine Ev.bp rfl (fun c => ?_) (fun c => ?_)
    · exact absurd c (nI_pos (by omega))
    · (repeat (first | refine Ev.p rfl rfl ?_ | refine Ev.gr (by rfl) (by rfl) (by assumption) (by rfl) (by assumption) ?_ | refine Ev.gi (by rfl) (by rfl) (by assumption) (by rfl) (by assumption) ?_))
      refine Ev.bp rfl (fun c2 => ?_) (fun c2 => ?_)
      · (repeat (first | refine Ev.p rfl rfl ?_ | refine Ev.gr (by rfl) (by rfl) (by assumption) (by rfl) (by assumption) ?_ | refine Ev.gi (by rfl) (by rfl) (by assumption) (by rfl) (by assumption) ?_))
        rw [nI_add]
        refine Ev.bp rfl (fun c3 => ?_) (fun c3 => ?_)
        · exact absurd c3 (nI_ge (a := 9999) h2 (by omega))
        · ((repeat refine Ev.p rfl rfl ?_); exact Ev.r rfl)
      · exact absurd (nI_le (b := 60) hk (by omega)) c2
  · subst ex
    have lp : ∀ m j, j + m = k → ∀ J, VH K J R 1 15 (rPs s n cls (rT s hd 222 20) (rT s hd 227 1) j) n hd cls → FR UC I J → ∃ I', Ev X 59 kX11_pass 33 [some (.ref 0), some (.int (nI k)), some (.int (nI j))] [] (K, J, R) (some (.int (nI (e + k))), (K, I', R)) ∧ VH K I' R 1 15 (rPs s n cls (rT s hd 222 20) (rT s hd 227 1) k) n hd cls ∧ FR UC I I' := by
      intro m
      induction m with
      | zero =>
        intro j hj J hJ hq
        have ej : j = k := by omega
        subst ej
        have w12 : J 1 12 = nI (e + j) := hJ.1.2.1.2.2.2.2.1.trans (GS_ps hG rfl j h2).1.2.2.2.1
        refine ⟨J, ?_, hJ, hq⟩
        (repeat (first | refine Ev.p rfl rfl ?_ | refine Ev.gr (by rfl) (by rfl) (by assumption) (by rfl) (by assumption) ?_ | refine Ev.gi (by rfl) (by rfl) (by assumption) (by rfl) (by assumption) ?_))
        refine Ev.bp rfl (fun c => ?_) (fun c => ?_)
        · (repeat (first | refine Ev.p rfl rfl ?_ | refine Ev.gr (by rfl) (by rfl) (by assumption) (by rfl) (by assumption) ?_ | refine Ev.gi (by rfl) (by rfl) (by assumption) (by rfl) (by assumption) ?_))
          ((repeat refine Ev.p rfl rfl ?_); exact Ev.r rfl)
        · exact absurd (nI_le (Nat.le_refl _) (by omega)) c
      | succ m ih =>
        intro j hj J hJ hq
        have hGj := GS_ps hG (du := rT s hd 222 20) (rfl : rT s hd 227 1 = _) j (by omega)
        obtain ⟨I1, g1, g2, g3⟩ := c_goV (X := X) (d := 53) hFF hGj hJ (by omega) (tk := none) (x := -1) tkm
        have hal := rPs_al (s := s) hn6 cls (rT s hd 222 20) (rT s hd 227 1) j
        rw [hal.T (by omega), hal.T (by omega)] at g2
        obtain ⟨I', r1, r2, r3⟩ := ih (j + 1) (by omega) I1 g2 (hq.tr g3)
        refine ⟨I', ?_, r2, r3⟩
        rw [nI_succ] at r1
        (repeat (first | refine Ev.p rfl rfl ?_ | refine Ev.gr (by rfl) (by rfl) (by assumption) (by rfl) (by assumption) ?_ | refine Ev.gi (by rfl) (by rfl) (by assumption) (by rfl) (by assumption) ?_))
        refine Ev.bp rfl (fun c => ?_) (fun c => ?_)
        · exact absurd c (nI_ge (by omega) (by omega))
        · (repeat (first | refine Ev.p rfl rfl ?_ | refine Ev.gr (by rfl) (by rfl) (by assumption) (by rfl) (by assumption) ?_ | refine Ev.gi (by rfl) (by rfl) (by assumption) (by rfl) (by assumption) ?_))
          refine Ev.cv (by rfl) (by rfl) (by assumption) (by rfl) (by rfl) (by rfl) (by rfl) (by rfl) g1 ?_
          iterate 2 refine Ev.p rfl rfl ?_
          exact r1
    obtain ⟨I', r1, r2, r3⟩ := lp k 0 (by omega) I hVH (FR.rf I)
    refine ⟨I', ?_, r2, r3⟩
    (repeat (first | refine Ev.p rfl rfl ?_ | refine Ev.gr (by rfl) (by rfl) (by assumption) (by rfl) (by assumption) ?_ | refine Ev.gi (by rfl) (by rfl) (by assumption) (by rfl) (by assumption) ?_))
    refine Ev.bp rfl (fun c => ?_) (fun c => ?_)
    · exact absurd c (nI_pos (by omega))
    · (repeat (first | refine Ev.p rfl rfl ?_ | refine Ev.gr (by rfl) (by rfl) (by assumption) (by rfl) (by assumption) ?_ | refine Ev.gi (by rfl) (by rfl) (by assumption) (by rfl) (by assumption) ?_))
      refine Ev.bp rfl (fun c2 => ?_) (fun c2 => ?_)
      · (repeat (first | refine Ev.p rfl rfl ?_ | refine Ev.gr (by rfl) (by rfl) (by assumption) (by rfl) (by assumption) ?_ | refine Ev.gi (by rfl) (by rfl) (by assumption) (by rfl) (by assumption) ?_))
        rw [nI_add]
        refine Ev.bp rfl (fun c3 => ?_) (fun c3 => ?_)
        · iterate 2 refine Ev.p rfl rfl ?_
          exact r1
        · exact absurd (nI_le (b := 9999) h2 (by omega)) c3
      · exact absurd (nI_le (b := 60) hk (by omega)) c2
end TALK
