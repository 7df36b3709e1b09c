/-! CALLS OF THE LAW: plan, see, feed -/
section HAND3
variable {X : Nat × (Nat → Int32)} {d : Nat} {K : List (Nat × Nat)} {T : List (Nat × Nat)} {I : Nat → Nat → Int32} {R : Nat → Nat → Option Nat} {s : Nat → Int32} {n e : Nat} {hd : Option Nat} {cls : Cls} {l : List Int32} {im : Option Img} {kc km : Nat} {As : List Value}
theorem UC.up {I J : Nat → Nat → Int32} {c j : Nat} {z : Int32} (h : FR UC I J) (hc : UC c) : FR UC I (upI J c j z) := h.tr (fun q hq => upI_ne (fun g => hq (by rw [g]; exact hc)))
theorem uc_tags {K : List (Nat × Nat)} (hF : FX K R) {J : Nat → Nat → Int32} (h : FR UC I J) : ∀ c t z, K[c]? = some (t, z) → ((t < 13 ∧ z = 4) ∨ (t = 8 ∧ z = 10) ∨ (t = 20 ∧ z = 10) ∨ (t = 20 ∧ z = 100)) → J c = I c := fun c t z hk hz => h c (hF.uc c t z hk hz)
theorem c_plan (hF : FX K R) (hG : GS s n hd cls e) (hVH : VH K I R 1 15 s n hd cls) {b : Nat} (hb : s 29 = nI b) (hb8 : b ≤ 8) (x y : Int32) : (x = -1 → Ev X 59 kX11_plan 0 (ent kX11_plan [.ref 0, .int x, .int y]) [] (K, I, R) (some (.int 0), (K, upI I 15 8 0, R))) ∧ (x ≠ -1 → ¬ ((0 ≤ x ∧ x ≤ 3) ∧ (0 < x → isM n y)) → Ev X 59 kX11_plan 0 (ent kX11_plan [.ref 0, .int x, .int y]) [] (K, I, R) (some (.int (-1)), (K, I, R))) ∧ ((0 ≤ x ∧ x ≤ 3) → (0 < x → isM n y) → b = 8 → Ev X 59 kX11_plan 0 (ent kX11_plan [.ref 0, .int x, .int y]) [] (K, I, R) (some (.int (-4)), (K, I, R))) ∧ ((0 ≤ x ∧ x ≤ 3) → (0 < x → isM n y) → b < 8 → Ev X 59 kX11_plan 0 (ent kX11_plan [.ref 0, .int x, .int y]) [] (K, I, R) (some (.int (nI (b + 1))), (K, upI (upI (upI I 19 b x) 20 b y) 15 8 (nI (b + 1)), R))) := by
  have hV := hVH.1
  have hn6 := hG.2.1.1
  have hm := c_isM (X := X) (d := 58) hF hV.2.1.1 hn6 y
  obtain ⟨f0, f1, f2, f3, f4, f5, f6, fv1, fv2, fv3, fh1, fh2, f7, f8, f9, f10, f11, f12⟩ := hF
  obtain ⟨m1, m2, m3, m4, m5, m6, m7, m8⟩ := hVH.2.2.2.2
  obtain ⟨g0, g1, g2, g3, g4, g5, g6, g7, q0, q1, q2, q3, q4, q5, q6⟩ := id fh1
  rw [hb] at m3
  have pos : (0 ≤ x ∧ x ≤ 3) → x ≠ -1 := fun h g => by rw [g] at h; exact absurd h.1 (by decide)
  have go : ∀ {Z : Option Value × Hp}, (0 ≤ x ∧ x ≤ 3) → (0 < x → isM n y) → Ev X 59 kX11_plan 38 [some (.ref 0), some (.int x), some (.int y)] [] (K, I, R) Z → Ev X 59 kX11_plan 0 (ent kX11_plan [.ref 0, .int x, .int y]) [] (K, I, R) Z := by
    intro Z h1 h2 g
    iterate 3 refine Ev.p rfl rfl ?_
    refine Ev.bp rfl (fun c => ?_) (fun c => ?_)
    · iterate 2 refine Ev.p rfl rfl ?_
      refine Ev.bp rfl (fun c2 => ?_) (fun c2 => ?_)
      · exact absurd c2 (Int32.not_lt.mpr h1.1)
      · iterate 3 refine Ev.p rfl rfl ?_
        refine Ev.bp rfl (fun c3 => ?_) (fun c3 => ?_)
        · exact absurd h1.2 (Int32.not_le.mpr c3)
        · iterate 2 refine Ev.p rfl rfl ?_
          refine Ev.bp rfl (fun c4 => g) (fun c4 => ?_)
          have hx : 0 < x := by
            rcases Int32.lt_or_eq_of_le h1.1 with g | g
            · exact g
            · exact absurd g.symm c4
          iterate 2 refine Ev.p rfl rfl ?_
          refine Ev.cv (by rfl) (by rfl) (by assumption) (by rfl) (by rfl) (by rfl) (by rfl) (by rfl) (hm.1 (h2 hx)) ?_
          iterate 1 refine Ev.p rfl rfl ?_
          exact g
    · exact absurd (Decidable.not_not.mp c) (pos h1)
  refine ⟨fun h => ?_, fun h1 h2 => ?_, fun h1 h2 h3 => go h1 h2 ?_, fun h1 h2 h3 => go h1 h2 ?_⟩
  · subst h
    (repeat (first | refine Ev.p rfl rfl ?_ | refine Ev.gr (by rfl) (by rfl) (by assumption) (by rfl) (by assumption) ?_ | refine Ev.gi (by rfl) (by rfl) (by assumption) (by rfl) (by assumption) ?_))
    refine Ev.pi (by rfl) (by rfl) (by assumption) (by rfl) ?_
    ((repeat refine Ev.p rfl rfl ?_); exact Ev.r rfl)
  · (repeat (first | refine Ev.p rfl rfl ?_ | refine Ev.gr (by rfl) (by rfl) (by assumption) (by rfl) (by assumption) ?_ | refine Ev.gi (by rfl) (by rfl) (by assumption) (by rfl) (by assumption) ?_))
    refine Ev.bp rfl (fun c => ?_) (fun c => ?_)
    · (repeat (first | refine Ev.p rfl rfl ?_ | refine Ev.gr (by rfl) (by rfl) (by assumption) (by rfl) (by assumption) ?_ | refine Ev.gi (by rfl) (by rfl) (by assumption) (by rfl) (by assumption) ?_))
      refine Ev.bp rfl (fun c2 => ?_) (fun c2 => ?_)
      · ((repeat refine Ev.p rfl rfl ?_); exact Ev.r rfl)
      · (repeat (first | refine Ev.p rfl rfl ?_ | refine Ev.gr (by rfl) (by rfl) (by assumption) (by rfl) (by assumption) ?_ | refine Ev.gi (by rfl) (by rfl) (by assumption) (by rfl) (by assumption) ?_))
        refine Ev.bp rfl (fun c3 => ?_) (fun c3 => ?_)
        · ((repeat refine Ev.p rfl rfl ?_); exact Ev.r rfl)
        · (repeat (first | refine Ev.p rfl rfl ?_ | refine Ev.gr (by rfl) (by rfl) (by assumption) (by rfl) (by assumption) ?_ | refine Ev.gi (by rfl) (by rfl) (by assumption) (by rfl) (by assumption) ?_))
          refine Ev.bp rfl (fun c4 => ?_) (fun c4 => ?_)
          · exact absurd ⟨⟨Int32.not_lt.mp c2, Int32.not_lt.mp c3⟩, fun g => absurd c4 (fun g2 => by rw [g2] at g; exact absurd g (by decide))⟩ h2
          · by_cases h3 : isM n y
            · exact absurd ⟨⟨Int32.not_lt.mp c2, Int32.not_lt.mp c3⟩, fun _ => h3⟩ h2
            · (repeat (first | refine Ev.p rfl rfl ?_ | refine Ev.gr (by rfl) (by rfl) (by assumption) (by rfl) (by assumption) ?_ | refine Ev.gi (by rfl) (by rfl) (by assumption) (by rfl) (by assumption) ?_))
              refine Ev.cv (by rfl) (by rfl) (by assumption) (by rfl) (by rfl) (by rfl) (by rfl) (by rfl) (hm.2 h3) ?_
              ((repeat refine Ev.p rfl rfl ?_); exact Ev.r rfl)
    · exact absurd (Decidable.not_not.mp c) h1
  · subst h3
    (repeat (first | refine Ev.p rfl rfl ?_ | refine Ev.gr (by rfl) (by rfl) (by assumption) (by rfl) (by assumption) ?_ | refine Ev.gi (by rfl) (by rfl) (by assumption) (by rfl) (by assumption) ?_))
    ((repeat refine Ev.p rfl rfl ?_); exact Ev.r rfl)
  · obtain ⟨J1, hJ1⟩ : ∃ J, J = upI I 19 b x := ⟨_, rfl⟩
    obtain ⟨J2, hJ2⟩ : ∃ J, J = upI J1 20 b y := ⟨_, rfl⟩
    obtain ⟨J3, hJ3⟩ : ∃ J, J = upI J2 15 8 (nI (b + 1)) := ⟨_, rfl⟩
    rw [← hJ1, ← hJ2, ← hJ3]
    have j1 : J1 15 8 = nI b := by rw [hJ1, upI_ne (by omega)]; exact m3
    have j2 : J2 15 8 = nI b := by rw [hJ2, upI_ne (by omega)]; exact j1
    have j3 : J3 15 8 = nI (b + 1) := by rw [hJ3, upI_eq, upd_at]
    (repeat (first | refine Ev.p rfl rfl ?_ | refine Ev.gr (by rfl) (by rfl) (by assumption) (by rfl) (by assumption) ?_ | refine Ev.gi (by rfl) (by rfl) (by assumption) (by rfl) (by assumption) ?_))
    refine Ev.bp rfl (fun c4 => ?_) (fun c4 => ?_)
    · (repeat (first | refine Ev.p rfl rfl ?_ | refine Ev.gr (by rfl) (by rfl) (by assumption) (by rfl) (by assumption) ?_ | refine Ev.gi (by rfl) (by rfl) (by assumption) (by rfl) (by assumption) ?_))
      (refine Ev.iast (j := b) (by rfl) (by assumption) (by rfl) (by omega) (by omega) ?_; rw [← hJ1])
      (repeat (first | refine Ev.p rfl rfl ?_ | refine Ev.gr (by rfl) (by rfl) (by assumption) (by rfl) (by assumption) ?_ | refine Ev.gi (by rfl) (by rfl) (by assumption) (by rfl) (by assumption) ?_))
      (refine Ev.iast (j := b) (by rfl) (by assumption) (by rfl) (by omega) (by omega) ?_; rw [← hJ2])
      (repeat (first | refine Ev.p rfl rfl ?_ | refine Ev.gr (by rfl) (by rfl) (by assumption) (by rfl) (by assumption) ?_ | refine Ev.gi (by rfl) (by rfl) (by assumption) (by rfl) (by assumption) ?_))
      (refine Ev.pi (by rfl) (by rfl) (by assumption) (by rfl) ?_; rw [nI_1, ← hJ3])
      (repeat (first | refine Ev.p rfl rfl ?_ | refine Ev.gr (by rfl) (by rfl) (by assumption) (by rfl) (by assumption) ?_ | refine Ev.gi (by rfl) (by rfl) (by assumption) (by rfl) (by assumption) ?_))
      ((repeat refine Ev.p rfl rfl ?_); exact Ev.r rfl)
    · exact absurd (nI_lt (b := 8) h3 (by omega)) c4
end HAND3
