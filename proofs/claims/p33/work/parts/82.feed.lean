/-! A CALL OF THE LAW: feed -/
theorem i2b_nI : ∀ j, j < 128 → (nI j).toInt8.toInt32 = nI j ∧ okc 21 (nI j) = true := by decide +kernel
section FEED
variable {X : Nat × (Nat → Int32)} {d : Nat} {K : List (Nat × Nat)} {T : List (Nat × Nat)} {I : Nat → Nat → Int32} {R : Nat → Nat → Option Nat} {s : Nat → Int32} {n e : Nat} {hd : Option Nat} {cls : Cls} {l : List Int32} {im : Option Img} {kc km : Nat} {As : List Value}
theorem c_feed (hF : FX K R) (hM : HM I 15 s) {z : Nat} (hz : s 31 = nI z) (hz2 : z ≤ 100) (x : Int32) : (¬ (0 ≤ x ∧ x ≤ 127) → Ev X 59 kX11_feed 0 (ent kX11_feed [.ref 0, .int x]) [] (K, I, R) (some (.int (-2)), (K, I, R))) ∧ ((0 ≤ x ∧ x ≤ 127) → z = 100 → Ev X 59 kX11_feed 0 (ent kX11_feed [.ref 0, .int x]) [] (K, I, R) (some (.int (-4)), (K, I, R))) ∧ ((0 ≤ x ∧ x ≤ 127) → z < 100 → Ev X 59 kX11_feed 0 (ent kX11_feed [.ref 0, .int x]) [] (K, I, R) (some (.int (nI (z + 1))), (K, upI (upI I 16 z x) 15 1 (nI (z + 1)), R))) := by
  obtain ⟨f0, f1, f2, f3, f4, f5, f6, fv1, fv2, fv3, fh1, fh2, f7, f8, f9, f10, f11, f12⟩ := hF
  obtain ⟨m1, m2, m3, m4, m5, m6, m7, m8⟩ := hM
  obtain ⟨g0, g1, g2, g3, g4, g5, g6, g7, q0, q1, q2, q3, q4, q5, q6⟩ := id fh1
  rw [hz] at m1
  refine ⟨fun h => ?_, fun h h3 => ?_, fun h h3 => ?_⟩
  · (repeat (first | refine Ev.p rfl rfl ?_ | refine Ev.gr (by rfl) (by rfl) (by assumption) (by rfl) (by assumption) ?_ | refine Ev.gi (by rfl) (by rfl) (by assumption) (by rfl) (by assumption) ?_))
    refine Ev.bp rfl (fun c => ?_) (fun c => ?_)
    · ((repeat refine Ev.p rfl rfl ?_); exact Ev.r rfl)
    · (repeat (first | refine Ev.p rfl rfl ?_ | refine Ev.gr (by rfl) (by rfl) (by assumption) (by rfl) (by assumption) ?_ | refine Ev.gi (by rfl) (by rfl) (by assumption) (by rfl) (by assumption) ?_))
      refine Ev.bp rfl (fun c2 => ?_) (fun c2 => ?_)
      · exact absurd ⟨Int32.not_lt.mp c, c2⟩ h
      · ((repeat refine Ev.p rfl rfl ?_); exact Ev.r rfl)
  · subst h3
    (repeat (first | refine Ev.p rfl rfl ?_ | refine Ev.gr (by rfl) (by rfl) (by assumption) (by rfl) (by assumption) ?_ | refine Ev.gi (by rfl) (by rfl) (by assumption) (by rfl) (by assumption) ?_))
    refine Ev.bp rfl (fun c => ?_) (fun c => ?_)
    · exact absurd c (Int32.not_lt.mpr h.1)
    · (repeat (first | refine Ev.p rfl rfl ?_ | refine Ev.gr (by rfl) (by rfl) (by assumption) (by rfl) (by assumption) ?_ | refine Ev.gi (by rfl) (by rfl) (by assumption) (by rfl) (by assumption) ?_))
      refine Ev.bp rfl (fun c2 => ?_) (fun c2 => ?_)
      · (repeat (first | refine Ev.p rfl rfl ?_ | refine Ev.gr (by rfl) (by rfl) (by assumption) (by rfl) (by assumption) ?_ | refine Ev.gi (by rfl) (by rfl) (by assumption) (by rfl) (by assumption) ?_))
        ((repeat refine Ev.p rfl rfl ?_); exact Ev.r rfl)
      · exact absurd h.2 c2
  · obtain ⟨j, hj, ej⟩ := nI_of2 (M := 127) (n := 127) (by decide) (Int32.not_lt.mpr h.1) h.2
    obtain ⟨J1, hJ1⟩ : ∃ J, J = upI I 16 z x := ⟨_, rfl⟩
    obtain ⟨J2, hJ2⟩ : ∃ J, J = upI J1 15 1 (nI (z + 1)) := ⟨_, rfl⟩
    rw [← hJ1, ← hJ2]
    have j1 : J1 15 1 = nI z := by rw [hJ1, upI_ne (by omega)]; exact m1
    have j2 : J2 15 1 = nI (z + 1) := by rw [hJ2, upI_eq, upd_at]
    have hb := i2b_nI j (by omega)
    rw [← ej] at hb
    (repeat (first | refine Ev.p rfl rfl ?_ | refine Ev.gr (by rfl) (by rfl) (by assumption) (by rfl) (by assumption) ?_ | refine Ev.gi (by rfl) (by rfl) (by assumption) (by rfl) (by assumption) ?_))
    refine Ev.bp rfl (fun c => ?_) (fun c => ?_)
    · exact absurd c (Int32.not_lt.mpr h.1)
    · (repeat (first | refine Ev.p rfl rfl ?_ | refine Ev.gr (by rfl) (by rfl) (by assumption) (by rfl) (by assumption) ?_ | refine Ev.gi (by rfl) (by rfl) (by assumption) (by rfl) (by assumption) ?_))
      refine Ev.bp rfl (fun c2 => ?_) (fun c2 => ?_)
      · (repeat (first | refine Ev.p rfl rfl ?_ | refine Ev.gr (by rfl) (by rfl) (by assumption) (by rfl) (by assumption) ?_ | refine Ev.gi (by rfl) (by rfl) (by assumption) (by rfl) (by assumption) ?_))
        refine Ev.bp rfl (fun c3 => ?_) (fun c3 => ?_)
        · (repeat (first | refine Ev.p rfl rfl ?_ | refine Ev.gr (by rfl) (by rfl) (by assumption) (by rfl) (by assumption) ?_ | refine Ev.gi (by rfl) (by rfl) (by assumption) (by rfl) (by assumption) ?_))
          rw [hb.1]
          (refine Ev.bast (j := z) (by rfl) (by assumption) (Or.inl rfl) hb.2 (by rfl) (by omega) (by omega) ?_; rw [← hJ1])
          (repeat (first | refine Ev.p rfl rfl ?_ | refine Ev.gr (by rfl) (by rfl) (by assumption) (by rfl) (by assumption) ?_ | refine Ev.gi (by rfl) (by rfl) (by assumption) (by rfl) (by assumption) ?_))
          (refine Ev.pi (by rfl) (by rfl) (by assumption) (by rfl) ?_; rw [nI_1, ← hJ2])
          (repeat (first | refine Ev.p rfl rfl ?_ | refine Ev.gr (by rfl) (by rfl) (by assumption) (by rfl) (by assumption) ?_ | refine Ev.gi (by rfl) (by rfl) (by assumption) (by rfl) (by assumption) ?_))
          ((repeat refine Ev.p rfl rfl ?_); exact Ev.r rfl)
        · exact absurd (nI_lt (b := 100) h3 (by omega)) c3
      · exact absurd h.2 c2
end FEED
