/-! A CALL OF THE LAW: feed -/
theorem i2b_nI : ∀ j, j < 128 → (nI j).toInt8.toInt32 = nI j ∧ okc 21 (nI j) = true := by decide +kernel
section FEED
variable {X : Nat × (Nat → Int32)} {d : Nat} {K : List (Nat × Nat)} {T : List (Nat × Nat)} {I : Nat → Nat → Int32} {R : Nat → Nat → Option Nat} {s : Nat → Int32} {n e : Nat} {hd : Option Nat} {cls : Cls} {l : List Int32} {im : Option Img} {kc km : Nat} {As : List Value}
theorem c_feed (hF : FX K R) (hM : HM I 15 s) {z : Nat} (hz : s 31 = nI z) (hz2 : z ≤ 100) (x : Int32) : (¬ (0 ≤ x ∧ x ≤ 127) → Ev X 59 kX11_feed 0 (ent kX11_feed [.ref 0, .int x]) [] (K, I, R) (some (.int (-2)), (K, I, R))) ∧ ((0 ≤ x ∧ x ≤ 127) → z = 100 → Ev X 59 kX11_feed 0 (ent kX11_feed [.ref 0, .int x]) [] (K, I, R) (some (.int (-4)), (K, I, R))) ∧ ((0 ≤ x ∧ x ≤ 127) → z < 100 → Ev X 59 kX11_feed 0 (ent kX11_feed [.ref 0, .int x]) [] (K, I, R) (some (.int (nI (z + 1))), (K, upI (upI I 16 z x) 15 1 (nI (z + 1)), R))) := by
  obtain ⟨f0, f1, f2, f3, f4, f5, f6, fv1, fv2, fv3, fh1, fh2, f7, f8, f9, f10, f11, f12, -⟩ := hF
  obtain ⟨m1, m2, m3, m4, m5, m6, m7, m8⟩ := hM
  obtain ⟨g0, g1, g2, g3, g4, g5, g6, g7, q0, q1, q2, q3, q4, q5, q6⟩ := id fh1
  rw [hz] at m1
  refine ⟨fun h => ?_, fun h h3 => ?_, fun h h3 => ?_⟩
  · (repeat (first | refine Ev.p rfl rfl ?_ | refine Ev.gr (by rfl) (by rfl) (by assumption) (by rfl) (by assumption) ?_ | refine Ev.gi (by rfl) (by rfl) (by assumption) (by rfl) (by assumption) ?_))
    refine Ev.bp rfl (fun c => ?_) (fun c => ?_)
    · ((repeat refine Ev.p rfl rfl ?_); exact Ev.r rfl)
    · (repeat (first | refine Ev.p rfl rfl ?_ | refine Ev.gr (by rfl) (by rfl) (by assumption) (by rfl) (by assumption) ?_ | refine Ev.gi (by rfl) (by rfl) (by assumption) (by rfl) (by assumption) ?_))
      refine Ev.bp rfl (fun c2 => ?_) (fun c2 => ?_)
      · exact absurd ⟨Int32.not_lt.mp c, c2⟩ h
      · ((repeat refine Ev.p rfl rfl ?_); exact Ev.r rfl)
  · subst h3
    (repeat (first | refine Ev.p rfl rfl ?_ | refine Ev.gr (by rfl) (by rfl) (by assumption) (by rfl) (by assumption) ?_ | refine Ev.gi (by rfl) (by rfl) (by assumption) (by rfl) (by assumption) ?_))
    refine Ev.bp rfl (fun c => ?_) (fun c => ?_)
    · exact absurd c (Int32.not_lt.mpr h.1)
    · (repeat (first | refine Ev.p rfl rfl ?_ | refine Ev.gr (by rfl) (by rfl) (by assumption) (by rfl) (by assumption) ?_ | refine Ev.gi (by rfl) (by rfl) (by assumption) (by rfl) (by assumption) ?_))
      refine Ev.bp rfl (fun c2 => ?_) (fun c2 => ?_)
      · (repeat (first | refine Ev.p rfl rfl ?_ | refine Ev.gr (by rfl) (by rfl) (by assumption) (by rfl) (by assumption) ?_ | refine Ev.gi (by rfl) (by rfl) (by assumption) (by rfl) (by assumption) ?_))
        ((repeat refine Ev.p rfl rfl ?_); exact Ev.r rfl)
      · exact absurd h.2 c2
  · obtain ⟨j, hj, ej⟩ := nI_of2 (M := 127) (n := 127) (by decide) (Int32.not_lt.mpr h.1) h.2
    obtain ⟨J1, hJ1⟩ : ∃ J, J = upI I 16 z x := ⟨_, rfl⟩
    obtain ⟨J2, hJ2⟩ : ∃ J, J = upI J1 15 1 (nI (z + 1)) := ⟨_, rfl⟩
    rw [← hJ1, ← hJ2]
    have j1 : J1 15 1 = nI z := by rw [hJ1, upI_ne (by omega)]; exact m1
    have j2 : J2 15 1 = nI (z + 1) := by rw [hJ2, upI_eq, upd_at]
    have hb := i2b_nI j (by omega)
    rw [← ej] at hb
    (repeat (first | refine Ev.p rfl rfl ?_ | refine Ev.gr (by rfl) (by rfl) (by assumption) (by rfl) (by assumption) ?_ | refine Ev.gi (by rfl) (by rfl) (by assumption) (by rfl) (by assumption) ?_))
    refine Ev.bp rfl (fun c => ?_) (fun c => ?_)
    · exact absurd c (Int32.not_lt.mpr h.1)
    · (repeat (first | refine Ev.p rfl rfl ?_ | refine Ev.gr (by rfl) (by rfl) (by assumption) (by rfl) (by assumption) ?_ | refine Ev.gi (by rfl) (by rfl) (by assumption) (by rfl) (by assumption) ?_))
      refine Ev.bp rfl (fun c2 => ?_) (fun c2 => ?_)
      · (repeat (first | refine Ev.p rfl rfl ?_ | refine Ev.gr (by rfl) (by rfl) (by assumption) (by rfl) (by assumption) ?_ | refine Ev.gi (by rfl) (by rfl) (by assumption) (by rfl) (by assumption) ?_))
        refine Ev.bp rfl (fun c3 => ?_) (fun c3 => ?_)
        · (repeat (first | refine Ev.p rfl rfl ?_ | refine Ev.gr (by rfl) (by rfl) (by assumption) (by rfl) (by assumption) ?_ | refine Ev.gi (by rfl) (by rfl) (by assumption) (by rfl) (by assumption) ?_))
          rw [hb.1]
          (refine Ev.bast (j := z) (by rfl) (by assumption) (Or.inl rfl) hb.2 (by rfl) (by omega) (by omega) ?_; rw [← hJ1])
          (repeat (first | refine Ev.p rfl rfl ?_ | refine Ev.gr (by rfl) (by rfl) (by assumption) (by rfl) (by assumption) ?_ | refine Ev.gi (by rfl) (by rfl) (by assumption) (by rfl) (by assumption) ?_))
          (refine Ev.pi (by rfl) (by rfl) (by assumption) (by rfl) ?_; rw [nI_1, ← hJ2])
          (repeat (first | refine Ev.p rfl rfl ?_ | refine Ev.gr (by rfl) (by rfl) (by assumption) (by rfl) (by assumption) ?_ | refine Ev.gi (by rfl) (by rfl) (by assumption) (by rfl) (by assumption) ?_))
          ((repeat refine Ev.p rfl rfl ?_); exact Ev.r rfl)
        · exact absurd (nI_lt (b := 100) h3 (by omega)) c3
      · exact absurd h.2 c2
theorem op_feed (hK : RSok R) (hG : GS s n hd cls e) (hC : CR (K0 ++ T) I R s n hd cls l im) (hR : RR I s l im) (x : Int32) : OP X T I R kX11_feed kX12_feed [.int x] := by
  have hF := FX1 (T := T) hK
  have hM := hC.1.2.2.2.2
  obtain ⟨z, hz2, hz, hzt⟩ := hG.2.2.2.2.2.2.2.2.1
  have hc := c_feed (X := X) hF hM hz hz2 x
  have hm := fun (I1 : Nat → Nat → Int32) (h1 : I1 141 = s) => m_feed (X := X) (d := 58) (T := T) (G := R) h1 hz hz2 x
  have u15 : UC 15 := by unfold UC; omega
  by_cases h : 0 ≤ x ∧ x ≤ 127
  · rcases (by omega : z = 100 ∨ z < 100) with h3 | h3
    · refine ask_op hK hG hC hR (hc.2.1 h h3) (FR.rf I) (fun _ _ _ _ _ => rfl) (fun g1 _ _ => ?_)
      obtain ⟨I', r, r1, r2, r3⟩ := hm I g1
      rcases r3 with ⟨a, b, c⟩ | ⟨a, b, c, d⟩ | ⟨a, b, c, d⟩
      · exact absurd h a
      · exact ⟨I', by rw [c] at r1; exact r1, d, r2⟩
      · omega
    · obtain ⟨j, hj, ej⟩ := nI_of2 (M := 127) (n := 127) (by decide) (Int32.not_lt.mpr h.1) h.2
      have ho : HO s (upd (upd s (122 + z) x) 31 (nI (z + 1))) := ((HO.rf s).up x (by omega)).up _ (by omega)
      have hq : FR UC I (upI (upI I 16 z x) 15 1 (nI (z + 1))) := UC.up (UC.up (FR.rf I) (by unfold UC; omega)) u15
      refine upd_op (s' := upd (upd s (122 + z) x) 31 (nI (z + 1))) hK hC hR (hc.2.2 h h3) hq (fun g1 g2 _ => ?_) (hG.ho ho ?_ ?_ ?_ ⟨z + 1, by omega, upd_at _ _ _, fun k hk => ?_⟩ ⟨fun k hk => by
        by_cases g : k = z
        · rw [g, upd_ne (by omega), upd_at]; exact ⟨j, by omega, ej⟩
        · rw [upd_ne (by omega), upd_ne (by omega)]; exact hG.by.1 k hk, fun k hk => by rw [upd_ne (by omega), upd_ne (by omega)]; exact hG.by.2 k hk⟩) (hC.1.ho hG.2.1.1 ho (uc_tags hF hq) (fun c c1 c2 => by rw [upI_ne (by omega), upI_ne (by omega)]) ?_)
      · obtain ⟨I', r, r1, r2, r3⟩ := hm _ g1
        rcases r3 with ⟨a, b, c⟩ | ⟨a, b, c, d⟩ | ⟨a, b, c, d⟩
        · exact absurd h a
        · omega
        · exact ⟨I', by rw [c] at r1; exact r1, d, r2⟩
      · obtain ⟨b, h⟩ := hG.2.2.2.2.2.1
        exact ⟨b, h.al (fun j hj => by rw [upd_ne (by omega), upd_ne (by omega)])⟩
      · obtain ⟨b, h⟩ := hG.2.2.2.2.2.2.1
        exact ⟨b, h.al2 (fun j hj => by rw [upd_ne (by omega), upd_ne (by omega)])⟩
      · exact SL8.al hG.2.2.2.2.2.2.2.1 (fun j hj => by rw [upd_ne (by omega), upd_ne (by omega)])
      · show ∃ c, c < 128 ∧ upd (upd s (122 + z) x) 31 (nI (z + 1)) (122 + k) = nI c
        rcases (by omega : k = z ∨ k < z) with g | g
        · rw [g, upd_ne (by omega), upd_at]; exact ⟨j, by omega, ej⟩
        · rw [upd_ne (by omega), upd_ne (by omega)]; exact hzt k g
      · obtain ⟨m1, m2, m3, m4, m5, m6, m7, m8⟩ := hM
        refine ⟨?_, ?_, ?_, ?_, fun j hj => ?_, fun k hk => ?_, fun k hk => ?_, ?_⟩
        · rw [upI_eq, upd_at, upd_at]
        · rw [upI_eq, upd_ne (by omega), upI_ne (by omega), upd_ne (by omega), upd_ne (by omega)]; exact m2
        · rw [upI_eq, upd_ne (by omega), upI_ne (by omega), upd_ne (by omega), upd_ne (by omega)]; exact m3
        · rw [upI_eq, upd_ne (by omega), upI_ne (by omega), upd_ne (by omega), upd_ne (by omega)]; exact m4
        · rw [upI_ne (by omega), upI_eq]
          by_cases g : j = z
          · rw [g, upd_at, upd_ne (by omega), upd_at]
          · rw [upd_ne g, upd_ne (by omega), upd_ne (by omega)]; exact m5 j hj
        · rw [upI_ne (by omega), upI_ne (by omega), upI_ne (by omega), upI_ne (by omega), upd_ne (by omega), upd_ne (by omega), upd_ne (by omega), upd_ne (by omega)]; exact m6 k hk
        · rw [upI_ne (by omega), upI_ne (by omega), upI_ne (by omega), upI_ne (by omega), upI_ne (by omega), upI_ne (by omega), upI_ne (by omega), upI_ne (by omega), upd_ne (by omega), upd_ne (by omega), upd_ne (by omega), upd_ne (by omega), upd_ne (by omega), upd_ne (by omega), upd_ne (by omega), upd_ne (by omega)]; exact m7 k hk
        · rw [upI_eq, upd_ne (by omega), upI_ne (by omega)]; exact m8.trans (seeB_al (fun j hj => by rw [upd_ne (by omega), upd_ne (by omega)]))
  · refine ask_op hK hG hC hR (hc.1 h) (FR.rf I) (fun _ _ _ _ _ => rfl) (fun g1 _ _ => ?_)
    obtain ⟨I', r, r1, r2, r3⟩ := hm I g1
    rcases r3 with ⟨a, b, c⟩ | ⟨a, b, c, d⟩ | ⟨a, b, c, d⟩
    · exact ⟨I', by rw [b] at r1; exact r1, c, r2⟩
    · exact absurd a h
    · exact absurd a h
end FEED
