/-! CALLS OF THE LAW that only ask: looked, trace, on -/
section ASK4
variable {X : Nat × (Nat → Int32)} {d : Nat} {K : List (Nat × Nat)} {T : List (Nat × Nat)} {I : Nat → Nat → Int32} {R : Nat → Nat → Option Nat} {s : Nat → Int32} {n e : Nat} {hd : Option Nat} {cls : Cls} {l : List Int32} {im : Option Img} {kc km : Nat} {As : List Value}
theorem c_trace (hF : FX K R) (hT : TCc I 134 l) (hl : l.length < 1000) (x : Int32) : (∀ j, j < l.length → j < 20 → x = nI j → ∀ v, l[j]? = some v → Ev X 59 kX11_trace 0 (ent kX11_trace [.ref 0, .int x]) [] (K, I, R) (some (.int v), (K, I, R))) ∧ (¬ (∃ j, j < l.length ∧ j < 20 ∧ x = nI j) → Ev X 59 kX11_trace 0 (ent kX11_trace [.ref 0, .int x]) [] (K, I, R) (some (.int (-1)), (K, I, R))) := by
  obtain ⟨f0, f1, f2, f3, f4, f5, f6, fv1, fv2, fv3, fh1, fh2, f7, f8, f9, f10, f11, f12⟩ := hF
  refine ⟨fun j hj hj2 ex v hv => ?_, fun h => ?_⟩
  · subst ex
    have hx : nI (1 + j) = 1 + nI j := by rw [← nI_add]; rfl
    (repeat (first | refine Ev.p rfl rfl ?_ | refine Ev.gr (by rfl) (by rfl) (by assumption) (by rfl) (by assumption) ?_ | refine Ev.gi (by rfl) (by rfl) (by assumption) (by rfl) (by assumption) ?_))
    refine Ev.bp rfl (fun c => ?_) (fun c => ?_)
    · exact absurd c (nI_pos (by omega))
    · (repeat (first | refine Ev.p rfl rfl ?_ | refine Ev.gr (by rfl) (by rfl) (by assumption) (by rfl) (by assumption) ?_ | refine Ev.gi (by rfl) (by rfl) (by assumption) (by rfl) (by assumption) ?_))
      (refine Ev.iald (j := 0) (by rfl) (by assumption) (by rfl) (by omega) (by omega) ?_; rw [hT.1])
      (repeat (first | refine Ev.p rfl rfl ?_ | refine Ev.gr (by rfl) (by rfl) (by assumption) (by rfl) (by assumption) ?_ | refine Ev.gi (by rfl) (by rfl) (by assumption) (by rfl) (by assumption) ?_))
      refine Ev.bp rfl (fun c2 => ?_) (fun c2 => ?_)
      · exact absurd c2 (nI_ge hj (by omega))
      · (repeat (first | refine Ev.p rfl rfl ?_ | refine Ev.gr (by rfl) (by rfl) (by assumption) (by rfl) (by assumption) ?_ | refine Ev.gi (by rfl) (by rfl) (by assumption) (by rfl) (by assumption) ?_))
        refine Ev.bp rfl (fun c3 => ?_) (fun c3 => ?_)
        · exact absurd c3 (nI_ge (b := 20) hj2 (by omega))
        · (repeat (first | refine Ev.p rfl rfl ?_ | refine Ev.gr (by rfl) (by rfl) (by assumption) (by rfl) (by assumption) ?_ | refine Ev.gi (by rfl) (by rfl) (by assumption) (by rfl) (by assumption) ?_))
          (refine Ev.iald (j := j + 1) (by rfl) (by assumption) (by show 1 + nI j = nI (j + 1); rw [← hx, Nat.add_comm]) (by omega) (by omega) ?_; rw [hT.2 j v hv hj2])
          ((repeat refine Ev.p rfl rfl ?_); exact Ev.r rfl)
  · (repeat (first | refine Ev.p rfl rfl ?_ | refine Ev.gr (by rfl) (by rfl) (by assumption) (by rfl) (by assumption) ?_ | refine Ev.gi (by rfl) (by rfl) (by assumption) (by rfl) (by assumption) ?_))
    refine Ev.bp rfl (fun c => ?_) (fun c => ?_)
    · ((repeat refine Ev.p rfl rfl ?_); exact Ev.r rfl)
    · (repeat (first | refine Ev.p rfl rfl ?_ | refine Ev.gr (by rfl) (by rfl) (by assumption) (by rfl) (by assumption) ?_ | refine Ev.gi (by rfl) (by rfl) (by assumption) (by rfl) (by assumption) ?_))
      (refine Ev.iald (j := 0) (by rfl) (by assumption) (by rfl) (by omega) (by omega) ?_; rw [hT.1])
      (repeat (first | refine Ev.p rfl rfl ?_ | refine Ev.gr (by rfl) (by rfl) (by assumption) (by rfl) (by assumption) ?_ | refine Ev.gi (by rfl) (by rfl) (by assumption) (by rfl) (by assumption) ?_))
      refine Ev.bp rfl (fun c2 => ?_) (fun c2 => ?_)
      · ((repeat refine Ev.p rfl rfl ?_); exact Ev.r rfl)
      · (repeat (first | refine Ev.p rfl rfl ?_ | refine Ev.gr (by rfl) (by rfl) (by assumption) (by rfl) (by assumption) ?_ | refine Ev.gi (by rfl) (by rfl) (by assumption) (by rfl) (by assumption) ?_))
        refine Ev.bp rfl (fun c3 => ?_) (fun c3 => ?_)
        · ((repeat refine Ev.p rfl rfl ?_); exact Ev.r rfl)
        · exfalso
          obtain ⟨j, hj, ej⟩ := nI_of c
          subst ej
          refine h ⟨j, ?_, ?_, rfl⟩
          · rcases Nat.lt_or_ge j l.length with g | g
            · exact g
            · exact absurd (nI_le g hj) c2
          · rcases Nat.lt_or_ge j 20 with g | g
            · exact g
            · exact absurd (nI_le (a := 20) g hj) c3
theorem c_looked (hF : FX K R) (hG : GS s n hd cls e) (hVH : VH K I R 1 15 s n hd cls) {b : Nat} (hb : s 30 = nI b) (hb8 : b ≤ 8) (hw : ∀ q, q < b → ∃ p, p < n ∧ s (106 + q) = nI p) {r : Int32} (hr : (r = -5 ∧ ∀ q p, q < b → s (106 + q) = nI p → p < 6 → s (8 + p) = s (114 + q)) ∨ ∃ q p, q < b ∧ r = nI q ∧ s (106 + q) = nI p ∧ p < 6 ∧ s (8 + p) ≠ s (114 + q) ∧ ∀ q' p', q' < q → s (106 + q') = nI p' → p' < 6 → s (8 + p') = s (114 + q')) : Ev X 59 kX11_looked 0 (ent kX11_looked [.ref 0]) [] (K, I, R) (some (.int r), (K, I, R)) := by
  have hV := hVH.1
  have hn6 := hG.2.1.1
  have hm := fun x => c_isM (X := X) (d := 58) hF hV.2.1.1 hn6 x
  obtain ⟨f0, f1, f2, f3, f4, f5, f6, fv1, fv2, fv3, fh1, fh2, f7, f8, f9, f10, f11, f12⟩ := hF
  obtain ⟨k0, k1, k2, k3, k4, k5, k6, k7, k8, r0, r1, r2, r3, r4, r5, r6, r7⟩ := id fv1
  obtain ⟨v8, v9, v10, v11, v12, vk, vv, va, vt, vh, vr⟩ := hV.2.1
  obtain ⟨m1, m2, m3, m4, m5, m6, m7, m8⟩ := hVH.2.2.2.2
  obtain ⟨g0, g1, g2, g3, g4, g5, g6, g7, q0, q1, q2, q3, q4, q5, q6⟩ := id fh1
  rw [hb] at m4
  have lp : ∀ m q, q + m = b → (∀ q' p', q' < q → s (106 + q') = nI p' → p' < 6 → s (8 + p') = s (114 + q')) → ∀ z : Option Value, Ev X 59 kX11_looked 2 [some (.ref 0), some (.int (nI q)), z] [] (K, I, R) (some (.int r), (K, I, R)) := by
    intro m
    induction m with
    | zero =>
      intro q hq hall z
      have e : q = b := by omega
      subst e
      have er : r = -5 := by
        rcases hr with h | ⟨q2, p, h1, h2, h3, h4, h5, h6⟩
        · exact h.1
        · exact absurd (hall q2 p h1 h3 h4) h5
      subst er
      (repeat (first | refine Ev.p rfl rfl ?_ | refine Ev.gr (by rfl) (by rfl) (by assumption) (by rfl) (by assumption) ?_ | refine Ev.gi (by rfl) (by rfl) (by assumption) (by rfl) (by assumption) ?_))
      refine Ev.bp rfl (fun c => ?_) (fun c => ?_)
      · ((repeat refine Ev.p rfl rfl ?_); exact Ev.r rfl)
      · exact absurd (nI_le (Nat.le_refl q) (by omega)) c
    | succ m ih =>
      intro q hq hall z
      obtain ⟨p, hp, ep⟩ := hw q (by omega)
      have hlk := (m7 q (by omega)).2.2
      (repeat (first | refine Ev.p rfl rfl ?_ | refine Ev.gr (by rfl) (by rfl) (by assumption) (by rfl) (by assumption) ?_ | refine Ev.gi (by rfl) (by rfl) (by assumption) (by rfl) (by assumption) ?_))
      refine Ev.bp rfl (fun c => ?_) (fun c => ?_)
      · exact absurd c (nI_ge (by omega) (by omega))
      · (repeat (first | refine Ev.p rfl rfl ?_ | refine Ev.gr (by rfl) (by rfl) (by assumption) (by rfl) (by assumption) ?_ | refine Ev.gi (by rfl) (by rfl) (by assumption) (by rfl) (by assumption) ?_))
        (refine Ev.iald (j := q) (by rfl) (by assumption) (by rfl) (by omega) (by omega) ?_; rw [hlk.1, ep])
        (repeat (first | refine Ev.p rfl rfl ?_ | refine Ev.gr (by rfl) (by rfl) (by assumption) (by rfl) (by assumption) ?_ | refine Ev.gi (by rfl) (by rfl) (by assumption) (by rfl) (by assumption) ?_))
        refine Ev.cv (by rfl) (by rfl) (by assumption) (by rfl) (by rfl) (by rfl) (by rfl) (by rfl) ((hm (nI p)).1 ((isM_iff hn6).mpr ⟨p, hp, rfl⟩)) ?_
        (repeat (first | refine Ev.p rfl rfl ?_ | refine Ev.gr (by rfl) (by rfl) (by assumption) (by rfl) (by assumption) ?_ | refine Ev.gi (by rfl) (by rfl) (by assumption) (by rfl) (by assumption) ?_))
        (refine Ev.iald (j := p) (by rfl) (by assumption) (by rfl) (by omega) (by omega) ?_; rw [vt p hp])
        (repeat (first | refine Ev.p rfl rfl ?_ | refine Ev.gr (by rfl) (by rfl) (by assumption) (by rfl) (by assumption) ?_ | refine Ev.gi (by rfl) (by rfl) (by assumption) (by rfl) (by assumption) ?_))
        (refine Ev.iald (j := q) (by rfl) (by assumption) (by rfl) (by omega) (by omega) ?_; rw [hlk.2])
        (repeat (first | refine Ev.p rfl rfl ?_ | refine Ev.gr (by rfl) (by rfl) (by assumption) (by rfl) (by assumption) ?_ | refine Ev.gi (by rfl) (by rfl) (by assumption) (by rfl) (by assumption) ?_))
        refine Ev.bp rfl (fun c2 => ?_) (fun c2 => ?_)
        · refine Ev.p rfl rfl ?_
          refine Ev.p rfl rfl ?_
          refine Ev.at (q := 2) rfl ?_
          rw [show nI q + 1 = nI (q + 1) from (nI_succ q).symm]
          refine ih (q + 1) (by omega) (fun q' p' h1 h2 h3 => ?_) _
          rcases (by omega : q' < q ∨ q' = q) with g | g
          · exact hall q' p' g h2 h3
          · subst g
            rw [ep] at h2
            have := (nI_eq (by omega) (by omega)).mp h2
            subst this
            exact c2
        · have er : r = nI q := by
            rcases hr with h | ⟨q2, p2, h1, h2, h3, h4, h5, h6⟩
            · exact absurd (h.2 q p (by omega) ep (by omega)) c2
            · rcases (by omega : q2 < q ∨ q2 = q ∨ q < q2) with g | g | g
              · exact absurd (hall q2 p2 g h3 h4) h5
              · rw [h2, g]
              · exact absurd (h6 q p g ep (by omega)) c2
          rw [er]
          ((repeat refine Ev.p rfl rfl ?_); exact Ev.r rfl)
  refine Ev.p rfl rfl ?_
  refine Ev.p rfl rfl ?_
  exact lp b 0 (by omega) (fun q' p' h => absurd h (by omega)) none
end ASK4
