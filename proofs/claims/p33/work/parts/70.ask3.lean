/-! CALLS OF THE LAW that only ask: told, on, looked, count, trace -/
section ASK3
variable {X : Nat × (Nat → Int32)} {d : Nat} {K : List (Nat × Nat)} {T : List (Nat × Nat)} {I : Nat → Nat → Int32} {R : Nat → Nat → Option Nat} {s : Nat → Int32} {n e : Nat} {hd : Option Nat} {cls : Cls} {l : List Int32} {im : Option Img} {kc km : Nat} {As : List Value}
theorem out_of {x M : Int32} (h : ¬ (0 ≤ x ∧ x ≤ M)) : x.toInt < 0 ∨ M.toInt < x.toInt := by
  by_cases h3 : x.toInt < 0
  · exact Or.inl h3
  · by_cases h4 : M.toInt < x.toInt
    · exact Or.inr h4
    · exact absurd ⟨Int32.le_iff_toInt_le.mpr (by show (0 : Int) ≤ _; omega), Int32.le_iff_toInt_le.mpr (by omega)⟩ h
theorem c_told (hF : FX K R) (hG : GS s n hd cls e) (hVH : VH K I R 1 15 s n hd cls) (x : Int32) : (¬ (0 ≤ x ∧ x ≤ 8) → Ev X 59 kX11_told 0 (ent kX11_told [.ref 0, .int x]) [] (K, I, R) (some (.int (-1)), (K, I, R))) ∧ (∀ w, w ≤ 8 → x = nI w → ∃ I1, Ev X 59 kX11_told 0 (ent kX11_told [.ref 0, .int x]) [] (K, I, R) (some (.int (rTold s n hd cls w)), (K, I1, R)) ∧ FR QC I I1) := by
  have hV := hVH.1
  have hn6 := hG.2.1.1
  have hS := hG.2.1.2.1
  have he : e < 1000000 := by have := hG.2.2.1; omega
  obtain ⟨f0, f1, f2, f3, f4, f5, f6, fv1, fv2, fv3, fh1, fh2, f7, f8, f9, f10, f11, -⟩ := hF
  refine ⟨fun h => ?_, fun w hw ex => ?_⟩
  · refine Ev.p rfl rfl ?_
    refine Ev.p (pc' := 143) (ls' := ent kX11_told [.ref 0, .int x]) (st' := []) (h' := (K, I, R)) rfl ?_ ?_
    · show (some (swt 142 0 8 _ 1 x.toInt, ent kX11_told [.ref 0, .int x], [], (K, I, R)) : Option St) = _
      rw [swt_out (show x.toInt < 0 ∨ 8 < x.toInt from out_of h)]
      rfl
    ((repeat refine Ev.p rfl rfl ?_); exact Ev.r rfl)
  · have hro := c_readyOnes (X := X) (d := 55) fv1 hV.2.1 hn6 hS
    have hri := c_ring (X := X) (d := 56) fv1 hV.2.1 hn6 hS
    obtain ⟨It, ht1, -, ht2⟩ := c_topicA (X := X) (d := 53) hV hG.2.1 he
    obtain ⟨Il, hl1, hl2⟩ := c_loose (X := X) (d := 56) f7 f10 f11 fv1 hV.2.1 hn6 hS
    obtain ⟨q, h14, hst⟩ := hV.2.2.2.2.1
    have h13 := hV.2.2.2.2.2
    obtain ⟨k0, -⟩ := id fv1
    obtain ⟨v8, v9, v10, v11, v12, -⟩ := id hV.2.1
    subst ex
    rcases (by omega : w = 0 ∨ w = 1 ∨ w = 2 ∨ w = 3 ∨ w = 4 ∨ w = 5 ∨ w = 6 ∨ w = 7 ∨ w = 8) with rfl | rfl | rfl | rfl | rfl | rfl | rfl | rfl | rfl
    · refine ⟨I, ?_, FR.rf I⟩
      (repeat (first | refine Ev.p rfl rfl ?_ | refine Ev.gr (by rfl) (by rfl) (by assumption) (by rfl) (by assumption) ?_ | refine Ev.gi (by rfl) (by rfl) (by assumption) (by rfl) (by assumption) ?_))
      ((repeat refine Ev.p rfl rfl ?_); exact Ev.r rfl)
    · refine ⟨I, ?_, FR.rf I⟩
      (repeat (first | refine Ev.p rfl rfl ?_ | refine Ev.gr (by rfl) (by rfl) (by assumption) (by rfl) (by assumption) ?_ | refine Ev.gi (by rfl) (by rfl) (by assumption) (by rfl) (by assumption) ?_))
      ((repeat refine Ev.p rfl rfl ?_); exact Ev.r rfl)
    · refine ⟨I, ?_, FR.rf I⟩
      obtain ⟨s1, s2, s3, s4, s5, s6, s7, s8, -⟩ := id hst
      (repeat (first | refine Ev.p rfl rfl ?_ | refine Ev.gr (by rfl) (by rfl) (by assumption) (by rfl) (by assumption) ?_ | refine Ev.gi (by rfl) (by rfl) (by assumption) (by rfl) (by assumption) ?_))
      ((repeat refine Ev.p rfl rfl ?_); exact Ev.r rfl)
    · refine ⟨I, ?_, FR.rf I⟩
      (repeat (first | refine Ev.p rfl rfl ?_ | refine Ev.gr (by rfl) (by rfl) (by assumption) (by rfl) (by assumption) ?_ | refine Ev.gi (by rfl) (by rfl) (by assumption) (by rfl) (by assumption) ?_))
      ((repeat refine Ev.p rfl rfl ?_); exact Ev.r rfl)
    · refine ⟨I, ?_, FR.rf I⟩
      (repeat (first | refine Ev.p rfl rfl ?_ | refine Ev.gr (by rfl) (by rfl) (by assumption) (by rfl) (by assumption) ?_ | refine Ev.gi (by rfl) (by rfl) (by assumption) (by rfl) (by assumption) ?_))
      rw [← rSO_mk hS.1 n hn6]
      ((repeat refine Ev.p rfl rfl ?_); exact Ev.r rfl)
    · refine ⟨I, ?_, FR.rf I⟩
      (repeat (first | refine Ev.p rfl rfl ?_ | refine Ev.gr (by rfl) (by rfl) (by assumption) (by rfl) (by assumption) ?_ | refine Ev.gi (by rfl) (by rfl) (by assumption) (by rfl) (by assumption) ?_))
      refine Ev.cv (by rfl) (by rfl) (by assumption) (by rfl) (by rfl) (by rfl) (by rfl) (by rfl) hro ?_
      ((repeat refine Ev.p rfl rfl ?_); exact Ev.r rfl)
    · refine ⟨It, ?_, pv_qc ht2⟩
      (repeat (first | refine Ev.p rfl rfl ?_ | refine Ev.gr (by rfl) (by rfl) (by assumption) (by rfl) (by assumption) ?_ | refine Ev.gi (by rfl) (by rfl) (by assumption) (by rfl) (by assumption) ?_))
      refine Ev.cv (by rfl) (by rfl) (by assumption) (by rfl) (by rfl) (by rfl) (by rfl) (by rfl) ht1 ?_
      cases hc : (rTop s n cls n).1 with
      | none =>
        have : rTold s n hd cls 6 = -5 := by show tv (rTop s n cls n).1 = _; rw [hc]; rfl
        rw [this]
        ((repeat refine Ev.p rfl rfl ?_); exact Ev.r rfl)
      | some p =>
        have : rTold s n hd cls 6 = nI p := by show tv (rTop s n cls n).1 = _; rw [hc]; rfl
        rw [this]
        have hp : p < 2 ^ 31 := by have := rTop_lt (s := s) (cls := cls) n p hc; omega
        (repeat (first | refine Ev.p rfl rfl ?_ | refine Ev.gr (by rfl) (by rfl) (by assumption) (by rfl) (by assumption) ?_ | refine Ev.gi (by rfl) (by rfl) (by assumption) (by rfl) (by assumption) ?_))
        refine Ev.bp rfl (fun c => ?_) (fun c => ?_)
        · ((repeat refine Ev.p rfl rfl ?_); exact Ev.r rfl)
        · exact absurd (Decidable.not_not.mp c) (nI_nem1 hp)
    · refine ⟨I, ?_, FR.rf I⟩
      (repeat (first | refine Ev.p rfl rfl ?_ | refine Ev.gr (by rfl) (by rfl) (by assumption) (by rfl) (by assumption) ?_ | refine Ev.gi (by rfl) (by rfl) (by assumption) (by rfl) (by assumption) ?_))
      refine Ev.cv (by rfl) (by rfl) (by assumption) (by rfl) (by rfl) (by rfl) (by rfl) (by rfl) hri ?_
      ((repeat refine Ev.p rfl rfl ?_); exact Ev.r rfl)
    · refine ⟨Il, ?_, hl2.mo (fun c hc => Or.inr (Or.inr (Or.inr (Or.inr (Or.inl hc)))))⟩
      (repeat (first | refine Ev.p rfl rfl ?_ | refine Ev.gr (by rfl) (by rfl) (by assumption) (by rfl) (by assumption) ?_ | refine Ev.gi (by rfl) (by rfl) (by assumption) (by rfl) (by assumption) ?_))
      refine Ev.cv (by rfl) (by rfl) (by assumption) (by rfl) (by rfl) (by rfl) (by rfl) (by rfl) hl1 ?_
      ((repeat refine Ev.p rfl rfl ?_); exact Ev.r rfl)
/-- how many of each -/
theorem c_count (hF : FX K R) (hG : GS s n hd cls e) (hVH : VH K I R 1 15 s n hd cls) (hT : TCc I 134 l) (x : Int32) : (x = 6 → Ev X 59 kX11_count 0 (ent kX11_count [.ref 0, .int x]) [] (K, I, R) (some (.int (nI l.length)), (K, I, R))) ∧ (∀ k, k < 6 → x = nI k → Ev X 59 kX11_count 0 (ent kX11_count [.ref 0, .int x]) [] (K, I, R) (some (.int (s (26 + k))), (K, I, R))) ∧ (x ≠ 6 → ¬ (0 ≤ x ∧ x ≤ 5) → Ev X 59 kX11_count 0 (ent kX11_count [.ref 0, .int x]) [] (K, I, R) (some (.int (-1)), (K, I, R))) := by
  have hV := hVH.1
  obtain ⟨f0, f1, f2, f3, f4, f5, f6, fv1, fv2, fv3, fh1, fh2, f7, f8, f9, f10, f11, f12⟩ := hF
  obtain ⟨k0, -⟩ := id fv1
  obtain ⟨hh0, -⟩ := id fh1
  obtain ⟨v8, -⟩ := id hV.2.1
  obtain ⟨m1, m2, m3, m4, -⟩ := hVH.2.2.2.2
  have h15 := hVH.2.1
  have h26 : s 26 = nI n := hG.1.1
  refine ⟨fun h => ?_, fun k hk ex => ?_, fun h1 h2 => ?_⟩
  · subst h
    (repeat (first | refine Ev.p rfl rfl ?_ | refine Ev.gr (by rfl) (by rfl) (by assumption) (by rfl) (by assumption) ?_ | refine Ev.gi (by rfl) (by rfl) (by assumption) (by rfl) (by assumption) ?_))
    (refine Ev.iald (j := 0) (by rfl) (by assumption) (by rfl) (by omega) (by omega) ?_; rw [hT.1])
    ((repeat refine Ev.p rfl rfl ?_); exact Ev.r rfl)
  · subst ex
    rcases (by omega : k = 0 ∨ k = 1 ∨ k = 2 ∨ k = 3 ∨ k = 4 ∨ k = 5) with rfl | rfl | rfl | rfl | rfl | rfl
    · rw [h26]
      (repeat (first | refine Ev.p rfl rfl ?_ | refine Ev.gr (by rfl) (by rfl) (by assumption) (by rfl) (by assumption) ?_ | refine Ev.gi (by rfl) (by rfl) (by assumption) (by rfl) (by assumption) ?_))
      ((repeat refine Ev.p rfl rfl ?_); exact Ev.r rfl)
    · (repeat (first | refine Ev.p rfl rfl ?_ | refine Ev.gr (by rfl) (by rfl) (by assumption) (by rfl) (by assumption) ?_ | refine Ev.gi (by rfl) (by rfl) (by assumption) (by rfl) (by assumption) ?_))
      ((repeat refine Ev.p rfl rfl ?_); exact Ev.r rfl)
    · (repeat (first | refine Ev.p rfl rfl ?_ | refine Ev.gr (by rfl) (by rfl) (by assumption) (by rfl) (by assumption) ?_ | refine Ev.gi (by rfl) (by rfl) (by assumption) (by rfl) (by assumption) ?_))
      ((repeat refine Ev.p rfl rfl ?_); exact Ev.r rfl)
    · (repeat (first | refine Ev.p rfl rfl ?_ | refine Ev.gr (by rfl) (by rfl) (by assumption) (by rfl) (by assumption) ?_ | refine Ev.gi (by rfl) (by rfl) (by assumption) (by rfl) (by assumption) ?_))
      ((repeat refine Ev.p rfl rfl ?_); exact Ev.r rfl)
    · (repeat (first | refine Ev.p rfl rfl ?_ | refine Ev.gr (by rfl) (by rfl) (by assumption) (by rfl) (by assumption) ?_ | refine Ev.gi (by rfl) (by rfl) (by assumption) (by rfl) (by assumption) ?_))
      ((repeat refine Ev.p rfl rfl ?_); exact Ev.r rfl)
    · (repeat (first | refine Ev.p rfl rfl ?_ | refine Ev.gr (by rfl) (by rfl) (by assumption) (by rfl) (by assumption) ?_ | refine Ev.gi (by rfl) (by rfl) (by assumption) (by rfl) (by assumption) ?_))
      ((repeat refine Ev.p rfl rfl ?_); exact Ev.r rfl)
  · refine Ev.p rfl rfl ?_
    refine Ev.p (pc' := 99) (ls' := ent kX11_count [.ref 0, .int x]) (st' := []) (h' := (K, I, R)) rfl ?_ ?_
    · show (some (swt 98 0 6 _ 1 x.toInt, ent kX11_count [.ref 0, .int x], [], (K, I, R)) : Option St) = _
      rw [swt_out (show x.toInt < 0 ∨ 6 < x.toInt from out_of (M := 6) (fun g => by
        by_cases h5 : x ≤ 5
        · exact h2 ⟨g.1, h5⟩
        · refine h1 ?_
          obtain ⟨j, hj, ej⟩ := nI_of2 (M := 6) (n := 6) (by decide) (Int32.not_lt.mpr g.1) g.2
          rw [ej] at h5 ⊢
          rcases (by omega : j ≤ 5 ∨ j = 6) with h | h
          · exact absurd (nI_le h (by omega)) h5
          · rw [h]; rfl))]
      rfl
    ((repeat refine Ev.p rfl rfl ?_); exact Ev.r rfl)
end ASK3
