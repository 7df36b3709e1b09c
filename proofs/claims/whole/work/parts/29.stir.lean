/-! THE REFERENCE: STIR and TOPIC -/
def rMar (s : Nat → Int32) (n p : Nat) (cls : Cls) : Int32 := if 10 ≤ s (2 + p) then rSum s n p cls / 2 else rSum s n p cls
def rBou (s : Nat → Int32) (n p : Nat) (cls : Cls) : Int32 := rSum s n p cls - s (39 + p)
def rLoa (s : Nat → Int32) (n p : Nat) (cls : Cls) : Int32 := rSum s n p cls + rSB s p n
def rStK (s : Nat → Int32) (n p : Nat) (cls : Cls) : Nat → Int32
  | 1 => rMar s n p cls
  | 2 => rBou s n p cls
  | 3 => rLoa s n p cls
  | 4 => if s 0 - s 0 / 2 * 2 = 1 then 0 else rMar s n p cls
  | 5 => if s (69 + p) = 0 then 2 * rBou s n p cls else rBou s n p cls
  | 6 => rLoa s n p cls + s (45 + 4 * p + (s 0).toNatClampNeg % 4)
  | _ => rSum s n p cls
/-- STIR -/
def rStir (s : Nat → Int32) (n p : Nat) (cls : Cls) : Int32 := rStK s n p cls (s (33 + p)).toNatClampNeg
def tv : Option Nat → Int32
  | none => -5
  | some p => nI p
def rTop (s : Nat → Int32) (n : Nat) (cls : Cls) : Nat → Option Nat × Int32
  | 0 => (none, 0)
  | q + 1 => (if (if rRd s n q = true then rStir s n q cls else 0) ≤ (rTop s n cls q).2 then (rTop s n cls q).1 else some q, if (if rRd s n q = true then rStir s n q cls else 0) ≤ (rTop s n cls q).2 then (rTop s n cls q).2 else (if rRd s n q = true then rStir s n q cls else 0))
/-- what a row of numbers keeps to -/
def SV (s : Nat → Int32) (n : Nat) (hd : Option Nat) (cls : Cls) (e : Nat) : Prop := s 26 = nI n ∧ n ≤ 6 ∧ (∀ p, p < 6 → ∃ kk, kk ≤ 6 ∧ s (33 + p) = nI kk) ∧ s 0 = nI e ∧ e < 1000000 ∧ stOK s hd cls
section STIR
variable {X : Nat × (Nat → Int32)} {d : Nat} {T : List (Nat × Nat)} {I : Nat → Nat → Int32} {G : Nat → Nat → Option Nat} {s : Nat → Int32} {n p : Nat} {hd : Option Nat} {cls : Cls} {e : Nat}
theorem m_stirOf (hI : I 141 = s) (hv : SV s n hd cls e) (hp : p < 6) : ∃ I', Ev X (d + 2) kX12_stirOf 0 (ent kX12_stirOf [.ref 140, .int (nI p)]) [] (K0 ++ T, I, RS G) (some (.int (rStir s n p cls)), (K0 ++ T, I', RS G)) ∧ I' 141 = s ∧ MS I I' := by
  obtain ⟨hn, hn6, hk, he, he2, hs⟩ := hv
  obtain ⟨J, e1, e2, e3⟩ := m_sumOf (X := X) (d := d) (T := T) (G := G) hI hn hn6 hp hs
  have hI := e2
  refine ⟨J, ?_, e2, e3⟩
  obtain ⟨kk, hk6, hkk⟩ := hk p hp
  have hst : rStir s n p cls = rStK s n p cls kk := by unfold rStir; rw [hkk, nI_clamp (by omega)]
  rw [hst]
  have k26 : ∀ a b c : Option Value, Ev X (d + 2) kX12_stirOf 26 [some (.ref 140), some (.int (nI p)), some (.int (rSum s n p cls)), a, b, c] [.int (rMar s n p cls)] (K0 ++ T, J, RS G) (some (.int (rStK s n p cls kk)), (K0 ++ T, J, RS G)) := by
    intro a b c
    ((repeat refine Ev.p rfl rfl ?_); refine Ev.ls (ls2 := [_, _, _, _, _, _]) rfl ?_)
    (refine Ev.iald (j := 39 + p) rfl rfl (nI_add 39 p) (by omega) (by omega) ?_; rw [hI])
    ((repeat refine Ev.p rfl rfl ?_); refine Ev.ls (ls2 := [_, _, _, _, _, _]) rfl ?_)
    refine Ev.c rfl (m_settledBut e2 hn hn6 hp) ?_
    ((repeat refine Ev.p rfl rfl ?_); refine Ev.ls (ls2 := [_, _, _, _, _, _]) rfl ?_)
    (refine Ev.iald (j := 33 + p) rfl rfl (nI_add 33 p) (by omega) (by omega) ?_; rw [hI])
    rw [hkk]
    rcases (by omega : kk = 0 ∨ kk = 1 ∨ kk = 2 ∨ kk = 3 ∨ kk = 4 ∨ kk = 5 ∨ kk = 6) with rfl | rfl | rfl | rfl | rfl | rfl | rfl
    · ((repeat refine Ev.p rfl rfl ?_); exact Ev.r rfl)
    · ((repeat refine Ev.p rfl rfl ?_); exact Ev.r rfl)
    · ((repeat refine Ev.p rfl rfl ?_); exact Ev.r rfl)
    · ((repeat refine Ev.p rfl rfl ?_); exact Ev.r rfl)
    · (repeat refine Ev.p rfl rfl ?_)
      (refine Ev.iald (j := 0) rfl rfl rfl (by omega) (by omega) ?_; rw [hI])
      (repeat refine Ev.p rfl rfl ?_)
      refine Ev.bp rfl (fun c => ?_) (fun c => ?_)
      · rw [show rStK s n p cls 4 = (if s 0 - s 0 / 2 * 2 = 1 then 0 else rMar s n p cls) from rfl, if_neg c]
        ((repeat refine Ev.p rfl rfl ?_); exact Ev.r rfl)
      · rw [show rStK s n p cls 4 = (if s 0 - s 0 / 2 * 2 = 1 then 0 else rMar s n p cls) from rfl, if_pos (Decidable.not_not.mp c)]
        ((repeat refine Ev.p rfl rfl ?_); exact Ev.r rfl)
    · (repeat refine Ev.p rfl rfl ?_)
      (refine Ev.iald (j := 69 + p) rfl rfl (nI_add 69 p) (by omega) (by omega) ?_; rw [hI])
      (repeat refine Ev.p rfl rfl ?_)
      refine Ev.bp rfl (fun c => ?_) (fun c => ?_)
      · rw [show rStK s n p cls 5 = (if s (69 + p) = 0 then 2 * rBou s n p cls else rBou s n p cls) from rfl, if_neg c]
        ((repeat refine Ev.p rfl rfl ?_); exact Ev.r rfl)
      · rw [show rStK s n p cls 5 = (if s (69 + p) = 0 then 2 * rBou s n p cls else rBou s n p cls) from rfl, if_pos (Decidable.not_not.mp c)]
        ((repeat refine Ev.p rfl rfl ?_); exact Ev.r rfl)
    · have he4 : (nI e - nI e / 4 * 4 : Int32) = nI (e % 4) := pk_rem (d := 4) (by omega) (by omega) (by omega)
      have hix : (45 : Int32) + 4 * nI p + (nI e - nI e / 4 * 4) = nI (45 + 4 * p + e % 4) := by
        rw [he4, nI_4mul hp, show (45 : Int32) = nI 45 from rfl, nI_add, nI_add]
      rw [show rStK s n p cls 6 = rLoa s n p cls + s (45 + 4 * p + e % 4) from by show _ + s (45 + 4 * p + (s 0).toNatClampNeg % 4) = _; rw [he, nI_clamp (by omega)]]
      (repeat refine Ev.p rfl rfl ?_)
      (refine Ev.iald (j := 0) rfl rfl rfl (by omega) (by omega) ?_; rw [hI])
      rw [he]
      (repeat refine Ev.p rfl rfl ?_)
      (refine Ev.iald (j := 45 + 4 * p + e % 4) rfl rfl hix (by omega) (by omega) ?_; rw [hI])
      ((repeat refine Ev.p rfl rfl ?_); exact Ev.r rfl)
  (repeat refine Ev.p rfl rfl ?_)
  refine Ev.c rfl e1 ?_
  ((repeat refine Ev.p rfl rfl ?_); refine Ev.ls (ls2 := [_, _, _, _, _, _]) rfl ?_)
  (refine Ev.iald (j := 2 + p) rfl rfl (nI_add 2 p) (by omega) (by omega) ?_; rw [hI])
  (repeat refine Ev.p rfl rfl ?_)
  refine Ev.bp rfl (fun c => ?_) (fun c => ?_)
  · have g := k26 none none none
    rw [show rMar s n p cls = rSum s n p cls from if_neg (fun h => absurd c (Int32.not_lt.mpr h))] at g
    (repeat (first | (refine Ev.at (q := 26) rfl ?_; exact g) | refine Ev.p rfl rfl ?_))
  · have g := k26 none none none
    rw [show rMar s n p cls = rSum s n p cls / 2 from if_pos (Int32.not_lt.mp c)] at g
    (repeat (first | (refine Ev.at (q := 26) rfl ?_; exact g) | refine Ev.p rfl rfl ?_))
theorem m_topic (hI : I 141 = s) (hv : SV s n hd cls e) : ∃ I', Ev X (d + 3) kX12_topic 0 (ent kX12_topic [.ref 140]) [] (K0 ++ T, I, RS G) (some (.int (tv (rTop s n cls n).1)), (K0 ++ T, I', RS G)) ∧ I' 141 = s ∧ MS I I' := by
  have hn := hv.1
  have hn6 := hv.2.1
  have lp : ∀ m q (J : Nat → Nat → Int32), q + m = n → J 141 = s → MS I J → ∃ I', (∀ y : Option Value, Ev X (d + 3) kX12_topic 7 [some (.ref 140), some (.int (tv (rTop s n cls q).1)), some (.int (rTop s n cls q).2), some (.int (nI q)), y] [] (K0 ++ T, J, RS G) (some (.int (tv (rTop s n cls n).1)), (K0 ++ T, I', RS G))) ∧ I' 141 = s ∧ MS I I' := by
    intro m
    induction m with
    | zero =>
      intro q J hq hI h2
      have e : q = n := by omega
      subst e
      refine ⟨J, fun y => ?_, hI, h2⟩
      (repeat refine Ev.p rfl rfl ?_)
      (refine Ev.iald (j := 26) rfl rfl rfl (by omega) (by omega) ?_; rw [hI, hn])
      (repeat refine Ev.p rfl rfl ?_)
      refine Ev.bp rfl (fun c => ?_) (fun c => ?_)
      · ((repeat refine Ev.p rfl rfl ?_); exact Ev.r rfl)
      · exact absurd (Int32.le_refl _) c
    | succ m ih =>
      intro q J hq hI h2
      obtain ⟨b1, hb1⟩ : ∃ b, b = (rTop s n cls q).1 := ⟨_, rfl⟩
      obtain ⟨m1, hm1⟩ : ∃ b, b = (rTop s n cls q).2 := ⟨_, rfl⟩
      have k35 : ∀ (st : Int32) (J2 I' : Nat → Nat → Int32), st = (if rRd s n q = true then rStir s n q cls else 0) → (∀ y : Option Value, Ev X (d + 3) kX12_topic 7 [some (.ref 140), some (.int (tv (rTop s n cls (q + 1)).1)), some (.int (rTop s n cls (q + 1)).2), some (.int (nI (q + 1))), y] [] (K0 ++ T, J2, RS G) (some (.int (tv (rTop s n cls n).1)), (K0 ++ T, I', RS G))) → ∀ y : Option Value, Ev X (d + 3) kX12_topic 35 [some (.ref 140), some (.int (tv b1)), some (.int m1), some (.int (nI q)), y] [.int st] (K0 ++ T, J2, RS G) (some (.int (tv (rTop s n cls n).1)), (K0 ++ T, I', RS G)) := by
        intro st J2 I' hst g y
        simp only [rTop, ← hst, ← hb1, ← hm1] at g
        rw [nI_succ] at g
        by_cases c9 : st ≤ m1
        · simp only [if_pos c9] at g
          (repeat refine Ev.p rfl rfl ?_)
          refine Ev.bp rfl (fun c => ?_) (fun c => ?_)
          · (repeat refine Ev.p rfl rfl ?_)
            refine Ev.bp rfl (fun c2 => ?_) (fun c2 => ?_)
            · (repeat (first | (refine Ev.at (q := 7) rfl ?_; exact (g _)) | refine Ev.p rfl rfl ?_))
            · exact absurd c9 c2
          · exact absurd c9 c
        · simp only [if_neg c9] at g
          (repeat refine Ev.p rfl rfl ?_)
          refine Ev.bp rfl (fun c => ?_) (fun c => ?_)
          · exact absurd c c9
          · (repeat refine Ev.p rfl rfl ?_)
            refine Ev.bp rfl (fun c2 => ?_) (fun c2 => ?_)
            · exact absurd c2 c9
            · (repeat (first | (refine Ev.at (q := 7) rfl ?_; exact (g _)) | refine Ev.p rfl rfl ?_))
      rw [← hb1, ← hm1]
      cases hb : rRd s n q with
      | true =>
        obtain ⟨J2, f1, f2, f3⟩ := m_stirOf (X := X) (d := d) (T := T) (G := G) (p := q) hI hv (by omega)
        obtain ⟨I', g1, g2⟩ := ih (q + 1) J2 (by omega) f2 (h2.tr f3)
        refine ⟨I', fun y => ?_, g2⟩
        have g3 := k35 (rStir s n q cls) J2 I' (by rw [hb]; rfl) g1
        (repeat refine Ev.p rfl rfl ?_)
        (refine Ev.iald (j := 26) rfl rfl rfl (by omega) (by omega) ?_; rw [hI, hn])
        (repeat refine Ev.p rfl rfl ?_)
        refine Ev.bp rfl (fun c => ?_) (fun c => ?_)
        · exact absurd c (nI_ge (by omega) (by omega))
        · (repeat refine Ev.p rfl rfl ?_)
          refine Ev.c rfl (m_isReady hI hn hn6 (p := q) (by omega)) ?_
          rw [hb]
          (repeat refine Ev.p rfl rfl ?_)
          refine Ev.c rfl f1 ?_
          (repeat (first | (refine Ev.at (q := 35) rfl ?_; exact (g3 _)) | refine Ev.p rfl rfl ?_))
      | false =>
        obtain ⟨I', g1, g2⟩ := ih (q + 1) J (by omega) hI h2
        refine ⟨I', fun y => ?_, g2⟩
        have g3 := k35 0 J I' (by rw [hb]; rfl) g1
        (repeat refine Ev.p rfl rfl ?_)
        (refine Ev.iald (j := 26) rfl rfl rfl (by omega) (by omega) ?_; rw [hI, hn])
        (repeat refine Ev.p rfl rfl ?_)
        refine Ev.bp rfl (fun c => ?_) (fun c => ?_)
        · exact absurd c (nI_ge (by omega) (by omega))
        · (repeat refine Ev.p rfl rfl ?_)
          refine Ev.c rfl (m_isReady hI hn hn6 (p := q) (by omega)) ?_
          rw [hb]
          (repeat (first | (refine Ev.at (q := 35) rfl ?_; exact (g3 _)) | refine Ev.p rfl rfl ?_))
  obtain ⟨I', e1, e2⟩ := lp n 0 I (by omega) hI (MS.rf I)
  refine ⟨I', ?_, e2⟩
  (repeat (first | (refine Ev.at (q := 7) rfl ?_; exact (e1 _)) | refine Ev.p rfl rfl ?_))
end STIR
