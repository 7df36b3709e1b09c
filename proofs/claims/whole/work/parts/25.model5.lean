/-! THE REFERENCE: seen, plans, acts, the image -/
section MODEL5
variable {X : Nat × (Nat → Int32)} {d : Nat} {T : List (Nat × Nat)} {I : Nat → Nat → Int32} {G : Nat → Nat → Option Nat} {s : Nat → Int32} {n p : Nat}
theorem isM_ne {x : Int32} (h : isM n x) : x ≠ -1 := fun e => by
  rw [e] at h
  exact absurd h.1 (by decide)
theorem m_see (hI : I 141 = s) (hn : s 26 = nI n) (hn6 : n ≤ 6) {b : Nat} (hb : s 28 = nI b) (hb5 : b ≤ 5) (x y : Int32) (w : Bool) : (x = -1 → Ev X (d + 2) kX12_see 0 (ent kX12_see [.ref 140, .int x, .int y, .int (bI w)]) [] (K0 ++ T, I, RS G) (some (.int 0), (K0 ++ T, upI I 141 28 0, RS G))) ∧ (x ≠ -1 → ¬ isM n x → Ev X (d + 2) kX12_see 0 (ent kX12_see [.ref 140, .int x, .int y, .int (bI w)]) [] (K0 ++ T, I, RS G) (some (.int (-1)), (K0 ++ T, I, RS G))) ∧ (isM n x → ¬ (0 ≤ y ∧ y ≤ 20) → Ev X (d + 2) kX12_see 0 (ent kX12_see [.ref 140, .int x, .int y, .int (bI w)]) [] (K0 ++ T, I, RS G) (some (.int (-2)), (K0 ++ T, I, RS G))) ∧ (isM n x → (0 ≤ y ∧ y ≤ 20) → b = 5 → Ev X (d + 2) kX12_see 0 (ent kX12_see [.ref 140, .int x, .int y, .int (bI w)]) [] (K0 ++ T, I, RS G) (some (.int (-4)), (K0 ++ T, I, RS G))) ∧ (isM n x → (0 ≤ y ∧ y ≤ 20) → b < 5 → ∃ I', Ev X (d + 2) kX12_see 0 (ent kX12_see [.ref 140, .int x, .int y, .int (bI w)]) [] (K0 ++ T, I, RS G) (some (.int (nI (b + 1))), (K0 ++ T, I', RS G)) ∧ I' 141 = upd (upd (upd (upd s (75 + b) x) (80 + b) y) (85 + b) (bI w)) 28 (nI (b + 1)) ∧ MF I I') := by
  refine ⟨fun h => ?_, fun h1 h2 => ?_, fun h1 h2 => ?_, fun h1 h2 h3 => ?_, fun h1 h2 h3 => ?_⟩
  · subst h
    (repeat refine Ev.p rfl rfl ?_)
    refine Ev.iast (j := 28) rfl rfl rfl (by omega) (by omega) ?_
    ((repeat refine Ev.p rfl rfl ?_); exact Ev.r rfl)
  · (repeat refine Ev.p rfl rfl ?_)
    refine Ev.bp rfl (fun c => ?_) (fun c => ?_)
    · (repeat refine Ev.p rfl rfl ?_)
      refine Ev.c rfl ((m_isM hI hn x).2 h2) ?_
      ((repeat refine Ev.p rfl rfl ?_); exact Ev.r rfl)
    · exact absurd (Decidable.not_not.mp c) h1
  · (repeat refine Ev.p rfl rfl ?_)
    refine Ev.bp rfl (fun c => ?_) (fun c => ?_)
    · (repeat refine Ev.p rfl rfl ?_)
      refine Ev.c rfl ((m_isM hI hn x).1 h1) ?_
      (repeat refine Ev.p rfl rfl ?_)
      refine Ev.c rfl (m_in _ _ _ _) ?_
      rw [if_neg h2]
      ((repeat refine Ev.p rfl rfl ?_); exact Ev.r rfl)
    · exact absurd (Decidable.not_not.mp c) (isM_ne h1)
  · (repeat refine Ev.p rfl rfl ?_)
    refine Ev.bp rfl (fun c => ?_) (fun c => ?_)
    · (repeat refine Ev.p rfl rfl ?_)
      refine Ev.c rfl ((m_isM hI hn x).1 h1) ?_
      (repeat refine Ev.p rfl rfl ?_)
      refine Ev.c rfl (m_in _ _ _ _) ?_
      rw [if_pos h2]
      (repeat refine Ev.p rfl rfl ?_)
      (refine Ev.iald (j := 28) rfl rfl rfl (by omega) (by omega) ?_; rw [hI])
      rw [hb, h3]
      ((repeat refine Ev.p rfl rfl ?_); exact Ev.r rfl)
    · exact absurd (Decidable.not_not.mp c) (isM_ne h1)
  · refine ⟨upI (upI (upI (upI I 141 (75 + b) x) 141 (80 + b) y) 141 (85 + b) (bI w)) 141 28 (nI b + 1), ?_, by rw [upI_eq, upI_eq, upI_eq, up143 hI, ← nI_succ], (((MF.up (by omega)).tr (MF.up (by omega))).tr (MF.up (by omega))).tr (MF.up (by omega))⟩
    (repeat refine Ev.p rfl rfl ?_)
    refine Ev.bp rfl (fun c => ?_) (fun c => ?_)
    · (repeat refine Ev.p rfl rfl ?_)
      refine Ev.c rfl ((m_isM hI hn x).1 h1) ?_
      (repeat refine Ev.p rfl rfl ?_)
      refine Ev.c rfl (m_in _ _ _ _) ?_
      rw [if_pos h2]
      (repeat refine Ev.p rfl rfl ?_)
      (refine Ev.iald (j := 28) rfl rfl rfl (by omega) (by omega) ?_; rw [hI])
      rw [hb]
      (repeat refine Ev.p rfl rfl ?_)
      refine Ev.bp rfl (fun c2 => ?_) (fun c2 => ?_)
      · (repeat refine Ev.p rfl rfl ?_)
        (refine Ev.iald (j := 28) rfl rfl rfl (by omega) (by omega) ?_; rw [hI])
        rw [hb]
        (repeat refine Ev.p rfl rfl ?_)
        refine Ev.iast (j := 75 + b) rfl rfl (nI_add 75 b) (by omega) (by omega) ?_
        (repeat refine Ev.p rfl rfl ?_)
        (refine Ev.iald (j := 28) rfl rfl rfl (by omega) (by omega) ?_; rw [up143 hI, upd_ne (by omega), hb])
        (repeat refine Ev.p rfl rfl ?_)
        refine Ev.iast (j := 80 + b) rfl rfl (nI_add 80 b) (by omega) (by omega) ?_
        (repeat refine Ev.p rfl rfl ?_)
        (refine Ev.iald (j := 28) rfl rfl rfl (by omega) (by omega) ?_; rw [upI_eq, up143 hI, upd_ne (by omega), upd_ne (by omega), hb])
        cases w with
        | true =>
          (repeat refine Ev.p rfl rfl ?_)
          refine Ev.iast (j := 85 + b) rfl rfl (nI_add 85 b) (by omega) (by omega) ?_
          (repeat refine Ev.p rfl rfl ?_)
          (refine Ev.iald (j := 28) rfl rfl rfl (by omega) (by omega) ?_; rw [upI_eq, upI_eq, up143 hI, upd_ne (by omega), upd_ne (by omega), upd_ne (by omega), hb])
          (repeat refine Ev.p rfl rfl ?_)
          refine Ev.iast (j := 28) rfl rfl rfl (by omega) (by omega) ?_
          (repeat refine Ev.p rfl rfl ?_)
          (refine Ev.iald (j := 28) rfl rfl rfl (by omega) (by omega) ?_; rw [upI_eq, upd_at, ← nI_succ])
          rw [nI_succ]
          ((repeat refine Ev.p rfl rfl ?_); exact Ev.r rfl)
        | false =>
          (repeat refine Ev.p rfl rfl ?_)
          refine Ev.iast (j := 85 + b) rfl rfl (nI_add 85 b) (by omega) (by omega) ?_
          (repeat refine Ev.p rfl rfl ?_)
          (refine Ev.iald (j := 28) rfl rfl rfl (by omega) (by omega) ?_; rw [upI_eq, upI_eq, up143 hI, upd_ne (by omega), upd_ne (by omega), upd_ne (by omega), hb])
          (repeat refine Ev.p rfl rfl ?_)
          refine Ev.iast (j := 28) rfl rfl rfl (by omega) (by omega) ?_
          (repeat refine Ev.p rfl rfl ?_)
          (refine Ev.iald (j := 28) rfl rfl rfl (by omega) (by omega) ?_; rw [upI_eq, upd_at, ← nI_succ])
          rw [nI_succ]
          ((repeat refine Ev.p rfl rfl ?_); exact Ev.r rfl)
      · exact absurd ((nI_eq (by omega) (by omega : 5 < 2 ^ 31)).mp (Decidable.not_not.mp c2)) (by omega)
    · exact absurd (Decidable.not_not.mp c) (isM_ne h1)
theorem m_plan (hI : I 141 = s) (hn : s 26 = nI n) (hn6 : n ≤ 6) {b : Nat} (hb : s 29 = nI b) (hb8 : b ≤ 8) (x y : Int32) : (x = -1 → Ev X (d + 2) kX12_plan 0 (ent kX12_plan [.ref 140, .int x, .int y]) [] (K0 ++ T, I, RS G) (some (.int 0), (K0 ++ T, upI I 141 29 0, RS G))) ∧ (x ≠ -1 → ¬ ((0 ≤ x ∧ x ≤ 3) ∧ (0 < x → isM n y)) → Ev X (d + 2) kX12_plan 0 (ent kX12_plan [.ref 140, .int x, .int y]) [] (K0 ++ T, I, RS G) (some (.int (-1)), (K0 ++ T, I, RS G))) ∧ ((0 ≤ x ∧ x ≤ 3) → (0 < x → isM n y) → b = 8 → Ev X (d + 2) kX12_plan 0 (ent kX12_plan [.ref 140, .int x, .int y]) [] (K0 ++ T, I, RS G) (some (.int (-4)), (K0 ++ T, I, RS G))) ∧ ((0 ≤ x ∧ x ≤ 3) → (0 < x → isM n y) → b < 8 → ∃ I', Ev X (d + 2) kX12_plan 0 (ent kX12_plan [.ref 140, .int x, .int y]) [] (K0 ++ T, I, RS G) (some (.int (nI (b + 1))), (K0 ++ T, I', RS G)) ∧ I' 141 = upd (upd (upd s (90 + b) x) (98 + b) y) 29 (nI (b + 1)) ∧ MF I I') := by
  have hx1 : (0 ≤ x ∧ x ≤ 3) → x ≠ -1 := fun h e => by
    rw [e] at h
    exact absurd h.1 (by decide)
  have tl : (0 ≤ x ∧ x ≤ 3) → (0 < x → isM n y) → ∀ R, Ev X (d + 2) kX12_plan 38 [some (.ref 140), some (.int x), some (.int y)] [] (K0 ++ T, I, RS G) R → Ev X (d + 2) kX12_plan 0 (ent kX12_plan [.ref 140, .int x, .int y]) [] (K0 ++ T, I, RS G) R := by
    intro h1 h2 R h9
    (repeat refine Ev.p rfl rfl ?_)
    refine Ev.bp rfl (fun c => ?_) (fun c => ?_)
    · (repeat refine Ev.p rfl rfl ?_)
      refine Ev.c rfl (m_in _ _ _ _) ?_
      rw [if_pos h1]
      (repeat refine Ev.p rfl rfl ?_)
      refine Ev.bp rfl (fun c2 => ?_) (fun c2 => ?_)
      · exact h9
      · (repeat refine Ev.p rfl rfl ?_)
        refine Ev.c rfl ((m_isM hI hn y).1 (h2 (Int32.not_le.mp c2))) ?_
        (repeat (first | exact h9 | refine Ev.p rfl rfl ?_))
    · exact absurd (Decidable.not_not.mp c) (hx1 h1)
  refine ⟨fun h => ?_, fun h1 h2 => ?_, fun h1 h2 h3 => ?_, fun h1 h2 h3 => ?_⟩
  · subst h
    (repeat refine Ev.p rfl rfl ?_)
    refine Ev.iast (j := 29) rfl rfl rfl (by omega) (by omega) ?_
    ((repeat refine Ev.p rfl rfl ?_); exact Ev.r rfl)
  · (repeat refine Ev.p rfl rfl ?_)
    refine Ev.bp rfl (fun c => ?_) (fun c => ?_)
    · (repeat refine Ev.p rfl rfl ?_)
      refine Ev.c rfl (m_in _ _ _ _) ?_
      by_cases h3 : 0 ≤ x ∧ x ≤ 3
      · rw [if_pos h3]
        (repeat refine Ev.p rfl rfl ?_)
        refine Ev.bp rfl (fun c2 => ?_) (fun c2 => ?_)
        · exact absurd ⟨h3, fun q => absurd c2 (Int32.not_le.mpr q)⟩ h2
        · (repeat refine Ev.p rfl rfl ?_)
          refine Ev.c rfl ((m_isM hI hn y).2 (fun h => h2 ⟨h3, fun _ => h⟩)) ?_
          ((repeat refine Ev.p rfl rfl ?_); exact Ev.r rfl)
      · rw [if_neg h3]
        ((repeat refine Ev.p rfl rfl ?_); exact Ev.r rfl)
    · exact absurd (Decidable.not_not.mp c) h1
  · refine tl h1 h2 _ ?_
    (repeat refine Ev.p rfl rfl ?_)
    (refine Ev.iald (j := 29) rfl rfl rfl (by omega) (by omega) ?_; rw [hI])
    rw [hb, h3]
    ((repeat refine Ev.p rfl rfl ?_); exact Ev.r rfl)
  · refine ⟨upI (upI (upI I 141 (90 + b) x) 141 (98 + b) y) 141 29 (nI b + 1), tl h1 h2 _ ?_, by rw [upI_eq, upI_eq, up143 hI, ← nI_succ], ((MF.up (by omega)).tr (MF.up (by omega))).tr (MF.up (by omega))⟩
    (repeat refine Ev.p rfl rfl ?_)
    (refine Ev.iald (j := 29) rfl rfl rfl (by omega) (by omega) ?_; rw [hI])
    rw [hb]
    (repeat refine Ev.p rfl rfl ?_)
    refine Ev.bp rfl (fun c2 => ?_) (fun c2 => ?_)
    · (repeat refine Ev.p rfl rfl ?_)
      (refine Ev.iald (j := 29) rfl rfl rfl (by omega) (by omega) ?_; rw [hI])
      rw [hb]
      (repeat refine Ev.p rfl rfl ?_)
      refine Ev.iast (j := 90 + b) rfl rfl (nI_add 90 b) (by omega) (by omega) ?_
      (repeat refine Ev.p rfl rfl ?_)
      (refine Ev.iald (j := 29) rfl rfl rfl (by omega) (by omega) ?_; rw [up143 hI, upd_ne (by omega), hb])
      (repeat refine Ev.p rfl rfl ?_)
      refine Ev.iast (j := 98 + b) rfl rfl (nI_add 98 b) (by omega) (by omega) ?_
      (repeat refine Ev.p rfl rfl ?_)
      (refine Ev.iald (j := 29) rfl rfl rfl (by omega) (by omega) ?_; rw [upI_eq, up143 hI, upd_ne (by omega), upd_ne (by omega), hb])
      (repeat refine Ev.p rfl rfl ?_)
      refine Ev.iast (j := 29) rfl rfl rfl (by omega) (by omega) ?_
      (repeat refine Ev.p rfl rfl ?_)
      (refine Ev.iald (j := 29) rfl rfl rfl (by omega) (by omega) ?_; rw [upI_eq, upd_at, ← nI_succ])
      rw [nI_succ]
      ((repeat refine Ev.p rfl rfl ?_); exact Ev.r rfl)
    · exact absurd ((nI_eq (by omega) (by omega : 8 < 2 ^ 31)).mp (Decidable.not_not.mp c2)) (by omega)
theorem m_image (hI : I 141 = s) : ∃ I', Ev X d kX12_image 0 (ent kX12_image [.ref 140]) [] (K0 ++ T, I, RS G) (some (.int (s 26)), (K0 ++ T, I', RS G)) ∧ I' 141 = s ∧ I' 142 = mixf s (I 142) 937 ∧ I' 140 4 = 1 ∧ I' 140 5 = I 140 5 ∧ I' 140 16 = I 140 16 ∧ I' 148 = I 148 ∧ (∀ q, q < 140 → I' q = I q) ∧ (∀ q, 149 ≤ q → I' q = I q) := by
  have lp : ∀ m q (J : Nat → Nat → Int32), q + m = 937 → J 141 = s → J 142 = mixf s (I 142) q → (∀ a, a ≠ 142 → J a = I a) → ∃ I', Ev X d kX12_image 2 [some (.ref 140), some (.int (nI q))] [] (K0 ++ T, J, RS G) (some (.int (s 26)), (K0 ++ T, I', RS G)) ∧ I' 141 = s ∧ I' 142 = mixf s (I 142) 937 ∧ I' 140 4 = 1 ∧ I' 140 5 = I 140 5 ∧ I' 140 16 = I 140 16 ∧ I' 148 = I 148 ∧ (∀ q, q < 140 → I' q = I q) ∧ (∀ q, 149 ≤ q → I' q = I q) := by
    intro m
    induction m with
    | zero =>
      intro q J hq hI h2 h3
      have e : q = 937 := by omega
      subst e
      refine ⟨upI J 140 4 1, ?_, by rw [upI_ne (by omega), hI], by rw [upI_ne (by omega), h2], if_pos ⟨rfl, rfl⟩, ?_, ?_, by rw [upI_ne (by omega), h3 _ (by omega)], fun a ha => by rw [upI_ne (by omega), h3 _ (by omega)], fun a ha => by rw [upI_ne (by omega), h3 _ (by omega)]⟩
      · (repeat refine Ev.p rfl rfl ?_)
        dsimp only
        (refine Ev.iald (j := 26) rfl rfl rfl (by omega) (by omega) ?_; rw [upI_ne (by omega), hI])
        ((repeat refine Ev.p rfl rfl ?_); exact Ev.r rfl)
      · rw [← h3 140 (by omega)]; rfl
      · rw [← h3 140 (by omega)]; rfl
    | succ m ih =>
      intro q J hq hI h2 h3
      obtain ⟨I', e1, e2⟩ := ih (q + 1) (upI J 142 q (s q)) (by omega) (by rw [upI_ne (by omega), hI]) (by rw [upI_eq, h2, mixf_up]) (fun a ha => by rw [upI_ne ha, h3 a ha])
      refine ⟨I', ?_, e2⟩
      rw [nI_succ] at e1
      (repeat refine Ev.p rfl rfl ?_)
      refine Ev.bp rfl (fun c => ?_) (fun c => ?_)
      · exact absurd c (nI_ge (a := q) (b := 937) (by omega) (by omega))
      · (repeat refine Ev.p rfl rfl ?_)
        (refine Ev.iald (j := q) rfl rfl rfl (by omega) (by omega) ?_; rw [hI])
        (repeat refine Ev.p rfl rfl ?_)
        refine Ev.iast (j := q) rfl rfl rfl (by omega) (by omega) ?_
        (repeat (first | exact e1 | refine Ev.p rfl rfl ?_))
  obtain ⟨I', e1, e2⟩ := lp 937 0 I rfl hI (mixf_0 _ _).symm (fun _ _ => rfl)
  refine ⟨I', ?_, e2⟩
  (repeat (first | exact e1 | refine Ev.p rfl rfl ?_))
theorem m_undo : (I 140 4 = 0 → Ev X d kX12_undo 0 (ent kX12_undo [.ref 140]) [] (K0 ++ T, I, RS G) (some (.int (-3)), (K0 ++ T, I, RS G))) ∧ (I 140 4 ≠ 0 → ∃ I', Ev X d kX12_undo 0 (ent kX12_undo [.ref 140]) [] (K0 ++ T, I, RS G) (some (.int (I 142 26)), (K0 ++ T, I', RS G)) ∧ I' 141 = mixf (I 142) (I 141) 937 ∧ (∀ a, a ≠ 141 → I' a = I a)) := by
  refine ⟨fun h => ?_, fun h => ?_⟩
  · (repeat refine Ev.p rfl rfl ?_)
    refine Ev.bp rfl (fun c => ?_) (fun c => ?_)
    · exact absurd h c
    · ((repeat refine Ev.p rfl rfl ?_); exact Ev.r rfl)
  · have lp : ∀ m q (J : Nat → Nat → Int32), q + m = 937 → J 141 = mixf (I 142) (I 141) q → (∀ a, a ≠ 141 → J a = I a) → ∃ I', Ev X d kX12_undo 12 [some (.ref 140), some (.int (nI q))] [] (K0 ++ T, J, RS G) (some (.int (I 142 26)), (K0 ++ T, I', RS G)) ∧ I' 141 = mixf (I 142) (I 141) 937 ∧ (∀ a, a ≠ 141 → I' a = I a) := by
      intro m
      induction m with
      | zero =>
        intro q J hq h2 h3
        have e : q = 937 := by omega
        subst e
        refine ⟨J, ?_, h2, h3⟩
        (repeat refine Ev.p rfl rfl ?_)
        (refine Ev.iald (j := 26) rfl rfl rfl (by omega) (by omega) ?_; rw [h2, show mixf (I 142) (I 141) 937 26 = I 142 26 from if_pos (by omega)])
        ((repeat refine Ev.p rfl rfl ?_); exact Ev.r rfl)
      | succ m ih =>
        intro q J hq h2 h3
        obtain ⟨I', e1, e2⟩ := ih (q + 1) (upI J 141 q (I 142 q)) (by omega) (by rw [upI_eq, h2, mixf_up]) (fun a ha => by rw [upI_ne ha, h3 a ha])
        refine ⟨I', ?_, e2⟩
        rw [nI_succ] at e1
        (repeat refine Ev.p rfl rfl ?_)
        refine Ev.bp rfl (fun c => ?_) (fun c => ?_)
        · exact absurd c (nI_ge (a := q) (b := 937) (by omega) (by omega))
        · (repeat refine Ev.p rfl rfl ?_)
          (refine Ev.iald (j := q) rfl rfl rfl (by omega) (by omega) ?_; rw [h3 142 (by omega)])
          (repeat refine Ev.p rfl rfl ?_)
          refine Ev.iast (j := q) rfl rfl rfl (by omega) (by omega) ?_
          (repeat (first | exact e1 | refine Ev.p rfl rfl ?_))
    obtain ⟨I', e1, e2⟩ := lp 937 0 I rfl (mixf_0 _ _).symm (fun _ _ => rfl)
    refine ⟨I', ?_, e2⟩
    (repeat refine Ev.p rfl rfl ?_)
    refine Ev.bp rfl (fun c => ?_) (fun c => ?_)
    · (repeat (first | exact e1 | refine Ev.p rfl rfl ?_))
    · exact absurd (Decidable.not_not.mp c) h
def rPw (n : Nat) : Nat → Int32
  | 0 => 1
  | k + 1 => rPw n k * (nI n + 1)
theorem m_power (hI : I 141 = s) (hn : s 26 = nI n) {k : Nat} (hk : k ≤ 4) : Ev X d kX12_power 0 (ent kX12_power [.ref 140, .int (nI k)]) [] (K0 ++ T, I, RS G) (some (.int (rPw n k)), (K0 ++ T, I, RS G)) := by
  have lp : ∀ m q, q + m = k → Ev X d kX12_power 4 [some (.ref 140), some (.int (nI k)), some (.int (rPw n q)), some (.int (nI q))] [] (K0 ++ T, I, RS G) (some (.int (rPw n k)), (K0 ++ T, I, RS G)) := by
    intro m
    induction m with
    | zero =>
      intro q hq
      have e : q = k := by omega
      subst e
      (repeat refine Ev.p rfl rfl ?_)
      refine Ev.bp rfl (fun c => ?_) (fun c => ?_)
      · ((repeat refine Ev.p rfl rfl ?_); exact Ev.r rfl)
      · exact absurd (Int32.le_refl _) c
    | succ m ih =>
      intro q hq
      have h9 := ih (q + 1) (by omega)
      rw [nI_succ] at h9
      (repeat refine Ev.p rfl rfl ?_)
      refine Ev.bp rfl (fun c => ?_) (fun c => ?_)
      · exact absurd c (nI_ge (by omega) (by omega))
      · (repeat refine Ev.p rfl rfl ?_)
        (refine Ev.iald (j := 26) rfl rfl rfl (by omega) (by omega) ?_; rw [hI, hn])
        (repeat (first | exact h9 | refine Ev.p rfl rfl ?_))
  have h9 := lp k 0 (by omega)
  (repeat (first | exact h9 | refine Ev.p rfl rfl ?_))
theorem m_trace {ct : Nat} (hc : I 140 16 = nI ct) (hc2 : ct < 1000) (x : Int32) : (∀ j, j < ct → j < 20 → x = nI j → Ev X (d + 1) kX12_trace 0 (ent kX12_trace [.ref 140, .int x]) [] (K0 ++ T, I, RS G) (some (.int (I 148 j)), (K0 ++ T, I, RS G))) ∧ (¬ (∃ j, j < ct ∧ j < 20 ∧ x = nI j) → Ev X (d + 1) kX12_trace 0 (ent kX12_trace [.ref 140, .int x]) [] (K0 ++ T, I, RS G) (some (.int (-1)), (K0 ++ T, I, RS G))) := by
  have key : ∀ (e : Nat), e = min ct 20 → ((0 : Int32) ≤ x ∧ x ≤ nI e - 1 ↔ ∃ j, j < ct ∧ j < 20 ∧ x = nI j) := by
    intro e he
    constructor
    · rintro ⟨h1, h2⟩
      obtain ⟨j, hj, rfl⟩ := nI_of (Int32.not_lt.mpr h1)
      cases e with
      | zero =>
        exfalso
        have h4 := Int32.le_trans h1 (show nI j ≤ -1 from h2)
        exact absurd h4 (by decide)
      | succ e =>
        rw [nI_pred] at h2
        have := (nI_leI hj (by omega)).mp h2
        exact ⟨j, by omega, by omega, rfl⟩
    · rintro ⟨j, h1, h2, rfl⟩
      refine ⟨nI_pos' (by omega), ?_⟩
      cases e with
      | zero => omega
      | succ e =>
        rw [nI_pred]
        exact nI_le (by omega) (by omega)
  have hA : 20 ≤ ct → ((0 : Int32) ≤ x ∧ x ≤ 20 - 1 ↔ ∃ j, j < ct ∧ j < 20 ∧ x = nI j) := fun h => key 20 (by omega)
  have hB : ¬ 20 ≤ ct → ((0 : Int32) ≤ x ∧ x ≤ nI ct - 1 ↔ ∃ j, j < ct ∧ j < 20 ∧ x = nI j) := fun h => key ct (by omega)
  have h20 : (20 : Int32) ≤ nI ct ↔ 20 ≤ ct := nI_leI (by omega : 20 < 2 ^ 31) (by omega : ct < 2 ^ 31)
  refine ⟨fun j h1 h2 ex => ?_, fun h => ?_⟩
  · (repeat refine Ev.p rfl rfl ?_)
    dsimp only
    rw [hc]
    refine Ev.bp rfl (fun c => ?_) (fun c => ?_)
    · (repeat refine Ev.p rfl rfl ?_)
      refine Ev.c rfl (m_in _ _ _ _) ?_
      rw [if_pos ((hA (h20.mp c)).mpr ⟨j, h1, h2, ex⟩)]
      subst ex
      (repeat refine Ev.p rfl rfl ?_)
      refine Ev.iald (j := j) rfl rfl rfl (by omega) (by omega) ?_
      ((repeat refine Ev.p rfl rfl ?_); exact Ev.r rfl)
    · (repeat refine Ev.p rfl rfl ?_)
      dsimp only
      rw [hc]
      refine Ev.c rfl (m_in _ _ _ _) ?_
      rw [if_pos ((hB (fun q => c (h20.mpr q))).mpr ⟨j, h1, h2, ex⟩)]
      subst ex
      (repeat refine Ev.p rfl rfl ?_)
      refine Ev.iald (j := j) rfl rfl rfl (by omega) (by omega) ?_
      ((repeat refine Ev.p rfl rfl ?_); exact Ev.r rfl)
  · (repeat refine Ev.p rfl rfl ?_)
    dsimp only
    rw [hc]
    refine Ev.bp rfl (fun c => ?_) (fun c => ?_)
    · (repeat refine Ev.p rfl rfl ?_)
      refine Ev.c rfl (m_in _ _ _ _) ?_
      rw [if_neg (fun q => h ((hA (h20.mp c)).mp q))]
      ((repeat refine Ev.p rfl rfl ?_); exact Ev.r rfl)
    · (repeat refine Ev.p rfl rfl ?_)
      dsimp only
      rw [hc]
      refine Ev.c rfl (m_in _ _ _ _) ?_
      rw [if_neg (fun q => h ((hB (fun q => c (h20.mpr q))).mp q))]
      ((repeat refine Ev.p rfl rfl ?_); exact Ev.r rfl)
end MODEL5
