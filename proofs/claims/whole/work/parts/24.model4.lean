/-! THE REFERENCE: matters, ties, what is told by hand -/
theorem nI_4mul {p : Nat} (hp : p < 6) : (4 : Int32) * nI p = nI (4 * p) := by
  rcases (by omega : p = 0 ∨ p = 1 ∨ p = 2 ∨ p = 3 ∨ p = 4 ∨ p = 5) with rfl | rfl | rfl | rfl | rfl | rfl <;> decide
theorem ix_row {p k : Nat} (hp : p < 6) : (45 : Int32) + 4 * nI p + nI k = nI (45 + 4 * p + k) := by
  rw [nI_4mul hp, show (45 : Int32) = nI 45 from rfl, nI_add, nI_add]
def rz (s : Nat → Int32) (p : Nat) : Nat → Nat → Int32
  | 0 => s
  | k + 1 => upd (rz s p k) (45 + 4 * p + k) 0
def rMat (s : Nat → Int32) (p : Nat) (x y : Int32) : Nat → Int32 := upd (rz (upd (upd (upd (upd (upd (upd (upd s (33 + p) x) (39 + p) y) (69 + p) 0) (2 + p) 0) (8 + p) 0) (14 + p) 0) (20 + p) 0) p 4) 26 (nI (p + 1))
theorem rz_26 (s : Nat → Int32) (p : Nat) : ∀ k, rz s p k 26 = s 26
  | 0 => rfl
  | k + 1 => by rw [rz, upd_ne (by omega), rz_26 s p k]
section MODEL4
variable {X : Nat × (Nat → Int32)} {d : Nat} {T : List (Nat × Nat)} {I : Nat → Nat → Int32} {G : Nat → Nat → Option Nat} {s : Nat → Int32} {n p : Nat}
theorem m_tie (hI : I 141 = s) (hn : s 26 = nI n) (hn6 : n ≤ 6) (x y : Int32) (b : Bool) : (∀ p q, p < n → q < n → x = nI p → y = nI q → p ≠ q → Ev X (d + 2) kX12_tie 0 (ent kX12_tie [.ref 140, .int x, .int y, .int (bI b)]) [] (K0 ++ T, I, RS G) (some (.int ((s (69 + p) >>> (nI q &&& 31)) &&& 1)), (K0 ++ T, upI I 141 (69 + p) ((s (69 + p) &&& ((1 : Int32) <<< (nI q &&& 31) ^^^ (-1))) ||| (if b = true then (1 : Int32) <<< (nI q &&& 31) else 0)), RS G))) ∧ (isM n x → x = y → Ev X (d + 2) kX12_tie 0 (ent kX12_tie [.ref 140, .int x, .int y, .int (bI b)]) [] (K0 ++ T, I, RS G) (some (.int (-2)), (K0 ++ T, I, RS G))) ∧ (¬ (isM n x ∧ isM n y) → Ev X (d + 2) kX12_tie 0 (ent kX12_tie [.ref 140, .int x, .int y, .int (bI b)]) [] (K0 ++ T, I, RS G) (some (.int (-1)), (K0 ++ T, I, RS G))) := by
  refine ⟨fun p q hp hq ex ey hpq => ?_, fun h1 h2 => ?_, fun h1 => ?_⟩
  · (repeat refine Ev.p rfl rfl ?_)
    refine Ev.c rfl ((m_isM hI hn x).1 ((isM_iff hn6).mpr ⟨p, hp, ex⟩)) ?_
    (repeat refine Ev.p rfl rfl ?_)
    refine Ev.c rfl ((m_isM hI hn y).1 ((isM_iff hn6).mpr ⟨q, hq, ey⟩)) ?_
    (repeat refine Ev.p rfl rfl ?_)
    refine Ev.bp rfl (fun c => ?_) (fun c => ?_)
    · subst ex ey
      (repeat refine Ev.p rfl rfl ?_)
      (refine Ev.iald (j := 69 + p) rfl rfl (nI_add 69 p) (by omega) (by omega) ?_; rw [hI])
      (repeat refine Ev.p rfl rfl ?_)
      (refine Ev.iald (j := 69 + p) rfl rfl (nI_add 69 p) (by omega) (by omega) ?_; rw [hI])
      cases b with
      | true =>
        (repeat refine Ev.p rfl rfl ?_)
        refine Ev.iast (j := 69 + p) rfl rfl (nI_add 69 p) (by omega) (by omega) ?_
        ((repeat refine Ev.p rfl rfl ?_); exact Ev.r rfl)
      | false =>
        (repeat refine Ev.p rfl rfl ?_)
        refine Ev.iast (j := 69 + p) rfl rfl (nI_add 69 p) (by omega) (by omega) ?_
        ((repeat refine Ev.p rfl rfl ?_); exact Ev.r rfl)
    · exfalso
      have c := Decidable.not_not.mp c
      rw [ex, ey] at c
      exact hpq ((nI_eq (by omega) (by omega)).mp c)
  · subst h2
    (repeat refine Ev.p rfl rfl ?_)
    refine Ev.c rfl ((m_isM hI hn x).1 h1) ?_
    (repeat refine Ev.p rfl rfl ?_)
    refine Ev.c rfl ((m_isM hI hn x).1 h1) ?_
    (repeat refine Ev.p rfl rfl ?_)
    refine Ev.bp rfl (fun c => ?_) (fun c => ?_)
    · exact absurd rfl c
    · ((repeat refine Ev.p rfl rfl ?_); exact Ev.r rfl)
  · by_cases h2 : isM n x
    · (repeat refine Ev.p rfl rfl ?_)
      refine Ev.c rfl ((m_isM hI hn x).1 h2) ?_
      (repeat refine Ev.p rfl rfl ?_)
      refine Ev.c rfl ((m_isM hI hn y).2 (fun h => h1 ⟨h2, h⟩)) ?_
      ((repeat refine Ev.p rfl rfl ?_); exact Ev.r rfl)
    · (repeat refine Ev.p rfl rfl ?_)
      refine Ev.c rfl ((m_isM hI hn x).2 h2) ?_
      ((repeat refine Ev.p rfl rfl ?_); exact Ev.r rfl)
theorem m_row (hI : I 141 = s) (hn : s 26 = nI n) (hn6 : n ≤ 6) (x y z : Int32) : (∀ p k, p < n → k < 4 → x = nI p → y = nI k → (0 ≤ z ∧ z ≤ 9) → s (33 + p) = 6 → Ev X (d + 2) kX12_row 0 (ent kX12_row [.ref 140, .int x, .int y, .int z]) [] (K0 ++ T, I, RS G) (some (.int (s (45 + 4 * p + k))), (K0 ++ T, upI I 141 (45 + 4 * p + k) z, RS G))) ∧ (∀ p, p < n → x = nI p → (0 ≤ y ∧ y ≤ 3) → (0 ≤ z ∧ z ≤ 9) → s (33 + p) ≠ 6 → Ev X (d + 2) kX12_row 0 (ent kX12_row [.ref 140, .int x, .int y, .int z]) [] (K0 ++ T, I, RS G) (some (.int (-3)), (K0 ++ T, I, RS G))) ∧ ((isM n x ∧ 0 ≤ y ∧ y ≤ 3) → ¬ (0 ≤ z ∧ z ≤ 9) → Ev X (d + 2) kX12_row 0 (ent kX12_row [.ref 140, .int x, .int y, .int z]) [] (K0 ++ T, I, RS G) (some (.int (-2)), (K0 ++ T, I, RS G))) ∧ (¬ (isM n x ∧ 0 ≤ y ∧ y ≤ 3) → Ev X (d + 2) kX12_row 0 (ent kX12_row [.ref 140, .int x, .int y, .int z]) [] (K0 ++ T, I, RS G) (some (.int (-1)), (K0 ++ T, I, RS G))) := by
  refine ⟨fun p k hp hk ex ey hz hs => ?_, fun p hp ex hy hz hs => ?_, fun h1 h2 => ?_, fun h1 => ?_⟩
  · (repeat refine Ev.p rfl rfl ?_)
    refine Ev.c rfl ((m_isM hI hn x).1 ((isM_iff hn6).mpr ⟨p, hp, ex⟩)) ?_
    (repeat refine Ev.p rfl rfl ?_)
    refine Ev.c rfl (m_in _ _ _ _) ?_
    rw [if_pos (by rw [ey]; exact ⟨nI_pos' (by omega), nI_le (b := 3) (by omega) (by omega)⟩)]
    (repeat refine Ev.p rfl rfl ?_)
    refine Ev.c rfl (m_in _ _ _ _) ?_
    rw [if_pos hz]
    subst ex ey
    (repeat refine Ev.p rfl rfl ?_)
    (refine Ev.iald (j := 33 + p) rfl rfl (nI_add 33 p) (by omega) (by omega) ?_; rw [hI])
    rw [hs]
    (repeat refine Ev.p rfl rfl ?_)
    refine Ev.c rfl (m_becomes hI (ix_row (k := k) (by omega : p < 6)) (by omega) z) ?_
    ((repeat refine Ev.p rfl rfl ?_); exact Ev.r rfl)
  · (repeat refine Ev.p rfl rfl ?_)
    refine Ev.c rfl ((m_isM hI hn x).1 ((isM_iff hn6).mpr ⟨p, hp, ex⟩)) ?_
    (repeat refine Ev.p rfl rfl ?_)
    refine Ev.c rfl (m_in _ _ _ _) ?_
    rw [if_pos hy]
    (repeat refine Ev.p rfl rfl ?_)
    refine Ev.c rfl (m_in _ _ _ _) ?_
    rw [if_pos hz]
    subst ex
    (repeat refine Ev.p rfl rfl ?_)
    (refine Ev.iald (j := 33 + p) rfl rfl (nI_add 33 p) (by omega) (by omega) ?_; rw [hI])
    (repeat refine Ev.p rfl rfl ?_)
    refine Ev.bp rfl (fun c => ?_) (fun c => ?_)
    · ((repeat refine Ev.p rfl rfl ?_); exact Ev.r rfl)
    · exact absurd (Decidable.not_not.mp c) hs
  · (repeat refine Ev.p rfl rfl ?_)
    refine Ev.c rfl ((m_isM hI hn x).1 h1.1) ?_
    (repeat refine Ev.p rfl rfl ?_)
    refine Ev.c rfl (m_in _ _ _ _) ?_
    rw [if_pos h1.2]
    (repeat refine Ev.p rfl rfl ?_)
    refine Ev.c rfl (m_in _ _ _ _) ?_
    rw [if_neg h2]
    ((repeat refine Ev.p rfl rfl ?_); exact Ev.r rfl)
  · by_cases h2 : isM n x
    · (repeat refine Ev.p rfl rfl ?_)
      refine Ev.c rfl ((m_isM hI hn x).1 h2) ?_
      (repeat refine Ev.p rfl rfl ?_)
      refine Ev.c rfl (m_in _ _ _ _) ?_
      rw [if_neg (fun h => h1 ⟨h2, h⟩)]
      ((repeat refine Ev.p rfl rfl ?_); exact Ev.r rfl)
    · (repeat refine Ev.p rfl rfl ?_)
      refine Ev.c rfl ((m_isM hI hn x).2 h2) ?_
      ((repeat refine Ev.p rfl rfl ?_); exact Ev.r rfl)
theorem m_matter (hI : I 141 = s) (hn : s 26 = nI n) (hn6 : n ≤ 6) (x y : Int32) : ((0 ≤ x ∧ x ≤ 6) → (0 ≤ y ∧ y ≤ 9) → n < 6 → ∃ I', Ev X (d + 1) kX12_matter 0 (ent kX12_matter [.ref 140, .int x, .int y]) [] (K0 ++ T, I, RS G) (some (.int (nI n)), (K0 ++ T, I', RS G)) ∧ I' 141 = rMat s n x y ∧ MF I I') ∧ ((0 ≤ x ∧ x ≤ 6) → (0 ≤ y ∧ y ≤ 9) → n = 6 → Ev X (d + 1) kX12_matter 0 (ent kX12_matter [.ref 140, .int x, .int y]) [] (K0 ++ T, I, RS G) (some (.int (-4)), (K0 ++ T, I, RS G))) ∧ ((0 ≤ x ∧ x ≤ 6) → ¬ (0 ≤ y ∧ y ≤ 9) → Ev X (d + 1) kX12_matter 0 (ent kX12_matter [.ref 140, .int x, .int y]) [] (K0 ++ T, I, RS G) (some (.int (-2)), (K0 ++ T, I, RS G))) ∧ (¬ (0 ≤ x ∧ x ≤ 6) → Ev X (d + 1) kX12_matter 0 (ent kX12_matter [.ref 140, .int x, .int y]) [] (K0 ++ T, I, RS G) (some (.int (-1)), (K0 ++ T, I, RS G))) := by
  refine ⟨fun hx hy hn5 => ?_, fun hx hy h6 => ?_, fun hx hy => ?_, fun hx => ?_⟩
  · have lp : ∀ (s1 : Nat → Int32), s1 26 = nI n → ∀ m k (J : Nat → Nat → Int32), k + m = 4 → J 141 = rz s1 n k → MF I J → ∃ I', Ev X (d + 1) kX12_matter 120 [some (.ref 140), some (.int x), some (.int y), some (.int (nI n)), some (.int (nI k))] [] (K0 ++ T, J, RS G) (some (.int (nI n)), (K0 ++ T, I', RS G)) ∧ I' 141 = upd (rz s1 n 4) 26 (nI (n + 1)) ∧ MF I I' := by
      intro s1 h26 m
      induction m with
      | zero =>
        intro k J hk hI h3
        have e : k = 4 := by omega
        subst e
        refine ⟨upI J 141 26 (nI n + 1), ?_, by rw [up143 hI, ← nI_succ], h3.tr (MF.up (by omega))⟩
        (repeat refine Ev.p rfl rfl ?_)
        (refine Ev.iald (j := 26) rfl rfl rfl (by omega) (by omega) ?_; rw [hI])
        rw [rz_26, h26]
        (repeat refine Ev.p rfl rfl ?_)
        refine Ev.iast (j := 26) rfl rfl rfl (by omega) (by omega) ?_
        ((repeat refine Ev.p rfl rfl ?_); exact Ev.r rfl)
      | succ m ih =>
        intro k J hk hI h3
        obtain ⟨I', e1, e2, e3⟩ := ih (k + 1) (upI J 141 (45 + 4 * n + k) 0) (by omega) (by rw [up143 hI]; rfl) (h3.tr (MF.up (by omega)))
        refine ⟨I', ?_, e2, e3⟩
        rw [nI_succ] at e1
        (repeat refine Ev.p rfl rfl ?_)
        refine Ev.bp rfl (fun c => ?_) (fun c => ?_)
        · exact absurd c (nI_ge (a := k) (b := 4) (by omega) (by omega))
        · (repeat refine Ev.p rfl rfl ?_)
          refine Ev.iast (j := 45 + 4 * n + k) rfl rfl (ix_row (by omega)) (by omega) (by omega) ?_
          (repeat (first | exact e1 | refine Ev.p rfl rfl ?_))
    let J1 := upI (upI (upI (upI (upI (upI (upI I 141 (33 + n) x) 141 (39 + n) y) 141 (69 + n) 0) 141 (2 + n) 0) 141 (8 + n) 0) 141 (14 + n) 0) 141 (20 + n) 0
    have hJ1 : J1 141 = upd (upd (upd (upd (upd (upd (upd s (33 + n) x) (39 + n) y) (69 + n) 0) (2 + n) 0) (8 + n) 0) (14 + n) 0) (20 + n) 0 := by
      show upI (upI (upI (upI (upI (upI (upI I 141 (33 + n) x) 141 (39 + n) y) 141 (69 + n) 0) 141 (2 + n) 0) 141 (8 + n) 0) 141 (14 + n) 0) 141 (20 + n) 0 141 = _
      simp only [upI_eq, hI]
    have hmf : MF I J1 := ((((((MF.up (by omega)).tr (MF.up (by omega))).tr (MF.up (by omega))).tr (MF.up (by omega))).tr (MF.up (by omega))).tr (MF.up (by omega))).tr (MF.up (by omega))
    obtain ⟨I', e1, e2, e3⟩ := lp (J1 141) (by rw [hJ1, upd_ne (by omega), upd_ne (by omega), upd_ne (by omega), upd_ne (by omega), upd_ne (by omega), upd_ne (by omega), upd_ne (by omega), hn]) 4 0 J1 rfl rfl hmf
    rw [hJ1] at e2
    refine ⟨I', ?_, e2, e3⟩
    (repeat refine Ev.p rfl rfl ?_)
    refine Ev.c rfl (m_in _ _ _ _) ?_
    rw [if_pos hx]
    (repeat refine Ev.p rfl rfl ?_)
    refine Ev.c rfl (m_in _ _ _ _) ?_
    rw [if_pos hy]
    (repeat refine Ev.p rfl rfl ?_)
    (refine Ev.iald (j := 26) rfl rfl rfl (by omega) (by omega) ?_; rw [hI, hn])
    (repeat refine Ev.p rfl rfl ?_)
    refine Ev.bp rfl (fun c => ?_) (fun c => ?_)
    · (repeat refine Ev.p rfl rfl ?_)
      (refine Ev.iald (j := 26) rfl rfl rfl (by omega) (by omega) ?_; rw [hI, hn])
      (repeat refine Ev.p rfl rfl ?_)
      refine Ev.iast (j := 33 + n) rfl rfl (nI_add 33 n) (by omega) (by omega) ?_
      (repeat refine Ev.p rfl rfl ?_)
      refine Ev.iast (j := 39 + n) rfl rfl (nI_add 39 n) (by omega) (by omega) ?_
      (repeat refine Ev.p rfl rfl ?_)
      refine Ev.iast (j := 69 + n) rfl rfl (nI_add 69 n) (by omega) (by omega) ?_
      (repeat refine Ev.p rfl rfl ?_)
      refine Ev.iast (j := 2 + n) rfl rfl (nI_add 2 n) (by omega) (by omega) ?_
      (repeat refine Ev.p rfl rfl ?_)
      refine Ev.iast (j := 8 + n) rfl rfl (nI_add 8 n) (by omega) (by omega) ?_
      (repeat refine Ev.p rfl rfl ?_)
      refine Ev.iast (j := 14 + n) rfl rfl (nI_add 14 n) (by omega) (by omega) ?_
      (repeat refine Ev.p rfl rfl ?_)
      refine Ev.iast (j := 20 + n) rfl rfl (nI_add 20 n) (by omega) (by omega) ?_
      (repeat (first | exact e1 | refine Ev.p rfl rfl ?_))
    · exact absurd ((nI_eq (by omega) (by omega : 6 < 2 ^ 31)).mp (Decidable.not_not.mp c)) (by omega)
  · (repeat refine Ev.p rfl rfl ?_)
    refine Ev.c rfl (m_in _ _ _ _) ?_
    rw [if_pos hx]
    (repeat refine Ev.p rfl rfl ?_)
    refine Ev.c rfl (m_in _ _ _ _) ?_
    rw [if_pos hy]
    (repeat refine Ev.p rfl rfl ?_)
    (refine Ev.iald (j := 26) rfl rfl rfl (by omega) (by omega) ?_; rw [hI, hn])
    rw [h6]
    ((repeat refine Ev.p rfl rfl ?_); exact Ev.r rfl)
  · (repeat refine Ev.p rfl rfl ?_)
    refine Ev.c rfl (m_in _ _ _ _) ?_
    rw [if_pos hx]
    (repeat refine Ev.p rfl rfl ?_)
    refine Ev.c rfl (m_in _ _ _ _) ?_
    rw [if_neg hy]
    ((repeat refine Ev.p rfl rfl ?_); exact Ev.r rfl)
  · (repeat refine Ev.p rfl rfl ?_)
    refine Ev.c rfl (m_in _ _ _ _) ?_
    rw [if_neg hx]
    ((repeat refine Ev.p rfl rfl ?_); exact Ev.r rfl)
theorem m_count (hI : I 141 = s) (x : Int32) : (x = 6 → Ev X (d + 1) kX12_count 0 (ent kX12_count [.ref 140, .int x]) [] (K0 ++ T, I, RS G) (some (.int (I 140 16)), (K0 ++ T, I, RS G))) ∧ (∀ k, k < 6 → x = nI k → Ev X (d + 1) kX12_count 0 (ent kX12_count [.ref 140, .int x]) [] (K0 ++ T, I, RS G) (some (.int (s (26 + k))), (K0 ++ T, I, RS G))) ∧ (x ≠ 6 → ¬ (0 ≤ x ∧ x ≤ 5) → Ev X (d + 1) kX12_count 0 (ent kX12_count [.ref 140, .int x]) [] (K0 ++ T, I, RS G) (some (.int (-1)), (K0 ++ T, I, RS G))) := by
  refine ⟨fun h => ?_, fun k hk e => ?_, fun h1 h2 => ?_⟩
  · subst h
    ((repeat refine Ev.p rfl rfl ?_); exact Ev.r rfl)
  · (repeat refine Ev.p rfl rfl ?_)
    refine Ev.bp rfl (fun c => ?_) (fun c => ?_)
    · (repeat refine Ev.p rfl rfl ?_)
      refine Ev.c rfl (m_in _ _ _ _) ?_
      rw [if_pos (by rw [e]; exact ⟨nI_pos' (by omega), nI_le (b := 5) (by omega) (by omega)⟩)]
      subst e
      (repeat refine Ev.p rfl rfl ?_)
      (refine Ev.iald (j := 26 + k) rfl rfl (nI_add 26 k) (by omega) (by omega) ?_; rw [hI])
      ((repeat refine Ev.p rfl rfl ?_); exact Ev.r rfl)
    · rw [e] at c
      exact absurd ((nI_eq (by omega) (by omega : 6 < 2 ^ 31)).mp (Decidable.not_not.mp c)) (by omega)
  · (repeat refine Ev.p rfl rfl ?_)
    refine Ev.bp rfl (fun c => ?_) (fun c => ?_)
    · (repeat refine Ev.p rfl rfl ?_)
      refine Ev.c rfl (m_in _ _ _ _) ?_
      rw [if_neg h2]
      ((repeat refine Ev.p rfl rfl ?_); exact Ev.r rfl)
    · exact absurd (Decidable.not_not.mp c) h1
/-- a row of three told by hand, of two -/
theorem m_book (hI : I 141 = s) (hn : s 26 = nI n) (hn6 : n ≤ 6) {b : Nat} (hb : s 30 = nI b) (hb8 : b ≤ 8) (x y : Int32) : (x = -1 → Ev X (d + 2) kX12_book 0 (ent kX12_book [.ref 140, .int x, .int y]) [] (K0 ++ T, I, RS G) (some (.int 0), (K0 ++ T, upI I 141 30 0, RS G))) ∧ (x ≠ -1 → ¬ isM n x → Ev X (d + 2) kX12_book 0 (ent kX12_book [.ref 140, .int x, .int y]) [] (K0 ++ T, I, RS G) (some (.int (-1)), (K0 ++ T, I, RS G))) ∧ (isM n x → ¬ (0 ≤ y ∧ y ≤ 99) → Ev X (d + 2) kX12_book 0 (ent kX12_book [.ref 140, .int x, .int y]) [] (K0 ++ T, I, RS G) (some (.int (-2)), (K0 ++ T, I, RS G))) ∧ (isM n x → (0 ≤ y ∧ y ≤ 99) → b = 8 → Ev X (d + 2) kX12_book 0 (ent kX12_book [.ref 140, .int x, .int y]) [] (K0 ++ T, I, RS G) (some (.int (-4)), (K0 ++ T, I, RS G))) ∧ (isM n x → (0 ≤ y ∧ y ≤ 99) → b < 8 → ∃ I', Ev X (d + 2) kX12_book 0 (ent kX12_book [.ref 140, .int x, .int y]) [] (K0 ++ T, I, RS G) (some (.int (nI (b + 1))), (K0 ++ T, I', RS G)) ∧ I' 141 = upd (upd (upd s (106 + b) x) (114 + b) y) 30 (nI (b + 1)) ∧ MF I I') := by
  have hx1 : isM n x → x ≠ -1 := fun h e => by
    rw [e] at h
    exact absurd h.1 (by decide)
  refine ⟨fun h => ?_, fun h1 h2 => ?_, fun h1 h2 => ?_, fun h1 h2 h3 => ?_, fun h1 h2 h3 => ?_⟩
  · subst h
    (repeat refine Ev.p rfl rfl ?_)
    refine Ev.iast (j := 30) rfl rfl rfl (by omega) (by omega) ?_
    ((repeat refine Ev.p rfl rfl ?_); exact Ev.r rfl)
  · (repeat refine Ev.p rfl rfl ?_)
    refine Ev.bp rfl (fun c => ?_) (fun c => ?_)
    · (repeat refine Ev.p rfl rfl ?_)
      refine Ev.c rfl ((m_isM hI hn x).2 h2) ?_
      ((repeat refine Ev.p rfl rfl ?_); exact Ev.r rfl)
    · exact absurd (Decidable.not_not.mp c) h1
  · (repeat refine Ev.p rfl rfl ?_)
    refine Ev.bp rfl (fun c => ?_) (fun c => ?_)
    · (repeat refine Ev.p rfl rfl ?_)
      refine Ev.c rfl ((m_isM hI hn x).1 h1) ?_
      (repeat refine Ev.p rfl rfl ?_)
      refine Ev.c rfl (m_in _ _ _ _) ?_
      rw [if_neg h2]
      ((repeat refine Ev.p rfl rfl ?_); exact Ev.r rfl)
    · exact absurd (Decidable.not_not.mp c) (hx1 h1)
  · (repeat refine Ev.p rfl rfl ?_)
    refine Ev.bp rfl (fun c => ?_) (fun c => ?_)
    · (repeat refine Ev.p rfl rfl ?_)
      refine Ev.c rfl ((m_isM hI hn x).1 h1) ?_
      (repeat refine Ev.p rfl rfl ?_)
      refine Ev.c rfl (m_in _ _ _ _) ?_
      rw [if_pos h2]
      (repeat refine Ev.p rfl rfl ?_)
      (refine Ev.iald (j := 30) rfl rfl rfl (by omega) (by omega) ?_; rw [hI])
      rw [hb, h3]
      ((repeat refine Ev.p rfl rfl ?_); exact Ev.r rfl)
    · exact absurd (Decidable.not_not.mp c) (hx1 h1)
  · refine ⟨upI (upI (upI I 141 (106 + b) x) 141 (114 + b) y) 141 30 (nI b + 1), ?_, by rw [upI_eq, upI_eq, up143 hI, ← nI_succ], ((MF.up (by omega)).tr (MF.up (by omega))).tr (MF.up (by omega))⟩
    (repeat refine Ev.p rfl rfl ?_)
    refine Ev.bp rfl (fun c => ?_) (fun c => ?_)
    · (repeat refine Ev.p rfl rfl ?_)
      refine Ev.c rfl ((m_isM hI hn x).1 h1) ?_
      (repeat refine Ev.p rfl rfl ?_)
      refine Ev.c rfl (m_in _ _ _ _) ?_
      rw [if_pos h2]
      (repeat refine Ev.p rfl rfl ?_)
      (refine Ev.iald (j := 30) rfl rfl rfl (by omega) (by omega) ?_; rw [hI])
      rw [hb]
      (repeat refine Ev.p rfl rfl ?_)
      refine Ev.bp rfl (fun c2 => ?_) (fun c2 => ?_)
      · (repeat refine Ev.p rfl rfl ?_)
        (refine Ev.iald (j := 30) rfl rfl rfl (by omega) (by omega) ?_; rw [hI])
        rw [hb]
        (repeat refine Ev.p rfl rfl ?_)
        refine Ev.iast (j := 106 + b) rfl rfl (nI_add 106 b) (by omega) (by omega) ?_
        (repeat refine Ev.p rfl rfl ?_)
        (refine Ev.iald (j := 30) rfl rfl rfl (by omega) (by omega) ?_; rw [up143 hI, upd_ne (by omega), hb])
        (repeat refine Ev.p rfl rfl ?_)
        refine Ev.iast (j := 114 + b) rfl rfl (nI_add 114 b) (by omega) (by omega) ?_
        (repeat refine Ev.p rfl rfl ?_)
        (refine Ev.iald (j := 30) rfl rfl rfl (by omega) (by omega) ?_; rw [upI_eq, up143 hI, upd_ne (by omega), upd_ne (by omega), hb])
        (repeat refine Ev.p rfl rfl ?_)
        refine Ev.iast (j := 30) rfl rfl rfl (by omega) (by omega) ?_
        (repeat refine Ev.p rfl rfl ?_)
        (refine Ev.iald (j := 30) rfl rfl rfl (by omega) (by omega) ?_; rw [upI_eq, upd_at, ← nI_succ])
        rw [nI_succ]
        ((repeat refine Ev.p rfl rfl ?_); exact Ev.r rfl)
      · exact absurd ((nI_eq (by omega) (by omega : 8 < 2 ^ 31)).mp (Decidable.not_not.mp c2)) (by omega)
    · exact absurd (Decidable.not_not.mp c) (hx1 h1)
end MODEL4
