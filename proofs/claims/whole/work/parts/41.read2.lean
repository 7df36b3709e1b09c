/-! THE REFERENCE reads a station: letters, E -/
/-- behind letters: r as p6 or p3 gives it -/
def RO1 (J : Nat → Nat → Int32) (t : Nat → Int32) (z act a o : Nat) (L : List Int32) (x : Int32) (r : Option Nat) : Prop := match r with
  | none => x = -1 ∧ RP J t z act a o false L
  | some w => x = nI w ∧ RP J t z act (a + 1) o false L
/-- behind E: r as pp gives it -/
def RA (J : Nat → Nat → Int32) (t : Nat → Int32) (z act o : Nat) (L : List Int32) (r : Bool × Nat × List Nat) : Prop := match r with
  | (true, b, ts) => RP J t z act b o false (L ++ ts.map tokR)
  | (false, b, _) => ∃ L', RP J t z act b o true L'
def idx (l : List Int32) (c : Int32) : Nat → Nat → Option Nat
  | 0, _ => none
  | m + 1, q => if c = l.getD q 0 then some q else idx l c m (q + 1)
theorem idx_6 (c : Int32) : idx (txt 10) c 6 0 = p6 c := rfl
theorem idx_3 (c : Int32) : idx (txt 11) c 3 0 = p3 c := rfl
theorem nI_nm1 {v : Nat} (h : v < 2 ^ 31) : nI v ≠ -1 := fun e => by
  have := nI_pos' h
  rw [e] at this
  exact absurd this (by decide)
theorem exec_dep (X : Nat × (Nat → Int32)) : ∀ (f d k pc : Nat) (ls : List (Option Value)) (st : List Value) (h : Hp) (R : Option Value × Hp), exec X f d k pc ls st h = some R → exec X f (d + 1) k pc ls st h = some R := by
  intro f
  induction f with
  | zero => intro d k pc ls st h R hR; simp [exec] at hR
  | succ f ih =>
    intro d k pc ls st h R hR
    rw [exec_succ] at hR ⊢
    cases hl : look k pc with
    | none => rw [hl] at hR; simp at hR
    | some e =>
      rw [hl] at hR
      simp only at hR ⊢
      split at hR
      · cases hs : stp X e ls st h with
        | none => rw [hs] at hR; simp at hR
        | some q =>
          obtain ⟨pc', ls', st', h'⟩ := q
          rw [hs] at hR
          simp only at hR ⊢
          exact ih _ _ _ _ _ _ _ hR
      · cases d with
        | zero => simp at hR
        | succ d' =>
          simp only at hR ⊢
          cases hc : cle e st h with
          | none => rw [hc] at hR; simp at hR
          | some q =>
            obtain ⟨k', As, rest, np⟩ := q
            rw [hc] at hR
            simp only at hR ⊢
            cases he : exec X f d' k' 0 (ent k' As) [] h with
            | none => rw [he] at hR; simp at hR
            | some q =>
              obtain ⟨r, h'⟩ := q
              rw [he] at hR
              rw [ih _ _ _ _ _ _ _ he]
              simp only at hR ⊢
              exact ih _ _ _ _ _ _ _ hR
      · exact hR
/-- more depth does no harm -/
theorem Ev.dp {X : Nat × (Nat → Int32)} {d d' k pc : Nat} {ls : List (Option Value)} {st : List Value} {h : Hp} {R : Option Value × Hp} (t : Ev X d k pc ls st h R) (hd : d ≤ d') : Ev X d' k pc ls st h R := by
  obtain ⟨n, rfl⟩ := Nat.exists_eq_add_of_le hd
  induction n with
  | zero => exact t
  | succ n ih =>
    obtain ⟨f, hf⟩ := ih (Nat.le_add_right _ _)
    exact ⟨f, exec_dep X _ _ _ _ _ _ _ _ hf⟩
section READ2
variable {X : Nat × (Nat → Int32)} {d : Nat} {T : List (Nat × Nat)} {I : Nat → Nat → Int32} {G : Nat → Nat → Option Nat} {t : Nat → Int32} {z act a o : Nat} {w : Bool} {L : List Int32}
theorem m_among (hR : RP I t z act a o false L) (hz : z ≤ 100) (ha : a ≤ z) {i : Nat} (hi2 : i = 10 ∨ i = 11) : ∃ I' x, Ev X (d + 4) kX12_among 0 (ent kX12_among [.ref 140, .retAddr i]) [] (K0 ++ T, I, RS G) (some (.int x), (K0 ++ T, I', RS G)) ∧ RO1 I' t z act a o L x (idx (txt i) (pk t z a) (txt i).length 0) ∧ FP act I I' := by
  have hi : i < 13 := by omega
  have hlen : (txt i).length < 100 := by
    rcases hi2 with rfl | rfl <;> decide
  have lp : ∀ m q, q + m = (txt i).length → ∃ I' x, Ev X (d + 4) kX12_among 2 [some (.ref 140), some (.retAddr i), some (.int (nI q))] [] (K0 ++ T, I, RS G) (some (.int x), (K0 ++ T, I', RS G)) ∧ RO1 I' t z act a o L x (idx (txt i) (pk t z a) m q) ∧ FP act I I' := by
    intro m
    induction m with
    | zero =>
      intro q hq
      refine ⟨I, -1, ?_, ⟨rfl, hR⟩, FP.rf act I⟩
      have hl := j_length (X := X) (d := d + 2) hi (K0 ++ T, I, RS G)
      rw [show (txt i).length = q by omega] at hl
      iterate 2 refine Ev.p rfl rfl ?_
      refine Ev.c (rest := [.int (nI q)]) (np := 7) (by rcases hi2 with rfl | rfl <;> rfl) hl ?_
      (repeat refine Ev.p rfl rfl ?_)
      refine Ev.bp rfl (fun c => ?_) (fun c => ?_)
      · ((repeat refine Ev.p rfl rfl ?_); exact Ev.r rfl)
      · exact absurd (Int32.le_refl _) c
    | succ m ih =>
      intro q hq
      have hl := j_length (X := X) (d := d + 2) hi (K0 ++ T, I, RS G)
      have hc := j_charAt (X := X) (d := d) hi (K0 ++ T, I, RS G) (j := q) (by omega)
      simp only [idx]
      by_cases h9 : pk t z a = (txt i).getD q 0
      · rw [if_pos h9]
        refine ⟨upI I 140 7 (I 140 7 + 1), nI q, ?_, ⟨rfl, hR.s7 (by rw [hR.2.1, nI_1])⟩, (FP.rf act I).s (by omega) _⟩
        iterate 2 refine Ev.p rfl rfl ?_
        refine Ev.c (rest := [.int (nI q)]) (np := 7) (by rcases hi2 with rfl | rfl <;> rfl) hl ?_
        (repeat refine Ev.p rfl rfl ?_)
        refine Ev.bp rfl (fun c => ?_) (fun c => ?_)
        · exact absurd c (nI_ge (by omega) (by omega))
        · (repeat refine Ev.p rfl rfl ?_)
          refine Ev.c rfl (m_here hR hz ha) ?_
          (repeat refine Ev.p rfl rfl ?_)
          refine Ev.c (rest := [.int (pk t z a)]) (np := 19) (by rcases hi2 with rfl | rfl <;> rfl) hc ?_
          (repeat refine Ev.p rfl rfl ?_)
          refine Ev.bp rfl (fun c => ?_) (fun c => ?_)
          · exact absurd h9 c
          · ((repeat refine Ev.p rfl rfl ?_); exact Ev.r rfl)
      · rw [if_neg h9]
        obtain ⟨I', x, e1, e2⟩ := ih (q + 1) (by omega)
        refine ⟨I', x, ?_, e2⟩
        rw [nI_succ] at e1
        iterate 2 refine Ev.p rfl rfl ?_
        refine Ev.c (rest := [.int (nI q)]) (np := 7) (by rcases hi2 with rfl | rfl <;> rfl) hl ?_
        (repeat refine Ev.p rfl rfl ?_)
        refine Ev.bp rfl (fun c => ?_) (fun c => ?_)
        · exact absurd c (nI_ge (by omega) (by omega))
        · (repeat refine Ev.p rfl rfl ?_)
          refine Ev.c rfl (m_here hR hz ha) ?_
          (repeat refine Ev.p rfl rfl ?_)
          refine Ev.c (rest := [.int (pk t z a)]) (np := 19) (by rcases hi2 with rfl | rfl <;> rfl) hc ?_
          (repeat refine Ev.p rfl rfl ?_)
          refine Ev.bp rfl (fun c => ?_) (fun c => ?_)
          · (repeat (first | (refine Ev.at (q := 2) rfl ?_; exact e1) | refine Ev.p rfl rfl ?_))
          · exact absurd (Decidable.not_not.mp c) h9
  obtain ⟨I', x, e1, e2⟩ := lp (txt i).length 0 (by omega)
  refine ⟨I', x, ?_, e2⟩
  (repeat (first | (refine Ev.at (q := 2) rfl ?_; exact e1) | refine Ev.p rfl rfl ?_))
theorem m_factor_w (hR : RP I t z act a o true L) : Ev X d kX12_factor 0 (ent kX12_factor [.ref 140]) [] (K0 ++ T, I, RS G) (none, (K0 ++ T, I, RS G)) := by
  have h9 : I 140 9 = 1 := hR.2.2.2.1
  (repeat refine Ev.p rfl rfl ?_)
  refine Ev.bp rfl (fun c => ?_) (fun c => ?_)
  · exact absurd c (by show ¬ I 140 9 = 0; rw [h9]; decide)
  · ((repeat refine Ev.p rfl rfl ?_); exact Ev.r rfl)
theorem m_every_w (hR : RP I t z act a o true L) : Ev X (d + 1) kX12_every 0 (ent kX12_every [.ref 140]) [] (K0 ++ T, I, RS G) (none, (K0 ++ T, I, RS G)) := by
  have h9 : I 140 9 = 1 := hR.2.2.2.1
  (repeat refine Ev.p rfl rfl ?_)
  refine Ev.c rfl (m_factor_w hR) ?_
  (repeat refine Ev.p rfl rfl ?_)
  refine Ev.bp rfl (fun c => ?_) (fun c => ?_)
  · ((repeat refine Ev.p rfl rfl ?_); exact Ev.r rfl)
  · exact absurd h9 (fun h => c (by show I 140 9 ≠ 0; rw [h]; decide))
theorem m_some_w (hR : RP I t z act a o true L) : Ev X (d + 2) kX12_some 0 (ent kX12_some [.ref 140]) [] (K0 ++ T, I, RS G) (none, (K0 ++ T, I, RS G)) := by
  have h9 : I 140 9 = 1 := hR.2.2.2.1
  (repeat refine Ev.p rfl rfl ?_)
  refine Ev.c rfl (m_every_w hR) ?_
  (repeat refine Ev.p rfl rfl ?_)
  refine Ev.bp rfl (fun c => ?_) (fun c => ?_)
  · ((repeat refine Ev.p rfl rfl ?_); exact Ev.r rfl)
  · exact absurd h9 (fun h => c (by show I 140 9 ≠ 0; rw [h]; decide))
theorem tok_t {w o n : Nat} : tokR (w + 8 * o + 32 * n + 3) = nI w + 8 * nI o + 32 * nI n := by
  show nI (w + 8 * o + 32 * n) = _
  rw [show (8 : Int32) * nI o = nI (8 * o) from pk_mul 8 o, show (32 : Int32) * nI n = nI (32 * n) from pk_mul 32 n, nI_add, nI_add]
/-- a test, from where the first letter is asked for -/
theorem m_test (hR : RP I t z act a o false L) (hz : z ≤ 100) (ha : a ≤ z) (hact : act < 5) (hL : L.length < 140) (x1 : Int32) : ∃ I', Ev X (d + 5) kX12_factor 112 [some (.ref 140), some (.int x1), none, none, none] [] (K0 ++ T, I, RS G) (none, (K0 ++ T, I', RS G)) ∧ RA I' t z act o L (pX t z a) ∧ FP act I I' := by
  have h9 : I 140 9 = 0 := hR.2.2.2.1
  obtain ⟨J1, y1, e1, e2, e3⟩ := m_among (X := X) (d := d) (T := T) (G := G) hR hz ha (i := 10) (Or.inl rfl)
  rw [show idx (txt 10) (pk t z a) (txt 10).length 0 = p6 (pk t z a) from idx_6 _] at e2
  unfold pX
  cases h6 : p6 (pk t z a) with
  | none =>
    rw [h6] at e2
    obtain ⟨rfl, r1⟩ := e2
    obtain ⟨J2, hJ2⟩ : ∃ J, J = upI J1 140 9 1 := ⟨_, rfl⟩
    have r2 : RP J2 t z act a o true L := by rw [hJ2]; exact r1.s9 (w' := true) rfl
    obtain ⟨J3, hJ3⟩ : ∃ J, J = upI J2 140 9 1 := ⟨_, rfl⟩
    have r3 : RP J3 t z act a o true L := by rw [hJ3]; exact r2.s9 (w' := true) rfl
    obtain ⟨J4, y4, f1, f2, f3⟩ := m_figures_w (X := X) (d := d + 3) (T := T) (G := G) r3
    refine ⟨J4, ?_, ⟨L, f2⟩, ?_⟩
    · (repeat refine Ev.p rfl rfl ?_)
      refine Ev.c rfl e1 ?_
      (iterate 8 refine Ev.p rfl rfl ?_)
      try dsimp only
      rw [← hJ2]
      (repeat refine Ev.p rfl rfl ?_)
      refine Ev.bp rfl (fun c => absurd c (by show ¬ J2 140 9 = 0; rw [show J2 140 9 = 1 from r2.2.2.2.1]; decide)) (fun c => ?_)
      ((repeat refine Ev.p rfl rfl ?_); refine Ev.ls (ls2 := [_, _, _, _, _]) rfl ?_)
      refine Ev.bp rfl (fun c => ?_) (fun c => absurd (show J2 140 9 = 1 from r2.2.2.2.1) (fun h => c (by show J2 140 9 ≠ 0; rw [h]; decide)))
      (iterate 3 refine Ev.p rfl rfl ?_)
      try dsimp only
      rw [← hJ3]
      (repeat refine Ev.p rfl rfl ?_)
      refine Ev.c rfl f1 ?_
      (repeat refine Ev.p rfl rfl ?_)
      refine Ev.c rfl (m_emits_w f2 _) ?_
      ((repeat refine Ev.p rfl rfl ?_); exact Ev.r rfl)
    · refine (e3.tr ?_).tr f3
      rw [hJ3, hJ2]
      exact ((FP.rf act J1).s (by omega) _).s (by omega) _
  | some w =>
    rw [h6] at e2
    obtain ⟨rfl, r1⟩ := e2
    obtain ⟨hlt, hw6⟩ := pk_6 h6
    obtain ⟨J2, hJ2⟩ : ∃ J, J = upI J1 140 9 0 := ⟨_, rfl⟩
    have r2 : RP J2 t z act (a + 1) o false L := by rw [hJ2]; exact r1.s9 (w' := false) rfl
    have f2 : FP act I J2 := by rw [hJ2]; exact e3.s (by omega) _
    obtain ⟨J3, y3, g1, g2, g3⟩ := m_among (X := X) (d := d) (T := T) (G := G) r2 hz (by omega) (i := 11) (Or.inr rfl)
    rw [show idx (txt 11) (pk t z (a + 1)) (txt 11).length 0 = p3 (pk t z (a + 1)) from idx_3 _] at g2
    -- up to the second letter
    have go : ∀ {R : Option Value × Hp}, Ev X (d + 5) kX12_factor 150 [some (.ref 140), some (.int x1), some (.int (nI w)), none, none] [.int y3] (K0 ++ T, J3, RS G) R → Ev X (d + 5) kX12_factor 112 [some (.ref 140), some (.int x1), none, none, none] [] (K0 ++ T, I, RS G) R := by
      intro R g
      (repeat refine Ev.p rfl rfl ?_)
      refine Ev.c rfl e1 ?_
      ((repeat refine Ev.p rfl rfl ?_); refine Ev.ls (ls2 := [_, _, _, _, _]) rfl ?_)
      refine Ev.bp rfl (fun c => ?_) (fun c => ?_)
      · iterate 2 refine Ev.p rfl rfl ?_
        try dsimp only
        rw [← hJ2]
        (repeat refine Ev.p rfl rfl ?_)
        refine Ev.bp rfl (fun c => ?_) (fun c => ?_)
        · (repeat refine Ev.p rfl rfl ?_)
          refine Ev.c rfl g1 ?_
          (repeat (first | (refine Ev.at (q := 150) rfl ?_; exact g) | refine Ev.p rfl rfl ?_))
        · exact absurd (show J2 140 9 = 0 from r2.2.2.2.1) c
      · exact absurd (Decidable.not_not.mp c) (nI_nm1 (by omega))
    dsimp only
    cases h3 : p3 (pk t z (a + 1)) with
    | none =>
      rw [h3] at g2
      obtain ⟨rfl, r3⟩ := g2
      obtain ⟨J4, hJ4⟩ : ∃ J, J = upI J3 140 9 1 := ⟨_, rfl⟩
      have r4 : RP J4 t z act (a + 1) o true L := by rw [hJ4]; exact r3.s9 (w' := true) rfl
      obtain ⟨J5, y5, k1, k2, k3⟩ := m_figures_w (X := X) (d := d + 3) (T := T) (G := G) r4
      refine ⟨J5, go ?_, ⟨L, k2⟩, ?_⟩
      · (repeat refine Ev.p rfl rfl ?_)
        refine Ev.bp rfl (fun c => ?_) (fun c => ?_)
        · exact absurd (show J3 140 9 = 0 from r3.2.2.2.1) c
        · (iterate 6 refine Ev.p rfl rfl ?_)
          try dsimp only
          rw [← hJ4]
          (repeat refine Ev.p rfl rfl ?_)
          refine Ev.c rfl k1 ?_
          (repeat refine Ev.p rfl rfl ?_)
          refine Ev.c rfl (m_emits_w k2 _) ?_
          ((repeat refine Ev.p rfl rfl ?_); exact Ev.r rfl)
      · refine (f2.tr (g3.tr ?_)).tr k3
        rw [hJ4]
        exact (FP.rf act J3).s (by omega) _
    | some q =>
      rw [h3] at g2
      obtain ⟨rfl, r3⟩ := g2
      obtain ⟨hlt2, hq3⟩ := pk_3 h3
      obtain ⟨J4, hJ4⟩ : ∃ J, J = upI J3 140 9 0 := ⟨_, rfl⟩
      have r4 : RP J4 t z act (a + 2) o false L := by rw [hJ4]; exact r3.s9 (w' := false) rfl
      obtain ⟨J5, y5, k1, k2, k3⟩ := m_figures (X := X) (d := d + 3) (T := T) (G := G) r4 hz (by omega)
      have f5 : FP act I J5 := by
        refine (f2.tr (g3.tr ?_)).tr k3
        rw [hJ4]
        exact (FP.rf act J3).s (by omega) _
      have go2 : ∀ {R : Option Value × Hp}, Ev X (d + 5) kX12_factor 176 [some (.ref 140), some (.int x1), some (.int (nI w)), some (.int (nI q)), none] [.int y5] (K0 ++ T, J5, RS G) R → Ev X (d + 5) kX12_factor 112 [some (.ref 140), some (.int x1), none, none, none] [] (K0 ++ T, I, RS G) R := by
        intro R g
        refine go ?_
        ((repeat refine Ev.p rfl rfl ?_); refine Ev.ls (ls2 := [_, _, _, _, _]) rfl ?_)
        refine Ev.bp rfl (fun c => ?_) (fun c => ?_)
        · exact absurd (show J3 140 9 = 0 from r3.2.2.2.1) c
        · ((repeat refine Ev.p rfl rfl ?_); refine Ev.ls (ls2 := [_, _, _, _, _]) rfl ?_)
          refine Ev.bp rfl (fun c => ?_) (fun c => ?_)
          · iterate 2 refine Ev.p rfl rfl ?_
            try dsimp only
            rw [← hJ4]
            (repeat refine Ev.p rfl rfl ?_)
            refine Ev.c rfl k1 ?_
            (repeat (first | (refine Ev.at (q := 176) rfl ?_; exact g) | refine Ev.p rfl rfl ?_))
          · exact absurd (Decidable.not_not.mp c) (nI_nm1 (by omega))
      dsimp only
      cases hn : pN t z (a + 2) with
      | none =>
        rw [hn] at k2
        have k2 : RP J5 t z act (a + 2) o true L := k2
        refine ⟨J5, go2 ?_, ⟨L, k2⟩, f5⟩
        (repeat refine Ev.p rfl rfl ?_)
        refine Ev.c rfl (m_emits_w k2 _) ?_
        ((repeat refine Ev.p rfl rfl ?_); exact Ev.r rfl)
      | some v =>
        obtain ⟨n, b⟩ := v
        rw [hn] at k2
        obtain ⟨rfl, r5⟩ := k2
        obtain ⟨J6, l1, l2, l3⟩ := m_emits (X := X) (d := d + 4) (T := T) (G := G) r5 hz hact hL (tokR (w + 8 * q + 32 * n + 3))
        refine ⟨J6, go2 ?_, l2, f5.tr l3⟩
        rw [tok_t] at l1
        (repeat refine Ev.p rfl rfl ?_)
        refine Ev.c rfl l1 ?_
        ((repeat refine Ev.p rfl rfl ?_); exact Ev.r rfl)
/-- E and what it is of -/
theorem m_pp (hz : z ≤ 100) (hact : act < 5) : ∀ f : Nat,
    (∀ (o k a : Nat) (L : List Int32) (J : Nat → Nat → Int32), o + k = 5 → 5 * (z - a) + 1 ≤ f → a ≤ z → L.length ≤ a → RP J t z act a o false L → ∃ J', Ev X (d + 6 + 3 * k) kX12_factor 0 (ent kX12_factor [.ref 140]) [] (K0 ++ T, J, RS G) (none, (K0 ++ T, J', RS G)) ∧ RA J' t z act o L (pp t z f 0 o a []) ∧ FP act J J') ∧
    (∀ (o k a : Nat) (L : List Int32) (J : Nat → Nat → Int32), o + k = 5 → 5 * (z - a) + 2 ≤ f → a ≤ z → L.length ≤ a → RP J t z act a o false L → ∃ J', Ev X (d + 7 + 3 * k) kX12_every 0 (ent kX12_every [.ref 140]) [] (K0 ++ T, J, RS G) (none, (K0 ++ T, J', RS G)) ∧ RA J' t z act o L (pp t z f 1 o a []) ∧ FP act J J') ∧
    (∀ (o k a : Nat) (L : List Int32) (ts : List Nat) (J : Nat → Nat → Int32), o + k = 5 → 5 * (z - a) + 1 ≤ f → a ≤ z → (L ++ ts.map tokR).length ≤ a → RP J t z act a o false (L ++ ts.map tokR) → ∃ J', Ev X (d + 7 + 3 * k) kX12_every 4 [some (.ref 140)] [] (K0 ++ T, J, RS G) (none, (K0 ++ T, J', RS G)) ∧ RA J' t z act o L (pp t z f 2 o a ts) ∧ FP act J J') ∧
    (∀ (o k a : Nat) (L : List Int32) (J : Nat → Nat → Int32), o + k = 5 → 5 * (z - a) + 3 ≤ f → a ≤ z → L.length ≤ a → RP J t z act a o false L → ∃ J', Ev X (d + 8 + 3 * k) kX12_some 0 (ent kX12_some [.ref 140]) [] (K0 ++ T, J, RS G) (none, (K0 ++ T, J', RS G)) ∧ RA J' t z act o L (pp t z f 3 o a []) ∧ FP act J J') ∧
    (∀ (o k a : Nat) (L : List Int32) (ts : List Nat) (J : Nat → Nat → Int32), o + k = 5 → 5 * (z - a) + 1 ≤ f → a ≤ z → (L ++ ts.map tokR).length ≤ a → RP J t z act a o false (L ++ ts.map tokR) → ∃ J', Ev X (d + 8 + 3 * k) kX12_some 4 [some (.ref 140)] [] (K0 ++ T, J, RS G) (none, (K0 ++ T, J', RS G)) ∧ RA J' t z act o L (pp t z f 4 o a ts) ∧ FP act J J') := by
  intro f
  induction f with
  | zero => exact ⟨fun o k a L J _ h => by omega, fun o k a L J _ h => by omega, fun o k a L ts J _ h => by omega, fun o k a L J _ h => by omega, fun o k a L ts J _ h => by omega⟩
  | succ f ih =>
    obtain ⟨ihF, ihT, ihU, ihE, ihV⟩ := ih
    refine ⟨fun o k a L J hk hf ha hL hR => ?_, fun o k a L J hk hf ha hL hR => ?_, fun o k a L ts J hk hf ha hL hR => ?_, fun o k a L J hk hf ha hL hR => ?_, fun o k a L ts J hk hf ha hL hR => ?_⟩
    · -- F
      have h9 : J 140 9 = 0 := hR.2.2.2.1
      have h10 : J 140 10 = nI o := hR.2.2.2.2.1
      simp only [pp]
      by_cases hop : pk t z a = 33 ∨ pk t z a = 40
      · have hlt : a < z := by rcases hop with h | h <;> exact pq_lt h (by decide)
        -- up to where what is open is counted
        have go : ∀ {R : Option Value × Hp}, Ev X (d + 6 + 3 * k) kX12_factor 25 [some (.ref 140), some (.int (pk t z a)), none, none, none] [] (K0 ++ T, J, RS G) R → Ev X (d + 6 + 3 * k) kX12_factor 0 (ent kX12_factor [.ref 140]) [] (K0 ++ T, J, RS G) R := by
          intro R g
          rw [show d + 6 + 3 * k = (d + 5 + 3 * k) + 1 by omega] at g ⊢
          (repeat refine Ev.p rfl rfl ?_)
          refine Ev.bp rfl (fun c => ?_) (fun c => ?_)
          · (repeat refine Ev.p rfl rfl ?_)
            refine Ev.c rfl (m_here hR hz ha) ?_
            ((repeat refine Ev.p rfl rfl ?_); refine Ev.ls (ls2 := [_, _, _, _, _]) rfl ?_)
            refine Ev.bp rfl (fun c => ?_) (fun c => ?_)
            · (repeat (first | (refine Ev.at (q := 25) rfl ?_; exact g) | refine Ev.p rfl rfl ?_))
            · (repeat refine Ev.p rfl rfl ?_)
              refine Ev.bp rfl (fun c2 => ?_) (fun c2 => ?_)
              · rcases hop with h | h
                · exact absurd h c
                · exact absurd h c2
              · (repeat (first | (refine Ev.at (q := 25) rfl ?_; exact g) | refine Ev.p rfl rfl ?_))
          · exact absurd h9 c
        cases k with
        | zero =>
          have ho5 : o = 5 := by omega
          subst ho5
          obtain ⟨J1, hJ1⟩ : ∃ J', J' = upI J 140 9 1 := ⟨_, rfl⟩
          have r1 : RP J1 t z act a 5 true L := by rw [hJ1]; exact hR.s9 (w' := true) rfl
          obtain ⟨J2, hJ2⟩ : ∃ J', J' = upI (upI J1 140 10 (J1 140 10 + 1)) 140 7 (J1 140 7 + 0) := ⟨_, rfl⟩
          have r2 : RP J2 t z act a 6 true L := by rw [hJ2]; exact (r1.s10 (b := 6) (by rw [r1.2.2.2.2.1]; rfl)).s7 (by rw [r1.2.1, Int32.add_zero])
          have f2 : FP act J J2 := by rw [hJ2, hJ1]; exact (((FP.rf act J).s (by omega) _).s (by omega) _).s (by omega) _
          have go2 : ∀ {R : Option Value × Hp}, Ev X (d + 6 + 3 * 0) kX12_factor 73 [some (.ref 140), some (.int (pk t z a)), none, none, none] [] (K0 ++ T, J2, RS G) R → Ev X (d + 6 + 3 * 0) kX12_factor 0 (ent kX12_factor [.ref 140]) [] (K0 ++ T, J, RS G) R := by
            intro R g
            rw [hJ2] at g
            refine go ?_
            (repeat refine Ev.p rfl rfl ?_)
            refine Ev.bp rfl (fun c => ?_) (fun c => ?_)
            · exact absurd (show J 140 10 = 5 from h10) c
            · iterate 3 refine Ev.p rfl rfl ?_
              try dsimp only
              rw [← hJ1]
              (repeat refine Ev.p rfl rfl ?_)
              refine Ev.bp rfl (fun c => absurd c (by show ¬ J1 140 9 = 0; rw [show J1 140 9 = 1 from r1.2.2.2.1]; decide)) (fun c => ?_)
              (repeat (first | (refine Ev.at (q := 73) rfl ?_; exact g) | refine Ev.p rfl rfl ?_))
          by_cases h33 : pk t z a = 33
          · rw [if_pos h33, if_pos rfl]
            refine ⟨upI J2 140 10 (J2 140 10 - 1), go2 ?_, ⟨L, r2.s10 (b := 5) (by rw [r2.2.2.2.2.1]; rfl)⟩, f2.s (by omega) _⟩
            rw [h33]
            (repeat refine Ev.p rfl rfl ?_)
            refine Ev.c rfl (m_factor_w r2) ?_
            (repeat refine Ev.p rfl rfl ?_)
            refine Ev.c rfl (m_emits_w r2 _) ?_
            ((repeat refine Ev.p rfl rfl ?_); exact Ev.r rfl)
          · rw [if_neg h33, if_pos (hop.resolve_left h33), if_pos rfl]
            obtain ⟨J3, m1, m2, m3⟩ := m_must_w (X := X) (d := d + 4) (T := T) (G := G) r2 41
            refine ⟨upI J3 140 10 (J3 140 10 - 1), go2 ?_, ⟨L, m2.s10 (b := 5) (by rw [m2.2.2.2.2.1]; rfl)⟩, (f2.tr m3).s (by omega) _⟩
            rw [hop.resolve_left h33]
            (repeat refine Ev.p rfl rfl ?_)
            refine Ev.c rfl (m_some_w r2) ?_
            (repeat refine Ev.p rfl rfl ?_)
            refine Ev.c rfl m1 ?_
            ((repeat refine Ev.p rfl rfl ?_); exact Ev.r rfl)
        | succ k =>
          have ho5 : o ≠ 5 := by omega
          simp only [if_neg ho5]
          obtain ⟨J1, hJ1⟩ : ∃ J', J' = upI J 140 9 0 := ⟨_, rfl⟩
          have r1 : RP J1 t z act a o false L := by rw [hJ1]; exact hR.s9 (w' := false) rfl
          obtain ⟨J2, hJ2⟩ : ∃ J', J' = upI (upI J1 140 10 (J1 140 10 + 1)) 140 7 (J1 140 7 + 1) := ⟨_, rfl⟩
          have r2 : RP J2 t z act (a + 1) (o + 1) false L := by rw [hJ2]; exact (r1.s10 (b := o + 1) (by rw [r1.2.2.2.2.1, nI_1])).s7 (by rw [r1.2.1, nI_1])
          have f2 : FP act J J2 := by rw [hJ2, hJ1]; exact (((FP.rf act J).s (by omega) _).s (by omega) _).s (by omega) _
          have ed : d + 6 + 3 * (k + 1) = (d + 8 + 3 * k) + 1 := by omega
          rw [ed] at go ⊢
          have go2 : ∀ {R : Option Value × Hp}, Ev X ((d + 8 + 3 * k) + 1) kX12_factor 73 [some (.ref 140), some (.int (pk t z a)), none, none, none] [] (K0 ++ T, J2, RS G) R → Ev X ((d + 8 + 3 * k) + 1) kX12_factor 0 (ent kX12_factor [.ref 140]) [] (K0 ++ T, J, RS G) R := by
            intro R g
            rw [hJ2] at g
            refine go ?_
            (repeat refine Ev.p rfl rfl ?_)
            refine Ev.bp rfl (fun c => ?_) (fun c => ?_)
            · iterate 3 refine Ev.p rfl rfl ?_
              try dsimp only
              rw [← hJ1]
              (repeat refine Ev.p rfl rfl ?_)
              refine Ev.bp rfl (fun c => ?_) (fun c => absurd (show J1 140 9 = 0 from r1.2.2.2.1) c)
              (repeat (first | (refine Ev.at (q := 73) rfl ?_; exact g) | refine Ev.p rfl rfl ?_))
            · exact absurd ((nI_eq (a := o) (b := 5) (by omega) (by omega)).mp ((show J 140 10 = nI o from h10).symm.trans (Decidable.not_not.mp c))) ho5
          by_cases h33 : pk t z a = 33
          · simp only [if_pos h33]
            obtain ⟨J3, e1, e2, e3⟩ := ihF (o + 1) k (a + 1) L J2 (by omega) (by omega) hlt (by omega) r2
            have e1 := e1.dp (d' := d + 8 + 3 * k) (by omega)
            rcases hr : pp t z f 0 (o + 1) (a + 1) [] with ⟨ok, b, us⟩
            rw [hr] at e2
            have hp := pp_ok (t := t) (z := z) f 0 (o + 1) (a + 1) [] (fun _ => rfl) hlt
            rw [hr] at hp
            cases ok with
            | false =>
              obtain ⟨L', r3⟩ := e2
              refine ⟨upI J3 140 10 (J3 140 10 - 1), go2 ?_, ⟨L', r3.s10 (b := o) (by rw [r3.2.2.2.2.1]; exact nI_pred o)⟩, (f2.tr e3).s (by omega) _⟩
              rw [h33]
              (repeat refine Ev.p rfl rfl ?_)
              refine Ev.c rfl e1 ?_
              (repeat refine Ev.p rfl rfl ?_)
              refine Ev.c rfl (m_emits_w r3 _) ?_
              ((repeat refine Ev.p rfl rfl ?_); exact Ev.r rfl)
            | true =>
              have hp2 := hp.2.2 rfl
              simp only [List.length_nil] at hp2
              dsimp only at hp hp2
              have e2 : RP J3 t z act b (o + 1) false (L ++ us.map tokR) := e2
              obtain ⟨J4, g1, g2, g3⟩ := m_emits (X := X) (d := d + 8 + 3 * k) (T := T) (G := G) e2 hz hact (by rw [List.length_append, List.length_map]; omega) (-1)
              refine ⟨upI J4 140 10 (J4 140 10 - 1), go2 ?_, ?_, ((f2.tr e3).tr g3).s (by omega) _⟩
              · rw [h33]
                (repeat refine Ev.p rfl rfl ?_)
                refine Ev.c rfl e1 ?_
                (repeat refine Ev.p rfl rfl ?_)
                refine Ev.c rfl g1 ?_
                ((repeat refine Ev.p rfl rfl ?_); exact Ev.r rfl)
              · show RP _ t z act b o false (L ++ (us ++ [0]).map tokR)
                rw [List.map_append, ← List.append_assoc]
                exact g2.s10 (by rw [g2.2.2.2.2.1]; exact nI_pred o)
          · have h40 := hop.resolve_left h33
            simp only [if_neg h33, if_pos h40]
            obtain ⟨J3, e1, e2, e3⟩ := ihE (o + 1) k (a + 1) L J2 (by omega) (by omega) hlt (by omega) r2
            rcases hr : pp t z f 3 (o + 1) (a + 1) [] with ⟨ok, b, us⟩
            rw [hr] at e2
            have hp := pp_ok (t := t) (z := z) f 3 (o + 1) (a + 1) [] (fun _ => rfl) hlt
            rw [hr] at hp
            cases ok with
            | false =>
              obtain ⟨L', r3⟩ := e2
              obtain ⟨J4, m1, m2, m3⟩ := m_must_w (X := X) (d := d + 7 + 3 * k) (T := T) (G := G) r3 41
              have m1 := m1.dp (d' := d + 8 + 3 * k) (by omega)
              refine ⟨upI J4 140 10 (J4 140 10 - 1), go2 ?_, ⟨L', m2.s10 (b := o) (by rw [m2.2.2.2.2.1]; exact nI_pred o)⟩, ((f2.tr e3).tr m3).s (by omega) _⟩
              rw [h40]
              (repeat refine Ev.p rfl rfl ?_)
              refine Ev.c rfl e1 ?_
              (repeat refine Ev.p rfl rfl ?_)
              refine Ev.c rfl m1 ?_
              ((repeat refine Ev.p rfl rfl ?_); exact Ev.r rfl)
            | true =>
              dsimp only at hp ⊢
              have e2 : RP J3 t z act b (o + 1) false (L ++ us.map tokR) := e2
              obtain ⟨J4, m1, m2, m3, m4⟩ := m_must (X := X) (d := d + 7 + 3 * k) (T := T) (G := G) e2 hz hp.2.1 41
              have m1 := m1.dp (d' := d + 8 + 3 * k) (by omega)
              by_cases h41 : pk t z b = 41
              · rw [if_pos h41]
                have m2 := m2 h41
                refine ⟨upI J4 140 10 (J4 140 10 - 1), go2 ?_, m2.s10 (b := o) (by rw [m2.2.2.2.2.1]; exact nI_pred o), ((f2.tr e3).tr m4).s (by omega) _⟩
                rw [h40]
                (repeat refine Ev.p rfl rfl ?_)
                refine Ev.c rfl e1 ?_
                (repeat refine Ev.p rfl rfl ?_)
                refine Ev.c rfl m1 ?_
                ((repeat refine Ev.p rfl rfl ?_); exact Ev.r rfl)
              · rw [if_neg h41]
                have m3 := m3 h41
                refine ⟨upI J4 140 10 (J4 140 10 - 1), go2 ?_, ⟨_, m3.s10 (b := o) (by rw [m3.2.2.2.2.1]; exact nI_pred o)⟩, ((f2.tr e3).tr m4).s (by omega) _⟩
                rw [h40]
                (repeat refine Ev.p rfl rfl ?_)
                refine Ev.c rfl e1 ?_
                (repeat refine Ev.p rfl rfl ?_)
                refine Ev.c rfl m1 ?_
                ((repeat refine Ev.p rfl rfl ?_); exact Ev.r rfl)
      · have h33 : pk t z a ≠ 33 := fun h => hop (Or.inl h)
        have h40 : pk t z a ≠ 40 := fun h => hop (Or.inr h)
        simp only [if_neg h33, if_neg h40]
        rw [show d + 6 + 3 * k = (d + 1 + 3 * k) + 5 by omega]
        obtain ⟨J', e1, e2⟩ := m_test (X := X) (d := d + 1 + 3 * k) (T := T) (G := G) hR hz ha hact (by omega) (pk t z a)
        refine ⟨J', ?_, e2⟩
        (repeat refine Ev.p rfl rfl ?_)
        refine Ev.bp rfl (fun c => ?_) (fun c => ?_)
        · (repeat refine Ev.p rfl rfl ?_)
          refine Ev.c rfl (m_here hR hz ha) ?_
          ((repeat refine Ev.p rfl rfl ?_); refine Ev.ls (ls2 := [_, _, _, _, _]) rfl ?_)
          refine Ev.bp rfl (fun c => ?_) (fun c => ?_)
          · exact absurd c h33
          · (repeat refine Ev.p rfl rfl ?_)
            refine Ev.bp rfl (fun c2 => ?_) (fun c2 => ?_)
            · (repeat (first | (refine Ev.at (q := 112) rfl ?_; exact e1) | refine Ev.p rfl rfl ?_))
            · exact absurd (Decidable.not_not.mp c2) h40
        · exact absurd h9 c
    · -- T
      simp only [pp]
      obtain ⟨J1, e1, e2, e3⟩ := ihF o k a L J hk (by omega) ha hL hR
      rcases hr : pp t z f 0 o a [] with ⟨ok, b, us⟩
      rw [hr] at e2
      have hp := pp_ok (t := t) (z := z) f 0 o a [] (fun _ => rfl) ha
      rw [hr] at hp
      rw [show d + 7 + 3 * k = (d + 6 + 3 * k) + 1 by omega] at *
      cases ok with
      | false =>
        obtain ⟨L', r1⟩ := e2
        have h9 : J1 140 9 = 1 := r1.2.2.2.1
        refine ⟨J1, ?_, ⟨L', r1⟩, e3⟩
        (repeat refine Ev.p rfl rfl ?_)
        refine Ev.c rfl e1 ?_
        (repeat refine Ev.p rfl rfl ?_)
        refine Ev.bp rfl (fun c => ?_) (fun c => ?_)
        · ((repeat refine Ev.p rfl rfl ?_); exact Ev.r rfl)
        · exact absurd h9 (fun h => c (by show J1 140 9 ≠ 0; rw [h]; decide))
      | true =>
        have hp2 := hp.2.2 rfl
        simp only [List.length_nil] at hp2
        dsimp only at hp hp2
        have e2 : RP J1 t z act b o false (L ++ us.map tokR) := e2
        obtain ⟨J2, g1, g2, g3⟩ := ihU o k b L us J1 hk (by omega) hp.2.1 (by rw [List.length_append, List.length_map]; omega) e2
        refine ⟨J2, ?_, g2, e3.tr g3⟩
        have g1 := g1.dp (d' := (d + 6 + 3 * k) + 1) (by omega)
        (repeat refine Ev.p rfl rfl ?_)
        refine Ev.c rfl e1 ?_
        (repeat (first | (refine Ev.at (q := 4) rfl ?_; exact g1) | refine Ev.p rfl rfl ?_))
    · -- T's rest
      have h9 : J 140 9 = 0 := hR.2.2.2.1
      simp only [pp]
      rw [show d + 7 + 3 * k = (d + 6 + 3 * k) + 1 by omega] at *
      by_cases h38 : pk t z a = 38
      · rw [if_pos h38]
        have hlt := pq_lt h38 (by decide)
        obtain ⟨J1, hJ1⟩ : ∃ J', J' = upI J 140 7 (J 140 7 + 1) := ⟨_, rfl⟩
        have r1 : RP J1 t z act (a + 1) o false (L ++ ts.map tokR) := by rw [hJ1]; exact hR.s7 (by rw [hR.2.1, nI_1])
        have f1 : FP act J J1 := by rw [hJ1]; exact (FP.rf act J).s (by omega) _
        obtain ⟨J2, e1, e2, e3⟩ := ihF o k (a + 1) (L ++ ts.map tokR) J1 hk (by omega) hlt (by omega) r1
        have go : ∀ {R : Option Value × Hp}, Ev X ((d + 6 + 3 * k) + 1) kX12_every 34 [some (.ref 140)] [] (K0 ++ T, J2, RS G) R → Ev X ((d + 6 + 3 * k) + 1) kX12_every 4 [some (.ref 140)] [] (K0 ++ T, J, RS G) R := by
          intro R g
          (repeat refine Ev.p rfl rfl ?_)
          refine Ev.bp rfl (fun c => ?_) (fun c => ?_)
          · exact absurd h9 c
          · (repeat refine Ev.p rfl rfl ?_)
            refine Ev.c rfl (m_here hR hz ha) ?_
            (repeat refine Ev.p rfl rfl ?_)
            refine Ev.bp rfl (fun c => ?_) (fun c => ?_)
            · exact absurd h38 c
            · (iterate 6 refine Ev.p rfl rfl ?_)
              try dsimp only
              rw [← hJ1]
              (repeat refine Ev.p rfl rfl ?_)
              refine Ev.c rfl e1 ?_
              (repeat (first | (refine Ev.at (q := 34) rfl ?_; exact g) | refine Ev.p rfl rfl ?_))
        rcases hr : pp t z f 0 o (a + 1) [] with ⟨ok, b, us⟩
        rw [hr] at e2
        have hp := pp_ok (t := t) (z := z) f 0 o (a + 1) [] (fun _ => rfl) hlt
        rw [hr] at hp
        cases ok with
        | false =>
          obtain ⟨L', r3⟩ := e2
          have h9' : J2 140 9 = 1 := r3.2.2.2.1
          refine ⟨J2, go ?_, ⟨L', r3⟩, f1.tr e3⟩
          (repeat refine Ev.p rfl rfl ?_)
          refine Ev.c rfl (m_emits_w r3 _) ?_
          (repeat refine Ev.p rfl rfl ?_)
          refine Ev.bp rfl (fun c => ?_) (fun c => ?_)
          · ((repeat refine Ev.p rfl rfl ?_); exact Ev.r rfl)
          · exact absurd h9' (fun h => c (by show J2 140 9 ≠ 0; rw [h]; decide))
        | true =>
          have hp2 := hp.2.2 rfl
          simp only [List.length_nil] at hp2
          dsimp only at hp hp2
          have e2 : RP J2 t z act b o false ((L ++ ts.map tokR) ++ us.map tokR) := e2
          have hlen : ((L ++ ts.map tokR) ++ us.map tokR).length < b := by rw [List.length_append, List.length_map]; omega
          obtain ⟨J3, g1, g2, g3⟩ := m_emits (X := X) (d := d + 6 + 3 * k) (T := T) (G := G) e2 hz hact (by omega) (-2)
          have e9 : ((L ++ ts.map tokR) ++ us.map tokR) ++ [-2] = L ++ (ts ++ us ++ [1]).map tokR := by
            rw [List.map_append, List.map_append, ← List.append_assoc, ← List.append_assoc]; rfl
          have hlen2 : (L ++ (ts ++ us ++ [1]).map tokR).length ≤ b := by rw [← e9, List.length_append]; exact hlen
          rw [e9] at g2
          obtain ⟨J4, k1, k2, k3⟩ := ihU o k b L (ts ++ us ++ [1]) J3 hk (by omega) hp.2.1 hlen2 g2
          have k1 := k1.dp (d' := (d + 6 + 3 * k) + 1) (by omega)
          refine ⟨J4, go ?_, k2, ((f1.tr e3).tr g3).tr k3⟩
          (repeat refine Ev.p rfl rfl ?_)
          refine Ev.c rfl g1 ?_
          (repeat (first | (refine Ev.at (q := 4) rfl ?_; exact k1) | refine Ev.p rfl rfl ?_))
      · rw [if_neg h38]
        refine ⟨J, ?_, hR, FP.rf act J⟩
        (repeat refine Ev.p rfl rfl ?_)
        refine Ev.bp rfl (fun c => ?_) (fun c => ?_)
        · exact absurd h9 c
        · (repeat refine Ev.p rfl rfl ?_)
          refine Ev.c rfl (m_here hR hz ha) ?_
          (repeat refine Ev.p rfl rfl ?_)
          refine Ev.bp rfl (fun c => ?_) (fun c => ?_)
          · ((repeat refine Ev.p rfl rfl ?_); exact Ev.r rfl)
          · exact absurd (Decidable.not_not.mp c) h38
    · -- E
      simp only [pp]
      obtain ⟨J1, e1, e2, e3⟩ := ihT o k a L J hk (by omega) ha hL hR
      rcases hr : pp t z f 1 o a [] with ⟨ok, b, us⟩
      rw [hr] at e2
      have hp := pp_ok (t := t) (z := z) f 1 o a [] (fun _ => rfl) ha
      rw [hr] at hp
      rw [show d + 8 + 3 * k = (d + 7 + 3 * k) + 1 by omega] at *
      cases ok with
      | false =>
        obtain ⟨L', r1⟩ := e2
        have h9 : J1 140 9 = 1 := r1.2.2.2.1
        refine ⟨J1, ?_, ⟨L', r1⟩, e3⟩
        (repeat refine Ev.p rfl rfl ?_)
        refine Ev.c rfl e1 ?_
        (repeat refine Ev.p rfl rfl ?_)
        refine Ev.bp rfl (fun c => ?_) (fun c => ?_)
        · ((repeat refine Ev.p rfl rfl ?_); exact Ev.r rfl)
        · exact absurd h9 (fun h => c (by show J1 140 9 ≠ 0; rw [h]; decide))
      | true =>
        have hp2 := hp.2.2 rfl
        simp only [List.length_nil] at hp2
        dsimp only at hp hp2
        have e2 : RP J1 t z act b o false (L ++ us.map tokR) := e2
        obtain ⟨J2, g1, g2, g3⟩ := ihV o k b L us J1 hk (by omega) hp.2.1 (by rw [List.length_append, List.length_map]; omega) e2
        refine ⟨J2, ?_, g2, e3.tr g3⟩
        have g1 := g1.dp (d' := (d + 7 + 3 * k) + 1) (by omega)
        (repeat refine Ev.p rfl rfl ?_)
        refine Ev.c rfl e1 ?_
        (repeat (first | (refine Ev.at (q := 4) rfl ?_; exact g1) | refine Ev.p rfl rfl ?_))
    · -- E's rest
      have h9 : J 140 9 = 0 := hR.2.2.2.1
      simp only [pp]
      rw [show d + 8 + 3 * k = (d + 7 + 3 * k) + 1 by omega] at *
      by_cases h124 : pk t z a = 124
      · rw [if_pos h124]
        have hlt := pq_lt h124 (by decide)
        obtain ⟨J1, hJ1⟩ : ∃ J', J' = upI J 140 7 (J 140 7 + 1) := ⟨_, rfl⟩
        have r1 : RP J1 t z act (a + 1) o false (L ++ ts.map tokR) := by rw [hJ1]; exact hR.s7 (by rw [hR.2.1, nI_1])
        have f1 : FP act J J1 := by rw [hJ1]; exact (FP.rf act J).s (by omega) _
        obtain ⟨J2, e1, e2, e3⟩ := ihT o k (a + 1) (L ++ ts.map tokR) J1 hk (by omega) hlt (by omega) r1
        have go : ∀ {R : Option Value × Hp}, Ev X ((d + 7 + 3 * k) + 1) kX12_some 34 [some (.ref 140)] [] (K0 ++ T, J2, RS G) R → Ev X ((d + 7 + 3 * k) + 1) kX12_some 4 [some (.ref 140)] [] (K0 ++ T, J, RS G) R := by
          intro R g
          (repeat refine Ev.p rfl rfl ?_)
          refine Ev.bp rfl (fun c => ?_) (fun c => ?_)
          · exact absurd h9 c
          · (repeat refine Ev.p rfl rfl ?_)
            refine Ev.c rfl (m_here hR hz ha) ?_
            (repeat refine Ev.p rfl rfl ?_)
            refine Ev.bp rfl (fun c => ?_) (fun c => ?_)
            · exact absurd h124 c
            · (iterate 6 refine Ev.p rfl rfl ?_)
              try dsimp only
              rw [← hJ1]
              (repeat refine Ev.p rfl rfl ?_)
              refine Ev.c rfl e1 ?_
              (repeat (first | (refine Ev.at (q := 34) rfl ?_; exact g) | refine Ev.p rfl rfl ?_))
        rcases hr : pp t z f 1 o (a + 1) [] with ⟨ok, b, us⟩
        rw [hr] at e2
        have hp := pp_ok (t := t) (z := z) f 1 o (a + 1) [] (fun _ => rfl) hlt
        rw [hr] at hp
        cases ok with
        | false =>
          obtain ⟨L', r3⟩ := e2
          have h9' : J2 140 9 = 1 := r3.2.2.2.1
          refine ⟨J2, go ?_, ⟨L', r3⟩, f1.tr e3⟩
          (repeat refine Ev.p rfl rfl ?_)
          refine Ev.c rfl (m_emits_w r3 _) ?_
          (repeat refine Ev.p rfl rfl ?_)
          refine Ev.bp rfl (fun c => ?_) (fun c => ?_)
          · ((repeat refine Ev.p rfl rfl ?_); exact Ev.r rfl)
          · exact absurd h9' (fun h => c (by show J2 140 9 ≠ 0; rw [h]; decide))
        | true =>
          have hp2 := hp.2.2 rfl
          simp only [List.length_nil] at hp2
          dsimp only at hp hp2
          have e2 : RP J2 t z act b o false ((L ++ ts.map tokR) ++ us.map tokR) := e2
          have hlen : ((L ++ ts.map tokR) ++ us.map tokR).length < b := by rw [List.length_append, List.length_map]; omega
          obtain ⟨J3, g1, g2, g3⟩ := m_emits (X := X) (d := d + 7 + 3 * k) (T := T) (G := G) e2 hz hact (by omega) (-3)
          have e9 : ((L ++ ts.map tokR) ++ us.map tokR) ++ [-3] = L ++ (ts ++ us ++ [2]).map tokR := by
            rw [List.map_append, List.map_append, ← List.append_assoc, ← List.append_assoc]; rfl
          have hlen2 : (L ++ (ts ++ us ++ [2]).map tokR).length ≤ b := by rw [← e9, List.length_append]; exact hlen
          rw [e9] at g2
          obtain ⟨J4, k1, k2, k3⟩ := ihV o k b L (ts ++ us ++ [2]) J3 hk (by omega) hp.2.1 hlen2 g2
          have k1 := k1.dp (d' := (d + 7 + 3 * k) + 1) (by omega)
          refine ⟨J4, go ?_, k2, ((f1.tr e3).tr g3).tr k3⟩
          (repeat refine Ev.p rfl rfl ?_)
          refine Ev.c rfl g1 ?_
          (repeat (first | (refine Ev.at (q := 4) rfl ?_; exact k1) | refine Ev.p rfl rfl ?_))
      · rw [if_neg h124]
        refine ⟨J, ?_, hR, FP.rf act J⟩
        (repeat refine Ev.p rfl rfl ?_)
        refine Ev.bp rfl (fun c => ?_) (fun c => ?_)
        · exact absurd h9 c
        · (repeat refine Ev.p rfl rfl ?_)
          refine Ev.c rfl (m_here hR hz ha) ?_
          (repeat refine Ev.p rfl rfl ?_)
          refine Ev.bp rfl (fun c => ?_) (fun c => ?_)
          · ((repeat refine Ev.p rfl rfl ?_); exact Ev.r rfl)
          · exact absurd (Decidable.not_not.mp c) h124
end READ2
