/-! THE REFERENCE: told, acts -/
/-- whose kind is under which -/
def und (kk j : Nat) : Bool := decide (j = 0 ∨ j = kk ∨ (j < 4 ∧ kk = j + 3))
/-- what acts answer, and which bodies run -/
def aPW (nu x : Int32) : Int32 × List Int32 := (x + nu, [1])
def aW (kk : Nat) (nu x : Int32) : Int32 × List Int32 := if und kk 1 = true then ((aPW nu (x * 3)).1, 11 :: (aPW nu (x * 3)).2) else if kk = 5 then ((aPW nu x).1 ^^^ nu, 51 :: (aPW nu x).2) else aPW nu x
def aPN (kk : Nat) (nu v x : Int32) : Int32 × List Int32 := ((aW kk nu x).1 - v, 2 :: (aW kk nu x).2)
def aN (kk : Nat) (nu v x : Int32) : Int32 × List Int32 := if und kk 2 = true then (-(aPN kk nu v x).1, 21 :: (aPN kk nu v x).2) else if kk = 6 then ((aPN kk nu v x).1 + v, 61 :: (aPN kk nu v x).2) else aPN kk nu v x
def aPT (kk : Nat) (nu v x : Int32) : Int32 × List Int32 := ((aN kk nu v x).1 * 2, 3 :: (aN kk nu v x).2)
def aT (kk : Nat) (nu v x : Int32) : Int32 × List Int32 := if und kk 3 = true then ((aPT kk nu v x).1 ^^^ 7, 31 :: (aPT kk nu v x).2) else if kk = 4 then ((aPT kk nu v (x - 1)).1 + (aW kk nu 2).1, 41 :: (aPT kk nu v (x - 1)).2 ++ (aW kk nu 2).2) else aPT kk nu v x
def aAct (kk : Nat) (nu v x : Int32) : Nat → Int32 × List Int32
  | 0 => aW kk nu x
  | 1 => aN kk nu v x
  | _ => aT kk nu v x
theorem aW_len (kk : Nat) (nu x : Int32) : (aW kk nu x).2.length ≤ 2 := by
  unfold aW
  split
  · exact Nat.le_refl _
  · split
    · exact Nat.le_refl _
    · exact Nat.le_succ _
theorem aN_len (kk : Nat) (nu v x : Int32) : (aN kk nu v x).2.length ≤ 4 := by
  have := aW_len kk nu x
  unfold aN aPN
  split
  · simp only [List.length_cons]; omega
  · split <;> simp only [List.length_cons] <;> omega
theorem aAct_len : ∀ (kk w : Nat) (nu v x : Int32), (aAct kk nu v x w).2.length ≤ 9 := by
  have hW := aW_len
  have hN := aN_len
  intro kk w nu v x
  match w with
  | 0 => have := hW kk nu x; show (aW kk nu x).2.length ≤ 9; omega
  | 1 => have := hN kk nu v x; show (aN kk nu v x).2.length ≤ 9; omega
  | w + 2 =>
    have h1 := hN kk nu v x
    have h2 := hN kk nu v (x - 1)
    have h3 := hW kk nu 2
    show (aT kk nu v x).2.length ≤ 9
    unfold aT aPT
    split
    · simp only [List.length_cons]; omega
    · split
      · simp only [List.length_cons, List.length_append]; omega
      · simp only [List.length_cons]; omega
/-- which bodies have run, as the reference holds it -/
def TC (J : Nat → Nat → Int32) (l : List Int32) : Prop := J 140 16 = nI l.length ∧ ∀ (i : Nat) (x : Int32), l[i]? = some x → i < 20 → J 148 i = x
/-- what the acts of the reference leave -/
def MA (I I' : Nat → Nat → Int32) : Prop := (∀ q, q ≠ 140 → q ≠ 148 → I' q = I q) ∧ ∀ j, j ≠ 16 → I' 140 j = I 140 j
theorem MA.rf (I : Nat → Nat → Int32) : MA I I := ⟨fun _ _ _ => rfl, fun _ _ => rfl⟩
theorem MA.tr {I I' I'' : Nat → Nat → Int32} (h : MA I I') (h' : MA I' I'') : MA I I'' := ⟨fun q h1 h2 => (h'.1 q h1 h2).trans (h.1 q h1 h2), fun j hj => (h'.2 j hj).trans (h.2 j hj)⟩
section ACTS
variable {X : Nat × (Nat → Int32)} {d : Nat} {T : List (Nat × Nat)} {I : Nat → Nat → Int32} {G : Nat → Nat → Option Nat} {s : Nat → Int32} {n p : Nat} {hd : Option Nat} {cls : Cls} {e : Nat} {du fd : Int32} {l : List Int32} {kk : Nat} {nu v : Int32}
theorem m_ranBody (hT : TC I l) (hl : l.length < 20) (x : Int32) : ∃ I', Ev X d kX12_ranBody 0 (ent kX12_ranBody [.ref 140, .int x]) [] (K0 ++ T, I, RS G) (none, (K0 ++ T, I', RS G)) ∧ TC I' (l ++ [x]) ∧ MA I I' := by
  obtain ⟨J, hJ⟩ : ∃ J, J = upI I 148 l.length x := ⟨_, rfl⟩
  have h1 : J 140 16 = nI l.length := by rw [hJ, upI_ne (by omega)]; exact hT.1
  refine ⟨upI J 140 16 (nI (l.length + 1)), ?_, ⟨?_, fun i y hi h20 => ?_⟩, fun q h2 h3 => ?_, fun j hj => ?_⟩
  · iterate 2 refine Ev.p rfl rfl ?_
    try dsimp only
    rw [hT.1]
    (repeat refine Ev.p rfl rfl ?_)
    refine Ev.bp rfl (fun c => ?_) (fun c => ?_)
    · exact absurd c (nI_ge (b := 20) hl (by omega))
    · iterate 4 refine Ev.p rfl rfl ?_
      try dsimp only
      rw [hT.1]
      (repeat refine Ev.p rfl rfl ?_)
      refine Ev.iast (j := l.length) rfl rfl rfl (by omega) (by omega) ?_
      rw [← hJ]
      iterate 3 refine Ev.p rfl rfl ?_
      try dsimp only
      rw [h1]
      iterate 2 refine Ev.p rfl rfl ?_
      try dsimp only
      rw [nI_1]
      ((repeat refine Ev.p rfl rfl ?_); exact Ev.r rfl)
  · rw [upI_eq, upd_at, List.length_append]; rfl
  · rw [upI_ne (by omega), hJ, upI_eq]
    rw [List.getElem?_append] at hi
    split at hi
    · rename_i h9
      rw [upd_ne (by omega)]
      exact hT.2 i y hi h20
    · rename_i h9
      have h8 : i - l.length = 0 := by
        rcases Nat.eq_zero_or_pos (i - l.length) with h | h
        · exact h
        · rw [List.getElem?_eq_none (by simp; omega)] at hi; cases hi
      rw [h8] at hi
      cases hi
      rw [show i = l.length by omega, upd_at]
  · rw [upI_ne h2, hJ, upI_ne h3]
  · rw [upI_eq, upd_ne hj, hJ, upI_ne (by omega)]
/-- the fields that acts look at -/
def KN (I : Nat → Nat → Int32) (kk : Nat) (nu v : Int32) : Prop := kk ≤ 6 ∧ I 140 17 = nI kk ∧ I 140 18 = nu ∧ I 140 19 = v
theorem KN.ma {I I' : Nat → Nat → Int32} (h : KN I kk nu v) (h' : MA I I') : KN I' kk nu v := ⟨h.1, (h'.2 17 (by omega)).trans h.2.1, (h'.2 18 (by omega)).trans h.2.2.1, (h'.2 19 (by omega)).trans h.2.2.2⟩
theorem m_plainWaits (hk : KN I kk nu v) (hT : TC I l) (hl : l.length < 20) (x : Int32) : ∃ I', Ev X (d + 1) kX12_plainWaits 0 (ent kX12_plainWaits [.ref 140, .int x]) [] (K0 ++ T, I, RS G) (some (.int (aPW nu x).1), (K0 ++ T, I', RS G)) ∧ TC I' (l ++ (aPW nu x).2) ∧ MA I I' := by
  obtain ⟨J, e1, e2, e3⟩ := m_ranBody (X := X) (d := d) (T := T) (G := G) hT hl 1
  refine ⟨J, ?_, e2, e3⟩
  (repeat refine Ev.p rfl rfl ?_)
  refine Ev.c rfl e1 ?_
  iterate 3 refine Ev.p rfl rfl ?_
  try dsimp only
  rw [(hk.ma e3).2.2.1]
  ((repeat refine Ev.p rfl rfl ?_); exact Ev.r rfl)
theorem m_waitsActs (hk : KN I kk nu v) (hT : TC I l) (hl : l.length < 18) (x : Int32) : ∃ I', Ev X (d + 2) kX12_waitsActs 0 (ent kX12_waitsActs [.ref 140, .int x]) [] (K0 ++ T, I, RS G) (some (.int (aW kk nu x).1), (K0 ++ T, I', RS G)) ∧ TC I' (l ++ (aW kk nu x).2) ∧ MA I I' := by
  have hu := m_isUnder (X := X) (d := d + 1) (K0 ++ T, I, RS G) kk hk.1 1 (by omega)
  change Ev X (d + 1) kX12_isUnder 0 _ [] (K0 ++ T, I, RS G) (some (.int (bI (und kk 1))), (K0 ++ T, I, RS G)) at hu
  unfold aW
  cases hb : und kk 1 with
  | true =>
    rw [hb] at hu
    rw [if_pos rfl]
    obtain ⟨J, e1, e2, e3⟩ := m_ranBody (X := X) (d := d + 1) (T := T) (G := G) hT (by omega) 11
    obtain ⟨J2, f1, f2, f3⟩ := m_plainWaits (X := X) (d := d) (T := T) (G := G) (hk.ma e3) e2 (by simp; omega) (x * 3)
    refine ⟨J2, ?_, by rw [List.append_assoc] at f2; exact f2, e3.tr f3⟩
    iterate 2 refine Ev.p rfl rfl ?_
    try dsimp only
    rw [hk.2.1]
    (repeat refine Ev.p rfl rfl ?_)
    refine Ev.c rfl hu ?_
    (repeat refine Ev.p rfl rfl ?_)
    refine Ev.c rfl e1 ?_
    (repeat refine Ev.p rfl rfl ?_)
    refine Ev.c rfl f1 ?_
    ((repeat refine Ev.p rfl rfl ?_); exact Ev.r rfl)
  | false =>
    rw [hb] at hu
    rw [if_neg (by decide)]
    have go : ∀ {R : Option Value × Hp}, Ev X (d + 2) kX12_waitsActs 25 [some (.ref 140), some (.int x)] [] (K0 ++ T, I, RS G) R → Ev X (d + 2) kX12_waitsActs 0 (ent kX12_waitsActs [.ref 140, .int x]) [] (K0 ++ T, I, RS G) R := by
      intro R g
      iterate 2 refine Ev.p rfl rfl ?_
      try dsimp only
      rw [hk.2.1]
      (repeat refine Ev.p rfl rfl ?_)
      refine Ev.c rfl hu ?_
      (repeat (first | (refine Ev.at (q := 25) rfl ?_; exact g) | refine Ev.p rfl rfl ?_))
    by_cases h5 : kk = 5
    · rw [if_pos h5]
      obtain ⟨J, e1, e2, e3⟩ := m_ranBody (X := X) (d := d + 1) (T := T) (G := G) hT (by omega) 51
      obtain ⟨J2, f1, f2, f3⟩ := m_plainWaits (X := X) (d := d) (T := T) (G := G) (hk.ma e3) e2 (by simp; omega) x
      refine ⟨J2, ?_, by rw [List.append_assoc] at f2; exact f2, e3.tr f3⟩
      refine go ?_
      iterate 2 refine Ev.p rfl rfl ?_
      try dsimp only
      rw [hk.2.1, h5]
      (repeat refine Ev.p rfl rfl ?_)
      refine Ev.c rfl e1 ?_
      (repeat refine Ev.p rfl rfl ?_)
      refine Ev.c rfl f1 ?_
      iterate 2 refine Ev.p rfl rfl ?_
      try dsimp only
      rw [(hk.ma (e3.tr f3)).2.2.1]
      ((repeat refine Ev.p rfl rfl ?_); exact Ev.r rfl)
    · rw [if_neg h5]
      obtain ⟨J2, f1, f2, f3⟩ := m_plainWaits (X := X) (d := d) (T := T) (G := G) hk hT (by omega) x
      refine ⟨J2, ?_, f2, f3⟩
      refine go ?_
      iterate 2 refine Ev.p rfl rfl ?_
      try dsimp only
      rw [hk.2.1]
      (repeat refine Ev.p rfl rfl ?_)
      refine Ev.bp rfl (fun c => ?_) (fun c => ?_)
      · (repeat refine Ev.p rfl rfl ?_)
        refine Ev.c rfl f1 ?_
        ((repeat refine Ev.p rfl rfl ?_); exact Ev.r rfl)
      · exact absurd ((nI_eq (a := kk) (b := 5) (by have := hk.1; omega) (by omega)).mp (Decidable.not_not.mp c)) h5
theorem m_plainNods (hk : KN I kk nu v) (hT : TC I l) (hl : l.length < 17) (x : Int32) : ∃ I', Ev X (d + 3) kX12_plainNods 0 (ent kX12_plainNods [.ref 140, .int x]) [] (K0 ++ T, I, RS G) (some (.int (aPN kk nu v x).1), (K0 ++ T, I', RS G)) ∧ TC I' (l ++ (aPN kk nu v x).2) ∧ MA I I' := by
  obtain ⟨J, e1, e2, e3⟩ := m_ranBody (X := X) (d := d + 2) (T := T) (G := G) hT (by omega) 2
  obtain ⟨J2, f1, f2, f3⟩ := m_waitsActs (X := X) (d := d) (T := T) (G := G) (hk.ma e3) e2 (by simp; omega) x
  refine ⟨J2, ?_, by rw [List.append_assoc] at f2; exact f2, e3.tr f3⟩
  (repeat refine Ev.p rfl rfl ?_)
  refine Ev.c rfl e1 ?_
  (repeat refine Ev.p rfl rfl ?_)
  refine Ev.c rfl f1 ?_
  iterate 2 refine Ev.p rfl rfl ?_
  try dsimp only
  rw [(hk.ma (e3.tr f3)).2.2.2]
  ((repeat refine Ev.p rfl rfl ?_); exact Ev.r rfl)
theorem m_nodsActs (hk : KN I kk nu v) (hT : TC I l) (hl : l.length < 16) (x : Int32) : ∃ I', Ev X (d + 4) kX12_nodsActs 0 (ent kX12_nodsActs [.ref 140, .int x]) [] (K0 ++ T, I, RS G) (some (.int (aN kk nu v x).1), (K0 ++ T, I', RS G)) ∧ TC I' (l ++ (aN kk nu v x).2) ∧ MA I I' := by
  have hu := m_isUnder (X := X) (d := d + 3) (K0 ++ T, I, RS G) kk hk.1 2 (by omega)
  change Ev X (d + 3) kX12_isUnder 0 _ [] (K0 ++ T, I, RS G) (some (.int (bI (und kk 2))), (K0 ++ T, I, RS G)) at hu
  unfold aN
  cases hb : und kk 2 with
  | true =>
    rw [hb] at hu
    rw [if_pos rfl]
    obtain ⟨J, e1, e2, e3⟩ := m_ranBody (X := X) (d := d + 3) (T := T) (G := G) hT (by omega) 21
    obtain ⟨J2, f1, f2, f3⟩ := m_plainNods (X := X) (d := d) (T := T) (G := G) (hk.ma e3) e2 (by simp; omega) x
    refine ⟨J2, ?_, by rw [List.append_assoc] at f2; exact f2, e3.tr f3⟩
    iterate 2 refine Ev.p rfl rfl ?_
    try dsimp only
    rw [hk.2.1]
    (repeat refine Ev.p rfl rfl ?_)
    refine Ev.c rfl hu ?_
    (repeat refine Ev.p rfl rfl ?_)
    refine Ev.c rfl e1 ?_
    (repeat refine Ev.p rfl rfl ?_)
    refine Ev.c rfl f1 ?_
    ((repeat refine Ev.p rfl rfl ?_); exact Ev.r rfl)
  | false =>
    rw [hb] at hu
    rw [if_neg (by decide)]
    have go : ∀ {R : Option Value × Hp}, Ev X (d + 4) kX12_nodsActs 24 [some (.ref 140), some (.int x)] [] (K0 ++ T, I, RS G) R → Ev X (d + 4) kX12_nodsActs 0 (ent kX12_nodsActs [.ref 140, .int x]) [] (K0 ++ T, I, RS G) R := by
      intro R g
      iterate 2 refine Ev.p rfl rfl ?_
      try dsimp only
      rw [hk.2.1]
      (repeat refine Ev.p rfl rfl ?_)
      refine Ev.c rfl hu ?_
      (repeat (first | (refine Ev.at (q := 24) rfl ?_; exact g) | refine Ev.p rfl rfl ?_))
    by_cases h5 : kk = 6
    · rw [if_pos h5]
      obtain ⟨J, e1, e2, e3⟩ := m_ranBody (X := X) (d := d + 3) (T := T) (G := G) hT (by omega) 61
      obtain ⟨J2, f1, f2, f3⟩ := m_plainNods (X := X) (d := d) (T := T) (G := G) (hk.ma e3) e2 (by simp; omega) x
      refine ⟨J2, ?_, by rw [List.append_assoc] at f2; exact f2, e3.tr f3⟩
      refine go ?_
      iterate 2 refine Ev.p rfl rfl ?_
      try dsimp only
      rw [hk.2.1]
      rw [show nI kk = nI 6 from by rw [h5]]
      (repeat refine Ev.p rfl rfl ?_)
      refine Ev.c rfl e1 ?_
      (repeat refine Ev.p rfl rfl ?_)
      refine Ev.c rfl f1 ?_
      iterate 2 refine Ev.p rfl rfl ?_
      try dsimp only
      rw [(hk.ma (e3.tr f3)).2.2.2]
      ((repeat refine Ev.p rfl rfl ?_); exact Ev.r rfl)
    · rw [if_neg h5]
      obtain ⟨J2, f1, f2, f3⟩ := m_plainNods (X := X) (d := d) (T := T) (G := G) hk hT (by omega) x
      refine ⟨J2, ?_, f2, f3⟩
      refine go ?_
      iterate 2 refine Ev.p rfl rfl ?_
      try dsimp only
      rw [hk.2.1]
      (repeat refine Ev.p rfl rfl ?_)
      refine Ev.bp rfl (fun c => ?_) (fun c => ?_)
      · (repeat refine Ev.p rfl rfl ?_)
        refine Ev.c rfl f1 ?_
        ((repeat refine Ev.p rfl rfl ?_); exact Ev.r rfl)
      · exact absurd ((nI_eq (a := kk) (b := 6) (by have := hk.1; omega) (by omega)).mp (Decidable.not_not.mp c)) h5
theorem m_plainTelling (hk : KN I kk nu v) (hT : TC I l) (hl : l.length < 15) (x : Int32) : ∃ I', Ev X (d + 5) kX12_plainTelling 0 (ent kX12_plainTelling [.ref 140, .int x]) [] (K0 ++ T, I, RS G) (some (.int (aPT kk nu v x).1), (K0 ++ T, I', RS G)) ∧ TC I' (l ++ (aPT kk nu v x).2) ∧ MA I I' := by
  obtain ⟨J, e1, e2, e3⟩ := m_ranBody (X := X) (d := d + 4) (T := T) (G := G) hT (by omega) 3
  obtain ⟨J2, f1, f2, f3⟩ := m_nodsActs (X := X) (d := d) (T := T) (G := G) (hk.ma e3) e2 (by simp; omega) x
  refine ⟨J2, ?_, by rw [List.append_assoc] at f2; exact f2, e3.tr f3⟩
  (repeat refine Ev.p rfl rfl ?_)
  refine Ev.c rfl e1 ?_
  (repeat refine Ev.p rfl rfl ?_)
  refine Ev.c rfl f1 ?_
  ((repeat refine Ev.p rfl rfl ?_); exact Ev.r rfl)
theorem aPT_len (kk : Nat) (nu v x : Int32) : (aPT kk nu v x).2.length ≤ 5 := by
  have h := aN_len kk nu v x
  show (3 :: (aN kk nu v x).2).length ≤ 5
  simp only [List.length_cons]
  omega
theorem m_turningActs (hk : KN I kk nu v) (hT : TC I l) (hl : l.length < 10) (x : Int32) : ∃ I', Ev X (d + 6) kX12_turningActs 0 (ent kX12_turningActs [.ref 140, .int x]) [] (K0 ++ T, I, RS G) (some (.int (aT kk nu v x).1), (K0 ++ T, I', RS G)) ∧ TC I' (l ++ (aT kk nu v x).2) ∧ MA I I' := by
  have hu := m_isUnder (X := X) (d := d + 5) (K0 ++ T, I, RS G) kk hk.1 3 (by omega)
  change Ev X (d + 5) kX12_isUnder 0 _ [] (K0 ++ T, I, RS G) (some (.int (bI (und kk 3))), (K0 ++ T, I, RS G)) at hu
  unfold aT
  cases hb : und kk 3 with
  | true =>
    rw [hb] at hu
    rw [if_pos rfl]
    obtain ⟨J, e1, e2, e3⟩ := m_ranBody (X := X) (d := d + 5) (T := T) (G := G) hT (by omega) 31
    obtain ⟨J2, f1, f2, f3⟩ := m_plainTelling (X := X) (d := d) (T := T) (G := G) (hk.ma e3) e2 (by simp; omega) x
    refine ⟨J2, ?_, by rw [List.append_assoc] at f2; exact f2, e3.tr f3⟩
    iterate 2 refine Ev.p rfl rfl ?_
    try dsimp only
    rw [hk.2.1]
    (repeat refine Ev.p rfl rfl ?_)
    refine Ev.c rfl hu ?_
    (repeat refine Ev.p rfl rfl ?_)
    refine Ev.c rfl e1 ?_
    (repeat refine Ev.p rfl rfl ?_)
    refine Ev.c rfl f1 ?_
    ((repeat refine Ev.p rfl rfl ?_); exact Ev.r rfl)
  | false =>
    rw [hb] at hu
    rw [if_neg (by decide)]
    have go : ∀ {R : Option Value × Hp}, Ev X (d + 6) kX12_turningActs 26 [some (.ref 140), some (.int x), none] [] (K0 ++ T, I, RS G) R → Ev X (d + 6) kX12_turningActs 0 (ent kX12_turningActs [.ref 140, .int x]) [] (K0 ++ T, I, RS G) R := by
      intro R g
      iterate 2 refine Ev.p rfl rfl ?_
      try dsimp only
      rw [hk.2.1]
      (repeat refine Ev.p rfl rfl ?_)
      refine Ev.c rfl hu ?_
      (repeat (first | (refine Ev.at (q := 26) rfl ?_; exact g) | refine Ev.p rfl rfl ?_))
    by_cases h5 : kk = 4
    · rw [if_pos h5]
      have hln := aPT_len kk nu v (x - 1)
      obtain ⟨J, e1, e2, e3⟩ := m_ranBody (X := X) (d := d + 5) (T := T) (G := G) hT (by omega) 41
      obtain ⟨J2, f1, f2, f3⟩ := m_plainTelling (X := X) (d := d) (T := T) (G := G) (hk.ma e3) e2 (by simp; omega) (x - 1)
      obtain ⟨J3, g1, g2, g3⟩ := m_waitsActs (X := X) (d := d + 3) (T := T) (G := G) (hk.ma (e3.tr f3)) f2 (by simp; omega) 2
      refine ⟨J3, ?_, by rw [List.append_assoc, List.append_assoc] at g2; exact g2, (e3.tr f3).tr g3⟩
      refine go ?_
      iterate 2 refine Ev.p rfl rfl ?_
      try dsimp only
      rw [hk.2.1]
      rw [show nI kk = nI 4 from by rw [h5]]
      (repeat refine Ev.p rfl rfl ?_)
      refine Ev.c rfl e1 ?_
      (repeat refine Ev.p rfl rfl ?_)
      refine Ev.c rfl f1 ?_
      (repeat refine Ev.p rfl rfl ?_)
      refine Ev.c rfl g1 ?_
      ((repeat refine Ev.p rfl rfl ?_); exact Ev.r rfl)
    · rw [if_neg h5]
      obtain ⟨J2, f1, f2, f3⟩ := m_plainTelling (X := X) (d := d) (T := T) (G := G) hk hT (by omega) x
      refine ⟨J2, ?_, f2, f3⟩
      refine go ?_
      iterate 2 refine Ev.p rfl rfl ?_
      try dsimp only
      rw [hk.2.1]
      (repeat refine Ev.p rfl rfl ?_)
      refine Ev.bp rfl (fun c => ?_) (fun c => ?_)
      · (repeat refine Ev.p rfl rfl ?_)
        refine Ev.c rfl f1 ?_
        ((repeat refine Ev.p rfl rfl ?_); exact Ev.r rfl)
      · exact absurd ((nI_eq (a := kk) (b := 4) (by have := hk.1; omega) (by omega)).mp (Decidable.not_not.mp c)) h5
/-- what act leaves: the bodies, and the fields that it looks at -/
def MB (I I' : Nat → Nat → Int32) : Prop := (∀ q, q ≠ 140 → q ≠ 148 → I' q = I q) ∧ I' 140 4 = I 140 4 ∧ I' 140 5 = I 140 5
theorem m_act (hI : I 141 = s) (hn : s 26 = nI n) (hn6 : n ≤ 6) (hk : ∀ p, p < 6 → ∃ kk, kk ≤ 6 ∧ s (33 + p) = nI kk) (x y z : Int32) :
    (¬ (isM n x ∧ (0 ≤ y ∧ y ≤ 2)) → Ev X (d + 7) kX12_act 0 (ent kX12_act [.ref 140, .int x, .int y, .int z]) [] (K0 ++ T, I, RS G) (some (.int 0), (K0 ++ T, upI I 140 16 0, RS G))) ∧
    (∀ p w, p < n → x = nI p → w ≤ 2 → y = nI w → ∃ I', Ev X (d + 7) kX12_act 0 (ent kX12_act [.ref 140, .int x, .int y, .int z]) [] (K0 ++ T, I, RS G) (some (.int (aAct (s (33 + p)).toNatClampNeg (nI p) (s (39 + p)) z w).1), (K0 ++ T, I', RS G)) ∧ TC I' (aAct (s (33 + p)).toNatClampNeg (nI p) (s (39 + p)) z w).2 ∧ MB I I') := by
  obtain ⟨J, hJ⟩ : ∃ J, J = upI I 140 16 0 := ⟨_, rfl⟩
  have hI2 : J 141 = s := by rw [hJ, upI_ne (by omega), hI]
  rw [← hJ]
  refine ⟨fun h => ?_, fun p w hp hx hw hy => ?_⟩
  · by_cases h1 : isM n x
    · (repeat refine Ev.p rfl rfl ?_)
      rw [← hJ]
      refine Ev.c rfl ((m_isM hI2 hn x).1 h1) ?_
      (repeat refine Ev.p rfl rfl ?_)
      refine Ev.c rfl (m_in _ _ _ _) ?_
      rw [if_neg (fun g => h ⟨h1, g⟩)]
      ((repeat refine Ev.p rfl rfl ?_); exact Ev.r rfl)
    · (repeat refine Ev.p rfl rfl ?_)
      rw [← hJ]
      refine Ev.c rfl ((m_isM hI2 hn x).2 h1) ?_
      ((repeat refine Ev.p rfl rfl ?_); exact Ev.r rfl)
  · subst hx
    obtain ⟨kk, hk6, hkk⟩ := hk p (by omega)
    rw [hkk, nI_clamp (by omega)]
    obtain ⟨J2, hJ2⟩ : ∃ J2, J2 = upI (upI (upI J 140 17 (nI kk)) 140 18 (nI p)) 140 19 (s (39 + p)) := ⟨_, rfl⟩
    have kn : KN J2 kk (nI p) (s (39 + p)) := by
      rw [hJ2]
      refine ⟨hk6, ?_, ?_, ?_⟩
      · rw [upI_eq, upd_ne (by omega), upI_eq, upd_ne (by omega), upI_eq, upd_at]
      · rw [upI_eq, upd_ne (by omega), upI_eq, upd_at]
      · rw [upI_eq, upd_at]
    have tc : TC J2 [] := by
      refine ⟨?_, fun i x h => by cases h⟩
      rw [hJ2, hJ]
      simp only [upI_eq]
      rw [upd_ne (by omega), upd_ne (by omega), upd_ne (by omega), upd_at]
      rfl
    have fr : ∀ {I'}, MA J2 I' → MB I I' := by
      intro I' h
      refine ⟨fun q h1 h2 => ?_, ?_, ?_⟩
      · rw [h.1 q h1 h2, hJ2, upI_ne h1, upI_ne h1, upI_ne h1, hJ, upI_ne h1]
      · rw [h.2 4 (by omega), hJ2, hJ]
        simp only [upI_eq]
        rw [upd_ne (by omega), upd_ne (by omega), upd_ne (by omega), upd_ne (by omega)]
      · rw [h.2 5 (by omega), hJ2, hJ]
        simp only [upI_eq]
        rw [upd_ne (by omega), upd_ne (by omega), upd_ne (by omega), upd_ne (by omega)]
    have go : ∀ {R : Option Value × Hp}, Ev X (d + 7) kX12_act 55 [some (.ref 140), some (.int (nI p)), some (.int y), some (.int z)] [] (K0 ++ T, J2, RS G) R → Ev X (d + 7) kX12_act 0 (ent kX12_act [.ref 140, .int (nI p), .int y, .int z]) [] (K0 ++ T, I, RS G) R := by
      intro R g
      rw [hJ2] at g
      (repeat refine Ev.p rfl rfl ?_)
      rw [← hJ]
      refine Ev.c rfl ((m_isM hI2 hn _).1 ((isM_iff hn6).mpr ⟨p, hp, rfl⟩)) ?_
      (repeat refine Ev.p rfl rfl ?_)
      refine Ev.c rfl (m_in _ _ _ _) ?_
      rw [if_pos (by subst hy; exact ⟨nI_pos' (by omega), nI_le (b := 2) hw (by omega)⟩)]
      (repeat refine Ev.p rfl rfl ?_)
      (refine Ev.iald (j := 33 + p) rfl rfl (nI_add 33 p) (by omega) (by omega) ?_; rw [hI2, hkk])
      (repeat refine Ev.p rfl rfl ?_)
      (refine Ev.iald (j := 39 + p) rfl rfl (nI_add 39 p) (by omega) (by omega) ?_; dsimp only; rw [upI_ne (by omega), upI_ne (by omega), hI2])
      (repeat (first | (refine Ev.at (q := 55) rfl ?_; exact g) | refine Ev.p rfl rfl ?_))
    rcases (by omega : w = 0 ∨ w = 1 ∨ w = 2) with rfl | rfl | rfl
    · obtain ⟨I', f1, f2, f3⟩ := m_waitsActs (X := X) (d := d + 4) (T := T) (G := G) kn tc (by simp) z
      refine ⟨I', ?_, f2, fr f3⟩
      refine go ?_
      subst hy
      (repeat refine Ev.p rfl rfl ?_)
      refine Ev.c rfl f1 ?_
      ((repeat refine Ev.p rfl rfl ?_); exact Ev.r rfl)
    · obtain ⟨I', f1, f2, f3⟩ := m_nodsActs (X := X) (d := d + 2) (T := T) (G := G) kn tc (by simp) z
      refine ⟨I', ?_, f2, fr f3⟩
      refine go ?_
      subst hy
      (repeat refine Ev.p rfl rfl ?_)
      refine Ev.c rfl f1 ?_
      ((repeat refine Ev.p rfl rfl ?_); exact Ev.r rfl)
    · obtain ⟨I', f1, f2, f3⟩ := m_turningActs (X := X) (d := d) (T := T) (G := G) kn tc (by simp) z
      refine ⟨I', ?_, f2, fr f3⟩
      refine go ?_
      subst hy
      (repeat refine Ev.p rfl rfl ?_)
      refine Ev.c rfl f1 ?_
      ((repeat refine Ev.p rfl rfl ?_); exact Ev.r rfl)
/-- what told tells -/
def rTold (s : Nat → Int32) (n : Nat) (hd : Option Nat) (cls : Cls) (w : Nat) : Int32 := match w with
  | 0 => s 0
  | 1 => rT s hd 222 20
  | 2 => rT s hd 227 1
  | 3 => s 1
  | 4 => rSO s n
  | 5 => rRO s n n
  | 6 => tv (rTop s n cls n).1
  | 7 => rRing s n n
  | _ => rLo s n (2 ^ n - 1) (2 ^ n - 1)
theorem m_told (hI : I 141 = s) (hv : SV s n hd cls e) (x : Int32) :
    (¬ (0 ≤ x ∧ x ≤ 8) → Ev X (d + 4) kX12_told 0 (ent kX12_told [.ref 140, .int x]) [] (K0 ++ T, I, RS G) (some (.int (-1)), (K0 ++ T, I, RS G))) ∧
    (∀ w, w ≤ 8 → x = nI w → ∃ I', Ev X (d + 4) kX12_told 0 (ent kX12_told [.ref 140, .int x]) [] (K0 ++ T, I, RS G) (some (.int (rTold s n hd cls w)), (K0 ++ T, I', RS G)) ∧ I' 141 = s ∧ MF I I') := by
  have hn := hv.1
  have hn6 := hv.2.1
  have hh := hv.2.2.2.2.2.hold
  refine ⟨fun h => ?_, fun w hw hx => ?_⟩
  · iterate 1 refine Ev.p rfl rfl ?_
    try dsimp only
    refine Ev.p (pc' := 110) (ls' := ent kX12_told [.ref 140, .int x]) (st' := []) (h' := (K0 ++ T, I, RS G)) rfl ?_ ?_
    · show (some (swt 109 0 8 _ 1 x.toInt, ent kX12_told [.ref 140, .int x], [], (K0 ++ T, I, RS G)) : Option St) = _
      rw [swt_out (by
        by_cases h3 : x.toInt < 0
        · exact Or.inl h3
        · by_cases h4 : 8 < x.toInt
          · exact Or.inr h4
          · exact absurd ⟨Int32.le_iff_toInt_le.mpr (by show (0 : Int) ≤ _; omega), Int32.le_iff_toInt_le.mpr (by show _ ≤ (8 : Int); omega)⟩ h)]
      rfl
    ((repeat refine Ev.p rfl rfl ?_); exact Ev.r rfl)
  · subst hx
    rcases (by omega : w = 0 ∨ w = 1 ∨ w = 2 ∨ w = 3 ∨ w = 4 ∨ w = 5 ∨ w = 6 ∨ w = 7 ∨ w = 8) with rfl | rfl | rfl | rfl | rfl | rfl | rfl | rfl | rfl
    · refine ⟨I, ?_, hI, MF.rf I⟩
      (repeat refine Ev.p rfl rfl ?_)
      (refine Ev.iald (j := 0) rfl rfl rfl (by omega) (by omega) ?_; rw [hI])
      ((repeat refine Ev.p rfl rfl ?_); exact Ev.r rfl)
    · refine ⟨I, ?_, hI, MF.rf I⟩
      (repeat refine Ev.p rfl rfl ?_)
      refine Ev.c rfl (m_tellsOf hI hh (w := 222) (by omega) 20) ?_
      ((repeat refine Ev.p rfl rfl ?_); exact Ev.r rfl)
    · refine ⟨I, ?_, hI, MF.rf I⟩
      (repeat refine Ev.p rfl rfl ?_)
      refine Ev.c rfl (m_tellsOf hI hh (w := 227) (by omega) 1) ?_
      ((repeat refine Ev.p rfl rfl ?_); exact Ev.r rfl)
    · refine ⟨I, ?_, hI, MF.rf I⟩
      (repeat refine Ev.p rfl rfl ?_)
      (refine Ev.iald (j := 1) rfl rfl rfl (by omega) (by omega) ?_; rw [hI])
      ((repeat refine Ev.p rfl rfl ?_); exact Ev.r rfl)
    · refine ⟨I, ?_, hI, MF.rf I⟩
      (repeat refine Ev.p rfl rfl ?_)
      refine Ev.c rfl (m_settledOnes hI hn hn6) ?_
      ((repeat refine Ev.p rfl rfl ?_); exact Ev.r rfl)
    · refine ⟨I, ?_, hI, MF.rf I⟩
      (repeat refine Ev.p rfl rfl ?_)
      refine Ev.c rfl (m_readyOnes hI hn hn6) ?_
      ((repeat refine Ev.p rfl rfl ?_); exact Ev.r rfl)
    · obtain ⟨I', f1, f2, f3⟩ := m_topic (X := X) (d := d) (T := T) (G := G) hI hv
      refine ⟨I', ?_, f2, PG.f (f3.mo PS.g)⟩
      (repeat refine Ev.p rfl rfl ?_)
      refine Ev.c rfl f1 ?_
      ((repeat refine Ev.p rfl rfl ?_); exact Ev.r rfl)
    · refine ⟨I, ?_, hI, MF.rf I⟩
      (repeat refine Ev.p rfl rfl ?_)
      refine Ev.c rfl (m_ringed hI hn hn6) ?_
      ((repeat refine Ev.p rfl rfl ?_); exact Ev.r rfl)
    · obtain ⟨I', f1, f2, f3⟩ := m_loose (X := X) (d := d + 1) (T := T) (G := G) hI hn hn6
      refine ⟨I', ?_, f2, f3⟩
      (repeat refine Ev.p rfl rfl ?_)
      refine Ev.c rfl f1 ?_
      ((repeat refine Ev.p rfl rfl ?_); exact Ev.r rfl)
end ACTS
