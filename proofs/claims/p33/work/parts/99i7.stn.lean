/-! THE LAW'S station: the object is made, matters, ties, a text -/
/-- kinds and v are the script's -/
def KX (X : Nat × (Nat → Int32)) (s : Nat → Int32) (n : Nat) : Prop := ∀ p, p < n → s (33 + p) = kiX X p ∧ s (39 + p) = vX X p
def PX (X : Nat × (Nat → Int32)) (N : Nat) : (Nat → Int32) → Nat → Prop := fun s n => n = N ∧ KX X s N
theorem stb_PX (X : Nat × (Nat → Int32)) (N : Nat) : Stb (PX X N) := fun s s' n hn kv h => by
  obtain ⟨e, h⟩ := h
  subst e
  exact ⟨rfl, fun p hp => ⟨(kv (33 + p) (by omega) (by omega)).trans (h p hp).1, (kv (39 + p) (by omega) (by omega)).trans (h p hp).2⟩⟩
theorem stb_T : Stb (fun _ _ => True) := fun _ _ _ _ _ _ => trivial
/-- the locals of station -/
def SL7 (du : Int32) (a b : Option Value) : List (Option Value) := [some (.retAddr 28), some (.int (-1)), some (.int 0), some (.int du), some (.ref 0), a, b]
section STN
variable {X : Nat × (Nat → Int32)} {d : Nat} {K : List (Nat × Nat)} {m N p : Nat} {im : Option Img} {P : (Nat → Int32) → Nat → Prop} {du : Int32}
theorem stn_52 (hX : X.1 ≤ 260) (hP : Stb P) : ∀ (mm k : Nat) (I : Nat → Nat → Int32) (R : Nat → Nat → Option Nat), k + mm = 4 → ST P m im K I R → ∃ I1 R1, ST P m im K I1 R1 ∧ ∀ Z : Option Value × Hp, (∀ y : Option Value, Ev X 61 kL_station 93 (SL7 du (some (.int (nI p))) y) [] (K, I1, R1) Z) → Ev X 61 kL_station 52 (SL7 du (some (.int (nI p))) (some (.int (nI k)))) [] (K, I, R) Z := by
  intro mm
  induction mm with
  | zero =>
    intro k I R hk h
    have e0 : k = 4 := by omega
    subst e0
    refine ⟨I, R, h, fun Z g => ?_⟩
    have g := g (some (.int (nI 4)))
    unfold SL7 at g ⊢
    (repeat (first | (refine Ev.at (q := 93) rfl ?_; exact g) | refine Ev.p rfl rfl ?_))
  | succ mm ih =>
    intro k I R hk h
    have k0 := h.k0
    have s1 := l_kind (X := X) (d := 59) (h := (K, I, R)) hX p
    by_cases h6 : kiX X p = 6
    · have s2 := l_row (X := X) (d := 59) (h := (K, I, R)) hX p k
      obtain ⟨w, I1, R1, e1, h1⟩ := u_row (X := X) h hP (nI p) (nI k) (roX X p k)
      have e1 := e1.dp (d' := 60) (by omega)
      obtain ⟨I2, R2, h2, g2⟩ := ih (k + 1) I1 R1 (by omega) h1
      refine ⟨I2, R2, h2, fun Z g => ?_⟩
      have g2 := g2 Z g
      rw [nI_succ k] at g2
      unfold SL7 at g2 ⊢
      (repeat refine Ev.p rfl rfl ?_)
      refine Ev.bp rfl (fun c => absurd c (nI_ge (b := 4) (by omega) (by omega))) (fun c => ?_)
      (repeat refine Ev.p rfl rfl ?_)
      refine Ev.c rfl s1 ?_
      (repeat refine Ev.p rfl rfl ?_)
      refine Ev.bp rfl (fun c => absurd h6 c) (fun c => ?_)
      (repeat refine Ev.p rfl rfl ?_)
      refine Ev.c rfl s2 ?_
      (repeat refine Ev.p rfl rfl ?_)
      refine Ev.cv (by rfl) (by rfl) (by assumption) (by rfl) (by rfl) (by rfl) (by rfl) (by rfl) e1 ?_
      (repeat (first | (refine Ev.at (q := 52) rfl ?_; exact g2) | refine Ev.p rfl rfl ?_))
    · refine ⟨I, R, h, fun Z g => ?_⟩
      have g := g (some (.int (nI k)))
      unfold SL7 at g ⊢
      (repeat refine Ev.p rfl rfl ?_)
      refine Ev.bp rfl (fun c => absurd c (nI_ge (b := 4) (by omega) (by omega))) (fun c => ?_)
      (repeat refine Ev.p rfl rfl ?_)
      refine Ev.c rfl s1 ?_
      (repeat refine Ev.p rfl rfl ?_)
      refine Ev.bp rfl (fun c => ?_) (fun c => absurd (Decidable.not_not.mp c) h6)
      (repeat (first | (refine Ev.at (q := 93) rfl ?_; exact g) | refine Ev.p rfl rfl ?_))
theorem stn_93 (hX : X.1 ≤ 260) (hP : Stb P) {I : Nat → Nat → Int32} {R : Nat → Nat → Option Nat} (h : ST P m im K I R) : ∃ I1 R1, ST P m im K I1 R1 ∧ ∀ Z : Option Value × Hp, (∀ y : Option Value, Ev X 61 kL_station 12 (SL7 du (some (.int (nI (p + 1)))) y) [] (K, I1, R1) Z) → ∀ y : Option Value, Ev X 61 kL_station 93 (SL7 du (some (.int (nI p))) y) [] (K, I, R) Z := by
  have k0 := h.k0
  have s1 := l_at (X := X) (d := 60) (h := (K, I, R)) hX (k := 3) (by omega)
  by_cases hz : (xa X 3 >>> ((nI p + 7) &&& 31)) &&& 7 = 0
  · obtain ⟨w, I1, R1, e1, h1⟩ := u_shelve (X := X) h hP (nI p) true
    have e1 := e1.dp (d' := 60) (by omega)
    refine ⟨I1, R1, h1, fun Z g y => ?_⟩
    have g := g y
    rw [nI_succ p] at g
    unfold SL7 at g ⊢
    (repeat refine Ev.p rfl rfl ?_)
    refine Ev.c rfl s1 ?_
    (repeat refine Ev.p rfl rfl ?_)
    refine Ev.bp rfl (fun c => absurd hz c) (fun c => ?_)
    (repeat refine Ev.p rfl rfl ?_)
    refine Ev.cv (by rfl) (by rfl) (by assumption) (by rfl) (by rfl) (by rfl) (by rfl) (by rfl) e1 ?_
    (repeat (first | (refine Ev.at (q := 12) rfl ?_; exact g) | refine Ev.p rfl rfl ?_))
  · refine ⟨I, R, h, fun Z g y => ?_⟩
    have g := g y
    rw [nI_succ p] at g
    unfold SL7 at g ⊢
    (repeat refine Ev.p rfl rfl ?_)
    refine Ev.c rfl s1 ?_
    (repeat refine Ev.p rfl rfl ?_)
    refine Ev.bp rfl (fun c => ?_) (fun c => absurd hz c)
    (repeat (first | (refine Ev.at (q := 12) rfl ?_; exact g) | refine Ev.p rfl rfl ?_))
theorem KX_mat {s : Nat → Int32} (hp : p < 6) (h : KX X s p) {a b : Int32} (ha : a = kiX X p) (hb : b = vX X p) : KX X (rMat s p a b) (p + 1) := by
  intro q hq
  rcases (by omega : q < p ∨ q = p) with g | g
  · rw [rMat_o hp (by omega) (by omega) (by omega) (by omega) (by omega) (by omega) (by omega) (by omega) (by omega), rMat_o hp (by omega) (by omega) (by omega) (by omega) (by omega) (by omega) (by omega) (by omega) (by omega)]
    exact h q g
  · subst g
    rw [rMat_33 hp, rMat_39 hp]
    exact ⟨ha, hb⟩
theorem stn_12 (hX : X.1 ≤ 260) (hN : maX X = nI N) (hN6 : N ≤ 6) : ∀ (mm p : Nat) (K : List (Nat × Nat)) (I : Nat → Nat → Int32) (R : Nat → Nat → Option Nat), p + mm = N → ST (PX X p) p none K I R → ∃ K1 I1 R1, ST (PX X N) N none K1 I1 R1 ∧ ∀ Z : Option Value × Hp, (∀ y : Option Value, Ev X 61 kL_station 125 (SL7 du (some (.int (nI N))) y) [] (K1, I1, R1) Z) → ∀ y : Option Value, Ev X 61 kL_station 12 (SL7 du (some (.int (nI p))) y) [] (K, I, R) Z := by
  intro mm
  induction mm with
  | zero =>
    intro p K I R hp h
    have e0 : p = N := by omega
    subst e0
    have s1 := l_matters (X := X) (d := 59) (h := (K, I, R)) hX
    rw [hN] at s1
    refine ⟨K, I, R, h, fun Z g y => ?_⟩
    have g := g y
    unfold SL7 at g ⊢
    (repeat refine Ev.p rfl rfl ?_)
    refine Ev.c rfl s1 ?_
    (repeat refine Ev.p rfl rfl ?_)
    refine Ev.bp rfl (fun c => ?_) (fun c => absurd (Int32.le_refl _) c)
    (repeat (first | (refine Ev.at (q := 125) rfl ?_; exact g) | refine Ev.p rfl rfl ?_))
  | succ mm ih =>
    intro p K I R hp h
    have k0 := h.k0
    have s1 := l_matters (X := X) (d := 59) (h := (K, I, R)) hX
    rw [hN] at s1
    have s2 := l_kind (X := X) (d := 59) (h := (K, I, R)) hX p
    have s3 := l_v (X := X) (d := 59) (h := (K, I, R)) hX p
    obtain ⟨kk, hkk, ek⟩ : ∃ kk, kk < 7 ∧ kiX X p = nI kk := sm_lt _ (by omega) (by omega)
    obtain ⟨w, hw, ew⟩ : ∃ w, w < 10 ∧ vX X p = nI w := sm_lt _ (by omega) (by omega)
    obtain ⟨s, n, hd, cls, e, l, hc, ⟨en, hkx⟩⟩ := h
    subst en
    obtain ⟨K1, I1, R1, e1, c1⟩ := k_matter (X := X) hc (by omega) (kk := kk) (w := w) (by omega) (by omega)
    have e1 := e1.dp (d' := 60) (by omega)
    have h1 : ST (PX X (n + 1)) (n + 1) none K1 I1 R1 := ⟨_, n + 1, hd, cls, e, l, c1, rfl, KX_mat (by omega) hkx ek.symm ew.symm⟩
    obtain ⟨I2, R2, h2, g2⟩ := stn_52 (X := X) (du := du) (p := n) hX (stb_PX X (n + 1)) 4 0 I1 R1 (by omega) h1
    obtain ⟨I3, R3, h3, g3⟩ := stn_93 (X := X) (du := du) (p := n) hX (stb_PX X (n + 1)) h2
    obtain ⟨K4, I4, R4, h4, g4⟩ := ih (n + 1) K1 I3 R3 (by omega) h3
    refine ⟨K4, I4, R4, h4, fun Z g y => ?_⟩
    have g5 := g2 Z (g3 Z (g4 Z g))
    rw [ek] at s2
    rw [ew] at s3
    unfold SL7 at g5 ⊢
    (repeat refine Ev.p rfl rfl ?_)
    refine Ev.c rfl s1 ?_
    (repeat refine Ev.p rfl rfl ?_)
    refine Ev.bp rfl (fun c => absurd c (nI_ge (by omega) (by omega))) (fun c => ?_)
    (repeat refine Ev.p rfl rfl ?_)
    refine Ev.c rfl s2 ?_
    (repeat refine Ev.p rfl rfl ?_)
    refine Ev.bp rfl (fun c => ?_) (fun c => ?_)
    · (repeat refine Ev.p rfl rfl ?_)
      refine Ev.c rfl s3 ?_
      (repeat refine Ev.p rfl rfl ?_)
      refine Ev.cv (by rfl) (by rfl) (by assumption) (by rfl) (by rfl) (by rfl) (by rfl) (by rfl) e1 ?_
      (repeat (first | (refine Ev.at (q := 52) rfl ?_; exact g5) | refine Ev.p rfl rfl ?_))
    · have c := congrArg Int32.toInt (Decidable.not_not.mp c)
      rw [nI_toInt (by omega), show (-1 : Int32).toInt = -1 from by decide] at c
      omega
/-- which ones hang -/
def tiX (X : Nat × (Nat → Int32)) (p q : Nat) : Int32 := (xa X 2 >>> (((5 * nI p + 3 * nI q) - (5 * nI p + 3 * nI q) / 29 * 29) &&& 31)) &&& 3
theorem stn_140 (hX : X.1 ≤ 260) (hP : Stb P) (hN : maX X = nI N) (hN6 : N ≤ 6) : ∀ (mm q : Nat) (I : Nat → Nat → Int32) (R : Nat → Nat → Option Nat), q + mm = N → ST P m im K I R → ∃ I1 R1, ST P m im K I1 R1 ∧ ∀ Z : Option Value × Hp, Ev X 61 kL_station 207 (SL7 du (some (.int (nI p))) (some (.int (nI N)))) [] (K, I1, R1) Z → Ev X 61 kL_station 140 (SL7 du (some (.int (nI p))) (some (.int (nI q)))) [] (K, I, R) Z := by
  intro mm
  induction mm with
  | zero =>
    intro q I R hq h
    have e0 : q = N := by omega
    subst e0
    have s1 := l_matters (X := X) (d := 59) (h := (K, I, R)) hX
    rw [hN] at s1
    refine ⟨I, R, h, fun Z g => ?_⟩
    unfold SL7 at g ⊢
    (repeat refine Ev.p rfl rfl ?_)
    refine Ev.c rfl s1 ?_
    (repeat refine Ev.p rfl rfl ?_)
    refine Ev.bp rfl (fun c => ?_) (fun c => absurd (Int32.le_refl _) c)
    (repeat (first | (refine Ev.at (q := 207) rfl ?_; exact g) | refine Ev.p rfl rfl ?_))
  | succ mm ih =>
    intro q I R hq h
    have k0 := h.k0
    have s1 := l_matters (X := X) (d := 59) (h := (K, I, R)) hX
    rw [hN] at s1
    have s2 := l_at (X := X) (d := 60) (h := (K, I, R)) hX (k := 2) (by omega)
    have s3 := l_at (X := X) (d := 60) (h := (K, I, R)) hX (k := 3) (by omega)
    by_cases h1 : tiX X p q = 3
    · by_cases h2 : nI q < nI p
      · obtain ⟨w, I1, R1, e1, c1⟩ := u_tie (X := X) h hP (nI p) (nI q) true
        have e1 := e1.dp (d' := 60) (by omega)
        obtain ⟨I2, R2, c2, g2⟩ := ih (q + 1) I1 R1 (by omega) c1
        refine ⟨I2, R2, c2, fun Z g => ?_⟩
        have g2 := g2 Z g
        rw [nI_succ q] at g2
        unfold SL7 at g2 ⊢
        (repeat refine Ev.p rfl rfl ?_)
        refine Ev.c rfl s1 ?_
        (repeat refine Ev.p rfl rfl ?_)
        refine Ev.bp rfl (fun c => absurd c (nI_ge (by omega) (by omega))) (fun c => ?_)
        (repeat refine Ev.p rfl rfl ?_)
        refine Ev.c rfl s2 ?_
        (repeat refine Ev.p rfl rfl ?_)
        refine Ev.bp rfl (fun c => absurd h1 c) (fun c => ?_)
        (repeat refine Ev.p rfl rfl ?_)
        refine Ev.bp rfl (fun c => ?_) (fun c => absurd h2 c)
        (repeat refine Ev.p rfl rfl ?_)
        refine Ev.cv (by rfl) (by rfl) (by assumption) (by rfl) (by rfl) (by rfl) (by rfl) (by rfl) e1 ?_
        (repeat (first | (refine Ev.at (q := 140) rfl ?_; exact g2) | refine Ev.p rfl rfl ?_))
      · by_cases h3 : xa X 3 &&& 1 = 0
        · obtain ⟨w, I1, R1, e1, c1⟩ := u_tie (X := X) h hP (nI p) (nI q) true
          have e1 := e1.dp (d' := 60) (by omega)
          obtain ⟨I2, R2, c2, g2⟩ := ih (q + 1) I1 R1 (by omega) c1
          refine ⟨I2, R2, c2, fun Z g => ?_⟩
          have g2 := g2 Z g
          rw [nI_succ q] at g2
          unfold SL7 at g2 ⊢
          (repeat refine Ev.p rfl rfl ?_)
          refine Ev.c rfl s1 ?_
          (repeat refine Ev.p rfl rfl ?_)
          refine Ev.bp rfl (fun c => absurd c (nI_ge (by omega) (by omega))) (fun c => ?_)
          (repeat refine Ev.p rfl rfl ?_)
          refine Ev.c rfl s2 ?_
          (repeat refine Ev.p rfl rfl ?_)
          refine Ev.bp rfl (fun c => absurd h1 c) (fun c => ?_)
          (repeat refine Ev.p rfl rfl ?_)
          refine Ev.bp rfl (fun c => absurd c h2) (fun c => ?_)
          (repeat refine Ev.p rfl rfl ?_)
          refine Ev.c rfl s3 ?_
          (repeat refine Ev.p rfl rfl ?_)
          refine Ev.bp rfl (fun c => absurd h3 c) (fun c => ?_)
          (repeat refine Ev.p rfl rfl ?_)
          refine Ev.cv (by rfl) (by rfl) (by assumption) (by rfl) (by rfl) (by rfl) (by rfl) (by rfl) e1 ?_
          (repeat (first | (refine Ev.at (q := 140) rfl ?_; exact g2) | refine Ev.p rfl rfl ?_))
        · obtain ⟨I2, R2, c2, g2⟩ := ih (q + 1) I R (by omega) h
          refine ⟨I2, R2, c2, fun Z g => ?_⟩
          have g2 := g2 Z g
          rw [nI_succ q] at g2
          unfold SL7 at g2 ⊢
          (repeat refine Ev.p rfl rfl ?_)
          refine Ev.c rfl s1 ?_
          (repeat refine Ev.p rfl rfl ?_)
          refine Ev.bp rfl (fun c => absurd c (nI_ge (by omega) (by omega))) (fun c => ?_)
          (repeat refine Ev.p rfl rfl ?_)
          refine Ev.c rfl s2 ?_
          (repeat refine Ev.p rfl rfl ?_)
          refine Ev.bp rfl (fun c => absurd h1 c) (fun c => ?_)
          (repeat refine Ev.p rfl rfl ?_)
          refine Ev.bp rfl (fun c => absurd c h2) (fun c => ?_)
          (repeat refine Ev.p rfl rfl ?_)
          refine Ev.c rfl s3 ?_
          (repeat refine Ev.p rfl rfl ?_)
          refine Ev.bp rfl (fun c => ?_) (fun c => absurd h3 c)
          (repeat (first | (refine Ev.at (q := 140) rfl ?_; exact g2) | refine Ev.p rfl rfl ?_))
    · obtain ⟨I2, R2, c2, g2⟩ := ih (q + 1) I R (by omega) h
      refine ⟨I2, R2, c2, fun Z g => ?_⟩
      have g2 := g2 Z g
      rw [nI_succ q] at g2
      unfold SL7 at g2 ⊢
      (repeat refine Ev.p rfl rfl ?_)
      refine Ev.c rfl s1 ?_
      (repeat refine Ev.p rfl rfl ?_)
      refine Ev.bp rfl (fun c => absurd c (nI_ge (by omega) (by omega))) (fun c => ?_)
      (repeat refine Ev.p rfl rfl ?_)
      refine Ev.c rfl s2 ?_
      (repeat refine Ev.p rfl rfl ?_)
      refine Ev.bp rfl (fun c => ?_) (fun c => absurd (Decidable.not_not.mp c) h1)
      (repeat (first | (refine Ev.at (q := 140) rfl ?_; exact g2) | refine Ev.p rfl rfl ?_))
theorem stn_128 (hX : X.1 ≤ 260) (hP : Stb P) (hN : maX X = nI N) (hN6 : N ≤ 6) : ∀ (mm p : Nat) (I : Nat → Nat → Int32) (R : Nat → Nat → Option Nat), p + mm = N → ST P m im K I R → ∃ I1 R1, ST P m im K I1 R1 ∧ ∀ Z : Option Value × Hp, (∀ y : Option Value, Ev X 61 kL_station 213 (SL7 du (some (.int (nI N))) y) [] (K, I1, R1) Z) → ∀ y : Option Value, Ev X 61 kL_station 128 (SL7 du (some (.int (nI p))) y) [] (K, I, R) Z := by
  intro mm
  induction mm with
  | zero =>
    intro p I R hp h
    have e0 : p = N := by omega
    subst e0
    have s1 := l_matters (X := X) (d := 59) (h := (K, I, R)) hX
    rw [hN] at s1
    refine ⟨I, R, h, fun Z g y => ?_⟩
    have g := g y
    unfold SL7 at g ⊢
    (repeat refine Ev.p rfl rfl ?_)
    refine Ev.c rfl s1 ?_
    (repeat refine Ev.p rfl rfl ?_)
    refine Ev.bp rfl (fun c => ?_) (fun c => absurd (Int32.le_refl _) c)
    (repeat (first | (refine Ev.at (q := 213) rfl ?_; exact g) | refine Ev.p rfl rfl ?_))
  | succ mm ih =>
    intro p I R hp h
    have k0 := h.k0
    have s1 := l_matters (X := X) (d := 59) (h := (K, I, R)) hX
    rw [hN] at s1
    obtain ⟨I1, R1, h1, g1⟩ := stn_140 (X := X) (du := du) (p := p) hX hP hN hN6 N 0 I R (by omega) h
    obtain ⟨I2, R2, h2, g2⟩ := ih (p + 1) I1 R1 (by omega) h1
    refine ⟨I2, R2, h2, fun Z g y => ?_⟩
    have g3 := g2 Z g (some (.int (nI N)))
    rw [nI_succ p] at g3
    have g4 := g1 Z (by unfold SL7 at g3 ⊢; (repeat (first | (refine Ev.at (q := 128) rfl ?_; exact g3) | refine Ev.p rfl rfl ?_)))
    unfold SL7 at g4 ⊢
    (repeat refine Ev.p rfl rfl ?_)
    refine Ev.c rfl s1 ?_
    (repeat refine Ev.p rfl rfl ?_)
    refine Ev.bp rfl (fun c => absurd c (nI_ge (by omega) (by omega))) (fun c => ?_)
    (repeat (first | (refine Ev.at (q := 140) rfl ?_; exact g4) | refine Ev.p rfl rfl ?_))
theorem stn_225 (hP : Stb P) {i L : Nat} (hi : i < 13) (hL : L = (txt i).length) (hL1 : L < 100) : ∀ (mm k : Nat) (I : Nat → Nat → Int32) (R : Nat → Nat → Option Nat), k + mm = L → ST P m im K I R → ∃ I1 R1, ST P m im K I1 R1 ∧ ∀ Z : Option Value × Hp, Ev X 61 kL_station 254 (SL7 du (some (.retAddr i)) (some (.int (nI L)))) [] (K, I1, R1) Z → Ev X 61 kL_station 225 (SL7 du (some (.retAddr i)) (some (.int (nI k)))) [] (K, I, R) Z := by
  intro mm
  induction mm with
  | zero =>
    intro k I R hk h
    have e0 : k = L := by omega
    have s1 := j_length (X := X) (d := 59) hi (K, I, R)
    rw [← hL] at s1
    refine ⟨I, R, h, fun Z g => ?_⟩
    rw [e0]
    unfold SL7 at g ⊢
    rcases (by omega : i = 0 ∨ i = 1 ∨ i = 2 ∨ i = 3 ∨ i = 4 ∨ i = 5 ∨ i = 6 ∨ i = 7 ∨ i = 8 ∨ i = 9 ∨ i = 10 ∨ i = 11 ∨ i = 12) with rfl | rfl | rfl | rfl | rfl | rfl | rfl | rfl | rfl | rfl | rfl | rfl | rfl
    all_goals
      (repeat refine Ev.p rfl rfl ?_)
      refine Ev.c rfl s1 ?_
      (repeat refine Ev.p rfl rfl ?_)
      refine Ev.bp rfl (fun c => ?_) (fun c => absurd (Int32.le_refl _) c)
      (repeat (first | (refine Ev.at (q := 254) rfl ?_; exact g) | refine Ev.p rfl rfl ?_))
  | succ mm ih =>
    intro k I R hk h
    have k0 := h.k0
    have s1 := j_length (X := X) (d := 59) hi (K, I, R)
    rw [← hL] at s1
    have j1 := j_charAt (X := X) (d := 57) hi (K, I, R) (j := k) (by omega)
    obtain ⟨w, I1, R1, e1, h1⟩ := u_feed (X := X) h hP ((txt i).getD k 0)
    have e1 := e1.dp (d' := 60) (by omega)
    obtain ⟨I2, R2, h2, g2⟩ := ih (k + 1) I1 R1 (by omega) h1
    refine ⟨I2, R2, h2, fun Z g => ?_⟩
    have g2 := g2 Z g
    rw [nI_succ k] at g2
    unfold SL7 at g2 ⊢
    rcases (by omega : i = 0 ∨ i = 1 ∨ i = 2 ∨ i = 3 ∨ i = 4 ∨ i = 5 ∨ i = 6 ∨ i = 7 ∨ i = 8 ∨ i = 9 ∨ i = 10 ∨ i = 11 ∨ i = 12) with rfl | rfl | rfl | rfl | rfl | rfl | rfl | rfl | rfl | rfl | rfl | rfl | rfl
    all_goals
      (repeat refine Ev.p rfl rfl ?_)
      refine Ev.c rfl s1 ?_
      (repeat refine Ev.p rfl rfl ?_)
      refine Ev.bp rfl (fun c => absurd c (nI_ge (by omega) (by omega))) (fun c => ?_)
      (repeat refine Ev.p rfl rfl ?_)
      refine Ev.c rfl j1 ?_
      (repeat refine Ev.p rfl rfl ?_)
      refine Ev.cv (by rfl) (by rfl) (by assumption) (by rfl) (by rfl) (by rfl) (by rfl) (by rfl) e1 ?_
      (repeat (first | (refine Ev.at (q := 225) rfl ?_; exact g2) | refine Ev.p rfl rfl ?_))
theorem stn_273 (hP : Stb P) {I : Nat → Nat → Int32} {R : Nat → Nat → Option Nat} (h : ST P m im K I R) : ∃ K1 I1 R1, (∀ y z : Option Value, Ev X 61 kL_station 273 (SL7 du y z) [] (K, I, R) (some (.ref 0), (K1, I1, R1))) ∧ ST P (m + 1) im K1 I1 R1 := by
  have k0 := h.k0
  obtain ⟨w, I1, R1, e1, h1⟩ := u_feed (X := X) h hP (48 + (du - du / 10 * 10))
  have e1 := e1.dp (d' := 60) (by omega)
  obtain ⟨w2, K2, I2, R2, e2, h2⟩ := u_station (X := X) h1 hP
  have e2 := e2.dp (d' := 60) (by omega)
  refine ⟨K2, I2, R2, fun y z => ?_, h2⟩
  unfold SL7
  (repeat refine Ev.p rfl rfl ?_)
  refine Ev.cv (by rfl) (by rfl) (by assumption) (by rfl) (by rfl) (by rfl) (by rfl) (by rfl) e1 ?_
  (repeat refine Ev.p rfl rfl ?_)
  refine Ev.cv (by rfl) (by rfl) (by assumption) (by rfl) (by rfl) (by rfl) (by rfl) (by rfl) e2 ?_
  ((repeat refine Ev.p rfl rfl ?_); exact Ev.r rfl)
theorem stn_254 (hP : Stb P) {I : Nat → Nat → Int32} {R : Nat → Nat → Option Nat} (h : ST P m im K I R) : ∃ K1 I1 R1, (∀ y z : Option Value, Ev X 61 kL_station 254 (SL7 du y z) [] (K, I, R) (some (.ref 0), (K1, I1, R1))) ∧ ST P (m + 1) im K1 I1 R1 := by
  have k0 := h.k0
  by_cases h9 : du ≤ 9
  · obtain ⟨K1, I1, R1, g1, h1⟩ := stn_273 (X := X) (du := du) hP h
    refine ⟨K1, I1, R1, fun y z => ?_, h1⟩
    have g1 := g1 y z
    unfold SL7 at g1 ⊢
    (repeat refine Ev.p rfl rfl ?_)
    refine Ev.bp rfl (fun c => ?_) (fun c => absurd h9 c)
    (repeat (first | (refine Ev.at (q := 273) rfl ?_; exact g1) | refine Ev.p rfl rfl ?_))
  · obtain ⟨w, I1, R1, e1, h1⟩ := u_feed (X := X) h hP (48 + du / 10)
    have e1 := e1.dp (d' := 60) (by omega)
    obtain ⟨K2, I2, R2, g2, h2⟩ := stn_273 (X := X) (du := du) hP h1
    refine ⟨K2, I2, R2, fun y z => ?_, h2⟩
    have g2 := g2 y z
    unfold SL7 at g2 ⊢
    (repeat refine Ev.p rfl rfl ?_)
    refine Ev.bp rfl (fun c => absurd c h9) (fun c => ?_)
    (repeat refine Ev.p rfl rfl ?_)
    refine Ev.cv (by rfl) (by rfl) (by assumption) (by rfl) (by rfl) (by rfl) (by rfl) (by rfl) e1 ?_
    (repeat (first | (refine Ev.at (q := 273) rfl ?_; exact g2) | refine Ev.p rfl rfl ?_))
theorem txt_len : ∀ i, i < 13 → (txt i).length < 100 := by decide
/-- the object that the law makes -/
theorem l_station (hX : X.1 ≤ 260) (hN : maX X = nI N) (hN6 : N ≤ 6) (du : Int32) : ∃ K1 I1 R1, Ev X 61 kL_station 0 (ent kL_station [.retAddr 28, .int (-1), .int 0, .int du]) [] ([], fun _ _ => 0, fun _ _ => none) (some (.ref 0), (K1, I1, R1)) ∧ ST (PX X N) (N + 1) none K1 I1 R1 := by
  obtain ⟨J, Q, e1, h1⟩ := c_init11 (X := X) (d := 57) (K := [(11, 8)]) (I := zrI (fun _ _ => 0) 0) (R := zrR (fun _ _ => none) 0) rfl rfl
  have hc0 : ST (PX X 0) 0 none (K0 ++ []) J Q := ⟨s0, 0, none, [], 0, [], ⟨[], rfl, ⟨Nat.le_refl _, Nat.le_refl _⟩, ct_0 h1⟩, rfl, fun p hp => by omega⟩
  obtain ⟨K2, I2, R2, h2, g2⟩ := stn_12 (X := X) (du := du) hX hN hN6 N 0 (K0 ++ []) J Q (by omega) hc0
  obtain ⟨I3, R3, h3, g3⟩ := stn_128 (X := X) (du := du) hX (stb_PX X N) hN hN6 N 0 I2 R2 (by omega) h2
  have s1 := l_which (X := X) (d := 59) (h := (K2, I3, R3)) hX
  obtain ⟨i, i7, i9, s2⟩ := l_text (X := X) (d := 60) (h := (K2, I3, R3)) (whX X) (sm_lt _ (by omega) (by omega))
  obtain ⟨I4, R4, h4, g4⟩ := stn_225 (X := X) (du := du) (i := i) (stb_PX X N) (by omega) rfl (txt_len i (by omega)) (txt i).length 0 I3 R3 (by omega) h3
  obtain ⟨K5, I5, R5, g5, h5⟩ := stn_254 (X := X) (du := du) (stb_PX X N) h4
  refine ⟨K5, I5, R5, ?_, h5⟩
  have g4 := g4 _ (g5 _ _)
  have g6 : ∀ y : Option Value, Ev X 61 kL_station 213 (SL7 du (some (.int (nI N))) y) [] (K2, I3, R3) (some (.ref 0), (K5, I5, R5)) := fun y => by
    unfold SL7 at g4 ⊢
    (repeat refine Ev.p rfl rfl ?_)
    refine Ev.c rfl s1 ?_
    (repeat refine Ev.p rfl rfl ?_)
    refine Ev.c rfl s2 ?_
    (repeat (first | (refine Ev.at (q := 225) rfl ?_; exact g4) | refine Ev.p rfl rfl ?_))
  have g3 := g3 _ g6
  have g7 : ∀ y : Option Value, Ev X 61 kL_station 125 (SL7 du (some (.int (nI N))) y) [] (K2, I2, R2) (some (.ref 0), (K5, I5, R5)) := fun y => by
    have g3 := g3 y
    unfold SL7 at g3 ⊢
    (repeat (first | (refine Ev.at (q := 128) rfl ?_; exact g3) | refine Ev.p rfl rfl ?_))
  have g2 := g2 _ g7 none
  unfold SL7 at g2
  refine Ev.nw (L := 0) (by rfl) rfl ?_
  iterate 1 refine Ev.p rfl rfl ?_
  refine Ev.csp (by rfl) (by rfl) (by rfl) (show [((11 : Nat), (8 : Nat))][0]? = some (11, 8) from rfl) (by rfl) (by rfl) (by rfl) (by rfl) e1 ?_
  iterate 3 refine Ev.p rfl rfl ?_
  refine Ev.ls (ls2 := [some (.retAddr 28), some (.int (-1)), some (.int 0), some (.int du), some (.ref 0), some (.int (nI 0)), none]) rfl ?_
  refine Ev.at (q := 12) rfl ?_
  exact g2
end STN
