/-! THE LAW'S NUMBER FOR ALL: a number of the row -/
def nuM : Int64 := (1000003 : Int32).toInt64
def nuA (f : Nat → Int32) : Nat → Nat → Int64 → Int64
  | _, 0, D => D
  | k, mm + 1, D => nuA f (k + 1) mm (nuM * D + (f k).toInt64)
def nuP (s : Nat → Int32) (n : Nat) (cls : Cls) : Nat → Nat → Int64 → Int64
  | _, 0, D => D
  | p, mm + 1, D => nuP s n cls (p + 1) mm (nuA (ofV s n cls p) 0 9 D)
def nuF (s : Nat → Int32) (n : Nat) (hd : Option Nat) (cls : Cls) (b : Nat) : Int32 := (da (fun v => rAll (upd s (39 + 0) (nI v)) n cls (rT s hd 222 20) (rT s hd 227 1) b) 10 9 (0, -5)).1
def nuD (s : Nat → Int32) (n : Nat) (hd : Option Nat) (cls : Cls) (b w : Nat) : Int32 := if w = 0 then rSO (rDn s n cls (rT s hd 222 20) (rT s hd 227 1) b) n else rDn s n cls (rT s hd 222 20) (rT s hd 227 1) b 1
def nuV (s : Nat → Int32) (n : Nat) (hd : Option Nat) (cls : Cls) (b1 b2 : Nat) (r : Int32) : Int64 := nuM * (nuM * (nuM * (nuM * nuP s n cls 0 n (nuA (rTold s n hd cls) 0 8 (nuA (fun k => s (26 + k)) 0 6 (7 : Int32).toInt64)) + (nuF s n hd cls b1).toInt64) + (nuD s n hd cls b2 0).toInt64) + (nuD s n hd cls b2 1).toInt64) + r.toInt64
section ALL
variable {X : Nat × (Nat → Int32)} {K : List (Nat × Nat)} {s : Nat → Int32} {n e m : Nat} {hd : Option Nat} {cls : Cls} {l : List Int32} {im : Option Img}
theorem all_1 : ∀ (mm k : Nat) (D : Int64) (I : Nat → Nat → Int32) (R : Nat → Nat → Option Nat), k + mm = 6 → CK K I R s n hd cls e l im m → ∃ I1 R1, CK K I1 R1 s n hd cls e l im m ∧ ∀ Z : Option Value × Hp, Ev X 60 kL_all 31 [some (.ref 0), some (.long (nuA (fun k => s (26 + k)) k mm D)), none, some (.int (nI 6)), none] [] (K, I1, R1) Z → Ev X 60 kL_all 6 [some (.ref 0), some (.long D), none, some (.int (nI k)), none] [] (K, I, R) Z := by
  intro mm
  induction mm with
  | zero =>
    intro k D I R hk h
    have e0 : k = 6 := by omega
    subst e0
    refine ⟨I, R, h, fun Z g => ?_⟩
    (repeat (first | (refine Ev.at (q := 31) rfl ?_; exact g) | refine Ev.p rfl rfl ?_))
  | succ mm ih =>
    intro k D I R hk h
    obtain ⟨I1, R1, e1, c1⟩ := q_count (X := X) h (x := nI k) (k := k) (by omega) rfl
    obtain ⟨I2, R2, c2, g2⟩ := ih (k + 1) (nuM * D + (s (26 + k)).toInt64) I1 R1 (by omega) c1
    refine ⟨I2, R2, c2, fun Z g => ?_⟩
    have g3 := g2 Z g
    rw [nI_succ k] at g3
    have k0 := h.k0
    (repeat refine Ev.p rfl rfl ?_)
    refine Ev.bp rfl (fun c => absurd c (nI_ge (b := 6) (by omega) (by omega))) (fun c => ?_)
    (repeat refine Ev.p rfl rfl ?_)
    refine Ev.cv (by rfl) (by rfl) (by assumption) (by rfl) (by rfl) (by rfl) (by rfl) (by rfl) e1 ?_
    (repeat (first | (refine Ev.at (q := 6) rfl ?_; exact g3) | refine Ev.p rfl rfl ?_))
theorem all_2 : ∀ (mm k : Nat) (D : Int64) (I : Nat → Nat → Int32) (R : Nat → Nat → Option Nat), k + mm = 8 → CK K I R s n hd cls e l im m → ∃ I1 R1, CK K I1 R1 s n hd cls e l im m ∧ ∀ Z : Option Value × Hp, Ev X 60 kL_all 58 [some (.ref 0), some (.long (nuA (rTold s n hd cls) k mm D)), none, some (.int (nI 8)), none] [] (K, I1, R1) Z → Ev X 60 kL_all 33 [some (.ref 0), some (.long D), none, some (.int (nI k)), none] [] (K, I, R) Z := by
  intro mm
  induction mm with
  | zero =>
    intro k D I R hk h
    have e0 : k = 8 := by omega
    subst e0
    refine ⟨I, R, h, fun Z g => ?_⟩
    (repeat (first | (refine Ev.at (q := 58) rfl ?_; exact g) | refine Ev.p rfl rfl ?_))
  | succ mm ih =>
    intro k D I R hk h
    obtain ⟨I1, R1, e1, c1⟩ := q_told (X := X) h (x := nI k) (w := k) (by omega) rfl
    obtain ⟨I2, R2, c2, g2⟩ := ih (k + 1) (nuM * D + (rTold s n hd cls k).toInt64) I1 R1 (by omega) c1
    refine ⟨I2, R2, c2, fun Z g => ?_⟩
    have g3 := g2 Z g
    rw [nI_succ k] at g3
    have k0 := h.k0
    (repeat refine Ev.p rfl rfl ?_)
    refine Ev.bp rfl (fun c => absurd c (nI_ge (b := 8) (by omega) (by omega))) (fun c => ?_)
    (repeat refine Ev.p rfl rfl ?_)
    refine Ev.cv (by rfl) (by rfl) (by assumption) (by rfl) (by rfl) (by rfl) (by rfl) (by rfl) e1 ?_
    (repeat (first | (refine Ev.at (q := 33) rfl ?_; exact g3) | refine Ev.p rfl rfl ?_))
theorem all_3 {p : Nat} (hp : p < n) : ∀ (mm j : Nat) (D : Int64) (I : Nat → Nat → Int32) (R : Nat → Nat → Option Nat), j + mm = 9 → CK K I R s n hd cls e l im m → ∃ I1 R1, CK K I1 R1 s n hd cls e l im m ∧ ∀ Z : Option Value × Hp, Ev X 60 kL_all 100 [some (.ref 0), some (.long (nuA (ofV s n cls p) j mm D)), none, some (.int (nI p)), some (.int (nI 9))] [] (K, I1, R1) Z → Ev X 60 kL_all 72 [some (.ref 0), some (.long D), none, some (.int (nI p)), some (.int (nI j))] [] (K, I, R) Z := by
  intro mm
  induction mm with
  | zero =>
    intro j D I R hj h
    have e0 : j = 9 := by omega
    subst e0
    refine ⟨I, R, h, fun Z g => ?_⟩
    (repeat (first | (refine Ev.at (q := 100) rfl ?_; exact g) | refine Ev.p rfl rfl ?_))
  | succ mm ih =>
    intro j D I R hj h
    obtain ⟨I1, R1, e1, c1⟩ := q_of (X := X) h (x := nI p) (y := nI j) hp (w := j) (by omega) rfl rfl
    obtain ⟨I2, R2, c2, g2⟩ := ih (j + 1) (nuM * D + (ofV s n cls p j).toInt64) I1 R1 (by omega) c1
    refine ⟨I2, R2, c2, fun Z g => ?_⟩
    have g3 := g2 Z g
    rw [nI_succ j] at g3
    have k0 := h.k0
    (repeat refine Ev.p rfl rfl ?_)
    refine Ev.bp rfl (fun c => absurd c (nI_ge (b := 9) (by omega) (by omega))) (fun c => ?_)
    (repeat refine Ev.p rfl rfl ?_)
    refine Ev.cv (by rfl) (by rfl) (by assumption) (by rfl) (by rfl) (by rfl) (by rfl) (by rfl) e1 ?_
    (repeat (first | (refine Ev.at (q := 72) rfl ?_; exact g3) | refine Ev.p rfl rfl ?_))
theorem all_4 : ∀ (mm p : Nat) (D : Int64) (I : Nat → Nat → Int32) (R : Nat → Nat → Option Nat), p + mm = n → CK K I R s n hd cls e l im m → ∃ I1 R1, CK K I1 R1 s n hd cls e l im m ∧ ∀ Z : Option Value × Hp, (∀ y : Option Value, Ev X 60 kL_all 106 [some (.ref 0), some (.long (nuP s n cls p mm D)), none, some (.int (nI n)), y] [] (K, I1, R1) Z) → ∀ y : Option Value, Ev X 60 kL_all 60 [some (.ref 0), some (.long D), none, some (.int (nI p)), y] [] (K, I, R) Z := by
  intro mm
  induction mm with
  | zero =>
    intro p D I R hp h
    have e0 : p = n := by omega
    subst e0
    obtain ⟨I1, R1, e1, c1⟩ := q_count (X := X) h (x := 0) (k := 0) (by omega) rfl
    rw [show s (26 + 0) = nI p from h.G.1.1] at e1
    refine ⟨I1, R1, c1, fun Z g y => ?_⟩
    have k0 := h.k0
    (repeat refine Ev.p rfl rfl ?_)
    refine Ev.cv (by rfl) (by rfl) (by assumption) (by rfl) (by rfl) (by rfl) (by rfl) (by rfl) e1 ?_
    (repeat refine Ev.p rfl rfl ?_)
    refine Ev.bp rfl (fun c => ?_) (fun c => absurd (Int32.le_refl _) c)
    (repeat (first | (refine Ev.at (q := 106) rfl ?_; exact (g y)) | refine Ev.p rfl rfl ?_))
  | succ mm ih =>
    intro p D I R hp h
    have hn := h.n6
    obtain ⟨I1, R1, e1, c1⟩ := q_count (X := X) h (x := 0) (k := 0) (by omega) rfl
    rw [show s (26 + 0) = nI n from h.G.1.1] at e1
    obtain ⟨I2, R2, c2, g2⟩ := all_3 (X := X) (p := p) (by omega) 9 0 D I1 R1 (by omega) c1
    obtain ⟨I3, R3, c3, g3⟩ := ih (p + 1) (nuA (ofV s n cls p) 0 9 D) I2 R2 (by omega) c2
    refine ⟨I3, R3, c3, fun Z g y => ?_⟩
    have g4 := g3 Z g (some (.int (nI 9)))
    rw [nI_succ p] at g4
    have g5 := g2 Z (by (repeat (first | (refine Ev.at (q := 60) rfl ?_; exact g4) | refine Ev.p rfl rfl ?_)))
    have k0 := h.k0
    (repeat refine Ev.p rfl rfl ?_)
    refine Ev.cv (by rfl) (by rfl) (by assumption) (by rfl) (by rfl) (by rfl) (by rfl) (by rfl) e1 ?_
    (repeat refine Ev.p rfl rfl ?_)
    refine Ev.bp rfl (fun c => absurd c (nI_ge (by omega) (by omega))) (fun c => ?_)
    (repeat (first | (refine Ev.at (q := 72) rfl ?_; exact g5) | refine Ev.p rfl rfl ?_))
/-- the number, and all as it was -/
theorem l_all {I : Nat → Nat → Int32} {R : Nat → Nat → Option Nat} (h : CK K I R s n hd cls e l im m) (hn : 0 < n) {b1 b2 : Nat} {r : Int32} (h1 : SN s n b1) (h2 : SP s n b2) (h3 : LR s r) : ∃ I1 R1, Ev X 60 kL_all 0 (ent kL_all [.ref 0]) [] (K, I, R) (some (.long (nuV s n hd cls b1 b2 r)), (K, I1, R1)) ∧ CK K I1 R1 s n hd cls e l im m := by
  have k0 := h.k0
  obtain ⟨I1, R1, c1, g1⟩ := all_1 (X := X) 6 0 (7 : Int32).toInt64 I R (by omega) h
  obtain ⟨I2, R2, c2, g2⟩ := all_2 (X := X) 8 0 (nuA (fun k => s (26 + k)) 0 6 (7 : Int32).toInt64) I1 R1 (by omega) c1
  obtain ⟨I3, R3, c3, g3⟩ := all_4 (X := X) n 0 (nuA (rTold s n hd cls) 0 8 (nuA (fun k => s (26 + k)) 0 6 (7 : Int32).toInt64)) I2 R2 (by omega) c2
  obtain ⟨b1', hb1', I4, R4, e4, c4⟩ := q_firm (X := X) c3 hn
  have eb : b1' = b1 := (nI_eq (by have := hb1'.2.1; omega) (by have := h1.2.1; omega)).mp (hb1'.1.symm.trans h1.1)
  subst eb
  obtain ⟨I5, R5, e5, c5⟩ := q_done (X := X) c4 h2 (x := 0) (w := 0) (by omega) rfl
  obtain ⟨I6, R6, e6, c6⟩ := q_done (X := X) c5 h2 (x := 1) (w := 1) (by omega) rfl
  obtain ⟨I7, R7, e7, c7⟩ := q_looked (X := X) c6 h3
  refine ⟨I7, R7, ?_, c7⟩
  have fin : ∀ y : Option Value, Ev X 60 kL_all 106 [some (.ref 0), some (.long (nuP s n cls 0 n (nuA (rTold s n hd cls) 0 8 (nuA (fun k => s (26 + k)) 0 6 (7 : Int32).toInt64)))), none, some (.int (nI n)), y] [] (K, I3, R3) (some (.long (nuV s n hd cls b1' b2 r)), (K, I7, R7)) := fun y => by
    (repeat refine Ev.p rfl rfl ?_)
    refine Ev.cv (by rfl) (by rfl) (by assumption) (by rfl) (by rfl) (by rfl) (by rfl) (by rfl) e4 ?_
    (repeat refine Ev.p rfl rfl ?_)
    refine Ev.cv (by rfl) (by rfl) (by assumption) (by rfl) (by rfl) (by rfl) (by rfl) (by rfl) e5 ?_
    (repeat refine Ev.p rfl rfl ?_)
    refine Ev.cv (by rfl) (by rfl) (by assumption) (by rfl) (by rfl) (by rfl) (by rfl) (by rfl) e6 ?_
    (repeat refine Ev.p rfl rfl ?_)
    refine Ev.cv (by rfl) (by rfl) (by assumption) (by rfl) (by rfl) (by rfl) (by rfl) (by rfl) e7 ?_
    ((repeat refine Ev.p rfl rfl ?_); exact Ev.r rfl)
  have g3 := g3 _ fin none
  have g2 := g2 (some (.long (nuV s n hd cls b1' b2 r)), (K, I7, R7)) (by (repeat (first | (refine Ev.at (q := 60) rfl ?_; exact g3) | refine Ev.p rfl rfl ?_)))
  have g1 := g1 (some (.long (nuV s n hd cls b1' b2 r)), (K, I7, R7)) (by (repeat (first | (refine Ev.at (q := 33) rfl ?_; exact g2) | refine Ev.p rfl rfl ?_)))
  (repeat (first | (refine Ev.at (q := 6) rfl ?_; exact g1) | refine Ev.p rfl rfl ?_))
end ALL
