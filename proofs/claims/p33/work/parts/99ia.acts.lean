/-! ACTS run the bodies of their kind -/
/-- turns by hand -/
def act2X (k i v x : Int32) : Int32 := if k = 4 then act1X k i v (x - 1) * 2 + act0X k i 2 else if k = 3 ∨ k = 6 then (act1X k i v x * 2) ^^^ 7 else act1X k i v x * 2
def tr0 (kk : Nat) : Int32 := match kk with
  | 1 => 11
  | 4 => 11
  | 5 => 51
  | _ => 1
def tr1 (kk : Nat) : Int32 := match kk with
  | 2 => 21
  | 5 => 21
  | 6 => 61
  | _ => 2
def tr2 (kk : Nat) : Int32 := match kk with
  | 3 => 31
  | 4 => 41
  | 6 => 31
  | _ => 3
theorem act_0 {kk : Nat} (hk : kk ≤ 6) (i v x : Int32) : act0X (nI kk) i x = (aAct kk i v x 0).1 ∧ (aAct kk i v x 0).2[0]? = some (tr0 kk) := by
  rcases (by omega : kk = 0 ∨ kk = 1 ∨ kk = 2 ∨ kk = 3 ∨ kk = 4 ∨ kk = 5 ∨ kk = 6) with rfl | rfl | rfl | rfl | rfl | rfl | rfl <;> exact ⟨rfl, rfl⟩
theorem act_1 {kk : Nat} (hk : kk ≤ 6) (i v x : Int32) : act1X (nI kk) i v x = (aAct kk i v x 1).1 ∧ (aAct kk i v x 1).2[0]? = some (tr1 kk) := by
  rcases (by omega : kk = 0 ∨ kk = 1 ∨ kk = 2 ∨ kk = 3 ∨ kk = 4 ∨ kk = 5 ∨ kk = 6) with rfl | rfl | rfl | rfl | rfl | rfl | rfl <;> exact ⟨rfl, rfl⟩
theorem act_2 {kk : Nat} (hk : kk ≤ 6) (i v x : Int32) : act2X (nI kk) i v x = (aAct kk i v x 2).1 ∧ (aAct kk i v x 2).2[0]? = some (tr2 kk) := by
  rcases (by omega : kk = 0 ∨ kk = 1 ∨ kk = 2 ∨ kk = 3 ∨ kk = 4 ∨ kk = 5 ∨ kk = 6) with rfl | rfl | rfl | rfl | rfl | rfl | rfl <;> exact ⟨rfl, rfl⟩
section ACTS3
variable {X : Nat × (Nat → Int32)} {d : Nat} {K : List (Nat × Nat)} {I : Nat → Nat → Int32} {R : Nat → Nat → Option Nat} {s : Nat → Int32} {n e m i j kk : Nat} {hd : Option Nat} {cls : Cls} {l : List Int32} {im : Option Img} {c al x v : Int32} {bf : Int64}
theorem k_act (h : CK K I R s n hd cls e l im m) (hj : j < n) {w : Nat} (hw : w ≤ 2) {y : Int32} (hy : y = nI w) (hkk : kk ≤ 6) (hs : s (33 + j) = nI kk) (hv : s (39 + j) = v) : ∃ I1, Ev X 59 kX11_act 0 (ent kX11_act [.ref 0, .int (nI j), .int y, .int x]) [] (K, I, R) (some (.int (aAct kk (nI j) v x w).1), (K, I1, R)) ∧ CK K I1 R s n hd cls e (aAct kk (nI j) v x w).2 im m := by
  obtain ⟨I1, e1, t1, q1⟩ := (c_act (X := X) h.F h.G h.V (nI j) y x).2 j w hj rfl hw hy
  rw [hs, nI_clamp (by omega), hv] at e1 t1
  exact ⟨I1, e1, h.act (by have := aAct_len kk w (nI j) v x; omega) t1 q1⟩
theorem k_trace (h : CK K I R s n hd cls e l im m) {t : Int32} (ht : l[0]? = some t) : Ev X 59 kX11_trace 0 (ent kX11_trace [.ref 0, .int 0]) [] (K, I, R) (some (.int t), (K, I, R)) := (c_trace (X := X) h.F h.T (by have := h.l20; omega) 0).1 0 (List.getElem?_eq_some_iff.mp ht).1 (by omega) rfl t ht
theorem k_traceN (h : CK K I R s n hd cls e l im m) : Ev X 59 kX11_trace 0 (ent kX11_trace [.ref 0, .int (nI l.length)]) [] (K, I, R) (some (.int (-1)), (K, I, R)) := (c_trace (X := X) h.F h.T (by have := h.l20; omega) (nI l.length)).2 (fun ⟨j, h1, h2, h3⟩ => by
  have h9 := h.l20
  have := (nI_eq (by omega) (by omega)).mp h3
  omega)
theorem k_count6 (h : CK K I R s n hd cls e l im m) : Ev X 59 kX11_count 0 (ent kX11_count [.ref 0, .int 6]) [] (K, I, R) (some (.int (nI l.length)), (K, I, R)) := (c_count (X := X) h.F h.G h.V h.T 6).1 rfl
/-- one of the kinds asked -/
theorem law_as1 (h : CK K I R s n hd cls e l im m) (hj : j < n) (hkk : kk ≤ 6) (hs : s (33 + j) = nI kk) (hv : s (39 + j) = v) {a : Nat} (ha : a < 7) {Z : Option Value × Hp} (g : Ev X 62 0 637 (LW n i c al bf [none, none, some (.int x), some (.int (nI j)), some (.int (nI kk)), some (.int v), none, none, none, some (.int (nI (a + 1)))]) [] (K, I, R) Z) : Ev X 62 0 637 (LW n i c al bf [none, none, some (.int x), some (.int (nI j)), some (.int (nI kk)), some (.int v), none, none, none, some (.int (nI a))]) [] (K, I, R) Z := by
  have k0 := h.k0
  have e1 := ((c_as (X := X) h.F h.G h.V (nI j) (nI a)).1 j kk a hj rfl hs hkk rfl (by omega)).dp (d' := 61) (by omega)
  rw [hv] at e1
  rw [nI_succ a] at g
  unfold LW at g ⊢
  rcases (by omega : kk = 0 ∨ kk = 1 ∨ kk = 2 ∨ kk = 3 ∨ kk = 4 ∨ kk = 5 ∨ kk = 6) with rfl | rfl | rfl | rfl | rfl | rfl | rfl
  all_goals
    rcases (by omega : a = 0 ∨ a = 1 ∨ a = 2 ∨ a = 3 ∨ a = 4 ∨ a = 5 ∨ a = 6) with rfl | rfl | rfl | rfl | rfl | rfl | rfl
    all_goals
      first
        | rw [if_pos (by decide)] at e1
          (repeat refine Ev.p rfl rfl ?_)
          refine Ev.cv (by rfl) (by rfl) (by assumption) (by rfl) (by rfl) (by rfl) (by rfl) (by rfl) e1 ?_
          (repeat refine Ev.p rfl rfl ?_)
          refine Ev.bp rfl (fun c => ?_) (fun c => absurd rfl c)
          (repeat (first | (refine Ev.at (q := 637) rfl ?_; exact g) | refine Ev.p rfl rfl ?_))
        | rw [if_neg (by decide)] at e1
          (repeat refine Ev.p rfl rfl ?_)
          refine Ev.cv (by rfl) (by rfl) (by assumption) (by rfl) (by rfl) (by rfl) (by rfl) (by rfl) e1 ?_
          (repeat (first | (refine Ev.at (q := 637) rfl ?_; exact g) | refine Ev.p rfl rfl ?_))
theorem law_as (h : CK K I R s n hd cls e l im m) (hj : j < n) (hkk : kk ≤ 6) (hs : s (33 + j) = nI kk) (hv : s (39 + j) = v) {Z : Option Value × Hp} (g : Ev X 62 0 702 (LW n i c al bf [none, none, some (.int x), some (.int (nI j)), none, none, none, none, none, none]) [] (K, I, R) Z) : ∀ mm a, a + mm = 7 → Ev X 62 0 637 (LW n i c al bf [none, none, some (.int x), some (.int (nI j)), some (.int (nI kk)), some (.int v), none, none, none, some (.int (nI a))]) [] (K, I, R) Z := by
  intro mm
  induction mm with
  | zero =>
    intro a ha
    have e0 : a = 7 := by omega
    subst e0
    unfold LW at g ⊢
    (repeat (first | (refine Ev.at (q := 702) rfl ?_; exact Ev.fg (le_of (by repeat (first | exact trivial | refine And.intro rfl ?_))) g) | refine Ev.p rfl rfl ?_))
  | succ mm ih =>
    intro a ha
    exact law_as1 h hj hkk hs hv (by omega) (ih (a + 1) (by omega))
set_option maxHeartbeats 16000000 in
/-- the acts of one -/
theorem law_j (hX : X.1 ≤ 260) (h : CK K I R s n hd cls e l im m) (hj : j < n) (hkk : kk ≤ 6) (hki : kiX X j = nI kk) (hvi : vX X j = v) (hs : s (33 + j) = nI kk) (hv : s (39 + j) = v) : ∃ I1 R1 l1, CK K I1 R1 s n hd cls e l1 im m ∧ ∀ Z : Option Value × Hp, Ev X 62 0 637 (LW n i c al bf [none, none, some (.int x), some (.int (nI j)), some (.int (nI kk)), some (.int v), none, none, none, some (.int (nI 0))]) [] (K, I1, R1) Z → Ev X 62 0 351 (LW n i c al bf [none, none, some (.int x), some (.int (nI j)), none, none, none, none, none, none]) [] (K, I, R) Z := by
  have k0 := h.k0
  have n6 := h.n6
  obtain ⟨I1, e1, c1⟩ := k_act (X := X) (x := x) (y := 0) (w := 0) h hj (by omega) rfl hkk hs hv
  obtain ⟨w1, t1⟩ := act_0 hkk (nI j) v x
  rw [← w1] at e1
  have f1 := k_trace (X := X) c1 t1
  obtain ⟨I2, e2, c2⟩ := k_act (X := X) (x := x) (y := 1) (w := 1) c1 hj (by omega) rfl hkk hs hv
  obtain ⟨w2, t2⟩ := act_1 hkk (nI j) v x
  rw [← w2] at e2
  have f2 := k_trace (X := X) c2 t2
  obtain ⟨I3, e3, c3⟩ := k_act (X := X) (x := x) (y := 2) (w := 2) c2 hj (by omega) rfl hkk hs hv
  obtain ⟨w3, t3⟩ := act_2 hkk (nI j) v x
  rw [← w3] at e3
  have f3 := k_trace (X := X) c3 t3
  have f4 := k_count6 (X := X) c3
  have f5 := k_traceN (X := X) c3
  obtain ⟨L, hL⟩ : ∃ L, L = nI (aAct kk (nI j) v x 2).2.length := ⟨_, rfl⟩
  rw [← hL] at f4 f5
  have s1 := l_kind (X := X) (d := 60) (h := (K, I, R)) hX j
  rw [hki] at s1
  have s2 := l_v (X := X) (d := 60) (h := (K, I, R)) hX j
  rw [hvi] at s2
  have s3 := l_act0 (X := X) (d := 61) (h := (K, I, R)) (nI kk) (nI j) x
  have s4 := l_act1 (X := X) (d := 60) (h := (K, I, R)) (nI kk) (nI j) v x
  have s5 := l_act1 (X := X) (d := 60) (h := (K, I, R)) (nI kk) (nI j) v (x - 1)
  have s6 := l_act0 (X := X) (d := 61) (h := (K, I, R)) (nI kk) (nI j) 2
  replace e1 := e1.dp (d' := 61) (by omega)
  replace e2 := e2.dp (d' := 61) (by omega)
  replace e3 := e3.dp (d' := 61) (by omega)
  replace f1 := f1.dp (d' := 61) (by omega)
  replace f2 := f2.dp (d' := 61) (by omega)
  replace f3 := f3.dp (d' := 61) (by omega)
  replace f4 := f4.dp (d' := 61) (by omega)
  replace f5 := f5.dp (d' := 61) (by omega)
  refine ⟨I3, R, _, c3, fun Z g => ?_⟩
  have fin : ∀ (a b q : Int32), Ev X 62 0 634 (LW n i c al bf [none, none, some (.int x), some (.int (nI j)), some (.int (nI kk)), some (.int v), some (.int a), some (.int b), some (.int q), none]) [] (K, I3, R) Z := fun a b q => by
    unfold LW at g ⊢
    (repeat (first | (refine Ev.at (q := 637) rfl ?_; exact Ev.fg (le_of (by repeat (first | exact trivial | refine And.intro rfl ?_))) g) | refine Ev.p rfl rfl ?_))
  have ch3 : ∀ (a b : Int32), Ev X 62 0 566 (LW n i c al bf [none, none, some (.int x), some (.int (nI j)), some (.int (nI kk)), some (.int v), some (.int a), some (.int b), some (.int (act2X (nI kk) (nI j) v x)), none]) [] (K, I2, R) Z := fun a b => by
    replace fin := fin a b (act2X (nI kk) (nI j) v x)
    clear w1 w2 w3 s1 s2 s3 s4 s5 s6 e1 e2 g c1 c2 c3 t1 t2 t3 f1 f2
    obtain ⟨q3, hq3⟩ : ∃ q, q = act2X (nI kk) (nI j) v x := ⟨_, rfl⟩
    rw [← hq3] at e3 fin ⊢
    unfold LW at fin ⊢
    rcases (by omega : kk = 0 ∨ kk = 1 ∨ kk = 2 ∨ kk = 3 ∨ kk = 4 ∨ kk = 5 ∨ kk = 6) with rfl | rfl | rfl | rfl | rfl | rfl | rfl
    all_goals
      (repeat refine Ev.p rfl rfl ?_)
      refine Ev.cv (by rfl) (by rfl) (by assumption) (by rfl) (by rfl) (by rfl) (by rfl) (by rfl) e3 ?_
      (repeat refine Ev.p rfl rfl ?_)
      refine Ev.bp rfl (fun c => absurd rfl c) (fun c => ?_)
      (repeat refine Ev.p rfl rfl ?_)
      refine Ev.cv (by rfl) (by rfl) (by assumption) (by rfl) (by rfl) (by rfl) (by rfl) (by rfl) f3 ?_
      (repeat refine Ev.p rfl rfl ?_)
      refine Ev.cv (by rfl) (by rfl) (by assumption) (by rfl) (by rfl) (by rfl) (by rfl) (by rfl) f4 ?_
      (repeat refine Ev.p rfl rfl ?_)
      refine Ev.cv (by rfl) (by rfl) (by assumption) (by rfl) (by rfl) (by rfl) (by rfl) (by rfl) f5 ?_
      (repeat (first | (refine Ev.at (q := 634) rfl ?_; exact fin) | refine Ev.p rfl rfl ?_))
  have ch2 : ∀ (a : Int32), Ev X 62 0 512 (LW n i c al bf [none, none, some (.int x), some (.int (nI j)), some (.int (nI kk)), some (.int v), some (.int a), some (.int (act1X (nI kk) (nI j) v x)), some (.int (act2X (nI kk) (nI j) v x)), none]) [] (K, I1, R) Z := fun a => by
    replace ch3 := ch3 a (act1X (nI kk) (nI j) v x)
    clear w1 w2 w3 s1 s2 s3 s4 s5 s6 e1 e3 g c1 c2 c3 t1 t2 t3 f1 f3 f4 f5 fin
    obtain ⟨q3, hq3⟩ : ∃ q, q = act2X (nI kk) (nI j) v x := ⟨_, rfl⟩
    obtain ⟨q2, hq2⟩ : ∃ q, q = act1X (nI kk) (nI j) v x := ⟨_, rfl⟩
    rw [← hq3, ← hq2] at ch3 ⊢
    rw [← hq2] at e2
    unfold LW at ch3 ⊢
    rcases (by omega : kk = 0 ∨ kk = 1 ∨ kk = 2 ∨ kk = 3 ∨ kk = 4 ∨ kk = 5 ∨ kk = 6) with rfl | rfl | rfl | rfl | rfl | rfl | rfl
    all_goals
      (repeat refine Ev.p rfl rfl ?_)
      refine Ev.cv (by rfl) (by rfl) (by assumption) (by rfl) (by rfl) (by rfl) (by rfl) (by rfl) e2 ?_
      (repeat refine Ev.p rfl rfl ?_)
      refine Ev.bp rfl (fun c => absurd rfl c) (fun c => ?_)
      (repeat refine Ev.p rfl rfl ?_)
      refine Ev.cv (by rfl) (by rfl) (by assumption) (by rfl) (by rfl) (by rfl) (by rfl) (by rfl) f2 ?_
      (repeat (first | (refine Ev.at (q := 566) rfl ?_; exact ch3) | refine Ev.p rfl rfl ?_))
  have ch1 : Ev X 62 0 457 (LW n i c al bf [none, none, some (.int x), some (.int (nI j)), some (.int (nI kk)), some (.int v), some (.int (act0X (nI kk) (nI j) x)), some (.int (act1X (nI kk) (nI j) v x)), none, none]) [.int (act2X (nI kk) (nI j) v x)] (K, I, R) Z := by
    replace ch2 := ch2 (act0X (nI kk) (nI j) x)
    clear w1 w2 w3 s1 s2 s3 s4 s5 s6 e2 e3 g c1 c2 c3 t1 t2 t3 f2 f3 f4 f5 fin ch3
    obtain ⟨q3, hq3⟩ : ∃ q, q = act2X (nI kk) (nI j) v x := ⟨_, rfl⟩
    obtain ⟨q2, hq2⟩ : ∃ q, q = act1X (nI kk) (nI j) v x := ⟨_, rfl⟩
    obtain ⟨q1, hq1⟩ : ∃ q, q = act0X (nI kk) (nI j) x := ⟨_, rfl⟩
    rw [← hq3, ← hq2, ← hq1] at ch2 ⊢
    rw [← hq1] at e1
    unfold LW at ch2 ⊢
    rcases (by omega : kk = 0 ∨ kk = 1 ∨ kk = 2 ∨ kk = 3 ∨ kk = 4 ∨ kk = 5 ∨ kk = 6) with rfl | rfl | rfl | rfl | rfl | rfl | rfl
    all_goals
      (repeat refine Ev.p rfl rfl ?_)
      refine Ev.cv (by rfl) (by rfl) (by assumption) (by rfl) (by rfl) (by rfl) (by rfl) (by rfl) e1 ?_
      (repeat refine Ev.p rfl rfl ?_)
      refine Ev.bp rfl (fun c => absurd rfl c) (fun c => ?_)
      (repeat refine Ev.p rfl rfl ?_)
      refine Ev.cv (by rfl) (by rfl) (by assumption) (by rfl) (by rfl) (by rfl) (by rfl) (by rfl) f1 ?_
      (repeat (first | (refine Ev.at (q := 512) rfl ?_; exact ch2) | refine Ev.p rfl rfl ?_))
  clear e1 e2 e3 f1 f2 f3 f4 f5 fin ch2 ch3 w1 w2 w3 t1 t2 t3 c1 c2 c3 g
  obtain ⟨a0, ha0⟩ : ∃ q, q = act0X (nI kk) (nI j) x := ⟨_, rfl⟩
  obtain ⟨a1, ha1⟩ : ∃ q, q = act1X (nI kk) (nI j) v x := ⟨_, rfl⟩
  obtain ⟨a2, ha2⟩ : ∃ q, q = act1X (nI kk) (nI j) v (x - 1) := ⟨_, rfl⟩
  obtain ⟨a3, ha3⟩ : ∃ q, q = act0X (nI kk) (nI j) 2 := ⟨_, rfl⟩
  unfold act2X at ch1
  rw [← ha0, ← ha1, ← ha2, ← ha3] at ch1
  rw [← ha0] at s3
  rw [← ha1] at s4
  rw [← ha2] at s5
  rw [← ha3] at s6
  unfold LW at ch1 ⊢
  rcases (by omega : kk = 0 ∨ kk = 1 ∨ kk = 2 ∨ kk = 3 ∨ kk = 4 ∨ kk = 5 ∨ kk = 6) with rfl | rfl | rfl | rfl | rfl | rfl | rfl
  all_goals
    (repeat refine Ev.p rfl rfl ?_)
    refine Ev.bp rfl (fun c => absurd c (nI_ge (by omega) (by omega))) (fun c => ?_)
    (repeat refine Ev.p rfl rfl ?_)
    refine Ev.c rfl s1 ?_
    (repeat refine Ev.p rfl rfl ?_)
    refine Ev.c rfl s2 ?_
    (repeat refine Ev.p rfl rfl ?_)
    refine Ev.c rfl s3 ?_
    (repeat refine Ev.p rfl rfl ?_)
    refine Ev.c rfl s4 ?_
    first
      | ((repeat (first | (refine Ev.at (q := 457) rfl ?_; exact ch1) | refine Ev.p rfl rfl ?_))
         done)
      | ((repeat refine Ev.p rfl rfl ?_)
         refine Ev.c rfl s5 ?_
         (repeat refine Ev.p rfl rfl ?_)
         refine Ev.c rfl s6 ?_
         (repeat (first | (refine Ev.at (q := 457) rfl ?_; exact ch1) | refine Ev.p rfl rfl ?_)))
end ACTS3
