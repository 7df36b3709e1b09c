/-! THE REFERENCE, method by method (s: its row of numbers, cell 141) -/
def rW (s : Nat → Int32) (p : Nat) : Nat → Int32
  | 0 => 0
  | q + 1 => rW s p q ||| (if s (14 + q) = 0 then s (69 + p) &&& ((1 : Int32) <<< (nI q &&& 31)) else 0)
def rC (x : Int32) : Nat → Int32
  | 0 => 0
  | q + 1 => rC x q + ((x >>> (nI q &&& 31)) &&& 1)
def rSB (s : Nat → Int32) (p : Nat) : Nat → Int32
  | 0 => 0
  | q + 1 => rSB s p q + (if q = p then 0 else s (14 + q))
def rSO (s : Nat → Int32) : Nat → Int32
  | 0 => 0
  | q + 1 => rSO s q ||| (s (14 + q) <<< (nI q &&& 31))
/-- what s holds where: DUE 222, FADE 227, STEPMANY 232, by HOLDING -/
def rT (s : Nat → Int32) (hd : Option Nat) (w : Nat) (no : Int32) : Int32 := match hd with
  | none => no
  | some h => s (w + h)
def rHold (s : Nat → Int32) (hd : Option Nat) : Prop := match hd with
  | none => s 32 = -1
  | some h => s 32 = nI h ∧ h < 5
def rOp (s : Nat → Int32) (p : Nat) : Bool := decide (s (14 + p) = 0) && decide (s (20 + p) = 0)
def rRd (s : Nat → Int32) (n p : Nat) : Bool := rOp s p && decide (rW s p n = 0)
def bI (b : Bool) : Int32 := if b = true then 1 else 0
def rRO (s : Nat → Int32) (n : Nat) : Nat → Int32
  | 0 => 0
  | q + 1 => rRO s n q ||| (if rRd s n q = true then (1 : Int32) <<< (nI q &&& 31) else 0)
section MODEL
variable {X : Nat × (Nat → Int32)} {d : Nat} {T : List (Nat × Nat)} {I : Nat → Nat → Int32} {G : Nat → Nat → Option Nat} {s : Nat → Int32} {n p : Nat}
theorem m_in (h : Hp) (v lo hi : Int32) : Ev X d kX12_in 0 (ent kX12_in [.int v, .int lo, .int hi]) [] h (some (.int (if lo ≤ v ∧ v ≤ hi then 1 else 0)), h) := by
  (repeat refine Ev.p rfl rfl ?_)
  refine Ev.bp rfl (fun c => ?_) (fun c => ?_)
  · rw [if_neg (fun q => by have := q.1; exact absurd c (Int32.not_lt.mpr this))]
    ((repeat refine Ev.p rfl rfl ?_); exact Ev.r rfl)
  · (repeat refine Ev.p rfl rfl ?_)
    refine Ev.bp rfl (fun c2 => ?_) (fun c2 => ?_)
    · rw [if_neg (fun q => absurd c2 (Int32.not_lt.mpr q.2))]
      ((repeat refine Ev.p rfl rfl ?_); exact Ev.r rfl)
    · rw [if_pos ⟨Int32.not_lt.mp c, Int32.not_lt.mp c2⟩]
      ((repeat refine Ev.p rfl rfl ?_); exact Ev.r rfl)
theorem z1_ok {P : Prop} [Decidable P] : nfit .boolean (if P then (1 : Int32) else 0) = true := by
  by_cases h : P
  · rw [if_pos h]; rfl
  · rw [if_neg h]; rfl
theorem m_isMatter (hI : I 141 = s) (x : Int32) : Ev X (d + 1) kX12_isMatter 0 (ent kX12_isMatter [.ref 140, .int x]) [] (K0 ++ T, I, RS G) (some (.int (if 0 ≤ x ∧ x ≤ s 26 - 1 then 1 else 0)), (K0 ++ T, I, RS G)) := by
  (repeat refine Ev.p rfl rfl ?_)
  (refine Ev.iald (j := 26) rfl rfl rfl (by omega) (by omega) ?_; rw [hI])
  (repeat refine Ev.p rfl rfl ?_)
  refine Ev.c rfl (m_in _ _ _ _) ?_
  refine Ev.r ?_
  show (bif nfit .boolean (if 0 ≤ x ∧ x ≤ s 26 - 1 then (1 : Int32) else 0) then _ else none) = _
  rw [z1_ok]
  rfl
theorem m_countOf (h : Hp) (x : Int32) : Ev X d kX12_countOf 0 (ent kX12_countOf [.int x]) [] h (some (.int (rC x 6)), h) := by
  have lp : ∀ m q, q + m = 6 → Ev X d kX12_countOf 4 [some (.int x), some (.int (rC x q)), some (.int (nI q))] [] h (some (.int (rC x 6)), h) := by
    intro m
    induction m with
    | zero =>
      intro q hq
      have e : q = 6 := by omega
      subst e
      ((repeat refine Ev.p rfl rfl ?_); exact Ev.r rfl)
    | succ m ih =>
      intro q hq
      have h9 := ih (q + 1) (by omega)
      rw [nI_succ] at h9
      (repeat refine Ev.p rfl rfl ?_)
      refine Ev.bp rfl (fun c => ?_) (fun c => ?_)
      · exact absurd c (nI_ge (a := q) (b := 6) (by omega) (by omega))
      · (repeat (first | exact h9 | refine Ev.p rfl rfl ?_))
  iterate 4 refine Ev.s rfl ?_
  exact lp 6 0 rfl
theorem m_waitsFor (hI : I 141 = s) (hn : s 26 = nI n) (hn6 : n ≤ 6) (hp : p < 6) : Ev X d kX12_waitsFor 0 (ent kX12_waitsFor [.ref 140, .int (nI p)]) [] (K0 ++ T, I, RS G) (some (.int (rW s p n)), (K0 ++ T, I, RS G)) := by
  have lp : ∀ m q, q + m = n → Ev X d kX12_waitsFor 4 [some (.ref 140), some (.int (nI p)), some (.int (rW s p q)), some (.int (nI q))] [] (K0 ++ T, I, RS G) (some (.int (rW s p n)), (K0 ++ T, I, RS G)) := by
    intro m
    induction m with
    | zero =>
      intro q hq
      have e : q = n := by omega
      subst e
      (repeat refine Ev.p rfl rfl ?_)
      (refine Ev.iald (j := 26) rfl rfl rfl (by omega) (by omega) ?_; rw [hI, hn])
      (repeat refine Ev.p rfl rfl ?_)
      refine Ev.bp rfl (fun c => ?_) (fun c => ?_)
      · ((repeat refine Ev.p rfl rfl ?_); exact Ev.r rfl)
      · exact absurd (Int32.le_refl _) c
    | succ m ih =>
      intro q hq
      have h9 := ih (q + 1) (by omega)
      rw [nI_succ] at h9
      (repeat refine Ev.p rfl rfl ?_)
      (refine Ev.iald (j := 26) rfl rfl rfl (by omega) (by omega) ?_; rw [hI, hn])
      (repeat refine Ev.p rfl rfl ?_)
      refine Ev.bp rfl (fun c => ?_) (fun c => ?_)
      · exact absurd c (nI_ge (by omega) (by omega))
      · (repeat refine Ev.p rfl rfl ?_)
        (refine Ev.iald (j := 14 + q) rfl rfl (nI_add 14 q) (by omega) (by omega) ?_; rw [hI])
        (repeat refine Ev.p rfl rfl ?_)
        refine Ev.bp rfl (fun c2 => ?_) (fun c2 => ?_)
        · simp only [rW, if_neg c2] at h9
          (repeat (first | exact h9 | refine Ev.p rfl rfl ?_))
        · (repeat refine Ev.p rfl rfl ?_)
          (refine Ev.iald (j := 69 + p) rfl rfl (nI_add 69 p) (by omega) (by omega) ?_; rw [hI])
          simp only [rW, if_pos (Decidable.not_not.mp c2)] at h9
          (repeat (first | exact h9 | refine Ev.p rfl rfl ?_))
  iterate 4 refine Ev.s rfl ?_
  exact lp n 0 (by omega)
theorem m_settledBut (hI : I 141 = s) (hn : s 26 = nI n) (hn6 : n ≤ 6) (hp : p < 6) : Ev X d kX12_settledBut 0 (ent kX12_settledBut [.ref 140, .int (nI p)]) [] (K0 ++ T, I, RS G) (some (.int (rSB s p n)), (K0 ++ T, I, RS G)) := by
  have lp : ∀ m q, q + m = n → Ev X d kX12_settledBut 4 [some (.ref 140), some (.int (nI p)), some (.int (rSB s p q)), some (.int (nI q))] [] (K0 ++ T, I, RS G) (some (.int (rSB s p n)), (K0 ++ T, I, RS G)) := by
    intro m
    induction m with
    | zero =>
      intro q hq
      have e : q = n := by omega
      subst e
      (repeat refine Ev.p rfl rfl ?_)
      (refine Ev.iald (j := 26) rfl rfl rfl (by omega) (by omega) ?_; rw [hI, hn])
      (repeat refine Ev.p rfl rfl ?_)
      refine Ev.bp rfl (fun c => ?_) (fun c => ?_)
      · ((repeat refine Ev.p rfl rfl ?_); exact Ev.r rfl)
      · exact absurd (Int32.le_refl _) c
    | succ m ih =>
      intro q hq
      have h9 := ih (q + 1) (by omega)
      rw [nI_succ] at h9
      (repeat refine Ev.p rfl rfl ?_)
      (refine Ev.iald (j := 26) rfl rfl rfl (by omega) (by omega) ?_; rw [hI, hn])
      (repeat refine Ev.p rfl rfl ?_)
      refine Ev.bp rfl (fun c => ?_) (fun c => ?_)
      · exact absurd c (nI_ge (by omega) (by omega))
      · (repeat refine Ev.p rfl rfl ?_)
        refine Ev.bp rfl (fun c2 => ?_) (fun c2 => ?_)
        · have c3 : ¬ q = p := fun e => c2 (by rw [e])
          simp only [rSB, if_neg c3] at h9
          (repeat refine Ev.p rfl rfl ?_)
          (refine Ev.iald (j := 14 + q) rfl rfl (nI_add 14 q) (by omega) (by omega) ?_; rw [hI])
          (repeat (first | exact h9 | refine Ev.p rfl rfl ?_))
        · have c3 : q = p := (nI_eq (by omega) (by omega)).mp (Decidable.not_not.mp c2)
          simp only [rSB, if_pos c3] at h9
          (repeat (first | exact h9 | refine Ev.p rfl rfl ?_))
  iterate 4 refine Ev.s rfl ?_
  exact lp n 0 (by omega)
theorem m_settledOnes (hI : I 141 = s) (hn : s 26 = nI n) (hn6 : n ≤ 6) : Ev X d kX12_settledOnes 0 (ent kX12_settledOnes [.ref 140]) [] (K0 ++ T, I, RS G) (some (.int (rSO s n)), (K0 ++ T, I, RS G)) := by
  have lp : ∀ m q, q + m = n → Ev X d kX12_settledOnes 4 [some (.ref 140), some (.int (rSO s q)), some (.int (nI q))] [] (K0 ++ T, I, RS G) (some (.int (rSO s n)), (K0 ++ T, I, RS G)) := by
    intro m
    induction m with
    | zero =>
      intro q hq
      have e : q = n := by omega
      subst e
      (repeat refine Ev.p rfl rfl ?_)
      (refine Ev.iald (j := 26) rfl rfl rfl (by omega) (by omega) ?_; rw [hI, hn])
      (repeat refine Ev.p rfl rfl ?_)
      refine Ev.bp rfl (fun c => ?_) (fun c => ?_)
      · ((repeat refine Ev.p rfl rfl ?_); exact Ev.r rfl)
      · exact absurd (Int32.le_refl _) c
    | succ m ih =>
      intro q hq
      have h9 := ih (q + 1) (by omega)
      rw [nI_succ] at h9
      (repeat refine Ev.p rfl rfl ?_)
      (refine Ev.iald (j := 26) rfl rfl rfl (by omega) (by omega) ?_; rw [hI, hn])
      (repeat refine Ev.p rfl rfl ?_)
      refine Ev.bp rfl (fun c => ?_) (fun c => ?_)
      · exact absurd c (nI_ge (by omega) (by omega))
      · (repeat refine Ev.p rfl rfl ?_)
        (refine Ev.iald (j := 14 + q) rfl rfl (nI_add 14 q) (by omega) (by omega) ?_; rw [hI])
        (repeat (first | exact h9 | refine Ev.p rfl rfl ?_))
  iterate 4 refine Ev.s rfl ?_
  exact lp n 0 (by omega)
theorem m_tellsOf (hI : I 141 = s) {hd : Option Nat} (hh : rHold s hd) {w : Nat} (hw : w < 300) (no : Int32) : Ev X d kX12_tellsOf 0 (ent kX12_tellsOf [.ref 140, .int (nI w), .int no]) [] (K0 ++ T, I, RS G) (some (.int (rT s hd w no)), (K0 ++ T, I, RS G)) := by
  (repeat refine Ev.p rfl rfl ?_)
  (refine Ev.iald (j := 32) rfl rfl rfl (by omega) (by omega) ?_; rw [hI])
  (repeat refine Ev.p rfl rfl ?_)
  cases hd with
  | none =>
    have hh : s 32 = -1 := hh
    rw [hh]
    ((repeat refine Ev.p rfl rfl ?_); exact Ev.r rfl)
  | some h =>
    obtain ⟨h1, h2⟩ := hh
    refine Ev.bp rfl (fun c => ?_) (fun c => ?_)
    · (repeat refine Ev.p rfl rfl ?_)
      (refine Ev.iald (j := 32) rfl rfl rfl (by omega) (by omega) ?_; rw [hI])
      (repeat refine Ev.p rfl rfl ?_)
      rw [h1]
      (refine Ev.iald (j := w + h) rfl rfl (nI_add w h) (by omega) (by omega) ?_; rw [hI])
      ((repeat refine Ev.p rfl rfl ?_); exact Ev.r rfl)
    · exfalso
      have c := Decidable.not_not.mp c
      rw [h1] at c
      exact absurd c (by rcases (by omega : h = 0 ∨ h = 1 ∨ h = 2 ∨ h = 3 ∨ h = 4) with rfl | rfl | rfl | rfl | rfl <;> decide)
theorem m_due (hI : I 141 = s) {hd : Option Nat} (hh : rHold s hd) : Ev X (d + 1) kX12_due 0 (ent kX12_due [.ref 140]) [] (K0 ++ T, I, RS G) (some (.int (if I 140 5 = -1 then rT s hd 222 20 else I 140 5)), (K0 ++ T, I, RS G)) := by
  (repeat refine Ev.p rfl rfl ?_)
  refine Ev.bp rfl (fun c => ?_) (fun c => ?_)
  · rw [if_neg c]
    ((repeat refine Ev.p rfl rfl ?_); exact Ev.r rfl)
  · rw [if_pos (Decidable.not_not.mp c)]
    (repeat refine Ev.p rfl rfl ?_)
    refine Ev.c rfl (m_tellsOf hI hh (w := 222) (by omega) 20) ?_
    ((repeat refine Ev.p rfl rfl ?_); exact Ev.r rfl)
theorem m_isOpen (hI : I 141 = s) (hp : p < 6) : Ev X d kX12_isOpen 0 (ent kX12_isOpen [.ref 140, .int (nI p)]) [] (K0 ++ T, I, RS G) (some (.int (bI (rOp s p))), (K0 ++ T, I, RS G)) := by
  (repeat refine Ev.p rfl rfl ?_)
  (refine Ev.iald (j := 14 + p) rfl rfl (nI_add 14 p) (by omega) (by omega) ?_; rw [hI])
  (repeat refine Ev.p rfl rfl ?_)
  refine Ev.bp rfl (fun c => ?_) (fun c => ?_)
  · have e : rOp s p = false := by simp [rOp, c]
    rw [e]
    ((repeat refine Ev.p rfl rfl ?_); exact Ev.r rfl)
  · (repeat refine Ev.p rfl rfl ?_)
    (refine Ev.iald (j := 20 + p) rfl rfl (nI_add 20 p) (by omega) (by omega) ?_; rw [hI])
    (repeat refine Ev.p rfl rfl ?_)
    refine Ev.bp rfl (fun c2 => ?_) (fun c2 => ?_)
    · have e : rOp s p = false := by simp [rOp, c2]
      rw [e]
      ((repeat refine Ev.p rfl rfl ?_); exact Ev.r rfl)
    · have e : rOp s p = true := by simp [rOp, Decidable.not_not.mp c, Decidable.not_not.mp c2]
      rw [e]
      ((repeat refine Ev.p rfl rfl ?_); exact Ev.r rfl)
theorem bI_0 {b : Bool} : bI b = 0 ↔ b = false := by cases b <;> simp [bI]
theorem m_isReady (hI : I 141 = s) (hn : s 26 = nI n) (hn6 : n ≤ 6) (hp : p < 6) : Ev X (d + 1) kX12_isReady 0 (ent kX12_isReady [.ref 140, .int (nI p)]) [] (K0 ++ T, I, RS G) (some (.int (bI (rRd s n p))), (K0 ++ T, I, RS G)) := by
  (repeat refine Ev.p rfl rfl ?_)
  refine Ev.c rfl (m_isOpen hI hp) ?_
  (repeat refine Ev.p rfl rfl ?_)
  refine Ev.bp rfl (fun c => ?_) (fun c => ?_)
  · have e : rRd s n p = false := by simp [rRd, bI_0.mp c]
    rw [e]
    ((repeat refine Ev.p rfl rfl ?_); exact Ev.r rfl)
  · have c9 : rOp s p = true := by
      cases h : rOp s p with
      | true => rfl
      | false => exact absurd (bI_0.mpr h) c
    (repeat refine Ev.p rfl rfl ?_)
    refine Ev.c rfl (m_waitsFor hI hn hn6 hp) ?_
    (repeat refine Ev.p rfl rfl ?_)
    refine Ev.bp rfl (fun c2 => ?_) (fun c2 => ?_)
    · have e : rRd s n p = false := by simp [rRd, c2]
      rw [e]
      ((repeat refine Ev.p rfl rfl ?_); exact Ev.r rfl)
    · have e : rRd s n p = true := by simp [rRd, c9, Decidable.not_not.mp c2]
      rw [e]
      ((repeat refine Ev.p rfl rfl ?_); exact Ev.r rfl)
theorem m_readyOnes (hI : I 141 = s) (hn : s 26 = nI n) (hn6 : n ≤ 6) : Ev X (d + 2) kX12_readyOnes 0 (ent kX12_readyOnes [.ref 140]) [] (K0 ++ T, I, RS G) (some (.int (rRO s n n)), (K0 ++ T, I, RS G)) := by
  have lp : ∀ m q, q + m = n → Ev X (d + 2) kX12_readyOnes 4 [some (.ref 140), some (.int (rRO s n q)), some (.int (nI q))] [] (K0 ++ T, I, RS G) (some (.int (rRO s n n)), (K0 ++ T, I, RS G)) := by
    intro m
    induction m with
    | zero =>
      intro q hq
      have e : q = n := by omega
      subst e
      (repeat refine Ev.p rfl rfl ?_)
      (refine Ev.iald (j := 26) rfl rfl rfl (by omega) (by omega) ?_; rw [hI, hn])
      (repeat refine Ev.p rfl rfl ?_)
      refine Ev.bp rfl (fun c => ?_) (fun c => ?_)
      · ((repeat refine Ev.p rfl rfl ?_); exact Ev.r rfl)
      · exact absurd (Int32.le_refl _) c
    | succ m ih =>
      intro q hq
      have h9 := ih (q + 1) (by omega)
      rw [nI_succ] at h9
      (repeat refine Ev.p rfl rfl ?_)
      (refine Ev.iald (j := 26) rfl rfl rfl (by omega) (by omega) ?_; rw [hI, hn])
      (repeat refine Ev.p rfl rfl ?_)
      refine Ev.bp rfl (fun c => ?_) (fun c => ?_)
      · exact absurd c (nI_ge (by omega) (by omega))
      · (repeat refine Ev.p rfl rfl ?_)
        refine Ev.c rfl (m_isReady hI hn hn6 (p := q) (by omega)) ?_
        (repeat refine Ev.p rfl rfl ?_)
        refine Ev.bp rfl (fun c2 => ?_) (fun c2 => ?_)
        · simp only [rRO, bI_0.mp c2] at h9
          (repeat (first | exact h9 | refine Ev.p rfl rfl ?_))
        · have c9 : rRd s n q = true := by
            cases h : rRd s n q with
            | true => rfl
            | false => exact absurd (bI_0.mpr h) c2
          simp only [rRO, c9] at h9
          (repeat (first | exact h9 | refine Ev.p rfl rfl ?_))
  iterate 4 refine Ev.s rfl ?_
  exact lp n 0 (by omega)
end MODEL
