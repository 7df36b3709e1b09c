/-! CALLS OF THE LAW that only ask: as, mean, odds -/
section ASK6
variable {X : Nat × (Nat → Int32)} {d : Nat} {K : List (Nat × Nat)} {T : List (Nat × Nat)} {I : Nat → Nat → Int32} {R : Nat → Nat → Option Nat} {s : Nat → Int32} {n e : Nat} {hd : Option Nat} {cls : Cls} {l : List Int32} {im : Option Img} {kc km : Nat} {As : List Value}
def und6 (kk j : Nat) : Bool := j == 0 || j == kk || (decide (j < 4) && kk == j + 3)
theorem Ev.abvx {k pc np j : Nat} {ls : List (Option Value)} {i : Int32} {r : List Value} {h : Hp} {Z : Option Value × Hp} (ha : arq k pc = (1, np)) (hi : i = nI j) (hj : j < 7) (t : Ev X d k np ls (.int (abv.getD j 0) :: r) h Z) : Ev X d k pc ls (.int i :: .retAddr 26 :: r) h Z := by
  obtain ⟨a, b, c, v, hh⟩ := arq_look ha (by omega)
  have hl : look k pc = some (.iaload, np, a, b, c, v) := by rcases hh with h | h | h | h | h | h <;> first | exact h.2 | (have := h.1; omega)
  subst hi
  refine Ev.s (pc' := np) (ls' := ls) (st' := .int (abv.getD j 0) :: r) (h' := h) ?_ t
  unfold stq
  rw [hl]
  show stp X _ ls _ h = _
  dsimp only [stp]
  rw [oob_nI hj (by omega), nI_clamp (by omega)]
  rfl
theorem c_isUnder (h : Hp) {kk j : Nat} (hk : kk ≤ 6) (hj : j ≤ 6) : Ev X d kX11_isUnder 0 (ent kX11_isUnder [.int (nI kk), .int (nI j)]) [] h (some (.int (bI (und6 kk j))), h) := by
  have neg : ∀ c, c ≤ 6 → Ev X d kX11_isUnder 4 [some (.int (nI kk)), some (.int (nI j)), some (.int (-1)), some (.int (nI c))] [] h (some (.int 0), h) := by
    intro c hc
    (repeat refine Ev.p rfl rfl ?_)
    refine Ev.bp rfl (fun c => absurd c (nI_ge (b := 7) (by omega) (by omega))) (fun c => ?_)
    ((repeat refine Ev.p rfl rfl ?_); exact Ev.r rfl)
  have hit : ∀ i c, i ≤ 6 → c ≤ 6 → i = j → Ev X d kX11_isUnder 4 [some (.int (nI kk)), some (.int (nI j)), some (.int (nI i)), some (.int (nI c))] [] h (some (.int 1), h) := by
    intro i c hi hc e
    (repeat refine Ev.p rfl rfl ?_)
    refine Ev.bp rfl (fun c => absurd c (nI_ge (b := 7) (by omega) (by omega))) (fun c => ?_)
    (repeat refine Ev.p rfl rfl ?_)
    refine Ev.bp rfl (fun c => absurd c (nI_pos (by omega))) (fun c => ?_)
    (repeat refine Ev.p rfl rfl ?_)
    refine Ev.bp rfl (fun c => absurd c (nI_ge (b := 7) (by omega) (by omega))) (fun c => ?_)
    (repeat refine Ev.p rfl rfl ?_)
    refine Ev.bp rfl (fun c => absurd (by rw [e]) c) (fun c => ?_)
    ((repeat refine Ev.p rfl rfl ?_); exact Ev.r rfl)
  have go : ∀ i c, i ≤ 6 → c ≤ 5 → i ≠ j → ∀ Z, Ev X d kX11_isUnder 4 [some (.int (nI kk)), some (.int (nI j)), some (.int (abv.getD i 0)), some (.int (nI (c + 1)))] [] h Z → Ev X d kX11_isUnder 4 [some (.int (nI kk)), some (.int (nI j)), some (.int (nI i)), some (.int (nI c))] [] h Z := by
    intro i c hi hc e Z g
    (repeat refine Ev.p rfl rfl ?_)
    refine Ev.bp rfl (fun c => absurd c (nI_ge (b := 7) (by omega) (by omega))) (fun c => ?_)
    (repeat refine Ev.p rfl rfl ?_)
    refine Ev.bp rfl (fun c => absurd c (nI_pos (by omega))) (fun c => ?_)
    (repeat refine Ev.p rfl rfl ?_)
    refine Ev.bp rfl (fun c => absurd c (nI_ge (b := 7) (by omega) (by omega))) (fun c => ?_)
    (repeat refine Ev.p rfl rfl ?_)
    refine Ev.bp rfl (fun c => ?_) (fun c => absurd ((nI_eq (by omega) (by omega)).mp (Decidable.not_not.mp c)) e)
    (repeat refine Ev.p rfl rfl ?_)
    refine Ev.abvx (j := i) rfl rfl (by omega) ?_
    rw [nI_succ] at g
    iterate 3 refine Ev.p rfl rfl ?_
    exact g
  have f0 : ∀ c, c ≤ 5 → Ev X d kX11_isUnder 4 [some (.int (nI kk)), some (.int (nI j)), some (.int (nI 0)), some (.int (nI c))] [] h (some (.int (bI (0 == j))), h) := by
    intro c hc
    by_cases e : 0 = j
    · rw [show (0 == j) = true from beq_iff_eq.mpr e]
      exact hit 0 c (by omega) (by omega) e
    · rw [show (0 == j) = false from beq_eq_false_iff_ne.mpr e]
      exact go 0 c (by omega) hc e _ (neg (c + 1) (by omega))
  have f1 : ∀ i c, 1 ≤ i → i ≤ 3 → c ≤ 4 → Ev X d kX11_isUnder 4 [some (.int (nI kk)), some (.int (nI j)), some (.int (nI i)), some (.int (nI c))] [] h (some (.int (bI (i == j || 0 == j))), h) := by
    intro i c h1 h3 hc
    by_cases e : i = j
    · rw [show (i == j) = true from beq_iff_eq.mpr e, Bool.true_or]
      exact hit i c (by omega) (by omega) e
    · rw [show (i == j) = false from beq_eq_false_iff_ne.mpr e, Bool.false_or]
      refine go i c (by omega) (by omega) e _ ?_
      rcases (by omega : i = 1 ∨ i = 2 ∨ i = 3) with rfl | rfl | rfl <;> exact f0 (c + 1) (by omega)
  have f2 : ∀ i c, i ≤ 2 → c ≤ 3 → Ev X d kX11_isUnder 4 [some (.int (nI kk)), some (.int (nI j)), some (.int (nI (i + 4))), some (.int (nI c))] [] h (some (.int (bI (i + 4 == j || (i + 1 == j || 0 == j)))), h) := by
    intro i c h3 hc
    by_cases e : i + 4 = j
    · rw [show (i + 4 == j) = true from beq_iff_eq.mpr e, Bool.true_or]
      exact hit (i + 4) c (by omega) (by omega) e
    · rw [show (i + 4 == j) = false from beq_eq_false_iff_ne.mpr e, Bool.false_or]
      refine go (i + 4) c (by omega) (by omega) e _ ?_
      rcases (by omega : i = 0 ∨ i = 1 ∨ i = 2) with rfl | rfl | rfl
      · exact f1 1 (c + 1) (by omega) (by omega) (by omega)
      · exact f1 2 (c + 1) (by omega) (by omega) (by omega)
      · exact f1 3 (c + 1) (by omega) (by omega) (by omega)
  have e3 : ∀ b b' : Bool, (b = true ↔ b' = true) → b = b' := by decide
  iterate 4 refine Ev.p rfl rfl ?_
  rcases (by omega : kk = 0 ∨ (1 ≤ kk ∧ kk ≤ 3) ∨ 4 ≤ kk) with g | g | g
  · have : und6 kk j = (0 == j) := e3 _ _ (by unfold und6; simp only [Bool.or_eq_true, Bool.and_eq_true, beq_iff_eq, decide_eq_true_eq]; omega)
    rw [this]
    have := f0 0 (by omega)
    subst g
    exact this
  · have : und6 kk j = (kk == j || 0 == j) := e3 _ _ (by unfold und6; simp only [Bool.or_eq_true, Bool.and_eq_true, beq_iff_eq, decide_eq_true_eq]; omega)
    rw [this]
    exact f1 kk 0 g.1 g.2 (by omega)
  · have : und6 kk j = (kk - 4 + 4 == j || (kk - 4 + 1 == j || 0 == j)) := e3 _ _ (by unfold und6; simp only [Bool.or_eq_true, Bool.and_eq_true, beq_iff_eq, decide_eq_true_eq]; omega)
    rw [this]
    have := f2 (kk - 4) 0 (by omega) (by omega)
    rw [Nat.sub_add_cancel g] at this ⊢
    exact this
theorem c_as (hF : FX K R) (hG : GS s n hd cls e) (hVH : VH K I R 1 15 s n hd cls) (x y : Int32) : (∀ p kk j, p < n → x = nI p → s (33 + p) = nI kk → kk ≤ 6 → y = nI j → j ≤ 6 → Ev X 59 kX11_as 0 (ent kX11_as [.ref 0, .int x, .int y]) [] (K, I, R) (some (.int (if (j = 0 ∨ j = kk ∨ (j < 4 ∧ kk = j + 3)) then s (39 + p) else -6)), (K, I, R))) ∧ (¬ (isM n x ∧ 0 ≤ y ∧ y ≤ 6) → Ev X 59 kX11_as 0 (ent kX11_as [.ref 0, .int x, .int y]) [] (K, I, R) (some (.int (-1)), (K, I, R))) := by
  have hV := hVH.1
  have hn6 := hG.2.1.1
  have hm := c_isM (X := X) (d := 58) hF hV.2.1.1 hn6 x
  obtain ⟨f0, f1, f2, f3, f4, f5, f6, fv1, fv2, fv3, fh1, fh2, f7, f8, f9, f10, f11, f12⟩ := hF
  obtain ⟨k0, k1, k2, k3, k4, k5, k6, k7, k8, r0, r1, r2, r3, r4, r5, r6, r7⟩ := id fv1
  obtain ⟨v8, v9, v10, v11, v12, vk, vv, va, vt, vh, vr⟩ := hV.2.1
  refine ⟨fun p kk j hp ex ek hk ey hj => ?_, fun h => ?_⟩
  · have h := hm.1 ((isM_iff hn6).mpr ⟨p, hp, ex⟩)
    subst ex ey
    (repeat (first | refine Ev.p rfl rfl ?_ | refine Ev.gr (by rfl) (by rfl) (by assumption) (by rfl) (by assumption) ?_ | refine Ev.gi (by rfl) (by rfl) (by assumption) (by rfl) (by assumption) ?_))
    refine Ev.cv (by rfl) (by rfl) (by assumption) (by rfl) (by rfl) (by rfl) (by rfl) (by rfl) h ?_
    (repeat (first | refine Ev.p rfl rfl ?_ | refine Ev.gr (by rfl) (by rfl) (by assumption) (by rfl) (by assumption) ?_ | refine Ev.gi (by rfl) (by rfl) (by assumption) (by rfl) (by assumption) ?_))
    refine Ev.bp rfl (fun c => ?_) (fun c => ?_)
    · exact absurd c (nI_pos (by omega))
    · (repeat (first | refine Ev.p rfl rfl ?_ | refine Ev.gr (by rfl) (by rfl) (by assumption) (by rfl) (by assumption) ?_ | refine Ev.gi (by rfl) (by rfl) (by assumption) (by rfl) (by assumption) ?_))
      refine Ev.bp rfl (fun c2 => ?_) (fun c2 => ?_)
      · (repeat (first | refine Ev.p rfl rfl ?_ | refine Ev.gr (by rfl) (by rfl) (by assumption) (by rfl) (by assumption) ?_ | refine Ev.gi (by rfl) (by rfl) (by assumption) (by rfl) (by assumption) ?_))
        (refine Ev.iald (j := p) (by rfl) (by assumption) (by rfl) (by omega) (by omega) ?_; rw [vk p hp, ek])
        (repeat (first | refine Ev.p rfl rfl ?_ | refine Ev.gr (by rfl) (by rfl) (by assumption) (by rfl) (by assumption) ?_ | refine Ev.gi (by rfl) (by rfl) (by assumption) (by rfl) (by assumption) ?_))
        refine Ev.c rfl (c_isUnder _ hk hj) ?_
        by_cases hu : j = 0 ∨ j = kk ∨ (j < 4 ∧ kk = j + 3)
        · have : und6 kk j = true := by unfold und6; simp only [Bool.or_eq_true, Bool.and_eq_true, beq_iff_eq, decide_eq_true_eq]; omega
          rw [this, if_pos hu]
          (repeat (first | refine Ev.p rfl rfl ?_ | refine Ev.gr (by rfl) (by rfl) (by assumption) (by rfl) (by assumption) ?_ | refine Ev.gi (by rfl) (by rfl) (by assumption) (by rfl) (by assumption) ?_))
          (refine Ev.iald (j := p) (by rfl) (by assumption) (by rfl) (by omega) (by omega) ?_; rw [vv p hp])
          ((repeat refine Ev.p rfl rfl ?_); exact Ev.r rfl)
        · have : und6 kk j = false := by
            cases hq : und6 kk j with
            | false => rfl
            | true =>
              unfold und6 at hq
              simp only [Bool.or_eq_true, Bool.and_eq_true, beq_iff_eq, decide_eq_true_eq] at hq
              exact absurd (by omega) hu
          rw [this, if_neg hu]
          ((repeat refine Ev.p rfl rfl ?_); exact Ev.r rfl)
      · exact absurd (nI_lt (b := 7) (by omega) (by omega)) c2
  · by_cases h1 : isM n x
    · (repeat (first | refine Ev.p rfl rfl ?_ | refine Ev.gr (by rfl) (by rfl) (by assumption) (by rfl) (by assumption) ?_ | refine Ev.gi (by rfl) (by rfl) (by assumption) (by rfl) (by assumption) ?_))
      refine Ev.cv (by rfl) (by rfl) (by assumption) (by rfl) (by rfl) (by rfl) (by rfl) (by rfl) (hm.1 h1) ?_
      (repeat (first | refine Ev.p rfl rfl ?_ | refine Ev.gr (by rfl) (by rfl) (by assumption) (by rfl) (by assumption) ?_ | refine Ev.gi (by rfl) (by rfl) (by assumption) (by rfl) (by assumption) ?_))
      refine Ev.bp rfl (fun c => ?_) (fun c => ?_)
      · ((repeat refine Ev.p rfl rfl ?_); exact Ev.r rfl)
      · (repeat (first | refine Ev.p rfl rfl ?_ | refine Ev.gr (by rfl) (by rfl) (by assumption) (by rfl) (by assumption) ?_ | refine Ev.gi (by rfl) (by rfl) (by assumption) (by rfl) (by assumption) ?_))
        refine Ev.bp rfl (fun c2 => ?_) (fun c2 => ?_)
        · refine absurd ⟨h1, Int32.not_lt.mp c, ?_⟩ h
          obtain ⟨j, hj, ej⟩ := nI_of2 (M := 7) (n := 7) (by decide) c (Int32.le_of_lt c2)
          rw [ej] at c2 ⊢
          have : j < 7 := (nI_ltI (b := 7) (by omega) (by omega)).mp c2
          exact nI_le (b := 6) (by omega) (by omega)
        · ((repeat refine Ev.p rfl rfl ?_); exact Ev.r rfl)
    · (repeat (first | refine Ev.p rfl rfl ?_ | refine Ev.gr (by rfl) (by rfl) (by assumption) (by rfl) (by assumption) ?_ | refine Ev.gi (by rfl) (by rfl) (by assumption) (by rfl) (by assumption) ?_))
      refine Ev.cv (by rfl) (by rfl) (by assumption) (by rfl) (by rfl) (by rfl) (by rfl) (by rfl) (hm.2 h1) ?_
      ((repeat refine Ev.p rfl rfl ?_); exact Ev.r rfl)
end ASK6
