/-! THE REFERENCE: station -/
theorem pS_ok {t : Nat → Int32} {z : Nat} : ∀ (m a : Nat) (st : Stn), a ≤ z → stI a st → (pS t z m a st).2.1 ≤ z ∧ stI (pS t z m a st).2.1 (pS t z m a st).2.2 ∧ (pS t z m a st).2.2.2.2.length ≤ st.2.2.length + m := by
  intro m
  induction m with
  | zero => intro a st ha hs; exact ⟨ha, hs, Nat.le_refl _⟩
  | succ m ih =>
    intro a st ha hs
    rw [pS_1]
    have h1 := pC_ok (t := t) ha hs
    rcases hr : pC t z a st with ⟨ok, b, st'⟩
    rw [hr] at h1
    dsimp only at h1
    cases ok with
    | false => exact ⟨h1.2.1, h1.2.2.1, by show st'.2.2.length ≤ _; omega⟩
    | true =>
      show (if z ≤ b then ((true, b, st') : Bool × Nat × Stn) else if m = 0 ∨ pk t z b ≠ 59 then (false, b, st') else pS t z m (b + 1) st').2.1 ≤ z ∧ _
      by_cases hzb : z ≤ b
      · have e : pS1 t z m (true, b, st') = (true, b, st') := if_pos hzb
        rw [e]
        exact ⟨by rw [if_pos hzb]; exact h1.2.1, h1.2.2.1, by dsimp only; omega⟩
      · by_cases hm : m = 0 ∨ pk t z b ≠ 59
        · have e : pS1 t z m (true, b, st') = (false, b, st') := by show (if z ≤ b then _ else _) = _; rw [if_neg hzb, if_pos hm]
          rw [e]
          exact ⟨by rw [if_neg hzb, if_pos hm]; exact h1.2.1, h1.2.2.1, by dsimp only; omega⟩
        · have e : pS1 t z m (true, b, st') = pS t z m (b + 1) st' := by show (if z ≤ b then _ else _) = _; rw [if_neg hzb, if_neg hm]
          rw [e, if_neg hzb, if_neg hm]
          have h2 := ih (b + 1) st' (by omega) (h1.2.2.1.mo (by omega))
          exact ⟨h2.1, h2.2.1, by have := h2.2.2; omega⟩
theorem ff {P : Prop} (h : (false : Bool) = true) : P := by cases h
theorem ft {P : Prop} (h : (true : Bool) = false) : P := by cases h
theorem stI_0 : stI 0 (20, 1, []) := by
  show (20 : Nat) ≤ 99 ∧ (1 : Nat) ≤ 99 ∧ clOK [] ∧ (0 : Nat) ≤ 0 ∧ (0 : Nat) ≤ 0
  exact ⟨by omega, by omega, (fun q hq => by cases hq), Nat.le_refl _, Nat.le_refl _⟩
section STAT2
variable {X : Nat × (Nat → Int32)} {d : Nat} {T : List (Nat × Nat)} {I : Nat → Nat → Int32} {G : Nat → Nat → Option Nat} {t : Nat → Int32} {z act a : Nat} {st : Stn} {s : Nat → Int32}
/-- station, from behind a clause on -/
theorem m_st1 (hz : z ≤ 100) (hact : act < 5) (hI27 : I 141 27 = nI act) : ∀ (m c : Nat) (r : Bool × Nat × Stn) (J : Nat → Nat → Int32), c + m = 10 → 1 ≤ c → RD J t z act r → (r.1 = true → r.2.1 ≤ z ∧ stI r.2.1 r.2.2) → FC act I J → ∃ J' I', Ev X (d + 27) kX12_station 108 [some (.ref 140), some (.int (nI c))] [] (K0 ++ T, J, RS G) (some (.int (if (pS1 t z m r).1 = true then nI act else -10 - nI (pS1 t z m r).2.1)), (K0 ++ T, I', RS G)) ∧ ((pS1 t z m r).1 = true → RC J' t z act (pS1 t z m r).2.1 (pS1 t z m r).2.2) ∧ FC act I J' ∧ ((pS1 t z m r).1 = true → I' = upI (upI J' 141 27 (nI (act + 1))) 141 32 (nI act)) ∧ ((pS1 t z m r).1 = false → I' = J') := by
  have end_ok : ∀ (c b : Nat) (st : Stn) (J : Nat → Nat → Int32), RC J t z act b st → FC act I J → b = z → c ≤ 10 → Ev X (d + 27) kX12_station 150 [some (.ref 140), some (.int (nI c))] [] (K0 ++ T, J, RS G) (some (.int (nI act)), (K0 ++ T, upI (upI J 141 27 (nI (act + 1))) 141 32 (nI act), RS G)) := by
    intro c b st J hR hF hzb hc
    have h9 : J 140 9 = 0 := hR.1.2.2.2.1
    have h7 : J 140 7 = nI b := hR.1.2.1
    have h8 : J 140 8 = nI z := hR.1.2.2.1
    have h6 : J 140 6 = nI act := hR.1.1
    have h27 : J 141 27 = nI act := (hF.2.2 27 (by omega) (by omega) (by omega) (by omega)).trans hI27
    (repeat refine Ev.p rfl rfl ?_)
    refine Ev.bp rfl (fun c => ?_) (fun c => ?_)
    · exact absurd h9 c
    · (repeat refine Ev.p rfl rfl ?_)
      refine Ev.bp rfl (fun c2 => ?_) (fun c2 => ?_)
      · (repeat refine Ev.p rfl rfl ?_)
        (refine Ev.iald (j := 27) rfl rfl rfl (by omega) (by omega) ?_; rw [h27])
        iterate 2 refine Ev.p rfl rfl ?_
        rw [nI_1]
        refine Ev.iast (j := 27) rfl rfl rfl (by omega) (by omega) ?_
        iterate 5 refine Ev.p rfl rfl ?_
        rw [show (K0 ++ T, upI J 141 27 (nI (act + 1)), RS G).2.1 140 6 = nI act from by show upI J 141 27 (nI (act + 1)) 140 6 = _; rw [upI_ne (by omega)]; exact h6]
        refine Ev.iast (j := 32) rfl rfl rfl (by omega) (by omega) ?_
        iterate 2 refine Ev.p rfl rfl ?_
        rw [show (K0 ++ T, upI (upI J 141 27 (nI (act + 1))) 141 32 (nI act), RS G).2.1 140 6 = nI act from by show upI (upI J 141 27 (nI (act + 1))) 141 32 (nI act) 140 6 = _; rw [upI_ne (by omega), upI_ne (by omega)]; exact h6]
        ((repeat refine Ev.p rfl rfl ?_); exact Ev.r rfl)
      · exact absurd (show J 140 7 = J 140 8 from by rw [h7, h8, hzb]) c2
  have end_no : ∀ (c b : Nat) (st : Stn) (J : Nat → Nat → Int32), RC J t z act b st → b < z → Ev X (d + 27) kX12_station 150 [some (.ref 140), some (.int (nI c))] [] (K0 ++ T, J, RS G) (some (.int (-10 - nI b)), (K0 ++ T, J, RS G)) := by
    intro c b st J hR hzb
    have h9 : J 140 9 = 0 := hR.1.2.2.2.1
    have h7 : J 140 7 = nI b := hR.1.2.1
    have h8 : J 140 8 = nI z := hR.1.2.2.1
    rw [← h7]
    (repeat refine Ev.p rfl rfl ?_)
    refine Ev.bp rfl (fun c => ?_) (fun c => ?_)
    · exact absurd h9 c
    · (repeat refine Ev.p rfl rfl ?_)
      refine Ev.bp rfl (fun c2 => ?_) (fun c2 => ?_)
      · have : nI b = nI z := h7.symm.trans ((show J 140 7 = J 140 8 from c2).trans h8)
        exact absurd ((nI_eq (by omega) (by omega)).mp this) (by omega)
      · ((repeat refine Ev.p rfl rfl ?_); exact Ev.r rfl)
  have wrong : ∀ (m c b : Nat) (st : Stn) (J : Nat → Nat → Int32), RD J t z act (false, b, st) → FC act I J → ∃ J' I', Ev X (d + 27) kX12_station 108 [some (.ref 140), some (.int (nI c))] [] (K0 ++ T, J, RS G) (some (.int (if (pS1 t z m (false, b, st)).1 = true then nI act else -10 - nI (pS1 t z m (false, b, st)).2.1)), (K0 ++ T, I', RS G)) ∧ ((pS1 t z m (false, b, st)).1 = true → RC J' t z act (pS1 t z m (false, b, st)).2.1 (pS1 t z m (false, b, st)).2.2) ∧ FC act I J' ∧ ((pS1 t z m (false, b, st)).1 = true → I' = upI (upI J' 141 27 (nI (act + 1))) 141 32 (nI act)) ∧ ((pS1 t z m (false, b, st)).1 = false → I' = J') := by
    intro m c b st J hR hF
    obtain ⟨L, r1⟩ := hR
    have h9 : J 140 9 = 1 := r1.2.2.2.1
    have h7 : J 140 7 = nI b := r1.2.1
    refine ⟨J, J, ?_, fun h => ff h, hF, fun h => ff h, fun _ => rfl⟩
    show Ev X (d + 27) kX12_station 108 _ [] _ (some (.int (-10 - nI b)), _)
    rw [← h7]
    (repeat refine Ev.p rfl rfl ?_)
    refine Ev.bp rfl (fun c => ?_) (fun c => ?_)
    · (repeat refine Ev.p rfl rfl ?_)
      refine Ev.bp rfl (fun c => ?_) (fun c => ?_)
      · ((repeat refine Ev.p rfl rfl ?_); exact Ev.r rfl)
      · exact absurd h9 (fun h => c (by show J 140 9 ≠ 0; rw [h]; decide))
    · exact absurd h9 (fun h => c (by show J 140 9 ≠ 0; rw [h]; decide))
  intro m
  induction m with
  | zero =>
    intro c r J hc h1 hR hs hF
    have e : c = 10 := by omega
    subst e
    obtain ⟨ok, b, st⟩ := r
    cases ok with
    | false => exact wrong 0 10 b st J hR hF
    | true =>
      have hR : RC J t z act b st := hR
      have h9 : J 140 9 = 0 := hR.1.2.2.2.1
      have hb := (hs rfl).1
      dsimp only at hb
      have go : ∀ {R : Option Value × Hp}, Ev X (d + 27) kX12_station 150 [some (.ref 140), some (.int (nI 10))] [] (K0 ++ T, J, RS G) R → Ev X (d + 27) kX12_station 108 [some (.ref 140), some (.int (nI 10))] [] (K0 ++ T, J, RS G) R := by
        intro R g
        (repeat refine Ev.p rfl rfl ?_)
        refine Ev.bp rfl (fun c => ?_) (fun c => ?_)
        · exact absurd h9 c
        · (repeat (first | (refine Ev.at (q := 150) rfl ?_; exact g) | refine Ev.p rfl rfl ?_))
      by_cases hzb : z ≤ b
      · have e : pS1 t z 0 (true, b, st) = (true, b, st) := if_pos hzb
        rw [e]
        exact ⟨J, _, go (end_ok 10 b st J hR hF (by omega) (by omega)), fun _ => hR, hF, fun _ => rfl, fun h => ft h⟩
      · have e : pS1 t z 0 (true, b, st) = (false, b, st) := by show (if z ≤ b then _ else _) = _; rw [if_neg hzb, if_pos (Or.inl rfl)]
        rw [e]
        exact ⟨J, J, go (end_no 10 b st J hR (by omega)), fun h => ff h, hF, fun h => ff h, fun _ => rfl⟩
  | succ m ih =>
    intro c r J hc h1 hR hs hF
    obtain ⟨ok, b, st⟩ := r
    cases ok with
    | false => exact wrong (m + 1) c b st J hR hF
    | true =>
      have hR : RC J t z act b st := hR
      have h9 : J 140 9 = 0 := hR.1.2.2.2.1
      obtain ⟨hb, hst⟩ := hs rfl
      dsimp only at hb hst
      have hh := m_here (X := X) (d := d + 26) (T := T) (G := G) hR.1 hz hb
      have go0 : ∀ {R : Option Value × Hp}, Ev X (d + 27) kX12_station 121 [some (.ref 140), some (.int (nI c))] [] (K0 ++ T, J, RS G) R → Ev X (d + 27) kX12_station 108 [some (.ref 140), some (.int (nI c))] [] (K0 ++ T, J, RS G) R := by
        intro R g
        (repeat refine Ev.p rfl rfl ?_)
        refine Ev.bp rfl (fun c => ?_) (fun c => ?_)
        · exact absurd h9 c
        · (repeat refine Ev.p rfl rfl ?_)
          refine Ev.bp rfl (fun c => absurd c (nI_ge (b := 10) (by omega) (by omega))) (fun c => ?_)
          (repeat (first | (refine Ev.at (q := 121) rfl ?_; exact g) | refine Ev.p rfl rfl ?_))
      by_cases h59 : pk t z b = 59
      · have hlt := pq_lt h59 (by decide)
        have e : pS1 t z (m + 1) (true, b, st) = pS1 t z m (pC t z (b + 1) st) := by
          show (if z ≤ b then _ else _) = _
          rw [if_neg (by omega), if_neg (fun h => h.elim (by omega) (fun g => g h59)), pS_1]
        rw [e]
        obtain ⟨J1, hJ1⟩ : ∃ J', J' = upI J 140 7 (J 140 7 + 1) := ⟨_, rfl⟩
        have f1 : FP act J J1 := by rw [hJ1]; exact (FP.rf act J).s (by omega) _
        have r1 : RC J1 t z act (b + 1) st := ⟨by rw [hJ1]; exact hR.1.s7 (by rw [hR.1.2.1, nI_1]), (hR.fp (b := b) hact f1).1, (hR.fp (b := b) hact f1).2⟩
        obtain ⟨J2, e1, e2, e3⟩ := m_clause (X := X) (d := d) (T := T) (G := G) hz hact hlt r1 (hst.mo (by omega))
        have hc1 := pC_ok (t := t) (st := st) hlt (hst.mo (by omega))
        obtain ⟨J', I', g1, g2⟩ := ih (c + 1) (pC t z (b + 1) st) J2 (by omega) (by omega) e2 (fun _ => ⟨hc1.2.1, hc1.2.2.1⟩) ((hF.tr f1.c).tr e3)
        refine ⟨J', I', go0 ?_, g2⟩
        rw [nI_succ] at g1
        (repeat refine Ev.p rfl rfl ?_)
        refine Ev.c rfl hh ?_
        (repeat refine Ev.p rfl rfl ?_)
        refine Ev.bp rfl (fun c => ?_) (fun c => ?_)
        · exact absurd h59 c
        · (iterate 6 refine Ev.p rfl rfl ?_)
          try dsimp only
          rw [← hJ1]
          (repeat refine Ev.p rfl rfl ?_)
          refine Ev.c rfl e1 ?_
          (repeat (first | (refine Ev.at (q := 108) rfl ?_; exact g1) | refine Ev.p rfl rfl ?_))
      · have go : ∀ {R : Option Value × Hp}, Ev X (d + 27) kX12_station 150 [some (.ref 140), some (.int (nI c))] [] (K0 ++ T, J, RS G) R → Ev X (d + 27) kX12_station 108 [some (.ref 140), some (.int (nI c))] [] (K0 ++ T, J, RS G) R := by
          intro R g
          refine go0 ?_
          (repeat refine Ev.p rfl rfl ?_)
          refine Ev.c rfl hh ?_
          (repeat refine Ev.p rfl rfl ?_)
          refine Ev.bp rfl (fun c => ?_) (fun c => ?_)
          · (repeat (first | (refine Ev.at (q := 150) rfl ?_; exact g) | refine Ev.p rfl rfl ?_))
          · exact absurd (Decidable.not_not.mp c) h59
        by_cases hzb : z ≤ b
        · have e : pS1 t z (m + 1) (true, b, st) = (true, b, st) := if_pos hzb
          rw [e]
          exact ⟨J, _, go (end_ok c b st J hR hF (by omega) (by omega)), fun _ => hR, hF, fun _ => rfl, fun h => ft h⟩
        · have e : pS1 t z (m + 1) (true, b, st) = (false, b, st) := by show (if z ≤ b then _ else _) = _; rw [if_neg hzb, if_pos (Or.inr h59)]
          rw [e]
          exact ⟨J, J, go (end_no c b st J hR (by omega)), fun h => ff h, hF, fun h => ff h, fun _ => rfl⟩
/-- what station leaves of the row, but for what it says -/
def FS (act : Nat) (s u : Nat → Int32) : Prop := ∀ j, j ≠ 27 → j ≠ 31 → j ≠ 32 → j ≠ 222 + act → j ≠ 227 + act → j ≠ 232 + act → (j < 237 + 140 * act ∨ 377 + 140 * act ≤ j) → u j = s j
theorem m_station (hI : I 141 = s) (h27 : s 27 = nI act) (hact5 : act ≤ 5) (h31 : s 31 = nI z) (hz : z ≤ 100) :
    (act = 5 → Ev X (d + 27) kX12_station 0 (ent kX12_station [.ref 140]) [] (K0 ++ T, I, RS G) (some (.int (-4)), (K0 ++ T, I, RS G))) ∧
    (act < 5 → ∃ I', Ev X (d + 27) kX12_station 0 (ent kX12_station [.ref 140]) [] (K0 ++ T, I, RS G) (some (.int (if (pS (fun i => s (122 + i)) z 10 0 (20, 1, [])).1 = true then nI act else -10 - nI (pS (fun i => s (122 + i)) z 10 0 (20, 1, [])).2.1)), (K0 ++ T, I', RS G)) ∧ MF I I' ∧ FS act s (I' 141) ∧ I' 141 31 = 0 ∧
      ((pS (fun i => s (122 + i)) z 10 0 (20, 1, [])).1 = true → I' 141 27 = nI (act + 1) ∧ I' 141 222 = I' 141 222 ∧ I' 141 (222 + act) = nI (pS (fun i => s (122 + i)) z 10 0 (20, 1, [])).2.2.1 ∧ I' 141 (227 + act) = nI (pS (fun i => s (122 + i)) z 10 0 (20, 1, [])).2.2.2.1 ∧ stOK (I' 141) (some act) (pS (fun i => s (122 + i)) z 10 0 (20, 1, [])).2.2.2.2) ∧
      ((pS (fun i => s (122 + i)) z 10 0 (20, 1, [])).1 = false → I' 141 27 = s 27 ∧ I' 141 32 = s 32)) := by
  refine ⟨fun h5 => ?_, fun hact => ?_⟩
  · (repeat refine Ev.p rfl rfl ?_)
    (refine Ev.iald (j := 27) rfl rfl rfl (by omega) (by omega) ?_; rw [hI])
    rw [h27, h5]
    ((repeat refine Ev.p rfl rfl ?_); exact Ev.r rfl)
  · obtain ⟨t, ht⟩ : ∃ t : Nat → Int32, t = fun i => s (122 + i) := ⟨_, rfl⟩
    rw [← ht]
    obtain ⟨J0, hJ0⟩ : ∃ J, J = upI (upI (upI (upI (upI (upI (upI (upI (upI I 140 6 (nI act)) 140 8 (nI z)) 141 31 0) 141 (222 + act) 20) 141 (227 + act) 1) 141 (232 + act) 0) 140 7 0) 140 9 0) 140 10 0 := ⟨_, rfl⟩
    have f142 : J0 140 = upd (upd (upd (upd (upd (I 140) 6 (nI act)) 8 (nI z)) 7 0) 9 0) 10 0 := by
      rw [hJ0]
      rw [upI_eq, upI_eq, upI_eq, upI_ne (by omega), upI_ne (by omega), upI_ne (by omega), upI_ne (by omega), upI_eq, upI_eq]
    have f143 : J0 141 = upd (upd (upd (upd s 31 0) (222 + act) 20) (227 + act) 1) (232 + act) 0 := by
      rw [hJ0]
      rw [upI_ne (by omega), upI_ne (by omega), upI_ne (by omega), upI_eq, upI_eq, upI_eq, upI_eq, upI_ne (by omega), upI_ne (by omega), hI]
    have r0 : RC J0 t z act 0 (20, 1, []) := by
      refine ⟨⟨?_, ?_, ?_, ?_, ?_, fun i hi => ?_, ?_, fun i x hx => by cases hx⟩, ?_, ?_⟩
      · rw [f142, upd_ne (by omega), upd_ne (by omega), upd_ne (by omega), upd_ne (by omega), upd_at]
      · rw [f142, upd_ne (by omega), upd_ne (by omega), upd_at]; rfl
      · rw [f142, upd_ne (by omega), upd_ne (by omega), upd_ne (by omega), upd_at]
      · rw [f142, upd_ne (by omega), upd_at]; rfl
      · rw [f142, upd_at]; rfl
      · rw [f143, upd_ne (by omega), upd_ne (by omega), upd_ne (by omega), upd_ne (by omega), ht]
      · rw [f143, upd_at]; rfl
      · rw [f143, upd_ne (by omega), upd_ne (by omega), upd_at]; rfl
      · rw [f143, upd_ne (by omega), upd_at]; rfl
    have h27' : J0 141 27 = nI act := by rw [f143, upd_ne (by omega), upd_ne (by omega), upd_ne (by omega), upd_ne (by omega), h27]
    obtain ⟨J1, e1, e2, e3⟩ := m_clause (X := X) (d := d) (T := T) (G := G) hz hact (by omega) r0 stI_0
    have hc1 := pC_ok (t := t) (a := 0) (z := z) (st := (20, 1, [])) (by omega) stI_0
    have hall := pS_ok (t := t) (z := z) 10 0 (20, 1, []) (by omega) stI_0
    obtain ⟨J', I', g1, g2, g3, g4, g5⟩ := m_st1 (X := X) (d := d) (T := T) (I := J0) (G := G) hz hact h27' 9 1 (pC t z 0 (20, 1, [])) J1 (by omega) (by omega) e2 (fun _ => ⟨hc1.2.1, hc1.2.2.1⟩) e3
    rw [← pS_1] at g1 g2 g4 g5
    obtain ⟨r, hr⟩ : ∃ r, r = pS t z 10 0 (20, 1, []) := ⟨_, rfl⟩
    rw [← hr] at g1 g2 g4 g5 hall ⊢
    have fJ : FS act s (J' 141) ∧ J' 141 31 = 0 ∧ J' 141 27 = s 27 ∧ J' 141 32 = s 32 := by
      have k : ∀ j, j ≠ 222 + act → j ≠ 227 + act → j ≠ 232 + act → (j < 237 + 140 * act ∨ 377 + 140 * act ≤ j) → J' 141 j = upd s 31 0 j := fun j h1 h2 h3 h4 => by
        rw [g3.2.2 j h1 h2 h3 h4, f143, upd_ne h3, upd_ne h2, upd_ne h1]
      refine ⟨fun j j1 j2 j3 j4 j5 j6 j7 => ?_, ?_, ?_, ?_⟩
      · rw [k j j4 j5 j6 j7, upd_ne j2]
      · rw [k 31 (by omega) (by omega) (by omega) (by omega), upd_at]
      · rw [k 27 (by omega) (by omega) (by omega) (by omega), upd_ne (by omega)]
      · rw [k 32 (by omega) (by omega) (by omega) (by omega), upd_ne (by omega)]
    have mJ : MF I J' := by
      refine ⟨fun q hq => ?_, fun q hq => ?_, ?_, ?_, ?_, ?_, ?_⟩
      · rw [g3.1 q (by omega) (by omega), hJ0]; simp only [upI_ne (show q ≠ 140 by omega), upI_ne (show q ≠ 141 by omega)]
      · rw [g3.1 q (by omega) (by omega), hJ0]; simp only [upI_ne (show q ≠ 140 by omega), upI_ne (show q ≠ 141 by omega)]
      · rw [g3.1 142 (by omega) (by omega), hJ0]; simp only [upI_ne (show 142 ≠ 140 by omega), upI_ne (show 142 ≠ 141 by omega)]
      · rw [g3.1 148 (by omega) (by omega), hJ0]; simp only [upI_ne (show 148 ≠ 140 by omega), upI_ne (show 148 ≠ 141 by omega)]
      · rw [g3.2.1 4 (by omega), f142, upd_ne (by omega), upd_ne (by omega), upd_ne (by omega), upd_ne (by omega), upd_ne (by omega)]
      · rw [g3.2.1 5 (by omega), f142, upd_ne (by omega), upd_ne (by omega), upd_ne (by omega), upd_ne (by omega), upd_ne (by omega)]
      · rw [g3.2.1 16 (by omega), f142, upd_ne (by omega), upd_ne (by omega), upd_ne (by omega), upd_ne (by omega), upd_ne (by omega)]
    have hev : Ev X (d + 27) kX12_station 0 (ent kX12_station [.ref 140]) [] (K0 ++ T, I, RS G) (some (.int (if r.1 = true then nI act else -10 - nI r.2.1)), (K0 ++ T, I', RS G)) := by
      have e1' := e1
      rw [hJ0] at e1'
      (repeat refine Ev.p rfl rfl ?_)
      (refine Ev.iald (j := 27) rfl rfl rfl (by omega) (by omega) ?_; rw [hI])
      rw [h27]
      (repeat refine Ev.p rfl rfl ?_)
      refine Ev.bp rfl (fun c => ?_) (fun c => absurd ((nI_eq (b := 5) (by omega) (by omega)).mp (Decidable.not_not.mp c)) (by omega))
      (repeat refine Ev.p rfl rfl ?_)
      (refine Ev.iald (j := 27) rfl rfl rfl (by omega) (by omega) ?_; rw [hI])
      rw [h27]
      (repeat refine Ev.p rfl rfl ?_)
      refine Ev.iald (j := 31) rfl rfl rfl (by omega) (by omega) ?_
      rw [show upI (K0 ++ T, I, RS G).2.1 140 6 (nI act) 141 31 = nI z from by show upI I 140 6 (nI act) 141 31 = _; rw [upI_ne (by omega), hI, h31]]
      (repeat refine Ev.p rfl rfl ?_)
      refine Ev.iast (j := 31) rfl rfl rfl (by omega) (by omega) ?_
      (repeat refine Ev.p rfl rfl ?_)
      refine Ev.iast (j := 222 + act) rfl rfl ?_ (by omega) (by omega) ?_
      · show (222 : Int32) + upI (upI (upI I 140 6 (nI act)) 140 8 (nI z)) 141 31 0 140 6 = _
        rw [upI_ne (by omega), upI_eq, upd_ne (by omega), upI_eq, upd_at]
        exact nI_add 222 act
      (repeat refine Ev.p rfl rfl ?_)
      refine Ev.iast (j := 227 + act) rfl rfl ?_ (by omega) (by omega) ?_
      · show (227 : Int32) + upI (upI (upI (upI I 140 6 (nI act)) 140 8 (nI z)) 141 31 0) 141 (222 + act) 20 140 6 = _
        rw [upI_ne (by omega), upI_ne (by omega), upI_eq, upd_ne (by omega), upI_eq, upd_at]
        exact nI_add 227 act
      (repeat refine Ev.p rfl rfl ?_)
      refine Ev.iast (j := 232 + act) rfl rfl ?_ (by omega) (by omega) ?_
      · show (232 : Int32) + upI (upI (upI (upI (upI I 140 6 (nI act)) 140 8 (nI z)) 141 31 0) 141 (222 + act) 20) 141 (227 + act) 1 140 6 = _
        rw [upI_ne (by omega), upI_ne (by omega), upI_ne (by omega), upI_eq, upd_ne (by omega), upI_eq, upd_at]
        exact nI_add 232 act
      (repeat refine Ev.p rfl rfl ?_)
      refine Ev.c rfl e1' ?_
      (repeat (first | (refine Ev.at (q := 108) rfl ?_; exact g1) | refine Ev.p rfl rfl ?_))
    refine ⟨I', hev, ?_⟩
    cases hb : r.1 with
    | false =>
      have e := g5 hb
      subst e
      exact ⟨mJ, fJ.1, fJ.2.1, fun h => ff h, fun _ => fJ.2.2⟩
    | true =>
      have e := g4 hb
      have rc := g2 hb
      have q143 : I' 141 = upd (upd (J' 141) 27 (nI (act + 1))) 32 (nI act) := by rw [e, upI_eq, upI_eq]
      have hL := hall.2.1
      have hcl := hL.2.2.2.1
      have hle := hall.1
      refine ⟨?_, ?_, ?_, fun _ => ⟨?_, rfl, ?_, ?_, ?_⟩, fun h => ft h⟩
      · rw [e]; exact mJ.tr ((MF.up (by omega)).tr (MF.up (by omega)))
      · rw [q143]
        exact fun j j1 j2 j3 j4 j5 j6 j7 => by rw [upd_ne j3, upd_ne j1]; exact fJ.1 j j1 j2 j3 j4 j5 j6 j7
      · rw [q143, upd_ne (by omega), upd_ne (by omega)]; exact fJ.2.1
      · rw [q143, upd_ne (by omega), upd_at]
      · rw [q143, upd_ne (by omega), upd_ne (by omega)]; exact rc.2.1
      · rw [q143, upd_ne (by omega), upd_ne (by omega)]; exact rc.2.2
      · rw [q143]
        refine ⟨upd_at _ _ _, hact, ?_, by omega, fun j x hj => ?_, hL.2.2.1⟩
        · rw [upd_ne (by omega), upd_ne (by omega)]; exact rc.1.2.2.2.2.2.2.1
        · rw [upd_ne (by omega), upd_ne (by omega)]; exact rc.1.2.2.2.2.2.2.2 j x hj
end STAT2
