/-! THE REFERENCE reads a station: clauses, all of it -/
theorem lkt_def {x : Int32} (h1 : x ≠ 99) (h2 : x ≠ 100) (h3 : x ≠ 102) (h4 : x ≠ 119) (dd o1 o2 o3 o4 : Int) (c : Nat) : lkt dd #[(99, o1), (100, o2), (102, o3), (119, o4)] c x.toInt = ((c : Int) + dd).toNat := by
  have k : ∀ y : Int32, x ≠ y → ¬ y.toInt = x.toInt := fun y hy e => hy (Int32.toInt_inj.mp e.symm)
  unfold lkt
  show ((c : Int) + Op.lookupswitch.offset [(99, o1), (100, o2), (102, o3), (119, o4)] dd x.toInt).toNat = _
  rw [Op.lookupswitch.offset_cons, if_neg (show ¬ (99 : Int) = x.toInt from k 99 h1), Op.lookupswitch.offset_cons, if_neg (show ¬ (100 : Int) = x.toInt from k 100 h2), Op.lookupswitch.offset_cons, if_neg (show ¬ (102 : Int) = x.toInt from k 102 h3), Op.lookupswitch.offset_cons, if_neg (show ¬ (119 : Int) = x.toInt from k 119 h4), Op.lookupswitch.offset_nil]
/-- what clauses leave -/
def FC (act : Nat) (J J' : Nat → Nat → Int32) : Prop := (∀ q, q ≠ 140 → q ≠ 141 → J' q = J q) ∧ (∀ j, j < 6 ∨ 10 < j → J' 140 j = J 140 j) ∧ (∀ j, j ≠ 222 + act → j ≠ 227 + act → j ≠ 232 + act → (j < 237 + 140 * act ∨ 377 + 140 * act ≤ j) → J' 141 j = J 141 j)
theorem FC.rf (act : Nat) (J : Nat → Nat → Int32) : FC act J J := ⟨fun _ _ _ => rfl, fun _ _ => rfl, fun _ _ _ _ _ => rfl⟩
theorem FC.tr {act : Nat} {J J' J'' : Nat → Nat → Int32} (h : FC act J J') (h' : FC act J' J'') : FC act J J'' := ⟨fun q h1 h2 => (h'.1 q h1 h2).trans (h.1 q h1 h2), fun j hj => (h'.2.1 j hj).trans (h.2.1 j hj), fun j h1 h2 h3 h4 => (h'.2.2 j h1 h2 h3 h4).trans (h.2.2 j h1 h2 h3 h4)⟩
theorem FP.c {act : Nat} {J J' : Nat → Nat → Int32} (h : FP act J J') : FC act J J' := ⟨h.1, h.2.1, fun j h1 h2 h3 h4 => h.2.2 j h3 h4⟩
/-- between two clauses -/
def RC (J : Nat → Nat → Int32) (t : Nat → Int32) (z act a : Nat) (st : Stn) : Prop := RP J t z act a 0 false (clsR st.2.2) ∧ J 141 (222 + act) = nI st.1 ∧ J 141 (227 + act) = nI st.2.1
def RD (J : Nat → Nat → Int32) (t : Nat → Int32) (z act : Nat) (r : Bool × Nat × Stn) : Prop := match r with
  | (true, b, st) => RC J t z act b st
  | (false, b, _) => ∃ L, RP J t z act b 0 true L
theorem RC.fp {J J' : Nat → Nat → Int32} {t : Nat → Int32} {z act a b : Nat} {st : Stn} (hact : act < 5) (h : RC J t z act a st) (hf : FP act J J') : J' 141 (222 + act) = nI st.1 ∧ J' 141 (227 + act) = nI st.2.1 := ⟨(hf.2.2 _ (by omega) (by omega)).trans h.2.1, (hf.2.2 _ (by omega) (by omega)).trans h.2.2⟩
/-- the clauses from the result of one on, m more at most -/
def pS1 (t : Nat → Int32) (z m : Nat) (r : Bool × Nat × Stn) : Bool × Nat × Stn := match r with
  | (false, b, st) => (false, b, st)
  | (true, b, st) => if z ≤ b then (true, b, st) else if m = 0 ∨ pk t z b ≠ 59 then (false, b, st) else pS t z m (b + 1) st
theorem pS_1 (t : Nat → Int32) (z m a : Nat) (st : Stn) : pS t z (m + 1) a st = pS1 t z m (pC t z a st) := by
  show (match pC t z a st with
    | (false, b, st') => (false, b, st')
    | (true, b, st') => if z ≤ b then (true, b, st') else if m = 0 ∨ pk t z b ≠ 59 then (false, b, st') else pS t z m (b + 1) st') = _
  rcases pC t z a st with ⟨ok, b, st'⟩
  cases ok <;> rfl
section STAT
variable {X : Nat × (Nat → Int32)} {d : Nat} {T : List (Nat × Nat)} {I : Nat → Nat → Int32} {G : Nat → Nat → Option Nat} {t : Nat → Int32} {z act a : Nat} {st : Stn} {s : Nat → Int32}
theorem m_much (hz : z ≤ 100) (hact : act < 5) (ha : a ≤ z) (hR : RC I t z act a st) (hs : stI a st) {i : Nat} {w : Bool} (hi : (i = 9 ∧ w = true) ∨ (i = 12 ∧ w = false)) {kd : Int32} (hkd : kd = if w = true then -10 else -200) : ∃ I', Ev X (d + 25) kX12_much 0 (ent kX12_much [.ref 140, .int kd, .retAddr i]) [] (K0 ++ T, I, RS G) (none, (K0 ++ T, I', RS G)) ∧ RD I' t z act (pCm t z w (txt i) a st) ∧ FP act I I' := by
  have hi4 : i = 7 ∨ i = 8 ∨ i = 9 ∨ i = 12 := by omega
  have hne : ∀ c ∈ txt i, c ≠ -1 := by rcases hi4 with rfl | rfl | rfl | rfl <;> decide
  have hlen : (txt i).length = 5 := by rcases hi with ⟨rfl, -⟩ | ⟨rfl, -⟩ <;> rfl
  obtain ⟨J1, e1, e2, e3⟩ := m_spells (X := X) (d := d + 20) (T := T) (G := G) hR.1 hz ha hi4
  have hw := pW_ok (t := t) (z := z) (txt i) a hne ha
  -- whatever was wrong
  have bad : ∀ (J : Nat → Nat → Int32) (L : List Int32) (b : Nat) (x : Int32), RP J t z act b 0 true L → FP act I J → ∃ I', (Ev X (d + 25) kX12_much 10 [some (.ref 140), some (.int kd), some (.retAddr i), some (.int x)] [] (K0 ++ T, J, RS G) (none, (K0 ++ T, I', RS G))) ∧ (∃ L', RP I' t z act b 0 true L') ∧ FP act I I' := by
    intro J L b x h1 h2
    obtain ⟨J2, f1, f2, f3⟩ := m_must_w (X := X) (d := d + 23) (T := T) (G := G) h1 32
    refine ⟨J2, ?_, ⟨L, f2⟩, h2.tr f3⟩
    (repeat refine Ev.p rfl rfl ?_)
    refine Ev.c rfl f1 ?_
    (repeat refine Ev.p rfl rfl ?_)
    refine Ev.c rfl (m_some_w f2) ?_
    (repeat refine Ev.p rfl rfl ?_)
    refine Ev.c rfl (m_emits_w f2 _) ?_
    ((repeat refine Ev.p rfl rfl ?_); exact Ev.r rfl)
  have go : ∀ {R : Option Value × Hp}, Ev X (d + 25) kX12_much 5 [some (.ref 140), some (.int kd), some (.retAddr i), none] [] (K0 ++ T, J1, RS G) R → Ev X (d + 25) kX12_much 0 (ent kX12_much [.ref 140, .int kd, .retAddr i]) [] (K0 ++ T, I, RS G) R := by
    intro R g
    (repeat refine Ev.p rfl rfl ?_)
    refine Ev.c rfl e1 ?_
    (repeat (first | (refine Ev.at (q := 5) rfl ?_; exact g) | refine Ev.p rfl rfl ?_))
  unfold pCm pCn
  rcases hr : pW t z (txt i) a with ⟨ok, b⟩
  rw [hr] at e2 hw
  cases ok with
  | false =>
    have e2 : RP J1 t z act b 0 true _ := e2
    obtain ⟨J2, x, f1, f2, f3⟩ := m_figures_w (X := X) (d := d + 23) (T := T) (G := G) e2
    obtain ⟨J3, g1, g2, g3⟩ := bad J2 _ b x f2 (e3.tr f3)
    refine ⟨J3, go ?_, g2, g3⟩
    (repeat refine Ev.p rfl rfl ?_)
    refine Ev.c rfl f1 ?_
    (repeat (first | (refine Ev.at (q := 10) rfl ?_; exact g1) | refine Ev.p rfl rfl ?_))
  | true =>
    have e2 : RP J1 t z act b 0 false _ := e2
    dsimp only at hw
    have hb := hw.2.2 rfl
    obtain ⟨J2, x, f1, f2, f3⟩ := m_figures (X := X) (d := d + 23) (T := T) (G := G) e2 hz hw.2.1
    have go2 : ∀ {R : Option Value × Hp}, Ev X (d + 25) kX12_much 10 [some (.ref 140), some (.int kd), some (.retAddr i), some (.int x)] [] (K0 ++ T, J2, RS G) R → Ev X (d + 25) kX12_much 0 (ent kX12_much [.ref 140, .int kd, .retAddr i]) [] (K0 ++ T, I, RS G) R := by
      intro R g
      refine go ?_
      (repeat refine Ev.p rfl rfl ?_)
      refine Ev.c rfl f1 ?_
      (repeat (first | (refine Ev.at (q := 10) rfl ?_; exact g) | refine Ev.p rfl rfl ?_))
    dsimp only
    cases hn : pN t z b with
    | none =>
      rw [hn] at f2
      obtain ⟨J3, g1, g2, g3⟩ := bad J2 _ b x f2 (e3.tr f3)
      exact ⟨J3, go2 g1, g2, g3⟩
    | some q =>
      obtain ⟨n, b'⟩ := q
      rw [hn] at f2
      obtain ⟨rfl, r2⟩ := f2
      have hnb := pN_ok hn
      obtain ⟨J3, k1, k2, k3, k4⟩ := m_must (X := X) (d := d + 23) (T := T) (G := G) r2 hz hnb.2.1 32
      have f4 : FP act I J3 := (e3.tr f3).tr k4
      dsimp only
      by_cases h32 : pk t z b' = 32
      · rw [if_pos h32]
        have r3 := k2 h32
        have hlt := pq_lt h32 (by decide)
        have hL := hs.2.2.2.1
        obtain ⟨J4, l1, l2, l3⟩ := (m_pp (X := X) (d := d) (T := T) (G := G) (t := t) (z := z) (act := act) hz hact 600).2.2.2.1 0 5 (b' + 1) _ J3 (by omega) (by omega) hlt (by omega) r3
        have l1 := l1.dp (d' := d + 24) (by omega)
        have hp := pp_ok (t := t) (z := z) 600 3 0 (b' + 1) [] (fun _ => rfl) hlt
        rcases hq : pp t z 600 3 0 (b' + 1) [] with ⟨ok, b2, ts⟩
        rw [hq] at l2 hp
        have go3 : ∀ {R : Option Value × Hp}, Ev X (d + 25) kX12_much 20 [some (.ref 140), some (.int kd), some (.retAddr i), some (.int (nI n))] [] (K0 ++ T, J4, RS G) R → Ev X (d + 25) kX12_much 0 (ent kX12_much [.ref 140, .int kd, .retAddr i]) [] (K0 ++ T, I, RS G) R := by
          intro R g
          refine go2 ?_
          (repeat refine Ev.p rfl rfl ?_)
          refine Ev.c rfl k1 ?_
          (repeat refine Ev.p rfl rfl ?_)
          refine Ev.c rfl l1 ?_
          (repeat (first | (refine Ev.at (q := 20) rfl ?_; exact g) | refine Ev.p rfl rfl ?_))
        cases ok with
        | false =>
          obtain ⟨L', r4⟩ := l2
          refine ⟨J4, go3 ?_, ⟨L', r4⟩, f4.tr l3⟩
          (repeat refine Ev.p rfl rfl ?_)
          refine Ev.c rfl (m_emits_w r4 _) ?_
          ((repeat refine Ev.p rfl rfl ?_); exact Ev.r rfl)
        | true =>
          have r4 : RP J4 t z act b2 0 false (clsR st.2.2 ++ ts.map tokR) := l2
          have hp2 := hp.2.2 rfl
          simp only [List.length_nil] at hp2
          dsimp only at hp hp2
          obtain ⟨J5, o1, o2, o3⟩ := m_emits (X := X) (d := d + 24) (T := T) (G := G) r4 hz hact (by rw [List.length_append, List.length_map]; omega) (kd - nI n)
          have f5 : FP act I J5 := (f4.tr l3).tr o3
          have hkd2 : kd - nI n = endR n w := by
            rw [hkd]
            unfold endR
            cases w <;> rfl
          have hfp := RC.fp (st := st) (b := b2) hact hR f5
          refine ⟨J5, go3 ?_, ⟨?_, hfp.1, hfp.2⟩, f5⟩
          · (repeat refine Ev.p rfl rfl ?_)
            refine Ev.c rfl o1 ?_
            ((repeat refine Ev.p rfl rfl ?_); exact Ev.r rfl)
          · show RP J5 t z act b2 0 false (clsR (st.2.2 ++ [(n, w, ts)]))
            rw [clsR_app]
            show RP J5 t z act b2 0 false (clsR st.2.2 ++ (clR (n, w, ts) ++ []))
            rw [List.append_nil]
            show RP J5 t z act b2 0 false (clsR st.2.2 ++ (ts.map tokR ++ [endR n w]))
            rw [← List.append_assoc, ← hkd2]
            exact o2
      · rw [if_neg h32]
        have r3 := k3 h32
        refine ⟨J3, go2 ?_, ⟨_, r3⟩, f4⟩
        (repeat refine Ev.p rfl rfl ?_)
        refine Ev.c rfl k1 ?_
        (repeat refine Ev.p rfl rfl ?_)
        refine Ev.c rfl (m_some_w r3) ?_
        (repeat refine Ev.p rfl rfl ?_)
        refine Ev.c rfl (m_emits_w r3 _) ?_
        ((repeat refine Ev.p rfl rfl ?_); exact Ev.r rfl)
theorem m_tells (hz : z ≤ 100) (hact : act < 5) (ha : a ≤ z) (hR : RC I t z act a st) {i wh : Nat} (hi : (i = 7 ∧ wh = 222) ∨ (i = 8 ∧ wh = 227)) : ∃ I', Ev X (d + 5) kX12_tellsHere 0 (ent kX12_tellsHere [.ref 140, .int (nI wh), .retAddr i]) [] (K0 ++ T, I, RS G) (none, (K0 ++ T, I', RS G)) ∧ RD I' t z act (match pCn t z (txt i) a with | (true, b, n) => (true, b, (if wh = 222 then (n, st.2.1, st.2.2) else (st.1, n, st.2.2))) | (false, b, _) => (false, b, st)) ∧ FC act I I' := by
  have hi4 : i = 7 ∨ i = 8 ∨ i = 9 ∨ i = 12 := by omega
  have hne : ∀ c ∈ txt i, c ≠ -1 := by rcases hi4 with rfl | rfl | rfl | rfl <;> decide
  obtain ⟨J1, e1, e2, e3⟩ := m_spells (X := X) (d := d) (T := T) (G := G) hR.1 hz ha hi4
  have hw := pW_ok (t := t) (z := z) (txt i) a hne ha
  have bad : ∀ (J : Nat → Nat → Int32) (L : List Int32) (b : Nat) (x : Int32), RP J t z act b 0 true L → (Ev X (d + 5) kX12_tellsHere 10 [some (.ref 140), some (.int (nI wh)), some (.retAddr i), some (.int x)] [] (K0 ++ T, J, RS G) (none, (K0 ++ T, J, RS G))) := by
    intro J L b x h1
    have h9 : J 140 9 = 1 := h1.2.2.2.1
    (repeat refine Ev.p rfl rfl ?_)
    refine Ev.bp rfl (fun c => ?_) (fun c => ?_)
    · ((repeat refine Ev.p rfl rfl ?_); exact Ev.r rfl)
    · exact absurd h9 (fun h => c (by show J 140 9 ≠ 0; rw [h]; decide))
  have go : ∀ {R : Option Value × Hp}, Ev X (d + 5) kX12_tellsHere 5 [some (.ref 140), some (.int (nI wh)), some (.retAddr i), none] [] (K0 ++ T, J1, RS G) R → Ev X (d + 5) kX12_tellsHere 0 (ent kX12_tellsHere [.ref 140, .int (nI wh), .retAddr i]) [] (K0 ++ T, I, RS G) R := by
    intro R g
    (repeat refine Ev.p rfl rfl ?_)
    refine Ev.c rfl e1 ?_
    (repeat (first | (refine Ev.at (q := 5) rfl ?_; exact g) | refine Ev.p rfl rfl ?_))
  unfold pCn
  rcases hr : pW t z (txt i) a with ⟨ok, b⟩
  rw [hr] at e2 hw
  cases ok with
  | false =>
    have e2 : RP J1 t z act b 0 true _ := e2
    obtain ⟨J2, x, f1, f2, f3⟩ := m_figures_w (X := X) (d := d + 3) (T := T) (G := G) e2
    refine ⟨J2, go ?_, ⟨_, f2⟩, (e3.tr f3).c⟩
    (repeat refine Ev.p rfl rfl ?_)
    refine Ev.c rfl f1 ?_
    (repeat (first | (refine Ev.at (q := 10) rfl ?_; exact (bad J2 _ b x f2)) | refine Ev.p rfl rfl ?_))
  | true =>
    have e2 : RP J1 t z act b 0 false _ := e2
    dsimp only at hw
    have hb := hw.2.2 rfl
    obtain ⟨J2, x, f1, f2, f3⟩ := m_figures (X := X) (d := d + 3) (T := T) (G := G) e2 hz hw.2.1
    dsimp only
    cases hn : pN t z b with
    | none =>
      rw [hn] at f2
      have f2 : RP J2 t z act b 0 true _ := f2
      refine ⟨J2, go ?_, ⟨_, f2⟩, (e3.tr f3).c⟩
      (repeat refine Ev.p rfl rfl ?_)
      refine Ev.c rfl f1 ?_
      (repeat (first | (refine Ev.at (q := 10) rfl ?_; exact (bad J2 _ b x f2)) | refine Ev.p rfl rfl ?_))
    | some q =>
      obtain ⟨n, b'⟩ := q
      rw [hn] at f2
      obtain ⟨rfl, r2⟩ := f2
      have h9 : J2 140 9 = 0 := r2.2.2.2.1
      have h6 : J2 140 6 = nI act := r2.1
      have f23 := hR.fp (b := b') hact (e3.tr f3)
      have hwh : wh = 222 ∨ wh = 227 := by omega
      obtain ⟨g1, g2, g3, g4, g5, g6, g7, g8⟩ := r2
      have hlen : (clsR st.2.2).length ≤ 140 ∨ True := Or.inr trivial
      refine ⟨upI J2 141 (wh + act) (nI n), go ?_, ?_, ?_⟩
      · (repeat refine Ev.p rfl rfl ?_)
        refine Ev.c rfl f1 ?_
        (repeat refine Ev.p rfl rfl ?_)
        refine Ev.bp rfl (fun c => ?_) (fun c => ?_)
        · exact absurd h9 c
        · (repeat refine Ev.p rfl rfl ?_)
          refine Ev.iast (j := wh + act) rfl rfl (by show nI wh + J2 140 6 = _; rw [h6]; exact nI_add wh act) (by omega) (by omega) ?_
          ((repeat refine Ev.p rfl rfl ?_); exact Ev.r rfl)
      · have rp : ∀ v : Int32, RP (upI J2 141 (wh + act) v) t z act b' 0 false (clsR st.2.2) := by
          intro v
          refine ⟨by rw [upI_ne (by omega)]; exact g1, by rw [upI_ne (by omega)]; exact g2, by rw [upI_ne (by omega)]; exact g3, by rw [upI_ne (by omega)]; exact g4, by rw [upI_ne (by omega)]; exact g5, fun i hi => ?_, ?_, fun i x hx => ?_⟩
          · rw [upI_eq, upd_ne (by omega)]; exact g6 i hi
          · rw [upI_eq, upd_ne (by omega)]; exact g7
          · rw [upI_eq, upd_ne (by omega)]; exact g8 i x hx
        show RC _ t z act b' _
        rcases hwh with rfl | rfl
        · rw [if_pos rfl]
          exact ⟨rp _, by rw [upI_eq, upd_at], by rw [upI_eq, upd_ne (by omega)]; exact f23.2⟩
        · rw [if_neg (by omega)]
          exact ⟨rp _, by rw [upI_eq, upd_ne (by omega)]; exact f23.1, by rw [upI_eq, upd_at]⟩
      · refine (e3.tr f3).c.tr ⟨fun q h1 h2 => upI_ne h2, fun j hj => by rw [upI_ne (by omega)], fun j h1 h2 h3 h4 => by rw [upI_eq, upd_ne (by omega)]⟩
theorem m_clause (hz : z ≤ 100) (hact : act < 5) (ha : a ≤ z) (hR : RC I t z act a st) (hs : stI a st) : ∃ I', Ev X (d + 26) kX12_clauseHere 0 (ent kX12_clauseHere [.ref 140]) [] (K0 ++ T, I, RS G) (none, (K0 ++ T, I', RS G)) ∧ RD I' t z act (pC t z a st) ∧ FC act I I' := by
  have hh := m_here (X := X) (d := d + 25) (T := T) (G := G) hR.1 hz ha
  unfold pC
  by_cases h1 : pk t z a = 100
  · rw [if_pos h1]
    rw [h1] at hh
    obtain ⟨J, e1, e2, e3⟩ := m_tells (X := X) (d := d + 20) (T := T) (G := G) hz hact ha hR (i := 7) (wh := 222) (Or.inl ⟨rfl, rfl⟩)
    refine ⟨J, ?_, ?_, e3⟩
    · (repeat refine Ev.p rfl rfl ?_)
      refine Ev.c rfl hh ?_
      (repeat refine Ev.p rfl rfl ?_)
      refine Ev.c rfl e1 ?_
      ((repeat refine Ev.p rfl rfl ?_); exact Ev.r rfl)
    · simp only [if_true] at e2
      exact e2
  · rw [if_neg h1]
    by_cases h2 : pk t z a = 102
    · rw [if_pos h2]
      rw [h2] at hh
      obtain ⟨J, e1, e2, e3⟩ := m_tells (X := X) (d := d + 20) (T := T) (G := G) hz hact ha hR (i := 8) (wh := 227) (Or.inr ⟨rfl, rfl⟩)
      refine ⟨J, ?_, ?_, e3⟩
      · (repeat refine Ev.p rfl rfl ?_)
        refine Ev.c rfl hh ?_
        (repeat refine Ev.p rfl rfl ?_)
        refine Ev.c rfl e1 ?_
        ((repeat refine Ev.p rfl rfl ?_); exact Ev.r rfl)
      · simp only [show ¬ (227 : Nat) = 222 by omega, if_false] at e2
        exact e2
    · rw [if_neg h2]
      by_cases h3 : pk t z a = 119
      · rw [if_pos h3]
        rw [h3] at hh
        obtain ⟨J, e1, e2, e3⟩ := m_much (X := X) (d := d) (T := T) (G := G) hz hact ha hR hs (i := 9) (w := true) (kd := -10) (Or.inl ⟨rfl, rfl⟩) rfl
        refine ⟨J, ?_, e2, e3.c⟩
        (repeat refine Ev.p rfl rfl ?_)
        refine Ev.c rfl hh ?_
        (repeat refine Ev.p rfl rfl ?_)
        refine Ev.c rfl e1 ?_
        ((repeat refine Ev.p rfl rfl ?_); exact Ev.r rfl)
      · rw [if_neg h3]
        by_cases h4 : pk t z a = 99
        · rw [if_pos h4]
          rw [h4] at hh
          obtain ⟨J, e1, e2, e3⟩ := m_much (X := X) (d := d) (T := T) (G := G) hz hact ha hR hs (i := 12) (w := false) (kd := -200) (Or.inr ⟨rfl, rfl⟩) rfl
          refine ⟨J, ?_, e2, e3.c⟩
          (repeat refine Ev.p rfl rfl ?_)
          refine Ev.c rfl hh ?_
          (repeat refine Ev.p rfl rfl ?_)
          refine Ev.c rfl e1 ?_
          ((repeat refine Ev.p rfl rfl ?_); exact Ev.r rfl)
        · rw [if_neg h4]
          refine ⟨upI I 140 9 1, ?_, ⟨_, hR.1.s9 (w' := true) rfl⟩, ((FP.rf act I).s (by omega) 1).c⟩
          (repeat refine Ev.p rfl rfl ?_)
          refine Ev.c rfl hh ?_
          refine Ev.p (pc' := 95) (ls' := ent kX12_clauseHere [.ref 140]) (st' := []) (h' := (K0 ++ T, I, RS G)) rfl ?_ ?_
          · show (some (lkt 91 #[(99, 79), (100, 44), (102, 56), (119, 68)] 4 (pk t z a).toInt, ent kX12_clauseHere [.ref 140], [], (K0 ++ T, I, RS G)) : Option St) = _
            rw [lkt_def h4 h1 h2 h3]
            rfl
          ((repeat refine Ev.p rfl rfl ?_); exact Ev.r rfl)
end STAT
