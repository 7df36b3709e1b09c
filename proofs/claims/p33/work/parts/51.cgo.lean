/-! THE CLASS: an evening goes -/
def PGo (v q : Nat) : Prop := q = v ∨ q = v + 4 ∨ q = v + 5 ∨ q = v + 8
theorem SF_al {s u : Nat → Int32} {n : Nat} (h : SF s n) (h01 : r01 u) (ha : AL s u) : SF u n := by
  refine ⟨h01, fun q hq => ?_, fun p hp => ?_⟩
  · rw [ha _ (by omega)]; exact h.2.1 q hq
  · obtain ⟨t, h1, h2⟩ := h.2.2 p hp
    exact ⟨t, h1, by rw [ha _ (by omega)]; exact h2⟩
theorem SF_go {s : Nat → Int32} {n : Nat} (h : SF s n) (hn : n ≤ 6) (cls : Cls) (du fd : Int32) {tk : Option Nat} {x : Int32} (hx : tkV tk n x) : SF (rGo s n cls du fd tk) n := SF_al h (rGo_01 h.1 hn cls du fd hx) (rGo_al hn cls du fd hx)
section CGO
variable {X : Nat × (Nat → Int32)} {d : Nat} {K : List (Nat × Nat)} {I : Nat → Nat → Int32} {R : Nat → Nat → Option Nat} {s : Nat → Int32} {n p v q m e : Nat} {du fd : Int32} {cls : Cls} {tk : Option Nat} {x : Int32}
theorem c_goOn (hK : VK K R v) (hM : VM I v s n) (hn : n ≤ 6) (hS : SF s n) (hO : VO K I R v s n) (he : s 0 = nI e) (he2 : e < 1000000) (h14 : R v 14 = some q) (hst : stC K I R q fd cls) (hdu : I v 13 = du) (hT : TBk s n cls) (hx : tkV tk n x) : ∃ I', Ev X (d + 5) kX10_goOn 0 (ent kX10_goOn [.ref v, .int x]) [] (K, I, R) (none, (K, I', R)) ∧ VM I' v (rGo s n cls du fd tk) n ∧ FR (PGo v) I I' ∧ I' v 13 = du ∧ I' v 15 = I v 15 ∧ (∀ p, n ≤ p → I' (v + 4) p = I (v + 4) p ∧ I' (v + 5) p = I (v + 5) p) := by
  obtain ⟨u, hu⟩ : ∃ u, u = rGo s n cls du fd tk := ⟨_, rfl⟩
  have hSu : SF u n := by rw [hu]; exact SF_go hS hn cls du fd hx
  have hau : AL s u := by rw [hu]; exact rGo_al hn cls du fd hx
  obtain ⟨hr, hhr⟩ : ∃ hr, hr = rHr s n tk := ⟨_, rfl⟩
  have hlt : ∀ p, hr = some p → p < n ∧ x = nI p ∧ rRd s n p = true := fun p hp => by
    have h1 := rHr_lt hx (hhr.symm.trans hp)
    exact ⟨h1.1, h1.2, (rHr_some (hhr.symm.trans hp)).2⟩
  have g8 : ∀ p, p < n → (hr = some p → u (8 + p) = rTlk s n p cls) ∧ (hr ≠ some p → rOp s p = true → u (8 + p) = if s (8 + p) - fd ≤ 0 then 0 else s (8 + p) - fd) ∧ (hr ≠ some p → rOp s p = false → u (8 + p) = s (8 + p)) := by
    rw [hu, hhr]; exact fun p hp => go_8 hn hx hT hp
  have g2 : ∀ p, p < n → u (2 + p) = s (2 + p) + (if u (14 + p) = 0 then 1 else 0) := by rw [hu]; exact fun p hp => go_2 hn hp
  have g1 : u 1 = s 1 + nI (cnt (rOp u) n) := by rw [hu]; exact go_1 hn
  have g0 : u 0 = s 0 + 1 := by rw [hu]; exact rGo_0 ..
  have gs : ∀ q, sett u q = gset s n cls du hr q := by rw [hu, hhr]; exact fun q => go_set hn hx q
  rw [← hu]
  obtain ⟨O, hO2⟩ : ∃ O, O = nI (mk (fun q => !sett s q && !shel s q) n) := ⟨_, rfl⟩
  have hOb : ∀ p, p < n → (O >>> (nI p &&& 31)) &&& 1 = bI (rOp s p) := fun p hp => by rw [hO2, mk_sr _ hn hp, rOp_b hS (by omega)]
  -- up to the first loop
  have s1 : ∃ (J : Nat → Nat → Int32) (mo : Int32), FR (PV v) I J ∧ (∀ p, hr = some p → mo = if rStir s n p cls ≤ 0 then 0 else rStir s n p cls) ∧ ∀ Z : Option Value × Hp, Ev X (d + 5) kX10_goOn 53 [some (.ref v), some (.int x), some (.int O), some (.int (bI hr.isSome)), some (.int mo), some (.int (nI 0))] [] (K, J, R) Z → Ev X (d + 5) kX10_goOn 0 (ent kX10_goOn [.ref v, .int x]) [] (K, I, R) Z := by
    have ho := c_openOnes (X := X) (d := d + 3) hK hM hn
    rw [← hO2] at ho
    have hK2 := hK
    obtain ⟨k0, k1, k2, k3, k4, k5, k6, k7, k8, r0, r1, r2, r3, r4, r5, r6, r7⟩ := hK2
    have v8 := hM.1
    have go : ∀ (Z : Option Value × Hp), Ev X (d + 5) kX10_goOn 30 [some (.ref v), some (.int x), some (.int O), none, none, none] [.int (bI hr.isSome)] (K, I, R) Z → Ev X (d + 5) kX10_goOn 0 (ent kX10_goOn [.ref v, .int x]) [] (K, I, R) Z := by
      intro Z g
      cases htk : tk with
      | none =>
        rw [htk] at hx hhr
        have hx : x < 0 := hx
        have e : hr = none := hhr
        rw [e] at g
        (repeat (first | refine Ev.p rfl rfl ?_ | refine Ev.gr (by rfl) (by rfl) (by assumption) (by rfl) (by assumption) ?_ | refine Ev.gi (by rfl) (by rfl) (by assumption) (by rfl) (by assumption) ?_))
        refine Ev.cv (by rfl) (by rfl) (by assumption) (by rfl) (by rfl) (by rfl) (by rfl) (by rfl) ho ?_
        (repeat refine Ev.p rfl rfl ?_)
        refine Ev.bp rfl (fun c => ?_) (fun c => ?_)
        · (repeat (first | (refine Ev.at (q := 30) rfl ?_; exact g) | refine Ev.p rfl rfl ?_))
        · exact absurd hx c
      | some p =>
        rw [htk] at hx hhr
        obtain ⟨hp, ex⟩ := hx
        subst ex
        have hrd := c_isReady (X := X) (d := d + 2) hK hM hn hS hp
        (repeat (first | refine Ev.p rfl rfl ?_ | refine Ev.gr (by rfl) (by rfl) (by assumption) (by rfl) (by assumption) ?_ | refine Ev.gi (by rfl) (by rfl) (by assumption) (by rfl) (by assumption) ?_))
        refine Ev.cv (by rfl) (by rfl) (by assumption) (by rfl) (by rfl) (by rfl) (by rfl) (by rfl) ho ?_
        (repeat refine Ev.p rfl rfl ?_)
        refine Ev.bp rfl (fun c => ?_) (fun c => ?_)
        · exact absurd c (nI_pos (by omega))
        · (repeat (first | refine Ev.p rfl rfl ?_ | refine Ev.gr (by rfl) (by rfl) (by assumption) (by rfl) (by assumption) ?_ | refine Ev.gi (by rfl) (by rfl) (by assumption) (by rfl) (by assumption) ?_))
          refine Ev.bp rfl (fun c2 => ?_) (fun c2 => ?_)
          · exact absurd c2 (nI_ge hp (by omega))
          · (repeat (first | refine Ev.p rfl rfl ?_ | refine Ev.gr (by rfl) (by rfl) (by assumption) (by rfl) (by assumption) ?_ | refine Ev.gi (by rfl) (by rfl) (by assumption) (by rfl) (by assumption) ?_))
            refine Ev.cv (by rfl) (by rfl) (by assumption) (by rfl) (by rfl) (by rfl) (by rfl) (by rfl) hrd ?_
            cases hb : rRd s n p with
            | true =>
              rw [show hr = some p from by rw [hhr]; unfold rHr; dsimp only; rw [hb]; rfl] at g
              (repeat (first | (refine Ev.at (q := 30) rfl ?_; exact g) | refine Ev.p rfl rfl ?_))
            | false =>
              rw [show hr = none from by rw [hhr]; unfold rHr; dsimp only; rw [hb]; rfl] at g
              (repeat (first | (refine Ev.at (q := 30) rfl ?_; exact g) | refine Ev.p rfl rfl ?_))
    cases hhc : hr with
    | none =>
      rw [hhc] at go
      refine ⟨I, 0, FR.rf I, (fun p hp => by cases hp), fun Z g => go Z ?_⟩
      (repeat (first | (refine Ev.at (q := 53) rfl ?_; exact g) | refine Ev.p rfl rfl ?_))
    | some p =>
      rw [hhc] at go
      obtain ⟨hp, ex, hrd⟩ := hlt p hhc
      subst ex
      obtain ⟨J, f1, f2⟩ := c_stirOf (X := X) (d := d) hK hM hn hS hO hp he he2 h14 hst
      have hmx := j_max (X := X) (d := d + 4) (K, J, R) 0 (rStir s n p cls)
      refine ⟨J, if rStir s n p cls ≤ 0 then 0 else rStir s n p cls, f2, (fun p' hp' => by cases hp'; rfl), fun Z g => go Z ?_⟩
      (repeat (first | refine Ev.p rfl rfl ?_ | refine Ev.gr (by rfl) (by rfl) (by assumption) (by rfl) (by assumption) ?_ | refine Ev.gi (by rfl) (by rfl) (by assumption) (by rfl) (by assumption) ?_))
      refine Ev.cv (by rfl) (by rfl) (by assumption) (by rfl) (by rfl) (by rfl) (by rfl) (by rfl) f1 ?_
      refine Ev.c rfl hmx ?_
      (repeat (first | (refine Ev.at (q := 53) rfl ?_; exact g) | refine Ev.p rfl rfl ?_))
  obtain ⟨J0, mo, fJ0, hmo, ev0⟩ := s1
  have hM0 := hM.fr fJ0
  have hst0 := hst.fv hK fJ0
  have hK2 := hK
  obtain ⟨k0, k1, k2, k3, k4, k5, k6, k7, k8, r0, r1, r2, r3, r4, r5, r6, r7⟩ := hK2
  have hq5 : ∀ j, j = v + 5 ∨ j = v ∨ j = v + 4 → q ≠ j := by
    have kq := hst.1
    rintro j (rfl | rfl | rfl) h
    · rw [h, k5] at kq; cases kq
    · rw [h, k0] at kq; cases kq
    · rw [h, k4] at kq; cases kq
  -- the first loop
  have l1 : ∀ mm i (J : Nat → Nat → Int32), i + mm = n → FR (fun c => c = v + 5) J0 J → (∀ p, p < n → J (v + 5) p = if p < i then u (8 + p) else s (8 + p)) → (∀ p, n ≤ p → J (v + 5) p = I (v + 5) p) → ∃ J', FR (fun c => c = v + 5) J0 J' ∧ (∀ p, p < n → J' (v + 5) p = u (8 + p)) ∧ (∀ p, n ≤ p → J' (v + 5) p = I (v + 5) p) ∧ ∀ Z : Option Value × Hp, Ev X (d + 5) kX10_goOn 139 [some (.ref v), some (.int x), some (.int O), some (.int (bI hr.isSome)), some (.int mo), some (.int (nI n))] [] (K, J', R) Z → Ev X (d + 5) kX10_goOn 53 [some (.ref v), some (.int x), some (.int O), some (.int (bI hr.isSome)), some (.int mo), some (.int (nI i))] [] (K, J, R) Z := by
    intro mm
    induction mm with
    | zero =>
      intro i J hi fJ h1 h2
      have e : i = n := by omega
      subst e
      refine ⟨J, fJ, fun p hp => by rw [h1 p hp, if_pos hp], h2, fun Z g => ?_⟩
      have v8 : J v 8 = nI i := by rw [fJ v (by omega)]; exact hM0.1
      (repeat (first | refine Ev.p rfl rfl ?_ | refine Ev.gr (by rfl) (by rfl) (by assumption) (by rfl) (by assumption) ?_ | refine Ev.gi (by rfl) (by rfl) (by assumption) (by rfl) (by assumption) ?_))
      refine Ev.bp rfl (fun c => ?_) (fun c => ?_)
      · (repeat (first | (refine Ev.at (q := 139) rfl ?_; exact g) | refine Ev.p rfl rfl ?_))
      · exact absurd (Int32.le_refl _) c
    | succ mm ih =>
      intro i J hi fJ h1 h2
      have hin : i < n := by omega
      have v8 : J v 8 = nI n := by rw [fJ v (by omega)]; exact hM0.1
      have fq : J q 1 = fd := by rw [fJ q (hq5 _ (Or.inl rfl))]; exact hst0.2.2.2.2.2.2.2.1
      have kq := hst.1
      have h1i : J (v + 5) i = s (8 + i) := by rw [h1 i hin, if_neg (by omega)]
      -- one that changes
      have st1 : ∀ y : Int32, u (8 + i) = y → ∃ J', FR (fun c => c = v + 5) J0 J' ∧ (∀ p, p < n → J' (v + 5) p = u (8 + p)) ∧ (∀ p, n ≤ p → J' (v + 5) p = I (v + 5) p) ∧ ∀ Z : Option Value × Hp, Ev X (d + 5) kX10_goOn 139 [some (.ref v), some (.int x), some (.int O), some (.int (bI hr.isSome)), some (.int mo), some (.int (nI n))] [] (K, J', R) Z → Ev X (d + 5) kX10_goOn 53 [some (.ref v), some (.int x), some (.int O), some (.int (bI hr.isSome)), some (.int mo), some (.int (nI i + 1))] [] (K, upI J (v + 5) i y, R) Z := by
        intro y hy
        have := ih (i + 1) (upI J (v + 5) i y) (by omega) (fJ.tr (FR.up rfl)) (fun p hp => by
          rw [upI_eq]
          by_cases hpi : p = i
          · subst hpi; rw [upd_at, if_pos (by omega), hy]
          · rw [upd_ne hpi, h1 p hp]
            by_cases h9 : p < i
            · rw [if_pos h9, if_pos (by omega)]
            · rw [if_neg h9, if_neg (by omega)]) (fun p hp => by rw [upI_eq, upd_ne (by omega)]; exact h2 p hp)
        rw [nI_succ] at this
        exact this
      by_cases hti : hr = some i
      · have hy : u (8 + i) = if (99 : Int32) ≤ s (8 + i) + mo then 99 else s (8 + i) + mo := by
          rw [(g8 i hin).1 hti, hmo i hti]
          show (if rTk s n i cls ≤ 99 then rTk s n i cls else 99) = if (99 : Int32) ≤ rTk s n i cls then 99 else rTk s n i cls
          by_cases h9 : rTk s n i cls ≤ 99
          · rw [if_pos h9]
            by_cases h8 : 99 ≤ rTk s n i cls
            · rw [if_pos h8]; exact Int32.le_antisymm h9 h8
            · rw [if_neg h8]
          · rw [if_neg h9, if_pos (Int32.le_of_lt (Int32.not_le.mp h9))]
        obtain ⟨J', f1, f2, f3, f4⟩ := st1 _ hy
        refine ⟨J', f1, f2, f3, fun Z g => ?_⟩
        have f5 := f4 Z g
        have hmn := j_min (X := X) (d := d + 4) (K, J, R) 99 (s (8 + i) + mo)
        rw [hti] at f5 ⊢
        have ex := (hlt i hti).2.1
        subst ex
        (repeat (first | refine Ev.p rfl rfl ?_ | refine Ev.gr (by rfl) (by rfl) (by assumption) (by rfl) (by assumption) ?_ | refine Ev.gi (by rfl) (by rfl) (by assumption) (by rfl) (by assumption) ?_))
        refine Ev.bp rfl (fun c => ?_) (fun c => ?_)
        · exact absurd c (nI_ge hin (by omega))
        · (repeat refine Ev.p rfl rfl ?_)
          refine Ev.bp rfl (fun c2 => absurd rfl c2) (fun c2 => ?_)
          (repeat (first | refine Ev.p rfl rfl ?_ | refine Ev.gr (by rfl) (by rfl) (by assumption) (by rfl) (by assumption) ?_ | refine Ev.gi (by rfl) (by rfl) (by assumption) (by rfl) (by assumption) ?_))
          (refine Ev.iald (j := i) (by rfl) (by assumption) (by rfl) (by omega) (by omega) ?_; rw [h1i])
          (repeat refine Ev.p rfl rfl ?_)
          refine Ev.c rfl hmn ?_
          refine Ev.iast (j := i) (by rfl) (by assumption) (by rfl) (by omega) (by omega) ?_
          (repeat (first | (refine Ev.at (q := 53) rfl ?_; exact f5) | refine Ev.p rfl rfl ?_))
      · -- on to what asks whether it is open
        have go97 : ∀ Z : Option Value × Hp, Ev X (d + 5) kX10_goOn 97 [some (.ref v), some (.int x), some (.int O), some (.int (bI hr.isSome)), some (.int mo), some (.int (nI i))] [] (K, J, R) Z → Ev X (d + 5) kX10_goOn 53 [some (.ref v), some (.int x), some (.int O), some (.int (bI hr.isSome)), some (.int mo), some (.int (nI i))] [] (K, J, R) Z := by
          intro Z g
          cases hhc : hr with
          | none =>
            rw [hhc] at g
            (repeat (first | refine Ev.p rfl rfl ?_ | refine Ev.gr (by rfl) (by rfl) (by assumption) (by rfl) (by assumption) ?_ | refine Ev.gi (by rfl) (by rfl) (by assumption) (by rfl) (by assumption) ?_))
            refine Ev.bp rfl (fun c => ?_) (fun c => ?_)
            · exact absurd c (nI_ge hin (by omega))
            · (repeat (first | (refine Ev.at (q := 97) rfl ?_; exact g) | refine Ev.p rfl rfl ?_))
          | some p =>
            rw [hhc] at g
            obtain ⟨hp, ex, -⟩ := hlt p hhc
            subst ex
            (repeat (first | refine Ev.p rfl rfl ?_ | refine Ev.gr (by rfl) (by rfl) (by assumption) (by rfl) (by assumption) ?_ | refine Ev.gi (by rfl) (by rfl) (by assumption) (by rfl) (by assumption) ?_))
            refine Ev.bp rfl (fun c => ?_) (fun c => ?_)
            · exact absurd c (nI_ge hin (by omega))
            · (repeat refine Ev.p rfl rfl ?_)
              refine Ev.bp rfl (fun c2 => ?_) (fun c2 => ?_)
              · (repeat (first | (refine Ev.at (q := 97) rfl ?_; exact g) | refine Ev.p rfl rfl ?_))
              · exact absurd ((nI_eq (by omega) (by omega)).mp (Decidable.not_not.mp c2)) (fun h => hti (by rw [hhc, h]))
        cases hoi : rOp s i with
        | true =>
          have hy := (g8 i hin).2.1 hti hoi
          obtain ⟨J', f1, f2, f3, f4⟩ := st1 _ hy
          refine ⟨J', f1, f2, f3, fun Z g => go97 Z ?_⟩
          have f5 := f4 Z g
          have hmx := j_max (X := X) (d := d + 4) (K, J, R) 0 (s (8 + i) - fd)
          iterate 5 refine Ev.p rfl rfl ?_
          rw [hOb i hin, hoi]
          (repeat (first | refine Ev.p rfl rfl ?_ | refine Ev.gr (by rfl) (by rfl) (by assumption) (by rfl) (by assumption) ?_ | refine Ev.gi (by rfl) (by rfl) (by assumption) (by rfl) (by assumption) ?_))
          (refine Ev.iald (j := i) (by rfl) (by assumption) (by rfl) (by omega) (by omega) ?_; rw [h1i])
          (repeat (first | refine Ev.p rfl rfl ?_ | refine Ev.gr (by rfl) (by rfl) (by assumption) (by rfl) (by assumption) ?_ | refine Ev.gi (by rfl) (by rfl) (by assumption) (by rfl) (by assumption) ?_))
          refine Ev.c rfl hmx ?_
          refine Ev.iast (j := i) (by rfl) (by assumption) (by rfl) (by omega) (by omega) ?_
          (repeat (first | (refine Ev.at (q := 53) rfl ?_; exact f5) | refine Ev.p rfl rfl ?_))
        | false =>
          have hy := (g8 i hin).2.2 hti hoi
          obtain ⟨J', f1, f2, f3, f4⟩ := ih (i + 1) J (by omega) fJ (fun p hp => by
            rw [h1 p hp]
            by_cases h9 : p < i
            · rw [if_pos h9, if_pos (by omega)]
            · rw [if_neg h9]
              by_cases hpi : p = i
              · subst hpi; rw [if_pos (by omega), hy]
              · rw [if_neg (by omega)]) h2
          refine ⟨J', f1, f2, f3, fun Z g => go97 Z ?_⟩
          have f5 := f4 Z g
          rw [nI_succ] at f5
          iterate 5 refine Ev.p rfl rfl ?_
          rw [hOb i hin, hoi]
          (repeat (first | (refine Ev.at (q := 53) rfl ?_; exact f5) | refine Ev.p rfl rfl ?_))
  obtain ⟨J1, fJ1, a1, a2, ev1⟩ := l1 n 0 J0 (by omega) (FR.rf J0) (fun p hp => by rw [if_neg (by omega)]; exact hM0.2.2.2.2.2.2.2.2.1 p hp) (fun p hp => by rw [fJ0 (v + 5) (by unfold PV; omega)])
  -- whether it is settled
  have b9 : J1 v 9 = nI (mk (sett s) n) := by rw [fJ1 v (by omega)]; exact hM0.2.1
  have b13 : J1 v 13 = du := by rw [fJ1 v (by omega), fJ0 v (by unfold PV; omega)]; exact hdu
  have s2 : ∃ J2 : Nat → Nat → Int32, FR (fun c => c = v) J1 J2 ∧ (∀ j, j ≠ 9 → J2 v j = J1 v j) ∧ J2 v 9 = nI (mk (sett u) n) ∧ ∀ Z : Option Value × Hp, Ev X (d + 5) kX10_goOn 171 [some (.ref v), some (.int x), some (.int O), some (.int (bI hr.isSome)), some (.int mo), some (.int (nI 0))] [] (K, J2, R) Z → Ev X (d + 5) kX10_goOn 139 [some (.ref v), some (.int x), some (.int O), some (.int (bI hr.isSome)), some (.int mo), some (.int (nI n))] [] (K, J1, R) Z := by
    cases hhc : hr with
    | none =>
      rw [hhc] at gs
      refine ⟨J1, FR.rf J1, fun _ _ => rfl, by rw [b9]; congr 1; exact mk_ext (fun p _ => (gs p).symm), fun Z g => ?_⟩
      (repeat (first | (refine Ev.at (q := 171) rfl ?_; exact g) | refine Ev.p rfl rfl ?_))
    | some p =>
      rw [hhc] at gs
      obtain ⟨hp, ex, hrd⟩ := hlt p hhc
      subst ex
      have hup := (g8 p hp).1 hhc
      have a1p := a1 p hp
      rw [hup] at a1p
      have hsp : sett s p = false := by
        unfold rRd at hrd
        rw [rOp_b hS (by omega)] at hrd
        cases h : sett s p with
        | false => rfl
        | true => rw [h] at hrd; simp at hrd
      by_cases hd : rTlk s n p cls < du
      · refine ⟨J1, FR.rf J1, fun _ _ => rfl, ?_, fun Z g => ?_⟩
        · rw [b9]
          congr 1
          refine mk_ext (fun r _ => ?_)
          rw [gs r]
          show sett s r = if r = p then !decide (rTlk s n p cls < du) else sett s r
          by_cases hrp : r = p
          · subst hrp; rw [if_pos rfl, decide_eq_true hd, hsp]; rfl
          · rw [if_neg hrp]
        · (repeat (first | refine Ev.p rfl rfl ?_ | refine Ev.gr (by rfl) (by rfl) (by assumption) (by rfl) (by assumption) ?_ | refine Ev.gi (by rfl) (by rfl) (by assumption) (by rfl) (by assumption) ?_))
          (refine Ev.iald (j := p) (by rfl) (by assumption) (by rfl) (by omega) (by omega) ?_; rw [a1p])
          (repeat (first | refine Ev.p rfl rfl ?_ | refine Ev.gr (by rfl) (by rfl) (by assumption) (by rfl) (by assumption) ?_ | refine Ev.gi (by rfl) (by rfl) (by assumption) (by rfl) (by assumption) ?_))
          refine Ev.bp rfl (fun c => ?_) (fun c => ?_)
          · (repeat (first | (refine Ev.at (q := 171) rfl ?_; exact g) | refine Ev.p rfl rfl ?_))
          · exact absurd hd c
      · refine ⟨upI J1 v 9 (nI (mk (sett s) n) ||| ((1 : Int32) <<< (nI p &&& 31))), FR.up rfl, fun j hj => by rw [upI_eq, upd_ne hj], ?_, fun Z g => ?_⟩
        · rw [upI_eq, upd_at, mk_set _ hn hp]
          congr 1
          refine mk_ext (fun r _ => ?_)
          rw [gs r]
          show (decide (r = p) || sett s r) = if r = p then !decide (rTlk s n p cls < du) else sett s r
          by_cases hrp : r = p
          · subst hrp; rw [if_pos rfl, decide_eq_false hd, decide_eq_true rfl]; rfl
          · rw [if_neg hrp, decide_eq_false hrp]; rfl
        · (repeat (first | refine Ev.p rfl rfl ?_ | refine Ev.gr (by rfl) (by rfl) (by assumption) (by rfl) (by assumption) ?_ | refine Ev.gi (by rfl) (by rfl) (by assumption) (by rfl) (by assumption) ?_))
          (refine Ev.iald (j := p) (by rfl) (by assumption) (by rfl) (by omega) (by omega) ?_; rw [a1p])
          (repeat (first | refine Ev.p rfl rfl ?_ | refine Ev.gr (by rfl) (by rfl) (by assumption) (by rfl) (by assumption) ?_ | refine Ev.gi (by rfl) (by rfl) (by assumption) (by rfl) (by assumption) ?_))
          refine Ev.bp rfl (fun c => ?_) (fun c => ?_)
          · exact absurd c hd
          · (repeat (first | refine Ev.p rfl rfl ?_ | refine Ev.gr (by rfl) (by rfl) (by assumption) (by rfl) (by assumption) ?_ | refine Ev.gi (by rfl) (by rfl) (by assumption) (by rfl) (by assumption) ?_))
            refine Ev.pi (by rfl) (by rfl) (by assumption) (by rfl) ?_
            (repeat (first | (refine Ev.at (q := 171) rfl ?_; exact g) | refine Ev.p rfl rfl ?_))
  obtain ⟨J2, fJ2, c1, c9, ev2⟩ := s2
  have c4 : ∀ p, p < n → J2 (v + 4) p = s (2 + p) := fun p hp => by rw [fJ2 (v + 4) (by omega), fJ1 (v + 4) (by omega)]; exact hM0.2.2.2.2.2.2.2.1 p hp
  have c8 : J2 v 8 = nI n := by rw [c1 8 (by omega), fJ1 v (by omega)]; exact hM0.1
  have c10 : J2 v 10 = nI (mk (shel s) n) := by rw [c1 10 (by omega), fJ1 v (by omega)]; exact hM0.2.2.1
  -- the second loop
  have l2 : ∀ mm i (J : Nat → Nat → Int32), i + mm = n → FR (fun c => c = v + 4) J2 J → (∀ p, p < n → J (v + 4) p = if p < i then u (2 + p) else s (2 + p)) → (∀ p, n ≤ p → J (v + 4) p = I (v + 4) p) → ∃ J', FR (fun c => c = v + 4) J2 J' ∧ (∀ p, p < n → J' (v + 4) p = u (2 + p)) ∧ (∀ p, n ≤ p → J' (v + 4) p = I (v + 4) p) ∧ ∀ Z : Option Value × Hp, Ev X (d + 5) kX10_goOn 206 [some (.ref v), some (.int x), some (.int O), some (.int (bI hr.isSome)), some (.int mo), some (.int (nI n))] [] (K, J', R) Z → Ev X (d + 5) kX10_goOn 171 [some (.ref v), some (.int x), some (.int O), some (.int (bI hr.isSome)), some (.int mo), some (.int (nI i))] [] (K, J, R) Z := by
    intro mm
    induction mm with
    | zero =>
      intro i J hi fJ h1 h2
      have e : i = n := by omega
      subst e
      refine ⟨J, fJ, fun p hp => by rw [h1 p hp, if_pos hp], h2, fun Z g => ?_⟩
      have v8 : J v 8 = nI i := by rw [fJ v (by omega)]; exact c8
      (repeat (first | refine Ev.p rfl rfl ?_ | refine Ev.gr (by rfl) (by rfl) (by assumption) (by rfl) (by assumption) ?_ | refine Ev.gi (by rfl) (by rfl) (by assumption) (by rfl) (by assumption) ?_))
      refine Ev.bp rfl (fun c => ?_) (fun c => ?_)
      · (repeat (first | (refine Ev.at (q := 206) rfl ?_; exact g) | refine Ev.p rfl rfl ?_))
      · exact absurd (Int32.le_refl _) c
    | succ mm ih =>
      intro i J hi fJ h1 h2
      have hin : i < n := by omega
      have v8 : J v 8 = nI n := by rw [fJ v (by omega)]; exact c8
      have v9 : J v 9 = nI (mk (sett u) n) := by rw [fJ v (by omega)]; exact c9
      have hs := c_isS (X := X) (d := d + 4) (R := R) k0 v9 hn hin
      have h1i : J (v + 4) i = s (2 + i) := by rw [h1 i hin, if_neg (by omega)]
      have g2i := g2 i hin
      rw [sett_0 hSu.1 (show i < 6 by omega)] at g2i
      cases hsi : sett u i with
      | true =>
        rw [hsi] at hs g2i
        rw [if_neg (by decide), Int32.add_zero] at g2i
        obtain ⟨J', f1, f2, f3, f4⟩ := ih (i + 1) J (by omega) fJ (fun p hp => by
          rw [h1 p hp]
          by_cases h9 : p < i
          · rw [if_pos h9, if_pos (by omega)]
          · rw [if_neg h9]
            by_cases hpi : p = i
            · subst hpi; rw [if_pos (by omega), g2i]
            · rw [if_neg (by omega)]) h2
        refine ⟨J', f1, f2, f3, fun Z g => ?_⟩
        have f5 := f4 Z g
        rw [nI_succ] at f5
        (repeat (first | refine Ev.p rfl rfl ?_ | refine Ev.gr (by rfl) (by rfl) (by assumption) (by rfl) (by assumption) ?_ | refine Ev.gi (by rfl) (by rfl) (by assumption) (by rfl) (by assumption) ?_))
        refine Ev.bp rfl (fun c => ?_) (fun c => ?_)
        · exact absurd c (nI_ge hin (by omega))
        · (repeat (first | refine Ev.p rfl rfl ?_ | refine Ev.gr (by rfl) (by rfl) (by assumption) (by rfl) (by assumption) ?_ | refine Ev.gi (by rfl) (by rfl) (by assumption) (by rfl) (by assumption) ?_))
          refine Ev.cv (by rfl) (by rfl) (by assumption) (by rfl) (by rfl) (by rfl) (by rfl) (by rfl) hs ?_
          (repeat (first | (refine Ev.at (q := 171) rfl ?_; exact f5) | refine Ev.p rfl rfl ?_))
      | false =>
        rw [hsi] at hs g2i
        rw [if_pos (by decide)] at g2i
        obtain ⟨J', f1, f2, f3, f4⟩ := ih (i + 1) (upI J (v + 4) i (s (2 + i) + 1)) (by omega) (fJ.tr (FR.up rfl)) (fun p hp => by
          rw [upI_eq]
          by_cases hpi : p = i
          · subst hpi; rw [upd_at, if_pos (by omega), g2i]
          · rw [upd_ne hpi, h1 p hp]
            by_cases h9 : p < i
            · rw [if_pos h9, if_pos (by omega)]
            · rw [if_neg h9, if_neg (by omega)]) (fun p hp => by rw [upI_eq, upd_ne (by omega)]; exact h2 p hp)
        refine ⟨J', f1, f2, f3, fun Z g => ?_⟩
        have f5 := f4 Z g
        rw [nI_succ] at f5
        (repeat (first | refine Ev.p rfl rfl ?_ | refine Ev.gr (by rfl) (by rfl) (by assumption) (by rfl) (by assumption) ?_ | refine Ev.gi (by rfl) (by rfl) (by assumption) (by rfl) (by assumption) ?_))
        refine Ev.bp rfl (fun c => ?_) (fun c => ?_)
        · exact absurd c (nI_ge hin (by omega))
        · (repeat (first | refine Ev.p rfl rfl ?_ | refine Ev.gr (by rfl) (by rfl) (by assumption) (by rfl) (by assumption) ?_ | refine Ev.gi (by rfl) (by rfl) (by assumption) (by rfl) (by assumption) ?_))
          refine Ev.cv (by rfl) (by rfl) (by assumption) (by rfl) (by rfl) (by rfl) (by rfl) (by rfl) hs ?_
          (repeat (first | refine Ev.p rfl rfl ?_ | refine Ev.gr (by rfl) (by rfl) (by assumption) (by rfl) (by assumption) ?_ | refine Ev.gi (by rfl) (by rfl) (by assumption) (by rfl) (by assumption) ?_))
          (refine Ev.iald (j := i) (by rfl) (by assumption) (by rfl) (by omega) (by omega) ?_; rw [h1i])
          (repeat refine Ev.p rfl rfl ?_)
          refine Ev.iast (j := i) (by rfl) (by assumption) (by rfl) (by omega) (by omega) ?_
          (repeat (first | (refine Ev.at (q := 171) rfl ?_; exact f5) | refine Ev.p rfl rfl ?_))
  obtain ⟨J3, fJ3, d1, d2, ev3⟩ := l2 n 0 J2 (by omega) (FR.rf J2) (fun p hp => by rw [if_neg (by omega)]; exact c4 p hp) (fun p hp => by rw [fJ2 (v + 4) (by omega), fJ1 (v + 4) (by omega), fJ0 (v + 4) (by unfold PV; omega)])
  -- the end
  have e8 : J3 v 8 = nI n := by rw [fJ3 v (by omega)]; exact c8
  have e9 : J3 v 9 = nI (mk (sett u) n) := by rw [fJ3 v (by omega)]; exact c9
  have e10 : J3 v 10 = nI (mk (shel s) n) := by rw [fJ3 v (by omega)]; exact c10
  have e11 : J3 v 11 = s 1 := by rw [fJ3 v (by omega), c1 11 (by omega), fJ1 v (by omega)]; exact hM0.2.2.2.1
  have e12 : J3 v 12 = s 0 := by rw [fJ3 v (by omega), c1 12 (by omega), fJ1 v (by omega)]; exact hM0.2.2.2.2.1
  have ho := c_opn (X := X) (d := d + 3) (R := R) k0 e8 e9 e10 hn
  have hbc := j_bitCount (X := X) (d := d + 4) (K, J3, R) (mk_64 (fun q => !sett u q && !shel s q) hn)
  rw [rC_mk _ hn, show cnt (fun q => !sett u q && !shel s q) n = cnt (rOp u) n from cnt_ext (fun p hp => by
    rw [rOp_b hSu (by omega)]
    congr 2
    unfold shel
    rw [hau (20 + p) (by omega)])] at hbc
  obtain ⟨J4, hJ4⟩ : ∃ J4, J4 = upI (upI J3 v 11 (u 1)) v 12 (u 0) := ⟨_, rfl⟩
  have fJ : ∀ c, c ≠ v → c ≠ v + 4 → c ≠ v + 5 → c ≠ v + 8 → J4 c = I c := fun c h1 h2 h3 h4 => by
    rw [hJ4, upI_ne h1, upI_ne h1, fJ3 c (by omega), fJ2 c (by omega), fJ1 c (by omega), fJ0 c (by unfold PV; omega)]
  have j4v : ∀ j, j ≠ 11 → j ≠ 12 → J4 v j = J3 v j := fun j h1 h2 => by rw [hJ4, upI_eq, upd_ne h2, upI_eq, upd_ne h1]
  refine ⟨J4, ?_, ⟨?_, ?_, ?_, ?_, ?_, ?_, ?_, ?_, ?_, ?_, ?_⟩, fun c hc => fJ c (fun h => hc (Or.inl h)) (fun h => hc (Or.inr (Or.inl h))) (fun h => hc (Or.inr (Or.inr (Or.inl h)))) (fun h => hc (Or.inr (Or.inr (Or.inr h)))), ?_, ?_, ?_⟩
  · refine ev0 _ (ev1 _ (ev2 _ (ev3 _ ?_)))
    rw [hJ4, g1, g0]
    (repeat (first | refine Ev.p rfl rfl ?_ | refine Ev.gr (by rfl) (by rfl) (by assumption) (by rfl) (by assumption) ?_ | refine Ev.gi (by rfl) (by rfl) (by assumption) (by rfl) (by assumption) ?_))
    refine Ev.cv (by rfl) (by rfl) (by assumption) (by rfl) (by rfl) (by rfl) (by rfl) (by rfl) ho ?_
    refine Ev.c rfl hbc ?_
    (repeat (first | refine Ev.p rfl rfl ?_ | refine Ev.gr (by rfl) (by rfl) (by assumption) (by rfl) (by assumption) ?_ | refine Ev.gi (by rfl) (by rfl) (by assumption) (by rfl) (by assumption) ?_))
    refine Ev.pi (by rfl) (by rfl) (by assumption) (by rfl) ?_
    iterate 2 refine Ev.p rfl rfl ?_
    refine Ev.gi (by rfl) (by rfl) (by assumption) (by rfl) (y := s 0) (by rw [upI_eq, upd_ne (by omega)]; exact e12) ?_
    (repeat (first | refine Ev.p rfl rfl ?_ | refine Ev.gr (by rfl) (by rfl) (by assumption) (by rfl) (by assumption) ?_ | refine Ev.gi (by rfl) (by rfl) (by assumption) (by rfl) (by assumption) ?_))
    refine Ev.pi (by rfl) (by rfl) (by assumption) (by rfl) ?_
    ((repeat refine Ev.p rfl rfl ?_); exact Ev.r rfl)
  · rw [j4v 8 (by omega) (by omega)]; exact e8
  · rw [j4v 9 (by omega) (by omega)]; exact e9
  · rw [j4v 10 (by omega) (by omega), e10]
    congr 1
    exact mk_ext (fun p hp => by unfold shel; rw [hau (20 + p) (by omega)])
  · rw [hJ4, upI_eq, upd_ne (by omega), upI_eq, upd_at]
  · rw [hJ4, upI_eq, upd_at]
  · intro p hp; rw [fJ (v + 2) (by omega) (by omega) (by omega) (by omega), hau _ (by omega)]; exact hM.2.2.2.2.2.1 p hp
  · intro p hp; rw [fJ (v + 3) (by omega) (by omega) (by omega) (by omega), hau _ (by omega)]; exact hM.2.2.2.2.2.2.1 p hp
  · intro p hp; rw [hJ4, upI_ne (by omega), upI_ne (by omega)]; exact d1 p hp
  · intro p hp; rw [hJ4, upI_ne (by omega), upI_ne (by omega), fJ3 (v + 5) (by omega), fJ2 (v + 5) (by omega)]; exact a1 p hp
  · intro p hp; rw [fJ (v + 6) (by omega) (by omega) (by omega) (by omega), hau _ (by omega)]; exact hM.2.2.2.2.2.2.2.2.2.1 p hp
  · intro p k hp hk; rw [fJ (v + 7) (by omega) (by omega) (by omega) (by omega), hau _ (by omega)]; exact hM.2.2.2.2.2.2.2.2.2.2 p k hp hk
  · rw [j4v 13 (by omega) (by omega), fJ3 v (by omega), c1 13 (by omega)]; exact b13
  · rw [j4v 15 (by omega) (by omega), fJ3 v (by omega), c1 15 (by omega), fJ1 v (by omega), fJ0 v (by unfold PV; omega)]
  · intro p hp
    refine ⟨?_, ?_⟩
    · rw [hJ4, upI_ne (by omega), upI_ne (by omega)]; exact d2 p hp
    · rw [hJ4, upI_ne (by omega), upI_ne (by omega), fJ3 (v + 5) (by omega), fJ2 (v + 5) (by omega)]; exact a2 p hp
end CGO
