/-! THE CLASS: Station.read -/
section CREAD4
variable {X : Nat × (Nat → Int32)} {d : Nat} {K : List (Nat × Nat)} {I : Nat → Nat → Int32} {R : Nat → Nat → Option Nat} {t : Nat → Int32} {z p tp a o : Nat} {C : List Nat} {st : Stn}
theorem c_readFrom (hK : CKs K R p tp) (hz : z ≤ 100) (ht : tOK t z) : ∀ (m c a : Nat) (st : Stn) (J : Nat → Nat → Int32), c + m = 10 → 1 ≤ c → a ≤ z → RCc J t z p tp a st → stI a st → st.2.2.length + 1 ≤ c → ∀ y : Int32, ∃ I', Ev X (d + 28) kX8_read 43 [some (.ref p), some (.ref tp), some (.int y), some (.int (nI c))] [] (K, J, R) (some (.int (if (pS t z (m + 1) a st).1 = true then -1 else nI (pS t z (m + 1) a st).2.1)), (K, I', R)) ∧ ((pS t z (m + 1) a st).1 = true → RCc I' t z p tp (pS t z (m + 1) a st).2.1 (pS t z (m + 1) a st).2.2) ∧ FD p J I' := by
  obtain ⟨k0, k1, k2, k3, r3, r4, r5, r7, kt'⟩ := id hK
  intro m
  induction m with
  | zero =>
    intro c a st J hc h1 ha hR hs hl y
    have e : c = 10 := by omega
    subst e
    rw [pS_1]
    obtain ⟨J1, e1, e2, e3⟩ := c_readClause (X := X) (d := d) hK hz ha ht hR hs (by omega)
    rcases hr : pC t z a st with ⟨ok, b, st'⟩
    rw [hr] at e1 e2
    cases ok with
    | false =>
      obtain ⟨C', q1⟩ := e2
      have h9 := q1.2.1
      refine ⟨J1, ?_, fun h => ff h, e3⟩
      show Ev X (d + 28) kX8_read 43 _ [] _ (some (.int (nI b)), _)
      (repeat (first | refine Ev.p rfl rfl ?_ | refine Ev.gr (by rfl) (by rfl) (by assumption) (by rfl) (by assumption) ?_ | refine Ev.gi (by rfl) (by rfl) (by assumption) (by rfl) (by assumption) ?_))
      refine Ev.cv (by rfl) (by rfl) (by assumption) (by rfl) (by rfl) (by rfl) (by rfl) (by rfl) e1 ?_
      ((repeat (first | refine Ev.p rfl rfl ?_ | refine Ev.gr (by rfl) (by rfl) (by assumption) (by rfl) (by assumption) ?_ | refine Ev.gi (by rfl) (by rfl) (by assumption) (by rfl) (by assumption) ?_)); exact Ev.r rfl)
    | true =>
      have e2 : RCc J1 t z p tp b st' := e2
      have h9 := e2.1.2.1
      have h8 := e2.1.1
      by_cases hzb : z ≤ b
      · have e : pS1 t z 0 (true, b, st') = (true, b, st') := if_pos hzb
        rw [e]
        refine ⟨J1, ?_, fun _ => e2, e3⟩
        (repeat (first | refine Ev.p rfl rfl ?_ | refine Ev.gr (by rfl) (by rfl) (by assumption) (by rfl) (by assumption) ?_ | refine Ev.gi (by rfl) (by rfl) (by assumption) (by rfl) (by assumption) ?_))
        refine Ev.cv (by rfl) (by rfl) (by assumption) (by rfl) (by rfl) (by rfl) (by rfl) (by rfl) e1 ?_
        (repeat (first | refine Ev.p rfl rfl ?_ | refine Ev.gr (by rfl) (by rfl) (by assumption) (by rfl) (by assumption) ?_ | refine Ev.gi (by rfl) (by rfl) (by assumption) (by rfl) (by assumption) ?_))
        refine Ev.bp rfl (fun c => ?_) (fun c => ?_)
        · exact absurd c (nI_nlt (by omega) (by have := pC_ok (t := t) ha hs; rw [hr] at this; have := this.2.1; dsimp only at this; omega))
        · ((repeat refine Ev.p rfl rfl ?_); exact Ev.r rfl)
      · have e : pS1 t z 0 (true, b, st') = (false, b, st') := by show (if z ≤ b then _ else _) = _; rw [if_neg hzb, if_pos (Or.inl rfl)]
        rw [e]
        refine ⟨J1, ?_, fun h => ff h, e3⟩
        show Ev X (d + 28) kX8_read 43 _ [] _ (some (.int (nI b)), _)
        (repeat (first | refine Ev.p rfl rfl ?_ | refine Ev.gr (by rfl) (by rfl) (by assumption) (by rfl) (by assumption) ?_ | refine Ev.gi (by rfl) (by rfl) (by assumption) (by rfl) (by assumption) ?_))
        refine Ev.cv (by rfl) (by rfl) (by assumption) (by rfl) (by rfl) (by rfl) (by rfl) (by rfl) e1 ?_
        (repeat (first | refine Ev.p rfl rfl ?_ | refine Ev.gr (by rfl) (by rfl) (by assumption) (by rfl) (by assumption) ?_ | refine Ev.gi (by rfl) (by rfl) (by assumption) (by rfl) (by assumption) ?_))
        refine Ev.bp rfl (fun c => ?_) (fun c => ?_)
        · ((repeat (first | refine Ev.p rfl rfl ?_ | refine Ev.gr (by rfl) (by rfl) (by assumption) (by rfl) (by assumption) ?_ | refine Ev.gi (by rfl) (by rfl) (by assumption) (by rfl) (by assumption) ?_)); exact Ev.r rfl)
        · exact absurd (nI_lt (by omega) (by omega)) c
  | succ m ih =>
    intro c a st J hc h1 ha hR hs hl y
    rw [pS_1]
    have hpc := pC_ok (t := t) ha hs
    obtain ⟨J1, e1, e2, e3⟩ := c_readClause (X := X) (d := d) hK hz ha ht hR hs (by omega)
    rcases hr : pC t z a st with ⟨ok, b, st'⟩
    rw [hr] at e1 e2 hpc
    dsimp only at hpc
    have hstart : ∀ {Z : Option Value × Hp}, Ev X (d + 28) kX8_read 53 [some (.ref p), some (.ref tp), some (.int y), some (.int (nI c))] [.int (bI ok)] (K, J1, R) Z → Ev X (d + 28) kX8_read 43 [some (.ref p), some (.ref tp), some (.int y), some (.int (nI c))] [] (K, J, R) Z := by
      intro Z g
      (repeat refine Ev.p rfl rfl ?_)
      refine Ev.bp rfl (fun c9 => absurd c9 (nI_nlt (a := 10) (by omega) (by omega))) (fun c9 => ?_)
      (repeat (first | refine Ev.p rfl rfl ?_ | refine Ev.gr (by rfl) (by rfl) (by assumption) (by rfl) (by assumption) ?_ | refine Ev.gi (by rfl) (by rfl) (by assumption) (by rfl) (by assumption) ?_))
      refine Ev.cv (by rfl) (by rfl) (by assumption) (by rfl) (by rfl) (by rfl) (by rfl) (by rfl) e1 ?_
      (repeat (first | (refine Ev.at (q := 53) rfl ?_; exact g) | refine Ev.p rfl rfl ?_))
    cases ok with
    | false =>
      obtain ⟨C', q1⟩ := e2
      have h9 := q1.2.1
      refine ⟨J1, hstart ?_, fun h => ff h, e3⟩
      show Ev X (d + 28) kX8_read 53 _ _ _ (some (.int (nI b)), _)
      ((repeat (first | refine Ev.p rfl rfl ?_ | refine Ev.gr (by rfl) (by rfl) (by assumption) (by rfl) (by assumption) ?_ | refine Ev.gi (by rfl) (by rfl) (by assumption) (by rfl) (by assumption) ?_)); exact Ev.r rfl)
    | true =>
      have e2 : RCc J1 t z p tp b st' := e2
      have h9 := e2.1.2.1
      have h8 := e2.1.1
      by_cases hzb : z ≤ b
      · have e : pS1 t z (m + 1) (true, b, st') = (true, b, st') := if_pos hzb
        rw [e]
        refine ⟨J1, hstart ?_, fun _ => e2, e3⟩
        (repeat (first | refine Ev.p rfl rfl ?_ | refine Ev.gr (by rfl) (by rfl) (by assumption) (by rfl) (by assumption) ?_ | refine Ev.gi (by rfl) (by rfl) (by assumption) (by rfl) (by assumption) ?_))
        refine Ev.bp rfl (fun c => ?_) (fun c => ?_)
        · exact absurd c (nI_nlt (by omega) (by omega))
        · ((repeat refine Ev.p rfl rfl ?_); exact Ev.r rfl)
      · obtain ⟨t1, t2⟩ := c_take (X := X) (d := d + 26) hK e2.1 hz hpc.2.1 59
        have go : ∀ {Z : Option Value × Hp}, Ev X (d + 28) kX8_read 80 [some (.ref p), some (.ref tp), some (.int y), some (.int (nI c))] [] (K, J1, R) Z → Ev X (d + 28) kX8_read 43 [some (.ref p), some (.ref tp), some (.int y), some (.int (nI c))] [] (K, J, R) Z := by
          intro Z g
          refine hstart ?_
          (repeat (first | refine Ev.p rfl rfl ?_ | refine Ev.gr (by rfl) (by rfl) (by assumption) (by rfl) (by assumption) ?_ | refine Ev.gi (by rfl) (by rfl) (by assumption) (by rfl) (by assumption) ?_))
          refine Ev.bp rfl (fun c => ?_) (fun c => ?_)
          · (repeat refine Ev.p rfl rfl ?_)
            refine Ev.bp rfl (fun c9 => absurd ((nI_eq (b := 10) (by omega) (by omega)).mp c9) (by omega)) (fun c9 => ?_)
            (repeat (first | (refine Ev.at (q := 80) rfl ?_; exact g) | refine Ev.p rfl rfl ?_))
          · exact absurd (nI_lt (by omega) (by omega)) c
        by_cases h59 : pk t z b = 59
        · have e : pS1 t z (m + 1) (true, b, st') = pS t z (m + 1) (b + 1) st' := by show (if z ≤ b then _ else _) = _; rw [if_neg hzb, if_neg (fun h => h.elim (by omega) (fun g => g h59))]
          rw [e]
          have t1 := t1 h59
          have hlt := pq_lt h59 (by decide)
          obtain ⟨J2, hJ2⟩ : ∃ J2, J2 = upI J1 p 9 (nI (b + 1)) := ⟨_, rfl⟩
          rw [← hJ2] at t1
          have fk : FK p J1 J2 := by rw [hJ2]; exact (FK.rf p J1).a _
          have q2 : RCc J2 t z p tp (b + 1) st' := ⟨by rw [hJ2]; exact e2.1.mv hK rfl, (e2.fk fk).1, (e2.fk fk).2.1, (e2.fk fk).2.2.1, (e2.fk fk).2.2.2⟩
          obtain ⟨I', g1, g2, g3⟩ := ih (c + 1) (b + 1) st' J2 (by omega) (by omega) hlt q2 (hpc.2.2.1.mo (by omega)) (by omega) y
          refine ⟨I', go ?_, g2, (e3.tr fk.d).tr g3⟩
          rw [nI_succ c] at g1
          (repeat refine Ev.p rfl rfl ?_)
          refine Ev.cv (by rfl) (by rfl) (by assumption) (by rfl) (by rfl) (by rfl) (by rfl) (by rfl) t1 ?_
          (repeat (first | (refine Ev.at (q := 43) rfl ?_; exact g1) | refine Ev.p rfl rfl ?_))
        · have e : pS1 t z (m + 1) (true, b, st') = (false, b, st') := by show (if z ≤ b then _ else _) = _; rw [if_neg hzb, if_pos (Or.inr h59)]
          rw [e]
          have t2 := t2 h59
          refine ⟨J1, go ?_, fun h => ff h, e3⟩
          show Ev X (d + 28) kX8_read 80 _ _ _ (some (.int (nI b)), _)
          (repeat refine Ev.p rfl rfl ?_)
          refine Ev.cv (by rfl) (by rfl) (by assumption) (by rfl) (by rfl) (by rfl) (by rfl) (by rfl) t2 ?_
          ((repeat (first | refine Ev.p rfl rfl ?_ | refine Ev.gr (by rfl) (by rfl) (by assumption) (by rfl) (by assumption) ?_ | refine Ev.gi (by rfl) (by rfl) (by assumption) (by rfl) (by assumption) ?_)); exact Ev.r rfl)
/-- a station as it is made: cells, and what they are of -/
def CKn (K : List (Nat × Nat)) (R : Nat → Nat → Option Nat) (p : Nat) : Prop := K[p]? = some (8, 10) ∧ K[p + 1]? = some (20, 10) ∧ K[p + 2]? = some (20, 10) ∧ K[p + 3]? = some (20, 100) ∧ R p 3 = some (p + 1) ∧ R p 4 = some (p + 2) ∧ R p 5 = some (p + 3)
theorem c_read (hK : CKn K R p) (hkt : K[tp]? = some (21, 100)) (hz : z ≤ 100) (ht : tOK (I tp) z) : ∃ I', Ev X (d + 28) kX8_read 0 (ent kX8_read [.ref p, .ref tp, .int (nI z)]) [] (K, I, R) (some (.int (if (pS (I tp) z 10 0 (20, 1, [])).1 = true then -1 else nI (pS (I tp) z 10 0 (20, 1, [])).2.1)), (K, I', upR R p 7 (some tp))) ∧ ((pS (I tp) z 10 0 (20, 1, [])).1 = true → stC K I' (upR R p 7 (some tp)) p (nI (pS (I tp) z 10 0 (20, 1, [])).2.2.2.1) (pS (I tp) z 10 0 (20, 1, [])).2.2.2.2 ∧ I' p 0 = nI (pS (I tp) z 10 0 (20, 1, [])).2.2.1) ∧ FD p I I' := by
  obtain ⟨k0, k1, k2, k3, r3, r4, r5⟩ := id hK
  obtain ⟨R1, hR1⟩ : ∃ R1, R1 = upR R p 7 (some tp) := ⟨_, rfl⟩
  have ru : ∀ j, j ≠ 7 → R1 p j = R p j := fun j hj => by rw [hR1]; unfold upR; rw [if_neg (fun g => hj g.2)]
  have hKs : CKs K R1 p tp := ⟨k0, k1, k2, k3, (ru 3 (by omega)).trans r3, (ru 4 (by omega)).trans r4, (ru 5 (by omega)).trans r5, by rw [hR1]; unfold upR; rw [if_pos ⟨rfl, rfl⟩], hkt⟩
  have ntp := hKs.ne
  obtain ⟨J, hJ⟩ : ∃ J, J = upI (upI (upI (upI (upI (upI I p 8 (nI z)) p 9 0) p 0 20) p 1 1) p 2 0) p 6 0 := ⟨_, rfl⟩
  have fJ : FD p I J := fun c n0 n1 n2 n3 => by rw [hJ]; simp only [upI_ne n0]
  have hR0 : RCc J (I tp) z p tp 0 (20, 1, []) := by
    have e : ∀ j, J p j = (if j = 6 then 0 else if j = 2 then 0 else if j = 1 then 1 else if j = 0 then 20 else if j = 9 then 0 else if j = 8 then nI z else I p j) := fun j => by
      rw [hJ]
      simp only [upI_eq, upd]
    refine ⟨⟨by rw [e]; rfl, by rw [e]; rfl, by rw [e]; rfl, fun j _ => by rw [fJ tp ntp.1 ntp.2.2.1 ntp.2.2.2 ntp.2.1], fun i x hx => by cases hx⟩, by rw [e]; rfl, by rw [e]; rfl, by rw [e]; rfl, fun pre rest n w ts h => ?_⟩
    have := congrArg List.length h
    simp at this
  have hmn := j_min (X := X) (d := d + 27) (K, I, R1) (nI z) 100
  rw [if_pos (show nI z ≤ (100 : Int32) from nI_le (b := 100) hz (by omega))] at hmn
  obtain ⟨I', g1, g2, g3⟩ := c_readFrom (X := X) (d := d) hKs hz ht 9 1 0 (20, 1, []) J (by omega) (by omega) (by omega) hR0 stI_0 (by show 0 + 1 ≤ 1; omega) (nI z)
  have hall := pS_ok (t := I tp) (z := z) 10 0 (20, 1, []) (by omega) stI_0
  rw [← hR1]
  refine ⟨I', ?_, fun h => ?_, fJ.tr g3⟩
  · rw [hJ] at g1
    (repeat (first | refine Ev.p rfl rfl ?_ | refine Ev.gr (by rfl) (by rfl) (by assumption) (by rfl) (by assumption) ?_ | refine Ev.gi (by rfl) (by rfl) (by assumption) (by rfl) (by assumption) ?_))
    refine Ev.pr (by rfl) (by rfl) (by assumption) (by rfl) ?_
    rw [← hR1]
    (repeat (first | refine Ev.p rfl rfl ?_ | refine Ev.gr (by rfl) (by rfl) (by assumption) (by rfl) (by assumption) ?_ | refine Ev.gi (by rfl) (by rfl) (by assumption) (by rfl) (by assumption) ?_))
    refine Ev.alen (by rfl) (by assumption) (by rfl) ?_
    refine Ev.c rfl hmn ?_
    refine Ev.pi (by rfl) (by rfl) (by assumption) (by rfl) ?_
    (repeat (first | refine Ev.p rfl rfl ?_ | refine Ev.gr (by rfl) (by rfl) (by assumption) (by rfl) (by assumption) ?_ | refine Ev.gi (by rfl) (by rfl) (by assumption) (by rfl) (by assumption) ?_))
    refine Ev.pi (by rfl) (by rfl) (by assumption) (by rfl) ?_
    (repeat (first | refine Ev.p rfl rfl ?_ | refine Ev.gr (by rfl) (by rfl) (by assumption) (by rfl) (by assumption) ?_ | refine Ev.gi (by rfl) (by rfl) (by assumption) (by rfl) (by assumption) ?_))
    refine Ev.pi (by rfl) (by rfl) (by assumption) (by rfl) ?_
    (repeat (first | refine Ev.p rfl rfl ?_ | refine Ev.gr (by rfl) (by rfl) (by assumption) (by rfl) (by assumption) ?_ | refine Ev.gi (by rfl) (by rfl) (by assumption) (by rfl) (by assumption) ?_))
    refine Ev.pi (by rfl) (by rfl) (by assumption) (by rfl) ?_
    (repeat (first | refine Ev.p rfl rfl ?_ | refine Ev.gr (by rfl) (by rfl) (by assumption) (by rfl) (by assumption) ?_ | refine Ev.gi (by rfl) (by rfl) (by assumption) (by rfl) (by assumption) ?_))
    refine Ev.pi (by rfl) (by rfl) (by assumption) (by rfl) ?_
    (repeat (first | refine Ev.p rfl rfl ?_ | refine Ev.gr (by rfl) (by rfl) (by assumption) (by rfl) (by assumption) ?_ | refine Ev.gi (by rfl) (by rfl) (by assumption) (by rfl) (by assumption) ?_))
    refine Ev.pi (by rfl) (by rfl) (by assumption) (by rfl) ?_
    (repeat (first | (refine Ev.at (q := 43) rfl ?_; exact g1) | refine Ev.p rfl rfl ?_))
  · obtain ⟨⟨c1, c2, c3, c4, c5⟩, b0, b1, b2', b3⟩ := g2 h
    obtain ⟨-, -, -, -, q3, q4, q5, -, -⟩ := hKs
    have hst := hall.2.1
    have htk : ∀ cls : Cls, (tks cls).length ≤ (clsR cls).length := by
      intro cls
      induction cls with
      | nil => exact Nat.le_refl _
      | cons q r ih =>
        show (q.2.2 ++ tks r).length ≤ (clR q ++ clsR r).length
        rw [List.length_append, List.length_append, clR_len]
        omega
    have h1 := htk (pS (I tp) z 10 0 (20, 1, [])).2.2.2.2
    have h2 := hst.2.2.2.1
    have h3 := hall.1
    have h4 := hall.2.2
    exact ⟨⟨k0, k1, k2, k3, q3, q4, q5, b1, b2', by simpa using h4, hst.2.2.1, by omega, b3, c5⟩, b0⟩
end CREAD4
