/-! THE CLASS reads a station: E -/
theorem idx_65 (c : Int32) : idx (txt 5) c (txt 5).length 0 = p6 c := rfl
theorem idx_63 (c : Int32) : idx (txt 6) c (txt 6).length 0 = p3 c := rfl
/-- signs are what feed takes -/
def tOK (t : Nat → Int32) (z : Nat) : Prop := ∀ j, j < z → ∃ c, c < 128 ∧ t j = nI c
def RAc (J : Nat → Nat → Int32) (t : Nat → Int32) (z p tp : Nat) (C : List Nat) (r : Bool × Nat × List Nat) : Prop := match r with
  | (true, b, ts) => CP J t z p tp b (C ++ ts)
  | (false, b, _) => ∃ C', CP J t z p tp b C'
def RO2 (J : Nat → Nat → Int32) (t : Nat → Int32) (z p tp a : Nat) (C : List Nat) (r : Option Nat) : Prop := match r with
  | none => CP J t z p tp a C
  | some _ => CP J t z p tp (a + 1) C
section CREAD2
variable {X : Nat × (Nat → Int32)} {d : Nat} {K : List (Nat × Nat)} {I : Nat → Nat → Int32} {R : Nat → Nat → Option Nat} {t : Nat → Int32} {z p tp a o : Nat} {C : List Nat}
theorem c_takeOneOf (hK : CKs K R p tp) (h : CP I t z p tp a C) (hz : z ≤ 100) (ha : a ≤ z) (ht : tOK t z) {i : Nat} (hi : i = 5 ∨ i = 6) : ∃ I', Ev X (d + 4) kX8_takeOneOf 0 (ent kX8_takeOneOf [.ref p, .retAddr i]) [] (K, I, R) (some (.int (ix (idx (txt i) (pk t z a) (txt i).length 0))), (K, I', R)) ∧ RO2 I' t z p tp a C (idx (txt i) (pk t z a) (txt i).length 0) ∧ FK p I I' := by
  have hp := c_peek (X := X) (d := d + 3) hK h hz ha
  have hK2 := hK
  obtain ⟨k0, k1, k2, k3, r3, r4, r5, r7, kt'⟩ := hK2
  have h9 : I p 9 = nI a := h.2.1
  by_cases hlt : a < z
  · obtain ⟨c0, hc0, ec0⟩ := ht a hlt
    have epk : pk t z a = nI c0 := (if_pos hlt).trans ec0
    rw [epk] at hp ⊢
    have hix := j_indexOf (X := X) (d := d) (K, I, R) hi hc0
    have go : ∀ Z : Option Value × Hp, Ev X (d + 4) kX8_takeOneOf 19 [some (.ref p), some (.retAddr i), some (.int (nI c0)), none] [.int (ix (idx (txt i) (nI c0) (txt i).length 0))] (K, I, R) Z → Ev X (d + 4) kX8_takeOneOf 0 (ent kX8_takeOneOf [.ref p, .retAddr i]) [] (K, I, R) Z := by
      intro Z g
      rcases hi with rfl | rfl
      all_goals
        (repeat (first | refine Ev.p rfl rfl ?_ | refine Ev.gr (by rfl) (by rfl) (by assumption) (by rfl) (by assumption) ?_ | refine Ev.gi (by rfl) (by rfl) (by assumption) (by rfl) (by assumption) ?_))
        refine Ev.cv (by rfl) (by rfl) (by assumption) (by rfl) (by rfl) (by rfl) (by rfl) (by rfl) hp ?_
        (repeat refine Ev.p rfl rfl ?_)
        refine Ev.bp rfl (fun c => ?_) (fun c => absurd (nI_pos' (by omega)) c)
        iterate 3 refine Ev.p rfl rfl ?_
        rw [i16_c c0 hc0]
        refine Ev.c rfl hix ?_
        (repeat (first | (refine Ev.at (q := 19) rfl ?_; exact g) | refine Ev.p rfl rfl ?_))
    cases hq : idx (txt i) (nI c0) (txt i).length 0 with
    | none =>
      rw [hq] at go
      refine ⟨I, go _ ?_, h, FK.rf p I⟩
      ((repeat refine Ev.p rfl rfl ?_); exact Ev.r rfl)
    | some w =>
      rw [hq] at go
      have hw : w < 10 := by
        rcases hi with rfl | rfl
        · rw [idx_65] at hq
          rw [← epk] at hq
          have := (pk_6 hq).2; omega
        · rw [idx_63] at hq
          rw [← epk] at hq
          have := (pk_3 hq).2; omega
      refine ⟨upI I p 9 (nI a + 1), go _ ?_, h.mv hK (nI_1 a), (FK.rf p I).a _⟩
      show Ev X (d + 4) kX8_takeOneOf 19 _ [.int (nI w)] _ (some (.int (nI w)), _)
      (repeat refine Ev.p rfl rfl ?_)
      refine Ev.bp rfl (fun c => absurd c (nI_pos (by omega))) (fun c => ?_)
      (repeat (first | refine Ev.p rfl rfl ?_ | refine Ev.gr (by rfl) (by rfl) (by assumption) (by rfl) (by assumption) ?_ | refine Ev.gi (by rfl) (by rfl) (by assumption) (by rfl) (by assumption) ?_))
      refine Ev.pi (by rfl) (by rfl) (by assumption) (by rfl) ?_
      ((repeat refine Ev.p rfl rfl ?_); exact Ev.r rfl)
  · have epk : pk t z a = -1 := if_neg hlt
    rw [epk] at hp ⊢
    have hq : idx (txt i) (-1) (txt i).length 0 = none := by rcases hi with rfl | rfl <;> decide
    rw [hq]
    refine ⟨I, ?_, h, FK.rf p I⟩
    (repeat (first | refine Ev.p rfl rfl ?_ | refine Ev.gr (by rfl) (by rfl) (by assumption) (by rfl) (by assumption) ?_ | refine Ev.gi (by rfl) (by rfl) (by assumption) (by rfl) (by assumption) ?_))
    refine Ev.cv (by rfl) (by rfl) (by assumption) (by rfl) (by rfl) (by rfl) (by rfl) (by rfl) hp ?_
    ((repeat refine Ev.p rfl rfl ?_); exact Ev.r rfl)
theorem c_pp (hK : CKs K R p tp) (hz : z ≤ 100) (ht : tOK t z) : ∀ f : Nat,
    (∀ (o k a : Nat) (C : List Nat) (J : Nat → Nat → Int32), o + k = 5 → 5 * (z - a) + 1 ≤ f → a ≤ z → C.length ≤ a → CP J t z p tp a C → ∃ J', Ev X (d + 6 + 3 * k) kX8_readPart 0 (ent kX8_readPart [.ref p, .int (nI o)]) [] (K, J, R) (some (.int (bI (pp t z f 0 o a []).1)), (K, J', R)) ∧ RAc J' t z p tp C (pp t z f 0 o a []) ∧ FK p J J') ∧
    (∀ (o k a : Nat) (C : List Nat) (J : Nat → Nat → Int32), o + k = 5 → 5 * (z - a) + 2 ≤ f → a ≤ z → C.length ≤ a → CP J t z p tp a C → ∃ J', Ev X (d + 7 + 3 * k) kX8_readBoth 0 (ent kX8_readBoth [.ref p, .int (nI o)]) [] (K, J, R) (some (.int (bI (pp t z f 1 o a []).1)), (K, J', R)) ∧ RAc J' t z p tp C (pp t z f 1 o a []) ∧ FK p J J') ∧
    (∀ (o k a mo : Nat) (C ts : List Nat) (J : Nat → Nat → Int32), o + k = 5 → 5 * (z - a) + 1 ≤ f → a ≤ z → mo ≤ a → (C ++ ts).length ≤ a → CP J t z p tp a (C ++ ts) → ∃ J', Ev X (d + 7 + 3 * k) kX8_readBoth 12 [some (.ref p), some (.int (nI o)), some (.int (nI mo))] [] (K, J, R) (some (.int (bI (pp t z f 2 o a ts).1)), (K, J', R)) ∧ RAc J' t z p tp C (pp t z f 2 o a ts) ∧ FK p J J') ∧
    (∀ (o k a : Nat) (C : List Nat) (J : Nat → Nat → Int32), o + k = 5 → 5 * (z - a) + 3 ≤ f → a ≤ z → C.length ≤ a → CP J t z p tp a C → ∃ J', Ev X (d + 8 + 3 * k) kX8_readEither 0 (ent kX8_readEither [.ref p, .int (nI o)]) [] (K, J, R) (some (.int (bI (pp t z f 3 o a []).1)), (K, J', R)) ∧ RAc J' t z p tp C (pp t z f 3 o a []) ∧ FK p J J') ∧
    (∀ (o k a mo : Nat) (C ts : List Nat) (J : Nat → Nat → Int32), o + k = 5 → 5 * (z - a) + 1 ≤ f → a ≤ z → mo ≤ a → (C ++ ts).length ≤ a → CP J t z p tp a (C ++ ts) → ∃ J', Ev X (d + 8 + 3 * k) kX8_readEither 12 [some (.ref p), some (.int (nI o)), some (.int (nI mo))] [] (K, J, R) (some (.int (bI (pp t z f 4 o a ts).1)), (K, J', R)) ∧ RAc J' t z p tp C (pp t z f 4 o a ts) ∧ FK p J J') := by
  obtain ⟨k0, k1, k2, k3, r3, r4, r5, r7, kt'⟩ := id hK
  intro f
  induction f with
  | zero => exact ⟨fun o k a C J _ h => by omega, fun o k a C J _ h => by omega, fun o k a mo C ts J _ h => by omega, fun o k a C J _ h => by omega, fun o k a mo C ts J _ h => by omega⟩
  | succ f ih =>
    obtain ⟨ihF, ihT, ihU, ihE, ihV⟩ := ih
    refine ⟨fun o k a C J hk hf ha hC hR => ?_, fun o k a C J hk hf ha hC hR => ?_, fun o k a mo C ts J hk hf ha hmo hC hR => ?_, fun o k a C J hk hf ha hC hR => ?_, fun o k a mo C ts J hk hf ha hmo hC hR => ?_⟩
    · -- F
      have h9 : J p 9 = nI a := hR.2.1
      have hpk := c_peek (X := X) (d := d + 5 + 3 * k) hK hR hz ha
      rw [show d + 6 + 3 * k = (d + 5 + 3 * k) + 1 by omega]
      simp only [pp]
      by_cases hop : pk t z a = 33 ∨ pk t z a = 40
      · have hlt : a < z := by rcases hop with h | h <;> exact pq_lt h (by decide)
        have go : ∀ {Z : Option Value × Hp}, Ev X ((d + 5 + 3 * k) + 1) kX8_readPart 17 [some (.ref p), some (.int (nI o)), some (.int (pk t z a)), none, none, none] [] (K, J, R) Z → Ev X ((d + 5 + 3 * k) + 1) kX8_readPart 0 (ent kX8_readPart [.ref p, .int (nI o)]) [] (K, J, R) Z := by
          intro Z g
          (repeat (first | refine Ev.p rfl rfl ?_ | refine Ev.gr (by rfl) (by rfl) (by assumption) (by rfl) (by assumption) ?_ | refine Ev.gi (by rfl) (by rfl) (by assumption) (by rfl) (by assumption) ?_))
          refine Ev.cv (by rfl) (by rfl) (by assumption) (by rfl) (by rfl) (by rfl) (by rfl) (by rfl) hpk ?_
          (repeat refine Ev.p rfl rfl ?_)
          refine Ev.ls (ls2 := [_, _, _, _, _, _]) rfl ?_
          refine Ev.bp rfl (fun c => ?_) (fun c => ?_)
          · (repeat (first | (refine Ev.at (q := 17) rfl ?_; exact g) | refine Ev.p rfl rfl ?_))
          · (repeat refine Ev.p rfl rfl ?_)
            refine Ev.bp rfl (fun c2 => ?_) (fun c2 => ?_)
            · rcases hop with h | h
              · exact absurd h c
              · exact absurd h c2
            · (repeat (first | (refine Ev.at (q := 17) rfl ?_; exact g) | refine Ev.p rfl rfl ?_))
        cases k with
        | zero =>
          have ho5 : o = 5 := by omega
          subst ho5
          have res : ∀ r : Bool × Nat × List Nat, r = (false, a, []) → ∃ J', Ev X ((d + 5 + 3 * 0) + 1) kX8_readPart 0 (ent kX8_readPart [.ref p, .int (nI 5)]) [] (K, J, R) (some (.int (bI r.1)), (K, J', R)) ∧ RAc J' t z p tp C r ∧ FK p J J' := by
            intro r hr
            subst hr
            refine ⟨J, go ?_, ⟨C, hR⟩, FK.rf p J⟩
            ((repeat refine Ev.p rfl rfl ?_); exact Ev.r rfl)
          by_cases h33 : pk t z a = 33
          · rw [if_pos h33, if_pos rfl]; exact res _ rfl
          · rw [if_neg h33, if_pos (hop.resolve_left h33), if_pos rfl]; exact res _ rfl
        | succ k =>
          have ho5 : o ≠ 5 := by omega
          simp only [if_neg ho5]
          obtain ⟨J1, hJ1⟩ : ∃ J', J' = upI J p 9 (nI a + 1) := ⟨_, rfl⟩
          have r1 : CP J1 t z p tp (a + 1) C := by rw [hJ1]; exact hR.mv hK (nI_1 a)
          have f1 : FK p J J1 := by rw [hJ1]; exact (FK.rf p J).a _
          have go2 : ∀ {Z : Option Value × Hp}, Ev X ((d + 5 + 3 * (k + 1)) + 1) kX8_readPart 34 [some (.ref p), some (.int (nI o)), some (.int (pk t z a)), none, none, none] [] (K, J1, R) Z → Ev X ((d + 5 + 3 * (k + 1)) + 1) kX8_readPart 0 (ent kX8_readPart [.ref p, .int (nI o)]) [] (K, J, R) Z := by
            intro Z g
            refine go ?_
            (repeat refine Ev.p rfl rfl ?_)
            refine Ev.bp rfl (fun c => ?_) (fun c => absurd (nI_lt (b := 5) (by omega) (by omega)) c)
            (repeat (first | refine Ev.p rfl rfl ?_ | refine Ev.gr (by rfl) (by rfl) (by assumption) (by rfl) (by assumption) ?_ | refine Ev.gi (by rfl) (by rfl) (by assumption) (by rfl) (by assumption) ?_))
            refine Ev.pi (by rfl) (by rfl) (by assumption) (by rfl) ?_
            rw [← hJ1]
            (repeat (first | (refine Ev.at (q := 34) rfl ?_; exact g) | refine Ev.p rfl rfl ?_))
          have eo : nI o + 1 = nI (o + 1) := nI_1 o
          by_cases h33 : pk t z a = 33
          · simp only [if_pos h33]
            obtain ⟨J3, e1, e2, e3⟩ := ihF (o + 1) k (a + 1) C J1 (by omega) (by omega) hlt (by omega) r1
            have e1 := e1.dp (d' := d + 5 + 3 * (k + 1)) (by omega)
            rcases hr : pp t z f 0 (o + 1) (a + 1) [] with ⟨ok, b, us⟩
            rw [hr] at e1 e2
            have hp := pp_ok (t := t) (z := z) f 0 (o + 1) (a + 1) [] (fun _ => rfl) hlt
            rw [hr] at hp
            cases ok with
            | false =>
              obtain ⟨C', r3'⟩ := e2
              refine ⟨J3, go2 ?_, ⟨C', r3'⟩, f1.tr e3⟩
              rw [h33]
              (repeat refine Ev.p rfl rfl ?_)
              rw [eo]
              refine Ev.cv (by rfl) (by rfl) (by assumption) (by rfl) (by rfl) (by rfl) (by rfl) (by rfl) e1 ?_
              ((repeat refine Ev.p rfl rfl ?_); exact Ev.r rfl)
            | true =>
              have hp2 := hp.2.2 rfl
              simp only [List.length_nil] at hp2
              dsimp only at hp hp2
              have e2 : CP J3 t z p tp b (C ++ us) := e2
              obtain ⟨J4, g1, g2, g3⟩ := c_put (X := X) (d := d + 5 + 3 * (k + 1)) hK e2 (by rw [List.length_append]; omega) 0 (y := -1) rfl
              refine ⟨J4, go2 ?_, by show CP J4 t z p tp b (C ++ (us ++ [0])); rw [← List.append_assoc]; exact g2, (f1.tr e3).tr g3⟩
              rw [h33]
              (repeat refine Ev.p rfl rfl ?_)
              rw [eo]
              refine Ev.cv (by rfl) (by rfl) (by assumption) (by rfl) (by rfl) (by rfl) (by rfl) (by rfl) e1 ?_
              (repeat refine Ev.p rfl rfl ?_)
              refine Ev.cv (by rfl) (by rfl) (by assumption) (by rfl) (by rfl) (by rfl) (by rfl) (by rfl) g1 ?_
              ((repeat refine Ev.p rfl rfl ?_); exact Ev.r rfl)
          · have h40 := hop.resolve_left h33
            simp only [if_neg h33, if_pos h40]
            obtain ⟨J3, e1, e2, e3⟩ := ihE (o + 1) k (a + 1) C J1 (by omega) (by omega) hlt (by omega) r1
            have e1 := e1.dp (d' := d + 5 + 3 * (k + 1)) (by omega)
            rcases hr : pp t z f 3 (o + 1) (a + 1) [] with ⟨ok, b, us⟩
            rw [hr] at e1 e2
            have hp := pp_ok (t := t) (z := z) f 3 (o + 1) (a + 1) [] (fun _ => rfl) hlt
            rw [hr] at hp
            cases ok with
            | false =>
              obtain ⟨C', r3'⟩ := e2
              refine ⟨J3, go2 ?_, ⟨C', r3'⟩, f1.tr e3⟩
              rw [h40]
              (repeat refine Ev.p rfl rfl ?_)
              rw [eo]
              refine Ev.cv (by rfl) (by rfl) (by assumption) (by rfl) (by rfl) (by rfl) (by rfl) (by rfl) e1 ?_
              ((repeat refine Ev.p rfl rfl ?_); exact Ev.r rfl)
            | true =>
              dsimp only at hp ⊢
              have e2 : CP J3 t z p tp b (C ++ us) := e2
              obtain ⟨m1, m2⟩ := c_take (X := X) (d := d + 4 + 3 * (k + 1)) hK e2 hz hp.2.1 41
              by_cases h41 : pk t z b = 41
              · rw [if_pos h41]
                have m1 := (m1 h41).dp (d' := d + 5 + 3 * (k + 1)) (by omega)
                refine ⟨upI J3 p 9 (nI (b + 1)), go2 ?_, e2.mv hK rfl, (f1.tr e3).a _⟩
                rw [h40]
                (repeat refine Ev.p rfl rfl ?_)
                rw [eo]
                refine Ev.cv (by rfl) (by rfl) (by assumption) (by rfl) (by rfl) (by rfl) (by rfl) (by rfl) e1 ?_
                (repeat refine Ev.p rfl rfl ?_)
                refine Ev.cv (by rfl) (by rfl) (by assumption) (by rfl) (by rfl) (by rfl) (by rfl) (by rfl) m1 ?_
                ((repeat refine Ev.p rfl rfl ?_); exact Ev.r rfl)
              · rw [if_neg h41]
                have m2 := (m2 h41).dp (d' := d + 5 + 3 * (k + 1)) (by omega)
                refine ⟨J3, go2 ?_, ⟨_, e2⟩, f1.tr e3⟩
                rw [h40]
                (repeat refine Ev.p rfl rfl ?_)
                rw [eo]
                refine Ev.cv (by rfl) (by rfl) (by assumption) (by rfl) (by rfl) (by rfl) (by rfl) (by rfl) e1 ?_
                (repeat refine Ev.p rfl rfl ?_)
                refine Ev.cv (by rfl) (by rfl) (by assumption) (by rfl) (by rfl) (by rfl) (by rfl) (by rfl) m2 ?_
                ((repeat refine Ev.p rfl rfl ?_); exact Ev.r rfl)
      · have h33 : pk t z a ≠ 33 := fun h => hop (Or.inl h)
        have h40 : pk t z a ≠ 40 := fun h => hop (Or.inr h)
        simp only [if_neg h33, if_neg h40]
        have go : ∀ {Z : Option Value × Hp}, Ev X ((d + 5 + 3 * k) + 1) kX8_readPart 84 [some (.ref p), some (.int (nI o)), some (.int (pk t z a)), none, none, none] [] (K, J, R) Z → Ev X ((d + 5 + 3 * k) + 1) kX8_readPart 0 (ent kX8_readPart [.ref p, .int (nI o)]) [] (K, J, R) Z := by
          intro Z g
          (repeat (first | refine Ev.p rfl rfl ?_ | refine Ev.gr (by rfl) (by rfl) (by assumption) (by rfl) (by assumption) ?_ | refine Ev.gi (by rfl) (by rfl) (by assumption) (by rfl) (by assumption) ?_))
          refine Ev.cv (by rfl) (by rfl) (by assumption) (by rfl) (by rfl) (by rfl) (by rfl) (by rfl) hpk ?_
          (repeat refine Ev.p rfl rfl ?_)
          refine Ev.ls (ls2 := [_, _, _, _, _, _]) rfl ?_
          refine Ev.bp rfl (fun c => ?_) (fun c => ?_)
          · exact absurd c h33
          · (repeat refine Ev.p rfl rfl ?_)
            refine Ev.bp rfl (fun c2 => ?_) (fun c2 => ?_)
            · (repeat (first | (refine Ev.at (q := 84) rfl ?_; exact g) | refine Ev.p rfl rfl ?_))
            · exact absurd (Decidable.not_not.mp c2) h40
        obtain ⟨J1, e1, e2, e3⟩ := c_takeOneOf (X := X) (d := d + 1 + 3 * k) hK hR hz ha ht (i := 5) (Or.inl rfl)
        have e1 := e1.dp (d' := d + 5 + 3 * k) (by omega)
        rw [idx_65] at e1 e2
        unfold pX
        cases h6 : p6 (pk t z a) with
        | none =>
          rw [h6] at e1 e2
          refine ⟨J1, go ?_, ⟨_, e2⟩, e3⟩
          (repeat refine Ev.p rfl rfl ?_)
          refine Ev.cv (by rfl) (by rfl) (by assumption) (by rfl) (by rfl) (by rfl) (by rfl) (by rfl) e1 ?_
          ((repeat refine Ev.p rfl rfl ?_); exact Ev.r rfl)
        | some w =>
          rw [h6] at e1 e2
          have e2 : CP J1 t z p tp (a + 1) C := e2
          obtain ⟨hlt, hw6⟩ := pk_6 h6
          obtain ⟨J2, g1, g2, g3⟩ := c_takeOneOf (X := X) (d := d + 1 + 3 * k) hK e2 hz (by omega) ht (i := 6) (Or.inr rfl)
          have g1 := g1.dp (d' := d + 5 + 3 * k) (by omega)
          rw [idx_63] at g1 g2
          dsimp only
          cases h3 : p3 (pk t z (a + 1)) with
          | none =>
            rw [h3] at g1 g2
            refine ⟨J2, go ?_, ⟨_, g2⟩, e3.tr g3⟩
            (repeat refine Ev.p rfl rfl ?_)
            refine Ev.cv (by rfl) (by rfl) (by assumption) (by rfl) (by rfl) (by rfl) (by rfl) (by rfl) e1 ?_
            show Ev X _ kX8_readPart _ _ (.int (nI w) :: _) _ _
            (repeat refine Ev.p rfl rfl ?_)
            refine Ev.bp rfl (fun c => ?_) (fun c => absurd (nI_pos' (by omega)) c)
            (repeat refine Ev.p rfl rfl ?_)
            refine Ev.cv (by rfl) (by rfl) (by assumption) (by rfl) (by rfl) (by rfl) (by rfl) (by rfl) g1 ?_
            ((repeat refine Ev.p rfl rfl ?_); exact Ev.r rfl)
          | some q =>
            rw [h3] at g1 g2
            have g2 : CP J2 t z p tp (a + 2) C := g2
            obtain ⟨hlt2, hq3⟩ := pk_3 h3
            obtain ⟨J3, y, i1, i2, i3⟩ := c_readNumber (X := X) (d := d + 4 + 3 * k) hK g2 hz (by omega)
            have i1 := i1.dp (d' := d + 5 + 3 * k) (by omega)
            have go2 : ∀ {Z : Option Value × Hp}, Ev X ((d + 5 + 3 * k) + 1) kX8_readPart 120 [some (.ref p), some (.int (nI o)), some (.int (pk t z a)), some (.int (nI w)), some (.int (nI q)), none] [.int y] (K, J3, R) Z → Ev X ((d + 5 + 3 * k) + 1) kX8_readPart 0 (ent kX8_readPart [.ref p, .int (nI o)]) [] (K, J, R) Z := by
              intro Z g
              refine go ?_
              (repeat refine Ev.p rfl rfl ?_)
              refine Ev.cv (by rfl) (by rfl) (by assumption) (by rfl) (by rfl) (by rfl) (by rfl) (by rfl) e1 ?_
              show Ev X _ kX8_readPart _ _ (.int (nI w) :: _) _ _
              (repeat refine Ev.p rfl rfl ?_)
              refine Ev.bp rfl (fun c => ?_) (fun c => absurd (nI_pos' (by omega)) c)
              (repeat refine Ev.p rfl rfl ?_)
              refine Ev.cv (by rfl) (by rfl) (by assumption) (by rfl) (by rfl) (by rfl) (by rfl) (by rfl) g1 ?_
              show Ev X _ kX8_readPart _ _ (.int (nI q) :: _) _ _
              (repeat refine Ev.p rfl rfl ?_)
              refine Ev.bp rfl (fun c => ?_) (fun c => absurd (nI_pos' (by omega)) c)
              (repeat refine Ev.p rfl rfl ?_)
              refine Ev.cv (by rfl) (by rfl) (by assumption) (by rfl) (by rfl) (by rfl) (by rfl) (by rfl) i1 ?_
              (repeat (first | (refine Ev.at (q := 120) rfl ?_; exact g) | refine Ev.p rfl rfl ?_))
            dsimp only
            cases hn : pN t z (a + 2) with
            | none =>
              rw [hn] at i2
              obtain ⟨rfl, i4⟩ := i2
              refine ⟨J3, go2 ?_, ⟨_, i4⟩, (e3.tr g3).tr i3⟩
              ((repeat refine Ev.p rfl rfl ?_); exact Ev.r rfl)
            | some v =>
              obtain ⟨n, b⟩ := v
              rw [hn] at i2
              obtain ⟨rfl, i4⟩ := i2
              have hnb := pN_ok hn
              obtain ⟨J4, l1, l2, l3⟩ := c_put (X := X) (d := d + 5 + 3 * k) hK i4 (by omega) (w + 8 * q + 32 * n + 3) rfl
              refine ⟨J4, go2 ?_, l2, ((e3.tr g3).tr i3).tr l3⟩
              rw [show tokC (w + 8 * q + 32 * n + 3) = (nI w <<< ((16 : Int32) &&& 31)) ||| (nI q <<< ((8 : Int32) &&& 31)) ||| nI n from by
                show (nI ((w + 8 * q + 32 * n) % 8) <<< ((16 : Int32) &&& 31)) ||| (nI ((w + 8 * q + 32 * n) / 8 % 4) <<< ((8 : Int32) &&& 31)) ||| nI ((w + 8 * q + 32 * n) / 32) = _
                rw [show (w + 8 * q + 32 * n) % 8 = w by omega, show (w + 8 * q + 32 * n) / 8 % 4 = q by omega, show (w + 8 * q + 32 * n) / 32 = n by omega]] at l1
              show Ev X ((d + 5 + 3 * k) + 1) kX8_readPart 120 _ _ _ (some (.int 1), _)
              (repeat refine Ev.p rfl rfl ?_)
              refine Ev.bp rfl (fun c => ?_) (fun c => absurd (nI_pos' (by omega)) c)
              (repeat refine Ev.p rfl rfl ?_)
              refine Ev.cv (by rfl) (by rfl) (by assumption) (by rfl) (by rfl) (by rfl) (by rfl) (by rfl) l1 ?_
              ((repeat refine Ev.p rfl rfl ?_); exact Ev.r rfl)
    · -- T
      simp only [pp]
      obtain ⟨J1, e1, e2, e3⟩ := ihF o k a C J hk (by omega) ha hC hR
      rcases hr : pp t z f 0 o a [] with ⟨ok, b, us⟩
      rw [hr] at e1 e2
      have hp := pp_ok (t := t) (z := z) f 0 o a [] (fun _ => rfl) ha
      rw [hr] at hp
      rw [show d + 7 + 3 * k = (d + 6 + 3 * k) + 1 by omega]
      cases ok with
      | false =>
        obtain ⟨C', r1⟩ := e2
        refine ⟨J1, ?_, ⟨C', r1⟩, e3⟩
        (repeat refine Ev.p rfl rfl ?_)
        refine Ev.cv (by rfl) (by rfl) (by assumption) (by rfl) (by rfl) (by rfl) (by rfl) (by rfl) e1 ?_
        ((repeat refine Ev.p rfl rfl ?_); exact Ev.r rfl)
      | true =>
        have hp2 := hp.2.2 rfl
        simp only [List.length_nil] at hp2
        dsimp only at hp hp2
        have e2 : CP J1 t z p tp b (C ++ us) := e2
        obtain ⟨J2, g1, g2, g3⟩ := ihU o k b 0 C us J1 hk (by omega) hp.2.1 (by omega) (by rw [List.length_append]; omega) e2
        have g1 := g1.dp (d' := (d + 6 + 3 * k) + 1) (by omega)
        refine ⟨J2, ?_, g2, e3.tr g3⟩
        (repeat refine Ev.p rfl rfl ?_)
        refine Ev.cv (by rfl) (by rfl) (by assumption) (by rfl) (by rfl) (by rfl) (by rfl) (by rfl) e1 ?_
        (repeat (first | (refine Ev.at (q := 12) rfl ?_; exact g1) | refine Ev.p rfl rfl ?_))
    · -- T's rest
      simp only [pp]
      rw [show d + 7 + 3 * k = (d + 6 + 3 * k) + 1 by omega]
      obtain ⟨m1, m2⟩ := c_take (X := X) (d := d + 5 + 3 * k) hK hR hz ha 38
      have no : ∀ Z : Option Value × Hp, pk t z a ≠ 38 → Ev X ((d + 6 + 3 * k) + 1) kX8_readBoth 49 [some (.ref p), some (.int (nI o)), some (.int (nI mo))] [] (K, J, R) Z → Ev X ((d + 6 + 3 * k) + 1) kX8_readBoth 12 [some (.ref p), some (.int (nI o)), some (.int (nI mo))] [] (K, J, R) Z := by
        intro Z hne g
        have m2 := (m2 hne).dp (d' := d + 6 + 3 * k) (by omega)
        (repeat refine Ev.p rfl rfl ?_)
        refine Ev.bp rfl (fun c => ?_) (fun c => ?_)
        · (repeat (first | (refine Ev.at (q := 49) rfl ?_; exact g) | refine Ev.p rfl rfl ?_))
        · (repeat refine Ev.p rfl rfl ?_)
          refine Ev.cv (by rfl) (by rfl) (by assumption) (by rfl) (by rfl) (by rfl) (by rfl) (by rfl) m2 ?_
          (repeat (first | (refine Ev.at (q := 49) rfl ?_; exact g) | refine Ev.p rfl rfl ?_))
      by_cases h38 : pk t z a = 38
      · rw [if_pos h38]
        have hlt := pq_lt h38 (by decide)
        have m1 := (m1 h38).dp (d' := d + 6 + 3 * k) (by omega)
        obtain ⟨J1, hJ1⟩ : ∃ J', J' = upI J p 9 (nI (a + 1)) := ⟨_, rfl⟩
        have r1 : CP J1 t z p tp (a + 1) (C ++ ts) := by rw [hJ1]; exact hR.mv hK rfl
        have f1 : FK p J J1 := by rw [hJ1]; exact (FK.rf p J).a _
        rw [← hJ1] at m1
        obtain ⟨J2, e1, e2, e3⟩ := ihF o k (a + 1) (C ++ ts) J1 hk (by omega) hlt (by omega) r1
        have go : ∀ {Z : Option Value × Hp}, Ev X ((d + 6 + 3 * k) + 1) kX8_readBoth 32 [some (.ref p), some (.int (nI o)), some (.int (nI mo))] [.int (bI (pp t z f 0 o (a + 1) []).1)] (K, J2, R) Z → Ev X ((d + 6 + 3 * k) + 1) kX8_readBoth 12 [some (.ref p), some (.int (nI o)), some (.int (nI mo))] [] (K, J, R) Z := by
          intro Z g
          (repeat refine Ev.p rfl rfl ?_)
          refine Ev.bp rfl (fun c => absurd c (nI_ge (b := 100) (by omega) (by omega))) (fun c => ?_)
          (repeat refine Ev.p rfl rfl ?_)
          refine Ev.cv (by rfl) (by rfl) (by assumption) (by rfl) (by rfl) (by rfl) (by rfl) (by rfl) m1 ?_
          (repeat refine Ev.p rfl rfl ?_)
          refine Ev.cv (by rfl) (by rfl) (by assumption) (by rfl) (by rfl) (by rfl) (by rfl) (by rfl) e1 ?_
          (repeat (first | (refine Ev.at (q := 32) rfl ?_; exact g) | refine Ev.p rfl rfl ?_))
        rcases hr : pp t z f 0 o (a + 1) [] with ⟨ok, b, us⟩
        rw [hr] at e2 go
        have hp := pp_ok (t := t) (z := z) f 0 o (a + 1) [] (fun _ => rfl) hlt
        rw [hr] at hp
        cases ok with
        | false =>
          obtain ⟨C', r3'⟩ := e2
          refine ⟨J2, go ?_, ⟨C', r3'⟩, f1.tr e3⟩
          ((repeat refine Ev.p rfl rfl ?_); exact Ev.r rfl)
        | true =>
          have hp2 := hp.2.2 rfl
          simp only [List.length_nil] at hp2
          dsimp only at hp hp2
          have e2 : CP J2 t z p tp b ((C ++ ts) ++ us) := e2
          have hlen : ((C ++ ts) ++ us).length < b := by rw [List.length_append]; omega
          obtain ⟨J3, g1, g2, g3⟩ := c_put (X := X) (d := d + 6 + 3 * k) hK e2 (by omega) 1 (y := -2) rfl
          have e9 : ((C ++ ts) ++ us) ++ [1] = C ++ (ts ++ us ++ [1]) := by rw [List.append_assoc, List.append_assoc, List.append_assoc]
          rw [e9] at g2
          have hlen2 : (C ++ (ts ++ us ++ [1])).length ≤ b := by rw [← e9, List.length_append]; exact hlen
          obtain ⟨J4, l1, l2, l3⟩ := ihU o k b (mo + 1) C (ts ++ us ++ [1]) J3 hk (by omega) hp.2.1 (by omega) hlen2 g2
          have l1 := l1.dp (d' := (d + 6 + 3 * k) + 1) (by omega)
          rw [nI_succ mo] at l1
          refine ⟨J4, go ?_, l2, ((f1.tr e3).tr g3).tr l3⟩
          (repeat refine Ev.p rfl rfl ?_)
          refine Ev.cv (by rfl) (by rfl) (by assumption) (by rfl) (by rfl) (by rfl) (by rfl) (by rfl) g1 ?_
          (repeat (first | (refine Ev.at (q := 12) rfl ?_; exact l1) | refine Ev.p rfl rfl ?_))
      · rw [if_neg h38]
        refine ⟨J, no _ h38 ?_, hR, FK.rf p J⟩
        ((repeat refine Ev.p rfl rfl ?_); exact Ev.r rfl)
    · -- E
      simp only [pp]
      obtain ⟨J1, e1, e2, e3⟩ := ihT o k a C J hk (by omega) ha hC hR
      rcases hr : pp t z f 1 o a [] with ⟨ok, b, us⟩
      rw [hr] at e1 e2
      have hp := pp_ok (t := t) (z := z) f 1 o a [] (fun _ => rfl) ha
      rw [hr] at hp
      rw [show d + 8 + 3 * k = (d + 7 + 3 * k) + 1 by omega]
      cases ok with
      | false =>
        obtain ⟨C', r1⟩ := e2
        refine ⟨J1, ?_, ⟨C', r1⟩, e3⟩
        (repeat refine Ev.p rfl rfl ?_)
        refine Ev.cv (by rfl) (by rfl) (by assumption) (by rfl) (by rfl) (by rfl) (by rfl) (by rfl) e1 ?_
        ((repeat refine Ev.p rfl rfl ?_); exact Ev.r rfl)
      | true =>
        have hp2 := hp.2.2 rfl
        simp only [List.length_nil] at hp2
        dsimp only at hp hp2
        have e2 : CP J1 t z p tp b (C ++ us) := e2
        obtain ⟨J2, g1, g2, g3⟩ := ihV o k b 0 C us J1 hk (by omega) hp.2.1 (by omega) (by rw [List.length_append]; omega) e2
        have g1 := g1.dp (d' := (d + 7 + 3 * k) + 1) (by omega)
        refine ⟨J2, ?_, g2, e3.tr g3⟩
        (repeat refine Ev.p rfl rfl ?_)
        refine Ev.cv (by rfl) (by rfl) (by assumption) (by rfl) (by rfl) (by rfl) (by rfl) (by rfl) e1 ?_
        (repeat (first | (refine Ev.at (q := 12) rfl ?_; exact g1) | refine Ev.p rfl rfl ?_))
    · -- E's rest
      simp only [pp]
      rw [show d + 8 + 3 * k = (d + 7 + 3 * k) + 1 by omega]
      obtain ⟨m1, m2⟩ := c_take (X := X) (d := d + 6 + 3 * k) hK hR hz ha 124
      have no : ∀ Z : Option Value × Hp, pk t z a ≠ 124 → Ev X ((d + 7 + 3 * k) + 1) kX8_readEither 49 [some (.ref p), some (.int (nI o)), some (.int (nI mo))] [] (K, J, R) Z → Ev X ((d + 7 + 3 * k) + 1) kX8_readEither 12 [some (.ref p), some (.int (nI o)), some (.int (nI mo))] [] (K, J, R) Z := by
        intro Z hne g
        have m2 := (m2 hne).dp (d' := d + 7 + 3 * k) (by omega)
        (repeat refine Ev.p rfl rfl ?_)
        refine Ev.bp rfl (fun c => ?_) (fun c => ?_)
        · (repeat (first | (refine Ev.at (q := 49) rfl ?_; exact g) | refine Ev.p rfl rfl ?_))
        · (repeat refine Ev.p rfl rfl ?_)
          refine Ev.cv (by rfl) (by rfl) (by assumption) (by rfl) (by rfl) (by rfl) (by rfl) (by rfl) m2 ?_
          (repeat (first | (refine Ev.at (q := 49) rfl ?_; exact g) | refine Ev.p rfl rfl ?_))
      by_cases h124 : pk t z a = 124
      · rw [if_pos h124]
        have hlt := pq_lt h124 (by decide)
        have m1 := (m1 h124).dp (d' := d + 7 + 3 * k) (by omega)
        obtain ⟨J1, hJ1⟩ : ∃ J', J' = upI J p 9 (nI (a + 1)) := ⟨_, rfl⟩
        have r1 : CP J1 t z p tp (a + 1) (C ++ ts) := by rw [hJ1]; exact hR.mv hK rfl
        have f1 : FK p J J1 := by rw [hJ1]; exact (FK.rf p J).a _
        rw [← hJ1] at m1
        obtain ⟨J2, e1, e2, e3⟩ := ihT o k (a + 1) (C ++ ts) J1 hk (by omega) hlt (by omega) r1
        have go : ∀ {Z : Option Value × Hp}, Ev X ((d + 7 + 3 * k) + 1) kX8_readEither 32 [some (.ref p), some (.int (nI o)), some (.int (nI mo))] [.int (bI (pp t z f 1 o (a + 1) []).1)] (K, J2, R) Z → Ev X ((d + 7 + 3 * k) + 1) kX8_readEither 12 [some (.ref p), some (.int (nI o)), some (.int (nI mo))] [] (K, J, R) Z := by
          intro Z g
          (repeat refine Ev.p rfl rfl ?_)
          refine Ev.bp rfl (fun c => absurd c (nI_ge (b := 100) (by omega) (by omega))) (fun c => ?_)
          (repeat refine Ev.p rfl rfl ?_)
          refine Ev.cv (by rfl) (by rfl) (by assumption) (by rfl) (by rfl) (by rfl) (by rfl) (by rfl) m1 ?_
          (repeat refine Ev.p rfl rfl ?_)
          refine Ev.cv (by rfl) (by rfl) (by assumption) (by rfl) (by rfl) (by rfl) (by rfl) (by rfl) e1 ?_
          (repeat (first | (refine Ev.at (q := 32) rfl ?_; exact g) | refine Ev.p rfl rfl ?_))
        rcases hr : pp t z f 1 o (a + 1) [] with ⟨ok, b, us⟩
        rw [hr] at e2 go
        have hp := pp_ok (t := t) (z := z) f 1 o (a + 1) [] (fun _ => rfl) hlt
        rw [hr] at hp
        cases ok with
        | false =>
          obtain ⟨C', r3'⟩ := e2
          refine ⟨J2, go ?_, ⟨C', r3'⟩, f1.tr e3⟩
          ((repeat refine Ev.p rfl rfl ?_); exact Ev.r rfl)
        | true =>
          have hp2 := hp.2.2 rfl
          simp only [List.length_nil] at hp2
          dsimp only at hp hp2
          have e2 : CP J2 t z p tp b ((C ++ ts) ++ us) := e2
          have hlen : ((C ++ ts) ++ us).length < b := by rw [List.length_append]; omega
          obtain ⟨J3, g1, g2, g3⟩ := c_put (X := X) (d := d + 7 + 3 * k) hK e2 (by omega) 2 (y := -3) rfl
          have e9 : ((C ++ ts) ++ us) ++ [2] = C ++ (ts ++ us ++ [2]) := by rw [List.append_assoc, List.append_assoc, List.append_assoc]
          rw [e9] at g2
          have hlen2 : (C ++ (ts ++ us ++ [2])).length ≤ b := by rw [← e9, List.length_append]; exact hlen
          obtain ⟨J4, l1, l2, l3⟩ := ihV o k b (mo + 1) C (ts ++ us ++ [2]) J3 hk (by omega) hp.2.1 (by omega) hlen2 g2
          have l1 := l1.dp (d' := (d + 7 + 3 * k) + 1) (by omega)
          rw [nI_succ mo] at l1
          refine ⟨J4, go ?_, l2, ((f1.tr e3).tr g3).tr l3⟩
          (repeat refine Ev.p rfl rfl ?_)
          refine Ev.cv (by rfl) (by rfl) (by assumption) (by rfl) (by rfl) (by rfl) (by rfl) (by rfl) g1 ?_
          (repeat (first | (refine Ev.at (q := 12) rfl ?_; exact l1) | refine Ev.p rfl rfl ?_))
      · rw [if_neg h124]
        refine ⟨J, no _ h124 ?_, hR, FK.rf p J⟩
        ((repeat refine Ev.p rfl rfl ?_); exact Ev.r rfl)
end CREAD2
