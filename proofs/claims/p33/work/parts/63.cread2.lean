/-! THE CLASS reads a station: E -/
theorem idx_65 (c : Int32) : idx (txt 5) c (txt 5).length 0 = p6 c := rfl
theorem idx_63 (c : Int32) : idx (txt 6) c (txt 6).length 0 = p3 c := rfl
/-- signs are what feed takes -/
def tOK (t : Nat → Int32) (z : Nat) : Prop := ∀ j, j < z → ∃ c, c < 128 ∧ t j = nI c
def RAc (J : Nat → Nat → Int32) (t : Nat → Int32) (z p tp : Nat) (C : List Nat) (r : Bool × Nat × List Nat) : Prop := match r with
  | (true, b, ts) => CP J t z p tp b (C ++ ts)
  | (false, b, _) => ∃ C', CP J t z p tp b C'
def RO2 (J : Nat → Nat → Int32) (t : Nat → Int32) (z p tp a : Nat) (C : List Nat) (r : Option Nat) : Prop := match r with
  | none => CP J t z p tp a C
  | some _ => CP J t z p tp (a + 1) C
section CREAD2
variable {X : Nat × (Nat → Int32)} {d : Nat} {K : List (Nat × Nat)} {I : Nat → Nat → Int32} {R : Nat → Nat → Option Nat} {t : Nat → Int32} {z p tp a o : Nat} {C : List Nat}
theorem c_takeOneOf (hK : CKs K R p tp) (h : CP I t z p tp a C) (hz : z ≤ 100) (ha : a ≤ z) (ht : tOK t z) {i : Nat} (hi : i = 5 ∨ i = 6) : ∃ I', Ev X (d + 4) kX8_takeOneOf 0 (ent kX8_takeOneOf [.ref p, .retAddr i]) [] (K, I, R) (some (.int (ix (idx (txt i) (pk t z a) (txt i).length 0))), (K, I', R)) ∧ RO2 I' t z p tp a C (idx (txt i) (pk t z a) (txt i).length 0) ∧ FK p I I' := by
  have hp := c_peek (X := X) (d := d + 3) hK h hz ha
  have hK2 := hK
  obtain ⟨k0, k1, k2, k3, r3, r4, r5, r7, kt'⟩ := hK2
  have h9 : I p 9 = nI a := h.2.1
  by_cases hlt : a < z
  · obtain ⟨c0, hc0, ec0⟩ := ht a hlt
    have epk : pk t z a = nI c0 := (if_pos hlt).trans ec0
    rw [epk] at hp ⊢
    have hix := j_indexOf (X := X) (d := d) (K, I, R) hi hc0
    have go : ∀ Z : Option Value × Hp, Ev X (d + 4) kX8_takeOneOf 19 [some (.ref p), some (.retAddr i), some (.int (nI c0)), none] [.int (ix (idx (txt i) (nI c0) (txt i).length 0))] (K, I, R) Z → Ev X (d + 4) kX8_takeOneOf 0 (ent kX8_takeOneOf [.ref p, .retAddr i]) [] (K, I, R) Z := by
      intro Z g
      rcases hi with rfl | rfl
      all_goals
        (repeat (first | refine Ev.p rfl rfl ?_ | refine Ev.gr (by rfl) (by rfl) (by assumption) (by rfl) (by assumption) ?_ | refine Ev.gi (by rfl) (by rfl) (by assumption) (by rfl) (by assumption) ?_))
        refine Ev.cv (by rfl) (by rfl) (by assumption) (by rfl) (by rfl) (by rfl) (by rfl) (by rfl) hp ?_
        (repeat refine Ev.p rfl rfl ?_)
        refine Ev.bp rfl (fun c => ?_) (fun c => absurd (nI_pos' (by omega)) c)
        iterate 3 refine Ev.p rfl rfl ?_
        rw [i16_c c0 hc0]
        refine Ev.c rfl hix ?_
        (repeat (first | (refine Ev.at (q := 19) rfl ?_; exact g) | refine Ev.p rfl rfl ?_))
    cases hq : idx (txt i) (nI c0) (txt i).length 0 with
    | none =>
      rw [hq] at go
      refine ⟨I, go _ ?_, h, FK.rf p I⟩
      ((repeat refine Ev.p rfl rfl ?_); exact Ev.r rfl)
    | some w =>
      rw [hq] at go
      have hw : w < 10 := by
        rcases hi with rfl | rfl
        · rw [idx_65] at hq
          rw [← epk] at hq
          have := (pk_6 hq).2; omega
        · rw [idx_63] at hq
          rw [← epk] at hq
          have := (pk_3 hq).2; omega
      refine ⟨upI I p 9 (nI a + 1), go _ ?_, h.mv hK (nI_1 a), (FK.rf p I).a _⟩
      show Ev X (d + 4) kX8_takeOneOf 19 _ [.int (nI w)] _ (some (.int (nI w)), _)
      (repeat refine Ev.p rfl rfl ?_)
      refine Ev.bp rfl (fun c => absurd c (nI_pos (by omega))) (fun c => ?_)
      (repeat (first | refine Ev.p rfl rfl ?_ | refine Ev.gr (by rfl) (by rfl) (by assumption) (by rfl) (by assumption) ?_ | refine Ev.gi (by rfl) (by rfl) (by assumption) (by rfl) (by assumption) ?_))
      refine Ev.pi (by rfl) (by rfl) (by assumption) (by rfl) ?_
      ((repeat refine Ev.p rfl rfl ?_); exact Ev.r rfl)
  · have epk : pk t z a = -1 := if_neg hlt
    rw [epk] at hp ⊢
    have hq : idx (txt i) (-1) (txt i).length 0 = none := by rcases hi with rfl | rfl <;> decide
    rw [hq]
    refine ⟨I, ?_, h, FK.rf p I⟩
    (repeat (first | refine Ev.p rfl rfl ?_ | refine Ev.gr (by rfl) (by rfl) (by assumption) (by rfl) (by assumption) ?_ | refine Ev.gi (by rfl) (by rfl) (by assumption) (by rfl) (by assumption) ?_))
    refine Ev.cv (by rfl) (by rfl) (by assumption) (by rfl) (by rfl) (by rfl) (by rfl) (by rfl) hp ?_
    ((repeat refine Ev.p rfl rfl ?_); exact Ev.r rfl)
/-- behind F's loop: m times ! stand around it -/
def RAn (J : Nat → Nat → Int32) (t : Nat → Int32) (z p tp : Nat) (C : List Nat) (m : Nat) (r : Bool × Nat × List Nat) : Prop := match r with
  | (true, b, ts) => CP J t z p tp b (C ++ ts ++ List.replicate m 0)
  | (false, b, _) => ∃ C', CP J t z p tp b C'
theorem c_nots {o0 : Nat} (hK : CKs K R p tp) (ho : o ≤ 5) : ∀ (mm i : Nat) (C : List Nat) (J : Nat → Nat → Int32), i + mm = o → C.length + mm ≤ 100 → CP J t z p tp a C → ∃ J', (∀ y4 y5 : Option Value, Ev X (d + 1) kX8_readPart 121 [some (.ref p), some (.int (nI o0)), some (.int (nI o)), some (.int (nI i)), y4, y5] [] (K, J, R) (some (.int 1), (K, J', R))) ∧ CP J' t z p tp a (C ++ List.replicate mm 0) ∧ FK p J J' := by
  obtain ⟨k0, k1, k2, k3, r3, r4, r5, r7, kt'⟩ := id hK
  intro mm
  induction mm with
  | zero =>
    intro i C J hi hC hR
    have e0 : i = o := by omega
    subst e0
    refine ⟨J, fun y4 y5 => ?_, by rw [List.replicate_zero, List.append_nil]; exact hR, FK.rf p J⟩
    (repeat refine Ev.p rfl rfl ?_)
    refine Ev.bp rfl (fun c => ?_) (fun c => ?_)
    · ((repeat refine Ev.p rfl rfl ?_); exact Ev.r rfl)
    · exact absurd (Int32.le_refl _) c
  | succ mm ih =>
    intro i C J hi hC hR
    obtain ⟨J1, g1, g2, g3⟩ := c_put (X := X) (d := d) hK hR (by omega) 0 (y := -1) rfl
    obtain ⟨J2, e1, e2, e3⟩ := ih (i + 1) (C ++ [0]) J1 (by omega) (by rw [List.length_append]; show C.length + 1 + mm ≤ 100; omega) g2
    refine ⟨J2, fun y4 y5 => ?_, by rw [List.append_assoc] at e2; exact e2, g3.tr e3⟩
    have e1 := e1 y4 y5
    rw [nI_succ i] at e1
    (repeat refine Ev.p rfl rfl ?_)
    refine Ev.bp rfl (fun c => absurd c (nI_ge (by omega) (by omega))) (fun c => ?_)
    (repeat refine Ev.p rfl rfl ?_)
    refine Ev.cv (by rfl) (by rfl) (by assumption) (by rfl) (by rfl) (by rfl) (by rfl) (by rfl) g1 ?_
    (repeat (first | (refine Ev.at (q := 121) rfl ?_; exact e1) | refine Ev.p rfl rfl ?_))
theorem c_atom {o0 : Nat} {J : Nat → Nat → Int32} (hK : CKs K R p tp) (hz : z ≤ 100) (ht : tOK t z) (ho0 : o0 ≤ o) (ho : o ≤ 5) (ha : a ≤ z) (hC : C.length + (o - o0) ≤ a) (hR : CP J t z p tp a C) : ∃ J', Ev X (d + 6) kX8_readPart 57 [some (.ref p), some (.int (nI o0)), some (.int (nI o)), none, none, none] [] (K, J, R) (some (.int (bI (pX t z a).1)), (K, J', R)) ∧ RAn J' t z p tp C (o - o0) (pX t z a) ∧ FK p J J' := by
  obtain ⟨k0, k1, k2, k3, r3, r4, r5, r7, kt'⟩ := id hK
  obtain ⟨J1, e1, e2, e3⟩ := c_takeOneOf (X := X) (d := d + 1) hK hR hz ha ht (i := 5) (Or.inl rfl)
  rw [idx_65] at e1 e2
  unfold pX
  cases h6 : p6 (pk t z a) with
  | none =>
    rw [h6] at e1 e2
    refine ⟨J1, ?_, ⟨_, e2⟩, e3⟩
    (repeat refine Ev.p rfl rfl ?_)
    refine Ev.cv (by rfl) (by rfl) (by assumption) (by rfl) (by rfl) (by rfl) (by rfl) (by rfl) e1 ?_
    ((repeat refine Ev.p rfl rfl ?_); exact Ev.r rfl)
  | some w =>
    rw [h6] at e1 e2
    have e2 : CP J1 t z p tp (a + 1) C := e2
    obtain ⟨hlt, hw6⟩ := pk_6 h6
    obtain ⟨J2, g1, g2, g3⟩ := c_takeOneOf (X := X) (d := d + 1) hK e2 hz (by omega) ht (i := 6) (Or.inr rfl)
    rw [idx_63] at g1 g2
    dsimp only
    cases h3 : p3 (pk t z (a + 1)) with
    | none =>
      rw [h3] at g1 g2
      refine ⟨J2, ?_, ⟨_, g2⟩, e3.tr g3⟩
      (repeat refine Ev.p rfl rfl ?_)
      refine Ev.cv (by rfl) (by rfl) (by assumption) (by rfl) (by rfl) (by rfl) (by rfl) (by rfl) e1 ?_
      show Ev X _ kX8_readPart _ _ (.int (nI w) :: _) _ _
      (repeat refine Ev.p rfl rfl ?_)
      refine Ev.bp rfl (fun c => ?_) (fun c => absurd (nI_pos' (by omega)) c)
      (repeat refine Ev.p rfl rfl ?_)
      refine Ev.cv (by rfl) (by rfl) (by assumption) (by rfl) (by rfl) (by rfl) (by rfl) (by rfl) g1 ?_
      ((repeat refine Ev.p rfl rfl ?_); exact Ev.r rfl)
    | some q =>
      rw [h3] at g1 g2
      have g2 : CP J2 t z p tp (a + 2) C := g2
      obtain ⟨hlt2, hq3⟩ := pk_3 h3
      obtain ⟨J3, y, i1, i2, i3⟩ := c_readNumber (X := X) (d := d + 4) hK g2 hz (by omega)
      have go2 : ∀ {Z : Option Value × Hp}, Ev X (d + 6) kX8_readPart 93 [some (.ref p), some (.int (nI o0)), some (.int (nI o)), some (.int (nI w)), some (.int (nI q)), none] [.int y] (K, J3, R) Z → Ev X (d + 6) kX8_readPart 57 [some (.ref p), some (.int (nI o0)), some (.int (nI o)), none, none, none] [] (K, J, R) Z := by
        intro Z g
        (repeat refine Ev.p rfl rfl ?_)
        refine Ev.cv (by rfl) (by rfl) (by assumption) (by rfl) (by rfl) (by rfl) (by rfl) (by rfl) e1 ?_
        show Ev X _ kX8_readPart _ _ (.int (nI w) :: _) _ _
        (repeat refine Ev.p rfl rfl ?_)
        refine Ev.bp rfl (fun c => ?_) (fun c => absurd (nI_pos' (by omega)) c)
        (repeat refine Ev.p rfl rfl ?_)
        refine Ev.cv (by rfl) (by rfl) (by assumption) (by rfl) (by rfl) (by rfl) (by rfl) (by rfl) g1 ?_
        show Ev X _ kX8_readPart _ _ (.int (nI q) :: _) _ _
        (repeat refine Ev.p rfl rfl ?_)
        refine Ev.bp rfl (fun c => ?_) (fun c => absurd (nI_pos' (by omega)) c)
        (repeat refine Ev.p rfl rfl ?_)
        refine Ev.cv (by rfl) (by rfl) (by assumption) (by rfl) (by rfl) (by rfl) (by rfl) (by rfl) i1 ?_
        (repeat (first | (refine Ev.at (q := 93) rfl ?_; exact g) | refine Ev.p rfl rfl ?_))
      dsimp only
      cases hn : pN t z (a + 2) with
      | none =>
        rw [hn] at i2
        obtain ⟨rfl, i4⟩ := i2
        refine ⟨J3, go2 ?_, ⟨_, i4⟩, (e3.tr g3).tr i3⟩
        ((repeat refine Ev.p rfl rfl ?_); exact Ev.r rfl)
      | some v =>
        obtain ⟨n, b⟩ := v
        rw [hn] at i2
        obtain ⟨rfl, i4⟩ := i2
        have hnb := pN_ok hn
        obtain ⟨J4, l1, l2, l3⟩ := c_put (X := X) (d := d + 5) hK i4 (by omega) (w + 8 * q + 32 * n + 3) rfl
        obtain ⟨J5, m1, m2, m3⟩ := c_nots (X := X) (d := d + 5) (o0 := o0) hK ho (o - o0) o0 _ J4 (by omega) (by rw [List.length_append]; show C.length + 1 + (o - o0) ≤ 100; omega) l2
        refine ⟨J5, go2 ?_, m2, (((e3.tr g3).tr i3).tr l3).tr m3⟩
        rw [show tokC (w + 8 * q + 32 * n + 3) = (nI w <<< ((16 : Int32) &&& 31)) ||| (nI q <<< ((8 : Int32) &&& 31)) ||| nI n from by
          show (nI ((w + 8 * q + 32 * n) % 8) <<< ((16 : Int32) &&& 31)) ||| (nI ((w + 8 * q + 32 * n) / 8 % 4) <<< ((8 : Int32) &&& 31)) ||| nI ((w + 8 * q + 32 * n) / 32) = _
          rw [show (w + 8 * q + 32 * n) % 8 = w by omega, show (w + 8 * q + 32 * n) / 8 % 4 = q by omega, show (w + 8 * q + 32 * n) / 32 = n by omega]] at l1
        show Ev X (d + 6) kX8_readPart 93 _ _ _ (some (.int 1), _)
        (repeat refine Ev.p rfl rfl ?_)
        refine Ev.bp rfl (fun c => ?_) (fun c => absurd (nI_pos' (by omega)) c)
        (repeat refine Ev.p rfl rfl ?_)
        refine Ev.cv (by rfl) (by rfl) (by assumption) (by rfl) (by rfl) (by rfl) (by rfl) (by rfl) l1 ?_
        (repeat (first | (refine Ev.at (q := 121) rfl ?_; exact (m1 _ _)) | refine Ev.p rfl rfl ?_))
theorem pp_5 (f : Nat) : pp t z (f + 1) 0 5 a [] = pX t z a := by
  simp only [pp]
  by_cases h33 : pk t z a = 33
  · rw [if_pos h33, if_pos trivial]; unfold pX; rw [h33]; rfl
  · rw [if_neg h33]
    by_cases h40 : pk t z a = 40
    · rw [if_pos h40, if_pos trivial]; unfold pX; rw [h40]; rfl
    · rw [if_neg h40]
theorem c_pp (hK : CKs K R p tp) (hz : z ≤ 100) (ht : tOK t z) : ∀ f : Nat,
    (∀ (o0 o k a : Nat) (C : List Nat) (J : Nat → Nat → Int32), o0 ≤ o → o + k = 5 → 5 * (z - a) + 1 ≤ f → a ≤ z → C.length + (o - o0) ≤ a → CP J t z p tp a C → ∃ J', Ev X (d + 6 + 3 * k) kX8_readPart 2 [some (.ref p), some (.int (nI o0)), some (.int (nI o)), none, none, none] [] (K, J, R) (some (.int (bI (pp t z f 0 o a []).1)), (K, J', R)) ∧ RAn J' t z p tp C (o - o0) (pp t z f 0 o a []) ∧ FK p J J') ∧
    (∀ (o k a : Nat) (C : List Nat) (J : Nat → Nat → Int32), o + k = 5 → 5 * (z - a) + 2 ≤ f → a ≤ z → C.length ≤ a → CP J t z p tp a C → ∃ J', Ev X (d + 7 + 3 * k) kX8_readBoth 0 (ent kX8_readBoth [.ref p, .int (nI o)]) [] (K, J, R) (some (.int (bI (pp t z f 1 o a []).1)), (K, J', R)) ∧ RAc J' t z p tp C (pp t z f 1 o a []) ∧ FK p J J') ∧
    (∀ (o k a mo : Nat) (C ts : List Nat) (J : Nat → Nat → Int32), o + k = 5 → 5 * (z - a) + 1 ≤ f → a ≤ z → mo ≤ a → (C ++ ts).length ≤ a → CP J t z p tp a (C ++ ts) → ∃ J', Ev X (d + 7 + 3 * k) kX8_readBoth 12 [some (.ref p), some (.int (nI o)), some (.int (nI mo))] [] (K, J, R) (some (.int (bI (pp t z f 2 o a ts).1)), (K, J', R)) ∧ RAc J' t z p tp C (pp t z f 2 o a ts) ∧ FK p J J') ∧
    (∀ (o k a : Nat) (C : List Nat) (J : Nat → Nat → Int32), o + k = 5 → 5 * (z - a) + 3 ≤ f → a ≤ z → C.length ≤ a → CP J t z p tp a C → ∃ J', Ev X (d + 8 + 3 * k) kX8_readEither 0 (ent kX8_readEither [.ref p, .int (nI o)]) [] (K, J, R) (some (.int (bI (pp t z f 3 o a []).1)), (K, J', R)) ∧ RAc J' t z p tp C (pp t z f 3 o a []) ∧ FK p J J') ∧
    (∀ (o k a mo : Nat) (C ts : List Nat) (J : Nat → Nat → Int32), o + k = 5 → 5 * (z - a) + 1 ≤ f → a ≤ z → mo ≤ a → (C ++ ts).length ≤ a → CP J t z p tp a (C ++ ts) → ∃ J', Ev X (d + 8 + 3 * k) kX8_readEither 12 [some (.ref p), some (.int (nI o)), some (.int (nI mo))] [] (K, J, R) (some (.int (bI (pp t z f 4 o a ts).1)), (K, J', R)) ∧ RAc J' t z p tp C (pp t z f 4 o a ts) ∧ FK p J J') := by
  obtain ⟨k0, k1, k2, k3, r3, r4, r5, r7, kt'⟩ := id hK
  intro f
  induction f with
  | zero => exact ⟨fun o0 o k a C J _ _ h => by omega, fun o k a C J _ h => by omega, fun o k a mo C ts J _ h => by omega, fun o k a C J _ h => by omega, fun o k a mo C ts J _ h => by omega⟩
  | succ f ih =>
    obtain ⟨ihL, ihT, ihU, ihE, ihV⟩ := ih
    have ihF : ∀ (o k a : Nat) (C : List Nat) (J : Nat → Nat → Int32), o + k = 5 → 5 * (z - a) + 1 ≤ f → a ≤ z → C.length ≤ a → CP J t z p tp a C → ∃ J', Ev X (d + 6 + 3 * k) kX8_readPart 0 (ent kX8_readPart [.ref p, .int (nI o)]) [] (K, J, R) (some (.int (bI (pp t z f 0 o a []).1)), (K, J', R)) ∧ RAc J' t z p tp C (pp t z f 0 o a []) ∧ FK p J J' := fun o k a C J hk hf ha hC hR => by
      obtain ⟨J', g1, g2, g3⟩ := ihL o o k a C J (Nat.le_refl _) hk hf ha (by omega) hR
      refine ⟨J', by (repeat (first | (refine Ev.at (q := 2) rfl ?_; exact g1) | refine Ev.p rfl rfl ?_)), ?_, g3⟩
      rcases hr : pp t z f 0 o a [] with ⟨ok, b, us⟩
      rw [hr, Nat.sub_self] at g2
      cases ok with
      | false => exact g2
      | true =>
        have g2 : CP J' t z p tp b (C ++ us ++ List.replicate 0 0) := g2
        rw [List.replicate_zero, List.append_nil] at g2
        exact g2
    refine ⟨fun o0 o k a C J ho0 hk hf ha hC hR => ?_, fun o k a C J hk hf ha hC hR => ?_, fun o k a mo C ts J hk hf ha hmo hC hR => ?_, fun o k a C J hk hf ha hC hR => ?_, fun o k a mo C ts J hk hf ha hmo hC hR => ?_⟩
    · -- F
      rw [show d + 6 + 3 * k = (d + 5 + 3 * k) + 1 by omega]
      have hat := c_atom (X := X) (d := d + 3 * k) (o := o) (o0 := o0) hK hz ht ho0 (by omega) ha hC hR
      cases k with
      | zero =>
        have ho5 : o = 5 := by omega
        subst ho5
        obtain ⟨J', g1, g2, g3⟩ := hat
        have g1 := g1.dp (d' := d + 5 + 3 * 0 + 1) (by omega)
        rw [pp_5]
        refine ⟨J', ?_, g2, g3⟩
        (repeat (first | (refine Ev.at (q := 57) rfl ?_; exact g1) | refine Ev.p rfl rfl ?_))
      | succ k =>
        have ho5 : o ≠ 5 := by omega
        simp only [pp, if_neg ho5]
        obtain ⟨t1, t2⟩ := c_take (X := X) (d := d + 4 + 3 * (k + 1)) hK hR hz ha 33
        by_cases h33 : pk t z a = 33
        · simp only [if_pos h33]
          have hlt := pq_lt h33 (by decide)
          have t1 := (t1 h33).dp (d' := d + 5 + 3 * (k + 1)) (by omega)
          obtain ⟨J1, hJ1⟩ : ∃ J', J' = upI J p 9 (nI (a + 1)) := ⟨_, rfl⟩
          have r1 : CP J1 t z p tp (a + 1) C := by rw [hJ1]; exact hR.mv hK rfl
          have f1 : FK p J J1 := by rw [hJ1]; exact (FK.rf p J).a _
          rw [← hJ1] at t1
          obtain ⟨J3, e1, e2, e3⟩ := ihL o0 (o + 1) k (a + 1) C J1 (by omega) (by omega) (by omega) hlt (by omega) r1
          have e1 := e1.dp (d' := (d + 5 + 3 * (k + 1)) + 1) (by omega)
          rw [nI_succ o] at e1
          rcases hr : pp t z f 0 (o + 1) (a + 1) [] with ⟨ok, b, us⟩
          rw [hr] at e1 e2
          have go : Ev X ((d + 5 + 3 * (k + 1)) + 1) kX8_readPart 2 [some (.ref p), some (.int (nI o0)), some (.int (nI o)), none, none, none] [] (K, J, R) (some (.int (bI ok)), (K, J3, R)) := by
            (repeat refine Ev.p rfl rfl ?_)
            refine Ev.bp rfl (fun c => absurd c (nI_ge (b := 5) (by omega) (by omega))) (fun c => ?_)
            (repeat refine Ev.p rfl rfl ?_)
            refine Ev.cv (by rfl) (by rfl) (by assumption) (by rfl) (by rfl) (by rfl) (by rfl) (by rfl) t1 ?_
            (repeat (first | (refine Ev.at (q := 2) rfl ?_; exact e1) | refine Ev.p rfl rfl ?_))
          cases ok with
          | false => exact ⟨J3, go, e2, f1.tr e3⟩
          | true =>
            refine ⟨J3, go, ?_, f1.tr e3⟩
            have e2 : CP J3 t z p tp b (C ++ us ++ List.replicate (o + 1 - o0) 0) := e2
            show CP J3 t z p tp b (C ++ (us ++ [0]) ++ List.replicate (o - o0) 0)
            rw [show o + 1 - o0 = (o - o0) + 1 by omega, List.replicate_succ] at e2
            rw [show C ++ (us ++ [0]) ++ List.replicate (o - o0) 0 = C ++ us ++ (0 :: List.replicate (o - o0) 0) from by simp]
            exact e2
        · have t2 := (t2 h33).dp (d' := d + 5 + 3 * (k + 1)) (by omega)
          simp only [if_neg h33]
          have go : ∀ {Z : Option Value × Hp}, Ev X ((d + 5 + 3 * (k + 1)) + 1) kX8_readPart 27 [some (.ref p), some (.int (nI o0)), some (.int (nI o)), none, none, none] [] (K, J, R) Z → Ev X ((d + 5 + 3 * (k + 1)) + 1) kX8_readPart 2 [some (.ref p), some (.int (nI o0)), some (.int (nI o)), none, none, none] [] (K, J, R) Z := by
            intro Z g
            (repeat refine Ev.p rfl rfl ?_)
            refine Ev.bp rfl (fun c => absurd c (nI_ge (b := 5) (by omega) (by omega))) (fun c => ?_)
            (repeat refine Ev.p rfl rfl ?_)
            refine Ev.cv (by rfl) (by rfl) (by assumption) (by rfl) (by rfl) (by rfl) (by rfl) (by rfl) t2 ?_
            (repeat refine Ev.p rfl rfl ?_)
            refine Ev.bp rfl (fun c => absurd c (nI_ge (b := 5) (by omega) (by omega))) (fun c => ?_)
            (repeat (first | (refine Ev.at (q := 27) rfl ?_; exact g) | refine Ev.p rfl rfl ?_))
          obtain ⟨u1, u2⟩ := c_take (X := X) (d := d + 4 + 3 * (k + 1)) hK hR hz ha 40
          by_cases h40 : pk t z a = 40
          · simp only [if_pos h40]
            have hlt := pq_lt h40 (by decide)
            have u1 := (u1 h40).dp (d' := d + 5 + 3 * (k + 1)) (by omega)
            obtain ⟨J1, hJ1⟩ : ∃ J', J' = upI J p 9 (nI (a + 1)) := ⟨_, rfl⟩
            have r1 : CP J1 t z p tp (a + 1) C := by rw [hJ1]; exact hR.mv hK rfl
            have f1 : FK p J J1 := by rw [hJ1]; exact (FK.rf p J).a _
            rw [← hJ1] at u1
            obtain ⟨J3, e1, e2, e3⟩ := ihE (o + 1) k (a + 1) C J1 (by omega) (by omega) hlt (by omega) r1
            have e1 := e1.dp (d' := d + 5 + 3 * (k + 1)) (by omega)
            rw [nI_succ o] at e1
            rcases hr : pp t z f 3 (o + 1) (a + 1) [] with ⟨ok, b, us⟩
            rw [hr] at e1 e2
            have hp := pp_ok (t := t) (z := z) f 3 (o + 1) (a + 1) [] (fun _ => rfl) hlt
            rw [hr] at hp
            have go2 : ∀ {Z : Option Value × Hp}, Ev X ((d + 5 + 3 * (k + 1)) + 1) kX8_readPart 43 [some (.ref p), some (.int (nI o0)), some (.int (nI o)), none, none, none] [.int (bI ok)] (K, J3, R) Z → Ev X ((d + 5 + 3 * (k + 1)) + 1) kX8_readPart 2 [some (.ref p), some (.int (nI o0)), some (.int (nI o)), none, none, none] [] (K, J, R) Z := by
              intro Z g
              refine go ?_
              (repeat refine Ev.p rfl rfl ?_)
              refine Ev.cv (by rfl) (by rfl) (by assumption) (by rfl) (by rfl) (by rfl) (by rfl) (by rfl) u1 ?_
              (repeat refine Ev.p rfl rfl ?_)
              refine Ev.cv (by rfl) (by rfl) (by assumption) (by rfl) (by rfl) (by rfl) (by rfl) (by rfl) e1 ?_
              (repeat (first | (refine Ev.at (q := 43) rfl ?_; exact g) | refine Ev.p rfl rfl ?_))
            cases ok with
            | false =>
              refine ⟨J3, go2 ?_, e2, f1.tr e3⟩
              ((repeat refine Ev.p rfl rfl ?_); exact Ev.r rfl)
            | true =>
              have hp2 := hp.2.2 rfl
              simp only [List.length_nil] at hp2
              dsimp only at hp hp2 ⊢
              have e2 : CP J3 t z p tp b (C ++ us) := e2
              obtain ⟨m1, m2⟩ := c_take (X := X) (d := d + 4 + 3 * (k + 1)) hK e2 hz hp.2.1 41
              by_cases h41 : pk t z b = 41
              · rw [if_pos h41]
                have hlt2 := pq_lt h41 (by decide)
                have m1 := (m1 h41).dp (d' := d + 5 + 3 * (k + 1)) (by omega)
                obtain ⟨J4, hJ4⟩ : ∃ J', J' = upI J3 p 9 (nI (b + 1)) := ⟨_, rfl⟩
                have r4 : CP J4 t z p tp (b + 1) (C ++ us) := by rw [hJ4]; exact e2.mv hK rfl
                have f4 : FK p J3 J4 := by rw [hJ4]; exact (FK.rf p J3).a _
                rw [← hJ4] at m1
                obtain ⟨J5, n1, n2, n3⟩ := c_nots (X := X) (d := d + 5 + 3 * (k + 1)) (o0 := o0) (o := o) hK (by omega) (o - o0) o0 _ J4 (by omega) (by rw [List.length_append]; omega) r4
                refine ⟨J5, go2 ?_, n2, ((f1.tr e3).tr f4).tr n3⟩
                show Ev X _ kX8_readPart 43 _ _ _ (some (.int 1), _)
                (repeat refine Ev.p rfl rfl ?_)
                refine Ev.cv (by rfl) (by rfl) (by assumption) (by rfl) (by rfl) (by rfl) (by rfl) (by rfl) m1 ?_
                (repeat (first | (refine Ev.at (q := 121) rfl ?_; exact (n1 _ _)) | refine Ev.p rfl rfl ?_))
              · rw [if_neg h41]
                have m2 := (m2 h41).dp (d' := d + 5 + 3 * (k + 1)) (by omega)
                refine ⟨J3, go2 ?_, ⟨_, e2⟩, f1.tr e3⟩
                (repeat refine Ev.p rfl rfl ?_)
                refine Ev.cv (by rfl) (by rfl) (by assumption) (by rfl) (by rfl) (by rfl) (by rfl) (by rfl) m2 ?_
                ((repeat refine Ev.p rfl rfl ?_); exact Ev.r rfl)
          · simp only [if_neg h40]
            have u2 := (u2 h40).dp (d' := d + 5 + 3 * (k + 1)) (by omega)
            obtain ⟨J', g1, g2, g3⟩ := hat
            have g1 := g1.dp (d' := d + 5 + 3 * (k + 1) + 1) (by omega)
            refine ⟨J', go ?_, g2, g3⟩
            (repeat refine Ev.p rfl rfl ?_)
            refine Ev.cv (by rfl) (by rfl) (by assumption) (by rfl) (by rfl) (by rfl) (by rfl) (by rfl) u2 ?_
            (repeat (first | (refine Ev.at (q := 57) rfl ?_; exact g1) | refine Ev.p rfl rfl ?_))
    · -- T
      simp only [pp]
      obtain ⟨J1, e1, e2, e3⟩ := ihF o k a C J hk (by omega) ha hC hR
      rcases hr : pp t z f 0 o a [] with ⟨ok, b, us⟩
      rw [hr] at e1 e2
      have hp := pp_ok (t := t) (z := z) f 0 o a [] (fun _ => rfl) ha
      rw [hr] at hp
      rw [show d + 7 + 3 * k = (d + 6 + 3 * k) + 1 by omega]
      cases ok with
      | false =>
        obtain ⟨C', r1⟩ := e2
        refine ⟨J1, ?_, ⟨C', r1⟩, e3⟩
        (repeat refine Ev.p rfl rfl ?_)
        refine Ev.cv (by rfl) (by rfl) (by assumption) (by rfl) (by rfl) (by rfl) (by rfl) (by rfl) e1 ?_
        ((repeat refine Ev.p rfl rfl ?_); exact Ev.r rfl)
      | true =>
        have hp2 := hp.2.2 rfl
        simp only [List.length_nil] at hp2
        dsimp only at hp hp2
        have e2 : CP J1 t z p tp b (C ++ us) := e2
        obtain ⟨J2, g1, g2, g3⟩ := ihU o k b 0 C us J1 hk (by omega) hp.2.1 (by omega) (by rw [List.length_append]; omega) e2
        have g1 := g1.dp (d' := (d + 6 + 3 * k) + 1) (by omega)
        refine ⟨J2, ?_, g2, e3.tr g3⟩
        (repeat refine Ev.p rfl rfl ?_)
        refine Ev.cv (by rfl) (by rfl) (by assumption) (by rfl) (by rfl) (by rfl) (by rfl) (by rfl) e1 ?_
        (repeat (first | (refine Ev.at (q := 12) rfl ?_; exact g1) | refine Ev.p rfl rfl ?_))
    · -- T's rest
      simp only [pp]
      rw [show d + 7 + 3 * k = (d + 6 + 3 * k) + 1 by omega]
      obtain ⟨m1, m2⟩ := c_take (X := X) (d := d + 5 + 3 * k) hK hR hz ha 38
      have no : ∀ Z : Option Value × Hp, pk t z a ≠ 38 → Ev X ((d + 6 + 3 * k) + 1) kX8_readBoth 49 [some (.ref p), some (.int (nI o)), some (.int (nI mo))] [] (K, J, R) Z → Ev X ((d + 6 + 3 * k) + 1) kX8_readBoth 12 [some (.ref p), some (.int (nI o)), some (.int (nI mo))] [] (K, J, R) Z := by
        intro Z hne g
        have m2 := (m2 hne).dp (d' := d + 6 + 3 * k) (by omega)
        (repeat refine Ev.p rfl rfl ?_)
        refine Ev.bp rfl (fun c => ?_) (fun c => ?_)
        · (repeat (first | (refine Ev.at (q := 49) rfl ?_; exact g) | refine Ev.p rfl rfl ?_))
        · (repeat refine Ev.p rfl rfl ?_)
          refine Ev.cv (by rfl) (by rfl) (by assumption) (by rfl) (by rfl) (by rfl) (by rfl) (by rfl) m2 ?_
          (repeat (first | (refine Ev.at (q := 49) rfl ?_; exact g) | refine Ev.p rfl rfl ?_))
      by_cases h38 : pk t z a = 38
      · rw [if_pos h38]
        have hlt := pq_lt h38 (by decide)
        have m1 := (m1 h38).dp (d' := d + 6 + 3 * k) (by omega)
        obtain ⟨J1, hJ1⟩ : ∃ J', J' = upI J p 9 (nI (a + 1)) := ⟨_, rfl⟩
        have r1 : CP J1 t z p tp (a + 1) (C ++ ts) := by rw [hJ1]; exact hR.mv hK rfl
        have f1 : FK p J J1 := by rw [hJ1]; exact (FK.rf p J).a _
        rw [← hJ1] at m1
        obtain ⟨J2, e1, e2, e3⟩ := ihF o k (a + 1) (C ++ ts) J1 hk (by omega) hlt (by omega) r1
        have go : ∀ {Z : Option Value × Hp}, Ev X ((d + 6 + 3 * k) + 1) kX8_readBoth 32 [some (.ref p), some (.int (nI o)), some (.int (nI mo))] [.int (bI (pp t z f 0 o (a + 1) []).1)] (K, J2, R) Z → Ev X ((d + 6 + 3 * k) + 1) kX8_readBoth 12 [some (.ref p), some (.int (nI o)), some (.int (nI mo))] [] (K, J, R) Z := by
          intro Z g
          (repeat refine Ev.p rfl rfl ?_)
          refine Ev.bp rfl (fun c => absurd c (nI_ge (b := 100) (by omega) (by omega))) (fun c => ?_)
          (repeat refine Ev.p rfl rfl ?_)
          refine Ev.cv (by rfl) (by rfl) (by assumption) (by rfl) (by rfl) (by rfl) (by rfl) (by rfl) m1 ?_
          (repeat refine Ev.p rfl rfl ?_)
          refine Ev.cv (by rfl) (by rfl) (by assumption) (by rfl) (by rfl) (by rfl) (by rfl) (by rfl) e1 ?_
          (repeat (first | (refine Ev.at (q := 32) rfl ?_; exact g) | refine Ev.p rfl rfl ?_))
        rcases hr : pp t z f 0 o (a + 1) [] with ⟨ok, b, us⟩
        rw [hr] at e2 go
        have hp := pp_ok (t := t) (z := z) f 0 o (a + 1) [] (fun _ => rfl) hlt
        rw [hr] at hp
        cases ok with
        | false =>
          obtain ⟨C', r3'⟩ := e2
          refine ⟨J2, go ?_, ⟨C', r3'⟩, f1.tr e3⟩
          ((repeat refine Ev.p rfl rfl ?_); exact Ev.r rfl)
        | true =>
          have hp2 := hp.2.2 rfl
          simp only [List.length_nil] at hp2
          dsimp only at hp hp2
          have e2 : CP J2 t z p tp b ((C ++ ts) ++ us) := e2
          have hlen : ((C ++ ts) ++ us).length < b := by rw [List.length_append]; omega
          obtain ⟨J3, g1, g2, g3⟩ := c_put (X := X) (d := d + 6 + 3 * k) hK e2 (by omega) 1 (y := -2) rfl
          have e9 : ((C ++ ts) ++ us) ++ [1] = C ++ (ts ++ us ++ [1]) := by rw [List.append_assoc, List.append_assoc, List.append_assoc]
          rw [e9] at g2
          have hlen2 : (C ++ (ts ++ us ++ [1])).length ≤ b := by rw [← e9, List.length_append]; exact hlen
          obtain ⟨J4, l1, l2, l3⟩ := ihU o k b (mo + 1) C (ts ++ us ++ [1]) J3 hk (by omega) hp.2.1 (by omega) hlen2 g2
          have l1 := l1.dp (d' := (d + 6 + 3 * k) + 1) (by omega)
          rw [nI_succ mo] at l1
          refine ⟨J4, go ?_, l2, ((f1.tr e3).tr g3).tr l3⟩
          (repeat refine Ev.p rfl rfl ?_)
          refine Ev.cv (by rfl) (by rfl) (by assumption) (by rfl) (by rfl) (by rfl) (by rfl) (by rfl) g1 ?_
          (repeat (first | (refine Ev.at (q := 12) rfl ?_; exact l1) | refine Ev.p rfl rfl ?_))
      · rw [if_neg h38]
        refine ⟨J, no _ h38 ?_, hR, FK.rf p J⟩
        ((repeat refine Ev.p rfl rfl ?_); exact Ev.r rfl)
    · -- E
      simp only [pp]
      obtain ⟨J1, e1, e2, e3⟩ := ihT o k a C J hk (by omega) ha hC hR
      rcases hr : pp t z f 1 o a [] with ⟨ok, b, us⟩
      rw [hr] at e1 e2
      have hp := pp_ok (t := t) (z := z) f 1 o a [] (fun _ => rfl) ha
      rw [hr] at hp
      rw [show d + 8 + 3 * k = (d + 7 + 3 * k) + 1 by omega]
      cases ok with
      | false =>
        obtain ⟨C', r1⟩ := e2
        refine ⟨J1, ?_, ⟨C', r1⟩, e3⟩
        (repeat refine Ev.p rfl rfl ?_)
        refine Ev.cv (by rfl) (by rfl) (by assumption) (by rfl) (by rfl) (by rfl) (by rfl) (by rfl) e1 ?_
        ((repeat refine Ev.p rfl rfl ?_); exact Ev.r rfl)
      | true =>
        have hp2 := hp.2.2 rfl
        simp only [List.length_nil] at hp2
        dsimp only at hp hp2
        have e2 : CP J1 t z p tp b (C ++ us) := e2
        obtain ⟨J2, g1, g2, g3⟩ := ihV o k b 0 C us J1 hk (by omega) hp.2.1 (by omega) (by rw [List.length_append]; omega) e2
        have g1 := g1.dp (d' := (d + 7 + 3 * k) + 1) (by omega)
        refine ⟨J2, ?_, g2, e3.tr g3⟩
        (repeat refine Ev.p rfl rfl ?_)
        refine Ev.cv (by rfl) (by rfl) (by assumption) (by rfl) (by rfl) (by rfl) (by rfl) (by rfl) e1 ?_
        (repeat (first | (refine Ev.at (q := 12) rfl ?_; exact g1) | refine Ev.p rfl rfl ?_))
    · -- E's rest
      simp only [pp]
      rw [show d + 8 + 3 * k = (d + 7 + 3 * k) + 1 by omega]
      obtain ⟨m1, m2⟩ := c_take (X := X) (d := d + 6 + 3 * k) hK hR hz ha 124
      have no : ∀ Z : Option Value × Hp, pk t z a ≠ 124 → Ev X ((d + 7 + 3 * k) + 1) kX8_readEither 49 [some (.ref p), some (.int (nI o)), some (.int (nI mo))] [] (K, J, R) Z → Ev X ((d + 7 + 3 * k) + 1) kX8_readEither 12 [some (.ref p), some (.int (nI o)), some (.int (nI mo))] [] (K, J, R) Z := by
        intro Z hne g
        have m2 := (m2 hne).dp (d' := d + 7 + 3 * k) (by omega)
        (repeat refine Ev.p rfl rfl ?_)
        refine Ev.bp rfl (fun c => ?_) (fun c => ?_)
        · (repeat (first | (refine Ev.at (q := 49) rfl ?_; exact g) | refine Ev.p rfl rfl ?_))
        · (repeat refine Ev.p rfl rfl ?_)
          refine Ev.cv (by rfl) (by rfl) (by assumption) (by rfl) (by rfl) (by rfl) (by rfl) (by rfl) m2 ?_
          (repeat (first | (refine Ev.at (q := 49) rfl ?_; exact g) | refine Ev.p rfl rfl ?_))
      by_cases h124 : pk t z a = 124
      · rw [if_pos h124]
        have hlt := pq_lt h124 (by decide)
        have m1 := (m1 h124).dp (d' := d + 7 + 3 * k) (by omega)
        obtain ⟨J1, hJ1⟩ : ∃ J', J' = upI J p 9 (nI (a + 1)) := ⟨_, rfl⟩
        have r1 : CP J1 t z p tp (a + 1) (C ++ ts) := by rw [hJ1]; exact hR.mv hK rfl
        have f1 : FK p J J1 := by rw [hJ1]; exact (FK.rf p J).a _
        rw [← hJ1] at m1
        obtain ⟨J2, e1, e2, e3⟩ := ihT o k (a + 1) (C ++ ts) J1 hk (by omega) hlt (by omega) r1
        have go : ∀ {Z : Option Value × Hp}, Ev X ((d + 7 + 3 * k) + 1) kX8_readEither 32 [some (.ref p), some (.int (nI o)), some (.int (nI mo))] [.int (bI (pp t z f 1 o (a + 1) []).1)] (K, J2, R) Z → Ev X ((d + 7 + 3 * k) + 1) kX8_readEither 12 [some (.ref p), some (.int (nI o)), some (.int (nI mo))] [] (K, J, R) Z := by
          intro Z g
          (repeat refine Ev.p rfl rfl ?_)
          refine Ev.bp rfl (fun c => absurd c (nI_ge (b := 100) (by omega) (by omega))) (fun c => ?_)
          (repeat refine Ev.p rfl rfl ?_)
          refine Ev.cv (by rfl) (by rfl) (by assumption) (by rfl) (by rfl) (by rfl) (by rfl) (by rfl) m1 ?_
          (repeat refine Ev.p rfl rfl ?_)
          refine Ev.cv (by rfl) (by rfl) (by assumption) (by rfl) (by rfl) (by rfl) (by rfl) (by rfl) e1 ?_
          (repeat (first | (refine Ev.at (q := 32) rfl ?_; exact g) | refine Ev.p rfl rfl ?_))
        rcases hr : pp t z f 1 o (a + 1) [] with ⟨ok, b, us⟩
        rw [hr] at e2 go
        have hp := pp_ok (t := t) (z := z) f 1 o (a + 1) [] (fun _ => rfl) hlt
        rw [hr] at hp
        cases ok with
        | false =>
          obtain ⟨C', r3'⟩ := e2
          refine ⟨J2, go ?_, ⟨C', r3'⟩, f1.tr e3⟩
          ((repeat refine Ev.p rfl rfl ?_); exact Ev.r rfl)
        | true =>
          have hp2 := hp.2.2 rfl
          simp only [List.length_nil] at hp2
          dsimp only at hp hp2
          have e2 : CP J2 t z p tp b ((C ++ ts) ++ us) := e2
          have hlen : ((C ++ ts) ++ us).length < b := by rw [List.length_append]; omega
          obtain ⟨J3, g1, g2, g3⟩ := c_put (X := X) (d := d + 7 + 3 * k) hK e2 (by omega) 2 (y := -3) rfl
          have e9 : ((C ++ ts) ++ us) ++ [2] = C ++ (ts ++ us ++ [2]) := by rw [List.append_assoc, List.append_assoc, List.append_assoc]
          rw [e9] at g2
          have hlen2 : (C ++ (ts ++ us ++ [2])).length ≤ b := by rw [← e9, List.length_append]; exact hlen
          obtain ⟨J4, l1, l2, l3⟩ := ihV o k b (mo + 1) C (ts ++ us ++ [2]) J3 hk (by omega) hp.2.1 (by omega) hlen2 g2
          have l1 := l1.dp (d' := (d + 7 + 3 * k) + 1) (by omega)
          rw [nI_succ mo] at l1
          refine ⟨J4, go ?_, l2, ((f1.tr e3).tr g3).tr l3⟩
          (repeat refine Ev.p rfl rfl ?_)
          refine Ev.cv (by rfl) (by rfl) (by assumption) (by rfl) (by rfl) (by rfl) (by rfl) (by rfl) g1 ?_
          (repeat (first | (refine Ev.at (q := 12) rfl ?_; exact l1) | refine Ev.p rfl rfl ?_))
      · rw [if_neg h124]
        refine ⟨J, no _ h124 ?_, hR, FK.rf p J⟩
        ((repeat refine Ev.p rfl rfl ?_); exact Ev.r rfl)
end CREAD2
