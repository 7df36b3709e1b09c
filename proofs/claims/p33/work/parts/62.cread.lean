/-! THE CLASS reads a station: signs, numbers, letters -/
def CKs (K : List (Nat × Nat)) (R : Nat → Nat → Option Nat) (p tp : Nat) : Prop := K[p]? = some (8, 10) ∧ K[p + 1]? = some (20, 10) ∧ K[p + 2]? = some (20, 10) ∧ K[p + 3]? = some (20, 100) ∧ R p 3 = some (p + 1) ∧ R p 4 = some (p + 2) ∧ R p 5 = some (p + 3) ∧ R p 7 = some tp ∧ K[tp]? = some (21, 100)
/-- between two signs: a where, C the tokens so far -/
def CP (J : Nat → Nat → Int32) (t : Nat → Int32) (z p tp a : Nat) (C : List Nat) : Prop := J p 8 = nI z ∧ J p 9 = nI a ∧ J p 6 = nI C.length ∧ (∀ j, j < z → J tp j = t j) ∧ (∀ (i x : Nat), C[i]? = some x → J (p + 3) i = tokC x)
def FK (p : Nat) (J J' : Nat → Nat → Int32) : Prop := (∀ c, c ≠ p → c ≠ p + 3 → J' c = J c) ∧ (∀ j, j ≠ 6 → j ≠ 9 → J' p j = J p j)
theorem FK.rf (p : Nat) (J : Nat → Nat → Int32) : FK p J J := ⟨fun _ _ _ => rfl, fun _ _ _ => rfl⟩
theorem FK.tr {p : Nat} {J J' J'' : Nat → Nat → Int32} (h : FK p J J') (h' : FK p J' J'') : FK p J J'' := ⟨fun c h1 h2 => (h'.1 c h1 h2).trans (h.1 c h1 h2), fun j h1 h2 => (h'.2 j h1 h2).trans (h.2 j h1 h2)⟩
theorem FK.a {p : Nat} {J J' : Nat → Nat → Int32} (h : FK p J J') (x : Int32) : FK p J (upI J' p 9 x) := ⟨fun c h1 h2 => by rw [upI_ne h1]; exact h.1 c h1 h2, fun j h1 h2 => by rw [upI_eq, upd_ne h2]; exact h.2 j h1 h2⟩
section CREAD
variable {X : Nat × (Nat → Int32)} {d : Nat} {K : List (Nat × Nat)} {I : Nat → Nat → Int32} {R : Nat → Nat → Option Nat} {t : Nat → Int32} {z p tp a o : Nat} {C : List Nat}
theorem CKs.ne (h : CKs K R p tp) : tp ≠ p ∧ tp ≠ p + 3 ∧ tp ≠ p + 1 ∧ tp ≠ p + 2 := by
  obtain ⟨k0, k1, k2, k3, r3, r4, r5, r7, kt'⟩ := h
  refine ⟨?_, ?_, ?_, ?_⟩ <;> intro g <;> rw [g] at kt' <;> simp_all
theorem CP.mv (hK : CKs K R p tp) (h : CP I t z p tp a C) {x : Int32} {b : Nat} (hx : x = nI b) : CP (upI I p 9 x) t z p tp b C := by
  obtain ⟨h1, h2, h3, h4, h5⟩ := h
  have n1 := hK.ne
  exact ⟨by rw [upI_eq, upd_ne (by omega)]; exact h1, by rw [upI_eq, upd_at]; exact hx, by rw [upI_eq, upd_ne (by omega)]; exact h3, by rw [upI_ne n1.1]; exact h4, by rw [upI_ne (by omega)]; exact h5⟩
theorem c_peek (hK : CKs K R p tp) (h : CP I t z p tp a C) (hz : z ≤ 100) (ha : a ≤ z) : Ev X d kX8_peek 0 (ent kX8_peek [.ref p]) [] (K, I, R) (some (.int (pk t z a)), (K, I, R)) := by
  obtain ⟨k0, k1, k2, k3, r3, r4, r5, r7, kt'⟩ := hK
  obtain ⟨h1, h2, h3, h4, h5⟩ := h
  (repeat (first | refine Ev.p rfl rfl ?_ | refine Ev.gr (by rfl) (by rfl) (by assumption) (by rfl) (by assumption) ?_ | refine Ev.gi (by rfl) (by rfl) (by assumption) (by rfl) (by assumption) ?_))
  refine Ev.bp rfl (fun c => ?_) (fun c => ?_)
  · exact absurd c (nI_pos (by omega))
  · (repeat (first | refine Ev.p rfl rfl ?_ | refine Ev.gr (by rfl) (by rfl) (by assumption) (by rfl) (by assumption) ?_ | refine Ev.gi (by rfl) (by rfl) (by assumption) (by rfl) (by assumption) ?_))
    refine Ev.bp rfl (fun c2 => ?_) (fun c2 => ?_)
    · rw [show pk t z a = -1 from if_neg (fun g => absurd c2 (nI_ge g (by omega)))]
      ((repeat refine Ev.p rfl rfl ?_); exact Ev.r rfl)
    · have hlt : a < z := by
        rcases Nat.lt_or_ge a z with g | g
        · exact g
        · exact absurd (nI_le g (by omega)) c2
      rw [show pk t z a = t a from if_pos hlt, ← h4 a hlt]
      (repeat (first | refine Ev.p rfl rfl ?_ | refine Ev.gr (by rfl) (by rfl) (by assumption) (by rfl) (by assumption) ?_ | refine Ev.gi (by rfl) (by rfl) (by assumption) (by rfl) (by assumption) ?_))
      refine Ev.alen (by rfl) (by assumption) (by rfl) ?_
      (repeat refine Ev.p rfl rfl ?_)
      refine Ev.bp rfl (fun c3 => absurd c3 (nI_ge (by omega) (by omega))) (fun c3 => ?_)
      (repeat (first | refine Ev.p rfl rfl ?_ | refine Ev.gr (by rfl) (by rfl) (by assumption) (by rfl) (by assumption) ?_ | refine Ev.gi (by rfl) (by rfl) (by assumption) (by rfl) (by assumption) ?_))
      refine Ev.bald (j := a) (by rfl) (by assumption) (Or.inl rfl) (by rfl) (by omega) (by omega) ?_
      ((repeat refine Ev.p rfl rfl ?_); exact Ev.r rfl)
theorem c_take (hK : CKs K R p tp) (h : CP I t z p tp a C) (hz : z ≤ 100) (ha : a ≤ z) (x : Int32) : (pk t z a = x → Ev X (d + 1) kX8_take 0 (ent kX8_take [.ref p, .int x]) [] (K, I, R) (some (.int 1), (K, upI I p 9 (nI (a + 1)), R))) ∧ (pk t z a ≠ x → Ev X (d + 1) kX8_take 0 (ent kX8_take [.ref p, .int x]) [] (K, I, R) (some (.int 0), (K, I, R))) := by
  have hp := c_peek (X := X) (d := d) hK h hz ha
  obtain ⟨k0, k1, k2, k3, r3, r4, r5, r7, kt'⟩ := hK
  obtain ⟨h1, h2, h3, h4, h5⟩ := h
  refine ⟨fun hx => ?_, fun hx => ?_⟩
  · rw [nI_succ]
    (repeat (first | refine Ev.p rfl rfl ?_ | refine Ev.gr (by rfl) (by rfl) (by assumption) (by rfl) (by assumption) ?_ | refine Ev.gi (by rfl) (by rfl) (by assumption) (by rfl) (by assumption) ?_))
    refine Ev.cv (by rfl) (by rfl) (by assumption) (by rfl) (by rfl) (by rfl) (by rfl) (by rfl) hp ?_
    (repeat (first | refine Ev.p rfl rfl ?_ | refine Ev.gr (by rfl) (by rfl) (by assumption) (by rfl) (by assumption) ?_ | refine Ev.gi (by rfl) (by rfl) (by assumption) (by rfl) (by assumption) ?_))
    refine Ev.bp rfl (fun c => ?_) (fun c => ?_)
    · (repeat (first | refine Ev.p rfl rfl ?_ | refine Ev.gr (by rfl) (by rfl) (by assumption) (by rfl) (by assumption) ?_ | refine Ev.gi (by rfl) (by rfl) (by assumption) (by rfl) (by assumption) ?_))
      refine Ev.pi (by rfl) (by rfl) (by assumption) (by rfl) ?_
      ((repeat refine Ev.p rfl rfl ?_); exact Ev.r rfl)
    · exact absurd hx c
  · (repeat (first | refine Ev.p rfl rfl ?_ | refine Ev.gr (by rfl) (by rfl) (by assumption) (by rfl) (by assumption) ?_ | refine Ev.gi (by rfl) (by rfl) (by assumption) (by rfl) (by assumption) ?_))
    refine Ev.cv (by rfl) (by rfl) (by assumption) (by rfl) (by rfl) (by rfl) (by rfl) (by rfl) hp ?_
    (repeat (first | refine Ev.p rfl rfl ?_ | refine Ev.gr (by rfl) (by rfl) (by assumption) (by rfl) (by assumption) ?_ | refine Ev.gi (by rfl) (by rfl) (by assumption) (by rfl) (by assumption) ?_))
    refine Ev.bp rfl (fun c => ?_) (fun c => ?_)
    · exact absurd c hx
    · ((repeat refine Ev.p rfl rfl ?_); exact Ev.r rfl)
theorem c_put (hK : CKs K R p tp) (h : CP I t z p tp a C) (hC : C.length < 100) (x : Nat) {y : Int32} (hy : y = tokC x) : ∃ I', Ev X d kX8_put 0 (ent kX8_put [.ref p, .int y]) [] (K, I, R) (none, (K, I', R)) ∧ CP I' t z p tp a (C ++ [x]) ∧ FK p I I' := by
  have n1 := hK.ne
  obtain ⟨k0, k1, k2, k3, r3, r4, r5, r7, kt'⟩ := hK
  obtain ⟨h1, h2, h3, h4, h5⟩ := h
  obtain ⟨J, hJ⟩ : ∃ J, J = upI I (p + 3) C.length y := ⟨_, rfl⟩
  have j6 : J p 6 = nI C.length := by rw [hJ, upI_ne (by omega)]; exact h3
  have jp : ∀ j, J p j = I p j := fun j => by rw [hJ, upI_ne (by omega)]
  refine ⟨upI J p 6 (nI C.length + 1), ?_, ⟨?_, ?_, ?_, ?_, fun i w hw => ?_⟩, ⟨fun c c1 c2 => ?_, fun j j1 j2 => ?_⟩⟩
  · (repeat (first | refine Ev.p rfl rfl ?_ | refine Ev.gr (by rfl) (by rfl) (by assumption) (by rfl) (by assumption) ?_ | refine Ev.gi (by rfl) (by rfl) (by assumption) (by rfl) (by assumption) ?_))
    refine Ev.alen (by rfl) (by assumption) (by rfl) ?_
    (repeat refine Ev.p rfl rfl ?_)
    refine Ev.bp rfl (fun c => absurd c (nI_ge hC (by omega))) (fun c => ?_)
    (repeat (first | refine Ev.p rfl rfl ?_ | refine Ev.gr (by rfl) (by rfl) (by assumption) (by rfl) (by assumption) ?_ | refine Ev.gi (by rfl) (by rfl) (by assumption) (by rfl) (by assumption) ?_))
    refine Ev.iast (j := C.length) (by rfl) (by assumption) (by rfl) (by omega) (by omega) ?_
    rw [← hJ]
    (repeat (first | refine Ev.p rfl rfl ?_ | refine Ev.gr (by rfl) (by rfl) (by assumption) (by rfl) (by assumption) ?_ | refine Ev.gi (by rfl) (by rfl) (by assumption) (by rfl) (by assumption) ?_))
    refine Ev.pi (by rfl) (by rfl) (by assumption) (by rfl) ?_
    ((repeat refine Ev.p rfl rfl ?_); exact Ev.r rfl)
  · rw [upI_eq, upd_ne (by omega), jp]; exact h1
  · rw [upI_eq, upd_ne (by omega), jp]; exact h2
  · rw [upI_eq, upd_at, nI_1, List.length_append]; rfl
  · intro j hj; rw [upI_ne n1.1, hJ, upI_ne n1.2.1]; exact h4 j hj
  · rw [upI_ne (by omega), hJ, upI_eq]
    rw [List.getElem?_append] at hw
    split at hw
    · rename_i h9
      rw [upd_ne (by omega)]
      exact h5 i w hw
    · rename_i h9
      have hq : i - C.length = 0 := by
        rcases Nat.eq_zero_or_pos (i - C.length) with g | g
        · exact g
        · rw [List.getElem?_eq_none (by simp; omega)] at hw; cases hw
      rw [hq] at hw
      cases hw
      rw [show i = C.length by omega, upd_at, hy]
  · rw [upI_ne c1, hJ, upI_ne c2]
  · rw [upI_eq, upd_ne j1, jp]
theorem c_digitOf (h : Hp) (c : Int32) : Ev X d kX8_digitOf 0 (ent kX8_digitOf [.int c]) [] h (some (.int (if isD c = true then nI (dg c) else -1)), h) := by
  cases hD : isD c with
  | true =>
    have h1 := of_decide_eq_true hD
    obtain ⟨h2, h3⟩ := isD_dg hD
    rw [if_pos rfl, show nI (dg c) = c - 48 from by rw [h3, show (48 : Int32) = nI 48 from rfl, pk_sub (by omega), show dg (nI (dg c + 48)) = dg c from by rw [← h3], show dg c + 48 - 48 = dg c by omega]]
    (repeat refine Ev.p rfl rfl ?_)
    refine Ev.bp rfl (fun c => ?_) (fun c => ?_)
    · exact absurd h1.1 (Int32.not_le.mpr c)
    · (repeat refine Ev.p rfl rfl ?_)
      refine Ev.bp rfl (fun c2 => ?_) (fun c2 => ?_)
      · exact absurd h1.2 (Int32.not_le.mpr c2)
      · ((repeat refine Ev.p rfl rfl ?_); exact Ev.r rfl)
  | false =>
    have h1 : ¬ (48 ≤ c ∧ c ≤ 57) := of_decide_eq_false hD
    rw [if_neg (by decide)]
    (repeat refine Ev.p rfl rfl ?_)
    refine Ev.bp rfl (fun c => ?_) (fun c => ?_)
    · ((repeat refine Ev.p rfl rfl ?_); exact Ev.r rfl)
    · (repeat refine Ev.p rfl rfl ?_)
      refine Ev.bp rfl (fun c2 => ?_) (fun c2 => ?_)
      · ((repeat refine Ev.p rfl rfl ?_); exact Ev.r rfl)
      · exact absurd ⟨Int32.not_lt.mp c, Int32.not_lt.mp c2⟩ h1
/-- behind a number: r as pN gives it -/
def CN (J : Nat → Nat → Int32) (t : Nat → Int32) (z p tp a : Nat) (C : List Nat) (x : Int32) (r : Option (Nat × Nat)) : Prop := match r with
  | none => x = -1 ∧ CP J t z p tp a C
  | some (n, b) => x = nI n ∧ CP J t z p tp b C
theorem c_readNumber (hK : CKs K R p tp) (h : CP I t z p tp a C) (hz : z ≤ 100) (ha : a ≤ z) : ∃ I' x, Ev X (d + 1) kX8_readNumber 0 (ent kX8_readNumber [.ref p]) [] (K, I, R) (some (.int x), (K, I', R)) ∧ CN I' t z p tp a C x (pN t z a) ∧ FK p I I' := by
  have hp := c_peek (X := X) (d := d) hK h hz ha
  have hd := c_digitOf (X := X) (d := d) (K, I, R) (pk t z a)
  have hK2 := hK
  obtain ⟨k0, k1, k2, k3, r3, r4, r5, r7, kt'⟩ := hK2
  have h9 : I p 9 = nI a := h.2.1
  unfold pN
  cases hD : isD (pk t z a) with
  | false =>
    rw [hD, if_neg (by decide)] at hd
    refine ⟨I, -1, ?_, ⟨rfl, h⟩, FK.rf p I⟩
    (repeat (first | refine Ev.p rfl rfl ?_ | refine Ev.gr (by rfl) (by rfl) (by assumption) (by rfl) (by assumption) ?_ | refine Ev.gi (by rfl) (by rfl) (by assumption) (by rfl) (by assumption) ?_))
    refine Ev.cv (by rfl) (by rfl) (by assumption) (by rfl) (by rfl) (by rfl) (by rfl) (by rfl) hp ?_
    refine Ev.c rfl hd ?_
    ((repeat refine Ev.p rfl rfl ?_); exact Ev.r rfl)
  | true =>
    rw [hD, if_pos rfl] at hd
    rw [if_pos rfl]
    have hlt := pk_D hD
    obtain ⟨d1, -⟩ := isD_dg hD
    obtain ⟨u, hu⟩ : ∃ u, u = dg (pk t z a) := ⟨_, rfl⟩
    rw [← hu] at d1 hd ⊢
    obtain ⟨J1, hJ1⟩ : ∃ J, J = upI I p 9 (nI a + 1) := ⟨_, rfl⟩
    have r1 : CP J1 t z p tp (a + 1) C := by rw [hJ1]; exact h.mv hK (nI_1 a)
    have f1 : FK p I J1 := by rw [hJ1]; exact (FK.rf p I).a _
    have j9 : J1 p 9 = nI (a + 1) := r1.2.1
    have hp1 := c_peek (X := X) (d := d) hK r1 hz (by omega)
    have hd1 := c_digitOf (X := X) (d := d) (K, J1, R) (pk t z (a + 1))
    have go : ∀ Z : Option Value × Hp, Ev X (d + 1) kX8_readNumber 24 [some (.ref p), some (.int (nI u)), none] [] (K, J1, R) Z → Ev X (d + 1) kX8_readNumber 0 (ent kX8_readNumber [.ref p]) [] (K, I, R) Z := by
      intro Z g
      (repeat (first | refine Ev.p rfl rfl ?_ | refine Ev.gr (by rfl) (by rfl) (by assumption) (by rfl) (by assumption) ?_ | refine Ev.gi (by rfl) (by rfl) (by assumption) (by rfl) (by assumption) ?_))
      refine Ev.cv (by rfl) (by rfl) (by assumption) (by rfl) (by rfl) (by rfl) (by rfl) (by rfl) hp ?_
      refine Ev.c rfl hd ?_
      (repeat refine Ev.p rfl rfl ?_)
      refine Ev.bp rfl (fun c => ?_) (fun c => absurd (nI_pos' (by omega)) c)
      (repeat (first | refine Ev.p rfl rfl ?_ | refine Ev.gr (by rfl) (by rfl) (by assumption) (by rfl) (by assumption) ?_ | refine Ev.gi (by rfl) (by rfl) (by assumption) (by rfl) (by assumption) ?_))
      refine Ev.pi (by rfl) (by rfl) (by assumption) (by rfl) ?_
      rw [← hJ1]
      (repeat (first | (refine Ev.at (q := 24) rfl ?_; exact g) | refine Ev.p rfl rfl ?_))
    by_cases hu0 : 0 < u
    · by_cases hD2 : isD (pk t z (a + 1)) = true
      · rw [hD2, if_pos rfl] at hd1
        rw [if_pos ⟨hu0, hD2⟩]
        have hlt2 := pk_D hD2
        obtain ⟨d2, -⟩ := isD_dg hD2
        obtain ⟨u2, hu2⟩ : ∃ u, u = dg (pk t z (a + 1)) := ⟨_, rfl⟩
        rw [← hu2] at d2 hd1 ⊢
        refine ⟨upI J1 p 9 (nI (a + 1) + 1), nI (10 * u + u2), go _ ?_, ⟨rfl, r1.mv hK (nI_1 (a + 1))⟩, f1.a _⟩
        rw [← nI_add, ← pk_mul, show nI 10 * nI u = nI u * 10 from Int32.mul_comm _ _]
        (repeat refine Ev.p rfl rfl ?_)
        refine Ev.bp rfl (fun c => ?_) (fun c => ?_)
        · exact absurd c (nI_nle hu0 (by omega))
        · (repeat (first | refine Ev.p rfl rfl ?_ | refine Ev.gr (by rfl) (by rfl) (by assumption) (by rfl) (by assumption) ?_ | refine Ev.gi (by rfl) (by rfl) (by assumption) (by rfl) (by assumption) ?_))
          refine Ev.cv (by rfl) (by rfl) (by assumption) (by rfl) (by rfl) (by rfl) (by rfl) (by rfl) hp1 ?_
          refine Ev.c rfl hd1 ?_
          (repeat refine Ev.p rfl rfl ?_)
          refine Ev.bp rfl (fun c => ?_) (fun c => absurd (nI_pos' (by omega)) c)
          (repeat (first | refine Ev.p rfl rfl ?_ | refine Ev.gr (by rfl) (by rfl) (by assumption) (by rfl) (by assumption) ?_ | refine Ev.gi (by rfl) (by rfl) (by assumption) (by rfl) (by assumption) ?_))
          refine Ev.pi (by rfl) (by rfl) (by assumption) (by rfl) ?_
          ((repeat refine Ev.p rfl rfl ?_); exact Ev.r rfl)
      · rw [if_neg (fun g => hD2 g.2)]
        rw [if_neg hD2] at hd1
        refine ⟨J1, nI u, go _ ?_, ⟨rfl, r1⟩, f1⟩
        (repeat refine Ev.p rfl rfl ?_)
        refine Ev.bp rfl (fun c => ?_) (fun c => ?_)
        · exact absurd c (nI_nle hu0 (by omega))
        · (repeat (first | refine Ev.p rfl rfl ?_ | refine Ev.gr (by rfl) (by rfl) (by assumption) (by rfl) (by assumption) ?_ | refine Ev.gi (by rfl) (by rfl) (by assumption) (by rfl) (by assumption) ?_))
          refine Ev.cv (by rfl) (by rfl) (by assumption) (by rfl) (by rfl) (by rfl) (by rfl) (by rfl) hp1 ?_
          refine Ev.c rfl hd1 ?_
          ((repeat refine Ev.p rfl rfl ?_); exact Ev.r rfl)
    · rw [if_neg (fun g => hu0 g.1)]
      have hz0 : u = 0 := by omega
      refine ⟨J1, nI u, go _ ?_, ⟨rfl, r1⟩, f1⟩
      rw [hz0]
      ((repeat refine Ev.p rfl rfl ?_); exact Ev.r rfl)
end CREAD
section IDX
variable {X : Nat × (Nat → Int32)} {d : Nat}
theorem i8_c : ∀ c, c < 128 → (nI c).toInt8.toInt32 = nI c := by decide +kernel
theorem i16_c : ∀ c, c < 128 → ((nI c).toUInt32 % 65536).toInt32 = nI c := by decide +kernel
def ix : Option Nat → Int32
  | none => -1
  | some w => nI w
theorem j_indexOfChar (h : Hp) {i : Nat} (hi : i = 5 ∨ i = 6) {c : Nat} (hc : c < 128) : Ev X d kJ1_indexOfChar_4cfef 0 (ent kJ1_indexOfChar_4cfef [.retAddr (13 + i), .int (nI c), .int 0, .int (nI (txt i).length)]) [] h (some (.int (ix (idx (txt i) (nI c) (txt i).length 0))), h) := by
  have hlen : (txt i).length < 100 := by rcases hi with rfl | rfl <;> decide
  have lp : ∀ m q, q + m = (txt i).length → Ev X d kJ1_indexOfChar_4cfef 7 [some (.retAddr (13 + i)), some (.int (nI c)), some (.int 0), some (.int (nI (txt i).length)), some (.int (nI c)), some (.int (nI q))] [] h (some (.int (ix (idx (txt i) (nI c) m q))), h) := by
    intro m
    induction m with
    | zero =>
      intro q hq
      have e : q = (txt i).length := by omega
      subst e
      (repeat refine Ev.p rfl rfl ?_)
      refine Ev.bp rfl (fun c => ?_) (fun c => ?_)
      · ((repeat refine Ev.p rfl rfl ?_); exact Ev.r rfl)
      · exact absurd (Int32.le_refl _) c
    | succ m ih =>
      intro q hq
      have g := ih (q + 1) (by omega)
      rw [nI_succ] at g
      simp only [idx]
      (repeat refine Ev.p rfl rfl ?_)
      refine Ev.bp rfl (fun c9 => absurd c9 (nI_ge (by omega) (by omega))) (fun c9 => ?_)
      (repeat refine Ev.p rfl rfl ?_)
      refine Ev.balr (q := 13 + i) (j := q) rfl (by omega) rfl (by rw [show 13 + i - 13 = i by omega]; omega) ?_
      rw [show 13 + i - 13 = i by omega]
      (repeat refine Ev.p rfl rfl ?_)
      refine Ev.bp rfl (fun c2 => ?_) (fun c2 => ?_)
      · rw [if_neg (fun g9 => c2 g9.symm)]
        (repeat (first | (refine Ev.at (q := 7) rfl ?_; exact g) | refine Ev.p rfl rfl ?_))
      · rw [if_pos (Decidable.not_not.mp c2).symm]
        ((repeat refine Ev.p rfl rfl ?_); exact Ev.r rfl)
  have g := lp (txt i).length 0 (by omega)
  rw [← i8_c c hc] at g
  rw [← i8_c c hc]
  iterate 2 refine Ev.p rfl rfl ?_
  rw [i8_c c hc] at g ⊢
  rw [i8_c c hc]
  (repeat (first | (refine Ev.at (q := 7) rfl ?_; exact g) | refine Ev.p rfl rfl ?_))
theorem j_indexOf (h : Hp) {i : Nat} (hi : i = 5 ∨ i = 6) {c : Nat} (hc : c < 128) : Ev X (d + 3) kJ0_indexOf_0f7a4 0 (ent kJ0_indexOf_0f7a4 [.retAddr i, .int (nI c)]) [] h (some (.int (ix (idx (txt i) (nI c) (txt i).length 0))), h) := by
  have h1 := j_indexOfChar (X := X) (d := d) h hi hc
  have h2 := j_length (X := X) (d := d) (i := i) (by omega) h
  have h3 := j_isLatin1 (X := X) (d := d + 1) (i := i) (by omega) h
  have hce : Ev X d kJ1_canEncode_9a6ad 0 (ent kJ1_canEncode_9a6ad [.int (nI c)]) [] h (some (.int 1), h) := by
    (repeat refine Ev.p rfl rfl ?_)
    refine Ev.bp rfl (fun c9 => absurd c9 (nI_pos (by omega))) (fun c9 => ?_)
    (repeat refine Ev.p rfl rfl ?_)
    refine Ev.bp rfl (fun c9 => absurd c9 (nI_nlt (a := 255) (by omega) (by omega))) (fun c9 => ?_)
    ((repeat refine Ev.p rfl rfl ?_); exact Ev.r rfl)
  have hmx := j_max (X := X) (d := d) h 0 0
  rw [if_pos (by decide)] at hmx
  have hmn := j_min (X := X) (d := d) h (nI (txt i).length) (nI (txt i).length)
  rw [if_pos (Int32.le_refl _)] at hmn
  have h4 : Ev X (d + 1) kJ1_indexOf_4cfef 0 (ent kJ1_indexOf_4cfef [.retAddr (13 + i), .int (nI c), .int 0, .int (nI (txt i).length)]) [] h (some (.int (ix (idx (txt i) (nI c) (txt i).length 0))), h) := by
    rcases hi with rfl | rfl
    all_goals
      (repeat refine Ev.p rfl rfl ?_)
      refine Ev.c rfl hce ?_
      (repeat refine Ev.p rfl rfl ?_)
      refine Ev.c rfl hmx ?_
      (repeat refine Ev.p rfl rfl ?_)
      refine Ev.c rfl hmn ?_
      (repeat refine Ev.p rfl rfl ?_)
      refine Ev.c rfl h1 ?_
      ((repeat refine Ev.p rfl rfl ?_); exact Ev.r rfl)
  have h5 : Ev X (d + 2) kJ0_indexOf_7cf53 0 (ent kJ0_indexOf_7cf53 [.retAddr i, .int (nI c), .int 0]) [] h (some (.int (ix (idx (txt i) (nI c) (txt i).length 0))), h) := by
    rcases hi with rfl | rfl
    all_goals
      (repeat refine Ev.p rfl rfl ?_)
      refine Ev.c rfl h3 ?_
      (repeat refine Ev.p rfl rfl ?_)
      refine Ev.c rfl h2 ?_
      refine Ev.c rfl h4 ?_
      ((repeat refine Ev.p rfl rfl ?_); exact Ev.r rfl)
  rcases hi with rfl | rfl
  all_goals
    (repeat refine Ev.p rfl rfl ?_)
    refine Ev.c rfl h5 ?_
    ((repeat refine Ev.p rfl rfl ?_); exact Ev.r rfl)
end IDX
