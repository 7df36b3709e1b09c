/-! THE CONSTRUCTORS -/
section CTOR
variable {X : Nat × (Nat → Int32)} {d k pc np p q n t a b c m L : Nat} {v y : Int32} {ls : List (Option Value)} {r : List Value} {K : List (Nat × Nat)} {I : Nat → Nat → Int32} {R : Nat → Nat → Option Nat} {Z : Option Value × Hp}
theorem zrI_at {j : Nat} : zrI I p p j = 0 := by
  unfold zrI
  rw [if_pos rfl]
theorem zrR_at {j : Nat} : zrR R p p j = none := by
  unfold zrR
  rw [if_pos rfl]
theorem Ev.naa {x : Nat} (hl : look k pc = some (.anewarray x, np, a, b, c, v)) (ho : oob y 1000 = false) (hm : y.toNatClampNeg = m) (hL : K.length = L) (e : Ev X d k np ls (.ref L :: r) (K ++ [(c, m)], zrI I L, zrR R L) Z) : Ev X d k pc ls (.int y :: r) (K, I, R) Z := by
  subst hL hm
  refine Ev.s (pc' := np) (ls' := ls) (st' := .ref K.length :: r) (h' := (K ++ [(c, y.toNatClampNeg)], zrI I K.length, zrR R K.length)) ?_ e
  unfold stq
  rw [hl]
  show stp X _ ls _ (K, I, R) = _
  dsimp only [stp]
  rw [ho]
  rfl
/-- a Hand, at the end of the heap -/
theorem c_init3 (hk : K[p]? = some (3, 12)) (hL : K.length = p + 1) : ∃ J Q, Ev X d kX3_init 0 (ent kX3_init [.ref p]) [] (K, I, R) (none, (K ++ [(21, 100), (20, 5), (20, 5), (20, 8), (20, 8), (20, 8), (20, 8)], J, Q)) ∧ (∀ c, c < p → J c = I c ∧ Q c = R c) ∧ Q p 0 = some (p + 1) ∧ Q p 2 = some (p + 2) ∧ Q p 3 = some (p + 3) ∧ Q p 6 = some (p + 4) ∧ Q p 7 = some (p + 5) ∧ Q p 9 = some (p + 6) ∧ Q p 10 = some (p + 7) ∧ J p 1 = 0 ∧ J p 4 = 0 ∧ J p 5 = 0 ∧ J p 8 = 0 ∧ J p 11 = 0 ∧ (∀ j, J (p + 1) j = 0) ∧ (∀ j, J (p + 2) j = 0) ∧ (∀ j, J (p + 3) j = 0) ∧ (∀ j, J (p + 4) j = 0) ∧ (∀ j, J (p + 5) j = 0) ∧ (∀ j, J (p + 6) j = 0) ∧ (∀ j, J (p + 7) j = 0) := by
  have lK := hL
  have pK := hk
  obtain ⟨K1, hK1⟩ : ∃ K1, K1 = K ++ [(21, 100)] := ⟨_, rfl⟩
  have lK1 : K1.length = p + 2 := by rw [hK1, List.length_append, lK]; rfl
  have pK1 : K1[p]? = some (3, 12) := by rw [hK1]; exact KM.app _ _ _ _ pK
  obtain ⟨J2, hJ2⟩ : ∃ J2, J2 = zrI I (p + 1) := ⟨_, rfl⟩
  obtain ⟨Q3, hQ3⟩ : ∃ Q3, Q3 = upR (zrR R (p + 1)) p 0 (some (p + 1)) := ⟨_, rfl⟩
  obtain ⟨J4, hJ4⟩ : ∃ J4, J4 = upI J2 p 1 (0) := ⟨_, rfl⟩
  obtain ⟨K5, hK5⟩ : ∃ K5, K5 = K1 ++ [(20, 5)] := ⟨_, rfl⟩
  have lK5 : K5.length = p + 3 := by rw [hK5, List.length_append, lK1]; rfl
  have pK5 : K5[p]? = some (3, 12) := by rw [hK5]; exact KM.app _ _ _ _ pK1
  obtain ⟨J6, hJ6⟩ : ∃ J6, J6 = zrI J4 (p + 2) := ⟨_, rfl⟩
  obtain ⟨Q7, hQ7⟩ : ∃ Q7, Q7 = upR (zrR Q3 (p + 2)) p 2 (some (p + 2)) := ⟨_, rfl⟩
  obtain ⟨K8, hK8⟩ : ∃ K8, K8 = K5 ++ [(20, 5)] := ⟨_, rfl⟩
  have lK8 : K8.length = p + 4 := by rw [hK8, List.length_append, lK5]; rfl
  have pK8 : K8[p]? = some (3, 12) := by rw [hK8]; exact KM.app _ _ _ _ pK5
  obtain ⟨J9, hJ9⟩ : ∃ J9, J9 = zrI J6 (p + 3) := ⟨_, rfl⟩
  obtain ⟨Q10, hQ10⟩ : ∃ Q10, Q10 = upR (zrR Q7 (p + 3)) p 3 (some (p + 3)) := ⟨_, rfl⟩
  obtain ⟨J11, hJ11⟩ : ∃ J11, J11 = upI J9 p 4 (0) := ⟨_, rfl⟩
  obtain ⟨J12, hJ12⟩ : ∃ J12, J12 = upI J11 p 5 (0) := ⟨_, rfl⟩
  obtain ⟨K13, hK13⟩ : ∃ K13, K13 = K8 ++ [(20, 8)] := ⟨_, rfl⟩
  have lK13 : K13.length = p + 5 := by rw [hK13, List.length_append, lK8]; rfl
  have pK13 : K13[p]? = some (3, 12) := by rw [hK13]; exact KM.app _ _ _ _ pK8
  obtain ⟨J14, hJ14⟩ : ∃ J14, J14 = zrI J12 (p + 4) := ⟨_, rfl⟩
  obtain ⟨Q15, hQ15⟩ : ∃ Q15, Q15 = upR (zrR Q10 (p + 4)) p 6 (some (p + 4)) := ⟨_, rfl⟩
  obtain ⟨K16, hK16⟩ : ∃ K16, K16 = K13 ++ [(20, 8)] := ⟨_, rfl⟩
  have lK16 : K16.length = p + 6 := by rw [hK16, List.length_append, lK13]; rfl
  have pK16 : K16[p]? = some (3, 12) := by rw [hK16]; exact KM.app _ _ _ _ pK13
  obtain ⟨J17, hJ17⟩ : ∃ J17, J17 = zrI J14 (p + 5) := ⟨_, rfl⟩
  obtain ⟨Q18, hQ18⟩ : ∃ Q18, Q18 = upR (zrR Q15 (p + 5)) p 7 (some (p + 5)) := ⟨_, rfl⟩
  obtain ⟨J19, hJ19⟩ : ∃ J19, J19 = upI J17 p 8 (0) := ⟨_, rfl⟩
  obtain ⟨K20, hK20⟩ : ∃ K20, K20 = K16 ++ [(20, 8)] := ⟨_, rfl⟩
  have lK20 : K20.length = p + 7 := by rw [hK20, List.length_append, lK16]; rfl
  have pK20 : K20[p]? = some (3, 12) := by rw [hK20]; exact KM.app _ _ _ _ pK16
  obtain ⟨J21, hJ21⟩ : ∃ J21, J21 = zrI J19 (p + 6) := ⟨_, rfl⟩
  obtain ⟨Q22, hQ22⟩ : ∃ Q22, Q22 = upR (zrR Q18 (p + 6)) p 9 (some (p + 6)) := ⟨_, rfl⟩
  obtain ⟨K23, hK23⟩ : ∃ K23, K23 = K20 ++ [(20, 8)] := ⟨_, rfl⟩
  have lK23 : K23.length = p + 8 := by rw [hK23, List.length_append, lK20]; rfl
  have pK23 : K23[p]? = some (3, 12) := by rw [hK23]; exact KM.app _ _ _ _ pK20
  obtain ⟨J24, hJ24⟩ : ∃ J24, J24 = zrI J21 (p + 7) := ⟨_, rfl⟩
  obtain ⟨Q25, hQ25⟩ : ∃ Q25, Q25 = upR (zrR Q22 (p + 7)) p 10 (some (p + 7)) := ⟨_, rfl⟩
  obtain ⟨J26, hJ26⟩ : ∃ J26, J26 = upI J24 p 11 (0) := ⟨_, rfl⟩
  have eK : K23 = K ++ [(21, 100), (20, 5), (20, 5), (20, 8), (20, 8), (20, 8), (20, 8)] := by
    rw [hK23, hK20, hK16, hK13, hK8, hK5, hK1]
    simp only [List.append_assoc]
    rfl
  rw [← eK]
  refine ⟨J26, Q25, ?_, fun c hc => ⟨?_, ?_⟩, ?_, ?_, ?_, ?_, ?_, ?_, ?_, ?_, ?_, ?_, ?_, ?_, fun j => ?_, fun j => ?_, fun j => ?_, fun j => ?_, fun j => ?_, fun j => ?_, fun j => ?_⟩
  · iterate 2 refine Ev.p rfl rfl ?_
    iterate 2 refine Ev.p rfl rfl ?_
    refine Ev.na (m := 100) (by rfl) (by rfl) (by rfl) lK ?_
    rw [← hK1, ← hJ2]
    refine Ev.pr (by rfl) (by rfl) pK1 (by rfl) ?_
    rw [← hQ3]
    iterate 2 refine Ev.p rfl rfl ?_
    refine Ev.pi (by rfl) (by rfl) pK1 (by rfl) ?_
    rw [← hJ4]
    iterate 2 refine Ev.p rfl rfl ?_
    refine Ev.na (m := 5) (by rfl) (by rfl) (by rfl) lK1 ?_
    rw [← hK5, ← hJ6]
    refine Ev.pr (by rfl) (by rfl) pK5 (by rfl) ?_
    rw [← hQ7]
    iterate 2 refine Ev.p rfl rfl ?_
    refine Ev.na (m := 5) (by rfl) (by rfl) (by rfl) lK5 ?_
    rw [← hK8, ← hJ9]
    refine Ev.pr (by rfl) (by rfl) pK8 (by rfl) ?_
    rw [← hQ10]
    iterate 2 refine Ev.p rfl rfl ?_
    refine Ev.pi (by rfl) (by rfl) pK8 (by rfl) ?_
    rw [← hJ11]
    iterate 2 refine Ev.p rfl rfl ?_
    refine Ev.pi (by rfl) (by rfl) pK8 (by rfl) ?_
    rw [← hJ12]
    iterate 2 refine Ev.p rfl rfl ?_
    refine Ev.na (m := 8) (by rfl) (by rfl) (by rfl) lK8 ?_
    rw [← hK13, ← hJ14]
    refine Ev.pr (by rfl) (by rfl) pK13 (by rfl) ?_
    rw [← hQ15]
    iterate 2 refine Ev.p rfl rfl ?_
    refine Ev.na (m := 8) (by rfl) (by rfl) (by rfl) lK13 ?_
    rw [← hK16, ← hJ17]
    refine Ev.pr (by rfl) (by rfl) pK16 (by rfl) ?_
    rw [← hQ18]
    iterate 2 refine Ev.p rfl rfl ?_
    refine Ev.pi (by rfl) (by rfl) pK16 (by rfl) ?_
    rw [← hJ19]
    iterate 2 refine Ev.p rfl rfl ?_
    refine Ev.na (m := 8) (by rfl) (by rfl) (by rfl) lK16 ?_
    rw [← hK20, ← hJ21]
    refine Ev.pr (by rfl) (by rfl) pK20 (by rfl) ?_
    rw [← hQ22]
    iterate 2 refine Ev.p rfl rfl ?_
    refine Ev.na (m := 8) (by rfl) (by rfl) (by rfl) lK20 ?_
    rw [← hK23, ← hJ24]
    refine Ev.pr (by rfl) (by rfl) pK23 (by rfl) ?_
    rw [← hQ25]
    iterate 2 refine Ev.p rfl rfl ?_
    refine Ev.pi (by rfl) (by rfl) pK23 (by rfl) ?_
    rw [← hJ26]
    ((repeat refine Ev.p rfl rfl ?_); exact Ev.r rfl)
  · rw [hJ26, upI_ne (by omega), hJ24, zrI_ne (by omega), hJ21, zrI_ne (by omega), hJ19, upI_ne (by omega), hJ17, zrI_ne (by omega), hJ14, zrI_ne (by omega), hJ12, upI_ne (by omega), hJ11, upI_ne (by omega), hJ9, zrI_ne (by omega), hJ6, zrI_ne (by omega), hJ4, upI_ne (by omega), hJ2, zrI_ne (by omega)]
  · rw [hQ25, upR_ne (by omega), zrR_ne (by omega), hQ22, upR_ne (by omega), zrR_ne (by omega), hQ18, upR_ne (by omega), zrR_ne (by omega), hQ15, upR_ne (by omega), zrR_ne (by omega), hQ10, upR_ne (by omega), zrR_ne (by omega), hQ7, upR_ne (by omega), zrR_ne (by omega), hQ3, upR_ne (by omega), zrR_ne (by omega)]
  · rw [hQ25, upR_nj (by omega), zrR_ne (by omega), hQ22, upR_nj (by omega), zrR_ne (by omega), hQ18, upR_nj (by omega), zrR_ne (by omega), hQ15, upR_nj (by omega), zrR_ne (by omega), hQ10, upR_nj (by omega), zrR_ne (by omega), hQ7, upR_nj (by omega), zrR_ne (by omega), hQ3, upR_at]
  · rw [hQ25, upR_nj (by omega), zrR_ne (by omega), hQ22, upR_nj (by omega), zrR_ne (by omega), hQ18, upR_nj (by omega), zrR_ne (by omega), hQ15, upR_nj (by omega), zrR_ne (by omega), hQ10, upR_nj (by omega), zrR_ne (by omega), hQ7, upR_at]
  · rw [hQ25, upR_nj (by omega), zrR_ne (by omega), hQ22, upR_nj (by omega), zrR_ne (by omega), hQ18, upR_nj (by omega), zrR_ne (by omega), hQ15, upR_nj (by omega), zrR_ne (by omega), hQ10, upR_at]
  · rw [hQ25, upR_nj (by omega), zrR_ne (by omega), hQ22, upR_nj (by omega), zrR_ne (by omega), hQ18, upR_nj (by omega), zrR_ne (by omega), hQ15, upR_at]
  · rw [hQ25, upR_nj (by omega), zrR_ne (by omega), hQ22, upR_nj (by omega), zrR_ne (by omega), hQ18, upR_at]
  · rw [hQ25, upR_nj (by omega), zrR_ne (by omega), hQ22, upR_at]
  · rw [hQ25, upR_at]
  · rw [hJ26, upI_eq, upd_ne (by omega), hJ24, zrI_ne (by omega), hJ21, zrI_ne (by omega), hJ19, upI_eq, upd_ne (by omega), hJ17, zrI_ne (by omega), hJ14, zrI_ne (by omega), hJ12, upI_eq, upd_ne (by omega), hJ11, upI_eq, upd_ne (by omega), hJ9, zrI_ne (by omega), hJ6, zrI_ne (by omega), hJ4, upI_eq, upd_at]
  · rw [hJ26, upI_eq, upd_ne (by omega), hJ24, zrI_ne (by omega), hJ21, zrI_ne (by omega), hJ19, upI_eq, upd_ne (by omega), hJ17, zrI_ne (by omega), hJ14, zrI_ne (by omega), hJ12, upI_eq, upd_ne (by omega), hJ11, upI_eq, upd_at]
  · rw [hJ26, upI_eq, upd_ne (by omega), hJ24, zrI_ne (by omega), hJ21, zrI_ne (by omega), hJ19, upI_eq, upd_ne (by omega), hJ17, zrI_ne (by omega), hJ14, zrI_ne (by omega), hJ12, upI_eq, upd_at]
  · rw [hJ26, upI_eq, upd_ne (by omega), hJ24, zrI_ne (by omega), hJ21, zrI_ne (by omega), hJ19, upI_eq, upd_at]
  · rw [hJ26, upI_eq, upd_at]
  · rw [hJ26, upI_ne (by omega), hJ24, zrI_ne (by omega), hJ21, zrI_ne (by omega), hJ19, upI_ne (by omega), hJ17, zrI_ne (by omega), hJ14, zrI_ne (by omega), hJ12, upI_ne (by omega), hJ11, upI_ne (by omega), hJ9, zrI_ne (by omega), hJ6, zrI_ne (by omega), hJ4, upI_ne (by omega), hJ2, zrI_at]
  · rw [hJ26, upI_ne (by omega), hJ24, zrI_ne (by omega), hJ21, zrI_ne (by omega), hJ19, upI_ne (by omega), hJ17, zrI_ne (by omega), hJ14, zrI_ne (by omega), hJ12, upI_ne (by omega), hJ11, upI_ne (by omega), hJ9, zrI_ne (by omega), hJ6, zrI_at]
  · rw [hJ26, upI_ne (by omega), hJ24, zrI_ne (by omega), hJ21, zrI_ne (by omega), hJ19, upI_ne (by omega), hJ17, zrI_ne (by omega), hJ14, zrI_ne (by omega), hJ12, upI_ne (by omega), hJ11, upI_ne (by omega), hJ9, zrI_at]
  · rw [hJ26, upI_ne (by omega), hJ24, zrI_ne (by omega), hJ21, zrI_ne (by omega), hJ19, upI_ne (by omega), hJ17, zrI_ne (by omega), hJ14, zrI_at]
  · rw [hJ26, upI_ne (by omega), hJ24, zrI_ne (by omega), hJ21, zrI_ne (by omega), hJ19, upI_ne (by omega), hJ17, zrI_at]
  · rw [hJ26, upI_ne (by omega), hJ24, zrI_ne (by omega), hJ21, zrI_at]
  · rw [hJ26, upI_ne (by omega), hJ24, zrI_at]
/-- a Station, at the end of the heap -/
theorem c_init8e (hk : K[p]? = some (8, 10)) (hL : K.length = p + 1) : ∃ J Q, Ev X d kX8_init 0 (ent kX8_init [.ref p]) [] (K, I, R) (none, (K ++ [(20, 10), (20, 10), (20, 100), (21, 0)], J, Q)) ∧ (∀ c, c < p → J c = I c ∧ Q c = R c) ∧ Q p 3 = some (p + 1) ∧ Q p 4 = some (p + 2) ∧ Q p 5 = some (p + 3) ∧ J p 0 = 20 ∧ J p 1 = 1 ∧ J p 2 = 0 := by
  obtain ⟨J, Q, e1, e2, e3, e4, e5, e6, e7⟩ := c_init8 (X := X) (d := d) (I := I) (R := R) hk hL
  exact ⟨J, Q, e1, fun c hc => ⟨e5 c (by omega) (by omega), e6 c (by omega) (by omega)⟩, e2, e3, e4, e7⟩
/-- a Veranda, at the end of the heap -/
theorem c_init10 (hk : K[p]? = some (10, 16)) (hL : K.length = p + 1) : ∃ J Q, Ev X (d + 1) kX10_init 0 (ent kX10_init [.ref p]) [] (K, I, R) (none, (K ++ [(23, 6), (20, 6), (20, 6), (20, 6), (20, 6), (20, 6), (20, 24), (20, 6), (8, 10), (20, 10), (20, 10), (20, 100), (21, 0)], J, Q)) ∧ (∀ c, c < p → J c = I c ∧ Q c = R c) ∧ Q p 0 = some (p + 1) ∧ Q p 1 = some (p + 2) ∧ Q p 2 = some (p + 3) ∧ Q p 3 = some (p + 4) ∧ Q p 4 = some (p + 5) ∧ Q p 5 = some (p + 6) ∧ Q p 6 = some (p + 7) ∧ Q p 7 = some (p + 8) ∧ Q p 14 = some (p + 9) ∧ Q (p + 9) 3 = some (p + 10) ∧ Q (p + 9) 4 = some (p + 11) ∧ Q (p + 9) 5 = some (p + 12) ∧ J p 8 = 0 ∧ J p 9 = 0 ∧ J p 10 = 0 ∧ J p 11 = 0 ∧ J p 12 = 0 ∧ J p 15 = 0 ∧ J p 13 = 20 ∧ (∀ j, J (p + 5) j = 0) ∧ (∀ j, J (p + 6) j = 0) ∧ (∀ j, J (p + 7) j = 0) ∧ (∀ j, J (p + 4) j = 0) ∧ J (p + 9) 0 = 20 ∧ J (p + 9) 1 = 1 ∧ J (p + 9) 2 = 0 ∧ (∀ j, Q (p + 1) j = none) := by
  have lK := hL
  have pK := hk
  obtain ⟨K1, hK1⟩ : ∃ K1, K1 = K ++ [(23, 6)] := ⟨_, rfl⟩
  have lK1 : K1.length = p + 2 := by rw [hK1, List.length_append, lK]; rfl
  have pK1 : K1[p]? = some (10, 16) := by rw [hK1]; exact KM.app _ _ _ _ pK
  obtain ⟨J2, hJ2⟩ : ∃ J2, J2 = zrI I (p + 1) := ⟨_, rfl⟩
  obtain ⟨Q3, hQ3⟩ : ∃ Q3, Q3 = upR (zrR R (p + 1)) p 0 (some (p + 1)) := ⟨_, rfl⟩
  obtain ⟨K4, hK4⟩ : ∃ K4, K4 = K1 ++ [(20, 6)] := ⟨_, rfl⟩
  have lK4 : K4.length = p + 3 := by rw [hK4, List.length_append, lK1]; rfl
  have pK4 : K4[p]? = some (10, 16) := by rw [hK4]; exact KM.app _ _ _ _ pK1
  obtain ⟨J5, hJ5⟩ : ∃ J5, J5 = zrI J2 (p + 2) := ⟨_, rfl⟩
  obtain ⟨Q6, hQ6⟩ : ∃ Q6, Q6 = upR (zrR Q3 (p + 2)) p 1 (some (p + 2)) := ⟨_, rfl⟩
  obtain ⟨K7, hK7⟩ : ∃ K7, K7 = K4 ++ [(20, 6)] := ⟨_, rfl⟩
  have lK7 : K7.length = p + 4 := by rw [hK7, List.length_append, lK4]; rfl
  have pK7 : K7[p]? = some (10, 16) := by rw [hK7]; exact KM.app _ _ _ _ pK4
  obtain ⟨J8, hJ8⟩ : ∃ J8, J8 = zrI J5 (p + 3) := ⟨_, rfl⟩
  obtain ⟨Q9, hQ9⟩ : ∃ Q9, Q9 = upR (zrR Q6 (p + 3)) p 2 (some (p + 3)) := ⟨_, rfl⟩
  obtain ⟨K10, hK10⟩ : ∃ K10, K10 = K7 ++ [(20, 6)] := ⟨_, rfl⟩
  have lK10 : K10.length = p + 5 := by rw [hK10, List.length_append, lK7]; rfl
  have pK10 : K10[p]? = some (10, 16) := by rw [hK10]; exact KM.app _ _ _ _ pK7
  obtain ⟨J11, hJ11⟩ : ∃ J11, J11 = zrI J8 (p + 4) := ⟨_, rfl⟩
  obtain ⟨Q12, hQ12⟩ : ∃ Q12, Q12 = upR (zrR Q9 (p + 4)) p 3 (some (p + 4)) := ⟨_, rfl⟩
  obtain ⟨K13, hK13⟩ : ∃ K13, K13 = K10 ++ [(20, 6)] := ⟨_, rfl⟩
  have lK13 : K13.length = p + 6 := by rw [hK13, List.length_append, lK10]; rfl
  have pK13 : K13[p]? = some (10, 16) := by rw [hK13]; exact KM.app _ _ _ _ pK10
  obtain ⟨J14, hJ14⟩ : ∃ J14, J14 = zrI J11 (p + 5) := ⟨_, rfl⟩
  obtain ⟨Q15, hQ15⟩ : ∃ Q15, Q15 = upR (zrR Q12 (p + 5)) p 4 (some (p + 5)) := ⟨_, rfl⟩
  obtain ⟨K16, hK16⟩ : ∃ K16, K16 = K13 ++ [(20, 6)] := ⟨_, rfl⟩
  have lK16 : K16.length = p + 7 := by rw [hK16, List.length_append, lK13]; rfl
  have pK16 : K16[p]? = some (10, 16) := by rw [hK16]; exact KM.app _ _ _ _ pK13
  obtain ⟨J17, hJ17⟩ : ∃ J17, J17 = zrI J14 (p + 6) := ⟨_, rfl⟩
  obtain ⟨Q18, hQ18⟩ : ∃ Q18, Q18 = upR (zrR Q15 (p + 6)) p 5 (some (p + 6)) := ⟨_, rfl⟩
  obtain ⟨K19, hK19⟩ : ∃ K19, K19 = K16 ++ [(20, 24)] := ⟨_, rfl⟩
  have lK19 : K19.length = p + 8 := by rw [hK19, List.length_append, lK16]; rfl
  have pK19 : K19[p]? = some (10, 16) := by rw [hK19]; exact KM.app _ _ _ _ pK16
  obtain ⟨J20, hJ20⟩ : ∃ J20, J20 = zrI J17 (p + 7) := ⟨_, rfl⟩
  obtain ⟨Q21, hQ21⟩ : ∃ Q21, Q21 = upR (zrR Q18 (p + 7)) p 6 (some (p + 7)) := ⟨_, rfl⟩
  obtain ⟨K22, hK22⟩ : ∃ K22, K22 = K19 ++ [(20, 6)] := ⟨_, rfl⟩
  have lK22 : K22.length = p + 9 := by rw [hK22, List.length_append, lK19]; rfl
  have pK22 : K22[p]? = some (10, 16) := by rw [hK22]; exact KM.app _ _ _ _ pK19
  obtain ⟨J23, hJ23⟩ : ∃ J23, J23 = zrI J20 (p + 8) := ⟨_, rfl⟩
  obtain ⟨Q24, hQ24⟩ : ∃ Q24, Q24 = upR (zrR Q21 (p + 8)) p 7 (some (p + 8)) := ⟨_, rfl⟩
  obtain ⟨J25, hJ25⟩ : ∃ J25, J25 = upI J23 p 8 (0) := ⟨_, rfl⟩
  obtain ⟨J26, hJ26⟩ : ∃ J26, J26 = upI J25 p 9 (0) := ⟨_, rfl⟩
  obtain ⟨J27, hJ27⟩ : ∃ J27, J27 = upI J26 p 10 (0) := ⟨_, rfl⟩
  obtain ⟨J28, hJ28⟩ : ∃ J28, J28 = upI J27 p 11 (0) := ⟨_, rfl⟩
  obtain ⟨J29, hJ29⟩ : ∃ J29, J29 = upI J28 p 12 (0) := ⟨_, rfl⟩
  obtain ⟨J30, hJ30⟩ : ∃ J30, J30 = upI J29 p 13 (20) := ⟨_, rfl⟩
  obtain ⟨K31, hK31⟩ : ∃ K31, K31 = K22 ++ [(8, 10)] := ⟨_, rfl⟩
  have lK31 : K31.length = p + 10 := by rw [hK31, List.length_append, lK22]; rfl
  have pK31 : K31[p]? = some (10, 16) := by rw [hK31]; exact KM.app _ _ _ _ pK22
  have u32 : K31[p + 9]? = some (8, 10) := by
    rw [hK31, List.getElem?_append_right (by omega), lK22]
    exact congrArg (fun i => [((8 : Nat), (10 : Nat))][i]?) (Nat.sub_self (p + 9))
  obtain ⟨J33, Q33, ef33, f33⟩ := c_init8e (X := X) (d := d) (K := K31) (I := zrI J30 (p + 9)) (R := zrR Q24 (p + 9)) u32 lK31
  obtain ⟨K34, hK34⟩ : ∃ K34, K34 = K31 ++ [(20, 10), (20, 10), (20, 100), (21, 0)] := ⟨_, rfl⟩
  have lK34 : K34.length = p + 14 := by rw [hK34, List.length_append, lK31]; rfl
  have pK34 : K34[p]? = some (10, 16) := by rw [hK34]; exact KM.app _ _ _ _ pK31
  rw [← hK34] at ef33
  obtain ⟨Q35, hQ35⟩ : ∃ Q35, Q35 = upR Q33 p 14 (some (p + 9)) := ⟨_, rfl⟩
  obtain ⟨J36, hJ36⟩ : ∃ J36, J36 = upI J33 p 15 (0) := ⟨_, rfl⟩
  have eK : K34 = K ++ [(23, 6), (20, 6), (20, 6), (20, 6), (20, 6), (20, 6), (20, 24), (20, 6), (8, 10), (20, 10), (20, 10), (20, 100), (21, 0)] := by
    rw [hK34, hK31, hK22, hK19, hK16, hK13, hK10, hK7, hK4, hK1]
    simp only [List.append_assoc]
    rfl
  rw [← eK]
  refine ⟨J36, Q35, ?_, fun c hc => ⟨?_, ?_⟩, ?_, ?_, ?_, ?_, ?_, ?_, ?_, ?_, ?_, ?_, ?_, ?_, ?_, ?_, ?_, ?_, ?_, ?_, ?_, fun j => ?_, fun j => ?_, fun j => ?_, fun j => ?_, ?_, ?_, ?_, fun j => ?_⟩
  · iterate 2 refine Ev.p rfl rfl ?_
    iterate 2 refine Ev.p rfl rfl ?_
    refine Ev.naa (m := 6) (by rfl) (by rfl) (by rfl) lK ?_
    rw [← hK1, ← hJ2]
    refine Ev.pr (by rfl) (by rfl) pK1 (by rfl) ?_
    rw [← hQ3]
    iterate 2 refine Ev.p rfl rfl ?_
    refine Ev.na (m := 6) (by rfl) (by rfl) (by rfl) lK1 ?_
    rw [← hK4, ← hJ5]
    refine Ev.pr (by rfl) (by rfl) pK4 (by rfl) ?_
    rw [← hQ6]
    iterate 2 refine Ev.p rfl rfl ?_
    refine Ev.na (m := 6) (by rfl) (by rfl) (by rfl) lK4 ?_
    rw [← hK7, ← hJ8]
    refine Ev.pr (by rfl) (by rfl) pK7 (by rfl) ?_
    rw [← hQ9]
    iterate 2 refine Ev.p rfl rfl ?_
    refine Ev.na (m := 6) (by rfl) (by rfl) (by rfl) lK7 ?_
    rw [← hK10, ← hJ11]
    refine Ev.pr (by rfl) (by rfl) pK10 (by rfl) ?_
    rw [← hQ12]
    iterate 2 refine Ev.p rfl rfl ?_
    refine Ev.na (m := 6) (by rfl) (by rfl) (by rfl) lK10 ?_
    rw [← hK13, ← hJ14]
    refine Ev.pr (by rfl) (by rfl) pK13 (by rfl) ?_
    rw [← hQ15]
    iterate 2 refine Ev.p rfl rfl ?_
    refine Ev.na (m := 6) (by rfl) (by rfl) (by rfl) lK13 ?_
    rw [← hK16, ← hJ17]
    refine Ev.pr (by rfl) (by rfl) pK16 (by rfl) ?_
    rw [← hQ18]
    iterate 2 refine Ev.p rfl rfl ?_
    refine Ev.na (m := 24) (by rfl) (by rfl) (by rfl) lK16 ?_
    rw [← hK19, ← hJ20]
    refine Ev.pr (by rfl) (by rfl) pK19 (by rfl) ?_
    rw [← hQ21]
    iterate 2 refine Ev.p rfl rfl ?_
    refine Ev.na (m := 6) (by rfl) (by rfl) (by rfl) lK19 ?_
    rw [← hK22, ← hJ23]
    refine Ev.pr (by rfl) (by rfl) pK22 (by rfl) ?_
    rw [← hQ24]
    iterate 2 refine Ev.p rfl rfl ?_
    refine Ev.pi (by rfl) (by rfl) pK22 (by rfl) ?_
    rw [← hJ25]
    iterate 2 refine Ev.p rfl rfl ?_
    refine Ev.pi (by rfl) (by rfl) pK22 (by rfl) ?_
    rw [← hJ26]
    iterate 2 refine Ev.p rfl rfl ?_
    refine Ev.pi (by rfl) (by rfl) pK22 (by rfl) ?_
    rw [← hJ27]
    iterate 2 refine Ev.p rfl rfl ?_
    refine Ev.pi (by rfl) (by rfl) pK22 (by rfl) ?_
    rw [← hJ28]
    iterate 2 refine Ev.p rfl rfl ?_
    refine Ev.pi (by rfl) (by rfl) pK22 (by rfl) ?_
    rw [← hJ29]
    iterate 2 refine Ev.p rfl rfl ?_
    refine Ev.pi (by rfl) (by rfl) pK22 (by rfl) ?_
    rw [← hJ30]
    iterate 1 refine Ev.p rfl rfl ?_
    refine Ev.nw (by rfl) lK22 ?_
    rw [← hK31]
    iterate 1 refine Ev.p rfl rfl ?_
    refine Ev.csp (by rfl) (by rfl) (by rfl) u32 (by rfl) (by rfl) (by rfl) (by rfl) ef33 ?_
    refine Ev.pr (by rfl) (by rfl) pK34 (by rfl) ?_
    rw [← hQ35]
    iterate 2 refine Ev.p rfl rfl ?_
    refine Ev.pi (by rfl) (by rfl) pK34 (by rfl) ?_
    rw [← hJ36]
    ((repeat refine Ev.p rfl rfl ?_); exact Ev.r rfl)
  · rw [hJ36, upI_ne (by omega), (f33.1 _ (by omega)).1, zrI_ne (by omega), hJ30, upI_ne (by omega), hJ29, upI_ne (by omega), hJ28, upI_ne (by omega), hJ27, upI_ne (by omega), hJ26, upI_ne (by omega), hJ25, upI_ne (by omega), hJ23, zrI_ne (by omega), hJ20, zrI_ne (by omega), hJ17, zrI_ne (by omega), hJ14, zrI_ne (by omega), hJ11, zrI_ne (by omega), hJ8, zrI_ne (by omega), hJ5, zrI_ne (by omega), hJ2, zrI_ne (by omega)]
  · rw [hQ35, upR_ne (by omega), (f33.1 _ (by omega)).2, zrR_ne (by omega), hQ24, upR_ne (by omega), zrR_ne (by omega), hQ21, upR_ne (by omega), zrR_ne (by omega), hQ18, upR_ne (by omega), zrR_ne (by omega), hQ15, upR_ne (by omega), zrR_ne (by omega), hQ12, upR_ne (by omega), zrR_ne (by omega), hQ9, upR_ne (by omega), zrR_ne (by omega), hQ6, upR_ne (by omega), zrR_ne (by omega), hQ3, upR_ne (by omega), zrR_ne (by omega)]
  · rw [hQ35, upR_nj (by omega), (f33.1 _ (by omega)).2, zrR_ne (by omega), hQ24, upR_nj (by omega), zrR_ne (by omega), hQ21, upR_nj (by omega), zrR_ne (by omega), hQ18, upR_nj (by omega), zrR_ne (by omega), hQ15, upR_nj (by omega), zrR_ne (by omega), hQ12, upR_nj (by omega), zrR_ne (by omega), hQ9, upR_nj (by omega), zrR_ne (by omega), hQ6, upR_nj (by omega), zrR_ne (by omega), hQ3, upR_at]
  · rw [hQ35, upR_nj (by omega), (f33.1 _ (by omega)).2, zrR_ne (by omega), hQ24, upR_nj (by omega), zrR_ne (by omega), hQ21, upR_nj (by omega), zrR_ne (by omega), hQ18, upR_nj (by omega), zrR_ne (by omega), hQ15, upR_nj (by omega), zrR_ne (by omega), hQ12, upR_nj (by omega), zrR_ne (by omega), hQ9, upR_nj (by omega), zrR_ne (by omega), hQ6, upR_at]
  · rw [hQ35, upR_nj (by omega), (f33.1 _ (by omega)).2, zrR_ne (by omega), hQ24, upR_nj (by omega), zrR_ne (by omega), hQ21, upR_nj (by omega), zrR_ne (by omega), hQ18, upR_nj (by omega), zrR_ne (by omega), hQ15, upR_nj (by omega), zrR_ne (by omega), hQ12, upR_nj (by omega), zrR_ne (by omega), hQ9, upR_at]
  · rw [hQ35, upR_nj (by omega), (f33.1 _ (by omega)).2, zrR_ne (by omega), hQ24, upR_nj (by omega), zrR_ne (by omega), hQ21, upR_nj (by omega), zrR_ne (by omega), hQ18, upR_nj (by omega), zrR_ne (by omega), hQ15, upR_nj (by omega), zrR_ne (by omega), hQ12, upR_at]
  · rw [hQ35, upR_nj (by omega), (f33.1 _ (by omega)).2, zrR_ne (by omega), hQ24, upR_nj (by omega), zrR_ne (by omega), hQ21, upR_nj (by omega), zrR_ne (by omega), hQ18, upR_nj (by omega), zrR_ne (by omega), hQ15, upR_at]
  · rw [hQ35, upR_nj (by omega), (f33.1 _ (by omega)).2, zrR_ne (by omega), hQ24, upR_nj (by omega), zrR_ne (by omega), hQ21, upR_nj (by omega), zrR_ne (by omega), hQ18, upR_at]
  · rw [hQ35, upR_nj (by omega), (f33.1 _ (by omega)).2, zrR_ne (by omega), hQ24, upR_nj (by omega), zrR_ne (by omega), hQ21, upR_at]
  · rw [hQ35, upR_nj (by omega), (f33.1 _ (by omega)).2, zrR_ne (by omega), hQ24, upR_at]
  · rw [hQ35, upR_at]
  · rw [hQ35, upR_ne (by omega)]; exact f33.2.1
  · rw [hQ35, upR_ne (by omega)]; exact f33.2.2.1
  · rw [hQ35, upR_ne (by omega)]; exact f33.2.2.2.1
  · rw [hJ36, upI_eq, upd_ne (by omega), (f33.1 _ (by omega)).1, zrI_ne (by omega), hJ30, upI_eq, upd_ne (by omega), hJ29, upI_eq, upd_ne (by omega), hJ28, upI_eq, upd_ne (by omega), hJ27, upI_eq, upd_ne (by omega), hJ26, upI_eq, upd_ne (by omega), hJ25, upI_eq, upd_at]
  · rw [hJ36, upI_eq, upd_ne (by omega), (f33.1 _ (by omega)).1, zrI_ne (by omega), hJ30, upI_eq, upd_ne (by omega), hJ29, upI_eq, upd_ne (by omega), hJ28, upI_eq, upd_ne (by omega), hJ27, upI_eq, upd_ne (by omega), hJ26, upI_eq, upd_at]
  · rw [hJ36, upI_eq, upd_ne (by omega), (f33.1 _ (by omega)).1, zrI_ne (by omega), hJ30, upI_eq, upd_ne (by omega), hJ29, upI_eq, upd_ne (by omega), hJ28, upI_eq, upd_ne (by omega), hJ27, upI_eq, upd_at]
  · rw [hJ36, upI_eq, upd_ne (by omega), (f33.1 _ (by omega)).1, zrI_ne (by omega), hJ30, upI_eq, upd_ne (by omega), hJ29, upI_eq, upd_ne (by omega), hJ28, upI_eq, upd_at]
  · rw [hJ36, upI_eq, upd_ne (by omega), (f33.1 _ (by omega)).1, zrI_ne (by omega), hJ30, upI_eq, upd_ne (by omega), hJ29, upI_eq, upd_at]
  · rw [hJ36, upI_eq, upd_at]
  · rw [hJ36, upI_eq, upd_ne (by omega), (f33.1 _ (by omega)).1, zrI_ne (by omega), hJ30, upI_eq, upd_at]
  · rw [hJ36, upI_ne (by omega), (f33.1 _ (by omega)).1, zrI_ne (by omega), hJ30, upI_ne (by omega), hJ29, upI_ne (by omega), hJ28, upI_ne (by omega), hJ27, upI_ne (by omega), hJ26, upI_ne (by omega), hJ25, upI_ne (by omega), hJ23, zrI_ne (by omega), hJ20, zrI_ne (by omega), hJ17, zrI_ne (by omega), hJ14, zrI_at]
  · rw [hJ36, upI_ne (by omega), (f33.1 _ (by omega)).1, zrI_ne (by omega), hJ30, upI_ne (by omega), hJ29, upI_ne (by omega), hJ28, upI_ne (by omega), hJ27, upI_ne (by omega), hJ26, upI_ne (by omega), hJ25, upI_ne (by omega), hJ23, zrI_ne (by omega), hJ20, zrI_ne (by omega), hJ17, zrI_at]
  · rw [hJ36, upI_ne (by omega), (f33.1 _ (by omega)).1, zrI_ne (by omega), hJ30, upI_ne (by omega), hJ29, upI_ne (by omega), hJ28, upI_ne (by omega), hJ27, upI_ne (by omega), hJ26, upI_ne (by omega), hJ25, upI_ne (by omega), hJ23, zrI_ne (by omega), hJ20, zrI_at]
  · rw [hJ36, upI_ne (by omega), (f33.1 _ (by omega)).1, zrI_ne (by omega), hJ30, upI_ne (by omega), hJ29, upI_ne (by omega), hJ28, upI_ne (by omega), hJ27, upI_ne (by omega), hJ26, upI_ne (by omega), hJ25, upI_ne (by omega), hJ23, zrI_ne (by omega), hJ20, zrI_ne (by omega), hJ17, zrI_ne (by omega), hJ14, zrI_ne (by omega), hJ11, zrI_at]
  · rw [hJ36, upI_ne (by omega)]; exact f33.2.2.2.2.1
  · rw [hJ36, upI_ne (by omega)]; exact f33.2.2.2.2.2.1
  · rw [hJ36, upI_ne (by omega)]; exact f33.2.2.2.2.2.2
  · rw [hQ35, upR_ne (by omega), (f33.1 _ (by omega)).2, zrR_ne (by omega), hQ24, upR_ne (by omega), zrR_ne (by omega), hQ21, upR_ne (by omega), zrR_ne (by omega), hQ18, upR_ne (by omega), zrR_ne (by omega), hQ15, upR_ne (by omega), zrR_ne (by omega), hQ12, upR_ne (by omega), zrR_ne (by omega), hQ9, upR_ne (by omega), zrR_ne (by omega), hQ6, upR_ne (by omega), zrR_ne (by omega), hQ3, upR_ne (by omega), zrR_at]
def VKR (Q : Nat → Nat → Option Nat) (p : Nat) : Prop := Q p 0 = some (p + 1) ∧ Q p 1 = some (p + 2) ∧ Q p 2 = some (p + 3) ∧ Q p 3 = some (p + 4) ∧ Q p 4 = some (p + 5) ∧ Q p 5 = some (p + 6) ∧ Q p 6 = some (p + 7) ∧ Q p 7 = some (p + 8) ∧ Q p 14 = some (p + 9) ∧ Q (p + 9) 3 = some (p + 10) ∧ Q (p + 9) 4 = some (p + 11) ∧ Q (p + 9) 5 = some (p + 12)
theorem VKR.fr {Q Q' : Nat → Nat → Option Nat} {p : Nat} (h : VKR Q p) (e : ∀ c, p ≤ c → c ≤ p + 13 → Q' c = Q c) : VKR Q' p := by
  unfold VKR at h ⊢
  rw [e p (by omega) (by omega), e (p + 9) (by omega) (by omega)]
  exact h
def VKI (J : Nat → Nat → Int32) (p : Nat) : Prop := J p 8 = 0 ∧ J p 9 = 0 ∧ J p 10 = 0 ∧ J p 11 = 0 ∧ J p 12 = 0 ∧ J p 15 = 0 ∧ J p 13 = 20 ∧ (∀ j, J (p + 5) j = 0) ∧ (∀ j, J (p + 6) j = 0) ∧ (∀ j, J (p + 7) j = 0) ∧ (∀ j, J (p + 4) j = 0) ∧ J (p + 9) 0 = 20 ∧ J (p + 9) 1 = 1 ∧ J (p + 9) 2 = 0
theorem VKI.fr {J J' : Nat → Nat → Int32} {p : Nat} (h : VKI J p) (e : ∀ c, p ≤ c → c ≤ p + 13 → J' c = J c) : VKI J' p := by
  unfold VKI at h ⊢
  rw [e p (by omega) (by omega), e (p + 4) (by omega) (by omega), e (p + 5) (by omega) (by omega), e (p + 6) (by omega) (by omega), e (p + 7) (by omega) (by omega), e (p + 9) (by omega) (by omega)]
  exact h
def HKR (Q : Nat → Nat → Option Nat) (p : Nat) : Prop := Q p 0 = some (p + 1) ∧ Q p 2 = some (p + 2) ∧ Q p 3 = some (p + 3) ∧ Q p 6 = some (p + 4) ∧ Q p 7 = some (p + 5) ∧ Q p 9 = some (p + 6) ∧ Q p 10 = some (p + 7)
theorem HKR.fr {Q Q' : Nat → Nat → Option Nat} {p : Nat} (h : HKR Q p) (e : ∀ c, p ≤ c → c ≤ p + 7 → Q' c = Q c) : HKR Q' p := by
  unfold HKR at h ⊢
  rw [e p (by omega) (by omega)]
  exact h
def HKI (J : Nat → Nat → Int32) (p : Nat) : Prop := J p 1 = 0 ∧ J p 4 = 0 ∧ J p 5 = 0 ∧ J p 8 = 0 ∧ J p 11 = 0 ∧ (∀ j, J (p + 1) j = 0) ∧ (∀ j, J (p + 2) j = 0) ∧ (∀ j, J (p + 3) j = 0) ∧ (∀ j, J (p + 4) j = 0) ∧ (∀ j, J (p + 5) j = 0) ∧ (∀ j, J (p + 6) j = 0) ∧ (∀ j, J (p + 7) j = 0)
theorem HKI.fr {J J' : Nat → Nat → Int32} {p : Nat} (h : HKI J p) (e : ∀ c, p ≤ c → c ≤ p + 7 → J' c = J c) : HKI J' p := by
  unfold HKI at h ⊢
  rw [e p (by omega) (by omega), e (p + 1) (by omega) (by omega), e (p + 2) (by omega) (by omega), e (p + 3) (by omega) (by omega), e (p + 4) (by omega) (by omega), e (p + 5) (by omega) (by omega), e (p + 6) (by omega) (by omega), e (p + 7) (by omega) (by omega)]
  exact h
def SKR (Q : Nat → Nat → Option Nat) (p : Nat) : Prop := Q p 3 = some (p + 1) ∧ Q p 4 = some (p + 2) ∧ Q p 5 = some (p + 3)
theorem SKR.fr {Q Q' : Nat → Nat → Option Nat} {p : Nat} (h : SKR Q p) (e : Q' p = Q p) : SKR Q' p := by
  unfold SKR at h ⊢
  rw [e]
  exact h
theorem c_in3 (hk : K[p]? = some (3, 12)) (hL : K.length = p + 1) : ∃ J Q, Ev X d kX3_init 0 (ent kX3_init [.ref p]) [] (K, I, R) (none, (K ++ [(21, 100), (20, 5), (20, 5), (20, 8), (20, 8), (20, 8), (20, 8)], J, Q)) ∧ (∀ c, c < p → J c = I c ∧ Q c = R c) ∧ HKR Q p ∧ HKI J p := by
  obtain ⟨J, Q, e, f, q0, q1, q2, q3, q4, q5, q6, r⟩ := c_init3 (X := X) (d := d) (I := I) (R := R) hk hL
  exact ⟨J, Q, e, f, ⟨q0, q1, q2, q3, q4, q5, q6⟩, r⟩
theorem c_in10 (hk : K[p]? = some (10, 16)) (hL : K.length = p + 1) : ∃ J Q, Ev X (d + 1) kX10_init 0 (ent kX10_init [.ref p]) [] (K, I, R) (none, (K ++ [(23, 6), (20, 6), (20, 6), (20, 6), (20, 6), (20, 6), (20, 24), (20, 6), (8, 10), (20, 10), (20, 10), (20, 100), (21, 0)], J, Q)) ∧ (∀ c, c < p → J c = I c ∧ Q c = R c) ∧ VKR Q p ∧ VKI J p ∧ (∀ j, Q (p + 1) j = none) := by
  obtain ⟨J, Q, e, f, q0, q1, q2, q3, q4, q5, q6, q7, q8, q9, q10, q11, j0, j1, j2, j3, j4, j5, j6, j7, j8, j9, j10, j11, j12, j13, z⟩ := c_init10 (X := X) (d := d) (I := I) (R := R) hk hL
  exact ⟨J, Q, e, f, ⟨q0, q1, q2, q3, q4, q5, q6, q7, q8, q9, q10, q11⟩, ⟨j0, j1, j2, j3, j4, j5, j6, j7, j8, j9, j10, j11, j12, j13⟩, z⟩
theorem c_in8 (hk : K[p]? = some (8, 10)) (hL : K.length = p + 1) : ∃ J Q, Ev X d kX8_init 0 (ent kX8_init [.ref p]) [] (K, I, R) (none, (K ++ [(20, 10), (20, 10), (20, 100), (21, 0)], J, Q)) ∧ (∀ c, c < p → J c = I c ∧ Q c = R c) ∧ SKR Q p := by
  obtain ⟨J, Q, e1, e2, e3, e4, e5, e6⟩ := c_init8e (X := X) (d := d) (I := I) (R := R) hk hL
  exact ⟨J, Q, e1, e2, e3, e4, e5⟩
end CTOR
