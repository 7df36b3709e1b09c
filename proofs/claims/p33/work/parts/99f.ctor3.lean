/-! THE CONSTRUCTORS: the face, the reference -/
section CTOR3
variable {X : Nat × (Nat → Int32)} {d : Nat} {K : List (Nat × Nat)} {I : Nat → Nat → Int32} {R : Nat → Nat → Option Nat}
theorem AKR.fr {Q Q' : Nat → Nat → Option Nat} (h : AKR Q) (e : ∀ c, 45 ≤ c → c ≤ 133 → Q' c = Q c) : AKR Q' := by
  obtain ⟨a0, a1, a2, a3, a4, b0, b1, b2, b3, b4, v0, v1, v2, v3, v4, v5⟩ := h
  have e47 := e 45 (by omega) (by omega)
  have e62 := e 60 (by omega) (by omega)
  exact ⟨by rw [e47]; exact a0, by rw [e47]; exact a1, by rw [e47]; exact a2, by rw [e47]; exact a3, by rw [e47]; exact a4, by rw [e62]; exact b0, by rw [e62]; exact b1, by rw [e62]; exact b2, by rw [e62]; exact b3, by rw [e62]; exact b4, v0.fr (fun c c1 c2 => e c (by omega) (by omega)), v1.fr (fun c c1 c2 => e c (by omega) (by omega)), v2.fr (fun c c1 c2 => e c (by omega) (by omega)), v3.fr (fun c c1 c2 => e c (by omega) (by omega)), v4.fr (fun c c1 c2 => e c (by omega) (by omega)), v5.fr (fun c c1 c2 => e c (by omega) (by omega))⟩
def FcL : List (Nat × Nat) := [(10, 16), (23, 6), (20, 6), (20, 6), (20, 6), (20, 6), (20, 6), (20, 24), (20, 6), (8, 10), (20, 10), (20, 10), (20, 100), (21, 0), (3, 12), (21, 100), (20, 5), (20, 5), (20, 8), (20, 8), (20, 8), (20, 8), (10, 16), (23, 6), (20, 6), (20, 6), (20, 6), (20, 6), (20, 6), (20, 24), (20, 6), (8, 10), (20, 10), (20, 10), (20, 100), (21, 0), (3, 12), (21, 100), (20, 5), (20, 5), (20, 8), (20, 8), (20, 8), (20, 8), (0, 9), (10, 16), (23, 6), (20, 6), (20, 6), (20, 6), (20, 6), (20, 6), (20, 24), (20, 6), (8, 10), (20, 10), (20, 10), (20, 100), (21, 0), (24, 5), (20, 4), (20, 4), (20, 64), (10, 16), (23, 6), (20, 6), (20, 6), (20, 6), (20, 6), (20, 6), (20, 24), (20, 6), (8, 10), (20, 10), (20, 10), (20, 100), (21, 0), (10, 16), (23, 6), (20, 6), (20, 6), (20, 6), (20, 6), (20, 6), (20, 24), (20, 6), (8, 10), (20, 10), (20, 10), (20, 100), (21, 0), (10, 16), (23, 6), (20, 6), (20, 6), (20, 6), (20, 6), (20, 6), (20, 24), (20, 6), (8, 10), (20, 10), (20, 10), (20, 100), (21, 0), (10, 16), (23, 6), (20, 6), (20, 6), (20, 6), (20, 6), (20, 6), (20, 24), (20, 6), (8, 10), (20, 10), (20, 10), (20, 100), (21, 0), (10, 16), (23, 6), (20, 6), (20, 6), (20, 6), (20, 6), (20, 6), (20, 24), (20, 6), (8, 10), (20, 10), (20, 10), (20, 100), (21, 0), (20, 21), (8, 10), (20, 10), (20, 10), (20, 100), (21, 0)]
def FKR (J : Nat → Nat → Int32) (Q : Nat → Nat → Option Nat) : Prop := Q 0 0 = some 1 ∧ Q 0 1 = some 15 ∧ Q 0 2 = some 23 ∧ Q 0 3 = some 37 ∧ Q 0 4 = some 45 ∧ Q 0 5 = some 134 ∧ Q 0 6 = some 135 ∧ VKR Q 1 ∧ VKI J 1 ∧ (∀ j, Q 2 j = none) ∧ HKR Q 15 ∧ HKI J 15 ∧ VKR Q 23 ∧ HKR Q 37 ∧ AKR Q ∧ SKR Q 135 ∧ J 0 7 = 0 ∧ (∀ j, J 134 j = 0)
theorem c_init11 (hk : K[0]? = some (11, 8)) (hL : K.length = 1) : ∃ J Q, Ev X (d + 3) kX11_init 0 (ent kX11_init [.ref 0]) [] (K, I, R) (none, (K ++ FcL, J, Q)) ∧ FKR J Q := by
  have lK := hL
  have pK := hk
  obtain ⟨K1, hK1⟩ : ∃ K1, K1 = K ++ [(10, 16)] := ⟨_, rfl⟩
  have lK1 : K1.length = 2 := by rw [hK1, List.length_append, lK]; rfl
  have pK1 : K1[0]? = some (11, 8) := by rw [hK1]; exact KM.app _ _ _ _ pK
  have u2 : K1[1]? = some (10, 16) := by
    rw [hK1, List.getElem?_append_right (by omega), lK]
    exact congrArg (fun i => [((10 : Nat), (16 : Nat))][i]?) (Nat.sub_self (1))
  obtain ⟨J3, Q3, ef3, f3⟩ := c_in10 (X := X) (d := d + 1) (K := K1) (I := zrI I (1)) (R := zrR R (1)) u2 lK1
  obtain ⟨K4, hK4⟩ : ∃ K4, K4 = K1 ++ [(23, 6), (20, 6), (20, 6), (20, 6), (20, 6), (20, 6), (20, 24), (20, 6), (8, 10), (20, 10), (20, 10), (20, 100), (21, 0)] := ⟨_, rfl⟩
  have lK4 : K4.length = 15 := by rw [hK4, List.length_append, lK1]; rfl
  have pK4 : K4[0]? = some (11, 8) := by rw [hK4]; exact KM.app _ _ _ _ pK1
  rw [← hK4] at ef3
  obtain ⟨Q5, hQ5⟩ : ∃ Q5, Q5 = upR Q3 0 0 (some (1)) := ⟨_, rfl⟩
  obtain ⟨K6, hK6⟩ : ∃ K6, K6 = K4 ++ [(3, 12)] := ⟨_, rfl⟩
  have lK6 : K6.length = 16 := by rw [hK6, List.length_append, lK4]; rfl
  have pK6 : K6[0]? = some (11, 8) := by rw [hK6]; exact KM.app _ _ _ _ pK4
  have u7 : K6[15]? = some (3, 12) := by
    rw [hK6, List.getElem?_append_right (by omega), lK4]
    exact congrArg (fun i => [((3 : Nat), (12 : Nat))][i]?) (Nat.sub_self (15))
  obtain ⟨J8, Q8, ef8, f8⟩ := c_in3 (X := X) (d := d + 2) (K := K6) (I := zrI J3 (15)) (R := zrR Q5 (15)) u7 lK6
  obtain ⟨K9, hK9⟩ : ∃ K9, K9 = K6 ++ [(21, 100), (20, 5), (20, 5), (20, 8), (20, 8), (20, 8), (20, 8)] := ⟨_, rfl⟩
  have lK9 : K9.length = 23 := by rw [hK9, List.length_append, lK6]; rfl
  have pK9 : K9[0]? = some (11, 8) := by rw [hK9]; exact KM.app _ _ _ _ pK6
  rw [← hK9] at ef8
  obtain ⟨Q10, hQ10⟩ : ∃ Q10, Q10 = upR Q8 0 1 (some (15)) := ⟨_, rfl⟩
  obtain ⟨K11, hK11⟩ : ∃ K11, K11 = K9 ++ [(10, 16)] := ⟨_, rfl⟩
  have lK11 : K11.length = 24 := by rw [hK11, List.length_append, lK9]; rfl
  have pK11 : K11[0]? = some (11, 8) := by rw [hK11]; exact KM.app _ _ _ _ pK9
  have u12 : K11[23]? = some (10, 16) := by
    rw [hK11, List.getElem?_append_right (by omega), lK9]
    exact congrArg (fun i => [((10 : Nat), (16 : Nat))][i]?) (Nat.sub_self (23))
  obtain ⟨J13, Q13, ef13, f13⟩ := c_in10 (X := X) (d := d + 1) (K := K11) (I := zrI J8 (23)) (R := zrR Q10 (23)) u12 lK11
  obtain ⟨K14, hK14⟩ : ∃ K14, K14 = K11 ++ [(23, 6), (20, 6), (20, 6), (20, 6), (20, 6), (20, 6), (20, 24), (20, 6), (8, 10), (20, 10), (20, 10), (20, 100), (21, 0)] := ⟨_, rfl⟩
  have lK14 : K14.length = 37 := by rw [hK14, List.length_append, lK11]; rfl
  have pK14 : K14[0]? = some (11, 8) := by rw [hK14]; exact KM.app _ _ _ _ pK11
  rw [← hK14] at ef13
  obtain ⟨Q15, hQ15⟩ : ∃ Q15, Q15 = upR Q13 0 2 (some (23)) := ⟨_, rfl⟩
  obtain ⟨K16, hK16⟩ : ∃ K16, K16 = K14 ++ [(3, 12)] := ⟨_, rfl⟩
  have lK16 : K16.length = 38 := by rw [hK16, List.length_append, lK14]; rfl
  have pK16 : K16[0]? = some (11, 8) := by rw [hK16]; exact KM.app _ _ _ _ pK14
  have u17 : K16[37]? = some (3, 12) := by
    rw [hK16, List.getElem?_append_right (by omega), lK14]
    exact congrArg (fun i => [((3 : Nat), (12 : Nat))][i]?) (Nat.sub_self (37))
  obtain ⟨J18, Q18, ef18, f18⟩ := c_in3 (X := X) (d := d + 2) (K := K16) (I := zrI J13 (37)) (R := zrR Q15 (37)) u17 lK16
  obtain ⟨K19, hK19⟩ : ∃ K19, K19 = K16 ++ [(21, 100), (20, 5), (20, 5), (20, 8), (20, 8), (20, 8), (20, 8)] := ⟨_, rfl⟩
  have lK19 : K19.length = 45 := by rw [hK19, List.length_append, lK16]; rfl
  have pK19 : K19[0]? = some (11, 8) := by rw [hK19]; exact KM.app _ _ _ _ pK16
  rw [← hK19] at ef18
  obtain ⟨Q20, hQ20⟩ : ∃ Q20, Q20 = upR Q18 0 3 (some (37)) := ⟨_, rfl⟩
  obtain ⟨K21, hK21⟩ : ∃ K21, K21 = K19 ++ [(0, 9)] := ⟨_, rfl⟩
  have lK21 : K21.length = 46 := by rw [hK21, List.length_append, lK19]; rfl
  have pK21 : K21[0]? = some (11, 8) := by rw [hK21]; exact KM.app _ _ _ _ pK19
  have u22 : K21[45]? = some (0, 9) := by
    rw [hK21, List.getElem?_append_right (by omega), lK19]
    exact congrArg (fun i => [((0 : Nat), (9 : Nat))][i]?) (Nat.sub_self (45))
  obtain ⟨J23, Q23, ef23, f23⟩ := c_init0 (X := X) (d := d) (K := K21) (I := zrI J18 (45)) (R := zrR Q20 (45)) u22 lK21
  obtain ⟨K24, hK24⟩ : ∃ K24, K24 = K21 ++ AsL := ⟨_, rfl⟩
  have lK24 : K24.length = 134 := by rw [hK24, List.length_append, lK21]; rfl
  have pK24 : K24[0]? = some (11, 8) := by rw [hK24]; exact KM.app _ _ _ _ pK21
  rw [← hK24] at ef23
  obtain ⟨Q25, hQ25⟩ : ∃ Q25, Q25 = upR Q23 0 4 (some (45)) := ⟨_, rfl⟩
  obtain ⟨K26, hK26⟩ : ∃ K26, K26 = K24 ++ [(20, 21)] := ⟨_, rfl⟩
  have lK26 : K26.length = 135 := by rw [hK26, List.length_append, lK24]; rfl
  have pK26 : K26[0]? = some (11, 8) := by rw [hK26]; exact KM.app _ _ _ _ pK24
  obtain ⟨J27, hJ27⟩ : ∃ J27, J27 = zrI J23 (134) := ⟨_, rfl⟩
  obtain ⟨Q28, hQ28⟩ : ∃ Q28, Q28 = upR (zrR Q25 (134)) 0 5 (some (134)) := ⟨_, rfl⟩
  obtain ⟨K29, hK29⟩ : ∃ K29, K29 = K26 ++ [(8, 10)] := ⟨_, rfl⟩
  have lK29 : K29.length = 136 := by rw [hK29, List.length_append, lK26]; rfl
  have pK29 : K29[0]? = some (11, 8) := by rw [hK29]; exact KM.app _ _ _ _ pK26
  have u30 : K29[135]? = some (8, 10) := by
    rw [hK29, List.getElem?_append_right (by omega), lK26]
    exact congrArg (fun i => [((8 : Nat), (10 : Nat))][i]?) (Nat.sub_self (135))
  obtain ⟨J31, Q31, ef31, f31⟩ := c_in8 (X := X) (d := d + 2) (K := K29) (I := zrI J27 (135)) (R := zrR Q28 (135)) u30 lK29
  obtain ⟨K32, hK32⟩ : ∃ K32, K32 = K29 ++ [(20, 10), (20, 10), (20, 100), (21, 0)] := ⟨_, rfl⟩
  have lK32 : K32.length = 140 := by rw [hK32, List.length_append, lK29]; rfl
  have pK32 : K32[0]? = some (11, 8) := by rw [hK32]; exact KM.app _ _ _ _ pK29
  rw [← hK32] at ef31
  obtain ⟨Q33, hQ33⟩ : ∃ Q33, Q33 = upR Q31 0 6 (some (135)) := ⟨_, rfl⟩
  obtain ⟨J34, hJ34⟩ : ∃ J34, J34 = upI J31 0 7 (0) := ⟨_, rfl⟩
  have eK : K32 = K ++ FcL := by
    rw [hK32, hK29, hK26, hK24, hK21, hK19, hK16, hK14, hK11, hK9, hK6, hK4, hK1]
    simp only [List.append_assoc]
    rfl
  rw [← eK]
  refine ⟨J34, Q33, ?_, ?_, ?_, ?_, ?_, ?_, ?_, ?_, f3.2.1.fr (fun c c1 c2 => by rw [hQ33, upR_ne (by omega), (f31.1 _ (by omega)).2, zrR_ne (by omega), hQ28, upR_ne (by omega), zrR_ne (by omega), hQ25, upR_ne (by omega), (f23.1 _ (by omega)).2, zrR_ne (by omega), hQ20, upR_ne (by omega), (f18.1 _ (by omega)).2, zrR_ne (by omega), hQ15, upR_ne (by omega), (f13.1 _ (by omega)).2, zrR_ne (by omega), hQ10, upR_ne (by omega), (f8.1 _ (by omega)).2, zrR_ne (by omega), hQ5, upR_ne (by omega)]), f3.2.2.1.fr (fun c c1 c2 => by rw [hJ34, upI_ne (by omega), (f31.1 _ (by omega)).1, zrI_ne (by omega), hJ27, zrI_ne (by omega), (f23.1 _ (by omega)).1, zrI_ne (by omega), (f18.1 _ (by omega)).1, zrI_ne (by omega), (f13.1 _ (by omega)).1, zrI_ne (by omega), (f8.1 _ (by omega)).1, zrI_ne (by omega)]), fun j => ?_, f8.2.1.fr (fun c c1 c2 => by rw [hQ33, upR_ne (by omega), (f31.1 _ (by omega)).2, zrR_ne (by omega), hQ28, upR_ne (by omega), zrR_ne (by omega), hQ25, upR_ne (by omega), (f23.1 _ (by omega)).2, zrR_ne (by omega), hQ20, upR_ne (by omega), (f18.1 _ (by omega)).2, zrR_ne (by omega), hQ15, upR_ne (by omega), (f13.1 _ (by omega)).2, zrR_ne (by omega), hQ10, upR_ne (by omega)]), f8.2.2.fr (fun c c1 c2 => by rw [hJ34, upI_ne (by omega), (f31.1 _ (by omega)).1, zrI_ne (by omega), hJ27, zrI_ne (by omega), (f23.1 _ (by omega)).1, zrI_ne (by omega), (f18.1 _ (by omega)).1, zrI_ne (by omega), (f13.1 _ (by omega)).1, zrI_ne (by omega)]), f13.2.1.fr (fun c c1 c2 => by rw [hQ33, upR_ne (by omega), (f31.1 _ (by omega)).2, zrR_ne (by omega), hQ28, upR_ne (by omega), zrR_ne (by omega), hQ25, upR_ne (by omega), (f23.1 _ (by omega)).2, zrR_ne (by omega), hQ20, upR_ne (by omega), (f18.1 _ (by omega)).2, zrR_ne (by omega), hQ15, upR_ne (by omega)]), f18.2.1.fr (fun c c1 c2 => by rw [hQ33, upR_ne (by omega), (f31.1 _ (by omega)).2, zrR_ne (by omega), hQ28, upR_ne (by omega), zrR_ne (by omega), hQ25, upR_ne (by omega), (f23.1 _ (by omega)).2, zrR_ne (by omega), hQ20, upR_ne (by omega)]), f23.2.fr (fun c c1 c2 => by rw [hQ33, upR_ne (by omega), (f31.1 _ (by omega)).2, zrR_ne (by omega), hQ28, upR_ne (by omega), zrR_ne (by omega), hQ25, upR_ne (by omega)]), SKR.fr f31.2 (by rw [hQ33, upR_ne (by omega)]), ?_, fun j => ?_⟩
  · iterate 2 refine Ev.p rfl rfl ?_
    iterate 1 refine Ev.p rfl rfl ?_
    refine Ev.nw (by rfl) lK ?_
    rw [← hK1]
    iterate 1 refine Ev.p rfl rfl ?_
    refine Ev.csp (by rfl) (by rfl) (by rfl) u2 (by rfl) (by rfl) (by rfl) (by rfl) ef3 ?_
    refine Ev.pr (by rfl) (by rfl) pK4 (by rfl) ?_
    rw [← hQ5]
    iterate 1 refine Ev.p rfl rfl ?_
    refine Ev.nw (by rfl) lK4 ?_
    rw [← hK6]
    iterate 1 refine Ev.p rfl rfl ?_
    refine Ev.csp (by rfl) (by rfl) (by rfl) u7 (by rfl) (by rfl) (by rfl) (by rfl) ef8 ?_
    refine Ev.pr (by rfl) (by rfl) pK9 (by rfl) ?_
    rw [← hQ10]
    iterate 1 refine Ev.p rfl rfl ?_
    refine Ev.nw (by rfl) lK9 ?_
    rw [← hK11]
    iterate 1 refine Ev.p rfl rfl ?_
    refine Ev.csp (by rfl) (by rfl) (by rfl) u12 (by rfl) (by rfl) (by rfl) (by rfl) ef13 ?_
    refine Ev.pr (by rfl) (by rfl) pK14 (by rfl) ?_
    rw [← hQ15]
    iterate 1 refine Ev.p rfl rfl ?_
    refine Ev.nw (by rfl) lK14 ?_
    rw [← hK16]
    iterate 1 refine Ev.p rfl rfl ?_
    refine Ev.csp (by rfl) (by rfl) (by rfl) u17 (by rfl) (by rfl) (by rfl) (by rfl) ef18 ?_
    refine Ev.pr (by rfl) (by rfl) pK19 (by rfl) ?_
    rw [← hQ20]
    iterate 1 refine Ev.p rfl rfl ?_
    refine Ev.nw (by rfl) lK19 ?_
    rw [← hK21]
    iterate 1 refine Ev.p rfl rfl ?_
    refine Ev.csp (by rfl) (by rfl) (by rfl) u22 (by rfl) (by rfl) (by rfl) (by rfl) ef23 ?_
    refine Ev.pr (by rfl) (by rfl) pK24 (by rfl) ?_
    rw [← hQ25]
    iterate 2 refine Ev.p rfl rfl ?_
    refine Ev.na (m := 21) (by rfl) (by rfl) (by rfl) lK24 ?_
    rw [← hK26, ← hJ27]
    refine Ev.pr (by rfl) (by rfl) pK26 (by rfl) ?_
    rw [← hQ28]
    iterate 1 refine Ev.p rfl rfl ?_
    refine Ev.nw (by rfl) lK26 ?_
    rw [← hK29]
    iterate 1 refine Ev.p rfl rfl ?_
    refine Ev.csp (by rfl) (by rfl) (by rfl) u30 (by rfl) (by rfl) (by rfl) (by rfl) ef31 ?_
    refine Ev.pr (by rfl) (by rfl) pK32 (by rfl) ?_
    rw [← hQ33]
    iterate 2 refine Ev.p rfl rfl ?_
    refine Ev.pz (by rfl) (by rfl) (by rfl) pK32 (by rfl) ?_
    rw [← hJ34]
    ((repeat refine Ev.p rfl rfl ?_); exact Ev.r rfl)
  · rw [hQ33, upR_nj (by omega), (f31.1 _ (by omega)).2, zrR_ne (by omega), hQ28, upR_nj (by omega), zrR_ne (by omega), hQ25, upR_nj (by omega), (f23.1 _ (by omega)).2, zrR_ne (by omega), hQ20, upR_nj (by omega), (f18.1 _ (by omega)).2, zrR_ne (by omega), hQ15, upR_nj (by omega), (f13.1 _ (by omega)).2, zrR_ne (by omega), hQ10, upR_nj (by omega), (f8.1 _ (by omega)).2, zrR_ne (by omega), hQ5, upR_at]
  · rw [hQ33, upR_nj (by omega), (f31.1 _ (by omega)).2, zrR_ne (by omega), hQ28, upR_nj (by omega), zrR_ne (by omega), hQ25, upR_nj (by omega), (f23.1 _ (by omega)).2, zrR_ne (by omega), hQ20, upR_nj (by omega), (f18.1 _ (by omega)).2, zrR_ne (by omega), hQ15, upR_nj (by omega), (f13.1 _ (by omega)).2, zrR_ne (by omega), hQ10, upR_at]
  · rw [hQ33, upR_nj (by omega), (f31.1 _ (by omega)).2, zrR_ne (by omega), hQ28, upR_nj (by omega), zrR_ne (by omega), hQ25, upR_nj (by omega), (f23.1 _ (by omega)).2, zrR_ne (by omega), hQ20, upR_nj (by omega), (f18.1 _ (by omega)).2, zrR_ne (by omega), hQ15, upR_at]
  · rw [hQ33, upR_nj (by omega), (f31.1 _ (by omega)).2, zrR_ne (by omega), hQ28, upR_nj (by omega), zrR_ne (by omega), hQ25, upR_nj (by omega), (f23.1 _ (by omega)).2, zrR_ne (by omega), hQ20, upR_at]
  · rw [hQ33, upR_nj (by omega), (f31.1 _ (by omega)).2, zrR_ne (by omega), hQ28, upR_nj (by omega), zrR_ne (by omega), hQ25, upR_at]
  · rw [hQ33, upR_nj (by omega), (f31.1 _ (by omega)).2, zrR_ne (by omega), hQ28, upR_at]
  · rw [hQ33, upR_at]
  · rw [hQ33, upR_ne (by omega), (f31.1 _ (by omega)).2, zrR_ne (by omega), hQ28, upR_ne (by omega), zrR_ne (by omega), hQ25, upR_ne (by omega), (f23.1 _ (by omega)).2, zrR_ne (by omega), hQ20, upR_ne (by omega), (f18.1 _ (by omega)).2, zrR_ne (by omega), hQ15, upR_ne (by omega), (f13.1 _ (by omega)).2, zrR_ne (by omega), hQ10, upR_ne (by omega), (f8.1 _ (by omega)).2, zrR_ne (by omega), hQ5, upR_ne (by omega)]; exact f3.2.2.2 j
  · rw [hJ34, upI_eq, upd_at]
  · rw [hJ34, upI_ne (by omega), (f31.1 _ (by omega)).1, zrI_ne (by omega), hJ27, zrI_at]
end CTOR3
