/-! THE CONSTRUCTORS: Asked, the face, the reference -/
section CTOR2
variable {X : Nat × (Nat → Int32)} {d : Nat} {K : List (Nat × Nat)} {I : Nat → Nat → Int32} {R : Nat → Nat → Option Nat}
def AsL : List (Nat × Nat) := [(10, 16), (23, 6), (20, 6), (20, 6), (20, 6), (20, 6), (20, 6), (20, 24), (20, 6), (8, 10), (20, 10), (20, 10), (20, 100), (21, 0), (24, 5), (20, 4), (20, 4), (20, 64), (10, 16), (23, 6), (20, 6), (20, 6), (20, 6), (20, 6), (20, 6), (20, 24), (20, 6), (8, 10), (20, 10), (20, 10), (20, 100), (21, 0), (10, 16), (23, 6), (20, 6), (20, 6), (20, 6), (20, 6), (20, 6), (20, 24), (20, 6), (8, 10), (20, 10), (20, 10), (20, 100), (21, 0), (10, 16), (23, 6), (20, 6), (20, 6), (20, 6), (20, 6), (20, 6), (20, 24), (20, 6), (8, 10), (20, 10), (20, 10), (20, 100), (21, 0), (10, 16), (23, 6), (20, 6), (20, 6), (20, 6), (20, 6), (20, 6), (20, 24), (20, 6), (8, 10), (20, 10), (20, 10), (20, 100), (21, 0), (10, 16), (23, 6), (20, 6), (20, 6), (20, 6), (20, 6), (20, 6), (20, 24), (20, 6), (8, 10), (20, 10), (20, 10), (20, 100), (21, 0)]
def AKR (Q : Nat → Nat → Option Nat) : Prop := Q 45 0 = some 46 ∧ Q 45 1 = some 60 ∧ Q 45 2 = some 61 ∧ Q 45 3 = some 62 ∧ Q 45 8 = some 63 ∧ Q 60 0 = some 64 ∧ Q 60 1 = some 78 ∧ Q 60 2 = some 92 ∧ Q 60 3 = some 106 ∧ Q 60 4 = some 120 ∧ VKR Q 46 ∧ VKR Q 64 ∧ VKR Q 78 ∧ VKR Q 92 ∧ VKR Q 106 ∧ VKR Q 120
theorem c_init0 (hk : K[45]? = some (0, 9)) (hL : K.length = 46) : ∃ J Q, Ev X (d + 2) kX0_init 0 (ent kX0_init [.ref 45]) [] (K, I, R) (none, (K ++ AsL, J, Q)) ∧ (∀ c, c < 45 → J c = I c ∧ Q c = R c) ∧ AKR Q := by
  have lK := hL
  have pK := hk
  obtain ⟨K1, hK1⟩ : ∃ K1, K1 = K ++ [(10, 16)] := ⟨_, rfl⟩
  have lK1 : K1.length = 47 := by rw [hK1, List.length_append, lK]; rfl
  have pK1 : K1[45]? = some (0, 9) := by rw [hK1]; exact KM.app _ _ _ _ pK
  have u2 : K1[46]? = some (10, 16) := by
    rw [hK1, List.getElem?_append_right (by omega), lK]
    exact congrArg (fun i => [((10 : Nat), (16 : Nat))][i]?) (Nat.sub_self (46))
  obtain ⟨J3, Q3, ef3, f3⟩ := c_in10 (X := X) (d := d) (K := K1) (I := zrI I (46)) (R := zrR R (46)) u2 lK1
  obtain ⟨K4, hK4⟩ : ∃ K4, K4 = K1 ++ [(23, 6), (20, 6), (20, 6), (20, 6), (20, 6), (20, 6), (20, 24), (20, 6), (8, 10), (20, 10), (20, 10), (20, 100), (21, 0)] := ⟨_, rfl⟩
  have lK4 : K4.length = 60 := by rw [hK4, List.length_append, lK1]; rfl
  have pK4 : K4[45]? = some (0, 9) := by rw [hK4]; exact KM.app _ _ _ _ pK1
  rw [← hK4] at ef3
  obtain ⟨Q5, hQ5⟩ : ∃ Q5, Q5 = upR Q3 45 0 (some (46)) := ⟨_, rfl⟩
  obtain ⟨K6, hK6⟩ : ∃ K6, K6 = K4 ++ [(24, 5)] := ⟨_, rfl⟩
  have lK6 : K6.length = 61 := by rw [hK6, List.length_append, lK4]; rfl
  have pK6 : K6[45]? = some (0, 9) := by rw [hK6]; exact KM.app _ _ _ _ pK4
  obtain ⟨J7, hJ7⟩ : ∃ J7, J7 = zrI J3 (60) := ⟨_, rfl⟩
  obtain ⟨Q8, hQ8⟩ : ∃ Q8, Q8 = upR (zrR Q5 (60)) 45 1 (some (60)) := ⟨_, rfl⟩
  obtain ⟨K9, hK9⟩ : ∃ K9, K9 = K6 ++ [(20, 4)] := ⟨_, rfl⟩
  have lK9 : K9.length = 62 := by rw [hK9, List.length_append, lK6]; rfl
  have pK9 : K9[45]? = some (0, 9) := by rw [hK9]; exact KM.app _ _ _ _ pK6
  obtain ⟨J10, hJ10⟩ : ∃ J10, J10 = zrI J7 (61) := ⟨_, rfl⟩
  obtain ⟨Q11, hQ11⟩ : ∃ Q11, Q11 = upR (zrR Q8 (61)) 45 2 (some (61)) := ⟨_, rfl⟩
  obtain ⟨K12, hK12⟩ : ∃ K12, K12 = K9 ++ [(20, 4)] := ⟨_, rfl⟩
  have lK12 : K12.length = 63 := by rw [hK12, List.length_append, lK9]; rfl
  have pK12 : K12[45]? = some (0, 9) := by rw [hK12]; exact KM.app _ _ _ _ pK9
  obtain ⟨J13, hJ13⟩ : ∃ J13, J13 = zrI J10 (62) := ⟨_, rfl⟩
  obtain ⟨Q14, hQ14⟩ : ∃ Q14, Q14 = upR (zrR Q11 (62)) 45 3 (some (62)) := ⟨_, rfl⟩
  obtain ⟨J15, hJ15⟩ : ∃ J15, J15 = upI J13 45 4 (0) := ⟨_, rfl⟩
  obtain ⟨J16, hJ16⟩ : ∃ J16, J16 = upI J15 45 5 (0) := ⟨_, rfl⟩
  obtain ⟨J17, hJ17⟩ : ∃ J17, J17 = upI J16 45 6 (0) := ⟨_, rfl⟩
  obtain ⟨J18, hJ18⟩ : ∃ J18, J18 = upI J17 45 7 (-5) := ⟨_, rfl⟩
  obtain ⟨K19, hK19⟩ : ∃ K19, K19 = K12 ++ [(20, 64)] := ⟨_, rfl⟩
  have lK19 : K19.length = 64 := by rw [hK19, List.length_append, lK12]; rfl
  have pK19 : K19[45]? = some (0, 9) := by rw [hK19]; exact KM.app _ _ _ _ pK12
  obtain ⟨J20, hJ20⟩ : ∃ J20, J20 = zrI J18 (63) := ⟨_, rfl⟩
  obtain ⟨Q21, hQ21⟩ : ∃ Q21, Q21 = upR (zrR Q14 (63)) 45 8 (some (63)) := ⟨_, rfl⟩
  have ksa0 : K6[60]? = some (24, 5) := by
    rw [hK6, List.getElem?_append_right (by omega), lK4]
    rfl
  have kn1 : K19[60]? = some (24, 5) := by
    rw [hK19, hK12, hK9]
    exact KM.app _ _ _ _ (KM.app _ _ _ _ (KM.app _ _ _ _ (ksa0)))
  have rn2 : Q21 45 1 = some 60 := by
    rw [hQ21, upR_nj (by omega), zrR_ne (by omega), hQ14, upR_nj (by omega), zrR_ne (by omega), hQ11, upR_nj (by omega), zrR_ne (by omega), hQ8, upR_at]
  obtain ⟨K22, hK22⟩ : ∃ K22, K22 = K19 ++ [(10, 16)] := ⟨_, rfl⟩
  have lK22 : K22.length = 65 := by rw [hK22, List.length_append, lK19]; rfl
  have pK22 : K22[45]? = some (0, 9) := by rw [hK22]; exact KM.app _ _ _ _ pK19
  have u23 : K22[64]? = some (10, 16) := by
    rw [hK22, List.getElem?_append_right (by omega), lK19]
    exact congrArg (fun i => [((10 : Nat), (16 : Nat))][i]?) (Nat.sub_self (64))
  obtain ⟨J24, Q24, ef24, f24⟩ := c_in10 (X := X) (d := d) (K := K22) (I := zrI J20 (64)) (R := zrR Q21 (64)) u23 lK22
  obtain ⟨K25, hK25⟩ : ∃ K25, K25 = K22 ++ [(23, 6), (20, 6), (20, 6), (20, 6), (20, 6), (20, 6), (20, 24), (20, 6), (8, 10), (20, 10), (20, 10), (20, 100), (21, 0)] := ⟨_, rfl⟩
  have lK25 : K25.length = 78 := by rw [hK25, List.length_append, lK22]; rfl
  have pK25 : K25[45]? = some (0, 9) := by rw [hK25]; exact KM.app _ _ _ _ pK22
  rw [← hK25] at ef24
  have kn3 : K25[60]? = some (24, 5) := by
    rw [hK25, hK22, hK19, hK12, hK9]
    exact KM.app _ _ _ _ (KM.app _ _ _ _ (KM.app _ _ _ _ (KM.app _ _ _ _ (KM.app _ _ _ _ (ksa0)))))
  have kn4 : K25[64]? = some (10, 16) := by
    rw [hK25]
    exact KM.app _ _ _ _ (u23)
  obtain ⟨Q26, hQ26⟩ : ∃ Q26, Q26 = upR Q24 60 0 (some 64) := ⟨_, rfl⟩
  have kn5 : K25[60]? = some (24, 5) := by
    rw [hK25, hK22, hK19, hK12, hK9]
    exact KM.app _ _ _ _ (KM.app _ _ _ _ (KM.app _ _ _ _ (KM.app _ _ _ _ (KM.app _ _ _ _ (ksa0)))))
  have rn6 : Q26 45 1 = some 60 := by
    rw [hQ26, upR_ne (by omega), (f24.1 _ (by omega)).2, zrR_ne (by omega), hQ21, upR_nj (by omega), zrR_ne (by omega), hQ14, upR_nj (by omega), zrR_ne (by omega), hQ11, upR_nj (by omega), zrR_ne (by omega), hQ8, upR_at]
  obtain ⟨K27, hK27⟩ : ∃ K27, K27 = K25 ++ [(10, 16)] := ⟨_, rfl⟩
  have lK27 : K27.length = 79 := by rw [hK27, List.length_append, lK25]; rfl
  have pK27 : K27[45]? = some (0, 9) := by rw [hK27]; exact KM.app _ _ _ _ pK25
  have u28 : K27[78]? = some (10, 16) := by
    rw [hK27, List.getElem?_append_right (by omega), lK25]
    exact congrArg (fun i => [((10 : Nat), (16 : Nat))][i]?) (Nat.sub_self (78))
  obtain ⟨J29, Q29, ef29, f29⟩ := c_in10 (X := X) (d := d) (K := K27) (I := zrI J24 (78)) (R := zrR Q26 (78)) u28 lK27
  obtain ⟨K30, hK30⟩ : ∃ K30, K30 = K27 ++ [(23, 6), (20, 6), (20, 6), (20, 6), (20, 6), (20, 6), (20, 24), (20, 6), (8, 10), (20, 10), (20, 10), (20, 100), (21, 0)] := ⟨_, rfl⟩
  have lK30 : K30.length = 92 := by rw [hK30, List.length_append, lK27]; rfl
  have pK30 : K30[45]? = some (0, 9) := by rw [hK30]; exact KM.app _ _ _ _ pK27
  rw [← hK30] at ef29
  have kn7 : K30[60]? = some (24, 5) := by
    rw [hK30, hK27, hK25, hK22, hK19, hK12, hK9]
    exact KM.app _ _ _ _ (KM.app _ _ _ _ (KM.app _ _ _ _ (KM.app _ _ _ _ (KM.app _ _ _ _ (KM.app _ _ _ _ (KM.app _ _ _ _ (ksa0)))))))
  have kn8 : K30[78]? = some (10, 16) := by
    rw [hK30]
    exact KM.app _ _ _ _ (u28)
  obtain ⟨Q31, hQ31⟩ : ∃ Q31, Q31 = upR Q29 60 1 (some 78) := ⟨_, rfl⟩
  have kn9 : K30[60]? = some (24, 5) := by
    rw [hK30, hK27, hK25, hK22, hK19, hK12, hK9]
    exact KM.app _ _ _ _ (KM.app _ _ _ _ (KM.app _ _ _ _ (KM.app _ _ _ _ (KM.app _ _ _ _ (KM.app _ _ _ _ (KM.app _ _ _ _ (ksa0)))))))
  have rn10 : Q31 45 1 = some 60 := by
    rw [hQ31, upR_ne (by omega), (f29.1 _ (by omega)).2, zrR_ne (by omega), hQ26, upR_ne (by omega), (f24.1 _ (by omega)).2, zrR_ne (by omega), hQ21, upR_nj (by omega), zrR_ne (by omega), hQ14, upR_nj (by omega), zrR_ne (by omega), hQ11, upR_nj (by omega), zrR_ne (by omega), hQ8, upR_at]
  obtain ⟨K32, hK32⟩ : ∃ K32, K32 = K30 ++ [(10, 16)] := ⟨_, rfl⟩
  have lK32 : K32.length = 93 := by rw [hK32, List.length_append, lK30]; rfl
  have pK32 : K32[45]? = some (0, 9) := by rw [hK32]; exact KM.app _ _ _ _ pK30
  have u33 : K32[92]? = some (10, 16) := by
    rw [hK32, List.getElem?_append_right (by omega), lK30]
    exact congrArg (fun i => [((10 : Nat), (16 : Nat))][i]?) (Nat.sub_self (92))
  obtain ⟨J34, Q34, ef34, f34⟩ := c_in10 (X := X) (d := d) (K := K32) (I := zrI J29 (92)) (R := zrR Q31 (92)) u33 lK32
  obtain ⟨K35, hK35⟩ : ∃ K35, K35 = K32 ++ [(23, 6), (20, 6), (20, 6), (20, 6), (20, 6), (20, 6), (20, 24), (20, 6), (8, 10), (20, 10), (20, 10), (20, 100), (21, 0)] := ⟨_, rfl⟩
  have lK35 : K35.length = 106 := by rw [hK35, List.length_append, lK32]; rfl
  have pK35 : K35[45]? = some (0, 9) := by rw [hK35]; exact KM.app _ _ _ _ pK32
  rw [← hK35] at ef34
  have kn11 : K35[60]? = some (24, 5) := by
    rw [hK35, hK32, hK30, hK27, hK25, hK22, hK19, hK12, hK9]
    exact KM.app _ _ _ _ (KM.app _ _ _ _ (KM.app _ _ _ _ (KM.app _ _ _ _ (KM.app _ _ _ _ (KM.app _ _ _ _ (KM.app _ _ _ _ (KM.app _ _ _ _ (KM.app _ _ _ _ (ksa0)))))))))
  have kn12 : K35[92]? = some (10, 16) := by
    rw [hK35]
    exact KM.app _ _ _ _ (u33)
  obtain ⟨Q36, hQ36⟩ : ∃ Q36, Q36 = upR Q34 60 2 (some 92) := ⟨_, rfl⟩
  have kn13 : K35[60]? = some (24, 5) := by
    rw [hK35, hK32, hK30, hK27, hK25, hK22, hK19, hK12, hK9]
    exact KM.app _ _ _ _ (KM.app _ _ _ _ (KM.app _ _ _ _ (KM.app _ _ _ _ (KM.app _ _ _ _ (KM.app _ _ _ _ (KM.app _ _ _ _ (KM.app _ _ _ _ (KM.app _ _ _ _ (ksa0)))))))))
  have rn14 : Q36 45 1 = some 60 := by
    rw [hQ36, upR_ne (by omega), (f34.1 _ (by omega)).2, zrR_ne (by omega), hQ31, upR_ne (by omega), (f29.1 _ (by omega)).2, zrR_ne (by omega), hQ26, upR_ne (by omega), (f24.1 _ (by omega)).2, zrR_ne (by omega), hQ21, upR_nj (by omega), zrR_ne (by omega), hQ14, upR_nj (by omega), zrR_ne (by omega), hQ11, upR_nj (by omega), zrR_ne (by omega), hQ8, upR_at]
  obtain ⟨K37, hK37⟩ : ∃ K37, K37 = K35 ++ [(10, 16)] := ⟨_, rfl⟩
  have lK37 : K37.length = 107 := by rw [hK37, List.length_append, lK35]; rfl
  have pK37 : K37[45]? = some (0, 9) := by rw [hK37]; exact KM.app _ _ _ _ pK35
  have u38 : K37[106]? = some (10, 16) := by
    rw [hK37, List.getElem?_append_right (by omega), lK35]
    exact congrArg (fun i => [((10 : Nat), (16 : Nat))][i]?) (Nat.sub_self (106))
  obtain ⟨J39, Q39, ef39, f39⟩ := c_in10 (X := X) (d := d) (K := K37) (I := zrI J34 (106)) (R := zrR Q36 (106)) u38 lK37
  obtain ⟨K40, hK40⟩ : ∃ K40, K40 = K37 ++ [(23, 6), (20, 6), (20, 6), (20, 6), (20, 6), (20, 6), (20, 24), (20, 6), (8, 10), (20, 10), (20, 10), (20, 100), (21, 0)] := ⟨_, rfl⟩
  have lK40 : K40.length = 120 := by rw [hK40, List.length_append, lK37]; rfl
  have pK40 : K40[45]? = some (0, 9) := by rw [hK40]; exact KM.app _ _ _ _ pK37
  rw [← hK40] at ef39
  have kn15 : K40[60]? = some (24, 5) := by
    rw [hK40, hK37, hK35, hK32, hK30, hK27, hK25, hK22, hK19, hK12, hK9]
    exact KM.app _ _ _ _ (KM.app _ _ _ _ (KM.app _ _ _ _ (KM.app _ _ _ _ (KM.app _ _ _ _ (KM.app _ _ _ _ (KM.app _ _ _ _ (KM.app _ _ _ _ (KM.app _ _ _ _ (KM.app _ _ _ _ (KM.app _ _ _ _ (ksa0)))))))))))
  have kn16 : K40[106]? = some (10, 16) := by
    rw [hK40]
    exact KM.app _ _ _ _ (u38)
  obtain ⟨Q41, hQ41⟩ : ∃ Q41, Q41 = upR Q39 60 3 (some 106) := ⟨_, rfl⟩
  have kn17 : K40[60]? = some (24, 5) := by
    rw [hK40, hK37, hK35, hK32, hK30, hK27, hK25, hK22, hK19, hK12, hK9]
    exact KM.app _ _ _ _ (KM.app _ _ _ _ (KM.app _ _ _ _ (KM.app _ _ _ _ (KM.app _ _ _ _ (KM.app _ _ _ _ (KM.app _ _ _ _ (KM.app _ _ _ _ (KM.app _ _ _ _ (KM.app _ _ _ _ (KM.app _ _ _ _ (ksa0)))))))))))
  have rn18 : Q41 45 1 = some 60 := by
    rw [hQ41, upR_ne (by omega), (f39.1 _ (by omega)).2, zrR_ne (by omega), hQ36, upR_ne (by omega), (f34.1 _ (by omega)).2, zrR_ne (by omega), hQ31, upR_ne (by omega), (f29.1 _ (by omega)).2, zrR_ne (by omega), hQ26, upR_ne (by omega), (f24.1 _ (by omega)).2, zrR_ne (by omega), hQ21, upR_nj (by omega), zrR_ne (by omega), hQ14, upR_nj (by omega), zrR_ne (by omega), hQ11, upR_nj (by omega), zrR_ne (by omega), hQ8, upR_at]
  obtain ⟨K42, hK42⟩ : ∃ K42, K42 = K40 ++ [(10, 16)] := ⟨_, rfl⟩
  have lK42 : K42.length = 121 := by rw [hK42, List.length_append, lK40]; rfl
  have pK42 : K42[45]? = some (0, 9) := by rw [hK42]; exact KM.app _ _ _ _ pK40
  have u43 : K42[120]? = some (10, 16) := by
    rw [hK42, List.getElem?_append_right (by omega), lK40]
    exact congrArg (fun i => [((10 : Nat), (16 : Nat))][i]?) (Nat.sub_self (120))
  obtain ⟨J44, Q44, ef44, f44⟩ := c_in10 (X := X) (d := d) (K := K42) (I := zrI J39 (120)) (R := zrR Q41 (120)) u43 lK42
  obtain ⟨K45, hK45⟩ : ∃ K45, K45 = K42 ++ [(23, 6), (20, 6), (20, 6), (20, 6), (20, 6), (20, 6), (20, 24), (20, 6), (8, 10), (20, 10), (20, 10), (20, 100), (21, 0)] := ⟨_, rfl⟩
  have lK45 : K45.length = 134 := by rw [hK45, List.length_append, lK42]; rfl
  have pK45 : K45[45]? = some (0, 9) := by rw [hK45]; exact KM.app _ _ _ _ pK42
  rw [← hK45] at ef44
  have kn19 : K45[60]? = some (24, 5) := by
    rw [hK45, hK42, hK40, hK37, hK35, hK32, hK30, hK27, hK25, hK22, hK19, hK12, hK9]
    exact KM.app _ _ _ _ (KM.app _ _ _ _ (KM.app _ _ _ _ (KM.app _ _ _ _ (KM.app _ _ _ _ (KM.app _ _ _ _ (KM.app _ _ _ _ (KM.app _ _ _ _ (KM.app _ _ _ _ (KM.app _ _ _ _ (KM.app _ _ _ _ (KM.app _ _ _ _ (KM.app _ _ _ _ (ksa0)))))))))))))
  have kn20 : K45[120]? = some (10, 16) := by
    rw [hK45]
    exact KM.app _ _ _ _ (u43)
  obtain ⟨Q46, hQ46⟩ : ∃ Q46, Q46 = upR Q44 60 4 (some 120) := ⟨_, rfl⟩
  have kn21 : K45[60]? = some (24, 5) := by
    rw [hK45, hK42, hK40, hK37, hK35, hK32, hK30, hK27, hK25, hK22, hK19, hK12, hK9]
    exact KM.app _ _ _ _ (KM.app _ _ _ _ (KM.app _ _ _ _ (KM.app _ _ _ _ (KM.app _ _ _ _ (KM.app _ _ _ _ (KM.app _ _ _ _ (KM.app _ _ _ _ (KM.app _ _ _ _ (KM.app _ _ _ _ (KM.app _ _ _ _ (KM.app _ _ _ _ (KM.app _ _ _ _ (ksa0)))))))))))))
  have rn22 : Q46 45 1 = some 60 := by
    rw [hQ46, upR_ne (by omega), (f44.1 _ (by omega)).2, zrR_ne (by omega), hQ41, upR_ne (by omega), (f39.1 _ (by omega)).2, zrR_ne (by omega), hQ36, upR_ne (by omega), (f34.1 _ (by omega)).2, zrR_ne (by omega), hQ31, upR_ne (by omega), (f29.1 _ (by omega)).2, zrR_ne (by omega), hQ26, upR_ne (by omega), (f24.1 _ (by omega)).2, zrR_ne (by omega), hQ21, upR_nj (by omega), zrR_ne (by omega), hQ14, upR_nj (by omega), zrR_ne (by omega), hQ11, upR_nj (by omega), zrR_ne (by omega), hQ8, upR_at]
  have eK : K45 = K ++ AsL := by
    rw [hK45, hK42, hK40, hK37, hK35, hK32, hK30, hK27, hK25, hK22, hK19, hK12, hK9, hK6, hK4, hK1]
    simp only [List.append_assoc]
    rfl
  rw [← eK]
  refine ⟨J44, Q46, ?_, fun c hc => ⟨?_, ?_⟩, ?_, ?_, ?_, ?_, ?_, ?_, ?_, ?_, ?_, ?_, f3.2.1.fr (fun c c1 c2 => by rw [hQ46, upR_ne (by omega), (f44.1 _ (by omega)).2, zrR_ne (by omega), hQ41, upR_ne (by omega), (f39.1 _ (by omega)).2, zrR_ne (by omega), hQ36, upR_ne (by omega), (f34.1 _ (by omega)).2, zrR_ne (by omega), hQ31, upR_ne (by omega), (f29.1 _ (by omega)).2, zrR_ne (by omega), hQ26, upR_ne (by omega), (f24.1 _ (by omega)).2, zrR_ne (by omega), hQ21, upR_ne (by omega), zrR_ne (by omega), hQ14, upR_ne (by omega), zrR_ne (by omega), hQ11, upR_ne (by omega), zrR_ne (by omega), hQ8, upR_ne (by omega), zrR_ne (by omega), hQ5, upR_ne (by omega)]), f24.2.1.fr (fun c c1 c2 => by rw [hQ46, upR_ne (by omega), (f44.1 _ (by omega)).2, zrR_ne (by omega), hQ41, upR_ne (by omega), (f39.1 _ (by omega)).2, zrR_ne (by omega), hQ36, upR_ne (by omega), (f34.1 _ (by omega)).2, zrR_ne (by omega), hQ31, upR_ne (by omega), (f29.1 _ (by omega)).2, zrR_ne (by omega), hQ26, upR_ne (by omega)]), f29.2.1.fr (fun c c1 c2 => by rw [hQ46, upR_ne (by omega), (f44.1 _ (by omega)).2, zrR_ne (by omega), hQ41, upR_ne (by omega), (f39.1 _ (by omega)).2, zrR_ne (by omega), hQ36, upR_ne (by omega), (f34.1 _ (by omega)).2, zrR_ne (by omega), hQ31, upR_ne (by omega)]), f34.2.1.fr (fun c c1 c2 => by rw [hQ46, upR_ne (by omega), (f44.1 _ (by omega)).2, zrR_ne (by omega), hQ41, upR_ne (by omega), (f39.1 _ (by omega)).2, zrR_ne (by omega), hQ36, upR_ne (by omega)]), f39.2.1.fr (fun c c1 c2 => by rw [hQ46, upR_ne (by omega), (f44.1 _ (by omega)).2, zrR_ne (by omega), hQ41, upR_ne (by omega)]), f44.2.1.fr (fun c c1 c2 => by rw [hQ46, upR_ne (by omega)])⟩
  · iterate 2 refine Ev.p rfl rfl ?_
    iterate 1 refine Ev.p rfl rfl ?_
    refine Ev.nw (by rfl) lK ?_
    rw [← hK1]
    iterate 1 refine Ev.p rfl rfl ?_
    refine Ev.csp (by rfl) (by rfl) (by rfl) u2 (by rfl) (by rfl) (by rfl) (by rfl) ef3 ?_
    refine Ev.pr (by rfl) (by rfl) pK4 (by rfl) ?_
    rw [← hQ5]
    iterate 2 refine Ev.p rfl rfl ?_
    refine Ev.naa (m := 5) (by rfl) (by rfl) (by rfl) lK4 ?_
    rw [← hK6, ← hJ7]
    refine Ev.pr (by rfl) (by rfl) pK6 (by rfl) ?_
    rw [← hQ8]
    iterate 2 refine Ev.p rfl rfl ?_
    refine Ev.na (m := 4) (by rfl) (by rfl) (by rfl) lK6 ?_
    rw [← hK9, ← hJ10]
    refine Ev.pr (by rfl) (by rfl) pK9 (by rfl) ?_
    rw [← hQ11]
    iterate 2 refine Ev.p rfl rfl ?_
    refine Ev.na (m := 4) (by rfl) (by rfl) (by rfl) lK9 ?_
    rw [← hK12, ← hJ13]
    refine Ev.pr (by rfl) (by rfl) pK12 (by rfl) ?_
    rw [← hQ14]
    iterate 2 refine Ev.p rfl rfl ?_
    refine Ev.pi (by rfl) (by rfl) pK12 (by rfl) ?_
    rw [← hJ15]
    iterate 2 refine Ev.p rfl rfl ?_
    refine Ev.pi (by rfl) (by rfl) pK12 (by rfl) ?_
    rw [← hJ16]
    iterate 2 refine Ev.p rfl rfl ?_
    refine Ev.pi (by rfl) (by rfl) pK12 (by rfl) ?_
    rw [← hJ17]
    iterate 2 refine Ev.p rfl rfl ?_
    refine Ev.pi (by rfl) (by rfl) pK12 (by rfl) ?_
    rw [← hJ18]
    iterate 2 refine Ev.p rfl rfl ?_
    refine Ev.na (m := 64) (by rfl) (by rfl) (by rfl) lK12 ?_
    rw [← hK19, ← hJ20]
    refine Ev.pr (by rfl) (by rfl) pK19 (by rfl) ?_
    rw [← hQ21]
    iterate 2 refine Ev.p rfl rfl ?_
    refine Ev.ls (ls2 := [some (.ref 45), some (.int 0)]) rfl ?_
    refine Ev.at (q := 68) rfl ?_
    iterate 2 refine Ev.p rfl rfl ?_
    refine Ev.gr (by rfl) (by rfl) pK19 (by rfl) rn2 ?_
    refine Ev.alen (by rfl) kn1 (by rfl) ?_
    refine Ev.p (pc' := 77) rfl rfl ?_
    iterate 1 refine Ev.p rfl rfl ?_
    refine Ev.gr (by rfl) (by rfl) pK19 (by rfl) rn2 ?_
    iterate 1 refine Ev.p rfl rfl ?_
    refine Ev.nw (by rfl) lK19 ?_
    rw [← hK22]
    iterate 1 refine Ev.p rfl rfl ?_
    refine Ev.csp (by rfl) (by rfl) (by rfl) u23 (by rfl) (by rfl) (by rfl) (by rfl) ef24 ?_
    refine Ev.aast (j := 0) (by rfl) kn3 kn4 (by rfl) (by rfl) (by omega) (by omega) ?_
    rw [← hQ26]
    iterate 2 refine Ev.p rfl rfl ?_
    refine Ev.ls (ls2 := [some (.ref 45), some (.int 1)]) rfl ?_
    refine Ev.at (q := 68) rfl ?_
    iterate 2 refine Ev.p rfl rfl ?_
    refine Ev.gr (by rfl) (by rfl) pK25 (by rfl) rn6 ?_
    refine Ev.alen (by rfl) kn5 (by rfl) ?_
    refine Ev.p (pc' := 77) rfl rfl ?_
    iterate 1 refine Ev.p rfl rfl ?_
    refine Ev.gr (by rfl) (by rfl) pK25 (by rfl) rn6 ?_
    iterate 1 refine Ev.p rfl rfl ?_
    refine Ev.nw (by rfl) lK25 ?_
    rw [← hK27]
    iterate 1 refine Ev.p rfl rfl ?_
    refine Ev.csp (by rfl) (by rfl) (by rfl) u28 (by rfl) (by rfl) (by rfl) (by rfl) ef29 ?_
    refine Ev.aast (j := 1) (by rfl) kn7 kn8 (by rfl) (by rfl) (by omega) (by omega) ?_
    rw [← hQ31]
    iterate 2 refine Ev.p rfl rfl ?_
    refine Ev.ls (ls2 := [some (.ref 45), some (.int 2)]) rfl ?_
    refine Ev.at (q := 68) rfl ?_
    iterate 2 refine Ev.p rfl rfl ?_
    refine Ev.gr (by rfl) (by rfl) pK30 (by rfl) rn10 ?_
    refine Ev.alen (by rfl) kn9 (by rfl) ?_
    refine Ev.p (pc' := 77) rfl rfl ?_
    iterate 1 refine Ev.p rfl rfl ?_
    refine Ev.gr (by rfl) (by rfl) pK30 (by rfl) rn10 ?_
    iterate 1 refine Ev.p rfl rfl ?_
    refine Ev.nw (by rfl) lK30 ?_
    rw [← hK32]
    iterate 1 refine Ev.p rfl rfl ?_
    refine Ev.csp (by rfl) (by rfl) (by rfl) u33 (by rfl) (by rfl) (by rfl) (by rfl) ef34 ?_
    refine Ev.aast (j := 2) (by rfl) kn11 kn12 (by rfl) (by rfl) (by omega) (by omega) ?_
    rw [← hQ36]
    iterate 2 refine Ev.p rfl rfl ?_
    refine Ev.ls (ls2 := [some (.ref 45), some (.int 3)]) rfl ?_
    refine Ev.at (q := 68) rfl ?_
    iterate 2 refine Ev.p rfl rfl ?_
    refine Ev.gr (by rfl) (by rfl) pK35 (by rfl) rn14 ?_
    refine Ev.alen (by rfl) kn13 (by rfl) ?_
    refine Ev.p (pc' := 77) rfl rfl ?_
    iterate 1 refine Ev.p rfl rfl ?_
    refine Ev.gr (by rfl) (by rfl) pK35 (by rfl) rn14 ?_
    iterate 1 refine Ev.p rfl rfl ?_
    refine Ev.nw (by rfl) lK35 ?_
    rw [← hK37]
    iterate 1 refine Ev.p rfl rfl ?_
    refine Ev.csp (by rfl) (by rfl) (by rfl) u38 (by rfl) (by rfl) (by rfl) (by rfl) ef39 ?_
    refine Ev.aast (j := 3) (by rfl) kn15 kn16 (by rfl) (by rfl) (by omega) (by omega) ?_
    rw [← hQ41]
    iterate 2 refine Ev.p rfl rfl ?_
    refine Ev.ls (ls2 := [some (.ref 45), some (.int 4)]) rfl ?_
    refine Ev.at (q := 68) rfl ?_
    iterate 2 refine Ev.p rfl rfl ?_
    refine Ev.gr (by rfl) (by rfl) pK40 (by rfl) rn18 ?_
    refine Ev.alen (by rfl) kn17 (by rfl) ?_
    refine Ev.p (pc' := 77) rfl rfl ?_
    iterate 1 refine Ev.p rfl rfl ?_
    refine Ev.gr (by rfl) (by rfl) pK40 (by rfl) rn18 ?_
    iterate 1 refine Ev.p rfl rfl ?_
    refine Ev.nw (by rfl) lK40 ?_
    rw [← hK42]
    iterate 1 refine Ev.p rfl rfl ?_
    refine Ev.csp (by rfl) (by rfl) (by rfl) u43 (by rfl) (by rfl) (by rfl) (by rfl) ef44 ?_
    refine Ev.aast (j := 4) (by rfl) kn19 kn20 (by rfl) (by rfl) (by omega) (by omega) ?_
    rw [← hQ46]
    iterate 2 refine Ev.p rfl rfl ?_
    refine Ev.ls (ls2 := [some (.ref 45), some (.int 5)]) rfl ?_
    refine Ev.at (q := 68) rfl ?_
    iterate 2 refine Ev.p rfl rfl ?_
    refine Ev.gr (by rfl) (by rfl) pK45 (by rfl) rn22 ?_
    refine Ev.alen (by rfl) kn21 (by rfl) ?_
    refine Ev.p (pc' := 96) rfl rfl ?_
    ((repeat refine Ev.p rfl rfl ?_); exact Ev.r rfl)
  · rw [(f44.1 _ (by omega)).1, zrI_ne (by omega), (f39.1 _ (by omega)).1, zrI_ne (by omega), (f34.1 _ (by omega)).1, zrI_ne (by omega), (f29.1 _ (by omega)).1, zrI_ne (by omega), (f24.1 _ (by omega)).1, zrI_ne (by omega), hJ20, zrI_ne (by omega), hJ18, upI_ne (by omega), hJ17, upI_ne (by omega), hJ16, upI_ne (by omega), hJ15, upI_ne (by omega), hJ13, zrI_ne (by omega), hJ10, zrI_ne (by omega), hJ7, zrI_ne (by omega), (f3.1 _ (by omega)).1, zrI_ne (by omega)]
  · rw [hQ46, upR_ne (by omega), (f44.1 _ (by omega)).2, zrR_ne (by omega), hQ41, upR_ne (by omega), (f39.1 _ (by omega)).2, zrR_ne (by omega), hQ36, upR_ne (by omega), (f34.1 _ (by omega)).2, zrR_ne (by omega), hQ31, upR_ne (by omega), (f29.1 _ (by omega)).2, zrR_ne (by omega), hQ26, upR_ne (by omega), (f24.1 _ (by omega)).2, zrR_ne (by omega), hQ21, upR_ne (by omega), zrR_ne (by omega), hQ14, upR_ne (by omega), zrR_ne (by omega), hQ11, upR_ne (by omega), zrR_ne (by omega), hQ8, upR_ne (by omega), zrR_ne (by omega), hQ5, upR_ne (by omega), (f3.1 _ (by omega)).2, zrR_ne (by omega)]
  · rw [hQ46, upR_ne (by omega), (f44.1 _ (by omega)).2, zrR_ne (by omega), hQ41, upR_ne (by omega), (f39.1 _ (by omega)).2, zrR_ne (by omega), hQ36, upR_ne (by omega), (f34.1 _ (by omega)).2, zrR_ne (by omega), hQ31, upR_ne (by omega), (f29.1 _ (by omega)).2, zrR_ne (by omega), hQ26, upR_ne (by omega), (f24.1 _ (by omega)).2, zrR_ne (by omega), hQ21, upR_nj (by omega), zrR_ne (by omega), hQ14, upR_nj (by omega), zrR_ne (by omega), hQ11, upR_nj (by omega), zrR_ne (by omega), hQ8, upR_nj (by omega), zrR_ne (by omega), hQ5, upR_at]
  · rw [hQ46, upR_ne (by omega), (f44.1 _ (by omega)).2, zrR_ne (by omega), hQ41, upR_ne (by omega), (f39.1 _ (by omega)).2, zrR_ne (by omega), hQ36, upR_ne (by omega), (f34.1 _ (by omega)).2, zrR_ne (by omega), hQ31, upR_ne (by omega), (f29.1 _ (by omega)).2, zrR_ne (by omega), hQ26, upR_ne (by omega), (f24.1 _ (by omega)).2, zrR_ne (by omega), hQ21, upR_nj (by omega), zrR_ne (by omega), hQ14, upR_nj (by omega), zrR_ne (by omega), hQ11, upR_nj (by omega), zrR_ne (by omega), hQ8, upR_at]
  · rw [hQ46, upR_ne (by omega), (f44.1 _ (by omega)).2, zrR_ne (by omega), hQ41, upR_ne (by omega), (f39.1 _ (by omega)).2, zrR_ne (by omega), hQ36, upR_ne (by omega), (f34.1 _ (by omega)).2, zrR_ne (by omega), hQ31, upR_ne (by omega), (f29.1 _ (by omega)).2, zrR_ne (by omega), hQ26, upR_ne (by omega), (f24.1 _ (by omega)).2, zrR_ne (by omega), hQ21, upR_nj (by omega), zrR_ne (by omega), hQ14, upR_nj (by omega), zrR_ne (by omega), hQ11, upR_at]
  · rw [hQ46, upR_ne (by omega), (f44.1 _ (by omega)).2, zrR_ne (by omega), hQ41, upR_ne (by omega), (f39.1 _ (by omega)).2, zrR_ne (by omega), hQ36, upR_ne (by omega), (f34.1 _ (by omega)).2, zrR_ne (by omega), hQ31, upR_ne (by omega), (f29.1 _ (by omega)).2, zrR_ne (by omega), hQ26, upR_ne (by omega), (f24.1 _ (by omega)).2, zrR_ne (by omega), hQ21, upR_nj (by omega), zrR_ne (by omega), hQ14, upR_at]
  · rw [hQ46, upR_ne (by omega), (f44.1 _ (by omega)).2, zrR_ne (by omega), hQ41, upR_ne (by omega), (f39.1 _ (by omega)).2, zrR_ne (by omega), hQ36, upR_ne (by omega), (f34.1 _ (by omega)).2, zrR_ne (by omega), hQ31, upR_ne (by omega), (f29.1 _ (by omega)).2, zrR_ne (by omega), hQ26, upR_ne (by omega), (f24.1 _ (by omega)).2, zrR_ne (by omega), hQ21, upR_at]
  · rw [hQ46, upR_nj (by omega), (f44.1 _ (by omega)).2, zrR_ne (by omega), hQ41, upR_nj (by omega), (f39.1 _ (by omega)).2, zrR_ne (by omega), hQ36, upR_nj (by omega), (f34.1 _ (by omega)).2, zrR_ne (by omega), hQ31, upR_nj (by omega), (f29.1 _ (by omega)).2, zrR_ne (by omega), hQ26, upR_at]
  · rw [hQ46, upR_nj (by omega), (f44.1 _ (by omega)).2, zrR_ne (by omega), hQ41, upR_nj (by omega), (f39.1 _ (by omega)).2, zrR_ne (by omega), hQ36, upR_nj (by omega), (f34.1 _ (by omega)).2, zrR_ne (by omega), hQ31, upR_at]
  · rw [hQ46, upR_nj (by omega), (f44.1 _ (by omega)).2, zrR_ne (by omega), hQ41, upR_nj (by omega), (f39.1 _ (by omega)).2, zrR_ne (by omega), hQ36, upR_at]
  · rw [hQ46, upR_nj (by omega), (f44.1 _ (by omega)).2, zrR_ne (by omega), hQ41, upR_at]
  · rw [hQ46, upR_at]
end CTOR2
