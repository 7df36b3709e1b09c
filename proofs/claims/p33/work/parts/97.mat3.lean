/-! A CALL OF THE LAW: matter, both sides -/
section MATTER2
variable {X : Nat × (Nat → Int32)} {d : Nat} {K : List (Nat × Nat)} {T : List (Nat × Nat)} {I : Nat → Nat → Int32} {R : Nat → Nat → Option Nat} {s : Nat → Int32} {n e kk L : Nat} {hd : Option Nat} {cls : Cls} {l : List Int32} {im : Option Img} {x y : Int32}
theorem maI_o {c : Nat} (h : c ≠ L) (h1 : c ≠ 1) (h3 : c ≠ 3) (h4 : c ≠ 4) : maI I L n x y c = I c := by
  unfold maI
  rw [upI_ne h1, upI_ne h4, upI_ne h3, upI_ne h, upI_ne h, upI_ne h]
  funext j
  unfold zrI
  rw [if_neg h]
theorem maI_1 (h : 4 < L) : maI I L n x y 1 = upd (I 1) 8 (nI (n + 1)) := by
  unfold maI
  rw [upI_eq, upI_ne (by omega), upI_ne (by omega), upI_ne (by omega), upI_ne (by omega), upI_ne (by omega)]
  congr 1
  funext j
  unfold zrI
  rw [if_neg (by omega)]
theorem maI_3 (h : 4 < L) : maI I L n x y 3 = upd (I 3) n x := by
  unfold maI
  rw [upI_ne (by omega), upI_ne (by omega), upI_eq, upI_ne (by omega), upI_ne (by omega), upI_ne (by omega)]
  congr 1
  funext j
  unfold zrI
  rw [if_neg (by omega)]
theorem maI_4 (h : 4 < L) : maI I L n x y 4 = upd (I 4) n y := by
  unfold maI
  rw [upI_ne (by omega), upI_eq, upI_ne (by omega), upI_ne (by omega), upI_ne (by omega), upI_ne (by omega)]
  congr 1
  funext j
  unfold zrI
  rw [if_neg (by omega)]
theorem maI_L0 (h : 4 < L) : maI I L n x y L 0 = nI n := by
  unfold maI
  rw [upI_ne (by omega), upI_ne (by omega), upI_ne (by omega), upI_eq, upd_ne (by omega), upI_eq, upd_ne (by omega), upI_eq, upd_at]
theorem maI_L2 (h : 4 < L) : maI I L n x y L 2 = y := by
  unfold maI
  rw [upI_ne (by omega), upI_ne (by omega), upI_ne (by omega), upI_eq, upd_at]
theorem maR_o {c : Nat} (h : c ≠ L) (h2 : c ≠ 2) : maR R L n c = R c := by
  unfold maR
  rw [upR_ne h2, upR_ne h]
  funext j
  unfold zrR
  rw [if_neg h]
theorem maR_2 (h : 4 < L) (j : Nat) : maR R L n 2 j = if j = n then some L else R 2 j := by
  show (if 2 = 2 ∧ j = n then some L else upR (zrR R L) L 3 (some 134) 2 j) = _
  by_cases g : j = n
  · rw [if_pos ⟨rfl, g⟩, if_pos g]
  · rw [if_neg (fun q => g q.2), if_neg g, upR_ne (by omega)]
    unfold zrR
    rw [if_neg (by omega)]
theorem maR_L (h : 4 < L) : maR R L n L 3 = some 134 := by
  show (if L = 2 ∧ 3 = n then some L else if L = L ∧ 3 = 3 then some 134 else zrR R L L 3) = _
  rw [if_neg (fun q => by omega), if_pos ⟨rfl, rfl⟩]
theorem mk_x {f g : Nat → Bool} {n : Nat} (h : ∀ p, p < n → f p = g p) (hn : f n = false) : mk f (n + 1) = mk g n := by
  show mk f n + (if f n = true then 2 ^ n else 0) = _
  rw [hn, if_neg (by decide), mk_ext h]
  rfl
theorem VH.mat (hF : FX K R) (hl : 140 ≤ K.length) (hVH : VH K I R 1 15 s n hd cls) (hn : n < 6) (hkk : kk ≤ 6) : VH (K ++ [(kt kk, 4)]) (maI I K.length n (nI kk) y) (maR R K.length n) 1 15 (rMat s n (nI kk) y) (n + 1) hd cls := by
  have hno := hF.uc
  have h136 : K[134]? = some (20, 21) := hF.2.2.2.2.2.2.2.2.2.2.2.2.2.2.2.2.2
  have fv1 := hF.2.2.2.2.2.2.2.1
  obtain ⟨L, hL⟩ : ∃ L, L = K.length := ⟨_, rfl⟩
  rw [← hL]
  obtain ⟨K1, hK1⟩ : ∃ K1, K1 = K ++ [(kt kk, 4)] := ⟨_, rfl⟩
  have km : KM K K1 := by rw [hK1]; exact KM.app K _
  have hm : K1[L]? = some (kt kk, 4) := by
    rw [hK1, List.getElem?_append_right (by omega), hL, Nat.sub_self]
    rfl
  rw [← hK1]
  obtain ⟨J, hJ⟩ : ∃ J, J = maI I L n (nI kk) y := ⟨_, rfl⟩
  obtain ⟨Q, hQ⟩ : ∃ Q, Q = maR R L n := ⟨_, rfl⟩
  have h4 : 4 < L := by omega
  have jo : ∀ c, c ≠ L → c ≠ 1 → c ≠ 3 → c ≠ 4 → J c = I c := fun c c1 c2 c3 c4 => by rw [hJ]; exact maI_o c1 c2 c3 c4
  have qo : ∀ c, c ≠ L → c ≠ 2 → Q c = R c := fun c c1 c2 => by rw [hQ]; exact maR_o c1 c2
  have j1 : ∀ j, j ≠ 8 → J 1 j = I 1 j := fun j hj => by rw [hJ, maI_1 h4, upd_ne hj]
  have j18 : J 1 8 = nI (n + 1) := by rw [hJ, maI_1 h4, upd_at]
  have j3 : J 3 = upd (I 3) n (nI kk) := by rw [hJ]; exact maI_3 h4
  have j4 : J 4 = upd (I 4) n y := by rw [hJ]; exact maI_4 h4
  have jL0 : J L 0 = nI n := by rw [hJ]; exact maI_L0 h4
  have jL2 : J L 2 = y := by rw [hJ]; exact maI_L2 h4
  have q2 : ∀ j, j ≠ n → Q 2 j = R 2 j := fun j hj => by rw [hQ, maR_2 h4, if_neg hj]
  have q2n : Q 2 n = some L := by rw [hQ, maR_2 h4, if_pos rfl]
  have qL : Q L 3 = some 134 := by rw [hQ]; exact maR_L h4
  rw [← hJ, ← hQ]
  have lk : ∀ (c : Nat) (y : Nat × Nat), K[c]? = some y → c ≠ L := fun c y h => by
    have := (List.getElem?_eq_some_iff.mp h).1
    omega
  -- cells of objects and stations
  have tg : ∀ c t z, K[c]? = some (t, z) → ((t < 13 ∧ z = 4) ∨ (t = 8 ∧ z = 10) ∨ (t = 20 ∧ z = 10) ∨ (t = 20 ∧ z = 100)) → J c = I c ∧ Q c = R c := fun c t z hk hz => by
    have h1 := hno c t z hk hz
    exact ⟨jo c (lk c _ hk) (fun g => h1 (by unfold UC; omega)) (fun g => h1 (by unfold UC; omega)) (fun g => h1 (by unfold UC; omega)), qo c (lk c _ hk) (fun g => h1 (by unfold UC; omega))⟩
  have mo : ∀ j, j ≠ 26 → j ≠ 33 + n → j ≠ 39 + n → j ≠ 69 + n → j ≠ 2 + n → j ≠ 8 + n → j ≠ 14 + n → j ≠ 20 + n → (j < 45 + 4 * n ∨ 49 + 4 * n ≤ j) → rMat s n (nI kk) y j = s j := fun j a0 a1 a2 a3 a4 a5 a6 a7 a8 => rMat_o hn a0 a1 a2 a3 a4 a5 a6 a7 a8
  have mh : ∀ j, 27 ≤ j → ¬ (33 ≤ j ∧ j < 75) → rMat s n (nI kk) y j = s j := fun j a1 a2 => rMat_h hn a1 a2
  obtain ⟨⟨g1, ⟨v8, v9, v10, v11, v12, vk, vv, va, vt, vh, vr⟩, g3, g4, ⟨q, g5, g6⟩, g7⟩, b2, b3, b4, m1, m2, m3, m5, m6, m7, m8, m9⟩ := hVH
  obtain ⟨z1, z2, z3, z4⟩ := b3 n (by omega) hn
  refine ⟨⟨?_, ⟨j18, ?_, ?_, ?_, ?_, fun p hp => ?_, fun p hp => ?_, fun p hp => ?_, fun p hp => ?_, fun p hp => ?_, fun p k hp hk => ?_⟩, fun p hp => ?_, fun i i1 i2 => ?_, ⟨q, ?_, ?_⟩, ?_⟩, ?_, fun p p1 p2 => ?_, fun p hp => ?_, ?_, ?_, ?_, ?_, fun j hj => ?_, fun k hk => ?_, fun k hk => ?_, ?_⟩
  · have := fv1.r (R' := Q) (fun j _ => by rw [qo 1 (by omega) (by omega)])
    obtain ⟨a0, a1, a2, a3, a4, a5, a6, a7, a8, r⟩ := this
    exact ⟨km _ _ a0, km _ _ a1, km _ _ a2, km _ _ a3, km _ _ a4, km _ _ a5, km _ _ a6, km _ _ a7, km _ _ a8, r⟩
  · rw [j1 9 (by omega), v9]
    congr 1
    refine (mk_x (fun p hp => ?_) ?_).symm
    · unfold sett
      rw [mo (14 + p) (by omega) (by omega) (by omega) (by omega) (by omega) (by omega) (by omega) (by omega) (by omega)]
    · unfold sett
      rw [rMat_14 hn]
      rfl
  · rw [j1 10 (by omega), v10]
    congr 1
    refine (mk_x (fun p hp => ?_) ?_).symm
    · unfold shel
      rw [mo (20 + p) (by omega) (by omega) (by omega) (by omega) (by omega) (by omega) (by omega) (by omega) (by omega)]
    · unfold shel
      rw [rMat_20 hn]
      rfl
  · rw [j1 11 (by omega), mo 1 (by omega) (by omega) (by omega) (by omega) (by omega) (by omega) (by omega) (by omega) (by omega)]; exact v11
  · rw [j1 12 (by omega), mo 0 (by omega) (by omega) (by omega) (by omega) (by omega) (by omega) (by omega) (by omega) (by omega)]; exact v12
  · rw [show 1 + 2 = 3 from rfl, j3]
    by_cases g : p = n
    · rw [g, upd_at, rMat_33 hn]
    · rw [upd_ne g, mo (33 + p) (by omega) (by omega) (by omega) (by omega) (by omega) (by omega) (by omega) (by omega) (by omega)]; exact vk p (by omega)
  · rw [show 1 + 3 = 4 from rfl, j4]
    by_cases g : p = n
    · rw [g, upd_at, rMat_39 hn]
    · rw [upd_ne g, mo (39 + p) (by omega) (by omega) (by omega) (by omega) (by omega) (by omega) (by omega) (by omega) (by omega)]; exact vv p (by omega)
  · rw [jo (1 + 4) (by omega) (by omega) (by omega) (by omega)]
    by_cases g : p = n
    · rw [g, rMat_2 hn]; exact z1
    · rw [mo (2 + p) (by omega) (by omega) (by omega) (by omega) (by omega) (by omega) (by omega) (by omega) (by omega)]; exact va p (by omega)
  · rw [jo (1 + 5) (by omega) (by omega) (by omega) (by omega)]
    by_cases g : p = n
    · rw [g, rMat_8 hn]; exact z2
    · rw [mo (8 + p) (by omega) (by omega) (by omega) (by omega) (by omega) (by omega) (by omega) (by omega) (by omega)]; exact vt p (by omega)
  · rw [jo (1 + 6) (by omega) (by omega) (by omega) (by omega)]
    by_cases g : p = n
    · rw [g, rMat_69 hn]; exact z3
    · rw [mo (69 + p) (by omega) (by omega) (by omega) (by omega) (by omega) (by omega) (by omega) (by omega) (by omega)]; exact vh p (by omega)
  · rw [jo (1 + 7) (by omega) (by omega) (by omega) (by omega)]
    by_cases g : p = n
    · rw [g, rMat_45 hn hk]; exact z4 k hk
    · rw [mo (45 + 4 * p + k) (by omega) (by omega) (by omega) (by omega) (by omega) (by omega) (by omega) (by omega) (by omega)]; exact vr p k (by omega) hk
  · by_cases g : p = n
    · rw [g]; exact ⟨L, kk, q2n, hkk, rMat_33 hn, hm, jL0⟩
    · obtain ⟨m, k', a1, a2, a3, a4, a5⟩ := g3 p (by omega)
      have em := tg m _ 4 a4 (Or.inl ⟨kt_lt k', rfl⟩)
      exact ⟨m, k', (q2 p g).trans a1, a2, (mo (33 + p) (by omega) (by omega) (by omega) (by omega) (by omega) (by omega) (by omega) (by omega) (by omega)).trans a3, km _ _ a4, by rw [em.1]; exact a5⟩
  · exact (q2 i (by omega)).trans (g4 i (by omega) i2)
  · rw [qo 1 (by omega) (by omega)]; exact g5
  · have t1 := tg _ _ _ g6.1 (by omega)
    have t2 := tg _ _ _ g6.2.1 (by omega)
    have t3 := tg _ _ _ g6.2.2.1 (by omega)
    have t4 := tg _ _ _ g6.2.2.2.1 (by omega)
    have h := g6.fr t1.1 t2.1 t3.1 t4.1
    refine stC.km ?_ km
    rw [mat_T hn hd (by omega)]
    unfold stC at h ⊢
    rw [t1.2]
    exact h
  · rw [j1 13 (by omega), mat_T hn hd (by omega)]; exact g7
  · rw [j1 15 (by omega), mh 27 (by omega) (by omega)]; exact b2
  · rw [jo (1 + 4) (by omega) (by omega) (by omega) (by omega), jo (1 + 5) (by omega) (by omega) (by omega) (by omega), jo (1 + 6) (by omega) (by omega) (by omega) (by omega), jo (1 + 7) (by omega) (by omega) (by omega) (by omega)]
    exact b3 p (by omega) p2
  · by_cases g : p = n
    · rw [g]; exact ⟨L, kk, q2n, rMat_33 hn, hkk, hm, jL0, by rw [jL2, rMat_39 hn], qL, km _ _ h136⟩
    · obtain ⟨m, k', a1, a2, a3, a4, a5, a6, a7, a8⟩ := b4 p (by omega)
      have em := tg m _ 4 a4 (Or.inl ⟨kt_lt k', rfl⟩)
      refine ⟨m, k', (q2 p g).trans a1, (mo (33 + p) (by omega) (by omega) (by omega) (by omega) (by omega) (by omega) (by omega) (by omega) (by omega)).trans a2, a3, km _ _ a4, by rw [em.1]; exact a5, ?_, by rw [em.2]; exact a7, km _ _ a8⟩
      rw [em.1, mo (39 + p) (by omega) (by omega) (by omega) (by omega) (by omega) (by omega) (by omega) (by omega) (by omega)]
      exact a6
  · rw [jo 15 (by omega) (by omega) (by omega) (by omega), mh 31 (by omega) (by omega)]; exact m1
  · rw [jo 15 (by omega) (by omega) (by omega) (by omega), mh 28 (by omega) (by omega)]; exact m2
  · rw [jo 15 (by omega) (by omega) (by omega) (by omega), mh 29 (by omega) (by omega)]; exact m3
  · rw [jo 15 (by omega) (by omega) (by omega) (by omega), mh 30 (by omega) (by omega)]; exact m5
  · rw [jo (15 + 1) (by omega) (by omega) (by omega) (by omega), mh (122 + j) (by omega) (by omega)]; exact m6 j hj
  · rw [jo (15 + 2) (by omega) (by omega) (by omega) (by omega), jo (15 + 3) (by omega) (by omega) (by omega) (by omega), mh (75 + k) (by omega) (by omega), mh (80 + k) (by omega) (by omega)]; exact m7 k hk
  · rw [jo (15 + 4) (by omega) (by omega) (by omega) (by omega), jo (15 + 5) (by omega) (by omega) (by omega) (by omega), jo (15 + 6) (by omega) (by omega) (by omega) (by omega), jo (15 + 7) (by omega) (by omega) (by omega) (by omega), mh (90 + k) (by omega) (by omega), mh (98 + k) (by omega) (by omega), mh (106 + k) (by omega) (by omega), mh (114 + k) (by omega) (by omega)]; exact m8 k hk
  · rw [jo 15 (by omega) (by omega) (by omega) (by omega)]; exact m9.trans (seeB_al (fun j hj => mh j (by omega) (by omega)))
end MATTER2
