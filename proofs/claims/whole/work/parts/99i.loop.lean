/-! THE LAW'S LOOP; the pure statement -/
theorem and31 (x : Int32) : ∃ k, k < 32 ∧ x &&& 31 = nI k := by
  refine ⟨(x &&& 31).toBitVec.toNat, ?_, ?_⟩
  · show (x.toBitVec &&& 31#32).toNat < 32
    rw [BitVec.toNat_and]
    exact Nat.lt_of_le_of_lt Nat.and_le_right (by decide)
  · apply Int32.toBitVec_inj.mp
    show (x &&& 31).toBitVec = BitVec.ofNat 32 (x &&& 31).toBitVec.toNat
    simp
theorem TG.len {T T1 : List (Nat × Nat)} (h : TG T T1) : T1.length ≤ T.length + 5 ∧ ksum (K0 ++ T1) ≤ ksum (K0 ++ T) + 130 := by
  have ka : ∀ (A B : List (Nat × Nat)), ksum (A ++ B) = ksum A + ksum B := fun A B => by
    induction A with
    | nil =>
      show ksum B = 0 + ksum B
      omega
    | cons a A ih =>
      show a.2 + ksum (A ++ B) = (a.2 + ksum A) + ksum B
      omega
  rcases h with h | ⟨t, _, h⟩ | h
  · rw [h]; omega
  · rw [h, List.length_append, ka, ka, ka, show ksum [(t, 4)] = 4 from rfl, show [(t, 4)].length = 1 from rfl]; omega
  · rw [h, List.length_append, ka, ka, ka, show ksum [(8, 10), (20, 10), (20, 10), (20, 100), (21, 0)] = 130 from rfl, show [((8 : Nat), (10 : Nat)), (20, 10), (20, 10), (20, 100), (21, 0)].length = 5 from rfl]; omega
section LAWL
variable {X : Nat × (Nat → Int32)} {i : Nat} {T : List (Nat × Nat)} {I : Nat → Nat → Int32} {R : Nat → Nat → Option Nat}
theorem bz (x : Int32) : x = 0 ∧ bI (decide (x ≠ 0)) = 0 ∨ x ≠ 0 ∧ bI (decide (x ≠ 0)) = 1 := by
  by_cases h : x = 0
  · exact Or.inl ⟨h, by rw [decide_eq_false (fun g => g h)]; rfl⟩
  · exact Or.inr ⟨h, by rw [decide_eq_true h]; rfl⟩
def lwP (k : Nat) : Nat := ([168, 191, 204, 237, 270, 313, 372, 421, 444, 467, 490, 513, 546, 569, 602, 625, 684, 707, 740, 784, 808, 841, 864, 897, 910, 953, 976, 1009, 1022, 1035] : List Nat).getD k 1058
theorem law_sw {K : List (Nat × Nat)} {k : Nat} {Z : Option Value × Hp} (hk : k < 32) (ek : X.2 i &&& 31 = nI k) (hi : i < X.1) (hn : X.1 < 2147483648) (e : Ev X 60 0 (lwP k) [some (.retAddr 28), some (.ref 0), some (.ref 140), some (.int (nI i))] [] (K, I, R) Z) : Ev X 60 0 26 [some (.retAddr 28), some (.ref 0), some (.ref 140), some (.int (nI i))] [] (K, I, R) Z := by
  iterate 2 refine Ev.p rfl rfl ?_
  refine Ev.sld (j := i) (by rfl) rfl hi hn ?_
  iterate 2 refine Ev.p rfl rfl ?_
  rw [ek]
  rcases (by omega : k = 0 ∨ k = 1 ∨ k = 2 ∨ k = 3 ∨ k = 4 ∨ k = 5 ∨ k = 6 ∨ k = 7 ∨ k = 8 ∨ k = 9 ∨ k = 10 ∨ k = 11 ∨ k = 12 ∨ k = 13 ∨ k = 14 ∨ k = 15 ∨ k = 16 ∨ k = 17 ∨ k = 18 ∨ k = 19 ∨ k = 20 ∨ k = 21 ∨ k = 22 ∨ k = 23 ∨ k = 24 ∨ k = 25 ∨ k = 26 ∨ k = 27 ∨ k = 28 ∨ k = 29 ∨ k = 30 ∨ k = 31) with rfl | rfl | rfl | rfl | rfl | rfl | rfl | rfl | rfl | rfl | rfl | rfl | rfl | rfl | rfl | rfl | rfl | rfl | rfl | rfl | rfl | rfl | rfl | rfl | rfl | rfl | rfl | rfl | rfl | rfl | rfl | rfl
  · exact Ev.p (pc' := 168) rfl rfl e
  · exact Ev.p (pc' := 191) rfl rfl e
  · exact Ev.p (pc' := 204) rfl rfl e
  · exact Ev.p (pc' := 237) rfl rfl e
  · exact Ev.p (pc' := 270) rfl rfl e
  · exact Ev.p (pc' := 313) rfl rfl e
  · exact Ev.p (pc' := 372) rfl rfl e
  · exact Ev.p (pc' := 421) rfl rfl e
  · exact Ev.p (pc' := 444) rfl rfl e
  · exact Ev.p (pc' := 467) rfl rfl e
  · exact Ev.p (pc' := 490) rfl rfl e
  · exact Ev.p (pc' := 513) rfl rfl e
  · exact Ev.p (pc' := 546) rfl rfl e
  · exact Ev.p (pc' := 569) rfl rfl e
  · exact Ev.p (pc' := 602) rfl rfl e
  · exact Ev.p (pc' := 625) rfl rfl e
  · exact Ev.p (pc' := 684) rfl rfl e
  · exact Ev.p (pc' := 707) rfl rfl e
  · exact Ev.p (pc' := 740) rfl rfl e
  · exact Ev.p (pc' := 784) rfl rfl e
  · exact Ev.p (pc' := 808) rfl rfl e
  · exact Ev.p (pc' := 841) rfl rfl e
  · exact Ev.p (pc' := 864) rfl rfl e
  · exact Ev.p (pc' := 897) rfl rfl e
  · exact Ev.p (pc' := 910) rfl rfl e
  · exact Ev.p (pc' := 953) rfl rfl e
  · exact Ev.p (pc' := 976) rfl rfl e
  · exact Ev.p (pc' := 1009) rfl rfl e
  · exact Ev.p (pc' := 1022) rfl rfl e
  · exact Ev.p (pc' := 1035) rfl rfl e
  · exact Ev.p (pc' := 1058) rfl rfl e
  · exact Ev.p (pc' := 1058) rfl rfl e
theorem law_one (hLI : LI T I R) (hi : i + 3 < X.1) (hn : X.1 < 2147483648) : ∃ T1 I2 R1, LI T1 I2 R1 ∧ TG T T1 ∧ ∀ Z, Ev X 60 0 1058 [some (.retAddr 28), some (.ref 0), some (.ref 140), some (.int (nI i))] [] (K0 ++ T1, I2, R1) Z → Ev X 60 0 26 [some (.retAddr 28), some (.ref 0), some (.ref 140), some (.int (nI i))] [] (K0 ++ T, I, R) Z := by
  obtain ⟨k, hk, ek⟩ := and31 (X.2 i)
  have hs := fun (K : List (Nat × Nat)) (I : Nat → Nat → Int32) (R : Nat → Nat → Option Nat) (Z : Option Value × Hp) => law_sw (X := X) (K := K) (I := I) (R := R) (Z := Z) hk ek (by omega) hn
  obtain ⟨hK, s, n, hd, cls, e, l, im, hG, hC, hR⟩ := id hLI
  rcases (by omega : k = 0 ∨ k = 1 ∨ k = 2 ∨ k = 3 ∨ k = 4 ∨ k = 5 ∨ k = 6 ∨ k = 7 ∨ k = 8 ∨ k = 9 ∨ k = 10 ∨ k = 11 ∨ k = 12 ∨ k = 13 ∨ k = 14 ∨ k = 15 ∨ k = 16 ∨ k = 17 ∨ k = 18 ∨ k = 19 ∨ k = 20 ∨ k = 21 ∨ k = 22 ∨ k = 23 ∨ k = 24 ∨ k = 25 ∨ k = 26 ∨ k = 27 ∨ k = 28 ∨ k = 29 ∨ k = 30 ∨ k = 31) with rfl | rfl | rfl | rfl | rfl | rfl | rfl | rfl | rfl | rfl | rfl | rfl | rfl | rfl | rfl | rfl | rfl | rfl | rfl | rfl | rfl | rfl | rfl | rfl | rfl | rfl | rfl | rfl | rfl | rfl | rfl | rfl
  · obtain ⟨w, T1, I1, R1, I2, e1, e2, h1, h2⟩ := op_feed (X := X) hK hG hC hR (X.2 (i + 1))
    obtain ⟨x, ex⟩ := e1.int rfl
    cases ex
    exact ⟨T1, I2, R1, h1, h2, fun Z hZ => hs _ _ _ _ (cs_feed hn hi rfl rfl e1 e2 hZ)⟩
  · obtain ⟨w, T1, I1, R1, I2, e1, e2, h1, h2⟩ := op_station (X := X) hK hG hC hR 
    obtain ⟨x, ex⟩ := e1.int rfl
    cases ex
    exact ⟨T1, I2, R1, h1, h2, fun Z hZ => hs _ _ _ _ (cs_station hn hi rfl rfl e1 e2 hZ)⟩
  · obtain ⟨w, T1, I1, R1, I2, e1, e2, h1, h2⟩ := op_matter (X := X) hK hG hC hR (X.2 (i + 1)) (X.2 (i + 2))
    obtain ⟨x, ex⟩ := e1.int rfl
    cases ex
    exact ⟨T1, I2, R1, h1, h2, fun Z hZ => hs _ _ _ _ (cs_matter hn hi rfl rfl e1 e2 hZ)⟩
  · obtain ⟨w, T1, I1, R1, I2, e1, e2, h1, h2⟩ := op_of (X := X) hK hG hC hR (X.2 (i + 1)) (X.2 (i + 2))
    obtain ⟨x, ex⟩ := e1.int rfl
    cases ex
    exact ⟨T1, I2, R1, h1, h2, fun Z hZ => hs _ _ _ _ (cs_of hn hi rfl rfl e1 e2 hZ)⟩
  · obtain ⟨w, T1, I1, R1, I2, e1, e2, h1, h2⟩ := op_row (X := X) hK hG hC hR (X.2 (i + 1)) (X.2 (i + 2)) (X.2 (i + 3))
    obtain ⟨x, ex⟩ := e1.int rfl
    cases ex
    exact ⟨T1, I2, R1, h1, h2, fun Z hZ => hs _ _ _ _ (cs_row hn hi rfl rfl e1 e2 hZ)⟩
  · obtain ⟨w, T1, I1, R1, I2, e1, e2, h1, h2⟩ := op_tie (X := X) hK hG hC hR (X.2 (i + 1)) (X.2 (i + 2)) (decide (X.2 (i + 3) ≠ 0))
    obtain ⟨x, ex⟩ := e1.int rfl
    cases ex
    exact ⟨T1, I2, R1, h1, h2, fun Z hZ => hs _ _ _ _ (cs_tie (bz _) hn hi rfl rfl e1 e2 hZ)⟩
  · obtain ⟨w, T1, I1, R1, I2, e1, e2, h1, h2⟩ := op_shelve (X := X) hK hG hC hR (X.2 (i + 1)) (decide (X.2 (i + 2) ≠ 0))
    obtain ⟨x, ex⟩ := e1.int rfl
    cases ex
    exact ⟨T1, I2, R1, h1, h2, fun Z hZ => hs _ _ _ _ (cs_shelve (bz _) hn hi rfl rfl e1 e2 hZ)⟩
  · obtain ⟨w, T1, I1, R1, I2, e1, e2, h1, h2⟩ := op_reopen (X := X) hK hG hC hR (X.2 (i + 1))
    obtain ⟨x, ex⟩ := e1.int rfl
    cases ex
    exact ⟨T1, I2, R1, h1, h2, fun Z hZ => hs _ _ _ _ (cs_reopen hn hi rfl rfl e1 e2 hZ)⟩
  · obtain ⟨w, T1, I1, R1, I2, e1, e2, h1, h2⟩ := op_told (X := X) hK hG hC hR (X.2 (i + 1))
    obtain ⟨x, ex⟩ := e1.int rfl
    cases ex
    exact ⟨T1, I2, R1, h1, h2, fun Z hZ => hs _ _ _ _ (cs_told hn hi rfl rfl e1 e2 hZ)⟩
  · obtain ⟨w, T1, I1, R1, I2, e1, e2, h1, h2⟩ := op_talk (X := X) hK hG hC hR (X.2 (i + 1))
    obtain ⟨x, ex⟩ := e1.int rfl
    cases ex
    exact ⟨T1, I2, R1, h1, h2, fun Z hZ => hs _ _ _ _ (cs_talk hn hi rfl rfl e1 e2 hZ)⟩
  · obtain ⟨w, T1, I1, R1, I2, e1, e2, h1, h2⟩ := op_pass (X := X) hK hG hC hR (X.2 (i + 1))
    obtain ⟨x, ex⟩ := e1.int rfl
    cases ex
    exact ⟨T1, I2, R1, h1, h2, fun Z hZ => hs _ _ _ _ (cs_pass hn hi rfl rfl e1 e2 hZ)⟩
  · obtain ⟨w, T1, I1, R1, I2, e1, e2, h1, h2⟩ := op_on (X := X) hK hG hC hR (X.2 (i + 1)) (X.2 (i + 2))
    obtain ⟨x, ex⟩ := e1.int rfl
    cases ex
    exact ⟨T1, I2, R1, h1, h2, fun Z hZ => hs _ _ _ _ (cs_on hn hi rfl rfl e1 e2 hZ)⟩
  · obtain ⟨w, T1, I1, R1, I2, e1, e2, h1, h2⟩ := op_when (X := X) hK hG hC hR (X.2 (i + 1))
    obtain ⟨x, ex⟩ := e1.int rfl
    cases ex
    exact ⟨T1, I2, R1, h1, h2, fun Z hZ => hs _ _ _ _ (cs_when hn hi rfl rfl e1 e2 hZ)⟩
  · obtain ⟨w, T1, I1, R1, I2, e1, e2, h1, h2⟩ := op_agenda (X := X) hK hG hC hR (X.2 (i + 1)) (X.2 (i + 2))
    obtain ⟨x, ex⟩ := e1.int rfl
    cases ex
    exact ⟨T1, I2, R1, h1, h2, fun Z hZ => hs _ _ _ _ (cs_agenda hn hi rfl rfl e1 e2 hZ)⟩
  · obtain ⟨w, T1, I1, R1, I2, e1, e2, h1, h2⟩ := op_net (X := X) hK hG hC hR (X.2 (i + 1))
    obtain ⟨x, ex⟩ := e1.int rfl
    cases ex
    exact ⟨T1, I2, R1, h1, h2, fun Z hZ => hs _ _ _ _ (cs_net hn hi rfl rfl e1 e2 hZ)⟩
  · obtain ⟨w, T1, I1, R1, I2, e1, e2, h1, h2⟩ := op_see (X := X) hK hG hC hR (X.2 (i + 1)) (X.2 (i + 2)) (decide (X.2 (i + 3) ≠ 0))
    obtain ⟨x, ex⟩ := e1.int rfl
    cases ex
    exact ⟨T1, I2, R1, h1, h2, fun Z hZ => hs _ _ _ _ (cs_see (bz _) hn hi rfl rfl e1 e2 hZ)⟩
  · obtain ⟨w, T1, I1, R1, I2, e1, e2, h1, h2⟩ := op_dues (X := X) hK hG hC hR (X.2 (i + 1))
    obtain ⟨x, ex⟩ := e1.int rfl
    cases ex
    exact ⟨T1, I2, R1, h1, h2, fun Z hZ => hs _ _ _ _ (cs_dues hn hi rfl rfl e1 e2 hZ)⟩
  · obtain ⟨w, T1, I1, R1, I2, e1, e2, h1, h2⟩ := op_firm (X := X) hK hG hC hR (X.2 (i + 1)) (X.2 (i + 2))
    obtain ⟨x, ex⟩ := e1.int rfl
    cases ex
    exact ⟨T1, I2, R1, h1, h2, fun Z hZ => hs _ _ _ _ (cs_firm hn hi rfl rfl e1 e2 hZ)⟩
  · obtain ⟨w, T1, I1, R1, I2, e1, e2, h1, h2⟩ := op_odds (X := X) hK hG hC hR (X.2 (i + 1)) (X.2 (i + 2)) (X.2 (i + 3))
    obtain ⟨x, ex⟩ := e1.long rfl
    cases ex
    exact ⟨T1, I2, R1, h1, h2, fun Z hZ => hs _ _ _ _ (cs_odds hn hi rfl rfl e1 e2 hZ)⟩
  · obtain ⟨w, T1, I1, R1, I2, e1, e2, h1, h2⟩ := op_mean (X := X) hK hG hC hR (X.2 (i + 1))
    obtain ⟨x, ex⟩ := e1.long rfl
    cases ex
    exact ⟨T1, I2, R1, h1, h2, fun Z hZ => hs _ _ _ _ (cs_mean hn hi rfl rfl e1 e2 hZ)⟩
  · obtain ⟨w, T1, I1, R1, I2, e1, e2, h1, h2⟩ := op_plan (X := X) hK hG hC hR (X.2 (i + 1)) (X.2 (i + 2))
    obtain ⟨x, ex⟩ := e1.int rfl
    cases ex
    exact ⟨T1, I2, R1, h1, h2, fun Z hZ => hs _ _ _ _ (cs_plan hn hi rfl rfl e1 e2 hZ)⟩
  · obtain ⟨w, T1, I1, R1, I2, e1, e2, h1, h2⟩ := op_done (X := X) hK hG hC hR (X.2 (i + 1))
    obtain ⟨x, ex⟩ := e1.int rfl
    cases ex
    exact ⟨T1, I2, R1, h1, h2, fun Z hZ => hs _ _ _ _ (cs_done hn hi rfl rfl e1 e2 hZ)⟩
  · obtain ⟨w, T1, I1, R1, I2, e1, e2, h1, h2⟩ := op_book (X := X) hK hG hC hR (X.2 (i + 1)) (X.2 (i + 2))
    obtain ⟨x, ex⟩ := e1.int rfl
    cases ex
    exact ⟨T1, I2, R1, h1, h2, fun Z hZ => hs _ _ _ _ (cs_book hn hi rfl rfl e1 e2 hZ)⟩
  · obtain ⟨w, T1, I1, R1, I2, e1, e2, h1, h2⟩ := op_looked (X := X) hK hG hC hR 
    obtain ⟨x, ex⟩ := e1.int rfl
    cases ex
    exact ⟨T1, I2, R1, h1, h2, fun Z hZ => hs _ _ _ _ (cs_looked hn hi rfl rfl e1 e2 hZ)⟩
  · obtain ⟨w, T1, I1, R1, I2, e1, e2, h1, h2⟩ := op_act (X := X) hK hG hC hR (X.2 (i + 1)) (X.2 (i + 2)) (X.2 (i + 3))
    obtain ⟨x, ex⟩ := e1.int rfl
    cases ex
    exact ⟨T1, I2, R1, h1, h2, fun Z hZ => hs _ _ _ _ (cs_act hn hi rfl rfl e1 e2 hZ)⟩
  · obtain ⟨w, T1, I1, R1, I2, e1, e2, h1, h2⟩ := op_trace (X := X) hK hG hC hR (X.2 (i + 1))
    obtain ⟨x, ex⟩ := e1.int rfl
    cases ex
    exact ⟨T1, I2, R1, h1, h2, fun Z hZ => hs _ _ _ _ (cs_trace hn hi rfl rfl e1 e2 hZ)⟩
  · obtain ⟨w, T1, I1, R1, I2, e1, e2, h1, h2⟩ := op_as (X := X) hK hG hC hR (X.2 (i + 1)) (X.2 (i + 2))
    obtain ⟨x, ex⟩ := e1.int rfl
    cases ex
    exact ⟨T1, I2, R1, h1, h2, fun Z hZ => hs _ _ _ _ (cs_as hn hi rfl rfl e1 e2 hZ)⟩
  · obtain ⟨w, T1, I1, R1, I2, e1, e2, h1, h2⟩ := op_image (X := X) hK hG hC hR 
    obtain ⟨x, ex⟩ := e1.int rfl
    cases ex
    exact ⟨T1, I2, R1, h1, h2, fun Z hZ => hs _ _ _ _ (cs_image hn hi rfl rfl e1 e2 hZ)⟩
  · obtain ⟨w, T1, I1, R1, I2, e1, e2, h1, h2⟩ := op_undo (X := X) hK hG hC hR 
    obtain ⟨x, ex⟩ := e1.int rfl
    cases ex
    exact ⟨T1, I2, R1, h1, h2, fun Z hZ => hs _ _ _ _ (cs_undo hn hi rfl rfl e1 e2 hZ)⟩
  · obtain ⟨w, T1, I1, R1, I2, e1, e2, h1, h2⟩ := op_count (X := X) hK hG hC hR (X.2 (i + 1))
    obtain ⟨x, ex⟩ := e1.int rfl
    cases ex
    exact ⟨T1, I2, R1, h1, h2, fun Z hZ => hs _ _ _ _ (cs_count hn hi rfl rfl e1 e2 hZ)⟩
  · exact ⟨T, I, R, hLI, Or.inl rfl, fun Z hZ => hs _ _ _ _ hZ⟩
  · exact ⟨T, I, R, hLI, Or.inl rfl, fun Z hZ => hs _ _ _ _ hZ⟩
theorem law_end {K : List (Nat × Nat)} (hL : X.1 < i + 4) (hi : i < 2 ^ 29) (hn : X.1 < 2 ^ 29) : Ev X 60 0 18 [some (.retAddr 28), some (.ref 0), some (.ref 140), some (.int (nI i))] [] (K, I, R) (some (.int 1), (K, I, R)) := by
  (repeat refine Ev.p rfl rfl ?_)
  refine Ev.bp rfl (fun c => ?_) (fun c => ?_)
  · ((repeat refine Ev.p rfl rfl ?_); exact Ev.r rfl)
  · refine absurd ?_ c
    show nI X.1 - nI 4 < nI i
    rw [Int32.lt_iff_toInt_lt, pk_sub_toInt (by omega) (by omega), nI_toInt (by omega)]
    omega
theorem law_go {K : List (Nat × Nat)} {Z : Option Value × Hp} (hL : i + 4 ≤ X.1) (hn : X.1 < 2 ^ 29) (e : Ev X 60 0 26 [some (.retAddr 28), some (.ref 0), some (.ref 140), some (.int (nI i))] [] (K, I, R) Z) : Ev X 60 0 18 [some (.retAddr 28), some (.ref 0), some (.ref 140), some (.int (nI i))] [] (K, I, R) Z := by
  iterate 6 refine Ev.p rfl rfl ?_
  refine Ev.bp rfl (fun c => ?_) (fun c => ?_)
  · exfalso
    have c : nI X.1 - nI 4 < nI i := c
    rw [Int32.lt_iff_toInt_lt, pk_sub_toInt (by omega) (by omega), nI_toInt (by omega)] at c
    omega
  · exact e
theorem law_next {K : List (Nat × Nat)} {Z : Option Value × Hp} (e : Ev X 60 0 18 [some (.retAddr 28), some (.ref 0), some (.ref 140), some (.int (nI (i + 4)))] [] (K, I, R) Z) : Ev X 60 0 1058 [some (.retAddr 28), some (.ref 0), some (.ref 140), some (.int (nI i))] [] (K, I, R) Z := by
  rw [← nI_add i 4] at e
  iterate 2 refine Ev.p rfl rfl ?_
  refine Ev.ls (ls2 := [some (.retAddr 28), some (.ref 0), some (.ref 140), some (.int (nI i + nI 4))]) rfl ?_
  exact e
theorem law_loop (hn : X.1 < 2 ^ 20) : ∀ m i T I R, X.1 < i + 4 * m + 4 → i < 2 ^ 21 → LI T I R → ∃ h', Ev X 60 0 18 [some (.retAddr 28), some (.ref 0), some (.ref 140), some (.int (nI i))] [] (K0 ++ T, I, R) (some (.int 1), h') ∧ h'.1.length ≤ 149 + T.length + 5 * m ∧ ksum h'.1 ≤ ksum (K0 ++ T) + 130 * m := by
  intro m
  induction m with
  | zero =>
    intro i T I R hL hi hLI
    refine ⟨_, law_end (by omega) (by omega) (by omega), ?_, ?_⟩
    · show (K0 ++ T).length ≤ _
      rw [List.length_append, show K0.length = 149 from rfl]
      omega
    · show ksum (K0 ++ T) ≤ _
      omega
  | succ m ih =>
    intro i T I R hL hi hLI
    by_cases hc : X.1 < i + 4
    · refine ⟨_, law_end hc (by omega) (by omega), ?_, ?_⟩
      · show (K0 ++ T).length ≤ _
        rw [List.length_append, show K0.length = 149 from rfl]
        omega
      · show ksum (K0 ++ T) ≤ _
        omega
    · obtain ⟨T1, I2, R1, g1, g2, g3⟩ := law_one (X := X) (i := i) hLI (by omega) (by omega)
      obtain ⟨h', a1, a2, a3⟩ := ih (i + 4) T1 I2 R1 (by omega) (by omega) g1
      have hl := g2.len
      refine ⟨h', law_go (by omega) (by omega) (g3 _ (law_next a1)), ?_, ?_⟩
      · omega
      · omega
end LAWL
theorem k0_sum : ksum (K0 ++ []) ≤ 10000 := Nat.le_of_ble_eq_true (by decide +kernel)
theorem pure_ok : Pure := by
  intro L xs hL
  obtain ⟨I, R, h1, h2⟩ := law_start (X := (L, xs))
  obtain ⟨h', a1, a2, a3⟩ := law_loop (X := (L, xs)) (show L < 2 ^ 20 by omega) 512 0 [] I R (show L < 0 + 4 * 512 + 4 by omega) (by omega) h1
  obtain ⟨f, hf⟩ := h2 _ a1
  have := k0_sum
  refine ⟨f, h', hf, ?_, ?_⟩
  · have a2 : h'.1.length ≤ 149 + 0 + 5 * 512 := a2
    omega
  · omega
