/-! WHAT HOLDS BETWEEN TWO CALLS OF THE LAW -/
def RSok (R : Nat → Nat → Option Nat) : Prop := ∀ p i q, sr p i = some q → R p i = some q
theorem RSok.eq {R : Nat → Nat → Option Nat} (h : RSok R) : RS R = R := by
  funext p i
  unfold RS
  cases hs : sr p i with
  | none => rfl
  | some q => exact (h p i q hs).symm
theorem RSok.mk (G : Nat → Nat → Option Nat) : RSok (RS G) := by
  intro p i q h
  unfold RS
  rw [h]
def svA (k : Nat) : Nat := 64 + 14 * k
/-- the face's objects -/
def FX (K : List (Nat × Nat)) (R : Nat → Nat → Option Nat) : Prop := K[0]? = some (11, 8) ∧ R 0 0 = some 1 ∧ R 0 1 = some 15 ∧ R 0 2 = some 23 ∧ R 0 3 = some 37 ∧ R 0 4 = some 45 ∧ R 0 5 = some 134 ∧ VK K R 1 ∧ VK K R 23 ∧ VK K R 46 ∧ HK K R 15 ∧ HK K R 37 ∧ K[45]? = some (0, 9) ∧ R 45 0 = some 46 ∧ AX K R 45 60 61 62 svA ∧ R 45 8 = some 63 ∧ K[63]? = some (20, 64) ∧ K[134]? = some (20, 21)
theorem svA_5 {k : Nat} (h : k < 5) : svA k = 64 ∨ svA k = 78 ∨ svA k = 92 ∨ svA k = 106 ∨ svA k = 120 := by unfold svA; omega
theorem FX0 (T : List (Nat × Nat)) (G : Nat → Nat → Option Nat) : FX (K0 ++ T) (RS G) := by
  refine ⟨rfl, rfl, rfl, rfl, rfl, rfl, rfl, VK0 T G (Or.inl rfl), VK0 T G (by omega), VK0 T G (by omega), HK0 T G (Or.inl rfl), HK0 T G (Or.inr rfl), rfl, rfl, ⟨rfl, rfl, rfl, rfl, by omega, rfl, rfl, rfl, fun k hk => ?_, fun k hk => VK0 T G (by have := svA_5 hk; omega), fun j k h1 h2 => by unfold svA; omega⟩, rfl, rfl, rfl⟩
  · rcases (by omega : k = 0 ∨ k = 1 ∨ k = 2 ∨ k = 3 ∨ k = 4) with rfl | rfl | rfl | rfl | rfl <;> rfl
theorem FX1 {T : List (Nat × Nat)} {R : Nat → Nat → Option Nat} (h : RSok R) : FX (K0 ++ T) R := by
  have := FX0 T R
  rw [h.eq] at this
  exact this
/-- what questions write -/
def QC (c : Nat) : Prop := c = 9 ∨ c = 45 ∨ c = 61 ∨ c = 62 ∨ c = 63 ∨ PW 46 c ∨ ∃ i, i < 5 ∧ PW (svA i) c
abbrev QX (c : Nat) : Prop := QC c
def QR (R R' : Nat → Nat → Option Nat) : Prop := ∀ c j, ¬ (c = 47 ∧ j < 6) → ¬ (c = 46 ∧ j = 14) → (∀ i, i < 5 → ¬ (c = svA i + 1 ∧ j < 6) ∧ ¬ (c = svA i ∧ j = 14)) → R' c j = R c j
theorem QC_lt {c : Nat} (h : QC c) : c = 9 ∨ (45 ≤ c ∧ c ≤ 128) := by
  rcases h with h | h | h | h | h | h | ⟨i, hi, h⟩
  · omega
  · omega
  · omega
  · omega
  · omega
  · unfold PW at h; omega
  · have := svA_5 hi; unfold PW at h; omega
theorem QX_lt {c : Nat} (h : QX c) : c = 9 ∨ (45 ≤ c ∧ c ≤ 128) := QC_lt h
/-- what a copy of a Hand must find: bytes and truths -/
def BY (s : Nat → Int32) : Prop := (∀ j, j < 100 → ∃ c, c < 128 ∧ s (122 + j) = nI c) ∧ ∀ k, k < 5 → s (85 + k) = 0 ∨ s (85 + k) = 1
/-- the row's own side -/
def GS (s : Nat → Int32) (n : Nat) (hd : Option Nat) (cls : Cls) (e : Nat) : Prop := SV s n hd cls e ∧ RI s n e cls ∧ e ≤ 9999 ∧ (∃ c, c ≤ 6 * e ∧ s 1 = nI c) ∧ (∀ p, p < 6 → ∃ a, a ≤ e ∧ s (2 + p) = nI a) ∧ (∃ b, SN s n b) ∧ (∃ b, SP s n b) ∧ (∃ b, b ≤ 8 ∧ s 30 = nI b ∧ ∀ k, k < b → ∃ p, p < n ∧ s (106 + k) = nI p) ∧ (∃ z, z ≤ 100 ∧ s 31 = nI z ∧ tOK (fun j => s (122 + j)) z) ∧ (∃ ns, ns ≤ 5 ∧ s 27 = nI ns ∧ ∀ h, hd = some h → h < ns) ∧ (∃ f, f ≤ 99 ∧ rT s hd 227 1 = nI f) ∧ (∀ j, 937 ≤ j → s j = 0) ∧ BY s
/-- a Veranda and a Hand of the class, for a row -/
def VH (K : List (Nat × Nat)) (I : Nat → Nat → Int32) (R : Nat → Nat → Option Nat) (v h : Nat) (s : Nat → Int32) (n : Nat) (hd : Option Nat) (cls : Cls) : Prop := VA K I R v s n cls (rT s hd 222 20) (rT s hd 227 1) ∧ I v 15 = s 27 ∧ (∀ p, n ≤ p → p < 6 → I (v + 4) p = 0 ∧ I (v + 5) p = 0 ∧ I (v + 6) p = 0 ∧ ∀ k, k < 4 → I (v + 7) (4 * p + k) = 0) ∧ (∀ p, p < n → ∃ m kk, R (v + 1) p = some m ∧ s (33 + p) = nI kk ∧ MK K I R m 134 kk (nI p) (s (39 + p))) ∧ HM I h s
/-- an image: a row, how many MATTERS, the station, its clauses, the evening -/
abbrev Img : Type := (Nat → Int32) × Nat × Option Nat × Cls × Nat
def CR (K : List (Nat × Nat)) (I : Nat → Nat → Int32) (R : Nat → Nat → Option Nat) (s : Nat → Int32) (n : Nat) (hd : Option Nat) (cls : Cls) (l : List Int32) (im : Option Img) : Prop := VH K I R 1 15 s n hd cls ∧ TCc I 134 l ∧ l.length ≤ 20 ∧ I 0 7 = bI im.isSome ∧ (∀ i : Img, im = some i → VH K I R 23 37 i.1 i.2.1 i.2.2.1 i.2.2.2.1 ∧ GS i.1 i.2.1 i.2.2.1 i.2.2.2.1 i.2.2.2.2) ∧ ∃ sp, R 0 6 = some sp ∧ CKn K R sp ∧ R 1 14 ≠ some sp ∧ (im.isSome = true → R 23 14 ≠ some sp)
theorem VH.q {K : List (Nat × Nat)} {I I' : Nat → Nat → Int32} {R R' : Nat → Nat → Option Nat} {v h n : Nat} {s : Nat → Int32} {hd : Option Nat} {cls : Cls} (hV : VH K I R v h s n hd cls) (hX : FX K R) (hv : v = 1 ∧ h = 15 ∨ v = 23 ∧ h = 37) (hI : FR QX I I') (hR : QR R R') : VH K I' R' v h s n hd cls := by
  obtain ⟨h1, h2, h3, h4, h5⟩ := hV
  have hcell : ∀ c, v ≤ c → c ≤ v + 7 → I' c = I c := fun c c1 c2 => hI c (fun g => by have := QX_lt g; omega)
  obtain ⟨f0, f1, f2, f3, f4, f5, f6, fv1, fv2, fv3, fh1, fh2, f7, f8, f9, f10, f11, f12⟩ := hX
  obtain ⟨g0, g1, g2, g3, g4, g5, g6, g7, g8, g9, g10⟩ := f9
  -- cells of objects and stations
  have htag : ∀ c t z, K[c]? = some (t, z) → ((t < 13 ∧ z = 4) ∨ z = 10 ∨ z = 100 ∨ z = 12 ∨ z = 5 ∨ z = 8 ∨ z = 21) → I' c = I c := fun c t z hk hz => hI c (fun g => by
    rcases g with g | g | g | g | g | g | ⟨i, hi, g⟩
    · have := fv1.2.2.2.2.2.2.2.2.1
      rw [g, this] at hk; cases hk; omega
    · rw [g, f7] at hk; cases hk; omega
    · rw [g, g2] at hk; cases hk; omega
    · rw [g, g3] at hk; cases hk; omega
    · rw [g, f11] at hk; cases hk; omega
    · exact PW_no fv3 hk (by omega) g
    · exact PW_no (g9 i hi) hk (by omega) g)
  have hRc : ∀ c, (∀ i, i < 5 → c ≠ svA i + 1 ∧ c ≠ svA i) → c ≠ 47 → c ≠ 46 → ∀ j, R' c j = R c j := fun c c1 c2 c3 j => hR c j (fun g => c2 g.1) (fun g => c3 g.1) (fun i hi => ⟨fun g => (c1 i hi).1 g.1, fun g => (c1 i hi).2 g.1⟩)
  have hRt : ∀ q t z, K[q]? = some (t, z) → t < 13 → z ≠ 16 → ∀ j, R' q j = R q j := fun q t z hq ht hz => hRc q (fun i hi => ⟨fun g => by rw [g, (g9 i hi).2.1] at hq; cases hq; omega, fun g => by rw [g, (g9 i hi).1] at hq; cases hq; omega⟩) (fun g => by have := fv3.2.1; rw [g, this] at hq; cases hq; omega) (fun g => by rw [g, fv3.1] at hq; cases hq; omega)
  have hsv : ∀ c, c < 46 → ∀ j, R' c j = R c j := fun c hc => hRc c (fun i hi => by have := svA_5 hi; omega) (by omega) (by omega)
  refine ⟨h1.gen (fun c t z hk hz => ?_) (fun c c1 c2 => ?_) (fun j => hsv v (by omega) j) (fun j => hsv (v + 1) (by omega) j) (fun q hq j _ => hRt q 8 10 hq (by omega) (by omega) j), by rw [hcell v (by omega) (by omega)]; exact h2, fun p p1 p2 => ?_, fun p hp => ?_, h5.gen (K := K) (R := R) ?_ (fun c t z hk hz => ?_)⟩
  · exact htag c t z hk (by omega)
  · exact hcell c c1 c2
  · rw [hcell (v + 4) (by omega) (by omega), hcell (v + 5) (by omega) (by omega), hcell (v + 6) (by omega) (by omega), hcell (v + 7) (by omega) (by omega)]
    exact h3 p p1 p2
  · obtain ⟨m, kk, a1, a2, a3, a4, a5, a6, a7, a8⟩ := h4 p hp
    have em := htag m _ 4 a4 (Or.inl ⟨kt_lt kk, rfl⟩)
    exact ⟨m, kk, (hsv (v + 1) (by omega) p).trans a1, a2, a3, a4, by rw [em]; exact a5, by rw [em]; exact a6, (hRt m _ 4 a4 (kt_lt kk) (by omega) 3).trans a7, a8⟩
  · rcases hv with ⟨-, rfl⟩ | ⟨-, rfl⟩
    · exact fh1
    · exact fh2
  · exact htag c t z hk (by omega)
theorem FX.q {K : List (Nat × Nat)} {R R' : Nat → Nat → Option Nat} (h : FX K R) (hR : QR R R') : FX K R' := by
  obtain ⟨f0, f1, f2, f3, f4, f5, f6, fv1, fv2, fv3, fh1, fh2, f7, f8, f9, f10, f11, f12⟩ := h
  obtain ⟨g0, g1, g2, g3, g4, g5, g6, g7, g8, g9, g10⟩ := f9
  have low : ∀ c, c < 46 → ∀ j, R' c j = R c j := fun c hc j => hR c j (by omega) (by omega) (fun i hi => by have := svA_5 hi; omega)
  have hv : ∀ v, (∀ i, i < 5 → v = svA i ∨ v + 1 < svA i ∨ svA i + 1 < v) → (v = 46 ∨ v < 46 ∨ 47 < v) → ∀ j, j < 8 → R' v j = R v j := fun v h1 h2 j hj => hR v j (by omega) (by omega) (fun i hi => by have := h1 i hi; omega)
  refine ⟨f0, (low 0 (by omega) 0).trans f1, (low 0 (by omega) 1).trans f2, (low 0 (by omega) 2).trans f3, (low 0 (by omega) 3).trans f4, (low 0 (by omega) 4).trans f5, (low 0 (by omega) 5).trans f6, fv1.r (fun j _ => low 1 (by omega) j), fv2.r (fun j _ => low 23 (by omega) j), fv3.r (hv 46 (fun i hi => by have := svA_5 hi; omega) (Or.inl rfl)), ?_, ?_, f7, (low 45 (by omega) 0).trans f8, ⟨g0, g1, g2, g3, g4, (low 45 (by omega) 1).trans g5, (low 45 (by omega) 2).trans g6, (low 45 (by omega) 3).trans g7, fun k hk => ?_, fun k hk => (g9 k hk).r (hv (svA k) (fun i hi => by unfold svA; omega) (by have := svA_5 hk; omega)), g10⟩, (low 45 (by omega) 8).trans f10, f11, f12⟩
  · unfold HK at fh1 ⊢
    rw [low 15 (by omega), low 15 (by omega), low 15 (by omega), low 15 (by omega), low 15 (by omega), low 15 (by omega), low 15 (by omega)]
    exact fh1
  · unfold HK at fh2 ⊢
    rw [low 37 (by omega), low 37 (by omega), low 37 (by omega), low 37 (by omega), low 37 (by omega), low 37 (by omega), low 37 (by omega)]
    exact fh2
  · rw [hR 60 k (by omega) (by omega) (fun i hi => by have := svA_5 hi; omega)]
    exact g8 k hk
theorem RSok.q {R R' : Nat → Nat → Option Nat} (h : RSok R) (hR : QR R R') : RSok R' := by
  intro p i q hs
  have n49 : ¬ (p = 47 ∧ i < 6) := fun g => by
    rw [g.1] at hs
    have : sr 47 i = none := rfl
    rw [this] at hs; cases hs
  have n48 : ¬ (p = 46 ∧ i = 14) := fun g => by rw [g.1, g.2] at hs; cases hs
  rw [hR p i n49 n48 (fun k hk => ⟨fun g => ?_, fun g => ?_⟩)]
  · exact h p i q hs
  · obtain ⟨g1, g2⟩ := g
    subst g1
    rcases (by omega : k = 0 ∨ k = 1 ∨ k = 2 ∨ k = 3 ∨ k = 4) with rfl | rfl | rfl | rfl | rfl
    · have : sr (svA 0 + 1) i = none := rfl
      rw [this] at hs; cases hs
    · have : sr (svA 1 + 1) i = none := rfl
      rw [this] at hs; cases hs
    · have : sr (svA 2 + 1) i = none := rfl
      rw [this] at hs; cases hs
    · have : sr (svA 3 + 1) i = none := rfl
      rw [this] at hs; cases hs
    · have : sr (svA 4 + 1) i = none := rfl
      rw [this] at hs; cases hs
  · obtain ⟨g1, g2⟩ := g
    subst g1 g2
    rcases (by omega : k = 0 ∨ k = 1 ∨ k = 2 ∨ k = 3 ∨ k = 4) with rfl | rfl | rfl | rfl | rfl <;> cases hs
/-- questions leave the class as it was -/
theorem CR.q {K : List (Nat × Nat)} {I I' : Nat → Nat → Int32} {R R' : Nat → Nat → Option Nat} {s : Nat → Int32} {n : Nat} {hd : Option Nat} {cls : Cls} {l : List Int32} {im : Option Img} (h : CR K I R s n hd cls l im) (hX : FX K R) (hI : FR QX I I') (hR : QR R R') : CR K I' R' s n hd cls l im := by
  obtain ⟨h1, h2, h3, h4, h5, sp, h6, h7, h8, h9⟩ := h
  have hXX := hX
  obtain ⟨f0, f1, f2, f3, f4, f5, f6, fv1, fv2, fv3, fh1, fh2, f7, f8, f9, f10, f11, f12⟩ := hX
  have low : ∀ c, c < 46 → ∀ j, R' c j = R c j := fun c hc j => hR c j (by omega) (by omega) (fun i hi => by have := svA_5 hi; omega)
  have ic : ∀ c, c < 9 ∨ 9 < c ∧ c < 45 ∨ 128 < c ∧ c < 140 → I' c = I c := fun c hc => hI c (fun g => by have := QX_lt g; omega)
  have nsp : ∀ i, i < 5 → sp ≠ svA i ∧ sp ≠ svA i + 1 := fun i hi => by
    have hv := f9.2.2.2.2.2.2.2.2.2.1 i hi
    exact ⟨(fun g => by have := h7.1; rw [g, hv.1] at this; cases this), (fun g => by have := h7.1; rw [g, hv.2.1] at this; cases this)⟩
  have rsp : ∀ j, R' sp j = R sp j := fun j => hR sp j (fun g => by have := h7.1; have k := fv3.2.1; rw [g.1, k] at this; cases this) (fun g => by have := h7.1; rw [g.1, fv3.1] at this; cases this) (fun i hi => ⟨fun g => (nsp i hi).2 g.1, fun g => (nsp i hi).1 g.1⟩)
  refine ⟨h1.q hXX (Or.inl ⟨rfl, rfl⟩) hI hR, ?_, h3, by rw [ic 0 (by omega)]; exact h4, fun i hi => ⟨(h5 i hi).1.q hXX (Or.inr ⟨rfl, rfl⟩) hI hR, (h5 i hi).2⟩, sp, (low 0 (by omega) 6).trans h6, ?_, by rw [low 1 (by omega)]; exact h8, fun g => by rw [low 23 (by omega)]; exact h9 g⟩
  · unfold TCc at h2 ⊢
    rw [ic 134 (by omega)]
    exact h2
  · obtain ⟨k0, k1, k2, k3, q3, q4, q5⟩ := h7
    exact ⟨k0, k1, k2, k3, (rsp 3).trans q3, (rsp 4).trans q4, (rsp 5).trans q5⟩
