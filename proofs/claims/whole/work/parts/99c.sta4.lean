/-! A CALL OF THE LAW: station, the whole call -/
theorem SR8_all : ∀ p, p < 149 → (sr p 7).isSome = true → K0[p]? ≠ some (8, 10) := by decide +kernel
theorem SR8 {p q : Nat} {T : List (Nat × Nat)} (hp : p < 149) (hs : sr p 7 = some q) (hk : (K0 ++ T)[p]? = some (8, 10)) : False := by
  rw [List.getElem?_append_left (show p < K0.length from hp)] at hk
  exact SR8_all p hp (by rw [hs]; rfl) hk
section STATION3
variable {X : Nat × (Nat → Int32)} {d : Nat} {T : List (Nat × Nat)} {I : Nat → Nat → Int32} {R : Nat → Nat → Option Nat} {s : Nat → Int32} {n e : Nat} {hd : Option Nat} {cls : Cls} {l : List Int32} {im : Option Img}
/-- what else the class holds stands, when station has written -/
theorem CR.sta {s' : Nat → Int32} {hd' : Option Nat} {cls' : Cls} {T1 : List (Nat × Nat)} {J : Nat → Nat → Int32} {Q : Nat → Nat → Option Nat} {sp : Nat} (hF : FX (K0 ++ T) R) (hC : CR (K0 ++ T) I R s n hd cls l im) (h6 : R 0 6 = some sp) (hs : CKn (K0 ++ T) R sp) (hsp : im.isSome = true → R 23 14 ≠ some sp) (km : KM (K0 ++ T) (K0 ++ T1)) (hS : STF (K0 ++ T) I R sp J Q) (hV : VH (K0 ++ T1) J Q 1 15 s' n hd' cls') (hsp' : ∃ sp, Q 0 6 = some sp ∧ CKn (K0 ++ T1) Q sp ∧ Q 1 14 ≠ some sp ∧ (im.isSome = true → Q 23 14 ≠ some sp)) : CR (K0 ++ T1) J Q s' n hd' cls' l im := by
  have hno := hF.uc
  obtain ⟨f0, f1, f2, f3, f4, f5, f6, fv1, fv2, fv3, fh1, fh2, f7, f8, f9, f10, f11, f12, f13⟩ := id hF
  obtain ⟨g1, g2, g3, g4, g5, sp0, g6, g7, g8, g9⟩ := hC
  have k0 := fv1.1
  have j0 := fh1.1
  obtain ⟨s0, s1, s2, s3, -⟩ := id hs
  have lk : ∀ (c : Nat) (y : Nat × Nat), (K0 ++ T)[c]? = some y → c < (K0 ++ T).length := fun c y h => (List.getElem?_eq_some_iff.mp h).1
  have hl : 149 ≤ (K0 ++ T).length := by
    rw [List.length_append, show K0.length = 149 from rfl]
    omega
  -- the spare's cells are no other's
  have no : ∀ c t z, (K0 ++ T)[c]? = some (t, z) → ¬ ((t = 8 ∧ z = 10) ∨ (t = 20 ∧ z = 10) ∨ (t = 20 ∧ z = 100)) → ¬ (sp ≤ c ∧ c ≤ sp + 3) := fun c t z hc hz g => by
    rcases (by omega : c = sp ∨ c = sp + 1 ∨ c = sp + 2 ∨ c = sp + 3) with g | g | g | g
    · rw [g, s0] at hc; cases hc; omega
    · rw [g, s1] at hc; cases hc; omega
    · rw [g, s2] at hc; cases hc; omega
    · rw [g, s3] at hc; cases hc; omega
  have jo : ∀ c t z, (K0 ++ T)[c]? = some (t, z) → ¬ ((t = 8 ∧ z = 10) ∨ (t = 20 ∧ z = 10) ∨ (t = 20 ∧ z = 100)) → c ≠ 1 → c ≠ 15 → J c = I c := fun c t z hc hz h1 h15 => hS.1 c (lk c _ hc) (no c t z hc hz) h1 h15
  have qo : ∀ c j, c < (K0 ++ T).length → ¬ (c = sp ∧ j = 7) → ¬ (c = 1 ∧ j = 14) → ¬ (c = 0 ∧ j = 6) → Q c j = R c j := hS.2.2.2.2
  have vo : ∀ v, VK (K0 ++ T) R v → ∀ c, v + 2 ≤ c → c ≤ v + 7 → c ≠ 1 → c ≠ 15 → J c = I c := fun v hv c c1 c2 c3 c4 => by
    obtain ⟨a0, a1, a2, a3, a4, a5, a6, a7, a8, -⟩ := hv
    rcases (by omega : c = v + 2 ∨ c = v + 3 ∨ c = v + 4 ∨ c = v + 5 ∨ c = v + 6 ∨ c = v + 7) with g | g | g | g | g | g
    · exact jo c 20 6 (g ▸ a2) (by omega) c3 c4
    · exact jo c 20 6 (g ▸ a3) (by omega) c3 c4
    · exact jo c 20 6 (g ▸ a4) (by omega) c3 c4
    · exact jo c 20 6 (g ▸ a5) (by omega) c3 c4
    · exact jo c 20 6 (g ▸ a6) (by omega) c3 c4
    · exact jo c 20 24 (g ▸ a7) (by omega) c3 c4
  refine ⟨hV, ?_, g3, ?_, fun i hi => ⟨?_, (g5 i hi).2⟩, hsp'⟩
  · unfold TCc at g2 ⊢
    rw [jo 134 20 21 f12 (by omega) (by omega) (by omega)]
    exact g2
  · rw [jo 0 11 8 f0 (by omega) (by omega) (by omega)]; exact g4
  · obtain ⟨iV, iG⟩ := g5 i hi
    obtain ⟨q, q1, q2⟩ := iV.1.2.2.2.2.1
    have hq : q ≠ sp := fun g => hsp (by rw [hi]; rfl) (by rw [q1, g])
    obtain ⟨b0, b1, b2, b3, b4, b5, b6, b7, -⟩ := id fh2
    have sp24 : sp ≠ 23 ∧ sp ≠ 24 := ⟨fun g => no 23 10 16 fv2.1 (by omega) (by omega), fun g => no 24 23 6 fv2.2.1 (by omega) (by omega)⟩
    refine VH.sta (s' := i.1) iV km (fun _ _ => rfl) ⟨q, (qo 23 14 (by omega) (by omega) (by omega) (by omega)).trans q1, q2.away hs hq k0 j0 f0 km hS⟩ ?_ ?_ (fun j j1 j2 => ?_) (fun c c1 c2 => vo 23 fv2 c c1 c2 (by omega) (by omega)) (fun c t hc ht => ⟨jo c t 4 hc (by omega) (fun g => by rw [g, k0] at hc; cases hc) (fun g => by rw [g, j0] at hc; cases hc), qo c 3 (lk c _ hc) (by omega) (by omega) (by omega)⟩) (fun j hj => qo 23 j (by omega) (by omega) (by omega) (by omega)) (fun j => qo 24 j (by omega) (by omega) (by omega) (by omega)) iG.2.1.1 ?_
    · rw [jo 23 10 16 fv2.1 (by omega) (by omega) (by omega)]; exact iV.1.2.2.2.2.2
    · rw [jo 23 10 16 fv2.1 (by omega) (by omega) (by omega)]; exact iV.2.1
    · rw [jo 23 10 16 fv2.1 (by omega) (by omega) (by omega)]
    · refine iV.2.2.2.2.c (fun c c1 c2 => ?_)
      rcases (by omega : c = 37 ∨ c = 37 + 1 ∨ c = 37 + 2 ∨ c = 37 + 3 ∨ c = 37 + 4 ∨ c = 37 + 5 ∨ c = 37 + 6 ∨ c = 37 + 7) with g | g | g | g | g | g | g | g
      · exact jo c 3 12 (g ▸ b0) (by omega) (by omega) (by omega)
      · exact jo c 21 100 (g ▸ b1) (by omega) (by omega) (by omega)
      · exact jo c 20 5 (g ▸ b2) (by omega) (by omega) (by omega)
      · exact jo c 20 5 (g ▸ b3) (by omega) (by omega) (by omega)
      · exact jo c 20 8 (g ▸ b4) (by omega) (by omega) (by omega)
      · exact jo c 20 8 (g ▸ b5) (by omega) (by omega) (by omega)
      · exact jo c 20 8 (g ▸ b6) (by omega) (by omega) (by omega)
      · exact jo c 20 8 (g ▸ b7) (by omega) (by omega) (by omega)
theorem op_station (hK : RSok R) (hG : GS s n hd cls e) (hC : CR (K0 ++ T) I R s n hd cls l im) (hR : RR I s l im) : OP X T I R kX11_station kX12_station [] := by
  have hF := FX1 (T := T) hK
  have hn6 := hG.2.1.1
  obtain ⟨z, hz, h31, ht⟩ := hG.2.2.2.2.2.2.2.2.1
  obtain ⟨act, ha5, h27, hah⟩ := hG.2.2.2.2.2.2.2.2.2.1
  obtain ⟨fd, hfd, efd⟩ := hG.2.2.2.2.2.2.2.2.2.2.1
  have hst := hG.1.2.2.2.2.2
  obtain ⟨g1, g2, g3, g4, g5, sp, g6, g7, g8, g9⟩ := id hC
  have hc := c_station (X := X) hF g1 g6 g7 h27 ha5 h31 hz ht
  have hm := fun (T : List (Nat × Nat)) (R : Nat → Nat → Option Nat) (I1 : Nat → Nat → Int32) (h1 : I1 141 = s) => m_station (X := X) (d := 32) (T := T) (G := R) h1 h27 ha5 h31 hz
  have hno := hF.uc
  obtain ⟨f0, f1, f2, f3, f4, f5, f6, fv1, fv2, fv3, fh1, fh2, f7, f8, f9, f10, f11, f12, f13⟩ := id hF
  have k0 := fv1.1
  have j0 := fh1.1
  obtain ⟨s0, s1, s2, s3, s4⟩ := id g7
  have lk : ∀ (c : Nat) (y : Nat × Nat), (K0 ++ T)[c]? = some y → c < (K0 ++ T).length := fun c y h => (List.getElem?_eq_some_iff.mp h).1
  have hl : 149 ≤ (K0 ++ T).length := by
    rw [List.length_append, show K0.length = 149 from rfl]
    omega
  have no : ∀ c t z, (K0 ++ T)[c]? = some (t, z) → ¬ ((t = 8 ∧ z = 10) ∨ (t = 20 ∧ z = 10) ∨ (t = 20 ∧ z = 100)) → ¬ (sp ≤ c ∧ c ≤ sp + 3) := fun c t z hc hz g => by
    rcases (by omega : c = sp ∨ c = sp + 1 ∨ c = sp + 2 ∨ c = sp + 3) with g | g | g | g
    · rw [g, s0] at hc; cases hc; omega
    · rw [g, s1] at hc; cases hc; omega
    · rw [g, s2] at hc; cases hc; omega
    · rw [g, s3] at hc; cases hc; omega
  have huc : ∀ c, UC c → ¬ (sp ≤ c ∧ c ≤ sp + 3) := fun c hc g => by
    rcases (by omega : c = sp ∨ c = sp + 1 ∨ c = sp + 2 ∨ c = sp + 3) with g | g | g | g
    · rw [g] at hc; exact hno _ 8 10 s0 (by omega) hc
    · rw [g] at hc; exact hno _ 20 10 s1 (by omega) hc
    · rw [g] at hc; exact hno _ 20 10 s2 (by omega) hc
    · rw [g] at hc; exact hno _ 20 100 s3 (by omega) hc
  have sp0 : sp ≠ 0 := fun g => no 0 11 8 f0 (by omega) (by omega)
  have sp1 : ¬ (sp ≤ 1 ∧ 1 ≤ sp + 3) := huc 1 (by unfold UC; omega)
  have sp2 : ¬ (sp ≤ 2 ∧ 2 ≤ sp + 3) := huc 2 (by unfold UC; omega)
  have sp24 : sp ≠ 23 := fun g => no 23 10 16 fv2.1 (by omega) (by omega)
  -- what stands between both, when the class has written
  have hmm : ∀ (J : Nat → Nat → Int32) (Q : Nat → Nat → Option Nat), STF (K0 ++ T) I R sp J Q → ∀ c, 140 ≤ c → c ≤ 148 → J c = I c := fun J Q hS c c1 c2 => by
    obtain ⟨t, y, e1, e2⟩ := f13 c c1 c2
    exact hS.1 c (by omega) (no c t y e1 (by omega)) (by omega) (by omega)
  have hrs : ∀ (J : Nat → Nat → Int32) (Q : Nat → Nat → Option Nat), STF (K0 ++ T) I R sp J Q → RSok Q := fun J Q hS p i q hs => by
    rcases Nat.lt_or_ge p 149 with gp | gp
    · rw [hS.2.2.2.2 p i (by omega) (fun g => ?_) (fun g => ?_) (fun g => ?_)]
      · exact hK p i q hs
      · have k8 := s0
        rw [← g.1] at k8
        rw [g.2] at hs
        exact SR8 gp hs k8
      · rw [g.1, g.2] at hs; cases hs
      · rw [g.1, g.2] at hs; cases hs
    · rw [sr_big gp] at hs; cases hs
  have hvm : ∀ (J : Nat → Nat → Int32) (Q : Nat → Nat → Option Nat) (K' : List (Nat × Nat)) (s' : Nat → Int32) (hd' : Option Nat) (cls' : Cls), STF (K0 ++ T) I R sp J Q → KM (K0 ++ T) K' → FS act s s' → act < 5 → s' 31 = 0 → (∃ q, Q 1 14 = some q ∧ stC K' J Q q (rT s' hd' 227 1) cls') → J 1 13 = rT s' hd' 222 20 → J 1 15 = s' 27 → VH K' J Q 1 15 s' n hd' cls' := fun J Q K' s' hd' cls' hS km hf ha e31 hA h13 h15 => by
    refine g1.sta km (fun j hj => hf j (by omega) (by omega) (by omega) (by omega) (by omega) (by omega) (by omega)) hA h13 h15 (fun j c1 c2 => hS.2.1 j (by omega) (by omega)) (fun c c1 c2 => hS.1 c (by omega) (huc c (by unfold UC; omega)) (by omega) (by omega)) (fun c t hc ht => ⟨hS.1 c (lk c _ hc) (no c t 4 hc (by omega)) (fun g => by rw [g, k0] at hc; cases hc) (fun g => by rw [g, j0] at hc; cases hc), hS.2.2.2.2 c 3 (lk c _ hc) (by omega) (by omega) (by omega)⟩) (fun j hj => hS.2.2.2.2 1 j (by omega) (by omega) (by omega) (by omega)) (fun j => hS.2.2.2.2 2 j (by omega) (by omega) (by omega) (by omega)) hn6 (g1.2.2.2.2.sta ha hf e31 (fun c c1 c2 => hS.1 c (by omega) (huc c (by unfold UC; omega)) (by omega) (by omega)) hS.2.2.1 hS.2.2.2.1)
  obtain ⟨P, hP⟩ : ∃ P, P = pS (fun i => s (122 + i)) z 10 0 (20, 1, []) := ⟨_, rfl⟩
  have hok := pS_ok (t := fun i => s (122 + i)) (z := z) 10 0 (20, 1, []) (by omega) stI_0
  rw [← hP] at hc hm hok
  by_cases h5 : act = 5
  · exact stay_op hK hG hC hR (hc.1 h5) (fun I1 g => (hm T R I1 g).1 h5)
  · have ha : act < 5 := by omega
    have hhd : ∀ h, hd = some h → h < 5 := fun h e => by have := hah h e; omega
    cases hb : P.1 with
    | false =>
      obtain ⟨J, Q, e1, hS, e3, e4, e5, e6⟩ := hc.2.1 ha hb
      have h143 : J 141 = s := (hmm J Q hS 141 (by omega) (by omega)).trans hR.1
      obtain ⟨I2, m1, m2, m3, m4, m5, m6⟩ := (hm T Q J h143).2 ha
      rw [hb, if_neg (by decide)] at m1
      obtain ⟨c27, c32⟩ := m6 hb
      obtain ⟨s', hs'⟩ : ∃ s', s' = I2 141 := ⟨_, rfl⟩
      rw [← hs'] at m3 m4 c27 c32
      have t222 := m3.rt ha hah hhd (Or.inl rfl) 20
      have t227 := m3.rt ha hah hhd (Or.inr rfl) 1
      obtain ⟨q, q1, q2⟩ := g1.1.2.2.2.2.1
      have hq : q ≠ sp := fun g => g8 (by rw [q1, g])
      have hKM : KM (K0 ++ T) (K0 ++ T) := fun _ _ h => h
      have hV := hvm J Q (K0 ++ T) s' hd cls hS hKM m3 ha m4 ⟨q, e5.trans q1, by rw [t227]; exact q2.away g7 hq k0 j0 f0 hKM hS⟩ (by rw [t222, e3]; exact g1.1.2.2.2.2.2) (by rw [c27, e4]; exact g1.2.1)
      refine new_op (T1 := T) (s' := s') hR (Or.inl rfl) e1 (hmm J Q hS) (hrs J Q hS) (hG.sta ha m3 m4 (m3.st ha c32 hah hst) hG.2.1.2.2.2.2.2 ⟨act, ha5, c27.trans h27, hah⟩ ⟨fd, hfd, t227.trans efd⟩ hG.2.1.2.2.2.2.1) (hC.sta hF g6 g7 g9 hKM hS hV ⟨sp, e6, ⟨s0, s1, s2, s3, ?_, ?_, ?_⟩, by rw [e5]; exact g8, fun g => ?_⟩) (fun _ _ _ => ⟨I2, m1, hs'.symm, m2⟩)
      · rw [hS.2.2.2.2 sp 3 (lk _ _ s0) (by omega) (by omega) (by omega)]; exact s4.1
      · rw [hS.2.2.2.2 sp 4 (lk _ _ s0) (by omega) (by omega) (by omega)]; exact s4.2.1
      · rw [hS.2.2.2.2 sp 5 (lk _ _ s0) (by omega) (by omega) (by omega)]; exact s4.2.2
      · rw [hS.2.2.2.2 23 14 (by omega) (by omega) (by omega) (by omega)]; exact g9 g
    | true =>
      obtain ⟨J, Q, e1, hS, e3, e4, e5, e6, e7, e8⟩ := hc.2.2 ha hb
      rw [List.append_assoc] at e1 e7 e8
      have h143 : J 141 = s := (hmm J Q hS 141 (by omega) (by omega)).trans hR.1
      obtain ⟨I2, m1, m2, m3, m4, m5, m6⟩ := (hm (T ++ [(8, 10), (20, 10), (20, 10), (20, 100), (21, 0)]) Q J h143).2 ha
      rw [hb, if_pos rfl] at m1
      obtain ⟨c27, -, c222, c227, cst⟩ := m5 hb
      obtain ⟨s', hs'⟩ : ∃ s', s' = I2 141 := ⟨_, rfl⟩
      rw [← hs'] at m3 m4 c27 c222 c227 cst
      have hKM : KM (K0 ++ T) (K0 ++ (T ++ [(8, 10), (20, 10), (20, 10), (20, 100), (21, 0)])) := by rw [← List.append_assoc]; exact KM.app _ _
      have hV := hvm J Q _ s' (some act) P.2.2.2.2 hS hKM m3 ha m4 ⟨sp, e5, by rw [show rT s' (some act) 227 1 = s' (227 + act) from rfl, c227]; exact e7⟩ (by rw [show rT s' (some act) 222 20 = s' (222 + act) from rfl, c222]; exact e3) (by rw [c27]; exact e4)
      have h10 : P.2.2.2.2.length ≤ 10 := by
        have := hok.2.2
        exact Nat.le_trans this (by show 0 + 10 ≤ 10; omega)
      refine new_op (s' := s') hR (Or.inr (Or.inr rfl)) e1 (hmm J Q hS) (hrs J Q hS) (hG.sta ha m3 m4 cst h10 ⟨act + 1, by omega, c27, fun h e => by cases e; omega⟩ ⟨P.2.2.2.1, hok.2.1.2.1, c227⟩ hok.2.1.2.2.1) (hC.sta hF g6 g7 g9 hKM hS hV ⟨_, e6, e8, fun g => ?_, fun g => ?_⟩) (fun _ _ _ => ⟨I2, m1, hs'.symm, m2⟩)
      · rw [e5] at g
        have := lk _ _ s0
        cases g
        omega
      · rw [hS.2.2.2.2 23 14 (by omega) (by omega) (by omega) (by omega)]
        intro g2
        cases him : im with
        | none => rw [him] at g; cases g
        | some i =>
          obtain ⟨q, q1, q2⟩ := (g5 i him).1.1.2.2.2.2.1
          rw [q1] at g2
          cases g2
          have := lk _ _ q2.1
          omega
end STATION3
