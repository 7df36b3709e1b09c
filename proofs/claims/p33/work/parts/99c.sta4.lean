/-! A CALL OF THE LAW: station, the whole call -/
theorem SR8_all : ∀ p, p < 140 → (sr p 7).isSome = true → K0[p]? ≠ some (8, 10) := by decide +kernel
theorem SR8 {p q : Nat} {T : List (Nat × Nat)} (hp : p < 140) (hs : sr p 7 = some q) (hk : (K0 ++ T)[p]? = some (8, 10)) : False := by
  rw [List.getElem?_append_left (show p < K0.length from hp)] at hk
  exact SR8_all p hp (by rw [hs]; rfl) hk
section STATION3
variable {X : Nat × (Nat → Int32)} {d : Nat} {T : List (Nat × Nat)} {I : Nat → Nat → Int32} {R : Nat → Nat → Option Nat} {s : Nat → Int32} {n e : Nat} {hd : Option Nat} {cls : Cls} {l : List Int32} {im : Option Img}
/-- what else the class holds stands, when station has written -/
theorem CR.sta {s' : Nat → Int32} {hd' : Option Nat} {cls' : Cls} {T1 : List (Nat × Nat)} {J : Nat → Nat → Int32} {Q : Nat → Nat → Option Nat} {sp : Nat} (hF : FX (K0 ++ T) R) (hC : CR (K0 ++ T) I R s n hd cls l im) (h6 : R 0 6 = some sp) (hs : CKn (K0 ++ T) R sp) (hsp : im.isSome = true → R 23 14 ≠ some sp) (km : KM (K0 ++ T) (K0 ++ T1)) (hS : STF (K0 ++ T) I R sp J Q) (hV : VH (K0 ++ T1) J Q 1 15 s' n hd' cls') (hsp' : ∃ sp, Q 0 6 = some sp ∧ CKn (K0 ++ T1) Q sp ∧ Q 1 14 ≠ some sp ∧ (im.isSome = true → Q 23 14 ≠ some sp)) : CR (K0 ++ T1) J Q s' n hd' cls' l im := by
  have hno := hF.uc
  obtain ⟨f0, f1, f2, f3, f4, f5, f6, fv1, fv2, fv3, fh1, fh2, f7, f8, f9, f10, f11, f12⟩ := id hF
  obtain ⟨g1, g2, g3, g4, g5, sp0, g6, g7, g8, g9⟩ := hC
  have k0 := fv1.1
  have j0 := fh1.1
  obtain ⟨s0, s1, s2, s3, -⟩ := id hs
  have lk : ∀ (c : Nat) (y : Nat × Nat), (K0 ++ T)[c]? = some y → c < (K0 ++ T).length := fun c y h => (List.getElem?_eq_some_iff.mp h).1
  have hl : 140 ≤ (K0 ++ T).length := by
    rw [List.length_append, show K0.length = 140 from rfl]
    omega
  -- the spare's cells are no other's
  have no : ∀ c t z, (K0 ++ T)[c]? = some (t, z) → ¬ ((t = 8 ∧ z = 10) ∨ (t = 20 ∧ z = 10) ∨ (t = 20 ∧ z = 100)) → ¬ (sp ≤ c ∧ c ≤ sp + 3) := fun c t z hc hz g => by
    rcases (by omega : c = sp ∨ c = sp + 1 ∨ c = sp + 2 ∨ c = sp + 3) with g | g | g | g
    · rw [g, s0] at hc; cases hc; omega
    · rw [g, s1] at hc; cases hc; omega
    · rw [g, s2] at hc; cases hc; omega
    · rw [g, s3] at hc; cases hc; omega
  have jo : ∀ c t z, (K0 ++ T)[c]? = some (t, z) → ¬ ((t = 8 ∧ z = 10) ∨ (t = 20 ∧ z = 10) ∨ (t = 20 ∧ z = 100)) → c ≠ 1 → c ≠ 15 → J c = I c := fun c t z hc hz h1 h15 => hS.1 c (lk c _ hc) (no c t z hc hz) h1 h15
  have qo : ∀ c j, c < (K0 ++ T).length → ¬ (c = sp ∧ j = 7) → ¬ (c = 1 ∧ j = 14) → ¬ (c = 0 ∧ j = 6) → Q c j = R c j := hS.2.2.2.2
  have vo : ∀ v, VK (K0 ++ T) R v → ∀ c, v + 2 ≤ c → c ≤ v + 7 → c ≠ 1 → c ≠ 15 → J c = I c := fun v hv c c1 c2 c3 c4 => by
    obtain ⟨a0, a1, a2, a3, a4, a5, a6, a7, a8, -⟩ := hv
    rcases (by omega : c = v + 2 ∨ c = v + 3 ∨ c = v + 4 ∨ c = v + 5 ∨ c = v + 6 ∨ c = v + 7) with g | g | g | g | g | g
    · exact jo c 20 6 (g ▸ a2) (by omega) c3 c4
    · exact jo c 20 6 (g ▸ a3) (by omega) c3 c4
    · exact jo c 20 6 (g ▸ a4) (by omega) c3 c4
    · exact jo c 20 6 (g ▸ a5) (by omega) c3 c4
    · exact jo c 20 6 (g ▸ a6) (by omega) c3 c4
    · exact jo c 20 24 (g ▸ a7) (by omega) c3 c4
  refine ⟨hV, ?_, g3, ?_, fun i hi => ⟨?_, (g5 i hi).2⟩, hsp'⟩
  · unfold TCc at g2 ⊢
    rw [jo 134 20 21 f12 (by omega) (by omega) (by omega)]
    exact g2
  · rw [jo 0 11 8 f0 (by omega) (by omega) (by omega)]; exact g4
  · obtain ⟨iV, iG⟩ := g5 i hi
    obtain ⟨q, q1, q2⟩ := iV.1.2.2.2.2.1
    have hq : q ≠ sp := fun g => hsp (by rw [hi]; rfl) (by rw [q1, g])
    obtain ⟨b0, b1, b2, b3, b4, b5, b6, b7, -⟩ := id fh2
    have sp24 : sp ≠ 23 ∧ sp ≠ 24 := ⟨fun g => no 23 10 16 fv2.1 (by omega) (by omega), fun g => no 24 23 6 fv2.2.1 (by omega) (by omega)⟩
    refine VH.sta (s' := i.1) iV km (fun _ _ => rfl) ⟨q, (qo 23 14 (by omega) (by omega) (by omega) (by omega)).trans q1, q2.away hs hq k0 j0 f0 km hS⟩ ?_ ?_ (fun j j1 j2 => ?_) (fun c c1 c2 => vo 23 fv2 c c1 c2 (by omega) (by omega)) (fun c t hc ht => ⟨jo c t 4 hc (by omega) (fun g => by rw [g, k0] at hc; cases hc) (fun g => by rw [g, j0] at hc; cases hc), qo c 3 (lk c _ hc) (by omega) (by omega) (by omega)⟩) (fun j hj => qo 23 j (by omega) (by omega) (by omega) (by omega)) (fun j => qo 24 j (by omega) (by omega) (by omega) (by omega)) iG.2.1.1 ?_
    · rw [jo 23 10 16 fv2.1 (by omega) (by omega) (by omega)]; exact iV.1.2.2.2.2.2
    · rw [jo 23 10 16 fv2.1 (by omega) (by omega) (by omega)]; exact iV.2.1
    · rw [jo 23 10 16 fv2.1 (by omega) (by omega) (by omega)]
    · refine iV.2.2.2.2.c (fun c c1 c2 => ?_)
      rcases (by omega : c = 37 ∨ c = 37 + 1 ∨ c = 37 + 2 ∨ c = 37 + 3 ∨ c = 37 + 4 ∨ c = 37 + 5 ∨ c = 37 + 6 ∨ c = 37 + 7) with g | g | g | g | g | g | g | g
      · exact jo c 3 12 (g ▸ b0) (by omega) (by omega) (by omega)
      · exact jo c 21 100 (g ▸ b1) (by omega) (by omega) (by omega)
      · exact jo c 20 5 (g ▸ b2) (by omega) (by omega) (by omega)
      · exact jo c 20 5 (g ▸ b3) (by omega) (by omega) (by omega)
      · exact jo c 20 8 (g ▸ b4) (by omega) (by omega) (by omega)
      · exact jo c 20 8 (g ▸ b5) (by omega) (by omega) (by omega)
      · exact jo c 20 8 (g ▸ b6) (by omega) (by omega) (by omega)
      · exact jo c 20 8 (g ▸ b7) (by omega) (by omega) (by omega)
end STATION3
