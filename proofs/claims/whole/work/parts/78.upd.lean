/-! CALLS OF THE LAW that change the row -/
theorem VA.gen2 {K : List (Nat × Nat)} {I I' : Nat → Nat → Int32} {R : Nat → Nat → Option Nat} {v n : Nat} {s : Nat → Int32} {cls : Cls} {du fd : Int32} (h : VA K I R v s n cls du fd) (hI2 : ∀ c t z, K[c]? = some (t, z) → ((t < 13 ∧ z = 4) ∨ (t = 8 ∧ z = 10) ∨ (t = 20 ∧ z = 10) ∨ (t = 20 ∧ z = 100)) → I' c = I c) (hI1 : ∀ c, v ≤ c → c ≤ v + 7 → I' c = I c) : VA K I' R v s n cls du fd := by
  obtain ⟨h1, h2, h3, h4, ⟨q, h5, h6⟩, h7⟩ := h
  refine ⟨h1, ?_, ?_, h4, ⟨q, h5, ?_⟩, by rw [hI1 v (by omega) (by omega)]; exact h7⟩
  · unfold VM at h2 ⊢
    rw [hI1 v (by omega) (by omega), hI1 (v + 2) (by omega) (by omega), hI1 (v + 3) (by omega) (by omega), hI1 (v + 4) (by omega) (by omega), hI1 (v + 5) (by omega) (by omega), hI1 (v + 6) (by omega) (by omega), hI1 (v + 7) (by omega) (by omega)]
    exact h2
  · intro p hp
    obtain ⟨m, kk, a1, a2, a3, a4, a5⟩ := h3 p hp
    exact ⟨m, kk, a1, a2, a3, a4, by rw [hI2 m _ 4 a4 (Or.inl ⟨kt_lt kk, rfl⟩)]; exact a5⟩
  · exact h6.fr (hI2 _ _ _ h6.1 (by omega)) (hI2 _ _ _ h6.2.1 (by omega)) (hI2 _ _ _ h6.2.2.1 (by omega)) (hI2 _ _ _ h6.2.2.2.1 (by omega))
theorem HM.c {I I' : Nat → Nat → Int32} {h : Nat} {s : Nat → Int32} (hM : HM I h s) (hI : ∀ c, h ≤ c → c ≤ h + 7 → I' c = I c) : HM I' h s := by
  unfold HM at hM ⊢
  rw [hI h (by omega) (by omega), hI (h + 1) (by omega) (by omega), hI (h + 2) (by omega) (by omega), hI (h + 3) (by omega) (by omega), hI (h + 4) (by omega) (by omega), hI (h + 5) (by omega) (by omega), hI (h + 6) (by omega) (by omega), hI (h + 7) (by omega) (by omega)]
  exact hM
theorem VH.j {K : List (Nat × Nat)} {I I' : Nat → Nat → Int32} {R : Nat → Nat → Option Nat} {v h n : Nat} {s : Nat → Int32} {hd : Option Nat} {cls : Cls} (hV : VH K I R v h s n hd cls) (hI2 : ∀ c t z, K[c]? = some (t, z) → ((t < 13 ∧ z = 4) ∨ (t = 8 ∧ z = 10) ∨ (t = 20 ∧ z = 10) ∨ (t = 20 ∧ z = 100)) → I' c = I c) (hv : ∀ c, v ≤ c → c ≤ v + 7 → I' c = I c) (hh : ∀ c, h ≤ c → c ≤ h + 7 → I' c = I c) : VH K I' R v h s n hd cls := by
  obtain ⟨h1, h2, h3, h4, h5⟩ := hV
  refine ⟨h1.gen2 hI2 hv, by rw [hv v (by omega) (by omega)]; exact h2, fun p p1 p2 => ?_, fun p hp => ?_, h5.c hh⟩
  · rw [hv (v + 4) (by omega) (by omega), hv (v + 5) (by omega) (by omega), hv (v + 6) (by omega) (by omega), hv (v + 7) (by omega) (by omega)]
    exact h3 p p1 p2
  · obtain ⟨m, kk, a1, a2, a3, a4, a5, a6, a7, a8⟩ := h4 p hp
    have em := hI2 m _ 4 a4 (Or.inl ⟨kt_lt kk, rfl⟩)
    exact ⟨m, kk, a1, a2, a3, a4, by rw [em]; exact a5, by rw [em]; exact a6, a7, a8⟩
/-- what may be written by a change of the row that makes nothing new -/
def UC (c : Nat) : Prop := (1 ≤ c ∧ c ≤ 9) ∨ (15 ≤ c ∧ c ≤ 22)
theorem FX.uc {K : List (Nat × Nat)} {R : Nat → Nat → Option Nat} (hF : FX K R) : ∀ c t z, K[c]? = some (t, z) → ((t < 13 ∧ z = 4) ∨ (t = 8 ∧ z = 10) ∨ (t = 20 ∧ z = 10) ∨ (t = 20 ∧ z = 100)) → ¬ UC c := by
  obtain ⟨f0, f1, f2, f3, f4, f5, f6, fv1, fv2, fv3, fh1, fh2, -⟩ := hF
  obtain ⟨k0, k1, k2, k3, k4, k5, k6, k7, k8, -⟩ := fv1
  obtain ⟨j0, j1, j2, j3, j4, j5, j6, j7, -⟩ := fh1
  intro c t z hk hz hc
  have e : c = 1 ∨ c = 2 ∨ c = 3 ∨ c = 4 ∨ c = 5 ∨ c = 6 ∨ c = 7 ∨ c = 8 ∨ c = 9 ∨ c = 15 ∨ c = 16 ∨ c = 17 ∨ c = 18 ∨ c = 19 ∨ c = 20 ∨ c = 21 ∨ c = 22 := by unfold UC at hc; omega
  rcases e with g | g | g | g | g | g | g | g | g | g | g | g | g | g | g | g | g <;> subst g <;> (first | rw [k0] at hk | rw [k1] at hk | rw [k2] at hk | rw [k3] at hk | rw [k4] at hk | rw [k5] at hk | rw [k6] at hk | rw [k7] at hk | rw [k8] at hk | rw [j0] at hk | rw [j1] at hk | rw [j2] at hk | rw [j3] at hk | rw [j4] at hk | rw [j5] at hk | rw [j6] at hk | rw [j7] at hk) <;> cases hk <;> omega
section UPD
variable {X : Nat × (Nat → Int32)} {d : Nat} {K : List (Nat × Nat)} {T : List (Nat × Nat)} {I : Nat → Nat → Int32} {R : Nat → Nat → Option Nat} {s : Nat → Int32} {n e : Nat} {hd : Option Nat} {cls : Cls} {l : List Int32} {im : Option Img} {kc km : Nat} {As : List Value}
theorem upd_op (hK : RSok R) (hC : CR (K0 ++ T) I R s n hd cls l im) (hR : RR I s l im) {w : Value} {I1 : Nat → Nat → Int32} {s' : Nat → Int32} {e' : Nat} (h1 : Ev X 59 kc 0 (ent kc (.ref 0 :: As)) [] (K0 ++ T, I, R) (some w, (K0 ++ T, I1, R))) (hw : FR UC I I1) (h2 : I1 141 = s → I1 140 = I 140 → I1 148 = I 148 → ∃ I2, Ev X 59 km 0 (ent km (.ref 140 :: As)) [] (K0 ++ T, I1, RS R) (some w, (K0 ++ T, I2, RS R)) ∧ I2 141 = s' ∧ MF I1 I2) (hG' : GS s' n hd cls e') (hV' : VH (K0 ++ T) I1 R 1 15 s' n hd cls) : OP X T I R kc km As := by
  have hF := FX1 (T := T) hK
  have hno := hF.uc
  obtain ⟨f0, f1, f2, f3, f4, f5, f6, fv1, fv2, fv3, fh1, fh2, f7, f8, f9, f10, f11, f12, f13⟩ := hF
  have hm : ∀ c, 140 ≤ c → I1 c = I c := fun c c1 => hw c (fun g => by unfold UC at g; omega)
  obtain ⟨I2, e1, e2, e3⟩ := h2 ((hm 141 (by omega)).trans hR.1) (hm 140 (by omega)) (hm 148 (by omega))
  rw [hK.eq] at e1
  have hq : ∀ c, c < 140 → I2 c = I1 c := e3.1
  have hq2 : ∀ c, 148 < c → I2 c = I1 c := fun c hc => e3.2.1 c (by omega)
  have htag : ∀ c t z, (K0 ++ T)[c]? = some (t, z) → ((t < 13 ∧ z = 4) ∨ (t = 8 ∧ z = 10) ∨ (t = 20 ∧ z = 10) ∨ (t = 20 ∧ z = 100)) → I2 c = I1 c := fun c t z hk hz => by
    rcases (by omega : c < 140 ∨ (140 ≤ c ∧ c ≤ 148) ∨ 148 < c) with g | g | g
    · exact hq c g
    · obtain ⟨t', z', e, hh⟩ := f13 c g.1 g.2
      rw [hk] at e; cases e; omega
    · exact hq2 c g
  have htag2 : ∀ c t z, (K0 ++ T)[c]? = some (t, z) → ((t < 13 ∧ z = 4) ∨ (t = 8 ∧ z = 10) ∨ (t = 20 ∧ z = 10) ∨ (t = 20 ∧ z = 100)) → I2 c = I c := fun c t z hk hz => (htag c t z hk hz).trans (hw c (hno c t z hk hz))
  have hlow : ∀ c, ¬ UC c → c < 140 → I2 c = I c := fun c h h2 => (hq c h2).trans (hw c h)
  obtain ⟨g1, g2, g3, g4, g5, sp, g6, g7, g8, g9⟩ := hC
  refine ⟨w, T, I1, R, I2, h1, e1, ⟨hK, s', n, hd, cls, e', l, im, hG', ⟨hV'.j htag (fun c c1 c2 => hq c (by omega)) (fun c c1 c2 => hq c (by omega)), ?_, g3, ?_, fun i hi => ⟨(g5 i hi).1.j htag2 (fun c c1 c2 => hlow c (by unfold UC; omega) (by omega)) (fun c c1 c2 => hlow c (by unfold UC; omega) (by omega)), (g5 i hi).2⟩, sp, g6, g7, g8, g9⟩, ?_⟩, Or.inl rfl⟩
  · have : I2 134 = I 134 := hlow 134 (by unfold UC; omega) (by omega)
    unfold TCc at g2 ⊢
    rw [this]
    exact g2
  · rw [hlow 0 (by unfold UC; omega) (by omega)]; exact g4
  · obtain ⟨a1, a2, a3, a4, a5, a6⟩ := hR
    have e142 := hm 140 (by omega)
    have e144 : I2 142 = I 142 := e3.2.2.1.trans (hm 142 (by omega))
    have e150 : I2 148 = I 148 := e3.2.2.2.1.trans (hm 148 (by omega))
    refine ⟨e2, ?_, ?_, ?_, by rw [e144]; exact a5, by rw [e144]; exact a6⟩
    · rw [e3.2.2.2.2.2.1, e142]; exact a2
    · rw [e3.2.2.2.2.1, e142]; exact a3
    · unfold TC at a4 ⊢
      rw [e3.2.2.2.2.2.2, e142, e150]
      exact a4
end UPD
