/-! CALLS OF THE LAW that change the row -/
theorem VA.gen2 {K : List (Nat × Nat)} {I I' : Nat → Nat → Int32} {R : Nat → Nat → Option Nat} {v n : Nat} {s : Nat → Int32} {cls : Cls} {du fd : Int32} (h : VA K I R v s n cls du fd) (hI2 : ∀ c t z, K[c]? = some (t, z) → ((t < 13 ∧ z = 4) ∨ (t = 8 ∧ z = 10) ∨ (t = 20 ∧ z = 10) ∨ (t = 20 ∧ z = 100)) → I' c = I c) (hI1 : ∀ c, v ≤ c → c ≤ v + 7 → I' c = I c) : VA K I' R v s n cls du fd := by
  obtain ⟨h1, h2, h3, h4, ⟨q, h5, h6⟩, h7⟩ := h
  refine ⟨h1, ?_, ?_, h4, ⟨q, h5, ?_⟩, by rw [hI1 v (by omega) (by omega)]; exact h7⟩
  · unfold VM at h2 ⊢
    rw [hI1 v (by omega) (by omega), hI1 (v + 2) (by omega) (by omega), hI1 (v + 3) (by omega) (by omega), hI1 (v + 4) (by omega) (by omega), hI1 (v + 5) (by omega) (by omega), hI1 (v + 6) (by omega) (by omega), hI1 (v + 7) (by omega) (by omega)]
    exact h2
  · intro p hp
    obtain ⟨m, kk, a1, a2, a3, a4, a5⟩ := h3 p hp
    exact ⟨m, kk, a1, a2, a3, a4, by rw [hI2 m _ 4 a4 (Or.inl ⟨kt_lt kk, rfl⟩)]; exact a5⟩
  · exact h6.fr (hI2 _ _ _ h6.1 (by omega)) (hI2 _ _ _ h6.2.1 (by omega)) (hI2 _ _ _ h6.2.2.1 (by omega)) (hI2 _ _ _ h6.2.2.2.1 (by omega))
theorem HM.c {I I' : Nat → Nat → Int32} {h : Nat} {s : Nat → Int32} (hM : HM I h s) (hI : ∀ c, h ≤ c → c ≤ h + 7 → I' c = I c) : HM I' h s := by
  unfold HM at hM ⊢
  rw [hI h (by omega) (by omega), hI (h + 1) (by omega) (by omega), hI (h + 2) (by omega) (by omega), hI (h + 3) (by omega) (by omega), hI (h + 4) (by omega) (by omega), hI (h + 5) (by omega) (by omega), hI (h + 6) (by omega) (by omega), hI (h + 7) (by omega) (by omega)]
  exact hM
theorem VH.j {K : List (Nat × Nat)} {I I' : Nat → Nat → Int32} {R : Nat → Nat → Option Nat} {v h n : Nat} {s : Nat → Int32} {hd : Option Nat} {cls : Cls} (hV : VH K I R v h s n hd cls) (hI2 : ∀ c t z, K[c]? = some (t, z) → ((t < 13 ∧ z = 4) ∨ (t = 8 ∧ z = 10) ∨ (t = 20 ∧ z = 10) ∨ (t = 20 ∧ z = 100)) → I' c = I c) (hv : ∀ c, v ≤ c → c ≤ v + 7 → I' c = I c) (hh : ∀ c, h ≤ c → c ≤ h + 7 → I' c = I c) : VH K I' R v h s n hd cls := by
  obtain ⟨h1, h2, h3, h4, h5⟩ := hV
  refine ⟨h1.gen2 hI2 hv, by rw [hv v (by omega) (by omega)]; exact h2, fun p p1 p2 => ?_, fun p hp => ?_, h5.c hh⟩
  · rw [hv (v + 4) (by omega) (by omega), hv (v + 5) (by omega) (by omega), hv (v + 6) (by omega) (by omega), hv (v + 7) (by omega) (by omega)]
    exact h3 p p1 p2
  · obtain ⟨m, kk, a1, a2, a3, a4, a5, a6, a7, a8⟩ := h4 p hp
    have em := hI2 m _ 4 a4 (Or.inl ⟨kt_lt kk, rfl⟩)
    exact ⟨m, kk, a1, a2, a3, a4, by rw [em]; exact a5, by rw [em]; exact a6, a7, a8⟩
/-- what may be written by a change of the row that makes nothing new -/
def UC (c : Nat) : Prop := (1 ≤ c ∧ c ≤ 9) ∨ (15 ≤ c ∧ c ≤ 22)
theorem FX.uc {K : List (Nat × Nat)} {R : Nat → Nat → Option Nat} (hF : FX K R) : ∀ c t z, K[c]? = some (t, z) → ((t < 13 ∧ z = 4) ∨ (t = 8 ∧ z = 10) ∨ (t = 20 ∧ z = 10) ∨ (t = 20 ∧ z = 100)) → ¬ UC c := by
  obtain ⟨f0, f1, f2, f3, f4, f5, f6, fv1, fv2, fv3, fh1, fh2, -⟩ := hF
  obtain ⟨k0, k1, k2, k3, k4, k5, k6, k7, k8, -⟩ := fv1
  obtain ⟨j0, j1, j2, j3, j4, j5, j6, j7, -⟩ := fh1
  intro c t z hk hz hc
  have e : c = 1 ∨ c = 2 ∨ c = 3 ∨ c = 4 ∨ c = 5 ∨ c = 6 ∨ c = 7 ∨ c = 8 ∨ c = 9 ∨ c = 15 ∨ c = 16 ∨ c = 17 ∨ c = 18 ∨ c = 19 ∨ c = 20 ∨ c = 21 ∨ c = 22 := by unfold UC at hc; omega
  rcases e with g | g | g | g | g | g | g | g | g | g | g | g | g | g | g | g | g <;> subst g <;> (first | rw [k0] at hk | rw [k1] at hk | rw [k2] at hk | rw [k3] at hk | rw [k4] at hk | rw [k5] at hk | rw [k6] at hk | rw [k7] at hk | rw [k8] at hk | rw [j0] at hk | rw [j1] at hk | rw [j2] at hk | rw [j3] at hk | rw [j4] at hk | rw [j5] at hk | rw [j6] at hk | rw [j7] at hk) <;> cases hk <;> omega
section UPD
variable {X : Nat × (Nat → Int32)} {d : Nat} {K : List (Nat × Nat)} {T : List (Nat × Nat)} {I : Nat → Nat → Int32} {R : Nat → Nat → Option Nat} {s : Nat → Int32} {n e : Nat} {hd : Option Nat} {cls : Cls} {l : List Int32} {im : Option Img} {kc km : Nat} {As : List Value}
end UPD
