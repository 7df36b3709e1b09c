/-! CALLS OF THE LAW: row, reopen -/
theorem VA.vm {K : List (Nat × Nat)} {I I' : Nat → Nat → Int32} {R : Nat → Nat → Option Nat} {v n : Nat} {s s' : Nat → Int32} {cls : Cls} {du fd : Int32} (h : VA K I R v s n cls du fd) (hM : VM I' v s' n) (hk : ∀ p, p < n → s' (33 + p) = s (33 + p)) (hf : ∀ c, ¬ (v ≤ c ∧ c ≤ v + 8) → I' c = I c) (h13 : I' v 13 = I v 13) : VA K I' R v s' n cls du fd := by
  obtain ⟨h1, h2, h3, h4, ⟨q, h5, h6⟩, h7⟩ := h
  obtain ⟨k0, k1, k2, k3, k4, k5, k6, k7, k8, -⟩ := id h1
  have no : ∀ c t z, K[c]? = some (t, z) → (z = 4 ∨ z = 10 ∨ z = 100) → I' c = I c := fun c t z hc hz => hf c (fun g => by
    rcases (by omega : c = v ∨ c = v + 1 ∨ c = v + 2 ∨ c = v + 3 ∨ c = v + 4 ∨ c = v + 5 ∨ c = v + 6 ∨ c = v + 7 ∨ c = v + 8) with e | e | e | e | e | e | e | e | e <;> rw [e] at hc <;> (first | rw [k0] at hc | rw [k1] at hc | rw [k2] at hc | rw [k3] at hc | rw [k4] at hc | rw [k5] at hc | rw [k6] at hc | rw [k7] at hc | rw [k8] at hc) <;> cases hc <;> omega)
  refine ⟨h1, hM, fun p hp => ?_, h4, ⟨q, h5, h6.fr (no _ _ _ h6.1 (by omega)) (no _ _ _ h6.2.1 (by omega)) (no _ _ _ h6.2.2.1 (by omega)) (no _ _ _ h6.2.2.2.1 (by omega))⟩, h13.trans h7⟩
  obtain ⟨m, kk, a1, a2, a3, a4, a5⟩ := h3 p hp
  exact ⟨m, kk, a1, a2, (hk p hp).trans a3, a4, by rw [no m _ 4 a4 (Or.inl rfl)]; exact a5⟩
section ROW
variable {X : Nat × (Nat → Int32)} {d : Nat} {K : List (Nat × Nat)} {T : List (Nat × Nat)} {I : Nat → Nat → Int32} {R : Nat → Nat → Option Nat} {s : Nat → Int32} {n e : Nat} {hd : Option Nat} {cls : Cls} {l : List Int32} {im : Option Img} {kc km : Nat} {As : List Value}
theorem c_row (hF : FX K R) (hG : GS s n hd cls e) (hVH : VH K I R 1 15 s n hd cls) (x y z : Int32) : (∀ p k, p < n → k < 4 → x = nI p → y = nI k → (0 ≤ z ∧ z ≤ 9) → s (33 + p) = 6 → Ev X 59 kX11_row 0 (ent kX11_row [.ref 0, .int x, .int y, .int z]) [] (K, I, R) (some (.int (s (45 + 4 * p + k))), (K, upI I 8 (4 * p + k) z, R))) ∧ (∀ p, p < n → x = nI p → (0 ≤ y ∧ y ≤ 3) → (0 ≤ z ∧ z ≤ 9) → s (33 + p) ≠ 6 → Ev X 59 kX11_row 0 (ent kX11_row [.ref 0, .int x, .int y, .int z]) [] (K, I, R) (some (.int (-3)), (K, I, R))) ∧ ((isM n x ∧ 0 ≤ y ∧ y ≤ 3) → ¬ (0 ≤ z ∧ z ≤ 9) → Ev X 59 kX11_row 0 (ent kX11_row [.ref 0, .int x, .int y, .int z]) [] (K, I, R) (some (.int (-2)), (K, I, R))) ∧ (¬ (isM n x ∧ 0 ≤ y ∧ y ≤ 3) → Ev X 59 kX11_row 0 (ent kX11_row [.ref 0, .int x, .int y, .int z]) [] (K, I, R) (some (.int (-1)), (K, I, R))) := by
  have hV := hVH.1
  have hn6 := hG.2.1.1
  have hm := c_isM (X := X) (d := 58) hF hV.2.1.1 hn6 x
  obtain ⟨f0, f1, f2, f3, f4, f5, f6, fv1, fv2, fv3, fh1, fh2, f7, f8, f9, f10, f11, f12⟩ := hF
  obtain ⟨k0, k1, k2, k3, k4, k5, k6, k7, k8, r0, r1, r2, r3, r4, r5, r6, r7⟩ := id fv1
  obtain ⟨v8, v9, v10, v11, v12, vk, vv, va, vt, vh, vr⟩ := hV.2.1
  have y3 : ∀ {y : Int32}, y < 4 → y ≤ 3 := fun h => by
    rcases Int32.lt_or_eq_of_le (Int32.le_of_lt h) with g | g
    · rw [Int32.le_iff_toInt_le]; rw [Int32.lt_iff_toInt_lt] at h
      have h3 : (3 : Int32).toInt = 3 := by decide
      have h4 : (4 : Int32).toInt = 4 := by decide
      omega
    · rw [g] at h; exact absurd h (by decide)
  have y4 : ∀ {y : Int32}, y ≤ 3 → y < 4 := fun h => Int32.lt_of_le_of_lt h (by decide)
  have go : ∀ {Z : Option Value × Hp}, (isM n x ∧ 0 ≤ y ∧ y ≤ 3) → Ev X 59 kX11_row 19 [some (.ref 0), some (.int x), some (.int y), some (.int z), none, none] [] (K, I, R) Z → Ev X 59 kX11_row 0 (ent kX11_row [.ref 0, .int x, .int y, .int z]) [] (K, I, R) Z := by
    intro Z h g
    (repeat (first | refine Ev.p rfl rfl ?_ | refine Ev.gr (by rfl) (by rfl) (by assumption) (by rfl) (by assumption) ?_ | refine Ev.gi (by rfl) (by rfl) (by assumption) (by rfl) (by assumption) ?_))
    refine Ev.cv (by rfl) (by rfl) (by assumption) (by rfl) (by rfl) (by rfl) (by rfl) (by rfl) (hm.1 h.1) ?_
    iterate 3 refine Ev.p rfl rfl ?_
    refine Ev.bp rfl (fun c => ?_) (fun c => ?_)
    · exact absurd c (Int32.not_lt.mpr h.2.1)
    · iterate 3 refine Ev.p rfl rfl ?_
      refine Ev.bp rfl (fun c2 => ?_) (fun c2 => ?_)
      · exact g
      · exact absurd (y4 h.2.2) c2
  have go2 : ∀ {Z : Option Value × Hp}, (isM n x ∧ 0 ≤ y ∧ y ≤ 3) → (0 ≤ z ∧ z ≤ 9) → Ev X 59 kX11_row 32 [some (.ref 0), some (.int x), some (.int y), some (.int z), none, none] [] (K, I, R) Z → Ev X 59 kX11_row 0 (ent kX11_row [.ref 0, .int x, .int y, .int z]) [] (K, I, R) Z := by
    intro Z h h2 g
    refine go h ?_
    iterate 2 refine Ev.p rfl rfl ?_
    refine Ev.bp rfl (fun c => ?_) (fun c => ?_)
    · exact absurd c (Int32.not_lt.mpr h2.1)
    · iterate 3 refine Ev.p rfl rfl ?_
      refine Ev.bp rfl (fun c2 => ?_) (fun c2 => ?_)
      · exact g
      · exact absurd h2.2 c2
  refine ⟨fun p k hp hk ex ey hz hs => go2 ⟨(isM_iff hn6).mpr ⟨p, hp, ex⟩, by rw [ey]; exact ⟨nI_pos' (by omega), nI_le (b := 3) (by omega) (by omega)⟩⟩ hz ?_, fun p hp ex hy hz hs => go2 ⟨(isM_iff hn6).mpr ⟨p, hp, ex⟩, hy⟩ hz ?_, fun h hz => go h ?_, fun h => ?_⟩
  · subst ex ey
    have e4 : nI p * 4 + nI k = nI (4 * p + k) := by
      rw [Int32.mul_comm, nI_4mul (by omega), nI_add]
    (repeat (first | refine Ev.p rfl rfl ?_ | refine Ev.gr (by rfl) (by rfl) (by assumption) (by rfl) (by assumption) ?_ | refine Ev.gi (by rfl) (by rfl) (by assumption) (by rfl) (by assumption) ?_))
    (refine Ev.iald (j := p) (by rfl) (by assumption) (by rfl) (by omega) (by omega) ?_; rw [vk p hp, hs])
    (repeat (first | refine Ev.p rfl rfl ?_ | refine Ev.gr (by rfl) (by rfl) (by assumption) (by rfl) (by assumption) ?_ | refine Ev.gi (by rfl) (by rfl) (by assumption) (by rfl) (by assumption) ?_))
    rw [e4]
    (refine Ev.iald (j := 4 * p + k) (by rfl) (by assumption) (by rfl) (by omega) (by omega) ?_; rw [vr p k hp hk])
    (repeat (first | refine Ev.p rfl rfl ?_ | refine Ev.gr (by rfl) (by rfl) (by assumption) (by rfl) (by assumption) ?_ | refine Ev.gi (by rfl) (by rfl) (by assumption) (by rfl) (by assumption) ?_))
    refine Ev.iast (j := 4 * p + k) (by rfl) (by assumption) (by rfl) (by omega) (by omega) ?_
    ((repeat refine Ev.p rfl rfl ?_); exact Ev.r rfl)
  · subst ex
    (repeat (first | refine Ev.p rfl rfl ?_ | refine Ev.gr (by rfl) (by rfl) (by assumption) (by rfl) (by assumption) ?_ | refine Ev.gi (by rfl) (by rfl) (by assumption) (by rfl) (by assumption) ?_))
    (refine Ev.iald (j := p) (by rfl) (by assumption) (by rfl) (by omega) (by omega) ?_; rw [vk p hp])
    (repeat (first | refine Ev.p rfl rfl ?_ | refine Ev.gr (by rfl) (by rfl) (by assumption) (by rfl) (by assumption) ?_ | refine Ev.gi (by rfl) (by rfl) (by assumption) (by rfl) (by assumption) ?_))
    refine Ev.bp rfl (fun c => ?_) (fun c => ?_)
    · exact absurd c hs
    · ((repeat refine Ev.p rfl rfl ?_); exact Ev.r rfl)
  · (repeat (first | refine Ev.p rfl rfl ?_ | refine Ev.gr (by rfl) (by rfl) (by assumption) (by rfl) (by assumption) ?_ | refine Ev.gi (by rfl) (by rfl) (by assumption) (by rfl) (by assumption) ?_))
    refine Ev.bp rfl (fun c => ?_) (fun c => ?_)
    · ((repeat refine Ev.p rfl rfl ?_); exact Ev.r rfl)
    · (repeat (first | refine Ev.p rfl rfl ?_ | refine Ev.gr (by rfl) (by rfl) (by assumption) (by rfl) (by assumption) ?_ | refine Ev.gi (by rfl) (by rfl) (by assumption) (by rfl) (by assumption) ?_))
      refine Ev.bp rfl (fun c2 => ?_) (fun c2 => ?_)
      · exact absurd ⟨Int32.not_lt.mp c, c2⟩ hz
      · ((repeat refine Ev.p rfl rfl ?_); exact Ev.r rfl)
  · by_cases h1 : isM n x
    · (repeat (first | refine Ev.p rfl rfl ?_ | refine Ev.gr (by rfl) (by rfl) (by assumption) (by rfl) (by assumption) ?_ | refine Ev.gi (by rfl) (by rfl) (by assumption) (by rfl) (by assumption) ?_))
      refine Ev.cv (by rfl) (by rfl) (by assumption) (by rfl) (by rfl) (by rfl) (by rfl) (by rfl) (hm.1 h1) ?_
      (repeat (first | refine Ev.p rfl rfl ?_ | refine Ev.gr (by rfl) (by rfl) (by assumption) (by rfl) (by assumption) ?_ | refine Ev.gi (by rfl) (by rfl) (by assumption) (by rfl) (by assumption) ?_))
      refine Ev.bp rfl (fun c => ?_) (fun c => ?_)
      · ((repeat refine Ev.p rfl rfl ?_); exact Ev.r rfl)
      · (repeat (first | refine Ev.p rfl rfl ?_ | refine Ev.gr (by rfl) (by rfl) (by assumption) (by rfl) (by assumption) ?_ | refine Ev.gi (by rfl) (by rfl) (by assumption) (by rfl) (by assumption) ?_))
        refine Ev.bp rfl (fun c2 => ?_) (fun c2 => ?_)
        · exact absurd ⟨h1, Int32.not_lt.mp c, y3 c2⟩ h
        · ((repeat refine Ev.p rfl rfl ?_); exact Ev.r rfl)
    · (repeat (first | refine Ev.p rfl rfl ?_ | refine Ev.gr (by rfl) (by rfl) (by assumption) (by rfl) (by assumption) ?_ | refine Ev.gi (by rfl) (by rfl) (by assumption) (by rfl) (by assumption) ?_))
      refine Ev.cv (by rfl) (by rfl) (by assumption) (by rfl) (by rfl) (by rfl) (by rfl) (by rfl) (hm.2 h1) ?_
      ((repeat refine Ev.p rfl rfl ?_); exact Ev.r rfl)
end ROW
