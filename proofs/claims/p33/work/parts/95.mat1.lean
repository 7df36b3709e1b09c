/-! WHEN CELLS ARE MADE: what stays; the row behind MATTER -/
theorem sr_big {p i : Nat} (h : 140 ≤ p) : sr p i = none := by
  have hb : ∀ c, c < 140 → Nat.blt p c = false := fun c hc => by
    cases h2 : Nat.blt p c with
    | false => rfl
    | true =>
      have := Nat.le_of_ble_eq_true h2
      omega
  have he : Nat.beq p 135 = false := by
    cases h2 : Nat.beq p 135 with
    | false => rfl
    | true =>
      have := Nat.eq_of_beq_eq_true h2
      omega
  unfold sr
  rw [hb 64 (by omega), hb 101 (by omega), hb 120 (by omega), hb 129 (by omega), hb 135 (by omega), he]
  rfl
section ALLOC
variable {X : Nat × (Nat → Int32)} {d : Nat} {K K' : List (Nat × Nat)} {T : List (Nat × Nat)} {I I' : Nat → Nat → Int32} {R R' : Nat → Nat → Option Nat} {s : Nat → Int32} {n e v h : Nat} {hd : Option Nat} {cls : Cls} {l : List Int32} {im : Option Img} {kc km : Nat} {As : List Value}
theorem VH.al (hV : VH K I R v h s n hd cls) (hk : KM K K') (hh : h + 7 < K.length) (he : ∀ c, c < K.length → I' c = I c ∧ R' c = R c) : VH K' I' R' v h s n hd cls := by
  refine VH.km ?_ hk
  obtain ⟨h1, h2, h3, h4, h5⟩ := hV
  have lk : ∀ (c : Nat) (y : Nat × Nat), K[c]? = some y → c < K.length := fun c y h => (List.getElem?_eq_some_iff.mp h).1
  have hv : v + 8 < K.length := by
    obtain ⟨-, -, -, -, -, -, -, -, k8, -⟩ := h1.1
    exact lk _ _ k8
  refine ⟨h1.gen (fun c t z hk _ => (he c (lk c _ hk)).1) (fun c c1 c2 => (he c (by omega)).1) (fun j => by rw [(he v (by omega)).2]) (fun j => by rw [(he (v + 1) (by omega)).2]) (fun q hq j _ => by rw [(he q (lk q _ hq)).2]), by rw [(he v (by omega)).1]; exact h2, fun p p1 p2 => ?_, fun p hp => ?_, h5.c (fun c c1 c2 => (he c (by omega)).1)⟩
  · rw [(he (v + 4) (by omega)).1, (he (v + 5) (by omega)).1, (he (v + 6) (by omega)).1, (he (v + 7) (by omega)).1]
    exact h3 p p1 p2
  · obtain ⟨m, kk, a1, a2, a3, a4, a5, a6, a7, a8⟩ := h4 p hp
    have em := he m (lk m _ a4)
    exact ⟨m, kk, by rw [(he (v + 1) (by omega)).2]; exact a1, a2, a3, a4, by rw [em.1]; exact a5, by rw [em.1]; exact a6, by rw [em.2]; exact a7, a8⟩
end ALLOC
/-! the row behind MATTER -/
theorem rz_o (s : Nat → Int32) (p : Nat) {j : Nat} (h : j < 45 + 4 * p ∨ 49 + 4 * p ≤ j) : ∀ k, k ≤ 4 → rz s p k j = s j := by
  intro k
  induction k with
  | zero => intro _; rfl
  | succ k ih =>
    intro hk
    rw [rz, upd_ne (by omega)]
    exact ih (by omega)
theorem rz_a (s : Nat → Int32) (p : Nat) {i : Nat} : ∀ k, i < k → rz s p k (45 + 4 * p + i) = 0 := by
  intro k
  induction k with
  | zero => intro h; omega
  | succ k ih =>
    intro hk
    rw [rz]
    by_cases h : i = k
    · rw [h, upd_at]
    · rw [upd_ne (by omega)]
      exact ih (by omega)
section RMAT
variable {s : Nat → Int32} {p j : Nat} {x y : Int32}
theorem rMat_26 : rMat s p x y 26 = nI (p + 1) := by
  unfold rMat
  rw [upd_at]
theorem rMat_o (hp : p < 6) (h26 : j ≠ 26) (h1 : j ≠ 33 + p) (h2 : j ≠ 39 + p) (h3 : j ≠ 69 + p) (h4 : j ≠ 2 + p) (h5 : j ≠ 8 + p) (h6 : j ≠ 14 + p) (h7 : j ≠ 20 + p) (h8 : j < 45 + 4 * p ∨ 49 + 4 * p ≤ j) : rMat s p x y j = s j := by
  unfold rMat
  rw [upd_ne h26, rz_o _ _ h8 4 (by omega), upd_ne h7, upd_ne h6, upd_ne h5, upd_ne h4, upd_ne h3, upd_ne h2, upd_ne h1]
theorem rMat_33 (hp : p < 6) : rMat s p x y (33 + p) = x := by
  unfold rMat
  rw [upd_ne (by omega), rz_o _ _ (by omega) 4 (by omega), upd_ne (by omega), upd_ne (by omega), upd_ne (by omega), upd_ne (by omega), upd_ne (by omega), upd_ne (by omega), upd_at]
theorem rMat_39 (hp : p < 6) : rMat s p x y (39 + p) = y := by
  unfold rMat
  rw [upd_ne (by omega), rz_o _ _ (by omega) 4 (by omega), upd_ne (by omega), upd_ne (by omega), upd_ne (by omega), upd_ne (by omega), upd_ne (by omega), upd_at]
theorem rMat_69 (hp : p < 6) : rMat s p x y (69 + p) = 0 := by
  unfold rMat
  rw [upd_ne (by omega), rz_o _ _ (by omega) 4 (by omega), upd_ne (by omega), upd_ne (by omega), upd_ne (by omega), upd_ne (by omega), upd_at]
theorem rMat_2 (hp : p < 6) : rMat s p x y (2 + p) = 0 := by
  unfold rMat
  rw [upd_ne (by omega), rz_o _ _ (by omega) 4 (by omega), upd_ne (by omega), upd_ne (by omega), upd_ne (by omega), upd_at]
theorem rMat_8 (hp : p < 6) : rMat s p x y (8 + p) = 0 := by
  unfold rMat
  rw [upd_ne (by omega), rz_o _ _ (by omega) 4 (by omega), upd_ne (by omega), upd_ne (by omega), upd_at]
theorem rMat_14 (hp : p < 6) : rMat s p x y (14 + p) = 0 := by
  unfold rMat
  rw [upd_ne (by omega), rz_o _ _ (by omega) 4 (by omega), upd_ne (by omega), upd_at]
theorem rMat_20 (hp : p < 6) : rMat s p x y (20 + p) = 0 := by
  unfold rMat
  rw [upd_ne (by omega), rz_o _ _ (by omega) 4 (by omega), upd_at]
theorem rMat_45 (hp : p < 6) {k : Nat} (hk : k < 4) : rMat s p x y (45 + 4 * p + k) = 0 := by
  unfold rMat
  rw [upd_ne (by omega), rz_a _ _ 4 hk]
/-- beyond the matters' numbers all is as it was -/
theorem rMat_h (hp : p < 6) (h : 27 ≤ j) (h2 : ¬ (33 ≤ j ∧ j < 75)) : rMat s p x y j = s j := rMat_o hp (by omega) (by omega) (by omega) (by omega) (by omega) (by omega) (by omega) (by omega) (by omega)
theorem SN.mo {n b : Nat} (h : SN s n b) : SN s (n + 1) b := by
  obtain ⟨h1, h2, h3⟩ := h
  refine ⟨h1, h2, fun k hk => ?_⟩
  obtain ⟨⟨p, hp, e⟩, r⟩ := h3 k hk
  exact ⟨⟨p, by omega, e⟩, r⟩
theorem SP.mo {n b : Nat} (h : SP s n b) : SP s (n + 1) b := by
  obtain ⟨h1, h2, h3⟩ := h
  refine ⟨h1, h2, fun k hk => ?_⟩
  obtain ⟨w, hw, ew, h4⟩ := h3 k hk
  refine ⟨w, hw, ew, fun h0 => ?_⟩
  obtain ⟨p, hp, e⟩ := h4 h0
  exact ⟨p, by omega, e⟩
theorem SL8.mo {n : Nat} (h : SL8 s n) : SL8 s (n + 1) := by
  obtain ⟨b, h1, h2, h3⟩ := h
  refine ⟨b, h1, h2, fun k hk => ?_⟩
  obtain ⟨p, hp, e⟩ := h3 k hk
  exact ⟨p, by omega, e⟩
theorem mat_T (hp : p < 6) (hd : Option Nat) {w : Nat} (hw : 222 ≤ w) (no : Int32) : rT (rMat s p x y) hd w no = rT s hd w no := by
  cases hd with
  | none => rfl
  | some k => exact rMat_h hp (by omega) (by omega)
theorem GS.mat {n e kk : Nat} {hd : Option Nat} {cls : Cls} (h : GS s n hd cls e) (hn : n < 6) (hkk : kk ≤ 6) {w : Nat} (hw : w ≤ 9) : GS (rMat s n (nI kk) (nI w)) (n + 1) hd cls e := by
  obtain ⟨⟨a1, a2, a3, a4, a5, a6⟩, ⟨b1, ⟨b2, b3, b4⟩, b5, b6, b7, b8⟩, c1, c2, c3, ⟨bn, h1⟩, ⟨bp, h2⟩, h3, h4, c4, c5, c6, hby⟩ := h
  have hl : ∀ j, 27 ≤ j → ¬ (33 ≤ j ∧ j < 75) → rMat s n (nI kk) (nI w) j = s j := fun j j1 j2 => rMat_h hn j1 j2
  have hst : stOK (rMat s n (nI kk) (nI w)) hd cls := by
    cases hd with
    | none => exact ⟨(hl 32 (by omega) (by omega)).trans a6.1, a6.2⟩
    | some k =>
      obtain ⟨g1, g2, g3, g4, g5, g6⟩ := a6
      exact ⟨(hl 32 (by omega) (by omega)).trans g1, g2, (hl _ (by omega) (by omega)).trans g3, g4, fun j x hj => (hl _ (by omega) (by omega)).trans (g5 j x hj), g6⟩
  have h0 : rMat s n (nI kk) (nI w) 0 = s 0 := rMat_o hn (by omega) (by omega) (by omega) (by omega) (by omega) (by omega) (by omega) (by omega) (by omega)
  refine ⟨⟨rMat_26, by omega, fun p hp => ?_, h0.trans a4, a5, hst⟩, ⟨by omega, ⟨fun q hq => ?_, fun q hq => ?_, fun q hq => ?_⟩, fun q hq => ?_, h0.trans b6, b7, b8⟩, c1, ?_, fun q hq => ?_, ⟨bn, h1.mo.al (fun j hj => hl j (by omega) (by omega))⟩, ⟨bp, h2.mo.al2 (fun j hj => hl j (by omega) (by omega))⟩, SL8.al (SL8.mo h3) (fun j hj => hl j (by omega) (by omega)), STx.al h4 (fun j hj => hl j (by omega) (by omega)), ?_, ?_, fun j hj => (hl j (by omega) (by omega)).trans (c6 j hj), hby.al (fun j hj => hl j (by omega) (by omega))⟩
  · by_cases g : p = n
    · rw [g, rMat_33 hn]; exact ⟨kk, hkk, rfl⟩
    · rw [rMat_o hn (by omega) (by omega) (by omega) (by omega) (by omega) (by omega) (by omega) (by omega) (by omega)]; exact a3 p hp
  · by_cases g : q = n
    · rw [g, rMat_14 hn]; exact Or.inl rfl
    · rw [rMat_o hn (by omega) (by omega) (by omega) (by omega) (by omega) (by omega) (by omega) (by omega) (by omega)]; exact b2 q hq
  · by_cases g : q = n
    · rw [g, rMat_20 hn]; exact Or.inl rfl
    · rw [rMat_o hn (by omega) (by omega) (by omega) (by omega) (by omega) (by omega) (by omega) (by omega) (by omega)]; exact b3 q hq
  · by_cases g : q = n
    · rw [g, rMat_69 hn]; exact ⟨0, Nat.two_pow_pos _, rfl⟩
    · rw [rMat_o hn (by omega) (by omega) (by omega) (by omega) (by omega) (by omega) (by omega) (by omega) (by omega)]
      obtain ⟨t, ht, et⟩ := b4 q hq
      exact ⟨t, by rw [Nat.pow_succ]; omega, et⟩
  · refine ⟨?_, ?_, fun k hk => ?_⟩
    · by_cases g : q = n
      · rw [g, rMat_8 hn]; exact ⟨0, by omega, rfl⟩
      · rw [rMat_o hn (by omega) (by omega) (by omega) (by omega) (by omega) (by omega) (by omega) (by omega) (by omega)]; exact (b5 q hq).1
    · by_cases g : q = n
      · rw [g, rMat_39 hn]; exact ⟨w, hw, rfl⟩
      · rw [rMat_o hn (by omega) (by omega) (by omega) (by omega) (by omega) (by omega) (by omega) (by omega) (by omega)]; exact (b5 q hq).2.1
    · by_cases g : q = n
      · rw [g, rMat_45 hn hk]; exact ⟨0, by omega, rfl⟩
      · rw [rMat_o hn (by omega) (by omega) (by omega) (by omega) (by omega) (by omega) (by omega) (by omega) (by omega)]; exact (b5 q hq).2.2 k hk
  · rw [rMat_o hn (by omega) (by omega) (by omega) (by omega) (by omega) (by omega) (by omega) (by omega) (by omega)]; exact c2
  · by_cases g : q = n
    · rw [g, rMat_2 hn]; exact ⟨0, by omega, rfl⟩
    · rw [rMat_o hn (by omega) (by omega) (by omega) (by omega) (by omega) (by omega) (by omega) (by omega) (by omega)]; exact c3 q hq
  · rw [hl 27 (by omega) (by omega)]; exact c4
  · rw [mat_T hn hd (by omega)]; exact c5
end RMAT
