/-! THE LAW'S START: what holds behind the constructors -/
def SRL : List (Nat × Nat × Nat) := [(0, 0, 1), (0, 1, 15), (0, 2, 23), (0, 3, 37), (0, 4, 45), (0, 5, 134), (1, 0, 2), (1, 1, 3), (1, 2, 4), (1, 3, 5), (1, 4, 6), (1, 5, 7), (1, 6, 8), (1, 7, 9), (10, 3, 11), (10, 4, 12), (10, 5, 13), (15, 0, 16), (15, 2, 17), (15, 3, 18), (15, 6, 19), (15, 7, 20), (15, 9, 21), (15, 10, 22), (23, 0, 24), (23, 1, 25), (23, 2, 26), (23, 3, 27), (23, 4, 28), (23, 5, 29), (23, 6, 30), (23, 7, 31), (32, 3, 33), (32, 4, 34), (32, 5, 35), (37, 0, 38), (37, 2, 39), (37, 3, 40), (37, 6, 41), (37, 7, 42), (37, 9, 43), (37, 10, 44), (45, 0, 46), (45, 1, 60), (45, 2, 61), (45, 3, 62), (45, 8, 63), (46, 0, 47), (46, 1, 48), (46, 2, 49), (46, 3, 50), (46, 4, 51), (46, 5, 52), (46, 6, 53), (46, 7, 54), (55, 3, 56), (55, 4, 57), (55, 5, 58), (60, 0, 64), (60, 1, 78), (60, 2, 92), (60, 3, 106), (60, 4, 120), (64, 0, 65), (64, 1, 66), (64, 2, 67), (64, 3, 68), (64, 4, 69), (64, 5, 70), (64, 6, 71), (64, 7, 72), (73, 3, 74), (73, 4, 75), (73, 5, 76), (78, 0, 79), (78, 1, 80), (78, 2, 81), (78, 3, 82), (78, 4, 83), (78, 5, 84), (78, 6, 85), (78, 7, 86), (87, 3, 88), (87, 4, 89), (87, 5, 90), (92, 0, 93), (92, 1, 94), (92, 2, 95), (92, 3, 96), (92, 4, 97), (92, 5, 98), (92, 6, 99), (92, 7, 100), (101, 3, 102), (101, 4, 103), (101, 5, 104), (106, 0, 107), (106, 1, 108), (106, 2, 109), (106, 3, 110), (106, 4, 111), (106, 5, 112), (106, 6, 113), (106, 7, 114), (115, 3, 116), (115, 4, 117), (115, 5, 118), (120, 0, 121), (120, 1, 122), (120, 2, 123), (120, 3, 124), (120, 4, 125), (120, 5, 126), (120, 6, 127), (120, 7, 128), (129, 3, 130), (129, 4, 131), (129, 5, 132), (135, 3, 136), (135, 4, 137), (135, 5, 138)]
theorem cs_self {c : Bool} {x : Option Nat} : (bif c then x else x) = x := by cases c <;> rfl
theorem sr_i {p i : Nat} (h : 16 ≤ i) : sr p i = none := by
  have hb : ∀ c, c ≤ 16 → Nat.blt i c = false := fun c hc => by
    cases h2 : Nat.blt i c with
    | false => rfl
    | true =>
      have := Nat.le_of_ble_eq_true h2
      omega
  have he : ∀ c, c < 16 → Nat.beq i c = false := fun c hc => by
    cases h2 : Nat.beq i c with
    | false => rfl
    | true =>
      have := Nat.eq_of_beq_eq_true h2
      omega
  unfold sr
  simp only [hb 1 (by omega), hb 2 (by omega), hb 3 (by omega), hb 4 (by omega), hb 5 (by omega), hb 6 (by omega), hb 7 (by omega), hb 8 (by omega), hb 9 (by omega), hb 10 (by omega), hb 11 (by omega), hb 12 (by omega), hb 13 (by omega), hb 14 (by omega), hb 15 (by omega), he 0 (by omega), he 1 (by omega), he 2 (by omega), he 3 (by omega), he 4 (by omega), he 5 (by omega), he 6 (by omega), he 7 (by omega), he 8 (by omega), he 9 (by omega), he 10 (by omega), he 11 (by omega), he 12 (by omega), he 13 (by omega), he 14 (by omega), he 15 (by omega), cond_false, cs_self]
def srB (p i : Nat) : Bool := match sr p i with
  | none => true
  | some q => decide ((p, i, q) ∈ SRL)
theorem srB_all : ∀ p, p < 140 → ∀ i, i < 16 → srB p i = true := by decide +kernel
theorem sr_in {p i q : Nat} (h : sr p i = some q) : (p, i, q) ∈ SRL := by
  rcases Nat.lt_or_ge p 140 with hp | hp
  · rcases Nat.lt_or_ge i 16 with hi | hi
    · have h2 := srB_all p hp i hi
      unfold srB at h2
      rw [h] at h2
      exact of_decide_eq_true h2
    · rw [sr_i hi] at h; cases h
  · rw [sr_big hp] at h; cases h
def RSL (R : Nat → Nat → Option Nat) : List (Nat × Nat × Nat) → Prop
  | [] => True
  | t :: l => R t.1 t.2.1 = some t.2.2 ∧ RSL R l
theorem RSL.ok {R : Nat → Nat → Option Nat} : ∀ (l : List (Nat × Nat × Nat)), RSL R l → ∀ t ∈ l, R t.1 t.2.1 = some t.2.2 := by
  intro l
  induction l with
  | nil => intro _ t ht; cases ht
  | cons a l ih =>
    intro h t ht
    rcases List.mem_cons.mp ht with g | g
    · rw [g]; exact h.1
    · exact ih h.2 t g
theorem RSL.rs {R : Nat → Nat → Option Nat} (h : RSL R SRL) : RSok R := fun p i q hs => RSL.ok SRL h (p, i, q) (sr_in hs)
section START
variable {X : Nat × (Nat → Int32)} {K : List (Nat × Nat)} {I : Nat → Nat → Int32} {R : Nat → Nat → Option Nat}
theorem gs_0 {s : Nat → Int32} (h32 : s 32 = -1) (hz : ∀ j, j ≠ 32 → s j = 0) : GS s 0 none [] 0 := by
  have z : ∀ j, j ≠ 32 → s j = nI 0 := fun j hj => (hz j hj).trans nI_0.symm
  refine ⟨⟨z 26 (by omega), by omega, fun p hp => ⟨0, by omega, z _ (by omega)⟩, z 0 (by omega), by omega, h32, rfl⟩, ⟨by omega, ⟨fun q hq => Or.inl (hz _ (by omega)), fun q hq => Or.inl (hz _ (by omega)), fun p hp => ⟨0, Nat.two_pow_pos _, z _ (by omega)⟩⟩, fun p hp => ⟨⟨0, by omega, z _ (by omega)⟩, ⟨0, by omega, z _ (by omega)⟩, fun k hk => ⟨0, by omega, z _ (by omega)⟩⟩, z 0 (by omega), fun q hq => (List.not_mem_nil hq).elim, by show 0 ≤ 10; omega⟩, by omega, ⟨0, by omega, z 1 (by omega)⟩, fun p hp => ⟨0, by omega, z _ (by omega)⟩, ⟨0, z 28 (by omega), by omega, fun k hk => by omega⟩, ⟨0, z 29 (by omega), by omega, fun k hk => by omega⟩, ⟨0, by omega, z 30 (by omega), fun k hk => by omega⟩, ⟨0, by omega, z 31 (by omega), fun j hj => by omega⟩, ⟨0, by omega, z 27 (by omega), fun h e => by cases e⟩, ⟨1, by omega, rfl⟩, fun j hj => hz j (by omega), fun j hj => ⟨0, by omega, z _ (by omega)⟩, fun k hk => Or.inl (hz _ (by omega))⟩
/-- what holds of the class between two calls -/
def CT (T : List (Nat × Nat)) (I : Nat → Nat → Int32) (R : Nat → Nat → Option Nat) (s : Nat → Int32) (n : Nat) (hd : Option Nat) (cls : Cls) (e : Nat) (l : List Int32) (im : Option Img) : Prop := RSok R ∧ GS s n hd cls e ∧ CR (K0 ++ T) I R s n hd cls l im
def s0 : Nat → Int32 := upd (fun _ => 0) 32 (-1)
theorem ct_0 {J : Nat → Nat → Int32} {Q : Nat → Nat → Option Nat} (hF : FKR J Q) : CT [] J Q s0 0 none [] 0 [] none := by
  have s32 : s0 32 = -1 := upd_at _ _ _
  have sz : ∀ j, j ≠ 32 → s0 j = 0 := fun j hj => upd_ne hj
  obtain ⟨h00, h01, h02, h03, h04, h05, h06, v1, vi, vn, u15, ui, v24, u38, ⟨a0, a1, a2, a3, a8, b0, b1, b2, b3, b4, w0, w1, w2, w3, w4, w5⟩, k137, h07, h136⟩ := hF
  have hK : RSok Q := RSL.rs (by
    unfold RSL SRL
    exact ⟨h00, h01, h02, h03, h04, h05, v1.1, v1.2.1, v1.2.2.1, v1.2.2.2.1, v1.2.2.2.2.1, v1.2.2.2.2.2.1, v1.2.2.2.2.2.2.1, v1.2.2.2.2.2.2.2.1, v1.2.2.2.2.2.2.2.2.2.1, v1.2.2.2.2.2.2.2.2.2.2.1, v1.2.2.2.2.2.2.2.2.2.2.2, u15.1, u15.2.1, u15.2.2.1, u15.2.2.2.1, u15.2.2.2.2.1, u15.2.2.2.2.2.1, u15.2.2.2.2.2.2, v24.1, v24.2.1, v24.2.2.1, v24.2.2.2.1, v24.2.2.2.2.1, v24.2.2.2.2.2.1, v24.2.2.2.2.2.2.1, v24.2.2.2.2.2.2.2.1, v24.2.2.2.2.2.2.2.2.2.1, v24.2.2.2.2.2.2.2.2.2.2.1, v24.2.2.2.2.2.2.2.2.2.2.2, u38.1, u38.2.1, u38.2.2.1, u38.2.2.2.1, u38.2.2.2.2.1, u38.2.2.2.2.2.1, u38.2.2.2.2.2.2, a0, a1, a2, a3, a8, w0.1, w0.2.1, w0.2.2.1, w0.2.2.2.1, w0.2.2.2.2.1, w0.2.2.2.2.2.1, w0.2.2.2.2.2.2.1, w0.2.2.2.2.2.2.2.1, w0.2.2.2.2.2.2.2.2.2.1, w0.2.2.2.2.2.2.2.2.2.2.1, w0.2.2.2.2.2.2.2.2.2.2.2, b0, b1, b2, b3, b4, w1.1, w1.2.1, w1.2.2.1, w1.2.2.2.1, w1.2.2.2.2.1, w1.2.2.2.2.2.1, w1.2.2.2.2.2.2.1, w1.2.2.2.2.2.2.2.1, w1.2.2.2.2.2.2.2.2.2.1, w1.2.2.2.2.2.2.2.2.2.2.1, w1.2.2.2.2.2.2.2.2.2.2.2, w2.1, w2.2.1, w2.2.2.1, w2.2.2.2.1, w2.2.2.2.2.1, w2.2.2.2.2.2.1, w2.2.2.2.2.2.2.1, w2.2.2.2.2.2.2.2.1, w2.2.2.2.2.2.2.2.2.2.1, w2.2.2.2.2.2.2.2.2.2.2.1, w2.2.2.2.2.2.2.2.2.2.2.2, w3.1, w3.2.1, w3.2.2.1, w3.2.2.2.1, w3.2.2.2.2.1, w3.2.2.2.2.2.1, w3.2.2.2.2.2.2.1, w3.2.2.2.2.2.2.2.1, w3.2.2.2.2.2.2.2.2.2.1, w3.2.2.2.2.2.2.2.2.2.2.1, w3.2.2.2.2.2.2.2.2.2.2.2, w4.1, w4.2.1, w4.2.2.1, w4.2.2.2.1, w4.2.2.2.2.1, w4.2.2.2.2.2.1, w4.2.2.2.2.2.2.1, w4.2.2.2.2.2.2.2.1, w4.2.2.2.2.2.2.2.2.2.1, w4.2.2.2.2.2.2.2.2.2.2.1, w4.2.2.2.2.2.2.2.2.2.2.2, w5.1, w5.2.1, w5.2.2.1, w5.2.2.2.1, w5.2.2.2.2.1, w5.2.2.2.2.2.1, w5.2.2.2.2.2.2.1, w5.2.2.2.2.2.2.2.1, w5.2.2.2.2.2.2.2.2.2.1, w5.2.2.2.2.2.2.2.2.2.2.1, w5.2.2.2.2.2.2.2.2.2.2.2, k137.1, k137.2.1, k137.2.2, trivial⟩)
  have hX := FX1 (T := []) hK
  have z : ∀ j, j ≠ 32 → s0 j = nI 0 := fun j hj => (sz j hj).trans nI_0.symm
  obtain ⟨i0, i1, i2, i3, i4', i5, i6, z5, z6, z7, z4, d0, d1, d2⟩ := vi
  obtain ⟨t0, t4, t1, t2, t3, y1, y2, y3, y4, y5, y6, y7⟩ := ui
  refine ⟨hK, gs_0 s32 sz, ⟨⟨⟨hX.2.2.2.2.2.2.2.1, ⟨i0.trans nI_0.symm, i1.trans nI_0.symm, i2.trans nI_0.symm, i3.trans (sz 1 (by omega)).symm, i4'.trans (sz 0 (by omega)).symm, fun p hp => by omega, fun p hp => by omega, fun p hp => by omega, fun p hp => by omega, fun p hp => by omega, fun p k hp => by omega⟩, fun p hp => by omega, fun i _ _ => vn i, ⟨10, v1.2.2.2.2.2.2.2.2.1, rfl, rfl, rfl, rfl, v1.2.2.2.2.2.2.2.2.2.1, v1.2.2.2.2.2.2.2.2.2.2.1, v1.2.2.2.2.2.2.2.2.2.2.2, d1, d2.trans nI_0.symm, by show 0 ≤ 10; omega, fun q hq => (List.not_mem_nil hq).elim, by show 0 ≤ 100; omega, ?_⟩, i6⟩, i5.trans (sz 27 (by omega)).symm, fun p _ _ => ⟨z4 p, z5 p, z6 p, fun k _ => z7 _⟩, fun p hp => by omega, ?_⟩, ⟨?_, fun i x hx => by cases hx⟩, by show 0 ≤ 20; omega, h07, (fun i hi => by cases hi), 135, h06, ⟨rfl, rfl, rfl, rfl, k137.1, k137.2.1, k137.2.2⟩, ?_, fun h => by cases h⟩⟩
  · refine ⟨fun pre rest n w ts h => ?_, fun j t h => by cases h⟩
    have := congrArg List.length h
    simp at this
  · exact ⟨t0.trans (sz 31 (by omega)).symm, t1.trans (sz 28 (by omega)).symm, t2.trans (sz 29 (by omega)).symm, t3.trans (sz 30 (by omega)).symm, fun j hj => (y1 j).trans (sz _ (by omega)).symm, fun k hk => ⟨(y2 k).trans (sz _ (by omega)).symm, (y3 k).trans (sz _ (by omega)).symm⟩, fun k hk => ⟨(y4 k).trans (sz _ (by omega)).symm, (y5 k).trans (sz _ (by omega)).symm, (y6 k).trans (sz _ (by omega)).symm, (y7 k).trans (sz _ (by omega)).symm⟩, t4.trans (by rw [mk_ext (g := fun _ => false) (fun k hk => by unfold seeB; rw [sz _ (by omega)]; rfl)]; rfl)⟩
  · exact (h136 0).trans nI_0.symm
  · rw [v1.2.2.2.2.2.2.2.2.1]
    intro g
    cases g
end START
