/-! THE LAW'S START: what holds behind the constructors -/
def SRL : List (Nat × Nat × Nat) := [(0, 0, 1), (0, 1, 15), (0, 2, 24), (0, 3, 38), (0, 4, 47), (0, 5, 136), (1, 0, 2), (1, 1, 3), (1, 2, 4), (1, 3, 5), (1, 4, 6), (1, 5, 7), (1, 6, 8), (1, 7, 9), (10, 3, 11), (10, 4, 12), (10, 5, 13), (15, 0, 16), (15, 2, 17), (15, 3, 18), (15, 4, 19), (15, 6, 20), (15, 7, 21), (15, 9, 22), (15, 10, 23), (24, 0, 25), (24, 1, 26), (24, 2, 27), (24, 3, 28), (24, 4, 29), (24, 5, 30), (24, 6, 31), (24, 7, 32), (33, 3, 34), (33, 4, 35), (33, 5, 36), (38, 0, 39), (38, 2, 40), (38, 3, 41), (38, 4, 42), (38, 6, 43), (38, 7, 44), (38, 9, 45), (38, 10, 46), (47, 0, 48), (47, 1, 62), (47, 2, 63), (47, 3, 64), (47, 8, 65), (48, 0, 49), (48, 1, 50), (48, 2, 51), (48, 3, 52), (48, 4, 53), (48, 5, 54), (48, 6, 55), (48, 7, 56), (57, 3, 58), (57, 4, 59), (57, 5, 60), (62, 0, 66), (62, 1, 80), (62, 2, 94), (62, 3, 108), (62, 4, 122), (66, 0, 67), (66, 1, 68), (66, 2, 69), (66, 3, 70), (66, 4, 71), (66, 5, 72), (66, 6, 73), (66, 7, 74), (75, 3, 76), (75, 4, 77), (75, 5, 78), (80, 0, 81), (80, 1, 82), (80, 2, 83), (80, 3, 84), (80, 4, 85), (80, 5, 86), (80, 6, 87), (80, 7, 88), (89, 3, 90), (89, 4, 91), (89, 5, 92), (94, 0, 95), (94, 1, 96), (94, 2, 97), (94, 3, 98), (94, 4, 99), (94, 5, 100), (94, 6, 101), (94, 7, 102), (103, 3, 104), (103, 4, 105), (103, 5, 106), (108, 0, 109), (108, 1, 110), (108, 2, 111), (108, 3, 112), (108, 4, 113), (108, 5, 114), (108, 6, 115), (108, 7, 116), (117, 3, 118), (117, 4, 119), (117, 5, 120), (122, 0, 123), (122, 1, 124), (122, 2, 125), (122, 3, 126), (122, 4, 127), (122, 5, 128), (122, 6, 129), (122, 7, 130), (131, 3, 132), (131, 4, 133), (131, 5, 134), (137, 3, 138), (137, 4, 139), (137, 5, 140), (142, 1, 143), (142, 2, 144), (142, 3, 145), (142, 11, 146), (142, 12, 147), (142, 13, 148), (142, 14, 149), (142, 15, 150)]
theorem cs_self {c : Bool} {x : Option Nat} : (bif c then x else x) = x := by cases c <;> rfl
theorem sr_i {p i : Nat} (h : 16 ≤ i) : sr p i = none := by
  have hb : ∀ c, c ≤ 16 → Nat.blt i c = false := fun c hc => by
    cases h2 : Nat.blt i c with
    | false => rfl
    | true =>
      have := Nat.le_of_ble_eq_true h2
      omega
  have he : ∀ c, c < 16 → Nat.beq i c = false := fun c hc => by
    cases h2 : Nat.beq i c with
    | false => rfl
    | true =>
      have := Nat.eq_of_beq_eq_true h2
      omega
  unfold sr
  simp only [hb 1 (by omega), hb 2 (by omega), hb 3 (by omega), hb 4 (by omega), hb 5 (by omega), hb 6 (by omega), hb 7 (by omega), hb 8 (by omega), hb 9 (by omega), hb 10 (by omega), hb 11 (by omega), hb 12 (by omega), hb 13 (by omega), hb 14 (by omega), hb 15 (by omega), he 0 (by omega), he 1 (by omega), he 2 (by omega), he 3 (by omega), he 4 (by omega), he 5 (by omega), he 6 (by omega), he 7 (by omega), he 8 (by omega), he 9 (by omega), he 10 (by omega), he 11 (by omega), he 12 (by omega), he 13 (by omega), he 14 (by omega), he 15 (by omega), cond_false, cs_self]
def srB (p i : Nat) : Bool := match sr p i with
  | none => true
  | some q => decide ((p, i, q) ∈ SRL)
theorem srB_all : ∀ p, p < 151 → ∀ i, i < 16 → srB p i = true := by decide +kernel
theorem sr_in {p i q : Nat} (h : sr p i = some q) : (p, i, q) ∈ SRL := by
  rcases Nat.lt_or_ge p 151 with hp | hp
  · rcases Nat.lt_or_ge i 16 with hi | hi
    · have h2 := srB_all p hp i hi
      unfold srB at h2
      rw [h] at h2
      exact of_decide_eq_true h2
    · rw [sr_i hi] at h; cases h
  · rw [sr_big hp] at h; cases h
def RSL (R : Nat → Nat → Option Nat) : List (Nat × Nat × Nat) → Prop
  | [] => True
  | t :: l => R t.1 t.2.1 = some t.2.2 ∧ RSL R l
theorem RSL.ok {R : Nat → Nat → Option Nat} : ∀ (l : List (Nat × Nat × Nat)), RSL R l → ∀ t ∈ l, R t.1 t.2.1 = some t.2.2 := by
  intro l
  induction l with
  | nil => intro _ t ht; cases ht
  | cons a l ih =>
    intro h t ht
    rcases List.mem_cons.mp ht with g | g
    · rw [g]; exact h.1
    · exact ih h.2 t g
theorem RSL.rs {R : Nat → Nat → Option Nat} (h : RSL R SRL) : RSok R := fun p i q hs => RSL.ok SRL h (p, i, q) (sr_in hs)
section START
variable {X : Nat × (Nat → Int32)} {K : List (Nat × Nat)} {I : Nat → Nat → Int32} {R : Nat → Nat → Option Nat}
theorem gs_0 {s : Nat → Int32} (h32 : s 32 = -1) (hz : ∀ j, j ≠ 32 → s j = 0) : GS s 0 none [] 0 := by
  have z : ∀ j, j ≠ 32 → s j = nI 0 := fun j hj => (hz j hj).trans nI_0.symm
  refine ⟨⟨z 26 (by omega), by omega, fun p hp => ⟨0, by omega, z _ (by omega)⟩, z 0 (by omega), by omega, h32, rfl⟩, ⟨by omega, ⟨fun q hq => Or.inl (hz _ (by omega)), fun q hq => Or.inl (hz _ (by omega)), fun p hp => ⟨0, Nat.two_pow_pos _, z _ (by omega)⟩⟩, fun p hp => ⟨⟨0, by omega, z _ (by omega)⟩, ⟨0, by omega, z _ (by omega)⟩, fun k hk => ⟨0, by omega, z _ (by omega)⟩⟩, z 0 (by omega), fun q hq => (List.not_mem_nil hq).elim, by show 0 ≤ 10; omega⟩, by omega, ⟨0, by omega, z 1 (by omega)⟩, fun p hp => ⟨0, by omega, z _ (by omega)⟩, ⟨0, z 28 (by omega), by omega, fun k hk => by omega⟩, ⟨0, z 29 (by omega), by omega, fun k hk => by omega⟩, ⟨0, by omega, z 30 (by omega), fun k hk => by omega⟩, ⟨0, by omega, z 31 (by omega), fun j hj => by omega⟩, ⟨0, by omega, z 27 (by omega), fun h e => by cases e⟩, ⟨1, by omega, rfl⟩, fun j hj => hz j (by omega), fun j hj => ⟨0, by omega, z _ (by omega)⟩, fun k hk => Or.inl (hz _ (by omega))⟩
theorem li_0 {J : Nat → Nat → Int32} {Q : Nat → Nat → Option Nat} (hF : FKR J Q) (m1 : Q 142 1 = some 143) (m2 : Q 142 2 = some 144) (m3 : Q 142 3 = some 145) (m11 : Q 142 11 = some 146) (m12 : Q 142 12 = some 147) (m13 : Q 142 13 = some 148) (m14 : Q 142 14 = some 149) (m15 : Q 142 15 = some 150) (m5 : J 142 5 = -1) (m4 : J 142 4 = 0) (m16 : J 142 16 = 0) (s32 : J 143 32 = -1) (sz : ∀ j, j ≠ 32 → J 143 j = 0) (i4 : ∀ j, J 144 j = 0) : LI [] J Q := by
  obtain ⟨h00, h01, h02, h03, h04, h05, h06, v1, vi, vn, u15, ui, v24, u38, ⟨a0, a1, a2, a3, a8, b0, b1, b2, b3, b4, w0, w1, w2, w3, w4, w5⟩, k137, h07, h136⟩ := hF
  have hK : RSok Q := RSL.rs (by
    unfold RSL SRL
    exact ⟨h00, h01, h02, h03, h04, h05, v1.1, v1.2.1, v1.2.2.1, v1.2.2.2.1, v1.2.2.2.2.1, v1.2.2.2.2.2.1, v1.2.2.2.2.2.2.1, v1.2.2.2.2.2.2.2.1, v1.2.2.2.2.2.2.2.2.2.1, v1.2.2.2.2.2.2.2.2.2.2.1, v1.2.2.2.2.2.2.2.2.2.2.2, u15.1, u15.2.1, u15.2.2.1, u15.2.2.2.1, u15.2.2.2.2.1, u15.2.2.2.2.2.1, u15.2.2.2.2.2.2.1, u15.2.2.2.2.2.2.2, v24.1, v24.2.1, v24.2.2.1, v24.2.2.2.1, v24.2.2.2.2.1, v24.2.2.2.2.2.1, v24.2.2.2.2.2.2.1, v24.2.2.2.2.2.2.2.1, v24.2.2.2.2.2.2.2.2.2.1, v24.2.2.2.2.2.2.2.2.2.2.1, v24.2.2.2.2.2.2.2.2.2.2.2, u38.1, u38.2.1, u38.2.2.1, u38.2.2.2.1, u38.2.2.2.2.1, u38.2.2.2.2.2.1, u38.2.2.2.2.2.2.1, u38.2.2.2.2.2.2.2, a0, a1, a2, a3, a8, w0.1, w0.2.1, w0.2.2.1, w0.2.2.2.1, w0.2.2.2.2.1, w0.2.2.2.2.2.1, w0.2.2.2.2.2.2.1, w0.2.2.2.2.2.2.2.1, w0.2.2.2.2.2.2.2.2.2.1, w0.2.2.2.2.2.2.2.2.2.2.1, w0.2.2.2.2.2.2.2.2.2.2.2, b0, b1, b2, b3, b4, w1.1, w1.2.1, w1.2.2.1, w1.2.2.2.1, w1.2.2.2.2.1, w1.2.2.2.2.2.1, w1.2.2.2.2.2.2.1, w1.2.2.2.2.2.2.2.1, w1.2.2.2.2.2.2.2.2.2.1, w1.2.2.2.2.2.2.2.2.2.2.1, w1.2.2.2.2.2.2.2.2.2.2.2, w2.1, w2.2.1, w2.2.2.1, w2.2.2.2.1, w2.2.2.2.2.1, w2.2.2.2.2.2.1, w2.2.2.2.2.2.2.1, w2.2.2.2.2.2.2.2.1, w2.2.2.2.2.2.2.2.2.2.1, w2.2.2.2.2.2.2.2.2.2.2.1, w2.2.2.2.2.2.2.2.2.2.2.2, w3.1, w3.2.1, w3.2.2.1, w3.2.2.2.1, w3.2.2.2.2.1, w3.2.2.2.2.2.1, w3.2.2.2.2.2.2.1, w3.2.2.2.2.2.2.2.1, w3.2.2.2.2.2.2.2.2.2.1, w3.2.2.2.2.2.2.2.2.2.2.1, w3.2.2.2.2.2.2.2.2.2.2.2, w4.1, w4.2.1, w4.2.2.1, w4.2.2.2.1, w4.2.2.2.2.1, w4.2.2.2.2.2.1, w4.2.2.2.2.2.2.1, w4.2.2.2.2.2.2.2.1, w4.2.2.2.2.2.2.2.2.2.1, w4.2.2.2.2.2.2.2.2.2.2.1, w4.2.2.2.2.2.2.2.2.2.2.2, w5.1, w5.2.1, w5.2.2.1, w5.2.2.2.1, w5.2.2.2.2.1, w5.2.2.2.2.2.1, w5.2.2.2.2.2.2.1, w5.2.2.2.2.2.2.2.1, w5.2.2.2.2.2.2.2.2.2.1, w5.2.2.2.2.2.2.2.2.2.2.1, w5.2.2.2.2.2.2.2.2.2.2.2, k137.1, k137.2.1, k137.2.2, m1, m2, m3, m11, m12, m13, m14, m15, trivial⟩)
  have hX := FX1 (T := []) hK
  have z : ∀ j, j ≠ 32 → J 143 j = nI 0 := fun j hj => (sz j hj).trans nI_0.symm
  obtain ⟨i0, i1, i2, i3, i4', i5, i6, z5, z6, z7, z4, d0, d1, d2⟩ := vi
  obtain ⟨t0, t1, t2, t3, y1, y2, y3, y4, y5, y6, y7, y8⟩ := ui
  refine ⟨hK, J 143, 0, none, [], 0, [], none, gs_0 s32 sz, ⟨⟨⟨hX.2.2.2.2.2.2.2.1, ⟨i0.trans nI_0.symm, i1.trans nI_0.symm, i2.trans nI_0.symm, i3.trans (sz 1 (by omega)).symm, i4'.trans (sz 0 (by omega)).symm, fun p hp => by omega, fun p hp => by omega, fun p hp => by omega, fun p hp => by omega, fun p hp => by omega, fun p k hp => by omega⟩, fun p hp => by omega, fun i _ _ => vn i, ⟨10, v1.2.2.2.2.2.2.2.2.1, rfl, rfl, rfl, rfl, v1.2.2.2.2.2.2.2.2.2.1, v1.2.2.2.2.2.2.2.2.2.2.1, v1.2.2.2.2.2.2.2.2.2.2.2, d1, d2.trans nI_0.symm, by show 0 ≤ 10; omega, fun q hq => (List.not_mem_nil hq).elim, by show 0 ≤ 100; omega, ?_⟩, i6⟩, i5.trans (sz 27 (by omega)).symm, fun p _ _ => ⟨z4 p, z5 p, z6 p, fun k _ => z7 _⟩, fun p hp => by omega, ?_⟩, ⟨?_, fun i x hx => by cases hx⟩, by show 0 ≤ 20; omega, h07, (fun i hi => by cases hi), 137, h06, ⟨rfl, rfl, rfl, rfl, k137.1, k137.2.1, k137.2.2⟩, ?_, fun h => by cases h⟩, rfl, m5, m4, ⟨m16.trans nI_0.symm, fun i x hx => by cases hx⟩, fun j _ => i4 j, fun i hi => by cases hi⟩
  · refine ⟨fun pre rest n w ts h => ?_, fun j t h => by cases h⟩
    have := congrArg List.length h
    simp at this
  · exact ⟨t0.trans (sz 31 (by omega)).symm, t1.trans (sz 28 (by omega)).symm, t2.trans (sz 29 (by omega)).symm, t3.trans (sz 30 (by omega)).symm, fun j hj => (y1 j).trans (sz _ (by omega)).symm, fun k hk => ⟨(y2 k).trans (sz _ (by omega)).symm, (y3 k).trans (sz _ (by omega)).symm, (y4 k).trans (sz _ (by omega)).symm⟩, fun k hk => ⟨(y5 k).trans (sz _ (by omega)).symm, (y6 k).trans (sz _ (by omega)).symm, (y7 k).trans (sz _ (by omega)).symm, (y8 k).trans (sz _ (by omega)).symm⟩⟩
  · exact (h136 0).trans nI_0.symm
  · rw [v1.2.2.2.2.2.2.2.2.1]
    intro g
    cases g
/-- the law's start: both objects are made, what holds between two calls holds -/
theorem law_start : ∃ I R, LI [] I R ∧ ∀ Z, Ev X 60 0 18 [some (.retAddr 28), some (.ref 0), some (.ref 142), some (.int 0)] [] (K0 ++ [], I, R) Z → Ev X 60 0 0 [some (.retAddr 28), none, none, none] [] ([], fun _ _ => 0, fun _ _ => none) Z := by
  obtain ⟨J, Q, e1, h1⟩ := c_init11 (X := X) (d := 56) (K := [(11, 8)]) (I := zrI (fun _ _ => 0) 0) (R := zrR (fun _ _ => none) 0) rfl rfl
  obtain ⟨J2, Q2, e2, f2, m1, m2, m3, m11, m12, m13, m14, m15, m5, mo, s32, sz, i4, i5⟩ := c_init12 (X := X) (d := 59) (K := ([(11, 8)] ++ FcL) ++ [(12, 20)]) (I := zrI J 142) (R := zrR Q 142) rfl rfl
  have fr : ∀ c, c < 142 → J2 c = J c ∧ Q2 c = Q c := fun c hc => by
    rw [(f2 c hc).1, (f2 c hc).2, zrI_ne (by omega), zrR_ne (by omega)]
    exact ⟨rfl, rfl⟩
  have hF : FKR J2 Q2 := by
    obtain ⟨h00, h01, h02, h03, h04, h05, h06, v1, vi, vn, u15, ui, v24, u38, ak, k137, h07, h136⟩ := h1
    have q0 := (fr 0 (by omega)).2
    refine ⟨by rw [q0]; exact h00, by rw [q0]; exact h01, by rw [q0]; exact h02, by rw [q0]; exact h03, by rw [q0]; exact h04, by rw [q0]; exact h05, by rw [q0]; exact h06, v1.fr (fun c _ _ => (fr c (by omega)).2), vi.fr (fun c _ _ => (fr c (by omega)).1), fun j => by rw [(fr 2 (by omega)).2]; exact vn j, u15.fr (fun c _ _ => (fr c (by omega)).2), ui.fr (fun c _ _ => (fr c (by omega)).1), v24.fr (fun c _ _ => (fr c (by omega)).2), u38.fr (fun c _ _ => (fr c (by omega)).2), ak.fr (fun c _ _ => (fr c (by omega)).2), k137.fr (fr 137 (by omega)).2, by rw [(fr 0 (by omega)).1]; exact h07, fun j => by rw [(fr 136 (by omega)).1]; exact h136 j⟩
  refine ⟨J2, Q2, li_0 hF m1 m2 m3 m11 m12 m13 m14 m15 m5 ((mo 4 (by omega)).trans zrI_at) ((mo 16 (by omega)).trans zrI_at) s32 sz i4, fun Z hZ => ?_⟩
  refine Ev.nw (L := 0) (by rfl) rfl ?_
  iterate 1 refine Ev.p rfl rfl ?_
  refine Ev.csp (by rfl) (by rfl) (by rfl) (show [((11 : Nat), (8 : Nat))][0]? = some (11, 8) from rfl) (by rfl) (by rfl) (by rfl) (by rfl) e1 ?_
  iterate 1 refine Ev.p rfl rfl ?_
  refine Ev.nw (L := 142) (by rfl) rfl ?_
  iterate 1 refine Ev.p rfl rfl ?_
  refine Ev.csp (by rfl) (by rfl) (by rfl) (show (([((11 : Nat), (8 : Nat))] ++ FcL) ++ [(12, 20)])[142]? = some (12, 20) from rfl) (by rfl) (by rfl) (by rfl) (by rfl) e2 ?_
  iterate 3 refine Ev.p rfl rfl ?_
  refine Ev.ls (ls2 := [some (.retAddr 28), some (.ref 0), some (.ref 142), some (.int 0)]) rfl ?_
  refine Ev.at (q := 18) rfl ?_
  exact hZ
end START
