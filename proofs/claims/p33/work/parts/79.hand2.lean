/-! CALLS OF THE LAW: feed, see, plan, book -/
/-- alike but for what a Hand holds -/
def HO (s s' : Nat → Int32) : Prop := ∀ j, ¬ (28 ≤ j ∧ j ≤ 31) → ¬ (75 ≤ j ∧ j < 222) → s' j = s j
theorem HO.up {s s' : Nat → Int32} (h : HO s s') {j : Nat} (x : Int32) (hj : (28 ≤ j ∧ j ≤ 31) ∨ (75 ≤ j ∧ j < 222)) : HO s (upd s' j x) := fun i h1 h2 => by rw [upd_ne (by omega)]; exact h i h1 h2
theorem HO.rf (s : Nat → Int32) : HO s s := fun _ _ _ => rfl
theorem HO.st {s s' : Nat → Int32} {hd : Option Nat} {cls : Cls} (h : HO s s') (hs : stOK s hd cls) : stOK s' hd cls := by
  cases hd with
  | none => exact ⟨(h 32 (by omega) (by omega)).trans hs.1, hs.2⟩
  | some k =>
    obtain ⟨h1, h2, h3, h4, h5, h6⟩ := hs
    exact ⟨(h 32 (by omega) (by omega)).trans h1, h2, (h _ (by omega) (by omega)).trans h3, h4, fun j x hj => (h _ (by omega) (by omega)).trans (h5 j x hj), h6⟩
theorem HO.T {s s' : Nat → Int32} {hd : Option Nat} (h : HO s s') {w : Nat} (hw : 222 ≤ w) (no : Int32) : rT s' hd w no = rT s hd w no := by
  cases hd with
  | none => rfl
  | some k => exact h _ (by omega) (by omega)
/-- what a row holds of LOOKS and of the text -/
def SL8 (s : Nat → Int32) (n : Nat) : Prop := ∃ b, b ≤ 8 ∧ s 30 = nI b ∧ ∀ k, k < b → ∃ p, p < n ∧ s (106 + k) = nI p
def STx (s : Nat → Int32) : Prop := ∃ z, z ≤ 100 ∧ s 31 = nI z ∧ tOK (fun j => s (122 + j)) z
theorem SN.al {s s' : Nat → Int32} {n b : Nat} (h : SN s n b) (ha : ∀ j, j = 28 ∨ (75 ≤ j ∧ j < 90) → s' j = s j) : SN s' n b := by
  obtain ⟨h1, h2, h3⟩ := h
  refine ⟨(ha 28 (by omega)).trans h1, h2, fun k hk => ?_⟩
  rw [ha (75 + k) (by omega), ha (80 + k) (by omega), ha (85 + k) (by omega)]
  exact h3 k hk
theorem SP.al2 {s s' : Nat → Int32} {n b : Nat} (h : SP s n b) (ha : ∀ j, j = 29 ∨ (90 ≤ j ∧ j < 106) → s' j = s j) : SP s' n b := by
  obtain ⟨h1, h2, h3⟩ := h
  refine ⟨(ha 29 (by omega)).trans h1, h2, fun k hk => ?_⟩
  rw [ha (90 + k) (by omega), ha (98 + k) (by omega)]
  exact h3 k hk
theorem SL8.al {s s' : Nat → Int32} {n : Nat} (h : SL8 s n) (ha : ∀ j, j = 30 ∨ (106 ≤ j ∧ j < 122) → s' j = s j) : SL8 s' n := by
  obtain ⟨b, h1, h2, h3⟩ := h
  refine ⟨b, h1, (ha 30 (by omega)).trans h2, fun k hk => ?_⟩
  rw [ha (106 + k) (by omega)]
  exact h3 k hk
theorem STx.al {s s' : Nat → Int32} (h : STx s) (ha : ∀ j, j = 31 ∨ (122 ≤ j ∧ j < 222) → s' j = s j) : STx s' := by
  obtain ⟨z, h1, h2, h3⟩ := h
  refine ⟨z, h1, (ha 31 (by omega)).trans h2, fun k hk => ?_⟩
  show ∃ c, c < 128 ∧ s' (122 + k) = nI c
  rw [ha (122 + k) (by omega)]
  exact h3 k hk
theorem BY.al {s s' : Nat → Int32} (h : BY s) (ha : ∀ j, (85 ≤ j ∧ j < 90) ∨ (122 ≤ j ∧ j < 222) → s' j = s j) : BY s' := ⟨fun j hj => by rw [ha (122 + j) (by omega)]; exact h.1 j hj, fun k hk => by rw [ha (85 + k) (by omega)]; exact h.2 k hk⟩
theorem GS.by {s : Nat → Int32} {n e : Nat} {hd : Option Nat} {cls : Cls} (h : GS s n hd cls e) : BY s := h.2.2.2.2.2.2.2.2.2.2.2.2
theorem GS.ho {s s' : Nat → Int32} {n e : Nat} {hd : Option Nat} {cls : Cls} (h : GS s n hd cls e) (ho : HO s s') (h1 : ∃ b, SN s' n b) (h2 : ∃ b, SP s' n b) (h3 : SL8 s' n) (h4 : STx s') (h5 : BY s') : GS s' n hd cls e := by
  obtain ⟨⟨a1, a2, a3, a4, a5, a6⟩, ⟨b1, ⟨b2, b3, b4⟩, b5, b6, b7, b8⟩, c1, c2, c3, -, -, -, -, c4, c5, c6, -⟩ := h
  have hl : ∀ j, j < 28 ∨ (32 ≤ j ∧ j < 75) → s' j = s j := fun j hj => ho j (by omega) (by omega)
  refine ⟨⟨(hl 26 (by omega)).trans a1, a2, fun p hp => ?_, (hl 0 (by omega)).trans a4, a5, ho.st a6⟩, ⟨b1, ⟨fun q hq => ?_, fun q hq => ?_, fun p hp => ?_⟩, fun p hp => ?_, (hl 0 (by omega)).trans b6, b7, b8⟩, c1, ?_, fun p hp => ?_, h1, h2, h3, h4, ?_, ?_, fun j hj => (ho j (by omega) (by omega)).trans (c6 j hj), h5⟩
  · rw [hl (33 + p) (by omega)]; exact a3 p hp
  · rw [hl (14 + q) (by omega)]; exact b2 q hq
  · rw [hl (20 + q) (by omega)]; exact b3 q hq
  · rw [hl (69 + p) (by omega)]; exact b4 p hp
  · rw [hl (8 + p) (by omega), hl (39 + p) (by omega)]
    refine ⟨(b5 p hp).1, (b5 p hp).2.1, fun k hk => ?_⟩
    rw [hl (45 + 4 * p + k) (by omega)]
    exact (b5 p hp).2.2 k hk
  · rw [hl 1 (by omega)]; exact c2
  · rw [hl (2 + p) (by omega)]; exact c3 p hp
  · rw [hl 27 (by omega)]; exact c4
  · rw [ho.T (by omega)]; exact c5
theorem VH.ho {K : List (Nat × Nat)} {I I' : Nat → Nat → Int32} {R : Nat → Nat → Option Nat} {v h n : Nat} {s s' : Nat → Int32} {hd : Option Nat} {cls : Cls} (hV : VH K I R v h s n hd cls) (hn : n ≤ 6) (ho : HO s s') (hI2 : ∀ c t z, K[c]? = some (t, z) → ((t < 13 ∧ z = 4) ∨ (t = 8 ∧ z = 10) ∨ (t = 20 ∧ z = 10) ∨ (t = 20 ∧ z = 100)) → I' c = I c) (hv : ∀ c, v ≤ c → c ≤ v + 7 → I' c = I c) (hH : HM I' h s') : VH K I' R v h s' n hd cls := by
  obtain ⟨h1, h2, h3, h4, h5⟩ := hV
  have hl : ∀ j, j < 28 ∨ (32 ≤ j ∧ j < 75) → s' j = s j := fun j hj => ho j (by omega) (by omega)
  have h1 := h1.gen2 hI2 hv
  rw [← ho.T (by omega), ← ho.T (w := 227) (by omega)] at h1
  obtain ⟨g1, g2, g3, g4, g5, g6⟩ := h1
  refine ⟨⟨g1, ?_, fun p hp => ?_, g4, g5, g6⟩, by rw [hv v (by omega) (by omega), hl 27 (by omega)]; exact h2, fun p p1 p2 => ?_, fun p hp => ?_, hH⟩
  · obtain ⟨v8, v9, v10, v11, v12, vk, vv, va, vt, vh, vr⟩ := g2
    have es : mk (sett s') n = mk (sett s) n := mk_ext (fun q hq => by unfold sett; rw [hl (14 + q) (by omega)])
    have eh : mk (shel s') n = mk (shel s) n := mk_ext (fun q hq => by unfold shel; rw [hl (20 + q) (by omega)])
    refine ⟨v8, by rw [es]; exact v9, by rw [eh]; exact v10, by rw [hl 1 (by omega)]; exact v11, by rw [hl 0 (by omega)]; exact v12, fun p hp => ?_, fun p hp => ?_, fun p hp => ?_, fun p hp => ?_, fun p hp => ?_, fun p k hp hk => ?_⟩
    · rw [hl (33 + p) (by omega)]; exact vk p hp
    · rw [hl (39 + p) (by omega)]; exact vv p hp
    · rw [hl (2 + p) (by omega)]; exact va p hp
    · rw [hl (8 + p) (by omega)]; exact vt p hp
    · rw [hl (69 + p) (by omega)]; exact vh p hp
    · rw [hl (45 + 4 * p + k) (by omega)]; exact vr p k hp hk
  · obtain ⟨m, kk, a1, a2, a3, a4, a5⟩ := g3 p hp
    exact ⟨m, kk, a1, a2, by rw [hl (33 + p) (by omega)]; exact a3, a4, a5⟩
  · rw [hv (v + 4) (by omega) (by omega), hv (v + 5) (by omega) (by omega), hv (v + 6) (by omega) (by omega), hv (v + 7) (by omega) (by omega)]
    exact h3 p p1 p2
  · obtain ⟨m, kk, a1, a2, a3, a4, a5, a6, a7, a8⟩ := h4 p hp
    have em := hI2 m _ 4 a4 (Or.inl ⟨kt_lt kk, rfl⟩)
    exact ⟨m, kk, a1, by rw [hl (33 + p) (by omega)]; exact a2, a3, a4, by rw [em]; exact a5, by rw [em, hl (39 + p) (by omega)]; exact a6, a7, a8⟩
theorem seeB_al {s s' : Nat → Int32} (h : ∀ j, 85 ≤ j ∧ j < 90 → s' j = s j) : nI (mk (seeB s) 5) = nI (mk (seeB s') 5) := congrArg nI (mk_ext (fun k hk => by unfold seeB; rw [h (85 + k) (by omega)]))
section HAND2
variable {X : Nat × (Nat → Int32)} {d : Nat} {K : List (Nat × Nat)} {T : List (Nat × Nat)} {I : Nat → Nat → Int32} {R : Nat → Nat → Option Nat} {s : Nat → Int32} {n e : Nat} {hd : Option Nat} {cls : Cls} {l : List Int32} {im : Option Img} {kc km : Nat} {As : List Value}
theorem c_book (hF : FX K R) (hG : GS s n hd cls e) (hVH : VH K I R 1 15 s n hd cls) {b : Nat} (hb : s 30 = nI b) (hb8 : b ≤ 8) (x y : Int32) : (x = -1 → Ev X 59 kX11_book 0 (ent kX11_book [.ref 0, .int x, .int y]) [] (K, I, R) (some (.int 0), (K, upI I 15 11 0, R))) ∧ (x ≠ -1 → ¬ isM n x → Ev X 59 kX11_book 0 (ent kX11_book [.ref 0, .int x, .int y]) [] (K, I, R) (some (.int (-1)), (K, I, R))) ∧ (isM n x → ¬ (0 ≤ y ∧ y ≤ 99) → Ev X 59 kX11_book 0 (ent kX11_book [.ref 0, .int x, .int y]) [] (K, I, R) (some (.int (-2)), (K, I, R))) ∧ (isM n x → (0 ≤ y ∧ y ≤ 99) → b = 8 → Ev X 59 kX11_book 0 (ent kX11_book [.ref 0, .int x, .int y]) [] (K, I, R) (some (.int (-4)), (K, I, R))) ∧ (isM n x → (0 ≤ y ∧ y ≤ 99) → b < 8 → Ev X 59 kX11_book 0 (ent kX11_book [.ref 0, .int x, .int y]) [] (K, I, R) (some (.int (nI (b + 1))), (K, upI (upI (upI I 21 b x) 22 b y) 15 11 (nI (b + 1)), R))) := by
  have hV := hVH.1
  have hn6 := hG.2.1.1
  have hm := c_isM (X := X) (d := 58) hF hV.2.1.1 hn6 x
  obtain ⟨f0, f1, f2, f3, f4, f5, f6, fv1, fv2, fv3, fh1, fh2, f7, f8, f9, f10, f11, f12⟩ := hF
  obtain ⟨m1, m2, m3, m4, m5, m6, m7, m8⟩ := hVH.2.2.2.2
  obtain ⟨g0, g1, g2, g3, g4, g5, g6, g7, q0, q1, q2, q3, q4, q5, q6⟩ := id fh1
  rw [hb] at m4
  have hne : isM n x → x ≠ -1 := fun h => isM_ne h
  refine ⟨fun h => ?_, fun h1 h2 => ?_, fun h1 h2 => ?_, fun h1 h2 h3 => ?_, fun h1 h2 h3 => ?_⟩
  · subst h
    (repeat (first | refine Ev.p rfl rfl ?_ | refine Ev.gr (by rfl) (by rfl) (by assumption) (by rfl) (by assumption) ?_ | refine Ev.gi (by rfl) (by rfl) (by assumption) (by rfl) (by assumption) ?_))
    refine Ev.pi (by rfl) (by rfl) (by assumption) (by rfl) ?_
    ((repeat refine Ev.p rfl rfl ?_); exact Ev.r rfl)
  · (repeat (first | refine Ev.p rfl rfl ?_ | refine Ev.gr (by rfl) (by rfl) (by assumption) (by rfl) (by assumption) ?_ | refine Ev.gi (by rfl) (by rfl) (by assumption) (by rfl) (by assumption) ?_))
    refine Ev.bp rfl (fun c => ?_) (fun c => ?_)
    · (repeat (first | refine Ev.p rfl rfl ?_ | refine Ev.gr (by rfl) (by rfl) (by assumption) (by rfl) (by assumption) ?_ | refine Ev.gi (by rfl) (by rfl) (by assumption) (by rfl) (by assumption) ?_))
      refine Ev.cv (by rfl) (by rfl) (by assumption) (by rfl) (by rfl) (by rfl) (by rfl) (by rfl) (hm.2 h2) ?_
      ((repeat refine Ev.p rfl rfl ?_); exact Ev.r rfl)
    · exact absurd (Decidable.not_not.mp c) h1
  · (repeat (first | refine Ev.p rfl rfl ?_ | refine Ev.gr (by rfl) (by rfl) (by assumption) (by rfl) (by assumption) ?_ | refine Ev.gi (by rfl) (by rfl) (by assumption) (by rfl) (by assumption) ?_))
    refine Ev.bp rfl (fun c => ?_) (fun c => ?_)
    · (repeat (first | refine Ev.p rfl rfl ?_ | refine Ev.gr (by rfl) (by rfl) (by assumption) (by rfl) (by assumption) ?_ | refine Ev.gi (by rfl) (by rfl) (by assumption) (by rfl) (by assumption) ?_))
      refine Ev.cv (by rfl) (by rfl) (by assumption) (by rfl) (by rfl) (by rfl) (by rfl) (by rfl) (hm.1 h1) ?_
      (repeat (first | refine Ev.p rfl rfl ?_ | refine Ev.gr (by rfl) (by rfl) (by assumption) (by rfl) (by assumption) ?_ | refine Ev.gi (by rfl) (by rfl) (by assumption) (by rfl) (by assumption) ?_))
      refine Ev.bp rfl (fun c2 => ?_) (fun c2 => ?_)
      · ((repeat refine Ev.p rfl rfl ?_); exact Ev.r rfl)
      · (repeat (first | refine Ev.p rfl rfl ?_ | refine Ev.gr (by rfl) (by rfl) (by assumption) (by rfl) (by assumption) ?_ | refine Ev.gi (by rfl) (by rfl) (by assumption) (by rfl) (by assumption) ?_))
        refine Ev.bp rfl (fun c3 => ?_) (fun c3 => ?_)
        · exact absurd ⟨Int32.not_lt.mp c2, c3⟩ h2
        · ((repeat refine Ev.p rfl rfl ?_); exact Ev.r rfl)
    · exact absurd (Decidable.not_not.mp c) (hne h1)
  · subst h3
    (repeat (first | refine Ev.p rfl rfl ?_ | refine Ev.gr (by rfl) (by rfl) (by assumption) (by rfl) (by assumption) ?_ | refine Ev.gi (by rfl) (by rfl) (by assumption) (by rfl) (by assumption) ?_))
    refine Ev.bp rfl (fun c => ?_) (fun c => ?_)
    · (repeat (first | refine Ev.p rfl rfl ?_ | refine Ev.gr (by rfl) (by rfl) (by assumption) (by rfl) (by assumption) ?_ | refine Ev.gi (by rfl) (by rfl) (by assumption) (by rfl) (by assumption) ?_))
      refine Ev.cv (by rfl) (by rfl) (by assumption) (by rfl) (by rfl) (by rfl) (by rfl) (by rfl) (hm.1 h1) ?_
      (repeat (first | refine Ev.p rfl rfl ?_ | refine Ev.gr (by rfl) (by rfl) (by assumption) (by rfl) (by assumption) ?_ | refine Ev.gi (by rfl) (by rfl) (by assumption) (by rfl) (by assumption) ?_))
      refine Ev.bp rfl (fun c2 => ?_) (fun c2 => ?_)
      · exact absurd c2 (Int32.not_lt.mpr h2.1)
      · (repeat (first | refine Ev.p rfl rfl ?_ | refine Ev.gr (by rfl) (by rfl) (by assumption) (by rfl) (by assumption) ?_ | refine Ev.gi (by rfl) (by rfl) (by assumption) (by rfl) (by assumption) ?_))
        refine Ev.bp rfl (fun c3 => ?_) (fun c3 => ?_)
        · (repeat (first | refine Ev.p rfl rfl ?_ | refine Ev.gr (by rfl) (by rfl) (by assumption) (by rfl) (by assumption) ?_ | refine Ev.gi (by rfl) (by rfl) (by assumption) (by rfl) (by assumption) ?_))
          ((repeat refine Ev.p rfl rfl ?_); exact Ev.r rfl)
        · exact absurd h2.2 c3
    · exact absurd (Decidable.not_not.mp c) (hne h1)
  · obtain ⟨J1, hJ1⟩ : ∃ J, J = upI I 21 b x := ⟨_, rfl⟩
    obtain ⟨J2, hJ2⟩ : ∃ J, J = upI J1 22 b y := ⟨_, rfl⟩
    obtain ⟨J3, hJ3⟩ : ∃ J, J = upI J2 15 11 (nI (b + 1)) := ⟨_, rfl⟩
    rw [← hJ1, ← hJ2, ← hJ3]
    have j1 : J1 15 11 = nI b := by rw [hJ1, upI_ne (by omega)]; exact m4
    have j2 : J2 15 11 = nI b := by rw [hJ2, upI_ne (by omega)]; exact j1
    have j3 : J3 15 11 = nI (b + 1) := by rw [hJ3, upI_eq, upd_at]
    (repeat (first | refine Ev.p rfl rfl ?_ | refine Ev.gr (by rfl) (by rfl) (by assumption) (by rfl) (by assumption) ?_ | refine Ev.gi (by rfl) (by rfl) (by assumption) (by rfl) (by assumption) ?_))
    refine Ev.bp rfl (fun c => ?_) (fun c => ?_)
    · (repeat (first | refine Ev.p rfl rfl ?_ | refine Ev.gr (by rfl) (by rfl) (by assumption) (by rfl) (by assumption) ?_ | refine Ev.gi (by rfl) (by rfl) (by assumption) (by rfl) (by assumption) ?_))
      refine Ev.cv (by rfl) (by rfl) (by assumption) (by rfl) (by rfl) (by rfl) (by rfl) (by rfl) (hm.1 h1) ?_
      (repeat (first | refine Ev.p rfl rfl ?_ | refine Ev.gr (by rfl) (by rfl) (by assumption) (by rfl) (by assumption) ?_ | refine Ev.gi (by rfl) (by rfl) (by assumption) (by rfl) (by assumption) ?_))
      refine Ev.bp rfl (fun c2 => ?_) (fun c2 => ?_)
      · exact absurd c2 (Int32.not_lt.mpr h2.1)
      · (repeat (first | refine Ev.p rfl rfl ?_ | refine Ev.gr (by rfl) (by rfl) (by assumption) (by rfl) (by assumption) ?_ | refine Ev.gi (by rfl) (by rfl) (by assumption) (by rfl) (by assumption) ?_))
        refine Ev.bp rfl (fun c3 => ?_) (fun c3 => ?_)
        · (repeat (first | refine Ev.p rfl rfl ?_ | refine Ev.gr (by rfl) (by rfl) (by assumption) (by rfl) (by assumption) ?_ | refine Ev.gi (by rfl) (by rfl) (by assumption) (by rfl) (by assumption) ?_))
          refine Ev.bp rfl (fun c4 => ?_) (fun c4 => ?_)
          · (repeat (first | refine Ev.p rfl rfl ?_ | refine Ev.gr (by rfl) (by rfl) (by assumption) (by rfl) (by assumption) ?_ | refine Ev.gi (by rfl) (by rfl) (by assumption) (by rfl) (by assumption) ?_))
            (refine Ev.iast (j := b) (by rfl) (by assumption) (by rfl) (by omega) (by omega) ?_; rw [← hJ1])
            (repeat (first | refine Ev.p rfl rfl ?_ | refine Ev.gr (by rfl) (by rfl) (by assumption) (by rfl) (by assumption) ?_ | refine Ev.gi (by rfl) (by rfl) (by assumption) (by rfl) (by assumption) ?_))
            (refine Ev.iast (j := b) (by rfl) (by assumption) (by rfl) (by omega) (by omega) ?_; rw [← hJ2])
            (repeat (first | refine Ev.p rfl rfl ?_ | refine Ev.gr (by rfl) (by rfl) (by assumption) (by rfl) (by assumption) ?_ | refine Ev.gi (by rfl) (by rfl) (by assumption) (by rfl) (by assumption) ?_))
            (refine Ev.pi (by rfl) (by rfl) (by assumption) (by rfl) ?_; rw [nI_1, ← hJ3])
            (repeat (first | refine Ev.p rfl rfl ?_ | refine Ev.gr (by rfl) (by rfl) (by assumption) (by rfl) (by assumption) ?_ | refine Ev.gi (by rfl) (by rfl) (by assumption) (by rfl) (by assumption) ?_))
            ((repeat refine Ev.p rfl rfl ?_); exact Ev.r rfl)
          · exact absurd (nI_lt (b := 8) h3 (by omega)) c4
        · exact absurd h2.2 c3
    · exact absurd (Decidable.not_not.mp c) (hne h1)
end HAND2
