/-! CALLS OF THE LAW that only ask: on, agenda -/
section ASK5
variable {X : Nat × (Nat → Int32)} {d : Nat} {K : List (Nat × Nat)} {T : List (Nat × Nat)} {I : Nat → Nat → Int32} {R : Nat → Nat → Option Nat} {s : Nat → Int32} {n e : Nat} {hd : Option Nat} {cls : Cls} {l : List Int32} {im : Option Img} {kc km : Nat} {As : List Value}
theorem isM10_1 : ∀ n, n ≤ 6 → ∀ p, p < n → ¬ (nI p + 10 < 10) ∧ ¬ (10 + nI n ≤ nI p + 10) := by decide
theorem isM10_2 : ∀ n, n ≤ 6 → ∀ j, j < 17 → ¬ (nI j < 10) → ¬ (10 + nI n ≤ nI j) → ∃ p, p < n ∧ nI j - 10 = nI p := by decide
theorem isM10_3 : ∀ n, n ≤ 6 → 10 + nI n ≤ (16 : Int32) := by decide
theorem isM10 {n : Nat} (hn : n ≤ 6) (y : Int32) : isM n (y - 10) ↔ ¬ (y < 10) ∧ ¬ (10 + nI n ≤ y) := by
  constructor
  · intro h
    obtain ⟨p, hp, e⟩ := (isM_iff hn).mp h
    have : y = nI p + 10 := by rw [← e, Int32.sub_add_cancel]
    rw [this]
    exact isM10_1 n hn p hp
  · rintro ⟨h1, h2⟩
    have h3 : y ≤ 16 := Int32.le_trans (Int32.le_of_lt (Int32.not_le.mp h2)) (isM10_3 n hn)
    have h0 : ¬ y < 0 := fun g => h1 (Int32.lt_trans g (by decide))
    obtain ⟨j, hj, ej⟩ := nI_of2 (M := 16) (n := 16) (by decide) h0 h3
    subst ej
    exact (isM_iff hn).mpr (isM10_2 n hn j (by omega) h1 h2)
theorem c_isA (h : Hp) (x : Int32) : ((0 ≤ x ∧ x ≤ 60) → Ev X d kX11_isAhead 0 (ent kX11_isAhead [.int x]) [] h (some (.int 1), h)) ∧ (¬ (0 ≤ x ∧ x ≤ 60) → Ev X d kX11_isAhead 0 (ent kX11_isAhead [.int x]) [] h (some (.int 0), h)) := by
  refine ⟨fun g => ?_, fun g => ?_⟩
  · (repeat (first | refine Ev.p rfl rfl ?_ | refine Ev.gr (by rfl) (by rfl) (by assumption) (by rfl) (by assumption) ?_ | refine Ev.gi (by rfl) (by rfl) (by assumption) (by rfl) (by assumption) ?_))
    refine Ev.bp rfl (fun c => ?_) (fun c => ?_)
    · exact absurd c (Int32.not_lt.mpr g.1)
    · (repeat (first | refine Ev.p rfl rfl ?_ | refine Ev.gr (by rfl) (by rfl) (by assumption) (by rfl) (by assumption) ?_ | refine Ev.gi (by rfl) (by rfl) (by assumption) (by rfl) (by assumption) ?_))
      refine Ev.bp rfl (fun c2 => ?_) (fun c2 => ?_)
      · exact absurd g.2 (Int32.not_le.mpr c2)
      · ((repeat refine Ev.p rfl rfl ?_); exact Ev.r rfl)
  · (repeat (first | refine Ev.p rfl rfl ?_ | refine Ev.gr (by rfl) (by rfl) (by assumption) (by rfl) (by assumption) ?_ | refine Ev.gi (by rfl) (by rfl) (by assumption) (by rfl) (by assumption) ?_))
    refine Ev.bp rfl (fun c => ?_) (fun c => ?_)
    · ((repeat refine Ev.p rfl rfl ?_); exact Ev.r rfl)
    · (repeat (first | refine Ev.p rfl rfl ?_ | refine Ev.gr (by rfl) (by rfl) (by assumption) (by rfl) (by assumption) ?_ | refine Ev.gi (by rfl) (by rfl) (by assumption) (by rfl) (by assumption) ?_))
      refine Ev.bp rfl (fun c2 => ?_) (fun c2 => ?_)
      · ((repeat refine Ev.p rfl rfl ?_); exact Ev.r rfl)
      · exact absurd ⟨Int32.not_lt.mp c, Int32.not_lt.mp c2⟩ g
theorem c_on (hF : FX K R) (hG : GS s n hd cls e) (hVH : VH K I R 1 15 s n hd cls) (x y : Int32) : (¬ ((0 ≤ y ∧ y ≤ 1) ∨ isM n (y - 10)) → Ev X 59 kX11_on 0 (ent kX11_on [.ref 0, .int x, .int y]) [] (K, I, R) (some (.int (-1)), (K, I, R))) ∧ (((0 ≤ y ∧ y ≤ 1) ∨ isM n (y - 10)) → ¬ (0 ≤ x ∧ x ≤ 60) → Ev X 59 kX11_on 0 (ent kX11_on [.ref 0, .int x, .int y]) [] (K, I, R) (some (.int (-2)), (K, I, R))) ∧ (∀ k w, (w = 0 ∨ w = 1 ∨ ∃ p, p < n ∧ w = 10 + p) → y = nI w → k ≤ 60 → x = nI k → ∃ I1 R1, Ev X 59 kX11_on 0 (ent kX11_on [.ref 0, .int x, .int y]) [] (K, I, R) (some (.int (rOnV (rOn s n cls (rT s hd 222 20) (rT s hd 227 1) k) n w)), (K, I1, R1)) ∧ FR (PW 46) I I1 ∧ RF 46 R R1) := by
  have hV := hVH.1
  have hn6 := hG.2.1.1
  have hA := isM10 hn6 y
  have ha := fun I x => c_isA (X := X) (d := 58) (K, I, R) x
  obtain ⟨f0, f1, f2, f3, f4, f5, f6, fv1, fv2, fv3, fh1, fh2, f7, f8, -⟩ := hF
  obtain ⟨k0, -⟩ := id fv1
  have v8 := hV.2.1.1
  have go : ∀ {Rr : Option Value × Hp}, ((0 ≤ y ∧ y ≤ 1) ∨ isM n (y - 10)) → (∀ z : Int32, (isM n (y - 10) → z = 1) → (¬ isM n (y - 10) → z = 0) → Ev X 59 kX11_on 41 [some (.ref 0), some (.int x), some (.int y), some (.int z), none] [] (K, I, R) Rr) → Ev X 59 kX11_on 0 (ent kX11_on [.ref 0, .int x, .int y]) [] (K, I, R) Rr := by
    intro Rr h g
    have h01 : ∀ {z : Int32}, (¬ isM n (y - 10)) → z = 0 → Ev X 59 kX11_on 25 [some (.ref 0), some (.int x), some (.int y), none, none] [.int z] (K, I, R) Rr := by
      intro z hz ez
      subst ez
      have hy := h.resolve_right hz
      obtain ⟨j, hj, ej⟩ := nI_of2 (M := 1) (n := 1) (by decide) (Int32.not_lt.mpr hy.1) hy.2
      have g0 := g 0 (fun q => absurd q hz) (fun _ => rfl)
      subst ej
      rcases (by omega : j = 0 ∨ j = 1) with rfl | rfl
      · iterate 3 refine Ev.p rfl rfl ?_
        exact g0
      · iterate 6 refine Ev.p rfl rfl ?_
        exact g0
    iterate 3 refine Ev.p rfl rfl ?_
    refine Ev.bp rfl (fun c => ?_) (fun c => ?_)
    · have hz : ¬ isM n (y - 10) := fun q => (hA.mp q).1 c
      iterate 1 refine Ev.p rfl rfl ?_
      exact h01 hz rfl
    · (repeat (first | refine Ev.p rfl rfl ?_ | refine Ev.gr (by rfl) (by rfl) (by assumption) (by rfl) (by assumption) ?_ | refine Ev.gi (by rfl) (by rfl) (by assumption) (by rfl) (by assumption) ?_))
      refine Ev.bp rfl (fun c2 => ?_) (fun c2 => ?_)
      · have hz : ¬ isM n (y - 10) := fun q => (hA.mp q).2 c2
        iterate 1 refine Ev.p rfl rfl ?_
        exact h01 hz rfl
      · have hz : isM n (y - 10) := hA.mpr ⟨c, c2⟩
        have g1 := g 1 (fun _ => rfl) (fun q => absurd hz q)
        iterate 5 refine Ev.p rfl rfl ?_
        refine Ev.bp rfl (fun c3 => ?_) (fun c3 => ?_)
        · exact g1
        · iterate 3 refine Ev.p rfl rfl ?_
          refine Ev.bp rfl (fun c4 => ?_) (fun c4 => ?_)
          · exact g1
          · iterate 2 refine Ev.p rfl rfl ?_
            exact g1
  refine ⟨fun h => ?_, fun h h2 => go h (fun z _ _ => ?_), fun k w hw ey hk ex => ?_⟩
  · have h0 : y ≠ 0 := fun g => h (Or.inl (by rw [g]; decide))
    have h1 : y ≠ 1 := fun g => h (Or.inl (by rw [g]; decide))
    have tail : Ev X 59 kX11_on 25 [some (.ref 0), some (.int x), some (.int y), none, none] [.int 0] (K, I, R) (some (.int (-1)), (K, I, R)) := by
      iterate 3 refine Ev.p rfl rfl ?_
      refine Ev.bp rfl (fun c => absurd c h0) (fun c => ?_)
      iterate 3 refine Ev.p rfl rfl ?_
      refine Ev.bp rfl (fun c => absurd c h1) (fun c => ?_)
      ((repeat refine Ev.p rfl rfl ?_); exact Ev.r rfl)
    iterate 3 refine Ev.p rfl rfl ?_
    refine Ev.bp rfl (fun c => ?_) (fun c => ?_)
    · iterate 1 refine Ev.p rfl rfl ?_
      exact tail
    · (repeat (first | refine Ev.p rfl rfl ?_ | refine Ev.gr (by rfl) (by rfl) (by assumption) (by rfl) (by assumption) ?_ | refine Ev.gi (by rfl) (by rfl) (by assumption) (by rfl) (by assumption) ?_))
      refine Ev.bp rfl (fun c2 => ?_) (fun c2 => ?_)
      · iterate 1 refine Ev.p rfl rfl ?_
        exact tail
      · exact absurd (Or.inr (hA.mpr ⟨c, c2⟩)) h
  · refine Ev.p rfl rfl ?_
    refine Ev.c rfl ((ha I x).2 h2) ?_
    ((repeat refine Ev.p rfl rfl ?_); exact Ev.r rfl)
  · have hc : (0 ≤ y ∧ y ≤ 1) ∨ isM n (y - 10) := by
      subst ey
      rcases hw with rfl | rfl | ⟨p, hp, rfl⟩
      · exact Or.inl (by decide)
      · exact Or.inl (by decide)
      · refine Or.inr ((isM_iff hn6).mpr ⟨p, hp, ?_⟩)
        rw [← nI_add, Int32.add_comm]
        exact Int32.add_sub_cancel _ _
    obtain ⟨f, hf, ef⟩ := hG.2.2.2.2.2.2.2.2.2.2.1
    obtain ⟨I1, R1, c1, c2, c3, c4⟩ := c_behind (X := X) (d := 52) f7 f8 fv3 hV hG.2.1 (by omega) k (by have := hG.2.2.1; omega) ef hf
    have hr := RI_on hG.2.1 ef hf (rT s hd 222 20) k
    refine ⟨I1, R1, go hc (fun z z1 z0 => ?_), c3, c4⟩
    obtain ⟨k0', k1', k2', k3', k4', k5', k6', k7', k8', r0', r1', r2', r3', r4', r5', r6', r7'⟩ := id c2.1
    obtain ⟨v8', v9', v10', v11', v12', vk', vv', va', vt', vh', vr'⟩ := c2.2.1
    have hx : 0 ≤ x ∧ x ≤ 60 := by subst ex; exact ⟨nI_pos' (by omega), nI_le (b := 60) hk (by omega)⟩
    subst ex
    refine Ev.p rfl rfl ?_
    refine Ev.c rfl ((ha I (nI k)).1 hx) ?_
    (repeat (first | refine Ev.p rfl rfl ?_ | refine Ev.gr (by rfl) (by rfl) (by assumption) (by rfl) (by assumption) ?_ | refine Ev.gi (by rfl) (by rfl) (by assumption) (by rfl) (by assumption) ?_))
    refine Ev.cv (by rfl) (by rfl) (by assumption) (by rfl) (by rfl) (by rfl) (by rfl) (by rfl) c1 ?_
    (repeat (first | refine Ev.p rfl rfl ?_ | refine Ev.gr (by rfl) (by rfl) (by assumption) (by rfl) (by assumption) ?_ | refine Ev.gi (by rfl) (by rfl) (by assumption) (by rfl) (by assumption) ?_))
    rcases hw with rfl | rfl | ⟨p, hp, rfl⟩
    · have hz : z = 0 := z0 (fun q => (hA.mp q).1 (by rw [ey]; decide))
      subst hz ey
      (repeat (first | refine Ev.p rfl rfl ?_ | refine Ev.gr (by rfl) (by rfl) (by assumption) (by rfl) (by assumption) ?_ | refine Ev.gi (by rfl) (by rfl) (by assumption) (by rfl) (by assumption) ?_))
      rw [show rOnV (rOn s n cls (rT s hd 222 20) (rT s hd 227 1) k) n 0 = nI (mk (sett (rOn s n cls (rT s hd 222 20) (rT s hd 227 1) k)) n) from rSO_mk hr.2.1.1 n hn6]
      ((repeat refine Ev.p rfl rfl ?_); exact Ev.r rfl)
    · have hz : z = 0 := z0 (fun q => (hA.mp q).1 (by rw [ey]; decide))
      subst hz ey
      (repeat (first | refine Ev.p rfl rfl ?_ | refine Ev.gr (by rfl) (by rfl) (by assumption) (by rfl) (by assumption) ?_ | refine Ev.gi (by rfl) (by rfl) (by assumption) (by rfl) (by assumption) ?_))
      rw [show rOnV (rOn s n cls (rT s hd 222 20) (rT s hd 227 1) k) n 1 = rOn s n cls (rT s hd 222 20) (rT s hd 227 1) k 1 from rfl]
      ((repeat refine Ev.p rfl rfl ?_); exact Ev.r rfl)
    · have ey2 : nI (10 + p) - 10 = nI p := by rw [← nI_add, Int32.add_comm]; exact Int32.add_sub_cancel _ _
      have hz : z = 1 := z1 (by rw [ey, ey2]; exact (isM_iff hn6).mpr ⟨p, hp, rfl⟩)
      subst hz ey
      (repeat (first | refine Ev.p rfl rfl ?_ | refine Ev.gr (by rfl) (by rfl) (by assumption) (by rfl) (by assumption) ?_ | refine Ev.gi (by rfl) (by rfl) (by assumption) (by rfl) (by assumption) ?_))
      (refine Ev.iald (j := p) (by rfl) (by assumption) ey2 (by omega) (by omega) ?_; rw [vt' p hp])
      have : rOnV (rOn s n cls (rT s hd 222 20) (rT s hd 227 1) k) n (10 + p) = rOn s n cls (rT s hd 222 20) (rT s hd 227 1) k (8 + p) := by
        unfold rOnV
        rw [if_neg (by omega), if_neg (by omega), Nat.add_sub_cancel_left]
      rw [this]
      ((repeat refine Ev.p rfl rfl ?_); exact Ev.r rfl)
theorem isAg (y : Int32) : (10 ≤ y ∧ y ≤ 13) ↔ ¬ (y < 10) ∧ ¬ (14 ≤ y) := by
  constructor
  · rintro ⟨h1, h2⟩
    exact ⟨Int32.not_lt.mpr h1, fun g => absurd (Int32.le_trans g h2) (by decide)⟩
  · rintro ⟨h1, h2⟩
    refine ⟨Int32.not_lt.mp h1, ?_⟩
    have h3 : y ≤ 14 := Int32.le_of_lt (Int32.not_le.mp h2)
    obtain ⟨j, hj, ej⟩ := nI_of2 (M := 14) (n := 14) (by decide) (fun g => h1 (Int32.lt_trans g (by decide))) h3
    rcases (by omega : j ≤ 13 ∨ j = 14) with h | h
    · rw [ej]; exact nI_le (b := 13) h (by omega)
    · exact absurd (by rw [ej, h]; decide) h2
/-- what the agenda writes -/
def QA (c : Nat) : Prop := c = 45 ∨ c = 61 ∨ c = 62 ∨ ∃ i, i < 5 ∧ PW (svA i) c
def RAg (R R' : Nat → Nat → Option Nat) : Prop := ∀ c j, (∀ i, i < 5 → ¬ (c = svA i + 1 ∧ j < 6) ∧ ¬ (c = svA i ∧ j = 14)) → R' c j = R c j
theorem c_agenda (hF : FX K R) (hG : GS s n hd cls e) (hVH : VH K I R 1 15 s n hd cls) (x y : Int32) : (¬ ((0 ≤ y ∧ y ≤ 1) ∨ (10 ≤ y ∧ y ≤ 13)) → Ev X 59 kX11_agenda 0 (ent kX11_agenda [.ref 0, .int x, .int y]) [] (K, I, R) (some (.int (-1)), (K, I, R))) ∧ (((0 ≤ y ∧ y ≤ 1) ∨ (10 ≤ y ∧ y ≤ 13)) → ¬ (1 ≤ x ∧ x ≤ 4) → Ev X 59 kX11_agenda 0 (ent kX11_agenda [.ref 0, .int x, .int y]) [] (K, I, R) (some (.int (-2)), (K, I, R))) ∧ (∀ m w, (w = 0 ∨ w = 1 ∨ ∃ j, j < 4 ∧ w = 10 + j) → y = nI w → 1 ≤ m → m ≤ 4 → x = nI m → ∃ I1 R1, Ev X 59 kX11_agenda 0 (ent kX11_agenda [.ref 0, .int x, .int y]) [] (K, I, R) (some (.int (rAgV s n m w (rAg s n cls (rT s hd 222 20) (rT s hd 227 1) m ((n + 1) ^ m)))), (K, I1, R1)) ∧ FR QA I I1 ∧ RAg R R1) := by
  have hV := hVH.1
  have hn6 := hG.2.1.1
  have hA := isAg y
  obtain ⟨f0, f1, f2, f3, f4, f5, f6, fv1, fv2, fv3, fh1, fh2, f7, f8, f9, -⟩ := hF
  obtain ⟨k0, -⟩ := id fv1
  have go : ∀ {Rr : Option Value × Hp}, ((0 ≤ y ∧ y ≤ 1) ∨ (10 ≤ y ∧ y ≤ 13)) → (∀ z : Int32, ((10 ≤ y ∧ y ≤ 13) → z = 1) → (¬ (10 ≤ y ∧ y ≤ 13) → z = 0) → Ev X 59 kX11_agenda 33 [some (.ref 0), some (.int x), some (.int y), some (.int z)] [] (K, I, R) Rr) → Ev X 59 kX11_agenda 0 (ent kX11_agenda [.ref 0, .int x, .int y]) [] (K, I, R) Rr := by
    intro Rr h g
    have h01 : ∀ {z : Int32}, (¬ (10 ≤ y ∧ y ≤ 13)) → z = 0 → Ev X 59 kX11_agenda 17 [some (.ref 0), some (.int x), some (.int y), none] [.int z] (K, I, R) Rr := by
      intro z hz ez
      subst ez
      have hy := h.resolve_right hz
      obtain ⟨j, hj, ej⟩ := nI_of2 (M := 1) (n := 1) (by decide) (Int32.not_lt.mpr hy.1) hy.2
      have g0 := g 0 (fun q => absurd q hz) (fun _ => rfl)
      subst ej
      rcases (by omega : j = 0 ∨ j = 1) with rfl | rfl
      · iterate 3 refine Ev.p rfl rfl ?_
        exact g0
      · iterate 6 refine Ev.p rfl rfl ?_
        exact g0
    iterate 3 refine Ev.p rfl rfl ?_
    refine Ev.bp rfl (fun c => ?_) (fun c => ?_)
    · have hz : ¬ (10 ≤ y ∧ y ≤ 13) := fun q => (hA.mp q).1 c
      iterate 1 refine Ev.p rfl rfl ?_
      exact h01 hz rfl
    · iterate 3 refine Ev.p rfl rfl ?_
      refine Ev.bp rfl (fun c2 => ?_) (fun c2 => ?_)
      · have hz : ¬ (10 ≤ y ∧ y ≤ 13) := fun q => (hA.mp q).2 c2
        iterate 1 refine Ev.p rfl rfl ?_
        exact h01 hz rfl
      · have hz : (10 ≤ y ∧ y ≤ 13) := hA.mpr ⟨c, c2⟩
        have g1 := g 1 (fun _ => rfl) (fun q => absurd hz q)
        iterate 5 refine Ev.p rfl rfl ?_
        refine Ev.bp rfl (fun c3 => ?_) (fun c3 => ?_)
        · exact g1
        · iterate 3 refine Ev.p rfl rfl ?_
          refine Ev.bp rfl (fun c4 => ?_) (fun c4 => ?_)
          · exact g1
          · iterate 2 refine Ev.p rfl rfl ?_
            exact g1
  refine ⟨fun h => ?_, fun h h2 => go h (fun z _ _ => ?_), fun m w hw ey hm1 hm4 ex => ?_⟩
  · have h0 : y ≠ 0 := fun g => h (Or.inl (by rw [g]; decide))
    have h1 : y ≠ 1 := fun g => h (Or.inl (by rw [g]; decide))
    have tail : Ev X 59 kX11_agenda 17 [some (.ref 0), some (.int x), some (.int y), none] [.int 0] (K, I, R) (some (.int (-1)), (K, I, R)) := by
      iterate 3 refine Ev.p rfl rfl ?_
      refine Ev.bp rfl (fun c => absurd c h0) (fun c => ?_)
      iterate 3 refine Ev.p rfl rfl ?_
      refine Ev.bp rfl (fun c => absurd c h1) (fun c => ?_)
      ((repeat refine Ev.p rfl rfl ?_); exact Ev.r rfl)
    iterate 3 refine Ev.p rfl rfl ?_
    refine Ev.bp rfl (fun c => ?_) (fun c => ?_)
    · iterate 1 refine Ev.p rfl rfl ?_
      exact tail
    · iterate 3 refine Ev.p rfl rfl ?_
      refine Ev.bp rfl (fun c2 => ?_) (fun c2 => ?_)
      · iterate 1 refine Ev.p rfl rfl ?_
        exact tail
      · exact absurd (Or.inr (hA.mpr ⟨c, c2⟩)) h
  · iterate 3 refine Ev.p rfl rfl ?_
    refine Ev.bp rfl (fun c => ?_) (fun c => ?_)
    · ((repeat refine Ev.p rfl rfl ?_); exact Ev.r rfl)
    · iterate 3 refine Ev.p rfl rfl ?_
      refine Ev.bp rfl (fun c2 => ?_) (fun c2 => ?_)
      · exact absurd ⟨Int32.not_lt.mp c, c2⟩ h2
      · ((repeat refine Ev.p rfl rfl ?_); exact Ev.r rfl)
  · have hc : (0 ≤ y ∧ y ≤ 1) ∨ (10 ≤ y ∧ y ≤ 13) := by
      subst ey
      rcases hw with rfl | rfl | ⟨j, hj, rfl⟩
      · exact Or.inl (by decide)
      · exact Or.inl (by decide)
      · exact Or.inr ⟨nI_le (a := 10) (by omega) (by omega), nI_le (b := 13) (by omega) (by omega)⟩
    obtain ⟨f, hf, ef⟩ := hG.2.2.2.2.2.2.2.2.2.2.1
    obtain ⟨I1, R1, c1, ⟨c2, c3, c4⟩, c5, c6⟩ := c_findAgenda (X := X) (d := 47) f9 hV (fun i hi => by unfold svA; omega) hG.2.1 hm4 (by have := hG.2.2.1; omega) ef hf
    obtain ⟨q0, q1, q2, q3, q4, q5, q6, q7, -⟩ := f9
    have low : ∀ c, c < 46 → ∀ j, R1 c j = R c j := fun c hc j => c6 c j (fun i hi => by have := svA_5 hi; omega)
    have f5' : R1 0 4 = some 45 := (low 0 (by omega) 4).trans f5
    have f1' : R1 0 0 = some 1 := (low 0 (by omega) 0).trans f1
    have q7' : R1 45 3 = some 62 := (low 45 (by omega) 3).trans q7
    have v11 : I1 1 11 = s 1 := (c5 1 (fun g => by
      rcases g with g | g | g | ⟨i, hi, g⟩
      · omega
      · omega
      · omega
      · have := svA_5 hi; unfold PW at g; omega) ▸ hV.2.1.2.2.2.1)
    have hpos : 0 < (n + 1) ^ m := Nat.pow_pos (by omega)
    have c4 := c4 hpos
    generalize rAg s n cls (rT s hd 222 20) (rT s hd 227 1) m ((n + 1) ^ m) = ag at c2 c3 c4 ⊢
    subst ex
    have h46 : ∀ z st, Ev X 59 kX11_agenda 46 [some (.ref 0), some (.int (nI m)), some (.int y), some (.int z)] [] (K, I, R) st → Ev X 59 kX11_agenda 33 [some (.ref 0), some (.int (nI m)), some (.int y), some (.int z)] [] (K, I, R) st := by
      intro z st g
      rcases (by omega : m = 1 ∨ m = 2 ∨ m = 3 ∨ m = 4) with rfl | rfl | rfl | rfl <;> (iterate 6 refine Ev.p rfl rfl ?_) <;> exact g
    by_cases hbig : ∃ j, w = 10 + j ∧ ¬ j < m
    · obtain ⟨j, ew, hjm⟩ := hbig
      subst ew
      have hj : j < 4 := by omega
      refine ⟨I, R, go hc (fun z z1 z0 => ?_), FR.rf I, fun _ _ _ => rfl⟩
      have ey2 : nI (10 + j) - 10 = nI j := by rw [← nI_add, Int32.add_comm]; exact Int32.add_sub_cancel _ _
      have hz : z = 1 := z1 (by rw [ey]; exact ⟨nI_le (a := 10) (by omega) (by omega), nI_le (b := 13) (by omega) (by omega)⟩)
      subst hz ey
      refine h46 _ _ ?_
      (repeat (first | refine Ev.p rfl rfl ?_ | refine Ev.gr (by rfl) (by rfl) (by assumption) (by rfl) (by assumption) ?_ | refine Ev.gi (by rfl) (by rfl) (by assumption) (by rfl) (by assumption) ?_))
      refine Ev.bp rfl (fun c => ?_) (fun c => ?_)
      · rw [ey2] at c
        exact absurd ((nI_ltI (by omega) (by omega)).mp c) hjm
      · have : rAgV s n m (10 + j) ag = -5 := by
          unfold rAgV
          rw [if_neg (by omega), if_neg (by omega), Nat.add_sub_cancel_left, if_neg hjm]
        rw [this]
        ((repeat refine Ev.p rfl rfl ?_); exact Ev.r rfl)
    refine ⟨I1, R1, go hc (fun z z1 z0 => ?_), c5, c6⟩
    refine h46 _ _ ?_
    rcases hw with rfl | rfl | ⟨j, hj, rfl⟩
    · have hz : z = 0 := z0 (by rw [ey]; decide)
      subst hz ey
      (repeat (first | refine Ev.p rfl rfl ?_ | refine Ev.gr (by rfl) (by rfl) (by assumption) (by rfl) (by assumption) ?_ | refine Ev.gi (by rfl) (by rfl) (by assumption) (by rfl) (by assumption) ?_))
      refine Ev.cv (by rfl) (by rfl) (by assumption) (by rfl) (by rfl) (by rfl) (by rfl) (by rfl) c1 ?_
      (repeat (first | refine Ev.p rfl rfl ?_ | refine Ev.gr (by rfl) (by rfl) (by assumption) (by rfl) (by assumption) ?_ | refine Ev.gi (by rfl) (by rfl) (by assumption) (by rfl) (by assumption) ?_))
      rw [show rAgV s n m 0 ag = ag.1 from rfl]
      ((repeat refine Ev.p rfl rfl ?_); exact Ev.r rfl)
    · have hz : z = 0 := z0 (by rw [ey]; decide)
      subst hz ey
      (repeat (first | refine Ev.p rfl rfl ?_ | refine Ev.gr (by rfl) (by rfl) (by assumption) (by rfl) (by assumption) ?_ | refine Ev.gi (by rfl) (by rfl) (by assumption) (by rfl) (by assumption) ?_))
      refine Ev.cv (by rfl) (by rfl) (by assumption) (by rfl) (by rfl) (by rfl) (by rfl) (by rfl) c1 ?_
      (repeat (first | refine Ev.p rfl rfl ?_ | refine Ev.gr (by rfl) (by rfl) (by assumption) (by rfl) (by assumption) ?_ | refine Ev.gi (by rfl) (by rfl) (by assumption) (by rfl) (by assumption) ?_))
      rw [show rAgV s n m 1 ag = ag.2.1 - s 1 from rfl]
      ((repeat refine Ev.p rfl rfl ?_); exact Ev.r rfl)
    · have ey2 : nI (10 + j) - 10 = nI j := by rw [← nI_add, Int32.add_comm]; exact Int32.add_sub_cancel _ _
      have hz : z = 1 := z1 (by rw [ey]; exact ⟨nI_le (a := 10) (by omega) (by omega), nI_le (b := 13) (by omega) (by omega)⟩)
      subst hz ey
      (repeat (first | refine Ev.p rfl rfl ?_ | refine Ev.gr (by rfl) (by rfl) (by assumption) (by rfl) (by assumption) ?_ | refine Ev.gi (by rfl) (by rfl) (by assumption) (by rfl) (by assumption) ?_))
      refine Ev.bp rfl (fun c => ?_) (fun c => ?_)
      · rw [ey2] at c
        have hjm : j < m := (nI_ltI (by omega) (by omega)).mp c
        (repeat (first | refine Ev.p rfl rfl ?_ | refine Ev.gr (by rfl) (by rfl) (by assumption) (by rfl) (by assumption) ?_ | refine Ev.gi (by rfl) (by rfl) (by assumption) (by rfl) (by assumption) ?_))
        refine Ev.cv (by rfl) (by rfl) (by assumption) (by rfl) (by rfl) (by rfl) (by rfl) (by rfl) c1 ?_
        (repeat (first | refine Ev.p rfl rfl ?_ | refine Ev.gr (by rfl) (by rfl) (by assumption) (by rfl) (by assumption) ?_ | refine Ev.gi (by rfl) (by rfl) (by assumption) (by rfl) (by assumption) ?_))
        (refine Ev.iald (j := j) (by rfl) (by assumption) ey2 (by omega) (by omega) ?_; rw [c4 j hjm])
        have : rAgV s n m (10 + j) ag = dv9 (rDig n ag.2.2 m j) := by
          unfold rAgV
          rw [if_neg (by omega), if_neg (by omega), Nat.add_sub_cancel_left, if_pos hjm]
        rw [this]
        ((repeat refine Ev.p rfl rfl ?_); exact Ev.r rfl)
      · rw [ey2] at c
        exact absurd ⟨j, rfl, fun g => c ((nI_ltI (by omega) (by omega)).mpr g)⟩ hbig
theorem qa_qc {I I' : Nat → Nat → Int32} (h : FR QA I I') : FR QC I I' := h.mo (fun c hc => by
  rcases hc with h | h | h | h
  · exact Or.inr (Or.inl h)
  · exact Or.inr (Or.inr (Or.inl h))
  · exact Or.inr (Or.inr (Or.inr (Or.inl h)))
  · exact Or.inr (Or.inr (Or.inr (Or.inr (Or.inr (Or.inr h))))))
end ASK5
