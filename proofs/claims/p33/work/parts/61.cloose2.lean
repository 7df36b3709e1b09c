/-! THE CLASS: loose, the table -/
section CLOOSE
variable {X : Nat × (Nat → Int32)} {d : Nat} {K : List (Nat × Nat)} {I : Nat → Nat → Int32} {R : Nat → Nat → Option Nat} {s u : Nat → Int32} {n p v w o a da' : Nat}
theorem c_loose (ha : K[a]? = some (0, 9)) (har : R a 8 = some da') (hda : K[da']? = some (20, 64)) (hK : VK K R o) (hM : VM I o s n) (hn : n ≤ 6) (hS : SF s n) : ∃ I', Ev X (d + 2) kX0_loose 0 (ent kX0_loose [.ref a, .ref o]) [] (K, I, R) (some (.int (rLo s n (2 ^ n - 1) (2 ^ n - 1))), (K, I', R)) ∧ FR (fun c => c = da') I I' := by
  have h64 := p2_64 hn
  have hun := c_unsettledOnes (X := X) (d := d + 1) hK hM hn
  have no : ∀ c, o ≤ c → c ≤ o + 8 → c ≠ da' := fun c c1 c2 g => by
    obtain ⟨k0, k1, k2, k3, k4, k5, k6, k7, k8, -⟩ := hK
    rcases (by omega : c = o ∨ c = o + 1 ∨ c = o + 2 ∨ c = o + 3 ∨ c = o + 4 ∨ c = o + 5 ∨ c = o + 6 ∨ c = o + 7 ∨ c = o + 8) with e | e | e | e | e | e | e | e | e <;> (rw [← g, e] at hda; simp_all)
  have hda0 : a ≠ da' := fun g => by rw [g, hda] at ha; cases ha
  obtain ⟨k0, k1, k2, k3, k4, k5, k6, k7, k8, r0, r1, r2, r3, r4, r5, r6, r7⟩ := hK
  obtain ⟨v8, v9, v10, v11, v12, vk, vv, va, vt, vh, vr⟩ := hM
  obtain ⟨U, hU⟩ : ∃ U, U = mk (fun q => !sett s q) n := ⟨_, rfl⟩
  have hUlt : U < 2 ^ n := by rw [hU]; exact mk_lt _ n
  have hfin := loose_eq hn hS
  rw [← hU] at hun hfin
  obtain ⟨res, hres⟩ : ∃ res, res = rLo s n (2 ^ n - 1) (2 ^ n - 1) := ⟨_, rfl⟩
  rw [← hres] at hfin ⊢
  have hwau : ∀ q, q < n → s (69 + q) &&& nI U = rW s q n := fun q hq => by rw [hU]; exact wau_mk hn hS (by omega)
  -- what is asked of ties to later ones
  have hbc : ∀ (J : Nat → Nat → Int32) q Y, q < n → Y < 64 → Ev X (d + 1) kJ6_bitCount_0f7a4 0 (ent kJ6_bitCount_0f7a4 [.int (rW s q n &&& (nI Y ^^^ (-1)))]) [] (K, J, R) (some (.int (cw s n q Y)), (K, J, R)) := fun J q Y hq hY => by
    unfold cw
    rw [← mk_of 6 Y hY, rW_mk hn hS (by omega) n hn, mk_andn _ _ hn (by omega)]
    exact j_bitCount (K, J, R) (mk_64 _ hn)
  have li : ∀ (Y k : Nat) , Y = k + 1 → Y ≤ U → ∀ mm i (J : Nat → Nat → Int32), i + mm = n → FR (fun c => c = da') I J → (∀ j, j < Y → J da' j = gTb 30 (cw s n) n k j) → J da' Y = gL 30 (cw s n) (gTb 30 (cw s n) n k) Y i → ∃ J', FR (fun c => c = da') I J' ∧ (∀ j, j < Y → J' da' j = gTb 30 (cw s n) n k j) ∧ J' da' Y = gL 30 (cw s n) (gTb 30 (cw s n) n k) Y n ∧ ∀ Z : Option Value × Hp, (∀ y : Option Value, Ev X (d + 2) kX0_loose 104 [some (.ref a), some (.ref o), some (.int (nI U)), some (.int (nI Y)), some (.int (nI n)), y] [] (K, J', R) Z) → ∀ y : Option Value, Ev X (d + 2) kX0_loose 30 [some (.ref a), some (.ref o), some (.int (nI U)), some (.int (nI Y)), some (.int (nI i)), y] [] (K, J, R) Z := by
    intro Y k hY hYU mm
    induction mm with
    | zero =>
      intro i J hi fJ h1 h2
      have e : i = n := by omega
      subst e
      refine ⟨J, fJ, h1, h2, fun Z g y => ?_⟩
      have j8 : J o 8 = nI i := by rw [fJ o (no o (by omega) (by omega))]; exact v8
      (repeat (first | refine Ev.p rfl rfl ?_ | refine Ev.gr (by rfl) (by rfl) (by assumption) (by rfl) (by assumption) ?_ | refine Ev.gi (by rfl) (by rfl) (by assumption) (by rfl) (by assumption) ?_))
      refine Ev.bp rfl (fun c => ?_) (fun c => ?_)
      · (repeat (first | (refine Ev.at (q := 104) rfl ?_; exact (g _)) | refine Ev.p rfl rfl ?_))
      · exact absurd (Int32.le_refl _) c
    | succ mm ih =>
      intro i J hi fJ h1 h2
      have hin : i < n := by omega
      have j8 : J o 8 = nI n := by rw [fJ o (no o (by omega) (by omega))]; exact v8
      have j6 : J (o + 6) i = s (69 + i) := by rw [fJ (o + 6) (no _ (by omega) (by omega))]; exact vh i hin
      obtain ⟨cs, hcs⟩ : ∃ cs, cs = clr Y i := ⟨_, rfl⟩
      have hcl := clr_nI Y (by omega) i (by omega)
      rw [← hcs] at hcl
      obtain ⟨x0, hx0⟩ : ∃ x0, x0 = gL 30 (cw s n) (gTb 30 (cw s n) n k) Y i := ⟨_, rfl⟩
      have hsu : gL 30 (cw s n) (gTb 30 (cw s n) n k) Y (i + 1) = if cs ≠ Y ∧ gTb 30 (cw s n) n k cs + cw s n i Y < x0 then gTb 30 (cw s n) n k cs + cw s n i Y else x0 := by rw [hcs, hx0]; rfl
      rw [← hx0] at h2
      have hsr := sr_1 Y (by omega) i (by omega)
      by_cases hb : Y / 2 ^ i % 2 = 1
      · have hlt : cs < Y := by rw [hcs]; have := clr_lt hb; have := Nat.two_pow_pos i; omega
        obtain ⟨y0, hy0⟩ : ∃ y0, y0 = gTb 30 (cw s n) n k cs + cw s n i Y := ⟨_, rfl⟩
        have jcs : J da' cs = gTb 30 (cw s n) n k cs := h1 cs hlt
        rw [← hy0] at hsu
        have hmin : (if x0 ≤ y0 then x0 else y0) = gL 30 (cw s n) (gTb 30 (cw s n) n k) Y (i + 1) := by
          rw [hsu]
          by_cases h9 : x0 ≤ y0
          · rw [if_pos h9, if_neg (fun g => absurd g.2 (Int32.not_lt.mpr h9))]
          · rw [if_neg h9, if_pos ⟨by omega, Int32.not_le.mp h9⟩]
        obtain ⟨J', g1, g2, g3, g4⟩ := ih (i + 1) (upI J da' Y (gL 30 (cw s n) (gTb 30 (cw s n) n k) Y (i + 1))) (by omega) (fJ.tr (FR.up rfl)) (fun j hj => by rw [upI_eq, upd_ne (by omega)]; exact h1 j hj) (by rw [upI_eq, upd_at])
        refine ⟨J', g1, g2, g3, fun Z g y => ?_⟩
        have g5 := g4 Z g
        rw [nI_succ i] at g5
        have hb1 := hbc J i Y hin (by omega)
        have hmn := j_min (X := X) (d := d + 1) (K, J, R) x0 y0
        rw [hmin] at hmn
        rw [hb] at hsr
        (repeat (first | refine Ev.p rfl rfl ?_ | refine Ev.gr (by rfl) (by rfl) (by assumption) (by rfl) (by assumption) ?_ | refine Ev.gi (by rfl) (by rfl) (by assumption) (by rfl) (by assumption) ?_))
        refine Ev.bp rfl (fun c => ?_) (fun c => ?_)
        · exact absurd c (nI_ge (by omega) (by omega))
        · iterate 5 refine Ev.p rfl rfl ?_
          rw [hsr]
          (repeat (first | refine Ev.p rfl rfl ?_ | refine Ev.gr (by rfl) (by rfl) (by assumption) (by rfl) (by assumption) ?_ | refine Ev.gi (by rfl) (by rfl) (by assumption) (by rfl) (by assumption) ?_))
          (refine Ev.iald (j := i) (by rfl) (by assumption) (by rfl) (by omega) (by omega) ?_; rw [j6])
          iterate 2 refine Ev.p rfl rfl ?_
          rw [hwau i hin]
          (repeat refine Ev.p rfl rfl ?_)
          refine Ev.c rfl hb1 ?_
          (repeat (first | refine Ev.p rfl rfl ?_ | refine Ev.gr (by rfl) (by rfl) (by assumption) (by rfl) (by assumption) ?_ | refine Ev.gi (by rfl) (by rfl) (by assumption) (by rfl) (by assumption) ?_))
          (refine Ev.iald (j := Y) (by rfl) (by assumption) (by rfl) (by omega) (by omega) ?_; rw [h2])
          (repeat (first | refine Ev.p rfl rfl ?_ | refine Ev.gr (by rfl) (by rfl) (by assumption) (by rfl) (by assumption) ?_ | refine Ev.gi (by rfl) (by rfl) (by assumption) (by rfl) (by assumption) ?_))
          rw [hcl]
          (refine Ev.iald (j := cs) (by rfl) (by assumption) (by rfl) (by omega) (by omega) ?_; rw [jcs])
          iterate 2 refine Ev.p rfl rfl ?_
          rw [← hy0]
          refine Ev.c rfl hmn ?_
          refine Ev.iast (j := Y) (by rfl) (by assumption) (by rfl) (by omega) (by omega) ?_
          (repeat (first | (refine Ev.at (q := 30) rfl ?_; exact (g5 _)) | refine Ev.p rfl rfl ?_))
      · have hne : cs = Y := by rw [hcs]; exact if_neg hb
        obtain ⟨J', g1, g2, g3, g4⟩ := ih (i + 1) J (by omega) fJ h1 (by rw [hsu, if_neg (fun g => g.1 hne)]; exact h2)
        refine ⟨J', g1, g2, g3, fun Z g y => ?_⟩
        have g5 := g4 Z g
        rw [nI_succ i] at g5
        rw [show Y / 2 ^ i % 2 = 0 by have := Nat.mod_lt (Y / 2 ^ i) (show 0 < 2 by omega); exact (Nat.mod_two_eq_zero_or_one _).resolve_right hb] at hsr
        (repeat (first | refine Ev.p rfl rfl ?_ | refine Ev.gr (by rfl) (by rfl) (by assumption) (by rfl) (by assumption) ?_ | refine Ev.gi (by rfl) (by rfl) (by assumption) (by rfl) (by assumption) ?_))
        refine Ev.bp rfl (fun c => ?_) (fun c => ?_)
        · exact absurd c (nI_ge (by omega) (by omega))
        · iterate 5 refine Ev.p rfl rfl ?_
          rw [hsr]
          (repeat (first | (refine Ev.at (q := 30) rfl ?_; exact (g5 _)) | refine Ev.p rfl rfl ?_))
  have lo : ∀ mm k (J : Nat → Nat → Int32), k + mm = U → FR (fun c => c = da') I J → (∀ j, j ≤ k → J da' j = gTb 30 (cw s n) n k j) → ∃ I', (∀ y z : Option Value, Ev X (d + 2) kX0_loose 14 [some (.ref a), some (.ref o), some (.int (nI U)), some (.int (nI (k + 1))), y, z] [] (K, J, R) (some (.int res), (K, I', R))) ∧ FR (fun c => c = da') I I' := by
    intro mm
    induction mm with
    | zero =>
      intro k J hk fJ h1
      have e : k = U := by omega
      subst e
      refine ⟨J, fun y z => ?_, fJ⟩
      have hU1 : J da' k = res := by rw [h1 k (Nat.le_refl _)]; exact hfin
      (repeat refine Ev.p rfl rfl ?_)
      refine Ev.bp rfl (fun c => ?_) (fun c => ?_)
      · (repeat (first | refine Ev.p rfl rfl ?_ | refine Ev.gr (by rfl) (by rfl) (by assumption) (by rfl) (by assumption) ?_ | refine Ev.gi (by rfl) (by rfl) (by assumption) (by rfl) (by assumption) ?_))
        (refine Ev.iald (j := k) (by rfl) (by assumption) (by rfl) (by omega) (by omega) ?_; rw [hU1])
        ((repeat refine Ev.p rfl rfl ?_); exact Ev.r rfl)
      · exact absurd (nI_lt (by omega) (by omega)) c
    | succ mm ih =>
      intro k J hk fJ h1
      obtain ⟨J', g1, g2, g3, g4⟩ := li (k + 1) k rfl (by omega) n 0 (upI J da' (k + 1) 30) (by omega) (fJ.tr (FR.up rfl)) (fun j hj => by rw [upI_eq, upd_ne (by omega)]; exact h1 j (by omega)) (by rw [upI_eq, upd_at]; rfl)
      obtain ⟨I', i1, i2⟩ := ih (k + 1) J' (by omega) g1 (fun j hj => by
        show _ = upd (gTb 30 (cw s n) n k) (k + 1) _ j
        by_cases hjk : j = k + 1
        · subst hjk; rw [upd_at]; exact g3
        · rw [upd_ne hjk]; exact g2 j (by omega))
      refine ⟨I', fun y z => ?_, i2⟩
      rw [nI_succ (k + 1)] at i1
      have g5 := g4 (some (.int res), (K, I', R)) (fun y => by (repeat (first | (refine Ev.at (q := 14) rfl ?_; exact (i1 _ _)) | refine Ev.p rfl rfl ?_)))
      (repeat refine Ev.p rfl rfl ?_)
      refine Ev.bp rfl (fun c => ?_) (fun c => ?_)
      · exact absurd c (nI_nlt (by omega) (by omega))
      · (repeat (first | refine Ev.p rfl rfl ?_ | refine Ev.gr (by rfl) (by rfl) (by assumption) (by rfl) (by assumption) ?_ | refine Ev.gi (by rfl) (by rfl) (by assumption) (by rfl) (by assumption) ?_))
        refine Ev.iast (j := k + 1) (by rfl) (by assumption) (by rfl) (by omega) (by omega) ?_
        (repeat (first | (refine Ev.at (q := 30) rfl ?_; exact (g5 _)) | refine Ev.p rfl rfl ?_))
  obtain ⟨I', g1, g2⟩ := lo U 0 (upI I da' 0 0) (by omega) (FR.up rfl) (fun j hj => by
    have : j = 0 := by omega
    subst this
    rw [upI_eq, upd_at]; rfl)
  refine ⟨I', ?_, g2⟩
  (repeat (first | refine Ev.p rfl rfl ?_ | refine Ev.gr (by rfl) (by rfl) (by assumption) (by rfl) (by assumption) ?_ | refine Ev.gi (by rfl) (by rfl) (by assumption) (by rfl) (by assumption) ?_))
  refine Ev.cv (by rfl) (by rfl) (by assumption) (by rfl) (by rfl) (by rfl) (by rfl) (by rfl) hun ?_
  (repeat (first | refine Ev.p rfl rfl ?_ | refine Ev.gr (by rfl) (by rfl) (by assumption) (by rfl) (by assumption) ?_ | refine Ev.gi (by rfl) (by rfl) (by assumption) (by rfl) (by assumption) ?_))
  refine Ev.iast (j := 0) (by rfl) (by assumption) (by rfl) (by omega) (by omega) ?_
  (repeat (first | (refine Ev.at (q := 14) rfl ?_; exact (g1 _ _)) | refine Ev.p rfl rfl ?_))
end CLOOSE
