/-! THE CLASS: copies of Verandas -/
theorem Ev.acp {X : Nat × (Nat → Int32)} {d k pc np a c x p q t m1 m2 sp dp n : Nat} {v : Int32} {ls : List (Option Value)} {r : List Value} {K : List (Nat × Nat)} {I : Nat → Nat → Int32} {R : Nat → Nat → Option Nat} {Z : Option Value × Hp} {i1 i2 i3 : Int32} (hl : look k pc = some (.invokestatic x, np, a, 997, c, v)) (hp : K[p]? = some (t, m1)) (hq : K[q]? = some (t, m2)) (ht : (Nat.ble 20 t && Nat.ble t 22) = true) (hs : decide ((r.map Value.category).sum ≤ 8) = true) (e1 : i1 = nI sp) (e2 : i2 = nI dp) (e3 : i3 = nI n) (h1 : sp + n ≤ m1) (h2 : dp + n ≤ m2) (hm : m1 < 2147483648 ∧ m2 < 2147483648) (hok : ∀ j, j < n → okc t (I p (sp + j)) = true) (e : Ev X d k np ls r (K, cpI I p q sp dp n, R) Z) : Ev X d k pc ls (.int i3 :: .int i2 :: .ref q :: .int i1 :: .ref p :: r) (K, I, R) Z := by
  subst e1 e2 e3
  refine Ev.s (pc' := np) (ls' := ls) (st' := r) (h' := (K, cpI I p q sp dp n, R)) ?_ e
  unfold stq
  rw [hl]
  show stp X _ ls _ (K, I, R) = _
  dsimp only [stp]
  rw [hp, hq]
  dsimp only
  have a1 : (nI sp).toNatClampNeg = sp := nI_clamp (by omega)
  have a2 : (nI dp).toNatClampNeg = dp := nI_clamp (by omega)
  have a3 : (nI n).toNatClampNeg = n := nI_clamp (by omega)
  have hd : decide (¬ nI sp < 0 ∧ ¬ nI dp < 0 ∧ ¬ nI n < 0 ∧ (nI sp).toNatClampNeg + (nI n).toNatClampNeg ≤ m1 ∧ (nI dp).toNatClampNeg + (nI n).toNatClampNeg ≤ m2) = true := by
    rw [a1, a2, a3]
    exact decide_eq_true ⟨nI_pos (by omega), nI_pos (by omega), nI_pos (by omega), h1, h2⟩
  have hall : (List.range (nI n).toNatClampNeg).all (fun j => okc t (I p ((nI sp).toNatClampNeg + j))) = true := by
    rw [a1, a3, List.all_eq_true]
    exact fun j hj => hok j (List.mem_range.mp hj)
  rw [hd, hall, hs, show (Nat.beq t t && Nat.ble 20 t && Nat.ble t 22) = true from by rw [show Nat.beq t t = true from Nat.beq_refl t, Bool.true_and]; exact ht, a1, a2, a3]
  rfl
theorem VK.r {K : List (Nat × Nat)} {R R' : Nat → Nat → Option Nat} {v : Nat} (h : VK K R v) (hr : ∀ j, j < 8 → R' v j = R v j) : VK K R' v := by
  unfold VK at h ⊢
  rw [hr 0 (by omega), hr 1 (by omega), hr 2 (by omega), hr 3 (by omega), hr 4 (by omega), hr 5 (by omega), hr 6 (by omega), hr 7 (by omega)]
  exact h
def mixR (f g : Nat → Option Nat) (m : Nat) : Nat → Option Nat := fun j => if j < m then f j else g j
theorem upR_same {R : Nat → Nat → Option Nat} {p m : Nat} {f g : Nat → Option Nat} (h : R p = mixR f g m) : upR R p m (f m) p = mixR f g (m + 1) := by
  funext j
  unfold upR
  rw [h]
  unfold mixR
  by_cases hj : j = m
  · subst hj; simp
  · by_cases h2 : j < m
    · rw [if_neg (by omega), if_pos h2, if_pos (by omega)]
    · rw [if_neg (by omega), if_neg h2, if_neg (by omega)]
/-- which cells a Veranda's copy writes -/
def PC (v q : Nat) : Prop := q = v ∨ (v + 2 ≤ q ∧ q ≤ v + 7)
section COPY
variable {X : Nat × (Nat → Int32)} {d : Nat} {K : List (Nat × Nat)} {I : Nat → Nat → Int32} {R : Nat → Nat → Option Nat} {v w q : Nat}
set_option maxHeartbeats 4000000 in
theorem c_copyFrom (hv : VK K R v) (hw : VK K R w) (hvw : v + 9 ≤ w ∨ w + 9 ≤ v) (hm : ∀ i, i < 6 → R (w + 1) i = none ∨ ∃ m t, R (w + 1) i = some m ∧ K[m]? = some (t, 4) ∧ fam 6 t = true) (h14 : R w 14 = some q) : ∃ I' R', Ev X d kX10_copyFrom 0 (ent kX10_copyFrom [.ref v, .ref w]) [] (K, I, R) (none, (K, I', R')) ∧ (∀ c, 2 ≤ c → c ≤ 6 → ∀ j, j < 6 → I' (v + c) j = I (w + c) j) ∧ (∀ j, j < 24 → I' (v + 7) j = I (w + 7) j) ∧ (∀ j, 8 ≤ j → j ≤ 13 → I' v j = I w j) ∧ I' v 15 = I w 15 ∧ FR (PC v) I I' ∧ R' v 14 = some q ∧ (∀ i, i < 6 → R' (v + 1) i = R (w + 1) i) ∧ (∀ c j, ¬ (c = v + 1 ∧ j < 6) → ¬ (c = v ∧ j = 14) → R' c j = R c j) := by
  have lp : ∀ mm i (J : Nat → Nat → Int32) (RJ : Nat → Nat → Option Nat), i + mm = 6 → FR (fun c => v + 2 ≤ c ∧ c ≤ v + 6) I J → (∀ c, 2 ≤ c → c ≤ 6 → J (v + c) = mixf (I (w + c)) (I (v + c)) i) → RJ (v + 1) = mixR (R (w + 1)) (R (v + 1)) i → (∀ c, c ≠ v + 1 → RJ c = R c) → ∃ J' RJ', (FR (fun c => v + 2 ≤ c ∧ c ≤ v + 6) I J' ∧ (∀ c, 2 ≤ c → c ≤ 6 → J' (v + c) = mixf (I (w + c)) (I (v + c)) 6) ∧ RJ' (v + 1) = mixR (R (w + 1)) (R (v + 1)) 6 ∧ (∀ c, c ≠ v + 1 → RJ' c = R c)) ∧ ∀ Z : Option Value × Hp, Ev X d kX10_copyFrom 86 [some (.ref v), some (.ref w), some (.int (nI 6))] [] (K, J', RJ') Z → Ev X d kX10_copyFrom 2 [some (.ref v), some (.ref w), some (.int (nI i))] [] (K, J, RJ) Z := by
    intro mm
    induction mm with
    | zero =>
      intro i J RJ hi a1 a2 a3 a4
      have e : i = 6 := by omega
      subst e
      refine ⟨J, RJ, ⟨a1, a2, a3, a4⟩, fun Z g => ?_⟩
      (repeat (first | (refine Ev.at (q := 86) rfl ?_; exact g) | refine Ev.p rfl rfl ?_))
    | succ mm ih =>
      intro i J RJ hi a1 a2 a3 a4
      have hi6 : i < 6 := by omega
      have rw1 : RJ (w + 1) i = R (w + 1) i := by rw [a4 (w + 1) (by omega)]
      obtain ⟨R1, hR1⟩ : ∃ R1, R1 = upR RJ (v + 1) i (R (w + 1) i) := ⟨_, rfl⟩
      have b3 : R1 (v + 1) = mixR (R (w + 1)) (R (v + 1)) (i + 1) := by rw [hR1]; exact upR_same a3
      have b4 : ∀ c, c ≠ v + 1 → R1 c = R c := fun c hc => by rw [hR1, upR_ne hc]; exact a4 c hc
      have ld : ∀ c, 2 ≤ c → c ≤ 6 → ∀ J2 : Nat → Nat → Int32, FR (fun c => v + 2 ≤ c ∧ c ≤ v + 6) I J2 → J2 (w + c) i = I (w + c) i := fun c h1 h2 J2 h3 => by rw [h3 (w + c) (by omega)]
      obtain ⟨J1, hJ1⟩ : ∃ J1, J1 = upI J (v + 2) i (I (w + 2) i) := ⟨_, rfl⟩
      obtain ⟨J2, hJ2⟩ : ∃ J2, J2 = upI J1 (v + 3) i (I (w + 3) i) := ⟨_, rfl⟩
      obtain ⟨J3, hJ3⟩ : ∃ J3, J3 = upI J2 (v + 4) i (I (w + 4) i) := ⟨_, rfl⟩
      obtain ⟨J4, hJ4⟩ : ∃ J4, J4 = upI J3 (v + 5) i (I (w + 5) i) := ⟨_, rfl⟩
      obtain ⟨J5, hJ5⟩ : ∃ J5, J5 = upI J4 (v + 6) i (I (w + 6) i) := ⟨_, rfl⟩
      have f1 : FR (fun c => v + 2 ≤ c ∧ c ≤ v + 6) I J1 := by rw [hJ1]; exact a1.tr (FR.up ⟨by omega, by omega⟩)
      have f2 : FR (fun c => v + 2 ≤ c ∧ c ≤ v + 6) I J2 := by rw [hJ2]; exact f1.tr (FR.up ⟨by omega, by omega⟩)
      have f3 : FR (fun c => v + 2 ≤ c ∧ c ≤ v + 6) I J3 := by rw [hJ3]; exact f2.tr (FR.up ⟨by omega, by omega⟩)
      have f4 : FR (fun c => v + 2 ≤ c ∧ c ≤ v + 6) I J4 := by rw [hJ4]; exact f3.tr (FR.up ⟨by omega, by omega⟩)
      have f5 : FR (fun c => v + 2 ≤ c ∧ c ≤ v + 6) I J5 := by rw [hJ5]; exact f4.tr (FR.up ⟨by omega, by omega⟩)
      have m5 : ∀ c, 2 ≤ c → c ≤ 6 → J5 (v + c) = mixf (I (w + c)) (I (v + c)) (i + 1) := by
        intro c h1 h2
        have e0 := a2 c h1 h2
        rcases (by omega : c = 2 ∨ c = 3 ∨ c = 4 ∨ c = 5 ∨ c = 6) with rfl | rfl | rfl | rfl | rfl
        · rw [hJ5, upI_ne (by omega), hJ4, upI_ne (by omega), hJ3, upI_ne (by omega), hJ2, upI_ne (by omega), hJ1, upI_eq, e0, mixf_up]
        · rw [hJ5, upI_ne (by omega), hJ4, upI_ne (by omega), hJ3, upI_ne (by omega), hJ2, upI_eq, hJ1, upI_ne (by omega), e0, mixf_up]
        · rw [hJ5, upI_ne (by omega), hJ4, upI_ne (by omega), hJ3, upI_eq, hJ2, upI_ne (by omega), hJ1, upI_ne (by omega), e0, mixf_up]
        · rw [hJ5, upI_ne (by omega), hJ4, upI_eq, hJ3, upI_ne (by omega), hJ2, upI_ne (by omega), hJ1, upI_ne (by omega), e0, mixf_up]
        · rw [hJ5, upI_eq, hJ4, upI_ne (by omega), hJ3, upI_ne (by omega), hJ2, upI_ne (by omega), hJ1, upI_ne (by omega), e0, mixf_up]
      obtain ⟨J', RJ', g1, g2⟩ := ih (i + 1) J5 R1 (by omega) f5 m5 b3 b4
      refine ⟨J', RJ', g1, fun Z g => ?_⟩
      have g3 := g2 Z g
      rw [nI_succ] at g3
      -- behind the reference's copy
      have k20 : Ev X d kX10_copyFrom 20 [some (.ref v), some (.ref w), some (.int (nI i))] [] (K, J, R1) Z := by
        have hv1 : VK K R1 v := hv.r (fun j hj => by rw [b4 v (by omega)])
        have hw1 : VK K R1 w := hw.r (fun j hj => by rw [b4 w (by omega)])
        obtain ⟨k0, k1, k2, k3, k4, k5, k6, k7, k8, r0, r1, r2, r3, r4, r5, r6, r7⟩ := hv1
        obtain ⟨q0, q1, q2, q3, q4, q5, q6, q7, q8, s0, s1, s2, s3, s4, s5, s6, s7⟩ := hw1
        (repeat (first | refine Ev.p rfl rfl ?_ | refine Ev.gr (by rfl) (by rfl) (by assumption) (by rfl) (by assumption) ?_ | refine Ev.gi (by rfl) (by rfl) (by assumption) (by rfl) (by assumption) ?_))
        (refine Ev.iald (j := i) (by rfl) (by assumption) (by rfl) (by omega) (by omega) ?_; rw [ld 2 (by omega) (by omega) J a1])
        refine Ev.iast (j := i) (by rfl) (by assumption) (by rfl) (by omega) (by omega) ?_
        rw [← hJ1]
        (repeat (first | refine Ev.p rfl rfl ?_ | refine Ev.gr (by rfl) (by rfl) (by assumption) (by rfl) (by assumption) ?_ | refine Ev.gi (by rfl) (by rfl) (by assumption) (by rfl) (by assumption) ?_))
        (refine Ev.iald (j := i) (by rfl) (by assumption) (by rfl) (by omega) (by omega) ?_; rw [ld 3 (by omega) (by omega) J1 f1])
        refine Ev.iast (j := i) (by rfl) (by assumption) (by rfl) (by omega) (by omega) ?_
        rw [← hJ2]
        (repeat (first | refine Ev.p rfl rfl ?_ | refine Ev.gr (by rfl) (by rfl) (by assumption) (by rfl) (by assumption) ?_ | refine Ev.gi (by rfl) (by rfl) (by assumption) (by rfl) (by assumption) ?_))
        (refine Ev.iald (j := i) (by rfl) (by assumption) (by rfl) (by omega) (by omega) ?_; rw [ld 4 (by omega) (by omega) J2 f2])
        refine Ev.iast (j := i) (by rfl) (by assumption) (by rfl) (by omega) (by omega) ?_
        rw [← hJ3]
        (repeat (first | refine Ev.p rfl rfl ?_ | refine Ev.gr (by rfl) (by rfl) (by assumption) (by rfl) (by assumption) ?_ | refine Ev.gi (by rfl) (by rfl) (by assumption) (by rfl) (by assumption) ?_))
        (refine Ev.iald (j := i) (by rfl) (by assumption) (by rfl) (by omega) (by omega) ?_; rw [ld 5 (by omega) (by omega) J3 f3])
        refine Ev.iast (j := i) (by rfl) (by assumption) (by rfl) (by omega) (by omega) ?_
        rw [← hJ4]
        (repeat (first | refine Ev.p rfl rfl ?_ | refine Ev.gr (by rfl) (by rfl) (by assumption) (by rfl) (by assumption) ?_ | refine Ev.gi (by rfl) (by rfl) (by assumption) (by rfl) (by assumption) ?_))
        (refine Ev.iald (j := i) (by rfl) (by assumption) (by rfl) (by omega) (by omega) ?_; rw [ld 6 (by omega) (by omega) J4 f4])
        refine Ev.iast (j := i) (by rfl) (by assumption) (by rfl) (by omega) (by omega) ?_
        rw [← hJ5]
        (repeat (first | (refine Ev.at (q := 2) rfl ?_; exact g3) | refine Ev.p rfl rfl ?_))
      have hv0 : VK K RJ v := hv.r (fun j hj => by rw [a4 v (by omega)])
      have hw0 : VK K RJ w := hw.r (fun j hj => by rw [a4 w (by omega)])
      obtain ⟨k0, k1, k2, k3, k4, k5, k6, k7, k8, r0, r1, r2, r3, r4, r5, r6, r7⟩ := hv0
      obtain ⟨q0, q1, q2, q3, q4, q5, q6, q7, q8, s0, s1, s2, s3, s4, s5, s6, s7⟩ := hw0
      (repeat (first | refine Ev.p rfl rfl ?_ | refine Ev.gr (by rfl) (by rfl) (by assumption) (by rfl) (by assumption) ?_ | refine Ev.gi (by rfl) (by rfl) (by assumption) (by rfl) (by assumption) ?_))
      refine Ev.bp rfl (fun c => absurd c (nI_ge (b := 6) (by omega) (by omega))) (fun c => ?_)
      (repeat (first | refine Ev.p rfl rfl ?_ | refine Ev.gr (by rfl) (by rfl) (by assumption) (by rfl) (by assumption) ?_ | refine Ev.gi (by rfl) (by rfl) (by assumption) (by rfl) (by assumption) ?_))
      refine Ev.aald (j := i) (by rfl) (by assumption) (Or.inl rfl) (by rfl) (by omega) (by omega) ?_
      rw [rw1]
      rcases hm i hi6 with h | ⟨m, tt, h, hkm, hfm⟩
      · rw [h] at hR1 ⊢
        refine Ev.aasn (j := i) (by rfl) (by assumption) (by rfl) (by rfl) (by omega) (by omega) ?_
        rw [← hR1]
        (repeat (first | (refine Ev.at (q := 20) rfl ?_; exact k20) | refine Ev.p rfl rfl ?_))
      · rw [h] at hR1 ⊢
        refine Ev.aast (j := i) (by rfl) (by assumption) hkm (by rw [hfm]; rfl) (by rfl) (by omega) (by omega) ?_
        rw [← hR1]
        (repeat (first | (refine Ev.at (q := 20) rfl ?_; exact k20) | refine Ev.p rfl rfl ?_))
  obtain ⟨J, RJ, ⟨a1, a2, a3, a4⟩, ev⟩ := lp 6 0 I R (by omega) (FR.rf I) (fun c _ _ => (mixf_0 _ _).symm) (by funext j; rfl) (fun _ _ => rfl)
  have hv0 : VK K RJ v := hv.r (fun j hj => by rw [a4 v (by omega)])
  have hw0 : VK K RJ w := hw.r (fun j hj => by rw [a4 w (by omega)])
  have h14J : RJ w 14 = some q := by rw [a4 w (by omega)]; exact h14
  obtain ⟨k0, k1, k2, k3, k4, k5, k6, k7, k8, r0, r1, r2, r3, r4, r5, r6, r7⟩ := hv0
  obtain ⟨q0, q1, q2, q3, q4, q5, q6, q7, q8, s0, s1, s2, s3, s4, s5, s6, s7⟩ := hw0
  obtain ⟨C, hC⟩ : ∃ C, C = cpI J (w + 7) (v + 7) 0 0 24 := ⟨_, rfl⟩
  have fC : ∀ c, c ≠ v + 7 → C c = J c := fun c hc => by rw [hC]; funext j; unfold cpI; rw [if_neg (fun h => hc h.1)]
  obtain ⟨C', hC'⟩ : ∃ C', C' = upI (upI (upI (upI (upI (upI C v 8 (J w 8)) v 9 (J w 9)) v 10 (J w 10)) v 11 (J w 11)) v 12 (J w 12)) v 13 (J w 13) := ⟨_, rfl⟩
  have cw : ∀ j, C w j = J w j := fun j => by rw [fC w (by omega)]
  have jw : J w = I w := a1 w (by omega)
  refine ⟨upI C' v 15 (J w 15), upR RJ v 14 (some q), ?_, ?_, ?_, ?_, ?_, ?_, ?_, ?_, ?_⟩
  · have go : Ev X d kX10_copyFrom 86 [some (.ref v), some (.ref w), some (.int (nI 6))] [] (K, J, RJ) (none, (K, upI C' v 15 (J w 15), upR RJ v 14 (some q))) := by
      (repeat (first | refine Ev.p rfl rfl ?_ | refine Ev.gr (by rfl) (by rfl) (by assumption) (by rfl) (by assumption) ?_ | refine Ev.gi (by rfl) (by rfl) (by assumption) (by rfl) (by assumption) ?_))
      refine Ev.alen (by rfl) (by assumption) (by rfl) ?_
      refine Ev.acp (sp := 0) (dp := 0) (n := 24) (by rfl) q7 k7 (by rfl) (by rfl) (by rfl) (by rfl) (by rfl) (by omega) (by omega) (by omega) (fun _ _ => by rfl) ?_
      rw [← hC]
      iterate 2 refine Ev.p rfl rfl ?_
      refine Ev.gi (by rfl) (by rfl) (by assumption) (by rfl) (cw 8) ?_
      refine Ev.pi (by rfl) (by rfl) (by assumption) (by rfl) ?_
      iterate 2 refine Ev.p rfl rfl ?_
      refine Ev.gi (by rfl) (by rfl) (by assumption) (by rfl) (y := J w 9) (by simp only [upI_ne (show w ≠ v by omega)]; exact cw 9) ?_
      refine Ev.pi (by rfl) (by rfl) (by assumption) (by rfl) ?_
      iterate 2 refine Ev.p rfl rfl ?_
      refine Ev.gi (by rfl) (by rfl) (by assumption) (by rfl) (y := J w 10) (by simp only [upI_ne (show w ≠ v by omega)]; exact cw 10) ?_
      refine Ev.pi (by rfl) (by rfl) (by assumption) (by rfl) ?_
      iterate 2 refine Ev.p rfl rfl ?_
      refine Ev.gi (by rfl) (by rfl) (by assumption) (by rfl) (y := J w 11) (by simp only [upI_ne (show w ≠ v by omega)]; exact cw 11) ?_
      refine Ev.pi (by rfl) (by rfl) (by assumption) (by rfl) ?_
      iterate 2 refine Ev.p rfl rfl ?_
      refine Ev.gi (by rfl) (by rfl) (by assumption) (by rfl) (y := J w 12) (by simp only [upI_ne (show w ≠ v by omega)]; exact cw 12) ?_
      refine Ev.pi (by rfl) (by rfl) (by assumption) (by rfl) ?_
      iterate 2 refine Ev.p rfl rfl ?_
      refine Ev.gi (by rfl) (by rfl) (by assumption) (by rfl) (y := J w 13) (by simp only [upI_ne (show w ≠ v by omega)]; exact cw 13) ?_
      refine Ev.pi (by rfl) (by rfl) (by assumption) (by rfl) ?_
      rw [← hC']
      iterate 2 refine Ev.p rfl rfl ?_
      refine Ev.gr (by rfl) (by rfl) (by assumption) (by rfl) h14J ?_
      refine Ev.pr (by rfl) (by rfl) (by assumption) (by rfl) ?_
      iterate 2 refine Ev.p rfl rfl ?_
      refine Ev.gi (by rfl) (by rfl) (by assumption) (by rfl) (y := J w 15) (by rw [hC']; simp only [upI_ne (show w ≠ v by omega)]; exact cw 15) ?_
      refine Ev.pi (by rfl) (by rfl) (by assumption) (by rfl) ?_
      ((repeat refine Ev.p rfl rfl ?_); exact Ev.r rfl)
    have g := ev _ go
    (repeat (first | (refine Ev.at (q := 2) rfl ?_; exact g) | refine Ev.p rfl rfl ?_))
  · intro c h1 h2 j hj
    rw [upI_ne (by omega), hC']
    simp only [upI_ne (show v + c ≠ v by omega)]
    rw [fC (v + c) (by omega), a2 c h1 h2]
    exact if_pos hj
  · intro j hj
    rw [upI_ne (by omega), hC']
    simp only [upI_ne (show v + 7 ≠ v by omega)]
    rw [hC]
    unfold cpI
    rw [if_pos ⟨rfl, by omega, by omega⟩, a1 (w + 7) (by omega), show 0 + (j - 0) = j by omega]
  · intro j h1 h2
    rw [hC', ← jw]
    simp only [upI_eq]
    rcases (by omega : j = 8 ∨ j = 9 ∨ j = 10 ∨ j = 11 ∨ j = 12 ∨ j = 13) with rfl | rfl | rfl | rfl | rfl | rfl <;> rfl
  · rw [upI_eq, upd_at, ← jw]
  · intro c hc
    have hc : ¬ (c = v ∨ (v + 2 ≤ c ∧ c ≤ v + 7)) := hc
    rw [hC']
    simp only [upI_ne (show c ≠ v by omega)]
    rw [fC c (by omega), a1 c (by omega)]
  · unfold upR; rw [if_pos ⟨rfl, rfl⟩]
  · intro i hi
    rw [upR_ne (by omega), a3]
    exact if_pos hi
  · intro c j h1 h2
    unfold upR
    rw [if_neg h2]
    by_cases hc : c = v + 1
    · subst hc
      rw [a3]
      exact if_neg (fun h => h1 ⟨rfl, h⟩)
    · rw [a4 c hc]
end COPY
