/-! CALLS OF THE LAW that only ask: mean, odds -/
theorem nI_dv {a b : Nat} (ha : a < 2 ^ 31) (hb : 0 < b) (hb2 : b < 2 ^ 31) : nI a / nI b = nI (a / b) := by
  apply Int32.toInt_inj.mp
  rw [Int32.toInt_div_of_ne_right]
  · rw [nI_toInt ha, nI_toInt hb2, nI_toInt (by have := Nat.div_le_self a b; omega)]
    exact (Int.ofNat_tdiv a b).symm
  · intro h
    have := congrArg Int32.toInt h
    rw [nI_toInt hb2] at this
    have h2 : (-1 : Int32).toInt = -1 := by decide
    omega
theorem nI_rm {a b : Nat} (ha : a < 2 ^ 31) (hb : 0 < b) (hb2 : b < 2 ^ 31) : nI a - nI a / nI b * nI b = nI (a % b) := by
  rw [nI_dv ha hb hb2]
  have e : nI a = nI (a % b) + nI (a / b) * nI b := by
    have h : a = a % b + a / b * b := by rw [Nat.mul_comm]; exact (Nat.mod_add_div a b).symm
    have : nI (a / b) * nI b = nI (a / b * b) := (Int32.ofNat_mul _ _).symm
    rw [this, nI_add, ← h]
  rw [e, Int32.add_sub_cancel]
section ODDS2
variable {X : Nat × (Nat → Int32)} {d : Nat} {K : List (Nat × Nat)} {T : List (Nat × Nat)} {I : Nat → Nat → Int32} {R : Nat → Nat → Option Nat} {s : Nat → Int32} {n e : Nat} {hd : Option Nat} {cls : Cls} {l : List Int32} {im : Option Img} {kc km : Nat} {As : List Value}
theorem c_cd (h : Hp) {a b : Nat} (ha : a < 2 ^ 31) (hb : b ≤ 60) : Ev X d kX11_commonDivisor 0 (ent kX11_commonDivisor [.int (nI a), .int (nI b)]) [] h (some (.int (nI (Nat.gcd a b))), h) := by
  have lp : ∀ m x y c, y ≤ m → c + m ≤ 90 → x < 2 ^ 31 → ∀ z : Option Value, Ev X d kX11_commonDivisor 7 [some (.int (nI a)), some (.int (nI b)), some (.int (nI x)), some (.int (nI y)), some (.int (nI c)), z] [] h (some (.int (nI (Nat.gcd x y))), h) := by
    intro m
    induction m with
    | zero =>
      intro x y c hy hc hx z
      have e : y = 0 := by omega
      subst e
      rw [Nat.gcd_zero_right]
      (repeat refine Ev.p rfl rfl ?_)
      refine Ev.bp rfl (fun c => absurd c (nI_ge (b := 100) (by omega) (by omega))) (fun c => ?_)
      ((repeat refine Ev.p rfl rfl ?_); exact Ev.r rfl)
    | succ m ih =>
      intro x y c hy hc hx z
      by_cases e : y = 0
      · exact ih x y c (by omega) (by omega) hx z
      · have hlt : x % y < y := Nat.mod_lt _ (by omega)
        have g := ih y (x % y) (c + 1) (by omega) (by omega) (by omega) (some (.int (nI (x % y))))
        rw [show Nat.gcd y (x % y) = Nat.gcd x y from by rw [Nat.gcd_comm y (x % y), ← Nat.gcd_rec, Nat.gcd_comm], nI_succ] at g
        (repeat refine Ev.p rfl rfl ?_)
        refine Ev.bp rfl (fun c => absurd c (nI_ge (b := 100) (by omega) (by omega))) (fun c => ?_)
        (repeat refine Ev.p rfl rfl ?_)
        refine Ev.bp rfl (fun c => absurd c (nI_ne0 (by omega) (by omega))) (fun c => ?_)
        (repeat refine Ev.p rfl rfl ?_)
        refine Ev.rm rfl (nI_ne0 (by omega) (by omega)) ?_
        rw [nI_rm hx (by omega) (by omega)]
        iterate 7 refine Ev.p rfl rfl ?_
        exact g
  iterate 6 refine Ev.p rfl rfl ?_
  exact lp b a b 0 (Nat.le_refl b) (by omega) ha none
theorem c_low (h : Hp) {a b part : Nat} (ha : a < 2 ^ 31) (hb0 : 0 < b) (hb : b ≤ 60) (hp : part ≤ 1) : Ev X (d + 1) kX11_inLowestTerms 0 (ent kX11_inLowestTerms [.int (nI a), .int (nI b), .int (nI part)]) [] h (some (.long (rGcd part a b)), h) := by
  have hg0 : 0 < Nat.gcd a b := Nat.gcd_pos_of_pos_right a hb0
  have hg1 : Nat.gcd a b ≤ b := Nat.gcd_le_right a hb0
  have hcd := c_cd (X := X) (d := d) h ha hb
  unfold rGcd
  generalize Nat.gcd a b = g at hg0 hg1 hcd ⊢
  (repeat refine Ev.p rfl rfl ?_)
  refine Ev.c rfl hcd ?_
  (repeat refine Ev.p rfl rfl ?_)
  refine Ev.bp rfl (fun c => ?_) (fun c => absurd (nI_lt (a := 0) hg0 (by omega)) c)
  rcases (by omega : part = 0 ∨ part = 1) with rfl | rfl
  · (repeat refine Ev.p rfl rfl ?_)
    refine Ev.dv rfl (nI_ne0 hg0 (by omega)) ?_
    rw [nI_dv ha hg0 (by omega), if_pos rfl, ← nI_l (by have := Nat.div_le_self a g; omega)]
    ((repeat refine Ev.p rfl rfl ?_); exact Ev.r rfl)
  · (repeat refine Ev.p rfl rfl ?_)
    refine Ev.dv rfl (nI_ne0 hg0 (by omega)) ?_
    rw [nI_dv (by omega) hg0 (by omega), if_neg (by decide), ← nI_l (by have := Nat.div_le_self b g; omega)]
    ((repeat refine Ev.p rfl rfl ?_); exact Ev.r rfl)
theorem c_isP (h : Hp) (x : Int32) : ((0 ≤ x ∧ x ≤ 1) → Ev X d kX11_isPart 0 (ent kX11_isPart [.int x]) [] h (some (.int 1), h)) ∧ (¬ (0 ≤ x ∧ x ≤ 1) → Ev X d kX11_isPart 0 (ent kX11_isPart [.int x]) [] h (some (.int 0), h)) := by
  refine ⟨fun g => ?_, fun g => ?_⟩
  · obtain ⟨j, hj, ej⟩ := nI_of2 (M := 1) (n := 1) (by decide) (Int32.not_lt.mpr g.1) g.2
    subst ej
    rcases (by omega : j = 0 ∨ j = 1) with rfl | rfl <;> ((repeat refine Ev.p rfl rfl ?_); exact Ev.r rfl)
  · have h0 : x ≠ 0 := fun q => g (by rw [q]; decide)
    have h1 : x ≠ 1 := fun q => g (by rw [q]; decide)
    (repeat refine Ev.p rfl rfl ?_)
    refine Ev.bp rfl (fun c => absurd c h0) (fun c => ?_)
    (repeat refine Ev.p rfl rfl ?_)
    refine Ev.bp rfl (fun c => ?_) (fun c => absurd (Decidable.not_not.mp c) h1)
    ((repeat refine Ev.p rfl rfl ?_); exact Ev.r rfl)
end ODDS2
