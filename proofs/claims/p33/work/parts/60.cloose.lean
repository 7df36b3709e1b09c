/-! THE CLASS: loose -/
def gL (ini : Int32) (w : Nat → Nat → Int32) (f : Nat → Int32) (X : Nat) : Nat → Int32
  | 0 => ini
  | q + 1 => if clr X q ≠ X ∧ f (clr X q) + w q X < gL ini w f X q then f (clr X q) + w q X else gL ini w f X q
def gTb (ini : Int32) (w : Nat → Nat → Int32) (n : Nat) : Nat → (Nat → Int32)
  | 0 => fun _ => 0
  | k + 1 => upd (gTb ini w n k) (k + 1) (gL ini w (gTb ini w n k) (k + 1) n)
theorem rLi_g (s : Nat → Int32) (n : Nat) (f : Nat → Int32) (X : Nat) : ∀ q, rLi s n f X q = gL 1000000000 (fun q X => rTF s n q (nI (clr X q))) f X q := by
  intro q
  induction q with
  | zero => rfl
  | succ q ih => simp only [rLi, gL, ih]
theorem rLo_g (s : Nat → Int32) (n : Nat) : ∀ k, rLo s n k = gTb 1000000000 (fun q X => rTF s n q (nI (clr X q))) n k := by
  intro k
  induction k with
  | zero => rfl
  | succ k ih => simp only [rLo, gTb, ih, rLi_g]
theorem gTb_st (ini : Int32) (w : Nat → Nat → Int32) (n : Nat) : ∀ k j, j ≤ k → gTb ini w n k j = gTb ini w n j j := by
  intro k
  induction k with
  | zero => intro j hj; rw [show j = 0 by omega]
  | succ k ih =>
    intro j hj
    by_cases h : j = k + 1
    · rw [h]
    · show upd (gTb ini w n k) (k + 1) _ j = _
      rw [upd_ne h, ih j (by omega)]
section GL
variable {ini : Int32} {w : Nat → Nat → Int32} {wn : Nat → Nat → Nat} {n i0 : Nat}
theorem clr_lt {X q : Nat} (h : X / 2 ^ q % 2 = 1) : clr X q + 2 ^ q = X := by
  unfold clr
  rw [if_pos h]
  have h2 : 0 < X / 2 ^ q := Nat.pos_of_ne_zero (fun g => by rw [g] at h; cases h)
  have := (Nat.div_pos_iff.mp h2).2
  omega
theorem clr_ne {X q : Nat} : clr X q ≠ X ↔ X / 2 ^ q % 2 = 1 := by
  constructor
  · intro h
    by_cases h2 : X / 2 ^ q % 2 = 1
    · exact h2
    · exact absurd (if_neg h2) h
  · intro h
    have := clr_lt h
    have := Nat.two_pow_pos q
    omega
theorem gL_v (hini : ini = nI i0) (hi0 : i0 < 2147483648) {f : Nat → Int32} {g : Nat → Nat} {X : Nat} (hX : X < 64) (hw : ∀ q, q < n → w q X = nI (wn q X) ∧ wn q X ≤ 6) (hf : ∀ j, j < X → f j = nI (g j) ∧ g j ≤ 36) : ∀ m, m ≤ n → (∃ z, gL ini w f X m = nI z ∧ z ≤ i0 ∧ (∀ q, q < m → X / 2 ^ q % 2 = 1 → z ≤ g (clr X q) + wn q X) ∧ (z = i0 ∨ ∃ q, q < m ∧ X / 2 ^ q % 2 = 1 ∧ z = g (clr X q) + wn q X)) := by
  intro m
  induction m with
  | zero => intro _; exact ⟨i0, hini, Nat.le_refl _, fun q hq => by omega, Or.inl rfl⟩
  | succ m ih =>
    intro hm
    obtain ⟨z, e1, e2, e3, e4⟩ := ih (by omega)
    show ∃ z, (if clr X m ≠ X ∧ f (clr X m) + w m X < gL ini w f X m then f (clr X m) + w m X else gL ini w f X m) = nI z ∧ _
    by_cases hb : X / 2 ^ m % 2 = 1
    · have hlt : clr X m < X := by have := clr_lt hb; have := Nat.two_pow_pos m; omega
      obtain ⟨f1, f2⟩ := hf _ hlt
      obtain ⟨w1, w2⟩ := hw m (by omega)
      rw [f1, w1, nI_add, e1]
      by_cases hc : g (clr X m) + wn m X < z
      · rw [if_pos ⟨clr_ne.mpr hb, nI_lt hc (by omega)⟩]
        refine ⟨_, rfl, by omega, fun q hq hqb => ?_, Or.inr ⟨m, by omega, hb, rfl⟩⟩
        by_cases hqm : q = m
        · subst hqm; exact Nat.le_refl _
        · have := e3 q (by omega) hqb; omega
      · rw [if_neg (fun h => absurd h.2 (nI_nlt (by omega) (by omega)))]
        refine ⟨z, rfl, e2, fun q hq hqb => ?_, ?_⟩
        · by_cases hqm : q = m
          · subst hqm; omega
          · exact e3 q (by omega) hqb
        · rcases e4 with h | ⟨q, h1, h2, h3⟩
          · exact Or.inl h
          · exact Or.inr ⟨q, by omega, h2, h3⟩
    · rw [if_neg (fun h => hb (clr_ne.mp h.1))]
      refine ⟨z, e1, e2, fun q hq hqb => ?_, ?_⟩
      · by_cases hqm : q = m
        · subst hqm; exact absurd hqb hb
        · exact e3 q (by omega) hqb
      · rcases e4 with h | ⟨q, h1, h2, h3⟩
        · exact Or.inl h
        · exact Or.inr ⟨q, by omega, h2, h3⟩
theorem has_bit {X n : Nat} (h0 : 0 < X) (hX : X < 2 ^ n) : ∃ q, q < n ∧ X / 2 ^ q % 2 = 1 := by
  rcases Nat.eq_zero_or_pos (cnt (fun p => decide (X / 2 ^ p % 2 = 1)) n) with h | h
  · have := cnt_0 _ n h
    rw [mk_of n X hX] at this
    omega
  · obtain ⟨p, h1, h2⟩ := cnt_pos h
    exact ⟨p, h1, of_decide_eq_true h2⟩
/-- how many are in a set -/
def pop (X : Nat) : Nat := X % 2 + X / 2 % 2 + X / 4 % 2 + X / 8 % 2 + X / 16 % 2 + X / 32 % 2
theorem pop_clr : ∀ X, X < 64 → ∀ q, q < 6 → X / 2 ^ q % 2 = 1 → pop (clr X q) + 1 = pop X := by decide +kernel
theorem pop_6 (X : Nat) : pop X ≤ 6 := by
  unfold pop
  omega
theorem cnt_lt {f : Nat → Bool} {n p : Nat} (hp : p < n) (hf : f p = false) : cnt f n + 1 ≤ n := by
  induction n with
  | zero => omega
  | succ n ih =>
    show cnt f n + (if f n = true then 1 else 0) + 1 ≤ n + 1
    by_cases h : p = n
    · subst h
      rw [if_neg (by rw [hf]; decide)]
      have := cnt_le f p
      omega
    · have := ih (by omega)
      split <;> omega
/-- the table holds the least -/
theorem gTb_p {c : Nat} (hini : ini = nI i0) (hi0 : c * 6 ≤ i0 ∧ i0 < 2147483648) (hc : c ≤ 6) (hn : n ≤ 6) (hw : ∀ q X, q < n → X < 64 → w q X = nI (wn q X) ∧ wn q X ≤ 6 ∧ (X / 2 ^ q % 2 = 1 → wn q X ≤ c)) : ∀ X, X < 2 ^ n → ∃ z, gTb ini w n X X = nI z ∧ z ≤ c * pop X ∧ (0 < X → (∀ q, q < n → X / 2 ^ q % 2 = 1 → z ≤ (gTb ini w n (clr X q) (clr X q)).toNatClampNeg + wn q X) ∧ ∃ q, q < n ∧ X / 2 ^ q % 2 = 1 ∧ z = (gTb ini w n (clr X q) (clr X q)).toNatClampNeg + wn q X) := by
  have h64 := p2_64 hn
  have cp : ∀ X, c * pop X ≤ 36 := fun X => Nat.mul_le_mul hc (pop_6 X)
  intro X
  induction X using Nat.strongRecOn with
  | ind X ih =>
    intro hX
    cases X with
    | zero => exact ⟨0, rfl, Nat.zero_le _, fun h => by omega⟩
    | succ k =>
      obtain ⟨g, hg⟩ : ∃ g : Nat → Nat, g = fun j => (gTb ini w n j j).toNatClampNeg := ⟨_, rfl⟩
      have hf : ∀ j, j < k + 1 → gTb ini w n k j = nI (g j) ∧ g j ≤ c * pop j := fun j hj => by
        obtain ⟨z, e1, e2, -⟩ := ih j hj (by omega)
        have := cp j
        rw [gTb_st ini w n k j (by omega), hg]
        dsimp only
        rw [e1, nI_clamp (by omega)]
        exact ⟨rfl, e2⟩
      have e : gTb ini w n (k + 1) (k + 1) = gL ini w (gTb ini w n k) (k + 1) n := upd_at _ _ _
      obtain ⟨z, e1, e2, e3, e4⟩ := gL_v (wn := wn) hini hi0.2 (f := gTb ini w n k) (g := g) (X := k + 1) (by omega) (fun q hq => ⟨(hw q (k + 1) hq (by omega)).1, (hw q (k + 1) hq (by omega)).2.1⟩) (fun j hj => ⟨(hf j hj).1, Nat.le_trans (hf j hj).2 (cp j)⟩) n (Nat.le_refl _)
      obtain ⟨q0, hq0, hb0⟩ := has_bit (X := k + 1) (n := n) (by omega) hX
      have c0 : g (clr (k + 1) q0) + wn q0 (k + 1) ≤ c * pop (k + 1) := by
        have h2 := clr_lt hb0
        have h3 := Nat.two_pow_pos q0
        have h4 := (hf (clr (k + 1) q0) (by omega)).2
        have h5 := (hw q0 (k + 1) hq0 (by omega)).2.2 hb0
        rw [← pop_clr (k + 1) (by omega) q0 (by omega) hb0, Nat.mul_add, Nat.mul_one]
        omega
      have hz : z ≤ c * pop (k + 1) := Nat.le_trans (e3 q0 hq0 hb0) c0
      have hi6 : c * pop (k + 1) ≤ i0 := Nat.le_trans (Nat.mul_le_mul_left c (pop_6 _)) hi0.1
      refine ⟨z, by rw [e, e1], hz, fun _ => ⟨fun q hq hqb => by have := e3 q hq hqb; rw [hg] at this; exact this, ?_⟩⟩
      rcases e4 with h | ⟨q, h1, h2, h3⟩
      · have := e3 q0 hq0 hb0
        exact ⟨q0, hq0, hb0, by rw [hg] at c0 this; dsimp only at c0 this; omega⟩
      · exact ⟨q, h1, h2, by rw [hg] at h3; exact h3⟩
theorem gTb_v {c : Nat} (hini : ini = nI i0) (hi0 : c * 6 ≤ i0 ∧ i0 < 2147483648) (hc : c ≤ 6) (hn : n ≤ 6) (hw : ∀ q X, q < n → X < 64 → w q X = nI (wn q X) ∧ wn q X ≤ 6 ∧ (X / 2 ^ q % 2 = 1 → wn q X ≤ c)) : ∀ X, X < 2 ^ n → ∃ z, gTb ini w n X X = nI z ∧ z ≤ 36 ∧ (0 < X → (∀ q, q < n → X / 2 ^ q % 2 = 1 → z ≤ (gTb ini w n (clr X q) (clr X q)).toNatClampNeg + wn q X) ∧ ∃ q, q < n ∧ X / 2 ^ q % 2 = 1 ∧ z = (gTb ini w n (clr X q) (clr X q)).toNatClampNeg + wn q X) := fun X hX => by
  obtain ⟨z, h1, h2, h3⟩ := gTb_p hini hi0 hc hn hw X hX
  exact ⟨z, h1, Nat.le_trans h2 (Nat.mul_le_mul hc (pop_6 X)), h3⟩
end GL
section LOOSE
variable {s : Nat → Int32} {n : Nat}
/-- what the class asks of ties to later ones -/
def cw (s : Nat → Int32) (n q X : Nat) : Int32 := rC (rW s q n &&& (nI X ^^^ (-1))) 6
theorem bits (f : Nat → Bool) {n q : Nat} (hq : q < n) : (mk f n / 2 ^ q % 2 = 1) ↔ f q = true := by
  rw [mk_bit]
  by_cases h : f q = true
  · rw [if_pos ⟨hq, h⟩]; simp [h]
  · rw [if_neg (fun g => h g.2)]; simp [h]
theorem clr_mk (f : Nat → Bool) {n q : Nat} (hq : q < n) (hf : f q = true) : clr (mk f n) q = mk (dl f q) n := by
  have h1 := clr_lt ((bits f hq).mpr hf)
  have h2 := mk_dl hq hf
  omega
theorem cw_v (hn : n ≤ 6) (hS : SF s n) {q : Nat} (hq : q < n) (f : Nat → Bool) : cw s n q (mk f n) = nI (wt n (fun q => !sett s q) (tieB s) q (fun p => !f p)) := by
  unfold cw
  rw [rW_mk hn hS (by omega) n hn, mk_andn _ _ hn hn, rC_mk _ hn]
  congr 1
  exact cnt_ext (fun p hp => by rw [decide_eq_true hp]; rfl)
theorem rTF_v (hn : n ≤ 6) (hS : SF s n) {q : Nat} (hq : q < n) (f : Nat → Bool) : rTF s n q (nI (mk f n)) = nI (if (!sett s q) = true then wt n (fun q => !sett s q) (tieB s) q f else 0) := by
  unfold rTF
  have e : s (14 + q) = bI (sett s q) := sett_0 hS.1 (by omega)
  cases hs : sett s q with
  | true => rw [e, hs, if_pos (show bI true = 1 from rfl)]; rfl
  | false =>
    rw [e, hs, if_neg (by decide), if_pos (show (!false) = true from rfl), rW_mk hn hS (by omega) n hn, mk_and _ _ hn hn, rC_mk _ hn]
    congr 1
    exact cnt_ext (fun p hp => by rw [decide_eq_true hp]; rfl)
theorem mk_bits {X n : Nat} (hX : X < 2 ^ n) : ∃ f : Nat → Bool, X = mk f n := ⟨_, (mk_of n X hX).symm⟩
/-- the least that both find -/
theorem loose_eq (hn : n ≤ 6) (hS : SF s n) : gTb 30 (cw s n) n (mk (fun q => !sett s q) n) (mk (fun q => !sett s q) n) = rLo s n (2 ^ n - 1) (2 ^ n - 1) := by
  have h64 := p2_64 hn
  have hU := mk_lt (fun q => !sett s q) n
  have hP := Nat.two_pow_pos n
  obtain ⟨Rf, hRf⟩ : ∃ Rf : Nat → Nat, Rf = fun X => (gTb 1000000000 (fun q X => rTF s n q (nI (clr X q))) n X X).toNatClampNeg := ⟨_, rfl⟩
  obtain ⟨Cf, hCf⟩ : ∃ Cf : Nat → Nat, Cf = fun X => (gTb 30 (cw s n) n X X).toNatClampNeg := ⟨_, rfl⟩
  have wle : ∀ p f, wt n (fun q => !sett s q) (tieB s) p f ≤ 6 := fun p f => Nat.le_trans (cnt_le _ n) hn
  have b64 : ∀ X, X < 64 → ∃ f : Nat → Bool, X = mk f 6 := fun X hX => ⟨_, (mk_of 6 X hX).symm⟩
  -- the reference's
  have hwR : ∀ q X, q < n → X < 64 → rTF s n q (nI (clr X q)) = nI (rTF s n q (nI (clr X q))).toNatClampNeg ∧ (rTF s n q (nI (clr X q))).toNatClampNeg ≤ 6 ∧ (X / 2 ^ q % 2 = 1 → (rTF s n q (nI (clr X q))).toNatClampNeg ≤ 6) := fun q X hq hX => by
    have hcl : clr X q ≤ X := clr_le X hX q (by omega)
    unfold rTF
    split
    · exact ⟨rfl, by show 0 ≤ 6; omega, fun _ => by show 0 ≤ 6; omega⟩
    · obtain ⟨f, hf⟩ := b64 (clr X q) (by omega)
      rw [hf, rW_mk hn hS (by omega) n hn, mk_and _ _ hn (by omega), rC_mk _ hn, nI_clamp (by have := cnt_le (fun p => (tieB s q p && !sett s p) && (decide (p < 6) && f p)) n; omega)]
      exact ⟨rfl, Nat.le_trans (cnt_le _ n) hn, fun _ => Nat.le_trans (cnt_le _ n) hn⟩
  have vR := gTb_v (ini := 1000000000) (i0 := 1000000000) (c := 6) (w := fun q X => rTF s n q (nI (clr X q))) (wn := fun q X => (rTF s n q (nI (clr X q))).toNatClampNeg) rfl (by omega) (by omega) hn hwR
  have hwC : ∀ q X, q < n → X < 64 → cw s n q X = nI (cw s n q X).toNatClampNeg ∧ (cw s n q X).toNatClampNeg ≤ 6 ∧ (X / 2 ^ q % 2 = 1 → (cw s n q X).toNatClampNeg ≤ 5) := fun q X hq hX => by
    obtain ⟨f, hf⟩ := b64 X hX
    have hb : X / 2 ^ q % 2 = 1 → f q = true := fun h => by rw [hf] at h; exact (bits f (by omega)).mp h
    unfold cw
    rw [hf, rW_mk hn hS (by omega) n hn, mk_andn _ _ hn (by omega), rC_mk _ hn, nI_clamp (by have := cnt_le (fun p => (tieB s q p && !sett s p) && !(decide (p < 6) && f p)) n; omega)]
    refine ⟨rfl, Nat.le_trans (cnt_le _ n) hn, fun h => ?_⟩
    have h5 := cnt_lt (f := fun p => (tieB s q p && !sett s p) && !(decide (p < 6) && f p)) hq (by simp [show q < 6 by omega, hb (by rw [hf]; exact h)])
    omega
  have vC := gTb_v (ini := 30) (i0 := 30) (c := 5) (w := cw s n) (wn := fun q X => (cw s n q X).toNatClampNeg) rfl (by omega) (by omega) hn hwC
  have dR : DPR n Rf (fun p f => if (fun q => !sett s q) p = true then wt n (fun q => !sett s q) (tieB s) p (dl f p) else 0) (fun _ => true) := by
    refine ⟨by rw [hRf]; rfl, fun f _ hc => ?_⟩
    have hX := mk_lt f n
    have h0 : 0 < mk f n := by
      obtain ⟨p, hp, hf⟩ := cnt_pos hc
      have := mk_dl hp hf
      have := Nat.two_pow_pos p
      omega
    obtain ⟨z, e1, e2, e3⟩ := vR (mk f n) hX
    obtain ⟨e4, e5⟩ := e3 h0
    have ez : Rf (mk f n) = z := by rw [hRf]; dsimp only; rw [e1, nI_clamp (by omega)]
    have ew : ∀ p, p < n → f p = true → (rTF s n p (nI (clr (mk f n) p))).toNatClampNeg = if (!sett s p) = true then wt n (fun q => !sett s q) (tieB s) p (dl f p) else 0 := fun p hp hf => by
      have := wle p (dl f p)
      rw [clr_mk f hp hf, rTF_v hn hS hp]
      split
      · rw [nI_clamp (by omega)]
      · rfl
    refine ⟨fun p hp hf => ?_, ?_⟩
    · have := e4 p hp ((bits f hp).mpr hf)
      rw [ew p hp hf, clr_mk f hp hf] at this
      rw [ez, hRf]
      exact this
    · obtain ⟨p, hp, hb, hz⟩ := e5
      have hf := (bits f hp).mp hb
      refine ⟨p, hp, hf, ?_⟩
      rw [ew p hp hf, clr_mk f hp hf] at hz
      rw [ez, hRf]
      exact hz
  have dC : DPR n Cf (fun p f => wt n (fun q => !sett s q) (tieB s) p (fun q => !f q)) (fun q => !sett s q) := by
    refine ⟨by rw [hCf]; rfl, fun f _ hc => ?_⟩
    have hX := mk_lt f n
    have h0 : 0 < mk f n := by
      obtain ⟨p, hp, hf⟩ := cnt_pos hc
      have := mk_dl hp hf
      have := Nat.two_pow_pos p
      omega
    obtain ⟨z, e1, e2, e3⟩ := vC (mk f n) hX
    obtain ⟨e4, e5⟩ := e3 h0
    have ez : Cf (mk f n) = z := by rw [hCf]; dsimp only; rw [e1, nI_clamp (by omega)]
    have ew : ∀ p, p < n → (cw s n p (mk f n)).toNatClampNeg = wt n (fun q => !sett s q) (tieB s) p (fun q => !f q) := fun p hp => by
      have := wle p (fun q => !f q)
      rw [cw_v hn hS hp, nI_clamp (by omega)]
    refine ⟨fun p hp hf => ?_, ?_⟩
    · have := e4 p hp ((bits f hp).mpr hf)
      rw [ew p hp, clr_mk f hp hf] at this
      rw [ez, hCf]
      exact this
    · obtain ⟨p, hp, hb, hz⟩ := e5
      have hf := (bits f hp).mp hb
      refine ⟨p, hp, hf, ?_⟩
      rw [ew p hp, clr_mk f hp hf] at hz
      rw [ez, hCf]
      exact hz
  have hd := dual dR dC
  obtain ⟨z1, a1, a2, -⟩ := vR (2 ^ n - 1) (by omega)
  obtain ⟨z2, b1, b2, -⟩ := vC _ hU
  have e1 : Rf (2 ^ n - 1) = z1 := by rw [hRf]; dsimp only; rw [a1, nI_clamp (by omega)]
  have e2 : Cf (mk (fun q => !sett s q) n) = z2 := by rw [hCf]; dsimp only; rw [b1, nI_clamp (by omega)]
  rw [mk_full, e1, e2] at hd
  rw [rLo_g, a1, b1, hd]
end LOOSE
