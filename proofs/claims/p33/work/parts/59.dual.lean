/-! the fewest ties: from the first one on, from the last one back -/
def dl (f : Nat → Bool) (p : Nat) : Nat → Bool := fun q => f q && !decide (q = p)
theorem mk_dl {f : Nat → Bool} {n p : Nat} (hp : p < n) (hf : f p = true) : mk (dl f p) n + 2 ^ p = mk f n := by
  induction n with
  | zero => omega
  | succ n ih =>
    show mk (dl f p) n + (if dl f p n = true then 2 ^ n else 0) + 2 ^ p = mk f n + (if f n = true then 2 ^ n else 0)
    by_cases h : p = n
    · subst h
      have e : mk (dl f p) p = mk f p := mk_ext (fun q hq => by unfold dl; rw [decide_eq_false (by omega)]; simp)
      rw [e, if_neg (by unfold dl; simp), if_pos hf]
      omega
    · have := ih (by omega)
      rw [show dl f p n = f n from by unfold dl; rw [decide_eq_false (fun g => h g.symm)]; simp]
      omega
theorem cnt_dl {f : Nat → Bool} {n p : Nat} (hp : p < n) (hf : f p = true) : cnt (dl f p) n + 1 = cnt f n := by
  induction n with
  | zero => omega
  | succ n ih =>
    show cnt (dl f p) n + (if dl f p n = true then 1 else 0) + 1 = cnt f n + (if f n = true then 1 else 0)
    by_cases h : p = n
    · subst h
      have e : cnt (dl f p) p = cnt f p := cnt_ext (fun q hq => by unfold dl; rw [decide_eq_false (by omega)]; simp)
      rw [e, if_neg (by unfold dl; simp), if_pos hf]
    · have := ih (by omega)
      rw [show dl f p n = f n from by unfold dl; rw [decide_eq_false (fun g => h g.symm)]; simp]
      omega
theorem cnt_pos {f : Nat → Bool} : ∀ {n : Nat}, 0 < cnt f n → ∃ p, p < n ∧ f p = true := by
  intro n
  induction n with
  | zero => intro h; exact absurd h (by show ¬ 0 < 0; omega)
  | succ n ih =>
    intro h
    have h : 0 < cnt f n + (if f n = true then 1 else 0) := h
    by_cases hf : f n = true
    · exact ⟨n, by omega, hf⟩
    · rw [if_neg hf] at h
      obtain ⟨p, h1, h2⟩ := ih (by omega)
      exact ⟨p, by omega, h2⟩
theorem cnt_z {f : Nat → Bool} {n : Nat} (h : cnt f n = 0) {p : Nat} (hp : p < n) : f p = false := by
  cases hf : f p with
  | false => rfl
  | true => have := cnt_dl hp hf; omega
/-- F is the least over who comes last: from the rest, with w -/
def DPR (n : Nat) (F : Nat → Nat) (w : Nat → (Nat → Bool) → Nat) (u : Nat → Bool) : Prop := F 0 = 0 ∧ ∀ f : Nat → Bool, (∀ p, p < n → f p = true → u p = true) → 0 < cnt f n → (∀ p, p < n → f p = true → F (mk f n) ≤ F (mk (dl f p) n) + w p f) ∧ ∃ p, p < n ∧ f p = true ∧ F (mk f n) = F (mk (dl f p) n) + w p f
section DUAL
variable {n : Nat} {Rf Cf : Nat → Nat} {u : Nat → Bool} {t : Nat → Nat → Bool}
/-- ties of p to the u-ones in f -/
def wt (n : Nat) (u : Nat → Bool) (t : Nat → Nat → Bool) (p : Nat) (f : Nat → Bool) : Nat := cnt (fun q => (t p q && u q) && f q) n
theorem wt_ext {f g : Nat → Bool} (h : ∀ q, q < n → u q = true → f q = g q) (p : Nat) : wt n u t p f = wt n u t p g := by
  unfold wt
  refine cnt_ext (fun q hq => ?_)
  cases hu : u q with
  | false => simp
  | true => rw [h q hq hu]
theorem dual_1 (hR : DPR n Rf (fun p f => if u p = true then wt n u t p (dl f p) else 0) (fun _ => true)) : ∀ (k : Nat) (f : Nat → Bool), cnt f n = k → Rf (mk f n) = Rf (mk (fun q => f q && u q) n) := by
  intro k
  induction k with
  | zero =>
    intro f hf
    congr 1
    exact mk_ext (fun p hp => by rw [cnt_z hf hp]; rfl)
  | succ k ih =>
    intro f hf
    obtain ⟨h1, p, hp, hfp, h2⟩ := hR.2 f (fun _ _ _ => rfl) (by omega)
    dsimp only at h1 h2
    have hd : ∀ p, p < n → f p = true → Rf (mk (dl f p) n) = Rf (mk (fun q => dl f p q && u q) n) := fun p hp hfp => ih _ (by have := cnt_dl hp hfp; omega)
    refine Nat.le_antisymm ?_ ?_
    · by_cases hs : ∃ p, p < n ∧ f p = true ∧ u p = false
      · obtain ⟨p', hp', hfp', hup'⟩ := hs
        have h3 := h1 p' hp' hfp'
        rw [hup', if_neg (by decide), Nat.add_zero, hd p' hp' hfp'] at h3
        rw [show mk (fun q => dl f p' q && u q) n = mk (fun q => f q && u q) n from mk_ext (fun q hq => by
          show ((f q && !decide (q = p')) && u q) = (f q && u q)
          by_cases hqp : q = p'
          · subst hqp; rw [hup']; cases f q <;> cases decide (q = q) <;> rfl
          · rw [decide_eq_false hqp]; cases f q <;> rfl)] at h3
        exact h3
      · refine Nat.le_of_eq ?_
        congr 1
        exact mk_ext (fun q hq => by
          cases hfq : f q with
          | false => rfl
          | true =>
            cases huq : u q with
            | true => rfl
            | false => exact absurd ⟨q, hq, hfq, huq⟩ hs)
    · rw [h2]
      cases hup : u p with
      | false =>
        rw [if_neg (by decide), Nat.add_zero, hd p hp hfp]
        refine Nat.le_of_eq ?_
        congr 1
        exact mk_ext (fun q hq => by
          show (f q && u q) = ((f q && !decide (q = p)) && u q)
          by_cases hqp : q = p
          · subst hqp; rw [hup]; cases f q <;> cases decide (q = q) <;> rfl
          · rw [decide_eq_false hqp]; cases f q <;> rfl)
      | true =>
        rw [if_pos rfl, hd p hp hfp]
        have hgp : (fun q => f q && u q) p = true := by show (f p && u p) = true; rw [hfp, hup]; rfl
        have h3 := (hR.2 (fun q => f q && u q) (fun _ _ _ => rfl) (by have := cnt_dl (f := fun q => f q && u q) hp hgp; omega)).1 p hp hgp
        dsimp only at h3
        rw [hup, if_pos rfl] at h3
        refine Nat.le_trans h3 (Nat.le_of_eq ?_)
        congr 1
        · congr 1
          exact mk_ext (fun q hq => by show ((f q && u q) && !decide (q = p)) = ((f q && !decide (q = p)) && u q); cases f q <;> cases u q <;> cases decide (q = p) <;> rfl)
        · exact wt_ext (fun q hq hu => by show ((f q && u q) && !decide (q = p)) = (f q && !decide (q = p)); rw [hu]; cases f q <;> rfl) p
theorem dual_2 (hR : DPR n Rf (fun p f => if u p = true then wt n u t p (dl f p) else 0) (fun _ => true)) (hC : DPR n Cf (fun p f => wt n u t p (fun q => !f q)) u) : ∀ (k : Nat) (f : Nat → Bool), (∀ p, p < n → f p = true → u p = true) → cnt (fun q => u q && !f q) n = k → Cf (mk u n) ≤ Cf (mk f n) + Rf (mk (fun q => u q && !f q) n) := by
  intro k
  induction k with
  | zero =>
    intro f hfu hk
    have e : mk u n = mk f n := mk_ext (fun q hq => by
      have := cnt_z hk hq
      cases hf : f q with
      | true => exact hfu q hq hf
      | false => rw [hf] at this; simpa using this)
    rw [e]
    omega
  | succ k ih =>
    intro f hfu hk
    obtain ⟨-, p, hp, hgp, h2⟩ := hR.2 (fun q => u q && !f q) (fun _ _ _ => rfl) (by omega)
    dsimp only at h2
    have hgp' : (u p && !f p) = true := hgp
    have hup : u p = true := by cases h : u p with | true => rfl | false => rw [h] at hgp'; cases hgp'
    have hfp : f p = false := by cases h : f p with | false => rfl | true => rw [h, Bool.not_true, Bool.and_false] at hgp'; cases hgp'
    obtain ⟨f', hf'⟩ : ∃ f' : Nat → Bool, f' = fun q => f q || decide (q = p) := ⟨_, rfl⟩
    have e1 : ∀ q, (u q && !f' q) = dl (fun q => u q && !f q) p q := fun q => by
      rw [hf']
      show (u q && !(f q || decide (q = p))) = ((u q && !f q) && !decide (q = p))
      cases u q <;> cases f q <;> cases decide (q = p) <;> rfl
    have hf'u : ∀ q, q < n → f' q = true → u q = true := fun q hq h => by
      have h : (f q || decide (q = p)) = true := by rw [hf'] at h; exact h
      by_cases hqp : q = p
      · subst hqp; exact hup
      · rw [decide_eq_false hqp, Bool.or_false] at h
        exact hfu q hq h
    have hf'p : f' p = true := by rw [hf']; simp
    have i1 := ih f' hf'u (by
      rw [cnt_ext (fun q _ => e1 q)]
      have := cnt_dl (f := fun q => u q && !f q) hp hgp
      omega)
    have i2 := (hC.2 f' hf'u (by have := cnt_dl hp hf'p; omega)).1 p hp hf'p
    dsimp only at i2
    have e2 : mk (dl f' p) n = mk f n := mk_ext (fun q hq => by
      rw [hf']
      show ((f q || decide (q = p)) && !decide (q = p)) = f q
      by_cases hqp : q = p
      · subst hqp; rw [hfp, decide_eq_true rfl]; rfl
      · rw [decide_eq_false hqp]; cases f q <;> rfl)
    have e3 : mk (fun q => u q && !f' q) n = mk (dl (fun q => u q && !f q) p) n := mk_ext (fun q _ => e1 q)
    have e4 : wt n u t p (fun q => !f' q) = wt n u t p (dl (fun q => u q && !f q) p) := wt_ext (fun q hq hu => by rw [← e1 q, hu]; simp) p
    rw [hup, if_pos rfl] at h2
    rw [e2, e4] at i2
    rw [e3] at i1
    omega
theorem dual_3 (hR : DPR n Rf (fun p f => if u p = true then wt n u t p (dl f p) else 0) (fun _ => true)) (hC : DPR n Cf (fun p f => wt n u t p (fun q => !f q)) u) : ∀ (k : Nat) (f : Nat → Bool), (∀ p, p < n → f p = true → u p = true) → cnt f n = k → Rf (mk u n) ≤ Cf (mk f n) + Rf (mk (fun q => u q && !f q) n) := by
  intro k
  induction k with
  | zero =>
    intro f hfu hk
    have e : mk (fun q => u q && !f q) n = mk u n := mk_ext (fun q hq => by rw [cnt_z hk hq]; simp)
    rw [e]
    omega
  | succ k ih =>
    intro f hfu hk
    obtain ⟨-, p, hp, hfp, h2⟩ := hC.2 f hfu (by omega)
    dsimp only at h2
    have hup := hfu p hp hfp
    have hd := cnt_dl hp hfp
    have i1 := ih (dl f p) (fun q hq h => hfu q hq (by unfold dl at h; cases hf : f q with | true => rfl | false => rw [hf] at h; cases h)) (by omega)
    have hgp : (fun q => u q && !dl f p q) p = true := by
      show (u p && !(f p && !decide (p = p))) = true
      rw [hup, hfp]; simp
    have e1 : mk (dl (fun q => u q && !dl f p q) p) n = mk (fun q => u q && !f q) n := mk_ext (fun q hq => by
      show ((u q && !(f q && !decide (q = p))) && !decide (q = p)) = (u q && !f q)
      by_cases hqp : q = p
      · subst hqp; rw [hfp, decide_eq_true rfl]; cases u q <;> rfl
      · rw [decide_eq_false hqp]; cases u q <;> cases f q <;> rfl)
    have i2 := (hR.2 (fun q => u q && !dl f p q) (fun _ _ _ => rfl) (by have := cnt_dl (f := fun q => u q && !dl f p q) hp hgp; omega)).1 p hp hgp
    dsimp only at i2
    rw [hup, if_pos rfl, e1] at i2
    have e4 : wt n u t p (dl (fun q => u q && !dl f p q) p) = wt n u t p (fun q => !f q) := wt_ext (fun q hq hu => by
      show ((u q && !(f q && !decide (q = p))) && !decide (q = p)) = !f q
      by_cases hqp : q = p
      · subst hqp; rw [hfp, decide_eq_true rfl]; cases u q <;> rfl
      · rw [decide_eq_false hqp, hu]; cases f q <;> rfl) p
    rw [e4] at i2
    omega
theorem c0 : ∀ m, cnt (fun _ => false) m = 0 := by
  intro m
  induction m with
  | zero => rfl
  | succ m ih => exact ih
/-- both ways the fewest are as many -/
theorem dual (hR : DPR n Rf (fun p f => if u p = true then wt n u t p (dl f p) else 0) (fun _ => true)) (hC : DPR n Cf (fun p f => wt n u t p (fun q => !f q)) u) : Cf (mk u n) = Rf (mk (fun _ => true) n) := by
  have h0 : mk (fun _ => false) n = 0 := cnt_0 _ n (c0 n)
  have a1 := dual_1 hR _ (fun _ => true) rfl
  rw [show mk (fun q => true && u q) n = mk u n from mk_ext (fun q _ => by simp)] at a1
  have a2 := dual_2 hR hC _ (fun _ => false) (fun _ _ h => by cases h) rfl
  rw [h0, hC.1, show mk (fun q => u q && !(fun _ => false) q) n = mk u n from mk_ext (fun q _ => by simp)] at a2
  have a3 := dual_3 hR hC _ u (fun _ _ h => h) rfl
  rw [show mk (fun q => u q && !u q) n = mk (fun _ => false) n from mk_ext (fun q _ => by cases u q <;> rfl), h0, hR.1] at a3
  omega
end DUAL
