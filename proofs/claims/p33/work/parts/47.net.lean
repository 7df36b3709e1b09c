/-! THE CLASS: nets, rings -/
theorem cnt_or (g h : Nat → Bool) : ∀ n, (mk (fun q => g q || h q) n = mk g n ∧ cnt (fun q => g q || h q) n = cnt g n) ∨ cnt g n < cnt (fun q => g q || h q) n := by
  intro n
  induction n with
  | zero => exact Or.inl ⟨rfl, rfl⟩
  | succ n ih =>
    show (mk _ n + (if (g n || h n) = true then 2 ^ n else 0) = mk g n + (if g n = true then 2 ^ n else 0) ∧ cnt _ n + (if (g n || h n) = true then 1 else 0) = cnt g n + (if g n = true then 1 else 0)) ∨ cnt g n + (if g n = true then 1 else 0) < cnt _ n + (if (g n || h n) = true then 1 else 0)
    cases g n <;> cases h n <;> simp <;> omega
theorem pass_mk {s : Nat → Int32} {n : Nat} (hn : n ≤ 6) (hS : SF s n) (f : Nat → Bool) : ∀ q, q ≤ n → ∃ g : Nat → Bool, rNi s n (nI (mk f n)) q = nI (mk g n) ∧ (mk g n = mk f n ∧ cnt g n = cnt f n ∨ cnt f n < cnt g n) := by
  intro q
  induction q with
  | zero => intro _; exact ⟨f, rfl, Or.inl ⟨rfl, rfl⟩⟩
  | succ q ih =>
    intro hq
    obtain ⟨g, h1, h2⟩ := ih (by omega)
    show ∃ g', rNi s n (nI (mk f n)) q ||| (if ((rNi s n (nI (mk f n)) q >>> (nI q &&& 31)) &&& 1) = 1 then rW s q n else 0) = nI (mk g' n) ∧ _
    rw [h1]
    by_cases hb : ((nI (mk g n) >>> (nI q &&& 31)) &&& 1) = 1
    · rw [if_pos hb, rW_mk hn hS (by omega) n hn, mk_or _ _ hn]
      refine ⟨_, rfl, ?_⟩
      have h3 := cnt_or g (fun q_1 => tieB s q q_1 && !sett s q_1) n
      rcases h2 with h2 | h2 <;> rcases h3 with h3 | h3
      · exact Or.inl ⟨h3.1.trans h2.1, h3.2.trans h2.2⟩
      · right; omega
      · right; omega
      · right; omega
    · rw [if_neg hb, or_0]
      exact ⟨g, rfl, h2⟩
theorem rNo_mk {s : Nat → Int32} {n p : Nat} (hn : n ≤ 6) (hS : SF s n) (hp : p < 6) : ∀ k, ∃ f : Nat → Bool, rNo s n p k = nI (mk f n) ∧ (1 ≤ cnt (fun q => tieB s p q && !sett s q) n → (∃ j, j < k ∧ rNo s n p (j + 1) = rNo s n p j) ∨ k + 1 ≤ cnt f n) := by
  intro k
  induction k with
  | zero => exact ⟨_, rW_mk hn hS hp n hn, fun h => Or.inr h⟩
  | succ k ih =>
    obtain ⟨f, h1, h2⟩ := ih
    obtain ⟨g, h3, h4⟩ := pass_mk hn hS f n (Nat.le_refl _)
    have e : rNo s n p (k + 1) = nI (mk g n) := by
      show rNi s n (rNo s n p k) n = _
      rw [h1, h3]
    refine ⟨g, e, fun h => ?_⟩
    rcases h2 h with ⟨j, hj, e2⟩ | h5
    · exact Or.inl ⟨j, by omega, e2⟩
    · rcases h4 with h4 | h4
      · exact Or.inl ⟨k, by omega, by rw [e, h1, h4.1]⟩
      · exact Or.inr (by omega)
theorem rNo_st {s : Nat → Int32} {n p j : Nat} (h : rNo s n p (j + 1) = rNo s n p j) : ∀ k, j ≤ k → rNo s n p k = rNo s n p j := by
  intro k hk
  obtain ⟨m, rfl⟩ := Nat.exists_eq_add_of_le hk
  induction m with
  | zero => rfl
  | succ m ih =>
    show rNi s n (rNo s n p (j + m)) n = _
    rw [ih (by omega)]
    exact h
theorem rNi_0 (s : Nat → Int32) (n : Nat) : ∀ q, q ≤ 6 → rNi s n 0 q = 0 := by
  intro q
  induction q with
  | zero => intro _; rfl
  | succ q ih =>
    intro hq
    show rNi s n 0 q ||| _ = 0
    rw [ih (by omega), if_neg (by
      rcases (by omega : q = 0 ∨ q = 1 ∨ q = 2 ∨ q = 3 ∨ q = 4 ∨ q = 5) with rfl | rfl | rfl | rfl | rfl | rfl <;> decide), or_0]
theorem cnt_0 (f : Nat → Bool) : ∀ n, cnt f n = 0 → mk f n = 0 := by
  intro n
  induction n with
  | zero => intro _; rfl
  | succ n ih =>
    intro h
    have h : cnt f n + (if f n = true then 1 else 0) = 0 := h
    show mk f n + (if f n = true then 2 ^ n else 0) = 0
    by_cases hf : f n = true
    · rw [if_pos hf] at h; omega
    · rw [if_neg hf] at h ⊢
      rw [ih (by omega)]
/-- a net needs no more rounds than there are others -/
theorem rNo_n {s : Nat → Int32} {n p : Nat} (hn : n ≤ 6) (hS : SF s n) (hp : p < n) : rNo s n p (n - 1) = rNet s n p := by
  show _ = rNo s n p 6
  by_cases h0 : 1 ≤ cnt (fun q => tieB s p q && !sett s q) n
  · obtain ⟨f, h1, h2⟩ := rNo_mk hn hS (by omega : p < 6) n
    rcases h2 h0 with ⟨j, hj, e⟩ | h3
    · rw [rNo_st e (n - 1) (by omega), rNo_st e 6 (by omega)]
    · have := cnt_le f n
      omega
  · have e0 : rNo s n p 0 = 0 := by
      show rW s p n = 0
      rw [rW_mk hn hS (by omega) n hn, cnt_0 _ n (by omega)]
      rfl
    have e1 : rNo s n p (0 + 1) = rNo s n p 0 := by
      show rNi s n (rNo s n p 0) n = rNo s n p 0
      rw [e0, rNi_0 s n n hn]
    rw [rNo_st e1 (n - 1) (by omega), rNo_st e1 6 (by omega)]
section NET
variable {X : Nat × (Nat → Int32)} {d : Nat} {K : List (Nat × Nat)} {I : Nat → Nat → Int32} {R : Nat → Nat → Option Nat} {s : Nat → Int32} {n p v : Nat}
theorem c_netOf (hK : VK K R v) (hM : VM I v s n) (hn : n ≤ 6) (hS : SF s n) (hp : p < n) : Ev X (d + 1) kX10_netOf 0 (ent kX10_netOf [.ref v, .int (nI p)]) [] (K, I, R) (some (.int (rNet s n p)), (K, I, R)) := by
  have h1 := c_unsettledOnes (X := X) (d := d) hK hM hn
  obtain ⟨k0, k1, k2, k3, k4, k5, k6, k7, k8, r0, r1, r2, r3, r4, r5, r6, r7⟩ := hK
  obtain ⟨v8, v9, v10, v11, v12, vk, vv, va, vt, vh, vr⟩ := hM
  obtain ⟨U, hU⟩ : ∃ U, U = nI (mk (fun q => !sett s q) n) := ⟨_, rfl⟩
  have hw : ∀ q, q < n → s (69 + q) &&& U = rW s q n := fun q hq => by rw [hU]; exact wau_mk hn hS (by omega)
  rw [← hU] at h1
  have li : ∀ m q k, q + m = n → (Ev X (d + 1) kX10_netOf 66 [some (.ref v), some (.int (nI p)), some (.int U), some (.int (rNi s n (rNo s n p k) n)), some (.int (nI (k + 1))), some (.int (nI n))] [] (K, I, R) (some (.int (rNet s n p)), (K, I, R))) → Ev X (d + 1) kX10_netOf 29 [some (.ref v), some (.int (nI p)), some (.int U), some (.int (rNi s n (rNo s n p k) q)), some (.int (nI (k + 1))), some (.int (nI q))] [] (K, I, R) (some (.int (rNet s n p)), (K, I, R)) := by
    intro m
    induction m with
    | zero =>
      intro q k hq h9
      have e : q = n := by omega
      subst e
      (repeat (first | refine Ev.p rfl rfl ?_ | refine Ev.gr (by rfl) (by rfl) (by assumption) (by rfl) (by assumption) ?_ | refine Ev.gi (by rfl) (by rfl) (by assumption) (by rfl) (by assumption) ?_))
      refine Ev.bp rfl (fun c => ?_) (fun c => ?_)
      · exact h9
      · exact absurd (Int32.le_refl _) c
    | succ m ih =>
      intro q k hq h9
      have h8 := ih (q + 1) k (by omega) h9
      rw [nI_succ q] at h8
      (repeat (first | refine Ev.p rfl rfl ?_ | refine Ev.gr (by rfl) (by rfl) (by assumption) (by rfl) (by assumption) ?_ | refine Ev.gi (by rfl) (by rfl) (by assumption) (by rfl) (by assumption) ?_))
      refine Ev.bp rfl (fun c => ?_) (fun c => ?_)
      · exact absurd c (nI_ge (by omega) (by omega))
      · (repeat refine Ev.p rfl rfl ?_)
        refine Ev.bp rfl (fun c2 => ?_) (fun c2 => ?_)
        · simp only [rNi, if_neg c2, or_0] at h8
          (repeat (first | (refine Ev.at (q := 29) rfl ?_; exact h8) | refine Ev.p rfl rfl ?_))
        · simp only [rNi, if_pos (Decidable.not_not.mp c2)] at h8
          rw [← hw q (by omega)] at h8
          (repeat (first | refine Ev.p rfl rfl ?_ | refine Ev.gr (by rfl) (by rfl) (by assumption) (by rfl) (by assumption) ?_ | refine Ev.gi (by rfl) (by rfl) (by assumption) (by rfl) (by assumption) ?_))
          refine Ev.iald (j := q) (by rfl) (by assumption) (by rfl) (by omega) (by omega) ?_
          rw [vh q (by omega)]
          (repeat (first | (refine Ev.at (q := 29) rfl ?_; exact h8) | refine Ev.p rfl rfl ?_))
  have lo : ∀ m k, k + m = n - 1 → ∀ y : Option Value, Ev X (d + 1) kX10_netOf 17 [some (.ref v), some (.int (nI p)), some (.int U), some (.int (rNo s n p k)), some (.int (nI (k + 1))), y] [] (K, I, R) (some (.int (rNet s n p)), (K, I, R)) := by
    intro m
    induction m with
    | zero =>
      intro k hk y
      have e : k = n - 1 := by omega
      subst e
      rw [rNo_n hn hS hp, show n - 1 + 1 = n by omega]
      (repeat (first | refine Ev.p rfl rfl ?_ | refine Ev.gr (by rfl) (by rfl) (by assumption) (by rfl) (by assumption) ?_ | refine Ev.gi (by rfl) (by rfl) (by assumption) (by rfl) (by assumption) ?_))
      refine Ev.bp rfl (fun c => ?_) (fun c => ?_)
      · ((repeat refine Ev.p rfl rfl ?_); exact Ev.r rfl)
      · exact absurd (Int32.le_refl _) c
    | succ m ih =>
      intro k hk y
      have h9 := ih (k + 1) (by omega) (some (.int (nI n)))
      rw [nI_succ (k + 1)] at h9
      have h8 := li n 0 k (by omega) (by (repeat (first | (refine Ev.at (q := 17) rfl ?_; exact h9) | refine Ev.p rfl rfl ?_)))
      (repeat (first | refine Ev.p rfl rfl ?_ | refine Ev.gr (by rfl) (by rfl) (by assumption) (by rfl) (by assumption) ?_ | refine Ev.gi (by rfl) (by rfl) (by assumption) (by rfl) (by assumption) ?_))
      refine Ev.bp rfl (fun c => ?_) (fun c => ?_)
      · exact absurd c (nI_ge (by omega) (by omega))
      · (repeat (first | (refine Ev.at (q := 29) rfl ?_; exact h8) | refine Ev.p rfl rfl ?_))
  have h9 := lo (n - 1) 0 (by omega) none
  (repeat (first | refine Ev.p rfl rfl ?_ | refine Ev.gr (by rfl) (by rfl) (by assumption) (by rfl) (by assumption) ?_ | refine Ev.gi (by rfl) (by rfl) (by assumption) (by rfl) (by assumption) ?_))
  refine Ev.cv (by rfl) (by rfl) (by assumption) (by rfl) (by rfl) (by rfl) (by rfl) (by rfl) h1 ?_
  (repeat (first | refine Ev.p rfl rfl ?_ | refine Ev.gr (by rfl) (by rfl) (by assumption) (by rfl) (by assumption) ?_ | refine Ev.gi (by rfl) (by rfl) (by assumption) (by rfl) (by assumption) ?_))
  refine Ev.iald (j := p) (by rfl) (by assumption) (by rfl) (by omega) (by omega) ?_
  rw [vh p hp]
  iterate 2 refine Ev.p rfl rfl ?_
  rw [hw p hp]
  (repeat (first | (refine Ev.at (q := 17) rfl ?_; exact h9) | refine Ev.p rfl rfl ?_))
theorem c_ring (hK : VK K R v) (hM : VM I v s n) (hn : n ≤ 6) (hS : SF s n) : Ev X (d + 2) kX10_ring 0 (ent kX10_ring [.ref v]) [] (K, I, R) (some (.int (rRing s n n)), (K, I, R)) := by
  have hr := fun q (hq : q < n) => c_netOf (X := X) (d := d) (p := q) hK hM hn hS hq
  obtain ⟨k0, k1, k2, k3, k4, k5, k6, k7, k8, r0, r1, r2, r3, r4, r5, r6, r7⟩ := hK
  obtain ⟨v8, v9, v10, v11, v12, vk, vv, va, vt, vh, vr⟩ := hM
  have l2 : ∀ m q, q + m = n → Ev X (d + 2) kX10_ring 34 [some (.ref v), some (.int (rIn s n n)), some (.int (rRing s n q)), some (.int (nI q))] [] (K, I, R) (some (.int (rRing s n n)), (K, I, R)) := by
    intro m
    induction m with
    | zero =>
      intro q hq
      have e : q = n := by omega
      subst e
      (repeat (first | refine Ev.p rfl rfl ?_ | refine Ev.gr (by rfl) (by rfl) (by assumption) (by rfl) (by assumption) ?_ | refine Ev.gi (by rfl) (by rfl) (by assumption) (by rfl) (by assumption) ?_))
      refine Ev.bp rfl (fun c => ?_) (fun c => ?_)
      · ((repeat refine Ev.p rfl rfl ?_); exact Ev.r rfl)
      · exact absurd (Int32.le_refl _) c
    | succ m ih =>
      intro q hq
      have h9 := ih (q + 1) (by omega)
      rw [nI_succ] at h9
      (repeat (first | refine Ev.p rfl rfl ?_ | refine Ev.gr (by rfl) (by rfl) (by assumption) (by rfl) (by assumption) ?_ | refine Ev.gi (by rfl) (by rfl) (by assumption) (by rfl) (by assumption) ?_))
      refine Ev.bp rfl (fun c => ?_) (fun c => ?_)
      · exact absurd c (nI_ge (by omega) (by omega))
      · (repeat (first | refine Ev.p rfl rfl ?_ | refine Ev.gr (by rfl) (by rfl) (by assumption) (by rfl) (by assumption) ?_ | refine Ev.gi (by rfl) (by rfl) (by assumption) (by rfl) (by assumption) ?_))
        refine Ev.cv (by rfl) (by rfl) (by assumption) (by rfl) (by rfl) (by rfl) (by rfl) (by rfl) (hr q (by omega)) ?_
        (repeat (first | refine Ev.p rfl rfl ?_ | refine Ev.gr (by rfl) (by rfl) (by assumption) (by rfl) (by assumption) ?_ | refine Ev.gi (by rfl) (by rfl) (by assumption) (by rfl) (by assumption) ?_))
        refine Ev.bp rfl (fun c2 => ?_) (fun c2 => ?_)
        · simp only [rRing, if_pos c2, or_0] at h9
          (repeat (first | (refine Ev.at (q := 34) rfl ?_; exact h9) | refine Ev.p rfl rfl ?_))
        · simp only [rRing, if_neg c2] at h9
          (repeat (first | (refine Ev.at (q := 34) rfl ?_; exact h9) | refine Ev.p rfl rfl ?_))
  have l1 : ∀ m q, q + m = n → Ev X (d + 2) kX10_ring 4 [some (.ref v), some (.int (rIn s n q)), some (.int (nI q)), none] [] (K, I, R) (some (.int (rRing s n n)), (K, I, R)) := by
    intro m
    induction m with
    | zero =>
      intro q hq
      have e : q = n := by omega
      subst e
      have h9 := l2 q 0 (by omega)
      (repeat (first | refine Ev.p rfl rfl ?_ | refine Ev.gr (by rfl) (by rfl) (by assumption) (by rfl) (by assumption) ?_ | refine Ev.gi (by rfl) (by rfl) (by assumption) (by rfl) (by assumption) ?_))
      refine Ev.bp rfl (fun c => ?_) (fun c => ?_)
      · (repeat (first | (refine Ev.at (q := 34) rfl ?_; exact h9) | refine Ev.p rfl rfl ?_))
      · exact absurd (Int32.le_refl _) c
    | succ m ih =>
      intro q hq
      have h9 := ih (q + 1) (by omega)
      rw [nI_succ] at h9
      (repeat (first | refine Ev.p rfl rfl ?_ | refine Ev.gr (by rfl) (by rfl) (by assumption) (by rfl) (by assumption) ?_ | refine Ev.gi (by rfl) (by rfl) (by assumption) (by rfl) (by assumption) ?_))
      refine Ev.bp rfl (fun c => ?_) (fun c => ?_)
      · exact absurd c (nI_ge (by omega) (by omega))
      · (repeat (first | refine Ev.p rfl rfl ?_ | refine Ev.gr (by rfl) (by rfl) (by assumption) (by rfl) (by assumption) ?_ | refine Ev.gi (by rfl) (by rfl) (by assumption) (by rfl) (by assumption) ?_))
        refine Ev.cv (by rfl) (by rfl) (by assumption) (by rfl) (by rfl) (by rfl) (by rfl) (by rfl) (hr q (by omega)) ?_
        (repeat (first | (refine Ev.at (q := 4) rfl ?_; exact h9) | refine Ev.p rfl rfl ?_))
  have h9 := l1 n 0 (by omega)
  (repeat (first | (refine Ev.at (q := 4) rfl ?_; exact h9) | refine Ev.p rfl rfl ?_))
end NET
