/-! THE CLASS: a Veranda at cell v, what it says of itself -/
def VK (K : List (Nat × Nat)) (R : Nat → Nat → Option Nat) (v : Nat) : Prop := K[v]? = some (10, 16) ∧ K[v + 1]? = some (23, 6) ∧ K[v + 2]? = some (20, 6) ∧ K[v + 3]? = some (20, 6) ∧ K[v + 4]? = some (20, 6) ∧ K[v + 5]? = some (20, 6) ∧ K[v + 6]? = some (20, 6) ∧ K[v + 7]? = some (20, 24) ∧ K[v + 8]? = some (20, 6) ∧ R v 0 = some (v + 1) ∧ R v 1 = some (v + 2) ∧ R v 2 = some (v + 3) ∧ R v 3 = some (v + 4) ∧ R v 4 = some (v + 5) ∧ R v 5 = some (v + 6) ∧ R v 6 = some (v + 7) ∧ R v 7 = some (v + 8)
theorem VK0 (T : List (Nat × Nat)) (G : Nat → Nat → Option Nat) {v : Nat} (hv : v = 1 ∨ v = 23 ∨ v = 46 ∨ v = 64 ∨ v = 78 ∨ v = 92 ∨ v = 106 ∨ v = 120) : VK (K0 ++ T) (RS G) v := by
  rcases hv with rfl | rfl | rfl | rfl | rfl | rfl | rfl | rfl <;> exact ⟨rfl, rfl, rfl, rfl, rfl, rfl, rfl, rfl, rfl, rfl, rfl, rfl, rfl, rfl, rfl, rfl, rfl⟩
/-- the Veranda at v is as the row s says -/
def VM (I : Nat → Nat → Int32) (v : Nat) (s : Nat → Int32) (n : Nat) : Prop := I v 8 = nI n ∧ I v 9 = nI (mk (sett s) n) ∧ I v 10 = nI (mk (shel s) n) ∧ I v 11 = s 1 ∧ I v 12 = s 0 ∧ (∀ p, p < n → I (v + 2) p = s (33 + p)) ∧ (∀ p, p < n → I (v + 3) p = s (39 + p)) ∧ (∀ p, p < n → I (v + 4) p = s (2 + p)) ∧ (∀ p, p < n → I (v + 5) p = s (8 + p)) ∧ (∀ p, p < n → I (v + 6) p = s (69 + p)) ∧ (∀ p k, p < n → k < 4 → I (v + 7) (4 * p + k) = s (45 + 4 * p + k))
section VERA
variable {X : Nat × (Nat → Int32)} {d : Nat} {K : List (Nat × Nat)} {I : Nat → Nat → Int32} {R : Nat → Nat → Option Nat} {s : Nat → Int32} {n p v : Nat}
theorem c_isSettled (hK : VK K R v) (hM : VM I v s n) (hn : n ≤ 6) (hp : p < n) : Ev X d kX10_isSettled 0 (ent kX10_isSettled [.ref v, .int (nI p)]) [] (K, I, R) (some (.int (bI (sett s p))), (K, I, R)) := by
  obtain ⟨k0, k1, k2, k3, k4, k5, k6, k7, k8, r0, r1, r2, r3, r4, r5, r6, r7⟩ := hK
  obtain ⟨v8, v9, v10, v11, v12, vk, vv, va, vt, vh, vr⟩ := hM
  iterate 1 refine Ev.p rfl rfl ?_
  refine Ev.gi (by rfl) (by rfl) (by assumption) (by rfl) (by assumption) ?_
  iterate 4 refine Ev.p rfl rfl ?_
  rw [mk_sr _ hn hp]
  cases sett s p <;> ((repeat refine Ev.p rfl rfl ?_); exact Ev.r rfl)
theorem c_unsettledOnes (hK : VK K R v) (hM : VM I v s n) (hn : n ≤ 6) : Ev X d kX10_unsettledOnes 0 (ent kX10_unsettledOnes [.ref v]) [] (K, I, R) (some (.int (nI (mk (fun q => !sett s q) n))), (K, I, R)) := by
  obtain ⟨k0, k1, k2, k3, k4, k5, k6, k7, k8, r0, r1, r2, r3, r4, r5, r6, r7⟩ := hK
  obtain ⟨v8, v9, v10, v11, v12, vk, vv, va, vt, vh, vr⟩ := hM
  rw [← uns_mk s hn]
  ((repeat (first | refine Ev.p rfl rfl ?_ | refine Ev.gr (by rfl) (by rfl) (by assumption) (by rfl) (by assumption) ?_ | refine Ev.gi (by rfl) (by rfl) (by assumption) (by rfl) (by assumption) ?_)); exact Ev.r rfl)
theorem c_openOnes (hK : VK K R v) (hM : VM I v s n) (hn : n ≤ 6) : Ev X (d + 1) kX10_openOnes 0 (ent kX10_openOnes [.ref v]) [] (K, I, R) (some (.int (nI (mk (fun q => !sett s q && !shel s q) n))), (K, I, R)) := by
  have h1 := c_unsettledOnes (X := X) (d := d) hK hM hn
  obtain ⟨k0, k1, k2, k3, k4, k5, k6, k7, k8, r0, r1, r2, r3, r4, r5, r6, r7⟩ := hK
  obtain ⟨v8, v9, v10, v11, v12, vk, vv, va, vt, vh, vr⟩ := hM
  rw [← opn_mk s hn]
  (repeat (first | refine Ev.p rfl rfl ?_ | refine Ev.gr (by rfl) (by rfl) (by assumption) (by rfl) (by assumption) ?_ | refine Ev.gi (by rfl) (by rfl) (by assumption) (by rfl) (by assumption) ?_))
  refine Ev.cv (by rfl) (by rfl) (by assumption) (by rfl) (by rfl) (by rfl) (by rfl) (by rfl) h1 ?_
  ((repeat (first | refine Ev.p rfl rfl ?_ | refine Ev.gr (by rfl) (by rfl) (by assumption) (by rfl) (by assumption) ?_ | refine Ev.gi (by rfl) (by rfl) (by assumption) (by rfl) (by assumption) ?_)); exact Ev.r rfl)
theorem c_isReady (hK : VK K R v) (hM : VM I v s n) (hn : n ≤ 6) (hS : SF s n) (hp : p < n) : Ev X (d + 2) kX10_isReady 0 (ent kX10_isReady [.ref v, .int (nI p)]) [] (K, I, R) (some (.int (bI (rRd s n p))), (K, I, R)) := by
  have h1 := c_openOnes (X := X) (d := d) hK hM hn
  obtain ⟨k0, k1, k2, k3, k4, k5, k6, k7, k8, r0, r1, r2, r3, r4, r5, r6, r7⟩ := hK
  obtain ⟨v8, v9, v10, v11, v12, vk, vv, va, vt, vh, vr⟩ := hM
  unfold rRd
  rw [rOp_b hS (by omega)]
  (repeat (first | refine Ev.p rfl rfl ?_ | refine Ev.gr (by rfl) (by rfl) (by assumption) (by rfl) (by assumption) ?_ | refine Ev.gi (by rfl) (by rfl) (by assumption) (by rfl) (by assumption) ?_))
  refine Ev.cv (by rfl) (by rfl) (by assumption) (by rfl) (by rfl) (by rfl) (by rfl) (by rfl) h1 ?_
  iterate 4 refine Ev.p rfl rfl ?_
  rw [mk_sr _ hn hp]
  cases ho : (!sett s p && !shel s p) with
  | false =>
    ((repeat refine Ev.p rfl rfl ?_); exact Ev.r rfl)
  | true =>
    (repeat (first | refine Ev.p rfl rfl ?_ | refine Ev.gr (by rfl) (by rfl) (by assumption) (by rfl) (by assumption) ?_ | refine Ev.gi (by rfl) (by rfl) (by assumption) (by rfl) (by assumption) ?_))
    refine Ev.iald (j := p) (by rfl) (by assumption) (by rfl) (by omega) (by omega) ?_
    rw [vh p hp]
    iterate 1 refine Ev.p rfl rfl ?_
    refine Ev.gi (by rfl) (by rfl) (by assumption) (by rfl) (by assumption) ?_
    iterate 3 refine Ev.p rfl rfl ?_
    rw [wai_mk hn hS (by omega)]
    (repeat refine Ev.p rfl rfl ?_)
    refine Ev.bp rfl (fun c => ?_) (fun c => ?_)
    · rw [decide_eq_false c]
      ((repeat refine Ev.p rfl rfl ?_); exact Ev.r rfl)
    · rw [decide_eq_true (Decidable.not_not.mp c)]
      ((repeat refine Ev.p rfl rfl ?_); exact Ev.r rfl)
theorem c_readyOnes (hK : VK K R v) (hM : VM I v s n) (hn : n ≤ 6) (hS : SF s n) : Ev X (d + 3) kX10_readyOnes 0 (ent kX10_readyOnes [.ref v]) [] (K, I, R) (some (.int (rRO s n n)), (K, I, R)) := by
  have hr := fun q (hq : q < n) => c_isReady (X := X) (d := d) (p := q) hK hM hn hS hq
  obtain ⟨k0, k1, k2, k3, k4, k5, k6, k7, k8, r0, r1, r2, r3, r4, r5, r6, r7⟩ := hK
  obtain ⟨v8, v9, v10, v11, v12, vk, vv, va, vt, vh, vr⟩ := hM
  have lp : ∀ m q, q + m = n → Ev X (d + 3) kX10_readyOnes 4 [some (.ref v), some (.int (rRO s n q)), some (.int (nI q))] [] (K, I, R) (some (.int (rRO s n n)), (K, I, R)) := by
    intro m
    induction m with
    | zero =>
      intro q hq
      have e : q = n := by omega
      subst e
      (repeat (first | refine Ev.p rfl rfl ?_ | refine Ev.gr (by rfl) (by rfl) (by assumption) (by rfl) (by assumption) ?_ | refine Ev.gi (by rfl) (by rfl) (by assumption) (by rfl) (by assumption) ?_))
      refine Ev.bp rfl (fun c => ?_) (fun c => ?_)
      · ((repeat refine Ev.p rfl rfl ?_); exact Ev.r rfl)
      · exact absurd (Int32.le_refl _) c
    | succ m ih =>
      intro q hq
      have h9 := ih (q + 1) (by omega)
      rw [nI_succ] at h9
      (repeat (first | refine Ev.p rfl rfl ?_ | refine Ev.gr (by rfl) (by rfl) (by assumption) (by rfl) (by assumption) ?_ | refine Ev.gi (by rfl) (by rfl) (by assumption) (by rfl) (by assumption) ?_))
      refine Ev.bp rfl (fun c => ?_) (fun c => ?_)
      · exact absurd c (nI_ge (by omega) (by omega))
      · (repeat (first | refine Ev.p rfl rfl ?_ | refine Ev.gr (by rfl) (by rfl) (by assumption) (by rfl) (by assumption) ?_ | refine Ev.gi (by rfl) (by rfl) (by assumption) (by rfl) (by assumption) ?_))
        refine Ev.cv (by rfl) (by rfl) (by assumption) (by rfl) (by rfl) (by rfl) (by rfl) (by rfl) (hr q (by omega)) ?_
        simp only [rRO] at h9
        cases hb : rRd s n q with
        | true =>
          rw [hb, if_pos rfl] at h9
          (repeat (first | (refine Ev.at (q := 4) rfl ?_; exact h9) | refine Ev.p rfl rfl ?_))
        | false =>
          rw [hb, if_neg (by decide), or_0] at h9
          (repeat (first | (refine Ev.at (q := 4) rfl ?_; exact h9) | refine Ev.p rfl rfl ?_))
  have h9 := lp n 0 (by omega)
  (repeat (first | (refine Ev.at (q := 4) rfl ?_; exact h9) | refine Ev.p rfl rfl ?_))
end VERA
