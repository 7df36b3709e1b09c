section ODDS3
variable {X : Nat × (Nat → Int32)} {d : Nat} {K : List (Nat × Nat)} {T : List (Nat × Nat)} {I : Nat → Nat → Int32} {R : Nat → Nat → Option Nat} {s : Nat → Int32} {n e : Nat} {hd : Option Nat} {cls : Cls} {l : List Int32} {im : Option Img} {kc km : Nat} {As : List Value}
theorem mk_cnt0 (f : Nat → Bool) : ∀ n, mk f n = 0 ↔ cnt f n = 0 := by
  intro n
  induction n with
  | zero => exact ⟨fun _ => rfl, fun _ => rfl⟩
  | succ q ih =>
    show mk f q + (if f q = true then 2 ^ q else 0) = 0 ↔ cnt f q + (if f q = true then 1 else 0) = 0
    have : 0 < 2 ^ q := Nat.two_pow_pos q
    by_cases h : f q = true
    · rw [if_pos h, if_pos h]; omega
    · rw [if_neg h, if_neg h]; omega
theorem rOp_so (h : r01 s) (h2 : ∀ q, q < 6 → s (20 + q) = 0 ∨ s (20 + q) = 1) {q : Nat} (hq : q < 6) : (!sett s q && !shel s q) = rOp s q := by
  unfold sett shel rOp
  rcases h q hq with a | a <;> rcases h2 q hq with b | b <;> rw [a, b] <;> rfl
theorem mm_cnt (h : r01 s) (h2 : ∀ q, q < 6 → s (20 + q) = 0 ∨ s (20 + q) = 1) : ∀ m, m ≤ 6 → cnt (fun q => !sett s q && !shel s q) m = rMm s m := by
  intro m
  induction m with
  | zero => intro _; rfl
  | succ q ih =>
    intro hq
    show cnt _ q + (if (!sett s q && !shel s q) = true then 1 else 0) = rMm s q + (if rOp s q = true then 1 else 0)
    rw [ih (by omega), rOp_so h h2 (by omega)]
theorem ms_le (ht : SX s) : ∀ q, q ≤ 6 → rMs s q ≤ 99 * q ∧ rMm s q ≤ q := by
  intro q
  induction q with
  | zero => intro _; exact ⟨Nat.le_refl _, Nat.le_refl _⟩
  | succ q ih =>
    intro hq
    obtain ⟨⟨t, ht1, ht2⟩, -⟩ := ht q (by omega)
    have := ih (by omega)
    show rMs s q + _ ≤ _ ∧ rMm s q + _ ≤ _
    rw [ht2, nI_clamp (by omega)]
    split <;> omega
theorem c_mean (hF : FX K R) (hG : GS s n hd cls e) (hVH : VH K I R 1 15 s n hd cls) (x : Int32) : (¬ (0 ≤ x ∧ x ≤ 1) ∨ rMm s n = 0 → Ev X 59 kX11_mean 0 (ent kX11_mean [.ref 0, .int x]) [] (K, I, R) (some (.long LNO), (K, I, R))) ∧ (∀ part, part ≤ 1 → x = nI part → 0 < rMm s n → Ev X 59 kX11_mean 0 (ent kX11_mean [.ref 0, .int x]) [] (K, I, R) (some (.long (rGcd part (rMs s n) (rMm s n))), (K, I, R))) := by
  have hV := hVH.1
  have hn6 := hG.2.1.1
  have hS := hG.2.1.2.1
  have hX := hG.2.1.2.2.1
  have ho := c_openOnes (X := X) (d := 57) (K := K) (I := I) (R := R) (s := s) hF.2.2.2.2.2.2.2.1 hV.2.1 hn6
  obtain ⟨f0, f1, f2, f3, f4, f5, f6, fv1, fv2, fv3, fh1, fh2, f7, f8, f9, f10, f11, f12⟩ := hF
  obtain ⟨k0, k1, k2, k3, k4, k5, k6, k7, k8, r0, r1, r2, r3, r4, r5, r6, r7⟩ := id fv1
  obtain ⟨v8, v9, v10, v11, v12, vk, vv, va, vt, vh, vr⟩ := hV.2.1
  have hmm := mm_cnt hS.1 hS.2.1 n hn6
  have hle := ms_le hX n hn6
  have hb := fun h => j_bitCount (X := X) (d := 58) h (mk_64 (fun q => !sett s q && !shel s q) hn6)
  have h0 := mk_cnt0 (fun q => !sett s q && !shel s q) n
  have hmk := mk_64 (fun q => !sett s q && !shel s q) hn6
  rw [rC_mk _ hn6, hmm] at hb
  rw [hmm] at h0
  refine ⟨fun h => ?_, fun part hp ex hpos => ?_⟩
  · by_cases h1 : 0 ≤ x ∧ x ≤ 1
    · have hz := h0.mpr (h.resolve_left (fun g => g h1))
      rw [hz] at ho
      (repeat (first | refine Ev.p rfl rfl ?_ | refine Ev.gr (by rfl) (by rfl) (by assumption) (by rfl) (by assumption) ?_ | refine Ev.gi (by rfl) (by rfl) (by assumption) (by rfl) (by assumption) ?_))
      refine Ev.cv (by rfl) (by rfl) (by assumption) (by rfl) (by rfl) (by rfl) (by rfl) (by rfl) ho ?_
      (repeat (first | refine Ev.p rfl rfl ?_ | refine Ev.gr (by rfl) (by rfl) (by assumption) (by rfl) (by assumption) ?_ | refine Ev.gi (by rfl) (by rfl) (by assumption) (by rfl) (by assumption) ?_))
      refine Ev.c rfl ((c_isP _ x).1 h1) ?_
      ((repeat refine Ev.p rfl rfl ?_); exact Ev.r rfl)
    · (repeat (first | refine Ev.p rfl rfl ?_ | refine Ev.gr (by rfl) (by rfl) (by assumption) (by rfl) (by assumption) ?_ | refine Ev.gi (by rfl) (by rfl) (by assumption) (by rfl) (by assumption) ?_))
      refine Ev.cv (by rfl) (by rfl) (by assumption) (by rfl) (by rfl) (by rfl) (by rfl) (by rfl) ho ?_
      (repeat (first | refine Ev.p rfl rfl ?_ | refine Ev.gr (by rfl) (by rfl) (by assumption) (by rfl) (by assumption) ?_ | refine Ev.gi (by rfl) (by rfl) (by assumption) (by rfl) (by assumption) ?_))
      refine Ev.c rfl ((c_isP _ x).2 h1) ?_
      ((repeat refine Ev.p rfl rfl ?_); exact Ev.r rfl)
  · subst ex
    have hx : 0 ≤ nI part ∧ nI part ≤ 1 := ⟨nI_pos' (by omega), nI_le (b := 1) hp (by omega)⟩
    have hu : 0 < mk (fun q => !sett s q && !shel s q) n := by
      rcases Nat.eq_zero_or_pos (mk (fun q => !sett s q && !shel s q) n) with g | g
      · exact absurd (h0.mp g) (by omega)
      · exact g
    have hlow := c_low (X := X) (d := 57) (K, I, R) (a := rMs s n) (b := rMm s n) (part := part) (by omega) hpos (by omega) hp
    have lp : ∀ m q, q + m = n → Ev X 59 kX11_mean 28 [some (.ref 0), some (.int (nI part)), some (.int (nI (mk (fun q => !sett s q && !shel s q) n))), some (.int (nI (rMs s q))), some (.int (nI q))] [] (K, I, R) (some (.long (rGcd part (rMs s n) (rMm s n))), (K, I, R)) := by
      intro m
      induction m with
      | zero =>
        intro q hq
        have e : q = n := by omega
        subst e
        (repeat (first | refine Ev.p rfl rfl ?_ | refine Ev.gr (by rfl) (by rfl) (by assumption) (by rfl) (by assumption) ?_ | refine Ev.gi (by rfl) (by rfl) (by assumption) (by rfl) (by assumption) ?_))
        refine Ev.bp rfl (fun c => ?_) (fun c => ?_)
        · (repeat (first | refine Ev.p rfl rfl ?_ | refine Ev.gr (by rfl) (by rfl) (by assumption) (by rfl) (by assumption) ?_ | refine Ev.gi (by rfl) (by rfl) (by assumption) (by rfl) (by assumption) ?_))
          refine Ev.c rfl (hb _) ?_
          (repeat (first | refine Ev.p rfl rfl ?_ | refine Ev.gr (by rfl) (by rfl) (by assumption) (by rfl) (by assumption) ?_ | refine Ev.gi (by rfl) (by rfl) (by assumption) (by rfl) (by assumption) ?_))
          refine Ev.c rfl hlow ?_
          ((repeat refine Ev.p rfl rfl ?_); exact Ev.r rfl)
        · exact absurd (nI_le (Nat.le_refl _) (by omega)) c
      | succ m ih =>
        intro q hq
        obtain ⟨⟨t, ht1, ht2⟩, -⟩ := hX q (by omega)
        have hf := rOp_so hS.1 hS.2.1 (q := q) (by omega)
        have hstep : nI (rMs s q) + bI (rOp s q) * s (8 + q) = nI (rMs s (q + 1)) := by
          show _ = nI (rMs s q + (if rOp s q = true then (s (8 + q)).toNatClampNeg else 0))
          rw [ht2, nI_clamp (by omega)]
          cases rOp s q
          · show nI (rMs s q) + 0 * nI t = _
            rw [Int32.zero_mul, Int32.add_zero]; rfl
          · show nI (rMs s q) + 1 * nI t = _
            rw [Int32.one_mul, nI_add]; rfl
        have g := ih (q + 1) (by omega)
        rw [← hstep, ← hf, nI_succ] at g
        (repeat (first | refine Ev.p rfl rfl ?_ | refine Ev.gr (by rfl) (by rfl) (by assumption) (by rfl) (by assumption) ?_ | refine Ev.gi (by rfl) (by rfl) (by assumption) (by rfl) (by assumption) ?_))
        refine Ev.bp rfl (fun c => ?_) (fun c => ?_)
        · exact absurd c (nI_ge (by omega) (by omega))
        · (repeat (first | refine Ev.p rfl rfl ?_ | refine Ev.gr (by rfl) (by rfl) (by assumption) (by rfl) (by assumption) ?_ | refine Ev.gi (by rfl) (by rfl) (by assumption) (by rfl) (by assumption) ?_))
          (refine Ev.iald (j := q) (by rfl) (by assumption) (by rfl) (by omega) (by omega) ?_; rw [vt q (by omega)])
          rw [mk_sr _ hn6 (by omega)]
          iterate 5 refine Ev.p rfl rfl ?_
          exact g
    (repeat (first | refine Ev.p rfl rfl ?_ | refine Ev.gr (by rfl) (by rfl) (by assumption) (by rfl) (by assumption) ?_ | refine Ev.gi (by rfl) (by rfl) (by assumption) (by rfl) (by assumption) ?_))
    refine Ev.cv (by rfl) (by rfl) (by assumption) (by rfl) (by rfl) (by rfl) (by rfl) (by rfl) ho ?_
    (repeat (first | refine Ev.p rfl rfl ?_ | refine Ev.gr (by rfl) (by rfl) (by assumption) (by rfl) (by assumption) ?_ | refine Ev.gi (by rfl) (by rfl) (by assumption) (by rfl) (by assumption) ?_))
    refine Ev.c rfl ((c_isP _ (nI part)).1 hx) ?_
    (repeat (first | refine Ev.p rfl rfl ?_ | refine Ev.gr (by rfl) (by rfl) (by assumption) (by rfl) (by assumption) ?_ | refine Ev.gi (by rfl) (by rfl) (by assumption) (by rfl) (by assumption) ?_))
    refine Ev.bp rfl (fun c => ?_) (fun c => ?_)
    · iterate 4 refine Ev.p rfl rfl ?_
      exact lp n 0 (by omega)
    · exact absurd (Decidable.not_not.mp c) (nI_ne0 hu (by omega))
end ODDS3
