/-! THE CLASS: what is told by hand; DUES, FIRM -/
def HK (K : List (Nat × Nat)) (R : Nat → Nat → Option Nat) (h : Nat) : Prop := K[h]? = some (3, 12) ∧ K[h + 1]? = some (21, 100) ∧ K[h + 2]? = some (20, 5) ∧ K[h + 3]? = some (20, 5) ∧ K[h + 4]? = some (20, 8) ∧ K[h + 5]? = some (20, 8) ∧ K[h + 6]? = some (20, 8) ∧ K[h + 7]? = some (20, 8) ∧ R h 0 = some (h + 1) ∧ R h 2 = some (h + 2) ∧ R h 3 = some (h + 3) ∧ R h 6 = some (h + 4) ∧ R h 7 = some (h + 5) ∧ R h 9 = some (h + 6) ∧ R h 10 = some (h + 7)
theorem HK0 (T : List (Nat × Nat)) (G : Nat → Nat → Option Nat) {h : Nat} (hh : h = 15 ∨ h = 37) : HK (K0 ++ T) (RS G) h := by
  rcases hh with rfl | rfl <;> exact ⟨rfl, rfl, rfl, rfl, rfl, rfl, rfl, rfl, rfl, rfl, rfl, rfl, rfl, rfl, rfl⟩
/-- which of SEEN are SETTLED then, as a set -/
def seeB (s : Nat → Int32) (k : Nat) : Bool := decide (s (85 + k) = 1)
/-- the Hand at h is as the row s says -/
def HM (I : Nat → Nat → Int32) (h : Nat) (s : Nat → Int32) : Prop := I h 1 = s 31 ∧ I h 5 = s 28 ∧ I h 8 = s 29 ∧ I h 11 = s 30 ∧ (∀ j, j < 100 → I (h + 1) j = s (122 + j)) ∧ (∀ k, k < 5 → I (h + 2) k = s (75 + k) ∧ I (h + 3) k = s (80 + k)) ∧ (∀ k, k < 8 → I (h + 4) k = s (90 + k) ∧ I (h + 5) k = s (98 + k) ∧ I (h + 6) k = s (106 + k) ∧ I (h + 7) k = s (114 + k)) ∧ I h 4 = nI (mk (seeB s) 5)
theorem seeB_0 {s : Nat → Int32} {k : Nat} (h : s (85 + k) = 0 ∨ s (85 + k) = 1) : s (85 + k) = bI (seeB s k) := by
  unfold seeB
  rcases h with h0 | h0 <;> rw [h0] <;> decide
theorem HK.rf {K : List (Nat × Nat)} {R R' : Nat → Nat → Option Nat} {h w : Nat} (hh : HK K R h) (hw : VK K R w) (hR : RF w R R') : HK K R' h := by
  have e : ∀ j, j < 14 → R' h j = R h j := fun j hj => hR h j (fun g => by
    have k := hh.1
    rw [g.1, hw.2.1] at k; cases k) (fun g => by omega)
  unfold HK at hh ⊢
  rw [e 0 (by omega), e 2 (by omega), e 3 (by omega), e 6 (by omega), e 7 (by omega), e 9 (by omega), e 10 (by omega)]
  exact hh
theorem HM.pw {K : List (Nat × Nat)} {R : Nat → Nat → Option Nat} {I I' : Nat → Nat → Int32} {h w : Nat} {s : Nat → Int32} (hh : HK K R h) (hw : VK K R w) (hM : HM I h s) (hI : FR (PW w) I I') : HM I' h s := by
  obtain ⟨k0, k1, k2, k3, k4, k5, k6, k7, -⟩ := hh
  unfold HM at hM ⊢
  rw [hI h (PW_no hw k0 (by omega)), hI (h + 1) (PW_no hw k1 (by omega)), hI (h + 2) (PW_no hw k2 (by omega)), hI (h + 3) (PW_no hw k3 (by omega)), hI (h + 4) (PW_no hw k4 (by omega)), hI (h + 5) (PW_no hw k5 (by omega)), hI (h + 6) (PW_no hw k6 (by omega)), hI (h + 7) (PW_no hw k7 (by omega))]
  exact hM
/-- what is SEEN, of n MATTERS -/
def SN (s : Nat → Int32) (n b : Nat) : Prop := s 28 = nI b ∧ b ≤ 5 ∧ ∀ k, k < b → (∃ p, p < n ∧ s (75 + k) = nI p) ∧ (∃ a, a ≤ 20 ∧ s (80 + k) = nI a) ∧ (s (85 + k) = 0 ∨ s (85 + k) = 1)
def lst (s : Nat → Int32) : Nat → Nat
  | 0 => 0
  | k + 1 => max (lst s k) (s (80 + k)).toNatClampNeg
theorem rAs_f {s u : Nat → Int32} {x : Int32} {k : Nat} (h : rAs s u x k = false) : ∀ b, k ≤ b → rAs s u x b = false := by
  intro b hb
  obtain ⟨m, rfl⟩ := Nat.exists_eq_add_of_le hb
  induction m with
  | zero => exact h
  | succ m ih =>
    show (rAs s u x (k + m) && _) = false
    rw [ih (by omega)]
    rfl
theorem lst_mo (s : Nat → Int32) : ∀ b k, k < b → (s (80 + k)).toNatClampNeg ≤ lst s b := by
  intro b
  induction b with
  | zero => intro k h; omega
  | succ b ih =>
    intro k hk
    show _ ≤ max (lst s b) _
    by_cases h : k = b
    · subst h; exact Nat.le_max_right _ _
    · exact Nat.le_trans (ih k (by omega)) (Nat.le_max_left _ _)
theorem lst_le {s : Nat → Int32} {n b : Nat} (h : SN s n b) : ∀ k, k ≤ b → lst s k ≤ 20 := by
  intro k
  induction k with
  | zero => intro _; show 0 ≤ 20; omega
  | succ k ih =>
    intro hk
    obtain ⟨-, ⟨a, ha, ea⟩, -⟩ := h.2.2 k (by omega)
    show max (lst s k) (s (80 + k)).toNatClampNeg ≤ 20
    rw [ea, nI_clamp (by omega)]
    have := ih (by omega)
    omega
/-- behind the last evening that is SEEN nothing is asked -/
theorem rAs_t {s : Nat → Int32} {n b : Nat} (h : SN s n b) (u : Nat → Int32) {k : Nat} (hk : lst s b < k) (hk2 : k < 100) : ∀ c, c ≤ b → rAs s u (nI k) c = true := by
  intro c
  induction c with
  | zero => intro _; rfl
  | succ c ih =>
    intro hc
    obtain ⟨-, ⟨a, ha, ea⟩, -⟩ := h.2.2 c (by omega)
    have h1 := lst_mo s b c (by omega)
    rw [ea, nI_clamp (by omega)] at h1
    show (rAs s u (nI k) c && (!decide (s (80 + c) = nI k) || _)) = true
    rw [ih (by omega), ea, decide_eq_false (fun g => by have := (nI_eq (by omega) (by omega)).mp g; omega)]
    rfl
theorem fa_cut {f : Nat → Bool} {m m' q : Nat} (h : ∀ k, q + m ≤ k → k < q + m' → f k = true) (hm : m ≤ m') : fa f m' q = fa f m q := by
  induction m generalizing q m' with
  | zero =>
    show fa f m' q = true
    induction m' generalizing q with
    | zero => rfl
    | succ m' ih =>
      show (f q && fa f m' (q + 1)) = true
      rw [h q (by omega) (by omega), ih (fun k h1 h2 => h k (by omega) (by omega)) (by omega)]
      rfl
  | succ m ih =>
    obtain ⟨z, rfl⟩ : ∃ z, m' = z + 1 := ⟨m' - 1, by omega⟩
    show (f q && fa f z (q + 1)) = (f q && fa f m (q + 1))
    rw [ih (fun k h1 h2 => h k (by omega) (by omega)) (by omega)]
theorem rAll_cut {s : Nat → Int32} {n b : Nat} (h : SN s n b) (cls : Cls) (du fd : Int32) : fa (fun k => rAs s (rOn s n cls du fd k) (nI k) b) (lst s b + 1) 0 = rAll s n cls du fd b := by
  refine (fa_cut (fun k h1 h2 => rAs_t h _ (by omega) (by omega) b (Nat.le_refl _)) ?_).symm
  have := lst_le h b (Nat.le_refl _)
  omega
section HAND
variable {X : Nat × (Nat → Int32)} {d : Nat} {K : List (Nat × Nat)} {I : Nat → Nat → Int32} {R : Nat → Nat → Option Nat} {s u : Nat → Int32} {n p v w o a e h b : Nat} {du fd : Int32} {cls : Cls}
theorem c_lastSeen (hh : HK K R h) (hM : HM I h s) (hs : SN s n b) : Ev X (d + 1) kX3_lastSeen 0 (ent kX3_lastSeen [.ref h]) [] (K, I, R) (some (.int (nI (lst s b))), (K, I, R)) := by
  obtain ⟨k0, k1, k2, k3, k4, k5, k6, k7, r0, r2, r3, r6, r7, r9, r10⟩ := hh
  obtain ⟨m1, m5, m8, m11, mt, ms, mp, m4⟩ := hM
  have hb5 := hs.2.1
  rw [hs.1] at m5
  have lp : ∀ m q, q + m = b → Ev X (d + 1) kX3_lastSeen 4 [some (.ref h), some (.int (nI (lst s q))), some (.int (nI q))] [] (K, I, R) (some (.int (nI (lst s b))), (K, I, R)) := by
    intro m
    induction m with
    | zero =>
      intro q hq
      have e : q = b := by omega
      subst e
      (repeat (first | refine Ev.p rfl rfl ?_ | refine Ev.gr (by rfl) (by rfl) (by assumption) (by rfl) (by assumption) ?_ | refine Ev.gi (by rfl) (by rfl) (by assumption) (by rfl) (by assumption) ?_))
      refine Ev.bp rfl (fun c => ?_) (fun c => ?_)
      · ((repeat refine Ev.p rfl rfl ?_); exact Ev.r rfl)
      · exact absurd (Int32.le_refl _) c
    | succ m ih =>
      intro q hq
      have g := ih (q + 1) (by omega)
      obtain ⟨-, ⟨a, ha, ea⟩, -⟩ := hs.2.2 q (by omega)
      have hl := lst_le hs q (by omega)
      have hmx := j_max (X := X) (d := d) (K, I, R) (nI (lst s q)) (nI a)
      have e2 : (if nI a ≤ nI (lst s q) then nI (lst s q) else nI a) = nI (lst s (q + 1)) := by
        show _ = nI (max (lst s q) (s (80 + q)).toNatClampNeg)
        rw [ea, nI_clamp (by omega)]
        by_cases h9 : a ≤ lst s q
        · rw [if_pos (nI_le h9 (by omega)), Nat.max_eq_left h9]
        · rw [if_neg (nI_ge (by omega) (by omega)), Nat.max_eq_right (by omega)]
      rw [e2] at hmx
      rw [nI_succ] at g
      (repeat (first | refine Ev.p rfl rfl ?_ | refine Ev.gr (by rfl) (by rfl) (by assumption) (by rfl) (by assumption) ?_ | refine Ev.gi (by rfl) (by rfl) (by assumption) (by rfl) (by assumption) ?_))
      refine Ev.bp rfl (fun c => ?_) (fun c => ?_)
      · exact absurd c (nI_ge (by omega) (by omega))
      · (repeat (first | refine Ev.p rfl rfl ?_ | refine Ev.gr (by rfl) (by rfl) (by assumption) (by rfl) (by assumption) ?_ | refine Ev.gi (by rfl) (by rfl) (by assumption) (by rfl) (by assumption) ?_))
        (refine Ev.iald (j := q) (by rfl) (by assumption) (by rfl) (by omega) (by omega) ?_; rw [(ms q (by omega)).2, ea])
        refine Ev.c rfl hmx ?_
        (repeat (first | (refine Ev.at (q := 4) rfl ?_; exact g) | refine Ev.p rfl rfl ?_))
  have g := lp b 0 (by omega)
  (repeat (first | (refine Ev.at (q := 4) rfl ?_; exact g) | refine Ev.p rfl rfl ?_))
theorem c_isSo (hh : HK K R h) (hM : HM I h s) (hs : SN s n b) (hK : VK K R w) (hV : VM I w u n) (hn : n ≤ 6) (h01 : r01 u) (x : Int32) : Ev X (d + 1) kX3_isSo 0 (ent kX3_isSo [.ref h, .ref w, .int x]) [] (K, I, R) (some (.int (bI (rAs s u x b))), (K, I, R)) := by
  have hset := fun p (hp : p < n) => c_isSettled (X := X) (d := d) hK hV hn hp
  obtain ⟨k0, k1, k2, k3, k4, k5, k6, k7, r0, r2, r3, r6, r7, r9, r10⟩ := hh
  obtain ⟨w0, -⟩ := hK
  obtain ⟨m1, m5, m8, m11, mt, ms, mp, m4⟩ := hM
  have hb5 := hs.2.1
  rw [hs.1] at m5
  have lp : ∀ m q (x5 : Option Value), q + m = b → rAs s u x q = true → Ev X (d + 1) kX3_isSo 2 [some (.ref h), some (.ref w), some (.int x), some (.int (nI q)), x5] [] (K, I, R) (some (.int (bI (rAs s u x b))), (K, I, R)) := by
    intro m
    induction m with
    | zero =>
      intro q x5 hq ht
      have e : q = b := by omega
      subst e
      rw [ht]
      (repeat (first | refine Ev.p rfl rfl ?_ | refine Ev.gr (by rfl) (by rfl) (by assumption) (by rfl) (by assumption) ?_ | refine Ev.gi (by rfl) (by rfl) (by assumption) (by rfl) (by assumption) ?_))
      refine Ev.bp rfl (fun c => ?_) (fun c => ?_)
      · ((repeat refine Ev.p rfl rfl ?_); exact Ev.r rfl)
      · exact absurd (Int32.le_refl _) c
    | succ m ih =>
      intro q x5 hq ht
      obtain ⟨⟨p, hp, ep⟩, ⟨a, ha, ea⟩, h85⟩ := hs.2.2 q (by omega)
      have e1 : rAs s u x (q + 1) = (!decide (s (80 + q) = x) || decide (u (14 + p) = s (85 + q))) := by
        show (rAs s u x q && (!decide (s (80 + q) = x) || decide (u (14 + (s (75 + q)).toNatClampNeg) = s (85 + q)))) = _
        rw [ht, ep, nI_clamp (by omega), Bool.true_and]
      have m80 := (ms q (by omega)).2
      have m75 := (ms q (by omega)).1
      have hsr := mk_sr (seeB s) (n := 5) (p := q) (by omega) (by omega)
      have hsp := hset p hp
      rw [← sett_0 h01 (by omega)] at hsp
      have start : ∀ (x5 : Option Value) (Z : Option Value × Hp), (s (80 + q) ≠ x → Ev X (d + 1) kX3_isSo 56 [some (.ref h), some (.ref w), some (.int x), some (.int (nI q)), some (.int (s (85 + q)))] [] (K, I, R) Z) → (s (80 + q) = x → Ev X (d + 1) kX3_isSo 39 [some (.ref h), some (.ref w), some (.int x), some (.int (nI q)), some (.int (s (85 + q)))] [] (K, I, R) Z) → Ev X (d + 1) kX3_isSo 2 [some (.ref h), some (.ref w), some (.int x), some (.int (nI q)), x5] [] (K, I, R) Z := by
        intro x5 Z g1 g2
        rw [seeB_0 h85] at g1 g2
        (repeat (first | refine Ev.p rfl rfl ?_ | refine Ev.gr (by rfl) (by rfl) (by assumption) (by rfl) (by assumption) ?_ | refine Ev.gi (by rfl) (by rfl) (by assumption) (by rfl) (by assumption) ?_))
        refine Ev.bp rfl (fun c => ?_) (fun c => ?_)
        · exact absurd c (nI_ge (by omega) (by omega))
        · iterate 1 refine Ev.p rfl rfl ?_
          refine Ev.gi (by rfl) (by rfl) (by assumption) (by rfl) (by assumption) ?_
          iterate 4 refine Ev.p rfl rfl ?_
          rw [hsr]
          cases hw9 : seeB s q with
          | false =>
            rw [hw9] at g1 g2
            (repeat (first | refine Ev.p rfl rfl ?_ | refine Ev.gr (by rfl) (by rfl) (by assumption) (by rfl) (by assumption) ?_ | refine Ev.gi (by rfl) (by rfl) (by assumption) (by rfl) (by assumption) ?_))
            (refine Ev.iald (j := q) (by rfl) (by assumption) (by rfl) (by omega) (by omega) ?_; rw [m80])
            (repeat refine Ev.p rfl rfl ?_)
            refine Ev.bp rfl (fun c2 => ?_) (fun c2 => ?_)
            · exact g1 c2
            · exact g2 (Decidable.not_not.mp c2)
          | true =>
            rw [hw9] at g1 g2
            (repeat (first | refine Ev.p rfl rfl ?_ | refine Ev.gr (by rfl) (by rfl) (by assumption) (by rfl) (by assumption) ?_ | refine Ev.gi (by rfl) (by rfl) (by assumption) (by rfl) (by assumption) ?_))
            (refine Ev.iald (j := q) (by rfl) (by assumption) (by rfl) (by omega) (by omega) ?_; rw [m80])
            (repeat refine Ev.p rfl rfl ?_)
            refine Ev.bp rfl (fun c2 => ?_) (fun c2 => ?_)
            · exact g1 c2
            · exact g2 (Decidable.not_not.mp c2)
      by_cases hx : s (80 + q) = x
      · by_cases h9 : u (14 + p) = s (85 + q)
        · have g := ih (q + 1) (some (.int (s (85 + q)))) (by omega) (by rw [e1, decide_eq_true h9, Bool.or_true])
          rw [nI_succ] at g
          refine start _ _ (fun c => absurd hx c) (fun _ => ?_)
          (repeat (first | refine Ev.p rfl rfl ?_ | refine Ev.gr (by rfl) (by rfl) (by assumption) (by rfl) (by assumption) ?_ | refine Ev.gi (by rfl) (by rfl) (by assumption) (by rfl) (by assumption) ?_))
          (refine Ev.iald (j := q) (by rfl) (by assumption) (by rfl) (by omega) (by omega) ?_; rw [m75, ep])
          refine Ev.cv (by rfl) (by rfl) (by assumption) (by rfl) (by rfl) (by rfl) (by rfl) (by rfl) hsp ?_
          (repeat (first | refine Ev.p rfl rfl ?_ | refine Ev.gr (by rfl) (by rfl) (by assumption) (by rfl) (by assumption) ?_ | refine Ev.gi (by rfl) (by rfl) (by assumption) (by rfl) (by assumption) ?_))
          (repeat refine Ev.p rfl rfl ?_)
          refine Ev.bp rfl (fun c2 => ?_) (fun c2 => ?_)
          · (repeat (first | (refine Ev.at (q := 2) rfl ?_; exact g) | refine Ev.p rfl rfl ?_))
          · exact absurd h9 c2
        · rw [rAs_f (k := q + 1) (by rw [e1, decide_eq_true hx, decide_eq_false h9]; rfl) b (by omega)]
          refine start _ _ (fun c => absurd hx c) (fun _ => ?_)
          (repeat (first | refine Ev.p rfl rfl ?_ | refine Ev.gr (by rfl) (by rfl) (by assumption) (by rfl) (by assumption) ?_ | refine Ev.gi (by rfl) (by rfl) (by assumption) (by rfl) (by assumption) ?_))
          (refine Ev.iald (j := q) (by rfl) (by assumption) (by rfl) (by omega) (by omega) ?_; rw [m75, ep])
          refine Ev.cv (by rfl) (by rfl) (by assumption) (by rfl) (by rfl) (by rfl) (by rfl) (by rfl) hsp ?_
          (repeat (first | refine Ev.p rfl rfl ?_ | refine Ev.gr (by rfl) (by rfl) (by assumption) (by rfl) (by assumption) ?_ | refine Ev.gi (by rfl) (by rfl) (by assumption) (by rfl) (by assumption) ?_))
          (repeat refine Ev.p rfl rfl ?_)
          refine Ev.bp rfl (fun c2 => ?_) (fun c2 => ?_)
          · exact absurd c2 h9
          · ((repeat refine Ev.p rfl rfl ?_); exact Ev.r rfl)
      · have g := ih (q + 1) (some (.int (s (85 + q)))) (by omega) (by rw [e1, decide_eq_false hx]; rfl)
        rw [nI_succ] at g
        refine start _ _ (fun _ => ?_) (fun c => absurd c hx)
        (repeat (first | (refine Ev.at (q := 2) rfl ?_; exact g) | refine Ev.p rfl rfl ?_))
  have g := lp b 0 none (by omega) rfl
  (repeat (first | (refine Ev.at (q := 2) rfl ?_; exact g) | refine Ev.p rfl rfl ?_))
theorem c_isAllSeen (ha : K[a]? = some (0, 9)) (har : R a 0 = some w) (hh : HK K R h) (hM : HM I h s) (hs : SN s n b) (hA : VA K I R w s n cls du fd) (hRI : RI s n e cls) (he : e + 30 < 1000000) {f : Nat} (hfd : fd = nI f) (hf : f ≤ 99) : ∃ I', Ev X (d + 6) kX0_isAllSeen 0 (ent kX0_isAllSeen [.ref a, .ref h]) [] (K, I, R) (some (.int (bI (rAll s n cls du fd b))), (K, I', R)) ∧ FR (PW w) I I' := by
  have hn := hRI.1
  have hl20 := lst_le hs b (Nat.le_refl _)
  have h1 := c_lastSeen (X := X) (d := d + 4) hh hM hs
  have h2 := j_min (X := X) (d := d + 5) (K, I, R) (nI (lst s b)) 20
  rw [if_pos (show nI (lst s b) ≤ (20 : Int32) from nI_le (b := 20) hl20 (by omega))] at h2
  have hK := hA.1
  have hs' : ∀ i, r01 (rOn s n cls du fd i) := fun i => rOn_01 hRI.2.1.1 hn cls du fd i
  have lp : ∀ mm i (J : Nat → Nat → Int32), i + mm = lst s b + 1 → VA K J R w (rOn s n cls du fd i) n cls du fd → FR (PW w) I J → ∃ I', Ev X (d + 6) kX0_isAllSeen 12 [some (.ref a), some (.ref h), some (.int (nI (lst s b))), some (.int (nI i))] [] (K, J, R) (some (.int (bI (fa (fun k => rAs s (rOn s n cls du fd k) (nI k) b) mm i))), (K, I', R)) ∧ FR (PW w) I I' := by
    intro mm
    induction mm with
    | zero =>
      intro i J hi hJ fJ
      refine ⟨J, ?_, fJ⟩
      (repeat refine Ev.p rfl rfl ?_)
      refine Ev.bp rfl (fun c => ?_) (fun c => ?_)
      · ((repeat refine Ev.p rfl rfl ?_); exact Ev.r rfl)
      · exact absurd (nI_lt (a := lst s b) (b := i) (by omega) (by omega)) c
    | succ mm ih =>
      intro i J hi hJ fJ
      have hso := c_isSo (X := X) (d := d + 4) hh (hM.pw hh hK fJ) hs hJ.1 hJ.2.1 hn (hs' i) (nI i)
      obtain ⟨k0, -⟩ := hK
      obtain ⟨q0, q1, q2, q3, q4, q5, q6, q7, r0, r2, r3, r6, r7, r9, r10⟩ := hh
      show ∃ I', Ev X (d + 6) kX0_isAllSeen 12 _ [] _ (some (.int (bI (rAs s (rOn s n cls du fd i) (nI i) b && fa (fun k => rAs s (rOn s n cls du fd k) (nI k) b) mm (i + 1)))), _) ∧ _
      cases hb : rAs s (rOn s n cls du fd i) (nI i) b with
      | false =>
        rw [hb] at hso
        refine ⟨J, ?_, fJ⟩
        (repeat refine Ev.p rfl rfl ?_)
        refine Ev.bp rfl (fun c => ?_) (fun c => ?_)
        · exact absurd c (nI_nlt (by omega) (by omega))
        · (repeat (first | refine Ev.p rfl rfl ?_ | refine Ev.gr (by rfl) (by rfl) (by assumption) (by rfl) (by assumption) ?_ | refine Ev.gi (by rfl) (by rfl) (by assumption) (by rfl) (by assumption) ?_))
          refine Ev.cv (by rfl) (by rfl) (by assumption) (by rfl) (by rfl) (by rfl) (by rfl) (by rfl) hso ?_
          ((repeat refine Ev.p rfl rfl ?_); exact Ev.r rfl)
      | true =>
        rw [hb] at hso
        by_cases hil : i = lst s b
        · have hm0 : mm = 0 := by omega
          subst hm0
          refine ⟨J, ?_, fJ⟩
          (repeat refine Ev.p rfl rfl ?_)
          refine Ev.bp rfl (fun c => ?_) (fun c => ?_)
          · exact absurd c (nI_nlt (by omega) (by omega))
          · (repeat (first | refine Ev.p rfl rfl ?_ | refine Ev.gr (by rfl) (by rfl) (by assumption) (by rfl) (by assumption) ?_ | refine Ev.gi (by rfl) (by rfl) (by assumption) (by rfl) (by assumption) ?_))
            refine Ev.cv (by rfl) (by rfl) (by assumption) (by rfl) (by rfl) (by rfl) (by rfl) (by rfl) hso ?_
            (repeat refine Ev.p rfl rfl ?_)
            refine Ev.bp rfl (fun c2 => ?_) (fun c2 => ?_)
            · (repeat refine Ev.p rfl rfl ?_)
              refine Ev.bp rfl (fun c3 => ?_) (fun c3 => ?_)
              · ((repeat refine Ev.p rfl rfl ?_); exact Ev.r rfl)
              · exact absurd (by rw [hil, ← nI_succ]; exact nI_lt (by omega) (by omega)) c3
            · exact absurd (by rw [hil]; exact Int32.le_refl _) c2
        · obtain ⟨J1, J2, f1, f2, f3, f4⟩ := c_next (X := X) (d := d) hJ (RI_on hRI hfd hf du i) (by omega)
          obtain ⟨I', g1, g2⟩ := ih (i + 1) J2 (by omega) f3 (fJ.tr f4)
          refine ⟨I', ?_, g2⟩
          rw [nI_succ] at g1
          (repeat refine Ev.p rfl rfl ?_)
          refine Ev.bp rfl (fun c => ?_) (fun c => ?_)
          · exact absurd c (nI_nlt (by omega) (by omega))
          · (repeat (first | refine Ev.p rfl rfl ?_ | refine Ev.gr (by rfl) (by rfl) (by assumption) (by rfl) (by assumption) ?_ | refine Ev.gi (by rfl) (by rfl) (by assumption) (by rfl) (by assumption) ?_))
            refine Ev.cv (by rfl) (by rfl) (by assumption) (by rfl) (by rfl) (by rfl) (by rfl) (by rfl) hso ?_
            (repeat refine Ev.p rfl rfl ?_)
            refine Ev.bp rfl (fun c2 => ?_) (fun c2 => ?_)
            · exact absurd c2 (nI_ge (by omega) (by omega))
            · (repeat (first | refine Ev.p rfl rfl ?_ | refine Ev.gr (by rfl) (by rfl) (by assumption) (by rfl) (by assumption) ?_ | refine Ev.gi (by rfl) (by rfl) (by assumption) (by rfl) (by assumption) ?_))
              refine Ev.cv (by rfl) (by rfl) (by assumption) (by rfl) (by rfl) (by rfl) (by rfl) (by rfl) f1 ?_
              (repeat (first | refine Ev.p rfl rfl ?_ | refine Ev.gr (by rfl) (by rfl) (by assumption) (by rfl) (by assumption) ?_ | refine Ev.gi (by rfl) (by rfl) (by assumption) (by rfl) (by assumption) ?_))
              refine Ev.cv (by rfl) (by rfl) (by assumption) (by rfl) (by rfl) (by rfl) (by rfl) (by rfl) f2 ?_
              (repeat (first | (refine Ev.at (q := 12) rfl ?_; exact g1) | refine Ev.p rfl rfl ?_))
  obtain ⟨I', g1, g2⟩ := lp (lst s b + 1) 0 I (by omega) hA (FR.rf I)
  refine ⟨I', ?_, g2⟩
  rw [rAll_cut hs] at g1
  obtain ⟨q0, q1, q2, q3, q4, q5, q6, q7, r0, r2, r3, r6, r7, r9, r10⟩ := hh
  (repeat (first | refine Ev.p rfl rfl ?_ | refine Ev.gr (by rfl) (by rfl) (by assumption) (by rfl) (by assumption) ?_ | refine Ev.gi (by rfl) (by rfl) (by assumption) (by rfl) (by assumption) ?_))
  refine Ev.cv (by rfl) (by rfl) (by assumption) (by rfl) (by rfl) (by rfl) (by rfl) (by rfl) h1 ?_
  (repeat refine Ev.p rfl rfl ?_)
  refine Ev.c rfl h2 ?_
  (repeat (first | (refine Ev.at (q := 12) rfl ?_; exact g1) | refine Ev.p rfl rfl ?_))
end HAND
