/-! THE REFERENCE: refusals, tellings by hand, nets -/
theorem upd_same (s : Nat → Int32) (j : Nat) : upd s j (s j) = s := by
  funext k
  unfold upd
  by_cases h : k = j
  · rw [if_pos h, h]
  · rw [if_neg h]
theorem upd_at (s : Nat → Int32) (j : Nat) (x : Int32) : upd s j x j = x := if_pos rfl
theorem upd_ne {s : Nat → Int32} {j k : Nat} {x : Int32} (h : k ≠ j) : upd s j x k = s k := if_neg h
def rNi (s : Nat → Int32) (n : Nat) (x : Int32) : Nat → Int32
  | 0 => x
  | q + 1 => rNi s n x q ||| (if ((rNi s n x q >>> (nI q &&& 31)) &&& 1) = 1 then rW s q n else 0)
def rNo (s : Nat → Int32) (n p : Nat) : Nat → Int32
  | 0 => rW s p n
  | k + 1 => rNi s n (rNo s n p k) n
/-- NET -/
def rNet (s : Nat → Int32) (n p : Nat) : Int32 := rNo s n p 6
def rIn (s : Nat → Int32) (n : Nat) : Nat → Int32
  | 0 => 0
  | q + 1 => rIn s n q ||| (rNet s n q &&& ((1 : Int32) <<< (nI q &&& 31)))
def rRing (s : Nat → Int32) (n : Nat) : Nat → Int32
  | 0 => 0
  | q + 1 => rRing s n q ||| (if rNet s n q &&& rIn s n n = 0 then 0 else (1 : Int32) <<< (nI q &&& 31))
def rTF (s : Nat → Int32) (n p : Nat) (x : Int32) : Int32 := if s (14 + p) = 1 then 0 else rC (rW s p n &&& x) 6
section MODEL3
variable {X : Nat × (Nat → Int32)} {d : Nat} {T : List (Nat × Nat)} {I : Nat → Nat → Int32} {G : Nat → Nat → Option Nat} {s : Nat → Int32} {n p : Nat}
theorem m_holds (hI : I 141 = s) (hn : s 26 = nI n) (hn6 : n ≤ 6) (h1 : ¬ (999999 : Int32) < s 1) (h2 : ∀ q, q < n → ¬ (9999 : Int32) < s (2 + q)) : ∃ I', Ev X d kX12_holds 0 (ent kX12_holds [.ref 140]) [] (K0 ++ T, I, RS G) (none, (K0 ++ T, I', RS G)) ∧ I' 141 = s ∧ MF I I' := by
  have lp : ∀ m q (J : Nat → Nat → Int32), q + m = n → J 141 = s → MF I J → ∃ I', Ev X d kX12_holds 30 [some (.ref 140), some (.int (nI q))] [] (K0 ++ T, J, RS G) (none, (K0 ++ T, I', RS G)) ∧ I' 141 = s ∧ MF I I' := by
    intro m
    induction m with
    | zero =>
      intro q J hq hI h3
      have e : q = n := by omega
      subst e
      refine ⟨J, ?_, hI, h3⟩
      (repeat refine Ev.p rfl rfl ?_)
      (refine Ev.iald (j := 26) rfl rfl rfl (by omega) (by omega) ?_; rw [hI, hn])
      (repeat refine Ev.p rfl rfl ?_)
      refine Ev.bp rfl (fun c => ?_) (fun c => ?_)
      · ((repeat refine Ev.p rfl rfl ?_); exact Ev.r rfl)
      · exact absurd (Int32.le_refl _) c
    | succ m ih =>
      intro q J hq hI h3
      obtain ⟨I', e1, e2, e3⟩ := ih (q + 1) (upI J 141 (2 + q) (s (2 + q))) (by omega) (by rw [up143 hI, upd_same]) (h3.tr (MF.up (by omega)))
      refine ⟨I', ?_, e2, e3⟩
      rw [nI_succ] at e1
      (repeat refine Ev.p rfl rfl ?_)
      (refine Ev.iald (j := 26) rfl rfl rfl (by omega) (by omega) ?_; rw [hI, hn])
      (repeat refine Ev.p rfl rfl ?_)
      refine Ev.bp rfl (fun c => ?_) (fun c => ?_)
      · exact absurd c (nI_ge (by omega) (by omega))
      · (repeat refine Ev.p rfl rfl ?_)
        (refine Ev.iald (j := 2 + q) rfl rfl (nI_add 2 q) (by omega) (by omega) ?_; rw [hI])
        (repeat refine Ev.p rfl rfl ?_)
        refine Ev.bp rfl (fun c2 => ?_) (fun c2 => ?_)
        · (repeat refine Ev.p rfl rfl ?_)
          (refine Ev.iald (j := 2 + q) rfl rfl (nI_add 2 q) (by omega) (by omega) ?_; rw [hI])
          (repeat refine Ev.p rfl rfl ?_)
          refine Ev.iast (j := 2 + q) rfl rfl (nI_add 2 q) (by omega) (by omega) ?_
          (repeat (first | exact e1 | refine Ev.p rfl rfl ?_))
        · exact absurd (Int32.not_le.mp c2) (h2 q (by omega))
  obtain ⟨I', e1, e2, e3⟩ := lp n 0 (upI I 141 1 (s 1)) (by omega) (by rw [up143 hI, upd_same]) (MF.up (by omega))
  refine ⟨I', ?_, e2, e3⟩
  (repeat refine Ev.p rfl rfl ?_)
  (refine Ev.iald (j := 1) rfl rfl rfl (by omega) (by omega) ?_; rw [hI])
  (repeat refine Ev.p rfl rfl ?_)
  refine Ev.bp rfl (fun c => ?_) (fun c => ?_)
  · (repeat refine Ev.p rfl rfl ?_)
    (refine Ev.iald (j := 1) rfl rfl rfl (by omega) (by omega) ?_; rw [hI])
    (repeat refine Ev.p rfl rfl ?_)
    refine Ev.iast (j := 1) rfl rfl rfl (by omega) (by omega) ?_
    (repeat (first | exact e1 | refine Ev.p rfl rfl ?_))
  · exact absurd (Int32.not_le.mp c) h1
theorem m_netOf (hI : I 141 = s) (hn : s 26 = nI n) (hn6 : n ≤ 6) (hp : p < 6) : Ev X (d + 1) kX12_netOf 0 (ent kX12_netOf [.ref 140, .int (nI p)]) [] (K0 ++ T, I, RS G) (some (.int (rNet s n p)), (K0 ++ T, I, RS G)) := by
  have li : ∀ m q k, q + m = n → (Ev X (d + 1) kX12_netOf 58 [some (.ref 140), some (.int (nI p)), some (.int (rNi s n (rNo s n p k) n)), some (.int (nI k)), some (.int (nI n))] [] (K0 ++ T, I, RS G) (some (.int (rNet s n p)), (K0 ++ T, I, RS G))) → Ev X (d + 1) kX12_netOf 17 [some (.ref 140), some (.int (nI p)), some (.int (rNi s n (rNo s n p k) q)), some (.int (nI k)), some (.int (nI q))] [] (K0 ++ T, I, RS G) (some (.int (rNet s n p)), (K0 ++ T, I, RS G)) := by
    intro m
    induction m with
    | zero =>
      intro q k hq h9
      have e : q = n := by omega
      subst e
      (repeat refine Ev.p rfl rfl ?_)
      (refine Ev.iald (j := 26) rfl rfl rfl (by omega) (by omega) ?_; rw [hI, hn])
      (repeat refine Ev.p rfl rfl ?_)
      refine Ev.bp rfl (fun c => ?_) (fun c => ?_)
      · exact h9
      · exact absurd (Int32.le_refl _) c
    | succ m ih =>
      intro q k hq h9
      have h8 := ih (q + 1) k (by omega) h9
      rw [nI_succ] at h8
      (repeat refine Ev.p rfl rfl ?_)
      (refine Ev.iald (j := 26) rfl rfl rfl (by omega) (by omega) ?_; rw [hI, hn])
      (repeat refine Ev.p rfl rfl ?_)
      refine Ev.bp rfl (fun c => ?_) (fun c => ?_)
      · exact absurd c (nI_ge (by omega) (by omega))
      · (repeat refine Ev.p rfl rfl ?_)
        refine Ev.bp rfl (fun c2 => ?_) (fun c2 => ?_)
        · simp only [rNi, if_neg c2] at h8
          (repeat (first | exact h8 | refine Ev.p rfl rfl ?_))
        · simp only [rNi, if_pos (Decidable.not_not.mp c2)] at h8
          (repeat refine Ev.p rfl rfl ?_)
          refine Ev.c rfl (m_waitsFor hI hn hn6 (p := q) (by omega)) ?_
          (repeat (first | exact h8 | refine Ev.p rfl rfl ?_))
  have lo : ∀ m k, k + m = 6 → ∀ y : Option Value, y = none ∨ y = some (.int (nI n)) → Ev X (d + 1) kX12_netOf 8 [some (.ref 140), some (.int (nI p)), some (.int (rNo s n p k)), some (.int (nI k)), y] [] (K0 ++ T, I, RS G) (some (.int (rNet s n p)), (K0 ++ T, I, RS G)) := by
    intro m
    induction m with
    | zero =>
      intro k hk y hy
      have e : k = 6 := by omega
      subst e
      rcases hy with rfl | rfl <;> ((repeat refine Ev.p rfl rfl ?_); exact Ev.r rfl)
    | succ m ih =>
      intro k hk y hy
      have h9 := ih (k + 1) (by omega) (some (.int (nI n))) (Or.inr rfl)
      rw [nI_succ] at h9
      have h8 := li n 0 k (by omega) (by (repeat (first | exact h9 | refine Ev.p rfl rfl ?_)))
      rcases hy with rfl | rfl
      · (repeat refine Ev.p rfl rfl ?_)
        refine Ev.bp rfl (fun c => ?_) (fun c => ?_)
        · exact absurd c (nI_ge (a := k) (b := 6) (by omega) (by omega))
        · (repeat (first | exact h8 | refine Ev.p rfl rfl ?_))
      · (repeat refine Ev.p rfl rfl ?_)
        refine Ev.bp rfl (fun c => ?_) (fun c => ?_)
        · exact absurd c (nI_ge (a := k) (b := 6) (by omega) (by omega))
        · (repeat (first | exact h8 | refine Ev.p rfl rfl ?_))
  (repeat refine Ev.p rfl rfl ?_)
  refine Ev.c rfl (m_waitsFor hI hn hn6 hp) ?_
  have h9 := lo 6 0 rfl none (Or.inl rfl)
  (repeat (first | exact h9 | refine Ev.p rfl rfl ?_))
theorem m_ringed (hI : I 141 = s) (hn : s 26 = nI n) (hn6 : n ≤ 6) : Ev X (d + 2) kX12_ringed 0 (ent kX12_ringed [.ref 140]) [] (K0 ++ T, I, RS G) (some (.int (rRing s n n)), (K0 ++ T, I, RS G)) := by
  have l2 : ∀ m q, q + m = n → Ev X (d + 2) kX12_ringed 37 [some (.ref 140), some (.int (rIn s n n)), some (.int (rRing s n q)), some (.int (nI q))] [] (K0 ++ T, I, RS G) (some (.int (rRing s n n)), (K0 ++ T, I, RS G)) := by
    intro m
    induction m with
    | zero =>
      intro q hq
      have e : q = n := by omega
      subst e
      (repeat refine Ev.p rfl rfl ?_)
      (refine Ev.iald (j := 26) rfl rfl rfl (by omega) (by omega) ?_; rw [hI, hn])
      (repeat refine Ev.p rfl rfl ?_)
      refine Ev.bp rfl (fun c => ?_) (fun c => ?_)
      · ((repeat refine Ev.p rfl rfl ?_); exact Ev.r rfl)
      · exact absurd (Int32.le_refl _) c
    | succ m ih =>
      intro q hq
      have h9 := ih (q + 1) (by omega)
      rw [nI_succ] at h9
      (repeat refine Ev.p rfl rfl ?_)
      (refine Ev.iald (j := 26) rfl rfl rfl (by omega) (by omega) ?_; rw [hI, hn])
      (repeat refine Ev.p rfl rfl ?_)
      refine Ev.bp rfl (fun c => ?_) (fun c => ?_)
      · exact absurd c (nI_ge (by omega) (by omega))
      · (repeat refine Ev.p rfl rfl ?_)
        refine Ev.c rfl (m_netOf hI hn hn6 (p := q) (by omega)) ?_
        (repeat refine Ev.p rfl rfl ?_)
        refine Ev.bp rfl (fun c2 => ?_) (fun c2 => ?_)
        · simp only [rRing, if_pos c2] at h9
          (repeat (first | exact h9 | refine Ev.p rfl rfl ?_))
        · simp only [rRing, if_neg c2] at h9
          (repeat (first | exact h9 | refine Ev.p rfl rfl ?_))
  have l1 : ∀ m q, q + m = n → Ev X (d + 2) kX12_ringed 4 [some (.ref 140), some (.int (rIn s n q)), some (.int (nI q)), none] [] (K0 ++ T, I, RS G) (some (.int (rRing s n n)), (K0 ++ T, I, RS G)) := by
    intro m
    induction m with
    | zero =>
      intro q hq
      have e : q = n := by omega
      subst e
      have h9 := l2 q 0 (by omega)
      (repeat refine Ev.p rfl rfl ?_)
      (refine Ev.iald (j := 26) rfl rfl rfl (by omega) (by omega) ?_; rw [hI, hn])
      (repeat refine Ev.p rfl rfl ?_)
      refine Ev.bp rfl (fun c => ?_) (fun c => ?_)
      · (repeat (first | exact h9 | refine Ev.p rfl rfl ?_))
      · exact absurd (Int32.le_refl _) c
    | succ m ih =>
      intro q hq
      have h9 := ih (q + 1) (by omega)
      rw [nI_succ] at h9
      (repeat refine Ev.p rfl rfl ?_)
      (refine Ev.iald (j := 26) rfl rfl rfl (by omega) (by omega) ?_; rw [hI, hn])
      (repeat refine Ev.p rfl rfl ?_)
      refine Ev.bp rfl (fun c => ?_) (fun c => ?_)
      · exact absurd c (nI_ge (by omega) (by omega))
      · (repeat refine Ev.p rfl rfl ?_)
        refine Ev.c rfl (m_netOf hI hn hn6 (p := q) (by omega)) ?_
        (repeat (first | exact h9 | refine Ev.p rfl rfl ?_))
  have h9 := l1 n 0 (by omega)
  (repeat (first | exact h9 | refine Ev.p rfl rfl ?_))
theorem m_tiesFrom (hI : I 141 = s) (hn : s 26 = nI n) (hn6 : n ≤ 6) (hp : p < 6) (x : Int32) : Ev X (d + 1) kX12_tiesFrom 0 (ent kX12_tiesFrom [.ref 140, .int (nI p), .int x]) [] (K0 ++ T, I, RS G) (some (.int (rTF s n p x)), (K0 ++ T, I, RS G)) := by
  (repeat refine Ev.p rfl rfl ?_)
  (refine Ev.iald (j := 14 + p) rfl rfl (nI_add 14 p) (by omega) (by omega) ?_; rw [hI])
  (repeat refine Ev.p rfl rfl ?_)
  unfold rTF
  refine Ev.bp rfl (fun c => ?_) (fun c => ?_)
  · rw [if_neg c]
    (repeat refine Ev.p rfl rfl ?_)
    refine Ev.c rfl (m_waitsFor hI hn hn6 hp) ?_
    (repeat refine Ev.p rfl rfl ?_)
    refine Ev.c rfl (m_countOf _ _) ?_
    ((repeat refine Ev.p rfl rfl ?_); exact Ev.r rfl)
  · rw [if_pos (Decidable.not_not.mp c)]
    ((repeat refine Ev.p rfl rfl ?_); exact Ev.r rfl)
theorem m_net (hI : I 141 = s) (hn : s 26 = nI n) (hn6 : n ≤ 6) (x : Int32) : (∀ p, p < n → x = nI p → Ev X (d + 2) kX12_net 0 (ent kX12_net [.ref 140, .int x]) [] (K0 ++ T, I, RS G) (some (.int (rNet s n p)), (K0 ++ T, I, RS G))) ∧ (¬ isM n x → Ev X (d + 2) kX12_net 0 (ent kX12_net [.ref 140, .int x]) [] (K0 ++ T, I, RS G) (some (.int (-1)), (K0 ++ T, I, RS G))) := by
  refine ⟨fun p hp e => ?_, fun q => ?_⟩
  · (repeat refine Ev.p rfl rfl ?_)
    refine Ev.c rfl ((m_isM hI hn x).1 ((isM_iff hn6).mpr ⟨p, hp, e⟩)) ?_
    subst e
    (repeat refine Ev.p rfl rfl ?_)
    refine Ev.c rfl (m_netOf hI hn hn6 (p := p) (by omega)) ?_
    ((repeat refine Ev.p rfl rfl ?_); exact Ev.r rfl)
  · (repeat refine Ev.p rfl rfl ?_)
    refine Ev.c rfl ((m_isM hI hn x).2 q) ?_
    ((repeat refine Ev.p rfl rfl ?_); exact Ev.r rfl)
theorem m_isUnder (h : Hp) (kk : Nat) (hk : kk ≤ 6) (j : Nat) (hj : j ≤ 6) : Ev X d kX12_isUnder 0 (ent kX12_isUnder [.int (nI kk), .int (nI j)]) [] h (some (.int (bI (decide (j = 0 ∨ j = kk ∨ (j < 4 ∧ kk = j + 3))))), h) := by
  rcases (by omega : kk = 0 ∨ kk = 1 ∨ kk = 2 ∨ kk = 3 ∨ kk = 4 ∨ kk = 5 ∨ kk = 6) with rfl | rfl | rfl | rfl | rfl | rfl | rfl <;> rcases (by omega : j = 0 ∨ j = 1 ∨ j = 2 ∨ j = 3 ∨ j = 4 ∨ j = 5 ∨ j = 6) with rfl | rfl | rfl | rfl | rfl | rfl | rfl <;> ((repeat refine Ev.p rfl rfl ?_); exact Ev.r rfl)
theorem m_as (hI : I 141 = s) (hn : s 26 = nI n) (hn6 : n ≤ 6) (x y : Int32) : (∀ p kk j, p < n → x = nI p → s (33 + p) = nI kk → kk ≤ 6 → y = nI j → j ≤ 6 → Ev X (d + 2) kX12_as 0 (ent kX12_as [.ref 140, .int x, .int y]) [] (K0 ++ T, I, RS G) (some (.int (if (j = 0 ∨ j = kk ∨ (j < 4 ∧ kk = j + 3)) then s (39 + p) else -6)), (K0 ++ T, I, RS G))) ∧ (¬ (isM n x ∧ 0 ≤ y ∧ y ≤ 6) → Ev X (d + 2) kX12_as 0 (ent kX12_as [.ref 140, .int x, .int y]) [] (K0 ++ T, I, RS G) (some (.int (-1)), (K0 ++ T, I, RS G))) := by
  refine ⟨fun p kk j hp e hk hk6 ey hj6 => ?_, fun q => ?_⟩
  · (repeat refine Ev.p rfl rfl ?_)
    refine Ev.c rfl ((m_isM hI hn x).1 ((isM_iff hn6).mpr ⟨p, hp, e⟩)) ?_
    subst e
    (repeat refine Ev.p rfl rfl ?_)
    refine Ev.c rfl (m_in _ _ _ _) ?_
    rw [if_pos (by rw [ey]; exact ⟨nI_pos' (by omega), nI_le (b := 6) hj6 (by omega)⟩)]
    (repeat refine Ev.p rfl rfl ?_)
    (refine Ev.iald (j := 33 + p) rfl rfl (nI_add 33 p) (by omega) (by omega) ?_; rw [hI])
    rw [hk, ey]
    (repeat refine Ev.p rfl rfl ?_)
    refine Ev.c rfl (m_isUnder _ kk hk6 j hj6) ?_
    (repeat refine Ev.p rfl rfl ?_)
    by_cases h9 : (j = 0 ∨ j = kk ∨ (j < 4 ∧ kk = j + 3))
    · rw [if_pos h9, decide_eq_true h9]
      (repeat refine Ev.p rfl rfl ?_)
      (refine Ev.iald (j := 39 + p) rfl rfl (nI_add 39 p) (by omega) (by omega) ?_; rw [hI])
      ((repeat refine Ev.p rfl rfl ?_); exact Ev.r rfl)
    · rw [if_neg h9, decide_eq_false h9]
      ((repeat refine Ev.p rfl rfl ?_); exact Ev.r rfl)
  · by_cases h1 : isM n x
    · (repeat refine Ev.p rfl rfl ?_)
      refine Ev.c rfl ((m_isM hI hn x).1 h1) ?_
      (repeat refine Ev.p rfl rfl ?_)
      refine Ev.c rfl (m_in _ _ _ _) ?_
      rw [if_neg (fun h => q ⟨h1, h⟩)]
      ((repeat refine Ev.p rfl rfl ?_); exact Ev.r rfl)
    · (repeat refine Ev.p rfl rfl ?_)
      refine Ev.c rfl ((m_isM hI hn x).2 h1) ?_
      ((repeat refine Ev.p rfl rfl ?_); exact Ev.r rfl)
theorem m_looked (hI : I 141 = s) {b : Nat} (hb : s 30 = nI b) (hb8 : b ≤ 8) (hw : ∀ q, q < b → ∃ p, p < 6 ∧ s (106 + q) = nI p) : ∃ r : Int32, Ev X d kX12_looked 0 (ent kX12_looked [.ref 140]) [] (K0 ++ T, I, RS G) (some (.int r), (K0 ++ T, I, RS G)) ∧ ((r = -5 ∧ ∀ q p, q < b → s (106 + q) = nI p → p < 6 → s (8 + p) = s (114 + q)) ∨ ∃ q p, q < b ∧ r = nI q ∧ s (106 + q) = nI p ∧ p < 6 ∧ s (8 + p) ≠ s (114 + q) ∧ ∀ q' p', q' < q → s (106 + q') = nI p' → p' < 6 → s (8 + p') = s (114 + q')) := by
  have lp : ∀ m q, q + m = b → (∀ q' p', q' < q → s (106 + q') = nI p' → p' < 6 → s (8 + p') = s (114 + q')) → ∃ r : Int32, Ev X d kX12_looked 2 [some (.ref 140), some (.int (nI q))] [] (K0 ++ T, I, RS G) (some (.int r), (K0 ++ T, I, RS G)) ∧ ((r = -5 ∧ ∀ q p, q < b → s (106 + q) = nI p → p < 6 → s (8 + p) = s (114 + q)) ∨ ∃ q p, q < b ∧ r = nI q ∧ s (106 + q) = nI p ∧ p < 6 ∧ s (8 + p) ≠ s (114 + q) ∧ ∀ q' p', q' < q → s (106 + q') = nI p' → p' < 6 → s (8 + p') = s (114 + q')) := by
    intro m
    induction m with
    | zero =>
      intro q hq hall
      have e : q = b := by omega
      subst e
      refine ⟨-5, ?_, Or.inl ⟨rfl, hall⟩⟩
      (repeat refine Ev.p rfl rfl ?_)
      (refine Ev.iald (j := 30) rfl rfl rfl (by omega) (by omega) ?_; rw [hI])
      rw [hb]
      (repeat refine Ev.p rfl rfl ?_)
      refine Ev.bp rfl (fun c => ?_) (fun c => ?_)
      · ((repeat refine Ev.p rfl rfl ?_); exact Ev.r rfl)
      · exact absurd (Int32.le_refl _) c
    | succ m ih =>
      intro q hq hall
      obtain ⟨p, hp, ep⟩ := hw q (by omega)
      by_cases h9 : s (8 + p) = s (114 + q)
      · obtain ⟨r, e1, e2⟩ := ih (q + 1) (by omega) (fun q' p' hq' e' hp' => by
          rcases (by omega : q' < q ∨ q' = q) with g | g
          · exact hall q' p' g e' hp'
          · subst g
            have : p = p' := (nI_eq (by omega) (by omega)).mp (ep.symm.trans e')
            subst this
            exact h9)
        rw [nI_succ] at e1
        refine ⟨r, ?_, e2⟩
        (repeat refine Ev.p rfl rfl ?_)
        (refine Ev.iald (j := 30) rfl rfl rfl (by omega) (by omega) ?_; rw [hI])
        rw [hb]
        (repeat refine Ev.p rfl rfl ?_)
        refine Ev.bp rfl (fun c => ?_) (fun c => ?_)
        · exact absurd c (nI_ge (by omega) (by omega))
        · (repeat refine Ev.p rfl rfl ?_)
          (refine Ev.iald (j := 106 + q) rfl rfl (nI_add 106 q) (by omega) (by omega) ?_; rw [hI])
          rw [ep]
          (repeat refine Ev.p rfl rfl ?_)
          (refine Ev.iald (j := 8 + p) rfl rfl (nI_add 8 p) (by omega) (by omega) ?_; rw [hI])
          (repeat refine Ev.p rfl rfl ?_)
          (refine Ev.iald (j := 114 + q) rfl rfl (nI_add 114 q) (by omega) (by omega) ?_; rw [hI])
          (repeat refine Ev.p rfl rfl ?_)
          refine Ev.bp rfl (fun c2 => ?_) (fun c2 => ?_)
          · (repeat (first | exact e1 | refine Ev.p rfl rfl ?_))
          · exact absurd h9 c2
      · refine ⟨nI q, ?_, Or.inr ⟨q, p, by omega, rfl, ep, hp, h9, hall⟩⟩
        (repeat refine Ev.p rfl rfl ?_)
        (refine Ev.iald (j := 30) rfl rfl rfl (by omega) (by omega) ?_; rw [hI])
        rw [hb]
        (repeat refine Ev.p rfl rfl ?_)
        refine Ev.bp rfl (fun c => ?_) (fun c => ?_)
        · exact absurd c (nI_ge (by omega) (by omega))
        · (repeat refine Ev.p rfl rfl ?_)
          (refine Ev.iald (j := 106 + q) rfl rfl (nI_add 106 q) (by omega) (by omega) ?_; rw [hI])
          rw [ep]
          (repeat refine Ev.p rfl rfl ?_)
          (refine Ev.iald (j := 8 + p) rfl rfl (nI_add 8 p) (by omega) (by omega) ?_; rw [hI])
          (repeat refine Ev.p rfl rfl ?_)
          (refine Ev.iald (j := 114 + q) rfl rfl (nI_add 114 q) (by omega) (by omega) ?_; rw [hI])
          (repeat refine Ev.p rfl rfl ?_)
          refine Ev.bp rfl (fun c2 => ?_) (fun c2 => ?_)
          · exact absurd c2 h9
          · ((repeat refine Ev.p rfl rfl ?_); exact Ev.r rfl)
  obtain ⟨r, e1, e2⟩ := lp b 0 (by omega) (fun q' p' h => by omega)
  refine ⟨r, ?_, e2⟩
  (repeat (first | exact e1 | refine Ev.p rfl rfl ?_))
end MODEL3
