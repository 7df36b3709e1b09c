/-! THE REFERENCE: agenda -/
theorem Ev.dv {X : Nat × (Nat → Int32)} {d k pc np a b c : Nat} {v x y : Int32} {ls : List (Option Value)} {r : List Value} {h : Hp} {Z : Option Value × Hp} (hl : look k pc = some (.idiv, np, a, b, c, v)) (hy : y ≠ 0) (t : Ev X d k np ls (.int (x / y) :: r) h Z) : Ev X d k pc ls (.int y :: .int x :: r) h Z := by
  refine Ev.s (pc' := np) (ls' := ls) (st' := .int (x / y) :: r) (h' := h) ?_ t
  unfold stq
  rw [hl]
  show stp X _ ls _ h = _
  dsimp only [stp]
  rw [decide_eq_false hy]
  rfl
theorem Ev.rm {X : Nat × (Nat → Int32)} {d k pc np a b c : Nat} {v x y : Int32} {ls : List (Option Value)} {r : List Value} {h : Hp} {Z : Option Value × Hp} (hl : look k pc = some (.irem, np, a, b, c, v)) (hy : y ≠ 0) (t : Ev X d k np ls (.int (x - x / y * y) :: r) h Z) : Ev X d k pc ls (.int y :: .int x :: r) h Z := by
  refine Ev.s (pc' := np) (ls' := ls) (st' := .int (x - x / y * y) :: r) (h' := h) ?_ t
  unfold stq
  rw [hl]
  show stp X _ ls _ h = _
  dsimp only [stp]
  rw [decide_eq_false hy]
  rfl
theorem Ev.lrm {X : Nat × (Nat → Int32)} {d k pc np a b c : Nat} {v : Int32} {x y : Int64} {ls : List (Option Value)} {r : List Value} {h : Hp} {Z : Option Value × Hp} (hl : look k pc = some (.lrem, np, a, b, c, v)) (hy : y ≠ 0) (t : Ev X d k np ls (.long (x - x / y * y) :: r) h Z) : Ev X d k pc ls (.long y :: .long x :: r) h Z := by
  refine Ev.s (pc' := np) (ls' := ls) (st' := .long (x - x / y * y) :: r) (h' := h) ?_ t
  unfold stq
  rw [hl]
  show stp X _ ls _ h = _
  dsimp only [stp]
  rw [decide_eq_false hy]
  rfl
theorem Ev.ldv {X : Nat × (Nat → Int32)} {d k pc np a b c : Nat} {v : Int32} {x y : Int64} {ls : List (Option Value)} {r : List Value} {h : Hp} {Z : Option Value × Hp} (hl : look k pc = some (.ldiv, np, a, b, c, v)) (hy : y ≠ 0) (t : Ev X d k np ls (.long (x / y) :: r) h Z) : Ev X d k pc ls (.long y :: .long x :: r) h Z := by
  refine Ev.s (pc' := np) (ls' := ls) (st' := .long (x / y) :: r) (h' := h) ?_ t
  unfold stq
  rw [hl]
  show stp X _ ls _ h = _
  dsimp only [stp]
  rw [decide_eq_false hy]
  rfl
/-- who is talked of on evening k of the row r -/
def rDig (n r m k : Nat) : Option Nat := if r / (n + 1) ^ (m - 1 - k) % (n + 1) = n then none else some (r / (n + 1) ^ (m - 1 - k) % (n + 1))
def dv9 : Option Nat → Int32
  | none => 9
  | some p => nI p
def rRw (s : Nat → Int32) (n : Nat) (cls : Cls) (du fd : Int32) (m r : Nat) : Nat → (Nat → Int32)
  | 0 => s
  | k + 1 => rGo (rRw s n cls du fd m r k) n cls du fd (rDig n r m k)
def better (a : Int32 × Int32 × Nat) (many cost : Int32) (r : Nat) : Int32 × Int32 × Nat := if a.1 < many then (many, cost, r) else if many = a.1 ∧ cost < a.2.1 then (many, cost, r) else a
def rAg (s : Nat → Int32) (n : Nat) (cls : Cls) (du fd : Int32) (m : Nat) : Nat → Int32 × Int32 × Nat
  | 0 => (-1, 0, 0)
  | r + 1 => better (rAg s n cls du fd m r) (rC (rSO (rRw s n cls du fd m r m) n) 6) (rRw s n cls du fd m r m 1) r
def rAgV (s : Nat → Int32) (n m w : Nat) (a : Int32 × Int32 × Nat) : Int32 := if w = 0 then a.1 else if w = 1 then a.2.1 - s 1 else if w - 10 < m then dv9 (rDig n a.2.2 m (w - 10)) else -5
theorem rPw_nI (n : Nat) : ∀ k, rPw n k = nI ((n + 1) ^ k) := by
  intro k
  induction k with
  | zero => rfl
  | succ k ih =>
    show rPw n k * (nI n + 1) = _
    rw [ih, nI_1, pk_mul, Nat.pow_succ]
theorem pw_le {n k : Nat} (hn : n ≤ 6) (hk : k ≤ 4) : 0 < (n + 1) ^ k ∧ (n + 1) ^ k ≤ 2401 := by
  refine ⟨Nat.pos_of_ne_zero (by simp), ?_⟩
  calc (n + 1) ^ k ≤ 7 ^ k := Nat.pow_le_pow_left (by omega) k
    _ ≤ 7 ^ 4 := Nat.pow_le_pow_right (by omega) hk
    _ = 2401 := by decide
theorem rDig_lt {n r m k p : Nat} (h : rDig n r m k = some p) : p < n := by
  unfold rDig at h
  split at h
  · cases h
  · cases h
    have := Nat.mod_lt (r / (n + 1) ^ (m - 1 - k)) (show 0 < n + 1 by omega)
    omega
theorem rDig_tk (n r m k : Nat) : tkV (rDig n r m k) n (match rDig n r m k with | none => -1 | some p => nI p) := by
  cases h : rDig n r m k with
  | none => show (-1 : Int32) < 0; decide
  | some p => exact ⟨rDig_lt h, rfl⟩
theorem rRw_al {s : Nat → Int32} {n : Nat} (hn6 : n ≤ 6) (cls : Cls) (du fd : Int32) (m r k : Nat) : AL s (rRw s n cls du fd m r k) := by
  induction k with
  | zero => exact fun _ _ => rfl
  | succ k ih => exact ih.tr (rGo_al hn6 cls du fd (rDig_tk n r m k))
theorem rRw_V {s : Nat → Int32} {n : Nat} {hd : Option Nat} {cls : Cls} {e : Nat} (hv : SV s n hd cls e) (du fd : Int32) (m r : Nat) : ∀ k, e + k < 1000000 → SV (rRw s n cls du fd m r k) n hd cls (e + k) := by
  intro k
  induction k with
  | zero => intro _; exact hv
  | succ k ih => intro h; exact rGo_V (ih (by omega)) (by omega) du fd (rDig_tk n r m k)
section AGENDA
variable {X : Nat × (Nat → Int32)} {d : Nat} {T : List (Nat × Nat)} {I : Nat → Nat → Int32} {G : Nat → Nat → Option Nat} {s : Nat → Int32} {n p : Nat} {hd : Option Nat} {cls : Cls} {e : Nat} {du fd : Int32}
theorem m_partOf (hI : I 141 = s) (hn : s 26 = nI n) (hn6 : n ≤ 6) {r m k : Nat} (hr : r < 3000) (hm : m ≤ 4) (hk : k < m) : Ev X (d + 1) kX12_partOf 0 (ent kX12_partOf [.ref 140, .int (nI r), .int (nI m), .int (nI k)]) [] (K0 ++ T, I, RS G) (some (.int (dv9 (rDig n r m k))), (K0 ++ T, I, RS G)) := by
  obtain ⟨P, hP⟩ : ∃ P, P = (n + 1) ^ (m - 1 - k) := ⟨_, rfl⟩
  have hp2 := pw_le (k := m - 1 - k) hn6 (by omega)
  rw [← hP] at hp2
  (repeat refine Ev.p rfl rfl ?_)
  rw [show nI m - 1 - nI k = nI (m - 1 - k) from by rw [show (1 : Int32) = nI 1 from rfl, pk_sub (by omega), pk_sub (by omega)]]
  refine Ev.c rfl (m_power hI hn (k := m - 1 - k) (by omega)) ?_
  rw [rPw_nI, ← hP]
  refine Ev.dv rfl (nI_ne0 hp2.1 (by omega)) ?_
  rw [pk_div (by omega) hp2.1 (by omega)]
  obtain ⟨z, hz⟩ : ∃ z, z = r / P := ⟨_, rfl⟩
  have hz2 : z ≤ r := by rw [hz]; exact Nat.div_le_self _ _
  rw [← hz]
  (repeat refine Ev.p rfl rfl ?_)
  (refine Ev.iald (j := 26) rfl rfl rfl (by omega) (by omega) ?_; rw [hI, hn])
  iterate 2 refine Ev.p rfl rfl ?_
  rw [nI_1]
  refine Ev.rm rfl (nI_ne0 (by omega) (by omega)) ?_
  rw [pk_rem (by omega) (by omega) (by omega)]
  have hlt : z % (n + 1) < n + 1 := Nat.mod_lt _ (by omega)
  have e1 : rDig n r m k = if z % (n + 1) = n then none else some (z % (n + 1)) := by unfold rDig; rw [← hP, ← hz]
  rw [e1]
  obtain ⟨w, hw⟩ : ∃ w, w = z % (n + 1) := ⟨_, rfl⟩
  rw [← hw] at hlt ⊢
  (repeat refine Ev.p rfl rfl ?_)
  (refine Ev.iald (j := 26) rfl rfl rfl (by omega) (by omega) ?_; rw [hI, hn])
  (repeat refine Ev.p rfl rfl ?_)
  refine Ev.bp rfl (fun c => ?_) (fun c => ?_)
  · rw [if_neg (fun h => c (by rw [h]))]
    ((repeat refine Ev.p rfl rfl ?_); exact Ev.r rfl)
  · rw [if_pos ((nI_eq (by omega) (by omega)).mp (Decidable.not_not.mp c))]
    ((repeat refine Ev.p rfl rfl ?_); exact Ev.r rfl)
theorem m_agenda (hI : I 141 = s) (hv : SV s n hd cls e) (hdf : DF I s hd du fd) (he : e ≤ 9999) (x y : Int32) :
    (¬ ((0 ≤ y ∧ y ≤ 1) ∨ (10 ≤ y ∧ y ≤ 13)) → Ev X (d + 5) kX12_agenda 0 (ent kX12_agenda [.ref 140, .int x, .int y]) [] (K0 ++ T, I, RS G) (some (.int (-1)), (K0 ++ T, I, RS G))) ∧
    (((0 ≤ y ∧ y ≤ 1) ∨ (10 ≤ y ∧ y ≤ 13)) → ¬ (1 ≤ x ∧ x ≤ 4) → Ev X (d + 5) kX12_agenda 0 (ent kX12_agenda [.ref 140, .int x, .int y]) [] (K0 ++ T, I, RS G) (some (.int (-2)), (K0 ++ T, I, RS G))) ∧
    (∀ m w, (w = 0 ∨ w = 1 ∨ ∃ j, j < 4 ∧ w = 10 + j) → y = nI w → 1 ≤ m → m ≤ 4 → x = nI m → ∃ I', Ev X (d + 5) kX12_agenda 0 (ent kX12_agenda [.ref 140, .int x, .int y]) [] (K0 ++ T, I, RS G) (some (.int (rAgV s n m w (rAg s n cls du fd m ((n + 1) ^ m)))), (K0 ++ T, I', RS G)) ∧ I' 141 = s ∧ MF I I') := by
  have hn := hv.1
  have hn6 := hv.2.1
  have go : ∀ {R : Option Value × Hp}, ((0 ≤ y ∧ y ≤ 1) ∨ (10 ≤ y ∧ y ≤ 13)) → Ev X (d + 5) kX12_agenda 22 [some (.ref 140), some (.int x), some (.int y), none, none, none, none, none, none] [] (K0 ++ T, I, RS G) R → Ev X (d + 5) kX12_agenda 0 (ent kX12_agenda [.ref 140, .int x, .int y]) [] (K0 ++ T, I, RS G) R := by
    intro R h g
    (repeat refine Ev.p rfl rfl ?_)
    refine Ev.c rfl (m_in _ _ _ _) ?_
    by_cases h1 : 0 ≤ y ∧ y ≤ 1
    · rw [if_pos h1]
      (repeat (first | (refine Ev.at (q := 22) rfl ?_; exact g) | refine Ev.p rfl rfl ?_))
    · rw [if_neg h1]
      (repeat refine Ev.p rfl rfl ?_)
      refine Ev.c rfl (m_in _ _ _ _) ?_
      rw [if_pos (h.resolve_left h1)]
      (repeat (first | (refine Ev.at (q := 22) rfl ?_; exact g) | refine Ev.p rfl rfl ?_))
  refine ⟨fun h => ?_, fun h h2 => ?_, fun m w hw hy hm1 hm hx => ?_⟩
  · (repeat refine Ev.p rfl rfl ?_)
    refine Ev.c rfl (m_in _ _ _ _) ?_
    rw [if_neg (fun g => h (Or.inl g))]
    (repeat refine Ev.p rfl rfl ?_)
    refine Ev.c rfl (m_in _ _ _ _) ?_
    rw [if_neg (fun g => h (Or.inr g))]
    ((repeat refine Ev.p rfl rfl ?_); exact Ev.r rfl)
  · refine go h ?_
    (repeat refine Ev.p rfl rfl ?_)
    refine Ev.c rfl (m_in _ _ _ _) ?_
    rw [if_neg h2]
    ((repeat refine Ev.p rfl rfl ?_); exact Ev.r rfl)
  · subst hx
    have hw13 : w ≤ 13 := by rcases hw with rfl | rfl | ⟨j, hj, rfl⟩ <;> omega
    have hy2 : (0 ≤ y ∧ y ≤ 1) ∨ (10 ≤ y ∧ y ≤ 13) := by
      subst hy
      rcases hw with rfl | rfl | ⟨j, hj, rfl⟩
      · exact Or.inl (by decide)
      · exact Or.inl (by decide)
      · exact Or.inr ⟨nI_le (a := 10) (by omega) (by omega), nI_le (b := 13) (by omega) (by omega)⟩
    obtain ⟨P, hP⟩ : ∃ P, P = (n + 1) ^ m := ⟨_, rfl⟩
    have hp2 := pw_le (k := m) hn6 hm
    rw [← hP] at hp2 ⊢
    obtain ⟨res, hres⟩ : ∃ res, res = rAgV s n m w (rAg s n cls du fd m P) := ⟨_, rfl⟩
    rw [← hres]
    -- an evening behind another
    have li : ∀ (J1 : Nat → Nat → Int32) (b0 l0 m0 : Int32) (r : Nat), r < 3000 → DF J1 s hd du fd → ∀ mm k (J : Nat → Nat → Int32), k + mm = m → J 141 = rRw s n cls du fd m r k → FR PG J1 J → ∃ J2, J2 141 = rRw s n cls du fd m r m ∧ FR PG J1 J2 ∧ ∀ (R : Option Value × Hp) (b : Option Value), Ev X (d + 5) kX12_agenda 105 [some (.ref 140), some (.int (nI m)), some (.int y), some (.int b0), some (.int m0), some (.int l0), some (.int (nI r)), some (.int (nI m)), b] [] (K0 ++ T, J2, RS G) R → Ev X (d + 5) kX12_agenda 62 [some (.ref 140), some (.int (nI m)), some (.int y), some (.int b0), some (.int m0), some (.int l0), some (.int (nI r)), some (.int (nI k)), b] [] (K0 ++ T, J, RS G) R := by
      intro J1 b0 l0 m0 r hr hdf1 mm
      induction mm with
      | zero =>
        intro k J hk h1 h2
        have e : k = m := by omega
        subst e
        refine ⟨J, h1, h2, fun R b g => ?_⟩
        (repeat refine Ev.p rfl rfl ?_)
        refine Ev.bp rfl (fun c => ?_) (fun c => ?_)
        · (repeat (first | (refine Ev.at (q := 105) rfl ?_; exact g) | refine Ev.p rfl rfl ?_))
        · exact absurd (Int32.le_refl _) c
      | succ mm ih =>
        intro k J hk h1 h2
        have v1 := rRw_V hv du fd m r k (by omega)
        have al1 := rRw_al (s := s) hn6 cls du fd m r k
        obtain ⟨J3, g1, g2, g3⟩ := m_goes (X := X) (d := d) (T := T) (G := G) h1 v1 (hdf1.al al1 h2) (rDig_tk n r m k)
        obtain ⟨J2, e1, e2, e3⟩ := ih (k + 1) J3 (by omega) g2 (h2.tr g3)
        refine ⟨J2, e1, e2, fun R b g => ?_⟩
        have e4 := e3 R b g
        rw [nI_succ] at e4
        have hN : rRw s n cls du fd m r k 26 = nI n := v1.1
        (repeat refine Ev.p rfl rfl ?_)
        refine Ev.bp rfl (fun c => ?_) (fun c => ?_)
        · exact absurd c (nI_ge (by omega) (by omega))
        · (repeat refine Ev.p rfl rfl ?_)
          refine Ev.c rfl (m_partOf h1 hN hn6 hr hm (by omega)) ?_
          cases hdg : rDig n r m k with
          | none =>
            rw [hdg] at g1
            (repeat refine Ev.p rfl rfl ?_)
            refine Ev.c rfl g1 ?_
            (repeat (first | (refine Ev.at (q := 62) rfl ?_; exact e4) | refine Ev.p rfl rfl ?_))
          | some q =>
            rw [hdg] at g1
            have hq := rDig_lt hdg
            (repeat refine Ev.p rfl rfl ?_)
            refine Ev.bp rfl (fun c => ?_) (fun c => ?_)
            · (repeat refine Ev.p rfl rfl ?_)
              refine Ev.c rfl (m_partOf h1 hN hn6 hr hm (by omega)) ?_
              rw [hdg]
              refine Ev.c rfl g1 ?_
              (repeat (first | (refine Ev.at (q := 62) rfl ?_; exact e4) | refine Ev.p rfl rfl ?_))
            · exact absurd ((nI_eq (a := q) (b := 9) (by omega) (by omega)).mp (Decidable.not_not.mp c)) (by omega)
    have lo : ∀ mm r (J : Nat → Nat → Int32), r + mm = P → J 141 = s → MF I J → ∃ I', (∀ a b : Option Value, Ev X (d + 5) kX12_agenda 45 [some (.ref 140), some (.int (nI m)), some (.int y), some (.int (nI (rAg s n cls du fd m r).2.2)), some (.int (rAg s n cls du fd m r).1), some (.int (rAg s n cls du fd m r).2.1), some (.int (nI r)), a, b] [] (K0 ++ T, J, RS G) (some (.int res), (K0 ++ T, I', RS G))) ∧ I' 141 = s ∧ MF I I' := by
      intro mm
      induction mm with
      | zero =>
        intro r J hr h1 h2
        have e : r = P := by omega
        subst e
        refine ⟨J, fun a b => ?_, h1, h2⟩
        obtain ⟨ag, hag⟩ : ∃ ag, ag = rAg s n cls du fd m r := ⟨_, rfl⟩
        have hbest : ag.2.2 < 3000 := by
          have : ∀ z, (rAg s n cls du fd m z).2.2 ≤ z := by
            intro z
            induction z with
            | zero => exact Nat.le_refl _
            | succ z ih =>
              show (better _ _ _ z).2.2 ≤ z + 1
              unfold better
              split
              · exact Nat.le_succ _
              · split
                · exact Nat.le_succ _
                · omega
          have h9 := this r
          rw [← hag] at h9
          omega
        rw [← hag] at hres ⊢
        (repeat refine Ev.p rfl rfl ?_)
        refine Ev.c rfl (m_power h1 hn (k := m) (by omega)) ?_
        rw [rPw_nI, ← hP]
        (repeat refine Ev.p rfl rfl ?_)
        refine Ev.bp rfl (fun c => ?_) (fun c => ?_)
        · rcases hw with rfl | rfl | ⟨j, hj, rfl⟩
          · rw [show res = ag.1 from hres]
            subst hy
            ((repeat refine Ev.p rfl rfl ?_); exact Ev.r rfl)
          · rw [show res = ag.2.1 - s 1 from hres]
            subst hy
            (repeat refine Ev.p rfl rfl ?_)
            (refine Ev.iald (j := 1) rfl rfl rfl (by omega) (by omega) ?_; rw [h1])
            ((repeat refine Ev.p rfl rfl ?_); exact Ev.r rfl)
          · have e9 : res = if j < m then dv9 (rDig n ag.2.2 m j) else -5 := by
              rw [hres]
              unfold rAgV
              rw [if_neg (by omega), if_neg (by omega), show 10 + j - 10 = j by omega]
            have ej : nI (10 + j) - 10 = nI j := by
              have := pk_sub (a := 10 + j) (b := 10) (by omega)
              rw [show 10 + j - 10 = j by omega] at this
              exact this
            subst hy
            (repeat refine Ev.p rfl rfl ?_)
            refine Ev.bp rfl (fun c => ?_) (fun c => ?_)
            · (repeat refine Ev.p rfl rfl ?_)
              refine Ev.bp rfl (fun c => ?_) (fun c => ?_)
              · iterate 3 refine Ev.p rfl rfl ?_
                rw [ej]
                (repeat refine Ev.p rfl rfl ?_)
                refine Ev.bp rfl (fun c => ?_) (fun c => ?_)
                · rw [e9, if_neg (fun h => absurd c (nI_ge h (by omega)))]
                  ((repeat refine Ev.p rfl rfl ?_); exact Ev.r rfl)
                · have hjm : j < m := by
                    rcases Nat.lt_or_ge j m with h | h
                    · exact h
                    · exact absurd (nI_le h (by omega)) c
                  iterate 6 refine Ev.p rfl rfl ?_
                  rw [ej]
                  refine Ev.c rfl (m_partOf h1 hn hn6 hbest hm hjm) ?_
                  rw [e9, if_pos hjm]
                  ((repeat refine Ev.p rfl rfl ?_); exact Ev.r rfl)
              · exact absurd ((nI_eq (a := 10 + j) (b := 1) (by omega) (by omega)).mp (Decidable.not_not.mp c)) (by omega)
            · exact absurd ((nI_eq (a := 10 + j) (b := 0) (by omega) (by omega)).mp (Decidable.not_not.mp c)) (by omega)
        · exact absurd (Int32.le_refl _) c
      | succ mm ih =>
        intro r J hr h1 h2
        obtain ⟨J1, a1, a2, a3, a4⟩ := m_keeps (X := X) (d := d + 4) (T := T) (I := J) (G := G)
        obtain ⟨bst, hbst⟩ : ∃ b, b = nI (rAg s n cls du fd m r).2.2 := ⟨_, rfl⟩
        obtain ⟨mst, hmst⟩ : ∃ b, b = (rAg s n cls du fd m r).1 := ⟨_, rfl⟩
        obtain ⟨lst, hlst⟩ : ∃ b, b = (rAg s n cls du fd m r).2.1 := ⟨_, rfl⟩
        obtain ⟨J2, b1, b2, b3⟩ := li J1 bst lst mst r (by omega) (hdf.mf (fun _ _ => rfl) (h2.tr a3)) m 0 J1 (by omega) (a2.trans h1) (FR.rf J1)
        have al2 := rRw_al (s := s) hn6 cls du fd m r m
        have hN : rRw s n cls du fd m r m 26 = nI n := (al2 26 (by omega)).trans hn
        obtain ⟨J3, c1, c2, c3⟩ := m_back (X := X) (d := d + 4) (T := T) (I := I) (G := G) (s := s) (g := J 143) b1 al2 (by rw [b2 143 (by unfold PG; omega), a4, h1]) ((h2.tr a3).tr (PG.f b2))
        obtain ⟨I', e1, e2⟩ := ih (r + 1) J3 (by omega) c2 c3
        refine ⟨I', fun a b => ?_, e2⟩
        obtain ⟨mny, hmny⟩ : ∃ z, z = rC (rSO (rRw s n cls du fd m r m) n) 6 := ⟨_, rfl⟩
        obtain ⟨cst, hcst⟩ : ∃ z, z = rRw s n cls du fd m r m 1 := ⟨_, rfl⟩
        have hst : rAg s n cls du fd m (r + 1) = if mst < mny then (mny, cst, r) else if mny = mst ∧ cst < lst then (mny, cst, r) else rAg s n cls du fd m r := by
          rw [hmst, hlst, hmny, hcst]; rfl
        rw [nI_succ, hst] at e1
        rw [← hbst, ← hmst, ← hlst]
        (repeat refine Ev.p rfl rfl ?_)
        refine Ev.c rfl (m_power h1 hn (k := m) (by omega)) ?_
        rw [rPw_nI, ← hP]
        (repeat refine Ev.p rfl rfl ?_)
        refine Ev.bp rfl (fun c => ?_) (fun c => ?_)
        · exact absurd c (nI_ge (by omega) (by omega))
        · (repeat refine Ev.p rfl rfl ?_)
          refine Ev.c rfl a1 ?_
          have k105 : ∀ b : Option Value, Ev X (d + 5) kX12_agenda 105 [some (.ref 140), some (.int (nI m)), some (.int y), some (.int bst), some (.int mst), some (.int lst), some (.int (nI r)), some (.int (nI m)), b] [] (K0 ++ T, J2, RS G) (some (.int res), (K0 ++ T, I', RS G)) := by
            intro b
            (repeat refine Ev.p rfl rfl ?_)
            refine Ev.c rfl (m_settledOnes b1 hN hn6) ?_
            (repeat refine Ev.p rfl rfl ?_)
            refine Ev.c rfl (m_countOf _ _) ?_
            rw [← hmny]
            ((repeat refine Ev.p rfl rfl ?_); refine Ev.ls (ls2 := [_, _, _, _, _, _, _, _, _]) rfl ?_)
            (refine Ev.iald (j := 1) rfl rfl rfl (by omega) (by omega) ?_; rw [b1, ← hcst])
            ((repeat refine Ev.p rfl rfl ?_); refine Ev.ls (ls2 := [_, _, _, _, _, _, _, _, _]) rfl ?_)
            refine Ev.c rfl c1 ?_
            ((repeat refine Ev.p rfl rfl ?_); refine Ev.ls (ls2 := [_, _, _, _, _, _, _, _, _]) rfl ?_)
            refine Ev.bp rfl (fun c => ?_) (fun c => ?_)
            · simp only [if_pos c] at e1
              (repeat (first | (refine Ev.at (q := 45) rfl ?_; exact (e1 _ _)) | refine Ev.p rfl rfl ?_))
            · rw [if_neg c] at e1
              ((repeat refine Ev.p rfl rfl ?_); refine Ev.ls (ls2 := [_, _, _, _, _, _, _, _, _]) rfl ?_)
              refine Ev.bp rfl (fun c2 => ?_) (fun c2 => ?_)
              · rw [if_neg (fun h => c2 h.1), ← hbst, ← hmst, ← hlst] at e1
                (repeat (first | (refine Ev.at (q := 45) rfl ?_; exact (e1 _ _)) | refine Ev.p rfl rfl ?_))
              · ((repeat refine Ev.p rfl rfl ?_); refine Ev.ls (ls2 := [_, _, _, _, _, _, _, _, _]) rfl ?_)
                refine Ev.bp rfl (fun c3 => ?_) (fun c3 => ?_)
                · rw [if_neg (fun h => absurd c3 (Int32.not_le.mpr h.2)), ← hbst, ← hmst, ← hlst] at e1
                  (repeat (first | (refine Ev.at (q := 45) rfl ?_; exact (e1 _ _)) | refine Ev.p rfl rfl ?_))
                · simp only [if_pos (show mny = mst ∧ cst < lst from ⟨Decidable.not_not.mp c2, Int32.not_le.mp c3⟩)] at e1
                  (repeat (first | (refine Ev.at (q := 45) rfl ?_; exact (e1 _ _)) | refine Ev.p rfl rfl ?_))
          have g := b3 _ b (k105 b)
          (repeat (first | (refine Ev.at (q := 62) rfl ?_; exact g) | refine Ev.p rfl rfl ?_))
    obtain ⟨I', e1, e2⟩ := lo P 0 I (by omega) hI (MF.rf I)
    refine ⟨I', ?_, e2⟩
    refine go hy2 ?_
    (repeat refine Ev.p rfl rfl ?_)
    refine Ev.c rfl (m_in _ _ _ _) ?_
    rw [if_pos ⟨nI_le (a := 1) hm1 (by omega), nI_le (b := 4) hm (by omega)⟩]
    (repeat (first | (refine Ev.at (q := 45) rfl ?_; exact (e1 _ _)) | refine Ev.p rfl rfl ?_))
end AGENDA
