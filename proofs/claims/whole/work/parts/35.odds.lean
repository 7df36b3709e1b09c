/-! THE REFERENCE: firm, lowest, odds, mean -/
theorem upd_upd (s : Nat → Int32) (j : Nat) (x y : Int32) : upd (upd s j x) j y = upd s j y := by
  funext k
  unfold upd
  by_cases h : k = j
  · rw [if_pos h, if_pos h]
  · rw [if_neg h, if_neg h, if_neg h]
theorem SS_v {s : Nat → Int32} {b p : Nat} (hs : SS s b) (hp : p < 6) (x : Int32) : SS (upd s (39 + p) x) b := by
  refine ⟨by rw [upd_ne (by omega)]; exact hs.1, hs.2.1, fun k hk => ?_⟩
  obtain ⟨q, hq, e⟩ := hs.2.2 k hk
  exact ⟨q, hq, by rw [upd_ne (by omega)]; exact e⟩
theorem rT_ge {s u : Nat → Int32} (h : ∀ j, 222 ≤ j → u j = s j) {hd : Option Nat} {w : Nat} (hw : 222 ≤ w) (no : Int32) : rT u hd w no = rT s hd w no := by
  cases hd with
  | none => rfl
  | some k => exact h _ (by omega)
theorem DF.v {I J : Nat → Nat → Int32} {s : Nat → Int32} {hd : Option Nat} {du fd : Int32} (h : DF I s hd du fd) (hM : MF I J) {p : Nat} (hp : p < 6) (x : Int32) : DF J (upd s (39 + p) x) hd du fd := by
  refine ⟨?_, ?_⟩
  · rw [rT_ge (s := s) (fun j hj => upd_ne (by omega)) (by omega), hM.2.2.2.2.2.1]; exact h.1
  · rw [rT_ge (s := s) (fun j hj => upd_ne (by omega)) (by omega)]; exact h.2
def rGcd (part a b : Nat) : Int64 := lN ((if part = 0 then a else b) / Nat.gcd a b)
def rOd (f : Nat → Bool) : Nat → Nat
  | 0 => 0
  | v + 1 => rOd f v + (if f (v + 1) = true then 1 else 0)
def rMs (s : Nat → Int32) : Nat → Nat
  | 0 => 0
  | q + 1 => rMs s q + (if rOp s q = true then (s (8 + q)).toNatClampNeg else 0)
def rMm (s : Nat → Int32) : Nat → Nat
  | 0 => 0
  | q + 1 => rMm s q + (if rOp s q = true then 1 else 0)
def LNO : Int64 := -9223372036854775808
section ODDS
variable {X : Nat × (Nat → Int32)} {d : Nat} {T : List (Nat × Nat)} {I : Nat → Nat → Int32} {G : Nat → Nat → Option Nat} {s : Nat → Int32} {n p : Nat} {hd : Option Nat} {cls : Cls} {e : Nat} {du fd : Int32} {b : Nat}
theorem m_firm (hI : I 141 = s) (hv : SV s n hd cls e) (hdf : DF I s hd du fd) (he : e ≤ 9999) (hs : SS s b) (x y : Int32) :
    (¬ (isM n x ∧ (0 ≤ y ∧ y ≤ 1)) → Ev X (d + 7) kX12_firm 0 (ent kX12_firm [.ref 140, .int x, .int y]) [] (K0 ++ T, I, RS G) (some (.int (-1)), (K0 ++ T, I, RS G))) ∧
    (∀ p w, p < n → x = nI p → w ≤ 1 → y = nI w → ∃ I', Ev X (d + 7) kX12_firm 0 (ent kX12_firm [.ref 140, .int x, .int y]) [] (K0 ++ T, I, RS G) (some (.int (if w = 0 then (da (fun v => rAll (upd s (39 + p) (nI v)) n cls du fd b) 10 9 (0, -5)).1 else (da (fun v => rAll (upd s (39 + p) (nI v)) n cls du fd b) 10 9 (0, -5)).2)), (K0 ++ T, I', RS G)) ∧ I' 141 = s ∧ MF I I') := by
  have hn := hv.1
  have hn6 := hv.2.1
  refine ⟨fun h => ?_, fun p w hp hx hw hy => ?_⟩
  · by_cases h1 : isM n x
    · (repeat refine Ev.p rfl rfl ?_)
      refine Ev.c rfl ((m_isM hI hn x).1 h1) ?_
      (repeat refine Ev.p rfl rfl ?_)
      refine Ev.c rfl (m_in _ _ _ _) ?_
      rw [if_neg (fun g => h ⟨h1, g⟩)]
      ((repeat refine Ev.p rfl rfl ?_); exact Ev.r rfl)
    · (repeat refine Ev.p rfl rfl ?_)
      refine Ev.c rfl ((m_isM hI hn x).2 h1) ?_
      ((repeat refine Ev.p rfl rfl ?_); exact Ev.r rfl)
  · subst hx
    obtain ⟨f, hf⟩ : ∃ f : Nat → Bool, f = (fun v => rAll (upd s (39 + p) (nI v)) n cls du fd b) := ⟨_, rfl⟩
    rw [← hf]
    have lp : ∀ m (a : Int32 × Int32) (J : Nat → Nat → Int32) (x9 : Int32), m ≤ 10 → J 141 = upd s (39 + p) x9 → MF I J → ∃ I', (∀ z : Option Value, Ev X (d + 7) kX12_firm 40 [some (.ref 140), some (.int (nI p)), some (.int y), some (.int (s (39 + p))), some (.int a.1), some (.int a.2), some (.int (nI m + (-1))), z] [] (K0 ++ T, J, RS G) (some (.int (if w = 0 then (da f m (m - 1) a).1 else (da f m (m - 1) a).2)), (K0 ++ T, I', RS G))) ∧ I' 141 = s ∧ MF I I' := by
      intro m
      induction m with
      | zero =>
        intro a J x9 hm h1 h2
        refine ⟨upI J 141 (39 + p) (s (39 + p)), fun z => ?_, by rw [up143 h1, upd_upd, upd_same], h2.tr (MF.up (by omega))⟩
        (repeat refine Ev.p rfl rfl ?_)
        refine Ev.iast (j := 39 + p) rfl rfl (nI_add 39 p) (by omega) (by omega) ?_
        rcases (by omega : w = 0 ∨ w = 1) with rfl | rfl <;> (subst hy; ((repeat refine Ev.p rfl rfl ?_); exact Ev.r rfl))
      | succ m ih =>
        intro a J x9 hm h1 h2
        obtain ⟨J1, hJ1⟩ : ∃ J1, J1 = upI J 141 (39 + p) (nI m) := ⟨_, rfl⟩
        have h3 : J1 141 = upd s (39 + p) (nI m) := by rw [hJ1, up143 h1, upd_upd]
        have h4 : MF I J1 := by rw [hJ1]; exact h2.tr (MF.up (by omega))
        obtain ⟨J2, a1, a2, a3⟩ := m_areAsSeen (X := X) (d := d) (T := T) (G := G) h3 (SV_v hv (by omega) (nI m)) (hdf.v h4 (by omega) (nI m)) he (SS_v hs (by omega) (nI m))
        have hfv : rAll (upd s (39 + p) (nI m)) n cls du fd b = f m := by rw [hf]
        rw [hfv] at a1
        obtain ⟨I', e1, e2⟩ := ih (if f m = true then (a.1 + 1, nI m) else a) J2 (nI m) (by omega) a2 (h4.tr a3)
        refine ⟨I', fun z => ?_, e2⟩
        have e3 : da f (m + 1) (m + 1 - 1) a = da f m (m - 1) (if f m = true then (a.1 + 1, nI m) else a) := rfl
        rw [e3, pk_m1 m]
        (repeat refine Ev.p rfl rfl ?_)
        refine Ev.bp rfl (fun c => ?_) (fun c => ?_)
        · exact absurd c (nI_pos (by omega))
        · (repeat refine Ev.p rfl rfl ?_)
          refine Ev.iast (j := 39 + p) rfl rfl (nI_add 39 p) (by omega) (by omega) ?_
          rw [← hJ1]
          (repeat refine Ev.p rfl rfl ?_)
          refine Ev.c rfl a1 ?_
          cases hfb : f m with
          | true =>
            simp only [hfb, if_true] at e1
            iterate 1 refine Ev.p rfl rfl ?_
            refine Ev.ls (ls2 := [_, _, _, _, _, _, _, _]) rfl ?_
            (repeat (first | (refine Ev.at (q := 40) rfl ?_; exact (e1 _)) | refine Ev.p rfl rfl ?_))
          | false =>
            simp only [hfb, Bool.false_eq_true, if_false] at e1
            rw [show some (Value.int a.1) = some (Value.int (a.1 + 0)) from by rw [Int32.add_zero]] at e1
            iterate 1 refine Ev.p rfl rfl ?_
            refine Ev.ls (ls2 := [_, _, _, _, _, _, _, _]) rfl ?_
            (repeat (first | (refine Ev.at (q := 40) rfl ?_; exact (e1 _)) | refine Ev.p rfl rfl ?_))
    obtain ⟨I', e1, e2⟩ := lp 10 (0, -5) I (s (39 + p)) (by omega) (by rw [hI, upd_same]) (MF.rf I)
    refine ⟨I', ?_, e2⟩
    (repeat refine Ev.p rfl rfl ?_)
    refine Ev.c rfl ((m_isM hI hn _).1 ((isM_iff hn6).mpr ⟨p, hp, rfl⟩)) ?_
    (repeat refine Ev.p rfl rfl ?_)
    refine Ev.c rfl (m_in _ _ _ _) ?_
    rw [if_pos (by subst hy; exact ⟨nI_pos' (by omega), nI_le (b := 1) hw (by omega)⟩)]
    (repeat refine Ev.p rfl rfl ?_)
    (refine Ev.iald (j := 39 + p) rfl rfl (nI_add 39 p) (by omega) (by omega) ?_; rw [hI])
    (repeat (first | (refine Ev.at (q := 40) rfl ?_; exact (e1 _)) | refine Ev.p rfl rfl ?_))
theorem m_lowest (h : Hp) {a b part : Nat} (ha : a < 2 ^ 31) (hb : 0 < b) (hb2 : b < 2 ^ 31) (hp : part ≤ 1) : Ev X d kX12_lowest 0 (ent kX12_lowest [.long (lN a), .long (lN b), .int (nI part)]) [] h (some (.long (rGcd part a b)), h) := by
  have lp : ∀ m y x : Nat, y ≤ m → x < 2 ^ 31 → y < 2 ^ 31 → 0 < Nat.gcd x y → Nat.gcd x y = Nat.gcd a b → ∀ z9 z10 : Option Value, Ev X d kX12_lowest 17 [some (.long (lN a)), none, some (.long (lN b)), none, some (.int (nI part)), some (.long (lN x)), none, some (.long (lN y)), none, z9, z10] [] h (some (.long (rGcd part a b)), h) := by
    intro m
    induction m with
    | zero =>
      intro y x hy hx hy2 hg hgc z9 z10
      have e : y = 0 := by omega
      subst e
      rw [Nat.gcd_zero_right] at hg hgc
      have hx0 : lN x ≠ 0 := fun h => by
        have := (pk_lEQ (a := x) (b := 0) (by omega) (by omega)).mp h
        omega
      rcases (by omega : part = 0 ∨ part = 1) with rfl | rfl
      · (repeat refine Ev.p rfl rfl ?_)
        refine Ev.ldv rfl hx0 ?_
        rw [pk_lDiv (by omega) hg (by omega)]
        rw [show rGcd 0 a b = lN (a / x) from by unfold rGcd; rw [if_pos rfl, hgc]]
        ((repeat refine Ev.p rfl rfl ?_); exact Ev.r rfl)
      · (repeat refine Ev.p rfl rfl ?_)
        refine Ev.ldv rfl hx0 ?_
        rw [pk_lDiv (by omega) hg (by omega)]
        rw [show rGcd 1 a b = lN (b / x) from by unfold rGcd; rw [if_neg (by omega), hgc]]
        ((repeat refine Ev.p rfl rfl ?_); exact Ev.r rfl)
    | succ m ih =>
      intro y x hy hx hy2 hg hgc z9 z10
      by_cases e : y = 0
      · subst e
        exact ih 0 x (by omega) hx hy2 hg hgc z9 z10
      · have hlt : x % y < y := Nat.mod_lt _ (by omega)
        have hg2 : Nat.gcd y (x % y) = Nat.gcd x y := by rw [Nat.gcd_comm y (x % y), ← Nat.gcd_rec, Nat.gcd_comm]
        have hy0 : lN y ≠ 0 := fun h => by
          have := (pk_lEQ (a := y) (b := 0) (by omega) (by omega)).mp h
          omega
        have g := ih (x % y) y (by omega) hy2 (by omega) (by rw [hg2]; exact hg) (by rw [hg2]; exact hgc)
        (repeat refine Ev.p rfl rfl ?_)
        refine Ev.bp rfl (fun c => absurd ((lg_cmp_eq _ _).mp c) hy0) (fun c => ?_)
        (repeat refine Ev.p rfl rfl ?_)
        refine Ev.lrm rfl hy0 ?_
        rw [pk_lRem (by omega) (by omega) (by omega)]
        (repeat (first | (refine Ev.at (q := 17) rfl ?_; exact (g _ _)) | refine Ev.p rfl rfl ?_))
  have hg : 0 < Nat.gcd a b := Nat.gcd_pos_of_pos_right _ hb
  have g := lp b b a (by omega) ha hb2 hg rfl none none
  (repeat refine Ev.p rfl rfl ?_)
  refine Ev.bp rfl (fun c => ?_) (fun c => ?_)
  · (repeat (first | (refine Ev.at (q := 17) rfl ?_; exact g) | refine Ev.p rfl rfl ?_))
  · exact absurd ((lg_cmp_ge _ _).mpr ((pk_lLE (a := 0) (b := a) (by omega) (by omega)).mpr (by omega))) c
def r01 (s : Nat → Int32) : Prop := ∀ q, q < 6 → s (14 + q) = 0 ∨ s (14 + q) = 1
theorem rG_14 (s u : Nat → Int32) (hr : Option Nat) (fd : Int32) {p : Nat} (hp : p < 6) : ∀ q, q ≤ 6 → rG s u hr fd q (14 + p) = u (14 + p) := by
  intro q
  induction q with
  | zero => intro _; rfl
  | succ q ih =>
    intro hq
    rw [← ih (by omega)]
    show gC (gA (upd _ (8 + q) _) q) q (14 + p) = _
    unfold gC gA
    rw [upd_ne (by omega), upd_ne (by omega), upd_ne (by omega)]
theorem rGo_01 {s : Nat → Int32} (h : r01 s) {n : Nat} (hn6 : n ≤ 6) (cls : Cls) (du fd : Int32) {tk : Option Nat} {x : Int32} (hx : tkV tk n x) : r01 (rGo s n cls du fd tk) := by
  intro q hq
  unfold rGo
  rw [upd_ne (by omega), rG_14 _ _ _ _ hq n hn6]
  cases hr : rHr s n tk with
  | none => exact h q hq
  | some p =>
    have := rHr_lt hx hr
    show rTalk s n p cls du (14 + q) = 0 ∨ rTalk s n p cls du (14 + q) = 1
    unfold rTalk
    by_cases hpq : q = p
    · subst hpq
      rw [upd_at]
      by_cases h9 : rTlk s n q cls < du
      · rw [if_pos h9]; exact Or.inl rfl
      · rw [if_neg h9]; exact Or.inr rfl
    · rw [upd_ne (by omega), upd_ne (by omega)]
      exact h q hq
theorem rOn_01 {s : Nat → Int32} (h : r01 s) {n : Nat} (hn6 : n ≤ 6) (cls : Cls) (du fd : Int32) (k : Nat) : r01 (rOn s n cls du fd k) := by
  induction k with
  | zero => exact h
  | succ k ih => exact rGo_01 ih hn6 cls du fd (rTop_tk _ n cls)
theorem rOd_le (f : Nat → Bool) : ∀ v, rOd f v ≤ v := by
  intro v
  induction v with
  | zero => exact Nat.le_refl _
  | succ v ih =>
    show rOd f v + (if f (v + 1) = true then 1 else 0) ≤ v + 1
    split <;> omega
theorem m_odds (hI : I 141 = s) (hv : SV s n hd cls e) (h5 : I 140 5 = -1) (hfd : rT s hd 227 1 = fd) (he : e ≤ 9999) (h01 : r01 s) (x y z : Int32) :
    (¬ (isM n x ∧ (0 ≤ y ∧ y ≤ 60) ∧ (0 ≤ z ∧ z ≤ 1)) → Ev X (d + 6) kX12_odds 0 (ent kX12_odds [.ref 140, .int x, .int y, .int z]) [] (K0 ++ T, I, RS G) (some (.long LNO), (K0 ++ T, I, RS G))) ∧
    (∀ p k part, p < n → x = nI p → k ≤ 60 → y = nI k → part ≤ 1 → z = nI part → ∃ I', Ev X (d + 6) kX12_odds 0 (ent kX12_odds [.ref 140, .int x, .int y, .int z]) [] (K0 ++ T, I, RS G) (some (.long (rGcd part (rOd (fun v => rSet s n cls (nI v) fd p k) 30) 30)), (K0 ++ T, I', RS G)) ∧ I' 141 = s ∧ MF I I') := by
  have hn := hv.1
  have hn6 := hv.2.1
  refine ⟨fun h => ?_, fun p k part hp hx hk hy hpt hz => ?_⟩
  · by_cases h1 : isM n x
    · by_cases h2 : 0 ≤ y ∧ y ≤ 60
      · (repeat refine Ev.p rfl rfl ?_)
        refine Ev.c rfl ((m_isM hI hn x).1 h1) ?_
        (repeat refine Ev.p rfl rfl ?_)
        refine Ev.c rfl (m_in _ _ _ _) ?_
        rw [if_pos h2]
        (repeat refine Ev.p rfl rfl ?_)
        refine Ev.c rfl (m_in _ _ _ _) ?_
        rw [if_neg (fun g => h ⟨h1, h2, g⟩)]
        ((repeat refine Ev.p rfl rfl ?_); exact Ev.r rfl)
      · (repeat refine Ev.p rfl rfl ?_)
        refine Ev.c rfl ((m_isM hI hn x).1 h1) ?_
        (repeat refine Ev.p rfl rfl ?_)
        refine Ev.c rfl (m_in _ _ _ _) ?_
        rw [if_neg h2]
        ((repeat refine Ev.p rfl rfl ?_); exact Ev.r rfl)
    · (repeat refine Ev.p rfl rfl ?_)
      refine Ev.c rfl ((m_isM hI hn x).2 h1) ?_
      ((repeat refine Ev.p rfl rfl ?_); exact Ev.r rfl)
  · subst hx
    obtain ⟨f, hf⟩ : ∃ f : Nat → Bool, f = (fun v => rSet s n cls (nI v) fd p k) := ⟨_, rfl⟩
    rw [← hf]
    have lp : ∀ m v (J : Nat → Nat → Int32), v + m = 30 → J 141 = s → MT I J → ∃ I', Ev X (d + 6) kX12_odds 37 [some (.ref 140), some (.int (nI p)), some (.int y), some (.int z), some (.long (lN (rOd f v))), none, some (.int (nI (v + 1)))] [] (K0 ++ T, J, RS G) (some (.long (rGcd part (rOd f 30) 30)), (K0 ++ T, I', RS G)) ∧ I' 141 = s ∧ MF I I' := by
      intro m
      induction m with
      | zero =>
        intro v J hm h1 h2
        have e : v = 30 := by omega
        subst e
        refine ⟨upI J 140 5 (-1), ?_, by rw [upI_ne (by omega), h1], (h2.up (-1)).mf (by rw [upI_eq, upd_at, h5])⟩
        subst hz
        (repeat refine Ev.p rfl rfl ?_)
        have := rOd_le f 30
        refine Ev.c rfl (m_lowest (b := 30) _ (by omega) (by omega) (by omega) hpt) ?_
        ((repeat refine Ev.p rfl rfl ?_); exact Ev.r rfl)
      | succ m ih =>
        intro v J hm h1 h2
        obtain ⟨J1, hJ1⟩ : ∃ J1, J1 = upI J 140 5 (nI (v + 1)) := ⟨_, rfl⟩
        have h3 : J1 141 = s := by rw [hJ1, upI_ne (by omega), h1]
        have h4 : MT I J1 := by rw [hJ1]; exact h2.up _
        have hdf : DF J1 s hd (nI (v + 1)) fd := by
          refine ⟨?_, hfd⟩
          rw [hJ1, upI_eq, upd_at, if_neg (nI_nem1 (by omega))]
        obtain ⟨J2, a1, a2, a3, a4⟩ := m_keeps (X := X) (d := d + 5) (T := T) (I := J1) (G := G)
        obtain ⟨J3, b1, b2, b3⟩ := m_goesOn (X := X) (d := d) (T := T) (G := G) (a2.trans h3) hv (hdf.mf (fun _ _ => rfl) a3) k (by omega)
        have hal : AL s (rOn s n cls (nI (v + 1)) fd k) := rOn_al hn6 cls _ fd k
        obtain ⟨J4, c1, c2, c3⟩ := m_back (X := X) (d := d + 5) (T := T) (I := J1) (G := G) (s := s) (g := J1 143) b2 hal (by rw [b3 143 (by unfold PG; omega), a4, h3]) (a3.tr (PG.f b3))
        obtain ⟨I', e1, e2⟩ := ih (v + 1) J4 (by omega) c2 (h4.tr c3)
        refine ⟨I', ?_, e2⟩
        have hs14 : (rOn s n cls (nI (v + 1)) fd k (14 + p)).toInt64 = lN (if f (v + 1) = true then 1 else 0) := by
          have hfv : f (v + 1) = decide (rOn s n cls (nI (v + 1)) fd k (14 + p) = 1) := by rw [hf]; rfl
          rw [hfv]
          rcases rOn_01 h01 hn6 cls (nI (v + 1)) fd k p (by omega) with h | h <;> rw [h] <;> decide
        have hsum : lN (rOd f v) + lN (if f (v + 1) = true then 1 else 0) = lN (rOd f (v + 1)) := by rw [lN_add]; rfl
        rw [nI_succ] at e1
        (repeat refine Ev.p rfl rfl ?_)
        refine Ev.bp rfl (fun c => ?_) (fun c => ?_)
        · exact absurd c (nI_nlt (a := 30) (b := v + 1) (by omega) (by omega))
        · (repeat refine Ev.p rfl rfl ?_)
          rw [← hJ1]
          refine Ev.c rfl a1 ?_
          subst hy
          (repeat refine Ev.p rfl rfl ?_)
          refine Ev.c rfl b1 ?_
          (repeat refine Ev.p rfl rfl ?_)
          (refine Ev.iald (j := 14 + p) rfl rfl (nI_add 14 p) (by omega) (by omega) ?_; rw [b2])
          iterate 1 refine Ev.p rfl rfl ?_
          rw [hs14]
          iterate 1 refine Ev.p rfl rfl ?_
          rw [hsum]
          (repeat refine Ev.p rfl rfl ?_)
          refine Ev.c rfl c1 ?_
          (repeat (first | (refine Ev.at (q := 37) rfl ?_; exact e1) | refine Ev.p rfl rfl ?_))
    obtain ⟨I', e1, e2⟩ := lp 30 0 I (by omega) hI (MT.of (MF.rf I))
    refine ⟨I', ?_, e2⟩
    (repeat refine Ev.p rfl rfl ?_)
    refine Ev.c rfl ((m_isM hI hn _).1 ((isM_iff hn6).mpr ⟨p, hp, rfl⟩)) ?_
    (repeat refine Ev.p rfl rfl ?_)
    refine Ev.c rfl (m_in _ _ _ _) ?_
    rw [if_pos (by subst hy; exact ⟨nI_pos' (by omega), nI_le (b := 60) hk (by omega)⟩)]
    (repeat refine Ev.p rfl rfl ?_)
    refine Ev.c rfl (m_in _ _ _ _) ?_
    rw [if_pos (by subst hz; exact ⟨nI_pos' (by omega), nI_le (b := 1) hpt (by omega)⟩)]
    (repeat (first | (refine Ev.at (q := 37) rfl ?_; exact e1) | refine Ev.p rfl rfl ?_))
theorem m_mean (hI : I 141 = s) (hn : s 26 = nI n) (hn6 : n ≤ 6) (ht : ∀ q, q < 6 → ∃ t, t ≤ 99 ∧ s (8 + q) = nI t) (x : Int32) :
    (¬ (0 ≤ x ∧ x ≤ 1) ∨ rMm s n = 0 → Ev X (d + 1) kX12_mean 0 (ent kX12_mean [.ref 140, .int x]) [] (K0 ++ T, I, RS G) (some (.long LNO), (K0 ++ T, I, RS G))) ∧
    (∀ part, part ≤ 1 → x = nI part → 0 < rMm s n → Ev X (d + 1) kX12_mean 0 (ent kX12_mean [.ref 140, .int x]) [] (K0 ++ T, I, RS G) (some (.long (rGcd part (rMs s n) (rMm s n))), (K0 ++ T, I, RS G))) := by
  have go : ∀ (R : Option Value × Hp), (∀ l : Nat, l = n → Ev X (d + 1) kX12_mean 72 [some (.ref 140), some (.int x), some (.long (lN (rMs s n))), none, some (.long (lN (rMm s n))), none, some (.int (nI n))] [] (K0 ++ T, I, RS G) R) → Ev X (d + 1) kX12_mean 0 (ent kX12_mean [.ref 140, .int x]) [] (K0 ++ T, I, RS G) R := by
    intro R g
    have lp : ∀ m q, q + m = n → Ev X (d + 1) kX12_mean 8 [some (.ref 140), some (.int x), some (.long (lN (rMs s q))), none, some (.long (lN (rMm s q))), none, some (.int (nI q))] [] (K0 ++ T, I, RS G) R := by
      intro m
      induction m with
      | zero =>
        intro q hq
        have e : q = n := by omega
        subst e
        have g2 := g q rfl
        (repeat refine Ev.p rfl rfl ?_)
        (refine Ev.iald (j := 26) rfl rfl rfl (by omega) (by omega) ?_; rw [hI, hn])
        (repeat refine Ev.p rfl rfl ?_)
        refine Ev.bp rfl (fun c => ?_) (fun c => ?_)
        · (repeat (first | (refine Ev.at (q := 72) rfl ?_; exact g2) | refine Ev.p rfl rfl ?_))
        · exact absurd (Int32.le_refl _) c
      | succ m ih =>
        intro q hq
        have h9 := ih (q + 1) (by omega)
        obtain ⟨t, ht1, ht2⟩ := ht q (by omega)
        rw [nI_succ] at h9
        (repeat refine Ev.p rfl rfl ?_)
        (refine Ev.iald (j := 26) rfl rfl rfl (by omega) (by omega) ?_; rw [hI, hn])
        (repeat refine Ev.p rfl rfl ?_)
        refine Ev.bp rfl (fun c => ?_) (fun c => ?_)
        · exact absurd c (nI_ge (by omega) (by omega))
        · (repeat refine Ev.p rfl rfl ?_)
          refine Ev.c rfl (m_isOpen hI (p := q) (by omega)) ?_
          cases ho : rOp s q with
          | true =>
            rw [show rMs s (q + 1) = rMs s q + t from by show rMs s q + (if rOp s q = true then _ else 0) = _; rw [ho, if_pos rfl, ht2, nI_clamp (by omega)], show rMm s (q + 1) = rMm s q + 1 from by show rMm s q + (if rOp s q = true then 1 else 0) = _; rw [ho, if_pos rfl], ← lN_add, ← lN_add] at h9
            (repeat refine Ev.p rfl rfl ?_)
            (refine Ev.iald (j := 8 + q) rfl rfl (nI_add 8 q) (by omega) (by omega) ?_; rw [hI])
            rw [ht2]
            iterate 1 refine Ev.p rfl rfl ?_
            rw [nI_l (by omega)]
            (repeat refine Ev.p rfl rfl ?_)
            refine Ev.c rfl (m_isOpen hI (p := q) (by omega)) ?_
            rw [ho]
            (repeat (first | (refine Ev.at (q := 8) rfl ?_; exact h9) | refine Ev.p rfl rfl ?_))
          | false =>
            rw [show rMs s (q + 1) = rMs s q + 0 from by show rMs s q + (if rOp s q = true then _ else 0) = _; rw [ho, if_neg (by decide)], show rMm s (q + 1) = rMm s q + 0 from by show rMm s q + (if rOp s q = true then 1 else 0) = _; rw [ho, if_neg (by decide)], ← lN_add, ← lN_add] at h9
            (repeat refine Ev.p rfl rfl ?_)
            refine Ev.c rfl (m_isOpen hI (p := q) (by omega)) ?_
            rw [ho]
            (repeat (first | (refine Ev.at (q := 8) rfl ?_; exact h9) | refine Ev.p rfl rfl ?_))
    have h9 := lp n 0 (by omega)
    (repeat (first | (refine Ev.at (q := 8) rfl ?_; exact h9) | refine Ev.p rfl rfl ?_))
  have hms : rMs s n < 2 ^ 31 ∧ rMm s n < 2 ^ 31 := by
    have : ∀ q, q ≤ n → rMs s q ≤ 99 * q ∧ rMm s q ≤ q := by
      intro q
      induction q with
      | zero => intro _; exact ⟨Nat.le_refl _, Nat.le_refl _⟩
      | succ q ih =>
        intro hq
        obtain ⟨t, ht1, ht2⟩ := ht q (by omega)
        have := ih (by omega)
        show rMs s q + _ ≤ _ ∧ rMm s q + _ ≤ _
        rw [ht2, nI_clamp (by omega)]
        split <;> omega
    have := this n (Nat.le_refl _)
    omega
  refine ⟨fun h => go _ (fun _ _ => ?_), fun part hp hx h0 => go _ (fun _ _ => ?_)⟩
  · (repeat refine Ev.p rfl rfl ?_)
    refine Ev.c rfl (m_in _ _ _ _) ?_
    by_cases h1 : 0 ≤ x ∧ x ≤ 1
    · rw [if_pos h1, h.resolve_left (fun g => g h1)]
      ((repeat refine Ev.p rfl rfl ?_); exact Ev.r rfl)
    · rw [if_neg h1]
      ((repeat refine Ev.p rfl rfl ?_); exact Ev.r rfl)
  · subst hx
    (repeat refine Ev.p rfl rfl ?_)
    refine Ev.c rfl (m_in _ _ _ _) ?_
    rw [if_pos ⟨nI_pos' (by omega), nI_le (b := 1) hp (by omega)⟩]
    (repeat refine Ev.p rfl rfl ?_)
    refine Ev.bp rfl (fun c => ?_) (fun c => absurd (fun h => ?_) c)
    · (repeat refine Ev.p rfl rfl ?_)
      refine Ev.c rfl (m_lowest _ hms.1 h0 hms.2 hp) ?_
      ((repeat refine Ev.p rfl rfl ?_); exact Ev.r rfl)
    · have := (pk_lEQ (a := rMm s n) (b := 0) (by omega) (by omega)).mp ((lg_cmp_eq _ _).mp h)
      omega
end ODDS
