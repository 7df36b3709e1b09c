/-! THE REFERENCE: goes, goesOn -/
def tkV (tk : Option Nat) (n : Nat) (x : Int32) : Prop := match tk with
  | none => x < 0
  | some p => p < n ∧ x = nI p
theorem rTop_lt {s : Nat → Int32} {n : Nat} {cls : Cls} : ∀ (q p : Nat), (rTop s n cls q).1 = some p → p < q := by
  intro q
  induction q with
  | zero => intro p h; cases h
  | succ q ih =>
    intro p h
    simp only [rTop] at h
    generalize (if rRd s n q = true then rStir s n q cls else 0) = z at h
    split at h
    · have := ih p h; omega
    · cases h; omega
theorem rTop_tk (s : Nat → Int32) (n : Nat) (cls : Cls) : tkV (rTop s n cls n).1 n (tv (rTop s n cls n).1) := by
  cases h : (rTop s n cls n).1 with
  | none => show (-5 : Int32) < 0; decide
  | some p => exact ⟨rTop_lt n p h, rfl⟩
theorem rGq_al {s u : Nat → Int32} (h : AL s u) {q : Nat} (hq : q < 6) (f : Bool) (fd : Int32) : AL s (rGq u f fd q) := AL.up (AL.up (AL.up h (by omega) _) (by omega) _) (by omega) _
theorem rG_al {s u : Nat → Int32} (s' : Nat → Int32) (h : AL s u) (hr : Option Nat) (fd : Int32) : ∀ q, q ≤ 6 → AL s (rG s' u hr fd q) := by
  intro q
  induction q with
  | zero => intro _; exact h
  | succ q ih => intro hq; exact rGq_al (ih (by omega)) (by omega) _ _
theorem rG1_al (s : Nat → Int32) (n : Nat) (cls : Cls) (du : Int32) {hr : Option Nat} (h : ∀ p, hr = some p → p < 6) : AL s (rG1 s n cls du hr) := by
  cases hr with
  | none => exact fun _ _ => rfl
  | some p =>
    have := h p rfl
    exact AL.up (AL.up (fun _ _ => rfl) (by omega) _) (by omega) _
theorem rHr_some {s : Nat → Int32} {n : Nat} {tk : Option Nat} {p : Nat} (h : rHr s n tk = some p) : tk = some p ∧ rRd s n p = true := by
  cases tk with
  | none => cases h
  | some q =>
    unfold rHr at h
    dsimp only at h
    split at h
    · cases h; exact ⟨rfl, by assumption⟩
    · cases h
theorem rHr_lt {s : Nat → Int32} {n : Nat} {tk : Option Nat} {x : Int32} (hx : tkV tk n x) {p : Nat} (h : rHr s n tk = some p) : p < n ∧ x = nI p := by
  have := (rHr_some h).1
  subst this
  exact hx
theorem rGo_al {s : Nat → Int32} {n : Nat} (hn6 : n ≤ 6) (cls : Cls) (du fd : Int32) {tk : Option Nat} {x : Int32} (hx : tkV tk n x) : AL s (rGo s n cls du fd tk) := AL.up (rG_al s (rG1_al s n cls du (fun p hp => by have := (rHr_lt hx hp).1; omega)) _ fd n hn6) (by omega) _
theorem rG_0 (s u : Nat → Int32) (hr : Option Nat) (fd : Int32) : ∀ q, rG s u hr fd q 0 = u 0 := by
  intro q
  induction q with
  | zero => rfl
  | succ q ih =>
    rw [← ih]
    show gC (gA (upd _ (8 + q) _) q) q 0 = _
    unfold gC gA
    rw [upd_ne (by omega), upd_ne (by omega), upd_ne (by omega)]
theorem rGo_0 (s : Nat → Int32) (n : Nat) (cls : Cls) (du fd : Int32) (tk : Option Nat) : rGo s n cls du fd tk 0 = s 0 + 1 := by
  unfold rGo
  rw [upd_at, rG_0]
  cases rHr s n tk with
  | none => rfl
  | some p =>
    show rTalk s n p cls du 0 + 1 = _
    unfold rTalk
    rw [upd_ne (by omega), upd_ne (by omega)]
theorem rGo_V {s : Nat → Int32} {n : Nat} {hd : Option Nat} {cls : Cls} {e : Nat} (hv : SV s n hd cls e) (he : e + 1 < 1000000) (du fd : Int32) {tk : Option Nat} {x : Int32} (hx : tkV tk n x) : SV (rGo s n cls du fd tk) n hd cls (e + 1) := (rGo_al hv.2.1 cls du fd hx).V hv (by rw [rGo_0, hv.2.2.2.1, nI_succ]) he
def rOn (s : Nat → Int32) (n : Nat) (cls : Cls) (du fd : Int32) : Nat → (Nat → Int32)
  | 0 => s
  | k + 1 => rGo (rOn s n cls du fd k) n cls du fd (rTop (rOn s n cls du fd k) n cls n).1
theorem AL.tr {s u w : Nat → Int32} (h : AL s u) (h2 : AL u w) : AL s w := fun j hj => (h2 j hj).trans (h j hj)
theorem rOn_al {s : Nat → Int32} {n : Nat} (hn6 : n ≤ 6) (cls : Cls) (du fd : Int32) (k : Nat) : AL s (rOn s n cls du fd k) := by
  induction k with
  | zero => exact fun _ _ => rfl
  | succ k ih => exact ih.tr (rGo_al hn6 cls du fd (rTop_tk _ n cls))
theorem rOn_V {s : Nat → Int32} {n : Nat} {hd : Option Nat} {cls : Cls} {e : Nat} (hv : SV s n hd cls e) (du fd : Int32) : ∀ k, e + k < 1000000 → SV (rOn s n cls du fd k) n hd cls (e + k) := by
  intro k
  induction k with
  | zero => intro _; exact hv
  | succ k ih => intro h; exact rGo_V (ih (by omega)) (by omega) du fd (rTop_tk _ n cls)
theorem rOn_succ (s : Nat → Int32) (n : Nat) (cls : Cls) (du fd : Int32) (k : Nat) : rOn s n cls du fd (k + 1) = rOn (rGo s n cls du fd (rTop s n cls n).1) n cls du fd k := by
  induction k with
  | zero => rfl
  | succ k ih =>
    show rGo (rOn s n cls du fd (k + 1)) n cls du fd (rTop (rOn s n cls du fd (k + 1)) n cls n).1 = rGo (rOn _ n cls du fd k) n cls du fd (rTop (rOn _ n cls du fd k) n cls n).1
    rw [ih]
/-- what talk is due by, and how fast it fades -/
def DF (I : Nat → Nat → Int32) (s : Nat → Int32) (hd : Option Nat) (du fd : Int32) : Prop := (if I 140 5 = -1 then rT s hd 222 20 else I 140 5) = du ∧ rT s hd 227 1 = fd
theorem DF.al {I I' : Nat → Nat → Int32} {s u : Nat → Int32} {hd : Option Nat} {du fd : Int32} (h : DF I s hd du fd) (ha : AL s u) (hM : FR PG I I') : DF I' u hd du fd := by
  refine ⟨?_, ?_⟩
  · rw [ha.T (by omega), hM 140 (by unfold PG; omega)]; exact h.1
  · rw [ha.T (by omega)]; exact h.2
section GOES2
variable {X : Nat × (Nat → Int32)} {d : Nat} {T : List (Nat × Nat)} {I : Nat → Nat → Int32} {G : Nat → Nat → Option Nat} {s : Nat → Int32} {n p : Nat} {hd : Option Nat} {cls : Cls} {e : Nat} {du fd : Int32}
theorem okc_bI (b : Bool) : okc 22 (bI b) = true := by cases b <;> rfl
theorem gg_all (hn : s 26 = nI n) (hn6 : n ≤ 6) (hh : rHold s hd) (hfd : rT s hd 227 1 = fd) {hr : Option Nat} {x : Int32} (hx : ∀ p, hr = some p → p < 6 ∧ x = nI p) {u0 : Nat → Int32} (h0 : AL s u0) : ∀ m q (J : Nat → Nat → Int32), q + m = n → J 141 = rG s u0 hr fd q → (∀ j, j < n → J 147 j = bI (rOp s j)) → FR PG I J → GG X (d + 1) T I G x hr.isSome (upd (rG s u0 hr fd n) 0 (rG s u0 hr fd n 0 + 1)) J q := by
  intro m
  induction m with
  | zero =>
    intro q J hq h1 h2 h3
    have e : q = n := by omega
    subst e
    refine ⟨upI J 141 0 (rG s u0 hr fd q 0 + 1), fun a b => ?_, by rw [up143 h1], h3.tr (FR.up (by simp [PG]))⟩
    have hN : J 141 26 = nI q := by rw [h1, rG_al s h0 hr fd q hn6 26 (by omega), hn]
    (repeat refine Ev.p rfl rfl ?_)
    (refine Ev.iald (j := 26) rfl rfl rfl (by omega) (by omega) ?_; rw [hN])
    (repeat refine Ev.p rfl rfl ?_)
    refine Ev.bp rfl (fun c => ?_) (fun c => ?_)
    · (repeat refine Ev.p rfl rfl ?_)
      (refine Ev.iald (j := 0) rfl rfl rfl (by omega) (by omega) ?_; rw [h1])
      (repeat refine Ev.p rfl rfl ?_)
      refine Ev.iast (j := 0) rfl rfl rfl (by omega) (by omega) ?_
      ((repeat refine Ev.p rfl rfl ?_); exact Ev.r rfl)
    · exact absurd (Int32.le_refl _) c
  | succ m ih =>
    intro q J hq h1 h2 h3
    have ha := rG_al s h0 hr fd q (by omega)
    refine gg_step h1 ha hn hn6 (by omega) (h2 q (by omega)) hh hfd h3 (fun J' k1 k2 k3 => ?_)
    refine ih (q + 1) J' (by omega) ?_ (fun j hj => by rw [k2]; exact h2 j hj) k3
    rw [k1]
    show _ = rGq _ (rOp s q && !decide (hr = some q)) fd q
    congr 2
    cases hr with
    | none => rfl
    | some p =>
      obtain ⟨hp, e⟩ := hx p rfl
      subst e
      show (!(decide (nI q = nI p))) = !decide (some p = some q)
      congr 1
      rw [decide_eq_decide, nI_eq (by omega) (by omega), Option.some.injEq]
      exact eq_comm
theorem m_goes (hI : I 141 = s) (hv : SV s n hd cls e) (hdf : DF I s hd du fd) {tk : Option Nat} {x : Int32} (hx : tkV tk n x) : ∃ I', Ev X (d + 4) kX12_goes 0 (ent kX12_goes [.ref 140, .int x]) [] (K0 ++ T, I, RS G) (none, (K0 ++ T, I', RS G)) ∧ I' 141 = rGo s n cls du fd tk ∧ FR PG I I' := by
  have hn := hv.1
  have hn6 := hv.2.1
  have hh := hv.2.2.2.2.2.hold
  have hal : AL s (rG1 s n cls du (rHr s n tk)) := rG1_al s n cls du (fun p hp => by have := (rHr_lt hx hp).1; omega)
  have l1 : ∀ m q (J : Nat → Nat → Int32), q + m = n → J 141 = s → (∀ j, j < q → J 147 j = bI (rOp s j)) → FR PG I J → ∃ I', Ev X (d + 4) kX12_goes 20 [some (.ref 140), some (.int x), some (.int (bI (rHr s n tk).isSome)), some (.int (nI q)), none, none] [] (K0 ++ T, J, RS G) (none, (K0 ++ T, I', RS G)) ∧ I' 141 = rGo s n cls du fd tk ∧ FR PG I I' := by
    intro m
    induction m with
    | zero =>
      intro q J hq hI h1 h2
      have e : q = n := by omega
      subst e
      have k57 : ∀ J2, J2 141 = rG1 s q cls du (rHr s q tk) → J2 147 = J 147 → FR PG I J2 → ∃ I', (∀ a b : Option Value, Ev X (d + 4) kX12_goes 59 [some (.ref 140), some (.int x), some (.int (bI (rHr s q tk).isSome)), some (.int (nI 0)), a, b] [] (K0 ++ T, J2, RS G) (none, (K0 ++ T, I', RS G))) ∧ I' 141 = rGo s q cls du fd tk ∧ FR PG I I' := fun J2 g1 g2 g3 => gg_all (X := X) (d := d + 3) (T := T) (G := G) (I := I) hn hn6 hh hdf.2 (hr := rHr s q tk) (x := x) (fun p hp => by have := rHr_lt hx hp; exact ⟨by omega, this.2⟩) hal q 0 J2 (by omega) g1 (fun j hj => by rw [g2]; exact h1 j hj) g3
      cases hr : rHr s q tk with
      | none =>
        rw [hr] at k57
        obtain ⟨I', e1, e2⟩ := k57 J hI rfl h2
        refine ⟨I', ?_, e2⟩
        (repeat refine Ev.p rfl rfl ?_)
        (refine Ev.iald (j := 26) rfl rfl rfl (by omega) (by omega) ?_; rw [hI, hn])
        (repeat refine Ev.p rfl rfl ?_)
        refine Ev.bp rfl (fun c => ?_) (fun c => ?_)
        · (repeat (first | (refine Ev.at (q := 59) rfl ?_; exact (e1 _ _)) | refine Ev.p rfl rfl ?_))
        · exact absurd (Int32.le_refl _) c
      | some p =>
        rw [hr] at k57
        obtain ⟨p1, p2⟩ := rHr_lt hx hr
        subst p2
        obtain ⟨J2, f1, f2, f3, f4⟩ := m_talksOf (X := X) (d := d) (T := T) (G := G) (p := p) (du := du) hI hv (by omega) (by rw [h2 140 (by unfold PG; omega)]; exact hdf.1.symm)
        obtain ⟨I', e1, e2⟩ := k57 J2 f2 f4 (h2.tr f3)
        refine ⟨I', ?_, e2⟩
        (repeat refine Ev.p rfl rfl ?_)
        (refine Ev.iald (j := 26) rfl rfl rfl (by omega) (by omega) ?_; rw [hI, hn])
        (repeat refine Ev.p rfl rfl ?_)
        refine Ev.bp rfl (fun c => ?_) (fun c => ?_)
        · (repeat refine Ev.p rfl rfl ?_)
          refine Ev.c rfl f1 ?_
          (repeat (first | (refine Ev.at (q := 59) rfl ?_; exact (e1 _ _)) | refine Ev.p rfl rfl ?_))
        · exact absurd (Int32.le_refl _) c
    | succ m ih =>
      intro q J hq hI h1 h2
      obtain ⟨I', e1, e2⟩ := ih (q + 1) (upI J 147 q (bI (rOp s q))) (by omega) (by rw [upI_ne (by omega), hI]) (fun j hj => by
        rw [upI_eq]
        by_cases hjq : j = q
        · subst hjq; rw [upd_at]
        · rw [upd_ne hjq]; exact h1 j (by omega)) (h2.tr (FR.up (by simp [PG])))
      refine ⟨I', ?_, e2⟩
      rw [nI_succ] at e1
      (repeat refine Ev.p rfl rfl ?_)
      (refine Ev.iald (j := 26) rfl rfl rfl (by omega) (by omega) ?_; rw [hI, hn])
      (repeat refine Ev.p rfl rfl ?_)
      refine Ev.bp rfl (fun c => ?_) (fun c => ?_)
      · exact absurd c (nI_ge (by omega) (by omega))
      · (repeat refine Ev.p rfl rfl ?_)
        refine Ev.c rfl (m_isOpen hI (p := q) (by omega)) ?_
        refine Ev.bast (j := q) rfl rfl (Or.inr rfl) (okc_bI _) rfl (by omega) (by omega) ?_
        (repeat (first | (refine Ev.at (q := 20) rfl ?_; exact e1) | refine Ev.p rfl rfl ?_))
  obtain ⟨I', e1, e2⟩ := l1 n 0 I (by omega) hI (fun j hj => by omega) (FR.rf I)
  refine ⟨I', ?_, e2⟩
  cases tk with
  | none =>
    have hx : x < 0 := hx
    (repeat refine Ev.p rfl rfl ?_)
    refine Ev.bp rfl (fun c => ?_) (fun c => ?_)
    · (repeat (first | (refine Ev.at (q := 20) rfl ?_; exact e1) | refine Ev.p rfl rfl ?_))
    · exact absurd hx c
  | some p =>
    obtain ⟨hp, ex⟩ := hx
    subst ex
    (repeat refine Ev.p rfl rfl ?_)
    refine Ev.bp rfl (fun c => ?_) (fun c => ?_)
    · exact absurd c (nI_pos (by omega))
    · (repeat refine Ev.p rfl rfl ?_)
      refine Ev.c rfl (m_isReady hI hn hn6 (p := p) (by omega)) ?_
      cases hb : rRd s n p with
      | true =>
        rw [show rHr s n (some p) = some p from by unfold rHr; dsimp only; rw [hb]; rfl] at e1
        (repeat (first | (refine Ev.at (q := 20) rfl ?_; exact e1) | refine Ev.p rfl rfl ?_))
      | false =>
        rw [show rHr s n (some p) = none from by unfold rHr; dsimp only; rw [hb]; rfl] at e1
        (repeat (first | (refine Ev.at (q := 20) rfl ?_; exact e1) | refine Ev.p rfl rfl ?_))
theorem m_goesOn (hI : I 141 = s) (hv : SV s n hd cls e) (hdf : DF I s hd du fd) (k : Nat) (hk : e + k < 1000000) : ∃ I', Ev X (d + 5) kX12_goesOn 0 (ent kX12_goesOn [.ref 140, .int (nI k)]) [] (K0 ++ T, I, RS G) (none, (K0 ++ T, I', RS G)) ∧ I' 141 = rOn s n cls du fd k ∧ FR PG I I' := by
  have lp : ∀ m q (J : Nat → Nat → Int32), q + m = k → J 141 = rOn s n cls du fd q → FR PG I J → ∃ I', Ev X (d + 5) kX12_goesOn 2 [some (.ref 140), some (.int (nI k)), some (.int (nI q))] [] (K0 ++ T, J, RS G) (none, (K0 ++ T, I', RS G)) ∧ I' 141 = rOn s n cls du fd k ∧ FR PG I I' := by
    intro m
    induction m with
    | zero =>
      intro q J hq h1 h2
      have e : q = k := by omega
      subst e
      refine ⟨J, ?_, h1, h2⟩
      (repeat refine Ev.p rfl rfl ?_)
      refine Ev.bp rfl (fun c => ?_) (fun c => ?_)
      · ((repeat refine Ev.p rfl rfl ?_); exact Ev.r rfl)
      · exact absurd (Int32.le_refl _) c
    | succ m ih =>
      intro q J hq h1 h2
      have v1 := rOn_V hv du fd q (by omega)
      obtain ⟨J1, f1, f2, f3⟩ := m_topic (X := X) (d := d + 1) (T := T) (G := G) h1 v1
      have f4 : FR PG I J1 := h2.tr (f3.mo PS.g)
      obtain ⟨J2, g1, g2, g3⟩ := m_goes (X := X) (d := d) (T := T) (G := G) f2 v1 (hdf.al (rOn_al hv.2.1 cls du fd q) f4) (rTop_tk (rOn s n cls du fd q) n cls)
      obtain ⟨I', e1, e2⟩ := ih (q + 1) J2 (by omega) g2 (f4.tr g3)
      refine ⟨I', ?_, e2⟩
      rw [nI_succ] at e1
      (repeat refine Ev.p rfl rfl ?_)
      refine Ev.bp rfl (fun c => ?_) (fun c => ?_)
      · exact absurd c (nI_ge (by omega) (by omega))
      · (repeat refine Ev.p rfl rfl ?_)
        refine Ev.c rfl f1 ?_
        (repeat refine Ev.p rfl rfl ?_)
        refine Ev.c rfl g1 ?_
        (repeat (first | (refine Ev.at (q := 2) rfl ?_; exact e1) | refine Ev.p rfl rfl ?_))
  obtain ⟨I', e1, e2⟩ := lp k 0 I (by omega) hI (FR.rf I)
  refine ⟨I', ?_, e2⟩
  (repeat (first | (refine Ev.at (q := 2) rfl ?_; exact e1) | refine Ev.p rfl rfl ?_))
end GOES2
