/-! THE REFERENCE: what is seen; dues, firm -/
def rAs (s u : Nat → Int32) (x : Int32) : Nat → Bool
  | 0 => true
  | k + 1 => rAs s u x k && (!decide (s (80 + k) = x) || decide (u (14 + (s (75 + k)).toNatClampNeg) = s (85 + k)))
/-- f holds from q on, m times -/
def fa (f : Nat → Bool) : Nat → Nat → Bool
  | 0, _ => true
  | m + 1, q => f q && fa f m (q + 1)
/-- all of SEEN is so -/
def rAll (s : Nat → Int32) (n : Nat) (cls : Cls) (du fd : Int32) (b : Nat) : Bool := fa (fun k => rAs s (rOn s n cls du fd k) (nI k) b) 21 0
/-- how many, and the least, from v down -/
def da (f : Nat → Bool) : Nat → Nat → Int32 × Int32 → Int32 × Int32
  | 0, _, a => a
  | m + 1, v, a => da f m (v - 1) (if f v = true then (a.1 + 1, nI v) else a)
/-- what is SEEN -/
def SS (s : Nat → Int32) (b : Nat) : Prop := s 28 = nI b ∧ b ≤ 5 ∧ ∀ k, k < b → ∃ p, p < 6 ∧ s (75 + k) = nI p
theorem SS.al {s u : Nat → Int32} (h : AL s u) {b : Nat} (hs : SS s b) : SS u b := by
  refine ⟨(h 28 (by omega)).trans hs.1, hs.2.1, fun k hk => ?_⟩
  obtain ⟨p, hp, e⟩ := hs.2.2 k hk
  exact ⟨p, hp, (h _ (by omega)).trans e⟩
theorem rAs_al {s u w : Nat → Int32} (h : AL s w) (x : Int32) : ∀ b, rAs w u x b = rAs s u x b := by
  intro b
  induction b with
  | zero => rfl
  | succ b ih =>
    show (rAs w u x b && _) = (rAs s u x b && _)
    rw [ih, h (80 + b) (by omega), h (75 + b) (by omega), h (85 + b) (by omega)]
/-- all but what is tried -/
def MT (I J : Nat → Nat → Int32) : Prop := MF (upI I 140 5 (J 140 5)) J
theorem upI_id (I : Nat → Nat → Int32) (p j : Nat) : upI I p j (I p j) = I := by
  funext q k
  unfold upI
  split
  · rename_i h; rw [h.1, h.2]
  · rfl
theorem MT.of {I J : Nat → Nat → Int32} (h : MF I J) : MT I J := by
  unfold MT
  rw [h.2.2.2.2.2.1, upI_id]
  exact h
theorem MT.mf {I J : Nat → Nat → Int32} (h : MT I J) (e : J 140 5 = I 140 5) : MF I J := by
  unfold MT at h
  rw [e, upI_id] at h
  exact h
theorem MT.tr {I J J' : Nat → Nat → Int32} (h : MT I J) (h' : MF J J') : MT I J' := by
  unfold MT
  rw [h'.2.2.2.2.2.1]
  exact MF.tr h h'
theorem upI_upI (I : Nat → Nat → Int32) (p j : Nat) (x y : Int32) : upI (upI I p j x) p j y = upI I p j y := by
  funext q k
  unfold upI
  split
  · rfl
  · rfl
theorem MF.up2 {A B : Nat → Nat → Int32} (h : MF A B) (x : Int32) : MF (upI A 140 5 x) (upI B 140 5 x) := by
  obtain ⟨h1, h2, h3, h4, h5, h6, h7⟩ := h
  refine ⟨fun q hq => ?_, fun q hq => ?_, ?_, ?_, ?_, ?_, ?_⟩
  · rw [upI_ne (by omega), upI_ne (by omega)]; exact h1 q hq
  · rw [upI_ne (by omega), upI_ne (by omega)]; exact h2 q hq
  · rw [upI_ne (by omega), upI_ne (by omega)]; exact h3
  · rw [upI_ne (by omega), upI_ne (by omega)]; exact h4
  · rw [upI_eq, upI_eq, upd_ne (by omega), upd_ne (by omega)]; exact h5
  · rw [upI_eq, upI_eq, upd_at, upd_at]
  · rw [upI_eq, upI_eq, upd_ne (by omega), upd_ne (by omega)]; exact h7
theorem MT.up {I J : Nat → Nat → Int32} (h : MT I J) (x : Int32) : MT I (upI J 140 5 x) := by
  unfold MT at h ⊢
  have h2 := MF.up2 h x
  rw [upI_upI] at h2
  rw [show upI J 140 5 x 140 5 = x from by rw [upI_eq, upd_at]]
  exact h2
theorem SV_v {s : Nat → Int32} {n : Nat} {hd : Option Nat} {cls : Cls} {e p : Nat} (hv : SV s n hd cls e) (hp : p < 6) (x : Int32) : SV (upd s (39 + p) x) n hd cls e := by
  obtain ⟨a1, a2, a3, a4, a5, a6⟩ := hv
  refine ⟨by rw [upd_ne (by omega)]; exact a1, a2, fun q hq => ?_, by rw [upd_ne (by omega)]; exact a4, a5, ?_⟩
  · obtain ⟨kk, k1, k2⟩ := a3 q hq
    exact ⟨kk, k1, by rw [upd_ne (by omega)]; exact k2⟩
  · cases hd with
    | none => exact ⟨by rw [upd_ne (by omega)]; exact a6.1, a6.2⟩
    | some k =>
      obtain ⟨h1, h2, h3, h4, h5, h6⟩ := a6
      exact ⟨by rw [upd_ne (by omega)]; exact h1, h2, by rw [upd_ne (by omega)]; exact h3, h4, fun j z hj => by rw [upd_ne (by omega)]; exact h5 j z hj, h6⟩
section SEEN
variable {X : Nat × (Nat → Int32)} {d : Nat} {T : List (Nat × Nat)} {I : Nat → Nat → Int32} {G : Nat → Nat → Option Nat} {s : Nat → Int32} {n p : Nat} {hd : Option Nat} {cls : Cls} {e : Nat} {du fd : Int32} {b : Nat}
theorem m_isAsSeen (hI : I 141 = s) (hs : SS s b) (x : Int32) : Ev X d kX12_isAsSeen 0 (ent kX12_isAsSeen [.ref 140, .int x]) [] (K0 ++ T, I, RS G) (some (.int (bI (rAs s s x b))), (K0 ++ T, I, RS G)) := by
  have lp : ∀ m q, q + m = b → Ev X d kX12_isAsSeen 4 [some (.ref 140), some (.int x), some (.int (bI (rAs s s x q))), some (.int (nI q))] [] (K0 ++ T, I, RS G) (some (.int (bI (rAs s s x b))), (K0 ++ T, I, RS G)) := by
    intro m
    induction m with
    | zero =>
      intro q hq
      have e : q = b := by omega
      subst e
      (repeat refine Ev.p rfl rfl ?_)
      (refine Ev.iald (j := 28) rfl rfl rfl (by omega) (by omega) ?_; rw [hI, hs.1])
      (repeat refine Ev.p rfl rfl ?_)
      refine Ev.bp rfl (fun c => ?_) (fun c => ?_)
      · iterate 1 refine Ev.p rfl rfl ?_
        refine Ev.r ?_
        show (bif nfit .boolean (bI (rAs s s x q)) then _ else none) = _
        cases rAs s s x q <;> rfl
      · exact absurd (Int32.le_refl _) c
    | succ m ih =>
      intro q hq
      have h9 := ih (q + 1) (by omega)
      obtain ⟨p, hp, ep⟩ := hs.2.2 q (by omega)
      have hb5 := hs.2.1
      rw [nI_succ, show rAs s s x (q + 1) = (rAs s s x q && (!decide (s (80 + q) = x) || decide (s (14 + p) = s (85 + q)))) from by
        show (rAs s s x q && (!decide (s (80 + q) = x) || decide (s (14 + (s (75 + q)).toNatClampNeg) = s (85 + q)))) = _
        rw [ep, nI_clamp (by omega)]] at h9
      (repeat refine Ev.p rfl rfl ?_)
      (refine Ev.iald (j := 28) rfl rfl rfl (by omega) (by omega) ?_; rw [hI, hs.1])
      (repeat refine Ev.p rfl rfl ?_)
      refine Ev.bp rfl (fun c => ?_) (fun c => ?_)
      · exact absurd c (nI_ge (by omega) (by omega))
      · cases hw : rAs s s x q with
        | false =>
          rw [hw] at h9
          (repeat (first | (refine Ev.at (q := 4) rfl ?_; exact h9) | refine Ev.p rfl rfl ?_))
        | true =>
          rw [hw] at h9
          (repeat refine Ev.p rfl rfl ?_)
          (refine Ev.iald (j := 80 + q) rfl rfl (nI_add 80 q) (by omega) (by omega) ?_; rw [hI])
          (repeat refine Ev.p rfl rfl ?_)
          refine Ev.bp rfl (fun c => ?_) (fun c => ?_)
          · rw [decide_eq_false c] at h9
            (repeat (first | (refine Ev.at (q := 4) rfl ?_; exact h9) | refine Ev.p rfl rfl ?_))
          · rw [decide_eq_true (Decidable.not_not.mp c)] at h9
            (repeat refine Ev.p rfl rfl ?_)
            (refine Ev.iald (j := 75 + q) rfl rfl (nI_add 75 q) (by omega) (by omega) ?_; rw [hI])
            rw [ep]
            iterate 1 refine Ev.p rfl rfl ?_
            (refine Ev.iald (j := 14 + p) rfl rfl (nI_add 14 p) (by omega) (by omega) ?_; rw [hI])
            (repeat refine Ev.p rfl rfl ?_)
            (refine Ev.iald (j := 85 + q) rfl rfl (nI_add 85 q) (by omega) (by omega) ?_; rw [hI])
            (repeat refine Ev.p rfl rfl ?_)
            refine Ev.bp rfl (fun c => ?_) (fun c => ?_)
            · rw [decide_eq_false c] at h9
              (repeat (first | (refine Ev.at (q := 4) rfl ?_; exact h9) | refine Ev.p rfl rfl ?_))
            · rw [decide_eq_true (Decidable.not_not.mp c)] at h9
              (repeat (first | (refine Ev.at (q := 4) rfl ?_; exact h9) | refine Ev.p rfl rfl ?_))
  have h9 := lp b 0 (by omega)
  (repeat (first | (refine Ev.at (q := 4) rfl ?_; exact h9) | refine Ev.p rfl rfl ?_))
theorem m_areAsSeen (hI : I 141 = s) (hv : SV s n hd cls e) (hdf : DF I s hd du fd) (he : e ≤ 9999) (hs : SS s b) : ∃ I', Ev X (d + 6) kX12_areAsSeen 0 (ent kX12_areAsSeen [.ref 140]) [] (K0 ++ T, I, RS G) (some (.int (bI (rAll s n cls du fd b))), (K0 ++ T, I', RS G)) ∧ I' 141 = s ∧ MF I I' := by
  have hn := hv.1
  have hn6 := hv.2.1
  obtain ⟨J, a1, a2, a3, a4⟩ := m_keeps (X := X) (d := d + 5) (T := T) (I := I) (G := G)
  have fin : ∀ (q : Nat) (r : Bool) (J2 : Nat → Nat → Int32), J2 141 = rOn s n cls du fd q → FR PG J J2 → ∃ I', (∀ y : Int32, Ev X (d + 6) kX12_areAsSeen 35 [some (.ref 140), some (.int (bI r)), some (.int y)] [] (K0 ++ T, J2, RS G) (some (.int (bI r)), (K0 ++ T, I', RS G))) ∧ I' 141 = s ∧ MF I I' := by
    intro q r J2 h1 h2
    obtain ⟨I', c1, c2, c3⟩ := m_back (X := X) (d := d + 5) (T := T) (I := I) (G := G) (s := s) (g := I 143) h1 (rOn_al hn6 cls du fd q) (by rw [h2 143 (by unfold PG; omega), a4, hI]) (a3.tr (PG.f h2))
    refine ⟨I', fun y => ?_, c2, c3⟩
    (repeat refine Ev.p rfl rfl ?_)
    refine Ev.c rfl c1 ?_
    cases r <;> ((repeat refine Ev.p rfl rfl ?_); exact Ev.r rfl)
  have lp : ∀ m q (J2 : Nat → Nat → Int32), q + m = 21 → J2 141 = rOn s n cls du fd q → FR PG J J2 → ∃ I', Ev X (d + 6) kX12_areAsSeen 8 [some (.ref 140), some (.int 1), some (.int (nI q))] [] (K0 ++ T, J2, RS G) (some (.int (bI (fa (fun k => rAs s (rOn s n cls du fd k) (nI k) b) m q))), (K0 ++ T, I', RS G)) ∧ I' 141 = s ∧ MF I I' := by
    intro m
    induction m with
    | zero =>
      intro q J2 hq h1 h2
      have e : q = 21 := by omega
      subst e
      obtain ⟨I', c1, c2⟩ := fin 21 true J2 h1 h2
      refine ⟨I', ?_, c2⟩
      (repeat (first | (refine Ev.at (q := 35) rfl ?_; exact (c1 _)) | refine Ev.p rfl rfl ?_))
    | succ m ih =>
      intro q J2 hq h1 h2
      have al := rOn_al (s := s) hn6 cls du fd q
      have v1 := rOn_V hv du fd q (by omega)
      have hdf2 : DF J2 (rOn s n cls du fd q) hd du fd := (hdf.mf (fun _ _ => rfl) a3).al al h2
      obtain ⟨J3, b1, b2, b3⟩ := m_goesOn (X := X) (d := d) (T := T) (G := G) h1 v1 hdf2 1 (by omega)
      have i1 := m_isAsSeen (X := X) (d := d + 5) (T := T) (G := G) h1 (hs.al al) (nI q)
      rw [rAs_al al] at i1
      have hfa : fa (fun k => rAs s (rOn s n cls du fd k) (nI k) b) (m + 1) q = (rAs s (rOn s n cls du fd q) (nI q) b && fa (fun k => rAs s (rOn s n cls du fd k) (nI k) b) m (q + 1)) := rfl
      rw [hfa]
      cases hr : rAs s (rOn s n cls du fd q) (nI q) b with
      | true =>
        rw [hr] at i1
        obtain ⟨I', c1, c2⟩ := ih (q + 1) J3 (by omega) b2 (h2.tr b3)
        refine ⟨I', ?_, c2⟩
        rw [nI_succ] at c1
        (repeat refine Ev.p rfl rfl ?_)
        refine Ev.bp rfl (fun c => ?_) (fun c => ?_)
        · exact absurd c (nI_nlt (a := 20) (b := q) (by omega) (by omega))
        · (repeat refine Ev.p rfl rfl ?_)
          refine Ev.c rfl i1 ?_
          (repeat refine Ev.p rfl rfl ?_)
          refine Ev.c rfl b1 ?_
          (repeat (first | (refine Ev.at (q := 8) rfl ?_; exact c1) | refine Ev.p rfl rfl ?_))
      | false =>
        rw [hr] at i1
        obtain ⟨I', c1, c2⟩ := fin (q + 1) false J3 b2 (h2.tr b3)
        refine ⟨I', ?_, c2⟩
        (repeat refine Ev.p rfl rfl ?_)
        refine Ev.bp rfl (fun c => ?_) (fun c => ?_)
        · exact absurd c (nI_nlt (a := 20) (b := q) (by omega) (by omega))
        · ((repeat refine Ev.p rfl rfl ?_); refine Ev.ls (ls2 := [_, _, _]) rfl ?_)
          refine Ev.c rfl i1 ?_
          ((repeat refine Ev.p rfl rfl ?_); refine Ev.ls (ls2 := [_, _, _]) rfl ?_)
          refine Ev.c rfl b1 ?_
          ((repeat refine Ev.p rfl rfl ?_); refine Ev.ls (ls2 := [_, _, _]) rfl ?_)
          refine Ev.bp rfl (fun c => ?_) (fun c => ?_)
          · (repeat (first | (refine Ev.at (q := 35) rfl ?_; exact (c1 _)) | refine Ev.p rfl rfl ?_))
          · (repeat (first | (refine Ev.at (q := 35) rfl ?_; exact (c1 _)) | refine Ev.p rfl rfl ?_))
  obtain ⟨I', e1, e2⟩ := lp 21 0 J (by omega) (a2.trans hI) (FR.rf J)
  refine ⟨I', ?_, e2⟩
  (repeat refine Ev.p rfl rfl ?_)
  refine Ev.c rfl a1 ?_
  (repeat (first | (refine Ev.at (q := 8) rfl ?_; exact e1) | refine Ev.p rfl rfl ?_))
theorem nI_nem1 {v : Nat} (h : v < 2 ^ 31) : nI v ≠ -1 := fun e => by
  have := nI_pos' h
  rw [e] at this
  exact absurd this (by decide)
theorem m_dues (hI : I 141 = s) (hv : SV s n hd cls e) (h5 : I 140 5 = -1) (hfd : rT s hd 227 1 = fd) (he : e ≤ 9999) (hs : SS s b) (x : Int32) :
    (¬ (0 ≤ x ∧ x ≤ 1) → Ev X (d + 7) kX12_dues 0 (ent kX12_dues [.ref 140, .int x]) [] (K0 ++ T, I, RS G) (some (.int (-1)), (K0 ++ T, I, RS G))) ∧
    (∀ w, w ≤ 1 → x = nI w → ∃ I', Ev X (d + 7) kX12_dues 0 (ent kX12_dues [.ref 140, .int x]) [] (K0 ++ T, I, RS G) (some (.int (if w = 0 then (da (fun v => rAll s n cls (nI v) fd b) 60 60 (0, -5)).1 else (da (fun v => rAll s n cls (nI v) fd b) 60 60 (0, -5)).2)), (K0 ++ T, I', RS G)) ∧ I' 141 = s ∧ MF I I') := by
  refine ⟨fun h => ?_, fun w hw hx => ?_⟩
  · (repeat refine Ev.p rfl rfl ?_)
    refine Ev.c rfl (m_in _ _ _ _) ?_
    rw [if_neg h]
    ((repeat refine Ev.p rfl rfl ?_); exact Ev.r rfl)
  · obtain ⟨f, hf⟩ : ∃ f : Nat → Bool, f = (fun v => rAll s n cls (nI v) fd b) := ⟨_, rfl⟩
    rw [← hf]
    have lp : ∀ m (a : Int32 × Int32) (J : Nat → Nat → Int32), m ≤ 60 → J 141 = s → MT I J → ∃ I', (∀ y : Option Value, Ev X (d + 7) kX12_dues 20 [some (.ref 140), some (.int x), some (.int a.1), some (.int a.2), some (.int (nI m)), y] [] (K0 ++ T, J, RS G) (some (.int (if w = 0 then (da f m m a).1 else (da f m m a).2)), (K0 ++ T, I', RS G))) ∧ I' 141 = s ∧ MF I I' := by
      intro m
      induction m with
      | zero =>
        intro a J hm h1 h2
        refine ⟨upI J 140 5 (-1), fun y => ?_, by rw [upI_ne (by omega), h1], (h2.up (-1)).mf (by rw [upI_eq, upd_at, h5])⟩
        rcases (by omega : w = 0 ∨ w = 1) with rfl | rfl <;> (subst hx; ((repeat refine Ev.p rfl rfl ?_); exact Ev.r rfl))
      | succ m ih =>
        intro a J hm h1 h2
        obtain ⟨J1, hJ1⟩ : ∃ J1, J1 = upI J 140 5 (nI (m + 1)) := ⟨_, rfl⟩
        have h3 : J1 141 = s := by rw [hJ1, upI_ne (by omega), h1]
        have h4 : MT I J1 := by rw [hJ1]; exact h2.up _
        have hdf : DF J1 s hd (nI (m + 1)) fd := by
          refine ⟨?_, hfd⟩
          rw [hJ1, upI_eq, upd_at, if_neg (nI_nem1 (by omega))]
        obtain ⟨J2, a1, a2, a3⟩ := m_areAsSeen (X := X) (d := d) (T := T) (G := G) h3 hv hdf he hs
        have hfv : rAll s n cls (nI (m + 1)) fd b = f (m + 1) := by rw [hf]
        rw [hfv] at a1
        obtain ⟨I', e1, e2⟩ := ih (if f (m + 1) = true then (a.1 + 1, nI (m + 1)) else a) J2 (by omega) a2 (h4.tr a3)
        refine ⟨I', fun y => ?_, e2⟩
        have e3 : da f (m + 1) (m + 1) a = da f m m (if f (m + 1) = true then (a.1 + 1, nI (m + 1)) else a) := rfl
        rw [e3]
        have e4 : nI (m + 1) + (-1) = nI m := pk_m1 m
        rw [← e4] at e1
        (repeat refine Ev.p rfl rfl ?_)
        refine Ev.bp rfl (fun c => ?_) (fun c => ?_)
        · exact absurd c (nI_nlt (a := m + 1) (b := 1) (by omega) (by omega))
        · (repeat refine Ev.p rfl rfl ?_)
          rw [← hJ1]
          refine Ev.c rfl a1 ?_
          cases hfb : f (m + 1) with
          | true =>
            simp only [hfb, if_true] at e1
            iterate 1 refine Ev.p rfl rfl ?_
            refine Ev.ls (ls2 := [_, _, _, _, _, _]) rfl ?_
            (repeat (first | (refine Ev.at (q := 20) rfl ?_; exact (e1 _)) | refine Ev.p rfl rfl ?_))
          | false =>
            simp only [hfb, Bool.false_eq_true, if_false] at e1
            rw [show some (Value.int a.1) = some (Value.int (a.1 + 0)) from by rw [Int32.add_zero]] at e1
            iterate 1 refine Ev.p rfl rfl ?_
            refine Ev.ls (ls2 := [_, _, _, _, _, _]) rfl ?_
            (repeat (first | (refine Ev.at (q := 20) rfl ?_; exact (e1 _)) | refine Ev.p rfl rfl ?_))
    obtain ⟨I', e1, e2⟩ := lp 60 (0, -5) I (by omega) hI (MT.of (MF.rf I))
    refine ⟨I', ?_, e2⟩
    (repeat refine Ev.p rfl rfl ?_)
    refine Ev.c rfl (m_in _ _ _ _) ?_
    rw [if_pos (by subst hx; exact ⟨nI_pos' (by omega), nI_le (b := 1) hw (by omega)⟩)]
    (repeat (first | (refine Ev.at (q := 20) rfl ?_; exact (e1 _)) | refine Ev.p rfl rfl ?_))
end SEEN
