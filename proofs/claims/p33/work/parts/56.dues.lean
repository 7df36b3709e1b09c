/-! THE CLASS: DUES, FIRM, plans -/
theorem kt_lt (kk : Nat) : kt kk < 13 := by unfold kt; split <;> omega
theorem VA.gen {K : List (Nat × Nat)} {I I' : Nat → Nat → Int32} {R R' : Nat → Nat → Option Nat} {v n : Nat} {s : Nat → Int32} {cls : Cls} {du fd : Int32} (h : VA K I R v s n cls du fd) (hI2 : ∀ c t z, K[c]? = some (t, z) → ((t < 13 ∧ z = 4) ∨ z = 10 ∨ z = 100) → I' c = I c) (hI1 : ∀ c, v ≤ c → c ≤ v + 7 → I' c = I c) (hR1 : ∀ j, R' v j = R v j) (hR2 : ∀ j, R' (v + 1) j = R (v + 1) j) (hR3 : ∀ q, K[q]? = some (8, 10) → ∀ j, j < 14 → R' q j = R q j) : VA K I' R' v s n cls du fd := by
  obtain ⟨h1, h2, h3, h4, ⟨q, h5, h6⟩, h7⟩ := h
  refine ⟨h1.r (fun j _ => hR1 j), ?_, ?_, fun i i1 i2 => (hR2 i).trans (h4 i i1 i2), ⟨q, (hR1 14).trans h5, ?_⟩, by rw [hI1 v (by omega) (by omega)]; exact h7⟩
  · unfold VM at h2 ⊢
    rw [hI1 v (by omega) (by omega), hI1 (v + 2) (by omega) (by omega), hI1 (v + 3) (by omega) (by omega), hI1 (v + 4) (by omega) (by omega), hI1 (v + 5) (by omega) (by omega), hI1 (v + 6) (by omega) (by omega), hI1 (v + 7) (by omega) (by omega)]
    exact h2
  · intro p hp
    obtain ⟨m, kk, a1, a2, a3, a4, a5⟩ := h3 p hp
    exact ⟨m, kk, (hR2 p).trans a1, a2, a3, a4, by rw [hI2 m _ 4 a4 (Or.inl ⟨kt_lt kk, rfl⟩)]; exact a5⟩
  · have r := hR3 q h6.1
    have n0 := hI2 _ _ _ h6.1 (by omega)
    have n1 := hI2 _ _ _ h6.2.1 (by omega)
    have n2 := hI2 _ _ _ h6.2.2.1 (by omega)
    have n3 := hI2 _ _ _ h6.2.2.2.1 (by omega)
    unfold stC at h6 ⊢
    rw [n0, n1, n2, n3, r 3 (by omega), r 4 (by omega), r 5 (by omega)]
    exact h6
theorem HM.gen {K : List (Nat × Nat)} {R : Nat → Nat → Option Nat} {I I' : Nat → Nat → Int32} {h : Nat} {s : Nat → Int32} (hh : HK K R h) (hM : HM I h s) (hI : ∀ c t z, K[c]? = some (t, z) → (z = 12 ∨ z = 100 ∨ z = 5 ∨ z = 8) → I' c = I c) : HM I' h s := by
  obtain ⟨k0, k1, k2, k3, k4, k5, k6, k7, -⟩ := hh
  unfold HM at hM ⊢
  rw [hI h _ _ k0 (by omega), hI (h + 1) _ _ k1 (by omega), hI (h + 2) _ _ k2 (by omega), hI (h + 3) _ _ k3 (by omega), hI (h + 4) _ _ k4 (by omega), hI (h + 5) _ _ k5 (by omega), hI (h + 6) _ _ k6 (by omega), hI (h + 7) _ _ k7 (by omega)]
  exact hM
def PA (a w c : Nat) : Prop := c = a ∨ PW w c
theorem PA_no {K : List (Nat × Nat)} {R : Nat → Nat → Option Nat} {a w : Nat} (hw : VK K R w) (ha : K[a]? = some (0, 9)) {c t z : Nat} (hk : K[c]? = some (t, z)) (hz : z ≠ 16 ∧ z ≠ 6 ∧ z ≠ 24 ∧ z ≠ 9) : ¬ PA a w c := by
  rintro (h | h)
  · rw [h, ha] at hk; cases hk; omega
  · exact PW_no hw hk (by omega) h
theorem RF_q {K : List (Nat × Nat)} {R R' : Nat → Nat → Option Nat} {w : Nat} (hw : VK K R w) (hR : RF w R R') : ∀ q, K[q]? = some (8, 10) → ∀ j, j < 14 → R' q j = R q j := fun q hq j hj => hR q j (fun g => by rw [g.1, hw.2.1] at hq; cases hq) (fun g => by omega)
/-- a Veranda apart from a run keeps what it stands for -/
theorem VA.pa {K : List (Nat × Nat)} {I I' : Nat → Nat → Int32} {R R' : Nat → Nat → Option Nat} {v w a n : Nat} {s : Nat → Int32} {cls : Cls} {du fd : Int32} (h : VA K I R v s n cls du fd) (hw : VK K R w) (ha : K[a]? = some (0, 9)) (hvw : v + 9 ≤ w ∨ w + 9 ≤ v) (hI : FR (PA a w) I I') (hR : RF w R R') : VA K I' R' v s n cls du fd := by
  have hv := h.1
  refine h.gen (fun c t z hk hz => hI c (PA_no hw ha hk (by omega))) (fun c c1 c2 => hI c ?_) (fun j => hR v j (by omega) (by omega)) (fun j => hR (v + 1) j (by omega) (by omega)) (RF_q hw hR)
  rintro (g | g)
  · obtain ⟨k0, k1, k2, k3, k4, k5, k6, k7, k8, -⟩ := hv
    rcases (by omega : c = v ∨ c = v + 1 ∨ c = v + 2 ∨ c = v + 3 ∨ c = v + 4 ∨ c = v + 5 ∨ c = v + 6 ∨ c = v + 7 ∨ c = v + 8) with e | e | e | e | e | e | e | e | e <;> (rw [← g, e] at ha; simp_all)
  · unfold PW at g; omega
theorem VA.du {K : List (Nat × Nat)} {J : Nat → Nat → Int32} {R : Nat → Nat → Option Nat} {w n : Nat} {s : Nat → Int32} {cls : Cls} {du0 fd : Int32} (h : VA K J R w s n cls du0 fd) (du : Int32) : VA K (upI J w 13 du) R w s n cls du fd := by
  obtain ⟨h1, h2, h3, h4, ⟨q, h5, h6⟩, h7⟩ := h
  have q0 : q ≠ w := fun h => by have := h6.1; rw [h, h1.1] at this; cases this
  have q1 : q + 1 ≠ w := fun h => by have := h6.2.1; rw [h, h1.1] at this; cases this
  have q2 : q + 2 ≠ w := fun h => by have := h6.2.2.1; rw [h, h1.1] at this; cases this
  have q3 : q + 3 ≠ w := fun h => by have := h6.2.2.2.1; rw [h, h1.1] at this; cases this
  refine ⟨h1, ?_, fun p hp => ?_, h4, ⟨q, h5, h6.fr (upI_ne q0) (upI_ne q1) (upI_ne q2) (upI_ne q3)⟩, by rw [upI_eq, upd_at]⟩
  · unfold VM at h2 ⊢
    rw [upI_eq, upd_ne (by omega), upd_ne (by omega), upd_ne (by omega), upd_ne (by omega), upd_ne (by omega), upI_ne (by omega), upI_ne (by omega), upI_ne (by omega), upI_ne (by omega), upI_ne (by omega), upI_ne (by omega)]
    exact h2
  · obtain ⟨m, kk, a1, a2, a3, a4, a5⟩ := h3 p hp
    exact ⟨m, kk, a1, a2, a3, a4, by rw [upI_ne (fun h => by rw [h, h1.1] at a4; exact absurd (congrArg Prod.snd (Option.some.inj a4)) (show ¬ (16 : Nat) = 4 by decide))]; exact a5⟩
/-- another v -/
theorem VA.vv {K : List (Nat × Nat)} {J : Nat → Nat → Int32} {R : Nat → Nat → Option Nat} {w n p : Nat} {s : Nat → Int32} {cls : Cls} {du fd : Int32} (h : VA K J R w s n cls du fd) (hn : n ≤ 6) (hp : p < n) (x : Int32) : VA K (upI J (w + 3) p x) R w (upd s (39 + p) x) n cls du fd := by
  obtain ⟨h1, h2, h3, h4, ⟨q, h5, h6⟩, h7⟩ := h
  have k3 := h1.2.2.2.1
  have q0 : q ≠ w + 3 := fun h => by have := h6.1; rw [h, k3] at this; cases this
  have q1 : q + 1 ≠ w + 3 := fun h => by have := h6.2.1; rw [h, k3] at this; cases this
  have q2 : q + 2 ≠ w + 3 := fun h => by have := h6.2.2.1; rw [h, k3] at this; cases this
  have q3 : q + 3 ≠ w + 3 := fun h => by have := h6.2.2.2.1; rw [h, k3] at this; cases this
  refine ⟨h1, ?_, fun p' hp' => ?_, h4, ⟨q, h5, h6.fr (upI_ne q0) (upI_ne q1) (upI_ne q2) (upI_ne q3)⟩, by rw [upI_ne (by omega)]; exact h7⟩
  · obtain ⟨v8, v9, v10, v11, v12, vk, vv, va, vt, vh, vr⟩ := h2
    have e0 : upI J (w + 3) p x w = J w := upI_ne (by omega)
    refine ⟨by rw [e0]; exact v8, ?_, ?_, by rw [e0, upd_ne (by omega)]; exact v11, by rw [e0, upd_ne (by omega)]; exact v12, fun i hi => ?_, fun i hi => ?_, fun i hi => ?_, fun i hi => ?_, fun i hi => ?_, fun i k hi hk => ?_⟩
    · rw [e0, v9]; congr 1; exact mk_ext (fun i hi => by unfold sett; rw [upd_ne (by omega)])
    · rw [e0, v10]; congr 1; exact mk_ext (fun i hi => by unfold shel; rw [upd_ne (by omega)])
    · rw [upI_ne (by omega), upd_ne (by omega)]; exact vk i hi
    · rw [upI_eq]
      by_cases hip : i = p
      · subst hip; rw [upd_at, upd_at]
      · rw [upd_ne hip, upd_ne (by omega)]; exact vv i hi
    · rw [upI_ne (by omega), upd_ne (by omega)]; exact va i hi
    · rw [upI_ne (by omega), upd_ne (by omega)]; exact vt i hi
    · rw [upI_ne (by omega), upd_ne (by omega)]; exact vh i hi
    · rw [upI_ne (by omega), upd_ne (by omega)]; exact vr i k hi hk
  · obtain ⟨m, kk, a1, a2, a3, a4, a5⟩ := h3 p' hp'
    exact ⟨m, kk, a1, a2, by rw [upd_ne (by omega)]; exact a3, a4, by rw [upI_ne (fun h => by rw [h, k3] at a4; exact absurd (congrArg Prod.snd (Option.some.inj a4)) (show ¬ (6 : Nat) = 4 by decide))]; exact a5⟩
theorem SF_v {s : Nat → Int32} {n p : Nat} (h : SF s n) (hp : p < 6) (x : Int32) : SF (upd s (39 + p) x) n := by
  refine ⟨fun q hq => ?_, fun q hq => ?_, fun q hq => ?_⟩
  · rw [upd_ne (by omega)]; exact h.1 q hq
  · rw [upd_ne (by omega)]; exact h.2.1 q hq
  · rw [upd_ne (by omega)]; exact h.2.2 q hq
theorem RI_v {s : Nat → Int32} {n e p : Nat} {cls : Cls} (h : RI s n e cls) (hp : p < 6) {y : Nat} (hy : y ≤ 9) : RI (upd s (39 + p) (nI y)) n e cls := by
  refine ⟨h.1, SF_v h.2.1 hp _, fun q hq => ?_, by rw [upd_ne (by omega)]; exact h.2.2.2.1, h.2.2.2.2⟩
  obtain ⟨a1, a2, a3⟩ := h.2.2.1 q hq
  refine ⟨by rw [upd_ne (by omega)]; exact a1, ?_, fun k hk => by rw [upd_ne (by omega)]; exact a3 k hk⟩
  by_cases hqp : q = p
  · subst hqp; exact ⟨y, hy, upd_at _ _ _⟩
  · rw [upd_ne (by omega)]; exact a2
theorem HM_v {I : Nat → Nat → Int32} {h p : Nat} {s : Nat → Int32} (hM : HM I h s) (hp : p < 6) (x : Int32) : HM I h (upd s (39 + p) x) := by
  obtain ⟨m1, m5, m8, m11, mt, ms, mp, m4⟩ := hM
  refine ⟨by rw [upd_ne (by omega)]; exact m1, by rw [upd_ne (by omega)]; exact m5, by rw [upd_ne (by omega)]; exact m8, by rw [upd_ne (by omega)]; exact m11, fun j hj => by rw [upd_ne (by omega)]; exact mt j hj, fun k hk => ?_, fun k hk => ?_, m4.trans (congrArg nI (mk_ext (fun k hk => by unfold seeB; rw [upd_ne (by omega)])))⟩
  · rw [upd_ne (by omega), upd_ne (by omega)]; exact ms k hk
  · rw [upd_ne (by omega), upd_ne (by omega), upd_ne (by omega), upd_ne (by omega)]; exact mp k hk
theorem SN_v {s : Nat → Int32} {n b p : Nat} (h : SN s n b) (hp : p < 6) (x : Int32) : SN (upd s (39 + p) x) n b := by
  refine ⟨by rw [upd_ne (by omega)]; exact h.1, h.2.1, fun k hk => ?_⟩
  have := h.2.1
  rw [upd_ne (by omega), upd_ne (by omega), upd_ne (by omega)]
  exact h.2.2 k hk
section DUES
variable {X : Nat × (Nat → Int32)} {d : Nat} {K : List (Nat × Nat)} {I : Nat → Nat → Int32} {R : Nat → Nat → Option Nat} {s u : Nat → Int32} {n p v w o a e h b : Nat} {du fd : Int32} {cls : Cls}
theorem c_findDues (ha : K[a]? = some (0, 9)) (har : R a 0 = some w) (hh : HK K R h) (hM : HM I h s) (hs : SN s n b) (hK : VK K R w) (hA : VA K I R o s n cls du fd) (how : o + 9 ≤ w ∨ w + 9 ≤ o) (hRI : RI s n e cls) (he : e + 30 < 1000000) {f : Nat} (hfd : fd = nI f) (hf : f ≤ 99) : ∃ I' R', Ev X (d + 7) kX0_findDues 0 (ent kX0_findDues [.ref a, .ref o, .ref h]) [] (K, I, R) (none, (K, I', R')) ∧ I' a 6 = (da (fun v => rAll s n cls (nI v) fd b) 60 60 (0, -5)).1 ∧ I' a 7 = (da (fun v => rAll s n cls (nI v) fd b) 60 60 (0, -5)).2 ∧ FR (PA a w) I I' ∧ RF w R R' := by
  obtain ⟨g, hg⟩ : ∃ g : Nat → Bool, g = (fun v => rAll s n cls (nI v) fd b) := ⟨_, rfl⟩
  rw [← hg]
  have haw : a ≠ w ∧ a ≠ w + 1 := by
    obtain ⟨k0, k1, -⟩ := hK
    constructor <;> (intro h; rw [h] at ha; first | (rw [k0] at ha; cases ha) | (rw [k1] at ha; cases ha))
  have hpa : ¬ PW w a := PW_no hK ha (by omega)
  have lp : ∀ m (ac : Int32 × Int32) (J : Nat → Nat → Int32) (RJ : Nat → Nat → Option Nat), m ≤ 60 → FR (PA a w) I J → RF w R RJ → J a 6 = ac.1 → J a 7 = ac.2 → ∃ I' R', Ev X (d + 7) kX0_findDues 14 [some (.ref a), some (.ref o), some (.ref h), some (.int (nI m))] [] (K, J, RJ) (none, (K, I', R')) ∧ I' a 6 = (da g m m ac).1 ∧ I' a 7 = (da g m m ac).2 ∧ FR (PA a w) I I' ∧ RF w R R' := by
    intro m
    induction m with
    | zero =>
      intro ac J RJ hm fJ fR h6 h7
      refine ⟨J, RJ, ?_, h6, h7, fJ, fR⟩
      ((repeat refine Ev.p rfl rfl ?_); exact Ev.r rfl)
    | succ m ih =>
      intro ac J RJ hm fJ fR h6 h7
      have hKJ := hK.r (R' := RJ) (fun j hj => fR w j (by omega) (by omega))
      have harJ : RJ a 0 = some w := by rw [fR a 0 (by omega) (by omega)]; exact har
      have hAJ := hA.pa hK ha how fJ fR
      have hhJ := hh.rf hK fR
      obtain ⟨J1, R1, e1, e2, e3, e4⟩ := c_copyA (X := X) (d := d + 6) hKJ hAJ hRI.1 how
      have f1 : FR (PA a w) I J1 := fJ.tr (e3.mo (fun c hc => Or.inr hc))
      have f2 : RF w R R1 := fR.tr e4
      have hK1 := hK.r (R' := R1) (fun j hj => f2 w j (by omega) (by omega))
      have har1 : R1 a 0 = some w := by rw [f2 a 0 (by omega) (by omega)]; exact har
      obtain ⟨J2, hJ2⟩ : ∃ J2, J2 = upI J1 w 13 (nI (m + 1)) := ⟨_, rfl⟩
      have f3 : FR (PA a w) I J2 := by rw [hJ2]; exact f1.tr (FR.up (Or.inr (Or.inl rfl)))
      have hM2 := hM.gen (I' := J2) hh (fun c t z hk hz => f3 c (PA_no hK ha hk (by omega)))
      have hA2 := e2.du (nI (m + 1))
      rw [← hJ2] at hA2
      obtain ⟨J3, g1, g2⟩ := c_isAllSeen (X := X) (d := d) ha har1 (hh.rf hK f2) hM2 hs hA2 hRI he hfd hf
      have hgm : rAll s n cls (nI (m + 1)) fd b = g (m + 1) := by rw [hg]
      rw [hgm] at g1
      have f4 : FR (PA a w) I J3 := f3.tr (g2.mo (fun c hc => Or.inr hc))
      have a6 : J3 a 6 = ac.1 := by rw [g2 a hpa, hJ2, upI_ne haw.1, e3 a hpa]; exact h6
      have a7 : J3 a 7 = ac.2 := by rw [g2 a hpa, hJ2, upI_ne haw.1, e3 a hpa]; exact h7
      obtain ⟨k0, -⟩ := hK1
      show ∃ (I' : Nat → Nat → Int32) (R' : Nat → Nat → Option Nat), Ev X (d + 7) kX0_findDues 14 _ [] _ _ ∧ I' a 6 = (da g m m (if g (m + 1) = true then (ac.1 + 1, nI (m + 1)) else ac)).1 ∧ I' a 7 = (da g m m (if g (m + 1) = true then (ac.1 + 1, nI (m + 1)) else ac)).2 ∧ _
      have go : ∀ Z : Option Value × Hp, Ev X (d + 7) kX0_findDues 40 [some (.ref a), some (.ref o), some (.ref h), some (.int (nI (m + 1)))] [.int (bI (g (m + 1)))] (K, J3, R1) Z → Ev X (d + 7) kX0_findDues 14 [some (.ref a), some (.ref o), some (.ref h), some (.int (nI (m + 1)))] [] (K, J, RJ) Z := by
        intro Z gz
        (repeat refine Ev.p rfl rfl ?_)
        refine Ev.bp rfl (fun c => ?_) (fun c => ?_)
        · exact absurd c (nI_nlt (a := m + 1) (b := 1) (by omega) (by omega))
        · obtain ⟨q0, -⟩ := hKJ
          (repeat (first | refine Ev.p rfl rfl ?_ | refine Ev.gr (by rfl) (by rfl) (by assumption) (by rfl) (by assumption) ?_ | refine Ev.gi (by rfl) (by rfl) (by assumption) (by rfl) (by assumption) ?_))
          refine Ev.cv (by rfl) (by rfl) (by assumption) (by rfl) (by rfl) (by rfl) (by rfl) (by rfl) e1 ?_
          (repeat (first | refine Ev.p rfl rfl ?_ | refine Ev.gr (by rfl) (by rfl) (by assumption) (by rfl) (by assumption) ?_ | refine Ev.gi (by rfl) (by rfl) (by assumption) (by rfl) (by assumption) ?_))
          refine Ev.pi (by rfl) (by rfl) (by assumption) (by rfl) ?_
          rw [← hJ2]
          (repeat (first | refine Ev.p rfl rfl ?_ | refine Ev.gr (by rfl) (by rfl) (by assumption) (by rfl) (by assumption) ?_ | refine Ev.gi (by rfl) (by rfl) (by assumption) (by rfl) (by assumption) ?_))
          refine Ev.cv (by rfl) (by rfl) (by assumption) (by rfl) (by rfl) (by rfl) (by rfl) (by rfl) g1 ?_
          (repeat (first | (refine Ev.at (q := 40) rfl ?_; exact gz) | refine Ev.p rfl rfl ?_))
      cases hb : g (m + 1) with
      | true =>
        rw [hb] at go
        obtain ⟨I', R', i1, i2⟩ := ih (ac.1 + 1, nI (m + 1)) (upI (upI J3 a 6 (ac.1 + 1)) a 7 (nI (m + 1))) R1 (by omega) (f4.tr ((FR.up (Or.inl rfl)).tr (FR.up (Or.inl rfl)))) f2 (by rw [upI_eq, upd_ne (by omega), upI_eq, upd_at]) (by rw [upI_eq, upd_at])
        refine ⟨I', R', go _ ?_, by rw [if_pos rfl]; exact i2⟩
        rw [← pk_m1 m] at i1
        (repeat (first | refine Ev.p rfl rfl ?_ | refine Ev.gr (by rfl) (by rfl) (by assumption) (by rfl) (by assumption) ?_ | refine Ev.gi (by rfl) (by rfl) (by assumption) (by rfl) (by assumption) ?_))
        refine Ev.pi (by rfl) (by rfl) (by assumption) (by rfl) ?_
        (repeat (first | refine Ev.p rfl rfl ?_ | refine Ev.gr (by rfl) (by rfl) (by assumption) (by rfl) (by assumption) ?_ | refine Ev.gi (by rfl) (by rfl) (by assumption) (by rfl) (by assumption) ?_))
        refine Ev.pi (by rfl) (by rfl) (by assumption) (by rfl) ?_
        (repeat (first | (refine Ev.at (q := 14) rfl ?_; exact i1) | refine Ev.p rfl rfl ?_))
      | false =>
        rw [hb] at go
        obtain ⟨I', R', i1, i2⟩ := ih ac J3 R1 (by omega) f4 f2 a6 a7
        refine ⟨I', R', go _ ?_, by rw [if_neg (by decide)]; exact i2⟩
        rw [← pk_m1 m] at i1
        (repeat (first | (refine Ev.at (q := 14) rfl ?_; exact i1) | refine Ev.p rfl rfl ?_))
  obtain ⟨I', R', g1, g2⟩ := lp 60 (0, -5) (upI (upI I a 6 0) a 7 (-5)) R (by omega) ((FR.up (Or.inl rfl)).tr (FR.up (Or.inl rfl))) (RF.rf w R) (by rw [upI_eq, upd_ne (by omega), upI_eq, upd_at]) (by rw [upI_eq, upd_at])
  refine ⟨I', R', ?_, g2⟩
  (repeat (first | refine Ev.p rfl rfl ?_ | refine Ev.gr (by rfl) (by rfl) (by assumption) (by rfl) (by assumption) ?_ | refine Ev.gi (by rfl) (by rfl) (by assumption) (by rfl) (by assumption) ?_))
  refine Ev.pi (by rfl) (by rfl) (by assumption) (by rfl) ?_
  (repeat (first | refine Ev.p rfl rfl ?_ | refine Ev.gr (by rfl) (by rfl) (by assumption) (by rfl) (by assumption) ?_ | refine Ev.gi (by rfl) (by rfl) (by assumption) (by rfl) (by assumption) ?_))
  refine Ev.pi (by rfl) (by rfl) (by assumption) (by rfl) ?_
  (repeat (first | (refine Ev.at (q := 14) rfl ?_; exact g1) | refine Ev.p rfl rfl ?_))
theorem c_findFirm (ha : K[a]? = some (0, 9)) (har : R a 0 = some w) (hh : HK K R h) (hM : HM I h s) (hs : SN s n b) (hK : VK K R w) (hA : VA K I R o s n cls du fd) (how : o + 9 ≤ w ∨ w + 9 ≤ o) (hRI : RI s n e cls) (he : e + 30 < 1000000) {p : Nat} (hp : p < n) {f : Nat} (hfd : fd = nI f) (hf : f ≤ 99) : ∃ I' R', Ev X (d + 7) kX0_findFirm 0 (ent kX0_findFirm [.ref a, .ref o, .ref h, .int (nI p)]) [] (K, I, R) (none, (K, I', R')) ∧ I' a 6 = (da (fun v => rAll (upd s (39 + p) (nI v)) n cls du fd b) 10 9 (0, -5)).1 ∧ I' a 7 = (da (fun v => rAll (upd s (39 + p) (nI v)) n cls du fd b) 10 9 (0, -5)).2 ∧ FR (PA a w) I I' ∧ RF w R R' := by
  obtain ⟨g, hg⟩ : ∃ g : Nat → Bool, g = (fun v => rAll (upd s (39 + p) (nI v)) n cls du fd b) := ⟨_, rfl⟩
  rw [← hg]
  have hn := hRI.1
  have haw : a ≠ w ∧ a ≠ w + 1 ∧ a ≠ w + 3 := by
    obtain ⟨k0, k1, k2, k3, -⟩ := hK
    refine ⟨?_, ?_, ?_⟩ <;> (intro h; rw [h] at ha; first | (rw [k0] at ha; cases ha) | (rw [k1] at ha; cases ha) | (rw [k3] at ha; cases ha))
  have hpa : ¬ PW w a := PW_no hK ha (by omega)
  have lp : ∀ m (ac : Int32 × Int32) (J : Nat → Nat → Int32) (RJ : Nat → Nat → Option Nat), m ≤ 10 → FR (PA a w) I J → RF w R RJ → J a 6 = ac.1 → J a 7 = ac.2 → ∃ I' R', Ev X (d + 7) kX0_findFirm 15 [some (.ref a), some (.ref o), some (.ref h), some (.int (nI p)), some (.int (nI m + (-1)))] [] (K, J, RJ) (none, (K, I', R')) ∧ I' a 6 = (da g m (m - 1) ac).1 ∧ I' a 7 = (da g m (m - 1) ac).2 ∧ FR (PA a w) I I' ∧ RF w R R' := by
    intro m
    induction m with
    | zero =>
      intro ac J RJ hm fJ fR h6 h7
      refine ⟨J, RJ, ?_, h6, h7, fJ, fR⟩
      ((repeat refine Ev.p rfl rfl ?_); exact Ev.r rfl)
    | succ m ih =>
      intro ac J RJ hm fJ fR h6 h7
      have hKJ := hK.r (R' := RJ) (fun j hj => fR w j (by omega) (by omega))
      have harJ : RJ a 0 = some w := by rw [fR a 0 (by omega) (by omega)]; exact har
      have hAJ := hA.pa hK ha how fJ fR
      obtain ⟨J1, R1, e1, e2, e3, e4⟩ := c_copyA (X := X) (d := d + 6) hKJ hAJ hRI.1 how
      have f1 : FR (PA a w) I J1 := fJ.tr (e3.mo (fun c hc => Or.inr hc))
      have f2 : RF w R R1 := fR.tr e4
      have hK1 := hK.r (R' := R1) (fun j hj => f2 w j (by omega) (by omega))
      have har1 : R1 a 0 = some w := by rw [f2 a 0 (by omega) (by omega)]; exact har
      obtain ⟨J2, hJ2⟩ : ∃ J2, J2 = upI J1 (w + 3) p (nI m) := ⟨_, rfl⟩
      have f3 : FR (PA a w) I J2 := by rw [hJ2]; exact f1.tr (FR.up (Or.inr (Or.inr ⟨by omega, by omega⟩)))
      have hM2 := hM.gen (I' := J2) hh (fun c t z hk hz => f3 c (PA_no hK ha hk (by omega)))
      have hA2 := e2.vv hn hp (nI m)
      rw [← hJ2] at hA2
      obtain ⟨J3, g1, g2⟩ := c_isAllSeen (X := X) (d := d) ha har1 (hh.rf hK f2) (HM_v hM2 (by omega) (nI m)) (SN_v hs (by omega) (nI m)) hA2 (RI_v hRI (by omega) (by omega)) he hfd hf
      have hgm : rAll (upd s (39 + p) (nI m)) n cls du fd b = g m := by rw [hg]
      rw [hgm] at g1
      have f4 : FR (PA a w) I J3 := f3.tr (g2.mo (fun c hc => Or.inr hc))
      have a6 : J3 a 6 = ac.1 := by rw [g2 a hpa, hJ2, upI_ne haw.2.2, e3 a hpa]; exact h6
      have a7 : J3 a 7 = ac.2 := by rw [g2 a hpa, hJ2, upI_ne haw.2.2, e3 a hpa]; exact h7
      obtain ⟨k0, k1, k2, k3, k4, k5, k6, k7, k8, r0, r1, r2, r3, r4, r5, r6, r7⟩ := hK1
      show ∃ (I' : Nat → Nat → Int32) (R' : Nat → Nat → Option Nat), Ev X (d + 7) kX0_findFirm 15 _ [] _ _ ∧ I' a 6 = (da g m (m - 1) (if g m = true then (ac.1 + 1, nI m) else ac)).1 ∧ I' a 7 = (da g m (m - 1) (if g m = true then (ac.1 + 1, nI m) else ac)).2 ∧ _
      rw [pk_m1 m]
      have go : ∀ Z : Option Value × Hp, Ev X (d + 7) kX0_findFirm 44 [some (.ref a), some (.ref o), some (.ref h), some (.int (nI p)), some (.int (nI m))] [.int (bI (g m))] (K, J3, R1) Z → Ev X (d + 7) kX0_findFirm 15 [some (.ref a), some (.ref o), some (.ref h), some (.int (nI p)), some (.int (nI m))] [] (K, J, RJ) Z := by
        intro Z gz
        (repeat refine Ev.p rfl rfl ?_)
        refine Ev.bp rfl (fun c => ?_) (fun c => ?_)
        · exact absurd c (nI_pos (by omega))
        · obtain ⟨q0, -⟩ := hKJ
          (repeat (first | refine Ev.p rfl rfl ?_ | refine Ev.gr (by rfl) (by rfl) (by assumption) (by rfl) (by assumption) ?_ | refine Ev.gi (by rfl) (by rfl) (by assumption) (by rfl) (by assumption) ?_))
          refine Ev.cv (by rfl) (by rfl) (by assumption) (by rfl) (by rfl) (by rfl) (by rfl) (by rfl) e1 ?_
          (repeat (first | refine Ev.p rfl rfl ?_ | refine Ev.gr (by rfl) (by rfl) (by assumption) (by rfl) (by assumption) ?_ | refine Ev.gi (by rfl) (by rfl) (by assumption) (by rfl) (by assumption) ?_))
          refine Ev.iast (j := p) (by rfl) (by assumption) (by rfl) (by omega) (by omega) ?_
          rw [← hJ2]
          (repeat (first | refine Ev.p rfl rfl ?_ | refine Ev.gr (by rfl) (by rfl) (by assumption) (by rfl) (by assumption) ?_ | refine Ev.gi (by rfl) (by rfl) (by assumption) (by rfl) (by assumption) ?_))
          refine Ev.cv (by rfl) (by rfl) (by assumption) (by rfl) (by rfl) (by rfl) (by rfl) (by rfl) g1 ?_
          (repeat (first | (refine Ev.at (q := 44) rfl ?_; exact gz) | refine Ev.p rfl rfl ?_))
      cases hb : g m with
      | true =>
        rw [hb] at go
        obtain ⟨I', R', i1, i2⟩ := ih (ac.1 + 1, nI m) (upI (upI J3 a 6 (ac.1 + 1)) a 7 (nI m)) R1 (by omega) (f4.tr ((FR.up (Or.inl rfl)).tr (FR.up (Or.inl rfl)))) f2 (by rw [upI_eq, upd_ne (by omega), upI_eq, upd_at]) (by rw [upI_eq, upd_at])
        refine ⟨I', R', go _ ?_, by rw [if_pos rfl]; exact i2⟩
        (repeat (first | refine Ev.p rfl rfl ?_ | refine Ev.gr (by rfl) (by rfl) (by assumption) (by rfl) (by assumption) ?_ | refine Ev.gi (by rfl) (by rfl) (by assumption) (by rfl) (by assumption) ?_))
        refine Ev.pi (by rfl) (by rfl) (by assumption) (by rfl) ?_
        (repeat (first | refine Ev.p rfl rfl ?_ | refine Ev.gr (by rfl) (by rfl) (by assumption) (by rfl) (by assumption) ?_ | refine Ev.gi (by rfl) (by rfl) (by assumption) (by rfl) (by assumption) ?_))
        refine Ev.pi (by rfl) (by rfl) (by assumption) (by rfl) ?_
        (repeat (first | (refine Ev.at (q := 15) rfl ?_; exact i1) | refine Ev.p rfl rfl ?_))
      | false =>
        rw [hb] at go
        obtain ⟨I', R', i1, i2⟩ := ih ac J3 R1 (by omega) f4 f2 a6 a7
        refine ⟨I', R', go _ ?_, by rw [if_neg (by decide)]; exact i2⟩
        (repeat (first | (refine Ev.at (q := 15) rfl ?_; exact i1) | refine Ev.p rfl rfl ?_))
  obtain ⟨I', R', g1, g2⟩ := lp 10 (0, -5) (upI (upI I a 6 0) a 7 (-5)) R (by omega) ((FR.up (Or.inl rfl)).tr (FR.up (Or.inl rfl))) (RF.rf w R) (by rw [upI_eq, upd_ne (by omega), upI_eq, upd_at]) (by rw [upI_eq, upd_at])
  refine ⟨I', R', ?_, g2⟩
  rw [show nI 10 + (-1) = 9 from by decide] at g1
  (repeat (first | refine Ev.p rfl rfl ?_ | refine Ev.gr (by rfl) (by rfl) (by assumption) (by rfl) (by assumption) ?_ | refine Ev.gi (by rfl) (by rfl) (by assumption) (by rfl) (by assumption) ?_))
  refine Ev.pi (by rfl) (by rfl) (by assumption) (by rfl) ?_
  (repeat (first | refine Ev.p rfl rfl ?_ | refine Ev.gr (by rfl) (by rfl) (by assumption) (by rfl) (by assumption) ?_ | refine Ev.gi (by rfl) (by rfl) (by assumption) (by rfl) (by assumption) ?_))
  refine Ev.pi (by rfl) (by rfl) (by assumption) (by rfl) ?_
  (repeat (first | (refine Ev.at (q := 15) rfl ?_; exact g1) | refine Ev.p rfl rfl ?_))
end DUES
