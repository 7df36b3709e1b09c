/-! THE CLASS: plans -/
theorem VA.sh {K : List (Nat × Nat)} {J : Nat → Nat → Int32} {R : Nat → Nat → Option Nat} {w n p : Nat} {s : Nat → Int32} {cls : Cls} {du fd : Int32} (h : VA K J R w s n cls du fd) (hn : n ≤ 6) (hp : p < n) (x : Int32) {y : Int32} (hy : y = nI (mk (shel (upd s (20 + p) x)) n)) : VA K (upI J w 10 y) R w (upd s (20 + p) x) n cls du fd := by
  obtain ⟨h1, h2, h3, h4, ⟨q, h5, h6⟩, h7⟩ := h
  have q0 : q ≠ w := fun h => by have := h6.1; rw [h, h1.1] at this; cases this
  have q1 : q + 1 ≠ w := fun h => by have := h6.2.1; rw [h, h1.1] at this; cases this
  have q2 : q + 2 ≠ w := fun h => by have := h6.2.2.1; rw [h, h1.1] at this; cases this
  have q3 : q + 3 ≠ w := fun h => by have := h6.2.2.2.1; rw [h, h1.1] at this; cases this
  refine ⟨h1, ?_, fun p' hp' => ?_, h4, ⟨q, h5, h6.fr (upI_ne q0) (upI_ne q1) (upI_ne q2) (upI_ne q3)⟩, by rw [upI_eq, upd_ne (by omega)]; exact h7⟩
  · obtain ⟨v8, v9, v10, v11, v12, vk, vv, va, vt, vh, vr⟩ := h2
    refine ⟨by rw [upI_eq, upd_ne (by omega)]; exact v8, ?_, by rw [upI_eq, upd_at]; exact hy, by rw [upI_eq, upd_ne (by omega), upd_ne (by omega)]; exact v11, by rw [upI_eq, upd_ne (by omega), upd_ne (by omega)]; exact v12, fun i hi => ?_, fun i hi => ?_, fun i hi => ?_, fun i hi => ?_, fun i hi => ?_, fun i k hi hk => ?_⟩
    · rw [upI_eq, upd_ne (by omega), v9]; congr 1; exact mk_ext (fun i hi => by unfold sett; rw [upd_ne (by omega)])
    · rw [upI_ne (by omega), upd_ne (by omega)]; exact vk i hi
    · rw [upI_ne (by omega), upd_ne (by omega)]; exact vv i hi
    · rw [upI_ne (by omega), upd_ne (by omega)]; exact va i hi
    · rw [upI_ne (by omega), upd_ne (by omega)]; exact vt i hi
    · rw [upI_ne (by omega), upd_ne (by omega)]; exact vh i hi
    · rw [upI_ne (by omega), upd_ne (by omega)]; exact vr i k hi hk
  · obtain ⟨m, kk, a1, a2, a3, a4, a5⟩ := h3 p' hp'
    exact ⟨m, kk, a1, a2, by rw [upd_ne (by omega)]; exact a3, a4, by rw [upI_ne (fun h => by rw [h, h1.1] at a4; exact absurd (congrArg Prod.snd (Option.some.inj a4)) (show ¬ (16 : Nat) = 4 by decide))]; exact a5⟩
theorem shel_1 (s : Nat → Int32) {n p : Nat} (hn : n ≤ 6) (hp : p < n) : nI (mk (shel s) n) ||| ((1 : Int32) <<< (nI p &&& 31)) = nI (mk (shel (upd s (20 + p) 1)) n) := by
  rw [mk_set _ hn hp]
  congr 1
  refine mk_ext (fun q hq => ?_)
  unfold shel
  by_cases h : q = p
  · subst h; rw [upd_at, decide_eq_true rfl]; rfl
  · rw [upd_ne (by omega), decide_eq_false h]; rfl
theorem shel_00 (s : Nat → Int32) {n p : Nat} (hn : n ≤ 6) (hp : p < n) : nI (mk (shel s) n) &&& (((1 : Int32) <<< (nI p &&& 31)) ^^^ (-1)) = nI (mk (shel (upd s (20 + p) 0)) n) := by
  rw [mk_clr _ hn hp]
  congr 1
  refine mk_ext (fun q hq => ?_)
  unfold shel
  by_cases h : q = p
  · subst h; rw [upd_at, decide_eq_true rfl]; rfl
  · rw [upd_ne (by omega), decide_eq_false h]; rfl
theorem RI_sh {s : Nat → Int32} {n e p : Nat} {cls : Cls} (h : RI s n e cls) (hp : p < 6) {x : Int32} (hx : x = 0 ∨ x = 1) : RI (upd s (20 + p) x) n e cls := by
  refine ⟨h.1, ⟨fun q hq => ?_, fun q hq => ?_, fun q hq => ?_⟩, fun q hq => ?_, by rw [upd_ne (by omega)]; exact h.2.2.2.1, h.2.2.2.2⟩
  · rw [upd_ne (by omega)]; exact h.2.1.1 q hq
  · by_cases hqp : q = p
    · subst hqp; rw [upd_at]; exact hx
    · rw [upd_ne (by omega)]; exact h.2.1.2.1 q hq
  · rw [upd_ne (by omega)]; exact h.2.1.2.2 q hq
  · obtain ⟨a1, a2, a3⟩ := h.2.2.1 q hq
    exact ⟨by rw [upd_ne (by omega)]; exact a1, by rw [upd_ne (by omega)]; exact a2, fun k hk => by rw [upd_ne (by omega)]; exact a3 k hk⟩
theorem RI_GB {s : Nat → Int32} {n e w p : Nat} {cls : Cls} {du fd : Int32} (h : RI s n e cls) (hp : 0 < w → p < n) {f : Nat} (hfd : fd = nI f) (hf : f ≤ 99) : ∃ e', e' ≤ e + 1 ∧ RI (rGB s n cls du fd w p) n e' cls := by
  have hn := h.1
  match w, hp with
  | 0, _ => exact ⟨e + 1, by omega, RI_go h (rTop_tk s n cls) hfd hf⟩
  | 1, hp => exact ⟨e + 1, by omega, RI_go h (show tkV (some p) n (nI p) from ⟨hp (by omega), rfl⟩) hfd hf⟩
  | 2, hp => exact ⟨e, by omega, RI_sh h (by have := hp (by omega); omega) (Or.inr rfl)⟩
  | w + 3, hp => exact ⟨e, by omega, RI_sh h (by have := hp (by omega); omega) (Or.inl rfl)⟩
theorem RI_Dn {s : Nat → Int32} {n e b : Nat} {cls : Cls} {du fd : Int32} (h : RI s n e cls) (hs : SP s n b) {f : Nat} (hfd : fd = nI f) (hf : f ≤ 99) : ∀ k, k ≤ b → ∃ e', e' ≤ e + k ∧ RI (rDn s n cls du fd k) n e' cls := by
  intro k
  induction k with
  | zero => intro _; exact ⟨e, by omega, h⟩
  | succ k ih =>
    intro hk
    obtain ⟨e', h1, h2⟩ := ih (by omega)
    obtain ⟨e2, h3, h4⟩ := RI_GB (du := du) h2 (SP_p (k := k) h.1 hs (by omega)) hfd hf
    exact ⟨e2, by omega, h4⟩
section PLAN
variable {X : Nat × (Nat → Int32)} {d : Nat} {K : List (Nat × Nat)} {I : Nat → Nat → Int32} {R : Nat → Nat → Option Nat} {s u : Nat → Int32} {n p v w o a e h b : Nat} {du fd : Int32} {cls : Cls}
theorem c_behindPlan (ha : K[a]? = some (0, 9)) (har : R a 0 = some w) (hh : HK K R h) (hM : HM I h s) (hs : SP s n b) (hK : VK K R w) (hA : VA K I R o s n cls du fd) (how : o + 9 ≤ w ∨ w + 9 ≤ o) (hRI : RI s n e cls) (he : e + 30 < 1000000) {f : Nat} (hfd : fd = nI f) (hf : f ≤ 99) : ∃ I' R', Ev X (d + 6) kX0_behindPlan 0 (ent kX0_behindPlan [.ref a, .ref o, .ref h]) [] (K, I, R) (some (.ref w), (K, I', R')) ∧ VA K I' R' w (rDn s n cls du fd b) n cls du fd ∧ FR (PW w) I I' ∧ RF w R R' := by
  have hn := hRI.1
  obtain ⟨I1, R1, e1, e2, e3, e4⟩ := c_copyA (X := X) (d := d + 5) hK hA hRI.1 how
  have haw : a ≠ w ∧ a ≠ w + 1 := by
    obtain ⟨k0, k1, -⟩ := hK
    constructor <;> (intro h; rw [h] at ha; first | (rw [k0] at ha; cases ha) | (rw [k1] at ha; cases ha))
  have har1 : R1 a 0 = some w := by rw [e4 a 0 (by omega) (by omega)]; exact har
  have hh1 := hh.rf hK e4
  have hb8 := hs.2.1
  have lp : ∀ mm k (J : Nat → Nat → Int32), k + mm = b → VA K J R1 w (rDn s n cls du fd k) n cls du fd → FR (PW w) I J → ∃ I', (∀ y : Option Value, Ev X (d + 6) kX0_behindPlan 10 [some (.ref a), some (.ref o), some (.ref h), some (.int (nI k)), y] [] (K, J, R1) (some (.ref w), (K, I', R1))) ∧ VA K I' R1 w (rDn s n cls du fd b) n cls du fd ∧ FR (PW w) I I' := by
    intro mm
    induction mm with
    | zero =>
      intro k J hk h1 h2
      have e : k = b := by omega
      subst e
      refine ⟨J, fun y => ?_, h1, h2⟩
      obtain ⟨m1, m5, m8, m11, mt, ms, mp, m4⟩ := hM.pw hh hK h2
      rw [hs.1] at m8
      obtain ⟨k0, k1, k2, k3, k4, k5, k6, k7, r0, r2, r3, r6, r7, r9, r10⟩ := hh1
      (repeat (first | refine Ev.p rfl rfl ?_ | refine Ev.gr (by rfl) (by rfl) (by assumption) (by rfl) (by assumption) ?_ | refine Ev.gi (by rfl) (by rfl) (by assumption) (by rfl) (by assumption) ?_))
      refine Ev.bp rfl (fun c => ?_) (fun c => ?_)
      · ((repeat (first | refine Ev.p rfl rfl ?_ | refine Ev.gr (by rfl) (by rfl) (by assumption) (by rfl) (by assumption) ?_ | refine Ev.gi (by rfl) (by rfl) (by assumption) (by rfl) (by assumption) ?_)); exact Ev.r rfl)
      · exact absurd (Int32.le_refl _) c
    | succ mm ih =>
      intro k J hk h1 h2
      obtain ⟨m1, m5, m8, m11, mt, ms, mp, m4⟩ := hM.pw hh hK h2
      rw [hs.1] at m8
      obtain ⟨e', he', hRk⟩ := RI_Dn (du := du) hRI hs hfd hf k (by omega)
      obtain ⟨wh, hwh, ewh, hpl⟩ := hs.2.2 k (by omega)
      have mw := (mp k (by omega)).1
      have mm2 := (mp k (by omega)).2.1
      rw [ewh] at mw
      have eD : rDn s n cls du fd (k + 1) = rGB (rDn s n cls du fd k) n cls du fd wh (s (98 + k)).toNatClampNeg := by
        show rGB _ n cls du fd (s (90 + k)).toNatClampNeg _ = _
        rw [ewh, nI_clamp (by omega)]
      have hK1 := h1.1
      -- up to what it is
      have go : ∀ (Z : Option Value × Hp), (∀ pc : Nat, (wh = 0 → pc = 60) → (wh = 1 → pc = 77) → (wh = 2 → pc = 89) → (wh = 3 → pc = 108) → Ev X (d + 6) kX0_behindPlan pc [some (.ref a), some (.ref o), some (.ref h), some (.int (nI k)), some (.int (s (98 + k)))] [] (K, J, R1) Z) → ∀ y : Option Value, Ev X (d + 6) kX0_behindPlan 10 [some (.ref a), some (.ref o), some (.ref h), some (.int (nI k)), y] [] (K, J, R1) Z := by
        intro Z g y
        obtain ⟨k0, k1, k2, k3, k4, k5, k6, k7, r0, r2, r3, r6, r7, r9, r10⟩ := hh1
        (repeat (first | refine Ev.p rfl rfl ?_ | refine Ev.gr (by rfl) (by rfl) (by assumption) (by rfl) (by assumption) ?_ | refine Ev.gi (by rfl) (by rfl) (by assumption) (by rfl) (by assumption) ?_))
        refine Ev.bp rfl (fun c => ?_) (fun c => ?_)
        · exact absurd c (nI_ge (by omega) (by omega))
        · (repeat (first | refine Ev.p rfl rfl ?_ | refine Ev.gr (by rfl) (by rfl) (by assumption) (by rfl) (by assumption) ?_ | refine Ev.gi (by rfl) (by rfl) (by assumption) (by rfl) (by assumption) ?_))
          (refine Ev.iald (j := k) (by rfl) (by assumption) (by rfl) (by omega) (by omega) ?_; rw [mm2])
          (repeat (first | refine Ev.p rfl rfl ?_ | refine Ev.gr (by rfl) (by rfl) (by assumption) (by rfl) (by assumption) ?_ | refine Ev.gi (by rfl) (by rfl) (by assumption) (by rfl) (by assumption) ?_))
          (refine Ev.iald (j := k) (by rfl) (by assumption) (by rfl) (by omega) (by omega) ?_; rw [mw])
          rcases (by omega : wh = 0 ∨ wh = 1 ∨ wh = 2 ∨ wh = 3) with rfl | rfl | rfl | rfl
          · have g1 := g 60 (fun _ => rfl) (fun h => by omega) (fun h => by omega) (fun h => by omega)
            iterate 1 refine Ev.p rfl rfl ?_
            refine Ev.at (q := 60) rfl ?_
            exact g1
          · have g1 := g 77 (fun h => by omega) (fun _ => rfl) (fun h => by omega) (fun h => by omega)
            iterate 1 refine Ev.p rfl rfl ?_
            refine Ev.at (q := 77) rfl ?_
            exact g1
          · have g1 := g 89 (fun h => by omega) (fun h => by omega) (fun _ => rfl) (fun h => by omega)
            iterate 1 refine Ev.p rfl rfl ?_
            refine Ev.at (q := 89) rfl ?_
            exact g1
          · have g1 := g 108 (fun h => by omega) (fun h => by omega) (fun h => by omega) (fun _ => rfl)
            iterate 1 refine Ev.p rfl rfl ?_
            refine Ev.at (q := 108) rfl ?_
            exact g1
      obtain ⟨w0, -⟩ := id hK1
      rcases (by omega : wh = 0 ∨ wh = 1 ∨ wh = 2 ∨ wh = 3) with rfl | rfl | rfl | rfl
      · obtain ⟨J1, J2, f1, f2, f3, f4⟩ := c_next (X := X) (d := d) h1 hRk (by omega)
        obtain ⟨I', g1, g2⟩ := ih (k + 1) J2 (by omega) (by rw [eD]; exact f3) (h2.tr f4)
        refine ⟨I', go _ (fun pc q0 _ _ _ => ?_), g2⟩
        have := q0 rfl
        subst this
        rw [nI_succ] at g1
        (repeat (first | refine Ev.p rfl rfl ?_ | refine Ev.gr (by rfl) (by rfl) (by assumption) (by rfl) (by assumption) ?_ | refine Ev.gi (by rfl) (by rfl) (by assumption) (by rfl) (by assumption) ?_))
        refine Ev.cv (by rfl) (by rfl) (by assumption) (by rfl) (by rfl) (by rfl) (by rfl) (by rfl) f1 ?_
        (repeat (first | refine Ev.p rfl rfl ?_ | refine Ev.gr (by rfl) (by rfl) (by assumption) (by rfl) (by assumption) ?_ | refine Ev.gi (by rfl) (by rfl) (by assumption) (by rfl) (by assumption) ?_))
        refine Ev.cv (by rfl) (by rfl) (by assumption) (by rfl) (by rfl) (by rfl) (by rfl) (by rfl) f2 ?_
        (repeat (first | (refine Ev.at (q := 10) rfl ?_; exact (g1 _)) | refine Ev.p rfl rfl ?_))
      · obtain ⟨p, hp, ep⟩ := hpl (by omega)
        obtain ⟨J2, f2, f3, f4, -, -⟩ := c_goA (X := X) (d := d) h1 hRk (by omega) (show tkV (some p) n (nI p) from ⟨hp, rfl⟩)
        obtain ⟨I', g1, g2⟩ := ih (k + 1) J2 (by omega) (by rw [eD, ep, nI_clamp (by omega)]; exact f3) (h2.tr (f4.mo PGo.w))
        refine ⟨I', go _ (fun pc _ q1 _ _ => ?_), g2⟩
        have := q1 rfl
        subst this
        rw [nI_succ] at g1
        rw [ep]
        (repeat (first | refine Ev.p rfl rfl ?_ | refine Ev.gr (by rfl) (by rfl) (by assumption) (by rfl) (by assumption) ?_ | refine Ev.gi (by rfl) (by rfl) (by assumption) (by rfl) (by assumption) ?_))
        refine Ev.cv (by rfl) (by rfl) (by assumption) (by rfl) (by rfl) (by rfl) (by rfl) (by rfl) f2 ?_
        (repeat (first | (refine Ev.at (q := 10) rfl ?_; exact (g1 _)) | refine Ev.p rfl rfl ?_))
      · obtain ⟨p, hp, ep⟩ := hpl (by omega)
        have w10 : J w 10 = _ := h1.2.1.2.2.1
        have f3 := h1.sh hn hp 1 rfl
        obtain ⟨I', g1, g2⟩ := ih (k + 1) _ (by omega) (by rw [eD, ep, nI_clamp (by omega)]; exact f3) (h2.tr (FR.up (Or.inl rfl)))
        refine ⟨I', go _ (fun pc _ _ q2 _ => ?_), g2⟩
        have := q2 rfl
        subst this
        rw [nI_succ, ← shel_1 _ hn hp] at g1
        rw [ep]
        (repeat (first | refine Ev.p rfl rfl ?_ | refine Ev.gr (by rfl) (by rfl) (by assumption) (by rfl) (by assumption) ?_ | refine Ev.gi (by rfl) (by rfl) (by assumption) (by rfl) (by assumption) ?_))
        refine Ev.pi (by rfl) (by rfl) (by assumption) (by rfl) ?_
        (repeat (first | (refine Ev.at (q := 10) rfl ?_; exact (g1 _)) | refine Ev.p rfl rfl ?_))
      · obtain ⟨p, hp, ep⟩ := hpl (by omega)
        have w10 : J w 10 = _ := h1.2.1.2.2.1
        have f3 := h1.sh hn hp 0 rfl
        obtain ⟨I', g1, g2⟩ := ih (k + 1) _ (by omega) (by rw [eD, ep, nI_clamp (by omega)]; exact f3) (h2.tr (FR.up (Or.inl rfl)))
        refine ⟨I', go _ (fun pc _ _ _ q3 => ?_), g2⟩
        have := q3 rfl
        subst this
        rw [nI_succ, ← shel_00 _ hn hp] at g1
        rw [ep]
        (repeat (first | refine Ev.p rfl rfl ?_ | refine Ev.gr (by rfl) (by rfl) (by assumption) (by rfl) (by assumption) ?_ | refine Ev.gi (by rfl) (by rfl) (by assumption) (by rfl) (by assumption) ?_))
        refine Ev.pi (by rfl) (by rfl) (by assumption) (by rfl) ?_
        (repeat (first | (refine Ev.at (q := 10) rfl ?_; exact (g1 _)) | refine Ev.p rfl rfl ?_))
  obtain ⟨I', g1, g2, g3⟩ := lp b 0 I1 (by omega) e2 e3
  refine ⟨I', R1, ?_, g2, g3, e4⟩
  obtain ⟨k0, -⟩ := hK
  (repeat (first | refine Ev.p rfl rfl ?_ | refine Ev.gr (by rfl) (by rfl) (by assumption) (by rfl) (by assumption) ?_ | refine Ev.gi (by rfl) (by rfl) (by assumption) (by rfl) (by assumption) ?_))
  refine Ev.cv (by rfl) (by rfl) (by assumption) (by rfl) (by rfl) (by rfl) (by rfl) (by rfl) e1 ?_
  (repeat (first | (refine Ev.at (q := 10) rfl ?_; exact (g1 _)) | refine Ev.p rfl rfl ?_))
end PLAN
