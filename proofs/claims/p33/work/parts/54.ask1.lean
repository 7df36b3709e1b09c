/-! THE CLASS: a Veranda that goes on, from a copy -/
/-- the Veranda at v stands for the row s, with the clauses cls, DUE du, FADE fd -/
def VA (K : List (Nat × Nat)) (I : Nat → Nat → Int32) (R : Nat → Nat → Option Nat) (v : Nat) (s : Nat → Int32) (n : Nat) (cls : Cls) (du fd : Int32) : Prop := VK K R v ∧ VM I v s n ∧ VO K I R v s n ∧ (∀ i, n ≤ i → i < 6 → R (v + 1) i = none) ∧ (∃ q, R v 14 = some q ∧ stC K I R q fd cls) ∧ I v 13 = du
/-- what a run at w writes -/
def PW (w q : Nat) : Prop := q = w ∨ (w + 2 ≤ q ∧ q ≤ w + 8)
def RF (w : Nat) (R R' : Nat → Nat → Option Nat) : Prop := ∀ c j, ¬ (c = w + 1 ∧ j < 6) → ¬ (c = w ∧ j = 14) → R' c j = R c j
theorem RF.rf (w : Nat) (R : Nat → Nat → Option Nat) : RF w R R := fun _ _ _ _ => rfl
theorem RF.tr {w : Nat} {R R' R'' : Nat → Nat → Option Nat} (h : RF w R R') (h' : RF w R' R'') : RF w R R'' := fun c j h1 h2 => (h' c j h1 h2).trans (h c j h1 h2)
theorem PV.w {v : Nat} : ∀ q, PV v q → PW v q := fun q h => by have h : q = v + 8 := h; exact Or.inr ⟨by omega, by omega⟩
theorem PGo.w {v : Nat} : ∀ q, PGo v q → PW v q := fun q h => by
  rcases h with h | h | h | h
  · exact Or.inl h
  · exact Or.inr ⟨by omega, by omega⟩
  · exact Or.inr ⟨by omega, by omega⟩
  · exact Or.inr ⟨by omega, by omega⟩
theorem PC.w {v : Nat} : ∀ q, PC v q → PW v q := fun q h => by
  rcases h with h | h
  · exact Or.inl h
  · exact Or.inr ⟨h.1, by omega⟩
theorem fam_kt {kk : Nat} (h : kk ≤ 6) : fam 6 (kt kk) = true := by
  rcases (by omega : kk = 0 ∨ kk = 1 ∨ kk = 2 ∨ kk = 3 ∨ kk = 4 ∨ kk = 5 ∨ kk = 6) with rfl | rfl | rfl | rfl | rfl | rfl | rfl <;> rfl
/-- cells of objects that are no part of a run -/
theorem PW_no {K : List (Nat × Nat)} {R : Nat → Nat → Option Nat} {w : Nat} (hw : VK K R w) {c t z : Nat} (hk : K[c]? = some (t, z)) (hz : z ≠ 16 ∧ z ≠ 6 ∧ z ≠ 24) : ¬ PW w c := by
  obtain ⟨k0, k1, k2, k3, k4, k5, k6, k7, k8, -⟩ := hw
  rintro (h | ⟨h1, h2⟩)
  · rw [h, k0] at hk; cases hk; omega
  · rcases (by omega : c = w + 2 ∨ c = w + 3 ∨ c = w + 4 ∨ c = w + 5 ∨ c = w + 6 ∨ c = w + 7 ∨ c = w + 8) with h | h | h | h | h | h | h <;> rw [h] at hk
    · rw [k2] at hk; cases hk; omega
    · rw [k3] at hk; cases hk; omega
    · rw [k4] at hk; cases hk; omega
    · rw [k5] at hk; cases hk; omega
    · rw [k6] at hk; cases hk; omega
    · rw [k7] at hk; cases hk; omega
    · rw [k8] at hk; cases hk; omega
theorem stC.pw {K : List (Nat × Nat)} {I I' : Nat → Nat → Int32} {R R' : Nat → Nat → Option Nat} {w q : Nat} {fd : Int32} {cls : Cls} (hw : VK K R w) (h : stC K I R q fd cls) (hI : FR (PW w) I I') (hR : RF w R R') : stC K I' R' q fd cls := by
  have n0 := PW_no hw h.1 (by omega)
  have n1 := PW_no hw h.2.1 (by omega)
  have n2 := PW_no hw h.2.2.1 (by omega)
  have n3 := PW_no hw h.2.2.2.1 (by omega)
  have r : ∀ j, j < 14 → R' q j = R q j := fun j hj => hR q j (fun g => by
    have k1 := hw.2.1
    have k := h.1
    rw [g.1, k1] at k; cases k) (fun g => by omega)
  unfold stC at h ⊢
  rw [hI _ n0, hI _ n1, hI _ n2, hI _ n3, r 3 (by omega), r 4 (by omega), r 5 (by omega)]
  exact h
theorem VA.fr {K : List (Nat × Nat)} {I I' : Nat → Nat → Int32} {R R' : Nat → Nat → Option Nat} {v w n : Nat} {s : Nat → Int32} {cls : Cls} {du fd : Int32} (h : VA K I R v s n cls du fd) (hw : VK K R w) (hvw : v + 9 ≤ w ∨ w + 9 ≤ v) (hn : n ≤ 6) (hI : FR (PW w) I I') (hR : RF w R R') : VA K I' R' v s n cls du fd := by
  obtain ⟨h1, h2, h3, h4, ⟨q, h5, h6⟩, h7⟩ := h
  have no : ∀ c, v ≤ c → c ≤ v + 8 → ¬ PW w c := fun c c1 c2 => by unfold PW; omega
  have rv : ∀ j, R' v j = R v j := fun j => hR v j (by omega) (by omega)
  have rv1 : ∀ j, R' (v + 1) j = R (v + 1) j := fun j => hR (v + 1) j (by omega) (by omega)
  refine ⟨h1.r (fun j _ => rv j), ?_, ?_, fun i i1 i2 => (rv1 i).trans (h4 i i1 i2), ⟨q, (rv 14).trans h5, h6.pw hw hI hR⟩, by rw [hI v (no v (by omega) (by omega))]; exact h7⟩
  · unfold VM at h2 ⊢
    rw [hI v (no _ (by omega) (by omega)), hI (v + 2) (no _ (by omega) (by omega)), hI (v + 3) (no _ (by omega) (by omega)), hI (v + 4) (no _ (by omega) (by omega)), hI (v + 5) (no _ (by omega) (by omega)), hI (v + 6) (no _ (by omega) (by omega)), hI (v + 7) (no _ (by omega) (by omega))]
    exact h2
  · intro p hp
    obtain ⟨m, kk, a1, a2, a3, a4, a5⟩ := h3 p hp
    exact ⟨m, kk, (rv1 p).trans a1, a2, a3, a4, by rw [hI m (PW_no hw a4 (by omega))]; exact a5⟩
section ASK1
variable {X : Nat × (Nat → Int32)} {d : Nat} {K : List (Nat × Nat)} {I : Nat → Nat → Int32} {R : Nat → Nat → Option Nat} {s : Nat → Int32} {n p v w o a e : Nat} {du fd : Int32} {cls : Cls}
theorem c_copyA (hK : VK K R w) (hA : VA K I R o s n cls du fd) (hn : n ≤ 6) (how : o + 9 ≤ w ∨ w + 9 ≤ o) : ∃ I' R', Ev X d kX10_copyFrom 0 (ent kX10_copyFrom [.ref w, .ref o]) [] (K, I, R) (none, (K, I', R')) ∧ VA K I' R' w s n cls du fd ∧ FR (PW w) I I' ∧ RF w R R' := by
  obtain ⟨h1, h2, h3, h4, ⟨q, h5, h6⟩, h7⟩ := hA
  obtain ⟨I', R', e1, e2, e3, e4, e5, e6, e7, e8, e9⟩ := c_copyFrom (X := X) (d := d) (I := I) hK h1 (by omega) (fun i hi => by
    by_cases hin : i < n
    · obtain ⟨m, kk, a1, a2, a3, a4, a5⟩ := h3 i hin
      exact Or.inr ⟨m, kt kk, a1, a4, fam_kt a2⟩
    · exact Or.inl (h4 i (by omega) hi)) h5
  have hI : FR (PW w) I I' := e6.mo PC.w
  refine ⟨I', R', e1, ⟨hK.r (fun j hj => e9 w j (by omega) (by omega)), ?_, ?_, ?_, ⟨q, e7, h6.pw hK hI e9⟩, by rw [e4 13 (by omega) (by omega)]; exact h7⟩, hI, e9⟩
  · obtain ⟨v8, v9, v10, v11, v12, vk, vv, va, vt, vh, vr⟩ := h2
    refine ⟨by rw [e4 8 (by omega) (by omega)]; exact v8, by rw [e4 9 (by omega) (by omega)]; exact v9, by rw [e4 10 (by omega) (by omega)]; exact v10, by rw [e4 11 (by omega) (by omega)]; exact v11, by rw [e4 12 (by omega) (by omega)]; exact v12, fun p hp => ?_, fun p hp => ?_, fun p hp => ?_, fun p hp => ?_, fun p hp => ?_, fun p k hp hk => ?_⟩
    · rw [e2 2 (by omega) (by omega) p (by omega)]; exact vk p hp
    · rw [e2 3 (by omega) (by omega) p (by omega)]; exact vv p hp
    · rw [e2 4 (by omega) (by omega) p (by omega)]; exact va p hp
    · rw [e2 5 (by omega) (by omega) p (by omega)]; exact vt p hp
    · rw [e2 6 (by omega) (by omega) p (by omega)]; exact vh p hp
    · rw [e3 (4 * p + k) (by omega)]; exact vr p k hp hk
  · intro p hp
    obtain ⟨m, kk, a1, a2, a3, a4, a5⟩ := h3 p hp
    exact ⟨m, kk, (e8 p (by omega)).trans a1, a2, a3, a4, by rw [hI m (PW_no hK a4 (by omega))]; exact a5⟩
  · exact fun i i1 i2 => (e8 i i2).trans (h4 i i1 i2)
theorem c_goA (hA : VA K I R w s n cls du fd) (hRI : RI s n e cls) (he : e < 1000000) {tk : Option Nat} {x : Int32} (hx : tkV tk n x) : ∃ I', Ev X (d + 5) kX10_goOn 0 (ent kX10_goOn [.ref w, .int x]) [] (K, I, R) (none, (K, I', R)) ∧ VA K I' R w (rGo s n cls du fd tk) n cls du fd ∧ FR (PGo w) I I' ∧ I' w 15 = I w 15 ∧ (∀ p, n ≤ p → I' (w + 4) p = I (w + 4) p ∧ I' (w + 5) p = I (w + 5) p) := by
  obtain ⟨h1, h2, h3, h4, ⟨q, h5, h6⟩, h7⟩ := hA
  obtain ⟨I', e1, e2, e3, e4, e5, e6⟩ := c_goOn (X := X) (d := d) h1 h2 hRI.1 hRI.2.1 h3 hRI.2.2.2.1 he h5 h6 h7 hRI.T hx
  have hf := e3.mo PGo.w
  have ha := rGo_al (s := s) hRI.1 cls du fd hx
  refine ⟨I', e1, ⟨h1, e2, fun p hp => ?_, h4, ⟨q, h5, h6.pw h1 hf (RF.rf w R)⟩, e4⟩, e3, e5, e6⟩
  obtain ⟨m, kk, a1, a2, a3, a4, a5⟩ := h3 p hp
  exact ⟨m, kk, a1, a2, by rw [ha _ (by omega)]; exact a3, a4, by rw [hf m (PW_no h1 a4 (by omega))]; exact a5⟩
theorem VA.lk (hA : VA K I R w s n cls du fd) {I' : Nat → Nat → Int32} (hf : FR (PV w) I I') : VA K I' R w s n cls du fd := by
  obtain ⟨h1, h2, h3, h4, ⟨q, h5, h6⟩, h7⟩ := hA
  exact ⟨h1, h2.fr hf, h3.fr h1 hf, h4, ⟨q, h5, h6.fv h1 hf⟩, by rw [hf w (by unfold PV; omega)]; exact h7⟩
theorem c_topicA (hA : VA K I R w s n cls du fd) (hRI : RI s n e cls) (he : e < 1000000) : ∃ I', Ev X (d + 5) kX10_topic 0 (ent kX10_topic [.ref w]) [] (K, I, R) (some (.int (tc (rTop s n cls n).1)), (K, I', R)) ∧ VA K I' R w s n cls du fd ∧ FR (PV w) I I' := by
  have hA2 := hA
  obtain ⟨h1, h2, h3, h4, ⟨q, h5, h6⟩, h7⟩ := hA2
  obtain ⟨I', e1, e2⟩ := c_topic (X := X) (d := d) h1 h2 hRI.1 hRI.2.1 h3 hRI.2.2.2.1 he h5 h6
  exact ⟨I', e1, hA.lk e2, e2⟩
theorem RI_on {f : Nat} (h : RI s n e cls) (hfd : fd = nI f) (hf : f ≤ 99) (du : Int32) : ∀ k, RI (rOn s n cls du fd k) n (e + k) cls := by
  intro k
  induction k with
  | zero => exact h
  | succ k ih => exact RI_go ih (rTop_tk _ n cls) hfd hf
/-- from one evening to the next by its topic -/
theorem c_next (hA : VA K I R w s n cls du fd) (hRI : RI s n e cls) (he : e < 1000000) : ∃ I1 I2, Ev X (d + 5) kX10_topic 0 (ent kX10_topic [.ref w]) [] (K, I, R) (some (.int (tc (rTop s n cls n).1)), (K, I1, R)) ∧ Ev X (d + 5) kX10_goOn 0 (ent kX10_goOn [.ref w, .int (tc (rTop s n cls n).1)]) [] (K, I1, R) (none, (K, I2, R)) ∧ VA K I2 R w (rGo s n cls du fd (rTop s n cls n).1) n cls du fd ∧ FR (PW w) I I2 := by
  obtain ⟨I1, e1, e2, e3⟩ := c_topicA (X := X) (d := d) hA hRI he
  obtain ⟨I2, f1, f2, f3, -, -⟩ := c_goA (X := X) (d := d) e2 hRI he (tc_tk s n cls)
  exact ⟨I1, I2, e1, f1, f2, (e3.mo PV.w).tr (f3.mo PGo.w)⟩
theorem c_behind (ha : K[a]? = some (0, 9)) (har : R a 0 = some w) (hK : VK K R w) (hA : VA K I R o s n cls du fd) (hRI : RI s n e cls) (how : o + 9 ≤ w ∨ w + 9 ≤ o) (k : Nat) (he : e + k < 1000000) {f : Nat} (hfd : fd = nI f) (hf : f ≤ 99) : ∃ I' R', Ev X (d + 6) kX0_behind 0 (ent kX0_behind [.ref a, .ref o, .int (nI k)]) [] (K, I, R) (some (.ref w), (K, I', R')) ∧ VA K I' R' w (rOn s n cls du fd k) n cls du fd ∧ FR (PW w) I I' ∧ RF w R R' := by
  obtain ⟨I1, R1, e1, e2, e3, e4⟩ := c_copyA (X := X) (d := d + 5) hK hA hRI.1 how
  have haw : a ≠ w ∧ a ≠ w + 1 := by
    obtain ⟨k0, k1, -⟩ := hK
    constructor <;> (intro h; rw [h] at ha; first | (rw [k0] at ha; cases ha) | (rw [k1] at ha; cases ha))
  have har1 : R1 a 0 = some w := by rw [e4 a 0 (by omega) (by omega)]; exact har
  have lp : ∀ mm i (J : Nat → Nat → Int32), i + mm = k → VA K J R1 w (rOn s n cls du fd i) n cls du fd → FR (PW w) I J → ∃ I', Ev X (d + 6) kX0_behind 10 [some (.ref a), some (.ref o), some (.int (nI k)), some (.int (nI i))] [] (K, J, R1) (some (.ref w), (K, I', R1)) ∧ VA K I' R1 w (rOn s n cls du fd k) n cls du fd ∧ FR (PW w) I I' := by
    intro mm
    induction mm with
    | zero =>
      intro i J hi h1 h2
      have e : i = k := by omega
      subst e
      refine ⟨J, ?_, h1, h2⟩
      (repeat refine Ev.p rfl rfl ?_)
      refine Ev.bp rfl (fun c => ?_) (fun c => ?_)
      · ((repeat (first | refine Ev.p rfl rfl ?_ | refine Ev.gr (by rfl) (by rfl) (by assumption) (by rfl) (by assumption) ?_ | refine Ev.gi (by rfl) (by rfl) (by assumption) (by rfl) (by assumption) ?_)); exact Ev.r rfl)
      · exact absurd (Int32.le_refl _) c
    | succ mm ih =>
      intro i J hi h1 h2
      obtain ⟨J1, J2, f1, f2, f3, f4⟩ := c_next (X := X) (d := d) h1 (RI_on hRI hfd hf du i) (by omega)
      obtain ⟨I', g1, g2⟩ := ih (i + 1) J2 (by omega) f3 (h2.tr f4)
      refine ⟨I', ?_, g2⟩
      rw [nI_succ] at g1
      obtain ⟨k0, -⟩ := h1.1
      (repeat refine Ev.p rfl rfl ?_)
      refine Ev.bp rfl (fun c => ?_) (fun c => ?_)
      · exact absurd c (nI_ge (by omega) (by omega))
      · (repeat (first | refine Ev.p rfl rfl ?_ | refine Ev.gr (by rfl) (by rfl) (by assumption) (by rfl) (by assumption) ?_ | refine Ev.gi (by rfl) (by rfl) (by assumption) (by rfl) (by assumption) ?_))
        refine Ev.cv (by rfl) (by rfl) (by assumption) (by rfl) (by rfl) (by rfl) (by rfl) (by rfl) f1 ?_
        (repeat (first | refine Ev.p rfl rfl ?_ | refine Ev.gr (by rfl) (by rfl) (by assumption) (by rfl) (by assumption) ?_ | refine Ev.gi (by rfl) (by rfl) (by assumption) (by rfl) (by assumption) ?_))
        refine Ev.cv (by rfl) (by rfl) (by assumption) (by rfl) (by rfl) (by rfl) (by rfl) (by rfl) f2 ?_
        (repeat (first | (refine Ev.at (q := 10) rfl ?_; exact g1) | refine Ev.p rfl rfl ?_))
  obtain ⟨I', g1, g2, g3⟩ := lp k 0 I1 (by omega) e2 e3
  refine ⟨I', R1, ?_, g2, g3, e4⟩
  obtain ⟨k0, -⟩ := hK
  (repeat (first | refine Ev.p rfl rfl ?_ | refine Ev.gr (by rfl) (by rfl) (by assumption) (by rfl) (by assumption) ?_ | refine Ev.gi (by rfl) (by rfl) (by assumption) (by rfl) (by assumption) ?_))
  refine Ev.cv (by rfl) (by rfl) (by assumption) (by rfl) (by rfl) (by rfl) (by rfl) (by rfl) e1 ?_
  (repeat (first | (refine Ev.at (q := 10) rfl ?_; exact g1) | refine Ev.p rfl rfl ?_))
theorem c_firstSettled (ha : K[a]? = some (0, 9)) (har : R a 0 = some w) (hK : VK K R w) {du0 : Int32} (hA : VA K I R o s n cls du0 fd) (hRI : RI s n e cls) (how : o + 9 ≤ w ∨ w + 9 ≤ o) {p most : Nat} (hp : p < n) (he : e + most + 1 < 1000000) {f : Nat} (hfd : fd = nI f) (hf : f ≤ 99) : ∃ I' R', Ev X (d + 6) kX0_firstSettled 0 (ent kX0_firstSettled [.ref a, .ref o, .int du, .int (nI p), .int (nI most)]) [] (K, I, R) (some (.int (tv (fst (rSet s n cls du fd p) (most + 1) 0))), (K, I', R')) ∧ FR (PW w) I I' ∧ RF w R R' := by
  have hn := hRI.1
  obtain ⟨I1, R1, e1, e2, e3, e4⟩ := c_copyA (X := X) (d := d + 5) hK hA hRI.1 how
  have haw : a ≠ w ∧ a ≠ w + 1 := by
    obtain ⟨k0, k1, -⟩ := hK
    constructor <;> (intro h; rw [h] at ha; first | (rw [k0] at ha; cases ha) | (rw [k1] at ha; cases ha))
  have har1 : R1 a 0 = some w := by rw [e4 a 0 (by omega) (by omega)]; exact har
  have hA1 : VA K (upI I1 w 13 du) R1 w s n cls du fd := by
    obtain ⟨h1, h2, h3, h4, ⟨q, h5, h6⟩, h7⟩ := e2
    have q0 : q ≠ w := fun h => by have := h6.1; rw [h, h1.1] at this; cases this
    have q1 : q + 1 ≠ w := fun h => by have := h6.2.1; rw [h, h1.1] at this; cases this
    have q2 : q + 2 ≠ w := fun h => by have := h6.2.2.1; rw [h, h1.1] at this; cases this
    have q3 : q + 3 ≠ w := fun h => by have := h6.2.2.2.1; rw [h, h1.1] at this; cases this
    refine ⟨h1, ?_, fun p hp => ?_, h4, ⟨q, h5, h6.fr (upI_ne q0) (upI_ne q1) (upI_ne q2) (upI_ne q3)⟩, by rw [upI_eq, upd_at]⟩
    · unfold VM at h2 ⊢
      rw [upI_eq, upd_ne (by omega), upd_ne (by omega), upd_ne (by omega), upd_ne (by omega), upd_ne (by omega), upI_ne (by omega), upI_ne (by omega), upI_ne (by omega), upI_ne (by omega), upI_ne (by omega), upI_ne (by omega)]
      exact h2
    · obtain ⟨m, kk, a1, a2, a3, a4, a5⟩ := h3 p hp
      exact ⟨m, kk, a1, a2, a3, a4, by rw [upI_ne (fun h => by rw [h, h1.1] at a4; exact absurd (congrArg Prod.snd (Option.some.inj a4)) (show ¬ (16 : Nat) = 4 by decide))]; exact a5⟩
  have lp : ∀ mm i (J : Nat → Nat → Int32), i + mm = most + 1 → VA K J R1 w (rOn s n cls du fd i) n cls du fd → FR (PW w) I J → ∃ I', Ev X (d + 6) kX0_firstSettled 19 [some (.ref a), some (.ref o), some (.int du), some (.int (nI p)), some (.int (nI most)), some (.int (nI i))] [] (K, J, R1) (some (.int (tv (fst (rSet s n cls du fd p) mm i))), (K, I', R1)) ∧ FR (PW w) I I' := by
    intro mm
    induction mm with
    | zero =>
      intro i J hi h1 h2
      have e : i = most + 1 := by omega
      subst e
      refine ⟨J, ?_, h2⟩
      (repeat refine Ev.p rfl rfl ?_)
      refine Ev.bp rfl (fun c => ?_) (fun c => ?_)
      · ((repeat refine Ev.p rfl rfl ?_); exact Ev.r rfl)
      · exact absurd (nI_lt (by omega) (by omega)) c
    | succ mm ih =>
      intro i J hi h1 h2
      have hs := c_isSettled (X := X) (d := d + 5) h1.1 h1.2.1 hn hp
      obtain ⟨k0, -⟩ := h1.1
      by_cases hst : rSet s n cls du fd p i = true
      · have hst2 : sett (rOn s n cls du fd i) p = true := hst
        rw [hst2] at hs
        refine ⟨J, ?_, h2⟩
        rw [show fst (rSet s n cls du fd p) (mm + 1) i = some i from by rw [fst, if_pos hst]]
        (repeat refine Ev.p rfl rfl ?_)
        refine Ev.bp rfl (fun c => ?_) (fun c => ?_)
        · exact absurd c (nI_nlt (by omega) (by omega))
        · (repeat (first | refine Ev.p rfl rfl ?_ | refine Ev.gr (by rfl) (by rfl) (by assumption) (by rfl) (by assumption) ?_ | refine Ev.gi (by rfl) (by rfl) (by assumption) (by rfl) (by assumption) ?_))
          refine Ev.cv (by rfl) (by rfl) (by assumption) (by rfl) (by rfl) (by rfl) (by rfl) (by rfl) hs ?_
          ((repeat refine Ev.p rfl rfl ?_); exact Ev.r rfl)
      · have hst2 : sett (rOn s n cls du fd i) p = false := by
          cases h : sett (rOn s n cls du fd i) p with
          | true => exact absurd h hst
          | false => rfl
        rw [hst2] at hs
        obtain ⟨J1, J2, f1, f2, f3, f4⟩ := c_next (X := X) (d := d) h1 (RI_on hRI hfd hf du i) (by omega)
        obtain ⟨I', g1, g2⟩ := ih (i + 1) J2 (by omega) f3 (h2.tr f4)
        refine ⟨I', ?_, g2⟩
        rw [nI_succ] at g1
        rw [show fst (rSet s n cls du fd p) (mm + 1) i = fst (rSet s n cls du fd p) mm (i + 1) from by rw [fst, if_neg hst]]
        (repeat refine Ev.p rfl rfl ?_)
        refine Ev.bp rfl (fun c => ?_) (fun c => ?_)
        · exact absurd c (nI_nlt (by omega) (by omega))
        · (repeat (first | refine Ev.p rfl rfl ?_ | refine Ev.gr (by rfl) (by rfl) (by assumption) (by rfl) (by assumption) ?_ | refine Ev.gi (by rfl) (by rfl) (by assumption) (by rfl) (by assumption) ?_))
          refine Ev.cv (by rfl) (by rfl) (by assumption) (by rfl) (by rfl) (by rfl) (by rfl) (by rfl) hs ?_
          (repeat (first | refine Ev.p rfl rfl ?_ | refine Ev.gr (by rfl) (by rfl) (by assumption) (by rfl) (by assumption) ?_ | refine Ev.gi (by rfl) (by rfl) (by assumption) (by rfl) (by assumption) ?_))
          refine Ev.cv (by rfl) (by rfl) (by assumption) (by rfl) (by rfl) (by rfl) (by rfl) (by rfl) f1 ?_
          (repeat (first | refine Ev.p rfl rfl ?_ | refine Ev.gr (by rfl) (by rfl) (by assumption) (by rfl) (by assumption) ?_ | refine Ev.gi (by rfl) (by rfl) (by assumption) (by rfl) (by assumption) ?_))
          refine Ev.cv (by rfl) (by rfl) (by assumption) (by rfl) (by rfl) (by rfl) (by rfl) (by rfl) f2 ?_
          (repeat (first | (refine Ev.at (q := 19) rfl ?_; exact g1) | refine Ev.p rfl rfl ?_))
  obtain ⟨I', g1, g2⟩ := lp (most + 1) 0 (upI I1 w 13 du) (by omega) hA1 (e3.tr (FR.up (Or.inl rfl)))
  refine ⟨I', R1, ?_, g2, e4⟩
  obtain ⟨k0, -⟩ := hK
  (repeat (first | refine Ev.p rfl rfl ?_ | refine Ev.gr (by rfl) (by rfl) (by assumption) (by rfl) (by assumption) ?_ | refine Ev.gi (by rfl) (by rfl) (by assumption) (by rfl) (by assumption) ?_))
  refine Ev.cv (by rfl) (by rfl) (by assumption) (by rfl) (by rfl) (by rfl) (by rfl) (by rfl) e1 ?_
  (repeat (first | refine Ev.p rfl rfl ?_ | refine Ev.gr (by rfl) (by rfl) (by assumption) (by rfl) (by assumption) ?_ | refine Ev.gi (by rfl) (by rfl) (by assumption) (by rfl) (by assumption) ?_))
  refine Ev.pi (by rfl) (by rfl) (by assumption) (by rfl) ?_
  (repeat (first | (refine Ev.at (q := 19) rfl ?_; exact g1) | refine Ev.p rfl rfl ?_))
end ASK1
