/-! CALLS OF THE LAW: row, reopen -/
theorem VA.vm {K : List (Nat × Nat)} {I I' : Nat → Nat → Int32} {R : Nat → Nat → Option Nat} {v n : Nat} {s s' : Nat → Int32} {cls : Cls} {du fd : Int32} (h : VA K I R v s n cls du fd) (hM : VM I' v s' n) (hk : ∀ p, p < n → s' (33 + p) = s (33 + p)) (hf : ∀ c, ¬ (v ≤ c ∧ c ≤ v + 8) → I' c = I c) (h13 : I' v 13 = I v 13) : VA K I' R v s' n cls du fd := by
  obtain ⟨h1, h2, h3, h4, ⟨q, h5, h6⟩, h7⟩ := h
  obtain ⟨k0, k1, k2, k3, k4, k5, k6, k7, k8, -⟩ := id h1
  have no : ∀ c t z, K[c]? = some (t, z) → (z = 4 ∨ z = 10 ∨ z = 100) → I' c = I c := fun c t z hc hz => hf c (fun g => by
    rcases (by omega : c = v ∨ c = v + 1 ∨ c = v + 2 ∨ c = v + 3 ∨ c = v + 4 ∨ c = v + 5 ∨ c = v + 6 ∨ c = v + 7 ∨ c = v + 8) with e | e | e | e | e | e | e | e | e <;> rw [e] at hc <;> (first | rw [k0] at hc | rw [k1] at hc | rw [k2] at hc | rw [k3] at hc | rw [k4] at hc | rw [k5] at hc | rw [k6] at hc | rw [k7] at hc | rw [k8] at hc) <;> cases hc <;> omega)
  refine ⟨h1, hM, fun p hp => ?_, h4, ⟨q, h5, h6.fr (no _ _ _ h6.1 (by omega)) (no _ _ _ h6.2.1 (by omega)) (no _ _ _ h6.2.2.1 (by omega)) (no _ _ _ h6.2.2.2.1 (by omega))⟩, h13.trans h7⟩
  obtain ⟨m, kk, a1, a2, a3, a4, a5⟩ := h3 p hp
  exact ⟨m, kk, a1, a2, (hk p hp).trans a3, a4, by rw [no m _ 4 a4 (Or.inl rfl)]; exact a5⟩
section ROW
variable {X : Nat × (Nat → Int32)} {d : Nat} {K : List (Nat × Nat)} {T : List (Nat × Nat)} {I : Nat → Nat → Int32} {R : Nat → Nat → Option Nat} {s : Nat → Int32} {n e : Nat} {hd : Option Nat} {cls : Cls} {l : List Int32} {im : Option Img} {kc km : Nat} {As : List Value}
theorem c_row (hF : FX K R) (hG : GS s n hd cls e) (hVH : VH K I R 1 15 s n hd cls) (x y z : Int32) : (∀ p k, p < n → k < 4 → x = nI p → y = nI k → (0 ≤ z ∧ z ≤ 9) → s (33 + p) = 6 → Ev X 59 kX11_row 0 (ent kX11_row [.ref 0, .int x, .int y, .int z]) [] (K, I, R) (some (.int (s (45 + 4 * p + k))), (K, upI I 8 (4 * p + k) z, R))) ∧ (∀ p, p < n → x = nI p → (0 ≤ y ∧ y ≤ 3) → (0 ≤ z ∧ z ≤ 9) → s (33 + p) ≠ 6 → Ev X 59 kX11_row 0 (ent kX11_row [.ref 0, .int x, .int y, .int z]) [] (K, I, R) (some (.int (-3)), (K, I, R))) ∧ ((isM n x ∧ 0 ≤ y ∧ y ≤ 3) → ¬ (0 ≤ z ∧ z ≤ 9) → Ev X 59 kX11_row 0 (ent kX11_row [.ref 0, .int x, .int y, .int z]) [] (K, I, R) (some (.int (-2)), (K, I, R))) ∧ (¬ (isM n x ∧ 0 ≤ y ∧ y ≤ 3) → Ev X 59 kX11_row 0 (ent kX11_row [.ref 0, .int x, .int y, .int z]) [] (K, I, R) (some (.int (-1)), (K, I, R))) := by
  have hV := hVH.1
  have hn6 := hG.2.1.1
  have hm := c_isM (X := X) (d := 58) hF hV.2.1.1 hn6 x
  obtain ⟨f0, f1, f2, f3, f4, f5, f6, fv1, fv2, fv3, fh1, fh2, f7, f8, f9, f10, f11, f12, -⟩ := hF
  obtain ⟨k0, k1, k2, k3, k4, k5, k6, k7, k8, r0, r1, r2, r3, r4, r5, r6, r7⟩ := id fv1
  obtain ⟨v8, v9, v10, v11, v12, vk, vv, va, vt, vh, vr⟩ := hV.2.1
  have y3 : ∀ {y : Int32}, y < 4 → y ≤ 3 := fun h => by
    rcases Int32.lt_or_eq_of_le (Int32.le_of_lt h) with g | g
    · rw [Int32.le_iff_toInt_le]; rw [Int32.lt_iff_toInt_lt] at h
      have h3 : (3 : Int32).toInt = 3 := by decide
      have h4 : (4 : Int32).toInt = 4 := by decide
      omega
    · rw [g] at h; exact absurd h (by decide)
  have y4 : ∀ {y : Int32}, y ≤ 3 → y < 4 := fun h => Int32.lt_of_le_of_lt h (by decide)
  have go : ∀ {Z : Option Value × Hp}, (isM n x ∧ 0 ≤ y ∧ y ≤ 3) → Ev X 59 kX11_row 19 [some (.ref 0), some (.int x), some (.int y), some (.int z), none, none] [] (K, I, R) Z → Ev X 59 kX11_row 0 (ent kX11_row [.ref 0, .int x, .int y, .int z]) [] (K, I, R) Z := by
    intro Z h g
    (repeat (first | refine Ev.p rfl rfl ?_ | refine Ev.gr (by rfl) (by rfl) (by assumption) (by rfl) (by assumption) ?_ | refine Ev.gi (by rfl) (by rfl) (by assumption) (by rfl) (by assumption) ?_))
    refine Ev.cv (by rfl) (by rfl) (by assumption) (by rfl) (by rfl) (by rfl) (by rfl) (by rfl) (hm.1 h.1) ?_
    iterate 3 refine Ev.p rfl rfl ?_
    refine Ev.bp rfl (fun c => ?_) (fun c => ?_)
    · exact absurd c (Int32.not_lt.mpr h.2.1)
    · iterate 3 refine Ev.p rfl rfl ?_
      refine Ev.bp rfl (fun c2 => ?_) (fun c2 => ?_)
      · exact g
      · exact absurd (y4 h.2.2) c2
  have go2 : ∀ {Z : Option Value × Hp}, (isM n x ∧ 0 ≤ y ∧ y ≤ 3) → (0 ≤ z ∧ z ≤ 9) → Ev X 59 kX11_row 32 [some (.ref 0), some (.int x), some (.int y), some (.int z), none, none] [] (K, I, R) Z → Ev X 59 kX11_row 0 (ent kX11_row [.ref 0, .int x, .int y, .int z]) [] (K, I, R) Z := by
    intro Z h h2 g
    refine go h ?_
    iterate 2 refine Ev.p rfl rfl ?_
    refine Ev.bp rfl (fun c => ?_) (fun c => ?_)
    · exact absurd c (Int32.not_lt.mpr h2.1)
    · iterate 3 refine Ev.p rfl rfl ?_
      refine Ev.bp rfl (fun c2 => ?_) (fun c2 => ?_)
      · exact g
      · exact absurd h2.2 c2
  refine ⟨fun p k hp hk ex ey hz hs => go2 ⟨(isM_iff hn6).mpr ⟨p, hp, ex⟩, by rw [ey]; exact ⟨nI_pos' (by omega), nI_le (b := 3) (by omega) (by omega)⟩⟩ hz ?_, fun p hp ex hy hz hs => go2 ⟨(isM_iff hn6).mpr ⟨p, hp, ex⟩, hy⟩ hz ?_, fun h hz => go h ?_, fun h => ?_⟩
  · subst ex ey
    have e4 : nI p * 4 + nI k = nI (4 * p + k) := by
      rw [Int32.mul_comm, nI_4mul (by omega), nI_add]
    (repeat (first | refine Ev.p rfl rfl ?_ | refine Ev.gr (by rfl) (by rfl) (by assumption) (by rfl) (by assumption) ?_ | refine Ev.gi (by rfl) (by rfl) (by assumption) (by rfl) (by assumption) ?_))
    (refine Ev.iald (j := p) (by rfl) (by assumption) (by rfl) (by omega) (by omega) ?_; rw [vk p hp, hs])
    (repeat (first | refine Ev.p rfl rfl ?_ | refine Ev.gr (by rfl) (by rfl) (by assumption) (by rfl) (by assumption) ?_ | refine Ev.gi (by rfl) (by rfl) (by assumption) (by rfl) (by assumption) ?_))
    rw [e4]
    (refine Ev.iald (j := 4 * p + k) (by rfl) (by assumption) (by rfl) (by omega) (by omega) ?_; rw [vr p k hp hk])
    (repeat (first | refine Ev.p rfl rfl ?_ | refine Ev.gr (by rfl) (by rfl) (by assumption) (by rfl) (by assumption) ?_ | refine Ev.gi (by rfl) (by rfl) (by assumption) (by rfl) (by assumption) ?_))
    refine Ev.iast (j := 4 * p + k) (by rfl) (by assumption) (by rfl) (by omega) (by omega) ?_
    ((repeat refine Ev.p rfl rfl ?_); exact Ev.r rfl)
  · subst ex
    (repeat (first | refine Ev.p rfl rfl ?_ | refine Ev.gr (by rfl) (by rfl) (by assumption) (by rfl) (by assumption) ?_ | refine Ev.gi (by rfl) (by rfl) (by assumption) (by rfl) (by assumption) ?_))
    (refine Ev.iald (j := p) (by rfl) (by assumption) (by rfl) (by omega) (by omega) ?_; rw [vk p hp])
    (repeat (first | refine Ev.p rfl rfl ?_ | refine Ev.gr (by rfl) (by rfl) (by assumption) (by rfl) (by assumption) ?_ | refine Ev.gi (by rfl) (by rfl) (by assumption) (by rfl) (by assumption) ?_))
    refine Ev.bp rfl (fun c => ?_) (fun c => ?_)
    · exact absurd c hs
    · ((repeat refine Ev.p rfl rfl ?_); exact Ev.r rfl)
  · (repeat (first | refine Ev.p rfl rfl ?_ | refine Ev.gr (by rfl) (by rfl) (by assumption) (by rfl) (by assumption) ?_ | refine Ev.gi (by rfl) (by rfl) (by assumption) (by rfl) (by assumption) ?_))
    refine Ev.bp rfl (fun c => ?_) (fun c => ?_)
    · ((repeat refine Ev.p rfl rfl ?_); exact Ev.r rfl)
    · (repeat (first | refine Ev.p rfl rfl ?_ | refine Ev.gr (by rfl) (by rfl) (by assumption) (by rfl) (by assumption) ?_ | refine Ev.gi (by rfl) (by rfl) (by assumption) (by rfl) (by assumption) ?_))
      refine Ev.bp rfl (fun c2 => ?_) (fun c2 => ?_)
      · exact absurd ⟨Int32.not_lt.mp c, c2⟩ hz
      · ((repeat refine Ev.p rfl rfl ?_); exact Ev.r rfl)
  · by_cases h1 : isM n x
    · (repeat (first | refine Ev.p rfl rfl ?_ | refine Ev.gr (by rfl) (by rfl) (by assumption) (by rfl) (by assumption) ?_ | refine Ev.gi (by rfl) (by rfl) (by assumption) (by rfl) (by assumption) ?_))
      refine Ev.cv (by rfl) (by rfl) (by assumption) (by rfl) (by rfl) (by rfl) (by rfl) (by rfl) (hm.1 h1) ?_
      (repeat (first | refine Ev.p rfl rfl ?_ | refine Ev.gr (by rfl) (by rfl) (by assumption) (by rfl) (by assumption) ?_ | refine Ev.gi (by rfl) (by rfl) (by assumption) (by rfl) (by assumption) ?_))
      refine Ev.bp rfl (fun c => ?_) (fun c => ?_)
      · ((repeat refine Ev.p rfl rfl ?_); exact Ev.r rfl)
      · (repeat (first | refine Ev.p rfl rfl ?_ | refine Ev.gr (by rfl) (by rfl) (by assumption) (by rfl) (by assumption) ?_ | refine Ev.gi (by rfl) (by rfl) (by assumption) (by rfl) (by assumption) ?_))
        refine Ev.bp rfl (fun c2 => ?_) (fun c2 => ?_)
        · exact absurd ⟨h1, Int32.not_lt.mp c, y3 c2⟩ h
        · ((repeat refine Ev.p rfl rfl ?_); exact Ev.r rfl)
    · (repeat (first | refine Ev.p rfl rfl ?_ | refine Ev.gr (by rfl) (by rfl) (by assumption) (by rfl) (by assumption) ?_ | refine Ev.gi (by rfl) (by rfl) (by assumption) (by rfl) (by assumption) ?_))
      refine Ev.cv (by rfl) (by rfl) (by assumption) (by rfl) (by rfl) (by rfl) (by rfl) (by rfl) (hm.2 h1) ?_
      ((repeat refine Ev.p rfl rfl ?_); exact Ev.r rfl)
theorem op_row (hK : RSok R) (hG : GS s n hd cls e) (hC : CR (K0 ++ T) I R s n hd cls l im) (hR : RR I s l im) (x y z : Int32) : OP X T I R kX11_row kX12_row [.int x, .int y, .int z] := by
  have hF := FX1 (T := T) hK
  have hn6 := hG.2.1.1
  have hc := c_row (X := X) hF hG hC.1 x y z
  have hm := fun (I1 : Nat → Nat → Int32) (h1 : I1 141 = s) => m_row (X := X) (d := 57) (T := T) (G := R) h1 hG.1.1 hG.2.1.1 x y z
  by_cases h : isM n x ∧ 0 ≤ y ∧ y ≤ 3
  · by_cases hz : 0 ≤ z ∧ z ≤ 9
    · obtain ⟨p, hp, ex⟩ := (isM_iff hn6).mp h.1
      by_cases h6 : s (33 + p) = 6
      · obtain ⟨k, hk, ey⟩ := nI_of2 (M := 3) (n := 3) (by decide) (Int32.not_lt.mpr h.2.1) h.2.2
        obtain ⟨r, hr, er⟩ := nI_of2 (M := 9) (n := 9) (by decide) (Int32.not_lt.mpr hz.1) hz.2
        have ho : VOo s (upd s (45 + 4 * p + k) z) := fun j h1 h2 => upd_ne (by omega)
        have hq : FR UC I (upI I 8 (4 * p + k) z) := UC.up (FR.rf I) (by unfold UC; omega)
        have hl : ∀ j, j < 45 ∨ 69 ≤ j → upd s (45 + 4 * p + k) z j = s j := fun j hj => upd_ne (by omega)
        obtain ⟨b1, ⟨b2, b3, b4⟩, b5, b6, b7, b8⟩ := hG.2.1
        have hRI : RI (upd s (45 + 4 * p + k) z) n e cls := by
          refine ⟨b1, ⟨fun q hq => ?_, fun q hq => ?_, fun q hq => ?_⟩, fun q hq => ?_, (hl 0 (by omega)).trans b6, b7, b8⟩
          · rw [hl (14 + q) (by omega)]; exact b2 q hq
          · rw [hl (20 + q) (by omega)]; exact b3 q hq
          · rw [hl (69 + q) (by omega)]; exact b4 q hq
          · rw [hl (8 + q) (by omega), hl (39 + q) (by omega)]
            refine ⟨(b5 q hq).1, (b5 q hq).2.1, fun k' hk' => ?_⟩
            by_cases g : 45 + 4 * q + k' = 45 + 4 * p + k
            · rw [g, upd_at]; exact ⟨r, hr, er⟩
            · rw [upd_ne g]; exact (b5 q hq).2.2 k' hk'
        have hVM := hC.1.1.2.1
        obtain ⟨v8, v9, v10, v11, v12, vk, vv, va, vt, vh, vr⟩ := id hVM
        have hA : VA (K0 ++ T) (upI I 8 (4 * p + k) z) R 1 (upd s (45 + 4 * p + k) z) n cls (rT s hd 222 20) (rT s hd 227 1) := by
          refine hC.1.1.vm ?_ (fun q hq => hl _ (by omega)) (fun c hc => upI_ne (by omega)) (by rw [upI_ne (by omega)])
          refine ⟨by rw [upI_ne (by omega)]; exact v8, ?_, ?_, by rw [upI_ne (by omega), hl 1 (by omega)]; exact v11, by rw [upI_ne (by omega), hl 0 (by omega)]; exact v12, fun i hi => ?_, fun i hi => ?_, fun i hi => ?_, fun i hi => ?_, fun i hi => ?_, fun i k' hi hk' => ?_⟩
          · rw [upI_ne (by omega), v9]; congr 1; exact mk_ext (fun i hi => by unfold sett; rw [hl (14 + i) (by omega)])
          · rw [upI_ne (by omega), v10]; congr 1; exact mk_ext (fun i hi => by unfold shel; rw [hl (20 + i) (by omega)])
          · rw [upI_ne (by omega), hl (33 + i) (by omega)]; exact vk i hi
          · rw [upI_ne (by omega), hl (39 + i) (by omega)]; exact vv i hi
          · rw [upI_ne (by omega), hl (2 + i) (by omega)]; exact va i hi
          · rw [upI_ne (by omega), hl (8 + i) (by omega)]; exact vt i hi
          · rw [upI_ne (by omega), hl (69 + i) (by omega)]; exact vh i hi
          · rw [show 1 + 7 = 8 from rfl, upI_eq]
            by_cases g : 4 * i + k' = 4 * p + k
            · rw [show 45 + 4 * i + k' = 45 + 4 * p + k by omega, g, upd_at, upd_at]
            · rw [upd_ne g, upd_ne (by omega)]; exact vr i k' hi hk'
        refine upd_op (s' := upd s (45 + 4 * p + k) z) hK hC hR (hc.1 p k hp (by omega) ex ey hz h6) hq (fun g1 g2 _ => ⟨_, (hm _ g1).1 p k hp (by omega) ex ey hz h6, by rw [upI_eq, g1], MF.up (by omega)⟩) (hG.vo ho (fun q hq => by rw [hl (33 + q) (by omega)]; exact hG.1.2.2.1 q hq) hRI hG.2.2.1 (by rw [hl 1 (by omega)]; exact hG.2.2.2.1) (fun q hq => by rw [hl (2 + q) (by omega)]; exact hG.2.2.2.2.1 q hq)) (hC.1.vo ho hA (by rw [upI_ne (by omega)]) (fun q q1 q2 => ?_) (fun q hq => ⟨hl _ (by omega), hl _ (by omega)⟩) (fun c t hk ht => uc_tags hF hq c t 4 hk (Or.inl ⟨ht, rfl⟩)) (fun c c1 c2 => upI_ne (by omega)))
        obtain ⟨z1, z2, z3, z4⟩ := hC.1.2.2.1 q q1 q2
        refine ⟨by rw [upI_ne (by omega)]; exact z1, by rw [upI_ne (by omega)]; exact z2, by rw [upI_ne (by omega)]; exact z3, fun k' hk' => ?_⟩
        rw [show 1 + 7 = 8 from rfl, upI_eq, upd_ne (by omega)]
        exact z4 k' hk'
      · exact stay_op hK hG hC hR (hc.2.1 p hp ex h.2 hz h6) (fun I1 g => (hm I1 g).2.1 p hp ex h.2 hz h6)
    · exact stay_op hK hG hC hR (hc.2.2.1 h hz) (fun I1 g => (hm I1 g).2.2.1 h hz)
  · exact stay_op hK hG hC hR (hc.2.2.2 h) (fun I1 g => (hm I1 g).2.2.2 h)
end ROW
