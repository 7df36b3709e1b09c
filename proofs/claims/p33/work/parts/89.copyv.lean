/-! A VERANDA'S COPY, whole -/
section COPYV
variable {X : Nat × (Nat → Int32)} {d : Nat} {K : List (Nat × Nat)} {T : List (Nat × Nat)} {I : Nat → Nat → Int32} {R : Nat → Nat → Option Nat} {s : Nat → Int32} {n e o g w h : Nat} {hd : Option Nat} {cls : Cls} {l : List Int32} {im : Option Img}
theorem c_copyV (hK : VK K R w) (hV : VH K I R o g s n hd cls) (hn : n ≤ 6) (how : o + 9 ≤ w ∨ w + 9 ≤ o) : ∃ I' R', Ev X d kX10_copyFrom 0 (ent kX10_copyFrom [.ref w, .ref o]) [] (K, I, R) (none, (K, I', R')) ∧ (∀ h, HM I' h s → VH K I' R' w h s n hd cls) ∧ FR (PW w) I I' ∧ RF w R R' ∧ R' w 14 = R o 14 := by
  obtain ⟨⟨h1, h2, h3, h4, ⟨q, h5, h6⟩, h7⟩, b2, b3, b4, b5⟩ := hV
  obtain ⟨I', R', e1, e2, e3, e4, e5, e6, e7, e8, e9⟩ := c_copyFrom (X := X) (d := d) (I := I) hK h1 (by omega) (fun i hi => by
    by_cases hin : i < n
    · obtain ⟨m, kk, a1, a2, a3, a4, a5⟩ := h3 i hin
      exact Or.inr ⟨m, kt kk, a1, a4, fam_kt a2⟩
    · exact Or.inl (h4 i (by omega) hi)) h5
  have hI : FR (PW w) I I' := e6.mo PC.w
  refine ⟨I', R', e1, fun h hH => ⟨⟨hK.r (fun j hj => e9 w j (by omega) (by omega)), ?_, ?_, ?_, ⟨q, e7, h6.pw hK hI e9⟩, by rw [e4 13 (by omega) (by omega)]; exact h7⟩, e5.trans b2, fun p p1 p2 => ?_, fun p hp => ?_, hH⟩, hI, e9, e7.trans h5.symm⟩
  · obtain ⟨v8, v9, v10, v11, v12, vk, vv, va, vt, vh, vr⟩ := h2
    refine ⟨by rw [e4 8 (by omega) (by omega)]; exact v8, by rw [e4 9 (by omega) (by omega)]; exact v9, by rw [e4 10 (by omega) (by omega)]; exact v10, by rw [e4 11 (by omega) (by omega)]; exact v11, by rw [e4 12 (by omega) (by omega)]; exact v12, fun p hp => ?_, fun p hp => ?_, fun p hp => ?_, fun p hp => ?_, fun p hp => ?_, fun p k hp hk => ?_⟩
    · rw [e2 2 (by omega) (by omega) p (by omega)]; exact vk p hp
    · rw [e2 3 (by omega) (by omega) p (by omega)]; exact vv p hp
    · rw [e2 4 (by omega) (by omega) p (by omega)]; exact va p hp
    · rw [e2 5 (by omega) (by omega) p (by omega)]; exact vt p hp
    · rw [e2 6 (by omega) (by omega) p (by omega)]; exact vh p hp
    · rw [e3 (4 * p + k) (by omega)]; exact vr p k hp hk
  · intro p hp
    obtain ⟨m, kk, a1, a2, a3, a4, a5⟩ := h3 p hp
    exact ⟨m, kk, (e8 p (by omega)).trans a1, a2, a3, a4, by rw [hI m (PW_no hK a4 (by omega))]; exact a5⟩
  · exact fun i i1 i2 => (e8 i i2).trans (h4 i i1 i2)
  · obtain ⟨z1, z2, z3, z4⟩ := b3 p p1 p2
    refine ⟨by rw [e2 4 (by omega) (by omega) p p2]; exact z1, by rw [e2 5 (by omega) (by omega) p p2]; exact z2, by rw [e2 6 (by omega) (by omega) p p2]; exact z3, fun k hk => by rw [e3 (4 * p + k) (by omega)]; exact z4 k hk⟩
  · obtain ⟨m, kk, a1, a2, a3, a4, a5, a6, a7, a8⟩ := b4 p hp
    have em : I' m = I m := hI m (PW_no hK a4 (by omega))
    refine ⟨m, kk, (e8 p (by omega)).trans a1, a2, a3, a4, by rw [em]; exact a5, by rw [em]; exact a6, (e9 m 3 (fun g => ?_) (by omega)).trans a7, a8⟩
    have k1 := hK.2.1
    rw [← g.1, a4] at k1
    exact absurd (congrArg Prod.snd (Option.some.inj k1)) (show ¬ (4 : Nat) = 6 by decide)
theorem VH.hh {I' : Nat → Nat → Int32} {v h' : Nat} (hV : VH K I R v h s n hd cls) (hI2 : ∀ c t z, K[c]? = some (t, z) → ((t < 13 ∧ z = 4) ∨ (t = 8 ∧ z = 10) ∨ (t = 20 ∧ z = 10) ∨ (t = 20 ∧ z = 100)) → I' c = I c) (hv : ∀ c, v ≤ c → c ≤ v + 7 → I' c = I c) (hH : HM I' h' s) : VH K I' R v h' s n hd cls := by
  obtain ⟨h1, h2, h3, h4, h5⟩ := hV
  refine ⟨h1.gen2 hI2 hv, by rw [hv v (by omega) (by omega)]; exact h2, fun p p1 p2 => ?_, fun p hp => ?_, hH⟩
  · rw [hv (v + 4) (by omega) (by omega), hv (v + 5) (by omega) (by omega), hv (v + 6) (by omega) (by omega), hv (v + 7) (by omega) (by omega)]
    exact h3 p p1 p2
  · obtain ⟨m, kk, a1, a2, a3, a4, a5, a6, a7, a8⟩ := h4 p hp
    have em := hI2 m _ 4 a4 (Or.inl ⟨kt_lt kk, rfl⟩)
    exact ⟨m, kk, a1, a2, a3, a4, by rw [em]; exact a5, by rw [em]; exact a6, a7, a8⟩
theorem HK_no {a : Nat} (hh : HK K R a) : ∀ c t z, K[c]? = some (t, z) → ((t < 13 ∧ z = 4) ∨ (t = 8 ∧ z = 10) ∨ (t = 20 ∧ z = 10) ∨ (t = 20 ∧ z = 100)) → ¬ (a ≤ c ∧ c ≤ a + 7) := by
  obtain ⟨j0, j1, j2, j3, j4, j5, j6, j7, -⟩ := hh
  intro c t z hk hz hc
  have e : c = a ∨ c = a + 1 ∨ c = a + 2 ∨ c = a + 3 ∨ c = a + 4 ∨ c = a + 5 ∨ c = a + 6 ∨ c = a + 7 := by omega
  rcases e with g | g | g | g | g | g | g | g <;> subst g <;> (first | rw [j0] at hk | rw [j1] at hk | rw [j2] at hk | rw [j3] at hk | rw [j4] at hk | rw [j5] at hk | rw [j6] at hk | rw [j7] at hk) <;> cases hk <;> omega
/-- what image writes -/
def UI (c : Nat) : Prop := c = 0 ∨ (23 ≤ c ∧ c ≤ 31) ∨ (37 ≤ c ∧ c ≤ 44)
theorem VK_no {a : Nat} (hh : VK K R a) : ∀ c t z, K[c]? = some (t, z) → ((t < 13 ∧ z = 4) ∨ (t = 8 ∧ z = 10) ∨ (t = 20 ∧ z = 10) ∨ (t = 20 ∧ z = 100)) → ¬ (a ≤ c ∧ c ≤ a + 8) := by
  obtain ⟨j0, j1, j2, j3, j4, j5, j6, j7, j8, -⟩ := hh
  intro c t z hk hz hc
  have e : c = a ∨ c = a + 1 ∨ c = a + 2 ∨ c = a + 3 ∨ c = a + 4 ∨ c = a + 5 ∨ c = a + 6 ∨ c = a + 7 ∨ c = a + 8 := by omega
  rcases e with g | g | g | g | g | g | g | g | g <;> subst g <;> (first | rw [j0] at hk | rw [j1] at hk | rw [j2] at hk | rw [j3] at hk | rw [j4] at hk | rw [j5] at hk | rw [j6] at hk | rw [j7] at hk | rw [j8] at hk) <;> cases hk <;> omega
theorem VH.r {R' : Nat → Nat → Option Nat} {v u : Nat} (hV : VH K I R v h s n hd cls) (hu : VK K R u) (hR : RF u R R') (hv : v + 1 < u ∨ u + 1 < v) : VH K I R' v h s n hd cls := by
  obtain ⟨h1, h2, h3, h4, h5⟩ := hV
  have k0 := hu.1
  have k1 := hu.2.1
  refine ⟨h1.gen (fun _ _ _ _ _ => rfl) (fun _ _ _ => rfl) (fun j => hR v j (by omega) (by omega)) (fun j => hR (v + 1) j (by omega) (by omega)) (fun q hq j hj => hR q j (fun g => by rw [g.1, k1] at hq; cases hq) (by omega)), h2, h3, fun p hp => ?_, h5⟩
  obtain ⟨m, kk, a1, a2, a3, a4, a5, a6, a7, a8⟩ := h4 p hp
  refine ⟨m, kk, (hR (v + 1) p (by omega) (by omega)).trans a1, a2, a3, a4, a5, a6, (hR m 3 (fun g => ?_) (by omega)).trans a7, a8⟩
  rw [← g.1, a4] at k1
  exact absurd (congrArg Prod.snd (Option.some.inj k1)) (show ¬ (4 : Nat) = 6 by decide)
theorem Ev.pz {k pc np a b c x p z t : Nat} {v : Int32} {ls : List (Option Value)} {r : List Value} {Z : Option Value × Hp} {y : Int32} (hl : look k pc = some (.putfield x, np, a, b, c, v)) (hb0 : Nat.beq b 0 = false) (hb : (Nat.beq b 2 && nfit .boolean y) = true) (hk : K[p]? = some (t, z)) (hf : (Nat.blt t 13 && fam c t) = true) (e : Ev X d k np ls r (K, upI I p a y, R) Z) : Ev X d k pc ls (.int y :: .ref p :: r) (K, I, R) Z := by
  refine Ev.s (pc' := np) (ls' := ls) (st' := r) (h' := (K, upI I p a y, R)) ?_ e
  unfold stq
  rw [hl]
  show stp X _ ls _ (K, I, R) = _
  dsimp only [stp]
  rw [hk]
  dsimp only
  rw [hf, hb0, hb]
  rfl
theorem c_image (hF : FX K R) (hG : GS s n hd cls e) (hVH : VH K I R 1 15 s n hd cls) : ∃ I' R', Ev X 59 kX11_image 0 (ent kX11_image [.ref 0]) [] (K, I, R) (some (.int (nI n)), (K, I', R')) ∧ VH K I' R' 23 37 s n hd cls ∧ FR UI I I' ∧ (∀ j, j ≠ 7 → I' 0 j = I 0 j) ∧ I' 0 7 = 1 ∧ RF 23 R R' ∧ R' 23 14 = R 1 14 := by
  have hn6 := hG.2.1.1
  obtain ⟨f0, f1, f2, f3, f4, f5, f6, fv1, fv2, fv3, fh1, fh2, f7, f8, f9, f10, f11, f12⟩ := hF
  obtain ⟨I1, R1, e1, e2, e3, e4, e5⟩ := c_copyV (X := X) (d := 58) fv2 hVH hn6 (by omega)
  have hM1 : HM I1 15 s := hVH.2.2.2.2.c (fun c c1 c2 => e3 c (fun g => by unfold PW at g; omega))
  have fh1' : HK K R1 15 := fh1.rf fv2 e4
  have fh2' : HK K R1 37 := fh2.rf fv2 e4
  obtain ⟨I2, r1, r2, r3⟩ := c_copyHand (X := X) (d := 58) fh2' fh1' (by omega) hM1 hG.by
  have low : ∀ j, R1 0 j = R 0 j := fun j => e4 0 j (by omega) (by omega)
  have g0 := (low 0).trans f1
  have g1 := (low 1).trans f2
  have g2 := (low 2).trans f3
  have g3 := (low 3).trans f4
  obtain ⟨I3, hI3⟩ : ∃ I3, I3 = upI I2 0 7 1 := ⟨_, rfl⟩
  have h12 : ∀ c, ¬ (c = 23 ∨ (25 ≤ c ∧ c ≤ 31)) → ¬ (37 ≤ c ∧ c ≤ 44) → I2 c = I c := fun c c1 c2 => (r3 c c2).trans (e3 c (fun g => by unfold PW at g; omega))
  have h8 : I3 1 8 = nI n := by rw [hI3, upI_ne (by omega), h12 1 (by omega) (by omega)]; exact hVH.1.2.1.1
  have k0 := fv1.1
  have k24 := fv2.1
  have k38 := fh2.1
  have k15 := fh1.1
  refine ⟨I3, R1, ?_, ?_, fun c hc => ?_, fun j hj => ?_, ?_, e4, e5⟩
  · (repeat (first | refine Ev.p rfl rfl ?_ | refine Ev.gr (by rfl) (by rfl) (by assumption) (by rfl) (by assumption) ?_ | refine Ev.gi (by rfl) (by rfl) (by assumption) (by rfl) (by assumption) ?_))
    refine Ev.cv (by rfl) (by rfl) (by assumption) (by rfl) (by rfl) (by rfl) (by rfl) (by rfl) e1 ?_
    (repeat (first | refine Ev.p rfl rfl ?_ | refine Ev.gr (by rfl) (by rfl) (by assumption) (by rfl) (by assumption) ?_ | refine Ev.gi (by rfl) (by rfl) (by assumption) (by rfl) (by assumption) ?_))
    refine Ev.cv (by rfl) (by rfl) (by assumption) (by rfl) (by rfl) (by rfl) (by rfl) (by rfl) r1 ?_
    (repeat (first | refine Ev.p rfl rfl ?_ | refine Ev.gr (by rfl) (by rfl) (by assumption) (by rfl) (by assumption) ?_ | refine Ev.gi (by rfl) (by rfl) (by assumption) (by rfl) (by assumption) ?_))
    refine Ev.pz (by rfl) (by rfl) (by rfl) (by assumption) (by rfl) ?_
    rw [← hI3]
    (repeat (first | refine Ev.p rfl rfl ?_ | refine Ev.gr (by rfl) (by rfl) (by assumption) (by rfl) (by assumption) ?_ | refine Ev.gi (by rfl) (by rfl) (by assumption) (by rfl) (by assumption) ?_))
    ((repeat refine Ev.p rfl rfl ?_); exact Ev.r rfl)
  · have hM3 : HM I3 37 s := r2.c (fun c c1 c2 => by rw [hI3, upI_ne (by omega)])
    refine (e2 15 hM1).hh (fun c t z hk hz => ?_) (fun c c1 c2 => by rw [hI3, upI_ne (by omega)]; exact r3 c (by omega)) hM3
    rw [hI3, upI_ne (fun g => by rw [g, f0] at hk; cases hk; omega)]
    exact r3 c (HK_no fh2 c t z hk hz)
  · rw [hI3, upI_ne (fun g => hc (Or.inl g))]
    exact h12 c (fun g => hc (Or.inr (Or.inl (by omega)))) (fun g => hc (Or.inr (Or.inr g)))
  · rw [hI3, upI_eq, upd_ne hj, h12 0 (by omega) (by omega)]
  · rw [hI3, upI_eq, upd_at]
end COPYV
