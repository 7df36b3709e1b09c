/-! A CALL OF THE LAW: undo -/
section UNDO
variable {X : Nat × (Nat → Int32)} {d : Nat} {K : List (Nat × Nat)} {T : List (Nat × Nat)} {I : Nat → Nat → Int32} {R : Nat → Nat → Option Nat} {s : Nat → Int32} {n e : Nat} {hd : Option Nat} {cls : Cls} {l : List Int32} {im : Option Img}
theorem c_undo0 (hF : FX K R) (h7 : I 0 7 = 0) : Ev X 59 kX11_undo 0 (ent kX11_undo [.ref 0]) [] (K, I, R) (some (.int (-3)), (K, I, R)) := by
  obtain ⟨f0, f1, -⟩ := hF
  (repeat (first | refine Ev.p rfl rfl ?_ | refine Ev.gr (by rfl) (by rfl) (by assumption) (by rfl) (by assumption) ?_ | refine Ev.gi (by rfl) (by rfl) (by assumption) (by rfl) (by assumption) ?_))
  ((repeat refine Ev.p rfl rfl ?_); exact Ev.r rfl)
theorem c_undo (hF : FX K R) (hG : GS s n hd cls e) (hVH : VH K I R 23 37 s n hd cls) (h7 : I 0 7 = 1) : ∃ I' R', Ev X 59 kX11_undo 0 (ent kX11_undo [.ref 0]) [] (K, I, R) (some (.int (nI n)), (K, I', R')) ∧ VH K I' R' 1 15 s n hd cls ∧ FR UC I I' ∧ RF 1 R R' ∧ R' 1 14 = R 23 14 := by
  have hn6 := hG.2.1.1
  have hno := hF.uc
  obtain ⟨f0, f1, f2, f3, f4, f5, f6, fv1, fv2, fv3, fh1, fh2, f7, f8, f9, f10, f11, f12, -⟩ := hF
  obtain ⟨I1, R1, e1, e2, e3, e4, e5⟩ := c_copyV (X := X) (d := 58) fv1 hVH hn6 (by omega)
  have hM1 : HM I1 37 s := hVH.2.2.2.2.c (fun c c1 c2 => e3 c (fun g => by unfold PW at g; omega))
  have fh1' : HK K R1 15 := fh1.rf fv1 e4
  have fh2' : HK K R1 37 := fh2.rf fv1 e4
  obtain ⟨I2, r1, r2, r3⟩ := c_copyHand (X := X) (d := 58) fh1' fh2' (by omega) hM1 hG.by
  have low : ∀ j, R1 0 j = R 0 j := fun j => e4 0 j (by omega) (by omega)
  have g0 := (low 0).trans f1
  have g1 := (low 1).trans f2
  have g2 := (low 2).trans f3
  have g3 := (low 3).trans f4
  have hV2 : VH K I2 R1 1 15 s n hd cls := (e2 37 hM1).hh (fun c t z hk hz => r3 c (HK_no fh1 c t z hk hz)) (fun c c1 c2 => r3 c (by omega)) r2
  have h8 : I2 1 8 = nI n := hV2.1.2.1.1
  have k1 := fv1.1
  have k24 := fv2.1
  have k38 := fh2.1
  have k15 := fh1.1
  refine ⟨I2, R1, ?_, hV2, fun c hc => ?_, e4, e5⟩
  · (repeat (first | refine Ev.p rfl rfl ?_ | refine Ev.gr (by rfl) (by rfl) (by assumption) (by rfl) (by assumption) ?_ | refine Ev.gi (by rfl) (by rfl) (by assumption) (by rfl) (by assumption) ?_))
    refine Ev.cv (by rfl) (by rfl) (by assumption) (by rfl) (by rfl) (by rfl) (by rfl) (by rfl) e1 ?_
    (repeat (first | refine Ev.p rfl rfl ?_ | refine Ev.gr (by rfl) (by rfl) (by assumption) (by rfl) (by assumption) ?_ | refine Ev.gi (by rfl) (by rfl) (by assumption) (by rfl) (by assumption) ?_))
    refine Ev.cv (by rfl) (by rfl) (by assumption) (by rfl) (by rfl) (by rfl) (by rfl) (by rfl) r1 ?_
    (repeat (first | refine Ev.p rfl rfl ?_ | refine Ev.gr (by rfl) (by rfl) (by assumption) (by rfl) (by assumption) ?_ | refine Ev.gi (by rfl) (by rfl) (by assumption) (by rfl) (by assumption) ?_))
    ((repeat refine Ev.p rfl rfl ?_); exact Ev.r rfl)
  · rw [r3 c (fun g => hc (by unfold UC; omega))]
    exact e3 c (fun g => hc (by unfold PW at g; unfold UC; omega))
theorem op_undo (hK : RSok R) (hG : GS s n hd cls e) (hC : CR (K0 ++ T) I R s n hd cls l im) (hR : RR I s l im) : OP X T I R kX11_undo kX12_undo [] := by
  have hF := FX1 (T := T) hK
  cases him : im with
  | none =>
    have h7 : I 0 7 = 0 := by rw [hC.2.2.2.1, him]; rfl
    have h4 : I 140 4 = 0 := by rw [hR.2.2.1, him]; rfl
    exact ask_op hK hG hC hR (c_undo0 hF h7) (FR.rf I) (fun _ _ _ _ _ => rfl) (fun g1 g2 _ => ⟨I, (m_undo (X := X) (d := 59) (T := T) (G := R)).1 h4, g1, MF.rf I⟩)
  | some i =>
    have hno := hF.uc
    have h7 : I 0 7 = 1 := by rw [hC.2.2.2.1, him]; rfl
    obtain ⟨g1, g2, g3, g4, g5, sp, g6, g7, g8, g9⟩ := hC
    obtain ⟨iV, iG⟩ := g5 i him
    obtain ⟨I1, R1, c1, c2, c3, c6, c7⟩ := c_undo (X := X) hF iG iV h7
    obtain ⟨f0, f1, f2, f3, f4, f5, f6, fv1, fv2, fv3, fh1, fh2, f7, f8, f9, f10, f11, f12, f13⟩ := id hF
    have hK1 : RSok R1 := by
      intro p j q hs
      rw [c6 p j (fun g => ?_) (fun g => ?_)]
      · exact hK p j q hs
      · rw [g.1] at hs
        have : sr 2 j = none := rfl
        rw [this] at hs; cases hs
      · rw [g.1, g.2] at hs; cases hs
    have hm : ∀ c, 140 ≤ c → I1 c = I c := fun c c1 => c3 c (fun g => by unfold UC at g; omega)
    have h4 : I1 140 4 ≠ 0 := by rw [hm 140 (by omega), hR.2.2.1, him]; exact (show (1 : Int32) ≠ 0 by decide)
    obtain ⟨I2, m1, m2, m3⟩ := (m_undo (X := X) (d := 59) (T := T) (G := R1) (I := I1)).2 h4
    have e144 : I1 142 = i.1 := (hm 142 (by omega)).trans (hR.2.2.2.2.2 i him)
    have e143 : I2 141 = i.1 := by
      rw [m2]
      funext j
      unfold mixf
      split
      · rw [e144]
      · rw [hm 141 (by omega), hR.1, hG.2.2.2.2.2.2.2.2.2.2.2.1 j (by omega), iG.2.2.2.2.2.2.2.2.2.2.2.1 j (by omega)]
    rw [hK1.eq, e144, iG.1.1] at m1
    have htag : ∀ c t z, (K0 ++ T)[c]? = some (t, z) → ((t < 13 ∧ z = 4) ∨ (t = 8 ∧ z = 10) ∨ (t = 20 ∧ z = 10) ∨ (t = 20 ∧ z = 100)) → I2 c = I1 c := fun c t z hk hz => m3 c (fun g => by
      obtain ⟨t', z', e, hh⟩ := f13 c (by omega) (by omega)
      rw [hk] at e; cases e; omega)
    have hlow : ∀ c, ¬ UC c → c ≠ 141 → I2 c = I c := fun c h h2 => (m3 c h2).trans (c3 c h)
    refine ⟨.int (nI i.2.1), T, I1, R1, I2, c1, m1, ⟨hK1, i.1, i.2.1, i.2.2.1, i.2.2.2.1, i.2.2.2.2, l, im, iG, ⟨c2.j htag (fun c d1 d2 => m3 c (by omega)) (fun c d1 d2 => m3 c (by omega)), ?_, g3, ?_, fun i' hi => ⟨((g5 i' hi).1.r fv1 c6 (by omega)).j (fun c t z hk hz => (htag c t z hk hz).trans (c3 c (hno c t z hk hz))) (fun c d1 d2 => hlow c (by unfold UC; omega) (by omega)) (fun c d1 d2 => hlow c (by unfold UC; omega) (by omega)), (g5 i' hi).2⟩, sp, ?_, ?_, ?_, fun hi => ?_⟩, e143, ?_, ?_, ?_, ?_, ?_⟩, Or.inl rfl⟩
    · have e136 : I2 134 = I 134 := hlow 134 (by unfold UC; omega) (by omega)
      unfold TCc at g2 ⊢
      rw [e136]; exact g2
    · rw [hlow 0 (by unfold UC; omega) (by omega)]; exact g4
    · exact (c6 0 6 (by omega) (by omega)).trans g6
    · obtain ⟨k0, k1, k2, k3, q3, q4, q5⟩ := g7
      have nsp : ∀ j, j < 14 → R1 sp j = R sp j := fun j hj => c6 sp j (fun g => by have := fv1.2.1; rw [← g.1, k0] at this; cases this) (by omega)
      exact ⟨k0, k1, k2, k3, (nsp 3 (by omega)).trans q3, (nsp 4 (by omega)).trans q4, (nsp 5 (by omega)).trans q5⟩
    · rw [c7]; exact g9 (by rw [him]; rfl)
    · rw [c6 23 14 (by omega) (by omega)]; exact g9 hi
    · rw [m3 140 (by omega), hm 140 (by omega)]; exact hR.2.1
    · rw [m3 140 (by omega), hm 140 (by omega)]; exact hR.2.2.1
    · have h4 := hR.2.2.2.1
      unfold TC at h4 ⊢
      rw [m3 140 (by omega), m3 148 (by omega), hm 140 (by omega), hm 148 (by omega)]; exact h4
    · rw [m3 142 (by omega), hm 142 (by omega)]; exact hR.2.2.2.2.1
    · rw [m3 142 (by omega), hm 142 (by omega)]; exact hR.2.2.2.2.2
end UNDO
