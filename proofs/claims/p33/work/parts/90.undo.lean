/-! A CALL OF THE LAW: undo -/
section UNDO
variable {X : Nat × (Nat → Int32)} {d : Nat} {K : List (Nat × Nat)} {T : List (Nat × Nat)} {I : Nat → Nat → Int32} {R : Nat → Nat → Option Nat} {s : Nat → Int32} {n e : Nat} {hd : Option Nat} {cls : Cls} {l : List Int32} {im : Option Img}
theorem c_undo0 (hF : FX K R) (h7 : I 0 7 = 0) : Ev X 59 kX11_undo 0 (ent kX11_undo [.ref 0]) [] (K, I, R) (some (.int (-3)), (K, I, R)) := by
  obtain ⟨f0, f1, -⟩ := hF
  (repeat (first | refine Ev.p rfl rfl ?_ | refine Ev.gr (by rfl) (by rfl) (by assumption) (by rfl) (by assumption) ?_ | refine Ev.gi (by rfl) (by rfl) (by assumption) (by rfl) (by assumption) ?_))
  ((repeat refine Ev.p rfl rfl ?_); exact Ev.r rfl)
theorem c_undo (hF : FX K R) (hG : GS s n hd cls e) (hVH : VH K I R 23 37 s n hd cls) (h7 : I 0 7 = 1) : ∃ I' R', Ev X 59 kX11_undo 0 (ent kX11_undo [.ref 0]) [] (K, I, R) (some (.int (nI n)), (K, I', R')) ∧ VH K I' R' 1 15 s n hd cls ∧ FR UC I I' ∧ RF 1 R R' ∧ R' 1 14 = R 23 14 := by
  have hn6 := hG.2.1.1
  have hno := hF.uc
  obtain ⟨f0, f1, f2, f3, f4, f5, f6, fv1, fv2, fv3, fh1, fh2, f7, f8, f9, f10, f11, f12⟩ := hF
  obtain ⟨I1, R1, e1, e2, e3, e4, e5⟩ := c_copyV (X := X) (d := 58) fv1 hVH hn6 (by omega)
  have hM1 : HM I1 37 s := hVH.2.2.2.2.c (fun c c1 c2 => e3 c (fun g => by unfold PW at g; omega))
  have fh1' : HK K R1 15 := fh1.rf fv1 e4
  have fh2' : HK K R1 37 := fh2.rf fv1 e4
  obtain ⟨I2, r1, r2, r3⟩ := c_copyHand (X := X) (d := 58) fh1' fh2' (by omega) hM1 hG.by
  have low : ∀ j, R1 0 j = R 0 j := fun j => e4 0 j (by omega) (by omega)
  have g0 := (low 0).trans f1
  have g1 := (low 1).trans f2
  have g2 := (low 2).trans f3
  have g3 := (low 3).trans f4
  have hV2 : VH K I2 R1 1 15 s n hd cls := (e2 37 hM1).hh (fun c t z hk hz => r3 c (HK_no fh1 c t z hk hz)) (fun c c1 c2 => r3 c (by omega)) r2
  have h8 : I2 1 8 = nI n := hV2.1.2.1.1
  have k1 := fv1.1
  have k24 := fv2.1
  have k38 := fh2.1
  have k15 := fh1.1
  refine ⟨I2, R1, ?_, hV2, fun c hc => ?_, e4, e5⟩
  · (repeat (first | refine Ev.p rfl rfl ?_ | refine Ev.gr (by rfl) (by rfl) (by assumption) (by rfl) (by assumption) ?_ | refine Ev.gi (by rfl) (by rfl) (by assumption) (by rfl) (by assumption) ?_))
    refine Ev.cv (by rfl) (by rfl) (by assumption) (by rfl) (by rfl) (by rfl) (by rfl) (by rfl) e1 ?_
    (repeat (first | refine Ev.p rfl rfl ?_ | refine Ev.gr (by rfl) (by rfl) (by assumption) (by rfl) (by assumption) ?_ | refine Ev.gi (by rfl) (by rfl) (by assumption) (by rfl) (by assumption) ?_))
    refine Ev.cv (by rfl) (by rfl) (by assumption) (by rfl) (by rfl) (by rfl) (by rfl) (by rfl) r1 ?_
    (repeat (first | refine Ev.p rfl rfl ?_ | refine Ev.gr (by rfl) (by rfl) (by assumption) (by rfl) (by assumption) ?_ | refine Ev.gi (by rfl) (by rfl) (by assumption) (by rfl) (by assumption) ?_))
    ((repeat refine Ev.p rfl rfl ?_); exact Ev.r rfl)
  · rw [r3 c (fun g => hc (by unfold UC; omega))]
    exact e3 c (fun g => hc (by unfold PW at g; unfold UC; omega))
end UNDO
