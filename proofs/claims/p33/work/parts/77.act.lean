/-! A CALL OF THE LAW: act -/
theorem VH.i {K : List (Nat × Nat)} {I I' : Nat → Nat → Int32} {R : Nat → Nat → Option Nat} {v h n : Nat} {s : Nat → Int32} {hd : Option Nat} {cls : Cls} (hV : VH K I R v h s n hd cls) (hh : HK K R h) (htag : ∀ c t z, K[c]? = some (t, z) → ((t < 13 ∧ z = 4) ∨ z = 10 ∨ z = 100 ∨ z = 12 ∨ z = 5 ∨ z = 8) → I' c = I c) (hcell : ∀ c, v ≤ c → c ≤ v + 7 → I' c = I c) : VH K I' R v h s n hd cls := by
  obtain ⟨h1, h2, h3, h4, h5⟩ := hV
  refine ⟨h1.gen (fun c t z hk hz => htag c t z hk (by omega)) hcell (fun j => rfl) (fun j => rfl) (fun q hq j _ => rfl), by rw [hcell v (by omega) (by omega)]; exact h2, fun p p1 p2 => ?_, fun p hp => ?_, h5.gen (K := K) (R := R) hh (fun c t z hk hz => htag c t z hk (by omega))⟩
  · rw [hcell (v + 4) (by omega) (by omega), hcell (v + 5) (by omega) (by omega), hcell (v + 6) (by omega) (by omega), hcell (v + 7) (by omega) (by omega)]
    exact h3 p p1 p2
  · obtain ⟨m, kk, a1, a2, a3, a4, a5, a6, a7, a8⟩ := h4 p hp
    have em := htag m _ 4 a4 (Or.inl ⟨kt_lt kk, rfl⟩)
    exact ⟨m, kk, a1, a2, a3, a4, by rw [em]; exact a5, by rw [em]; exact a6, a7, a8⟩
section ACTC
variable {X : Nat × (Nat → Int32)} {d : Nat} {K : List (Nat × Nat)} {T : List (Nat × Nat)} {I : Nat → Nat → Int32} {R : Nat → Nat → Option Nat} {s : Nat → Int32} {n e : Nat} {hd : Option Nat} {cls : Cls} {l : List Int32} {im : Option Img} {kc km : Nat} {As : List Value}
theorem c_act (hF : FX K R) (hG : GS s n hd cls e) (hVH : VH K I R 1 15 s n hd cls) (x y z : Int32) : (¬ (isM n x ∧ (0 ≤ y ∧ y ≤ 2)) → ∃ I1, Ev X 59 kX11_act 0 (ent kX11_act [.ref 0, .int x, .int y, .int z]) [] (K, I, R) (some (.int 0), (K, I1, R)) ∧ TCc I1 134 [] ∧ FR (fun c => c = 134) I I1) ∧ (∀ p w, p < n → x = nI p → w ≤ 2 → y = nI w → ∃ I1, Ev X 59 kX11_act 0 (ent kX11_act [.ref 0, .int x, .int y, .int z]) [] (K, I, R) (some (.int (aAct (s (33 + p)).toNatClampNeg (nI p) (s (39 + p)) z w).1), (K, I1, R)) ∧ TCc I1 134 (aAct (s (33 + p)).toNatClampNeg (nI p) (s (39 + p)) z w).2 ∧ FR (fun c => c = 134) I I1) := by
  have hV := hVH.1
  have hn6 := hG.2.1.1
  obtain ⟨J, hJ⟩ : ∃ J, J = upI I 134 0 0 := ⟨_, rfl⟩
  have hJf : FR (fun c => c = 134) I J := fun c hc => by rw [hJ]; exact upI_ne hc
  have hT0 : TCc J 134 [] := ⟨by rw [hJ, upI_eq, upd_at]; rfl, fun i x h => by cases h⟩
  have hm := c_isM (X := X) (d := 58) (I := J) hF (by rw [hJf 1 (by omega)]; exact hV.2.1.1) hn6 x
  obtain ⟨f0, f1, f2, f3, f4, f5, f6, fv1, fv2, fv3, fh1, fh2, f7, f8, f9, f10, f11, f12⟩ := hF
  obtain ⟨k0, k1, k2, k3, k4, k5, k6, k7, k8, r0, r1, r2, r3, r4, r5, r6, r7⟩ := id fv1
  refine ⟨fun h => ⟨J, ?_, hT0, hJf⟩, fun p w hp ex hw ey => ?_⟩
  · by_cases h1 : isM n x
    · obtain ⟨p, hp, ex⟩ := (isM_iff hn6).mp h1
      obtain ⟨m, kk, a1, a2, a3, a4, a5, a6, a7, a8⟩ := hVH.2.2.2.1 p hp
      have hnn : xv (R 2 p) = .ref m := by rw [a1]; rfl
      have hq := hm.1 h1
      rw [ex] at hq ⊢
      (repeat (first | refine Ev.p rfl rfl ?_ | refine Ev.gr (by rfl) (by rfl) (by assumption) (by rfl) (by assumption) ?_ | refine Ev.gi (by rfl) (by rfl) (by assumption) (by rfl) (by assumption) ?_))
      (refine Ev.iast (j := 0) (by rfl) (by assumption) (by rfl) (by omega) (by omega) ?_; rw [← hJ])
      (repeat (first | refine Ev.p rfl rfl ?_ | refine Ev.gr (by rfl) (by rfl) (by assumption) (by rfl) (by assumption) ?_ | refine Ev.gi (by rfl) (by rfl) (by assumption) (by rfl) (by assumption) ?_))
      refine Ev.cv (by rfl) (by rfl) (by assumption) (by rfl) (by rfl) (by rfl) (by rfl) (by rfl) hq ?_
      (repeat (first | refine Ev.p rfl rfl ?_ | refine Ev.gr (by rfl) (by rfl) (by assumption) (by rfl) (by assumption) ?_ | refine Ev.gi (by rfl) (by rfl) (by assumption) (by rfl) (by assumption) ?_))
      (refine Ev.aald (j := p) (by rfl) (by assumption) (Or.inl rfl) (by rfl) (by omega) (by omega) ?_; rw [hnn])
      (repeat (first | refine Ev.p rfl rfl ?_ | refine Ev.gr (by rfl) (by rfl) (by assumption) (by rfl) (by assumption) ?_ | refine Ev.gi (by rfl) (by rfl) (by assumption) (by rfl) (by assumption) ?_))
      rw [swt_out (show y.toInt < 0 ∨ 2 < y.toInt from out_of (fun g => h ⟨h1, g⟩))]
      ((repeat refine Ev.p rfl rfl ?_); exact Ev.r rfl)
    · (repeat (first | refine Ev.p rfl rfl ?_ | refine Ev.gr (by rfl) (by rfl) (by assumption) (by rfl) (by assumption) ?_ | refine Ev.gi (by rfl) (by rfl) (by assumption) (by rfl) (by assumption) ?_))
      (refine Ev.iast (j := 0) (by rfl) (by assumption) (by rfl) (by omega) (by omega) ?_; rw [← hJ])
      (repeat (first | refine Ev.p rfl rfl ?_ | refine Ev.gr (by rfl) (by rfl) (by assumption) (by rfl) (by assumption) ?_ | refine Ev.gi (by rfl) (by rfl) (by assumption) (by rfl) (by assumption) ?_))
      refine Ev.cv (by rfl) (by rfl) (by assumption) (by rfl) (by rfl) (by rfl) (by rfl) (by rfl) (hm.2 h1) ?_
      ((repeat refine Ev.p rfl rfl ?_); exact Ev.r rfl)
  · obtain ⟨m, kk, a1, a2, a3, a4, a5, a6, a7, a8⟩ := hVH.2.2.2.1 p hp
    have hnn : xv (R 2 p) = .ref m := by rw [a1]; rfl
    have hq := hm.1 ((isM_iff hn6).mpr ⟨p, hp, ex⟩)
    have hmk : MK K J R m 134 kk (nI p) (s (39 + p)) := by
      have em : J m = I m := hJf m (fun g => by rw [g, f12] at a4; exact absurd (congrArg Prod.snd (Option.some.inj a4)) (show ¬ (21 : Nat) = 4 by decide))
      exact ⟨a3, a4, by rw [em]; exact a5, by rw [em]; exact a6, a7, a8⟩
    rw [a2, nI_clamp (by omega)]
    obtain ⟨I1, w1, w2, w3⟩ := c_W (X := X) (d := 56) hmk hT0 (by decide) z
    obtain ⟨I2, n1, n2, n3⟩ := c_N (X := X) (d := 54) hmk hT0 (by decide) z
    obtain ⟨I3, t1, t2, t3⟩ := c_T (X := X) (d := 52) hmk hT0 (by decide) z
    subst ex ey
    rcases (by omega : w = 0 ∨ w = 1 ∨ w = 2) with rfl | rfl | rfl
    · refine ⟨I1, ?_, w2, hJf.tr w3⟩
      (repeat (first | refine Ev.p rfl rfl ?_ | refine Ev.gr (by rfl) (by rfl) (by assumption) (by rfl) (by assumption) ?_ | refine Ev.gi (by rfl) (by rfl) (by assumption) (by rfl) (by assumption) ?_))
      (refine Ev.iast (j := 0) (by rfl) (by assumption) (by rfl) (by omega) (by omega) ?_; rw [← hJ])
      (repeat (first | refine Ev.p rfl rfl ?_ | refine Ev.gr (by rfl) (by rfl) (by assumption) (by rfl) (by assumption) ?_ | refine Ev.gi (by rfl) (by rfl) (by assumption) (by rfl) (by assumption) ?_))
      refine Ev.cv (by rfl) (by rfl) (by assumption) (by rfl) (by rfl) (by rfl) (by rfl) (by rfl) hq ?_
      (repeat (first | refine Ev.p rfl rfl ?_ | refine Ev.gr (by rfl) (by rfl) (by assumption) (by rfl) (by assumption) ?_ | refine Ev.gi (by rfl) (by rfl) (by assumption) (by rfl) (by assumption) ?_))
      (refine Ev.aald (j := p) (by rfl) (by assumption) (Or.inl rfl) (by rfl) (by omega) (by omega) ?_; rw [hnn])
      (repeat (first | refine Ev.p rfl rfl ?_ | refine Ev.gr (by rfl) (by rfl) (by assumption) (by rfl) (by assumption) ?_ | refine Ev.gi (by rfl) (by rfl) (by assumption) (by rfl) (by assumption) ?_))
      rcases (by omega : kk = 0 ∨ kk = 1 ∨ kk = 2 ∨ kk = 3 ∨ kk = 4 ∨ kk = 5 ∨ kk = 6) with rfl | rfl | rfl | rfl | rfl | rfl | rfl
      all_goals
        refine Ev.cv (by rfl) (by rfl) a4 (by rfl) (by rfl) (by rfl) (by rfl) (by rfl) w1 ?_
        ((repeat refine Ev.p rfl rfl ?_); exact Ev.r rfl)
    · refine ⟨I2, ?_, n2, hJf.tr n3⟩
      (repeat (first | refine Ev.p rfl rfl ?_ | refine Ev.gr (by rfl) (by rfl) (by assumption) (by rfl) (by assumption) ?_ | refine Ev.gi (by rfl) (by rfl) (by assumption) (by rfl) (by assumption) ?_))
      (refine Ev.iast (j := 0) (by rfl) (by assumption) (by rfl) (by omega) (by omega) ?_; rw [← hJ])
      (repeat (first | refine Ev.p rfl rfl ?_ | refine Ev.gr (by rfl) (by rfl) (by assumption) (by rfl) (by assumption) ?_ | refine Ev.gi (by rfl) (by rfl) (by assumption) (by rfl) (by assumption) ?_))
      refine Ev.cv (by rfl) (by rfl) (by assumption) (by rfl) (by rfl) (by rfl) (by rfl) (by rfl) hq ?_
      (repeat (first | refine Ev.p rfl rfl ?_ | refine Ev.gr (by rfl) (by rfl) (by assumption) (by rfl) (by assumption) ?_ | refine Ev.gi (by rfl) (by rfl) (by assumption) (by rfl) (by assumption) ?_))
      (refine Ev.aald (j := p) (by rfl) (by assumption) (Or.inl rfl) (by rfl) (by omega) (by omega) ?_; rw [hnn])
      (repeat (first | refine Ev.p rfl rfl ?_ | refine Ev.gr (by rfl) (by rfl) (by assumption) (by rfl) (by assumption) ?_ | refine Ev.gi (by rfl) (by rfl) (by assumption) (by rfl) (by assumption) ?_))
      rcases (by omega : kk = 0 ∨ kk = 1 ∨ kk = 2 ∨ kk = 3 ∨ kk = 4 ∨ kk = 5 ∨ kk = 6) with rfl | rfl | rfl | rfl | rfl | rfl | rfl
      all_goals
        refine Ev.cv (by rfl) (by rfl) a4 (by rfl) (by rfl) (by rfl) (by rfl) (by rfl) n1 ?_
        ((repeat refine Ev.p rfl rfl ?_); exact Ev.r rfl)
    · refine ⟨I3, ?_, t2, hJf.tr t3⟩
      (repeat (first | refine Ev.p rfl rfl ?_ | refine Ev.gr (by rfl) (by rfl) (by assumption) (by rfl) (by assumption) ?_ | refine Ev.gi (by rfl) (by rfl) (by assumption) (by rfl) (by assumption) ?_))
      (refine Ev.iast (j := 0) (by rfl) (by assumption) (by rfl) (by omega) (by omega) ?_; rw [← hJ])
      (repeat (first | refine Ev.p rfl rfl ?_ | refine Ev.gr (by rfl) (by rfl) (by assumption) (by rfl) (by assumption) ?_ | refine Ev.gi (by rfl) (by rfl) (by assumption) (by rfl) (by assumption) ?_))
      refine Ev.cv (by rfl) (by rfl) (by assumption) (by rfl) (by rfl) (by rfl) (by rfl) (by rfl) hq ?_
      (repeat (first | refine Ev.p rfl rfl ?_ | refine Ev.gr (by rfl) (by rfl) (by assumption) (by rfl) (by assumption) ?_ | refine Ev.gi (by rfl) (by rfl) (by assumption) (by rfl) (by assumption) ?_))
      (refine Ev.aald (j := p) (by rfl) (by assumption) (Or.inl rfl) (by rfl) (by omega) (by omega) ?_; rw [hnn])
      (repeat (first | refine Ev.p rfl rfl ?_ | refine Ev.gr (by rfl) (by rfl) (by assumption) (by rfl) (by assumption) ?_ | refine Ev.gi (by rfl) (by rfl) (by assumption) (by rfl) (by assumption) ?_))
      rcases (by omega : kk = 0 ∨ kk = 1 ∨ kk = 2 ∨ kk = 3 ∨ kk = 4 ∨ kk = 5 ∨ kk = 6) with rfl | rfl | rfl | rfl | rfl | rfl | rfl
      all_goals
        refine Ev.cv (by rfl) (by rfl) a4 (by rfl) (by rfl) (by rfl) (by rfl) (by rfl) t1 ?_
        ((repeat refine Ev.p rfl rfl ?_); exact Ev.r rfl)
end ACTC
