/-! CALLS OF THE LAW: reopen -/
section REOPEN
variable {X : Nat × (Nat → Int32)} {d : Nat} {K : List (Nat × Nat)} {T : List (Nat × Nat)} {I : Nat → Nat → Int32} {R : Nat → Nat → Option Nat} {s : Nat → Int32} {n e : Nat} {hd : Option Nat} {cls : Cls} {l : List Int32} {im : Option Img} {kc km : Nat} {As : List Value}
/-- the row behind reopen -/
def rRe (s : Nat → Int32) (p : Nat) : Nat → Int32 := upd (upd (upd s (8 + p) 0) (2 + p) 0) (14 + p) 0
theorem rRe_o {s : Nat → Int32} {p j : Nat} (h1 : j ≠ 8 + p) (h2 : j ≠ 2 + p) (h3 : j ≠ 14 + p) : rRe s p j = s j := by
  unfold rRe
  rw [upd_ne h3, upd_ne h2, upd_ne h1]
theorem rRe_8 (s : Nat → Int32) (p : Nat) : rRe s p (8 + p) = 0 := by
  unfold rRe
  rw [upd_ne (by omega), upd_ne (by omega), upd_at]
theorem rRe_2 (s : Nat → Int32) (p : Nat) : rRe s p (2 + p) = 0 := by
  unfold rRe
  rw [upd_ne (by omega), upd_at]
theorem rRe_14 (s : Nat → Int32) (p : Nat) : rRe s p (14 + p) = 0 := by
  unfold rRe
  rw [upd_at]
theorem sett_re (s : Nat → Int32) {n p : Nat} (hn : n ≤ 6) (hp : p < n) : nI (mk (sett s) n) &&& (((1 : Int32) <<< (nI p &&& 31)) ^^^ (-1)) = nI (mk (sett (rRe s p)) n) := by
  rw [mk_clr _ hn hp]
  congr 1
  refine mk_ext (fun q hq => ?_)
  by_cases h : q = p
  · subst h
    unfold sett
    rw [rRe_14, decide_eq_true rfl]
    rfl
  · rw [decide_eq_false h]
    unfold sett
    rw [rRe_o (by omega) (by omega) (by omega)]
    rfl
theorem c_reopen (hF : FX K R) (hG : GS s n hd cls e) (hVH : VH K I R 1 15 s n hd cls) (x : Int32) : (∀ p, p < n → x = nI p → Ev X 59 kX11_reopen 0 (ent kX11_reopen [.ref 0, .int x]) [] (K, I, R) (some (.int (s (14 + p))), (K, upI (upI (upI I 1 9 (nI (mk (sett (rRe s p)) n))) 6 p 0) 5 p 0, R))) ∧ (¬ isM n x → Ev X 59 kX11_reopen 0 (ent kX11_reopen [.ref 0, .int x]) [] (K, I, R) (some (.int (-1)), (K, I, R))) := by
  have hV := hVH.1
  have hn6 := hG.2.1.1
  have hS := hG.2.1.2.1
  have hm := c_isM (X := X) (d := 58) hF hV.2.1.1 hn6 x
  obtain ⟨f0, f1, f2, f3, f4, f5, f6, fv1, fv2, fv3, fh1, fh2, f7, f8, f9, f10, f11, f12, -⟩ := hF
  obtain ⟨k0, k1, k2, k3, k4, k5, k6, k7, k8, r0, r1, r2, r3, r4, r5, r6, r7⟩ := id fv1
  have v9 := hV.2.1.2.1
  refine ⟨fun p hp ex => ?_, fun h => ?_⟩
  · have h := hm.1 ((isM_iff hn6).mpr ⟨p, hp, ex⟩)
    subst ex
    rw [sett_0 hS.1 (q := p) (by omega), ← mk_sr _ hn6 hp, ← sett_re s hn6 hp]
    have hwb := fun hh => c_withBit (X := X) (d := 58) hh (nI (mk (sett s) n)) (nI p) false
    rw [if_neg (by decide)] at hwb
    (repeat (first | refine Ev.p rfl rfl ?_ | refine Ev.gr (by rfl) (by rfl) (by assumption) (by rfl) (by assumption) ?_ | refine Ev.gi (by rfl) (by rfl) (by assumption) (by rfl) (by assumption) ?_))
    refine Ev.cv (by rfl) (by rfl) (by assumption) (by rfl) (by rfl) (by rfl) (by rfl) (by rfl) h ?_
    (repeat (first | refine Ev.p rfl rfl ?_ | refine Ev.gr (by rfl) (by rfl) (by assumption) (by rfl) (by assumption) ?_ | refine Ev.gi (by rfl) (by rfl) (by assumption) (by rfl) (by assumption) ?_))
    refine Ev.c rfl (hwb _) ?_
    (repeat (first | refine Ev.p rfl rfl ?_ | refine Ev.gr (by rfl) (by rfl) (by assumption) (by rfl) (by assumption) ?_ | refine Ev.gi (by rfl) (by rfl) (by assumption) (by rfl) (by assumption) ?_))
    refine Ev.pi (by rfl) (by rfl) (by assumption) (by rfl) ?_
    (repeat (first | refine Ev.p rfl rfl ?_ | refine Ev.gr (by rfl) (by rfl) (by assumption) (by rfl) (by assumption) ?_ | refine Ev.gi (by rfl) (by rfl) (by assumption) (by rfl) (by assumption) ?_))
    refine Ev.iast (j := p) (by rfl) (by assumption) (by rfl) (by omega) (by omega) ?_
    (repeat (first | refine Ev.p rfl rfl ?_ | refine Ev.gr (by rfl) (by rfl) (by assumption) (by rfl) (by assumption) ?_ | refine Ev.gi (by rfl) (by rfl) (by assumption) (by rfl) (by assumption) ?_))
    refine Ev.iast (j := p) (by rfl) (by assumption) (by rfl) (by omega) (by omega) ?_
    ((repeat refine Ev.p rfl rfl ?_); exact Ev.r rfl)
  · (repeat (first | refine Ev.p rfl rfl ?_ | refine Ev.gr (by rfl) (by rfl) (by assumption) (by rfl) (by assumption) ?_ | refine Ev.gi (by rfl) (by rfl) (by assumption) (by rfl) (by assumption) ?_))
    refine Ev.cv (by rfl) (by rfl) (by assumption) (by rfl) (by rfl) (by rfl) (by rfl) (by rfl) (hm.2 h) ?_
    ((repeat refine Ev.p rfl rfl ?_); exact Ev.r rfl)
theorem op_reopen (hK : RSok R) (hG : GS s n hd cls e) (hC : CR (K0 ++ T) I R s n hd cls l im) (hR : RR I s l im) (x : Int32) : OP X T I R kX11_reopen kX12_reopen [.int x] := by
  have hF := FX1 (T := T) hK
  have hn6 := hG.2.1.1
  have hc := c_reopen (X := X) hF hG hC.1 x
  have hm := fun (I1 : Nat → Nat → Int32) (h1 : I1 141 = s) => m_reopen (X := X) (d := 57) (T := T) (G := R) h1 hG.1.1 hG.2.1.1 x
  by_cases h : isM n x
  · obtain ⟨p, hp, ex⟩ := (isM_iff hn6).mp h
    have ho : VOo s (rRe s p) := fun j h1 h2 => rRe_o (by omega) (by omega) (by omega)
    obtain ⟨J, hJ⟩ : ∃ J, J = upI (upI (upI I 1 9 (nI (mk (sett (rRe s p)) n))) 6 p 0) 5 p 0 := ⟨_, rfl⟩
    have hq : FR UC I J := by
      rw [hJ]
      exact UC.up (UC.up (UC.up (FR.rf I) (by unfold UC; omega)) (by unfold UC; omega)) (by unfold UC; omega)
    have hc1 := hc.1 p hp ex
    rw [← hJ] at hc1
    have jo : ∀ c, c ≠ 1 → c ≠ 5 → c ≠ 6 → J c = I c := fun c c1 c2 c3 => by rw [hJ, upI_ne c2, upI_ne c3, upI_ne c1]
    have j1 : ∀ j, j ≠ 9 → J 1 j = I 1 j := fun j hj => by rw [hJ, upI_ne (by omega), upI_ne (by omega), upI_eq, upd_ne hj]
    have j19 : J 1 9 = nI (mk (sett (rRe s p)) n) := by rw [hJ, upI_ne (by omega), upI_ne (by omega), upI_eq, upd_at]
    have j5 : J 5 = upd (I 5) p 0 := by rw [hJ, upI_eq, upI_ne (by omega), upI_ne (by omega)]
    have j6 : J 6 = upd (I 6) p 0 := by rw [hJ, upI_ne (by omega), upI_eq, upI_ne (by omega)]
    obtain ⟨b1, ⟨b2, b3, b4⟩, b5, b6, b7, b8⟩ := hG.2.1
    have hRI : RI (rRe s p) n e cls := by
      refine ⟨b1, ⟨fun q hq => ?_, fun q hq => ?_, fun q hq => ?_⟩, fun q hq => ?_, (rRe_o (by omega) (by omega) (by omega)).trans b6, b7, b8⟩
      · by_cases g : q = p
        · rw [g, rRe_14]; exact Or.inl rfl
        · rw [rRe_o (by omega) (by omega) (by omega)]; exact b2 q hq
      · rw [rRe_o (by omega) (by omega) (by omega)]; exact b3 q hq
      · rw [rRe_o (by omega) (by omega) (by omega)]; exact b4 q hq
      · refine ⟨?_, ?_, fun k' hk' => ?_⟩
        · by_cases g : q = p
          · rw [g, rRe_8]; exact ⟨0, by omega, rfl⟩
          · rw [rRe_o (by omega) (by omega) (by omega)]; exact (b5 q hq).1
        · rw [rRe_o (by omega) (by omega) (by omega)]; exact (b5 q hq).2.1
        · rw [rRe_o (by omega) (by omega) (by omega)]; exact (b5 q hq).2.2 k' hk'
    have hVM := hC.1.1.2.1
    obtain ⟨v8, v9, v10, v11, v12, vk, vv, va, vt, vh, vr⟩ := id hVM
    have hA : VA (K0 ++ T) J R 1 (rRe s p) n cls (rT s hd 222 20) (rT s hd 227 1) := by
      refine hC.1.1.vm ?_ (fun q hq => rRe_o (by omega) (by omega) (by omega)) (fun c hc => jo c (by omega) (by omega) (by omega)) (j1 13 (by omega))
      refine ⟨(j1 8 (by omega)).trans v8, j19, ?_, by rw [j1 11 (by omega), rRe_o (by omega) (by omega) (by omega)]; exact v11, by rw [j1 12 (by omega), rRe_o (by omega) (by omega) (by omega)]; exact v12, fun i hi => ?_, fun i hi => ?_, fun i hi => ?_, fun i hi => ?_, fun i hi => ?_, fun i k' hi hk' => ?_⟩
      · rw [j1 10 (by omega), v10]; congr 1; exact mk_ext (fun i hi => by unfold shel; rw [rRe_o (by omega) (by omega) (by omega)])
      · rw [jo (1 + 2) (by omega) (by omega) (by omega), rRe_o (by omega) (by omega) (by omega)]; exact vk i hi
      · rw [jo (1 + 3) (by omega) (by omega) (by omega), rRe_o (by omega) (by omega) (by omega)]; exact vv i hi
      · rw [show 1 + 4 = 5 from rfl, j5]
        by_cases g : i = p
        · rw [g, upd_at, rRe_2]
        · rw [upd_ne g, rRe_o (by omega) (by omega) (by omega)]; exact va i hi
      · rw [show 1 + 5 = 6 from rfl, j6]
        by_cases g : i = p
        · rw [g, upd_at, rRe_8]
        · rw [upd_ne g, rRe_o (by omega) (by omega) (by omega)]; exact vt i hi
      · rw [jo (1 + 6) (by omega) (by omega) (by omega), rRe_o (by omega) (by omega) (by omega)]; exact vh i hi
      · rw [jo (1 + 7) (by omega) (by omega) (by omega), rRe_o (by omega) (by omega) (by omega)]; exact vr i k' hi hk'
    refine upd_op (s' := rRe s p) hK hC hR hc1 hq (fun g1 g2 _ => ⟨_, (hm _ g1).1 p hp ex, by rw [upI_eq, upI_eq, upI_eq, g1]; rfl, ((MF.up (by omega)).tr (MF.up (by omega))).tr (MF.up (by omega))⟩) (hG.vo ho (fun q hq => by rw [rRe_o (by omega) (by omega) (by omega)]; exact hG.1.2.2.1 q hq) hRI hG.2.2.1 (by rw [rRe_o (by omega) (by omega) (by omega)]; exact hG.2.2.2.1) (fun q hq => ?_)) (hC.1.vo ho hA (j1 15 (by omega)) (fun q q1 q2 => ?_) (fun q hq => ⟨rRe_o (by omega) (by omega) (by omega), rRe_o (by omega) (by omega) (by omega)⟩) (fun c t hk ht => uc_tags hF hq c t 4 hk (Or.inl ⟨ht, rfl⟩)) (fun c c1 c2 => jo c (by omega) (by omega) (by omega)))
    · by_cases g : q = p
      · rw [g, rRe_2]; exact ⟨0, by omega, rfl⟩
      · rw [rRe_o (by omega) (by omega) (by omega)]; exact hG.2.2.2.2.1 q hq
    · obtain ⟨z1, z2, z3, z4⟩ := hC.1.2.2.1 q q1 q2
      refine ⟨?_, ?_, by rw [jo (1 + 6) (by omega) (by omega) (by omega)]; exact z3, fun k' hk' => by rw [jo (1 + 7) (by omega) (by omega) (by omega)]; exact z4 k' hk'⟩
      · rw [show 1 + 4 = 5 from rfl, j5, upd_ne (by omega)]; exact z1
      · rw [show 1 + 5 = 6 from rfl, j6, upd_ne (by omega)]; exact z2
  · exact stay_op hK hG hC hR (hc.2 h) (fun I1 g => (hm I1 g).2 h)
end REOPEN
