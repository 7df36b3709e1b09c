/-! CALLS OF THE LAW: reopen -/
section REOPEN
variable {X : Nat × (Nat → Int32)} {d : Nat} {K : List (Nat × Nat)} {T : List (Nat × Nat)} {I : Nat → Nat → Int32} {R : Nat → Nat → Option Nat} {s : Nat → Int32} {n e : Nat} {hd : Option Nat} {cls : Cls} {l : List Int32} {im : Option Img} {kc km : Nat} {As : List Value}
/-- the row behind reopen -/
def rRe (s : Nat → Int32) (p : Nat) : Nat → Int32 := upd (upd (upd s (8 + p) 0) (2 + p) 0) (14 + p) 0
theorem rRe_o {s : Nat → Int32} {p j : Nat} (h1 : j ≠ 8 + p) (h2 : j ≠ 2 + p) (h3 : j ≠ 14 + p) : rRe s p j = s j := by
  unfold rRe
  rw [upd_ne h3, upd_ne h2, upd_ne h1]
theorem rRe_8 (s : Nat → Int32) (p : Nat) : rRe s p (8 + p) = 0 := by
  unfold rRe
  rw [upd_ne (by omega), upd_ne (by omega), upd_at]
theorem rRe_2 (s : Nat → Int32) (p : Nat) : rRe s p (2 + p) = 0 := by
  unfold rRe
  rw [upd_ne (by omega), upd_at]
theorem rRe_14 (s : Nat → Int32) (p : Nat) : rRe s p (14 + p) = 0 := by
  unfold rRe
  rw [upd_at]
theorem sett_re (s : Nat → Int32) {n p : Nat} (hn : n ≤ 6) (hp : p < n) : nI (mk (sett s) n) &&& (((1 : Int32) <<< (nI p &&& 31)) ^^^ (-1)) = nI (mk (sett (rRe s p)) n) := by
  rw [mk_clr _ hn hp]
  congr 1
  refine mk_ext (fun q hq => ?_)
  by_cases h : q = p
  · subst h
    unfold sett
    rw [rRe_14, decide_eq_true rfl]
    rfl
  · rw [decide_eq_false h]
    unfold sett
    rw [rRe_o (by omega) (by omega) (by omega)]
    rfl
theorem c_reopen (hF : FX K R) (hG : GS s n hd cls e) (hVH : VH K I R 1 15 s n hd cls) (x : Int32) : (∀ p, p < n → x = nI p → Ev X 59 kX11_reopen 0 (ent kX11_reopen [.ref 0, .int x]) [] (K, I, R) (some (.int (s (14 + p))), (K, upI (upI (upI I 1 9 (nI (mk (sett (rRe s p)) n))) 6 p 0) 5 p 0, R))) ∧ (¬ isM n x → Ev X 59 kX11_reopen 0 (ent kX11_reopen [.ref 0, .int x]) [] (K, I, R) (some (.int (-1)), (K, I, R))) := by
  have hV := hVH.1
  have hn6 := hG.2.1.1
  have hS := hG.2.1.2.1
  have hm := c_isM (X := X) (d := 58) hF hV.2.1.1 hn6 x
  obtain ⟨f0, f1, f2, f3, f4, f5, f6, fv1, fv2, fv3, fh1, fh2, f7, f8, f9, f10, f11, f12⟩ := hF
  obtain ⟨k0, k1, k2, k3, k4, k5, k6, k7, k8, r0, r1, r2, r3, r4, r5, r6, r7⟩ := id fv1
  have v9 := hV.2.1.2.1
  refine ⟨fun p hp ex => ?_, fun h => ?_⟩
  · have h := hm.1 ((isM_iff hn6).mpr ⟨p, hp, ex⟩)
    subst ex
    rw [sett_0 hS.1 (q := p) (by omega), ← mk_sr _ hn6 hp, ← sett_re s hn6 hp]
    have hwb := fun hh => c_withBit (X := X) (d := 58) hh (nI (mk (sett s) n)) (nI p) false
    rw [if_neg (by decide)] at hwb
    (repeat (first | refine Ev.p rfl rfl ?_ | refine Ev.gr (by rfl) (by rfl) (by assumption) (by rfl) (by assumption) ?_ | refine Ev.gi (by rfl) (by rfl) (by assumption) (by rfl) (by assumption) ?_))
    refine Ev.cv (by rfl) (by rfl) (by assumption) (by rfl) (by rfl) (by rfl) (by rfl) (by rfl) h ?_
    (repeat (first | refine Ev.p rfl rfl ?_ | refine Ev.gr (by rfl) (by rfl) (by assumption) (by rfl) (by assumption) ?_ | refine Ev.gi (by rfl) (by rfl) (by assumption) (by rfl) (by assumption) ?_))
    refine Ev.c rfl (hwb _) ?_
    (repeat (first | refine Ev.p rfl rfl ?_ | refine Ev.gr (by rfl) (by rfl) (by assumption) (by rfl) (by assumption) ?_ | refine Ev.gi (by rfl) (by rfl) (by assumption) (by rfl) (by assumption) ?_))
    refine Ev.pi (by rfl) (by rfl) (by assumption) (by rfl) ?_
    (repeat (first | refine Ev.p rfl rfl ?_ | refine Ev.gr (by rfl) (by rfl) (by assumption) (by rfl) (by assumption) ?_ | refine Ev.gi (by rfl) (by rfl) (by assumption) (by rfl) (by assumption) ?_))
    refine Ev.iast (j := p) (by rfl) (by assumption) (by rfl) (by omega) (by omega) ?_
    (repeat (first | refine Ev.p rfl rfl ?_ | refine Ev.gr (by rfl) (by rfl) (by assumption) (by rfl) (by assumption) ?_ | refine Ev.gi (by rfl) (by rfl) (by assumption) (by rfl) (by assumption) ?_))
    refine Ev.iast (j := p) (by rfl) (by assumption) (by rfl) (by omega) (by omega) ?_
    ((repeat refine Ev.p rfl rfl ?_); exact Ev.r rfl)
  · (repeat (first | refine Ev.p rfl rfl ?_ | refine Ev.gr (by rfl) (by rfl) (by assumption) (by rfl) (by assumption) ?_ | refine Ev.gi (by rfl) (by rfl) (by assumption) (by rfl) (by assumption) ?_))
    refine Ev.cv (by rfl) (by rfl) (by assumption) (by rfl) (by rfl) (by rfl) (by rfl) (by rfl) (hm.2 h) ?_
    ((repeat refine Ev.p rfl rfl ?_); exact Ev.r rfl)
end REOPEN
