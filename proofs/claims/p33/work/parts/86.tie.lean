/-! CALLS OF THE LAW: tie -/
section TIE
variable {X : Nat × (Nat → Int32)} {d : Nat} {K : List (Nat × Nat)} {T : List (Nat × Nat)} {I : Nat → Nat → Int32} {R : Nat → Nat → Option Nat} {s : Nat → Int32} {n e : Nat} {hd : Option Nat} {cls : Cls} {l : List Int32} {im : Option Img} {kc km : Nat} {As : List Value}
/-- ties of p behind tie -/
def tiV (s : Nat → Int32) (p q : Nat) (b : Bool) : Int32 := if b = true then s (69 + p) ||| ((1 : Int32) <<< (nI q &&& 31)) else s (69 + p) &&& (((1 : Int32) <<< (nI q &&& 31)) ^^^ (-1))
theorem tiV_lt (hn : n ≤ 6) (h : SF s n) {p q : Nat} (hp : p < 6) (hq : q < n) (b : Bool) : ∃ t, t < 2 ^ n ∧ tiV s p q b = nI t := by
  unfold tiV
  rw [tie_mk hn h hp]
  cases b
  · rw [if_neg (by decide), mk_clr _ hn hq]; exact ⟨_, mk_lt _ n, rfl⟩
  · rw [if_pos rfl, mk_set _ hn hq]; exact ⟨_, mk_lt _ n, rfl⟩
theorem tiV_m (hn : n ≤ 6) (h : SF s n) {p q : Nat} (hp : p < 6) (hq : q < n) (b : Bool) : (s (69 + p) &&& ((1 : Int32) <<< (nI q &&& 31) ^^^ (-1))) ||| (if b = true then (1 : Int32) <<< (nI q &&& 31) else 0) = tiV s p q b := by
  unfold tiV
  cases b
  · rw [if_neg (by decide), if_neg (by decide), Int32.or_zero]
  · rw [if_pos rfl, if_pos rfl, tie_mk hn h hp, mk_clr _ hn hq, mk_set _ hn hq, mk_set _ hn hq]
    congr 1
    exact mk_ext (fun r hr => by cases decide (r = q) <;> cases tieB s p r <;> rfl)
theorem c_tie (hF : FX K R) (hG : GS s n hd cls e) (hVH : VH K I R 1 15 s n hd cls) (x y : Int32) (b : Bool) : (∀ p q, p < n → q < n → x = nI p → y = nI q → p ≠ q → Ev X 59 kX11_tie 0 (ent kX11_tie [.ref 0, .int x, .int y, .int (bI b)]) [] (K, I, R) (some (.int ((s (69 + p) >>> (nI q &&& 31)) &&& 1)), (K, upI I 7 p (tiV s p q b), R))) ∧ (isM n x → x = y → Ev X 59 kX11_tie 0 (ent kX11_tie [.ref 0, .int x, .int y, .int (bI b)]) [] (K, I, R) (some (.int (-2)), (K, I, R))) ∧ (¬ (isM n x ∧ isM n y) → Ev X 59 kX11_tie 0 (ent kX11_tie [.ref 0, .int x, .int y, .int (bI b)]) [] (K, I, R) (some (.int (-1)), (K, I, R))) := by
  have hV := hVH.1
  have hn6 := hG.2.1.1
  have hm := fun x => c_isM (X := X) (d := 58) hF hV.2.1.1 hn6 x
  obtain ⟨f0, f1, f2, f3, f4, f5, f6, fv1, fv2, fv3, fh1, fh2, f7, f8, f9, f10, f11, f12⟩ := hF
  obtain ⟨k0, k1, k2, k3, k4, k5, k6, k7, k8, r0, r1, r2, r3, r4, r5, r6, r7⟩ := id fv1
  obtain ⟨v8, v9, v10, v11, v12, vk, vv, va, vt, vh, vr⟩ := hV.2.1
  refine ⟨fun p q hp hq ex ey hpq => ?_, fun h1 h2 => ?_, fun h => ?_⟩
  · have h1 := (hm x).1 ((isM_iff hn6).mpr ⟨p, hp, ex⟩)
    have h2 := (hm y).1 ((isM_iff hn6).mpr ⟨q, hq, ey⟩)
    have hne : nI p ≠ nI q := fun g => hpq ((nI_eq (by omega) (by omega)).mp g)
    subst ex ey
    (repeat (first | refine Ev.p rfl rfl ?_ | refine Ev.gr (by rfl) (by rfl) (by assumption) (by rfl) (by assumption) ?_ | refine Ev.gi (by rfl) (by rfl) (by assumption) (by rfl) (by assumption) ?_))
    refine Ev.cv (by rfl) (by rfl) (by assumption) (by rfl) (by rfl) (by rfl) (by rfl) (by rfl) h1 ?_
    (repeat (first | refine Ev.p rfl rfl ?_ | refine Ev.gr (by rfl) (by rfl) (by assumption) (by rfl) (by assumption) ?_ | refine Ev.gi (by rfl) (by rfl) (by assumption) (by rfl) (by assumption) ?_))
    refine Ev.cv (by rfl) (by rfl) (by assumption) (by rfl) (by rfl) (by rfl) (by rfl) (by rfl) h2 ?_
    (repeat (first | refine Ev.p rfl rfl ?_ | refine Ev.gr (by rfl) (by rfl) (by assumption) (by rfl) (by assumption) ?_ | refine Ev.gi (by rfl) (by rfl) (by assumption) (by rfl) (by assumption) ?_))
    refine Ev.bp rfl (fun c => ?_) (fun c => ?_)
    · (repeat (first | refine Ev.p rfl rfl ?_ | refine Ev.gr (by rfl) (by rfl) (by assumption) (by rfl) (by assumption) ?_ | refine Ev.gi (by rfl) (by rfl) (by assumption) (by rfl) (by assumption) ?_))
      (refine Ev.iald (j := p) (by rfl) (by assumption) (by rfl) (by omega) (by omega) ?_; rw [vh p hp])
      (repeat (first | refine Ev.p rfl rfl ?_ | refine Ev.gr (by rfl) (by rfl) (by assumption) (by rfl) (by assumption) ?_ | refine Ev.gi (by rfl) (by rfl) (by assumption) (by rfl) (by assumption) ?_))
      (refine Ev.iald (j := p) (by rfl) (by assumption) (by rfl) (by omega) (by omega) ?_; rw [vh p hp])
      (repeat (first | refine Ev.p rfl rfl ?_ | refine Ev.gr (by rfl) (by rfl) (by assumption) (by rfl) (by assumption) ?_ | refine Ev.gi (by rfl) (by rfl) (by assumption) (by rfl) (by assumption) ?_))
      refine Ev.c rfl (c_withBit _ _ _ b) ?_
      (repeat (first | refine Ev.p rfl rfl ?_ | refine Ev.gr (by rfl) (by rfl) (by assumption) (by rfl) (by assumption) ?_ | refine Ev.gi (by rfl) (by rfl) (by assumption) (by rfl) (by assumption) ?_))
      refine Ev.iast (j := p) (by rfl) (by assumption) (by rfl) (by omega) (by omega) ?_
      rw [show (if b = true then s (69 + p) ||| (1 : Int32) <<< (nI q &&& 31) else s (69 + p) &&& ((1 : Int32) <<< (nI q &&& 31) ^^^ -1)) = tiV s p q b from rfl]
      ((repeat refine Ev.p rfl rfl ?_); exact Ev.r rfl)
    · exact absurd (Decidable.not_not.mp c) hne
  · subst h2
    (repeat (first | refine Ev.p rfl rfl ?_ | refine Ev.gr (by rfl) (by rfl) (by assumption) (by rfl) (by assumption) ?_ | refine Ev.gi (by rfl) (by rfl) (by assumption) (by rfl) (by assumption) ?_))
    refine Ev.cv (by rfl) (by rfl) (by assumption) (by rfl) (by rfl) (by rfl) (by rfl) (by rfl) ((hm x).1 h1) ?_
    (repeat (first | refine Ev.p rfl rfl ?_ | refine Ev.gr (by rfl) (by rfl) (by assumption) (by rfl) (by assumption) ?_ | refine Ev.gi (by rfl) (by rfl) (by assumption) (by rfl) (by assumption) ?_))
    refine Ev.cv (by rfl) (by rfl) (by assumption) (by rfl) (by rfl) (by rfl) (by rfl) (by rfl) ((hm x).1 h1) ?_
    (repeat (first | refine Ev.p rfl rfl ?_ | refine Ev.gr (by rfl) (by rfl) (by assumption) (by rfl) (by assumption) ?_ | refine Ev.gi (by rfl) (by rfl) (by assumption) (by rfl) (by assumption) ?_))
    refine Ev.bp rfl (fun c => ?_) (fun c => ?_)
    · exact absurd rfl c
    · ((repeat refine Ev.p rfl rfl ?_); exact Ev.r rfl)
  · by_cases h1 : isM n x
    · by_cases h2 : isM n y
      · exact absurd ⟨h1, h2⟩ h
      · (repeat (first | refine Ev.p rfl rfl ?_ | refine Ev.gr (by rfl) (by rfl) (by assumption) (by rfl) (by assumption) ?_ | refine Ev.gi (by rfl) (by rfl) (by assumption) (by rfl) (by assumption) ?_))
        refine Ev.cv (by rfl) (by rfl) (by assumption) (by rfl) (by rfl) (by rfl) (by rfl) (by rfl) ((hm x).1 h1) ?_
        (repeat (first | refine Ev.p rfl rfl ?_ | refine Ev.gr (by rfl) (by rfl) (by assumption) (by rfl) (by assumption) ?_ | refine Ev.gi (by rfl) (by rfl) (by assumption) (by rfl) (by assumption) ?_))
        refine Ev.cv (by rfl) (by rfl) (by assumption) (by rfl) (by rfl) (by rfl) (by rfl) (by rfl) ((hm y).2 h2) ?_
        ((repeat refine Ev.p rfl rfl ?_); exact Ev.r rfl)
    · (repeat (first | refine Ev.p rfl rfl ?_ | refine Ev.gr (by rfl) (by rfl) (by assumption) (by rfl) (by assumption) ?_ | refine Ev.gi (by rfl) (by rfl) (by assumption) (by rfl) (by assumption) ?_))
      refine Ev.cv (by rfl) (by rfl) (by assumption) (by rfl) (by rfl) (by rfl) (by rfl) (by rfl) ((hm x).2 h1) ?_
      ((repeat refine Ev.p rfl rfl ?_); exact Ev.r rfl)
end TIE
