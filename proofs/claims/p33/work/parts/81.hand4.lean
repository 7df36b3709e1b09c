/-! CALLS OF THE LAW: see, feed -/
section HAND4
variable {X : Nat × (Nat → Int32)} {d : Nat} {K : List (Nat × Nat)} {T : List (Nat × Nat)} {I : Nat → Nat → Int32} {R : Nat → Nat → Option Nat} {s : Nat → Int32} {n e : Nat} {hd : Option Nat} {cls : Cls} {l : List Int32} {im : Option Img} {kc km : Nat} {As : List Value}
theorem c_withBit (h : Hp) (a x : Int32) (b : Bool) : Ev X d kX11_withBit 0 (ent kX11_withBit [.int a, .int x, .int (bI b)]) [] h (some (.int (if b = true then a ||| ((1 : Int32) <<< (x &&& 31)) else a &&& (((1 : Int32) <<< (x &&& 31)) ^^^ (-1)))), h) := by
  cases b
  · rw [if_neg (by decide)]
    ((repeat refine Ev.p rfl rfl ?_); exact Ev.r rfl)
  · rw [if_pos rfl]
    ((repeat refine Ev.p rfl rfl ?_); exact Ev.r rfl)
/-- one more of SEEN -/
theorem see_b (s : Nat → Int32) {b : Nat} (hb : b < 5) (w : Bool) : (if w = true then nI (mk (seeB s) 5) ||| ((1 : Int32) <<< (nI b &&& 31)) else nI (mk (seeB s) 5) &&& (((1 : Int32) <<< (nI b &&& 31)) ^^^ (-1))) = nI (mk (seeB (upd s (85 + b) (bI w))) 5) := by
  cases w
  · rw [if_neg (by decide), mk_clr (seeB s) (by omega) hb]
    refine congrArg nI (mk_ext (fun q hq => ?_))
    unfold seeB
    by_cases h : q = b
    · subst h; rw [upd_at]; simp [bI]
    · rw [upd_ne (by omega)]; simp [h]
  · rw [if_pos rfl, mk_set (seeB s) (by omega) hb]
    refine congrArg nI (mk_ext (fun q hq => ?_))
    unfold seeB
    by_cases h : q = b
    · subst h; rw [upd_at]; simp [bI]
    · rw [upd_ne (by omega)]; simp [h]
theorem c_see (hF : FX K R) (hG : GS s n hd cls e) (hVH : VH K I R 1 15 s n hd cls) {b : Nat} (hb : s 28 = nI b) (hb5 : b ≤ 5) (x y : Int32) (w : Bool) : (x = -1 → Ev X 59 kX11_see 0 (ent kX11_see [.ref 0, .int x, .int y, .int (bI w)]) [] (K, I, R) (some (.int 0), (K, upI I 15 5 0, R))) ∧ (x ≠ -1 → ¬ isM n x → Ev X 59 kX11_see 0 (ent kX11_see [.ref 0, .int x, .int y, .int (bI w)]) [] (K, I, R) (some (.int (-1)), (K, I, R))) ∧ (isM n x → ¬ (0 ≤ y ∧ y ≤ 20) → Ev X 59 kX11_see 0 (ent kX11_see [.ref 0, .int x, .int y, .int (bI w)]) [] (K, I, R) (some (.int (-2)), (K, I, R))) ∧ (isM n x → (0 ≤ y ∧ y ≤ 20) → b = 5 → Ev X 59 kX11_see 0 (ent kX11_see [.ref 0, .int x, .int y, .int (bI w)]) [] (K, I, R) (some (.int (-4)), (K, I, R))) ∧ (isM n x → (0 ≤ y ∧ y ≤ 20) → b < 5 → Ev X 59 kX11_see 0 (ent kX11_see [.ref 0, .int x, .int y, .int (bI w)]) [] (K, I, R) (some (.int (nI (b + 1))), (K, upI (upI (upI (upI I 17 b x) 18 b y) 15 4 (nI (mk (seeB (upd s (85 + b) (bI w))) 5))) 15 5 (nI (b + 1)), R))) := by
  have hV := hVH.1
  have hn6 := hG.2.1.1
  have hm := c_isM (X := X) (d := 58) hF hV.2.1.1 hn6 x
  obtain ⟨f0, f1, f2, f3, f4, f5, f6, fv1, fv2, fv3, fh1, fh2, f7, f8, f9, f10, f11, f12⟩ := hF
  obtain ⟨m1, m2, m3, m4, m5, m6, m7, m8⟩ := hVH.2.2.2.2
  obtain ⟨g0, g1, g2, g3, g4, g5, g6, g7, q0, q1, q2, q3, q4, q5, q6⟩ := id fh1
  rw [hb] at m2
  have hne : isM n x → x ≠ -1 := fun h => isM_ne h
  have go : ∀ {Z : Option Value × Hp}, isM n x → (0 ≤ y ∧ y ≤ 20) → Ev X 59 kX11_see 38 [some (.ref 0), some (.int x), some (.int y), some (.int (bI w))] [] (K, I, R) Z → Ev X 59 kX11_see 0 (ent kX11_see [.ref 0, .int x, .int y, .int (bI w)]) [] (K, I, R) Z := by
    intro Z h1 h2 g
    iterate 3 refine Ev.p rfl rfl ?_
    refine Ev.bp rfl (fun c => ?_) (fun c => ?_)
    · iterate 2 refine Ev.p rfl rfl ?_
      refine Ev.cv (by rfl) (by rfl) (by assumption) (by rfl) (by rfl) (by rfl) (by rfl) (by rfl) (hm.1 h1) ?_
      iterate 3 refine Ev.p rfl rfl ?_
      refine Ev.bp rfl (fun c2 => ?_) (fun c2 => ?_)
      · exact absurd c2 (Int32.not_lt.mpr h2.1)
      · iterate 3 refine Ev.p rfl rfl ?_
        refine Ev.bp rfl (fun c3 => ?_) (fun c3 => ?_)
        · exact g
        · exact absurd h2.2 c3
    · exact absurd (Decidable.not_not.mp c) (hne h1)
  refine ⟨fun h => ?_, fun h1 h2 => ?_, fun h1 h2 => ?_, fun h1 h2 h3 => go h1 h2 ?_, fun h1 h2 h3 => go h1 h2 ?_⟩
  · subst h
    (repeat (first | refine Ev.p rfl rfl ?_ | refine Ev.gr (by rfl) (by rfl) (by assumption) (by rfl) (by assumption) ?_ | refine Ev.gi (by rfl) (by rfl) (by assumption) (by rfl) (by assumption) ?_))
    refine Ev.pi (by rfl) (by rfl) (by assumption) (by rfl) ?_
    ((repeat refine Ev.p rfl rfl ?_); exact Ev.r rfl)
  · (repeat (first | refine Ev.p rfl rfl ?_ | refine Ev.gr (by rfl) (by rfl) (by assumption) (by rfl) (by assumption) ?_ | refine Ev.gi (by rfl) (by rfl) (by assumption) (by rfl) (by assumption) ?_))
    refine Ev.bp rfl (fun c => ?_) (fun c => ?_)
    · (repeat (first | refine Ev.p rfl rfl ?_ | refine Ev.gr (by rfl) (by rfl) (by assumption) (by rfl) (by assumption) ?_ | refine Ev.gi (by rfl) (by rfl) (by assumption) (by rfl) (by assumption) ?_))
      refine Ev.cv (by rfl) (by rfl) (by assumption) (by rfl) (by rfl) (by rfl) (by rfl) (by rfl) (hm.2 h2) ?_
      ((repeat refine Ev.p rfl rfl ?_); exact Ev.r rfl)
    · exact absurd (Decidable.not_not.mp c) h1
  · (repeat (first | refine Ev.p rfl rfl ?_ | refine Ev.gr (by rfl) (by rfl) (by assumption) (by rfl) (by assumption) ?_ | refine Ev.gi (by rfl) (by rfl) (by assumption) (by rfl) (by assumption) ?_))
    refine Ev.bp rfl (fun c => ?_) (fun c => ?_)
    · (repeat (first | refine Ev.p rfl rfl ?_ | refine Ev.gr (by rfl) (by rfl) (by assumption) (by rfl) (by assumption) ?_ | refine Ev.gi (by rfl) (by rfl) (by assumption) (by rfl) (by assumption) ?_))
      refine Ev.cv (by rfl) (by rfl) (by assumption) (by rfl) (by rfl) (by rfl) (by rfl) (by rfl) (hm.1 h1) ?_
      (repeat (first | refine Ev.p rfl rfl ?_ | refine Ev.gr (by rfl) (by rfl) (by assumption) (by rfl) (by assumption) ?_ | refine Ev.gi (by rfl) (by rfl) (by assumption) (by rfl) (by assumption) ?_))
      refine Ev.bp rfl (fun c2 => ?_) (fun c2 => ?_)
      · ((repeat refine Ev.p rfl rfl ?_); exact Ev.r rfl)
      · (repeat (first | refine Ev.p rfl rfl ?_ | refine Ev.gr (by rfl) (by rfl) (by assumption) (by rfl) (by assumption) ?_ | refine Ev.gi (by rfl) (by rfl) (by assumption) (by rfl) (by assumption) ?_))
        refine Ev.bp rfl (fun c3 => ?_) (fun c3 => ?_)
        · exact absurd ⟨Int32.not_lt.mp c2, c3⟩ h2
        · ((repeat refine Ev.p rfl rfl ?_); exact Ev.r rfl)
    · exact absurd (Decidable.not_not.mp c) (hne h1)
  · subst h3
    (repeat (first | refine Ev.p rfl rfl ?_ | refine Ev.gr (by rfl) (by rfl) (by assumption) (by rfl) (by assumption) ?_ | refine Ev.gi (by rfl) (by rfl) (by assumption) (by rfl) (by assumption) ?_))
    ((repeat refine Ev.p rfl rfl ?_); exact Ev.r rfl)
  · have hwb := fun hh => c_withBit (X := X) (d := 58) hh (nI (mk (seeB s) 5)) (nI b) w
    rw [see_b s h3 w] at hwb
    obtain ⟨J1, hJ1⟩ : ∃ J, J = upI I 17 b x := ⟨_, rfl⟩
    obtain ⟨J2, hJ2⟩ : ∃ J, J = upI J1 18 b y := ⟨_, rfl⟩
    obtain ⟨J4, hJ4⟩ : ∃ J, J = upI J2 15 4 (nI (mk (seeB (upd s (85 + b) (bI w))) 5)) := ⟨_, rfl⟩
    obtain ⟨J3, hJ3⟩ : ∃ J, J = upI J4 15 5 (nI (b + 1)) := ⟨_, rfl⟩
    rw [← hJ1, ← hJ2, ← hJ4, ← hJ3]
    have j1 : J1 15 5 = nI b := by rw [hJ1, upI_ne (by omega)]; exact m2
    have j2 : J2 15 5 = nI b := by rw [hJ2, upI_ne (by omega)]; exact j1
    have j4 : J4 15 5 = nI b := by rw [hJ4, upI_eq, upd_ne (by omega)]; exact j2
    have j5 : J2 15 4 = nI (mk (seeB s) 5) := by rw [hJ2, upI_ne (by omega), hJ1, upI_ne (by omega)]; exact m8
    have j3 : J3 15 5 = nI (b + 1) := by rw [hJ3, upI_eq, upd_at]
    (repeat (first | refine Ev.p rfl rfl ?_ | refine Ev.gr (by rfl) (by rfl) (by assumption) (by rfl) (by assumption) ?_ | refine Ev.gi (by rfl) (by rfl) (by assumption) (by rfl) (by assumption) ?_))
    refine Ev.bp rfl (fun c4 => ?_) (fun c4 => ?_)
    · (repeat (first | refine Ev.p rfl rfl ?_ | refine Ev.gr (by rfl) (by rfl) (by assumption) (by rfl) (by assumption) ?_ | refine Ev.gi (by rfl) (by rfl) (by assumption) (by rfl) (by assumption) ?_))
      (refine Ev.iast (j := b) (by rfl) (by assumption) (by rfl) (by omega) (by omega) ?_; rw [← hJ1])
      (repeat (first | refine Ev.p rfl rfl ?_ | refine Ev.gr (by rfl) (by rfl) (by assumption) (by rfl) (by assumption) ?_ | refine Ev.gi (by rfl) (by rfl) (by assumption) (by rfl) (by assumption) ?_))
      (refine Ev.iast (j := b) (by rfl) (by assumption) (by rfl) (by omega) (by omega) ?_; rw [← hJ2])
      (repeat (first | refine Ev.p rfl rfl ?_ | refine Ev.gr (by rfl) (by rfl) (by assumption) (by rfl) (by assumption) ?_ | refine Ev.gi (by rfl) (by rfl) (by assumption) (by rfl) (by assumption) ?_))
      refine Ev.c rfl (hwb _) ?_
      (repeat (first | refine Ev.p rfl rfl ?_ | refine Ev.gr (by rfl) (by rfl) (by assumption) (by rfl) (by assumption) ?_ | refine Ev.gi (by rfl) (by rfl) (by assumption) (by rfl) (by assumption) ?_))
      (refine Ev.pi (by rfl) (by rfl) (by assumption) (by rfl) ?_; rw [← hJ4])
      (repeat (first | refine Ev.p rfl rfl ?_ | refine Ev.gr (by rfl) (by rfl) (by assumption) (by rfl) (by assumption) ?_ | refine Ev.gi (by rfl) (by rfl) (by assumption) (by rfl) (by assumption) ?_))
      (refine Ev.pi (by rfl) (by rfl) (by assumption) (by rfl) ?_; rw [nI_1, ← hJ3])
      (repeat (first | refine Ev.p rfl rfl ?_ | refine Ev.gr (by rfl) (by rfl) (by assumption) (by rfl) (by assumption) ?_ | refine Ev.gi (by rfl) (by rfl) (by assumption) (by rfl) (by assumption) ?_))
      ((repeat refine Ev.p rfl rfl ?_); exact Ev.r rfl)
    · exact absurd (nI_lt (b := 5) h3 (by omega)) c4
end HAND4
