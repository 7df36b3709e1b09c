section ODDS4
variable {X : Nat × (Nat → Int32)} {d : Nat} {K : List (Nat × Nat)} {T : List (Nat × Nat)} {I : Nat → Nat → Int32} {R : Nat → Nat → Option Nat} {s : Nat → Int32} {n e : Nat} {hd : Option Nat} {cls : Cls} {l : List Int32} {im : Option Img} {kc km : Nat} {As : List Value}
theorem fst_lt (f : Nat → Bool) : ∀ m q j, fst f m q = some j → j < q + m ∧ f j = true := by
  intro m
  induction m with
  | zero => intro q j h; cases h
  | succ m ih =>
    intro q j h
    by_cases g : f q = true
    · have e : fst f (m + 1) q = some q := by show (if f q = true then some q else fst f m (q + 1)) = _; rw [if_pos g]
      rw [e] at h
      cases h
      exact ⟨by omega, g⟩
    · have e : fst f (m + 1) q = fst f m (q + 1) := by show (if f q = true then some q else fst f m (q + 1)) = _; rw [if_neg g]
      rw [e] at h
      have := ih (q + 1) j h
      exact ⟨by omega, this.2⟩
theorem fst_no (f : Nat → Bool) : ∀ m q, fst f m q = none → ∀ j, q ≤ j → j < q + m → f j = false := by
  intro m
  induction m with
  | zero => intro q _ j h1 h2; omega
  | succ m ih =>
    intro q h j h1 h2
    by_cases g : f q = true
    · have e : fst f (m + 1) q = some q := by show (if f q = true then some q else fst f m (q + 1)) = _; rw [if_pos g]
      rw [e] at h
      cases h
    · have e : fst f (m + 1) q = fst f m (q + 1) := by show (if f q = true then some q else fst f m (q + 1)) = _; rw [if_neg g]
      rw [e] at h
      rcases (by omega : j = q ∨ q + 1 ≤ j) with h3 | h3
      · rw [h3]; exact Bool.eq_false_iff.mpr g
      · exact ih (q + 1) h j h3 (by omega)
/-- what is settled stays so -/
theorem go_st (hn6 : n ≤ 6) (cls : Cls) (du fd : Int32) {tk : Option Nat} {x : Int32} (hx : tkV tk n x) {p : Nat} (hp : p < 6) (h : s (14 + p) = 1) : rGo s n cls du fd tk (14 + p) = 1 := by
  unfold rGo
  rw [upd_ne (by omega), rG_14 _ _ _ _ hp n hn6]
  cases hr : rHr s n tk with
  | none => exact h
  | some q =>
    show rTalk s n q cls du (14 + p) = 1
    have hql := rHr_lt hx hr
    unfold rTalk
    by_cases hpq : p = q
    · subst hpq
      exfalso
      cases tk with
      | none => cases hr
      | some z =>
        change (if rRd s n z = true then some z else none) = some p at hr
        by_cases g : rRd s n z = true
        · rw [if_pos g] at hr
          cases hr
          unfold rRd rOp at g
          rw [h] at g
          simp only [Bool.and_eq_true, decide_eq_true_eq] at g
          exact absurd g.1.1 (by decide)
        · rw [if_neg g] at hr
          cases hr
    · rw [upd_ne (by omega), upd_ne (by omega)]
      exact h
theorem set_mono (hn6 : n ≤ 6) (cls : Cls) (du fd : Int32) {p : Nat} (hp : p < 6) {j k : Nat} (hjk : j ≤ k) (h : rSet s n cls du fd p j = true) : rSet s n cls du fd p k = true := by
  induction k with
  | zero =>
    have : j = 0 := by omega
    subst this
    exact h
  | succ k ih =>
    rcases (by omega : j = k + 1 ∨ j ≤ k) with g | g
    · rw [← g]; exact h
    · have := of_decide_eq_true (ih g)
      exact decide_eq_true (go_st hn6 cls du fd (rTop_tk _ n cls) hp this)
theorem set_fst (hn6 : n ≤ 6) (cls : Cls) (du fd : Int32) {p : Nat} (hp : p < 6) (k : Nat) : (rSet s n cls du fd p k = true → ∃ j, j ≤ k ∧ fst (rSet s n cls du fd p) (k + 1) 0 = some j) ∧ (rSet s n cls du fd p k = false → fst (rSet s n cls du fd p) (k + 1) 0 = none) := by
  cases h : fst (rSet s n cls du fd p) (k + 1) 0 with
  | none =>
    have := fst_no _ _ _ h k (by omega) (by omega)
    exact ⟨fun g => (by rw [this] at g; cases g), fun _ => rfl⟩
  | some j =>
    have h2 := fst_lt _ _ _ _ h
    have := set_mono hn6 cls du fd hp (j := j) (k := k) (by omega) h2.2
    exact ⟨fun _ => ⟨j, by omega, rfl⟩, fun g => (by rw [this] at g; cases g)⟩
theorem c_odds (hF : FX K R) (hG : GS s n hd cls e) (hVH : VH K I R 1 15 s n hd cls) (x y z : Int32) : (¬ (isM n x ∧ (0 ≤ y ∧ y ≤ 60) ∧ (0 ≤ z ∧ z ≤ 1)) → Ev X 59 kX11_odds 0 (ent kX11_odds [.ref 0, .int x, .int y, .int z]) [] (K, I, R) (some (.long LNO), (K, I, R))) ∧ (∀ p k part, p < n → x = nI p → k ≤ 60 → y = nI k → part ≤ 1 → z = nI part → ∃ I1 R1, Ev X 59 kX11_odds 0 (ent kX11_odds [.ref 0, .int x, .int y, .int z]) [] (K, I, R) (some (.long (rGcd part (rOd (fun v => rSet s n cls (nI v) (rT s hd 227 1) p k) 30) 30)), (K, I1, R1)) ∧ FR (PW 46) I I1 ∧ RF 46 R R1) := by
  have hV := hVH.1
  have hn6 := hG.2.1.1
  have hm := c_isM (X := X) (d := 58) hF hV.2.1.1 hn6 x
  have ha := fun h x => c_isA (X := X) (d := 58) h x
  have hpt := fun h x => c_isP (X := X) (d := 58) h x
  obtain ⟨f0, f1, f2, f3, f4, f5, f6, fv1, fv2, fv3, fh1, fh2, f7, f8, -⟩ := hF
  refine ⟨fun h => ?_, fun p k part hp ex hk ey hpart ez => ?_⟩
  · by_cases h1 : isM n x
    · by_cases h2 : 0 ≤ y ∧ y ≤ 60
      · by_cases h3 : 0 ≤ z ∧ z ≤ 1
        · exact absurd ⟨h1, h2, h3⟩ h
        · (repeat (first | refine Ev.p rfl rfl ?_ | refine Ev.gr (by rfl) (by rfl) (by assumption) (by rfl) (by assumption) ?_ | refine Ev.gi (by rfl) (by rfl) (by assumption) (by rfl) (by assumption) ?_))
          refine Ev.cv (by rfl) (by rfl) (by assumption) (by rfl) (by rfl) (by rfl) (by rfl) (by rfl) (hm.1 h1) ?_
          (repeat (first | refine Ev.p rfl rfl ?_ | refine Ev.gr (by rfl) (by rfl) (by assumption) (by rfl) (by assumption) ?_ | refine Ev.gi (by rfl) (by rfl) (by assumption) (by rfl) (by assumption) ?_))
          refine Ev.c rfl ((ha _ y).1 h2) ?_
          (repeat (first | refine Ev.p rfl rfl ?_ | refine Ev.gr (by rfl) (by rfl) (by assumption) (by rfl) (by assumption) ?_ | refine Ev.gi (by rfl) (by rfl) (by assumption) (by rfl) (by assumption) ?_))
          refine Ev.c rfl ((hpt _ z).2 h3) ?_
          ((repeat refine Ev.p rfl rfl ?_); exact Ev.r rfl)
      · (repeat (first | refine Ev.p rfl rfl ?_ | refine Ev.gr (by rfl) (by rfl) (by assumption) (by rfl) (by assumption) ?_ | refine Ev.gi (by rfl) (by rfl) (by assumption) (by rfl) (by assumption) ?_))
        refine Ev.cv (by rfl) (by rfl) (by assumption) (by rfl) (by rfl) (by rfl) (by rfl) (by rfl) (hm.1 h1) ?_
        (repeat (first | refine Ev.p rfl rfl ?_ | refine Ev.gr (by rfl) (by rfl) (by assumption) (by rfl) (by assumption) ?_ | refine Ev.gi (by rfl) (by rfl) (by assumption) (by rfl) (by assumption) ?_))
        refine Ev.c rfl ((ha _ y).2 h2) ?_
        ((repeat refine Ev.p rfl rfl ?_); exact Ev.r rfl)
    · (repeat (first | refine Ev.p rfl rfl ?_ | refine Ev.gr (by rfl) (by rfl) (by assumption) (by rfl) (by assumption) ?_ | refine Ev.gi (by rfl) (by rfl) (by assumption) (by rfl) (by assumption) ?_))
      refine Ev.cv (by rfl) (by rfl) (by assumption) (by rfl) (by rfl) (by rfl) (by rfl) (by rfl) (hm.2 h1) ?_
      ((repeat refine Ev.p rfl rfl ?_); exact Ev.r rfl)
  · have h1 : isM n x := (isM_iff hn6).mpr ⟨p, hp, ex⟩
    have h2 : 0 ≤ y ∧ y ≤ 60 := by rw [ey]; exact ⟨nI_pos' (by omega), nI_le (b := 60) hk (by omega)⟩
    have h3 : 0 ≤ z ∧ z ≤ 1 := by rw [ez]; exact ⟨nI_pos' (by omega), nI_le (b := 1) hpart (by omega)⟩
    obtain ⟨f, hf, ef⟩ := hG.2.2.2.2.2.2.2.2.2.2.1
    obtain ⟨g, hg⟩ : ∃ g : Nat → Bool, g = (fun v => rSet s n cls (nI v) (rT s hd 227 1) p k) := ⟨_, rfl⟩
    rw [← hg]
    have lp : ∀ m v, v + m = 30 → ∀ (J : Nat → Nat → Int32) (Q : Nat → Nat → Option Nat), FR (PW 46) I J → RF 46 R Q → ∃ I1 R1, Ev X 59 kX11_odds 32 [some (.ref 0), some (.int x), some (.int y), some (.int z), some (.int (nI (rOd g v))), some (.int (nI (v + 1)))] [] (K, J, Q) (some (.long (rGcd part (rOd g 30) 30)), (K, I1, R1)) ∧ FR (PW 46) I I1 ∧ RF 46 R R1 := by
      intro m
      induction m with
      | zero =>
        intro v hv J Q hJ hQ
        have e : v = 30 := by omega
        subst e
        refine ⟨J, Q, ?_, hJ, hQ⟩
        have hlow := c_low (X := X) (d := 57) (K, J, Q) (a := rOd g 30) (b := 30) (part := part) (by have := rOd_le g 30; omega) (by omega) (by omega) hpart
        rw [← ez] at hlow
        (repeat (first | refine Ev.p rfl rfl ?_ | refine Ev.gr (by rfl) (by rfl) (by assumption) (by rfl) (by assumption) ?_ | refine Ev.gi (by rfl) (by rfl) (by assumption) (by rfl) (by assumption) ?_))
        refine Ev.c rfl hlow ?_
        ((repeat refine Ev.p rfl rfl ?_); exact Ev.r rfl)
      | succ m ih =>
        intro v hv J Q hJ hQ
        have hA := hV.pa fv3 f7 (Or.inl (by omega)) (hJ.mo (fun c hc => Or.inr hc)) hQ
        have fv3' : VK K Q 46 := fv3.r (fun j hj => hQ 46 j (by omega) (by omega))
        have q4 : Q 0 4 = some 45 := (hQ 0 4 (by omega) (by omega)).trans f5
        have q0 : Q 0 0 = some 1 := (hQ 0 0 (by omega) (by omega)).trans f1
        have q8 : Q 45 0 = some 46 := (hQ 45 0 (by omega) (by omega)).trans f8
        obtain ⟨J1, Q1, c1, c2, c3⟩ := c_firstSettled (X := X) (d := 52) (du := nI (v + 1)) (p := p) (most := k) f7 q8 fv3' hA hG.2.1 (by omega) hp (by have := hG.2.2.1; omega) ef hf
        rw [← ex, ← ey] at c1
        have hs := set_fst (s := s) hn6 cls (nI (v + 1)) (rT s hd 227 1) (p := p) (by omega) k
        obtain ⟨I1, R1, g1, g2, g3⟩ := ih (v + 1) (by omega) J1 Q1 (hJ.tr c2) (fun c j a b => (c3 c j a b).trans (hQ c j a b))
        refine ⟨I1, R1, ?_, g2, g3⟩
        have hv1 : nI (v + 1 + 1) = nI (v + 1) + 1 := nI_succ _
        rw [hv1] at g1
        (repeat (first | refine Ev.p rfl rfl ?_ | refine Ev.gr (by rfl) (by rfl) (by assumption) (by rfl) (by assumption) ?_ | refine Ev.gi (by rfl) (by rfl) (by assumption) (by rfl) (by assumption) ?_))
        refine Ev.bp rfl (fun c => ?_) (fun c => ?_)
        · exact absurd c (by
            rcases (by omega : v + 1 ≤ 30) with h
            exact Int32.not_lt.mpr (nI_le (b := 30) h (by omega)))
        · (repeat (first | refine Ev.p rfl rfl ?_ | refine Ev.gr (by rfl) (by rfl) (by assumption) (by rfl) (by assumption) ?_ | refine Ev.gi (by rfl) (by rfl) (by assumption) (by rfl) (by assumption) ?_))
          refine Ev.cv (by rfl) (by rfl) (by assumption) (by rfl) (by rfl) (by rfl) (by rfl) (by rfl) c1 ?_
          cases hgv : g (v + 1) with
          | true =>
            have hgv2 : rSet s n cls (nI (v + 1)) (rT s hd 227 1) p k = true := by rw [← hgv, hg]
            obtain ⟨j, hj, ej⟩ := hs.1 hgv2
            have e : rOd g (v + 1) = rOd g v + 1 := by show rOd g v + (if g (v + 1) = true then 1 else 0) = _; rw [if_pos hgv]
            rw [e, nI_succ] at g1
            rw [ej]
            iterate 2 refine Ev.p rfl rfl ?_
            refine Ev.bp rfl (fun c => absurd c (fun q => ?_)) (fun c => ?_)
            · have h5 := congrArg Int32.toInt (show nI j = -5 from q)
              rw [nI_toInt (by omega)] at h5
              have h6 : (-5 : Int32).toInt = -5 := by decide
              omega
            · iterate 3 refine Ev.p rfl rfl ?_
              exact g1
          | false =>
            have hgv2 : rSet s n cls (nI (v + 1)) (rT s hd 227 1) p k = false := by rw [← hgv, hg]
            have ej := hs.2 hgv2
            have e : rOd g (v + 1) = rOd g v := by show rOd g v + (if g (v + 1) = true then 1 else 0) = _; rw [if_neg (by rw [hgv]; decide)]; rfl
            rw [e] at g1
            rw [ej]
            iterate 4 refine Ev.p rfl rfl ?_
            exact g1
    obtain ⟨I1, R1, g1, g2, g3⟩ := lp 30 0 (by omega) I R (FR.rf I) (fun _ _ _ _ => rfl)
    refine ⟨I1, R1, ?_, g2, g3⟩
    (repeat (first | refine Ev.p rfl rfl ?_ | refine Ev.gr (by rfl) (by rfl) (by assumption) (by rfl) (by assumption) ?_ | refine Ev.gi (by rfl) (by rfl) (by assumption) (by rfl) (by assumption) ?_))
    refine Ev.cv (by rfl) (by rfl) (by assumption) (by rfl) (by rfl) (by rfl) (by rfl) (by rfl) (hm.1 h1) ?_
    (repeat (first | refine Ev.p rfl rfl ?_ | refine Ev.gr (by rfl) (by rfl) (by assumption) (by rfl) (by assumption) ?_ | refine Ev.gi (by rfl) (by rfl) (by assumption) (by rfl) (by assumption) ?_))
    refine Ev.c rfl ((ha _ y).1 h2) ?_
    (repeat (first | refine Ev.p rfl rfl ?_ | refine Ev.gr (by rfl) (by rfl) (by assumption) (by rfl) (by assumption) ?_ | refine Ev.gi (by rfl) (by rfl) (by assumption) (by rfl) (by assumption) ?_))
    refine Ev.c rfl ((hpt _ z).1 h3) ?_
    iterate 5 refine Ev.p rfl rfl ?_
    exact g1
end ODDS4
