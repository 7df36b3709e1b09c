/-! THE CLASS: topic; what an evening comes to -/
def tc : Option Nat → Int32
  | none => -1
  | some p => nI p
section CTOPIC
variable {X : Nat × (Nat → Int32)} {d : Nat} {K : List (Nat × Nat)} {I : Nat → Nat → Int32} {R : Nat → Nat → Option Nat} {s : Nat → Int32} {n p v q m e : Nat} {fd : Int32} {cls : Cls}
theorem c_topic (hK : VK K R v) (hM : VM I v s n) (hn : n ≤ 6) (hS : SF s n) (hO : VO K I R v s n) (he : s 0 = nI e) (he2 : e < 1000000) (h14 : R v 14 = some q) (hst : stC K I R q fd cls) : ∃ I', Ev X (d + 5) kX10_topic 0 (ent kX10_topic [.ref v]) [] (K, I, R) (some (.int (tc (rTop s n cls n).1)), (K, I', R)) ∧ FR (PV v) I I' := by
  have lp : ∀ mm i (J : Nat → Nat → Int32), i + mm = n → FR (PV v) I J → ∃ I', (∀ y : Option Value, Ev X (d + 5) kX10_topic 6 [some (.ref v), some (.int (tc (rTop s n cls i).1)), some (.int (rTop s n cls i).2), some (.int (nI i)), y] [] (K, J, R) (some (.int (tc (rTop s n cls n).1)), (K, I', R))) ∧ FR (PV v) I I' := by
    intro mm
    induction mm with
    | zero =>
      intro i J hi hJ
      have e : i = n := by omega
      subst e
      refine ⟨J, fun y => ?_, hJ⟩
      have v8 := (hM.fr hJ).1
      obtain ⟨k0, k1, k2, k3, k4, k5, k6, k7, k8, r0, r1, r2, r3, r4, r5, r6, r7⟩ := hK
      (repeat (first | refine Ev.p rfl rfl ?_ | refine Ev.gr (by rfl) (by rfl) (by assumption) (by rfl) (by assumption) ?_ | refine Ev.gi (by rfl) (by rfl) (by assumption) (by rfl) (by assumption) ?_))
      refine Ev.bp rfl (fun c => ?_) (fun c => ?_)
      · ((repeat refine Ev.p rfl rfl ?_); exact Ev.r rfl)
      · exact absurd (Int32.le_refl _) c
    | succ mm ih =>
      intro i J hi hJ
      have hMJ := hM.fr hJ
      have v8 := hMJ.1
      have hr := c_isReady (X := X) (d := d + 2) hK hMJ hn hS (show i < n by omega)
      obtain ⟨b1, hb1⟩ : ∃ b, b = (rTop s n cls i).1 := ⟨_, rfl⟩
      obtain ⟨m1, hm1⟩ : ∃ b, b = (rTop s n cls i).2 := ⟨_, rfl⟩
      have hK2 := hK
      obtain ⟨k0, k1, k2, k3, k4, k5, k6, k7, k8, r0, r1, r2, r3, r4, r5, r6, r7⟩ := hK2
      have k31 : ∀ (st : Int32) (J2 I' : Nat → Nat → Int32), st = (if rRd s n i = true then rStir s n i cls else 0) → (∀ y : Option Value, Ev X (d + 5) kX10_topic 6 [some (.ref v), some (.int (tc (rTop s n cls (i + 1)).1)), some (.int (rTop s n cls (i + 1)).2), some (.int (nI (i + 1))), y] [] (K, J2, R) (some (.int (tc (rTop s n cls n).1)), (K, I', R))) → ∀ y : Option Value, Ev X (d + 5) kX10_topic 31 [some (.ref v), some (.int (tc b1)), some (.int m1), some (.int (nI i)), y] [.int st] (K, J2, R) (some (.int (tc (rTop s n cls n).1)), (K, I', R)) := by
        intro st J2 I' hst g y
        simp only [rTop, ← hst, ← hb1, ← hm1] at g
        rw [nI_succ] at g
        by_cases c9 : st ≤ m1
        · simp only [if_pos c9] at g
          (repeat refine Ev.p rfl rfl ?_)
          refine Ev.bp rfl (fun c => ?_) (fun c => ?_)
          · (repeat (first | (refine Ev.at (q := 6) rfl ?_; exact (g _)) | refine Ev.p rfl rfl ?_))
          · exact absurd c9 c
        · simp only [if_neg c9] at g
          (repeat refine Ev.p rfl rfl ?_)
          refine Ev.bp rfl (fun c => ?_) (fun c => ?_)
          · exact absurd c c9
          · (repeat (first | (refine Ev.at (q := 6) rfl ?_; exact (g _)) | refine Ev.p rfl rfl ?_))
      rw [← hb1, ← hm1]
      cases hb : rRd s n i with
      | true =>
        obtain ⟨J2, f1, f2⟩ := c_stirOf (X := X) (d := d) (p := i) hK hMJ hn hS (hO.fr hK hJ) (by omega) he he2 h14 (hst.fv hK hJ)
        obtain ⟨I', g1, g2⟩ := ih (i + 1) J2 (by omega) (hJ.tr f2)
        refine ⟨I', fun y => ?_, g2⟩
        have g3 := k31 (rStir s n i cls) J2 I' (by rw [hb]; rfl) g1
        rw [hb] at hr
        (repeat (first | refine Ev.p rfl rfl ?_ | refine Ev.gr (by rfl) (by rfl) (by assumption) (by rfl) (by assumption) ?_ | refine Ev.gi (by rfl) (by rfl) (by assumption) (by rfl) (by assumption) ?_))
        refine Ev.bp rfl (fun c => ?_) (fun c => ?_)
        · exact absurd c (nI_ge (by omega) (by omega))
        · (repeat (first | refine Ev.p rfl rfl ?_ | refine Ev.gr (by rfl) (by rfl) (by assumption) (by rfl) (by assumption) ?_ | refine Ev.gi (by rfl) (by rfl) (by assumption) (by rfl) (by assumption) ?_))
          refine Ev.cv (by rfl) (by rfl) (by assumption) (by rfl) (by rfl) (by rfl) (by rfl) (by rfl) hr ?_
          (repeat (first | refine Ev.p rfl rfl ?_ | refine Ev.gr (by rfl) (by rfl) (by assumption) (by rfl) (by assumption) ?_ | refine Ev.gi (by rfl) (by rfl) (by assumption) (by rfl) (by assumption) ?_))
          refine Ev.cv (by rfl) (by rfl) (by assumption) (by rfl) (by rfl) (by rfl) (by rfl) (by rfl) f1 ?_
          (repeat (first | (refine Ev.at (q := 31) rfl ?_; exact (g3 _)) | refine Ev.p rfl rfl ?_))
      | false =>
        obtain ⟨I', g1, g2⟩ := ih (i + 1) J (by omega) hJ
        refine ⟨I', fun y => ?_, g2⟩
        have g3 := k31 0 J I' (by rw [hb]; rfl) g1
        rw [hb] at hr
        (repeat (first | refine Ev.p rfl rfl ?_ | refine Ev.gr (by rfl) (by rfl) (by assumption) (by rfl) (by assumption) ?_ | refine Ev.gi (by rfl) (by rfl) (by assumption) (by rfl) (by assumption) ?_))
        refine Ev.bp rfl (fun c => ?_) (fun c => ?_)
        · exact absurd c (nI_ge (by omega) (by omega))
        · (repeat (first | refine Ev.p rfl rfl ?_ | refine Ev.gr (by rfl) (by rfl) (by assumption) (by rfl) (by assumption) ?_ | refine Ev.gi (by rfl) (by rfl) (by assumption) (by rfl) (by assumption) ?_))
          refine Ev.cv (by rfl) (by rfl) (by assumption) (by rfl) (by rfl) (by rfl) (by rfl) (by rfl) hr ?_
          (repeat (first | (refine Ev.at (q := 31) rfl ?_; exact (g3 _)) | refine Ev.p rfl rfl ?_))
  obtain ⟨I', e1, e2⟩ := lp n 0 I (by omega) (FR.rf I)
  refine ⟨I', ?_, e2⟩
  (repeat (first | (refine Ev.at (q := 6) rfl ?_; exact (e1 _)) | refine Ev.p rfl rfl ?_))
theorem tc_tk (s : Nat → Int32) (n : Nat) (cls : Cls) : tkV (rTop s n cls n).1 n (tc (rTop s n cls n).1) := by
  cases h : (rTop s n cls n).1 with
  | none => show (-1 : Int32) < 0; decide
  | some p => exact ⟨rTop_lt n p h, rfl⟩
theorem c_isS {f : Nat → Bool} (hk : K[v]? = some (10, 16)) (h9 : I v 9 = nI (mk f n)) (hn : n ≤ 6) (hp : p < n) : Ev X d kX10_isSettled 0 (ent kX10_isSettled [.ref v, .int (nI p)]) [] (K, I, R) (some (.int (bI (f p))), (K, I, R)) := by
  iterate 1 refine Ev.p rfl rfl ?_
  refine Ev.gi (by rfl) (by rfl) (by assumption) (by rfl) (by assumption) ?_
  iterate 4 refine Ev.p rfl rfl ?_
  rw [mk_sr _ hn hp]
  cases f p <;> ((repeat refine Ev.p rfl rfl ?_); exact Ev.r rfl)
theorem c_opn {f g : Nat → Bool} (hk : K[v]? = some (10, 16)) (h8 : I v 8 = nI n) (h9 : I v 9 = nI (mk f n)) (h10 : I v 10 = nI (mk g n)) (hn : n ≤ 6) : Ev X (d + 1) kX10_openOnes 0 (ent kX10_openOnes [.ref v]) [] (K, I, R) (some (.int (nI (mk (fun q => !f q && !g q) n))), (K, I, R)) := by
  have e1 : (((1 : Int32) <<< (nI n &&& 31)) - 1) &&& (nI (mk f n) ^^^ (-1)) = nI (mk (fun q => !f q) n) := by
    rw [full_nI n hn, ← mk_full n, mk_andn _ _ hn hn]
    congr 1
    exact mk_ext (fun q hq => by simp [hq])
  have h1 : Ev X d kX10_unsettledOnes 0 (ent kX10_unsettledOnes [.ref v]) [] (K, I, R) (some (.int (nI (mk (fun q => !f q) n))), (K, I, R)) := by
    rw [← e1]
    ((repeat (first | refine Ev.p rfl rfl ?_ | refine Ev.gr (by rfl) (by rfl) (by assumption) (by rfl) (by assumption) ?_ | refine Ev.gi (by rfl) (by rfl) (by assumption) (by rfl) (by assumption) ?_)); exact Ev.r rfl)
  have e2 : nI (mk (fun q => !f q) n) &&& (nI (mk g n) ^^^ (-1)) = nI (mk (fun q => !f q && !g q) n) := by
    rw [mk_andn _ _ hn hn]
    congr 1
    exact mk_ext (fun q hq => by simp [hq])
  rw [← e2]
  (repeat (first | refine Ev.p rfl rfl ?_ | refine Ev.gr (by rfl) (by rfl) (by assumption) (by rfl) (by assumption) ?_ | refine Ev.gi (by rfl) (by rfl) (by assumption) (by rfl) (by assumption) ?_))
  refine Ev.cv (by rfl) (by rfl) (by assumption) (by rfl) (by rfl) (by rfl) (by rfl) (by rfl) h1 ?_
  ((repeat (first | refine Ev.p rfl rfl ?_ | refine Ev.gr (by rfl) (by rfl) (by assumption) (by rfl) (by assumption) ?_ | refine Ev.gi (by rfl) (by rfl) (by assumption) (by rfl) (by assumption) ?_)); exact Ev.r rfl)
end CTOPIC
/-! what an evening comes to, place by place -/
theorem rG_val (s u0 : Nat → Int32) (hr : Option Nat) (fd : Int32) : ∀ m, m ≤ 6 → (∀ p, p < 6 → rG s u0 hr fd m (8 + p) = if p < m then gT u0 (rOp s p && !decide (hr = some p)) fd p else u0 (8 + p)) ∧ (∀ p, p < 6 → rG s u0 hr fd m (2 + p) = if p < m then u0 (2 + p) + (if u0 (14 + p) = 0 then 1 else 0) else u0 (2 + p)) ∧ rG s u0 hr fd m 1 = u0 1 + nI (cnt (rOp u0) m) ∧ ∀ j, 14 ≤ j → rG s u0 hr fd m j = u0 j := by
  intro m
  induction m with
  | zero => intro _; exact ⟨fun p hp => by rw [if_neg (by omega)]; rfl, fun p hp => by rw [if_neg (by omega)]; rfl, by show u0 1 = u0 1 + 0; rw [Int32.add_zero], fun _ _ => rfl⟩
  | succ m ih =>
    intro hm
    obtain ⟨h1, h2, h3, h4⟩ := ih (by omega)
    obtain ⟨w, hw⟩ : ∃ w, w = rG s u0 hr fd m := ⟨_, rfl⟩
    obtain ⟨f, hf⟩ : ∃ f, f = (rOp s m && !decide (hr = some m)) := ⟨_, rfl⟩
    have e : rG s u0 hr fd (m + 1) = gC (gA (upd w (8 + m) (gT w f fd m)) m) m := by rw [hw, hf]; rfl
    rw [← hw] at h1 h2 h3 h4
    have g8 : gT w f fd m = gT u0 f fd m := by
      have e8 : w (8 + m) = u0 (8 + m) := (h1 m (by omega)).trans (if_neg (by omega))
      unfold gT
      rw [e8]
    have a1 : ∀ j, j ≠ 8 + m → j ≠ 2 + m → j ≠ 1 → rG s u0 hr fd (m + 1) j = w j := fun j j1 j2 j3 => by
      rw [e]; unfold gC gA; rw [upd_ne j3, upd_ne j2, upd_ne j1]
    refine ⟨fun p hp => ?_, fun p hp => ?_, ?_, fun j hj => ?_⟩
    · by_cases hpm : p = m
      · subst hpm
        rw [if_pos (by omega), e]
        unfold gC gA
        rw [upd_ne (by omega), upd_ne (by omega), upd_at, g8, hf]
      · rw [a1 _ (by omega) (by omega) (by omega), h1 p hp]
        by_cases h9 : p < m
        · rw [if_pos h9, if_pos (by omega)]
        · rw [if_neg h9, if_neg (by omega)]
    · by_cases hpm : p = m
      · subst hpm
        rw [if_pos (by omega), e]
        unfold gC gA
        rw [upd_ne (by omega), upd_at, upd_ne (by omega), upd_ne (by omega), h2 p hp, if_neg (by omega), h4 _ (by omega)]
      · rw [a1 _ (by omega) (by omega) (by omega), h2 p hp]
        by_cases h9 : p < m
        · rw [if_pos h9]; exact (if_pos (show p < m + 1 by omega)).symm
        · rw [if_neg h9]; exact (if_neg (show ¬ p < m + 1 by omega)).symm
    · rw [e]
      unfold gC
      rw [upd_at]
      have e1 : gA (upd w (8 + m) (gT w f fd m)) m 1 = w 1 := by unfold gA; rw [upd_ne (by omega), upd_ne (by omega)]
      have e2 : rOp (gA (upd w (8 + m) (gT w f fd m)) m) m = rOp u0 m := by
        unfold rOp gA
        rw [upd_ne (by omega), upd_ne (by omega), upd_ne (by omega), upd_ne (by omega), h4 _ (by omega), h4 _ (by omega)]
      rw [e1, e2, h3]
      show _ = u0 1 + nI (cnt (rOp u0) m + _)
      rw [← nI_add, ← Int32.add_assoc]
      congr 1
      cases rOp u0 m <;> rfl
    · rw [a1 _ (by omega) (by omega) (by omega), h4 j hj]
/-- talk stays within what is held -/
def TBk (s : Nat → Int32) (n : Nat) (cls : Cls) : Prop := ∀ p, p < n → 0 ≤ s (8 + p) ∧ 0 ≤ rTlk s n p cls
section GOV
variable {s : Nat → Int32} {n : Nat} {cls : Cls} {du fd : Int32} {tk : Option Nat} {x : Int32}
theorem gT_f {u : Nat → Int32} {fd : Int32} {p : Nat} (h : 0 ≤ u (8 + p)) : gT u false fd p = u (8 + p) := by
  unfold gT
  rw [if_neg (show ¬ (false : Bool) = true by decide), Int32.sub_zero, if_pos h]
theorem rGo_j {j : Nat} (hj : j ≠ 0) : rGo s n cls du fd tk j = rG s (rG1 s n cls du (rHr s n tk)) (rHr s n tk) fd n j := by
  unfold rGo
  rw [upd_ne hj]
theorem go_8 (hn : n ≤ 6) (hx : tkV tk n x) (hT : TBk s n cls) {p : Nat} (hp : p < n) : (rHr s n tk = some p → rGo s n cls du fd tk (8 + p) = rTlk s n p cls) ∧ (rHr s n tk ≠ some p → rOp s p = true → rGo s n cls du fd tk (8 + p) = if s (8 + p) - fd ≤ 0 then 0 else s (8 + p) - fd) ∧ (rHr s n tk ≠ some p → rOp s p = false → rGo s n cls du fd tk (8 + p) = s (8 + p)) := by
  rw [rGo_j (by omega), (rG_val _ _ _ _ n hn).1 p (by omega), if_pos hp]
  refine ⟨fun h => ?_, fun h ho => ?_, fun h ho => ?_⟩
  · rw [h, decide_eq_true rfl, show (rOp s p && !true) = false from by cases rOp s p <;> rfl]
    have e : rG1 s n cls du (some p) (8 + p) = rTlk s n p cls := by
      show rTalk s n p cls du (8 + p) = _
      unfold rTalk
      rw [upd_ne (by omega), upd_at]
    rw [gT_f (by rw [e]; exact (hT p hp).2), e]
  all_goals
    have e : rG1 s n cls du (rHr s n tk) (8 + p) = s (8 + p) := by
      cases hr : rHr s n tk with
      | none => rfl
      | some p' =>
        have hne : p ≠ p' := fun g => h (by rw [hr, g])
        have hp' := (rHr_lt hx hr).1
        show rTalk s n p' cls du (8 + p) = _
        unfold rTalk
        rw [upd_ne (by omega), upd_ne (by omega)]
    rw [ho, decide_eq_false h]
  · show gT _ true fd p = _
    unfold gT
    rw [if_pos rfl, e]
    by_cases h9 : s (8 + p) - fd ≤ 0
    · rw [if_pos h9]
      by_cases h8 : 0 ≤ s (8 + p) - fd
      · rw [if_pos h8]; exact Int32.le_antisymm h9 h8
      · rw [if_neg h8]
    · rw [if_neg h9, if_pos (Int32.le_of_lt (Int32.not_le.mp h9))]
  · show gT _ false fd p = _
    rw [gT_f (by rw [e]; exact (hT p hp).1), e]
theorem go_14 (hn : n ≤ 6) {j : Nat} (hj : 14 ≤ j) : rGo s n cls du fd tk j = rG1 s n cls du (rHr s n tk) j := by
  rw [rGo_j (by omega), (rG_val _ _ _ _ n hn).2.2.2 j hj]
theorem go_2 (hn : n ≤ 6) {p : Nat} (hp : p < n) : rGo s n cls du fd tk (2 + p) = s (2 + p) + (if rGo s n cls du fd tk (14 + p) = 0 then 1 else 0) := by
  rw [go_14 hn (j := 14 + p) (by omega), rGo_j (by omega), (rG_val _ _ _ _ n hn).2.1 p (by omega), if_pos hp]
  congr 1
  cases rHr s n tk with
  | none => rfl
  | some p' =>
    show rTalk s n p' cls du (2 + p) = _
    unfold rTalk
    rw [upd_ne (by omega), upd_ne (by omega)]
theorem cnt_ext {f g : Nat → Bool} {n : Nat} (h : ∀ p, p < n → f p = g p) : cnt f n = cnt g n := by
  induction n with
  | zero => rfl
  | succ n ih =>
    show cnt f n + _ = cnt g n + _
    rw [ih (fun p hp => h p (by omega)), h n (by omega)]
theorem go_1 (hn : n ≤ 6) : rGo s n cls du fd tk 1 = s 1 + nI (cnt (rOp (rGo s n cls du fd tk)) n) := by
  rw [show cnt (rOp (rGo s n cls du fd tk)) n = cnt (rOp (rG1 s n cls du (rHr s n tk))) n from cnt_ext (fun p hp => by unfold rOp; rw [go_14 hn (by omega), go_14 hn (by omega)]), rGo_j (by omega), (rG_val _ _ _ _ n hn).2.2.1]
  congr 1
  cases rHr s n tk with
  | none => rfl
  | some p' =>
    show rTalk s n p' cls du 1 = _
    unfold rTalk
    rw [upd_ne (by omega), upd_ne (by omega)]
def gset (s : Nat → Int32) (n : Nat) (cls : Cls) (du : Int32) (hr : Option Nat) (q : Nat) : Bool := match hr with
  | some p => if q = p then !decide (rTlk s n p cls < du) else sett s q
  | none => sett s q
theorem go_set (hn : n ≤ 6) (hx : tkV tk n x) (q : Nat) : sett (rGo s n cls du fd tk) q = gset s n cls du (rHr s n tk) q := by
  unfold sett gset
  rw [go_14 hn (by omega)]
  cases hr : rHr s n tk with
  | none => rfl
  | some p =>
    have hp := (rHr_lt hx hr).1
    show decide (rTalk s n p cls du (14 + q) = 1) = if q = p then !decide (rTlk s n p cls < du) else sett s q
    unfold rTalk
    by_cases hq : q = p
    · subst hq
      rw [upd_at, if_pos rfl]
      by_cases h : rTlk s n q cls < du
      · rw [if_pos h, decide_eq_true h]; rfl
      · rw [if_neg h, decide_eq_false h]; rfl
    · rw [upd_ne (by omega), if_neg hq, upd_ne (by omega)]
      rfl
end GOV
