/-! WHAT IS ONLY ASKED leaves all as it was -/
theorem l64 (a b : Int64) : ∃ q : Int, (a + b).toInt = a.toInt + b.toInt - 18446744073709551616 * q := by
  have h := Int.bmod_eq_self_sub_mul_bdiv (a.toInt + b.toInt) (2 ^ 64)
  rw [Int64.toInt_add, h]
  exact ⟨_, rfl⟩
/-- what is asked is never that number -/
theorem asked_ne (a d l t : Int32) (o mn : Int64) (ho : 0 ≤ o.toInt ∧ o.toInt ≤ 1000) (hm : mn.toInt = -9223372036854775808 ∨ (0 ≤ mn.toInt ∧ mn.toInt ≤ 1000)) : a.toInt64 + o + mn + d.toInt64 + l.toInt64 + t.toInt64 ≠ 123456789012345 := by
  intro h
  have h := congrArg Int64.toInt h
  obtain ⟨q1, e1⟩ := l64 a.toInt64 o
  obtain ⟨q2, e2⟩ := l64 (a.toInt64 + o) mn
  obtain ⟨q3, e3⟩ := l64 (a.toInt64 + o + mn) d.toInt64
  obtain ⟨q4, e4⟩ := l64 (a.toInt64 + o + mn + d.toInt64) l.toInt64
  obtain ⟨q5, e5⟩ := l64 (a.toInt64 + o + mn + d.toInt64 + l.toInt64) t.toInt64
  rw [Int32.toInt_toInt64] at e1 e3 e4 e5
  rw [show (123456789012345 : Int64).toInt = 123456789012345 from by decide] at h
  have a1 := a.le_toInt
  have a2 := a.toInt_lt
  have d1 := d.le_toInt
  have d2 := d.toInt_lt
  have l1 := l.le_toInt
  have l2 := l.toInt_lt
  have t1 := t.le_toInt
  have t2 := t.toInt_lt
  omega
section ASKL
variable {X : Nat × (Nat → Int32)} {d : Nat} {K : List (Nat × Nat)} {I : Nat → Nat → Int32} {R : Nat → Nat → Option Nat} {s : Nat → Int32} {n e m i : Nat} {hd : Option Nat} {cls : Cls} {l : List Int32} {im : Option Img} {c al : Int32} {bf : Int64}
theorem q_odds2 (h : CK K I R s n hd cls e l im m) (hn : 0 < n) : ∃ a, a ≤ 30 ∧ QO X K I R kX11_odds [.int 0, .int 9, .int 0] (.long (rGcd 0 a 30)) s n hd cls e l im m := by
  obtain ⟨I1, R1, e1, q1, q2⟩ := (c_odds (X := X) h.F h.G h.V 0 9 0).2 0 9 0 hn rfl (by omega) rfl (by omega) rfl
  exact ⟨_, rOd_le _ 30, QO.mk1 h e1 (pw_qc q1) (rf_qr q2)⟩
theorem gcd_b {a b : Nat} (ha : a ≤ 594) : 0 ≤ (rGcd 0 a b).toInt ∧ (rGcd 0 a b).toInt ≤ 1000 := by
  unfold rGcd
  rw [if_pos rfl]
  have h := Nat.div_le_self a (Nat.gcd a b)
  obtain ⟨q, hq⟩ : ∃ q, q = a / Nat.gcd a b := ⟨_, rfl⟩
  rw [← hq] at h ⊢
  rw [lN_toInt (by omega)]
  omega
theorem law_ask (h : CK K I R s n hd cls e l im m) (hn : 0 < n) {b1 b2 : Nat} {r : Int32} (h1 : SN s n b1) (h2 : SP s n b2) (h3 : LR s r) (hbf : bf = nuV s n hd cls b1 b2 r) : ∃ I1 R1, CK K I1 R1 s n hd cls e l im m ∧ ∀ Z : Option Value × Hp, Ev X 62 0 332 (LW n i c al bf N10) [] (K, I1, R1) Z → Ev X 62 0 233 (LW n i c al bf N10) [] (K, I, R) Z := by
  have k0 := h.k0
  obtain ⟨w1, I1, R1, e1, c1⟩ := q_on (X := X) h
  obtain ⟨w2, I2, R2, e2, c2⟩ := q_when (X := X) c1 hn
  obtain ⟨w3, I3, R3, e3, c3⟩ := q_agenda (X := X) c2
  obtain ⟨w4, I4, R4, e4, c4⟩ := q_net (X := X) c3 hn
  obtain ⟨w5, I5, R5, e5, c5⟩ := q_dues (X := X) c4
  obtain ⟨b, -, I6, R6, e6, c6⟩ := q_firm (X := X) c5 hn
  obtain ⟨a, ha, I7, R7, e7, c7⟩ := q_odds2 (X := X) c6 hn
  obtain ⟨mn, hmn, I8, R8, e8, c8⟩ := q_mean (X := X) c7
  obtain ⟨I9, R9, e9, c9⟩ := q_done (X := X) c8 h2 (x := 0) (w := 0) (by omega) rfl
  obtain ⟨I10, R10, e10, c10⟩ := q_looked (X := X) c9 h3
  obtain ⟨I11, R11, e11, c11⟩ := q_told (X := X) c10 (x := 8) (w := 8) (by omega) rfl
  obtain ⟨I12, R12, e12, c12⟩ := l_all (X := X) c11 hn h1 h2 h3
  rw [← hbf] at e12
  have hm : mn.toInt = -9223372036854775808 ∨ (0 ≤ mn.toInt ∧ mn.toInt ≤ 1000) := by
    rcases hmn with rfl | ⟨a', b', hb', rfl, ha'⟩
    · exact Or.inl (by decide)
    · exact Or.inr (gcd_b ha')
  have e1 := e1.dp (d' := 61) (by omega)
  have e2 := e2.dp (d' := 61) (by omega)
  have e3 := e3.dp (d' := 61) (by omega)
  have e4 := e4.dp (d' := 61) (by omega)
  have e5 := e5.dp (d' := 61) (by omega)
  have e6 := e6.dp (d' := 61) (by omega)
  have e7 := e7.dp (d' := 61) (by omega)
  have e8 := e8.dp (d' := 61) (by omega)
  have e9 := e9.dp (d' := 61) (by omega)
  have e10 := e10.dp (d' := 61) (by omega)
  have e11 := e11.dp (d' := 61) (by omega)
  have e12 := e12.dp (d' := 61) (by omega)
  obtain ⟨f6, hf6⟩ : ∃ f6, f6 = (da (fun v => rAll (upd s (39 + 0) (nI v)) n cls (rT s hd 222 20) (rT s hd 227 1) b) 10 9 (0, -5)).1 := ⟨_, rfl⟩
  rw [← hf6] at e6
  obtain ⟨d9, hd9⟩ : ∃ d9, d9 = (if 0 = 0 then rSO (rDn s n cls (rT s hd 222 20) (rT s hd 227 1) b2) n else rDn s n cls (rT s hd 222 20) (rT s hd 227 1) b2 1) := ⟨_, rfl⟩
  rw [← hd9] at e9
  obtain ⟨t8, ht8⟩ : ∃ t8, t8 = rTold s n hd cls 8 := ⟨_, rfl⟩
  rw [← ht8] at e11
  have hne := asked_ne (w1 + w2 + w3 + w4 + w5 + f6) d9 r t8 (rGcd 0 a 30) mn (gcd_b (by omega)) hm
  refine ⟨I12, R12, c12, fun Z g => ?_⟩
  unfold LW N10 at g ⊢
  have go : ∀ y : Int64, Ev X 62 0 320 [some (.retAddr 28), some (.ref 0), some (.int (nI n)), some (.int (nI i)), some (.int c), some (.int al), some (.long bf), none, some (.long y), none, none, none, none, none, none, none, none, none] [] (K, I11, R11) Z := fun y => by
    (repeat refine Ev.p rfl rfl ?_)
    refine Ev.c rfl e12 ?_
    (repeat refine Ev.p rfl rfl ?_)
    refine Ev.bp rfl (fun c => ?_) (fun c => absurd ((lg_cmp_eq _ _).mpr rfl) c)
    (repeat (first | (refine Ev.at (q := 332) rfl ?_; exact Ev.fg (le_of (by repeat (first | exact trivial | refine And.intro rfl ?_))) g) | refine Ev.p rfl rfl ?_))
  (repeat refine Ev.p rfl rfl ?_)
  refine Ev.cv (by rfl) (by rfl) (by assumption) (by rfl) (by rfl) (by rfl) (by rfl) (by rfl) e1 ?_
  (repeat refine Ev.p rfl rfl ?_)
  refine Ev.cv (by rfl) (by rfl) (by assumption) (by rfl) (by rfl) (by rfl) (by rfl) (by rfl) e2 ?_
  (repeat refine Ev.p rfl rfl ?_)
  refine Ev.cv (by rfl) (by rfl) (by assumption) (by rfl) (by rfl) (by rfl) (by rfl) (by rfl) e3 ?_
  (repeat refine Ev.p rfl rfl ?_)
  refine Ev.cv (by rfl) (by rfl) (by assumption) (by rfl) (by rfl) (by rfl) (by rfl) (by rfl) e4 ?_
  (repeat refine Ev.p rfl rfl ?_)
  refine Ev.cv (by rfl) (by rfl) (by assumption) (by rfl) (by rfl) (by rfl) (by rfl) (by rfl) e5 ?_
  (repeat refine Ev.p rfl rfl ?_)
  refine Ev.cv (by rfl) (by rfl) (by assumption) (by rfl) (by rfl) (by rfl) (by rfl) (by rfl) e6 ?_
  (repeat refine Ev.p rfl rfl ?_)
  refine Ev.cv (by rfl) (by rfl) (by assumption) (by rfl) (by rfl) (by rfl) (by rfl) (by rfl) e7 ?_
  (repeat refine Ev.p rfl rfl ?_)
  refine Ev.cv (by rfl) (by rfl) (by assumption) (by rfl) (by rfl) (by rfl) (by rfl) (by rfl) e8 ?_
  (repeat refine Ev.p rfl rfl ?_)
  refine Ev.cv (by rfl) (by rfl) (by assumption) (by rfl) (by rfl) (by rfl) (by rfl) (by rfl) e9 ?_
  (repeat refine Ev.p rfl rfl ?_)
  refine Ev.cv (by rfl) (by rfl) (by assumption) (by rfl) (by rfl) (by rfl) (by rfl) (by rfl) e10 ?_
  (repeat refine Ev.p rfl rfl ?_)
  refine Ev.cv (by rfl) (by rfl) (by assumption) (by rfl) (by rfl) (by rfl) (by rfl) (by rfl) e11 ?_
  (repeat refine Ev.p rfl rfl ?_)
  refine Ev.bp rfl (fun c => absurd ((lg_cmp_eq _ _).mp c) hne) (fun c => ?_)
  (repeat (first | (refine Ev.at (q := 320) rfl ?_; exact (go _)) | refine Ev.p rfl rfl ?_))
end ASKL
