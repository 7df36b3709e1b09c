/-! A HAND'S COPY -/
theorem cpI_ne {I : Nat → Nat → Int32} {p q sp dp n c : Nat} (h : c ≠ q) : cpI I p q sp dp n c = I c := by
  funext j
  unfold cpI
  rw [if_neg (fun g => h g.1)]
theorem cpI_at {I : Nat → Nat → Int32} {p q n j : Nat} (h : j < n) : cpI I p q 0 0 n q j = I p j := by
  unfold cpI
  rw [if_pos ⟨rfl, by omega, by omega⟩, Nat.sub_zero, Nat.zero_add]
theorem by_ok : ∀ c, c < 128 → okc 21 (nI c) = true := fun c hc => (i2b_nI c hc).2
section CHAND
variable {X : Nat × (Nat → Int32)} {d : Nat} {K : List (Nat × Nat)} {I : Nat → Nat → Int32} {R : Nat → Nat → Option Nat} {a b : Nat} {s : Nat → Int32}
theorem c_copyHand (ha : HK K R a) (hb : HK K R b) (hab : a + 9 ≤ b ∨ b + 9 ≤ a) (hM : HM I b s) (hy : BY s) : ∃ I', Ev X d kX3_copyFrom 0 (ent kX3_copyFrom [.ref a, .ref b]) [] (K, I, R) (none, (K, I', R)) ∧ HM I' a s ∧ FR (fun c => a ≤ c ∧ c ≤ a + 7) I I' := by
  obtain ⟨ka0, ka1, ka2, ka3, ka4, ka5, ka6, ka7, ra0, ra2, ra3, ra6, ra7, ra9, ra10⟩ := ha
  obtain ⟨kb0, kb1, kb2, kb3, kb4, kb5, kb6, kb7, rb0, rb2, rb3, rb6, rb7, rb9, rb10⟩ := hb
  obtain ⟨m1, m2, m3, m4, m5, m6, m7, m8⟩ := hM
  obtain ⟨J1, hJ1⟩ : ∃ J, J = cpI I (b + 1) (a + 1) 0 0 100 := ⟨_, rfl⟩
  obtain ⟨J2, hJ2⟩ : ∃ J, J = upI J1 a 1 (s 31) := ⟨_, rfl⟩
  obtain ⟨J3, hJ3⟩ : ∃ J, J = cpI J2 (b + 2) (a + 2) 0 0 5 := ⟨_, rfl⟩
  obtain ⟨J4, hJ4⟩ : ∃ J, J = cpI J3 (b + 3) (a + 3) 0 0 5 := ⟨_, rfl⟩
  obtain ⟨J5, hJ5⟩ : ∃ J, J = upI J4 a 4 (nI (mk (seeB s) 5)) := ⟨_, rfl⟩
  obtain ⟨J6, hJ6⟩ : ∃ J, J = upI J5 a 5 (s 28) := ⟨_, rfl⟩
  obtain ⟨J7, hJ7⟩ : ∃ J, J = cpI J6 (b + 4) (a + 4) 0 0 8 := ⟨_, rfl⟩
  obtain ⟨J8, hJ8⟩ : ∃ J, J = cpI J7 (b + 5) (a + 5) 0 0 8 := ⟨_, rfl⟩
  obtain ⟨J9, hJ9⟩ : ∃ J, J = upI J8 a 8 (s 29) := ⟨_, rfl⟩
  obtain ⟨J10, hJ10⟩ : ∃ J, J = cpI J9 (b + 6) (a + 6) 0 0 8 := ⟨_, rfl⟩
  obtain ⟨J11, hJ11⟩ : ∃ J, J = cpI J10 (b + 7) (a + 7) 0 0 8 := ⟨_, rfl⟩
  obtain ⟨J12, hJ12⟩ : ∃ J, J = upI J11 a 11 (s 30) := ⟨_, rfl⟩
  have f1 : ∀ c, ¬ (a ≤ c ∧ c ≤ a + 7) → J1 c = I c := fun c hc => by rw [hJ1, cpI_ne (by omega)]
  have f2 : ∀ c, ¬ (a ≤ c ∧ c ≤ a + 7) → J2 c = I c := fun c hc => by rw [hJ2, upI_ne (by omega)]; exact f1 c hc
  have f3 : ∀ c, ¬ (a ≤ c ∧ c ≤ a + 7) → J3 c = I c := fun c hc => by rw [hJ3, cpI_ne (by omega)]; exact f2 c hc
  have f4 : ∀ c, ¬ (a ≤ c ∧ c ≤ a + 7) → J4 c = I c := fun c hc => by rw [hJ4, cpI_ne (by omega)]; exact f3 c hc
  have f5 : ∀ c, ¬ (a ≤ c ∧ c ≤ a + 7) → J5 c = I c := fun c hc => by rw [hJ5, upI_ne (by omega)]; exact f4 c hc
  have f6 : ∀ c, ¬ (a ≤ c ∧ c ≤ a + 7) → J6 c = I c := fun c hc => by rw [hJ6, upI_ne (by omega)]; exact f5 c hc
  have f7 : ∀ c, ¬ (a ≤ c ∧ c ≤ a + 7) → J7 c = I c := fun c hc => by rw [hJ7, cpI_ne (by omega)]; exact f6 c hc
  have f8 : ∀ c, ¬ (a ≤ c ∧ c ≤ a + 7) → J8 c = I c := fun c hc => by rw [hJ8, cpI_ne (by omega)]; exact f7 c hc
  have f9 : ∀ c, ¬ (a ≤ c ∧ c ≤ a + 7) → J9 c = I c := fun c hc => by rw [hJ9, upI_ne (by omega)]; exact f8 c hc
  have f10 : ∀ c, ¬ (a ≤ c ∧ c ≤ a + 7) → J10 c = I c := fun c hc => by rw [hJ10, cpI_ne (by omega)]; exact f9 c hc
  have f11 : ∀ c, ¬ (a ≤ c ∧ c ≤ a + 7) → J11 c = I c := fun c hc => by rw [hJ11, cpI_ne (by omega)]; exact f10 c hc
  have f12 : ∀ c, ¬ (a ≤ c ∧ c ≤ a + 7) → J12 c = I c := fun c hc => by rw [hJ12, upI_ne (by omega)]; exact f11 c hc
  have n1 : J1 b 1 = s 31 := by rw [f1 b (by omega)]; exact m1
  have n4 : J4 b 4 = nI (mk (seeB s) 5) := by rw [f4 b (by omega)]; exact m8
  have n5 : J5 b 5 = s 28 := by rw [f5 b (by omega)]; exact m2
  have n8 : J8 b 8 = s 29 := by rw [f8 b (by omega)]; exact m3
  have n11 : J11 b 11 = s 30 := by rw [f11 b (by omega)]; exact m4
  refine ⟨J12, ?_, ⟨?_, ?_, ?_, ?_, fun j hj => ?_, fun k hk => ⟨?_, ?_⟩, fun k hk => ⟨?_, ?_, ?_, ?_⟩, ?_⟩, f12⟩
  · (repeat (first | refine Ev.p rfl rfl ?_ | refine Ev.gr (by rfl) (by rfl) (by assumption) (by rfl) (by assumption) ?_ | refine Ev.gi (by rfl) (by rfl) (by assumption) (by rfl) (by assumption) ?_))
    refine Ev.acp (sp := 0) (dp := 0) (n := 100) (by rfl) kb1 ka1 (by rfl) (by rfl) (by rfl) (by rfl) (by rfl) (by omega) (by omega) (by omega) (fun j hj => by
      obtain ⟨c, hc, ec⟩ := hy.1 j hj
      rw [Nat.zero_add, m5 j hj, ec]; exact by_ok c hc) ?_
    rw [← hJ1]
    (repeat (first | refine Ev.p rfl rfl ?_ | refine Ev.gr (by rfl) (by rfl) (by assumption) (by rfl) (by assumption) ?_ | refine Ev.gi (by rfl) (by rfl) (by assumption) (by rfl) (by assumption) ?_))
    refine Ev.pi (by rfl) (by rfl) (by assumption) (by rfl) ?_
    rw [← hJ2]
    (repeat (first | refine Ev.p rfl rfl ?_ | refine Ev.gr (by rfl) (by rfl) (by assumption) (by rfl) (by assumption) ?_ | refine Ev.gi (by rfl) (by rfl) (by assumption) (by rfl) (by assumption) ?_))
    refine Ev.acp (sp := 0) (dp := 0) (n := 5) (by rfl) kb2 ka2 (by rfl) (by rfl) (by rfl) (by rfl) (by rfl) (by omega) (by omega) (by omega) (fun _ _ => by rfl) ?_
    rw [← hJ3]
    (repeat (first | refine Ev.p rfl rfl ?_ | refine Ev.gr (by rfl) (by rfl) (by assumption) (by rfl) (by assumption) ?_ | refine Ev.gi (by rfl) (by rfl) (by assumption) (by rfl) (by assumption) ?_))
    refine Ev.acp (sp := 0) (dp := 0) (n := 5) (by rfl) kb3 ka3 (by rfl) (by rfl) (by rfl) (by rfl) (by rfl) (by omega) (by omega) (by omega) (fun _ _ => by rfl) ?_
    rw [← hJ4]
    (repeat (first | refine Ev.p rfl rfl ?_ | refine Ev.gr (by rfl) (by rfl) (by assumption) (by rfl) (by assumption) ?_ | refine Ev.gi (by rfl) (by rfl) (by assumption) (by rfl) (by assumption) ?_))
    refine Ev.pi (by rfl) (by rfl) (by assumption) (by rfl) ?_
    rw [← hJ5]
    (repeat (first | refine Ev.p rfl rfl ?_ | refine Ev.gr (by rfl) (by rfl) (by assumption) (by rfl) (by assumption) ?_ | refine Ev.gi (by rfl) (by rfl) (by assumption) (by rfl) (by assumption) ?_))
    refine Ev.pi (by rfl) (by rfl) (by assumption) (by rfl) ?_
    rw [← hJ6]
    (repeat (first | refine Ev.p rfl rfl ?_ | refine Ev.gr (by rfl) (by rfl) (by assumption) (by rfl) (by assumption) ?_ | refine Ev.gi (by rfl) (by rfl) (by assumption) (by rfl) (by assumption) ?_))
    refine Ev.acp (sp := 0) (dp := 0) (n := 8) (by rfl) kb4 ka4 (by rfl) (by rfl) (by rfl) (by rfl) (by rfl) (by omega) (by omega) (by omega) (fun _ _ => by rfl) ?_
    rw [← hJ7]
    (repeat (first | refine Ev.p rfl rfl ?_ | refine Ev.gr (by rfl) (by rfl) (by assumption) (by rfl) (by assumption) ?_ | refine Ev.gi (by rfl) (by rfl) (by assumption) (by rfl) (by assumption) ?_))
    refine Ev.acp (sp := 0) (dp := 0) (n := 8) (by rfl) kb5 ka5 (by rfl) (by rfl) (by rfl) (by rfl) (by rfl) (by omega) (by omega) (by omega) (fun _ _ => by rfl) ?_
    rw [← hJ8]
    (repeat (first | refine Ev.p rfl rfl ?_ | refine Ev.gr (by rfl) (by rfl) (by assumption) (by rfl) (by assumption) ?_ | refine Ev.gi (by rfl) (by rfl) (by assumption) (by rfl) (by assumption) ?_))
    refine Ev.pi (by rfl) (by rfl) (by assumption) (by rfl) ?_
    rw [← hJ9]
    (repeat (first | refine Ev.p rfl rfl ?_ | refine Ev.gr (by rfl) (by rfl) (by assumption) (by rfl) (by assumption) ?_ | refine Ev.gi (by rfl) (by rfl) (by assumption) (by rfl) (by assumption) ?_))
    refine Ev.acp (sp := 0) (dp := 0) (n := 8) (by rfl) kb6 ka6 (by rfl) (by rfl) (by rfl) (by rfl) (by rfl) (by omega) (by omega) (by omega) (fun _ _ => by rfl) ?_
    rw [← hJ10]
    (repeat (first | refine Ev.p rfl rfl ?_ | refine Ev.gr (by rfl) (by rfl) (by assumption) (by rfl) (by assumption) ?_ | refine Ev.gi (by rfl) (by rfl) (by assumption) (by rfl) (by assumption) ?_))
    refine Ev.acp (sp := 0) (dp := 0) (n := 8) (by rfl) kb7 ka7 (by rfl) (by rfl) (by rfl) (by rfl) (by rfl) (by omega) (by omega) (by omega) (fun _ _ => by rfl) ?_
    rw [← hJ11]
    (repeat (first | refine Ev.p rfl rfl ?_ | refine Ev.gr (by rfl) (by rfl) (by assumption) (by rfl) (by assumption) ?_ | refine Ev.gi (by rfl) (by rfl) (by assumption) (by rfl) (by assumption) ?_))
    refine Ev.pi (by rfl) (by rfl) (by assumption) (by rfl) ?_
    rw [← hJ12]
    ((repeat refine Ev.p rfl rfl ?_); exact Ev.r rfl)
  · rw [hJ12, upI_eq, upd_ne (by omega), hJ11, cpI_ne (by omega), hJ10, cpI_ne (by omega), hJ9, upI_eq, upd_ne (by omega), hJ8, cpI_ne (by omega), hJ7, cpI_ne (by omega), hJ6, upI_eq, upd_ne (by omega), hJ5, upI_eq, upd_ne (by omega), hJ4, cpI_ne (by omega), hJ3, cpI_ne (by omega), hJ2, upI_eq, upd_at]
  · rw [hJ12, upI_eq, upd_ne (by omega), hJ11, cpI_ne (by omega), hJ10, cpI_ne (by omega), hJ9, upI_eq, upd_ne (by omega), hJ8, cpI_ne (by omega), hJ7, cpI_ne (by omega), hJ6, upI_eq, upd_at]
  · rw [hJ12, upI_eq, upd_ne (by omega), hJ11, cpI_ne (by omega), hJ10, cpI_ne (by omega), hJ9, upI_eq, upd_at]
  · rw [hJ12, upI_eq, upd_at]
  · rw [hJ12, upI_ne (by omega), hJ11, cpI_ne (by omega), hJ10, cpI_ne (by omega), hJ9, upI_ne (by omega), hJ8, cpI_ne (by omega), hJ7, cpI_ne (by omega), hJ6, upI_ne (by omega), hJ5, upI_ne (by omega), hJ4, cpI_ne (by omega), hJ3, cpI_ne (by omega), hJ2, upI_ne (by omega), hJ1, cpI_at hj]; exact m5 j hj
  · rw [hJ12, upI_ne (by omega), hJ11, cpI_ne (by omega), hJ10, cpI_ne (by omega), hJ9, upI_ne (by omega), hJ8, cpI_ne (by omega), hJ7, cpI_ne (by omega), hJ6, upI_ne (by omega), hJ5, upI_ne (by omega), hJ4, cpI_ne (by omega), hJ3, cpI_at hk, f2 _ (by omega)]; exact (m6 k hk).1
  · rw [hJ12, upI_ne (by omega), hJ11, cpI_ne (by omega), hJ10, cpI_ne (by omega), hJ9, upI_ne (by omega), hJ8, cpI_ne (by omega), hJ7, cpI_ne (by omega), hJ6, upI_ne (by omega), hJ5, upI_ne (by omega), hJ4, cpI_at hk, f3 _ (by omega)]; exact (m6 k hk).2
  · rw [hJ12, upI_ne (by omega), hJ11, cpI_ne (by omega), hJ10, cpI_ne (by omega), hJ9, upI_ne (by omega), hJ8, cpI_ne (by omega), hJ7, cpI_at hk, f6 _ (by omega)]; exact (m7 k hk).1
  · rw [hJ12, upI_ne (by omega), hJ11, cpI_ne (by omega), hJ10, cpI_ne (by omega), hJ9, upI_ne (by omega), hJ8, cpI_at hk, f7 _ (by omega)]; exact (m7 k hk).2.1
  · rw [hJ12, upI_ne (by omega), hJ11, cpI_ne (by omega), hJ10, cpI_at hk, f9 _ (by omega)]; exact (m7 k hk).2.2.1
  · rw [hJ12, upI_ne (by omega), hJ11, cpI_at hk, f10 _ (by omega)]; exact (m7 k hk).2.2.2
  · rw [hJ12, upI_eq, upd_ne (by omega), hJ11, cpI_ne (by omega), hJ10, cpI_ne (by omega), hJ9, upI_eq, upd_ne (by omega), hJ8, cpI_ne (by omega), hJ7, cpI_ne (by omega), hJ6, upI_eq, upd_ne (by omega), hJ5, upI_eq, upd_at]
end CHAND
