/-! THE CLASS reads a station: clauses, all of it -/
theorem pW_app {t : Nat → Int32} {z : Nat} : ∀ (l : List Int32) (a : Nat) (x : Int32), pW t z (l ++ [x]) a = match pW t z l a with
    | (true, b) => if pk t z b = x then (true, b + 1) else (false, b)
    | (false, b) => (false, b) := by
  intro l
  induction l with
  | nil => intro a x; rfl
  | cons c l ih =>
    intro a x
    show (if pk t z a = c then pW t z (l ++ [x]) (a + 1) else (false, a)) = match (if pk t z a = c then pW t z l (a + 1) else (false, a)) with
      | (true, b) => if pk t z b = x then (true, b + 1) else (false, b)
      | (false, b) => (false, b)
    split
    · exact ih _ _
    · rfl
/-- what clauses add to a SUM, and where their tokens end -/
def ACl (J : Nat → Nat → Int32) (p : Nat) (cls : Cls) : Prop := ∀ (pre rest : Cls) (n : Nat) (w : Bool) (ts : List Nat), cls = pre ++ (n, w, ts) :: rest → J (p + 1) pre.length = (if w = true then nI n else -nI n) ∧ J (p + 2) pre.length = nI ((tks pre).length + ts.length)
theorem ACl.snoc {J J' : Nat → Nat → Int32} {p : Nat} {cls : Cls} (h : ACl J p cls) {n : Nat} {w : Bool} {ts : List Nat} (h1 : ∀ j, j < cls.length → J' (p + 1) j = J (p + 1) j ∧ J' (p + 2) j = J (p + 2) j) (h2 : J' (p + 1) cls.length = (if w = true then nI n else -nI n)) (h3 : J' (p + 2) cls.length = nI ((tks cls).length + ts.length)) : ACl J' p (cls ++ [(n, w, ts)]) := by
  intro pre rest n' w' ts' e
  rcases List.eq_nil_or_concat rest with hr | ⟨rest', y, hr⟩
  · subst hr
    obtain ⟨e1, e2⟩ := List.append_inj' e rfl
    cases e2
    subst e1
    exact ⟨h2, h3⟩
  · rw [List.concat_eq_append] at hr
    subst hr
    have e : cls ++ [(n, w, ts)] = (pre ++ (n', w', ts') :: rest') ++ [y] := by rw [e, List.append_assoc]; rfl
    obtain ⟨e1, e2⟩ := List.append_inj' e rfl
    have hlt : pre.length < cls.length := by rw [e1]; simp
    have := h pre rest' n' w' ts' e1
    rw [(h1 _ hlt).1, (h1 _ hlt).2]
    exact this
def RCc (J : Nat → Nat → Int32) (t : Nat → Int32) (z p tp a : Nat) (st : Stn) : Prop := CP J t z p tp a (tks st.2.2) ∧ J p 0 = nI st.1 ∧ J p 1 = nI st.2.1 ∧ J p 2 = nI st.2.2.length ∧ ACl J p st.2.2
def RDc (J : Nat → Nat → Int32) (t : Nat → Int32) (z p tp : Nat) (r : Bool × Nat × Stn) : Prop := match r with
  | (true, b, st) => RCc J t z p tp b st
  | (false, b, _) => ∃ C, CP J t z p tp b C
def FD (p : Nat) (J J' : Nat → Nat → Int32) : Prop := ∀ c, c ≠ p → c ≠ p + 1 → c ≠ p + 2 → c ≠ p + 3 → J' c = J c
theorem FD.rf (p : Nat) (J : Nat → Nat → Int32) : FD p J J := fun _ _ _ _ _ => rfl
theorem FD.tr {p : Nat} {J J' J'' : Nat → Nat → Int32} (h : FD p J J') (h' : FD p J' J'') : FD p J J'' := fun c h1 h2 h3 h4 => (h' c h1 h2 h3 h4).trans (h c h1 h2 h3 h4)
theorem FK.d {p : Nat} {J J' : Nat → Nat → Int32} (h : FK p J J') : FD p J J' := fun c h1 _ _ h4 => h.1 c h1 h4
theorem RCc.fk {J J' : Nat → Nat → Int32} {t : Nat → Int32} {z p tp a : Nat} {st : Stn} (h : RCc J t z p tp a st) (hf : FK p J J') : J' p 0 = nI st.1 ∧ J' p 1 = nI st.2.1 ∧ J' p 2 = nI st.2.2.length ∧ ACl J' p st.2.2 := by
  obtain ⟨-, h0, h1, h2, h3⟩ := h
  refine ⟨(hf.2 0 (by omega) (by omega)).trans h0, (hf.2 1 (by omega) (by omega)).trans h1, (hf.2 2 (by omega) (by omega)).trans h2, ?_⟩
  unfold ACl at h3 ⊢
  rw [hf.1 (p + 1) (by omega) (by omega), hf.1 (p + 2) (by omega) (by omega)]
  exact h3
section CREAD3
variable {X : Nat × (Nat → Int32)} {d : Nat} {K : List (Nat × Nat)} {I : Nat → Nat → Int32} {R : Nat → Nat → Option Nat} {t : Nat → Int32} {z p tp a o : Nat} {C : List Nat} {st : Stn}
theorem c_takeWord (hK : CKs K R p tp) (h : CP I t z p tp a C) (hz : z ≤ 100) (ha : a ≤ z) {i : Nat} (hi4 : i = 0 ∨ i = 1 ∨ i = 2 ∨ i = 3) : ∃ I', Ev X (d + 4) kX8_takeWord 0 (ent kX8_takeWord [.ref p, .retAddr i]) [] (K, I, R) (some (.int (bI (pW t z (txt i) a).1)), (K, I', R)) ∧ CP I' t z p tp (pW t z (txt i) a).2 C ∧ FK p I I' := by
  have hi : i < 13 := by omega
  have hlen : (txt i).length < 100 := by rcases hi4 with rfl | rfl | rfl | rfl <;> decide
  have hne : ∀ q, q < (txt i).length → (txt i).getD q 0 ≠ -1 := by rcases hi4 with rfl | rfl | rfl | rfl <;> decide
  obtain ⟨k0, k1, k2, k3, r3, r4, r5, r7, kt'⟩ := id hK
  have lp : ∀ m q a (J : Nat → Nat → Int32), a ≤ z → q + m = (txt i).length → CP J t z p tp a C → FK p I J → ∃ I', Ev X (d + 4) kX8_takeWord 2 [some (.ref p), some (.retAddr i), some (.int (nI q))] [] (K, J, R) (some (.int (bI (pW t z ((txt i).drop q) a).1)), (K, I', R)) ∧ CP I' t z p tp (pW t z ((txt i).drop q) a).2 C ∧ FK p I I' := by
    intro m
    induction m with
    | zero =>
      intro q a J ha hq h1 h2
      rw [List.drop_eq_nil_of_le (by omega)]
      refine ⟨J, ?_, h1, h2⟩
      have hl := j_length (X := X) (d := d + 2) hi (K, J, R)
      rw [show (txt i).length = q by omega] at hl
      have he := j_isEmpty (X := X) (d := d + 3) hi (K, J, R)
      rw [decide_eq_false (show ¬ i = 4 by omega)] at he
      iterate 2 refine Ev.p rfl rfl ?_
      refine Ev.c (rest := [.int (nI q)]) (np := 7) (by rcases hi4 with rfl | rfl | rfl | rfl <;> rfl) hl ?_
      (repeat refine Ev.p rfl rfl ?_)
      refine Ev.bp rfl (fun c => ?_) (fun c => ?_)
      · (repeat refine Ev.p rfl rfl ?_)
        refine Ev.c (rest := []) (np := 34) (by rcases hi4 with rfl | rfl | rfl | rfl <;> rfl) he ?_
        ((repeat refine Ev.p rfl rfl ?_); exact Ev.r rfl)
      · exact absurd (Int32.le_refl _) c
    | succ m ih =>
      intro q a J ha hq h1 h2
      have hl := j_length (X := X) (d := d + 2) hi (K, J, R)
      have hc := j_charAt (X := X) (d := d) hi (K, J, R) (j := q) (by omega)
      obtain ⟨t1, t2⟩ := c_take (X := X) (d := d + 2) hK h1 hz ha ((txt i).getD q 0)
      have go : ∀ {Z : Option Value × Hp} {J2 : Nat → Nat → Int32} {x : Int32}, Ev X (d + 3) kX8_take 0 (ent kX8_take [.ref p, .int ((txt i).getD q 0)]) [] (K, J, R) (some (.int x), (K, J2, R)) → Ev X (d + 4) kX8_takeWord 19 [some (.ref p), some (.retAddr i), some (.int (nI q))] [.int x] (K, J2, R) Z → Ev X (d + 4) kX8_takeWord 2 [some (.ref p), some (.retAddr i), some (.int (nI q))] [] (K, J, R) Z := by
        intro Z J2 x ht g
        iterate 2 refine Ev.p rfl rfl ?_
        refine Ev.c (rest := [.int (nI q)]) (np := 7) (by rcases hi4 with rfl | rfl | rfl | rfl <;> rfl) hl ?_
        (repeat refine Ev.p rfl rfl ?_)
        refine Ev.bp rfl (fun c => ?_) (fun c => ?_)
        · exact absurd c (nI_ge (by omega) (by omega))
        · (repeat refine Ev.p rfl rfl ?_)
          refine Ev.c (rest := [.ref p]) (np := 16) (by rcases hi4 with rfl | rfl | rfl | rfl <;> rfl) hc ?_
          refine Ev.cv (by rfl) (by rfl) (by assumption) (by rfl) (by rfl) (by rfl) (by rfl) (by rfl) ht ?_
          (repeat (first | (refine Ev.at (q := 19) rfl ?_; exact g) | refine Ev.p rfl rfl ?_))
      rw [drop_cons _ q (by omega)]
      simp only [pW]
      by_cases h9 : pk t z a = (txt i).getD q 0
      · simp only [if_pos h9]
        have hlt := pq_lt h9 (hne q (by omega))
        obtain ⟨I', f1, f2⟩ := ih (q + 1) (a + 1) _ hlt (by omega) (h1.mv hK (x := nI (a + 1)) rfl) (h2.a _)
        refine ⟨I', go (t1 h9) ?_, f2⟩
        rw [nI_succ] at f1
        (repeat (first | (refine Ev.at (q := 2) rfl ?_; exact f1) | refine Ev.p rfl rfl ?_))
      · simp only [if_neg h9]
        refine ⟨J, go (t2 h9) ?_, h1, h2⟩
        ((repeat refine Ev.p rfl rfl ?_); exact Ev.r rfl)
  obtain ⟨I', e1, e2⟩ := lp (txt i).length 0 a I ha (by omega) h (FK.rf p I)
  refine ⟨I', ?_, e2⟩
  (repeat (first | (refine Ev.at (q := 2) rfl ?_; exact e1) | refine Ev.p rfl rfl ?_))
/-- a clause up to its number -/
theorem c_head (hK : CKs K R p tp) (h : CP I t z p tp a C) (hz : z ≤ 100) (ha : a ≤ z) {i : Nat} (hi4 : i = 0 ∨ i = 1 ∨ i = 2 ∨ i = 3) {c1 : Int32} (hw : ∀ J : Nat → Nat → Int32, Ev X (d + 6) kX8_wordFrom 0 (ent kX8_wordFrom [.int c1]) [] (K, J, R) (some (.retAddr i), (K, J, R))) : ∃ I', CP I' t z p tp (pCn t z (txt i ++ [32]) a).2.1 C ∧ FK p I I' ∧ (∀ Z : Option Value × Hp, (pCn t z (txt i ++ [32]) a).1 = true → Ev X (d + 7) kX8_readClause 38 [some (.ref p), some (.int c1), some (.int (nI (pCn t z (txt i ++ [32]) a).2.2))] [] (K, I', R) Z → Ev X (d + 7) kX8_readClause 4 [some (.ref p), none, none] [.int c1] (K, I, R) Z) ∧ ((pCn t z (txt i ++ [32]) a).1 = false → Ev X (d + 7) kX8_readClause 4 [some (.ref p), none, none] [.int c1] (K, I, R) (some (.int 0), (K, I', R))) := by
  have hne : ∀ c ∈ txt i, c ≠ -1 := by rcases hi4 with rfl | rfl | rfl | rfl <;> decide
  obtain ⟨J1, e1, e2, e3⟩ := c_takeWord (X := X) (d := d + 2) hK h hz ha hi4
  have hpw := pW_ok (t := t) (z := z) (txt i) a hne ha
  obtain ⟨k0, k1, k2, k3, r3, r4, r5, r7, kt'⟩ := id hK
  have go : ∀ {Z : Option Value × Hp}, Ev X (d + 7) kX8_readClause 13 [some (.ref p), some (.int c1), none] [.int (bI (pW t z (txt i) a).1)] (K, J1, R) Z → Ev X (d + 7) kX8_readClause 4 [some (.ref p), none, none] [.int c1] (K, I, R) Z := by
    intro Z g
    (repeat refine Ev.p rfl rfl ?_)
    refine Ev.c rfl (hw I) ?_
    refine Ev.cv (by rfl) (by rfl) k0 (by rfl) (by rfl) (by rfl) (by rfl) (by rfl) e1 ?_
    (repeat (first | (refine Ev.at (q := 13) rfl ?_; exact g) | refine Ev.p rfl rfl ?_))
  unfold pCn
  rw [pW_app]
  rcases hr : pW t z (txt i) a with ⟨ok, b⟩
  rw [hr] at e2 hpw go
  cases ok with
  | false => exact ⟨J1, e2, e3, fun Z h => ff h, fun _ => go (by ((repeat refine Ev.p rfl rfl ?_); exact Ev.r rfl))⟩
  | true =>
    dsimp only at e2 hpw ⊢
    obtain ⟨t1, t2⟩ := c_take (X := X) (d := d + 5) hK e2 hz hpw.2.1 32
    by_cases h32 : pk t z b = 32
    · rw [if_pos h32]
      have t1 := t1 h32
      have hlt := pq_lt h32 (by decide)
      obtain ⟨J2, hJ2⟩ : ∃ J2, J2 = upI J1 p 9 (nI (b + 1)) := ⟨_, rfl⟩
      rw [← hJ2] at t1
      have q2 : CP J2 t z p tp (b + 1) C := by rw [hJ2]; exact e2.mv hK rfl
      have f2 : FK p I J2 := by rw [hJ2]; exact e3.a _
      obtain ⟨J3, x, n1, n2, n3⟩ := c_readNumber (X := X) (d := d + 5) hK q2 hz hlt
      have go2 : ∀ {Z : Option Value × Hp}, Ev X (d + 7) kX8_readClause 31 [some (.ref p), some (.int c1), none] [.int x] (K, J3, R) Z → Ev X (d + 7) kX8_readClause 4 [some (.ref p), none, none] [.int c1] (K, I, R) Z := by
        intro Z g
        refine go ?_
        (repeat refine Ev.p rfl rfl ?_)
        refine Ev.cv (by rfl) (by rfl) (by assumption) (by rfl) (by rfl) (by rfl) (by rfl) (by rfl) t1 ?_
        (repeat refine Ev.p rfl rfl ?_)
        refine Ev.cv (by rfl) (by rfl) (by assumption) (by rfl) (by rfl) (by rfl) (by rfl) (by rfl) n1 ?_
        (repeat (first | (refine Ev.at (q := 31) rfl ?_; exact g) | refine Ev.p rfl rfl ?_))
      dsimp only
      cases hn : pN t z (b + 1) with
      | none =>
        rw [hn] at n2
        obtain ⟨rfl, n4⟩ := n2
        exact ⟨J3, n4, f2.tr n3, fun Z h => ff h, fun _ => go2 (by ((repeat refine Ev.p rfl rfl ?_); exact Ev.r rfl))⟩
      | some v =>
        obtain ⟨n, b'⟩ := v
        rw [hn] at n2
        obtain ⟨rfl, n4⟩ := n2
        have hnb := pN_ok hn
        refine ⟨J3, n4, f2.tr n3, fun Z _ g => go2 ?_, fun h => ft h⟩
        (repeat refine Ev.p rfl rfl ?_)
        refine Ev.bp rfl (fun c => ?_) (fun c => absurd (nI_pos' (by omega)) c)
        (repeat (first | (refine Ev.at (q := 38) rfl ?_; exact g) | refine Ev.p rfl rfl ?_))
    · rw [if_neg h32]
      have t2 := t2 h32
      refine ⟨J1, e2, e3, fun Z h => ff h, fun _ => go ?_⟩
      (repeat refine Ev.p rfl rfl ?_)
      refine Ev.cv (by rfl) (by rfl) (by assumption) (by rfl) (by rfl) (by rfl) (by rfl) (by rfl) t2 ?_
      ((repeat refine Ev.p rfl rfl ?_); exact Ev.r rfl)
theorem wf_def (h : Hp) {x : Int32} (h1 : x ≠ 100) (h2 : x ≠ 102) (h3 : x ≠ 119) (h4 : x ≠ 99) : Ev X d kX8_wordFrom 0 (ent kX8_wordFrom [.int x]) [] h (some (.retAddr 4), h) := by
  iterate 1 refine Ev.p rfl rfl ?_
  refine Ev.p (pc' := 56) (ls' := ent kX8_wordFrom [.int x]) (st' := []) (h' := h) rfl ?_ ?_
  · show (some (lkt 55 #[(99, 52), (100, 43), (102, 46), (119, 49)] 1 x.toInt, ent kX8_wordFrom [.int x], [], h) : Option St) = _
    rw [lkt_def h4 h1 h2 h3]
    rfl
  ((repeat refine Ev.p rfl rfl ?_); exact Ev.r rfl)
theorem c_much (hK : CKs K R p tp) (hz : z ≤ 100) (ha : a ≤ z) (ht : tOK t z) (hR : RCc I t z p tp a st) (hs : stI a st) (hc10 : st.2.2.length < 10) {i : Nat} {w : Bool} {c1 : Int32} (hi : (i = 2 ∧ w = true ∧ c1 = 119) ∨ (i = 3 ∧ w = false ∧ c1 = 99)) (hw : ∀ J : Nat → Nat → Int32, Ev X (d + 26) kX8_wordFrom 0 (ent kX8_wordFrom [.int c1]) [] (K, J, R) (some (.retAddr i), (K, J, R))) : ∃ I', Ev X (d + 27) kX8_readClause 4 [some (.ref p), none, none] [.int c1] (K, I, R) (some (.int (bI (pCm t z w (txt i ++ [32]) a st).1)), (K, I', R)) ∧ RDc I' t z p tp (pCm t z w (txt i ++ [32]) a st) ∧ FD p I I' := by
  have hne : ∀ c ∈ txt i ++ [32], c ≠ -1 := by rcases hi with ⟨rfl, -, -⟩ | ⟨rfl, -, -⟩ <;> decide
  have hlen : (txt i ++ [32]).length = 5 := by rcases hi with ⟨rfl, -, -⟩ | ⟨rfl, -, -⟩ <;> rfl
  obtain ⟨J1, e1, e2, e3, e4⟩ := c_head (X := X) (d := d + 20) hK hR.1 hz ha (i := i) (by omega) hw
  have hok := pCn_ok (t := t) (z := z) (l := txt i ++ [32]) (a := a) hne ha
  obtain ⟨k0, k1, k2, k3, r3, r4, r5, r7, kt'⟩ := id hK
  unfold pCm
  rcases hr : pCn t z (txt i ++ [32]) a with ⟨ok, b, n⟩
  rw [hr] at e1 e3 e4 hok
  cases ok with
  | false => exact ⟨J1, e4 rfl, ⟨_, e1⟩, e2.d⟩
  | true =>
    dsimp only at e1 e3 hok ⊢
    obtain ⟨hb1, hb2⟩ := hok.2.2 rfl
    obtain ⟨t1, t2⟩ := c_take (X := X) (d := d + 25) hK e1 hz hok.2.1 32
    -- on from where the number is known
    have go : ∀ {Z : Option Value × Hp}, Ev X (d + 27) kX8_readClause 64 [some (.ref p), some (.int c1), some (.int (nI n))] [] (K, J1, R) Z → Ev X (d + 27) kX8_readClause 4 [some (.ref p), none, none] [.int c1] (K, I, R) Z := by
      intro Z g
      refine e3 Z rfl ?_
      rcases hi with ⟨-, -, rfl⟩ | ⟨-, -, rfl⟩
      · (repeat (first | (refine Ev.at (q := 64) rfl ?_; exact g) | refine Ev.p rfl rfl ?_))
      · (repeat (first | (refine Ev.at (q := 64) rfl ?_; exact g) | refine Ev.p rfl rfl ?_))
    by_cases h32 : pk t z b = 32
    · rw [if_pos h32]
      have t1 := t1 h32
      have hlt := pq_lt h32 (by decide)
      obtain ⟨J2, hJ2⟩ : ∃ J2, J2 = upI J1 p 9 (nI (b + 1)) := ⟨_, rfl⟩
      rw [← hJ2] at t1
      have q2 : CP J2 t z p tp (b + 1) (tks st.2.2) := by rw [hJ2]; exact e1.mv hK rfl
      have f2 : FK p I J2 := by rw [hJ2]; exact e2.a _
      have htk : (tks st.2.2).length ≤ b + 1 := by
        have h1 := hs.2.2.2.1
        have h2 : ∀ cls : Cls, (tks cls).length ≤ (clsR cls).length := by
          intro cls
          induction cls with
          | nil => exact Nat.le_refl _
          | cons q r ih =>
            show (q.2.2 ++ tks r).length ≤ (clR q ++ clsR r).length
            rw [List.length_append, List.length_append, clR_len]
            omega
        have := h2 st.2.2
        omega
      obtain ⟨J3, l1, l2, l3⟩ := (c_pp (X := X) (d := d) hK hz ht 600).2.2.2.1 0 5 (b + 1) _ J2 (by omega) (by omega) hlt htk q2
      have l1 := l1.dp (d' := d + 26) (by omega)
      have hp := pp_ok (t := t) (z := z) 600 3 0 (b + 1) [] (fun _ => rfl) hlt
      rcases hq : pp t z 600 3 0 (b + 1) [] with ⟨ok, b2, ts⟩
      rw [hq] at l1 l2 hp
      have go3 : ∀ {Z : Option Value × Hp}, Ev X (d + 27) kX8_readClause 78 [some (.ref p), some (.int c1), some (.int (nI n))] [.int (bI ok)] (K, J3, R) Z → Ev X (d + 27) kX8_readClause 4 [some (.ref p), none, none] [.int c1] (K, I, R) Z := by
        intro Z g
        refine go ?_
        (repeat refine Ev.p rfl rfl ?_)
        refine Ev.cv (by rfl) (by rfl) (by assumption) (by rfl) (by rfl) (by rfl) (by rfl) (by rfl) t1 ?_
        (repeat refine Ev.p rfl rfl ?_)
        refine Ev.cv (by rfl) (by rfl) (by assumption) (by rfl) (by rfl) (by rfl) (by rfl) (by rfl) l1 ?_
        (repeat (first | (refine Ev.at (q := 78) rfl ?_; exact g) | refine Ev.p rfl rfl ?_))
      cases ok with
      | false =>
        obtain ⟨C', l2⟩ := l2
        refine ⟨J3, go3 ?_, ⟨C', l2⟩, (f2.tr l3).d⟩
        ((repeat refine Ev.p rfl rfl ?_); exact Ev.r rfl)
      | true =>
        have l2 : CP J3 t z p tp b2 (tks st.2.2 ++ ts) := l2
        have hp2 := hp.2.2 rfl
        simp only [List.length_nil] at hp2
        dsimp only at hp hp2
        have fk := f2.tr l3
        obtain ⟨s0, s1, s2, s3⟩ := hR.fk fk
        obtain ⟨J4, hJ4⟩ : ∃ J4, J4 = upI J3 (p + 1) st.2.2.length (if w = true then nI n else -nI n) := ⟨_, rfl⟩
        obtain ⟨J5, hJ5⟩ : ∃ J5, J5 = upI J4 (p + 2) st.2.2.length (nI (tks st.2.2 ++ ts).length) := ⟨_, rfl⟩
        obtain ⟨J6, hJ6⟩ : ∃ J6, J6 = upI J5 p 2 (nI st.2.2.length + 1) := ⟨_, rfl⟩
        have j5p : ∀ j, J5 p j = J3 p j := fun j => by rw [hJ5, upI_ne (by omega), hJ4, upI_ne (by omega)]
        have j4p : ∀ j, J4 p j = J3 p j := fun j => by rw [hJ4, upI_ne (by omega)]
        have ntp := hK.ne
        obtain ⟨c1', c2', c3', c4', c5'⟩ := l2
        refine ⟨J6, go3 ?_, ⟨⟨?_, ?_, ?_, fun j hj => ?_, fun j x hx => ?_⟩, ?_, ?_, ?_, ?_⟩, fun c n0 n1 n2 n3 => ?_⟩
        · have m2 : J3 p 2 = nI st.2.2.length := s2
          have m6 : J4 p 6 = nI (tks st.2.2 ++ ts).length := (j4p 6).trans c3'
          have m42 : J4 p 2 = nI st.2.2.length := (j4p 2).trans s2
          have m52 : J5 p 2 = nI st.2.2.length := (j5p 2).trans s2
          (repeat (first | refine Ev.p rfl rfl ?_ | refine Ev.gr (by rfl) (by rfl) (by assumption) (by rfl) (by assumption) ?_ | refine Ev.gi (by rfl) (by rfl) (by assumption) (by rfl) (by assumption) ?_))
          refine Ev.bp rfl (fun c => ?_) (fun c => absurd (nI_lt (b := 10) hc10 (by omega)) c)
          have tail : Ev X (d + 27) kX8_readClause 112 [some (.ref p), some (.int c1), some (.int (nI n))] [.int (if w = true then nI n else -nI n), .int (nI st.2.2.length), .ref (p + 1)] (K, J3, R) (some (.int 1), (K, J6, R)) := by
            refine Ev.iast (j := st.2.2.length) (by rfl) (by assumption) (by rfl) (by omega) (by omega) ?_
            rw [← hJ4]
            (repeat (first | refine Ev.p rfl rfl ?_ | refine Ev.gr (by rfl) (by rfl) (by assumption) (by rfl) (by assumption) ?_ | refine Ev.gi (by rfl) (by rfl) (by assumption) (by rfl) (by assumption) ?_))
            refine Ev.iast (j := st.2.2.length) (by rfl) (by assumption) (by rfl) (by omega) (by omega) ?_
            rw [← hJ5]
            (repeat (first | refine Ev.p rfl rfl ?_ | refine Ev.gr (by rfl) (by rfl) (by assumption) (by rfl) (by assumption) ?_ | refine Ev.gi (by rfl) (by rfl) (by assumption) (by rfl) (by assumption) ?_))
            refine Ev.pi (by rfl) (by rfl) (by assumption) (by rfl) ?_
            rw [← hJ6]
            ((repeat refine Ev.p rfl rfl ?_); exact Ev.r rfl)
          rcases hi with ⟨-, rfl, rfl⟩ | ⟨-, rfl, rfl⟩
          · rw [if_pos rfl] at tail
            (repeat (first | refine Ev.p rfl rfl ?_ | refine Ev.gr (by rfl) (by rfl) (by assumption) (by rfl) (by assumption) ?_ | refine Ev.gi (by rfl) (by rfl) (by assumption) (by rfl) (by assumption) ?_))
            (repeat (first | (refine Ev.at (q := 112) rfl ?_; exact tail) | refine Ev.p rfl rfl ?_))
          · rw [if_neg (show ¬ (false : Bool) = true by decide)] at tail
            (repeat (first | refine Ev.p rfl rfl ?_ | refine Ev.gr (by rfl) (by rfl) (by assumption) (by rfl) (by assumption) ?_ | refine Ev.gi (by rfl) (by rfl) (by assumption) (by rfl) (by assumption) ?_))
            (repeat (first | (refine Ev.at (q := 112) rfl ?_; exact tail) | refine Ev.p rfl rfl ?_))
        · rw [hJ6, upI_eq, upd_ne (by omega), j5p]; exact c1'
        · rw [hJ6, upI_eq, upd_ne (by omega), j5p]; exact c2'
        · rw [hJ6, upI_eq, upd_ne (by omega), j5p, c3']
          show _ = nI (tks (st.2.2 ++ [(n, w, ts)])).length
          rw [tks_app]
          show _ = nI (tks st.2.2 ++ (ts ++ [])).length
          rw [List.append_nil]
        · rw [hJ6, upI_ne ntp.1, hJ5, upI_ne ntp.2.2.2, hJ4, upI_ne ntp.2.2.1]; exact c4' j hj
        · rw [hJ6, upI_ne (by omega), hJ5, upI_ne (by omega), hJ4, upI_ne (by omega)]
          refine c5' j x ?_
          have hx : (tks (st.2.2 ++ [(n, w, ts)]))[j]? = some x := hx
          rw [tks_app, show tks [(n, w, ts)] = ts ++ [] from rfl, List.append_nil] at hx
          exact hx
        · rw [hJ6, upI_eq, upd_ne (by omega), j5p]; exact s0
        · rw [hJ6, upI_eq, upd_ne (by omega), j5p]; exact s1
        · rw [hJ6, upI_eq, upd_at, nI_1]
          show _ = nI (st.2.2 ++ [(n, w, ts)]).length
          rw [List.length_append]; rfl
        · refine s3.snoc (fun j hj => ⟨?_, ?_⟩) ?_ ?_
          · rw [hJ6, upI_ne (by omega), hJ5, upI_ne (by omega), hJ4, upI_eq, upd_ne (by omega)]
          · rw [hJ6, upI_ne (by omega), hJ5, upI_eq, upd_ne (by omega), hJ4, upI_ne (by omega)]
          · rw [hJ6, upI_ne (by omega), hJ5, upI_ne (by omega), hJ4, upI_eq, upd_at]
          · rw [hJ6, upI_ne (by omega), hJ5, upI_eq, upd_at, List.length_append]
        · rw [hJ6, upI_ne n0, hJ5, upI_ne n2, hJ4, upI_ne n1]
          exact fk.1 c n0 n3
    · rw [if_neg h32]
      have t2 := t2 h32
      refine ⟨J1, go ?_, ⟨_, e1⟩, e2.d⟩
      (repeat refine Ev.p rfl rfl ?_)
      refine Ev.cv (by rfl) (by rfl) (by assumption) (by rfl) (by rfl) (by rfl) (by rfl) (by rfl) t2 ?_
      ((repeat refine Ev.p rfl rfl ?_); exact Ev.r rfl)
theorem c_readClause (hK : CKs K R p tp) (hz : z ≤ 100) (ha : a ≤ z) (ht : tOK t z) (hR : RCc I t z p tp a st) (hs : stI a st) (hc10 : st.2.2.length < 10) : ∃ I', Ev X (d + 27) kX8_readClause 0 (ent kX8_readClause [.ref p]) [] (K, I, R) (some (.int (bI (pC t z a st).1)), (K, I', R)) ∧ RDc I' t z p tp (pC t z a st) ∧ FD p I I' := by
  have hpk := c_peek (X := X) (d := d + 26) hK hR.1 hz ha
  obtain ⟨k0, k1, k2, k3, r3, r4, r5, r7, kt'⟩ := id hK
  have ntp := hK.ne
  have go : ∀ {Z : Option Value × Hp}, Ev X (d + 27) kX8_readClause 4 [some (.ref p), none, none] [.int (pk t z a)] (K, I, R) Z → Ev X (d + 27) kX8_readClause 0 (ent kX8_readClause [.ref p]) [] (K, I, R) Z := by
    intro Z g
    (repeat refine Ev.p rfl rfl ?_)
    refine Ev.cv (by rfl) (by rfl) (by assumption) (by rfl) (by rfl) (by rfl) (by rfl) (by rfl) hpk ?_
    (repeat (first | (refine Ev.at (q := 4) rfl ?_; exact g) | refine Ev.p rfl rfl ?_))
  have w0 : ∀ J : Nat → Nat → Int32, Ev X (d + 26) kX8_wordFrom 0 (ent kX8_wordFrom [.int 100]) [] (K, J, R) (some (.retAddr 0), (K, J, R)) := fun J => by ((repeat refine Ev.p rfl rfl ?_); exact Ev.r rfl)
  have w1 : ∀ J : Nat → Nat → Int32, Ev X (d + 26) kX8_wordFrom 0 (ent kX8_wordFrom [.int 102]) [] (K, J, R) (some (.retAddr 1), (K, J, R)) := fun J => by ((repeat refine Ev.p rfl rfl ?_); exact Ev.r rfl)
  have w2 : ∀ J : Nat → Nat → Int32, Ev X (d + 26) kX8_wordFrom 0 (ent kX8_wordFrom [.int 119]) [] (K, J, R) (some (.retAddr 2), (K, J, R)) := fun J => by ((repeat refine Ev.p rfl rfl ?_); exact Ev.r rfl)
  have w3 : ∀ J : Nat → Nat → Int32, Ev X (d + 26) kX8_wordFrom 0 (ent kX8_wordFrom [.int 99]) [] (K, J, R) (some (.retAddr 3), (K, J, R)) := fun J => by ((repeat refine Ev.p rfl rfl ?_); exact Ev.r rfl)
  -- due, fade
  have put : ∀ {J : Nat → Nat → Int32} {b j y : Nat}, CP J t z p tp b (tks st.2.2) → FK p I J → j < 2 → CP (upI J p j (nI y)) t z p tp b (tks st.2.2) ∧ (∀ i, i ≠ j → i < 3 → upI J p j (nI y) p i = I p i) ∧ ACl (upI J p j (nI y)) p st.2.2 ∧ FD p I (upI J p j (nI y)) := by
    intro J b j y h hf hj
    obtain ⟨c1', c2', c3', c4', c5'⟩ := h
    refine ⟨⟨by rw [upI_eq, upd_ne (by omega)]; exact c1', by rw [upI_eq, upd_ne (by omega)]; exact c2', by rw [upI_eq, upd_ne (by omega)]; exact c3', by rw [upI_ne ntp.1]; exact c4', by rw [upI_ne (by omega)]; exact c5'⟩, fun i h1 h2 => by rw [upI_eq, upd_ne h1]; exact hf.2 i (by omega) (by omega), ?_, fun c n0 n1 n2 n3 => by rw [upI_ne n0]; exact hf.1 c n0 n3⟩
    have := (hR.fk hf).2.2.2
    unfold ACl at this ⊢
    rw [upI_ne (by omega), upI_ne (by omega)]
    exact this
  unfold pC
  by_cases h1 : pk t z a = 100
  · rw [if_pos h1]
    rw [h1] at go
    obtain ⟨J1, e1, e2, e3, e4⟩ := c_head (X := X) (d := d + 20) hK hR.1 hz ha (i := 0) (Or.inl rfl) w0
    rw [show txt 0 ++ [32] = [100, 117, 101, 32] from rfl] at e1 e3 e4
    rcases hr : pCn t z [100, 117, 101, 32] a with ⟨ok, b, n⟩
    rw [hr] at e1 e3 e4
    cases ok with
    | false => exact ⟨J1, go (e4 rfl), ⟨_, e1⟩, e2.d⟩
    | true =>
      obtain ⟨p1, p2, p3, p4⟩ := put (j := 0) (y := n) e1 e2 (by omega)
      refine ⟨upI J1 p 0 (nI n), go (e3 _ rfl ?_), ⟨p1, by rw [upI_eq, upd_at], by rw [p2 1 (by omega) (by omega)]; exact hR.2.2.1, by rw [p2 2 (by omega) (by omega)]; exact hR.2.2.2.1, p3⟩, p4⟩
      (repeat (first | refine Ev.p rfl rfl ?_ | refine Ev.gr (by rfl) (by rfl) (by assumption) (by rfl) (by assumption) ?_ | refine Ev.gi (by rfl) (by rfl) (by assumption) (by rfl) (by assumption) ?_))
      refine Ev.pi (by rfl) (by rfl) (by assumption) (by rfl) ?_
      ((repeat refine Ev.p rfl rfl ?_); exact Ev.r rfl)
  · rw [if_neg h1]
    by_cases h2 : pk t z a = 102
    · rw [if_pos h2]
      rw [h2] at go
      obtain ⟨J1, e1, e2, e3, e4⟩ := c_head (X := X) (d := d + 20) hK hR.1 hz ha (i := 1) (Or.inr (Or.inl rfl)) w1
      rw [show txt 1 ++ [32] = [102, 97, 100, 101, 32] from rfl] at e1 e3 e4
      rcases hr : pCn t z [102, 97, 100, 101, 32] a with ⟨ok, b, n⟩
      rw [hr] at e1 e3 e4
      cases ok with
      | false => exact ⟨J1, go (e4 rfl), ⟨_, e1⟩, e2.d⟩
      | true =>
        obtain ⟨p1, p2, p3, p4⟩ := put (j := 1) (y := n) e1 e2 (by omega)
        refine ⟨upI J1 p 1 (nI n), go (e3 _ rfl ?_), ⟨p1, by rw [p2 0 (by omega) (by omega)]; exact hR.2.1, by rw [upI_eq, upd_at], by rw [p2 2 (by omega) (by omega)]; exact hR.2.2.2.1, p3⟩, p4⟩
        (repeat (first | refine Ev.p rfl rfl ?_ | refine Ev.gr (by rfl) (by rfl) (by assumption) (by rfl) (by assumption) ?_ | refine Ev.gi (by rfl) (by rfl) (by assumption) (by rfl) (by assumption) ?_))
        refine Ev.pi (by rfl) (by rfl) (by assumption) (by rfl) ?_
        ((repeat refine Ev.p rfl rfl ?_); exact Ev.r rfl)
    · rw [if_neg h2]
      by_cases h3 : pk t z a = 119
      · rw [if_pos h3]
        rw [h3] at go
        obtain ⟨I', g1, g2⟩ := c_much (X := X) (d := d) hK hz ha ht hR hs hc10 (i := 2) (w := true) (c1 := 119) (Or.inl ⟨rfl, rfl, rfl⟩) w2
        exact ⟨I', go g1, g2⟩
      · rw [if_neg h3]
        by_cases h4 : pk t z a = 99
        · rw [if_pos h4]
          rw [h4] at go
          obtain ⟨I', g1, g2⟩ := c_much (X := X) (d := d) hK hz ha ht hR hs hc10 (i := 3) (w := false) (c1 := 99) (Or.inr ⟨rfl, rfl, rfl⟩) w3
          exact ⟨I', go g1, g2⟩
        · rw [if_neg h4]
          have hwd := wf_def (X := X) (d := d + 26) (K, I, R) h1 h2 h3 h4
          have hl := j_length (X := X) (d := d + 24) (i := 4) (by omega) (K, I, R)
          have he := j_isEmpty (X := X) (d := d + 25) (i := 4) (by omega) (K, I, R)
          have htw : Ev X (d + 26) kX8_takeWord 0 (ent kX8_takeWord [.ref p, .retAddr 4]) [] (K, I, R) (some (.int 0), (K, I, R)) := by
            (repeat refine Ev.p rfl rfl ?_)
            refine Ev.c rfl hl ?_
            (repeat refine Ev.p rfl rfl ?_)
            refine Ev.c rfl he ?_
            ((repeat refine Ev.p rfl rfl ?_); exact Ev.r rfl)
          refine ⟨I, go ?_, ⟨_, hR.1⟩, FD.rf p I⟩
          (repeat refine Ev.p rfl rfl ?_)
          refine Ev.c rfl hwd ?_
          refine Ev.cv (by rfl) (by rfl) k0 (by rfl) (by rfl) (by rfl) (by rfl) (by rfl) htw ?_
          ((repeat refine Ev.p rfl rfl ?_); exact Ev.r rfl)
end CREAD3
