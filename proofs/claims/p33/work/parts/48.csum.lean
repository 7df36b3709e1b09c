/-! THE CLASS: a station's clauses, SUM -/
theorem nI_or (a b : Nat) : nI a ||| nI b = nI (a ||| b) := by
  apply Int32.toBitVec_inj.mp
  show BitVec.ofNat 32 a ||| BitVec.ofNat 32 b = BitVec.ofNat 32 (a ||| b)
  simp
theorem nI_xor (a b : Nat) : nI a ^^^ nI b = nI (a ^^^ b) := by
  apply Int32.toBitVec_inj.mp
  show BitVec.ofNat 32 a ^^^ BitVec.ofNat 32 b = BitVec.ofNat 32 (a ^^^ b)
  simp
theorem nI_and (a b : Nat) : nI a &&& nI b = nI (a &&& b) := by
  apply Int32.toBitVec_inj.mp
  show BitVec.ofNat 32 a &&& BitVec.ofNat 32 b = BitVec.ofNat 32 (a &&& b)
  simp
def b2 (b : Bool) : Nat := if b = true then 1 else 0
theorem tb_0 (y : Nat) (b : Bool) : (2 * y + b2 b).testBit 0 = b := by
  rw [Nat.testBit_zero]
  cases b <;> simp [b2] <;> omega
theorem tb_s (y : Nat) (b : Bool) (i : Nat) : (2 * y + b2 b).testBit (i + 1) = y.testBit i := by
  rw [Nat.testBit_succ]
  congr 1
  cases b <;> simp [b2] <;> omega
theorem b_xor (y : Nat) (b : Bool) : (2 * y + b2 b) ^^^ 1 = 2 * y + b2 (!b) := by
  apply Nat.eq_of_testBit_eq
  intro i
  rw [Nat.testBit_xor, show (1 : Nat) = 2 * 0 + b2 true from rfl]
  cases i with
  | zero => rw [tb_0, tb_0, tb_0]; cases b <;> rfl
  | succ i => rw [tb_s, tb_s, tb_s]; simp
theorem b_or (y : Nat) (a b : Bool) : (2 * y + b2 a) ||| b2 b = 2 * y + b2 (a || b) := by
  apply Nat.eq_of_testBit_eq
  intro i
  rw [Nat.testBit_or, show b2 b = 2 * 0 + b2 b from by omega]
  cases i with
  | zero => rw [tb_0, tb_0, tb_0]
  | succ i => rw [tb_s, tb_s, tb_s]; simp
theorem b_and (y k : Nat) (a b : Bool) (h : 2 * y + b2 a < 2 ^ 31) : (2 * y + b2 a) &&& ((2 * k + b2 b) ||| 4294967294) = 2 * y + b2 (a && b) := by
  apply Nat.eq_of_testBit_eq
  intro i
  rw [Nat.testBit_and, Nat.testBit_or, show 4294967294 = 2 * (2 ^ 31 - 1) + b2 false from rfl]
  cases i with
  | zero => rw [tb_0, tb_0, tb_0, tb_0]; cases a <;> cases b <;> rfl
  | succ i =>
    rw [tb_s, tb_s, tb_s, tb_s, Nat.testBit_two_pow_sub_one]
    by_cases hi : i < 31
    · simp [hi]
    · have : y.testBit i = false := Nat.testBit_lt_two_pow (Nat.lt_of_lt_of_le (by omega : y < 2 ^ 31) (Nat.pow_le_pow_right (by omega) (by omega)))
      rw [this]; rfl
/-- a stack of truths as bits, the newest one the lowest -/
def bN : List Bool → Nat
  | [] => 0
  | b :: r => 2 * bN r + b2 b
theorem bN_lt : ∀ st : List Bool, bN st < 2 ^ st.length := by
  intro st
  induction st with
  | nil => show (0 : Nat) < 1; omega
  | cons b r ih =>
    show 2 * bN r + b2 b < 2 ^ (r.length + 1)
    rw [Nat.pow_succ]
    have : b2 b ≤ 1 := by cases b <;> simp [b2]
    omega
theorem bI_b2 (b : Bool) : bI b = nI (b2 b) := by cases b <;> rfl
theorem x_not (b : Bool) (r : List Bool) : nI (bN (b :: r)) ^^^ 1 = nI (bN ((!b) :: r)) := by
  rw [show (1 : Int32) = nI 1 from rfl, nI_xor]
  show nI ((2 * bN r + b2 b) ^^^ 1) = _
  rw [b_xor]
  rfl
theorem p2_l {st : List Bool} (h : st.length ≤ 21) : bN st < 2 ^ 21 := Nat.lt_of_lt_of_le (bN_lt st) (Nat.pow_le_pow_right (by omega) h)
theorem x_shr {st : List Bool} (h : st.length ≤ 21) : nI (bN st) >>> ((1 : Int32) &&& 31) = nI (bN st / 2) := by
  have := p2_l h
  exact pk_shrN (by omega) _ 1 (by decide)
theorem x_and {b a : Bool} {r : List Bool} (h : r.length ≤ 19) : (nI (bN (b :: a :: r)) >>> ((1 : Int32) &&& 31)) &&& (nI (bN (b :: a :: r)) ||| (-2)) = nI (bN ((a && b) :: r)) := by
  have h1 := p2_l (st := a :: r) (by simp; omega)
  rw [x_shr (by simp; omega), show (-2 : Int32) = nI 4294967294 from by decide, nI_or, nI_and]
  have e : bN (b :: a :: r) / 2 = bN (a :: r) := by
    show (2 * bN (a :: r) + b2 b) / 2 = _
    cases b <;> simp [b2] <;> omega
  rw [e]
  show nI ((2 * bN r + b2 a) &&& ((2 * bN (a :: r) + b2 b) ||| 4294967294)) = _
  rw [b_and _ _ _ _ (show 2 * bN r + b2 a < 2 ^ 31 from Nat.lt_of_lt_of_le h1 (by decide))]
  rfl
theorem x_or {b a : Bool} {r : List Bool} (h : r.length ≤ 19) : (nI (bN (b :: a :: r)) >>> ((1 : Int32) &&& 31)) ||| (nI (bN (b :: a :: r)) &&& 1) = nI (bN ((a || b) :: r)) := by
  have h2 := p2_l (st := b :: a :: r) (by simp; omega)
  rw [x_shr (by simp; omega), pk_andN (by omega) (m := 1) 1 (by decide), nI_or]
  have e : bN (b :: a :: r) / 2 = bN (a :: r) ∧ bN (b :: a :: r) % 2 ^ 1 = b2 b := by
    show (2 * bN (a :: r) + b2 b) / 2 = _ ∧ (2 * bN (a :: r) + b2 b) % 2 = _
    cases b <;> simp [b2] <;> omega
  rw [e.1, e.2]
  show nI ((2 * bN r + b2 a) ||| b2 b) = _
  rw [b_or]
  rfl
theorem x_push {st : List Bool} (h : st.length ≤ 20) (b : Bool) : (nI (bN st) <<< ((1 : Int32) &&& 31)) ||| bI b = nI (bN (b :: st)) := by
  have := p2_l (st := st) (by omega)
  rw [pk_shlN _ 1 (by decide) (by omega), bI_b2, nI_or]
  show nI ((bN st * 2) ||| b2 b) = nI (2 * bN st + b2 b)
  have := b_or (bN st) false b
  rw [show 2 * bN st + b2 false = bN st * 2 from by simp [b2]; omega, show (false || b) = b from rfl] at this
  rw [this]
theorem x_low (b : Bool) : nI (bN [b]) &&& 1 = bI b := by cases b <;> decide
def tokC (t : Nat) : Int32 := match t with
  | 0 => -1
  | 1 => -2
  | 2 => -3
  | u + 3 => (nI (u % 8) <<< ((16 : Int32) &&& 31)) ||| (nI (u / 8 % 4) <<< ((8 : Int32) &&& 31)) ||| nI (u / 32)
theorem tokC_o1 : ∀ m, m < 100 → ∀ k, k < 32 → tokC (32 * m + k + 3) ≠ -1 ∧ tokC (32 * m + k + 3) ≠ -2 ∧ tokC (32 * m + k + 3) ≠ -3 ∧ tokC (32 * m + k + 3) >>> ((16 : Int32) &&& 31) = nI ((32 * m + k) % 8) ∧ (tokC (32 * m + k + 3) >>> ((8 : Int32) &&& 31)) &&& 255 = nI ((32 * m + k) / 8 % 4) ∧ tokC (32 * m + k + 3) &&& 255 = nI ((32 * m + k) / 32) := by decide +kernel
theorem tokC_ok (u : Nat) (hu : u < 3200) : tokC (u + 3) ≠ -1 ∧ tokC (u + 3) ≠ -2 ∧ tokC (u + 3) ≠ -3 ∧ tokC (u + 3) >>> ((16 : Int32) &&& 31) = nI (u % 8) ∧ (tokC (u + 3) >>> ((8 : Int32) &&& 31)) &&& 255 = nI (u / 8 % 4) ∧ tokC (u + 3) &&& 255 = nI (u / 32) := by
  have h := tokC_o1 (u / 32) (by omega) (u % 32) (by omega)
  rw [show 32 * (u / 32) + u % 32 = u by omega] at h
  exact h
/-- all the tokens of clauses -/
def tks : Cls → List Nat
  | [] => []
  | q :: r => q.2.2 ++ tks r
theorem tks_app (a b : Cls) : tks (a ++ b) = tks a ++ tks b := by
  induction a with
  | nil => rfl
  | cons q a ih => show q.2.2 ++ tks (a ++ b) = (q.2.2 ++ tks a) ++ tks b; rw [ih, List.append_assoc]
/-- the station at q holds the clauses cls -/
def stC (K : List (Nat × Nat)) (I : Nat → Nat → Int32) (R : Nat → Nat → Option Nat) (q : Nat) (fd : Int32) (cls : Cls) : Prop := K[q]? = some (8, 10) ∧ K[q + 1]? = some (20, 10) ∧ K[q + 2]? = some (20, 10) ∧ K[q + 3]? = some (20, 100) ∧ R q 3 = some (q + 1) ∧ R q 4 = some (q + 2) ∧ R q 5 = some (q + 3) ∧ I q 1 = fd ∧ I q 2 = nI cls.length ∧ cls.length ≤ 10 ∧ clOK cls ∧ (tks cls).length ≤ 100 ∧
  (∀ (pre rest : Cls) (n : Nat) (w : Bool) (ts : List Nat), cls = pre ++ (n, w, ts) :: rest → I (q + 1) pre.length = (if w = true then nI n else -nI n) ∧ I (q + 2) pre.length = nI ((tks pre).length + ts.length)) ∧
  (∀ (j t : Nat), (tks cls)[j]? = some t → I (q + 3) j = tokC t)
theorem stC.fr {K : List (Nat × Nat)} {I I' : Nat → Nat → Int32} {R : Nat → Nat → Option Nat} {q : Nat} {fd : Int32} {cls : Cls} (h : stC K I R q fd cls) (h0 : I' q = I q) (h1 : I' (q + 1) = I (q + 1)) (h2 : I' (q + 2) = I (q + 2)) (h3 : I' (q + 3) = I (q + 3)) : stC K I' R q fd cls := by
  unfold stC at h ⊢
  rw [h0, h1, h2, h3]
  exact h
section CSUM
variable {X : Nat × (Nat → Int32)} {d : Nat} {K : List (Nat × Nat)} {I : Nat → Nat → Int32} {R : Nat → Nat → Option Nat} {s : Nat → Int32} {n p v q w : Nat} {fd : Int32} {cls : Cls}
theorem c_passes (h : Hp) {o : Nat} (ho : o < 3) (x y : Int32) : Ev X d kX8_passes 0 (ent kX8_passes [.int x, .int (nI o), .int y]) [] h (some (.int (bI (if o = 0 then decide (x < y) else if o = 1 then decide (x = y) else decide (y < x)))), h) := by
  rcases (by omega : o = 0 ∨ o = 1 ∨ o = 2) with rfl | rfl | rfl
  · (repeat refine Ev.p rfl rfl ?_)
    refine Ev.bp rfl (fun c => ?_) (fun c => ?_)
    · rw [if_pos rfl, decide_eq_false (Int32.not_lt.mpr c)]
      ((repeat refine Ev.p rfl rfl ?_); exact Ev.r rfl)
    · rw [if_pos rfl, decide_eq_true (Int32.not_le.mp c)]
      ((repeat refine Ev.p rfl rfl ?_); exact Ev.r rfl)
  · (repeat refine Ev.p rfl rfl ?_)
    refine Ev.bp rfl (fun c => ?_) (fun c => ?_)
    · rw [if_neg (by omega), if_pos rfl, decide_eq_false c]
      ((repeat refine Ev.p rfl rfl ?_); exact Ev.r rfl)
    · rw [if_neg (by omega), if_pos rfl, decide_eq_true (Decidable.not_not.mp c)]
      ((repeat refine Ev.p rfl rfl ?_); exact Ev.r rfl)
  · (repeat refine Ev.p rfl rfl ?_)
    refine Ev.bp rfl (fun c => ?_) (fun c => ?_)
    · rw [if_neg (by omega), if_neg (by omega), decide_eq_false (Int32.not_lt.mpr c)]
      ((repeat refine Ev.p rfl rfl ?_); exact Ev.r rfl)
    · rw [if_neg (by omega), if_neg (by omega), decide_eq_true (Int32.not_le.mp c)]
      ((repeat refine Ev.p rfl rfl ?_); exact Ev.r rfl)
/-- one clause, from a token on -/
theorem c_toks (hq0 : K[q]? = some (8, 10)) (hq2 : K[q + 2]? = some (20, 10)) (hq3 : K[q + 3]? = some (20, 100)) (hr4 : R q 4 = some (q + 2)) (hr5 : R q 5 = some (q + 3)) (hw : K[w]? = some (20, 6)) {by' : Nat → Int32} (hby : ∀ j, j < 6 → I w j = by' j) {c0 E : Nat} (hc : c0 < 10) (hE : I (q + 2) c0 = nI E) (hE2 : E ≤ 100) : ∀ (ts : List Nat) (st : List Bool) (i : Nat), dpL ts st.length = some 1 → st.length ≤ 20 → i + ts.length = E → (∀ j t, ts[j]? = some t → I (q + 3) (i + j) = tokC t) → ∀ y : Option Value, Ev X (d + 1) kX8_holds 20 [some (.ref q), some (.int (nI c0)), some (.ref w), some (.int (nI (bN st))), some (.int (nI i)), y] [] (K, I, R) (some (.int (bI ((evL by' ts st).headD false))), (K, I, R)) := by
  intro ts
  induction ts with
  | nil =>
    intro st i hd hst hi hco y
    have e : i = E := hi
    subst e
    have e : st.length = 1 := Option.some.inj hd
    obtain ⟨b, hb⟩ : ∃ b, st = [b] := List.length_eq_one_iff.mp e
    subst hb
    (repeat (first | refine Ev.p rfl rfl ?_ | refine Ev.gr (by rfl) (by rfl) (by assumption) (by rfl) (by assumption) ?_ | refine Ev.gi (by rfl) (by rfl) (by assumption) (by rfl) (by assumption) ?_))
    refine Ev.iald (j := c0) (by rfl) (by assumption) (by rfl) (by omega) (by omega) ?_
    rw [hE]
    (repeat refine Ev.p rfl rfl ?_)
    refine Ev.bp rfl (fun c => ?_) (fun c => ?_)
    · iterate 3 refine Ev.p rfl rfl ?_
      rw [x_low]
      show Ev X (d + 1) kX8_holds _ _ _ _ (some (.int (bI b)), _)
      cases b <;> ((repeat refine Ev.p rfl rfl ?_); exact Ev.r rfl)
    · exact absurd (Int32.le_refl _) c
  | cons t ts ih =>
    intro st i hd hst hi hco y
    have hi2 : i + 1 + ts.length = E := by simp only [List.length_cons] at hi; omega
    have hco2 : ∀ j t', ts[j]? = some t' → I (q + 3) (i + 1 + j) = tokC t' := fun j t' hj => by
      have := hco (j + 1) t' hj
      rwa [show i + (j + 1) = i + 1 + j by omega] at this
    have h0 : I (q + 3) i = tokC t := hco 0 t rfl
    obtain ⟨m1, hd1⟩ : ∃ m1, dpT t st.length = some m1 := by
      cases h : dpT t st.length with
      | none => simp [dpL, h] at hd
      | some m1 => exact ⟨m1, rfl⟩
    have hd2 : dpL ts m1 = some 1 := by simpa [dpL, hd1] using hd
    have hm1 := dpT_le hd1 hst
    have hlt : i < E := by omega
    show Ev X (d + 1) kX8_holds 20 _ [] _ (some (.int (bI ((evL by' ts (evTok by' t st)).headD false))), _)
    match t, hd1, h0 with
    | 0, hd1, h0 =>
      match st, hd1 with
      | [], hd1 => simp [dpT] at hd1
      | b :: r, hd1 =>
        have e : r.length + 1 = m1 := by simpa [dpT] using hd1
        subst e
        have g := ih ((!b) :: r) (i + 1) hd2 hm1 hi2 hco2
        rw [nI_succ, ← x_not] at g
        (repeat (first | refine Ev.p rfl rfl ?_ | refine Ev.gr (by rfl) (by rfl) (by assumption) (by rfl) (by assumption) ?_ | refine Ev.gi (by rfl) (by rfl) (by assumption) (by rfl) (by assumption) ?_))
        refine Ev.iald (j := c0) (by rfl) (by assumption) (by rfl) (by omega) (by omega) ?_
        rw [hE]
        (repeat refine Ev.p rfl rfl ?_)
        refine Ev.bp rfl (fun c => ?_) (fun c => ?_)
        · exact absurd c (nI_ge hlt (by omega))
        · (repeat (first | refine Ev.p rfl rfl ?_ | refine Ev.gr (by rfl) (by rfl) (by assumption) (by rfl) (by assumption) ?_ | refine Ev.gi (by rfl) (by rfl) (by assumption) (by rfl) (by assumption) ?_))
          refine Ev.iald (j := i) (by rfl) (by assumption) (by rfl) (by omega) (by omega) ?_
          rw [h0]
          (repeat (first | (refine Ev.at (q := 20) rfl ?_; exact (g _)) | refine Ev.p rfl rfl ?_))
    | 1, hd1, h0 =>
      match st, hd1 with
      | [], hd1 => simp [dpT] at hd1
      | [_], hd1 => simp [dpT] at hd1
      | b :: a :: r, hd1 =>
        have e : r.length + 1 = m1 := by simpa [dpT] using hd1
        subst e
        have g := ih ((a && b) :: r) (i + 1) hd2 hm1 hi2 hco2
        rw [nI_succ, ← x_and (by simp only [List.length_cons] at hst; omega)] at g
        (repeat (first | refine Ev.p rfl rfl ?_ | refine Ev.gr (by rfl) (by rfl) (by assumption) (by rfl) (by assumption) ?_ | refine Ev.gi (by rfl) (by rfl) (by assumption) (by rfl) (by assumption) ?_))
        refine Ev.iald (j := c0) (by rfl) (by assumption) (by rfl) (by omega) (by omega) ?_
        rw [hE]
        (repeat refine Ev.p rfl rfl ?_)
        refine Ev.bp rfl (fun c => ?_) (fun c => ?_)
        · exact absurd c (nI_ge hlt (by omega))
        · (repeat (first | refine Ev.p rfl rfl ?_ | refine Ev.gr (by rfl) (by rfl) (by assumption) (by rfl) (by assumption) ?_ | refine Ev.gi (by rfl) (by rfl) (by assumption) (by rfl) (by assumption) ?_))
          refine Ev.iald (j := i) (by rfl) (by assumption) (by rfl) (by omega) (by omega) ?_
          rw [h0]
          (repeat (first | (refine Ev.at (q := 20) rfl ?_; exact (g _)) | refine Ev.p rfl rfl ?_))
    | 2, hd1, h0 =>
      match st, hd1 with
      | [], hd1 => simp [dpT] at hd1
      | [_], hd1 => simp [dpT] at hd1
      | b :: a :: r, hd1 =>
        have e : r.length + 1 = m1 := by simpa [dpT] using hd1
        subst e
        have g := ih ((a || b) :: r) (i + 1) hd2 hm1 hi2 hco2
        rw [nI_succ, ← x_or (by simp only [List.length_cons] at hst; omega)] at g
        (repeat (first | refine Ev.p rfl rfl ?_ | refine Ev.gr (by rfl) (by rfl) (by assumption) (by rfl) (by assumption) ?_ | refine Ev.gi (by rfl) (by rfl) (by assumption) (by rfl) (by assumption) ?_))
        refine Ev.iald (j := c0) (by rfl) (by assumption) (by rfl) (by omega) (by omega) ?_
        rw [hE]
        (repeat refine Ev.p rfl rfl ?_)
        refine Ev.bp rfl (fun c => ?_) (fun c => ?_)
        · exact absurd c (nI_ge hlt (by omega))
        · (repeat (first | refine Ev.p rfl rfl ?_ | refine Ev.gr (by rfl) (by rfl) (by assumption) (by rfl) (by assumption) ?_ | refine Ev.gi (by rfl) (by rfl) (by assumption) (by rfl) (by assumption) ?_))
          refine Ev.iald (j := i) (by rfl) (by assumption) (by rfl) (by omega) (by omega) ?_
          rw [h0]
          (repeat (first | (refine Ev.at (q := 20) rfl ?_; exact (g _)) | refine Ev.p rfl rfl ?_))
    | u + 3, hd1, h0 =>
      have hu : u % 8 < 6 ∧ u / 8 % 4 < 3 ∧ u < 3200 ∧ st.length < 20 := by
        by_cases h : u % 8 < 6 ∧ u / 8 % 4 < 3 ∧ u < 3200 ∧ st.length < 20
        · exact h
        · simp [dpT, h] at hd1
      have e : st.length + 1 = m1 := by simpa [dpT, hu] using hd1
      subst e
      obtain ⟨w1, w2, w3, w4, w5, w6⟩ := tokC_ok u hu.2.2.1
      show Ev X (d + 1) kX8_holds 20 _ [] _ (some (.int (bI ((evL by' ts (tst by' u :: st)).headD false))), _)
      have g := ih (tst by' u :: st) (i + 1) hd2 hm1 hi2 hco2
      have hp : Ev X d kX8_passes 0 (ent kX8_passes [.int (by' (u % 8)), .int (nI (u / 8 % 4)), .int (nI (u / 32))]) [] (K, I, R) (some (.int (bI (tst by' u))), (K, I, R)) := c_passes (K, I, R) hu.2.1 _ _
      rw [nI_succ, ← x_push (by omega)] at g
      obtain ⟨z, hz⟩ : ∃ z, z = tokC (u + 3) := ⟨_, rfl⟩
      rw [← hz] at w1 w2 w3 w4 w5 w6 h0
      (repeat (first | refine Ev.p rfl rfl ?_ | refine Ev.gr (by rfl) (by rfl) (by assumption) (by rfl) (by assumption) ?_ | refine Ev.gi (by rfl) (by rfl) (by assumption) (by rfl) (by assumption) ?_))
      refine Ev.iald (j := c0) (by rfl) (by assumption) (by rfl) (by omega) (by omega) ?_
      rw [hE]
      (repeat refine Ev.p rfl rfl ?_)
      refine Ev.bp rfl (fun c => ?_) (fun c => ?_)
      · exact absurd c (nI_ge hlt (by omega))
      · (repeat (first | refine Ev.p rfl rfl ?_ | refine Ev.gr (by rfl) (by rfl) (by assumption) (by rfl) (by assumption) ?_ | refine Ev.gi (by rfl) (by rfl) (by assumption) (by rfl) (by assumption) ?_))
        refine Ev.iald (j := i) (by rfl) (by assumption) (by rfl) (by omega) (by omega) ?_
        rw [h0]
        (repeat refine Ev.p rfl rfl ?_)
        refine Ev.ls (ls2 := [_, _, _, _, _, _]) rfl ?_
        refine Ev.bp rfl (fun c => ?_) (fun c => ?_)
        · (repeat refine Ev.p rfl rfl ?_)
          refine Ev.bp rfl (fun c => ?_) (fun c => ?_)
          · (repeat refine Ev.p rfl rfl ?_)
            refine Ev.bp rfl (fun c => ?_) (fun c => ?_)
            · iterate 7 refine Ev.p rfl rfl ?_
              rw [w4]
              refine Ev.iald (j := u % 8) (by rfl) (by assumption) (by rfl) (by omega) (by omega) ?_
              rw [hby _ hu.1]
              (repeat refine Ev.p rfl rfl ?_)
              rw [w5, w6]
              refine Ev.c rfl hp ?_
              cases hb : tst by' u with
              | true =>
                rw [hb] at g
                (repeat (first | (refine Ev.at (q := 20) rfl ?_; exact (g _)) | refine Ev.p rfl rfl ?_))
              | false =>
                rw [hb] at g
                (repeat (first | (refine Ev.at (q := 20) rfl ?_; exact (g _)) | refine Ev.p rfl rfl ?_))
            · exact absurd (Decidable.not_not.mp c) w3
          · exact absurd (Decidable.not_not.mp c) w2
        · exact absurd (Decidable.not_not.mp c) w1
theorem c_holds {by' : Nat → Int32} {vv : Int32} (hst : stC K I R q fd cls) (hw : K[w]? = some (20, 6)) (hby : ∀ j, j < 6 → I w j = by' j) {pre rest : Cls} {m : Nat} {wa : Bool} {ts : List Nat} (hcls : cls = pre ++ (m, wa, ts) :: rest) : Ev X (d + 1) kX8_holds 0 (ent kX8_holds [.ref q, .int (nI pre.length), .ref w]) [] (K, I, R) (some (.int (bI ((evL by' ts []).headD false))), (K, I, R)) := by
  obtain ⟨k0, k1, k2, k3, r3, r4, r5, f1, f2, hl, hok, ht, ha, hc⟩ := hst
  have hlen : pre.length < 10 := by rw [hcls] at hl; simp only [List.length_append, List.length_cons] at hl; omega
  have hE := (ha pre rest m wa ts hcls).2
  have hq := hok (m, wa, ts) (by rw [hcls]; simp)
  have htk : tks cls = tks pre ++ (ts ++ tks rest) := by rw [hcls, tks_app]; rfl
  have hlt : (tks pre).length + ts.length ≤ 100 := by rw [htk] at ht; simp only [List.length_append] at ht; omega
  have g := c_toks (X := X) (d := d) (by' := by') k0 k2 k3 r4 r5 hw hby hlen hE hlt ts [] (tks pre).length hq.2 (by simp) rfl (fun j t hj => by
    refine hc ((tks pre).length + j) t ?_
    rw [htk, List.getElem?_append_right (by omega), show (tks pre).length + j - (tks pre).length = j by omega, List.getElem?_append_left (List.getElem?_eq_some_iff.mp hj).1]
    exact hj)
  rw [show nI (bN []) = 0 from rfl] at g
  match pre, hcls with
  | [], hcls =>
    (repeat (first | (refine Ev.at (q := 20) rfl ?_; exact (g _)) | refine Ev.p rfl rfl ?_))
  | qq :: pre', hcls =>
    obtain ⟨m2, w2, ts2⟩ := qq
    obtain ⟨pre2, z, hz⟩ : ∃ pre2 z, (m2, w2, ts2) :: pre' = pre2 ++ [z] := ⟨_, _, (List.dropLast_concat_getLast (by simp)).symm⟩
    obtain ⟨m3, w3, ts3⟩ := z
    have hE2 := (ha pre2 ((m, wa, ts) :: rest) m3 w3 ts3 (by rw [hcls, hz, List.append_assoc]; rfl)).2
    have hl2 : ((m2, w2, ts2) :: pre').length = pre2.length + 1 := by rw [hz]; simp
    have ht2 : (tks ((m2, w2, ts2) :: pre')).length = (tks pre2).length + ts3.length := by rw [hz, tks_app, List.length_append]; show _ + (ts3 ++ []).length = _; simp
    rw [← ht2] at hE2
    have e1 : nI ((m2, w2, ts2) :: pre').length - 1 = nI pre2.length := by rw [hl2, nI_pred]
    (repeat (first | refine Ev.p rfl rfl ?_ | refine Ev.gr (by rfl) (by rfl) (by assumption) (by rfl) (by assumption) ?_ | refine Ev.gi (by rfl) (by rfl) (by assumption) (by rfl) (by assumption) ?_))
    refine Ev.bp rfl (fun c => absurd c (nI_nle (by simp) (by omega))) (fun c => ?_)
    (repeat (first | refine Ev.p rfl rfl ?_ | refine Ev.gr (by rfl) (by rfl) (by assumption) (by rfl) (by assumption) ?_ | refine Ev.gi (by rfl) (by rfl) (by assumption) (by rfl) (by assumption) ?_))
    (refine Ev.iald (j := pre2.length) (by rfl) (by assumption) e1 (by omega) (by omega) ?_; rw [hE2])
    (repeat (first | (refine Ev.at (q := 20) rfl ?_; exact (g _)) | refine Ev.p rfl rfl ?_))
end CSUM
