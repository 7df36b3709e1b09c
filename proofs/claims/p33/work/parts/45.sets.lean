/-! bitCount, min, max; what the reference's sets are as numbers -/
def us (x : Int32) (k : Int32) : Int32 := (x.toUInt32 >>> (k.toUInt32 &&& Int32.toUInt32 31)).toInt32
def bc1 (x : Int32) : Int32 := x - (us x 1 &&& 1431655765)
def bc2 (x : Int32) : Int32 := (x &&& 858993459) + (us x 2 &&& 858993459)
def bc3 (x : Int32) : Int32 := (x + us x 4) &&& 252645135
def bc4 (x : Int32) : Int32 := x + us x 8
def bc5 (x : Int32) : Int32 := x + us x 16
theorem bc_64 : ∀ a, a < 64 → bc5 (bc4 (bc3 (bc2 (bc1 (nI a))))) &&& 63 = rC (nI a) 6 := by decide +kernel
section BC
variable {X : Nat × (Nat → Int32)} {d : Nat}
theorem j_bitCount (h : Hp) {a : Nat} (ha : a < 64) : Ev X d kJ6_bitCount_0f7a4 0 (ent kJ6_bitCount_0f7a4 [.int (nI a)]) [] h (some (.int (rC (nI a) 6)), h) := by
  rw [← bc_64 a ha]
  obtain ⟨x1, h1⟩ : ∃ x, x = bc1 (nI a) := ⟨_, rfl⟩
  obtain ⟨x2, h2⟩ : ∃ x, x = bc2 x1 := ⟨_, rfl⟩
  obtain ⟨x3, h3⟩ : ∃ x, x = bc3 x2 := ⟨_, rfl⟩
  obtain ⟨x4, h4⟩ : ∃ x, x = bc4 x3 := ⟨_, rfl⟩
  obtain ⟨x5, h5⟩ : ∃ x, x = bc5 x4 := ⟨_, rfl⟩
  rw [← h1, ← h2, ← h3, ← h4, ← h5]
  iterate 8 refine Ev.p rfl rfl ?_
  refine Ev.ls (ls2 := [some (.int x1)]) (by rw [h1]; rfl) ?_
  iterate 10 refine Ev.p rfl rfl ?_
  refine Ev.ls (ls2 := [some (.int x2)]) (by rw [h2]; rfl) ?_
  iterate 8 refine Ev.p rfl rfl ?_
  refine Ev.ls (ls2 := [some (.int x3)]) (by rw [h3]; rfl) ?_
  iterate 6 refine Ev.p rfl rfl ?_
  refine Ev.ls (ls2 := [some (.int x4)]) (by rw [h4]; rfl) ?_
  iterate 6 refine Ev.p rfl rfl ?_
  refine Ev.ls (ls2 := [some (.int x5)]) (by rw [h5]; rfl) ?_
  ((repeat refine Ev.p rfl rfl ?_); exact Ev.r rfl)
theorem j_max (h : Hp) (x y : Int32) : Ev X d kJ9_max_7cf53 0 (ent kJ9_max_7cf53 [.int x, .int y]) [] h (some (.int (if y ≤ x then x else y)), h) := by
  (repeat refine Ev.p rfl rfl ?_)
  refine Ev.bp rfl (fun c => ?_) (fun c => ?_)
  · rw [if_neg (fun g => absurd c (Int32.not_lt.mpr g))]
    ((repeat refine Ev.p rfl rfl ?_); exact Ev.r rfl)
  · rw [if_pos (Int32.not_lt.mp c)]
    ((repeat refine Ev.p rfl rfl ?_); exact Ev.r rfl)
theorem j_min (h : Hp) (x y : Int32) : Ev X d kJ9_min_7cf53 0 (ent kJ9_min_7cf53 [.int x, .int y]) [] h (some (.int (if x ≤ y then x else y)), h) := by
  (repeat refine Ev.p rfl rfl ?_)
  refine Ev.bp rfl (fun c => ?_) (fun c => ?_)
  · rw [if_neg (fun g => absurd c (Int32.not_lt.mpr g))]
    ((repeat refine Ev.p rfl rfl ?_); exact Ev.r rfl)
  · rw [if_pos (Int32.not_lt.mp c)]
    ((repeat refine Ev.p rfl rfl ?_); exact Ev.r rfl)
end BC
def sett (s : Nat → Int32) (q : Nat) : Bool := decide (s (14 + q) = 1)
def shel (s : Nat → Int32) (q : Nat) : Bool := decide (s (20 + q) = 1)
def tieB (s : Nat → Int32) (p q : Nat) : Bool := decide ((s (69 + p)).toNatClampNeg / 2 ^ q % 2 = 1)
theorem or_2 : ∀ q, q < 6 → ∀ a, a < 64 → a < 2 ^ q → nI a ||| nI (2 ^ q) = nI (a + 2 ^ q) := by decide +kernel
theorem or_0 (x : Int32) : x ||| 0 = x := by
  apply Int32.toBitVec_inj.mp
  simp
theorem an_2 : ∀ a, a < 64 → ∀ q, q < 6 → nI a &&& nI (2 ^ q) = if a / 2 ^ q % 2 = 1 then nI (2 ^ q) else 0 := by decide +kernel
theorem orf {F : Nat → Int32} {f : Nat → Bool} (h0 : F 0 = 0) (h1 : ∀ q, q < 6 → F (q + 1) = F q ||| (if f q = true then nI (2 ^ q) else 0)) : ∀ n, n ≤ 6 → F n = nI (mk f n) := by
  intro n
  induction n with
  | zero => intro _; exact h0
  | succ n ih =>
    intro hn
    rw [h1 n (by omega), ih (by omega)]
    show _ = nI (mk f n + _)
    have h2 := mk_lt f n
    by_cases hf : f n = true
    · rw [if_pos hf, if_pos hf, or_2 n (by omega) _ (mk_64 f (by omega)) h2]
    · rw [if_neg hf, if_neg hf, or_0, Nat.add_zero]
/-- flags are 0 or 1; ties are of MATTERS -/
def SF (s : Nat → Int32) (n : Nat) : Prop := r01 s ∧ (∀ q, q < 6 → s (20 + q) = 0 ∨ s (20 + q) = 1) ∧ ∀ p, p < 6 → ∃ t, t < 2 ^ n ∧ s (69 + p) = nI t
theorem rSO_mk {s : Nat → Int32} (h : r01 s) : ∀ n, n ≤ 6 → rSO s n = nI (mk (sett s) n) := by
  refine orf rfl (fun q hq => ?_)
  show rSO s q ||| (s (14 + q) <<< (nI q &&& 31)) = _
  congr 1
  unfold sett
  rcases h q hq with h0 | h1
  · rw [h0, if_neg (by decide)]
    rcases (by omega : q = 0 ∨ q = 1 ∨ q = 2 ∨ q = 3 ∨ q = 4 ∨ q = 5) with rfl | rfl | rfl | rfl | rfl | rfl <;> decide
  · rw [h1, if_pos (by decide), sh_1 q hq]
theorem p2_64 {n : Nat} (hn : n ≤ 6) : 2 ^ n ≤ 64 := (Nat.pow_le_pow_right (by omega) hn : 2 ^ n ≤ 2 ^ 6)
theorem rW_mk {s : Nat → Int32} {n p : Nat} (hn : n ≤ 6) (h : SF s n) (hp : p < 6) : ∀ m, m ≤ 6 → rW s p m = nI (mk (fun q => tieB s p q && !sett s q) m) := by
  obtain ⟨t, ht, e⟩ := h.2.2 p hp
  have := p2_64 hn
  refine orf rfl (fun q hq => ?_)
  show rW s p q ||| (if s (14 + q) = 0 then s (69 + p) &&& ((1 : Int32) <<< (nI q &&& 31)) else 0) = _
  congr 1
  unfold tieB sett
  rw [e, nI_clamp (by omega), sh_1 q hq, an_2 t (by omega) q hq]
  rcases h.1 q hq with h0 | h1
  · rw [h0, if_pos rfl]
    by_cases hb : t / 2 ^ q % 2 = 1 <;> simp [hb]
  · rw [h1, if_neg (by decide)]
    simp
theorem rRO_mk (s : Nat → Int32) (n : Nat) : ∀ m, m ≤ 6 → rRO s n m = nI (mk (rRd s n) m) := by
  refine orf rfl (fun q hq => ?_)
  show rRO s n q ||| (if rRd s n q = true then (1 : Int32) <<< (nI q &&& 31) else 0) = _
  rw [sh_1 q hq]
theorem rOp_b {s : Nat → Int32} {n : Nat} (h : SF s n) {q : Nat} (hq : q < 6) : rOp s q = (!sett s q && !shel s q) := by
  unfold rOp sett shel
  rcases h.1 q hq with h0 | h0 <;> rcases h.2.1 q hq with h1 | h1 <;> rw [h0, h1] <;> decide
/-- ties as a set -/
theorem tie_mk {s : Nat → Int32} {n p : Nat} (hn : n ≤ 6) (h : SF s n) (hp : p < 6) : s (69 + p) = nI (mk (tieB s p) n) := by
  obtain ⟨t, ht, e⟩ := h.2.2 p hp
  have := p2_64 hn
  have e2 : mk (tieB s p) n = mk (fun p => decide (t / 2 ^ p % 2 = 1)) n := by
    refine mk_ext (fun q hq => ?_)
    unfold tieB
    rw [e, nI_clamp (by omega)]
  rw [e, e2, mk_of n t ht]
theorem full_nI : ∀ n, n ≤ 6 → ((1 : Int32) <<< (nI n &&& 31)) - 1 = nI (2 ^ n - 1) := by decide +kernel
theorem uns_mk (s : Nat → Int32) {n : Nat} (hn : n ≤ 6) : (((1 : Int32) <<< (nI n &&& 31)) - 1) &&& (nI (mk (sett s) n) ^^^ (-1)) = nI (mk (fun q => !sett s q) n) := by
  rw [full_nI n hn, ← mk_full n, mk_andn _ _ hn hn]
  congr 1
  exact mk_ext (fun q hq => by simp [hq])
theorem opn_mk (s : Nat → Int32) {n : Nat} (hn : n ≤ 6) : nI (mk (fun q => !sett s q) n) &&& (nI (mk (shel s) n) ^^^ (-1)) = nI (mk (fun q => !sett s q && !shel s q) n) := by
  rw [mk_andn _ _ hn hn]
  congr 1
  exact mk_ext (fun q hq => by simp [hq])
theorem wai_mk {s : Nat → Int32} {n p : Nat} (hn : n ≤ 6) (h : SF s n) (hp : p < 6) : s (69 + p) &&& (nI (mk (sett s) n) ^^^ (-1)) = rW s p n := by
  rw [tie_mk hn h hp, mk_andn _ _ hn hn, rW_mk hn h hp n hn]
  congr 1
  exact mk_ext (fun q hq => by simp [hq])
theorem wau_mk {s : Nat → Int32} {n p : Nat} (hn : n ≤ 6) (h : SF s n) (hp : p < 6) : s (69 + p) &&& nI (mk (fun q => !sett s q) n) = rW s p n := by
  rw [tie_mk hn h hp, mk_and _ _ hn hn, rW_mk hn h hp n hn]
  congr 1
  exact mk_ext (fun q hq => by simp [hq])
theorem sett_0 {s : Nat → Int32} (h : r01 s) {q : Nat} (hq : q < 6) : s (14 + q) = bI (sett s q) := by
  unfold sett
  rcases h q hq with h0 | h0 <;> rw [h0] <;> decide
theorem shel_0 {s : Nat → Int32} (h : ∀ q, q < 6 → s (20 + q) = 0 ∨ s (20 + q) = 1) {q : Nat} (hq : q < 6) : s (20 + q) = bI (shel s q) := by
  unfold shel
  rcases h q hq with h0 | h0 <;> rw [h0] <;> decide
/-- how many but one are settled -/
theorem rSB_mk {s : Nat → Int32} (h : r01 s) {p n : Nat} (hn : n ≤ 6) : rSB s p n = nI (cnt (fun q => !decide (q = p) && sett s q) n) := by
  have : ∀ m, m ≤ 6 → rSB s p m = nI (cnt (fun q => !decide (q = p) && sett s q) m) := by
    intro m
    induction m with
    | zero => intro _; rfl
    | succ m ih =>
      intro hm
      show rSB s p m + (if m = p then 0 else s (14 + m)) = nI (cnt _ m + _)
      rw [ih (by omega), ← nI_add]
      congr 1
      by_cases hmp : m = p
      · rw [if_pos hmp]; simp [hmp]; rfl
      · rw [if_neg hmp, sett_0 h (by omega)]
        cases hs : sett s m <;> simp [hmp, hs, bI] <;> rfl
  exact this n hn
theorem oth_mk (s : Nat → Int32) {p n : Nat} (hn : n ≤ 6) (hp : p < n) : nI (mk (sett s) n) &&& (((1 : Int32) <<< (nI p &&& 31)) ^^^ (-1)) = nI (mk (fun q => !decide (q = p) && sett s q) n) := by
  have e : 2 ^ p = mk (fun q => decide (q = p)) n := by
    have : ∀ m, mk (fun q => decide (q = p)) m = if p < m then 2 ^ p else 0 := by
      intro m
      induction m with
      | zero => rfl
      | succ m ih =>
        show mk _ m + _ = _
        rw [ih]
        rcases Nat.lt_trichotomy p m with h | h | h
        · simp [h, show p < m + 1 by omega, show ¬ m = p by omega]
        · subst h; simp
        · simp [show ¬ p < m by omega, show ¬ p < m + 1 by omega, show ¬ m = p by omega]
    rw [this n, if_pos hp]
  rw [sh_1 p (by omega), e, mk_andn _ _ hn hn]
  congr 1
  refine mk_ext (fun q hq => ?_)
  simp [hq, Bool.and_comm]
/-- a set of bits with one more, with one less -/
theorem mk_set (f : Nat → Bool) {n p : Nat} (hn : n ≤ 6) (hp : p < n) : nI (mk f n) ||| ((1 : Int32) <<< (nI p &&& 31)) = nI (mk (fun q => decide (q = p) || f q) n) := by
  have h1 := mk_64 f hn
  have h2 : 2 ^ p < 64 := (Nat.pow_lt_pow_right (by omega) (by omega) : 2 ^ p < 2 ^ 6)
  rw [sh_1 p (by omega), (an_1 _ h1 _ h2).2.2.1]
  congr 1
  refine ex_64 (an_1 _ h1 _ h2).2.2.2.2.2 (mk_64 _ hn) (fun q hq => ?_)
  rw [(bt_1 _ h1 _ h2 q hq).2.2, mk_bit, mk_bit]
  have hb : 2 ^ p / 2 ^ q % 2 = if q = p then 1 else 0 := by
    rcases Nat.lt_trichotomy q p with h | h | h
    · obtain ⟨k, rfl⟩ : ∃ k, p = q + 1 + k := ⟨p - q - 1, by omega⟩
      rw [show 2 ^ (q + 1 + k) = 2 ^ q * (2 * 2 ^ k) from by rw [Nat.pow_add, Nat.pow_succ, Nat.mul_assoc], Nat.mul_div_cancel_left _ (Nat.two_pow_pos q), if_neg (by omega)]
      omega
    · subst h; rw [Nat.div_self (Nat.two_pow_pos q), if_pos rfl]
    · rw [Nat.div_eq_of_lt (Nat.pow_lt_pow_right (by omega) h), if_neg (by omega)]
  rw [hb]
  by_cases ha : q < n <;> by_cases hqp : q = p <;> cases hf : f q <;> simp [ha, hqp, hf] <;> omega
theorem mk_clr (f : Nat → Bool) {n p : Nat} (hn : n ≤ 6) (hp : p < n) : nI (mk f n) &&& (((1 : Int32) <<< (nI p &&& 31)) ^^^ (-1)) = nI (mk (fun q => !decide (q = p) && f q) n) := by
  have e : 2 ^ p = mk (fun q => decide (q = p)) n := by
    have : ∀ m, mk (fun q => decide (q = p)) m = if p < m then 2 ^ p else 0 := by
      intro m
      induction m with
      | zero => rfl
      | succ m ih =>
        show mk _ m + _ = _
        rw [ih]
        rcases Nat.lt_trichotomy p m with h | h | h
        · simp [h, show p < m + 1 by omega, show ¬ m = p by omega]
        · subst h; simp
        · simp [show ¬ p < m by omega, show ¬ p < m + 1 by omega, show ¬ m = p by omega]
    rw [this n, if_pos hp]
  rw [sh_1 p (by omega), e, mk_andn _ _ hn hn]
  congr 1
  refine mk_ext (fun q hq => ?_)
  simp [hq, Bool.and_comm]
