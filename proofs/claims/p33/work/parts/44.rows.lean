/-! ROWS for cells that are known by what is said of them -/
section CROWS
variable {X : Nat × (Nat → Int32)} {d k pc np p q n t a b c : Nat} {v : Int32} {ls : List (Option Value)} {r : List Value} {K : List (Nat × Nat)} {I : Nat → Nat → Int32} {R : Nat → Nat → Option Nat} {Z : Option Value × Hp}
theorem Ev.gi {x : Nat} {y : Int32} (hl : look k pc = some (.getfield x, np, a, b, c, v)) (hb : Nat.beq b 1 = false) (hk : K[p]? = some (t, n)) (hf : (Nat.blt t 13 && fam c t) = true) (hv : I p a = y) (e : Ev X d k np ls (.int y :: r) (K, I, R) Z) : Ev X d k pc ls (.ref p :: r) (K, I, R) Z := by
  subst hv
  refine Ev.s (pc' := np) (ls' := ls) (st' := .int (I p a) :: r) (h' := (K, I, R)) ?_ e
  unfold stq
  rw [hl]
  show stp X _ ls _ (K, I, R) = _
  dsimp only [stp]
  rw [hk]
  dsimp only
  rw [hf, hb]
  rfl
theorem Ev.gr {x : Nat} (hl : look k pc = some (.getfield x, np, a, b, c, v)) (hb : Nat.beq b 1 = true) (hk : K[p]? = some (t, n)) (hf : (Nat.blt t 13 && fam c t) = true) (hr : R p a = some q) (e : Ev X d k np ls (.ref q :: r) (K, I, R) Z) : Ev X d k pc ls (.ref p :: r) (K, I, R) Z := by
  refine Ev.s (pc' := np) (ls' := ls) (st' := .ref q :: r) (h' := (K, I, R)) ?_ e
  unfold stq
  rw [hl]
  show stp X _ ls _ (K, I, R) = _
  dsimp only [stp]
  rw [hk]
  dsimp only
  rw [hf, hb, hr]
  rfl
theorem Ev.pi {x : Nat} {y : Int32} (hl : look k pc = some (.putfield x, np, a, b, c, v)) (hb : Nat.beq b 0 = true) (hk : K[p]? = some (t, n)) (hf : (Nat.blt t 13 && fam c t) = true) (e : Ev X d k np ls r (K, upI I p a y, R) Z) : Ev X d k pc ls (.int y :: .ref p :: r) (K, I, R) Z := by
  refine Ev.s (pc' := np) (ls' := ls) (st' := r) (h' := (K, upI I p a y, R)) ?_ e
  unfold stq
  rw [hl]
  show stp X _ ls _ (K, I, R) = _
  dsimp only [stp]
  rw [hk]
  dsimp only
  rw [hf, hb]
  rfl
theorem Ev.pr {x : Nat} (hl : look k pc = some (.putfield x, np, a, b, c, v)) (hb : Nat.beq b 1 = true) (hk : K[p]? = some (t, n)) (hf : (Nat.blt t 13 && fam c t) = true) (e : Ev X d k np ls r (K, I, upR R p a (some q)) Z) : Ev X d k pc ls (.ref q :: .ref p :: r) (K, I, R) Z := by
  refine Ev.s (pc' := np) (ls' := ls) (st' := r) (h' := (K, I, upR R p a (some q))) ?_ e
  unfold stq
  rw [hl]
  show stp X _ ls _ (K, I, R) = _
  dsimp only [stp]
  rw [hk]
  dsimp only
  rw [hf, hb]
  rfl
theorem Ev.alen (hl : look k pc = some (.arraylength, np, a, b, c, v)) (hk : K[p]? = some (t, n)) (ht : (Nat.blt t 20 || Nat.blt 24 t) = false) (e : Ev X d k np ls (.int (nI n) :: r) (K, I, R) Z) : Ev X d k pc ls (.ref p :: r) (K, I, R) Z := by
  refine Ev.s (pc' := np) (ls' := ls) (st' := .int (nI n) :: r) (h' := (K, I, R)) ?_ e
  unfold stq
  rw [hl]
  show stp X _ ls _ (K, I, R) = _
  dsimp only [stp]
  rw [hk]
  dsimp only
  rw [ht]
  rfl
/-- a call of what an object answers with -/
theorem Ev.cv {d' k' : Nat} {x : Nat} {As rest : List Value} {st : List Value} {h' : Hp} {w : Option Value} (hl : look k pc = some (.invokevirtual x, np, a, b, c, v)) (hst : st.drop a = .ref p :: rest) (hk : K[p]? = some (t, n)) (hf : (Nat.blt t 13 && fam c t) = true) (hvg : vg b t = k') (hA : .ref p :: (st.take a).reverse = As) (hs : decide ((rest.map Value.category).sum ≤ 8) = true) (hm : Nat.ble (lay As).length (mL k') = true) (e1 : Ev X d' k' 0 (ent k' As) [] (K, I, R) (w, h')) (e2 : Ev X (d' + 1) k np ls (w.toList ++ rest) h' Z) : Ev X (d' + 1) k pc ls st (K, I, R) Z := by
  subst hA hvg
  refine Ev.c (rest := rest) (np := np) ?_ e1 e2
  unfold clq
  rw [hl]
  show cle _ st (K, I, R) = _
  dsimp only [cle]
  rw [hst]
  dsimp only
  rw [hk]
  dsimp only
  rw [hf, hs, hm]
  rfl
theorem Ev.csp {d' k' : Nat} {x : Nat} {As rest : List Value} {st : List Value} {h' : Hp} {w : Option Value} (hl : look k pc = some (.invokespecial x, np, a, k', c, v)) (hkd : Nat.beq k' 998 = false) (hst : st.drop a = .ref p :: rest) (hk : K[p]? = some (t, n)) (hf : (Nat.blt t 13 && fam c t) = true) (hA : .ref p :: (st.take a).reverse = As) (hs : decide ((rest.map Value.category).sum ≤ 8) = true) (hm : Nat.ble (lay As).length (mL k') = true) (e1 : Ev X d' k' 0 (ent k' As) [] (K, I, R) (w, h')) (e2 : Ev X (d' + 1) k np ls (w.toList ++ rest) h' Z) : Ev X (d' + 1) k pc ls st (K, I, R) Z := by
  subst hA
  refine Ev.c (rest := rest) (np := np) ?_ e1 e2
  unfold clq
  rw [hl]
  show (match (bif Nat.beq k' 998 then 0 else 1 : Nat) with
    | 1 => cle _ st (K, I, R)
    | _ => none) = _
  rw [hkd]
  show cle _ st (K, I, R) = _
  dsimp only [cle]
  rw [hst]
  dsimp only
  rw [hk]
  dsimp only
  rw [hf, hs, hm]
  rfl
theorem Ev.aast {tg tq m : Nat} {j : Nat} {i : Int32} (ha : arq k pc = (6, np)) (hk : K[p]? = some (tg, n)) (hq : K[q]? = some (tq, m)) (ht : ((Nat.beq tg 23 && fam 6 tq) || (Nat.beq tg 24 && Nat.beq tq 10)) = true) (hi : i = nI j) (hj : j < n) (hn : n < 2147483648) (e : Ev X d k np ls r (K, I, upR R p j (some q)) Z) : Ev X d k pc ls (.ref q :: .int i :: .ref p :: r) (K, I, R) Z := by
  obtain ⟨a, b, c, v, h⟩ := arq_look ha (by omega)
  have h : look k pc = some (.aastore, np, a, b, c, v) := by rcases h with h | h | h | h | h | h <;> first | exact h.2 | (have := h.1; omega)
  subst hi
  refine Ev.s (pc' := np) (ls' := ls) (st' := r) (h' := (K, I, upR R p j (some q))) ?_ e
  unfold stq
  rw [h]
  show stp X _ ls _ (K, I, R) = _
  dsimp only [stp]
  rw [hk, hq]
  dsimp only
  rw [ht, oob_nI hj hn, nI_clamp (by omega)]
  rfl
theorem Ev.aasn {tg : Nat} {j : Nat} {i : Int32} (ha : arq k pc = (6, np)) (hk : K[p]? = some (tg, n)) (ht : (Nat.beq tg 23 || Nat.beq tg 24) = true) (hi : i = nI j) (hj : j < n) (hn : n < 2147483648) (e : Ev X d k np ls r (K, I, upR R p j none) Z) : Ev X d k pc ls (.null :: .int i :: .ref p :: r) (K, I, R) Z := by
  obtain ⟨a, b, c, v, h⟩ := arq_look ha (by omega)
  have h : look k pc = some (.aastore, np, a, b, c, v) := by rcases h with h | h | h | h | h | h <;> first | exact h.2 | (have := h.1; omega)
  subst hi
  refine Ev.s (pc' := np) (ls' := ls) (st' := r) (h' := (K, I, upR R p j none)) ?_ e
  unfold stq
  rw [h]
  show stp X _ ls _ (K, I, R) = _
  dsimp only [stp]
  rw [hk]
  dsimp only
  rw [ht, oob_nI hj hn, nI_clamp (by omega)]
  rfl
end CROWS
/-! SETS as numbers -/
def mk (f : Nat → Bool) : Nat → Nat
  | 0 => 0
  | q + 1 => mk f q + (if f q = true then 2 ^ q else 0)
theorem mk_lt (f : Nat → Bool) : ∀ n, mk f n < 2 ^ n := by
  intro n
  induction n with
  | zero => show (0 : Nat) < 1; omega
  | succ n ih =>
    show mk f n + _ < 2 ^ (n + 1)
    rw [Nat.pow_succ]
    split <;> omega
theorem mk_64 (f : Nat → Bool) {n : Nat} (hn : n ≤ 6) : mk f n < 64 := Nat.lt_of_lt_of_le (mk_lt f n) (Nat.pow_le_pow_right (by omega) hn : 2 ^ n ≤ 2 ^ 6)
theorem mk_ext {f g : Nat → Bool} {n : Nat} (h : ∀ p, p < n → f p = g p) : mk f n = mk g n := by
  induction n with
  | zero => rfl
  | succ n ih =>
    show mk f n + _ = mk g n + _
    rw [ih (fun p hp => h p (by omega)), h n (by omega)]
theorem mk_bit (f : Nat → Bool) : ∀ (n p : Nat), mk f n / 2 ^ p % 2 = if p < n ∧ f p = true then 1 else 0 := by
  intro n
  induction n with
  | zero => intro p; rw [if_neg (by omega)]; show 0 / 2 ^ p % 2 = 0; rw [Nat.zero_div]
  | succ n ih =>
    intro p
    show (mk f n + (if f n = true then 2 ^ n else 0)) / 2 ^ p % 2 = _
    have h2 := mk_lt f n
    rcases Nat.lt_trichotomy p n with h | h | h
    · have e : (mk f n + (if f n = true then 2 ^ n else 0)) / 2 ^ p % 2 = mk f n / 2 ^ p % 2 := by
        split
        · obtain ⟨k, rfl⟩ : ∃ k, n = p + 1 + k := ⟨n - p - 1, by omega⟩
          rw [show 2 ^ (p + 1 + k) = 2 ^ p * (2 * 2 ^ k) from by rw [Nat.pow_add, Nat.pow_succ, Nat.mul_assoc], Nat.add_mul_div_left _ _ (Nat.two_pow_pos p)]
          omega
        · rfl
      rw [e, ih p]
      by_cases hf : f p = true
      · rw [if_pos ⟨h, hf⟩, if_pos ⟨by omega, hf⟩]
      · rw [if_neg (fun g => hf g.2), if_neg (fun g => hf g.2)]
    · subst h
      by_cases hf : f p = true
      · rw [if_pos hf, if_pos ⟨by omega, hf⟩, Nat.add_div_right _ (Nat.two_pow_pos p), Nat.div_eq_of_lt h2]
      · rw [if_neg hf, if_neg (fun g => hf g.2), Nat.add_zero, Nat.div_eq_of_lt h2]
    · rw [show (if p < n + 1 ∧ f p = true then 1 else 0) = 0 from if_neg (fun g => by have := g.1; omega), Nat.div_eq_of_lt]
      have : 2 ^ (n + 1) ≤ 2 ^ p := Nat.pow_le_pow_right (by omega) (by omega)
      rw [Nat.pow_succ] at this
      split <;> omega
/-- a number below 2^n is its bits -/
theorem mk_of : ∀ (n a : Nat), a < 2 ^ n → mk (fun p => decide (a / 2 ^ p % 2 = 1)) n = a := by
  intro n
  induction n with
  | zero =>
    intro a ha
    have e : a = 0 := by simpa using ha
    subst e
    rfl
  | succ n ih =>
    intro a ha
    rw [Nat.pow_succ] at ha
    show mk (fun p => decide (a / 2 ^ p % 2 = 1)) n + (if decide (a / 2 ^ n % 2 = 1) = true then 2 ^ n else 0) = a
    have hp := Nat.two_pow_pos n
    have hm : a % 2 ^ n < 2 ^ n := Nat.mod_lt _ hp
    have e : mk (fun p => decide (a / 2 ^ p % 2 = 1)) n = a % 2 ^ n := by
      rw [← ih (a % 2 ^ n) hm]
      refine mk_ext (fun p hpn => ?_)
      congr 2
      obtain ⟨k, rfl⟩ : ∃ k, n = p + 1 + k := ⟨n - p - 1, by omega⟩
      have e2 := Nat.div_add_mod a (2 ^ (p + 1 + k))
      have e3 : 2 ^ (p + 1 + k) = 2 ^ p * (2 * 2 ^ k) := by rw [Nat.pow_add, Nat.pow_succ, Nat.mul_assoc]
      rw [e3, Nat.mod_mul_right_div_self, Nat.mod_mul_right_mod]
    have hd : a / 2 ^ n < 2 := Nat.div_lt_of_lt_mul (by omega)
    have e2 := Nat.div_add_mod a (2 ^ n)
    rw [e]
    obtain ⟨y, hy⟩ : ∃ y, y = a / 2 ^ n := ⟨_, rfl⟩
    rw [← hy] at e2 hd ⊢
    rcases (by omega : y = 0 ∨ y = 1) with rfl | rfl
    · rw [if_neg (by decide)]
      omega
    · rw [if_pos (by decide)]
      omega
theorem sh_1 : ∀ p, p < 6 → (1 : Int32) <<< (nI p &&& 31) = nI (2 ^ p) := by decide +kernel
theorem al_1 : ∀ n, n ≤ 6 → (1 : Int32) <<< (nI n &&& 31) - 1 = nI (2 ^ n - 1) := by decide +kernel
theorem sr_1 : ∀ a, a < 64 → ∀ p, p < 6 → (nI a >>> (nI p &&& 31)) &&& 1 = nI (a / 2 ^ p % 2) := by decide +kernel
theorem an_1 : ∀ a, a < 64 → ∀ b, b < 64 → nI a &&& (nI b ^^^ (-1)) = nI (a &&& (63 - b)) ∧ nI a &&& nI b = nI (a &&& b) ∧ nI a ||| nI b = nI (a ||| b) ∧ (a &&& (63 - b)) < 64 ∧ (a &&& b) < 64 ∧ (a ||| b) < 64 := by decide +kernel
theorem bt_1 : ∀ a, a < 64 → ∀ b, b < 64 → ∀ p, p < 6 → ((a &&& (63 - b)) / 2 ^ p % 2 = if a / 2 ^ p % 2 = 1 ∧ b / 2 ^ p % 2 = 0 then 1 else 0) ∧ ((a &&& b) / 2 ^ p % 2 = if a / 2 ^ p % 2 = 1 ∧ b / 2 ^ p % 2 = 1 then 1 else 0) ∧ ((a ||| b) / 2 ^ p % 2 = if a / 2 ^ p % 2 = 1 ∨ b / 2 ^ p % 2 = 1 then 1 else 0) := by decide +kernel
/-- numbers below 64 that have the same bits -/
theorem ex_64 {a b : Nat} (ha : a < 64) (hb : b < 64) (h : ∀ p, p < 6 → a / 2 ^ p % 2 = b / 2 ^ p % 2) : a = b := by
  rw [← mk_of 6 a ha, ← mk_of 6 b hb]
  exact mk_ext (fun p hp => by rw [h p hp])
theorem mk_andn (f g : Nat → Bool) {n m : Nat} (hn : n ≤ 6) (hm : m ≤ 6) : nI (mk f n) &&& (nI (mk g m) ^^^ (-1)) = nI (mk (fun p => f p && !(decide (p < m) && g p)) n) := by
  have h1 := mk_64 f hn
  have h2 := mk_64 g hm
  rw [(an_1 _ h1 _ h2).1]
  congr 1
  refine ex_64 (an_1 _ h1 _ h2).2.2.2.1 (mk_64 _ hn) (fun p hp => ?_)
  rw [(bt_1 _ h1 _ h2 p hp).1, mk_bit, mk_bit, mk_bit]
  by_cases ha : p < n <;> by_cases hb : p < m <;> cases f p <;> cases g p <;> simp [ha, hb]
theorem mk_and (f g : Nat → Bool) {n m : Nat} (hn : n ≤ 6) (hm : m ≤ 6) : nI (mk f n) &&& nI (mk g m) = nI (mk (fun p => f p && (decide (p < m) && g p)) n) := by
  have h1 := mk_64 f hn
  have h2 := mk_64 g hm
  rw [(an_1 _ h1 _ h2).2.1]
  congr 1
  refine ex_64 (an_1 _ h1 _ h2).2.2.2.2.1 (mk_64 _ hn) (fun p hp => ?_)
  rw [(bt_1 _ h1 _ h2 p hp).2.1, mk_bit, mk_bit, mk_bit]
  by_cases ha : p < n <;> by_cases hb : p < m <;> cases f p <;> cases g p <;> simp [ha, hb]
theorem mk_or (f g : Nat → Bool) {n : Nat} (hn : n ≤ 6) : nI (mk f n) ||| nI (mk g n) = nI (mk (fun p => f p || g p) n) := by
  have h1 := mk_64 f hn
  have h2 := mk_64 g hn
  rw [(an_1 _ h1 _ h2).2.2.1]
  congr 1
  refine ex_64 (an_1 _ h1 _ h2).2.2.2.2.2 (mk_64 _ hn) (fun p hp => ?_)
  rw [(bt_1 _ h1 _ h2 p hp).2.2, mk_bit, mk_bit, mk_bit]
  by_cases ha : p < n <;> cases f p <;> cases g p <;> simp [ha]
theorem mk_sr (f : Nat → Bool) {n p : Nat} (hn : n ≤ 6) (hp : p < n) : (nI (mk f n) >>> (nI p &&& 31)) &&& 1 = bI (f p) := by
  rw [sr_1 _ (mk_64 f hn) p (by omega), mk_bit]
  cases f p <;> simp [hp, bI] <;> rfl
theorem mk_full (n : Nat) : mk (fun _ => true) n = 2 ^ n - 1 := by
  induction n with
  | zero => rfl
  | succ n ih =>
    show mk _ n + 2 ^ n = _
    have := Nat.two_pow_pos n
    rw [ih, Nat.pow_succ]
    omega
/-- how many -/
def cnt (f : Nat → Bool) : Nat → Nat
  | 0 => 0
  | q + 1 => cnt f q + (if f q = true then 1 else 0)
theorem cnt_le (f : Nat → Bool) : ∀ n, cnt f n ≤ n := by
  intro n
  induction n with
  | zero => exact Nat.le_refl _
  | succ n ih => show cnt f n + _ ≤ n + 1; split <;> omega
theorem rC_mk (f : Nat → Bool) {n : Nat} (hn : n ≤ 6) : rC (nI (mk f n)) 6 = nI (cnt f n) := by
  have h : ∀ q, q ≤ 6 → rC (nI (mk f n)) q = nI (cnt (fun p => decide (p < n) && f p) q) := by
    intro q
    induction q with
    | zero => intro _; rfl
    | succ q ih =>
      intro hq
      show rC (nI (mk f n)) q + ((nI (mk f n) >>> (nI q &&& 31)) &&& 1) = nI (cnt _ q + _)
      rw [ih (by omega), sr_1 _ (mk_64 f hn) q (by omega), mk_bit, nI_add]
      congr 2
      by_cases h : q < n <;> cases hf : f q <;> simp [h, hf]
  rw [h 6 (by omega)]
  congr 1
  have h2 : ∀ q, n ≤ q → cnt (fun p => decide (p < n) && f p) q = cnt f n := by
    intro q hq
    induction q with
    | zero => have : n = 0 := by omega
              subst this; rfl
    | succ q ih =>
      by_cases hqn : n = q + 1
      · subst hqn
        have : ∀ m, m ≤ q + 1 → cnt (fun p => decide (p < q + 1) && f p) m = cnt f m := by
          intro m
          induction m with
          | zero => intro _; rfl
          | succ m ihm =>
            intro hm
            show cnt _ m + _ = cnt f m + _
            rw [ihm (by omega)]
            simp [show m < q + 1 by omega]
        exact this _ (Nat.le_refl _)
      · show cnt _ q + _ = _
        rw [ih (by omega)]
        simp [show ¬ q < n by omega]
  exact h2 6 hn
