/-! THE REFERENCE: agenda -/
theorem Ev.dv {X : Nat × (Nat → Int32)} {d k pc np a b c : Nat} {v x y : Int32} {ls : List (Option Value)} {r : List Value} {h : Hp} {Z : Option Value × Hp} (hl : look k pc = some (.idiv, np, a, b, c, v)) (hy : y ≠ 0) (t : Ev X d k np ls (.int (x / y) :: r) h Z) : Ev X d k pc ls (.int y :: .int x :: r) h Z := by
  refine Ev.s (pc' := np) (ls' := ls) (st' := .int (x / y) :: r) (h' := h) ?_ t
  unfold stq
  rw [hl]
  show stp X _ ls _ h = _
  dsimp only [stp]
  rw [decide_eq_false hy]
  rfl
theorem Ev.rm {X : Nat × (Nat → Int32)} {d k pc np a b c : Nat} {v x y : Int32} {ls : List (Option Value)} {r : List Value} {h : Hp} {Z : Option Value × Hp} (hl : look k pc = some (.irem, np, a, b, c, v)) (hy : y ≠ 0) (t : Ev X d k np ls (.int (x - x / y * y) :: r) h Z) : Ev X d k pc ls (.int y :: .int x :: r) h Z := by
  refine Ev.s (pc' := np) (ls' := ls) (st' := .int (x - x / y * y) :: r) (h' := h) ?_ t
  unfold stq
  rw [hl]
  show stp X _ ls _ h = _
  dsimp only [stp]
  rw [decide_eq_false hy]
  rfl
theorem Ev.lrm {X : Nat × (Nat → Int32)} {d k pc np a b c : Nat} {v : Int32} {x y : Int64} {ls : List (Option Value)} {r : List Value} {h : Hp} {Z : Option Value × Hp} (hl : look k pc = some (.lrem, np, a, b, c, v)) (hy : y ≠ 0) (t : Ev X d k np ls (.long (x - x / y * y) :: r) h Z) : Ev X d k pc ls (.long y :: .long x :: r) h Z := by
  refine Ev.s (pc' := np) (ls' := ls) (st' := .long (x - x / y * y) :: r) (h' := h) ?_ t
  unfold stq
  rw [hl]
  show stp X _ ls _ h = _
  dsimp only [stp]
  rw [decide_eq_false hy]
  rfl
theorem Ev.ldv {X : Nat × (Nat → Int32)} {d k pc np a b c : Nat} {v : Int32} {x y : Int64} {ls : List (Option Value)} {r : List Value} {h : Hp} {Z : Option Value × Hp} (hl : look k pc = some (.ldiv, np, a, b, c, v)) (hy : y ≠ 0) (t : Ev X d k np ls (.long (x / y) :: r) h Z) : Ev X d k pc ls (.long y :: .long x :: r) h Z := by
  refine Ev.s (pc' := np) (ls' := ls) (st' := .long (x / y) :: r) (h' := h) ?_ t
  unfold stq
  rw [hl]
  show stp X _ ls _ h = _
  dsimp only [stp]
  rw [decide_eq_false hy]
  rfl
/-- who is talked of on evening k of the row r -/
def rDig (n r m k : Nat) : Option Nat := if r / (n + 1) ^ (m - 1 - k) % (n + 1) = n then none else some (r / (n + 1) ^ (m - 1 - k) % (n + 1))
def dv9 : Option Nat → Int32
  | none => 9
  | some p => nI p
def rRw (s : Nat → Int32) (n : Nat) (cls : Cls) (du fd : Int32) (m r : Nat) : Nat → (Nat → Int32)
  | 0 => s
  | k + 1 => rGo (rRw s n cls du fd m r k) n cls du fd (rDig n r m k)
def better (a : Int32 × Int32 × Nat) (many cost : Int32) (r : Nat) : Int32 × Int32 × Nat := if a.1 < many then (many, cost, r) else if many = a.1 ∧ cost < a.2.1 then (many, cost, r) else a
def rAg (s : Nat → Int32) (n : Nat) (cls : Cls) (du fd : Int32) (m : Nat) : Nat → Int32 × Int32 × Nat
  | 0 => (-1, 0, 0)
  | r + 1 => better (rAg s n cls du fd m r) (rC (rSO (rRw s n cls du fd m r m) n) 6) (rRw s n cls du fd m r m 1) r
def rAgV (s : Nat → Int32) (n m w : Nat) (a : Int32 × Int32 × Nat) : Int32 := if w = 0 then a.1 else if w = 1 then a.2.1 - s 1 else if w - 10 < m then dv9 (rDig n a.2.2 m (w - 10)) else -5
theorem rPw_nI (n : Nat) : ∀ k, rPw n k = nI ((n + 1) ^ k) := by
  intro k
  induction k with
  | zero => rfl
  | succ k ih =>
    show rPw n k * (nI n + 1) = _
    rw [ih, nI_1, pk_mul, Nat.pow_succ]
theorem pw_le {n k : Nat} (hn : n ≤ 6) (hk : k ≤ 4) : 0 < (n + 1) ^ k ∧ (n + 1) ^ k ≤ 2401 := by
  refine ⟨Nat.pos_of_ne_zero (by simp), ?_⟩
  calc (n + 1) ^ k ≤ 7 ^ k := Nat.pow_le_pow_left (by omega) k
    _ ≤ 7 ^ 4 := Nat.pow_le_pow_right (by omega) hk
    _ = 2401 := by decide
theorem rDig_lt {n r m k p : Nat} (h : rDig n r m k = some p) : p < n := by
  unfold rDig at h
  split at h
  · cases h
  · cases h
    have := Nat.mod_lt (r / (n + 1) ^ (m - 1 - k)) (show 0 < n + 1 by omega)
    omega
theorem rDig_tk (n r m k : Nat) : tkV (rDig n r m k) n (match rDig n r m k with | none => -1 | some p => nI p) := by
  cases h : rDig n r m k with
  | none => show (-1 : Int32) < 0; decide
  | some p => exact ⟨rDig_lt h, rfl⟩
theorem rRw_al {s : Nat → Int32} {n : Nat} (hn6 : n ≤ 6) (cls : Cls) (du fd : Int32) (m r k : Nat) : AL s (rRw s n cls du fd m r k) := by
  induction k with
  | zero => exact fun _ _ => rfl
  | succ k ih => exact ih.tr (rGo_al hn6 cls du fd (rDig_tk n r m k))
theorem rRw_V {s : Nat → Int32} {n : Nat} {hd : Option Nat} {cls : Cls} {e : Nat} (hv : SV s n hd cls e) (du fd : Int32) (m r : Nat) : ∀ k, e + k < 1000000 → SV (rRw s n cls du fd m r k) n hd cls (e + k) := by
  intro k
  induction k with
  | zero => intro _; exact hv
  | succ k ih => intro h; exact rGo_V (ih (by omega)) (by omega) du fd (rDig_tk n r m k)
section AGENDA
variable {X : Nat × (Nat → Int32)} {d : Nat} {T : List (Nat × Nat)} {I : Nat → Nat → Int32} {G : Nat → Nat → Option Nat} {s : Nat → Int32} {n p : Nat} {hd : Option Nat} {cls : Cls} {e : Nat} {du fd : Int32}
end AGENDA
