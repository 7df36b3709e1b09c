/-! THE REFERENCE: firm, lowest, odds, mean -/
theorem upd_upd (s : Nat → Int32) (j : Nat) (x y : Int32) : upd (upd s j x) j y = upd s j y := by
  funext k
  unfold upd
  by_cases h : k = j
  · rw [if_pos h, if_pos h]
  · rw [if_neg h, if_neg h, if_neg h]
theorem SS_v {s : Nat → Int32} {b p : Nat} (hs : SS s b) (hp : p < 6) (x : Int32) : SS (upd s (39 + p) x) b := by
  refine ⟨by rw [upd_ne (by omega)]; exact hs.1, hs.2.1, fun k hk => ?_⟩
  obtain ⟨q, hq, e⟩ := hs.2.2 k hk
  exact ⟨q, hq, by rw [upd_ne (by omega)]; exact e⟩
theorem rT_ge {s u : Nat → Int32} (h : ∀ j, 222 ≤ j → u j = s j) {hd : Option Nat} {w : Nat} (hw : 222 ≤ w) (no : Int32) : rT u hd w no = rT s hd w no := by
  cases hd with
  | none => rfl
  | some k => exact h _ (by omega)
theorem DF.v {I J : Nat → Nat → Int32} {s : Nat → Int32} {hd : Option Nat} {du fd : Int32} (h : DF I s hd du fd) (hM : MF I J) {p : Nat} (hp : p < 6) (x : Int32) : DF J (upd s (39 + p) x) hd du fd := by
  refine ⟨?_, ?_⟩
  · rw [rT_ge (s := s) (fun j hj => upd_ne (by omega)) (by omega), hM.2.2.2.2.2.1]; exact h.1
  · rw [rT_ge (s := s) (fun j hj => upd_ne (by omega)) (by omega)]; exact h.2
def rGcd (part a b : Nat) : Int64 := lN ((if part = 0 then a else b) / Nat.gcd a b)
def rOd (f : Nat → Bool) : Nat → Nat
  | 0 => 0
  | v + 1 => rOd f v + (if f (v + 1) = true then 1 else 0)
def rMs (s : Nat → Int32) : Nat → Nat
  | 0 => 0
  | q + 1 => rMs s q + (if rOp s q = true then (s (8 + q)).toNatClampNeg else 0)
def rMm (s : Nat → Int32) : Nat → Nat
  | 0 => 0
  | q + 1 => rMm s q + (if rOp s q = true then 1 else 0)
def LNO : Int64 := -9223372036854775808
section ODDS
variable {X : Nat × (Nat → Int32)} {d : Nat} {T : List (Nat × Nat)} {I : Nat → Nat → Int32} {G : Nat → Nat → Option Nat} {s : Nat → Int32} {n p : Nat} {hd : Option Nat} {cls : Cls} {e : Nat} {du fd : Int32} {b : Nat}
def r01 (s : Nat → Int32) : Prop := ∀ q, q < 6 → s (14 + q) = 0 ∨ s (14 + q) = 1
theorem rG_14 (s u : Nat → Int32) (hr : Option Nat) (fd : Int32) {p : Nat} (hp : p < 6) : ∀ q, q ≤ 6 → rG s u hr fd q (14 + p) = u (14 + p) := by
  intro q
  induction q with
  | zero => intro _; rfl
  | succ q ih =>
    intro hq
    rw [← ih (by omega)]
    show gC (gA (upd _ (8 + q) _) q) q (14 + p) = _
    unfold gC gA
    rw [upd_ne (by omega), upd_ne (by omega), upd_ne (by omega)]
theorem rGo_01 {s : Nat → Int32} (h : r01 s) {n : Nat} (hn6 : n ≤ 6) (cls : Cls) (du fd : Int32) {tk : Option Nat} {x : Int32} (hx : tkV tk n x) : r01 (rGo s n cls du fd tk) := by
  intro q hq
  unfold rGo
  rw [upd_ne (by omega), rG_14 _ _ _ _ hq n hn6]
  cases hr : rHr s n tk with
  | none => exact h q hq
  | some p =>
    have := rHr_lt hx hr
    show rTalk s n p cls du (14 + q) = 0 ∨ rTalk s n p cls du (14 + q) = 1
    unfold rTalk
    by_cases hpq : q = p
    · subst hpq
      rw [upd_at]
      by_cases h9 : rTlk s n q cls < du
      · rw [if_pos h9]; exact Or.inl rfl
      · rw [if_neg h9]; exact Or.inr rfl
    · rw [upd_ne (by omega), upd_ne (by omega)]
      exact h q hq
theorem rOn_01 {s : Nat → Int32} (h : r01 s) {n : Nat} (hn6 : n ≤ 6) (cls : Cls) (du fd : Int32) (k : Nat) : r01 (rOn s n cls du fd k) := by
  induction k with
  | zero => exact h
  | succ k ih => exact rGo_01 ih hn6 cls du fd (rTop_tk _ n cls)
theorem rOd_le (f : Nat → Bool) : ∀ v, rOd f v ≤ v := by
  intro v
  induction v with
  | zero => exact Nat.le_refl _
  | succ v ih =>
    show rOd f v + (if f (v + 1) = true then 1 else 0) ≤ v + 1
    split <;> omega
end ODDS
