/-! THE REFERENCE: talk, pass, on, when -/
def rPs (s : Nat → Int32) (n : Nat) (cls : Cls) (du fd : Int32) : Nat → (Nat → Int32)
  | 0 => s
  | k + 1 => rGo (rPs s n cls du fd k) n cls du fd none
theorem rPs_al {s : Nat → Int32} {n : Nat} (hn6 : n ≤ 6) (cls : Cls) (du fd : Int32) (k : Nat) : AL s (rPs s n cls du fd k) := by
  induction k with
  | zero => exact fun _ _ => rfl
  | succ k ih => exact ih.tr (rGo_al (tk := none) (x := -1) hn6 cls du fd (by show (-1 : Int32) < 0; decide))
theorem rPs_V {s : Nat → Int32} {n : Nat} {hd : Option Nat} {cls : Cls} {e : Nat} (hv : SV s n hd cls e) (du fd : Int32) : ∀ k, e + k < 1000000 → SV (rPs s n cls du fd k) n hd cls (e + k) := by
  intro k
  induction k with
  | zero => intro _; exact hv
  | succ k ih => intro h; exact rGo_V (tk := none) (x := -1) (ih (by omega)) (by omega) du fd (by show (-1 : Int32) < 0; decide)
/-- COST and AGE stay below where they would be held -/
def cap (u : Nat → Int32) (n : Nat) : Prop := ¬ (999999 : Int32) < u 1 ∧ ∀ q, q < n → ¬ (9999 : Int32) < u (2 + q)
theorem DF.mf {I I' : Nat → Nat → Int32} {s u : Nat → Int32} {hd : Option Nat} {du fd : Int32} (h : DF I s hd du fd) (ha : AL s u) (hM : MF I I') : DF I' u hd du fd := by
  refine ⟨?_, ?_⟩
  · rw [ha.T (by omega), hM.2.2.2.2.2.1]; exact h.1
  · rw [ha.T (by omega)]; exact h.2
theorem mix_back {s u : Nat → Int32} (g : Nat → Int32) (h : AL s u) : mixf (mixf s g 26) u 26 = s := by
  funext j
  unfold mixf
  by_cases hj : j < 26
  · rw [if_pos hj, if_pos hj]
  · rw [if_neg hj]; exact h j (by omega)
section ASK
variable {X : Nat × (Nat → Int32)} {d : Nat} {T : List (Nat × Nat)} {I : Nat → Nat → Int32} {G : Nat → Nat → Option Nat} {s : Nat → Int32} {n p : Nat} {hd : Option Nat} {cls : Cls} {e : Nat} {du fd : Int32}
def rOnV (u : Nat → Int32) (n : Nat) (w : Nat) : Int32 := if w = 0 then rSO u n else if w = 1 then u 1 else u (8 + (w - 10))
/-- the first of the evenings up to m behind which f holds -/
def fst (f : Nat → Bool) : Nat → Nat → Option Nat
  | 0, _ => none
  | m + 1, q => if f q = true then some q else fst f m (q + 1)
def rSet (s : Nat → Int32) (n : Nat) (cls : Cls) (du fd : Int32) (p : Nat) (k : Nat) : Bool := decide (rOn s n cls du fd k (14 + p) = 1)
end ASK
