/-! THE REFERENCE: SUM; a station's clauses as (n, warm, tokens) -/
def tokR (t : Nat) : Int32 := match t with
  | 0 => -1
  | 1 => -2
  | 2 => -3
  | u + 3 => nI u
def tst (by' : Nat → Int32) (u : Nat) : Bool := if u / 8 % 4 = 0 then decide (by' (u % 8) < nI (u / 32)) else if u / 8 % 4 = 1 then decide (by' (u % 8) = nI (u / 32)) else decide (nI (u / 32) < by' (u % 8))
def evTok (by' : Nat → Int32) (t : Nat) (st : List Bool) : List Bool := match t with
  | 0 => match st with
    | b :: r => (!b) :: r
    | _ => st
  | 1 => match st with
    | b :: a :: r => (a && b) :: r
    | _ => st
  | 2 => match st with
    | b :: a :: r => (a || b) :: r
    | _ => st
  | u + 3 => tst by' u :: st
/-- how deep the stack is behind a token; none: it can't be -/
def dpT (t m : Nat) : Option Nat := match t with
  | 0 => if 1 ≤ m then some m else none
  | 1 => if 2 ≤ m then some (m - 1) else none
  | 2 => if 2 ≤ m then some (m - 1) else none
  | u + 3 => if u % 8 < 6 ∧ u / 8 % 4 < 3 ∧ u < 3200 ∧ m < 20 then some (m + 1) else none
def dpL : List Nat → Nat → Option Nat
  | [], m => some m
  | t :: r, m => match dpT t m with
    | some m' => dpL r m'
    | none => none
def evL (by' : Nat → Int32) : List Nat → List Bool → List Bool
  | [], st => st
  | t :: r, st => evL by' r (evTok by' t st)
abbrev Cls : Type := List (Nat × Bool × List Nat)
def endR (n : Nat) (w : Bool) : Int32 := if w = true then -10 - nI n else -200 - nI n
def clR (q : Nat × Bool × List Nat) : List Int32 := q.2.2.map tokR ++ [endR q.1 q.2.1]
def clsR : Cls → List Int32
  | [] => []
  | q :: r => clR q ++ clsR r
def clOK (cls : Cls) : Prop := ∀ q ∈ cls, q.1 ≤ 99 ∧ dpL q.2.2 0 = some 1
def addC (by' : Nat → Int32) (q : Nat × Bool × List Nat) (sum : Int32) (st : List Bool) : Int32 := if st.headD false = true then (if q.2.1 = true then sum + nI q.1 else sum - nI q.1) else sum
def sumC (by' : Nat → Int32) : Cls → Int32 → Int32
  | [], sum => sum
  | q :: r, sum => sumC by' r (addC by' q sum (evL by' q.2.2 []))
def TR (J : Nat → Nat → Int32) (st : List Bool) : Prop := ∀ (j : Nat) (b : Bool), st[j]? = some b → J 145 (st.length - 1 - j) = bI b
theorem TR_0 (J : Nat → Nat → Int32) : TR J [] := fun j b h => by simp at h
theorem TR_push {J : Nat → Nat → Int32} {st : List Bool} (h : TR J st) (b : Bool) : TR (upI J 145 st.length (bI b)) (b :: st) := by
  intro j b' hj
  cases j with
  | zero =>
    cases hj
    show upI J 145 st.length (bI b) 145 (st.length + 1 - 1 - 0) = bI b
    rw [upI_eq, show st.length + 1 - 1 - 0 = st.length by omega, upd_at]
  | succ j =>
    have hj : st[j]? = some b' := hj
    have hlt := (List.getElem?_eq_some_iff.mp hj).1
    show upI J 145 st.length (bI b) 145 (st.length + 1 - 1 - (j + 1)) = bI b'
    rw [upI_eq, upd_ne (by omega), show st.length + 1 - 1 - (j + 1) = st.length - 1 - j by omega]
    exact h j b' hj
theorem TR_tail {J : Nat → Nat → Int32} {st : List Bool} {b : Bool} (h : TR J (b :: st)) : TR J st := by
  intro j b' hj
  have hlt := (List.getElem?_eq_some_iff.mp hj).1
  have h1 := h (j + 1) b' hj
  rw [show (b :: st).length - 1 - (j + 1) = st.length - 1 - j by simp; omega] at h1
  exact h1
theorem TR_top {J : Nat → Nat → Int32} {st : List Bool} {b : Bool} (h : TR J (b :: st)) : J 145 st.length = bI b := by
  have h1 := h 0 b rfl
  rwa [show (b :: st).length - 1 - 0 = st.length by simp] at h1
theorem nI_m1 (q : Nat) : nI (q + 1) + (-1) = nI q := by
  rw [← Int32.sub_eq_add_neg, nI_pred]
theorem end_w : ∀ n, n < 100 → (-10 - nI n : Int32) < 0 ∧ (-10 - nI n : Int32) ≠ -1 ∧ (-10 - nI n : Int32) ≤ -10 ∧ ¬ (-10 - nI n : Int32) ≤ -200 ∧ (-10 - (-10 - nI n) : Int32) = nI n := by decide +kernel
theorem end_c : ∀ n, n < 100 → (-200 - nI n : Int32) < 0 ∧ (-200 - nI n : Int32) ≠ -1 ∧ (-200 - nI n : Int32) ≤ -10 ∧ (-200 - nI n : Int32) ≤ -200 ∧ (-200 - (-200 - nI n) : Int32) = nI n := by decide +kernel
theorem Ev.at {X : Nat × (Nat → Int32)} {d k pc q : Nat} {ls : List (Option Value)} {st : List Value} {h : Hp} {R : Option Value × Hp} (e : pc = q) (t : Ev X d k q ls st h R) : Ev X d k pc ls st h R := by
  subst e
  exact t
theorem Ev.ls {X : Nat × (Nat → Int32)} {d k pc : Nat} {ls ls2 : List (Option Value)} {st : List Value} {h : Hp} {R : Option Value × Hp} (e : ls = ls2) (t : Ev X d k pc ls2 st h R) : Ev X d k pc ls st h R := by
  subst e
  exact t
/-- all but the cells of P are as they were -/
def FR (P : Nat → Prop) (I I' : Nat → Nat → Int32) : Prop := ∀ q, ¬ P q → I' q = I q
theorem FR.rf {P : Nat → Prop} (I : Nat → Nat → Int32) : FR P I I := fun _ _ => rfl
theorem FR.tr {P : Nat → Prop} {I I' I'' : Nat → Nat → Int32} (h : FR P I I') (h' : FR P I' I'') : FR P I I'' := fun q hq => (h' q hq).trans (h q hq)
theorem FR.mo {P Q : Nat → Prop} {I I' : Nat → Nat → Int32} (h : FR P I I') (hs : ∀ q, P q → Q q) : FR Q I I' := fun q hq => h q (fun hp => hq (hs q hp))
theorem FR.up {P : Nat → Prop} {I : Nat → Nat → Int32} {p j : Nat} {x : Int32} (hp : P p) : FR P I (upI I p j x) := fun q hq => upI_ne (fun e => hq (e ▸ hp))
def PS (q : Nat) : Prop := q = 144 ∨ q = 145
abbrev MS (I I' : Nat → Nat → Int32) : Prop := FR PS I I'
theorem MS.up {I : Nat → Nat → Int32} {p j : Nat} {x : Int32} (hp : p = 144 ∨ p = 145) : MS I (upI I p j x) := FR.up hp
theorem MS.rf (I : Nat → Nat → Int32) : MS I I := FR.rf I
theorem MS.tr {I I' I'' : Nat → Nat → Int32} (h : MS I I') (h' : MS I' I'') : MS I I'' := FR.tr h h'
section SUM
variable {X : Nat × (Nat → Int32)} {d : Nat} {T : List (Nat × Nat)} {I : Nat → Nat → Int32} {G : Nat → Nat → Option Nat} {s : Nat → Int32} {n p : Nat}
end SUM
