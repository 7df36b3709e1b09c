/-! THE PURE SIDE: the cells behind the constructors, rows for arrays -/
def K0 : List (Nat × Nat) := [(11, 8), (10, 16), (23, 6), (20, 6), (20, 6), (20, 6), (20, 6), (20, 6), (20, 24), (20, 6), (8, 10), (20, 10), (20, 10), (20, 100), (21, 0), (3, 12), (21, 100), (20, 5), (20, 5), (20, 8), (20, 8), (20, 8), (20, 8), (10, 16), (23, 6), (20, 6), (20, 6), (20, 6), (20, 6), (20, 6), (20, 24), (20, 6), (8, 10), (20, 10), (20, 10), (20, 100), (21, 0), (3, 12), (21, 100), (20, 5), (20, 5), (20, 8), (20, 8), (20, 8), (20, 8), (0, 9), (10, 16), (23, 6), (20, 6), (20, 6), (20, 6), (20, 6), (20, 6), (20, 24), (20, 6), (8, 10), (20, 10), (20, 10), (20, 100), (21, 0), (24, 5), (20, 4), (20, 4), (20, 64), (10, 16), (23, 6), (20, 6), (20, 6), (20, 6), (20, 6), (20, 6), (20, 24), (20, 6), (8, 10), (20, 10), (20, 10), (20, 100), (21, 0), (10, 16), (23, 6), (20, 6), (20, 6), (20, 6), (20, 6), (20, 6), (20, 24), (20, 6), (8, 10), (20, 10), (20, 10), (20, 100), (21, 0), (10, 16), (23, 6), (20, 6), (20, 6), (20, 6), (20, 6), (20, 6), (20, 24), (20, 6), (8, 10), (20, 10), (20, 10), (20, 100), (21, 0), (10, 16), (23, 6), (20, 6), (20, 6), (20, 6), (20, 6), (20, 6), (20, 24), (20, 6), (8, 10), (20, 10), (20, 10), (20, 100), (21, 0), (10, 16), (23, 6), (20, 6), (20, 6), (20, 6), (20, 6), (20, 6), (20, 24), (20, 6), (8, 10), (20, 10), (20, 10), (20, 100), (21, 0), (20, 21), (8, 10), (20, 10), (20, 10), (20, 100), (21, 0)]
def sr (p i : Nat) : Option Nat := bif Nat.blt p 64 then (bif Nat.blt p 32 then (bif Nat.blt p 10 then (bif Nat.blt p 1 then (bif Nat.beq p 0 then (bif Nat.blt i 3 then (bif Nat.blt i 1 then (bif Nat.beq i 0 then some 1 else none) else (bif Nat.blt i 2 then (bif Nat.beq i 1 then some 15 else none) else (bif Nat.beq i 2 then some 23 else none))) else (bif Nat.blt i 4 then (bif Nat.beq i 3 then some 37 else none) else (bif Nat.blt i 5 then (bif Nat.beq i 4 then some 45 else none) else (bif Nat.beq i 5 then some 134 else none)))) else none) else (bif Nat.beq p 1 then (bif Nat.blt i 4 then (bif Nat.blt i 2 then (bif Nat.blt i 1 then (bif Nat.beq i 0 then some 2 else none) else (bif Nat.beq i 1 then some 3 else none)) else (bif Nat.blt i 3 then (bif Nat.beq i 2 then some 4 else none) else (bif Nat.beq i 3 then some 5 else none))) else (bif Nat.blt i 6 then (bif Nat.blt i 5 then (bif Nat.beq i 4 then some 6 else none) else (bif Nat.beq i 5 then some 7 else none)) else (bif Nat.blt i 7 then (bif Nat.beq i 6 then some 8 else none) else (bif Nat.beq i 7 then some 9 else none)))) else none)) else (bif Nat.blt p 15 then (bif Nat.beq p 10 then (bif Nat.blt i 4 then (bif Nat.beq i 3 then some 11 else none) else (bif Nat.blt i 5 then (bif Nat.beq i 4 then some 12 else none) else (bif Nat.beq i 5 then some 13 else none))) else none) else (bif Nat.blt p 23 then (bif Nat.beq p 15 then (bif Nat.blt i 6 then (bif Nat.blt i 2 then (bif Nat.beq i 0 then some 16 else none) else (bif Nat.blt i 3 then (bif Nat.beq i 2 then some 17 else none) else (bif Nat.beq i 3 then some 18 else none))) else (bif Nat.blt i 9 then (bif Nat.blt i 7 then (bif Nat.beq i 6 then some 19 else none) else (bif Nat.beq i 7 then some 20 else none)) else (bif Nat.blt i 10 then (bif Nat.beq i 9 then some 21 else none) else (bif Nat.beq i 10 then some 22 else none)))) else none) else (bif Nat.beq p 23 then (bif Nat.blt i 4 then (bif Nat.blt i 2 then (bif Nat.blt i 1 then (bif Nat.beq i 0 then some 24 else none) else (bif Nat.beq i 1 then some 25 else none)) else (bif Nat.blt i 3 then (bif Nat.beq i 2 then some 26 else none) else (bif Nat.beq i 3 then some 27 else none))) else (bif Nat.blt i 6 then (bif Nat.blt i 5 then (bif Nat.beq i 4 then some 28 else none) else (bif Nat.beq i 5 then some 29 else none)) else (bif Nat.blt i 7 then (bif Nat.beq i 6 then some 30 else none) else (bif Nat.beq i 7 then some 31 else none)))) else none)))) else (bif Nat.blt p 46 then (bif Nat.blt p 37 then (bif Nat.beq p 32 then (bif Nat.blt i 4 then (bif Nat.beq i 3 then some 33 else none) else (bif Nat.blt i 5 then (bif Nat.beq i 4 then some 34 else none) else (bif Nat.beq i 5 then some 35 else none))) else none) else (bif Nat.blt p 45 then (bif Nat.beq p 37 then (bif Nat.blt i 6 then (bif Nat.blt i 2 then (bif Nat.beq i 0 then some 38 else none) else (bif Nat.blt i 3 then (bif Nat.beq i 2 then some 39 else none) else (bif Nat.beq i 3 then some 40 else none))) else (bif Nat.blt i 9 then (bif Nat.blt i 7 then (bif Nat.beq i 6 then some 41 else none) else (bif Nat.beq i 7 then some 42 else none)) else (bif Nat.blt i 10 then (bif Nat.beq i 9 then some 43 else none) else (bif Nat.beq i 10 then some 44 else none)))) else none) else (bif Nat.beq p 45 then (bif Nat.blt i 2 then (bif Nat.blt i 1 then (bif Nat.beq i 0 then some 46 else none) else (bif Nat.beq i 1 then some 60 else none)) else (bif Nat.blt i 3 then (bif Nat.beq i 2 then some 61 else none) else (bif Nat.blt i 8 then (bif Nat.beq i 3 then some 62 else none) else (bif Nat.beq i 8 then some 63 else none)))) else none))) else (bif Nat.blt p 55 then (bif Nat.beq p 46 then (bif Nat.blt i 4 then (bif Nat.blt i 2 then (bif Nat.blt i 1 then (bif Nat.beq i 0 then some 47 else none) else (bif Nat.beq i 1 then some 48 else none)) else (bif Nat.blt i 3 then (bif Nat.beq i 2 then some 49 else none) else (bif Nat.beq i 3 then some 50 else none))) else (bif Nat.blt i 6 then (bif Nat.blt i 5 then (bif Nat.beq i 4 then some 51 else none) else (bif Nat.beq i 5 then some 52 else none)) else (bif Nat.blt i 7 then (bif Nat.beq i 6 then some 53 else none) else (bif Nat.beq i 7 then some 54 else none)))) else none) else (bif Nat.blt p 60 then (bif Nat.beq p 55 then (bif Nat.blt i 4 then (bif Nat.beq i 3 then some 56 else none) else (bif Nat.blt i 5 then (bif Nat.beq i 4 then some 57 else none) else (bif Nat.beq i 5 then some 58 else none))) else none) else (bif Nat.beq p 60 then (bif Nat.blt i 2 then (bif Nat.blt i 1 then (bif Nat.beq i 0 then some 64 else none) else (bif Nat.beq i 1 then some 78 else none)) else (bif Nat.blt i 3 then (bif Nat.beq i 2 then some 92 else none) else (bif Nat.blt i 4 then (bif Nat.beq i 3 then some 106 else none) else (bif Nat.beq i 4 then some 120 else none)))) else none))))) else (bif Nat.blt p 101 then (bif Nat.blt p 78 then (bif Nat.blt p 73 then (bif Nat.beq p 64 then (bif Nat.blt i 4 then (bif Nat.blt i 2 then (bif Nat.blt i 1 then (bif Nat.beq i 0 then some 65 else none) else (bif Nat.beq i 1 then some 66 else none)) else (bif Nat.blt i 3 then (bif Nat.beq i 2 then some 67 else none) else (bif Nat.beq i 3 then some 68 else none))) else (bif Nat.blt i 6 then (bif Nat.blt i 5 then (bif Nat.beq i 4 then some 69 else none) else (bif Nat.beq i 5 then some 70 else none)) else (bif Nat.blt i 7 then (bif Nat.beq i 6 then some 71 else none) else (bif Nat.beq i 7 then some 72 else none)))) else none) else (bif Nat.beq p 73 then (bif Nat.blt i 4 then (bif Nat.beq i 3 then some 74 else none) else (bif Nat.blt i 5 then (bif Nat.beq i 4 then some 75 else none) else (bif Nat.beq i 5 then some 76 else none))) else none)) else (bif Nat.blt p 87 then (bif Nat.beq p 78 then (bif Nat.blt i 4 then (bif Nat.blt i 2 then (bif Nat.blt i 1 then (bif Nat.beq i 0 then some 79 else none) else (bif Nat.beq i 1 then some 80 else none)) else (bif Nat.blt i 3 then (bif Nat.beq i 2 then some 81 else none) else (bif Nat.beq i 3 then some 82 else none))) else (bif Nat.blt i 6 then (bif Nat.blt i 5 then (bif Nat.beq i 4 then some 83 else none) else (bif Nat.beq i 5 then some 84 else none)) else (bif Nat.blt i 7 then (bif Nat.beq i 6 then some 85 else none) else (bif Nat.beq i 7 then some 86 else none)))) else none) else (bif Nat.blt p 92 then (bif Nat.beq p 87 then (bif Nat.blt i 4 then (bif Nat.beq i 3 then some 88 else none) else (bif Nat.blt i 5 then (bif Nat.beq i 4 then some 89 else none) else (bif Nat.beq i 5 then some 90 else none))) else none) else (bif Nat.beq p 92 then (bif Nat.blt i 4 then (bif Nat.blt i 2 then (bif Nat.blt i 1 then (bif Nat.beq i 0 then some 93 else none) else (bif Nat.beq i 1 then some 94 else none)) else (bif Nat.blt i 3 then (bif Nat.beq i 2 then some 95 else none) else (bif Nat.beq i 3 then some 96 else none))) else (bif Nat.blt i 6 then (bif Nat.blt i 5 then (bif Nat.beq i 4 then some 97 else none) else (bif Nat.beq i 5 then some 98 else none)) else (bif Nat.blt i 7 then (bif Nat.beq i 6 then some 99 else none) else (bif Nat.beq i 7 then some 100 else none)))) else none)))) else (bif Nat.blt p 120 then (bif Nat.blt p 106 then (bif Nat.beq p 101 then (bif Nat.blt i 4 then (bif Nat.beq i 3 then some 102 else none) else (bif Nat.blt i 5 then (bif Nat.beq i 4 then some 103 else none) else (bif Nat.beq i 5 then some 104 else none))) else none) else (bif Nat.blt p 115 then (bif Nat.beq p 106 then (bif Nat.blt i 4 then (bif Nat.blt i 2 then (bif Nat.blt i 1 then (bif Nat.beq i 0 then some 107 else none) else (bif Nat.beq i 1 then some 108 else none)) else (bif Nat.blt i 3 then (bif Nat.beq i 2 then some 109 else none) else (bif Nat.beq i 3 then some 110 else none))) else (bif Nat.blt i 6 then (bif Nat.blt i 5 then (bif Nat.beq i 4 then some 111 else none) else (bif Nat.beq i 5 then some 112 else none)) else (bif Nat.blt i 7 then (bif Nat.beq i 6 then some 113 else none) else (bif Nat.beq i 7 then some 114 else none)))) else none) else (bif Nat.beq p 115 then (bif Nat.blt i 4 then (bif Nat.beq i 3 then some 116 else none) else (bif Nat.blt i 5 then (bif Nat.beq i 4 then some 117 else none) else (bif Nat.beq i 5 then some 118 else none))) else none))) else (bif Nat.blt p 129 then (bif Nat.beq p 120 then (bif Nat.blt i 4 then (bif Nat.blt i 2 then (bif Nat.blt i 1 then (bif Nat.beq i 0 then some 121 else none) else (bif Nat.beq i 1 then some 122 else none)) else (bif Nat.blt i 3 then (bif Nat.beq i 2 then some 123 else none) else (bif Nat.beq i 3 then some 124 else none))) else (bif Nat.blt i 6 then (bif Nat.blt i 5 then (bif Nat.beq i 4 then some 125 else none) else (bif Nat.beq i 5 then some 126 else none)) else (bif Nat.blt i 7 then (bif Nat.beq i 6 then some 127 else none) else (bif Nat.beq i 7 then some 128 else none)))) else none) else (bif Nat.blt p 135 then (bif Nat.beq p 129 then (bif Nat.blt i 4 then (bif Nat.beq i 3 then some 130 else none) else (bif Nat.blt i 5 then (bif Nat.beq i 4 then some 131 else none) else (bif Nat.beq i 5 then some 132 else none))) else none) else (bif Nat.beq p 135 then (bif Nat.blt i 4 then (bif Nat.beq i 3 then some 136 else none) else (bif Nat.blt i 5 then (bif Nat.beq i 4 then some 137 else none) else (bif Nat.beq i 5 then some 138 else none))) else none)))))
def RS (G : Nat → Nat → Option Nat) : Nat → Nat → Option Nat := fun p i => match sr p i with
  | some q => some q
  | none => G p i
theorem RS_up {G : Nat → Nat → Option Nat} {p i : Nat} {v : Option Nat} (h : sr p i = none) : upR (RS G) p i v = RS (upR G p i v) := by
  funext q j
  unfold upR RS
  by_cases hq : q = p ∧ j = i
  · obtain ⟨rfl, rfl⟩ := hq
    simp [h]
  · simp [hq]
theorem Ev.br {X : Nat × (Nat → Int32)} {d k a b : Nat} {c : Bool} {ls : List (Option Value)} {st : List Value} {h : Hp} {R : Option Value × Hp} (h1 : c = true → Ev X d k a ls st h R) (h2 : c = false → Ev X d k b ls st h R) : Ev X d k (bif c then a else b) ls st h R := by
  cases c
  · exact h2 rfl
  · exact h1 rfl
/-- the place behind an instruction that reads or writes an array: 1 iaload, 2 iastore, 3 baload, 4 bastore, 5 aaload, 6 aastore -/
def arq (k pc : Nat) : Nat × Nat := match look k pc with
  | some (.iaload, np, _, _, _, _) => (1, np)
  | some (.iastore, np, _, _, _, _) => (2, np)
  | some (.baload, np, _, _, _, _) => (3, np)
  | some (.bastore, np, _, _, _, _) => (4, np)
  | some (.aaload, np, _, _, _, _) => (5, np)
  | some (.aastore, np, _, _, _, _) => (6, np)
  | _ => (0, 0)
theorem oob_nI {j n : Nat} (hj : j < n) (hn : n < 2147483648) : oob (nI j) n = false := by
  have h := vp_in_nI hj (by omega : n < 2 ^ 31)
  unfold vp_in at h
  unfold oob
  exact decide_eq_false h
theorem arq_look {k pc t np : Nat} (h : arq k pc = (t, np)) (ht : 0 < t) : ∃ a b c v, (t = 1 ∧ look k pc = some (.iaload, np, a, b, c, v)) ∨ (t = 2 ∧ look k pc = some (.iastore, np, a, b, c, v)) ∨ (t = 3 ∧ look k pc = some (.baload, np, a, b, c, v)) ∨ (t = 4 ∧ look k pc = some (.bastore, np, a, b, c, v)) ∨ (t = 5 ∧ look k pc = some (.aaload, np, a, b, c, v)) ∨ (t = 6 ∧ look k pc = some (.aastore, np, a, b, c, v)) := by
  unfold arq at h
  split at h
  · rename_i np' a b c v hl; cases h; exact ⟨a, b, c, v, Or.inl ⟨rfl, hl⟩⟩
  · rename_i np' a b c v hl; cases h; exact ⟨a, b, c, v, Or.inr (Or.inl ⟨rfl, hl⟩)⟩
  · rename_i np' a b c v hl; cases h; exact ⟨a, b, c, v, Or.inr (Or.inr (Or.inl ⟨rfl, hl⟩))⟩
  · rename_i np' a b c v hl; cases h; exact ⟨a, b, c, v, Or.inr (Or.inr (Or.inr (Or.inl ⟨rfl, hl⟩)))⟩
  · rename_i np' a b c v hl; cases h; exact ⟨a, b, c, v, Or.inr (Or.inr (Or.inr (Or.inr (Or.inl ⟨rfl, hl⟩))))⟩
  · rename_i np' a b c v hl; cases h; exact ⟨a, b, c, v, Or.inr (Or.inr (Or.inr (Or.inr (Or.inr ⟨rfl, hl⟩))))⟩
  · cases h; omega
section ARR
variable {X : Nat × (Nat → Int32)} {d k pc np p n j : Nat} {i : Int32} {ls : List (Option Value)} {r : List Value} {K : List (Nat × Nat)} {I : Nat → Nat → Int32} {G : Nat → Nat → Option Nat} {Z : Option Value × Hp}
theorem Ev.iald (ha : arq k pc = (1, np)) (hk : K[p]? = some (20, n)) (hi : i = nI j) (hj : j < n) (hn : n < 2147483648) (t : Ev X d k np ls (.int (I p j) :: r) (K, I, G) Z) : Ev X d k pc ls (.int i :: .ref p :: r) (K, I, G) Z := by
  obtain ⟨a, b, c, v, h⟩ := arq_look ha (by omega)
  have h : look k pc = some (.iaload, np, a, b, c, v) := by rcases h with h | h | h | h | h | h <;> first | exact h.2 | (have := h.1; omega)
  subst hi
  refine Ev.s (pc' := np) (ls' := ls) (st' := .int (I p j) :: r) (h' := (K, I, G)) ?_ t
  unfold stq
  rw [h]
  show stp X _ ls _ (K, I, G) = _
  dsimp only [stp]
  rw [hk]
  dsimp only
  rw [oob_nI hj hn, nI_clamp (by omega)]
  rfl
theorem Ev.iast {x : Int32} (ha : arq k pc = (2, np)) (hk : K[p]? = some (20, n)) (hi : i = nI j) (hj : j < n) (hn : n < 2147483648) (t : Ev X d k np ls r (K, upI I p j x, G) Z) : Ev X d k pc ls (.int x :: .int i :: .ref p :: r) (K, I, G) Z := by
  obtain ⟨a, b, c, v, h⟩ := arq_look ha (by omega)
  have h : look k pc = some (.iastore, np, a, b, c, v) := by rcases h with h | h | h | h | h | h <;> first | exact h.2 | (have := h.1; omega)
  subst hi
  refine Ev.s (pc' := np) (ls' := ls) (st' := r) (h' := (K, upI I p j x, G)) ?_ t
  unfold stq
  rw [h]
  show stp X _ ls _ (K, I, G) = _
  dsimp only [stp]
  rw [hk]
  dsimp only
  rw [oob_nI hj hn, nI_clamp (by omega)]
  rfl
theorem Ev.bald {tg : Nat} (ha : arq k pc = (3, np)) (hk : K[p]? = some (tg, n)) (ht : tg = 21 ∨ tg = 22) (hi : i = nI j) (hj : j < n) (hn : n < 2147483648) (t : Ev X d k np ls (.int (I p j) :: r) (K, I, G) Z) : Ev X d k pc ls (.int i :: .ref p :: r) (K, I, G) Z := by
  obtain ⟨a, b, c, v, h⟩ := arq_look ha (by omega)
  have h : look k pc = some (.baload, np, a, b, c, v) := by rcases h with h | h | h | h | h | h <;> first | exact h.2 | (have := h.1; omega)
  subst hi
  refine Ev.s (pc' := np) (ls' := ls) (st' := .int (I p j) :: r) (h' := (K, I, G)) ?_ t
  unfold stq
  rw [h]
  show stp X _ ls _ (K, I, G) = _
  dsimp only [stp]
  rw [hk]
  dsimp only
  rw [oob_nI hj hn, nI_clamp (by omega)]
  rcases ht with rfl | rfl <;> rfl
theorem Ev.bast {tg : Nat} {x : Int32} (ha : arq k pc = (4, np)) (hk : K[p]? = some (tg, n)) (ht : tg = 21 ∨ tg = 22) (hx : okc tg x = true) (hi : i = nI j) (hj : j < n) (hn : n < 2147483648) (t : Ev X d k np ls r (K, upI I p j x, G) Z) : Ev X d k pc ls (.int x :: .int i :: .ref p :: r) (K, I, G) Z := by
  obtain ⟨a, b, c, v, h⟩ := arq_look ha (by omega)
  have h : look k pc = some (.bastore, np, a, b, c, v) := by rcases h with h | h | h | h | h | h <;> first | exact h.2 | (have := h.1; omega)
  subst hi
  refine Ev.s (pc' := np) (ls' := ls) (st' := r) (h' := (K, upI I p j x, G)) ?_ t
  unfold stq
  rw [h]
  show stp X _ ls _ (K, I, G) = _
  dsimp only [stp]
  rw [hk]
  dsimp only
  rw [oob_nI hj hn, nI_clamp (by omega), hx]
  rcases ht with rfl | rfl <;> rfl
theorem Ev.aald {tg : Nat} (ha : arq k pc = (5, np)) (hk : K[p]? = some (tg, n)) (ht : tg = 23 ∨ tg = 24) (hi : i = nI j) (hj : j < n) (hn : n < 2147483648) (t : Ev X d k np ls (xv (G p j) :: r) (K, I, G) Z) : Ev X d k pc ls (.int i :: .ref p :: r) (K, I, G) Z := by
  obtain ⟨a, b, c, v, h⟩ := arq_look ha (by omega)
  have h : look k pc = some (.aaload, np, a, b, c, v) := by rcases h with h | h | h | h | h | h <;> first | exact h.2 | (have := h.1; omega)
  subst hi
  refine Ev.s (pc' := np) (ls' := ls) (st' := xv (G p j) :: r) (h' := (K, I, G)) ?_ t
  unfold stq
  rw [h]
  show stp X _ ls _ (K, I, G) = _
  dsimp only [stp]
  rw [hk]
  dsimp only
  rw [oob_nI hj hn, nI_clamp (by omega)]
  rcases ht with rfl | rfl <;> rfl
end ARR
/-- a step that isn't one on an array -/
theorem Ev.p {X : Nat × (Nat → Int32)} {d k pc pc' : Nat} {ls ls' : List (Option Value)} {st st' : List Value} {h h' : Hp} {R : Option Value × Hp} (_ : arq k pc = (0, 0)) (hs : stq X k pc ls st h = some (pc', ls', st', h')) (t : Ev X d k pc' ls' st' h' R) : Ev X d k pc ls st h R := Ev.s hs t
theorem cb_eq {x y : Int32} : cb .eq x y = decide (x = y) := rfl
theorem cb_ne {x y : Int32} : cb .ne x y = decide (x ≠ y) := rfl
theorem cb_lt {x y : Int32} : cb .lt x y = decide (x < y) := rfl
theorem cb_ge {x y : Int32} : cb .ge x y = decide (y ≤ x) := rfl
theorem cb_gt {x y : Int32} : cb .gt x y = decide (y < x) := rfl
theorem cb_le {x y : Int32} : cb .le x y = decide (x ≤ y) := rfl
/-- branches, by what they ask -/
theorem Ev.bp {X : Nat × (Nat → Int32)} {d k a b : Nat} {c : Bool} {P : Prop} [Decidable P] {ls : List (Option Value)} {st : List Value} {h : Hp} {R : Option Value × Hp} (hc : c = decide P) (h1 : P → Ev X d k a ls st h R) (h2 : ¬ P → Ev X d k b ls st h R) : Ev X d k (bif c then a else b) ls st h R := by
  subst hc
  exact Ev.br (fun q => h1 (of_decide_eq_true q)) (fun q => h2 (of_decide_eq_false q))

