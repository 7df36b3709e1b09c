/-! THE LAW'S CALLS, one by one -/
theorem Ev.sld {X : Nat × (Nat → Int32)} {d k pc np j : Nat} {ls : List (Option Value)} {r : List Value} {K : List (Nat × Nat)} {I : Nat → Nat → Int32} {G : Nat → Nat → Option Nat} {i : Int32} {Z : Option Value × Hp} (ha : arq k pc = (1, np)) (hi : i = nI j) (hj : j < X.1) (hn : X.1 < 2147483648) (t : Ev X d k np ls (.int (X.2 j) :: r) (K, I, G) Z) : Ev X d k pc ls (.int i :: .retAddr 28 :: r) (K, I, G) Z := by
  obtain ⟨a, b, c, v, h⟩ := arq_look ha (by omega)
  have h : look k pc = some (.iaload, np, a, b, c, v) := by rcases h with h | h | h | h | h | h <;> first | exact h.2 | (have := h.1; omega)
  subst hi
  refine Ev.s (pc' := np) (ls' := ls) (st' := .int (X.2 j) :: r) (h' := (K, I, G)) ?_ t
  unfold stq
  rw [h]
  show (bif oob (nI j) X.1 then none else some (np, ls, .int (X.2 (nI j).toNatClampNeg) :: r, (K, I, G))) = _
  rw [oob_nI hj hn, nI_clamp (by omega)]
  rfl
/-- what a method gives back is of its kind -/
theorem rtv_int {k : Nat} {e : Ent} {st : List Value} {r : Option Value} (hm : mR k = some .int) (h : rtv k e st = some r) : ∃ x, r = some (.int x) := by
  obtain ⟨ins, np, a, b, c, v⟩ := e
  unfold rtv at h
  dsimp only at h
  split at h
  · split at h
    · rw [hm] at h
      dsimp only at h
      cases h
      exact ⟨_, rfl⟩
    · cases h
  · split at h
    · rw [hm] at h; cases h
    · cases h
  · split at h
    · rw [hm] at h; cases h
    · rw [hm] at h; cases h
    · cases h
  · split at h
    · rw [hm] at h; cases h
    · cases h
  · cases h
theorem rtv_long {k : Nat} {e : Ent} {st : List Value} {r : Option Value} (hm : mR k = some .long) (h : rtv k e st = some r) : ∃ x, r = some (.long x) := by
  obtain ⟨ins, np, a, b, c, v⟩ := e
  unfold rtv at h
  dsimp only at h
  split at h
  · split at h
    · rw [hm] at h
      cases h
    · cases h
  · split at h
    · rw [hm] at h
      dsimp only at h
      cases h
      exact ⟨_, rfl⟩
    · cases h
  · split at h
    · rw [hm] at h; cases h
    · rw [hm] at h; cases h
    · cases h
  · split at h
    · rw [hm] at h; cases h
    · cases h
  · cases h
theorem Ev.kind {P : Option Value → Prop} {X : Nat × (Nat → Int32)} {d k pc : Nat} {ls : List (Option Value)} {st : List Value} {h h' : Hp} {r : Option Value} (hP : ∀ e st r, rtv k e st = some r → P r) (e : Ev X d k pc ls st h (r, h')) : P r := by
  obtain ⟨f, hf⟩ := e
  induction f generalizing d pc ls st h with
  | zero => simp [exec] at hf
  | succ f ih =>
    rw [exec_succ] at hf
    cases hl : look k pc with
    | none => rw [hl] at hf; simp at hf
    | some e =>
      rw [hl] at hf
      simp only at hf
      split at hf
      · cases hs : stp X e ls st h with
        | none => rw [hs] at hf; simp at hf
        | some q =>
          obtain ⟨pc', ls', st', h2⟩ := q
          rw [hs] at hf
          simp only at hf
          exact ih hf
      · cases d with
        | zero => simp at hf
        | succ d' =>
          simp only at hf
          cases hc : cle e st h with
          | none => rw [hc] at hf; simp at hf
          | some q =>
            obtain ⟨k', As, rest, np⟩ := q
            rw [hc] at hf
            simp only at hf
            cases he : exec X f d' k' 0 (ent k' As) [] h with
            | none => rw [he] at hf; simp at hf
            | some q =>
              obtain ⟨r2, h2⟩ := q
              rw [he] at hf
              simp only at hf
              exact ih hf
      · cases hr : rtv k e st with
        | none => rw [hr] at hf; simp at hf
        | some r2 =>
          rw [hr] at hf
          simp only [Option.some.injEq, Prod.mk.injEq] at hf
          rw [← hf.1]
          exact hP _ _ _ hr
theorem Ev.int {X : Nat × (Nat → Int32)} {d k pc : Nat} {ls : List (Option Value)} {st : List Value} {h h' : Hp} {r : Option Value} (hm : mR k = some .int) (e : Ev X d k pc ls st h (r, h')) : ∃ x, r = some (.int x) := e.kind (P := fun r => ∃ x, r = some (.int x)) (fun _ _ _ => rtv_int hm)
theorem Ev.long {X : Nat × (Nat → Int32)} {d k pc : Nat} {ls : List (Option Value)} {st : List Value} {h h' : Hp} {r : Option Value} (hm : mR k = some .long) (e : Ev X d k pc ls st h (r, h')) : ∃ x, r = some (.long x) := e.kind (P := fun r => ∃ x, r = some (.long x)) (fun _ _ _ => rtv_long hm)
