/-! FEWER LOCALS: what a run does with fewer locals known it does with more -/
def LE (ls ls' : List (Option Value)) : Prop := ls.length = ls'.length ∧ ∀ (i : Nat) (v : Value), ls[i]? = some (some v) → ls'[i]? = some (some v)
def isLoc (ins : Instr) : Bool := match ins with
  | .iload _ => true
  | .iload_n _ => true
  | .lload _ => true
  | .lload_n _ => true
  | .aload _ => true
  | .aload_n _ => true
  | .istore _ => true
  | .istore_n _ => true
  | .lstore _ => true
  | .lstore_n _ => true
  | .astore _ => true
  | .astore_n _ => true
  | .iinc _ _ => true
  | _ => false
set_option maxHeartbeats 8000000 in
theorem stp_other {X : Nat × (Nat → Int32)} {e : Ent} (hl : isLoc e.1 = false) (ls ls' : List (Option Value)) (st : List Value) (h : Hp) : stp X e ls' st h = (stp X e ls st h).map (fun q => (q.1, ls', q.2.2.1, q.2.2.2)) := by
  obtain ⟨ins, np, a, b, c0, v⟩ := e
  cases ins
  all_goals dsimp only [stp, isLoc] at hl ⊢
  all_goals (try (cases hl; done))
  all_goals (try rfl)
  all_goals (try simp only [cond_eq_ite])
  all_goals (repeat' split)
  all_goals (first | rfl | simp_all)
theorem LE.set {ls ls' : List (Option Value)} (h : LE ls ls') (i : Nat) (v : Option Value) : LE (ls.set i v) (ls'.set i v) := by
  refine ⟨by simp [h.1], fun j w hj => ?_⟩
  rw [List.getElem?_set] at hj ⊢
  by_cases hij : i = j
  · rw [if_pos hij] at hj ⊢
    rw [← h.1]
    exact hj
  · rw [if_neg hij] at hj ⊢
    exact h.2 j w hj
theorem LE.clr {ls ls' : List (Option Value)} (h : LE ls ls') (i : Nat) : LE (ls.set i none) ls' := by
  refine ⟨by simp [h.1], fun j w hj => ?_⟩
  rw [List.getElem?_set] at hj
  by_cases hij : i = j
  · rw [if_pos hij] at hj
    split at hj <;> simp at hj
  · rw [if_neg hij] at hj
    exact h.2 j w hj
theorem LE.drl {ls ls' : List (Option Value)} (h : LE ls ls') (i : Nat) : LE (drl ls i) (drl ls' i) := by
  cases i with
  | zero => exact h
  | succ j =>
    show LE (Jvm.Pilot.@@N@@.drl ls (j + 1)) (Jvm.Pilot.@@N@@.drl ls' (j + 1))
    simp only [Jvm.Pilot.@@N@@.drl]
    cases hj : ls[j]? with
    | none =>
      have hj' : ls'[j]? = none := by
        rw [List.getElem?_eq_none_iff] at hj ⊢
        rw [← h.1]; exact hj
      rw [hj']
      exact h
    | some o =>
      cases o with
      | some w =>
        rw [h.2 j w hj]
        dsimp only
        cases Nat.beq w.category 2
        · exact h
        · exact h.set j none
      | none =>
        dsimp only
        cases hj' : ls'[j]? with
        | none => exact h
        | some o' =>
          cases o' with
          | none => exact h
          | some w =>
            dsimp only
            cases Nat.beq w.category 2
            · exact h
            · refine ⟨by simp [h.1], fun k w' hk => ?_⟩
              rw [cond_true, List.getElem?_set]
              by_cases hjk : j = k
              · subst hjk
                rw [hj] at hk
                cases hk
              · rw [if_neg hjk]
                exact h.2 k w' hk
theorem LE.sto1 {ls ls' : List (Option Value)} (h : LE ls ls') (i : Nat) (v : Value) : LE (sto1 ls i v) (sto1 ls' i v) := (h.drl i).set i (some v)
theorem LE.sto2 {ls ls' : List (Option Value)} (h : LE ls ls') (i : Nat) (v : Value) : LE (sto2 ls i v) (sto2 ls' i v) := ((h.drl i).set i (some v)).set (i + 1) Option.none
set_option maxHeartbeats 8000000 in
theorem stp_le {X : Nat × (Nat → Int32)} {e : Ent} {ls ls' l1 : List (Option Value)} {st st' : List Value} {h h' : Hp} {pc' : Nat} (hle : LE ls ls') (hs : stp X e ls st h = some (pc', l1, st', h')) : ∃ l1', stp X e ls' st h = some (pc', l1', st', h') ∧ LE l1 l1' := by
  cases hl : isLoc e.1 with
  | false =>
    have h1 := stp_other (X := X) hl ls ls' st h
    have h2 := stp_other (X := X) hl ls ls st h
    rw [hs] at h1 h2
    simp only [Option.map_some, Option.some.injEq, Prod.mk.injEq] at h2
    obtain ⟨-, h3, -⟩ := h2
    subst h3
    exact ⟨ls', h1, hle⟩
  | true =>
    obtain ⟨ins, np, a, b, c0, v⟩ := e
    cases ins
    all_goals dsimp only [isLoc] at hl
    all_goals (try (cases hl; done))
    all_goals dsimp only [stp] at hs ⊢
    all_goals split at hs
    all_goals (try (cases hs; done))
    all_goals cases hs
    all_goals (first
      | (rename_i hv; rw [hle.2 _ _ hv]; exact ⟨_, rfl, hle⟩)
      | (rename_i hv; rw [hle.2 _ _ hv]; exact ⟨_, rfl, hle.sto1 _ _⟩)
      | exact ⟨_, rfl, hle.sto1 _ _⟩
      | exact ⟨_, rfl, hle.sto2 _ _⟩)
theorem exec_loc {X : Nat × (Nat → Int32)} : ∀ (f d k pc : Nat) (ls ls' : List (Option Value)) (st : List Value) (h : Hp) (R : Option Value × Hp), LE ls ls' → exec X f d k pc ls st h = some R → exec X f d k pc ls' st h = some R := by
  intro f
  induction f with
  | zero => intro d k pc ls ls' st h R hle hR; simp [exec] at hR
  | succ f ih =>
    intro d k pc ls ls' st h R hle hR
    rw [exec_succ] at hR ⊢
    cases hl : look k pc with
    | none => rw [hl] at hR; simp at hR
    | some e =>
      rw [hl] at hR
      simp only at hR ⊢
      split at hR
      · cases hs : stp X e ls st h with
        | none => rw [hs] at hR; simp at hR
        | some q =>
          obtain ⟨pc', l1, st', h'⟩ := q
          obtain ⟨l1', e1, e2⟩ := stp_le hle hs
          rw [hs] at hR
          rw [e1]
          simp only at hR ⊢
          exact ih _ _ _ _ _ _ _ _ e2 hR
      · cases d with
        | zero => simp at hR
        | succ d' =>
          simp only at hR ⊢
          cases hc : cle e st h with
          | none => rw [hc] at hR; simp at hR
          | some q =>
            obtain ⟨k', As, rest, np⟩ := q
            rw [hc] at hR
            simp only at hR ⊢
            cases he : exec X f d' k' 0 (ent k' As) [] h with
            | none => rw [he] at hR; simp at hR
            | some q =>
              obtain ⟨r, h'⟩ := q
              rw [he] at hR
              simp only at hR ⊢
              exact ih _ _ _ _ _ _ _ _ hle hR
      · exact hR
/-- fewer locals first -/
theorem Ev.fg {X : Nat × (Nat → Int32)} {d k pc : Nat} {ls ls' : List (Option Value)} {st : List Value} {h : Hp} {R : Option Value × Hp} (hle : LE ls ls') (t : Ev X d k pc ls st h R) : Ev X d k pc ls' st h R := by
  obtain ⟨f, hf⟩ := t
  exact ⟨f, exec_loc _ _ _ _ _ _ _ _ _ hle hf⟩
def leB : List (Option Value) → List (Option Value) → Prop
  | [], [] => True
  | none :: r, _ :: r' => leB r r'
  | some v :: r, some w :: r' => v = w ∧ leB r r'
  | _, _ => False
theorem le_of : ∀ {ls ls' : List (Option Value)}, leB ls ls' → LE ls ls'
  | [], [], _ => ⟨rfl, fun i v h => by simp at h⟩
  | none :: r, w :: r', h => by
    have h1 := le_of (ls := r) (ls' := r') h
    refine ⟨by simp [h1.1], fun i v hi => ?_⟩
    cases i with
    | zero => simp at hi
    | succ i => exact h1.2 i v hi
  | some v :: r, some w :: r', h => by
    obtain ⟨rfl, h⟩ := h
    have h1 := le_of (ls := r) (ls' := r') h
    refine ⟨by simp [h1.1], fun i v hi => ?_⟩
    cases i with
    | zero => exact hi
    | succ i => exact h1.2 i v hi
  | [], _ :: _, h => by cases h
  | some _ :: _, none :: _, h => by cases h
  | some _ :: _, [], h => by cases h
  | none :: _, [], h => by cases h
