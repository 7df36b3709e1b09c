/-! A STATION'S TEXT, as both sides read it: t the signs, z how many -/
def pk (t : Nat → Int32) (z a : Nat) : Int32 := if a < z then t a else -1
def isD (c : Int32) : Bool := decide (48 ≤ c ∧ c ≤ 57)
def dg (c : Int32) : Nat := (c - 48).toNatClampNeg
/-- a number, and where it ends -/
def pN (t : Nat → Int32) (z a : Nat) : Option (Nat × Nat) := if isD (pk t z a) = true then (if 0 < dg (pk t z a) ∧ isD (pk t z (a + 1)) = true then some (10 * dg (pk t z a) + dg (pk t z (a + 1)), a + 2) else some (dg (pk t z a), a + 1)) else none
def p6 (c : Int32) : Option Nat := if c = 112 then some 0 else if c = 107 then some 1 else if c = 118 then some 2 else if c = 97 then some 3 else if c = 110 then some 4 else if c = 101 then some 5 else none
def p3 (c : Int32) : Option Nat := if c = 60 then some 0 else if c = 61 then some 1 else if c = 62 then some 2 else none
def pX (t : Nat → Int32) (z a : Nat) : Bool × Nat × List Nat := match p6 (pk t z a) with
  | none => (false, a, [])
  | some w => match p3 (pk t z (a + 1)) with
    | none => (false, a + 1, [])
    | some o => match pN t z (a + 2) with
      | none => (false, a + 2, [])
      | some (n, b) => (true, b, [w + 8 * o + 32 * n + 3])
/-- F 0, T 1 and its rest 2, E 3 and its rest 4 -/
def pp (t : Nat → Int32) (z : Nat) : Nat → Nat → Nat → Nat → List Nat → Bool × Nat × List Nat
  | 0, _, _, a, _ => (false, a, [])
  | f + 1, 0, o, a, _ => if pk t z a = 33 then (if o = 5 then (false, a, []) else match pp t z f 0 (o + 1) (a + 1) [] with
      | (true, b, ts) => (true, b, ts ++ [0])
      | (false, b, ts) => (false, b, ts))
    else if pk t z a = 40 then (if o = 5 then (false, a, []) else match pp t z f 3 (o + 1) (a + 1) [] with
      | (true, b, ts) => if pk t z b = 41 then (true, b + 1, ts) else (false, b, [])
      | (false, b, ts) => (false, b, ts))
    else pX t z a
  | f + 1, 1, o, a, _ => match pp t z f 0 o a [] with
    | (true, b, ts) => pp t z f 2 o b ts
    | (false, b, ts) => (false, b, ts)
  | f + 1, 2, o, a, ts => if pk t z a = 38 then (match pp t z f 0 o (a + 1) [] with
      | (true, b, us) => pp t z f 2 o b (ts ++ us ++ [1])
      | (false, b, us) => (false, b, us))
    else (true, a, ts)
  | f + 1, 3, o, a, _ => match pp t z f 1 o a [] with
    | (true, b, ts) => pp t z f 4 o b ts
    | (false, b, ts) => (false, b, ts)
  | f + 1, _ + 4, o, a, ts => if pk t z a = 124 then (match pp t z f 1 o (a + 1) [] with
      | (true, b, us) => pp t z f 4 o b (ts ++ us ++ [2])
      | (false, b, us) => (false, b, us))
    else (true, a, ts)
def pW (t : Nat → Int32) (z : Nat) : List Int32 → Nat → Bool × Nat
  | [], a => (true, a)
  | c :: l, a => if pk t z a = c then pW t z l (a + 1) else (false, a)
def pCn (t : Nat → Int32) (z : Nat) (l : List Int32) (a : Nat) : Bool × Nat × Nat := match pW t z l a with
  | (false, b) => (false, b, 0)
  | (true, b) => match pN t z b with
    | none => (false, b, 0)
    | some (n, b') => (true, b', n)
/-- DUE, FADE, the clauses that stir -/
abbrev Stn : Type := Nat × Nat × Cls
def pCm (t : Nat → Int32) (z : Nat) (w : Bool) (l : List Int32) (a : Nat) (st : Stn) : Bool × Nat × Stn := match pCn t z l a with
  | (false, b, _) => (false, b, st)
  | (true, b, n) => if pk t z b = 32 then (match pp t z 600 3 0 (b + 1) [] with
      | (true, b', ts) => (true, b', (st.1, st.2.1, st.2.2 ++ [(n, w, ts)]))
      | (false, b', _) => (false, b', st))
    else (false, b, st)
def pC (t : Nat → Int32) (z a : Nat) (st : Stn) : Bool × Nat × Stn :=
  if pk t z a = 100 then (match pCn t z [100, 117, 101, 32] a with
    | (true, b, n) => (true, b, (n, st.2.1, st.2.2))
    | (false, b, _) => (false, b, st))
  else if pk t z a = 102 then (match pCn t z [102, 97, 100, 101, 32] a with
    | (true, b, n) => (true, b, (st.1, n, st.2.2))
    | (false, b, _) => (false, b, st))
  else if pk t z a = 119 then pCm t z true [119, 97, 114, 109, 32] a st
  else if pk t z a = 99 then pCm t z false [99, 111, 111, 108, 32] a st
  else (false, a, st)
/-- the whole, with m more clauses at most -/
def pS (t : Nat → Int32) (z : Nat) : Nat → Nat → Stn → Bool × Nat × Stn
  | 0, a, st => (false, a, st)
  | m + 1, a, st => match pC t z a st with
    | (false, b, st') => (false, b, st')
    | (true, b, st') => if z ≤ b then (true, b, st') else if m = 0 ∨ pk t z b ≠ 59 then (false, b, st') else pS t z m (b + 1) st'
theorem pq_lt {t : Nat → Int32} {z a : Nat} {c : Int32} (h : pk t z a = c) (hc : c ≠ -1) : a < z := by
  unfold pk at h
  by_cases h9 : a < z
  · exact h9
  · rw [if_neg h9] at h; exact absurd h.symm hc
theorem pk_D {t : Nat → Int32} {z a : Nat} (h : isD (pk t z a) = true) : a < z := by
  unfold isD at h
  have h := of_decide_eq_true h
  refine pq_lt (t := t) (c := pk t z a) rfl (fun e => ?_)
  rw [e] at h
  exact absurd h.1 (by decide)
theorem pk_6 {t : Nat → Int32} {z a w : Nat} (h : p6 (pk t z a) = some w) : a < z ∧ w < 6 := by
  refine ⟨pq_lt (t := t) (c := pk t z a) rfl (fun e => by rw [e, show p6 (-1) = none from by decide] at h; cases h), ?_⟩
  unfold p6 at h
  repeat' split at h
  all_goals (cases h; try omega)
theorem pk_3 {t : Nat → Int32} {z a w : Nat} (h : p3 (pk t z a) = some w) : a < z ∧ w < 3 := by
  refine ⟨pq_lt (t := t) (c := pk t z a) rfl (fun e => by rw [e, show p3 (-1) = none from by decide] at h; cases h), ?_⟩
  unfold p3 at h
  repeat' split at h
  all_goals (cases h; try omega)
theorem isD_dg {c : Int32} (h : isD c = true) : dg c ≤ 9 ∧ c = nI (dg c + 48) := by
  have h := of_decide_eq_true h
  obtain ⟨j, hj, rfl⟩ := nI_of (Int32.not_lt.mpr (Int32.le_trans (by decide : (0 : Int32) ≤ 48) h.1))
  have h1 := (nI_leI (a := 48) (b := j) (by omega) (by omega)).mp h.1
  have h2 := (nI_leI (a := j) (b := 57) (by omega) (by omega)).mp h.2
  have e : dg (nI j) = j - 48 := by
    unfold dg
    rw [show (nI j - 48 : Int32) = nI (j - 48) from pk_sub (b := 48) h1, nI_clamp (by omega)]
  rw [e]
  exact ⟨by omega, by rw [show j - 48 + 48 = j by omega]⟩
theorem pN_ok {t : Nat → Int32} {z a n b : Nat} (h : pN t z a = some (n, b)) : a < b ∧ b ≤ z ∧ n ≤ 99 := by
  unfold pN at h
  split at h
  · rename_i h1
    have := pk_D h1
    have := (isD_dg h1).1
    split at h
    · rename_i h2
      have := pk_D h2.2
      have := (isD_dg h2.2).1
      cases h
      omega
    · cases h; omega
  · cases h
theorem pX_ok {t : Nat → Int32} {z a : Nat} (ha : a ≤ z) : a ≤ (pX t z a).2.1 ∧ (pX t z a).2.1 ≤ z ∧ ((pX t z a).1 = true → (pX t z a).2.2.length + a ≤ (pX t z a).2.1 ∧ ∃ u, (pX t z a).2.2 = [u + 3] ∧ u % 8 < 6 ∧ u / 8 % 4 < 3 ∧ u < 3200) := by
  unfold pX
  cases h6 : p6 (pk t z a) with
  | none => exact ⟨Nat.le_refl _, ha, fun h => by cases h⟩
  | some w =>
    have h1 := pk_6 h6
    dsimp only
    cases h3 : p3 (pk t z (a + 1)) with
    | none => exact ⟨Nat.le_succ _, by show a + 1 ≤ z; omega, fun h => by cases h⟩
    | some o =>
      have h2 := pk_3 h3
      dsimp only
      cases hn : pN t z (a + 2) with
      | none => exact ⟨by show a ≤ a + 2; omega, by show a + 2 ≤ z; omega, fun h => by cases h⟩
      | some q =>
        obtain ⟨n, b⟩ := q
        have h4 := pN_ok hn
        dsimp only
        refine ⟨by omega, h4.2.1, fun _ => ⟨?_, w + 8 * o + 32 * n, rfl, by omega, by omega, by omega⟩⟩
        show 1 + a ≤ b
        omega
theorem pp_ok {t : Nat → Int32} {z : Nat} : ∀ (f tag o a : Nat) (ts : List Nat), (tag = 0 ∨ tag = 1 ∨ tag = 3 → ts = []) → a ≤ z → a ≤ (pp t z f tag o a ts).2.1 ∧ (pp t z f tag o a ts).2.1 ≤ z ∧ ((pp t z f tag o a ts).1 = true → (pp t z f tag o a ts).2.2.length + a ≤ ts.length + (pp t z f tag o a ts).2.1) := by
  intro f
  induction f with
  | zero => intro tag o a ts _ ha; exact ⟨Nat.le_refl _, ha, fun h => by cases h⟩
  | succ f ih =>
    intro tag o a ts hts ha
    match tag, hts with
    | 0, hts =>
      have e := hts (Or.inl rfl)
      subst e
      simp only [pp]
      split
      · rename_i h33
        have hlt := pq_lt h33 (by decide)
        split
        · exact ⟨Nat.le_refl _, ha, fun h => by cases h⟩
        · have h1 := ih 0 (o + 1) (a + 1) [] (fun _ => rfl) hlt
          rcases hr : pp t z f 0 (o + 1) (a + 1) [] with ⟨ok, b, us⟩
          rw [hr] at h1
          dsimp only at h1
          cases ok with
          | false => exact ⟨by dsimp only; omega, by dsimp only; omega, fun h => by cases h⟩
          | true =>
            have h2 := h1.2.2 rfl
            simp only [List.length_nil] at h2
            refine ⟨by dsimp only; omega, by dsimp only; omega, fun _ => ?_⟩
            simp only [List.length_append, List.length_cons, List.length_nil]
            omega
      · split
        · rename_i h33 h40
          have hlt := pq_lt h40 (by decide)
          split
          · exact ⟨Nat.le_refl _, ha, fun h => by cases h⟩
          · have h1 := ih 3 (o + 1) (a + 1) [] (fun _ => rfl) hlt
            rcases hr : pp t z f 3 (o + 1) (a + 1) [] with ⟨ok, b, us⟩
            rw [hr] at h1
            dsimp only at h1
            cases ok with
            | false => exact ⟨by dsimp only; omega, by dsimp only; omega, fun h => by cases h⟩
            | true =>
              have h2 := h1.2.2 rfl
              simp only [List.length_nil] at h2
              dsimp only
              split
              · rename_i h41
                have hlt2 := pq_lt h41 (by decide)
                refine ⟨by dsimp only; omega, by dsimp only; omega, fun _ => ?_⟩
                simp only [List.length_nil]
                omega
              · exact ⟨by dsimp only; omega, by dsimp only; omega, fun h => by cases h⟩
        · have h1 := pX_ok (t := t) (a := a) ha
          exact ⟨h1.1, h1.2.1, fun h => by have := (h1.2.2 h).1; simp only [List.length_nil]; omega⟩
    | 1, hts =>
      have e := hts (Or.inr (Or.inl rfl))
      subst e
      simp only [pp]
      have h1 := ih 0 o a [] (fun _ => rfl) ha
      rcases hr : pp t z f 0 o a [] with ⟨ok, b, us⟩
      rw [hr] at h1
      dsimp only at h1
      cases ok with
      | false => exact ⟨by dsimp only; omega, by dsimp only; omega, fun h => by cases h⟩
      | true =>
        have h2 := h1.2.2 rfl
        have h3 := ih 2 o b us (fun h => by omega) h1.2.1
        simp only [List.length_nil] at h2 ⊢
        exact ⟨by omega, h3.2.1, fun h => by have := h3.2.2 h; omega⟩
    | 2, hts =>
      simp only [pp]
      split
      · rename_i h38
        have hlt := pq_lt h38 (by decide)
        have h1 := ih 0 o (a + 1) [] (fun _ => rfl) hlt
        rcases hr : pp t z f 0 o (a + 1) [] with ⟨ok, b, us⟩
        rw [hr] at h1
        dsimp only at h1
        cases ok with
        | false => exact ⟨by dsimp only; omega, by dsimp only; omega, fun h => by cases h⟩
        | true =>
          have h2 := h1.2.2 rfl
          have h3 := ih 2 o b (ts ++ us ++ [1]) (fun h => by omega) h1.2.1
          simp only [List.length_nil, List.length_append, List.length_cons] at h2 h3
          exact ⟨by dsimp only; omega, h3.2.1, fun h => by have := h3.2.2 h; dsimp only at this ⊢; omega⟩
      · exact ⟨Nat.le_refl _, ha, fun _ => Nat.le_refl _⟩
    | 3, hts =>
      have e := hts (Or.inr (Or.inr rfl))
      subst e
      simp only [pp]
      have h1 := ih 1 o a [] (fun _ => rfl) ha
      rcases hr : pp t z f 1 o a [] with ⟨ok, b, us⟩
      rw [hr] at h1
      dsimp only at h1
      cases ok with
      | false => exact ⟨by dsimp only; omega, by dsimp only; omega, fun h => by cases h⟩
      | true =>
        have h2 := h1.2.2 rfl
        have h3 := ih 4 o b us (fun h => by omega) h1.2.1
        simp only [List.length_nil] at h2 ⊢
        exact ⟨by omega, h3.2.1, fun h => by have := h3.2.2 h; omega⟩
    | g + 4, hts =>
      simp only [pp]
      split
      · rename_i h38
        have hlt := pq_lt h38 (by decide)
        have h1 := ih 1 o (a + 1) [] (fun _ => rfl) hlt
        rcases hr : pp t z f 1 o (a + 1) [] with ⟨ok, b, us⟩
        rw [hr] at h1
        dsimp only at h1
        cases ok with
        | false => exact ⟨by dsimp only; omega, by dsimp only; omega, fun h => by cases h⟩
        | true =>
          have h2 := h1.2.2 rfl
          have h3 := ih 4 o b (ts ++ us ++ [2]) (fun h => by omega) h1.2.1
          simp only [List.length_nil, List.length_append, List.length_cons] at h2 h3
          exact ⟨by dsimp only; omega, h3.2.1, fun h => by have := h3.2.2 h; dsimp only at this ⊢; omega⟩
      · exact ⟨Nat.le_refl _, ha, fun _ => Nat.le_refl _⟩
theorem dpL_app : ∀ (xs ys : List Nat) (m m' : Nat), dpL xs m = some m' → dpL (xs ++ ys) m = dpL ys m' := by
  intro xs
  induction xs with
  | nil => intro ys m m' h; cases h; rfl
  | cons x xs ih =>
    intro ys m m' h
    show (match dpT x m with | some q => dpL (xs ++ ys) q | none => none) = _
    have h : (match dpT x m with | some q => dpL xs q | none => none) = some m' := h
    cases hx : dpT x m with
    | none => rw [hx] at h; cases h
    | some q => rw [hx] at h; exact ih ys q m' h
theorem pp_dp {t : Nat → Int32} {z : Nat} : ∀ (f tag o a m : Nat) (ts : List Nat), a ≤ z → o ≤ 5 → (tag = 0 → m + 2 * (5 - o) + 1 ≤ 20) → (tag = 1 ∨ tag = 2 → m + 2 * (5 - o) + 2 ≤ 20) → (3 ≤ tag → m + 2 * (5 - o) + 3 ≤ 20) → (tag = 2 ∨ 4 ≤ tag → dpL ts m = some (m + 1)) → (pp t z f tag o a ts).1 = true → dpL (pp t z f tag o a ts).2.2 m = some (m + 1) := by
  intro f
  induction f with
  | zero => intro tag o a m ts _ _ _ _ _ _ h; cases h
  | succ f ih =>
    intro tag o a m ts ha ho h0 h1 h3 hd h
    match tag with
    | 0 =>
      simp only [pp] at h ⊢
      split at h
      · rename_i h33
        have hlt := pq_lt h33 (by decide)
        rw [if_pos h33]
        split at h
        · cases h
        · rename_i ho5
          rw [if_neg ho5]
          have h5 := ih 0 (o + 1) (a + 1) m [] hlt (by omega) (by omega) (by omega) (by omega) (by omega)
          rcases hr : pp t z f 0 (o + 1) (a + 1) [] with ⟨ok, b, us⟩
          rw [hr] at h h5
          cases ok with
          | false => cases h
          | true =>
            dsimp only at h5 ⊢
            rw [dpL_app us [0] m (m + 1) (h5 rfl)]
            simp [dpL, dpT]
      · rename_i h33
        rw [if_neg h33]
        split at h
        · rename_i h40
          have hlt := pq_lt h40 (by decide)
          rw [if_pos h40]
          split at h
          · cases h
          · rename_i ho5
            rw [if_neg ho5]
            have h5 := ih 3 (o + 1) (a + 1) m [] hlt (by omega) (by omega) (by omega) (by omega) (by omega)
            rcases hr : pp t z f 3 (o + 1) (a + 1) [] with ⟨ok, b, us⟩
            rw [hr] at h h5
            cases ok with
            | false => cases h
            | true =>
              dsimp only at h h5 ⊢
              split at h
              · rename_i h41
                rw [if_pos h41]
                exact h5 rfl
              · cases h
        · rename_i h40
          rw [if_neg h40]
          obtain ⟨-, u, e1, e2, e3, e4⟩ := (pX_ok ha).2.2 h
          rw [e1]
          have := h0 rfl
          show (match dpT (u + 3) m with | some q => dpL [] q | none => none) = some (m + 1)
          rw [show dpT (u + 3) m = some (m + 1) from if_pos ⟨e2, e3, e4, by omega⟩]
          rfl
    | 1 =>
      simp only [pp] at h ⊢
      have h6 := pp_ok (t := t) (z := z) f 0 o a [] (fun _ => rfl) ha
      have h5 := ih 0 o a m [] ha ho (by omega) (by omega) (by omega) (by omega)
      rcases hr : pp t z f 0 o a [] with ⟨ok, b, us⟩
      rw [hr] at h h5 h6
      cases ok with
      | false => cases h
      | true => exact ih 2 o b m us h6.2.1 ho (by omega) (by omega) (by omega) (fun _ => h5 rfl) h
    | 2 =>
      simp only [pp] at h ⊢
      split at h
      · rename_i h38
        have hlt := pq_lt h38 (by decide)
        rw [if_pos h38]
        have h6 := pp_ok (t := t) (z := z) f 0 o (a + 1) [] (fun _ => rfl) hlt
        have h5 := ih 0 o (a + 1) (m + 1) [] hlt ho (by omega) (by omega) (by omega) (by omega)
        rcases hr : pp t z f 0 o (a + 1) [] with ⟨ok, b, us⟩
        rw [hr] at h h5 h6
        cases ok with
        | false => cases h
        | true =>
          refine ih 2 o b m _ h6.2.1 ho (by omega) (by omega) (by omega) (fun _ => ?_) h
          rw [List.append_assoc, dpL_app ts _ m (m + 1) (hd (by omega)), dpL_app us _ (m + 1) (m + 2) (h5 rfl)]
          simp [dpL, dpT]
      · rename_i h38
        rw [if_neg h38]
        exact hd (by omega)
    | 3 =>
      simp only [pp] at h ⊢
      have h6 := pp_ok (t := t) (z := z) f 1 o a [] (fun _ => rfl) ha
      have h5 := ih 1 o a m [] ha ho (by omega) (by omega) (by omega) (by omega)
      rcases hr : pp t z f 1 o a [] with ⟨ok, b, us⟩
      rw [hr] at h h5 h6
      cases ok with
      | false => cases h
      | true => exact ih 4 o b m us h6.2.1 ho (by omega) (by omega) (by omega) (fun _ => h5 rfl) h
    | g + 4 =>
      simp only [pp] at h ⊢
      split at h
      · rename_i h38
        have hlt := pq_lt h38 (by decide)
        rw [if_pos h38]
        have h6 := pp_ok (t := t) (z := z) f 1 o (a + 1) [] (fun _ => rfl) hlt
        have h5 := ih 1 o (a + 1) (m + 1) [] hlt ho (by omega) (by omega) (by omega) (by omega)
        rcases hr : pp t z f 1 o (a + 1) [] with ⟨ok, b, us⟩
        rw [hr] at h h5 h6
        cases ok with
        | false => cases h
        | true =>
          refine ih 4 o b m _ h6.2.1 ho (by omega) (by omega) (by omega) (fun _ => ?_) h
          rw [List.append_assoc, dpL_app ts _ m (m + 1) (hd (by omega)), dpL_app us _ (m + 1) (m + 2) (h5 rfl)]
          simp [dpL, dpT]
      · rename_i h38
        rw [if_neg h38]
        exact hd (by omega)
theorem pW_ok {t : Nat → Int32} {z : Nat} : ∀ (l : List Int32) (a : Nat), (∀ c ∈ l, c ≠ -1) → a ≤ z → a ≤ (pW t z l a).2 ∧ (pW t z l a).2 ≤ z ∧ ((pW t z l a).1 = true → (pW t z l a).2 = a + l.length) := by
  intro l
  induction l with
  | nil => intro a _ ha; exact ⟨Nat.le_refl _, ha, fun _ => rfl⟩
  | cons c l ih =>
    intro a hc ha
    simp only [pW]
    split
    · rename_i h
      have hlt := pq_lt h (hc c (List.mem_cons_self ..))
      have h1 := ih (a + 1) (fun x hx => hc x (List.mem_cons_of_mem _ hx)) hlt
      refine ⟨by omega, h1.2.1, fun h2 => ?_⟩
      have := h1.2.2 h2
      simp only [List.length_cons]
      omega
    · exact ⟨Nat.le_refl _, ha, fun h => by cases h⟩
theorem pCn_ok {t : Nat → Int32} {z : Nat} {l : List Int32} {a : Nat} (hl : ∀ c ∈ l, c ≠ -1) (ha : a ≤ z) : a ≤ (pCn t z l a).2.1 ∧ (pCn t z l a).2.1 ≤ z ∧ ((pCn t z l a).1 = true → a + l.length < (pCn t z l a).2.1 ∧ (pCn t z l a).2.2 ≤ 99) := by
  unfold pCn
  have h1 := pW_ok (t := t) l a hl ha
  rcases hr : pW t z l a with ⟨ok, b⟩
  rw [hr] at h1
  cases ok with
  | false => exact ⟨h1.1, h1.2.1, fun h => by cases h⟩
  | true =>
    dsimp only at h1 ⊢
    have h2 := h1.2.2 rfl
    cases hn : pN t z b with
    | none => exact ⟨h1.1, h1.2.1, fun h => by cases h⟩
    | some q =>
      obtain ⟨n, b'⟩ := q
      have h3 := pN_ok hn
      exact ⟨by dsimp only; omega, h3.2.1, fun _ => ⟨by dsimp only; omega, h3.2.2⟩⟩
/-- what stands between two clauses: m clauses, steps behind a signs -/
def stI (a : Nat) (st : Stn) : Prop := st.1 ≤ 99 ∧ st.2.1 ≤ 99 ∧ clOK st.2.2 ∧ (clsR st.2.2).length ≤ a ∧ st.2.2.length ≤ a
theorem clsR_app (c1 c2 : Cls) : clsR (c1 ++ c2) = clsR c1 ++ clsR c2 := by
  induction c1 with
  | nil => rfl
  | cons q c1 ih => show clR q ++ clsR (c1 ++ c2) = (clR q ++ clsR c1) ++ clsR c2; rw [ih, List.append_assoc]
theorem stI.mo {a b : Nat} {st : Stn} (h : stI a st) (hab : a ≤ b) : stI b st := ⟨h.1, h.2.1, h.2.2.1, by have := h.2.2.2.1; omega, by have := h.2.2.2.2; omega⟩
theorem pCm_ok {t : Nat → Int32} {z : Nat} {w : Bool} {l : List Int32} {a : Nat} {st : Stn} (hl : ∀ c ∈ l, c ≠ -1) (ha : a ≤ z) (hs : stI a st) : a ≤ (pCm t z w l a st).2.1 ∧ (pCm t z w l a st).2.1 ≤ z ∧ stI (pCm t z w l a st).2.1 (pCm t z w l a st).2.2 ∧ (pCm t z w l a st).2.2.2.2.length ≤ st.2.2.length + 1 := by
  unfold pCm
  have h1 := pCn_ok (t := t) hl ha
  rcases hr : pCn t z l a with ⟨ok, b, n⟩
  rw [hr] at h1
  cases ok with
  | false => exact ⟨h1.1, h1.2.1, hs.mo h1.1, Nat.le_succ _⟩
  | true =>
    dsimp only at h1 ⊢
    have h2 := h1.2.2 rfl
    split
    · rename_i h32
      have hlt := pq_lt h32 (by decide)
      have h3 := pp_ok (t := t) (z := z) 600 3 0 (b + 1) [] (fun _ => rfl) hlt
      have h4 := pp_dp (t := t) (z := z) 600 3 0 (b + 1) 0 [] hlt (by omega) (by omega) (by omega) (by omega) (by omega)
      rcases hq : pp t z 600 3 0 (b + 1) [] with ⟨ok, b', ts⟩
      rw [hq] at h3 h4
      cases ok with
      | false =>
        dsimp only at h3 ⊢
        exact ⟨by omega, by omega, hs.mo (by omega), Nat.le_succ _⟩
      | true =>
        dsimp only at h3 h4 ⊢
        have h5 := h3.2.2 rfl
        simp only [List.length_nil] at h5
        refine ⟨by omega, by omega, ⟨hs.1, hs.2.1, fun q hq => ?_, ?_, ?_⟩, ?_⟩
        · rcases List.mem_append.mp hq with hq | hq
          · exact hs.2.2.1 q hq
          · rw [List.mem_singleton] at hq
            subst hq
            exact ⟨h2.2, h4 rfl⟩
        · have := hs.2.2.2.1
          dsimp only
          rw [clsR_app, List.length_append]
          show _ + (clR (n, w, ts) ++ []).length ≤ _
          rw [List.append_nil, clR_len]
          dsimp only
          omega
        · have := hs.2.2.2.2
          simp only [List.length_append, List.length_cons, List.length_nil]
          omega
        · simp only [List.length_append, List.length_cons, List.length_nil]
          omega
    · exact ⟨h1.1, h1.2.1, hs.mo h1.1, Nat.le_succ _⟩
theorem pC_ok {t : Nat → Int32} {z a : Nat} {st : Stn} (ha : a ≤ z) (hs : stI a st) : a ≤ (pC t z a st).2.1 ∧ (pC t z a st).2.1 ≤ z ∧ stI (pC t z a st).2.1 (pC t z a st).2.2 ∧ (pC t z a st).2.2.2.2.length ≤ st.2.2.length + 1 := by
  unfold pC
  split
  · have h1 := pCn_ok (t := t) (l := [100, 117, 101, 32]) (by decide) ha
    rcases hr : pCn t z [100, 117, 101, 32] a with ⟨ok, b, n⟩
    rw [hr] at h1
    cases ok with
    | false => exact ⟨h1.1, h1.2.1, hs.mo h1.1, Nat.le_succ _⟩
    | true => exact ⟨h1.1, h1.2.1, ⟨(h1.2.2 rfl).2, (hs.mo h1.1).2⟩, Nat.le_succ _⟩
  · split
    · have h1 := pCn_ok (t := t) (l := [102, 97, 100, 101, 32]) (by decide) ha
      rcases hr : pCn t z [102, 97, 100, 101, 32] a with ⟨ok, b, n⟩
      rw [hr] at h1
      cases ok with
      | false => exact ⟨h1.1, h1.2.1, hs.mo h1.1, Nat.le_succ _⟩
      | true => exact ⟨h1.1, h1.2.1, ⟨hs.1, (h1.2.2 rfl).2, (hs.mo h1.1).2.2⟩, Nat.le_succ _⟩
    · split
      · exact pCm_ok (by decide) ha hs
      · split
        · exact pCm_ok (by decide) ha hs
        · exact ⟨Nat.le_refl _, ha, hs, Nat.le_succ _⟩
