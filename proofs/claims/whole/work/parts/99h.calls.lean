/-! THE LAW'S CALLS, one by one -/
theorem Ev.sld {X : Nat × (Nat → Int32)} {d k pc np j : Nat} {ls : List (Option Value)} {r : List Value} {K : List (Nat × Nat)} {I : Nat → Nat → Int32} {G : Nat → Nat → Option Nat} {i : Int32} {Z : Option Value × Hp} (ha : arq k pc = (1, np)) (hi : i = nI j) (hj : j < X.1) (hn : X.1 < 2147483648) (t : Ev X d k np ls (.int (X.2 j) :: r) (K, I, G) Z) : Ev X d k pc ls (.int i :: .retAddr 28 :: r) (K, I, G) Z := by
  obtain ⟨a, b, c, v, h⟩ := arq_look ha (by omega)
  have h : look k pc = some (.iaload, np, a, b, c, v) := by rcases h with h | h | h | h | h | h <;> first | exact h.2 | (have := h.1; omega)
  subst hi
  refine Ev.s (pc' := np) (ls' := ls) (st' := .int (X.2 j) :: r) (h' := (K, I, G)) ?_ t
  unfold stq
  rw [h]
  show (bif oob (nI j) X.1 then none else some (np, ls, .int (X.2 (nI j).toNatClampNeg) :: r, (K, I, G))) = _
  rw [oob_nI hj hn, nI_clamp (by omega)]
  rfl
/-- what a method gives back is of its kind -/
theorem rtv_int {k : Nat} {e : Ent} {st : List Value} {r : Option Value} (hm : mR k = some .int) (h : rtv k e st = some r) : ∃ x, r = some (.int x) := by
  obtain ⟨ins, np, a, b, c, v⟩ := e
  unfold rtv at h
  dsimp only at h
  split at h
  · split at h
    · rw [hm] at h
      dsimp only at h
      cases h
      exact ⟨_, rfl⟩
    · cases h
  · split at h
    · rw [hm] at h; cases h
    · cases h
  · split at h
    · rw [hm] at h; cases h
    · rw [hm] at h; cases h
    · cases h
  · split at h
    · rw [hm] at h; cases h
    · cases h
  · cases h
theorem rtv_long {k : Nat} {e : Ent} {st : List Value} {r : Option Value} (hm : mR k = some .long) (h : rtv k e st = some r) : ∃ x, r = some (.long x) := by
  obtain ⟨ins, np, a, b, c, v⟩ := e
  unfold rtv at h
  dsimp only at h
  split at h
  · split at h
    · rw [hm] at h
      cases h
    · cases h
  · split at h
    · rw [hm] at h
      dsimp only at h
      cases h
      exact ⟨_, rfl⟩
    · cases h
  · split at h
    · rw [hm] at h; cases h
    · rw [hm] at h; cases h
    · cases h
  · split at h
    · rw [hm] at h; cases h
    · cases h
  · cases h
theorem Ev.kind {P : Option Value → Prop} {X : Nat × (Nat → Int32)} {d k pc : Nat} {ls : List (Option Value)} {st : List Value} {h h' : Hp} {r : Option Value} (hP : ∀ e st r, rtv k e st = some r → P r) (e : Ev X d k pc ls st h (r, h')) : P r := by
  obtain ⟨f, hf⟩ := e
  induction f generalizing d pc ls st h with
  | zero => simp [exec] at hf
  | succ f ih =>
    rw [exec_succ] at hf
    cases hl : look k pc with
    | none => rw [hl] at hf; simp at hf
    | some e =>
      rw [hl] at hf
      simp only at hf
      split at hf
      · cases hs : stp X e ls st h with
        | none => rw [hs] at hf; simp at hf
        | some q =>
          obtain ⟨pc', ls', st', h2⟩ := q
          rw [hs] at hf
          simp only at hf
          exact ih hf
      · cases d with
        | zero => simp at hf
        | succ d' =>
          simp only at hf
          cases hc : cle e st h with
          | none => rw [hc] at hf; simp at hf
          | some q =>
            obtain ⟨k', As, rest, np⟩ := q
            rw [hc] at hf
            simp only at hf
            cases he : exec X f d' k' 0 (ent k' As) [] h with
            | none => rw [he] at hf; simp at hf
            | some q =>
              obtain ⟨r2, h2⟩ := q
              rw [he] at hf
              simp only at hf
              exact ih hf
      · cases hr : rtv k e st with
        | none => rw [hr] at hf; simp at hf
        | some r2 =>
          rw [hr] at hf
          simp only [Option.some.injEq, Prod.mk.injEq] at hf
          rw [← hf.1]
          exact hP _ _ _ hr
theorem Ev.int {X : Nat × (Nat → Int32)} {d k pc : Nat} {ls : List (Option Value)} {st : List Value} {h h' : Hp} {r : Option Value} (hm : mR k = some .int) (e : Ev X d k pc ls st h (r, h')) : ∃ x, r = some (.int x) := e.kind (P := fun r => ∃ x, r = some (.int x)) (fun _ _ _ => rtv_int hm)
theorem Ev.long {X : Nat × (Nat → Int32)} {d k pc : Nat} {ls : List (Option Value)} {st : List Value} {h h' : Hp} {r : Option Value} (hm : mR k = some .long) (e : Ev X d k pc ls st h (r, h')) : ∃ x, r = some (.long x) := e.kind (P := fun r => ∃ x, r = some (.long x)) (fun _ _ _ => rtv_long hm)
section LAWC
variable {X : Nat × (Nat → Int32)} {i : Nat} {K K1 : List (Nat × Nat)} {I I1 I2 : Nat → Nat → Int32} {R R1 : Nat → Nat → Option Nat} {Z : Option Value × Hp}
theorem cs_feed {w : Int32} (hn : X.1 < 2147483648) (hi : i + 3 < X.1) (hk0 : K[0]? = some (11, 8)) (hk1 : K1[140]? = some (12, 20)) (h1 : Ev X 59 kX11_feed 0 (ent kX11_feed [.ref 0, .int (X.2 (i + 1))]) [] (K, I, R) (some (.int w), (K1, I1, R1))) (h2 : Ev X 59 kX12_feed 0 (ent kX12_feed [.ref 140, .int (X.2 (i + 1))]) [] (K1, I1, R1) (some (.int w), (K1, I2, R1))) (e : Ev X 60 0 1058 [some (.retAddr 28), some (.ref 0), some (.ref 140), some (.int (nI i))] [] (K1, I2, R1) Z) : Ev X 60 0 168 [some (.retAddr 28), some (.ref 0), some (.ref 140), some (.int (nI i))] [] (K, I, R) Z := by
  (repeat refine Ev.p rfl rfl ?_)
  refine Ev.sld (j := i + 1) (by rfl) (nI_add i 1) (by omega) hn ?_
  (repeat refine Ev.p rfl rfl ?_)
  refine Ev.cv (by rfl) (by rfl) hk0 (by rfl) (by rfl) (by rfl) (by rfl) (by rfl) h1 ?_
  (repeat refine Ev.p rfl rfl ?_)
  refine Ev.sld (j := i + 1) (by rfl) (nI_add i 1) (by omega) hn ?_
  (repeat refine Ev.p rfl rfl ?_)
  refine Ev.cv (by rfl) (by rfl) hk1 (by rfl) (by rfl) (by rfl) (by rfl) (by rfl) h2 ?_
  (repeat refine Ev.p rfl rfl ?_)
  refine Ev.bp rfl (fun c => ?_) (fun c => ?_)
  · exact e
  · exact absurd (rfl) c
theorem cs_station {w : Int32} (hn : X.1 < 2147483648) (hi : i + 3 < X.1) (hk0 : K[0]? = some (11, 8)) (hk1 : K1[140]? = some (12, 20)) (h1 : Ev X 59 kX11_station 0 (ent kX11_station [.ref 0]) [] (K, I, R) (some (.int w), (K1, I1, R1))) (h2 : Ev X 59 kX12_station 0 (ent kX12_station [.ref 140]) [] (K1, I1, R1) (some (.int w), (K1, I2, R1))) (e : Ev X 60 0 1058 [some (.retAddr 28), some (.ref 0), some (.ref 140), some (.int (nI i))] [] (K1, I2, R1) Z) : Ev X 60 0 191 [some (.retAddr 28), some (.ref 0), some (.ref 140), some (.int (nI i))] [] (K, I, R) Z := by
  (repeat refine Ev.p rfl rfl ?_)
  refine Ev.cv (by rfl) (by rfl) hk0 (by rfl) (by rfl) (by rfl) (by rfl) (by rfl) h1 ?_
  (repeat refine Ev.p rfl rfl ?_)
  refine Ev.cv (by rfl) (by rfl) hk1 (by rfl) (by rfl) (by rfl) (by rfl) (by rfl) h2 ?_
  (repeat refine Ev.p rfl rfl ?_)
  refine Ev.bp rfl (fun c => ?_) (fun c => ?_)
  · exact e
  · exact absurd (rfl) c
theorem cs_matter {w : Int32} (hn : X.1 < 2147483648) (hi : i + 3 < X.1) (hk0 : K[0]? = some (11, 8)) (hk1 : K1[140]? = some (12, 20)) (h1 : Ev X 59 kX11_matter 0 (ent kX11_matter [.ref 0, .int (X.2 (i + 1)), .int (X.2 (i + 2))]) [] (K, I, R) (some (.int w), (K1, I1, R1))) (h2 : Ev X 59 kX12_matter 0 (ent kX12_matter [.ref 140, .int (X.2 (i + 1)), .int (X.2 (i + 2))]) [] (K1, I1, R1) (some (.int w), (K1, I2, R1))) (e : Ev X 60 0 1058 [some (.retAddr 28), some (.ref 0), some (.ref 140), some (.int (nI i))] [] (K1, I2, R1) Z) : Ev X 60 0 204 [some (.retAddr 28), some (.ref 0), some (.ref 140), some (.int (nI i))] [] (K, I, R) Z := by
  (repeat refine Ev.p rfl rfl ?_)
  refine Ev.sld (j := i + 1) (by rfl) (nI_add i 1) (by omega) hn ?_
  (repeat refine Ev.p rfl rfl ?_)
  refine Ev.sld (j := i + 2) (by rfl) (nI_add i 2) (by omega) hn ?_
  (repeat refine Ev.p rfl rfl ?_)
  refine Ev.cv (by rfl) (by rfl) hk0 (by rfl) (by rfl) (by rfl) (by rfl) (by rfl) h1 ?_
  (repeat refine Ev.p rfl rfl ?_)
  refine Ev.sld (j := i + 1) (by rfl) (nI_add i 1) (by omega) hn ?_
  (repeat refine Ev.p rfl rfl ?_)
  refine Ev.sld (j := i + 2) (by rfl) (nI_add i 2) (by omega) hn ?_
  (repeat refine Ev.p rfl rfl ?_)
  refine Ev.cv (by rfl) (by rfl) hk1 (by rfl) (by rfl) (by rfl) (by rfl) (by rfl) h2 ?_
  (repeat refine Ev.p rfl rfl ?_)
  refine Ev.bp rfl (fun c => ?_) (fun c => ?_)
  · exact e
  · exact absurd (rfl) c
theorem cs_of {w : Int32} (hn : X.1 < 2147483648) (hi : i + 3 < X.1) (hk0 : K[0]? = some (11, 8)) (hk1 : K1[140]? = some (12, 20)) (h1 : Ev X 59 kX11_of 0 (ent kX11_of [.ref 0, .int (X.2 (i + 1)), .int (X.2 (i + 2))]) [] (K, I, R) (some (.int w), (K1, I1, R1))) (h2 : Ev X 59 kX12_of 0 (ent kX12_of [.ref 140, .int (X.2 (i + 1)), .int (X.2 (i + 2))]) [] (K1, I1, R1) (some (.int w), (K1, I2, R1))) (e : Ev X 60 0 1058 [some (.retAddr 28), some (.ref 0), some (.ref 140), some (.int (nI i))] [] (K1, I2, R1) Z) : Ev X 60 0 237 [some (.retAddr 28), some (.ref 0), some (.ref 140), some (.int (nI i))] [] (K, I, R) Z := by
  (repeat refine Ev.p rfl rfl ?_)
  refine Ev.sld (j := i + 1) (by rfl) (nI_add i 1) (by omega) hn ?_
  (repeat refine Ev.p rfl rfl ?_)
  refine Ev.sld (j := i + 2) (by rfl) (nI_add i 2) (by omega) hn ?_
  (repeat refine Ev.p rfl rfl ?_)
  refine Ev.cv (by rfl) (by rfl) hk0 (by rfl) (by rfl) (by rfl) (by rfl) (by rfl) h1 ?_
  (repeat refine Ev.p rfl rfl ?_)
  refine Ev.sld (j := i + 1) (by rfl) (nI_add i 1) (by omega) hn ?_
  (repeat refine Ev.p rfl rfl ?_)
  refine Ev.sld (j := i + 2) (by rfl) (nI_add i 2) (by omega) hn ?_
  (repeat refine Ev.p rfl rfl ?_)
  refine Ev.cv (by rfl) (by rfl) hk1 (by rfl) (by rfl) (by rfl) (by rfl) (by rfl) h2 ?_
  (repeat refine Ev.p rfl rfl ?_)
  refine Ev.bp rfl (fun c => ?_) (fun c => ?_)
  · exact e
  · exact absurd (rfl) c
theorem cs_row {w : Int32} (hn : X.1 < 2147483648) (hi : i + 3 < X.1) (hk0 : K[0]? = some (11, 8)) (hk1 : K1[140]? = some (12, 20)) (h1 : Ev X 59 kX11_row 0 (ent kX11_row [.ref 0, .int (X.2 (i + 1)), .int (X.2 (i + 2)), .int (X.2 (i + 3))]) [] (K, I, R) (some (.int w), (K1, I1, R1))) (h2 : Ev X 59 kX12_row 0 (ent kX12_row [.ref 140, .int (X.2 (i + 1)), .int (X.2 (i + 2)), .int (X.2 (i + 3))]) [] (K1, I1, R1) (some (.int w), (K1, I2, R1))) (e : Ev X 60 0 1058 [some (.retAddr 28), some (.ref 0), some (.ref 140), some (.int (nI i))] [] (K1, I2, R1) Z) : Ev X 60 0 270 [some (.retAddr 28), some (.ref 0), some (.ref 140), some (.int (nI i))] [] (K, I, R) Z := by
  (repeat refine Ev.p rfl rfl ?_)
  refine Ev.sld (j := i + 1) (by rfl) (nI_add i 1) (by omega) hn ?_
  (repeat refine Ev.p rfl rfl ?_)
  refine Ev.sld (j := i + 2) (by rfl) (nI_add i 2) (by omega) hn ?_
  (repeat refine Ev.p rfl rfl ?_)
  refine Ev.sld (j := i + 3) (by rfl) (nI_add i 3) (by omega) hn ?_
  (repeat refine Ev.p rfl rfl ?_)
  refine Ev.cv (by rfl) (by rfl) hk0 (by rfl) (by rfl) (by rfl) (by rfl) (by rfl) h1 ?_
  (repeat refine Ev.p rfl rfl ?_)
  refine Ev.sld (j := i + 1) (by rfl) (nI_add i 1) (by omega) hn ?_
  (repeat refine Ev.p rfl rfl ?_)
  refine Ev.sld (j := i + 2) (by rfl) (nI_add i 2) (by omega) hn ?_
  (repeat refine Ev.p rfl rfl ?_)
  refine Ev.sld (j := i + 3) (by rfl) (nI_add i 3) (by omega) hn ?_
  (repeat refine Ev.p rfl rfl ?_)
  refine Ev.cv (by rfl) (by rfl) hk1 (by rfl) (by rfl) (by rfl) (by rfl) (by rfl) h2 ?_
  (repeat refine Ev.p rfl rfl ?_)
  refine Ev.bp rfl (fun c => ?_) (fun c => ?_)
  · exact e
  · exact absurd (rfl) c
theorem cs_tie {w : Int32} {z : Int32} (hz : X.2 (i + 3) = 0 ∧ z = 0 ∨ X.2 (i + 3) ≠ 0 ∧ z = 1) (hn : X.1 < 2147483648) (hi : i + 3 < X.1) (hk0 : K[0]? = some (11, 8)) (hk1 : K1[140]? = some (12, 20)) (h1 : Ev X 59 kX11_tie 0 (ent kX11_tie [.ref 0, .int (X.2 (i + 1)), .int (X.2 (i + 2)), .int z]) [] (K, I, R) (some (.int w), (K1, I1, R1))) (h2 : Ev X 59 kX12_tie 0 (ent kX12_tie [.ref 140, .int (X.2 (i + 1)), .int (X.2 (i + 2)), .int z]) [] (K1, I1, R1) (some (.int w), (K1, I2, R1))) (e : Ev X 60 0 1058 [some (.retAddr 28), some (.ref 0), some (.ref 140), some (.int (nI i))] [] (K1, I2, R1) Z) : Ev X 60 0 313 [some (.retAddr 28), some (.ref 0), some (.ref 140), some (.int (nI i))] [] (K, I, R) Z := by
  rcases hz with ⟨z0, rfl⟩ | ⟨z0, rfl⟩
  · (repeat refine Ev.p rfl rfl ?_)
    refine Ev.sld (j := i + 1) (by rfl) (nI_add i 1) (by omega) hn ?_
    (repeat refine Ev.p rfl rfl ?_)
    refine Ev.sld (j := i + 2) (by rfl) (nI_add i 2) (by omega) hn ?_
    (repeat refine Ev.p rfl rfl ?_)
    refine Ev.sld (j := i + 3) (by rfl) (nI_add i 3) (by omega) hn ?_
    (repeat refine Ev.p rfl rfl ?_)
    refine Ev.bp rfl (fun c => ?_) (fun c => ?_)
    rotate_left
    · exact absurd z0 c
    (repeat refine Ev.p rfl rfl ?_)
    refine Ev.cv (by rfl) (by rfl) hk0 (by rfl) (by rfl) (by rfl) (by rfl) (by rfl) h1 ?_
    (repeat refine Ev.p rfl rfl ?_)
    refine Ev.sld (j := i + 1) (by rfl) (nI_add i 1) (by omega) hn ?_
    (repeat refine Ev.p rfl rfl ?_)
    refine Ev.sld (j := i + 2) (by rfl) (nI_add i 2) (by omega) hn ?_
    (repeat refine Ev.p rfl rfl ?_)
    refine Ev.sld (j := i + 3) (by rfl) (nI_add i 3) (by omega) hn ?_
    (repeat refine Ev.p rfl rfl ?_)
    refine Ev.bp rfl (fun c2 => ?_) (fun c2 => ?_)
    rotate_left
    · exact absurd z0 c2
    (repeat refine Ev.p rfl rfl ?_)
    refine Ev.cv (by rfl) (by rfl) hk1 (by rfl) (by rfl) (by rfl) (by rfl) (by rfl) h2 ?_
    (repeat refine Ev.p rfl rfl ?_)
    refine Ev.bp rfl (fun c3 => ?_) (fun c3 => ?_)
    · exact e
    · exact absurd (rfl) c3
  · (repeat refine Ev.p rfl rfl ?_)
    refine Ev.sld (j := i + 1) (by rfl) (nI_add i 1) (by omega) hn ?_
    (repeat refine Ev.p rfl rfl ?_)
    refine Ev.sld (j := i + 2) (by rfl) (nI_add i 2) (by omega) hn ?_
    (repeat refine Ev.p rfl rfl ?_)
    refine Ev.sld (j := i + 3) (by rfl) (nI_add i 3) (by omega) hn ?_
    (repeat refine Ev.p rfl rfl ?_)
    refine Ev.bp rfl (fun c => ?_) (fun c => ?_)
    · exact absurd c z0
    (repeat refine Ev.p rfl rfl ?_)
    refine Ev.cv (by rfl) (by rfl) hk0 (by rfl) (by rfl) (by rfl) (by rfl) (by rfl) h1 ?_
    (repeat refine Ev.p rfl rfl ?_)
    refine Ev.sld (j := i + 1) (by rfl) (nI_add i 1) (by omega) hn ?_
    (repeat refine Ev.p rfl rfl ?_)
    refine Ev.sld (j := i + 2) (by rfl) (nI_add i 2) (by omega) hn ?_
    (repeat refine Ev.p rfl rfl ?_)
    refine Ev.sld (j := i + 3) (by rfl) (nI_add i 3) (by omega) hn ?_
    (repeat refine Ev.p rfl rfl ?_)
    refine Ev.bp rfl (fun c2 => ?_) (fun c2 => ?_)
    · exact absurd c2 z0
    (repeat refine Ev.p rfl rfl ?_)
    refine Ev.cv (by rfl) (by rfl) hk1 (by rfl) (by rfl) (by rfl) (by rfl) (by rfl) h2 ?_
    (repeat refine Ev.p rfl rfl ?_)
    refine Ev.bp rfl (fun c3 => ?_) (fun c3 => ?_)
    · exact e
    · exact absurd (rfl) c3
theorem cs_shelve {w : Int32} {z : Int32} (hz : X.2 (i + 2) = 0 ∧ z = 0 ∨ X.2 (i + 2) ≠ 0 ∧ z = 1) (hn : X.1 < 2147483648) (hi : i + 3 < X.1) (hk0 : K[0]? = some (11, 8)) (hk1 : K1[140]? = some (12, 20)) (h1 : Ev X 59 kX11_shelve 0 (ent kX11_shelve [.ref 0, .int (X.2 (i + 1)), .int z]) [] (K, I, R) (some (.int w), (K1, I1, R1))) (h2 : Ev X 59 kX12_shelve 0 (ent kX12_shelve [.ref 140, .int (X.2 (i + 1)), .int z]) [] (K1, I1, R1) (some (.int w), (K1, I2, R1))) (e : Ev X 60 0 1058 [some (.retAddr 28), some (.ref 0), some (.ref 140), some (.int (nI i))] [] (K1, I2, R1) Z) : Ev X 60 0 372 [some (.retAddr 28), some (.ref 0), some (.ref 140), some (.int (nI i))] [] (K, I, R) Z := by
  rcases hz with ⟨z0, rfl⟩ | ⟨z0, rfl⟩
  · (repeat refine Ev.p rfl rfl ?_)
    refine Ev.sld (j := i + 1) (by rfl) (nI_add i 1) (by omega) hn ?_
    (repeat refine Ev.p rfl rfl ?_)
    refine Ev.sld (j := i + 2) (by rfl) (nI_add i 2) (by omega) hn ?_
    (repeat refine Ev.p rfl rfl ?_)
    refine Ev.bp rfl (fun c => ?_) (fun c => ?_)
    rotate_left
    · exact absurd z0 c
    (repeat refine Ev.p rfl rfl ?_)
    refine Ev.cv (by rfl) (by rfl) hk0 (by rfl) (by rfl) (by rfl) (by rfl) (by rfl) h1 ?_
    (repeat refine Ev.p rfl rfl ?_)
    refine Ev.sld (j := i + 1) (by rfl) (nI_add i 1) (by omega) hn ?_
    (repeat refine Ev.p rfl rfl ?_)
    refine Ev.sld (j := i + 2) (by rfl) (nI_add i 2) (by omega) hn ?_
    (repeat refine Ev.p rfl rfl ?_)
    refine Ev.bp rfl (fun c2 => ?_) (fun c2 => ?_)
    rotate_left
    · exact absurd z0 c2
    (repeat refine Ev.p rfl rfl ?_)
    refine Ev.cv (by rfl) (by rfl) hk1 (by rfl) (by rfl) (by rfl) (by rfl) (by rfl) h2 ?_
    (repeat refine Ev.p rfl rfl ?_)
    refine Ev.bp rfl (fun c3 => ?_) (fun c3 => ?_)
    · exact e
    · exact absurd (rfl) c3
  · (repeat refine Ev.p rfl rfl ?_)
    refine Ev.sld (j := i + 1) (by rfl) (nI_add i 1) (by omega) hn ?_
    (repeat refine Ev.p rfl rfl ?_)
    refine Ev.sld (j := i + 2) (by rfl) (nI_add i 2) (by omega) hn ?_
    (repeat refine Ev.p rfl rfl ?_)
    refine Ev.bp rfl (fun c => ?_) (fun c => ?_)
    · exact absurd c z0
    (repeat refine Ev.p rfl rfl ?_)
    refine Ev.cv (by rfl) (by rfl) hk0 (by rfl) (by rfl) (by rfl) (by rfl) (by rfl) h1 ?_
    (repeat refine Ev.p rfl rfl ?_)
    refine Ev.sld (j := i + 1) (by rfl) (nI_add i 1) (by omega) hn ?_
    (repeat refine Ev.p rfl rfl ?_)
    refine Ev.sld (j := i + 2) (by rfl) (nI_add i 2) (by omega) hn ?_
    (repeat refine Ev.p rfl rfl ?_)
    refine Ev.bp rfl (fun c2 => ?_) (fun c2 => ?_)
    · exact absurd c2 z0
    (repeat refine Ev.p rfl rfl ?_)
    refine Ev.cv (by rfl) (by rfl) hk1 (by rfl) (by rfl) (by rfl) (by rfl) (by rfl) h2 ?_
    (repeat refine Ev.p rfl rfl ?_)
    refine Ev.bp rfl (fun c3 => ?_) (fun c3 => ?_)
    · exact e
    · exact absurd (rfl) c3
theorem cs_reopen {w : Int32} (hn : X.1 < 2147483648) (hi : i + 3 < X.1) (hk0 : K[0]? = some (11, 8)) (hk1 : K1[140]? = some (12, 20)) (h1 : Ev X 59 kX11_reopen 0 (ent kX11_reopen [.ref 0, .int (X.2 (i + 1))]) [] (K, I, R) (some (.int w), (K1, I1, R1))) (h2 : Ev X 59 kX12_reopen 0 (ent kX12_reopen [.ref 140, .int (X.2 (i + 1))]) [] (K1, I1, R1) (some (.int w), (K1, I2, R1))) (e : Ev X 60 0 1058 [some (.retAddr 28), some (.ref 0), some (.ref 140), some (.int (nI i))] [] (K1, I2, R1) Z) : Ev X 60 0 421 [some (.retAddr 28), some (.ref 0), some (.ref 140), some (.int (nI i))] [] (K, I, R) Z := by
  (repeat refine Ev.p rfl rfl ?_)
  refine Ev.sld (j := i + 1) (by rfl) (nI_add i 1) (by omega) hn ?_
  (repeat refine Ev.p rfl rfl ?_)
  refine Ev.cv (by rfl) (by rfl) hk0 (by rfl) (by rfl) (by rfl) (by rfl) (by rfl) h1 ?_
  (repeat refine Ev.p rfl rfl ?_)
  refine Ev.sld (j := i + 1) (by rfl) (nI_add i 1) (by omega) hn ?_
  (repeat refine Ev.p rfl rfl ?_)
  refine Ev.cv (by rfl) (by rfl) hk1 (by rfl) (by rfl) (by rfl) (by rfl) (by rfl) h2 ?_
  (repeat refine Ev.p rfl rfl ?_)
  refine Ev.bp rfl (fun c => ?_) (fun c => ?_)
  · exact e
  · exact absurd (rfl) c
theorem cs_told {w : Int32} (hn : X.1 < 2147483648) (hi : i + 3 < X.1) (hk0 : K[0]? = some (11, 8)) (hk1 : K1[140]? = some (12, 20)) (h1 : Ev X 59 kX11_told 0 (ent kX11_told [.ref 0, .int (X.2 (i + 1))]) [] (K, I, R) (some (.int w), (K1, I1, R1))) (h2 : Ev X 59 kX12_told 0 (ent kX12_told [.ref 140, .int (X.2 (i + 1))]) [] (K1, I1, R1) (some (.int w), (K1, I2, R1))) (e : Ev X 60 0 1058 [some (.retAddr 28), some (.ref 0), some (.ref 140), some (.int (nI i))] [] (K1, I2, R1) Z) : Ev X 60 0 444 [some (.retAddr 28), some (.ref 0), some (.ref 140), some (.int (nI i))] [] (K, I, R) Z := by
  (repeat refine Ev.p rfl rfl ?_)
  refine Ev.sld (j := i + 1) (by rfl) (nI_add i 1) (by omega) hn ?_
  (repeat refine Ev.p rfl rfl ?_)
  refine Ev.cv (by rfl) (by rfl) hk0 (by rfl) (by rfl) (by rfl) (by rfl) (by rfl) h1 ?_
  (repeat refine Ev.p rfl rfl ?_)
  refine Ev.sld (j := i + 1) (by rfl) (nI_add i 1) (by omega) hn ?_
  (repeat refine Ev.p rfl rfl ?_)
  refine Ev.cv (by rfl) (by rfl) hk1 (by rfl) (by rfl) (by rfl) (by rfl) (by rfl) h2 ?_
  (repeat refine Ev.p rfl rfl ?_)
  refine Ev.bp rfl (fun c => ?_) (fun c => ?_)
  · exact e
  · exact absurd (rfl) c
theorem cs_talk {w : Int32} (hn : X.1 < 2147483648) (hi : i + 3 < X.1) (hk0 : K[0]? = some (11, 8)) (hk1 : K1[140]? = some (12, 20)) (h1 : Ev X 59 kX11_talk 0 (ent kX11_talk [.ref 0, .int (X.2 (i + 1))]) [] (K, I, R) (some (.int w), (K1, I1, R1))) (h2 : Ev X 59 kX12_talk 0 (ent kX12_talk [.ref 140, .int (X.2 (i + 1))]) [] (K1, I1, R1) (some (.int w), (K1, I2, R1))) (e : Ev X 60 0 1058 [some (.retAddr 28), some (.ref 0), some (.ref 140), some (.int (nI i))] [] (K1, I2, R1) Z) : Ev X 60 0 467 [some (.retAddr 28), some (.ref 0), some (.ref 140), some (.int (nI i))] [] (K, I, R) Z := by
  (repeat refine Ev.p rfl rfl ?_)
  refine Ev.sld (j := i + 1) (by rfl) (nI_add i 1) (by omega) hn ?_
  (repeat refine Ev.p rfl rfl ?_)
  refine Ev.cv (by rfl) (by rfl) hk0 (by rfl) (by rfl) (by rfl) (by rfl) (by rfl) h1 ?_
  (repeat refine Ev.p rfl rfl ?_)
  refine Ev.sld (j := i + 1) (by rfl) (nI_add i 1) (by omega) hn ?_
  (repeat refine Ev.p rfl rfl ?_)
  refine Ev.cv (by rfl) (by rfl) hk1 (by rfl) (by rfl) (by rfl) (by rfl) (by rfl) h2 ?_
  (repeat refine Ev.p rfl rfl ?_)
  refine Ev.bp rfl (fun c => ?_) (fun c => ?_)
  · exact e
  · exact absurd (rfl) c
theorem cs_pass {w : Int32} (hn : X.1 < 2147483648) (hi : i + 3 < X.1) (hk0 : K[0]? = some (11, 8)) (hk1 : K1[140]? = some (12, 20)) (h1 : Ev X 59 kX11_pass 0 (ent kX11_pass [.ref 0, .int (X.2 (i + 1))]) [] (K, I, R) (some (.int w), (K1, I1, R1))) (h2 : Ev X 59 kX12_pass 0 (ent kX12_pass [.ref 140, .int (X.2 (i + 1))]) [] (K1, I1, R1) (some (.int w), (K1, I2, R1))) (e : Ev X 60 0 1058 [some (.retAddr 28), some (.ref 0), some (.ref 140), some (.int (nI i))] [] (K1, I2, R1) Z) : Ev X 60 0 490 [some (.retAddr 28), some (.ref 0), some (.ref 140), some (.int (nI i))] [] (K, I, R) Z := by
  (repeat refine Ev.p rfl rfl ?_)
  refine Ev.sld (j := i + 1) (by rfl) (nI_add i 1) (by omega) hn ?_
  (repeat refine Ev.p rfl rfl ?_)
  refine Ev.cv (by rfl) (by rfl) hk0 (by rfl) (by rfl) (by rfl) (by rfl) (by rfl) h1 ?_
  (repeat refine Ev.p rfl rfl ?_)
  refine Ev.sld (j := i + 1) (by rfl) (nI_add i 1) (by omega) hn ?_
  (repeat refine Ev.p rfl rfl ?_)
  refine Ev.cv (by rfl) (by rfl) hk1 (by rfl) (by rfl) (by rfl) (by rfl) (by rfl) h2 ?_
  (repeat refine Ev.p rfl rfl ?_)
  refine Ev.bp rfl (fun c => ?_) (fun c => ?_)
  · exact e
  · exact absurd (rfl) c
theorem cs_on {w : Int32} (hn : X.1 < 2147483648) (hi : i + 3 < X.1) (hk0 : K[0]? = some (11, 8)) (hk1 : K1[140]? = some (12, 20)) (h1 : Ev X 59 kX11_on 0 (ent kX11_on [.ref 0, .int (X.2 (i + 1)), .int (X.2 (i + 2))]) [] (K, I, R) (some (.int w), (K1, I1, R1))) (h2 : Ev X 59 kX12_on 0 (ent kX12_on [.ref 140, .int (X.2 (i + 1)), .int (X.2 (i + 2))]) [] (K1, I1, R1) (some (.int w), (K1, I2, R1))) (e : Ev X 60 0 1058 [some (.retAddr 28), some (.ref 0), some (.ref 140), some (.int (nI i))] [] (K1, I2, R1) Z) : Ev X 60 0 513 [some (.retAddr 28), some (.ref 0), some (.ref 140), some (.int (nI i))] [] (K, I, R) Z := by
  (repeat refine Ev.p rfl rfl ?_)
  refine Ev.sld (j := i + 1) (by rfl) (nI_add i 1) (by omega) hn ?_
  (repeat refine Ev.p rfl rfl ?_)
  refine Ev.sld (j := i + 2) (by rfl) (nI_add i 2) (by omega) hn ?_
  (repeat refine Ev.p rfl rfl ?_)
  refine Ev.cv (by rfl) (by rfl) hk0 (by rfl) (by rfl) (by rfl) (by rfl) (by rfl) h1 ?_
  (repeat refine Ev.p rfl rfl ?_)
  refine Ev.sld (j := i + 1) (by rfl) (nI_add i 1) (by omega) hn ?_
  (repeat refine Ev.p rfl rfl ?_)
  refine Ev.sld (j := i + 2) (by rfl) (nI_add i 2) (by omega) hn ?_
  (repeat refine Ev.p rfl rfl ?_)
  refine Ev.cv (by rfl) (by rfl) hk1 (by rfl) (by rfl) (by rfl) (by rfl) (by rfl) h2 ?_
  (repeat refine Ev.p rfl rfl ?_)
  refine Ev.bp rfl (fun c => ?_) (fun c => ?_)
  · exact e
  · exact absurd (rfl) c
theorem cs_when {w : Int32} (hn : X.1 < 2147483648) (hi : i + 3 < X.1) (hk0 : K[0]? = some (11, 8)) (hk1 : K1[140]? = some (12, 20)) (h1 : Ev X 59 kX11_when 0 (ent kX11_when [.ref 0, .int (X.2 (i + 1))]) [] (K, I, R) (some (.int w), (K1, I1, R1))) (h2 : Ev X 59 kX12_when 0 (ent kX12_when [.ref 140, .int (X.2 (i + 1))]) [] (K1, I1, R1) (some (.int w), (K1, I2, R1))) (e : Ev X 60 0 1058 [some (.retAddr 28), some (.ref 0), some (.ref 140), some (.int (nI i))] [] (K1, I2, R1) Z) : Ev X 60 0 546 [some (.retAddr 28), some (.ref 0), some (.ref 140), some (.int (nI i))] [] (K, I, R) Z := by
  (repeat refine Ev.p rfl rfl ?_)
  refine Ev.sld (j := i + 1) (by rfl) (nI_add i 1) (by omega) hn ?_
  (repeat refine Ev.p rfl rfl ?_)
  refine Ev.cv (by rfl) (by rfl) hk0 (by rfl) (by rfl) (by rfl) (by rfl) (by rfl) h1 ?_
  (repeat refine Ev.p rfl rfl ?_)
  refine Ev.sld (j := i + 1) (by rfl) (nI_add i 1) (by omega) hn ?_
  (repeat refine Ev.p rfl rfl ?_)
  refine Ev.cv (by rfl) (by rfl) hk1 (by rfl) (by rfl) (by rfl) (by rfl) (by rfl) h2 ?_
  (repeat refine Ev.p rfl rfl ?_)
  refine Ev.bp rfl (fun c => ?_) (fun c => ?_)
  · exact e
  · exact absurd (rfl) c
theorem cs_agenda {w : Int32} (hn : X.1 < 2147483648) (hi : i + 3 < X.1) (hk0 : K[0]? = some (11, 8)) (hk1 : K1[140]? = some (12, 20)) (h1 : Ev X 59 kX11_agenda 0 (ent kX11_agenda [.ref 0, .int (X.2 (i + 1)), .int (X.2 (i + 2))]) [] (K, I, R) (some (.int w), (K1, I1, R1))) (h2 : Ev X 59 kX12_agenda 0 (ent kX12_agenda [.ref 140, .int (X.2 (i + 1)), .int (X.2 (i + 2))]) [] (K1, I1, R1) (some (.int w), (K1, I2, R1))) (e : Ev X 60 0 1058 [some (.retAddr 28), some (.ref 0), some (.ref 140), some (.int (nI i))] [] (K1, I2, R1) Z) : Ev X 60 0 569 [some (.retAddr 28), some (.ref 0), some (.ref 140), some (.int (nI i))] [] (K, I, R) Z := by
  (repeat refine Ev.p rfl rfl ?_)
  refine Ev.sld (j := i + 1) (by rfl) (nI_add i 1) (by omega) hn ?_
  (repeat refine Ev.p rfl rfl ?_)
  refine Ev.sld (j := i + 2) (by rfl) (nI_add i 2) (by omega) hn ?_
  (repeat refine Ev.p rfl rfl ?_)
  refine Ev.cv (by rfl) (by rfl) hk0 (by rfl) (by rfl) (by rfl) (by rfl) (by rfl) h1 ?_
  (repeat refine Ev.p rfl rfl ?_)
  refine Ev.sld (j := i + 1) (by rfl) (nI_add i 1) (by omega) hn ?_
  (repeat refine Ev.p rfl rfl ?_)
  refine Ev.sld (j := i + 2) (by rfl) (nI_add i 2) (by omega) hn ?_
  (repeat refine Ev.p rfl rfl ?_)
  refine Ev.cv (by rfl) (by rfl) hk1 (by rfl) (by rfl) (by rfl) (by rfl) (by rfl) h2 ?_
  (repeat refine Ev.p rfl rfl ?_)
  refine Ev.bp rfl (fun c => ?_) (fun c => ?_)
  · exact e
  · exact absurd (rfl) c
theorem cs_net {w : Int32} (hn : X.1 < 2147483648) (hi : i + 3 < X.1) (hk0 : K[0]? = some (11, 8)) (hk1 : K1[140]? = some (12, 20)) (h1 : Ev X 59 kX11_net 0 (ent kX11_net [.ref 0, .int (X.2 (i + 1))]) [] (K, I, R) (some (.int w), (K1, I1, R1))) (h2 : Ev X 59 kX12_net 0 (ent kX12_net [.ref 140, .int (X.2 (i + 1))]) [] (K1, I1, R1) (some (.int w), (K1, I2, R1))) (e : Ev X 60 0 1058 [some (.retAddr 28), some (.ref 0), some (.ref 140), some (.int (nI i))] [] (K1, I2, R1) Z) : Ev X 60 0 602 [some (.retAddr 28), some (.ref 0), some (.ref 140), some (.int (nI i))] [] (K, I, R) Z := by
  (repeat refine Ev.p rfl rfl ?_)
  refine Ev.sld (j := i + 1) (by rfl) (nI_add i 1) (by omega) hn ?_
  (repeat refine Ev.p rfl rfl ?_)
  refine Ev.cv (by rfl) (by rfl) hk0 (by rfl) (by rfl) (by rfl) (by rfl) (by rfl) h1 ?_
  (repeat refine Ev.p rfl rfl ?_)
  refine Ev.sld (j := i + 1) (by rfl) (nI_add i 1) (by omega) hn ?_
  (repeat refine Ev.p rfl rfl ?_)
  refine Ev.cv (by rfl) (by rfl) hk1 (by rfl) (by rfl) (by rfl) (by rfl) (by rfl) h2 ?_
  (repeat refine Ev.p rfl rfl ?_)
  refine Ev.bp rfl (fun c => ?_) (fun c => ?_)
  · exact e
  · exact absurd (rfl) c
theorem cs_see {w : Int32} {z : Int32} (hz : X.2 (i + 3) = 0 ∧ z = 0 ∨ X.2 (i + 3) ≠ 0 ∧ z = 1) (hn : X.1 < 2147483648) (hi : i + 3 < X.1) (hk0 : K[0]? = some (11, 8)) (hk1 : K1[140]? = some (12, 20)) (h1 : Ev X 59 kX11_see 0 (ent kX11_see [.ref 0, .int (X.2 (i + 1)), .int (X.2 (i + 2)), .int z]) [] (K, I, R) (some (.int w), (K1, I1, R1))) (h2 : Ev X 59 kX12_see 0 (ent kX12_see [.ref 140, .int (X.2 (i + 1)), .int (X.2 (i + 2)), .int z]) [] (K1, I1, R1) (some (.int w), (K1, I2, R1))) (e : Ev X 60 0 1058 [some (.retAddr 28), some (.ref 0), some (.ref 140), some (.int (nI i))] [] (K1, I2, R1) Z) : Ev X 60 0 625 [some (.retAddr 28), some (.ref 0), some (.ref 140), some (.int (nI i))] [] (K, I, R) Z := by
  rcases hz with ⟨z0, rfl⟩ | ⟨z0, rfl⟩
  · (repeat refine Ev.p rfl rfl ?_)
    refine Ev.sld (j := i + 1) (by rfl) (nI_add i 1) (by omega) hn ?_
    (repeat refine Ev.p rfl rfl ?_)
    refine Ev.sld (j := i + 2) (by rfl) (nI_add i 2) (by omega) hn ?_
    (repeat refine Ev.p rfl rfl ?_)
    refine Ev.sld (j := i + 3) (by rfl) (nI_add i 3) (by omega) hn ?_
    (repeat refine Ev.p rfl rfl ?_)
    refine Ev.bp rfl (fun c => ?_) (fun c => ?_)
    rotate_left
    · exact absurd z0 c
    (repeat refine Ev.p rfl rfl ?_)
    refine Ev.cv (by rfl) (by rfl) hk0 (by rfl) (by rfl) (by rfl) (by rfl) (by rfl) h1 ?_
    (repeat refine Ev.p rfl rfl ?_)
    refine Ev.sld (j := i + 1) (by rfl) (nI_add i 1) (by omega) hn ?_
    (repeat refine Ev.p rfl rfl ?_)
    refine Ev.sld (j := i + 2) (by rfl) (nI_add i 2) (by omega) hn ?_
    (repeat refine Ev.p rfl rfl ?_)
    refine Ev.sld (j := i + 3) (by rfl) (nI_add i 3) (by omega) hn ?_
    (repeat refine Ev.p rfl rfl ?_)
    refine Ev.bp rfl (fun c2 => ?_) (fun c2 => ?_)
    rotate_left
    · exact absurd z0 c2
    (repeat refine Ev.p rfl rfl ?_)
    refine Ev.cv (by rfl) (by rfl) hk1 (by rfl) (by rfl) (by rfl) (by rfl) (by rfl) h2 ?_
    (repeat refine Ev.p rfl rfl ?_)
    refine Ev.bp rfl (fun c3 => ?_) (fun c3 => ?_)
    · exact e
    · exact absurd (rfl) c3
  · (repeat refine Ev.p rfl rfl ?_)
    refine Ev.sld (j := i + 1) (by rfl) (nI_add i 1) (by omega) hn ?_
    (repeat refine Ev.p rfl rfl ?_)
    refine Ev.sld (j := i + 2) (by rfl) (nI_add i 2) (by omega) hn ?_
    (repeat refine Ev.p rfl rfl ?_)
    refine Ev.sld (j := i + 3) (by rfl) (nI_add i 3) (by omega) hn ?_
    (repeat refine Ev.p rfl rfl ?_)
    refine Ev.bp rfl (fun c => ?_) (fun c => ?_)
    · exact absurd c z0
    (repeat refine Ev.p rfl rfl ?_)
    refine Ev.cv (by rfl) (by rfl) hk0 (by rfl) (by rfl) (by rfl) (by rfl) (by rfl) h1 ?_
    (repeat refine Ev.p rfl rfl ?_)
    refine Ev.sld (j := i + 1) (by rfl) (nI_add i 1) (by omega) hn ?_
    (repeat refine Ev.p rfl rfl ?_)
    refine Ev.sld (j := i + 2) (by rfl) (nI_add i 2) (by omega) hn ?_
    (repeat refine Ev.p rfl rfl ?_)
    refine Ev.sld (j := i + 3) (by rfl) (nI_add i 3) (by omega) hn ?_
    (repeat refine Ev.p rfl rfl ?_)
    refine Ev.bp rfl (fun c2 => ?_) (fun c2 => ?_)
    · exact absurd c2 z0
    (repeat refine Ev.p rfl rfl ?_)
    refine Ev.cv (by rfl) (by rfl) hk1 (by rfl) (by rfl) (by rfl) (by rfl) (by rfl) h2 ?_
    (repeat refine Ev.p rfl rfl ?_)
    refine Ev.bp rfl (fun c3 => ?_) (fun c3 => ?_)
    · exact e
    · exact absurd (rfl) c3
theorem cs_dues {w : Int32} (hn : X.1 < 2147483648) (hi : i + 3 < X.1) (hk0 : K[0]? = some (11, 8)) (hk1 : K1[140]? = some (12, 20)) (h1 : Ev X 59 kX11_dues 0 (ent kX11_dues [.ref 0, .int (X.2 (i + 1))]) [] (K, I, R) (some (.int w), (K1, I1, R1))) (h2 : Ev X 59 kX12_dues 0 (ent kX12_dues [.ref 140, .int (X.2 (i + 1))]) [] (K1, I1, R1) (some (.int w), (K1, I2, R1))) (e : Ev X 60 0 1058 [some (.retAddr 28), some (.ref 0), some (.ref 140), some (.int (nI i))] [] (K1, I2, R1) Z) : Ev X 60 0 684 [some (.retAddr 28), some (.ref 0), some (.ref 140), some (.int (nI i))] [] (K, I, R) Z := by
  (repeat refine Ev.p rfl rfl ?_)
  refine Ev.sld (j := i + 1) (by rfl) (nI_add i 1) (by omega) hn ?_
  (repeat refine Ev.p rfl rfl ?_)
  refine Ev.cv (by rfl) (by rfl) hk0 (by rfl) (by rfl) (by rfl) (by rfl) (by rfl) h1 ?_
  (repeat refine Ev.p rfl rfl ?_)
  refine Ev.sld (j := i + 1) (by rfl) (nI_add i 1) (by omega) hn ?_
  (repeat refine Ev.p rfl rfl ?_)
  refine Ev.cv (by rfl) (by rfl) hk1 (by rfl) (by rfl) (by rfl) (by rfl) (by rfl) h2 ?_
  (repeat refine Ev.p rfl rfl ?_)
  refine Ev.bp rfl (fun c => ?_) (fun c => ?_)
  · exact e
  · exact absurd (rfl) c
theorem cs_firm {w : Int32} (hn : X.1 < 2147483648) (hi : i + 3 < X.1) (hk0 : K[0]? = some (11, 8)) (hk1 : K1[140]? = some (12, 20)) (h1 : Ev X 59 kX11_firm 0 (ent kX11_firm [.ref 0, .int (X.2 (i + 1)), .int (X.2 (i + 2))]) [] (K, I, R) (some (.int w), (K1, I1, R1))) (h2 : Ev X 59 kX12_firm 0 (ent kX12_firm [.ref 140, .int (X.2 (i + 1)), .int (X.2 (i + 2))]) [] (K1, I1, R1) (some (.int w), (K1, I2, R1))) (e : Ev X 60 0 1058 [some (.retAddr 28), some (.ref 0), some (.ref 140), some (.int (nI i))] [] (K1, I2, R1) Z) : Ev X 60 0 707 [some (.retAddr 28), some (.ref 0), some (.ref 140), some (.int (nI i))] [] (K, I, R) Z := by
  (repeat refine Ev.p rfl rfl ?_)
  refine Ev.sld (j := i + 1) (by rfl) (nI_add i 1) (by omega) hn ?_
  (repeat refine Ev.p rfl rfl ?_)
  refine Ev.sld (j := i + 2) (by rfl) (nI_add i 2) (by omega) hn ?_
  (repeat refine Ev.p rfl rfl ?_)
  refine Ev.cv (by rfl) (by rfl) hk0 (by rfl) (by rfl) (by rfl) (by rfl) (by rfl) h1 ?_
  (repeat refine Ev.p rfl rfl ?_)
  refine Ev.sld (j := i + 1) (by rfl) (nI_add i 1) (by omega) hn ?_
  (repeat refine Ev.p rfl rfl ?_)
  refine Ev.sld (j := i + 2) (by rfl) (nI_add i 2) (by omega) hn ?_
  (repeat refine Ev.p rfl rfl ?_)
  refine Ev.cv (by rfl) (by rfl) hk1 (by rfl) (by rfl) (by rfl) (by rfl) (by rfl) h2 ?_
  (repeat refine Ev.p rfl rfl ?_)
  refine Ev.bp rfl (fun c => ?_) (fun c => ?_)
  · exact e
  · exact absurd (rfl) c
theorem cs_odds {w : Int64} (hn : X.1 < 2147483648) (hi : i + 3 < X.1) (hk0 : K[0]? = some (11, 8)) (hk1 : K1[140]? = some (12, 20)) (h1 : Ev X 59 kX11_odds 0 (ent kX11_odds [.ref 0, .int (X.2 (i + 1)), .int (X.2 (i + 2)), .int (X.2 (i + 3))]) [] (K, I, R) (some (.long w), (K1, I1, R1))) (h2 : Ev X 59 kX12_odds 0 (ent kX12_odds [.ref 140, .int (X.2 (i + 1)), .int (X.2 (i + 2)), .int (X.2 (i + 3))]) [] (K1, I1, R1) (some (.long w), (K1, I2, R1))) (e : Ev X 60 0 1058 [some (.retAddr 28), some (.ref 0), some (.ref 140), some (.int (nI i))] [] (K1, I2, R1) Z) : Ev X 60 0 740 [some (.retAddr 28), some (.ref 0), some (.ref 140), some (.int (nI i))] [] (K, I, R) Z := by
  (repeat refine Ev.p rfl rfl ?_)
  refine Ev.sld (j := i + 1) (by rfl) (nI_add i 1) (by omega) hn ?_
  (repeat refine Ev.p rfl rfl ?_)
  refine Ev.sld (j := i + 2) (by rfl) (nI_add i 2) (by omega) hn ?_
  (repeat refine Ev.p rfl rfl ?_)
  refine Ev.sld (j := i + 3) (by rfl) (nI_add i 3) (by omega) hn ?_
  (repeat refine Ev.p rfl rfl ?_)
  refine Ev.cv (by rfl) (by rfl) hk0 (by rfl) (by rfl) (by rfl) (by rfl) (by rfl) h1 ?_
  (repeat refine Ev.p rfl rfl ?_)
  refine Ev.sld (j := i + 1) (by rfl) (nI_add i 1) (by omega) hn ?_
  (repeat refine Ev.p rfl rfl ?_)
  refine Ev.sld (j := i + 2) (by rfl) (nI_add i 2) (by omega) hn ?_
  (repeat refine Ev.p rfl rfl ?_)
  refine Ev.sld (j := i + 3) (by rfl) (nI_add i 3) (by omega) hn ?_
  (repeat refine Ev.p rfl rfl ?_)
  refine Ev.cv (by rfl) (by rfl) hk1 (by rfl) (by rfl) (by rfl) (by rfl) (by rfl) h2 ?_
  (repeat refine Ev.p rfl rfl ?_)
  refine Ev.bp rfl (fun c => ?_) (fun c => ?_)
  · exact e
  · exact absurd ((lg_cmp_eq _ _).mpr rfl) c
theorem cs_mean {w : Int64} (hn : X.1 < 2147483648) (hi : i + 3 < X.1) (hk0 : K[0]? = some (11, 8)) (hk1 : K1[140]? = some (12, 20)) (h1 : Ev X 59 kX11_mean 0 (ent kX11_mean [.ref 0, .int (X.2 (i + 1))]) [] (K, I, R) (some (.long w), (K1, I1, R1))) (h2 : Ev X 59 kX12_mean 0 (ent kX12_mean [.ref 140, .int (X.2 (i + 1))]) [] (K1, I1, R1) (some (.long w), (K1, I2, R1))) (e : Ev X 60 0 1058 [some (.retAddr 28), some (.ref 0), some (.ref 140), some (.int (nI i))] [] (K1, I2, R1) Z) : Ev X 60 0 784 [some (.retAddr 28), some (.ref 0), some (.ref 140), some (.int (nI i))] [] (K, I, R) Z := by
  (repeat refine Ev.p rfl rfl ?_)
  refine Ev.sld (j := i + 1) (by rfl) (nI_add i 1) (by omega) hn ?_
  (repeat refine Ev.p rfl rfl ?_)
  refine Ev.cv (by rfl) (by rfl) hk0 (by rfl) (by rfl) (by rfl) (by rfl) (by rfl) h1 ?_
  (repeat refine Ev.p rfl rfl ?_)
  refine Ev.sld (j := i + 1) (by rfl) (nI_add i 1) (by omega) hn ?_
  (repeat refine Ev.p rfl rfl ?_)
  refine Ev.cv (by rfl) (by rfl) hk1 (by rfl) (by rfl) (by rfl) (by rfl) (by rfl) h2 ?_
  (repeat refine Ev.p rfl rfl ?_)
  refine Ev.bp rfl (fun c => ?_) (fun c => ?_)
  · exact e
  · exact absurd ((lg_cmp_eq _ _).mpr rfl) c
theorem cs_plan {w : Int32} (hn : X.1 < 2147483648) (hi : i + 3 < X.1) (hk0 : K[0]? = some (11, 8)) (hk1 : K1[140]? = some (12, 20)) (h1 : Ev X 59 kX11_plan 0 (ent kX11_plan [.ref 0, .int (X.2 (i + 1)), .int (X.2 (i + 2))]) [] (K, I, R) (some (.int w), (K1, I1, R1))) (h2 : Ev X 59 kX12_plan 0 (ent kX12_plan [.ref 140, .int (X.2 (i + 1)), .int (X.2 (i + 2))]) [] (K1, I1, R1) (some (.int w), (K1, I2, R1))) (e : Ev X 60 0 1058 [some (.retAddr 28), some (.ref 0), some (.ref 140), some (.int (nI i))] [] (K1, I2, R1) Z) : Ev X 60 0 808 [some (.retAddr 28), some (.ref 0), some (.ref 140), some (.int (nI i))] [] (K, I, R) Z := by
  (repeat refine Ev.p rfl rfl ?_)
  refine Ev.sld (j := i + 1) (by rfl) (nI_add i 1) (by omega) hn ?_
  (repeat refine Ev.p rfl rfl ?_)
  refine Ev.sld (j := i + 2) (by rfl) (nI_add i 2) (by omega) hn ?_
  (repeat refine Ev.p rfl rfl ?_)
  refine Ev.cv (by rfl) (by rfl) hk0 (by rfl) (by rfl) (by rfl) (by rfl) (by rfl) h1 ?_
  (repeat refine Ev.p rfl rfl ?_)
  refine Ev.sld (j := i + 1) (by rfl) (nI_add i 1) (by omega) hn ?_
  (repeat refine Ev.p rfl rfl ?_)
  refine Ev.sld (j := i + 2) (by rfl) (nI_add i 2) (by omega) hn ?_
  (repeat refine Ev.p rfl rfl ?_)
  refine Ev.cv (by rfl) (by rfl) hk1 (by rfl) (by rfl) (by rfl) (by rfl) (by rfl) h2 ?_
  (repeat refine Ev.p rfl rfl ?_)
  refine Ev.bp rfl (fun c => ?_) (fun c => ?_)
  · exact e
  · exact absurd (rfl) c
theorem cs_done {w : Int32} (hn : X.1 < 2147483648) (hi : i + 3 < X.1) (hk0 : K[0]? = some (11, 8)) (hk1 : K1[140]? = some (12, 20)) (h1 : Ev X 59 kX11_done 0 (ent kX11_done [.ref 0, .int (X.2 (i + 1))]) [] (K, I, R) (some (.int w), (K1, I1, R1))) (h2 : Ev X 59 kX12_done 0 (ent kX12_done [.ref 140, .int (X.2 (i + 1))]) [] (K1, I1, R1) (some (.int w), (K1, I2, R1))) (e : Ev X 60 0 1058 [some (.retAddr 28), some (.ref 0), some (.ref 140), some (.int (nI i))] [] (K1, I2, R1) Z) : Ev X 60 0 841 [some (.retAddr 28), some (.ref 0), some (.ref 140), some (.int (nI i))] [] (K, I, R) Z := by
  (repeat refine Ev.p rfl rfl ?_)
  refine Ev.sld (j := i + 1) (by rfl) (nI_add i 1) (by omega) hn ?_
  (repeat refine Ev.p rfl rfl ?_)
  refine Ev.cv (by rfl) (by rfl) hk0 (by rfl) (by rfl) (by rfl) (by rfl) (by rfl) h1 ?_
  (repeat refine Ev.p rfl rfl ?_)
  refine Ev.sld (j := i + 1) (by rfl) (nI_add i 1) (by omega) hn ?_
  (repeat refine Ev.p rfl rfl ?_)
  refine Ev.cv (by rfl) (by rfl) hk1 (by rfl) (by rfl) (by rfl) (by rfl) (by rfl) h2 ?_
  (repeat refine Ev.p rfl rfl ?_)
  refine Ev.bp rfl (fun c => ?_) (fun c => ?_)
  · exact e
  · exact absurd (rfl) c
theorem cs_book {w : Int32} (hn : X.1 < 2147483648) (hi : i + 3 < X.1) (hk0 : K[0]? = some (11, 8)) (hk1 : K1[140]? = some (12, 20)) (h1 : Ev X 59 kX11_book 0 (ent kX11_book [.ref 0, .int (X.2 (i + 1)), .int (X.2 (i + 2))]) [] (K, I, R) (some (.int w), (K1, I1, R1))) (h2 : Ev X 59 kX12_book 0 (ent kX12_book [.ref 140, .int (X.2 (i + 1)), .int (X.2 (i + 2))]) [] (K1, I1, R1) (some (.int w), (K1, I2, R1))) (e : Ev X 60 0 1058 [some (.retAddr 28), some (.ref 0), some (.ref 140), some (.int (nI i))] [] (K1, I2, R1) Z) : Ev X 60 0 864 [some (.retAddr 28), some (.ref 0), some (.ref 140), some (.int (nI i))] [] (K, I, R) Z := by
  (repeat refine Ev.p rfl rfl ?_)
  refine Ev.sld (j := i + 1) (by rfl) (nI_add i 1) (by omega) hn ?_
  (repeat refine Ev.p rfl rfl ?_)
  refine Ev.sld (j := i + 2) (by rfl) (nI_add i 2) (by omega) hn ?_
  (repeat refine Ev.p rfl rfl ?_)
  refine Ev.cv (by rfl) (by rfl) hk0 (by rfl) (by rfl) (by rfl) (by rfl) (by rfl) h1 ?_
  (repeat refine Ev.p rfl rfl ?_)
  refine Ev.sld (j := i + 1) (by rfl) (nI_add i 1) (by omega) hn ?_
  (repeat refine Ev.p rfl rfl ?_)
  refine Ev.sld (j := i + 2) (by rfl) (nI_add i 2) (by omega) hn ?_
  (repeat refine Ev.p rfl rfl ?_)
  refine Ev.cv (by rfl) (by rfl) hk1 (by rfl) (by rfl) (by rfl) (by rfl) (by rfl) h2 ?_
  (repeat refine Ev.p rfl rfl ?_)
  refine Ev.bp rfl (fun c => ?_) (fun c => ?_)
  · exact e
  · exact absurd (rfl) c
theorem cs_looked {w : Int32} (hn : X.1 < 2147483648) (hi : i + 3 < X.1) (hk0 : K[0]? = some (11, 8)) (hk1 : K1[140]? = some (12, 20)) (h1 : Ev X 59 kX11_looked 0 (ent kX11_looked [.ref 0]) [] (K, I, R) (some (.int w), (K1, I1, R1))) (h2 : Ev X 59 kX12_looked 0 (ent kX12_looked [.ref 140]) [] (K1, I1, R1) (some (.int w), (K1, I2, R1))) (e : Ev X 60 0 1058 [some (.retAddr 28), some (.ref 0), some (.ref 140), some (.int (nI i))] [] (K1, I2, R1) Z) : Ev X 60 0 897 [some (.retAddr 28), some (.ref 0), some (.ref 140), some (.int (nI i))] [] (K, I, R) Z := by
  (repeat refine Ev.p rfl rfl ?_)
  refine Ev.cv (by rfl) (by rfl) hk0 (by rfl) (by rfl) (by rfl) (by rfl) (by rfl) h1 ?_
  (repeat refine Ev.p rfl rfl ?_)
  refine Ev.cv (by rfl) (by rfl) hk1 (by rfl) (by rfl) (by rfl) (by rfl) (by rfl) h2 ?_
  (repeat refine Ev.p rfl rfl ?_)
  refine Ev.bp rfl (fun c => ?_) (fun c => ?_)
  · exact e
  · exact absurd (rfl) c
theorem cs_act {w : Int32} (hn : X.1 < 2147483648) (hi : i + 3 < X.1) (hk0 : K[0]? = some (11, 8)) (hk1 : K1[140]? = some (12, 20)) (h1 : Ev X 59 kX11_act 0 (ent kX11_act [.ref 0, .int (X.2 (i + 1)), .int (X.2 (i + 2)), .int (X.2 (i + 3))]) [] (K, I, R) (some (.int w), (K1, I1, R1))) (h2 : Ev X 59 kX12_act 0 (ent kX12_act [.ref 140, .int (X.2 (i + 1)), .int (X.2 (i + 2)), .int (X.2 (i + 3))]) [] (K1, I1, R1) (some (.int w), (K1, I2, R1))) (e : Ev X 60 0 1058 [some (.retAddr 28), some (.ref 0), some (.ref 140), some (.int (nI i))] [] (K1, I2, R1) Z) : Ev X 60 0 910 [some (.retAddr 28), some (.ref 0), some (.ref 140), some (.int (nI i))] [] (K, I, R) Z := by
  (repeat refine Ev.p rfl rfl ?_)
  refine Ev.sld (j := i + 1) (by rfl) (nI_add i 1) (by omega) hn ?_
  (repeat refine Ev.p rfl rfl ?_)
  refine Ev.sld (j := i + 2) (by rfl) (nI_add i 2) (by omega) hn ?_
  (repeat refine Ev.p rfl rfl ?_)
  refine Ev.sld (j := i + 3) (by rfl) (nI_add i 3) (by omega) hn ?_
  (repeat refine Ev.p rfl rfl ?_)
  refine Ev.cv (by rfl) (by rfl) hk0 (by rfl) (by rfl) (by rfl) (by rfl) (by rfl) h1 ?_
  (repeat refine Ev.p rfl rfl ?_)
  refine Ev.sld (j := i + 1) (by rfl) (nI_add i 1) (by omega) hn ?_
  (repeat refine Ev.p rfl rfl ?_)
  refine Ev.sld (j := i + 2) (by rfl) (nI_add i 2) (by omega) hn ?_
  (repeat refine Ev.p rfl rfl ?_)
  refine Ev.sld (j := i + 3) (by rfl) (nI_add i 3) (by omega) hn ?_
  (repeat refine Ev.p rfl rfl ?_)
  refine Ev.cv (by rfl) (by rfl) hk1 (by rfl) (by rfl) (by rfl) (by rfl) (by rfl) h2 ?_
  (repeat refine Ev.p rfl rfl ?_)
  refine Ev.bp rfl (fun c => ?_) (fun c => ?_)
  · exact e
  · exact absurd (rfl) c
theorem cs_trace {w : Int32} (hn : X.1 < 2147483648) (hi : i + 3 < X.1) (hk0 : K[0]? = some (11, 8)) (hk1 : K1[140]? = some (12, 20)) (h1 : Ev X 59 kX11_trace 0 (ent kX11_trace [.ref 0, .int (X.2 (i + 1))]) [] (K, I, R) (some (.int w), (K1, I1, R1))) (h2 : Ev X 59 kX12_trace 0 (ent kX12_trace [.ref 140, .int (X.2 (i + 1))]) [] (K1, I1, R1) (some (.int w), (K1, I2, R1))) (e : Ev X 60 0 1058 [some (.retAddr 28), some (.ref 0), some (.ref 140), some (.int (nI i))] [] (K1, I2, R1) Z) : Ev X 60 0 953 [some (.retAddr 28), some (.ref 0), some (.ref 140), some (.int (nI i))] [] (K, I, R) Z := by
  (repeat refine Ev.p rfl rfl ?_)
  refine Ev.sld (j := i + 1) (by rfl) (nI_add i 1) (by omega) hn ?_
  (repeat refine Ev.p rfl rfl ?_)
  refine Ev.cv (by rfl) (by rfl) hk0 (by rfl) (by rfl) (by rfl) (by rfl) (by rfl) h1 ?_
  (repeat refine Ev.p rfl rfl ?_)
  refine Ev.sld (j := i + 1) (by rfl) (nI_add i 1) (by omega) hn ?_
  (repeat refine Ev.p rfl rfl ?_)
  refine Ev.cv (by rfl) (by rfl) hk1 (by rfl) (by rfl) (by rfl) (by rfl) (by rfl) h2 ?_
  (repeat refine Ev.p rfl rfl ?_)
  refine Ev.bp rfl (fun c => ?_) (fun c => ?_)
  · exact e
  · exact absurd (rfl) c
theorem cs_as {w : Int32} (hn : X.1 < 2147483648) (hi : i + 3 < X.1) (hk0 : K[0]? = some (11, 8)) (hk1 : K1[140]? = some (12, 20)) (h1 : Ev X 59 kX11_as 0 (ent kX11_as [.ref 0, .int (X.2 (i + 1)), .int (X.2 (i + 2))]) [] (K, I, R) (some (.int w), (K1, I1, R1))) (h2 : Ev X 59 kX12_as 0 (ent kX12_as [.ref 140, .int (X.2 (i + 1)), .int (X.2 (i + 2))]) [] (K1, I1, R1) (some (.int w), (K1, I2, R1))) (e : Ev X 60 0 1058 [some (.retAddr 28), some (.ref 0), some (.ref 140), some (.int (nI i))] [] (K1, I2, R1) Z) : Ev X 60 0 976 [some (.retAddr 28), some (.ref 0), some (.ref 140), some (.int (nI i))] [] (K, I, R) Z := by
  (repeat refine Ev.p rfl rfl ?_)
  refine Ev.sld (j := i + 1) (by rfl) (nI_add i 1) (by omega) hn ?_
  (repeat refine Ev.p rfl rfl ?_)
  refine Ev.sld (j := i + 2) (by rfl) (nI_add i 2) (by omega) hn ?_
  (repeat refine Ev.p rfl rfl ?_)
  refine Ev.cv (by rfl) (by rfl) hk0 (by rfl) (by rfl) (by rfl) (by rfl) (by rfl) h1 ?_
  (repeat refine Ev.p rfl rfl ?_)
  refine Ev.sld (j := i + 1) (by rfl) (nI_add i 1) (by omega) hn ?_
  (repeat refine Ev.p rfl rfl ?_)
  refine Ev.sld (j := i + 2) (by rfl) (nI_add i 2) (by omega) hn ?_
  (repeat refine Ev.p rfl rfl ?_)
  refine Ev.cv (by rfl) (by rfl) hk1 (by rfl) (by rfl) (by rfl) (by rfl) (by rfl) h2 ?_
  (repeat refine Ev.p rfl rfl ?_)
  refine Ev.bp rfl (fun c => ?_) (fun c => ?_)
  · exact e
  · exact absurd (rfl) c
theorem cs_image {w : Int32} (hn : X.1 < 2147483648) (hi : i + 3 < X.1) (hk0 : K[0]? = some (11, 8)) (hk1 : K1[140]? = some (12, 20)) (h1 : Ev X 59 kX11_image 0 (ent kX11_image [.ref 0]) [] (K, I, R) (some (.int w), (K1, I1, R1))) (h2 : Ev X 59 kX12_image 0 (ent kX12_image [.ref 140]) [] (K1, I1, R1) (some (.int w), (K1, I2, R1))) (e : Ev X 60 0 1058 [some (.retAddr 28), some (.ref 0), some (.ref 140), some (.int (nI i))] [] (K1, I2, R1) Z) : Ev X 60 0 1009 [some (.retAddr 28), some (.ref 0), some (.ref 140), some (.int (nI i))] [] (K, I, R) Z := by
  (repeat refine Ev.p rfl rfl ?_)
  refine Ev.cv (by rfl) (by rfl) hk0 (by rfl) (by rfl) (by rfl) (by rfl) (by rfl) h1 ?_
  (repeat refine Ev.p rfl rfl ?_)
  refine Ev.cv (by rfl) (by rfl) hk1 (by rfl) (by rfl) (by rfl) (by rfl) (by rfl) h2 ?_
  (repeat refine Ev.p rfl rfl ?_)
  refine Ev.bp rfl (fun c => ?_) (fun c => ?_)
  · exact e
  · exact absurd (rfl) c
theorem cs_undo {w : Int32} (hn : X.1 < 2147483648) (hi : i + 3 < X.1) (hk0 : K[0]? = some (11, 8)) (hk1 : K1[140]? = some (12, 20)) (h1 : Ev X 59 kX11_undo 0 (ent kX11_undo [.ref 0]) [] (K, I, R) (some (.int w), (K1, I1, R1))) (h2 : Ev X 59 kX12_undo 0 (ent kX12_undo [.ref 140]) [] (K1, I1, R1) (some (.int w), (K1, I2, R1))) (e : Ev X 60 0 1058 [some (.retAddr 28), some (.ref 0), some (.ref 140), some (.int (nI i))] [] (K1, I2, R1) Z) : Ev X 60 0 1022 [some (.retAddr 28), some (.ref 0), some (.ref 140), some (.int (nI i))] [] (K, I, R) Z := by
  (repeat refine Ev.p rfl rfl ?_)
  refine Ev.cv (by rfl) (by rfl) hk0 (by rfl) (by rfl) (by rfl) (by rfl) (by rfl) h1 ?_
  (repeat refine Ev.p rfl rfl ?_)
  refine Ev.cv (by rfl) (by rfl) hk1 (by rfl) (by rfl) (by rfl) (by rfl) (by rfl) h2 ?_
  (repeat refine Ev.p rfl rfl ?_)
  refine Ev.bp rfl (fun c => ?_) (fun c => ?_)
  · exact e
  · exact absurd (rfl) c
theorem cs_count {w : Int32} (hn : X.1 < 2147483648) (hi : i + 3 < X.1) (hk0 : K[0]? = some (11, 8)) (hk1 : K1[140]? = some (12, 20)) (h1 : Ev X 59 kX11_count 0 (ent kX11_count [.ref 0, .int (X.2 (i + 1))]) [] (K, I, R) (some (.int w), (K1, I1, R1))) (h2 : Ev X 59 kX12_count 0 (ent kX12_count [.ref 140, .int (X.2 (i + 1))]) [] (K1, I1, R1) (some (.int w), (K1, I2, R1))) (e : Ev X 60 0 1058 [some (.retAddr 28), some (.ref 0), some (.ref 140), some (.int (nI i))] [] (K1, I2, R1) Z) : Ev X 60 0 1035 [some (.retAddr 28), some (.ref 0), some (.ref 140), some (.int (nI i))] [] (K, I, R) Z := by
  (repeat refine Ev.p rfl rfl ?_)
  refine Ev.sld (j := i + 1) (by rfl) (nI_add i 1) (by omega) hn ?_
  (repeat refine Ev.p rfl rfl ?_)
  refine Ev.cv (by rfl) (by rfl) hk0 (by rfl) (by rfl) (by rfl) (by rfl) (by rfl) h1 ?_
  (repeat refine Ev.p rfl rfl ?_)
  refine Ev.sld (j := i + 1) (by rfl) (nI_add i 1) (by omega) hn ?_
  (repeat refine Ev.p rfl rfl ?_)
  refine Ev.cv (by rfl) (by rfl) hk1 (by rfl) (by rfl) (by rfl) (by rfl) (by rfl) h2 ?_
  (repeat refine Ev.p rfl rfl ?_)
  refine Ev.bp rfl (fun c => ?_) (fun c => ?_)
  · exact e
  · exact absurd (rfl) c
end LAWC
