/-! THE MACHINE OF THE TABLES IS THE MACHINE -/
set_option maxHeartbeats 8000000 in
theorem stp_grow {X : Nat × (Nat → Int32)} {e : Ent} {pc' : Nat} {ls ls' : List (Option Value)} {st st' : List Value} {h h' : Hp} (hs : stp X e ls st h = some (pc', ls', st', h')) : h.1.length ≤ h'.1.length ∧ ksum h.1 ≤ ksum h'.1 := by
  obtain ⟨ins, np, a, b, c0, v⟩ := e
  cases ins
  all_goals dsimp only [stp] at hs
  all_goals (try (cases hs; done))
  all_goals (try simp only [cond_eq_ite] at hs)
  all_goals (repeat' (split at hs))
  all_goals (try (cases hs; done))
  all_goals (cases hs)
  all_goals (first | exact ⟨Nat.le_refl _, Nat.le_refl _⟩ | exact ⟨by simp, by simp [ksum]⟩)
theorem exec_grow {X : Nat × (Nat → Int32)} : ∀ (f d k pc : Nat) (ls : List (Option Value)) (st : List Value) (h : Hp) (r : Option Value) (h' : Hp), exec X f d k pc ls st h = some (r, h') → h.1.length ≤ h'.1.length ∧ ksum h.1 ≤ ksum h'.1 := by
  intro f
  induction f with
  | zero => intro d k pc ls st h r h' hR; simp [exec] at hR
  | succ f ih =>
    intro d k pc ls st h r h' hR
    rw [exec_succ] at hR
    cases hl : look k pc with
    | none => rw [hl] at hR; simp at hR
    | some e =>
      rw [hl] at hR
      simp only at hR
      split at hR
      · cases hs : stp X e ls st h with
        | none => rw [hs] at hR; simp at hR
        | some q =>
          obtain ⟨pc', ls', st', h1⟩ := q
          rw [hs] at hR
          simp only at hR
          have g1 := stp_grow hs
          have g2 := ih _ _ _ _ _ _ _ _ hR
          exact ⟨Nat.le_trans g1.1 g2.1, Nat.le_trans g1.2 g2.2⟩
      · cases d with
        | zero => simp at hR
        | succ d' =>
          simp only at hR
          cases hc : cle e st h with
          | none => rw [hc] at hR; simp at hR
          | some q =>
            obtain ⟨k', As, rest, np⟩ := q
            rw [hc] at hR
            simp only at hR
            cases he : exec X f d' k' 0 (ent k' As) [] h with
            | none => rw [he] at hR; simp at hR
            | some q =>
              obtain ⟨r1, h1⟩ := q
              rw [he] at hR
              simp only at hR
              have g1 := ih _ _ _ _ _ _ _ _ he
              have g2 := ih _ _ _ _ _ _ _ _ hR
              exact ⟨Nat.le_trans g1.1 g2.1, Nat.le_trans g1.2 g2.2⟩
      · cases hr : rtv k e st with
        | none => rw [hr] at hR; simp at hR
        | some q =>
          rw [hr] at hR
          simp only [Option.some.injEq, Prod.mk.injEq] at hR
          rw [← hR.2]
          exact ⟨Nat.le_refl _, Nat.le_refl _⟩
/-! the locals of a method's entry -/
theorem lay_args {z : Nat} {sv : Nat → Value} (hsv : ∀ i, sv i = .null ∨ ∃ a : Nat, sv i = .ref a) : ∀ (As : List Value) (j i : Nat) (v : Value), (lay As)[i]? = some (some v) → (j + i, cv z sv v) ∈ lv_args j (As.map (cv z sv)) := by
  intro As
  induction As with
  | nil => intro j i v h; simp [lay] at h
  | cons a r ih =>
    intro j i v h
    rw [List.map_cons, lv_args]
    unfold lay at h
    cases hb : Nat.beq a.category 2 with
    | true =>
      rw [hb, cond_true] at h
      have hc : (cv z sv a).category = 2 := by rw [cat_cv hsv]; exact Nat.eq_of_beq_eq_true hb
      rw [if_pos hc]
      match i, h with
      | 0, h => cases h; exact List.mem_cons_self
      | 1, h => cases h
      | i + 2, h => exact List.mem_cons_of_mem _ (by have h3 := ih (j + 2) i v h; rwa [show j + 2 + i = j + (i + 2) by omega] at h3)
    | false =>
      rw [hb, cond_false] at h
      have hc : ¬ (cv z sv a).category = 2 := by rw [cat_cv hsv]; intro q; rw [q] at hb; simp at hb
      rw [if_neg hc]
      match i, h with
      | 0, h => cases h; exact List.mem_cons_self
      | i + 1, h => exact List.mem_cons_of_mem _ (by have h3 := ih (j + 1) i v h; rwa [show j + 1 + i = j + (i + 1) by omega] at h3)
theorem lay_len {z : Nat} {sv : Nat → Value} (hsv : ∀ i, sv i = .null ∨ ∃ a : Nat, sv i = .ref a) : ∀ (As : List Value), (lg_sl (As.map (cv z sv))).length = (lay As).length := by
  intro As
  induction As with
  | nil => rfl
  | cons a r ih =>
    have e : lg_sl ((a :: r).map (cv z sv)) = (if (cv z sv a).category = 2 then [.val (cv z sv a), .second] else [.val (cv z sv a)]) ++ lg_sl (r.map (cv z sv)) := by simp [lg_sl]
    rw [e]
    unfold lay
    cases hb : Nat.beq a.category 2 with
    | true =>
      have hc : (cv z sv a).category = 2 := by rw [cat_cv hsv]; exact Nat.eq_of_beq_eq_true hb
      simp [hc, ih]
      try omega
    | false =>
      have hc : ¬ (cv z sv a).category = 2 := by rw [cat_cv hsv]; intro q; rw [q] at hb; simp at hb
      simp [hc, ih]
      try omega
theorem ent_lv {z : Nat} {sv : Nat → Value} (hsv : ∀ i, sv i = .null ∨ ∃ a : Nat, sv i = .ref a) {k : Nat} {As : List Value} {LS : Array Slot} (hlen : (lay As).length ≤ mL k) (h : lv_has LS (mL k) (lv_args 0 (As.map (cv z sv)))) : lvR z sv LS (mL k) (ent k As) := by
  refine ⟨by simp [ent]; omega, h.1, h.2.1, fun q hq => ?_⟩
  obtain ⟨v, hv, e⟩ := prs_of hq
  refine h.2.2 q ?_
  unfold ent at hv
  rcases Nat.lt_or_ge q.1 (lay As).length with g | g
  · rw [List.getElem?_append_left g] at hv
    have h2 := lay_args (z := z) hsv As 0 q.1 v hv
    rw [Nat.zero_add, ← e] at h2
    exact h2
  · rw [List.getElem?_append_right g] at hv
    have h3 := List.eq_of_mem_replicate (List.mem_of_getElem? hv)
    cases h3
def okA (k : Nat) : Prop := ∀ (pc : Nat) (e : Ent), pc < mS k → look k pc = some e → okE k pc e = true
section SOUND
variable {p : Program} {l : Launch} {e' : Env} {R : Room} {s : State} {m : MethodId} {args : Array Value} {below : List Frame} {meth : Method} {c : Code} {H : Heap} {locs : List Loc} {cells slots : Nat} {Q : State → Prop} {LS : Array Slot}
variable {k z : Nat} {X : Nat × (Nat → Int32)} {sv : Nat → Value} {ca : Nat → ClassId} {D : va_G}
set_option maxHeartbeats 4000000 in
/-- a method's end -/
theorem ret_all (C : Cx p s m args meth c k z X sv ca D) (hr : meth.sig.returnType = mR k) (hlocks : meth.locks = false) {e : Ent} {pc : Nat} {st : List Value} {r : Option Value} {h' : Hp} (hl : okE k pc e = true) (hv : rtv k e st = some r) (hW : Wd z ca D H h') (hS : va_S (zA z) s.heap H locs) :
    W p l e' R s m args below meth c H locs cells slots (MQ below (fun _ st oc t => oc = .returned (r.map (cv z sv)) ∧ Wd z ca D t.heap h' ∧ va_F (zA z) st t) args s cells slots (zA z)) (F0 m pc LS (st.map (cv z sv))) := by
  obtain ⟨hx, hb, hml, hown, hts, hnm, hK, hSp, hz⟩ := C
  obtain ⟨ins, np, a, b, c0, v⟩ := e
  unfold okE at hl
  simp only [Bool.and_eq_true, Bool.or_eq_true, decide_eq_true_eq] at hl
  obtain ⟨⟨hd, hsw⟩, hX⟩ := hl
  have hq : ∀ w : Option Value, w = r.map (cv z sv) → ∀ t : State, t.heap = H → s.WarmedH t.vm → (Outcome.returned w = .returned (r.map (cv z sv)) ∧ Wd z ca D t.heap h' ∧ va_F (zA z) s t) := fun w hw t ht _ => ⟨by rw [hw], by rw [ht]; exact hW, hS.F ht⟩
  unfold rtv at hv
  dsimp only at hv
  split at hv
  · have hnp : np = pc + 1 := Nat.eq_of_beq_eq_true (hsw.resolve_left (fun q => Bool.noConfusion q))
    subst hnp
    rw [Nat.add_sub_cancel_left] at hd
    split at hv
    · split at hv
      · rename_i hm
        cases hv
        exact W.iret hx hb (hr.trans hm) (hq _ rfl) hS.2.2 hd hlocks
      · rename_i hm
        obtain ⟨h1, hv⟩ := cond_some hv
        subst hv
        exact W.zret hx hb (hr.trans hm) (nfit_ok h1).1 (hq _ rfl) hS.2.2 hd hlocks
      · rename_i hm
        obtain ⟨h1, hv⟩ := cond_some hv
        subst hv
        exact W.zret hx hb (hr.trans hm) (nfit_ok h1).1 (hq _ rfl) hS.2.2 hd hlocks
      · rename_i hm
        obtain ⟨h1, hv⟩ := cond_some hv
        subst hv
        exact W.zret hx hb (hr.trans hm) (nfit_ok h1).1 (hq _ rfl) hS.2.2 hd hlocks
      · cases hv
    · cases hv
  · have hnp : np = pc + 1 := Nat.eq_of_beq_eq_true (hsw.resolve_left (fun q => Bool.noConfusion q))
    subst hnp
    rw [Nat.add_sub_cancel_left] at hd
    split at hv
    · split at hv
      · rename_i hm
        cases hv
        exact W.lret hx hb (hr.trans hm) (hq _ rfl) hS.2.2 hd hlocks
      · cases hv
    · cases hv
  · have hnp : np = pc + 1 := Nat.eq_of_beq_eq_true (hsw.resolve_left (fun q => Bool.noConfusion q))
    subst hnp
    rw [Nat.add_sub_cancel_left] at hd
    split at hv
    · split at hv
      · rename_i hm
        cases hv
        exact W.aret hx hb (hr.trans hm) (Or.inl ⟨_, rfl⟩) (Or.inr ⟨_, rfl⟩) (hq _ rfl) hS.2.2 hd hlocks
      · cases hv
    · split at hv
      · rename_i x _ _ hm
        cases hv
        exact W.aret hx hb (hr.trans hm) (Or.inl ⟨_, rfl⟩) (hSp.2.2.2.2.2.2.2.2 _) (hq _ rfl) hS.2.2 hd hlocks
      · cases hv
    · cases hv
  · have hnp : np = pc + 1 := Nat.eq_of_beq_eq_true (hsw.resolve_left (fun q => Bool.noConfusion q))
    subst hnp
    rw [Nat.add_sub_cancel_left] at hd
    split at hv
    · split at hv
      · rename_i hm
        cases hv
        exact W.vret hx hb (hr.trans hm) (hq _ rfl) hS.2.2 hd hlocks
      · cases hv
    · cases hv
  · cases hv
end SOUND
