theorem dflt_ok : ∀ t, t < 13 → ∀ j, j < (vwAt t).2.2 → defaultValue (tyT t j) = (some (bif isR t j then va_rf ((none : Option Nat).map (0 + ·)) else Value.int 0)).getD .null := by
  intro t ht
  have h : t = 0 ∨ t = 1 ∨ t = 2 ∨ t = 3 ∨ t = 4 ∨ t = 5 ∨ t = 6 ∨ t = 7 ∨ t = 8 ∨ t = 9 ∨ t = 10 ∨ t = 11 ∨ t = 12 := by omega
  rcases h with rfl | rfl | rfl | rfl | rfl | rfl | rfl | rfl | rfl | rfl | rfl | rfl | rfl
  · exact (by decide +kernel : ∀ j, j < 9 → defaultValue (tyT 0 j) = (some (bif isR 0 j then va_rf ((none : Option Nat).map (0 + ·)) else Value.int 0)).getD .null)
  · exact (by decide +kernel : ∀ j, j < 4 → defaultValue (tyT 1 j) = (some (bif isR 1 j then va_rf ((none : Option Nat).map (0 + ·)) else Value.int 0)).getD .null)
  · exact (by decide +kernel : ∀ j, j < 4 → defaultValue (tyT 2 j) = (some (bif isR 2 j then va_rf ((none : Option Nat).map (0 + ·)) else Value.int 0)).getD .null)
  · exact (by decide +kernel : ∀ j, j < 12 → defaultValue (tyT 3 j) = (some (bif isR 3 j then va_rf ((none : Option Nat).map (0 + ·)) else Value.int 0)).getD .null)
  · exact (by decide +kernel : ∀ j, j < 4 → defaultValue (tyT 4 j) = (some (bif isR 4 j then va_rf ((none : Option Nat).map (0 + ·)) else Value.int 0)).getD .null)
  · exact (by decide +kernel : ∀ j, j < 4 → defaultValue (tyT 5 j) = (some (bif isR 5 j then va_rf ((none : Option Nat).map (0 + ·)) else Value.int 0)).getD .null)
  · exact (by decide +kernel : ∀ j, j < 4 → defaultValue (tyT 6 j) = (some (bif isR 6 j then va_rf ((none : Option Nat).map (0 + ·)) else Value.int 0)).getD .null)
  · exact (by decide +kernel : ∀ j, j < 4 → defaultValue (tyT 7 j) = (some (bif isR 7 j then va_rf ((none : Option Nat).map (0 + ·)) else Value.int 0)).getD .null)
  · exact (by decide +kernel : ∀ j, j < 10 → defaultValue (tyT 8 j) = (some (bif isR 8 j then va_rf ((none : Option Nat).map (0 + ·)) else Value.int 0)).getD .null)
  · exact (by decide +kernel : ∀ j, j < 4 → defaultValue (tyT 9 j) = (some (bif isR 9 j then va_rf ((none : Option Nat).map (0 + ·)) else Value.int 0)).getD .null)
  · exact (by decide +kernel : ∀ j, j < 16 → defaultValue (tyT 10 j) = (some (bif isR 10 j then va_rf ((none : Option Nat).map (0 + ·)) else Value.int 0)).getD .null)
  · exact (by decide +kernel : ∀ j, j < 8 → defaultValue (tyT 11 j) = (some (bif isR 11 j then va_rf ((none : Option Nat).map (0 + ·)) else Value.int 0)).getD .null)
  · exact (by decide +kernel : ∀ j, j < 8 → defaultValue (tyT 12 j) = (some (bif isR 12 j then va_rf ((none : Option Nat).map (0 + ·)) else Value.int 0)).getD .null)
section STEPN
variable {p : Program} {l : Launch} {e' : Env} {R : Room} {s : State} {m : MethodId} {args : Array Value} {below : List Frame} {meth : Method} {c : Code} {H : Heap} {locs : List Loc} {cells slots : Nat} {Q : State → Prop} {LS : Array Slot}
variable {k z : Nat} {X : Nat × (Nat → Int32)} {sv : Nat → Value} {ca : Nat → ClassId} {D : va_G}
theorem cond_some {α : Type} {b : Bool} {x y : α} (h : (bif b then some x else none) = some y) : b = true ∧ x = y := by cases b <;> simp at h ⊢; exact h
theorem cond_none {α : Type} {b : Bool} {x : Option α} {y : α} (h : (bif b then none else x) = some y) : b = false ∧ x = some y := by cases b <;> simp at h ⊢; exact h
theorem cond_if {α : Type} {b : Bool} {x : Option α} {y : α} (h : (bif b then x else none) = some y) : b = true ∧ x = some y := by cases b <;> simp at h ⊢; exact h
theorem blt_lt {a b : Nat} (h : Nat.blt a b = true) : a < b := by simpa using h
theorem fam13 {c0 t : Nat} {P : Nat → Bool} (h : (List.range 13).all (fun t => !fam c0 t || P t) = true) (ht : t < 13) (hf : fam c0 t = true) {P' : Prop} (hP : P t = true → P') : P' := by
  have h1 := List.all_eq_true.mp h t (List.mem_range.mpr ht)
  rw [hf] at h1
  exact hP (by simpa using h1)
set_option maxHeartbeats 4000000 in
theorem st_getfield (C : Cx p s m args meth c k z X sv ca D) {i : Nat} { np a b c0 : Nat} {v : Int32} {pc pc' : Nat} {ls ls' : List (Option Value)} {st st' : List Value} {h h' : Hp} (hl : okE k pc (.getfield i, np, a, b, c0, v) = true) (hs : stp X (.getfield i, np, a, b, c0, v) ls st h = some (pc', ls', st', h'))
    (hL : lvR z sv LS (mL k) ls) (hW : Wd z ca D H h) (hS : va_S (zA z) s.heap H locs) (hc : cells + h'.1.length ≤ R.cells + h.1.length) (hsl : slots + ksum h'.1 ≤ R.slots + ksum h.1) (hfr : 1 ≤ R.frames) (hlo : 60 ≤ R.locals)
    (kk : ∀ (LS' : Array Slot) (H' : Heap) (locs' : List Loc) (cells' slots' : Nat), lvR z sv LS' (mL k) ls' → Wd z ca D H' h' → va_S (zA z) s.heap H' locs' → cells' + h.1.length = cells + h'.1.length → slots' + ksum h.1 = slots + ksum h'.1 → W p l e' R s m args below meth c H' locs' cells' slots' Q (F0 m pc' LS' (st'.map (cv z sv)))) : W p l e' R s m args below meth c H locs cells slots Q (F0 m pc LS (st.map (cv z sv))) := by
  have hC : Cx p s m args meth c k z X sv ca D := C
  obtain ⟨hx, hb, hml, hown, hts, hnm, hK, hSp, hz⟩ := C
  unfold okE at hl
  simp only [Bool.and_eq_true, Bool.or_eq_true, decide_eq_true_eq] at hl
  obtain ⟨⟨hd, hsw⟩, hX⟩ := hl
  have hnp : np = pc + 3 := Nat.eq_of_beq_eq_true (hsw.resolve_left (fun q => Bool.noConfusion q))
  subst hnp
  have hd : decode (mB k) pc = .ok (.getfield i, 3) := by
    have hd2 := hd
    rwa [Nat.add_sub_cancel_left] at hd2
  dsimp only [stp] at hs
  split at hs
  · rename_i q r
    split at hs
    · rename_i t n hk
      obtain ⟨h1, hs⟩ := cond_if hs
      simp only [Bool.and_eq_true] at h1
      have ht := blt_lt h1.1
      dsimp only [okX] at hX
      have hX2 : (List.range 13).all (fun t => !fam c0 t || okf k i a b c0 t false) = true := by
        cases h100 : Nat.beq c0 100 with
        | true =>
          have e : c0 = 100 := Nat.eq_of_beq_eq_true h100
          subst e
          have h2 := h1.2
          simp [fam] at h2
          omega
        | false => rw [h100] at hX; exact hX
      refine fam13 hX2 ht h1.2 (fun hf => ?_)
      unfold okf at hf
      simp only [Bool.and_eq_true, cond_false] at hf
      obtain ⟨⟨⟨_, f2⟩, f3⟩, f4⟩ := hf
      refine wd_get hC hW hk ht (blt_lt f2) (flf_ok f3) hd ?_
      cases hb1 : Nat.beq b 1 with
      | true =>
        rw [hb1] at f4 hs
        cases hs
        have hr : isR t a = true := f4
        rw [hr, cond_true, ← xv_cv z sv]
        exact kk _ _ _ _ _ hL hW hS rfl rfl
      | false =>
        rw [hb1] at f4 hs
        cases hs
        have hr : isR t a = false := by simpa using f4
        rw [hr, cond_false]
        exact kk _ _ _ _ _ hL hW hS rfl rfl
    · cases hs
  · rename_i j r
    obtain ⟨h1, hs⟩ := cond_if hs
    simp only [Bool.and_eq_true] at h1
    have hj := blt_lt h1.2
    dsimp only [okX] at hX
    rw [h1.1, cond_true] at hX
    obtain ⟨q, t, a1, a2, a3, a4, a5, a6, a7⟩ := hSp.1 j hj
    have e0 : (Value.retAddr j :: r).map (cv z sv) = .ref q :: r.map (cv z sv) := by rw [List.map_cons]; show sv j :: _ = _; rw [a1]
    rw [e0]
    cases ha0 : Nat.beq a 0 with
    | true =>
      rw [ha0] at hX hs
      cases hs
      have hgo := kk _ _ _ _ _ hL hW hS rfl rfl
      have e1 : (Value.retAddr (13 + j) :: r).map (cv z sv) = .ref t :: r.map (cv z sv) := by rw [List.map_cons]; show sv (13 + j) :: _ = _; rw [a2]
      rw [e1] at hgo
      exact vk_getf hx hb a6 hS hown (hts _ (TB_in (of_decide_eq_true hX) rfl)) (fun _ h9 => h9) hd hgo
    | false =>
      rw [ha0] at hX hs
      cases hs
      exact vk_getf hx hb a5 hS hown (hts _ (TB_in (of_decide_eq_true hX) rfl)) (fun _ h9 => h9) hd (kk _ _ _ _ _ hL hW hS rfl rfl)
  · cases hs
set_option maxHeartbeats 4000000 in
theorem st_putfield (C : Cx p s m args meth c k z X sv ca D) {i : Nat} { np a b c0 : Nat} {v : Int32} {pc pc' : Nat} {ls ls' : List (Option Value)} {st st' : List Value} {h h' : Hp} (hl : okE k pc (.putfield i, np, a, b, c0, v) = true) (hs : stp X (.putfield i, np, a, b, c0, v) ls st h = some (pc', ls', st', h'))
    (hL : lvR z sv LS (mL k) ls) (hW : Wd z ca D H h) (hS : va_S (zA z) s.heap H locs) (hc : cells + h'.1.length ≤ R.cells + h.1.length) (hsl : slots + ksum h'.1 ≤ R.slots + ksum h.1) (hfr : 1 ≤ R.frames) (hlo : 60 ≤ R.locals)
    (kk : ∀ (LS' : Array Slot) (H' : Heap) (locs' : List Loc) (cells' slots' : Nat), lvR z sv LS' (mL k) ls' → Wd z ca D H' h' → va_S (zA z) s.heap H' locs' → cells' + h.1.length = cells + h'.1.length → slots' + ksum h.1 = slots + ksum h'.1 → W p l e' R s m args below meth c H' locs' cells' slots' Q (F0 m pc' LS' (st'.map (cv z sv)))) : W p l e' R s m args below meth c H locs cells slots Q (F0 m pc LS (st.map (cv z sv))) := by
  have hC : Cx p s m args meth c k z X sv ca D := C
  obtain ⟨hx, hb, hml, hown, hts, hnm, hK, hSp, hz⟩ := C
  unfold okE at hl
  simp only [Bool.and_eq_true, Bool.or_eq_true, decide_eq_true_eq] at hl
  obtain ⟨⟨hd, hsw⟩, hX⟩ := hl
  have hnp : np = pc + 3 := Nat.eq_of_beq_eq_true (hsw.resolve_left (fun q => Bool.noConfusion q))
  subst hnp
  have hd : decode (mB k) pc = .ok (.putfield i, 3) := by
    have hd2 := hd
    rwa [Nat.add_sub_cancel_left] at hd2
  dsimp only [okX] at hX
  dsimp only [stp] at hs
  split at hs
  · rename_i x q r
    split at hs
    · rename_i t n hk
      replace hs := cond_if hs
      obtain ⟨h1, hs⟩ := hs
      simp only [Bool.and_eq_true] at h1
      have ht := blt_lt h1.1
      refine fam13 hX ht h1.2 (fun hf => ?_)
      unfold okf at hf
      simp only [Bool.and_eq_true, cond_true] at hf
      obtain ⟨⟨⟨_, f2⟩, f3⟩, f4, f5⟩ := hf
      have hfin : isFin t a = false ∨ (isFin t a = true ∧ (mY k).name = "<init>" ∧ ((vwAt t).2.1 a).1 = cn (mO k)) := by
        cases hfn : isFin t a with
        | false => exact Or.inl rfl
        | true =>
          rw [hfn, cond_true, Bool.and_eq_true] at f5
          exact Or.inr ⟨rfl, of_decide_eq_true f5.1, of_decide_eq_true f5.2⟩
      cases hb0 : Nat.beq b 0 with
      | true =>
        rw [hb0] at f4 hs
        cases hs
        have hty : tyT t a = .int := of_decide_eq_true f4
        have hr : isR t a = false := by unfold isR; rw [hty]; rfl
        exact wd_put hC (v := .int x) hW hS hk ht (blt_lt f2) (flf_ok f3) hfin (by rw [hty]; rfl) (by rw [hty]; rfl) (fun b hb => upI_ne hb) (fun b hb => rfl) (by rw [upI_eq]; exact cfs_setI hr) hd (fun H1 locs1 hW1 hS1 => kk _ _ _ _ _ hL hW1 hS1 rfl rfl)
      | false =>
        rw [hb0] at f4 hs
        obtain ⟨h2, hs⟩ := cond_if hs
        simp only [Bool.and_eq_true] at h2
        rw [h2.1] at f4
        cases hs
        have hty : tyT t a = .boolean := of_decide_eq_true f4
        have hr : isR t a = false := by unfold isR; rw [hty]; rfl
        have h3 := h2.2
        unfold nfit at h3
        rw [Bool.and_eq_true] at h3
        exact wd_put hC (v := .int x) hW hS hk ht (blt_lt f2) (flf_ok f3) hfin (by rw [hty]; exact of_decide_eq_true h3.1) (by rw [hty]; exact h3.2) (fun b hb => upI_ne hb) (fun b hb => rfl) (by rw [upI_eq]; exact cfs_setI hr) hd (fun H1 locs1 hW1 hS1 => kk _ _ _ _ _ hL hW1 hS1 rfl rfl)
    · cases hs
  · rename_i y q r
    split at hs
    · rename_i t n hk
      replace hs := cond_if hs
      obtain ⟨h1, hs⟩ := hs
      simp only [Bool.and_eq_true] at h1
      have ht := blt_lt h1.1.1
      refine fam13 hX ht h1.1.2 (fun hf => ?_)
      unfold okf at hf
      simp only [Bool.and_eq_true, cond_true] at hf
      obtain ⟨⟨⟨_, f2⟩, f3⟩, f4, f5⟩ := hf
      have hfin : isFin t a = false ∨ (isFin t a = true ∧ (mY k).name = "<init>" ∧ ((vwAt t).2.1 a).1 = cn (mO k)) := by
        cases hfn : isFin t a with
        | false => exact Or.inl rfl
        | true =>
          rw [hfn, cond_true, Bool.and_eq_true] at f5
          exact Or.inr ⟨rfl, of_decide_eq_true f5.1, of_decide_eq_true f5.2⟩
      have hb1 : b = 1 := Nat.eq_of_beq_eq_true h1.2
      subst hb1
      have hr : isR t a = true := f4
      have hty : ∃ C9, tyT t a = .object C9 ∨ ∃ t9, tyT t a = .array t9 := by
        unfold isR isRty at hr
        split at hr
        · rename_i o9 ho; exact ⟨o9, Or.inl ho⟩
        · rename_i o9 ho; exact ⟨"", Or.inr ⟨_, ho⟩⟩
        · cases hr
      cases hs
      refine wd_put hC (v := .ref (z + y)) hW hS hk ht (blt_lt f2) (flf_ok f3) hfin ?_ ?_ (fun b hb => rfl) (fun b hb => upR_ne hb) (by rw [show .ref (z + y) = va_rf ((some y : Option Nat).map (z + ·)) from rfl]; exact cfs_setR hr (fun j => by simp [upR])) hd (fun H1 locs1 hW1 hS1 => kk _ _ _ _ _ hL hW1 hS1 rfl rfl)
      · obtain ⟨C9, h9 | ⟨t9, h9⟩⟩ := hty <;> rw [h9] <;> rfl
      · obtain ⟨C9, h9 | ⟨t9, h9⟩⟩ := hty <;> rw [h9] <;> rfl
    · cases hs
  · rename_i q r
    split at hs
    · rename_i t n hk
      replace hs := cond_if hs
      obtain ⟨h1, hs⟩ := hs
      simp only [Bool.and_eq_true] at h1
      have ht := blt_lt h1.1.1
      refine fam13 hX ht h1.1.2 (fun hf => ?_)
      unfold okf at hf
      simp only [Bool.and_eq_true, cond_true] at hf
      obtain ⟨⟨⟨_, f2⟩, f3⟩, f4, f5⟩ := hf
      have hfin : isFin t a = false ∨ (isFin t a = true ∧ (mY k).name = "<init>" ∧ ((vwAt t).2.1 a).1 = cn (mO k)) := by
        cases hfn : isFin t a with
        | false => exact Or.inl rfl
        | true =>
          rw [hfn, cond_true, Bool.and_eq_true] at f5
          exact Or.inr ⟨rfl, of_decide_eq_true f5.1, of_decide_eq_true f5.2⟩
      have hb1 : b = 1 := Nat.eq_of_beq_eq_true h1.2
      subst hb1
      have hr : isR t a = true := f4
      have hty : ∃ C9, tyT t a = .object C9 ∨ ∃ t9, tyT t a = .array t9 := by
        unfold isR isRty at hr
        split at hr
        · rename_i o9 ho; exact ⟨o9, Or.inl ho⟩
        · rename_i o9 ho; exact ⟨"", Or.inr ⟨_, ho⟩⟩
        · cases hr
      cases hs
      refine wd_put hC (v := .null) hW hS hk ht (blt_lt f2) (flf_ok f3) hfin ?_ ?_ (fun b hb => rfl) (fun b hb => upR_ne hb) (by rw [show .null = va_rf ((none : Option Nat).map (z + ·)) from rfl]; exact cfs_setR hr (fun j => by simp [upR])) hd (fun H1 locs1 hW1 hS1 => kk _ _ _ _ _ hL hW1 hS1 rfl rfl)
      · obtain ⟨C9, h9 | ⟨t9, h9⟩⟩ := hty <;> rw [h9] <;> rfl
      · obtain ⟨C9, h9 | ⟨t9, h9⟩⟩ := hty <;> rw [h9] <;> rfl
    · cases hs
  · cases hs
set_option maxHeartbeats 4000000 in
theorem st_new (C : Cx p s m args meth c k z X sv ca D) {i : Nat} { np a b c0 : Nat} {v : Int32} {pc pc' : Nat} {ls ls' : List (Option Value)} {st st' : List Value} {h h' : Hp} (hl : okE k pc (.new i, np, a, b, c0, v) = true) (hs : stp X (.new i, np, a, b, c0, v) ls st h = some (pc', ls', st', h'))
    (hL : lvR z sv LS (mL k) ls) (hW : Wd z ca D H h) (hS : va_S (zA z) s.heap H locs) (hc : cells + h'.1.length ≤ R.cells + h.1.length) (hsl : slots + ksum h'.1 ≤ R.slots + ksum h.1) (hfr : 1 ≤ R.frames) (hlo : 60 ≤ R.locals)
    (kk : ∀ (LS' : Array Slot) (H' : Heap) (locs' : List Loc) (cells' slots' : Nat), lvR z sv LS' (mL k) ls' → Wd z ca D H' h' → va_S (zA z) s.heap H' locs' → cells' + h.1.length = cells + h'.1.length → slots' + ksum h.1 = slots + ksum h'.1 → W p l e' R s m args below meth c H' locs' cells' slots' Q (F0 m pc' LS' (st'.map (cv z sv)))) : W p l e' R s m args below meth c H locs cells slots Q (F0 m pc LS (st.map (cv z sv))) := by
  have hC : Cx p s m args meth c k z X sv ca D := C
  obtain ⟨hx, hb, hml, hown, hts, hnm, hK, hSp, hz⟩ := C
  unfold okE at hl
  simp only [Bool.and_eq_true, Bool.or_eq_true, decide_eq_true_eq] at hl
  obtain ⟨⟨hd, hsw⟩, hX⟩ := hl
  have hnp : np = pc + 3 := Nat.eq_of_beq_eq_true (hsw.resolve_left (fun q => Bool.noConfusion q))
  subst hnp
  have hd : decode (mB k) pc = .ok (.new i, 3) := by
    have hd2 := hd
    rwa [Nat.add_sub_cancel_left] at hd2
  dsimp only [okX] at hX
  simp only [Bool.and_eq_true] at hX
  obtain ⟨⟨x1, x2⟩, x3⟩ := hX
  have ht := blt_lt x1
  have hn : nF c0 = a := Nat.eq_of_beq_eq_true x2
  cases hs
  have hcl := (cls_all c0 ht).2.1
  have hsz := (cls_all c0 ht).1
  have hnm9 := (cls_all c0 ht).2.2
  have hKn := hK.1 c0 _ hcl
  obtain ⟨i1, i2⟩ := cls_init c0 ht
  have hlen : (h.1 ++ [(c0, a)]).length = h.1.length + 1 := by simp
  have hks := ksum_app h.1 c0 a
  refine W.newcK (C := (vwAt c0).1) (n := (vwAt c0).2.2) hx hb hown (hts _ (TB_in (by rw [hnm9]; exact of_decide_eq_true x3) rfl)) (hts _ (TB_in (by rw [hnm9, hsz]; exact i1) rfl)) (hts _ (TB_in (by rw [hnm9]; exact i2) rfl)) rfl hd (by dsimp only at hc; omega) (by dsimp only at hsl; omega) hKn.2.1 rfl fun H1 kC hkC e1 z1 o1 => ?_
  have hgo := kk LS H1 locs (cells + 1) (slots + (vwAt c0).2.2) hL (hW.push (t := c0) (n := a) (fun _ => ⟨_, hcl, by rw [hsz, hn]⟩) z1 o1 ?_) ⟨Nat.le_trans hS.1 (by omega), fun x h1 h2 => (o1 x (Nat.lt_of_lt_of_le h1 hS.1)).trans (hS.2.1 x h1 h2), hS.2.2⟩ (by dsimp only; omega) (by dsimp only; omega)
  · have e9 : H.size = z + h.1.length := hW.1
    show W p l e' R s m args below meth c H1 locs (cells + 1) (slots + (vwAt c0).2.2) Q (F0 m (pc + 3) LS (.ref H.size :: st.map (cv z sv)))
    rw [e9]
    exact hgo
  · have hb20 : Nat.blt c0 20 = true := by simpa using (by omega : c0 < 20)
    have ecel : cel z ca c0 a (fun _ => 0) (fun _ => none) = .inr (c0, cfs z c0 a (fun _ => 0) (fun _ => none)) := by simp [cel, hb20]
    rw [ecel, ← hW.1]
    refine ⟨_, hcl, (u_born (tyT c0) hts (cls_ws c0 ht) hKn hkC e1 (cls_ty c0 ht)).to (fun j hj => ?_)⟩
    have hj2 : j < a := by rw [← hn, ← hsz]; exact hj
    show defaultValue (tyT c0 j) = ((cfs z c0 a (fun _ => 0) (fun _ => none)).getD j .null)
    rw [List.getD_eq_getElem?_getD, cfs_get hj2]
    exact dflt_ok c0 ht j hj
set_option maxHeartbeats 4000000 in
theorem st_newarray (C : Cx p s m args meth c k z X sv ca D) {ty : ArrayType} { np a b c0 : Nat} {v : Int32} {pc pc' : Nat} {ls ls' : List (Option Value)} {st st' : List Value} {h h' : Hp} (hl : okE k pc (.newarray ty, np, a, b, c0, v) = true) (hs : stp X (.newarray ty, np, a, b, c0, v) ls st h = some (pc', ls', st', h'))
    (hL : lvR z sv LS (mL k) ls) (hW : Wd z ca D H h) (hS : va_S (zA z) s.heap H locs) (hc : cells + h'.1.length ≤ R.cells + h.1.length) (hsl : slots + ksum h'.1 ≤ R.slots + ksum h.1) (hfr : 1 ≤ R.frames) (hlo : 60 ≤ R.locals)
    (kk : ∀ (LS' : Array Slot) (H' : Heap) (locs' : List Loc) (cells' slots' : Nat), lvR z sv LS' (mL k) ls' → Wd z ca D H' h' → va_S (zA z) s.heap H' locs' → cells' + h.1.length = cells + h'.1.length → slots' + ksum h.1 = slots + ksum h'.1 → W p l e' R s m args below meth c H' locs' cells' slots' Q (F0 m pc' LS' (st'.map (cv z sv)))) : W p l e' R s m args below meth c H locs cells slots Q (F0 m pc LS (st.map (cv z sv))) := by
  have hC : Cx p s m args meth c k z X sv ca D := C
  obtain ⟨hx, hb, hml, hown, hts, hnm, hK, hSp, hz⟩ := C
  unfold okE at hl
  simp only [Bool.and_eq_true, Bool.or_eq_true, decide_eq_true_eq] at hl
  obtain ⟨⟨hd, hsw⟩, hX⟩ := hl
  have hnp : np = pc + 2 := Nat.eq_of_beq_eq_true (hsw.resolve_left (fun q => Bool.noConfusion q))
  subst hnp
  have hd : decode (mB k) pc = .ok (.newarray ty, 2) := by
    have hd2 := hd
    rwa [Nat.add_sub_cancel_left] at hd2
  dsimp only [stp] at hs
  split at hs
  · rename_i n r
    obtain ⟨h1, hs⟩ := cond_none hs
    cases hs
    have hin := vpin_of h1
    have hn0 : ¬ n < 0 := fun q => hin (Or.inl q)
    have hn1 : n.toNatClampNeg < 1000 := Nat.not_le.mp fun q => hin (Or.inr q)
    have hlen : (h.1 ++ [(c0, n.toNatClampNeg)]).length = h.1.length + 1 := by simp
    have hks := ksum_app h.1 c0 n.toNatClampNeg
    have key : ∀ (ti : Nat) (fty : FieldType), (tys ca)[ti]? = some (ca c0, fty) → newarray.typeOf ty = fty → Cond.arrayClass fty ∈ lw_tbl → componentBytes fty ≤ 8 → s.vm.findClass ("[" ++ fty.toString) = some (ca c0) → (∀ cA, vp_cell cA (n.toNatClampNeg, .inl (fun _ => 0)) = arrV cA n.toNatClampNeg (fun _ => defaultValue fty)) → cel z ca c0 n.toNatClampNeg (fun _ => 0) (fun _ => none) = .inl (ca c0, n.toNatClampNeg, .inl (fun _ => 0)) → ¬ c0 < 20 → W p l e' R s m args below meth c H locs cells slots Q (F0 m pc LS ((Value.int n :: r).map (cv z sv))) := by
      intro ti fty ht hty hw hcb hfc hdv hcel hc20
      subst hty
      refine va_newaK hx hb (hts _ (TB_in hw rfl)) rfl hd rfl hn0 rfl (by have := Nat.mul_le_mul (Nat.le_of_lt hn1) hcb; omega) (by dsimp only at hc; omega) (by dsimp only at hsl; omega) rfl fun H1 cA e1 z1 o1 hAr hNm => ?_
      have ecA : cA = ca c0 := Option.some.inj (hNm.symm.trans hfc)
      subst ecA
      have hgo := kk LS H1 locs (cells + 1) (slots + n.toNatClampNeg) hL (hW.push (t := c0) (n := n.toNatClampNeg) (fun q => absurd q hc20) z1 o1 (by rw [hcel, ← hW.1]; show H1[H.size]? = some (vp_cell _ _); rw [hdv]; exact e1)) ⟨Nat.le_trans hS.1 (by omega), fun x h1 h2 => (o1 x (Nat.lt_of_lt_of_le h1 hS.1)).trans (hS.2.1 x h1 h2), hS.2.2⟩ (by dsimp only; omega) (by dsimp only; omega)
      have e9 : H.size = z + h.1.length := hW.1
      show W p l e' R s m args below meth c H1 locs (cells + 1) (slots + n.toNatClampNeg) Q (F0 m (pc + 2) LS (.ref H.size :: r.map (cv z sv)))
      rw [e9]
      exact hgo
    dsimp only [okX] at hX
    simp only [Bool.or_eq_true, Bool.and_eq_true, decide_eq_true_eq] at hX
    rcases hX with (⟨h2, h3⟩ | ⟨h2, h3⟩) | ⟨h2, h3⟩
    · have e := Nat.eq_of_beq_eq_true h3
      subst e; subst h2
      exact key 0 .int rfl rfl arrC.1 (by decide) (hK.2 0 _ rfl).2 (fun _ => rfl) rfl (by decide)
    · have e := Nat.eq_of_beq_eq_true h3
      subst e; subst h2
      exact key 1 .byte rfl rfl arrC.2.1 (by decide) (hK.2 1 _ rfl).2 (fun _ => rfl) rfl (by decide)
    · have e := Nat.eq_of_beq_eq_true h3
      subst e; subst h2
      exact key 2 .byte rfl rfl arrC.2.2 (by decide) (hK.2 2 _ rfl).2 (fun _ => rfl) rfl (by decide)
  · cases hs
set_option maxHeartbeats 4000000 in
theorem st_anewarray (C : Cx p s m args meth c k z X sv ca D) {i : Nat} { np a b c0 : Nat} {v : Int32} {pc pc' : Nat} {ls ls' : List (Option Value)} {st st' : List Value} {h h' : Hp} (hl : okE k pc (.anewarray i, np, a, b, c0, v) = true) (hs : stp X (.anewarray i, np, a, b, c0, v) ls st h = some (pc', ls', st', h'))
    (hL : lvR z sv LS (mL k) ls) (hW : Wd z ca D H h) (hS : va_S (zA z) s.heap H locs) (hc : cells + h'.1.length ≤ R.cells + h.1.length) (hsl : slots + ksum h'.1 ≤ R.slots + ksum h.1) (hfr : 1 ≤ R.frames) (hlo : 60 ≤ R.locals)
    (kk : ∀ (LS' : Array Slot) (H' : Heap) (locs' : List Loc) (cells' slots' : Nat), lvR z sv LS' (mL k) ls' → Wd z ca D H' h' → va_S (zA z) s.heap H' locs' → cells' + h.1.length = cells + h'.1.length → slots' + ksum h.1 = slots + ksum h'.1 → W p l e' R s m args below meth c H' locs' cells' slots' Q (F0 m pc' LS' (st'.map (cv z sv)))) : W p l e' R s m args below meth c H locs cells slots Q (F0 m pc LS (st.map (cv z sv))) := by
  have hC : Cx p s m args meth c k z X sv ca D := C
  obtain ⟨hx, hb, hml, hown, hts, hnm, hK, hSp, hz⟩ := C
  unfold okE at hl
  simp only [Bool.and_eq_true, Bool.or_eq_true, decide_eq_true_eq] at hl
  obtain ⟨⟨hd, hsw⟩, hX⟩ := hl
  have hnp : np = pc + 3 := Nat.eq_of_beq_eq_true (hsw.resolve_left (fun q => Bool.noConfusion q))
  subst hnp
  have hd : decode (mB k) pc = .ok (.anewarray i, 3) := by
    have hd2 := hd
    rwa [Nat.add_sub_cancel_left] at hd2
  dsimp only [stp] at hs
  split at hs
  · rename_i n r
    obtain ⟨h1, hs⟩ := cond_none hs
    cases hs
    have hin := vpin_of h1
    have hn0 : ¬ n < 0 := fun q => hin (Or.inl q)
    have hn1 : n.toNatClampNeg < 1000 := Nat.not_le.mp fun q => hin (Or.inr q)
    have hlen : (h.1 ++ [(c0, n.toNatClampNeg)]).length = h.1.length + 1 := by simp
    have hks := ksum_app h.1 c0 n.toNatClampNeg
    have key : ∀ (ti : Nat) (C9 : String), (tys ca)[ti]? = some (ca c0, .object C9) → Cond.classLink (cn (mO k)) i C9 ∈ lw_tbl → va_AO C9 s → cel z ca c0 n.toNatClampNeg (fun _ => 0) (fun _ => none) = .inl (ca c0, n.toNatClampNeg, .inr (.inr (.inr (.inr (fun _ => none))))) → ¬ c0 < 20 → W p l e' R s m args below meth c H locs cells slots Q (F0 m pc LS ((Value.int n :: r).map (cv z sv))) := by
      intro ti C9 ht hw hAO hcel hc20
      refine W.anew hx hb hown (hts _ (TB_in hw rfl)) (va_AO.use hAO) rfl hd rfl hn0 (by omega) (by dsimp only at hc; omega) (by dsimp only at hsl; omega) fun cA kA comp f1 f2 f3 f4 => ?_
      generalize hH1 : H.push ({ cls := cA, slots := Array.replicate n.toNatClampNeg .null, vm := .none } : Cell) = H1
      have z1 : H1.size = H.size + 1 := by rw [← hH1, Array.size_push]
      have e1 : H1[H.size]? = some (arrV cA n.toNatClampNeg (fun _ => .null)) := by rw [← hH1, Array.getElem?_push_size, ← arrV_new]
      have o1 : ∀ q : Nat, q < H.size → H1[q]? = H[q]? := fun q hq => by rw [← hH1, Array.getElem?_push, if_neg (Nat.ne_of_lt hq)]
      obtain ⟨_, _, _, _, _, g4⟩ := (hK.2 ti _ ht).2
      have ecA : cA = ca c0 := Option.some.inj (f1.symm.trans g4)
      subst ecA
      have hgo := kk LS H1 locs (cells + 1) (slots + n.toNatClampNeg) hL (hW.push (t := c0) (n := n.toNatClampNeg) (fun q => absurd q hc20) z1 o1 (by rw [hcel, ← hW.1]; show H1[H.size]? = some (vp_cell _ _); rw [vp_cell_q]; exact e1)) ⟨Nat.le_trans hS.1 (by omega), fun x h1 h2 => (o1 x (Nat.lt_of_lt_of_le h1 hS.1)).trans (hS.2.1 x h1 h2), hS.2.2⟩ (by dsimp only; omega) (by dsimp only; omega)
      have e9 : H.size = z + h.1.length := hW.1
      show W p l e' R s m args below meth c H1 locs (cells + 1) (slots + n.toNatClampNeg) Q (F0 m (pc + 3) LS (.ref H.size :: r.map (cv z sv)))
      rw [e9]
      exact hgo
    dsimp only [okX] at hX
    simp only [Bool.or_eq_true, Bool.and_eq_true, decide_eq_true_eq] at hX
    rcases hX with ⟨h2, h3⟩ | ⟨h2, h3⟩
    · have e := Nat.eq_of_beq_eq_true h2
      subst e
      exact key 3 _ rfl h3 hSp.2.2.2.2.2.2.1 rfl (by decide)
    · have e := Nat.eq_of_beq_eq_true h2
      subst e
      exact key 4 _ rfl h3 hSp.2.2.2.2.2.2.2.1 rfl (by decide)
  · cases hs
end STEPN
