/-- where a frame of method k stands: its code, the words, the classes, the launch's things -/
def Cx (p : Program) (s : State) (m : MethodId) (args : Array Value) (meth : Method) (c : Code) (k : Nat) (z : Nat) (X : Nat × (Nat → Int32)) (sv : Nat → Value) (ca : Nat → ClassId) (D : va_G) : Prop :=
  p.tables.exec = Jvm.exec ∧ c.code = mB k ∧ c.maxLocals = mL k ∧ s.vm.findClass (cn (mO k)) = some m.cls ∧ (∀ w ∈ TB, w.before args s = true) ∧ ((mY k).name = "<init>" → meth.name = "<init>") ∧ va_K D vwCl (tys ca) s ∧ Sp z X sv s s.heap ∧ z ≤ s.heap.size
theorem vpin_of {i : Int32} {n : Nat} (h : oob i n = false) : vp_in i n := by simpa [oob, vp_in] using h
theorem xv_cv (z : Nat) (sv : Nat → Value) (r : Option Nat) : cv z sv (xv r) = va_rf (r.map (z + ·)) := by cases r <;> rfl
theorem ksum_app (K : List (Nat × Nat)) (t n : Nat) : ksum (K ++ [(t, n)]) = ksum K + n := by simp [ksum]
theorem lk_nn {ps : List (Int × Int)} {d x : Int} {pc : Nat} (h2 : 0 ≤ (pc : Int) + d) (h3 : (ps.all (fun o => decide (0 ≤ (pc : Int) + o.2))) = true) : 0 ≤ (pc : Int) + Op.lookupswitch.offset ps d x := by
  induction ps with
  | nil => exact h2
  | cons q r ih =>
    obtain ⟨a, o⟩ := q
    simp only [List.all_cons, Bool.and_eq_true, decide_eq_true_eq] at h3
    rw [Op.lookupswitch.offset_cons]
    split
    · exact h3.1
    · exact ih h3.2
section STEP
variable {p : Program} {l : Launch} {e' : Env} {R : Room} {s : State} {m : MethodId} {args : Array Value} {below : List Frame} {meth : Method} {c : Code} {H : Heap} {locs : List Loc} {cells slots : Nat} {Q : State → Prop} {LS : Array Slot}
variable {k z : Nat} {X : Nat × (Nat → Int32)} {sv : Nat → Value} {ca : Nat → ClassId} {D : va_G}

set_option maxHeartbeats 4000000 in
theorem st_iconst (C : Cx p s m args meth c k z X sv ca D) {n : Int} { np a b c0 : Nat} {v : Int32} {pc pc' : Nat} {ls ls' : List (Option Value)} {st st' : List Value} {h h' : Hp} (hl : okE k pc (.iconst n, np, a, b, c0, v) = true) (hs : stp X (.iconst n, np, a, b, c0, v) ls st h = some (pc', ls', st', h'))
    (hL : lvR z sv LS (mL k) ls) (hW : Wd z ca D H h) (hS : va_S (zA z) s.heap H locs) (hc : cells + h'.1.length ≤ R.cells + h.1.length) (hsl : slots + ksum h'.1 ≤ R.slots + ksum h.1) (hfr : 1 ≤ R.frames) (hlo : 60 ≤ R.locals)
    (kk : ∀ (LS' : Array Slot) (H' : Heap) (locs' : List Loc) (cells' slots' : Nat), lvR z sv LS' (mL k) ls' → Wd z ca D H' h' → va_S (zA z) s.heap H' locs' → cells' + h.1.length = cells + h'.1.length → slots' + ksum h.1 = slots + ksum h'.1 → W p l e' R s m args below meth c H' locs' cells' slots' Q (F0 m pc' LS' (st'.map (cv z sv)))) : W p l e' R s m args below meth c H locs cells slots Q (F0 m pc LS (st.map (cv z sv))) := by
  obtain ⟨hx, hb, hml, hown, hts, hnm, hK, hSp, hz⟩ := C
  unfold okE at hl
  simp only [Bool.and_eq_true, Bool.or_eq_true, decide_eq_true_eq] at hl
  obtain ⟨⟨hd, hsw⟩, hX⟩ := hl
  have hnp : np = pc + 1 := Nat.eq_of_beq_eq_true (hsw.resolve_left (fun q => Bool.noConfusion q))
  subst hnp
  have hd : decode (mB k) pc = .ok (.iconst n, 1) := by
    have hd2 := hd
    rwa [Nat.add_sub_cancel_left] at hd2
  cases hs
  exact lv_iconst hx hb hd (of_decide_eq_true hX) (kk _ _ _ _ _ hL hW hS rfl rfl)
set_option maxHeartbeats 4000000 in
theorem st_bipush (C : Cx p s m args meth c k z X sv ca D) {n : Int} { np a b c0 : Nat} {v : Int32} {pc pc' : Nat} {ls ls' : List (Option Value)} {st st' : List Value} {h h' : Hp} (hl : okE k pc (.bipush n, np, a, b, c0, v) = true) (hs : stp X (.bipush n, np, a, b, c0, v) ls st h = some (pc', ls', st', h'))
    (hL : lvR z sv LS (mL k) ls) (hW : Wd z ca D H h) (hS : va_S (zA z) s.heap H locs) (hc : cells + h'.1.length ≤ R.cells + h.1.length) (hsl : slots + ksum h'.1 ≤ R.slots + ksum h.1) (hfr : 1 ≤ R.frames) (hlo : 60 ≤ R.locals)
    (kk : ∀ (LS' : Array Slot) (H' : Heap) (locs' : List Loc) (cells' slots' : Nat), lvR z sv LS' (mL k) ls' → Wd z ca D H' h' → va_S (zA z) s.heap H' locs' → cells' + h.1.length = cells + h'.1.length → slots' + ksum h.1 = slots + ksum h'.1 → W p l e' R s m args below meth c H' locs' cells' slots' Q (F0 m pc' LS' (st'.map (cv z sv)))) : W p l e' R s m args below meth c H locs cells slots Q (F0 m pc LS (st.map (cv z sv))) := by
  obtain ⟨hx, hb, hml, hown, hts, hnm, hK, hSp, hz⟩ := C
  unfold okE at hl
  simp only [Bool.and_eq_true, Bool.or_eq_true, decide_eq_true_eq] at hl
  obtain ⟨⟨hd, hsw⟩, hX⟩ := hl
  have hnp : np = pc + 2 := Nat.eq_of_beq_eq_true (hsw.resolve_left (fun q => Bool.noConfusion q))
  subst hnp
  have hd : decode (mB k) pc = .ok (.bipush n, 2) := by
    have hd2 := hd
    rwa [Nat.add_sub_cancel_left] at hd2
  cases hs
  exact lv_bipush hx hb hd (of_decide_eq_true hX) (kk _ _ _ _ _ hL hW hS rfl rfl)
set_option maxHeartbeats 4000000 in
theorem st_sipush (C : Cx p s m args meth c k z X sv ca D) {n : Int} { np a b c0 : Nat} {v : Int32} {pc pc' : Nat} {ls ls' : List (Option Value)} {st st' : List Value} {h h' : Hp} (hl : okE k pc (.sipush n, np, a, b, c0, v) = true) (hs : stp X (.sipush n, np, a, b, c0, v) ls st h = some (pc', ls', st', h'))
    (hL : lvR z sv LS (mL k) ls) (hW : Wd z ca D H h) (hS : va_S (zA z) s.heap H locs) (hc : cells + h'.1.length ≤ R.cells + h.1.length) (hsl : slots + ksum h'.1 ≤ R.slots + ksum h.1) (hfr : 1 ≤ R.frames) (hlo : 60 ≤ R.locals)
    (kk : ∀ (LS' : Array Slot) (H' : Heap) (locs' : List Loc) (cells' slots' : Nat), lvR z sv LS' (mL k) ls' → Wd z ca D H' h' → va_S (zA z) s.heap H' locs' → cells' + h.1.length = cells + h'.1.length → slots' + ksum h.1 = slots + ksum h'.1 → W p l e' R s m args below meth c H' locs' cells' slots' Q (F0 m pc' LS' (st'.map (cv z sv)))) : W p l e' R s m args below meth c H locs cells slots Q (F0 m pc LS (st.map (cv z sv))) := by
  obtain ⟨hx, hb, hml, hown, hts, hnm, hK, hSp, hz⟩ := C
  unfold okE at hl
  simp only [Bool.and_eq_true, Bool.or_eq_true, decide_eq_true_eq] at hl
  obtain ⟨⟨hd, hsw⟩, hX⟩ := hl
  have hnp : np = pc + 3 := Nat.eq_of_beq_eq_true (hsw.resolve_left (fun q => Bool.noConfusion q))
  subst hnp
  have hd : decode (mB k) pc = .ok (.sipush n, 3) := by
    have hd2 := hd
    rwa [Nat.add_sub_cancel_left] at hd2
  cases hs
  exact lv_sipush hx hb hd (of_decide_eq_true hX) (kk _ _ _ _ _ hL hW hS rfl rfl)
set_option maxHeartbeats 4000000 in
theorem st_lconst (C : Cx p s m args meth c k z X sv ca D) {n : Fin 2} { np a b c0 : Nat} {v : Int32} {pc pc' : Nat} {ls ls' : List (Option Value)} {st st' : List Value} {h h' : Hp} (hl : okE k pc (.lconst n, np, a, b, c0, v) = true) (hs : stp X (.lconst n, np, a, b, c0, v) ls st h = some (pc', ls', st', h'))
    (hL : lvR z sv LS (mL k) ls) (hW : Wd z ca D H h) (hS : va_S (zA z) s.heap H locs) (hc : cells + h'.1.length ≤ R.cells + h.1.length) (hsl : slots + ksum h'.1 ≤ R.slots + ksum h.1) (hfr : 1 ≤ R.frames) (hlo : 60 ≤ R.locals)
    (kk : ∀ (LS' : Array Slot) (H' : Heap) (locs' : List Loc) (cells' slots' : Nat), lvR z sv LS' (mL k) ls' → Wd z ca D H' h' → va_S (zA z) s.heap H' locs' → cells' + h.1.length = cells + h'.1.length → slots' + ksum h.1 = slots + ksum h'.1 → W p l e' R s m args below meth c H' locs' cells' slots' Q (F0 m pc' LS' (st'.map (cv z sv)))) : W p l e' R s m args below meth c H locs cells slots Q (F0 m pc LS (st.map (cv z sv))) := by
  obtain ⟨hx, hb, hml, hown, hts, hnm, hK, hSp, hz⟩ := C
  unfold okE at hl
  simp only [Bool.and_eq_true, Bool.or_eq_true, decide_eq_true_eq] at hl
  obtain ⟨⟨hd, hsw⟩, hX⟩ := hl
  have hnp : np = pc + 1 := Nat.eq_of_beq_eq_true (hsw.resolve_left (fun q => Bool.noConfusion q))
  subst hnp
  have hd : decode (mB k) pc = .ok (.lconst n, 1) := by
    have hd2 := hd
    rwa [Nat.add_sub_cancel_left] at hd2
  cases hs
  exact lv_lconst hx hb hd (of_decide_eq_true hX) (kk _ _ _ _ _ hL hW hS rfl rfl)
set_option maxHeartbeats 4000000 in
theorem st_aconst_null (C : Cx p s m args meth c k z X sv ca D) { np a b c0 : Nat} {v : Int32} {pc pc' : Nat} {ls ls' : List (Option Value)} {st st' : List Value} {h h' : Hp} (hl : okE k pc (.aconst_null, np, a, b, c0, v) = true) (hs : stp X (.aconst_null, np, a, b, c0, v) ls st h = some (pc', ls', st', h'))
    (hL : lvR z sv LS (mL k) ls) (hW : Wd z ca D H h) (hS : va_S (zA z) s.heap H locs) (hc : cells + h'.1.length ≤ R.cells + h.1.length) (hsl : slots + ksum h'.1 ≤ R.slots + ksum h.1) (hfr : 1 ≤ R.frames) (hlo : 60 ≤ R.locals)
    (kk : ∀ (LS' : Array Slot) (H' : Heap) (locs' : List Loc) (cells' slots' : Nat), lvR z sv LS' (mL k) ls' → Wd z ca D H' h' → va_S (zA z) s.heap H' locs' → cells' + h.1.length = cells + h'.1.length → slots' + ksum h.1 = slots + ksum h'.1 → W p l e' R s m args below meth c H' locs' cells' slots' Q (F0 m pc' LS' (st'.map (cv z sv)))) : W p l e' R s m args below meth c H locs cells slots Q (F0 m pc LS (st.map (cv z sv))) := by
  obtain ⟨hx, hb, hml, hown, hts, hnm, hK, hSp, hz⟩ := C
  unfold okE at hl
  simp only [Bool.and_eq_true, Bool.or_eq_true, decide_eq_true_eq] at hl
  obtain ⟨⟨hd, hsw⟩, hX⟩ := hl
  have hnp : np = pc + 1 := Nat.eq_of_beq_eq_true (hsw.resolve_left (fun q => Bool.noConfusion q))
  subst hnp
  have hd : decode (mB k) pc = .ok (.aconst_null, 1) := by
    have hd2 := hd
    rwa [Nat.add_sub_cancel_left] at hd2
  cases hs
  exact lv_null hx hb hd (kk _ _ _ _ _ hL hW hS rfl rfl)
set_option maxHeartbeats 4000000 in
theorem st_iload (C : Cx p s m args meth c k z X sv ca D) {i : Nat} { np a b c0 : Nat} {v : Int32} {pc pc' : Nat} {ls ls' : List (Option Value)} {st st' : List Value} {h h' : Hp} (hl : okE k pc (.iload i, np, a, b, c0, v) = true) (hs : stp X (.iload i, np, a, b, c0, v) ls st h = some (pc', ls', st', h'))
    (hL : lvR z sv LS (mL k) ls) (hW : Wd z ca D H h) (hS : va_S (zA z) s.heap H locs) (hc : cells + h'.1.length ≤ R.cells + h.1.length) (hsl : slots + ksum h'.1 ≤ R.slots + ksum h.1) (hfr : 1 ≤ R.frames) (hlo : 60 ≤ R.locals)
    (kk : ∀ (LS' : Array Slot) (H' : Heap) (locs' : List Loc) (cells' slots' : Nat), lvR z sv LS' (mL k) ls' → Wd z ca D H' h' → va_S (zA z) s.heap H' locs' → cells' + h.1.length = cells + h'.1.length → slots' + ksum h.1 = slots + ksum h'.1 → W p l e' R s m args below meth c H' locs' cells' slots' Q (F0 m pc' LS' (st'.map (cv z sv)))) : W p l e' R s m args below meth c H locs cells slots Q (F0 m pc LS (st.map (cv z sv))) := by
  obtain ⟨hx, hb, hml, hown, hts, hnm, hK, hSp, hz⟩ := C
  unfold okE at hl
  simp only [Bool.and_eq_true, Bool.or_eq_true, decide_eq_true_eq] at hl
  obtain ⟨⟨hd, hsw⟩, hX⟩ := hl
  have hnp : np = pc + 2 := Nat.eq_of_beq_eq_true (hsw.resolve_left (fun q => Bool.noConfusion q))
  subst hnp
  have hd : decode (mB k) pc = .ok (.iload i, 2) := by
    have hd2 := hd
    rwa [Nat.add_sub_cancel_left] at hd2
  dsimp only [stp] at hs
  split at hs
  · cases hs
    have hi : i = a := Nat.eq_of_beq_eq_true hX
    subst hi
    rename_i hv
    exact lv_iload hx hb hd (hL.get hv) (kk _ _ _ _ _ hL hW hS rfl rfl)
  · cases hs
set_option maxHeartbeats 4000000 in
theorem st_iload_n (C : Cx p s m args meth c k z X sv ca D) {i : Fin 4} { np a b c0 : Nat} {v : Int32} {pc pc' : Nat} {ls ls' : List (Option Value)} {st st' : List Value} {h h' : Hp} (hl : okE k pc (.iload_n i, np, a, b, c0, v) = true) (hs : stp X (.iload_n i, np, a, b, c0, v) ls st h = some (pc', ls', st', h'))
    (hL : lvR z sv LS (mL k) ls) (hW : Wd z ca D H h) (hS : va_S (zA z) s.heap H locs) (hc : cells + h'.1.length ≤ R.cells + h.1.length) (hsl : slots + ksum h'.1 ≤ R.slots + ksum h.1) (hfr : 1 ≤ R.frames) (hlo : 60 ≤ R.locals)
    (kk : ∀ (LS' : Array Slot) (H' : Heap) (locs' : List Loc) (cells' slots' : Nat), lvR z sv LS' (mL k) ls' → Wd z ca D H' h' → va_S (zA z) s.heap H' locs' → cells' + h.1.length = cells + h'.1.length → slots' + ksum h.1 = slots + ksum h'.1 → W p l e' R s m args below meth c H' locs' cells' slots' Q (F0 m pc' LS' (st'.map (cv z sv)))) : W p l e' R s m args below meth c H locs cells slots Q (F0 m pc LS (st.map (cv z sv))) := by
  obtain ⟨hx, hb, hml, hown, hts, hnm, hK, hSp, hz⟩ := C
  unfold okE at hl
  simp only [Bool.and_eq_true, Bool.or_eq_true, decide_eq_true_eq] at hl
  obtain ⟨⟨hd, hsw⟩, hX⟩ := hl
  have hnp : np = pc + 1 := Nat.eq_of_beq_eq_true (hsw.resolve_left (fun q => Bool.noConfusion q))
  subst hnp
  have hd : decode (mB k) pc = .ok (.iload_n i, 1) := by
    have hd2 := hd
    rwa [Nat.add_sub_cancel_left] at hd2
  dsimp only [stp] at hs
  split at hs
  · cases hs
    have hi : i.val = a := Nat.eq_of_beq_eq_true hX
    rename_i hv
    exact lv_iload_n hx hb hd hi (hL.get hv) (kk _ _ _ _ _ hL hW hS rfl rfl)
  · cases hs
set_option maxHeartbeats 4000000 in
theorem st_lload (C : Cx p s m args meth c k z X sv ca D) {i : Nat} { np a b c0 : Nat} {v : Int32} {pc pc' : Nat} {ls ls' : List (Option Value)} {st st' : List Value} {h h' : Hp} (hl : okE k pc (.lload i, np, a, b, c0, v) = true) (hs : stp X (.lload i, np, a, b, c0, v) ls st h = some (pc', ls', st', h'))
    (hL : lvR z sv LS (mL k) ls) (hW : Wd z ca D H h) (hS : va_S (zA z) s.heap H locs) (hc : cells + h'.1.length ≤ R.cells + h.1.length) (hsl : slots + ksum h'.1 ≤ R.slots + ksum h.1) (hfr : 1 ≤ R.frames) (hlo : 60 ≤ R.locals)
    (kk : ∀ (LS' : Array Slot) (H' : Heap) (locs' : List Loc) (cells' slots' : Nat), lvR z sv LS' (mL k) ls' → Wd z ca D H' h' → va_S (zA z) s.heap H' locs' → cells' + h.1.length = cells + h'.1.length → slots' + ksum h.1 = slots + ksum h'.1 → W p l e' R s m args below meth c H' locs' cells' slots' Q (F0 m pc' LS' (st'.map (cv z sv)))) : W p l e' R s m args below meth c H locs cells slots Q (F0 m pc LS (st.map (cv z sv))) := by
  obtain ⟨hx, hb, hml, hown, hts, hnm, hK, hSp, hz⟩ := C
  unfold okE at hl
  simp only [Bool.and_eq_true, Bool.or_eq_true, decide_eq_true_eq] at hl
  obtain ⟨⟨hd, hsw⟩, hX⟩ := hl
  have hnp : np = pc + 2 := Nat.eq_of_beq_eq_true (hsw.resolve_left (fun q => Bool.noConfusion q))
  subst hnp
  have hd : decode (mB k) pc = .ok (.lload i, 2) := by
    have hd2 := hd
    rwa [Nat.add_sub_cancel_left] at hd2
  dsimp only [stp] at hs
  split at hs
  · cases hs
    have hi : i = a := Nat.eq_of_beq_eq_true hX
    subst hi
    rename_i hv
    exact lv_lload hx hb hd (hL.get hv) (kk _ _ _ _ _ hL hW hS rfl rfl)
  · cases hs
set_option maxHeartbeats 4000000 in
theorem st_lload_n (C : Cx p s m args meth c k z X sv ca D) {i : Fin 4} { np a b c0 : Nat} {v : Int32} {pc pc' : Nat} {ls ls' : List (Option Value)} {st st' : List Value} {h h' : Hp} (hl : okE k pc (.lload_n i, np, a, b, c0, v) = true) (hs : stp X (.lload_n i, np, a, b, c0, v) ls st h = some (pc', ls', st', h'))
    (hL : lvR z sv LS (mL k) ls) (hW : Wd z ca D H h) (hS : va_S (zA z) s.heap H locs) (hc : cells + h'.1.length ≤ R.cells + h.1.length) (hsl : slots + ksum h'.1 ≤ R.slots + ksum h.1) (hfr : 1 ≤ R.frames) (hlo : 60 ≤ R.locals)
    (kk : ∀ (LS' : Array Slot) (H' : Heap) (locs' : List Loc) (cells' slots' : Nat), lvR z sv LS' (mL k) ls' → Wd z ca D H' h' → va_S (zA z) s.heap H' locs' → cells' + h.1.length = cells + h'.1.length → slots' + ksum h.1 = slots + ksum h'.1 → W p l e' R s m args below meth c H' locs' cells' slots' Q (F0 m pc' LS' (st'.map (cv z sv)))) : W p l e' R s m args below meth c H locs cells slots Q (F0 m pc LS (st.map (cv z sv))) := by
  obtain ⟨hx, hb, hml, hown, hts, hnm, hK, hSp, hz⟩ := C
  unfold okE at hl
  simp only [Bool.and_eq_true, Bool.or_eq_true, decide_eq_true_eq] at hl
  obtain ⟨⟨hd, hsw⟩, hX⟩ := hl
  have hnp : np = pc + 1 := Nat.eq_of_beq_eq_true (hsw.resolve_left (fun q => Bool.noConfusion q))
  subst hnp
  have hd : decode (mB k) pc = .ok (.lload_n i, 1) := by
    have hd2 := hd
    rwa [Nat.add_sub_cancel_left] at hd2
  dsimp only [stp] at hs
  split at hs
  · cases hs
    have hi : i.val = a := Nat.eq_of_beq_eq_true hX
    rename_i hv
    exact lv_lload_n hx hb hd hi (hL.get hv) (kk _ _ _ _ _ hL hW hS rfl rfl)
  · cases hs
set_option maxHeartbeats 4000000 in
theorem st_aload (C : Cx p s m args meth c k z X sv ca D) {i : Nat} { np a b c0 : Nat} {v : Int32} {pc pc' : Nat} {ls ls' : List (Option Value)} {st st' : List Value} {h h' : Hp} (hl : okE k pc (.aload i, np, a, b, c0, v) = true) (hs : stp X (.aload i, np, a, b, c0, v) ls st h = some (pc', ls', st', h'))
    (hL : lvR z sv LS (mL k) ls) (hW : Wd z ca D H h) (hS : va_S (zA z) s.heap H locs) (hc : cells + h'.1.length ≤ R.cells + h.1.length) (hsl : slots + ksum h'.1 ≤ R.slots + ksum h.1) (hfr : 1 ≤ R.frames) (hlo : 60 ≤ R.locals)
    (kk : ∀ (LS' : Array Slot) (H' : Heap) (locs' : List Loc) (cells' slots' : Nat), lvR z sv LS' (mL k) ls' → Wd z ca D H' h' → va_S (zA z) s.heap H' locs' → cells' + h.1.length = cells + h'.1.length → slots' + ksum h.1 = slots + ksum h'.1 → W p l e' R s m args below meth c H' locs' cells' slots' Q (F0 m pc' LS' (st'.map (cv z sv)))) : W p l e' R s m args below meth c H locs cells slots Q (F0 m pc LS (st.map (cv z sv))) := by
  obtain ⟨hx, hb, hml, hown, hts, hnm, hK, hSp, hz⟩ := C
  unfold okE at hl
  simp only [Bool.and_eq_true, Bool.or_eq_true, decide_eq_true_eq] at hl
  obtain ⟨⟨hd, hsw⟩, hX⟩ := hl
  have hnp : np = pc + 2 := Nat.eq_of_beq_eq_true (hsw.resolve_left (fun q => Bool.noConfusion q))
  subst hnp
  have hd : decode (mB k) pc = .ok (.aload i, 2) := by
    have hd2 := hd
    rwa [Nat.add_sub_cancel_left] at hd2
  dsimp only [stp] at hs
  split at hs
  · rename_i hv
    cases hs
    have hi : i = a := Nat.eq_of_beq_eq_true hX
    subst hi
    exact lv_aload hx hb hd (hL.get hv) (kk _ _ _ _ _ hL hW hS rfl rfl)
  · rename_i x hv
    cases hs
    have hi : i = a := Nat.eq_of_beq_eq_true hX
    subst hi
    have hg := hL.get hv
    have hgo : W p l e' R s m args below meth c H locs cells slots Q (F0 m (pc + 2) LS (sv x :: st.map (cv z sv))) := kk _ _ _ _ _ hL hW hS rfl rfl
    simp only [cv] at hg
    rcases hSp.2.2.2.2.2.2.2.2 x with q | ⟨q, hq⟩
    · rw [q] at hg hgo
      exact lv_aloadN hx hb hd hg hgo
    · rw [hq] at hg hgo
      exact lv_aload hx hb hd hg hgo
  · rename_i hv
    cases hs
    have hi : i = a := Nat.eq_of_beq_eq_true hX
    subst hi
    exact lv_aloadN hx hb hd (hL.get hv) (kk _ _ _ _ _ hL hW hS rfl rfl)
  · cases hs
set_option maxHeartbeats 4000000 in
theorem st_aload_n (C : Cx p s m args meth c k z X sv ca D) {i : Fin 4} { np a b c0 : Nat} {v : Int32} {pc pc' : Nat} {ls ls' : List (Option Value)} {st st' : List Value} {h h' : Hp} (hl : okE k pc (.aload_n i, np, a, b, c0, v) = true) (hs : stp X (.aload_n i, np, a, b, c0, v) ls st h = some (pc', ls', st', h'))
    (hL : lvR z sv LS (mL k) ls) (hW : Wd z ca D H h) (hS : va_S (zA z) s.heap H locs) (hc : cells + h'.1.length ≤ R.cells + h.1.length) (hsl : slots + ksum h'.1 ≤ R.slots + ksum h.1) (hfr : 1 ≤ R.frames) (hlo : 60 ≤ R.locals)
    (kk : ∀ (LS' : Array Slot) (H' : Heap) (locs' : List Loc) (cells' slots' : Nat), lvR z sv LS' (mL k) ls' → Wd z ca D H' h' → va_S (zA z) s.heap H' locs' → cells' + h.1.length = cells + h'.1.length → slots' + ksum h.1 = slots + ksum h'.1 → W p l e' R s m args below meth c H' locs' cells' slots' Q (F0 m pc' LS' (st'.map (cv z sv)))) : W p l e' R s m args below meth c H locs cells slots Q (F0 m pc LS (st.map (cv z sv))) := by
  obtain ⟨hx, hb, hml, hown, hts, hnm, hK, hSp, hz⟩ := C
  unfold okE at hl
  simp only [Bool.and_eq_true, Bool.or_eq_true, decide_eq_true_eq] at hl
  obtain ⟨⟨hd, hsw⟩, hX⟩ := hl
  have hnp : np = pc + 1 := Nat.eq_of_beq_eq_true (hsw.resolve_left (fun q => Bool.noConfusion q))
  subst hnp
  have hd : decode (mB k) pc = .ok (.aload_n i, 1) := by
    have hd2 := hd
    rwa [Nat.add_sub_cancel_left] at hd2
  dsimp only [stp] at hs
  split at hs
  · rename_i hv
    cases hs
    have hi : i.val = a := Nat.eq_of_beq_eq_true hX
    exact lv_aload_n hx hb hd hi (hL.get hv) (kk _ _ _ _ _ hL hW hS rfl rfl)
  · rename_i x hv
    cases hs
    have hi : i.val = a := Nat.eq_of_beq_eq_true hX
    have hg := hL.get hv
    have hgo : W p l e' R s m args below meth c H locs cells slots Q (F0 m (pc + 1) LS (sv x :: st.map (cv z sv))) := kk _ _ _ _ _ hL hW hS rfl rfl
    simp only [cv] at hg
    rcases hSp.2.2.2.2.2.2.2.2 x with q | ⟨q, hq⟩
    · rw [q] at hg hgo
      exact lv_aload_nN hx hb hd hi hg hgo
    · rw [hq] at hg hgo
      exact lv_aload_n hx hb hd hi hg hgo
  · rename_i hv
    cases hs
    have hi : i.val = a := Nat.eq_of_beq_eq_true hX
    exact lv_aload_nN hx hb hd hi (hL.get hv) (kk _ _ _ _ _ hL hW hS rfl rfl)
  · cases hs
set_option maxHeartbeats 4000000 in
theorem st_istore (C : Cx p s m args meth c k z X sv ca D) {i : Nat} { np a b c0 : Nat} {v : Int32} {pc pc' : Nat} {ls ls' : List (Option Value)} {st st' : List Value} {h h' : Hp} (hl : okE k pc (.istore i, np, a, b, c0, v) = true) (hs : stp X (.istore i, np, a, b, c0, v) ls st h = some (pc', ls', st', h'))
    (hL : lvR z sv LS (mL k) ls) (hW : Wd z ca D H h) (hS : va_S (zA z) s.heap H locs) (hc : cells + h'.1.length ≤ R.cells + h.1.length) (hsl : slots + ksum h'.1 ≤ R.slots + ksum h.1) (hfr : 1 ≤ R.frames) (hlo : 60 ≤ R.locals)
    (kk : ∀ (LS' : Array Slot) (H' : Heap) (locs' : List Loc) (cells' slots' : Nat), lvR z sv LS' (mL k) ls' → Wd z ca D H' h' → va_S (zA z) s.heap H' locs' → cells' + h.1.length = cells + h'.1.length → slots' + ksum h.1 = slots + ksum h'.1 → W p l e' R s m args below meth c H' locs' cells' slots' Q (F0 m pc' LS' (st'.map (cv z sv)))) : W p l e' R s m args below meth c H locs cells slots Q (F0 m pc LS (st.map (cv z sv))) := by
  obtain ⟨hx, hb, hml, hown, hts, hnm, hK, hSp, hz⟩ := C
  unfold okE at hl
  simp only [Bool.and_eq_true, Bool.or_eq_true, decide_eq_true_eq] at hl
  obtain ⟨⟨hd, hsw⟩, hX⟩ := hl
  have hnp : np = pc + 2 := Nat.eq_of_beq_eq_true (hsw.resolve_left (fun q => Bool.noConfusion q))
  subst hnp
  have hd : decode (mB k) pc = .ok (.istore i, 2) := by
    have hd2 := hd
    rwa [Nat.add_sub_cancel_left] at hd2
  dsimp only [stp] at hs
  split at hs
  · cases hs
    simp only [okX, Bool.and_eq_true] at hX
    have hi : i = a := Nat.eq_of_beq_eq_true hX.1
    have hlt : a < mL k := by simpa using hX.2
    subst hi
    exact lv_istore hx hb hd hL.2 hlt rfl (fun LS' h9 => kk _ _ _ _ _ (hL.st1 hSp.2.2.2.2.2.2.2.2 h9) hW hS rfl rfl)
  · cases hs
set_option maxHeartbeats 4000000 in
theorem st_istore_n (C : Cx p s m args meth c k z X sv ca D) {i : Fin 4} { np a b c0 : Nat} {v : Int32} {pc pc' : Nat} {ls ls' : List (Option Value)} {st st' : List Value} {h h' : Hp} (hl : okE k pc (.istore_n i, np, a, b, c0, v) = true) (hs : stp X (.istore_n i, np, a, b, c0, v) ls st h = some (pc', ls', st', h'))
    (hL : lvR z sv LS (mL k) ls) (hW : Wd z ca D H h) (hS : va_S (zA z) s.heap H locs) (hc : cells + h'.1.length ≤ R.cells + h.1.length) (hsl : slots + ksum h'.1 ≤ R.slots + ksum h.1) (hfr : 1 ≤ R.frames) (hlo : 60 ≤ R.locals)
    (kk : ∀ (LS' : Array Slot) (H' : Heap) (locs' : List Loc) (cells' slots' : Nat), lvR z sv LS' (mL k) ls' → Wd z ca D H' h' → va_S (zA z) s.heap H' locs' → cells' + h.1.length = cells + h'.1.length → slots' + ksum h.1 = slots + ksum h'.1 → W p l e' R s m args below meth c H' locs' cells' slots' Q (F0 m pc' LS' (st'.map (cv z sv)))) : W p l e' R s m args below meth c H locs cells slots Q (F0 m pc LS (st.map (cv z sv))) := by
  obtain ⟨hx, hb, hml, hown, hts, hnm, hK, hSp, hz⟩ := C
  unfold okE at hl
  simp only [Bool.and_eq_true, Bool.or_eq_true, decide_eq_true_eq] at hl
  obtain ⟨⟨hd, hsw⟩, hX⟩ := hl
  have hnp : np = pc + 1 := Nat.eq_of_beq_eq_true (hsw.resolve_left (fun q => Bool.noConfusion q))
  subst hnp
  have hd : decode (mB k) pc = .ok (.istore_n i, 1) := by
    have hd2 := hd
    rwa [Nat.add_sub_cancel_left] at hd2
  dsimp only [stp] at hs
  split at hs
  · cases hs
    simp only [okX, Bool.and_eq_true] at hX
    have hi : i.val = a := Nat.eq_of_beq_eq_true hX.1
    have hlt : a < mL k := by simpa using hX.2
    exact lv_istore_n hx hb hd hi hL.2 hlt rfl (fun LS' h9 => kk _ _ _ _ _ (hL.st1 hSp.2.2.2.2.2.2.2.2 h9) hW hS rfl rfl)
  · cases hs
set_option maxHeartbeats 4000000 in
theorem st_lstore (C : Cx p s m args meth c k z X sv ca D) {i : Nat} { np a b c0 : Nat} {v : Int32} {pc pc' : Nat} {ls ls' : List (Option Value)} {st st' : List Value} {h h' : Hp} (hl : okE k pc (.lstore i, np, a, b, c0, v) = true) (hs : stp X (.lstore i, np, a, b, c0, v) ls st h = some (pc', ls', st', h'))
    (hL : lvR z sv LS (mL k) ls) (hW : Wd z ca D H h) (hS : va_S (zA z) s.heap H locs) (hc : cells + h'.1.length ≤ R.cells + h.1.length) (hsl : slots + ksum h'.1 ≤ R.slots + ksum h.1) (hfr : 1 ≤ R.frames) (hlo : 60 ≤ R.locals)
    (kk : ∀ (LS' : Array Slot) (H' : Heap) (locs' : List Loc) (cells' slots' : Nat), lvR z sv LS' (mL k) ls' → Wd z ca D H' h' → va_S (zA z) s.heap H' locs' → cells' + h.1.length = cells + h'.1.length → slots' + ksum h.1 = slots + ksum h'.1 → W p l e' R s m args below meth c H' locs' cells' slots' Q (F0 m pc' LS' (st'.map (cv z sv)))) : W p l e' R s m args below meth c H locs cells slots Q (F0 m pc LS (st.map (cv z sv))) := by
  obtain ⟨hx, hb, hml, hown, hts, hnm, hK, hSp, hz⟩ := C
  unfold okE at hl
  simp only [Bool.and_eq_true, Bool.or_eq_true, decide_eq_true_eq] at hl
  obtain ⟨⟨hd, hsw⟩, hX⟩ := hl
  have hnp : np = pc + 2 := Nat.eq_of_beq_eq_true (hsw.resolve_left (fun q => Bool.noConfusion q))
  subst hnp
  have hd : decode (mB k) pc = .ok (.lstore i, 2) := by
    have hd2 := hd
    rwa [Nat.add_sub_cancel_left] at hd2
  dsimp only [stp] at hs
  split at hs
  · cases hs
    simp only [okX, Bool.and_eq_true] at hX
    have hi : i = a := Nat.eq_of_beq_eq_true hX.1
    have hlt : a + 1 < mL k := by simpa using hX.2
    subst hi
    exact lv_lstore hx hb hd hL.2 hlt rfl (fun LS' h9 => kk _ _ _ _ _ (hL.st2 hSp.2.2.2.2.2.2.2.2 h9) hW hS rfl rfl)
  · cases hs
set_option maxHeartbeats 4000000 in
theorem st_lstore_n (C : Cx p s m args meth c k z X sv ca D) {i : Fin 4} { np a b c0 : Nat} {v : Int32} {pc pc' : Nat} {ls ls' : List (Option Value)} {st st' : List Value} {h h' : Hp} (hl : okE k pc (.lstore_n i, np, a, b, c0, v) = true) (hs : stp X (.lstore_n i, np, a, b, c0, v) ls st h = some (pc', ls', st', h'))
    (hL : lvR z sv LS (mL k) ls) (hW : Wd z ca D H h) (hS : va_S (zA z) s.heap H locs) (hc : cells + h'.1.length ≤ R.cells + h.1.length) (hsl : slots + ksum h'.1 ≤ R.slots + ksum h.1) (hfr : 1 ≤ R.frames) (hlo : 60 ≤ R.locals)
    (kk : ∀ (LS' : Array Slot) (H' : Heap) (locs' : List Loc) (cells' slots' : Nat), lvR z sv LS' (mL k) ls' → Wd z ca D H' h' → va_S (zA z) s.heap H' locs' → cells' + h.1.length = cells + h'.1.length → slots' + ksum h.1 = slots + ksum h'.1 → W p l e' R s m args below meth c H' locs' cells' slots' Q (F0 m pc' LS' (st'.map (cv z sv)))) : W p l e' R s m args below meth c H locs cells slots Q (F0 m pc LS (st.map (cv z sv))) := by
  obtain ⟨hx, hb, hml, hown, hts, hnm, hK, hSp, hz⟩ := C
  unfold okE at hl
  simp only [Bool.and_eq_true, Bool.or_eq_true, decide_eq_true_eq] at hl
  obtain ⟨⟨hd, hsw⟩, hX⟩ := hl
  have hnp : np = pc + 1 := Nat.eq_of_beq_eq_true (hsw.resolve_left (fun q => Bool.noConfusion q))
  subst hnp
  have hd : decode (mB k) pc = .ok (.lstore_n i, 1) := by
    have hd2 := hd
    rwa [Nat.add_sub_cancel_left] at hd2
  dsimp only [stp] at hs
  split at hs
  · cases hs
    simp only [okX, Bool.and_eq_true] at hX
    have hi : i.val = a := Nat.eq_of_beq_eq_true hX.1
    have hlt : a + 1 < mL k := by simpa using hX.2
    exact lv_lstore_n hx hb hd hi hL.2 hlt rfl (fun LS' h9 => kk _ _ _ _ _ (hL.st2 hSp.2.2.2.2.2.2.2.2 h9) hW hS rfl rfl)
  · cases hs
set_option maxHeartbeats 4000000 in
theorem st_astore (C : Cx p s m args meth c k z X sv ca D) {i : Nat} { np a b c0 : Nat} {v : Int32} {pc pc' : Nat} {ls ls' : List (Option Value)} {st st' : List Value} {h h' : Hp} (hl : okE k pc (.astore i, np, a, b, c0, v) = true) (hs : stp X (.astore i, np, a, b, c0, v) ls st h = some (pc', ls', st', h'))
    (hL : lvR z sv LS (mL k) ls) (hW : Wd z ca D H h) (hS : va_S (zA z) s.heap H locs) (hc : cells + h'.1.length ≤ R.cells + h.1.length) (hsl : slots + ksum h'.1 ≤ R.slots + ksum h.1) (hfr : 1 ≤ R.frames) (hlo : 60 ≤ R.locals)
    (kk : ∀ (LS' : Array Slot) (H' : Heap) (locs' : List Loc) (cells' slots' : Nat), lvR z sv LS' (mL k) ls' → Wd z ca D H' h' → va_S (zA z) s.heap H' locs' → cells' + h.1.length = cells + h'.1.length → slots' + ksum h.1 = slots + ksum h'.1 → W p l e' R s m args below meth c H' locs' cells' slots' Q (F0 m pc' LS' (st'.map (cv z sv)))) : W p l e' R s m args below meth c H locs cells slots Q (F0 m pc LS (st.map (cv z sv))) := by
  obtain ⟨hx, hb, hml, hown, hts, hnm, hK, hSp, hz⟩ := C
  unfold okE at hl
  simp only [Bool.and_eq_true, Bool.or_eq_true, decide_eq_true_eq] at hl
  obtain ⟨⟨hd, hsw⟩, hX⟩ := hl
  have hnp : np = pc + 2 := Nat.eq_of_beq_eq_true (hsw.resolve_left (fun q => Bool.noConfusion q))
  subst hnp
  have hd : decode (mB k) pc = .ok (.astore i, 2) := by
    have hd2 := hd
    rwa [Nat.add_sub_cancel_left] at hd2
  simp only [okX, Bool.and_eq_true] at hX
  have hi : i = a := Nat.eq_of_beq_eq_true hX.1
  have hlt : a < mL k := by simpa using hX.2
  subst hi
  dsimp only [stp] at hs
  split at hs
  · cases hs
    exact lv_astore hx hb hd hL.2 hlt rfl (fun LS' h9 => kk _ _ _ _ _ (hL.st1 hSp.2.2.2.2.2.2.2.2 h9) hW hS rfl rfl)
  · cases hs
    exact lv_astoreN hx hb hd hL.2 hlt rfl (fun LS' h9 => kk _ _ _ _ _ (hL.st1 hSp.2.2.2.2.2.2.2.2 h9) hW hS rfl rfl)
  · rename_i x r
    cases hs
    have hgo : ∀ LS' : Array Slot, lv_has LS' (mL k) ((i, sv x) :: (prs z sv ls).filter (fun q => !(q.1 == i) && !(q.1 + 1 == i && q.2.category == 2))) → W p l e' R s m args below meth c H locs cells slots Q (F0 m (pc + 2) LS' (st'.map (cv z sv))) := fun LS' h9 => kk _ _ _ _ _ (hL.st1 hSp.2.2.2.2.2.2.2.2 (v := .retAddr x) h9) hW hS rfl rfl
    have e0 : (Value.retAddr x :: st').map (cv z sv) = sv x :: st'.map (cv z sv) := rfl
    rw [e0]
    rcases hSp.2.2.2.2.2.2.2.2 x with q | ⟨q, hq⟩
    · rw [q] at hgo ⊢
      exact lv_astoreN hx hb hd hL.2 hlt rfl hgo
    · rw [hq] at hgo ⊢
      exact lv_astore hx hb hd hL.2 hlt rfl hgo
  · cases hs
set_option maxHeartbeats 4000000 in
theorem st_astore_n (C : Cx p s m args meth c k z X sv ca D) {i : Fin 4} { np a b c0 : Nat} {v : Int32} {pc pc' : Nat} {ls ls' : List (Option Value)} {st st' : List Value} {h h' : Hp} (hl : okE k pc (.astore_n i, np, a, b, c0, v) = true) (hs : stp X (.astore_n i, np, a, b, c0, v) ls st h = some (pc', ls', st', h'))
    (hL : lvR z sv LS (mL k) ls) (hW : Wd z ca D H h) (hS : va_S (zA z) s.heap H locs) (hc : cells + h'.1.length ≤ R.cells + h.1.length) (hsl : slots + ksum h'.1 ≤ R.slots + ksum h.1) (hfr : 1 ≤ R.frames) (hlo : 60 ≤ R.locals)
    (kk : ∀ (LS' : Array Slot) (H' : Heap) (locs' : List Loc) (cells' slots' : Nat), lvR z sv LS' (mL k) ls' → Wd z ca D H' h' → va_S (zA z) s.heap H' locs' → cells' + h.1.length = cells + h'.1.length → slots' + ksum h.1 = slots + ksum h'.1 → W p l e' R s m args below meth c H' locs' cells' slots' Q (F0 m pc' LS' (st'.map (cv z sv)))) : W p l e' R s m args below meth c H locs cells slots Q (F0 m pc LS (st.map (cv z sv))) := by
  obtain ⟨hx, hb, hml, hown, hts, hnm, hK, hSp, hz⟩ := C
  unfold okE at hl
  simp only [Bool.and_eq_true, Bool.or_eq_true, decide_eq_true_eq] at hl
  obtain ⟨⟨hd, hsw⟩, hX⟩ := hl
  have hnp : np = pc + 1 := Nat.eq_of_beq_eq_true (hsw.resolve_left (fun q => Bool.noConfusion q))
  subst hnp
  have hd : decode (mB k) pc = .ok (.astore_n i, 1) := by
    have hd2 := hd
    rwa [Nat.add_sub_cancel_left] at hd2
  simp only [okX, Bool.and_eq_true] at hX
  have hi : i.val = a := Nat.eq_of_beq_eq_true hX.1
  have hlt : a < mL k := by simpa using hX.2
  have _h := hi
  dsimp only [stp] at hs
  split at hs
  · cases hs
    exact lv_astore_n hx hb hd hi hL.2 hlt rfl (fun LS' h9 => kk _ _ _ _ _ (hL.st1 hSp.2.2.2.2.2.2.2.2 h9) hW hS rfl rfl)
  · cases hs
    exact lv_astore_nN hx hb hd hi hL.2 hlt rfl (fun LS' h9 => kk _ _ _ _ _ (hL.st1 hSp.2.2.2.2.2.2.2.2 h9) hW hS rfl rfl)
  · rename_i x r
    cases hs
    have hgo : ∀ LS' : Array Slot, lv_has LS' (mL k) ((a, sv x) :: (prs z sv ls).filter (fun q => !(q.1 == a) && !(q.1 + 1 == a && q.2.category == 2))) → W p l e' R s m args below meth c H locs cells slots Q (F0 m (pc + 1) LS' (st'.map (cv z sv))) := fun LS' h9 => kk _ _ _ _ _ (hL.st1 hSp.2.2.2.2.2.2.2.2 (v := .retAddr x) h9) hW hS rfl rfl
    have e0 : (Value.retAddr x :: st').map (cv z sv) = sv x :: st'.map (cv z sv) := rfl
    rw [e0]
    rcases hSp.2.2.2.2.2.2.2.2 x with q | ⟨q, hq⟩
    · rw [q] at hgo ⊢
      exact lv_astore_nN hx hb hd hi hL.2 hlt rfl hgo
    · rw [hq] at hgo ⊢
      exact lv_astore_n hx hb hd hi hL.2 hlt rfl hgo
  · cases hs
set_option maxHeartbeats 4000000 in
theorem st_iinc (C : Cx p s m args meth c k z X sv ca D) {i : Nat} {n : Int} { np a b c0 : Nat} {v : Int32} {pc pc' : Nat} {ls ls' : List (Option Value)} {st st' : List Value} {h h' : Hp} (hl : okE k pc (.iinc i n, np, a, b, c0, v) = true) (hs : stp X (.iinc i n, np, a, b, c0, v) ls st h = some (pc', ls', st', h'))
    (hL : lvR z sv LS (mL k) ls) (hW : Wd z ca D H h) (hS : va_S (zA z) s.heap H locs) (hc : cells + h'.1.length ≤ R.cells + h.1.length) (hsl : slots + ksum h'.1 ≤ R.slots + ksum h.1) (hfr : 1 ≤ R.frames) (hlo : 60 ≤ R.locals)
    (kk : ∀ (LS' : Array Slot) (H' : Heap) (locs' : List Loc) (cells' slots' : Nat), lvR z sv LS' (mL k) ls' → Wd z ca D H' h' → va_S (zA z) s.heap H' locs' → cells' + h.1.length = cells + h'.1.length → slots' + ksum h.1 = slots + ksum h'.1 → W p l e' R s m args below meth c H' locs' cells' slots' Q (F0 m pc' LS' (st'.map (cv z sv)))) : W p l e' R s m args below meth c H locs cells slots Q (F0 m pc LS (st.map (cv z sv))) := by
  obtain ⟨hx, hb, hml, hown, hts, hnm, hK, hSp, hz⟩ := C
  unfold okE at hl
  simp only [Bool.and_eq_true, Bool.or_eq_true, decide_eq_true_eq] at hl
  obtain ⟨⟨hd, hsw⟩, hX⟩ := hl
  have hnp : np = pc + 3 := Nat.eq_of_beq_eq_true (hsw.resolve_left (fun q => Bool.noConfusion q))
  subst hnp
  have hd : decode (mB k) pc = .ok (.iinc i n, 3) := by
    have hd2 := hd
    rwa [Nat.add_sub_cancel_left] at hd2
  simp only [okX, Bool.and_eq_true, decide_eq_true_eq] at hX
  have hi : i = a := Nat.eq_of_beq_eq_true hX.1.1
  have hlt : a < mL k := by simpa using hX.1.2
  subst hi
  dsimp only [stp] at hs
  split at hs
  · rename_i x hv
    cases hs
    obtain ⟨j, hj⟩ := List.getElem?_of_mem (prs_in (z := z) (sv := sv) hv)
    exact lv_iinc hx hb hd hL.2 (k := j) hj (by rw [hX.2]) hlt rfl (fun LS' h9 => kk _ _ _ _ _ (hL.st1 hSp.2.2.2.2.2.2.2.2 (v := .int (x + v)) h9) hW hS rfl rfl)
  · cases hs
set_option maxHeartbeats 4000000 in
theorem st_iadd (C : Cx p s m args meth c k z X sv ca D) { np a b c0 : Nat} {v : Int32} {pc pc' : Nat} {ls ls' : List (Option Value)} {st st' : List Value} {h h' : Hp} (hl : okE k pc (.iadd, np, a, b, c0, v) = true) (hs : stp X (.iadd, np, a, b, c0, v) ls st h = some (pc', ls', st', h'))
    (hL : lvR z sv LS (mL k) ls) (hW : Wd z ca D H h) (hS : va_S (zA z) s.heap H locs) (hc : cells + h'.1.length ≤ R.cells + h.1.length) (hsl : slots + ksum h'.1 ≤ R.slots + ksum h.1) (hfr : 1 ≤ R.frames) (hlo : 60 ≤ R.locals)
    (kk : ∀ (LS' : Array Slot) (H' : Heap) (locs' : List Loc) (cells' slots' : Nat), lvR z sv LS' (mL k) ls' → Wd z ca D H' h' → va_S (zA z) s.heap H' locs' → cells' + h.1.length = cells + h'.1.length → slots' + ksum h.1 = slots + ksum h'.1 → W p l e' R s m args below meth c H' locs' cells' slots' Q (F0 m pc' LS' (st'.map (cv z sv)))) : W p l e' R s m args below meth c H locs cells slots Q (F0 m pc LS (st.map (cv z sv))) := by
  obtain ⟨hx, hb, hml, hown, hts, hnm, hK, hSp, hz⟩ := C
  unfold okE at hl
  simp only [Bool.and_eq_true, Bool.or_eq_true, decide_eq_true_eq] at hl
  obtain ⟨⟨hd, hsw⟩, hX⟩ := hl
  have hnp : np = pc + 1 := Nat.eq_of_beq_eq_true (hsw.resolve_left (fun q => Bool.noConfusion q))
  subst hnp
  have hd : decode (mB k) pc = .ok (.iadd, 1) := by
    have hd2 := hd
    rwa [Nat.add_sub_cancel_left] at hd2
  dsimp only [stp] at hs
  split at hs
  · cases hs
    exact lv_iadd hx hb hd (kk _ _ _ _ _ hL hW hS rfl rfl)
  · cases hs
set_option maxHeartbeats 4000000 in
theorem st_isub (C : Cx p s m args meth c k z X sv ca D) { np a b c0 : Nat} {v : Int32} {pc pc' : Nat} {ls ls' : List (Option Value)} {st st' : List Value} {h h' : Hp} (hl : okE k pc (.isub, np, a, b, c0, v) = true) (hs : stp X (.isub, np, a, b, c0, v) ls st h = some (pc', ls', st', h'))
    (hL : lvR z sv LS (mL k) ls) (hW : Wd z ca D H h) (hS : va_S (zA z) s.heap H locs) (hc : cells + h'.1.length ≤ R.cells + h.1.length) (hsl : slots + ksum h'.1 ≤ R.slots + ksum h.1) (hfr : 1 ≤ R.frames) (hlo : 60 ≤ R.locals)
    (kk : ∀ (LS' : Array Slot) (H' : Heap) (locs' : List Loc) (cells' slots' : Nat), lvR z sv LS' (mL k) ls' → Wd z ca D H' h' → va_S (zA z) s.heap H' locs' → cells' + h.1.length = cells + h'.1.length → slots' + ksum h.1 = slots + ksum h'.1 → W p l e' R s m args below meth c H' locs' cells' slots' Q (F0 m pc' LS' (st'.map (cv z sv)))) : W p l e' R s m args below meth c H locs cells slots Q (F0 m pc LS (st.map (cv z sv))) := by
  obtain ⟨hx, hb, hml, hown, hts, hnm, hK, hSp, hz⟩ := C
  unfold okE at hl
  simp only [Bool.and_eq_true, Bool.or_eq_true, decide_eq_true_eq] at hl
  obtain ⟨⟨hd, hsw⟩, hX⟩ := hl
  have hnp : np = pc + 1 := Nat.eq_of_beq_eq_true (hsw.resolve_left (fun q => Bool.noConfusion q))
  subst hnp
  have hd : decode (mB k) pc = .ok (.isub, 1) := by
    have hd2 := hd
    rwa [Nat.add_sub_cancel_left] at hd2
  dsimp only [stp] at hs
  split at hs
  · cases hs
    exact lv_isub hx hb hd (kk _ _ _ _ _ hL hW hS rfl rfl)
  · cases hs
set_option maxHeartbeats 4000000 in
theorem st_imul (C : Cx p s m args meth c k z X sv ca D) { np a b c0 : Nat} {v : Int32} {pc pc' : Nat} {ls ls' : List (Option Value)} {st st' : List Value} {h h' : Hp} (hl : okE k pc (.imul, np, a, b, c0, v) = true) (hs : stp X (.imul, np, a, b, c0, v) ls st h = some (pc', ls', st', h'))
    (hL : lvR z sv LS (mL k) ls) (hW : Wd z ca D H h) (hS : va_S (zA z) s.heap H locs) (hc : cells + h'.1.length ≤ R.cells + h.1.length) (hsl : slots + ksum h'.1 ≤ R.slots + ksum h.1) (hfr : 1 ≤ R.frames) (hlo : 60 ≤ R.locals)
    (kk : ∀ (LS' : Array Slot) (H' : Heap) (locs' : List Loc) (cells' slots' : Nat), lvR z sv LS' (mL k) ls' → Wd z ca D H' h' → va_S (zA z) s.heap H' locs' → cells' + h.1.length = cells + h'.1.length → slots' + ksum h.1 = slots + ksum h'.1 → W p l e' R s m args below meth c H' locs' cells' slots' Q (F0 m pc' LS' (st'.map (cv z sv)))) : W p l e' R s m args below meth c H locs cells slots Q (F0 m pc LS (st.map (cv z sv))) := by
  obtain ⟨hx, hb, hml, hown, hts, hnm, hK, hSp, hz⟩ := C
  unfold okE at hl
  simp only [Bool.and_eq_true, Bool.or_eq_true, decide_eq_true_eq] at hl
  obtain ⟨⟨hd, hsw⟩, hX⟩ := hl
  have hnp : np = pc + 1 := Nat.eq_of_beq_eq_true (hsw.resolve_left (fun q => Bool.noConfusion q))
  subst hnp
  have hd : decode (mB k) pc = .ok (.imul, 1) := by
    have hd2 := hd
    rwa [Nat.add_sub_cancel_left] at hd2
  dsimp only [stp] at hs
  split at hs
  · cases hs
    exact lv_imul hx hb hd (kk _ _ _ _ _ hL hW hS rfl rfl)
  · cases hs
set_option maxHeartbeats 4000000 in
theorem st_iand (C : Cx p s m args meth c k z X sv ca D) { np a b c0 : Nat} {v : Int32} {pc pc' : Nat} {ls ls' : List (Option Value)} {st st' : List Value} {h h' : Hp} (hl : okE k pc (.iand, np, a, b, c0, v) = true) (hs : stp X (.iand, np, a, b, c0, v) ls st h = some (pc', ls', st', h'))
    (hL : lvR z sv LS (mL k) ls) (hW : Wd z ca D H h) (hS : va_S (zA z) s.heap H locs) (hc : cells + h'.1.length ≤ R.cells + h.1.length) (hsl : slots + ksum h'.1 ≤ R.slots + ksum h.1) (hfr : 1 ≤ R.frames) (hlo : 60 ≤ R.locals)
    (kk : ∀ (LS' : Array Slot) (H' : Heap) (locs' : List Loc) (cells' slots' : Nat), lvR z sv LS' (mL k) ls' → Wd z ca D H' h' → va_S (zA z) s.heap H' locs' → cells' + h.1.length = cells + h'.1.length → slots' + ksum h.1 = slots + ksum h'.1 → W p l e' R s m args below meth c H' locs' cells' slots' Q (F0 m pc' LS' (st'.map (cv z sv)))) : W p l e' R s m args below meth c H locs cells slots Q (F0 m pc LS (st.map (cv z sv))) := by
  obtain ⟨hx, hb, hml, hown, hts, hnm, hK, hSp, hz⟩ := C
  unfold okE at hl
  simp only [Bool.and_eq_true, Bool.or_eq_true, decide_eq_true_eq] at hl
  obtain ⟨⟨hd, hsw⟩, hX⟩ := hl
  have hnp : np = pc + 1 := Nat.eq_of_beq_eq_true (hsw.resolve_left (fun q => Bool.noConfusion q))
  subst hnp
  have hd : decode (mB k) pc = .ok (.iand, 1) := by
    have hd2 := hd
    rwa [Nat.add_sub_cancel_left] at hd2
  dsimp only [stp] at hs
  split at hs
  · cases hs
    exact lv_iand hx hb hd (kk _ _ _ _ _ hL hW hS rfl rfl)
  · cases hs
set_option maxHeartbeats 4000000 in
theorem st_ior (C : Cx p s m args meth c k z X sv ca D) { np a b c0 : Nat} {v : Int32} {pc pc' : Nat} {ls ls' : List (Option Value)} {st st' : List Value} {h h' : Hp} (hl : okE k pc (.ior, np, a, b, c0, v) = true) (hs : stp X (.ior, np, a, b, c0, v) ls st h = some (pc', ls', st', h'))
    (hL : lvR z sv LS (mL k) ls) (hW : Wd z ca D H h) (hS : va_S (zA z) s.heap H locs) (hc : cells + h'.1.length ≤ R.cells + h.1.length) (hsl : slots + ksum h'.1 ≤ R.slots + ksum h.1) (hfr : 1 ≤ R.frames) (hlo : 60 ≤ R.locals)
    (kk : ∀ (LS' : Array Slot) (H' : Heap) (locs' : List Loc) (cells' slots' : Nat), lvR z sv LS' (mL k) ls' → Wd z ca D H' h' → va_S (zA z) s.heap H' locs' → cells' + h.1.length = cells + h'.1.length → slots' + ksum h.1 = slots + ksum h'.1 → W p l e' R s m args below meth c H' locs' cells' slots' Q (F0 m pc' LS' (st'.map (cv z sv)))) : W p l e' R s m args below meth c H locs cells slots Q (F0 m pc LS (st.map (cv z sv))) := by
  obtain ⟨hx, hb, hml, hown, hts, hnm, hK, hSp, hz⟩ := C
  unfold okE at hl
  simp only [Bool.and_eq_true, Bool.or_eq_true, decide_eq_true_eq] at hl
  obtain ⟨⟨hd, hsw⟩, hX⟩ := hl
  have hnp : np = pc + 1 := Nat.eq_of_beq_eq_true (hsw.resolve_left (fun q => Bool.noConfusion q))
  subst hnp
  have hd : decode (mB k) pc = .ok (.ior, 1) := by
    have hd2 := hd
    rwa [Nat.add_sub_cancel_left] at hd2
  dsimp only [stp] at hs
  split at hs
  · cases hs
    exact lv_ior hx hb hd (kk _ _ _ _ _ hL hW hS rfl rfl)
  · cases hs
set_option maxHeartbeats 4000000 in
theorem st_ixor (C : Cx p s m args meth c k z X sv ca D) { np a b c0 : Nat} {v : Int32} {pc pc' : Nat} {ls ls' : List (Option Value)} {st st' : List Value} {h h' : Hp} (hl : okE k pc (.ixor, np, a, b, c0, v) = true) (hs : stp X (.ixor, np, a, b, c0, v) ls st h = some (pc', ls', st', h'))
    (hL : lvR z sv LS (mL k) ls) (hW : Wd z ca D H h) (hS : va_S (zA z) s.heap H locs) (hc : cells + h'.1.length ≤ R.cells + h.1.length) (hsl : slots + ksum h'.1 ≤ R.slots + ksum h.1) (hfr : 1 ≤ R.frames) (hlo : 60 ≤ R.locals)
    (kk : ∀ (LS' : Array Slot) (H' : Heap) (locs' : List Loc) (cells' slots' : Nat), lvR z sv LS' (mL k) ls' → Wd z ca D H' h' → va_S (zA z) s.heap H' locs' → cells' + h.1.length = cells + h'.1.length → slots' + ksum h.1 = slots + ksum h'.1 → W p l e' R s m args below meth c H' locs' cells' slots' Q (F0 m pc' LS' (st'.map (cv z sv)))) : W p l e' R s m args below meth c H locs cells slots Q (F0 m pc LS (st.map (cv z sv))) := by
  obtain ⟨hx, hb, hml, hown, hts, hnm, hK, hSp, hz⟩ := C
  unfold okE at hl
  simp only [Bool.and_eq_true, Bool.or_eq_true, decide_eq_true_eq] at hl
  obtain ⟨⟨hd, hsw⟩, hX⟩ := hl
  have hnp : np = pc + 1 := Nat.eq_of_beq_eq_true (hsw.resolve_left (fun q => Bool.noConfusion q))
  subst hnp
  have hd : decode (mB k) pc = .ok (.ixor, 1) := by
    have hd2 := hd
    rwa [Nat.add_sub_cancel_left] at hd2
  dsimp only [stp] at hs
  split at hs
  · cases hs
    exact lv_ixor hx hb hd (kk _ _ _ _ _ hL hW hS rfl rfl)
  · cases hs
set_option maxHeartbeats 4000000 in
theorem st_ishl (C : Cx p s m args meth c k z X sv ca D) { np a b c0 : Nat} {v : Int32} {pc pc' : Nat} {ls ls' : List (Option Value)} {st st' : List Value} {h h' : Hp} (hl : okE k pc (.ishl, np, a, b, c0, v) = true) (hs : stp X (.ishl, np, a, b, c0, v) ls st h = some (pc', ls', st', h'))
    (hL : lvR z sv LS (mL k) ls) (hW : Wd z ca D H h) (hS : va_S (zA z) s.heap H locs) (hc : cells + h'.1.length ≤ R.cells + h.1.length) (hsl : slots + ksum h'.1 ≤ R.slots + ksum h.1) (hfr : 1 ≤ R.frames) (hlo : 60 ≤ R.locals)
    (kk : ∀ (LS' : Array Slot) (H' : Heap) (locs' : List Loc) (cells' slots' : Nat), lvR z sv LS' (mL k) ls' → Wd z ca D H' h' → va_S (zA z) s.heap H' locs' → cells' + h.1.length = cells + h'.1.length → slots' + ksum h.1 = slots + ksum h'.1 → W p l e' R s m args below meth c H' locs' cells' slots' Q (F0 m pc' LS' (st'.map (cv z sv)))) : W p l e' R s m args below meth c H locs cells slots Q (F0 m pc LS (st.map (cv z sv))) := by
  obtain ⟨hx, hb, hml, hown, hts, hnm, hK, hSp, hz⟩ := C
  unfold okE at hl
  simp only [Bool.and_eq_true, Bool.or_eq_true, decide_eq_true_eq] at hl
  obtain ⟨⟨hd, hsw⟩, hX⟩ := hl
  have hnp : np = pc + 1 := Nat.eq_of_beq_eq_true (hsw.resolve_left (fun q => Bool.noConfusion q))
  subst hnp
  have hd : decode (mB k) pc = .ok (.ishl, 1) := by
    have hd2 := hd
    rwa [Nat.add_sub_cancel_left] at hd2
  dsimp only [stp] at hs
  split at hs
  · cases hs
    exact lv_ishl hx hb hd (kk _ _ _ _ _ hL hW hS rfl rfl)
  · cases hs
set_option maxHeartbeats 4000000 in
theorem st_ishr (C : Cx p s m args meth c k z X sv ca D) { np a b c0 : Nat} {v : Int32} {pc pc' : Nat} {ls ls' : List (Option Value)} {st st' : List Value} {h h' : Hp} (hl : okE k pc (.ishr, np, a, b, c0, v) = true) (hs : stp X (.ishr, np, a, b, c0, v) ls st h = some (pc', ls', st', h'))
    (hL : lvR z sv LS (mL k) ls) (hW : Wd z ca D H h) (hS : va_S (zA z) s.heap H locs) (hc : cells + h'.1.length ≤ R.cells + h.1.length) (hsl : slots + ksum h'.1 ≤ R.slots + ksum h.1) (hfr : 1 ≤ R.frames) (hlo : 60 ≤ R.locals)
    (kk : ∀ (LS' : Array Slot) (H' : Heap) (locs' : List Loc) (cells' slots' : Nat), lvR z sv LS' (mL k) ls' → Wd z ca D H' h' → va_S (zA z) s.heap H' locs' → cells' + h.1.length = cells + h'.1.length → slots' + ksum h.1 = slots + ksum h'.1 → W p l e' R s m args below meth c H' locs' cells' slots' Q (F0 m pc' LS' (st'.map (cv z sv)))) : W p l e' R s m args below meth c H locs cells slots Q (F0 m pc LS (st.map (cv z sv))) := by
  obtain ⟨hx, hb, hml, hown, hts, hnm, hK, hSp, hz⟩ := C
  unfold okE at hl
  simp only [Bool.and_eq_true, Bool.or_eq_true, decide_eq_true_eq] at hl
  obtain ⟨⟨hd, hsw⟩, hX⟩ := hl
  have hnp : np = pc + 1 := Nat.eq_of_beq_eq_true (hsw.resolve_left (fun q => Bool.noConfusion q))
  subst hnp
  have hd : decode (mB k) pc = .ok (.ishr, 1) := by
    have hd2 := hd
    rwa [Nat.add_sub_cancel_left] at hd2
  dsimp only [stp] at hs
  split at hs
  · cases hs
    exact lv_ishr hx hb hd (kk _ _ _ _ _ hL hW hS rfl rfl)
  · cases hs
set_option maxHeartbeats 4000000 in
theorem st_ladd (C : Cx p s m args meth c k z X sv ca D) { np a b c0 : Nat} {v : Int32} {pc pc' : Nat} {ls ls' : List (Option Value)} {st st' : List Value} {h h' : Hp} (hl : okE k pc (.ladd, np, a, b, c0, v) = true) (hs : stp X (.ladd, np, a, b, c0, v) ls st h = some (pc', ls', st', h'))
    (hL : lvR z sv LS (mL k) ls) (hW : Wd z ca D H h) (hS : va_S (zA z) s.heap H locs) (hc : cells + h'.1.length ≤ R.cells + h.1.length) (hsl : slots + ksum h'.1 ≤ R.slots + ksum h.1) (hfr : 1 ≤ R.frames) (hlo : 60 ≤ R.locals)
    (kk : ∀ (LS' : Array Slot) (H' : Heap) (locs' : List Loc) (cells' slots' : Nat), lvR z sv LS' (mL k) ls' → Wd z ca D H' h' → va_S (zA z) s.heap H' locs' → cells' + h.1.length = cells + h'.1.length → slots' + ksum h.1 = slots + ksum h'.1 → W p l e' R s m args below meth c H' locs' cells' slots' Q (F0 m pc' LS' (st'.map (cv z sv)))) : W p l e' R s m args below meth c H locs cells slots Q (F0 m pc LS (st.map (cv z sv))) := by
  obtain ⟨hx, hb, hml, hown, hts, hnm, hK, hSp, hz⟩ := C
  unfold okE at hl
  simp only [Bool.and_eq_true, Bool.or_eq_true, decide_eq_true_eq] at hl
  obtain ⟨⟨hd, hsw⟩, hX⟩ := hl
  have hnp : np = pc + 1 := Nat.eq_of_beq_eq_true (hsw.resolve_left (fun q => Bool.noConfusion q))
  subst hnp
  have hd : decode (mB k) pc = .ok (.ladd, 1) := by
    have hd2 := hd
    rwa [Nat.add_sub_cancel_left] at hd2
  dsimp only [stp] at hs
  split at hs
  · cases hs
    exact lv_ladd hx hb hd (kk _ _ _ _ _ hL hW hS rfl rfl)
  · cases hs
set_option maxHeartbeats 4000000 in
theorem st_lmul (C : Cx p s m args meth c k z X sv ca D) { np a b c0 : Nat} {v : Int32} {pc pc' : Nat} {ls ls' : List (Option Value)} {st st' : List Value} {h h' : Hp} (hl : okE k pc (.lmul, np, a, b, c0, v) = true) (hs : stp X (.lmul, np, a, b, c0, v) ls st h = some (pc', ls', st', h'))
    (hL : lvR z sv LS (mL k) ls) (hW : Wd z ca D H h) (hS : va_S (zA z) s.heap H locs) (hc : cells + h'.1.length ≤ R.cells + h.1.length) (hsl : slots + ksum h'.1 ≤ R.slots + ksum h.1) (hfr : 1 ≤ R.frames) (hlo : 60 ≤ R.locals)
    (kk : ∀ (LS' : Array Slot) (H' : Heap) (locs' : List Loc) (cells' slots' : Nat), lvR z sv LS' (mL k) ls' → Wd z ca D H' h' → va_S (zA z) s.heap H' locs' → cells' + h.1.length = cells + h'.1.length → slots' + ksum h.1 = slots + ksum h'.1 → W p l e' R s m args below meth c H' locs' cells' slots' Q (F0 m pc' LS' (st'.map (cv z sv)))) : W p l e' R s m args below meth c H locs cells slots Q (F0 m pc LS (st.map (cv z sv))) := by
  obtain ⟨hx, hb, hml, hown, hts, hnm, hK, hSp, hz⟩ := C
  unfold okE at hl
  simp only [Bool.and_eq_true, Bool.or_eq_true, decide_eq_true_eq] at hl
  obtain ⟨⟨hd, hsw⟩, hX⟩ := hl
  have hnp : np = pc + 1 := Nat.eq_of_beq_eq_true (hsw.resolve_left (fun q => Bool.noConfusion q))
  subst hnp
  have hd : decode (mB k) pc = .ok (.lmul, 1) := by
    have hd2 := hd
    rwa [Nat.add_sub_cancel_left] at hd2
  dsimp only [stp] at hs
  split at hs
  · cases hs
    exact lv_lmul hx hb hd (kk _ _ _ _ _ hL hW hS rfl rfl)
  · cases hs
set_option maxHeartbeats 4000000 in
theorem st_ineg (C : Cx p s m args meth c k z X sv ca D) { np a b c0 : Nat} {v : Int32} {pc pc' : Nat} {ls ls' : List (Option Value)} {st st' : List Value} {h h' : Hp} (hl : okE k pc (.ineg, np, a, b, c0, v) = true) (hs : stp X (.ineg, np, a, b, c0, v) ls st h = some (pc', ls', st', h'))
    (hL : lvR z sv LS (mL k) ls) (hW : Wd z ca D H h) (hS : va_S (zA z) s.heap H locs) (hc : cells + h'.1.length ≤ R.cells + h.1.length) (hsl : slots + ksum h'.1 ≤ R.slots + ksum h.1) (hfr : 1 ≤ R.frames) (hlo : 60 ≤ R.locals)
    (kk : ∀ (LS' : Array Slot) (H' : Heap) (locs' : List Loc) (cells' slots' : Nat), lvR z sv LS' (mL k) ls' → Wd z ca D H' h' → va_S (zA z) s.heap H' locs' → cells' + h.1.length = cells + h'.1.length → slots' + ksum h.1 = slots + ksum h'.1 → W p l e' R s m args below meth c H' locs' cells' slots' Q (F0 m pc' LS' (st'.map (cv z sv)))) : W p l e' R s m args below meth c H locs cells slots Q (F0 m pc LS (st.map (cv z sv))) := by
  obtain ⟨hx, hb, hml, hown, hts, hnm, hK, hSp, hz⟩ := C
  unfold okE at hl
  simp only [Bool.and_eq_true, Bool.or_eq_true, decide_eq_true_eq] at hl
  obtain ⟨⟨hd, hsw⟩, hX⟩ := hl
  have hnp : np = pc + 1 := Nat.eq_of_beq_eq_true (hsw.resolve_left (fun q => Bool.noConfusion q))
  subst hnp
  have hd : decode (mB k) pc = .ok (.ineg, 1) := by
    have hd2 := hd
    rwa [Nat.add_sub_cancel_left] at hd2
  dsimp only [stp] at hs
  split at hs
  · cases hs
    exact lv_ineg hx hb hd (kk _ _ _ _ _ hL hW hS rfl rfl)
  · cases hs
set_option maxHeartbeats 4000000 in
theorem st_lneg (C : Cx p s m args meth c k z X sv ca D) { np a b c0 : Nat} {v : Int32} {pc pc' : Nat} {ls ls' : List (Option Value)} {st st' : List Value} {h h' : Hp} (hl : okE k pc (.lneg, np, a, b, c0, v) = true) (hs : stp X (.lneg, np, a, b, c0, v) ls st h = some (pc', ls', st', h'))
    (hL : lvR z sv LS (mL k) ls) (hW : Wd z ca D H h) (hS : va_S (zA z) s.heap H locs) (hc : cells + h'.1.length ≤ R.cells + h.1.length) (hsl : slots + ksum h'.1 ≤ R.slots + ksum h.1) (hfr : 1 ≤ R.frames) (hlo : 60 ≤ R.locals)
    (kk : ∀ (LS' : Array Slot) (H' : Heap) (locs' : List Loc) (cells' slots' : Nat), lvR z sv LS' (mL k) ls' → Wd z ca D H' h' → va_S (zA z) s.heap H' locs' → cells' + h.1.length = cells + h'.1.length → slots' + ksum h.1 = slots + ksum h'.1 → W p l e' R s m args below meth c H' locs' cells' slots' Q (F0 m pc' LS' (st'.map (cv z sv)))) : W p l e' R s m args below meth c H locs cells slots Q (F0 m pc LS (st.map (cv z sv))) := by
  obtain ⟨hx, hb, hml, hown, hts, hnm, hK, hSp, hz⟩ := C
  unfold okE at hl
  simp only [Bool.and_eq_true, Bool.or_eq_true, decide_eq_true_eq] at hl
  obtain ⟨⟨hd, hsw⟩, hX⟩ := hl
  have hnp : np = pc + 1 := Nat.eq_of_beq_eq_true (hsw.resolve_left (fun q => Bool.noConfusion q))
  subst hnp
  have hd : decode (mB k) pc = .ok (.lneg, 1) := by
    have hd2 := hd
    rwa [Nat.add_sub_cancel_left] at hd2
  dsimp only [stp] at hs
  split at hs
  · cases hs
    exact lv_lneg hx hb hd (kk _ _ _ _ _ hL hW hS rfl rfl)
  · cases hs
set_option maxHeartbeats 4000000 in
theorem st_lcmp (C : Cx p s m args meth c k z X sv ca D) { np a b c0 : Nat} {v : Int32} {pc pc' : Nat} {ls ls' : List (Option Value)} {st st' : List Value} {h h' : Hp} (hl : okE k pc (.lcmp, np, a, b, c0, v) = true) (hs : stp X (.lcmp, np, a, b, c0, v) ls st h = some (pc', ls', st', h'))
    (hL : lvR z sv LS (mL k) ls) (hW : Wd z ca D H h) (hS : va_S (zA z) s.heap H locs) (hc : cells + h'.1.length ≤ R.cells + h.1.length) (hsl : slots + ksum h'.1 ≤ R.slots + ksum h.1) (hfr : 1 ≤ R.frames) (hlo : 60 ≤ R.locals)
    (kk : ∀ (LS' : Array Slot) (H' : Heap) (locs' : List Loc) (cells' slots' : Nat), lvR z sv LS' (mL k) ls' → Wd z ca D H' h' → va_S (zA z) s.heap H' locs' → cells' + h.1.length = cells + h'.1.length → slots' + ksum h.1 = slots + ksum h'.1 → W p l e' R s m args below meth c H' locs' cells' slots' Q (F0 m pc' LS' (st'.map (cv z sv)))) : W p l e' R s m args below meth c H locs cells slots Q (F0 m pc LS (st.map (cv z sv))) := by
  obtain ⟨hx, hb, hml, hown, hts, hnm, hK, hSp, hz⟩ := C
  unfold okE at hl
  simp only [Bool.and_eq_true, Bool.or_eq_true, decide_eq_true_eq] at hl
  obtain ⟨⟨hd, hsw⟩, hX⟩ := hl
  have hnp : np = pc + 1 := Nat.eq_of_beq_eq_true (hsw.resolve_left (fun q => Bool.noConfusion q))
  subst hnp
  have hd : decode (mB k) pc = .ok (.lcmp, 1) := by
    have hd2 := hd
    rwa [Nat.add_sub_cancel_left] at hd2
  dsimp only [stp] at hs
  split at hs
  · cases hs
    exact W.lcmp hx hb hd (kk _ _ _ _ _ hL hW hS rfl rfl)
  · cases hs
set_option maxHeartbeats 4000000 in
theorem st_iushr (C : Cx p s m args meth c k z X sv ca D) { np a b c0 : Nat} {v : Int32} {pc pc' : Nat} {ls ls' : List (Option Value)} {st st' : List Value} {h h' : Hp} (hl : okE k pc (.iushr, np, a, b, c0, v) = true) (hs : stp X (.iushr, np, a, b, c0, v) ls st h = some (pc', ls', st', h'))
    (hL : lvR z sv LS (mL k) ls) (hW : Wd z ca D H h) (hS : va_S (zA z) s.heap H locs) (hc : cells + h'.1.length ≤ R.cells + h.1.length) (hsl : slots + ksum h'.1 ≤ R.slots + ksum h.1) (hfr : 1 ≤ R.frames) (hlo : 60 ≤ R.locals)
    (kk : ∀ (LS' : Array Slot) (H' : Heap) (locs' : List Loc) (cells' slots' : Nat), lvR z sv LS' (mL k) ls' → Wd z ca D H' h' → va_S (zA z) s.heap H' locs' → cells' + h.1.length = cells + h'.1.length → slots' + ksum h.1 = slots + ksum h'.1 → W p l e' R s m args below meth c H' locs' cells' slots' Q (F0 m pc' LS' (st'.map (cv z sv)))) : W p l e' R s m args below meth c H locs cells slots Q (F0 m pc LS (st.map (cv z sv))) := by
  obtain ⟨hx, hb, hml, hown, hts, hnm, hK, hSp, hz⟩ := C
  unfold okE at hl
  simp only [Bool.and_eq_true, Bool.or_eq_true, decide_eq_true_eq] at hl
  obtain ⟨⟨hd, hsw⟩, hX⟩ := hl
  have hnp : np = pc + 1 := Nat.eq_of_beq_eq_true (hsw.resolve_left (fun q => Bool.noConfusion q))
  subst hnp
  have hd : decode (mB k) pc = .ok (.iushr, 1) := by
    have hd2 := hd
    rwa [Nat.add_sub_cancel_left] at hd2
  dsimp only [stp] at hs
  split at hs
  · cases hs
    exact lv_iushr hx hb hd rfl (kk _ _ _ _ _ hL hW hS rfl rfl)
  · cases hs
set_option maxHeartbeats 4000000 in
theorem st_i2l (C : Cx p s m args meth c k z X sv ca D) { np a b c0 : Nat} {v : Int32} {pc pc' : Nat} {ls ls' : List (Option Value)} {st st' : List Value} {h h' : Hp} (hl : okE k pc (.i2l, np, a, b, c0, v) = true) (hs : stp X (.i2l, np, a, b, c0, v) ls st h = some (pc', ls', st', h'))
    (hL : lvR z sv LS (mL k) ls) (hW : Wd z ca D H h) (hS : va_S (zA z) s.heap H locs) (hc : cells + h'.1.length ≤ R.cells + h.1.length) (hsl : slots + ksum h'.1 ≤ R.slots + ksum h.1) (hfr : 1 ≤ R.frames) (hlo : 60 ≤ R.locals)
    (kk : ∀ (LS' : Array Slot) (H' : Heap) (locs' : List Loc) (cells' slots' : Nat), lvR z sv LS' (mL k) ls' → Wd z ca D H' h' → va_S (zA z) s.heap H' locs' → cells' + h.1.length = cells + h'.1.length → slots' + ksum h.1 = slots + ksum h'.1 → W p l e' R s m args below meth c H' locs' cells' slots' Q (F0 m pc' LS' (st'.map (cv z sv)))) : W p l e' R s m args below meth c H locs cells slots Q (F0 m pc LS (st.map (cv z sv))) := by
  obtain ⟨hx, hb, hml, hown, hts, hnm, hK, hSp, hz⟩ := C
  unfold okE at hl
  simp only [Bool.and_eq_true, Bool.or_eq_true, decide_eq_true_eq] at hl
  obtain ⟨⟨hd, hsw⟩, hX⟩ := hl
  have hnp : np = pc + 1 := Nat.eq_of_beq_eq_true (hsw.resolve_left (fun q => Bool.noConfusion q))
  subst hnp
  have hd : decode (mB k) pc = .ok (.i2l, 1) := by
    have hd2 := hd
    rwa [Nat.add_sub_cancel_left] at hd2
  dsimp only [stp] at hs
  split at hs
  · cases hs
    exact lv_i2l hx hb hd rfl (kk _ _ _ _ _ hL hW hS rfl rfl)
  · cases hs
set_option maxHeartbeats 4000000 in
theorem st_i2b (C : Cx p s m args meth c k z X sv ca D) { np a b c0 : Nat} {v : Int32} {pc pc' : Nat} {ls ls' : List (Option Value)} {st st' : List Value} {h h' : Hp} (hl : okE k pc (.i2b, np, a, b, c0, v) = true) (hs : stp X (.i2b, np, a, b, c0, v) ls st h = some (pc', ls', st', h'))
    (hL : lvR z sv LS (mL k) ls) (hW : Wd z ca D H h) (hS : va_S (zA z) s.heap H locs) (hc : cells + h'.1.length ≤ R.cells + h.1.length) (hsl : slots + ksum h'.1 ≤ R.slots + ksum h.1) (hfr : 1 ≤ R.frames) (hlo : 60 ≤ R.locals)
    (kk : ∀ (LS' : Array Slot) (H' : Heap) (locs' : List Loc) (cells' slots' : Nat), lvR z sv LS' (mL k) ls' → Wd z ca D H' h' → va_S (zA z) s.heap H' locs' → cells' + h.1.length = cells + h'.1.length → slots' + ksum h.1 = slots + ksum h'.1 → W p l e' R s m args below meth c H' locs' cells' slots' Q (F0 m pc' LS' (st'.map (cv z sv)))) : W p l e' R s m args below meth c H locs cells slots Q (F0 m pc LS (st.map (cv z sv))) := by
  obtain ⟨hx, hb, hml, hown, hts, hnm, hK, hSp, hz⟩ := C
  unfold okE at hl
  simp only [Bool.and_eq_true, Bool.or_eq_true, decide_eq_true_eq] at hl
  obtain ⟨⟨hd, hsw⟩, hX⟩ := hl
  have hnp : np = pc + 1 := Nat.eq_of_beq_eq_true (hsw.resolve_left (fun q => Bool.noConfusion q))
  subst hnp
  have hd : decode (mB k) pc = .ok (.i2b, 1) := by
    have hd2 := hd
    rwa [Nat.add_sub_cancel_left] at hd2
  dsimp only [stp] at hs
  split at hs
  · cases hs
    exact lv_i2b hx hb hd rfl (kk _ _ _ _ _ hL hW hS rfl rfl)
  · cases hs
set_option maxHeartbeats 4000000 in
theorem st_i2c (C : Cx p s m args meth c k z X sv ca D) { np a b c0 : Nat} {v : Int32} {pc pc' : Nat} {ls ls' : List (Option Value)} {st st' : List Value} {h h' : Hp} (hl : okE k pc (.i2c, np, a, b, c0, v) = true) (hs : stp X (.i2c, np, a, b, c0, v) ls st h = some (pc', ls', st', h'))
    (hL : lvR z sv LS (mL k) ls) (hW : Wd z ca D H h) (hS : va_S (zA z) s.heap H locs) (hc : cells + h'.1.length ≤ R.cells + h.1.length) (hsl : slots + ksum h'.1 ≤ R.slots + ksum h.1) (hfr : 1 ≤ R.frames) (hlo : 60 ≤ R.locals)
    (kk : ∀ (LS' : Array Slot) (H' : Heap) (locs' : List Loc) (cells' slots' : Nat), lvR z sv LS' (mL k) ls' → Wd z ca D H' h' → va_S (zA z) s.heap H' locs' → cells' + h.1.length = cells + h'.1.length → slots' + ksum h.1 = slots + ksum h'.1 → W p l e' R s m args below meth c H' locs' cells' slots' Q (F0 m pc' LS' (st'.map (cv z sv)))) : W p l e' R s m args below meth c H locs cells slots Q (F0 m pc LS (st.map (cv z sv))) := by
  obtain ⟨hx, hb, hml, hown, hts, hnm, hK, hSp, hz⟩ := C
  unfold okE at hl
  simp only [Bool.and_eq_true, Bool.or_eq_true, decide_eq_true_eq] at hl
  obtain ⟨⟨hd, hsw⟩, hX⟩ := hl
  have hnp : np = pc + 1 := Nat.eq_of_beq_eq_true (hsw.resolve_left (fun q => Bool.noConfusion q))
  subst hnp
  have hd : decode (mB k) pc = .ok (.i2c, 1) := by
    have hd2 := hd
    rwa [Nat.add_sub_cancel_left] at hd2
  dsimp only [stp] at hs
  split at hs
  · cases hs
    exact lv_i2c hx hb hd rfl (kk _ _ _ _ _ hL hW hS rfl rfl)
  · cases hs
set_option maxHeartbeats 4000000 in
theorem st_idiv (C : Cx p s m args meth c k z X sv ca D) { np a b c0 : Nat} {v : Int32} {pc pc' : Nat} {ls ls' : List (Option Value)} {st st' : List Value} {h h' : Hp} (hl : okE k pc (.idiv, np, a, b, c0, v) = true) (hs : stp X (.idiv, np, a, b, c0, v) ls st h = some (pc', ls', st', h'))
    (hL : lvR z sv LS (mL k) ls) (hW : Wd z ca D H h) (hS : va_S (zA z) s.heap H locs) (hc : cells + h'.1.length ≤ R.cells + h.1.length) (hsl : slots + ksum h'.1 ≤ R.slots + ksum h.1) (hfr : 1 ≤ R.frames) (hlo : 60 ≤ R.locals)
    (kk : ∀ (LS' : Array Slot) (H' : Heap) (locs' : List Loc) (cells' slots' : Nat), lvR z sv LS' (mL k) ls' → Wd z ca D H' h' → va_S (zA z) s.heap H' locs' → cells' + h.1.length = cells + h'.1.length → slots' + ksum h.1 = slots + ksum h'.1 → W p l e' R s m args below meth c H' locs' cells' slots' Q (F0 m pc' LS' (st'.map (cv z sv)))) : W p l e' R s m args below meth c H locs cells slots Q (F0 m pc LS (st.map (cv z sv))) := by
  obtain ⟨hx, hb, hml, hown, hts, hnm, hK, hSp, hz⟩ := C
  unfold okE at hl
  simp only [Bool.and_eq_true, Bool.or_eq_true, decide_eq_true_eq] at hl
  obtain ⟨⟨hd, hsw⟩, hX⟩ := hl
  have hnp : np = pc + 1 := Nat.eq_of_beq_eq_true (hsw.resolve_left (fun q => Bool.noConfusion q))
  subst hnp
  have hd : decode (mB k) pc = .ok (.idiv, 1) := by
    have hd2 := hd
    rwa [Nat.add_sub_cancel_left] at hd2
  dsimp only [stp] at hs
  split at hs
  · rename_i y x r
    cases hy : decide (y = 0) with
    | true => rw [hy] at hs; cases hs
    | false =>
      rw [hy] at hs
      cases hs
      exact lv_idiv hx hb hd (of_decide_eq_false hy) (kk _ _ _ _ _ hL hW hS rfl rfl)
  · cases hs
set_option maxHeartbeats 4000000 in
theorem st_irem (C : Cx p s m args meth c k z X sv ca D) { np a b c0 : Nat} {v : Int32} {pc pc' : Nat} {ls ls' : List (Option Value)} {st st' : List Value} {h h' : Hp} (hl : okE k pc (.irem, np, a, b, c0, v) = true) (hs : stp X (.irem, np, a, b, c0, v) ls st h = some (pc', ls', st', h'))
    (hL : lvR z sv LS (mL k) ls) (hW : Wd z ca D H h) (hS : va_S (zA z) s.heap H locs) (hc : cells + h'.1.length ≤ R.cells + h.1.length) (hsl : slots + ksum h'.1 ≤ R.slots + ksum h.1) (hfr : 1 ≤ R.frames) (hlo : 60 ≤ R.locals)
    (kk : ∀ (LS' : Array Slot) (H' : Heap) (locs' : List Loc) (cells' slots' : Nat), lvR z sv LS' (mL k) ls' → Wd z ca D H' h' → va_S (zA z) s.heap H' locs' → cells' + h.1.length = cells + h'.1.length → slots' + ksum h.1 = slots + ksum h'.1 → W p l e' R s m args below meth c H' locs' cells' slots' Q (F0 m pc' LS' (st'.map (cv z sv)))) : W p l e' R s m args below meth c H locs cells slots Q (F0 m pc LS (st.map (cv z sv))) := by
  obtain ⟨hx, hb, hml, hown, hts, hnm, hK, hSp, hz⟩ := C
  unfold okE at hl
  simp only [Bool.and_eq_true, Bool.or_eq_true, decide_eq_true_eq] at hl
  obtain ⟨⟨hd, hsw⟩, hX⟩ := hl
  have hnp : np = pc + 1 := Nat.eq_of_beq_eq_true (hsw.resolve_left (fun q => Bool.noConfusion q))
  subst hnp
  have hd : decode (mB k) pc = .ok (.irem, 1) := by
    have hd2 := hd
    rwa [Nat.add_sub_cancel_left] at hd2
  dsimp only [stp] at hs
  split at hs
  · rename_i y x r
    cases hy : decide (y = 0) with
    | true => rw [hy] at hs; cases hs
    | false =>
      rw [hy] at hs
      cases hs
      exact lv_irem hx hb hd (of_decide_eq_false hy) (kk _ _ _ _ _ hL hW hS rfl rfl)
  · cases hs
set_option maxHeartbeats 4000000 in
theorem st_ldiv (C : Cx p s m args meth c k z X sv ca D) { np a b c0 : Nat} {v : Int32} {pc pc' : Nat} {ls ls' : List (Option Value)} {st st' : List Value} {h h' : Hp} (hl : okE k pc (.ldiv, np, a, b, c0, v) = true) (hs : stp X (.ldiv, np, a, b, c0, v) ls st h = some (pc', ls', st', h'))
    (hL : lvR z sv LS (mL k) ls) (hW : Wd z ca D H h) (hS : va_S (zA z) s.heap H locs) (hc : cells + h'.1.length ≤ R.cells + h.1.length) (hsl : slots + ksum h'.1 ≤ R.slots + ksum h.1) (hfr : 1 ≤ R.frames) (hlo : 60 ≤ R.locals)
    (kk : ∀ (LS' : Array Slot) (H' : Heap) (locs' : List Loc) (cells' slots' : Nat), lvR z sv LS' (mL k) ls' → Wd z ca D H' h' → va_S (zA z) s.heap H' locs' → cells' + h.1.length = cells + h'.1.length → slots' + ksum h.1 = slots + ksum h'.1 → W p l e' R s m args below meth c H' locs' cells' slots' Q (F0 m pc' LS' (st'.map (cv z sv)))) : W p l e' R s m args below meth c H locs cells slots Q (F0 m pc LS (st.map (cv z sv))) := by
  obtain ⟨hx, hb, hml, hown, hts, hnm, hK, hSp, hz⟩ := C
  unfold okE at hl
  simp only [Bool.and_eq_true, Bool.or_eq_true, decide_eq_true_eq] at hl
  obtain ⟨⟨hd, hsw⟩, hX⟩ := hl
  have hnp : np = pc + 1 := Nat.eq_of_beq_eq_true (hsw.resolve_left (fun q => Bool.noConfusion q))
  subst hnp
  have hd : decode (mB k) pc = .ok (.ldiv, 1) := by
    have hd2 := hd
    rwa [Nat.add_sub_cancel_left] at hd2
  dsimp only [stp] at hs
  split at hs
  · rename_i y x r
    cases hy : decide (y = 0) with
    | true => rw [hy] at hs; cases hs
    | false =>
      rw [hy] at hs
      cases hs
      exact lv_ldiv hx hb hd (of_decide_eq_false hy) (kk _ _ _ _ _ hL hW hS rfl rfl)
  · cases hs
set_option maxHeartbeats 4000000 in
theorem st_lrem (C : Cx p s m args meth c k z X sv ca D) { np a b c0 : Nat} {v : Int32} {pc pc' : Nat} {ls ls' : List (Option Value)} {st st' : List Value} {h h' : Hp} (hl : okE k pc (.lrem, np, a, b, c0, v) = true) (hs : stp X (.lrem, np, a, b, c0, v) ls st h = some (pc', ls', st', h'))
    (hL : lvR z sv LS (mL k) ls) (hW : Wd z ca D H h) (hS : va_S (zA z) s.heap H locs) (hc : cells + h'.1.length ≤ R.cells + h.1.length) (hsl : slots + ksum h'.1 ≤ R.slots + ksum h.1) (hfr : 1 ≤ R.frames) (hlo : 60 ≤ R.locals)
    (kk : ∀ (LS' : Array Slot) (H' : Heap) (locs' : List Loc) (cells' slots' : Nat), lvR z sv LS' (mL k) ls' → Wd z ca D H' h' → va_S (zA z) s.heap H' locs' → cells' + h.1.length = cells + h'.1.length → slots' + ksum h.1 = slots + ksum h'.1 → W p l e' R s m args below meth c H' locs' cells' slots' Q (F0 m pc' LS' (st'.map (cv z sv)))) : W p l e' R s m args below meth c H locs cells slots Q (F0 m pc LS (st.map (cv z sv))) := by
  obtain ⟨hx, hb, hml, hown, hts, hnm, hK, hSp, hz⟩ := C
  unfold okE at hl
  simp only [Bool.and_eq_true, Bool.or_eq_true, decide_eq_true_eq] at hl
  obtain ⟨⟨hd, hsw⟩, hX⟩ := hl
  have hnp : np = pc + 1 := Nat.eq_of_beq_eq_true (hsw.resolve_left (fun q => Bool.noConfusion q))
  subst hnp
  have hd : decode (mB k) pc = .ok (.lrem, 1) := by
    have hd2 := hd
    rwa [Nat.add_sub_cancel_left] at hd2
  dsimp only [stp] at hs
  split at hs
  · rename_i y x r
    cases hy : decide (y = 0) with
    | true => rw [hy] at hs; cases hs
    | false =>
      rw [hy] at hs
      cases hs
      exact lv_lrem hx hb hd (of_decide_eq_false hy) (kk _ _ _ _ _ hL hW hS rfl rfl)
  · cases hs
set_option maxHeartbeats 4000000 in
theorem st_dup (C : Cx p s m args meth c k z X sv ca D) { np a b c0 : Nat} {v : Int32} {pc pc' : Nat} {ls ls' : List (Option Value)} {st st' : List Value} {h h' : Hp} (hl : okE k pc (.dup, np, a, b, c0, v) = true) (hs : stp X (.dup, np, a, b, c0, v) ls st h = some (pc', ls', st', h'))
    (hL : lvR z sv LS (mL k) ls) (hW : Wd z ca D H h) (hS : va_S (zA z) s.heap H locs) (hc : cells + h'.1.length ≤ R.cells + h.1.length) (hsl : slots + ksum h'.1 ≤ R.slots + ksum h.1) (hfr : 1 ≤ R.frames) (hlo : 60 ≤ R.locals)
    (kk : ∀ (LS' : Array Slot) (H' : Heap) (locs' : List Loc) (cells' slots' : Nat), lvR z sv LS' (mL k) ls' → Wd z ca D H' h' → va_S (zA z) s.heap H' locs' → cells' + h.1.length = cells + h'.1.length → slots' + ksum h.1 = slots + ksum h'.1 → W p l e' R s m args below meth c H' locs' cells' slots' Q (F0 m pc' LS' (st'.map (cv z sv)))) : W p l e' R s m args below meth c H locs cells slots Q (F0 m pc LS (st.map (cv z sv))) := by
  obtain ⟨hx, hb, hml, hown, hts, hnm, hK, hSp, hz⟩ := C
  unfold okE at hl
  simp only [Bool.and_eq_true, Bool.or_eq_true, decide_eq_true_eq] at hl
  obtain ⟨⟨hd, hsw⟩, hX⟩ := hl
  have hnp : np = pc + 1 := Nat.eq_of_beq_eq_true (hsw.resolve_left (fun q => Bool.noConfusion q))
  subst hnp
  have hd : decode (mB k) pc = .ok (.dup, 1) := by
    have hd2 := hd
    rwa [Nat.add_sub_cancel_left] at hd2
  dsimp only [stp] at hs
  split at hs
  · cases hs
    exact lv_dup hx hb hd rfl (kk _ _ _ _ _ hL hW hS rfl rfl)
  · cases hs
    exact lv_dup hx hb hd rfl (kk _ _ _ _ _ hL hW hS rfl rfl)
  · cases hs
set_option maxHeartbeats 4000000 in
theorem st_dup2 (C : Cx p s m args meth c k z X sv ca D) { np a b c0 : Nat} {v : Int32} {pc pc' : Nat} {ls ls' : List (Option Value)} {st st' : List Value} {h h' : Hp} (hl : okE k pc (.dup2, np, a, b, c0, v) = true) (hs : stp X (.dup2, np, a, b, c0, v) ls st h = some (pc', ls', st', h'))
    (hL : lvR z sv LS (mL k) ls) (hW : Wd z ca D H h) (hS : va_S (zA z) s.heap H locs) (hc : cells + h'.1.length ≤ R.cells + h.1.length) (hsl : slots + ksum h'.1 ≤ R.slots + ksum h.1) (hfr : 1 ≤ R.frames) (hlo : 60 ≤ R.locals)
    (kk : ∀ (LS' : Array Slot) (H' : Heap) (locs' : List Loc) (cells' slots' : Nat), lvR z sv LS' (mL k) ls' → Wd z ca D H' h' → va_S (zA z) s.heap H' locs' → cells' + h.1.length = cells + h'.1.length → slots' + ksum h.1 = slots + ksum h'.1 → W p l e' R s m args below meth c H' locs' cells' slots' Q (F0 m pc' LS' (st'.map (cv z sv)))) : W p l e' R s m args below meth c H locs cells slots Q (F0 m pc LS (st.map (cv z sv))) := by
  obtain ⟨hx, hb, hml, hown, hts, hnm, hK, hSp, hz⟩ := C
  unfold okE at hl
  simp only [Bool.and_eq_true, Bool.or_eq_true, decide_eq_true_eq] at hl
  obtain ⟨⟨hd, hsw⟩, hX⟩ := hl
  have hnp : np = pc + 1 := Nat.eq_of_beq_eq_true (hsw.resolve_left (fun q => Bool.noConfusion q))
  subst hnp
  have hd : decode (mB k) pc = .ok (.dup2, 1) := by
    have hd2 := hd
    rwa [Nat.add_sub_cancel_left] at hd2
  dsimp only [stp] at hs
  split at hs
  · cases hs
    exact lv_dup2_11 hx hb hd rfl rfl (kk _ _ _ _ _ hL hW hS rfl rfl)
  · cases hs
set_option maxHeartbeats 4000000 in
theorem st_pop (C : Cx p s m args meth c k z X sv ca D) { np a b c0 : Nat} {v : Int32} {pc pc' : Nat} {ls ls' : List (Option Value)} {st st' : List Value} {h h' : Hp} (hl : okE k pc (.pop, np, a, b, c0, v) = true) (hs : stp X (.pop, np, a, b, c0, v) ls st h = some (pc', ls', st', h'))
    (hL : lvR z sv LS (mL k) ls) (hW : Wd z ca D H h) (hS : va_S (zA z) s.heap H locs) (hc : cells + h'.1.length ≤ R.cells + h.1.length) (hsl : slots + ksum h'.1 ≤ R.slots + ksum h.1) (hfr : 1 ≤ R.frames) (hlo : 60 ≤ R.locals)
    (kk : ∀ (LS' : Array Slot) (H' : Heap) (locs' : List Loc) (cells' slots' : Nat), lvR z sv LS' (mL k) ls' → Wd z ca D H' h' → va_S (zA z) s.heap H' locs' → cells' + h.1.length = cells + h'.1.length → slots' + ksum h.1 = slots + ksum h'.1 → W p l e' R s m args below meth c H' locs' cells' slots' Q (F0 m pc' LS' (st'.map (cv z sv)))) : W p l e' R s m args below meth c H locs cells slots Q (F0 m pc LS (st.map (cv z sv))) := by
  obtain ⟨hx, hb, hml, hown, hts, hnm, hK, hSp, hz⟩ := C
  unfold okE at hl
  simp only [Bool.and_eq_true, Bool.or_eq_true, decide_eq_true_eq] at hl
  obtain ⟨⟨hd, hsw⟩, hX⟩ := hl
  have hnp : np = pc + 1 := Nat.eq_of_beq_eq_true (hsw.resolve_left (fun q => Bool.noConfusion q))
  subst hnp
  have hd : decode (mB k) pc = .ok (.pop, 1) := by
    have hd2 := hd
    rwa [Nat.add_sub_cancel_left] at hd2
  dsimp only [stp] at hs
  split at hs
  · cases hs
    exact lv_pop hx hb hd rfl (kk _ _ _ _ _ hL hW hS rfl rfl)
  · cases hs
set_option maxHeartbeats 4000000 in
theorem st_goto (C : Cx p s m args meth c k z X sv ca D) {off : Int} { np a b c0 : Nat} {v : Int32} {pc pc' : Nat} {ls ls' : List (Option Value)} {st st' : List Value} {h h' : Hp} (hl : okE k pc (.goto off, np, a, b, c0, v) = true) (hs : stp X (.goto off, np, a, b, c0, v) ls st h = some (pc', ls', st', h'))
    (hL : lvR z sv LS (mL k) ls) (hW : Wd z ca D H h) (hS : va_S (zA z) s.heap H locs) (hc : cells + h'.1.length ≤ R.cells + h.1.length) (hsl : slots + ksum h'.1 ≤ R.slots + ksum h.1) (hfr : 1 ≤ R.frames) (hlo : 60 ≤ R.locals)
    (kk : ∀ (LS' : Array Slot) (H' : Heap) (locs' : List Loc) (cells' slots' : Nat), lvR z sv LS' (mL k) ls' → Wd z ca D H' h' → va_S (zA z) s.heap H' locs' → cells' + h.1.length = cells + h'.1.length → slots' + ksum h.1 = slots + ksum h'.1 → W p l e' R s m args below meth c H' locs' cells' slots' Q (F0 m pc' LS' (st'.map (cv z sv)))) : W p l e' R s m args below meth c H locs cells slots Q (F0 m pc LS (st.map (cv z sv))) := by
  obtain ⟨hx, hb, hml, hown, hts, hnm, hK, hSp, hz⟩ := C
  unfold okE at hl
  simp only [Bool.and_eq_true, Bool.or_eq_true, decide_eq_true_eq] at hl
  obtain ⟨⟨hd, hsw⟩, hX⟩ := hl
  have hnp : np = pc + 3 := Nat.eq_of_beq_eq_true (hsw.resolve_left (fun q => Bool.noConfusion q))
  subst hnp
  have hd : decode (mB k) pc = .ok (.goto off, 3) := by
    have hd2 := hd
    rwa [Nat.add_sub_cancel_left] at hd2
  cases hs
  exact lv_goto hx hb hd (of_decide_eq_true hX) (kk _ _ _ _ _ hL hW hS rfl rfl)
set_option maxHeartbeats 4000000 in
theorem st_ifCond_eq (C : Cx p s m args meth c k z X sv ca D) {off : Int} { np a b c0 : Nat} {v : Int32} {pc pc' : Nat} {ls ls' : List (Option Value)} {st st' : List Value} {h h' : Hp} (hl : okE k pc (.ifCond .eq off, np, a, b, c0, v) = true) (hs : stp X (.ifCond .eq off, np, a, b, c0, v) ls st h = some (pc', ls', st', h'))
    (hL : lvR z sv LS (mL k) ls) (hW : Wd z ca D H h) (hS : va_S (zA z) s.heap H locs) (hc : cells + h'.1.length ≤ R.cells + h.1.length) (hsl : slots + ksum h'.1 ≤ R.slots + ksum h.1) (hfr : 1 ≤ R.frames) (hlo : 60 ≤ R.locals)
    (kk : ∀ (LS' : Array Slot) (H' : Heap) (locs' : List Loc) (cells' slots' : Nat), lvR z sv LS' (mL k) ls' → Wd z ca D H' h' → va_S (zA z) s.heap H' locs' → cells' + h.1.length = cells + h'.1.length → slots' + ksum h.1 = slots + ksum h'.1 → W p l e' R s m args below meth c H' locs' cells' slots' Q (F0 m pc' LS' (st'.map (cv z sv)))) : W p l e' R s m args below meth c H locs cells slots Q (F0 m pc LS (st.map (cv z sv))) := by
  obtain ⟨hx, hb, hml, hown, hts, hnm, hK, hSp, hz⟩ := C
  unfold okE at hl
  simp only [Bool.and_eq_true, Bool.or_eq_true, decide_eq_true_eq] at hl
  obtain ⟨⟨hd, hsw⟩, hX⟩ := hl
  have hnp : np = pc + 3 := Nat.eq_of_beq_eq_true (hsw.resolve_left (fun q => Bool.noConfusion q))
  subst hnp
  have hd : decode (mB k) pc = .ok (.ifCond .eq off, 3) := by
    have hd2 := hd
    rwa [Nat.add_sub_cancel_left] at hd2
  dsimp only [stp, cb] at hs
  split at hs
  · cases hs
    refine lv_if_eq hx hb hd (of_decide_eq_true hX) (fun q => ?_) (fun q => ?_)
    · have hgo := kk _ _ _ _ _ hL hW hS rfl rfl
      rwa [decide_eq_true q, cond_true] at hgo
    · have hgo := kk _ _ _ _ _ hL hW hS rfl rfl
      rwa [decide_eq_false q, cond_false] at hgo
  · cases hs
set_option maxHeartbeats 4000000 in
theorem st_if_icmp_eq (C : Cx p s m args meth c k z X sv ca D) {off : Int} { np a b c0 : Nat} {v : Int32} {pc pc' : Nat} {ls ls' : List (Option Value)} {st st' : List Value} {h h' : Hp} (hl : okE k pc (.if_icmp .eq off, np, a, b, c0, v) = true) (hs : stp X (.if_icmp .eq off, np, a, b, c0, v) ls st h = some (pc', ls', st', h'))
    (hL : lvR z sv LS (mL k) ls) (hW : Wd z ca D H h) (hS : va_S (zA z) s.heap H locs) (hc : cells + h'.1.length ≤ R.cells + h.1.length) (hsl : slots + ksum h'.1 ≤ R.slots + ksum h.1) (hfr : 1 ≤ R.frames) (hlo : 60 ≤ R.locals)
    (kk : ∀ (LS' : Array Slot) (H' : Heap) (locs' : List Loc) (cells' slots' : Nat), lvR z sv LS' (mL k) ls' → Wd z ca D H' h' → va_S (zA z) s.heap H' locs' → cells' + h.1.length = cells + h'.1.length → slots' + ksum h.1 = slots + ksum h'.1 → W p l e' R s m args below meth c H' locs' cells' slots' Q (F0 m pc' LS' (st'.map (cv z sv)))) : W p l e' R s m args below meth c H locs cells slots Q (F0 m pc LS (st.map (cv z sv))) := by
  obtain ⟨hx, hb, hml, hown, hts, hnm, hK, hSp, hz⟩ := C
  unfold okE at hl
  simp only [Bool.and_eq_true, Bool.or_eq_true, decide_eq_true_eq] at hl
  obtain ⟨⟨hd, hsw⟩, hX⟩ := hl
  have hnp : np = pc + 3 := Nat.eq_of_beq_eq_true (hsw.resolve_left (fun q => Bool.noConfusion q))
  subst hnp
  have hd : decode (mB k) pc = .ok (.if_icmp .eq off, 3) := by
    have hd2 := hd
    rwa [Nat.add_sub_cancel_left] at hd2
  dsimp only [stp, cb] at hs
  split at hs
  · cases hs
    refine lv_icmp_eq hx hb hd (of_decide_eq_true hX) (fun q => ?_) (fun q => ?_)
    · have hgo := kk _ _ _ _ _ hL hW hS rfl rfl
      rwa [decide_eq_true q, cond_true] at hgo
    · have hgo := kk _ _ _ _ _ hL hW hS rfl rfl
      rwa [decide_eq_false q, cond_false] at hgo
  · cases hs
set_option maxHeartbeats 4000000 in
theorem st_ifCond_ne (C : Cx p s m args meth c k z X sv ca D) {off : Int} { np a b c0 : Nat} {v : Int32} {pc pc' : Nat} {ls ls' : List (Option Value)} {st st' : List Value} {h h' : Hp} (hl : okE k pc (.ifCond .ne off, np, a, b, c0, v) = true) (hs : stp X (.ifCond .ne off, np, a, b, c0, v) ls st h = some (pc', ls', st', h'))
    (hL : lvR z sv LS (mL k) ls) (hW : Wd z ca D H h) (hS : va_S (zA z) s.heap H locs) (hc : cells + h'.1.length ≤ R.cells + h.1.length) (hsl : slots + ksum h'.1 ≤ R.slots + ksum h.1) (hfr : 1 ≤ R.frames) (hlo : 60 ≤ R.locals)
    (kk : ∀ (LS' : Array Slot) (H' : Heap) (locs' : List Loc) (cells' slots' : Nat), lvR z sv LS' (mL k) ls' → Wd z ca D H' h' → va_S (zA z) s.heap H' locs' → cells' + h.1.length = cells + h'.1.length → slots' + ksum h.1 = slots + ksum h'.1 → W p l e' R s m args below meth c H' locs' cells' slots' Q (F0 m pc' LS' (st'.map (cv z sv)))) : W p l e' R s m args below meth c H locs cells slots Q (F0 m pc LS (st.map (cv z sv))) := by
  obtain ⟨hx, hb, hml, hown, hts, hnm, hK, hSp, hz⟩ := C
  unfold okE at hl
  simp only [Bool.and_eq_true, Bool.or_eq_true, decide_eq_true_eq] at hl
  obtain ⟨⟨hd, hsw⟩, hX⟩ := hl
  have hnp : np = pc + 3 := Nat.eq_of_beq_eq_true (hsw.resolve_left (fun q => Bool.noConfusion q))
  subst hnp
  have hd : decode (mB k) pc = .ok (.ifCond .ne off, 3) := by
    have hd2 := hd
    rwa [Nat.add_sub_cancel_left] at hd2
  dsimp only [stp, cb] at hs
  split at hs
  · cases hs
    refine lv_if_ne hx hb hd (of_decide_eq_true hX) (fun q => ?_) (fun q => ?_)
    · have hgo := kk _ _ _ _ _ hL hW hS rfl rfl
      rwa [decide_eq_true q, cond_true] at hgo
    · have hgo := kk _ _ _ _ _ hL hW hS rfl rfl
      rwa [decide_eq_false (fun h => h q), cond_false] at hgo
  · cases hs
set_option maxHeartbeats 4000000 in
theorem st_if_icmp_ne (C : Cx p s m args meth c k z X sv ca D) {off : Int} { np a b c0 : Nat} {v : Int32} {pc pc' : Nat} {ls ls' : List (Option Value)} {st st' : List Value} {h h' : Hp} (hl : okE k pc (.if_icmp .ne off, np, a, b, c0, v) = true) (hs : stp X (.if_icmp .ne off, np, a, b, c0, v) ls st h = some (pc', ls', st', h'))
    (hL : lvR z sv LS (mL k) ls) (hW : Wd z ca D H h) (hS : va_S (zA z) s.heap H locs) (hc : cells + h'.1.length ≤ R.cells + h.1.length) (hsl : slots + ksum h'.1 ≤ R.slots + ksum h.1) (hfr : 1 ≤ R.frames) (hlo : 60 ≤ R.locals)
    (kk : ∀ (LS' : Array Slot) (H' : Heap) (locs' : List Loc) (cells' slots' : Nat), lvR z sv LS' (mL k) ls' → Wd z ca D H' h' → va_S (zA z) s.heap H' locs' → cells' + h.1.length = cells + h'.1.length → slots' + ksum h.1 = slots + ksum h'.1 → W p l e' R s m args below meth c H' locs' cells' slots' Q (F0 m pc' LS' (st'.map (cv z sv)))) : W p l e' R s m args below meth c H locs cells slots Q (F0 m pc LS (st.map (cv z sv))) := by
  obtain ⟨hx, hb, hml, hown, hts, hnm, hK, hSp, hz⟩ := C
  unfold okE at hl
  simp only [Bool.and_eq_true, Bool.or_eq_true, decide_eq_true_eq] at hl
  obtain ⟨⟨hd, hsw⟩, hX⟩ := hl
  have hnp : np = pc + 3 := Nat.eq_of_beq_eq_true (hsw.resolve_left (fun q => Bool.noConfusion q))
  subst hnp
  have hd : decode (mB k) pc = .ok (.if_icmp .ne off, 3) := by
    have hd2 := hd
    rwa [Nat.add_sub_cancel_left] at hd2
  dsimp only [stp, cb] at hs
  split at hs
  · cases hs
    refine lv_icmp_ne hx hb hd (of_decide_eq_true hX) (fun q => ?_) (fun q => ?_)
    · have hgo := kk _ _ _ _ _ hL hW hS rfl rfl
      rwa [decide_eq_true q, cond_true] at hgo
    · have hgo := kk _ _ _ _ _ hL hW hS rfl rfl
      rwa [decide_eq_false (fun h => h q), cond_false] at hgo
  · cases hs
set_option maxHeartbeats 4000000 in
theorem st_ifCond_lt (C : Cx p s m args meth c k z X sv ca D) {off : Int} { np a b c0 : Nat} {v : Int32} {pc pc' : Nat} {ls ls' : List (Option Value)} {st st' : List Value} {h h' : Hp} (hl : okE k pc (.ifCond .lt off, np, a, b, c0, v) = true) (hs : stp X (.ifCond .lt off, np, a, b, c0, v) ls st h = some (pc', ls', st', h'))
    (hL : lvR z sv LS (mL k) ls) (hW : Wd z ca D H h) (hS : va_S (zA z) s.heap H locs) (hc : cells + h'.1.length ≤ R.cells + h.1.length) (hsl : slots + ksum h'.1 ≤ R.slots + ksum h.1) (hfr : 1 ≤ R.frames) (hlo : 60 ≤ R.locals)
    (kk : ∀ (LS' : Array Slot) (H' : Heap) (locs' : List Loc) (cells' slots' : Nat), lvR z sv LS' (mL k) ls' → Wd z ca D H' h' → va_S (zA z) s.heap H' locs' → cells' + h.1.length = cells + h'.1.length → slots' + ksum h.1 = slots + ksum h'.1 → W p l e' R s m args below meth c H' locs' cells' slots' Q (F0 m pc' LS' (st'.map (cv z sv)))) : W p l e' R s m args below meth c H locs cells slots Q (F0 m pc LS (st.map (cv z sv))) := by
  obtain ⟨hx, hb, hml, hown, hts, hnm, hK, hSp, hz⟩ := C
  unfold okE at hl
  simp only [Bool.and_eq_true, Bool.or_eq_true, decide_eq_true_eq] at hl
  obtain ⟨⟨hd, hsw⟩, hX⟩ := hl
  have hnp : np = pc + 3 := Nat.eq_of_beq_eq_true (hsw.resolve_left (fun q => Bool.noConfusion q))
  subst hnp
  have hd : decode (mB k) pc = .ok (.ifCond .lt off, 3) := by
    have hd2 := hd
    rwa [Nat.add_sub_cancel_left] at hd2
  dsimp only [stp, cb] at hs
  split at hs
  · cases hs
    refine lv_if_lt hx hb hd (of_decide_eq_true hX) (fun q => ?_) (fun q => ?_)
    · have hgo := kk _ _ _ _ _ hL hW hS rfl rfl
      rwa [decide_eq_true q, cond_true] at hgo
    · have hgo := kk _ _ _ _ _ hL hW hS rfl rfl
      rwa [decide_eq_false q, cond_false] at hgo
  · cases hs
set_option maxHeartbeats 4000000 in
theorem st_if_icmp_lt (C : Cx p s m args meth c k z X sv ca D) {off : Int} { np a b c0 : Nat} {v : Int32} {pc pc' : Nat} {ls ls' : List (Option Value)} {st st' : List Value} {h h' : Hp} (hl : okE k pc (.if_icmp .lt off, np, a, b, c0, v) = true) (hs : stp X (.if_icmp .lt off, np, a, b, c0, v) ls st h = some (pc', ls', st', h'))
    (hL : lvR z sv LS (mL k) ls) (hW : Wd z ca D H h) (hS : va_S (zA z) s.heap H locs) (hc : cells + h'.1.length ≤ R.cells + h.1.length) (hsl : slots + ksum h'.1 ≤ R.slots + ksum h.1) (hfr : 1 ≤ R.frames) (hlo : 60 ≤ R.locals)
    (kk : ∀ (LS' : Array Slot) (H' : Heap) (locs' : List Loc) (cells' slots' : Nat), lvR z sv LS' (mL k) ls' → Wd z ca D H' h' → va_S (zA z) s.heap H' locs' → cells' + h.1.length = cells + h'.1.length → slots' + ksum h.1 = slots + ksum h'.1 → W p l e' R s m args below meth c H' locs' cells' slots' Q (F0 m pc' LS' (st'.map (cv z sv)))) : W p l e' R s m args below meth c H locs cells slots Q (F0 m pc LS (st.map (cv z sv))) := by
  obtain ⟨hx, hb, hml, hown, hts, hnm, hK, hSp, hz⟩ := C
  unfold okE at hl
  simp only [Bool.and_eq_true, Bool.or_eq_true, decide_eq_true_eq] at hl
  obtain ⟨⟨hd, hsw⟩, hX⟩ := hl
  have hnp : np = pc + 3 := Nat.eq_of_beq_eq_true (hsw.resolve_left (fun q => Bool.noConfusion q))
  subst hnp
  have hd : decode (mB k) pc = .ok (.if_icmp .lt off, 3) := by
    have hd2 := hd
    rwa [Nat.add_sub_cancel_left] at hd2
  dsimp only [stp, cb] at hs
  split at hs
  · cases hs
    refine lv_icmp_lt hx hb hd (of_decide_eq_true hX) (fun q => ?_) (fun q => ?_)
    · have hgo := kk _ _ _ _ _ hL hW hS rfl rfl
      rwa [decide_eq_true q, cond_true] at hgo
    · have hgo := kk _ _ _ _ _ hL hW hS rfl rfl
      rwa [decide_eq_false q, cond_false] at hgo
  · cases hs
set_option maxHeartbeats 4000000 in
theorem st_ifCond_ge (C : Cx p s m args meth c k z X sv ca D) {off : Int} { np a b c0 : Nat} {v : Int32} {pc pc' : Nat} {ls ls' : List (Option Value)} {st st' : List Value} {h h' : Hp} (hl : okE k pc (.ifCond .ge off, np, a, b, c0, v) = true) (hs : stp X (.ifCond .ge off, np, a, b, c0, v) ls st h = some (pc', ls', st', h'))
    (hL : lvR z sv LS (mL k) ls) (hW : Wd z ca D H h) (hS : va_S (zA z) s.heap H locs) (hc : cells + h'.1.length ≤ R.cells + h.1.length) (hsl : slots + ksum h'.1 ≤ R.slots + ksum h.1) (hfr : 1 ≤ R.frames) (hlo : 60 ≤ R.locals)
    (kk : ∀ (LS' : Array Slot) (H' : Heap) (locs' : List Loc) (cells' slots' : Nat), lvR z sv LS' (mL k) ls' → Wd z ca D H' h' → va_S (zA z) s.heap H' locs' → cells' + h.1.length = cells + h'.1.length → slots' + ksum h.1 = slots + ksum h'.1 → W p l e' R s m args below meth c H' locs' cells' slots' Q (F0 m pc' LS' (st'.map (cv z sv)))) : W p l e' R s m args below meth c H locs cells slots Q (F0 m pc LS (st.map (cv z sv))) := by
  obtain ⟨hx, hb, hml, hown, hts, hnm, hK, hSp, hz⟩ := C
  unfold okE at hl
  simp only [Bool.and_eq_true, Bool.or_eq_true, decide_eq_true_eq] at hl
  obtain ⟨⟨hd, hsw⟩, hX⟩ := hl
  have hnp : np = pc + 3 := Nat.eq_of_beq_eq_true (hsw.resolve_left (fun q => Bool.noConfusion q))
  subst hnp
  have hd : decode (mB k) pc = .ok (.ifCond .ge off, 3) := by
    have hd2 := hd
    rwa [Nat.add_sub_cancel_left] at hd2
  dsimp only [stp, cb] at hs
  split at hs
  · cases hs
    refine lv_if_ge hx hb hd (of_decide_eq_true hX) (fun q => ?_) (fun q => ?_)
    · have hgo := kk _ _ _ _ _ hL hW hS rfl rfl
      rwa [decide_eq_true q, cond_true] at hgo
    · have hgo := kk _ _ _ _ _ hL hW hS rfl rfl
      rwa [decide_eq_false q, cond_false] at hgo
  · cases hs
set_option maxHeartbeats 4000000 in
theorem st_if_icmp_ge (C : Cx p s m args meth c k z X sv ca D) {off : Int} { np a b c0 : Nat} {v : Int32} {pc pc' : Nat} {ls ls' : List (Option Value)} {st st' : List Value} {h h' : Hp} (hl : okE k pc (.if_icmp .ge off, np, a, b, c0, v) = true) (hs : stp X (.if_icmp .ge off, np, a, b, c0, v) ls st h = some (pc', ls', st', h'))
    (hL : lvR z sv LS (mL k) ls) (hW : Wd z ca D H h) (hS : va_S (zA z) s.heap H locs) (hc : cells + h'.1.length ≤ R.cells + h.1.length) (hsl : slots + ksum h'.1 ≤ R.slots + ksum h.1) (hfr : 1 ≤ R.frames) (hlo : 60 ≤ R.locals)
    (kk : ∀ (LS' : Array Slot) (H' : Heap) (locs' : List Loc) (cells' slots' : Nat), lvR z sv LS' (mL k) ls' → Wd z ca D H' h' → va_S (zA z) s.heap H' locs' → cells' + h.1.length = cells + h'.1.length → slots' + ksum h.1 = slots + ksum h'.1 → W p l e' R s m args below meth c H' locs' cells' slots' Q (F0 m pc' LS' (st'.map (cv z sv)))) : W p l e' R s m args below meth c H locs cells slots Q (F0 m pc LS (st.map (cv z sv))) := by
  obtain ⟨hx, hb, hml, hown, hts, hnm, hK, hSp, hz⟩ := C
  unfold okE at hl
  simp only [Bool.and_eq_true, Bool.or_eq_true, decide_eq_true_eq] at hl
  obtain ⟨⟨hd, hsw⟩, hX⟩ := hl
  have hnp : np = pc + 3 := Nat.eq_of_beq_eq_true (hsw.resolve_left (fun q => Bool.noConfusion q))
  subst hnp
  have hd : decode (mB k) pc = .ok (.if_icmp .ge off, 3) := by
    have hd2 := hd
    rwa [Nat.add_sub_cancel_left] at hd2
  dsimp only [stp, cb] at hs
  split at hs
  · cases hs
    refine lv_icmp_ge hx hb hd (of_decide_eq_true hX) (fun q => ?_) (fun q => ?_)
    · have hgo := kk _ _ _ _ _ hL hW hS rfl rfl
      rwa [decide_eq_true q, cond_true] at hgo
    · have hgo := kk _ _ _ _ _ hL hW hS rfl rfl
      rwa [decide_eq_false q, cond_false] at hgo
  · cases hs
set_option maxHeartbeats 4000000 in
theorem st_ifCond_gt (C : Cx p s m args meth c k z X sv ca D) {off : Int} { np a b c0 : Nat} {v : Int32} {pc pc' : Nat} {ls ls' : List (Option Value)} {st st' : List Value} {h h' : Hp} (hl : okE k pc (.ifCond .gt off, np, a, b, c0, v) = true) (hs : stp X (.ifCond .gt off, np, a, b, c0, v) ls st h = some (pc', ls', st', h'))
    (hL : lvR z sv LS (mL k) ls) (hW : Wd z ca D H h) (hS : va_S (zA z) s.heap H locs) (hc : cells + h'.1.length ≤ R.cells + h.1.length) (hsl : slots + ksum h'.1 ≤ R.slots + ksum h.1) (hfr : 1 ≤ R.frames) (hlo : 60 ≤ R.locals)
    (kk : ∀ (LS' : Array Slot) (H' : Heap) (locs' : List Loc) (cells' slots' : Nat), lvR z sv LS' (mL k) ls' → Wd z ca D H' h' → va_S (zA z) s.heap H' locs' → cells' + h.1.length = cells + h'.1.length → slots' + ksum h.1 = slots + ksum h'.1 → W p l e' R s m args below meth c H' locs' cells' slots' Q (F0 m pc' LS' (st'.map (cv z sv)))) : W p l e' R s m args below meth c H locs cells slots Q (F0 m pc LS (st.map (cv z sv))) := by
  obtain ⟨hx, hb, hml, hown, hts, hnm, hK, hSp, hz⟩ := C
  unfold okE at hl
  simp only [Bool.and_eq_true, Bool.or_eq_true, decide_eq_true_eq] at hl
  obtain ⟨⟨hd, hsw⟩, hX⟩ := hl
  have hnp : np = pc + 3 := Nat.eq_of_beq_eq_true (hsw.resolve_left (fun q => Bool.noConfusion q))
  subst hnp
  have hd : decode (mB k) pc = .ok (.ifCond .gt off, 3) := by
    have hd2 := hd
    rwa [Nat.add_sub_cancel_left] at hd2
  dsimp only [stp, cb] at hs
  split at hs
  · cases hs
    refine lv_if_gt hx hb hd (of_decide_eq_true hX) (fun q => ?_) (fun q => ?_)
    · have hgo := kk _ _ _ _ _ hL hW hS rfl rfl
      rwa [decide_eq_true q, cond_true] at hgo
    · have hgo := kk _ _ _ _ _ hL hW hS rfl rfl
      rwa [decide_eq_false q, cond_false] at hgo
  · cases hs
set_option maxHeartbeats 4000000 in
theorem st_if_icmp_gt (C : Cx p s m args meth c k z X sv ca D) {off : Int} { np a b c0 : Nat} {v : Int32} {pc pc' : Nat} {ls ls' : List (Option Value)} {st st' : List Value} {h h' : Hp} (hl : okE k pc (.if_icmp .gt off, np, a, b, c0, v) = true) (hs : stp X (.if_icmp .gt off, np, a, b, c0, v) ls st h = some (pc', ls', st', h'))
    (hL : lvR z sv LS (mL k) ls) (hW : Wd z ca D H h) (hS : va_S (zA z) s.heap H locs) (hc : cells + h'.1.length ≤ R.cells + h.1.length) (hsl : slots + ksum h'.1 ≤ R.slots + ksum h.1) (hfr : 1 ≤ R.frames) (hlo : 60 ≤ R.locals)
    (kk : ∀ (LS' : Array Slot) (H' : Heap) (locs' : List Loc) (cells' slots' : Nat), lvR z sv LS' (mL k) ls' → Wd z ca D H' h' → va_S (zA z) s.heap H' locs' → cells' + h.1.length = cells + h'.1.length → slots' + ksum h.1 = slots + ksum h'.1 → W p l e' R s m args below meth c H' locs' cells' slots' Q (F0 m pc' LS' (st'.map (cv z sv)))) : W p l e' R s m args below meth c H locs cells slots Q (F0 m pc LS (st.map (cv z sv))) := by
  obtain ⟨hx, hb, hml, hown, hts, hnm, hK, hSp, hz⟩ := C
  unfold okE at hl
  simp only [Bool.and_eq_true, Bool.or_eq_true, decide_eq_true_eq] at hl
  obtain ⟨⟨hd, hsw⟩, hX⟩ := hl
  have hnp : np = pc + 3 := Nat.eq_of_beq_eq_true (hsw.resolve_left (fun q => Bool.noConfusion q))
  subst hnp
  have hd : decode (mB k) pc = .ok (.if_icmp .gt off, 3) := by
    have hd2 := hd
    rwa [Nat.add_sub_cancel_left] at hd2
  dsimp only [stp, cb] at hs
  split at hs
  · cases hs
    refine lv_icmp_gt hx hb hd (of_decide_eq_true hX) (fun q => ?_) (fun q => ?_)
    · have hgo := kk _ _ _ _ _ hL hW hS rfl rfl
      rwa [decide_eq_true q, cond_true] at hgo
    · have hgo := kk _ _ _ _ _ hL hW hS rfl rfl
      rwa [decide_eq_false q, cond_false] at hgo
  · cases hs
set_option maxHeartbeats 4000000 in
theorem st_ifCond_le (C : Cx p s m args meth c k z X sv ca D) {off : Int} { np a b c0 : Nat} {v : Int32} {pc pc' : Nat} {ls ls' : List (Option Value)} {st st' : List Value} {h h' : Hp} (hl : okE k pc (.ifCond .le off, np, a, b, c0, v) = true) (hs : stp X (.ifCond .le off, np, a, b, c0, v) ls st h = some (pc', ls', st', h'))
    (hL : lvR z sv LS (mL k) ls) (hW : Wd z ca D H h) (hS : va_S (zA z) s.heap H locs) (hc : cells + h'.1.length ≤ R.cells + h.1.length) (hsl : slots + ksum h'.1 ≤ R.slots + ksum h.1) (hfr : 1 ≤ R.frames) (hlo : 60 ≤ R.locals)
    (kk : ∀ (LS' : Array Slot) (H' : Heap) (locs' : List Loc) (cells' slots' : Nat), lvR z sv LS' (mL k) ls' → Wd z ca D H' h' → va_S (zA z) s.heap H' locs' → cells' + h.1.length = cells + h'.1.length → slots' + ksum h.1 = slots + ksum h'.1 → W p l e' R s m args below meth c H' locs' cells' slots' Q (F0 m pc' LS' (st'.map (cv z sv)))) : W p l e' R s m args below meth c H locs cells slots Q (F0 m pc LS (st.map (cv z sv))) := by
  obtain ⟨hx, hb, hml, hown, hts, hnm, hK, hSp, hz⟩ := C
  unfold okE at hl
  simp only [Bool.and_eq_true, Bool.or_eq_true, decide_eq_true_eq] at hl
  obtain ⟨⟨hd, hsw⟩, hX⟩ := hl
  have hnp : np = pc + 3 := Nat.eq_of_beq_eq_true (hsw.resolve_left (fun q => Bool.noConfusion q))
  subst hnp
  have hd : decode (mB k) pc = .ok (.ifCond .le off, 3) := by
    have hd2 := hd
    rwa [Nat.add_sub_cancel_left] at hd2
  dsimp only [stp, cb] at hs
  split at hs
  · cases hs
    refine lv_if_le hx hb hd (of_decide_eq_true hX) (fun q => ?_) (fun q => ?_)
    · have hgo := kk _ _ _ _ _ hL hW hS rfl rfl
      rwa [decide_eq_true q, cond_true] at hgo
    · have hgo := kk _ _ _ _ _ hL hW hS rfl rfl
      rwa [decide_eq_false q, cond_false] at hgo
  · cases hs
set_option maxHeartbeats 4000000 in
theorem st_if_icmp_le (C : Cx p s m args meth c k z X sv ca D) {off : Int} { np a b c0 : Nat} {v : Int32} {pc pc' : Nat} {ls ls' : List (Option Value)} {st st' : List Value} {h h' : Hp} (hl : okE k pc (.if_icmp .le off, np, a, b, c0, v) = true) (hs : stp X (.if_icmp .le off, np, a, b, c0, v) ls st h = some (pc', ls', st', h'))
    (hL : lvR z sv LS (mL k) ls) (hW : Wd z ca D H h) (hS : va_S (zA z) s.heap H locs) (hc : cells + h'.1.length ≤ R.cells + h.1.length) (hsl : slots + ksum h'.1 ≤ R.slots + ksum h.1) (hfr : 1 ≤ R.frames) (hlo : 60 ≤ R.locals)
    (kk : ∀ (LS' : Array Slot) (H' : Heap) (locs' : List Loc) (cells' slots' : Nat), lvR z sv LS' (mL k) ls' → Wd z ca D H' h' → va_S (zA z) s.heap H' locs' → cells' + h.1.length = cells + h'.1.length → slots' + ksum h.1 = slots + ksum h'.1 → W p l e' R s m args below meth c H' locs' cells' slots' Q (F0 m pc' LS' (st'.map (cv z sv)))) : W p l e' R s m args below meth c H locs cells slots Q (F0 m pc LS (st.map (cv z sv))) := by
  obtain ⟨hx, hb, hml, hown, hts, hnm, hK, hSp, hz⟩ := C
  unfold okE at hl
  simp only [Bool.and_eq_true, Bool.or_eq_true, decide_eq_true_eq] at hl
  obtain ⟨⟨hd, hsw⟩, hX⟩ := hl
  have hnp : np = pc + 3 := Nat.eq_of_beq_eq_true (hsw.resolve_left (fun q => Bool.noConfusion q))
  subst hnp
  have hd : decode (mB k) pc = .ok (.if_icmp .le off, 3) := by
    have hd2 := hd
    rwa [Nat.add_sub_cancel_left] at hd2
  dsimp only [stp, cb] at hs
  split at hs
  · cases hs
    refine lv_icmp_le hx hb hd (of_decide_eq_true hX) (fun q => ?_) (fun q => ?_)
    · have hgo := kk _ _ _ _ _ hL hW hS rfl rfl
      rwa [decide_eq_true q, cond_true] at hgo
    · have hgo := kk _ _ _ _ _ hL hW hS rfl rfl
      rwa [decide_eq_false q, cond_false] at hgo
  · cases hs
set_option maxHeartbeats 4000000 in
theorem st_ifnonnull (C : Cx p s m args meth c k z X sv ca D) {off : Int} { np a b c0 : Nat} {v : Int32} {pc pc' : Nat} {ls ls' : List (Option Value)} {st st' : List Value} {h h' : Hp} (hl : okE k pc (.ifnonnull off, np, a, b, c0, v) = true) (hs : stp X (.ifnonnull off, np, a, b, c0, v) ls st h = some (pc', ls', st', h'))
    (hL : lvR z sv LS (mL k) ls) (hW : Wd z ca D H h) (hS : va_S (zA z) s.heap H locs) (hc : cells + h'.1.length ≤ R.cells + h.1.length) (hsl : slots + ksum h'.1 ≤ R.slots + ksum h.1) (hfr : 1 ≤ R.frames) (hlo : 60 ≤ R.locals)
    (kk : ∀ (LS' : Array Slot) (H' : Heap) (locs' : List Loc) (cells' slots' : Nat), lvR z sv LS' (mL k) ls' → Wd z ca D H' h' → va_S (zA z) s.heap H' locs' → cells' + h.1.length = cells + h'.1.length → slots' + ksum h.1 = slots + ksum h'.1 → W p l e' R s m args below meth c H' locs' cells' slots' Q (F0 m pc' LS' (st'.map (cv z sv)))) : W p l e' R s m args below meth c H locs cells slots Q (F0 m pc LS (st.map (cv z sv))) := by
  obtain ⟨hx, hb, hml, hown, hts, hnm, hK, hSp, hz⟩ := C
  unfold okE at hl
  simp only [Bool.and_eq_true, Bool.or_eq_true, decide_eq_true_eq] at hl
  obtain ⟨⟨hd, hsw⟩, hX⟩ := hl
  have hnp : np = pc + 3 := Nat.eq_of_beq_eq_true (hsw.resolve_left (fun q => Bool.noConfusion q))
  subst hnp
  have hd : decode (mB k) pc = .ok (.ifnonnull off, 3) := by
    have hd2 := hd
    rwa [Nat.add_sub_cancel_left] at hd2
  dsimp only [stp] at hs
  split at hs
  · cases hs
    exact lv_ifnonnull hx hb hd (of_decide_eq_true hX) (kk _ _ _ _ _ hL hW hS rfl rfl)
  · cases hs
    exact lv_ifnonnullN hx hb hd (kk _ _ _ _ _ hL hW hS rfl rfl)
  · cases hs
set_option maxHeartbeats 4000000 in
theorem st_ifnull (C : Cx p s m args meth c k z X sv ca D) {off : Int} { np a b c0 : Nat} {v : Int32} {pc pc' : Nat} {ls ls' : List (Option Value)} {st st' : List Value} {h h' : Hp} (hl : okE k pc (.ifnull off, np, a, b, c0, v) = true) (hs : stp X (.ifnull off, np, a, b, c0, v) ls st h = some (pc', ls', st', h'))
    (hL : lvR z sv LS (mL k) ls) (hW : Wd z ca D H h) (hS : va_S (zA z) s.heap H locs) (hc : cells + h'.1.length ≤ R.cells + h.1.length) (hsl : slots + ksum h'.1 ≤ R.slots + ksum h.1) (hfr : 1 ≤ R.frames) (hlo : 60 ≤ R.locals)
    (kk : ∀ (LS' : Array Slot) (H' : Heap) (locs' : List Loc) (cells' slots' : Nat), lvR z sv LS' (mL k) ls' → Wd z ca D H' h' → va_S (zA z) s.heap H' locs' → cells' + h.1.length = cells + h'.1.length → slots' + ksum h.1 = slots + ksum h'.1 → W p l e' R s m args below meth c H' locs' cells' slots' Q (F0 m pc' LS' (st'.map (cv z sv)))) : W p l e' R s m args below meth c H locs cells slots Q (F0 m pc LS (st.map (cv z sv))) := by
  obtain ⟨hx, hb, hml, hown, hts, hnm, hK, hSp, hz⟩ := C
  unfold okE at hl
  simp only [Bool.and_eq_true, Bool.or_eq_true, decide_eq_true_eq] at hl
  obtain ⟨⟨hd, hsw⟩, hX⟩ := hl
  have hnp : np = pc + 3 := Nat.eq_of_beq_eq_true (hsw.resolve_left (fun q => Bool.noConfusion q))
  subst hnp
  have hd : decode (mB k) pc = .ok (.ifnull off, 3) := by
    have hd2 := hd
    rwa [Nat.add_sub_cancel_left] at hd2
  dsimp only [stp] at hs
  split at hs
  · cases hs
    exact lv_ifnull hx hb hd (kk _ _ _ _ _ hL hW hS rfl rfl)
  · cases hs
    exact lv_ifnullN hx hb hd (of_decide_eq_true hX) (kk _ _ _ _ _ hL hW hS rfl rfl)
  · cases hs
set_option maxHeartbeats 4000000 in
theorem st_tableswitch (C : Cx p s m args meth c k z X sv ca D) {d lo hi : Int} {offs : Array Int} { np a b c0 : Nat} {v : Int32} {pc pc' : Nat} {ls ls' : List (Option Value)} {st st' : List Value} {h h' : Hp} (hl : okE k pc (.tableswitch d lo hi offs, np, a, b, c0, v) = true) (hs : stp X (.tableswitch d lo hi offs, np, a, b, c0, v) ls st h = some (pc', ls', st', h'))
    (hL : lvR z sv LS (mL k) ls) (hW : Wd z ca D H h) (hS : va_S (zA z) s.heap H locs) (hc : cells + h'.1.length ≤ R.cells + h.1.length) (hsl : slots + ksum h'.1 ≤ R.slots + ksum h.1) (hfr : 1 ≤ R.frames) (hlo : 60 ≤ R.locals)
    (kk : ∀ (LS' : Array Slot) (H' : Heap) (locs' : List Loc) (cells' slots' : Nat), lvR z sv LS' (mL k) ls' → Wd z ca D H' h' → va_S (zA z) s.heap H' locs' → cells' + h.1.length = cells + h'.1.length → slots' + ksum h.1 = slots + ksum h'.1 → W p l e' R s m args below meth c H' locs' cells' slots' Q (F0 m pc' LS' (st'.map (cv z sv)))) : W p l e' R s m args below meth c H locs cells slots Q (F0 m pc LS (st.map (cv z sv))) := by
  obtain ⟨hx, hb, hml, hown, hts, hnm, hK, hSp, hz⟩ := C
  unfold okE at hl
  simp only [Bool.and_eq_true, Bool.or_eq_true, decide_eq_true_eq] at hl
  obtain ⟨⟨hd, hsw⟩, hX⟩ := hl
  simp only [okX, Bool.and_eq_true, decide_eq_true_eq, List.all_eq_true] at hX
  obtain ⟨⟨⟨h1, h2⟩, h3⟩, h4⟩ := hX
  have h1 : c0 = pc := Nat.eq_of_beq_eq_true h1
  subst h1
  dsimp only [stp, swt] at hs
  split at hs
  · rename_i x r
    cases hs
    by_cases q : x.toInt < lo ∨ hi < x.toInt
    · have hgo := kk _ _ _ _ _ hL hW hS rfl rfl
      rw [if_pos q] at hgo
      exact lv_tableOut hx hb hd q (Int.toNat_of_nonneg h2).symm hgo
    · have hgo := kk _ _ _ _ _ hL hW hS rfl rfl
      rw [if_neg q] at hgo
      have q1 : ¬ x.toInt < lo := fun h => q (Or.inl h)
      have q2 : ¬ hi < x.toInt := fun h => q (Or.inr h)
      have q3 : (x.toInt - lo).toNat < offs.toList.length := by omega
      obtain ⟨y, hy⟩ : ∃ y, offs.toList[(x.toInt - lo).toNat]? = some y := ⟨_, List.getElem?_eq_getElem q3⟩
      rw [hy, Option.getD_some] at hgo
      exact lv_tableIn hx hb hd q1 q2 (by rw [← hy, Array.getElem?_toList]) (Int.toNat_of_nonneg (h3 y (List.mem_of_getElem? hy))).symm hgo
  · cases hs
set_option maxHeartbeats 4000000 in
theorem st_lookupswitch (C : Cx p s m args meth c k z X sv ca D) {d : Int} {ps : Array (Int × Int)} { np a b c0 : Nat} {v : Int32} {pc pc' : Nat} {ls ls' : List (Option Value)} {st st' : List Value} {h h' : Hp} (hl : okE k pc (.lookupswitch d ps, np, a, b, c0, v) = true) (hs : stp X (.lookupswitch d ps, np, a, b, c0, v) ls st h = some (pc', ls', st', h'))
    (hL : lvR z sv LS (mL k) ls) (hW : Wd z ca D H h) (hS : va_S (zA z) s.heap H locs) (hc : cells + h'.1.length ≤ R.cells + h.1.length) (hsl : slots + ksum h'.1 ≤ R.slots + ksum h.1) (hfr : 1 ≤ R.frames) (hlo : 60 ≤ R.locals)
    (kk : ∀ (LS' : Array Slot) (H' : Heap) (locs' : List Loc) (cells' slots' : Nat), lvR z sv LS' (mL k) ls' → Wd z ca D H' h' → va_S (zA z) s.heap H' locs' → cells' + h.1.length = cells + h'.1.length → slots' + ksum h.1 = slots + ksum h'.1 → W p l e' R s m args below meth c H' locs' cells' slots' Q (F0 m pc' LS' (st'.map (cv z sv)))) : W p l e' R s m args below meth c H locs cells slots Q (F0 m pc LS (st.map (cv z sv))) := by
  obtain ⟨hx, hb, hml, hown, hts, hnm, hK, hSp, hz⟩ := C
  unfold okE at hl
  simp only [Bool.and_eq_true, Bool.or_eq_true, decide_eq_true_eq] at hl
  obtain ⟨⟨hd, hsw⟩, hX⟩ := hl
  simp only [okX, Bool.and_eq_true, decide_eq_true_eq] at hX
  obtain ⟨⟨⟨h1, h2⟩, h3⟩, h4⟩ := hX
  have h1 : c0 = pc := Nat.eq_of_beq_eq_true h1
  subst h1
  dsimp only [stp, lkt] at hs
  split at hs
  · rename_i x r
    cases hs
    refine lv_lookup hx hb hd h4 rfl (Int.toNat_of_nonneg ?_).symm (kk _ _ _ _ _ hL hW hS rfl rfl)
    exact lk_nn h2 h3
  · cases hs
end STEP
