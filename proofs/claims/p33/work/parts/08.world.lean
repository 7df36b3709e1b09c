/-! THE WORLD: the cells of the machine in a heap; from address z on, one behind another -/
def cv (z : Nat) (sv : Nat → Value) : Value → Value
  | .ref j => .ref (z + j)
  | .retAddr i => sv i
  | v => v
def zA (z : Nat) : Nat → Prop := fun q => z ≤ q
def cfs (z t n : Nat) (f : Nat → Int32) (g : Nat → Option Nat) : List Value := (List.range n).map (fun k => bif isR t k then va_rf ((g k).map (z + ·)) else .int (f k))
def cel (z : Nat) (ca : Nat → ClassId) (t n : Nat) (f : Nat → Int32) (g : Nat → Option Nat) : va_E := bif Nat.blt t 20 then .inr (t, cfs z t n f g) else bif Nat.blt t 23 then .inl (ca t, n, .inl f) else .inl (ca t, n, .inr (.inr (.inr (.inr (fun k => (g k).map (z + ·))))))
def wrl (z : Nat) (ca : Nat → ClassId) (h : Hp) : va_W := h.1.mapIdx (fun p tn => (z + p, cel z ca tn.1 tn.2 (h.2.1 p) (h.2.2 p)))
theorem wrl_get {z : Nat} {ca : Nat → ClassId} {h : Hp} {p t n : Nat} (hk : h.1[p]? = some (t, n)) : (wrl z ca h)[p]? = some (z + p, cel z ca t n (h.2.1 p) (h.2.2 p)) := by
  simp [wrl, hk]
theorem wrl_inv {z : Nat} {ca : Nat → ClassId} {h : Hp} {p : Nat} {q : Nat × va_E} (hk : (wrl z ca h)[p]? = some q) : q.1 = z + p := by
  simp only [wrl, List.getElem?_mapIdx, Option.map_eq_some_iff] at hk
  obtain ⟨a, -, rfl⟩ := hk
  rfl
theorem wrl_D (z : Nat) (ca : Nat → ClassId) (h : Hp) : va_D (zA z) (wrl z ca h) := by
  refine ⟨fun i j p q hi hj e => ?_, fun k q hk => ?_⟩
  · have h1 := wrl_inv hi
    have h2 := wrl_inv hj
    omega
  · have h1 := wrl_inv hk
    show z ≤ q.1
    omega
theorem wrl_set {z : Nat} {ca : Nat → ClassId} {h : Hp} {I : Nat → Nat → Int32} {G : Nat → Nat → Option Nat} {p t n : Nat} {e : va_E} (hk : h.1[p]? = some (t, n)) (hI : ∀ q, q ≠ p → I q = h.2.1 q) (hG : ∀ q, q ≠ p → G q = h.2.2 q) (he : e = cel z ca t n (I p) (G p)) : (wrl z ca h).set p (z + p, e) = wrl z ca (h.1, I, G) := by
  apply List.ext_getElem?
  intro i
  rw [List.getElem?_set]
  have hlt : p < (wrl z ca h).length := (List.getElem?_eq_some_iff.mp (wrl_get (z := z) (ca := ca) hk)).1
  by_cases hp : p = i
  · subst hp
    rw [if_pos rfl, if_pos hlt]
    rw [wrl_get (h := (h.1, I, G)) hk, he]
  · rw [if_neg hp]
    simp only [wrl, List.getElem?_mapIdx]
    cases h.1[i]? with
    | none => rfl
    | some tn => simp only [Option.map_some, hI i (Ne.symm hp), hG i (Ne.symm hp)]
theorem upI_ne {I : Nat → Nat → Int32} {p i q : Nat} {v : Int32} (h : q ≠ p) : upI I p i v q = I q := by funext j; simp [upI, h]
theorem upR_ne {I : Nat → Nat → Option Nat} {p i q : Nat} {v : Option Nat} (h : q ≠ p) : upR I p i v q = I q := by funext j; simp [upR, h]
theorem upI_eq {I : Nat → Nat → Int32} {p i : Nat} {v : Int32} : upI I p i v p = upd (I p) i v := by funext j; simp [upI, upd]
theorem cfs_len (z t n : Nat) (f : Nat → Int32) (g : Nat → Option Nat) : (cfs z t n f g).length = n := by simp [cfs]
theorem cfs_get {z t n k : Nat} {f : Nat → Int32} {g : Nat → Option Nat} (hk : k < n) : (cfs z t n f g)[k]? = some (bif isR t k then va_rf ((g k).map (z + ·)) else .int (f k)) := by
  simp [cfs, hk]
theorem cfs_setI {z t n k : Nat} {f : Nat → Int32} {g : Nat → Option Nat} {x : Int32} (hr : isR t k = false) : (cfs z t n f g).set k (.int x) = cfs z t n (upd f k x) g := by
  apply List.ext_getElem?
  intro i
  rw [List.getElem?_set, cfs_len]
  by_cases hi : k = i
  · subst hi
    rw [if_pos rfl]
    by_cases hn : k < n
    · rw [if_pos hn, cfs_get hn, hr]
      simp [upd]
    · rw [if_neg hn, List.getElem?_eq_none (by rw [cfs_len]; omega)]
  · rw [if_neg hi]
    by_cases hn : i < n
    · rw [cfs_get hn, cfs_get hn]
      simp [upd, Ne.symm hi]
    · rw [List.getElem?_eq_none (by rw [cfs_len]; omega), List.getElem?_eq_none (by rw [cfs_len]; omega)]
theorem cfs_setR {z t n k : Nat} {f : Nat → Int32} {g g' : Nat → Option Nat} {x : Option Nat} (hr : isR t k = true) (hg : ∀ j, g' j = if j = k then x else g j) : (cfs z t n f g).set k (va_rf (x.map (z + ·))) = cfs z t n f g' := by
  apply List.ext_getElem?
  intro i
  rw [List.getElem?_set, cfs_len]
  by_cases hi : k = i
  · subst hi
    rw [if_pos rfl]
    by_cases hn : k < n
    · rw [if_pos hn, cfs_get hn, hr]
      simp [hg]
    · rw [if_neg hn, List.getElem?_eq_none (by rw [cfs_len]; omega)]
  · rw [if_neg hi]
    by_cases hn : i < n
    · rw [cfs_get hn, cfs_get hn]
      simp [hg, Ne.symm hi]
    · rw [List.getElem?_eq_none (by rw [cfs_len]; omega), List.getElem?_eq_none (by rw [cfs_len]; omega)]
def wfK (K : List (Nat × Nat)) : Prop := ∀ (p t n : Nat), K[p]? = some (t, n) → t < 20 → ∃ q, vwCl[t]? = some q ∧ q.2.2 = n
def Wd (z : Nat) (ca : Nat → ClassId) (D : va_G) (H : Heap) (h : Hp) : Prop := H.size = z + h.1.length ∧ wfK h.1 ∧ va_P D vwCl (wrl z ca h) H
def tys (ca : Nat → ClassId) : List (ClassId × FieldType) := [(ca 20, .int), (ca 21, .byte), (ca 22, .byte), (ca 23, .object "VerandaTalk$Matter"), (ca 24, .object "VerandaTalk$Veranda")]
def nwW (w : Cond) : Bool := match w with
  | .methodLinkNest .. => true
  | .declares _ => true
  | .castable .. => true
  | _ => false
def Sst (z : Nat) (sv : Nat → Value) (U : State) (H : Heap) (i : Nat) : Prop := ∃ q t : Nat, sv i = .ref q ∧ sv (13 + i) = .ref t ∧ vk_R (strO i) (strI i) (strT i) q U ∧ va_O "java/lang/String" q (zA z) U H ∧ va_OF "java/lang/String" "coder" "B" (.int 0) q (zA z) U H ∧ va_OF "java/lang/String" "value" "[B" (.ref t) q (zA z) U H ∧ va_T .byte t (txt i).length (fun j => .int ((txt i).getD j 0)) (zA z) U H
/-- the launch's own things: texts, statics, the script; nest words -/
def Sp (z : Nat) (X : Nat × (Nat → Int32)) (sv : Nat → Value) (U : State) (H : Heap) : Prop :=
  (∀ i, i < 13 → Sst z sv U H i) ∧
  va_Z "java/lang/String" "COMPACT_STRINGS" "Z" (.int 1) (zA z) U H ∧
  (∃ t : Nat, sv 26 = .ref t ∧ va_Z "VerandaTalk" "ABOVE" "[I" (.ref t) (zA z) U H ∧ va_T .int t 7 (fun j => .int (abv.getD j 0)) (zA z) U H) ∧
  va_Z "jdk/internal/util/Preconditions" "SIOOBE_FORMATTER" "Ljava/util/function/BiFunction;" (sv 27) (zA z) U H ∧
  (∃ b : Nat, sv 28 = .ref b ∧ b < z ∧ va_X b X.1 X.2 U H) ∧
  (∀ w ∈ lw_tbl, nwW w = true → va_Nw w U) ∧ va_AO "VerandaTalk$Matter" U ∧ va_AO "VerandaTalk$Veranda" U ∧
  (∀ i, sv i = .null ∨ ∃ a : Nat, sv i = .ref a)
theorem Sp.warm {z : Nat} {X : Nat × (Nat → Int32)} {sv : Nat → Value} {s U : State} {H : Heap} (hW : s.WarmedH U.vm) (h : Sp z X sv s H) : Sp z X sv U H := by
  have ha := hW.alike
  obtain ⟨h1, h2, ⟨t, h3, h4, h5⟩, h6, ⟨b, h7, h8, h9⟩, h10, h11, h12, h13⟩ := h
  refine ⟨fun i hi => ?_, va_Z.moved ha h2, ⟨t, h3, va_Z.moved ha h4, va_T.moved ha h5⟩, va_Z.moved ha h6, ⟨b, h7, h8, va_X.moved ha h9⟩, fun w hw hn => ?_, va_AO.moved ha h11, va_AO.moved ha h12, h13⟩
  · obtain ⟨q, t, a1, a2, a3, a4, a5, a6, a7⟩ := h1 i hi
    exact ⟨q, t, a1, a2, vk_R.warm hW a3, va_O.moved ha a4, va_OF.moved ha a5, va_OF.moved ha a6, va_T.moved ha a7⟩
  · have h := h10 w hw hn
    cases w <;> first | (exact va_Nw.warmM hW h) | (exact va_Nw.warmD hW h) | (exact va_Nw.warmC hW h) | (simp [nwW] at hn)
theorem Sp.kept {z : Nat} {X : Nat × (Nat → Int32)} {sv : Nat → Value} {s : State} {H H1 : Heap} (hz : z ≤ H.size) (hq : ∀ a : Nat, a < H.size → ¬ zA z a → H1[a]? = H[a]?) (h : Sp z X sv s H) : Sp z X sv s H1 := by
  obtain ⟨h1, h2, ⟨t, h3, h4, h5⟩, h6, ⟨b, h7, h8, h9⟩, h10, h11, h12, h13⟩ := h
  refine ⟨fun i hi => ?_, va_Z.kept h2 hq, ⟨t, h3, va_Z.kept h4 hq, va_T.kept h5 hq⟩, va_Z.kept h6 hq, ⟨b, h7, h8, va_X.kept h9 (hq b (by omega) (by unfold zA; omega))⟩, h10, h11, h12, h13⟩
  obtain ⟨q, t, a1, a2, a3, a4, a5, a6, a7⟩ := h1 i hi
  exact ⟨q, t, a1, a2, a3, va_O.kept a4 hq, va_OF.kept a5 hq, va_OF.kept a6 hq, va_T.kept a7 hq⟩
theorem Sp.S {z : Nat} {X : Nat × (Nat → Int32)} {sv : Nat → Value} {s : State} {H : Heap} {locs : List Loc} (hz : z ≤ s.heap.size) (hS : va_S (zA z) s.heap H locs) (h : Sp z X sv s s.heap) : Sp z X sv s H := h.kept hz hS.2.1
/-! the locals -/
def prs (z : Nat) (sv : Nat → Value) (ls : List (Option Value)) : List (Nat × Value) := (List.range ls.length).filterMap (fun i => match ls[i]? with
  | some (some v) => some (i, cv z sv v)
  | _ => none)
theorem prs_in {z : Nat} {sv : Nat → Value} {ls : List (Option Value)} {i : Nat} {v : Value} (h : ls[i]? = some (some v)) : (i, cv z sv v) ∈ prs z sv ls := by
  refine List.mem_filterMap.mpr ⟨i, List.mem_range.mpr (List.getElem?_eq_some_iff.mp h).1, ?_⟩
  rw [h]
theorem prs_of {z : Nat} {sv : Nat → Value} {ls : List (Option Value)} {q : Nat × Value} (h : q ∈ prs z sv ls) : ∃ v, ls[q.1]? = some (some v) ∧ q.2 = cv z sv v := by
  obtain ⟨i, -, hi⟩ := List.mem_filterMap.mp h
  split at hi
  · rename_i v hv
    cases hi
    exact ⟨v, hv, rfl⟩
  · cases hi
def lvR (z : Nat) (sv : Nat → Value) (LS : Array Slot) (n : Nat) (ls : List (Option Value)) : Prop := ls.length = n ∧ lv_has LS n (prs z sv ls)
theorem lvR.get {z : Nat} {sv : Nat → Value} {LS : Array Slot} {n i : Nat} {ls : List (Option Value)} {v : Value} (h : lvR z sv LS n ls) (hv : ls[i]? = some (some v)) : LS[i]? = some (.val (cv z sv v)) := h.2.2.2 (i, cv z sv v) (prs_in hv)
theorem cat_cv {z : Nat} {sv : Nat → Value} (hsv : ∀ i, sv i = .null ∨ ∃ a : Nat, sv i = .ref a) (v : Value) : (cv z sv v).category = v.category := by
  cases v with
  | retAddr i => rcases hsv i with h | ⟨a, h⟩ <;> simp [cv, h, Value.category]
  | _ => simp [cv, Value.category]
theorem cat_cvs {z : Nat} {sv : Nat → Value} (hsv : ∀ i, sv i = .null ∨ ∃ a : Nat, sv i = .ref a) (r : List Value) : (((r.map (cv z sv)).map fun v => v.category)).sum = (r.map Value.category).sum := by
  rw [List.map_map]
  congr 1
  apply List.map_congr_left
  intro v _
  exact cat_cv hsv v
theorem drl_get {ls : List (Option Value)} {i j : Nat} {w : Value} (h : (drl ls i)[j]? = some (some w)) : ls[j]? = some (some w) ∧ ¬ (j + 1 = i ∧ w.category = 2) := by
  unfold drl at h
  split at h
  · exact ⟨h, fun q => by omega⟩
  · rename_i k
    split at h
    · rename_i w' hw'
      cases hb : Nat.beq w'.category 2 with
      | true =>
        rw [hb, cond_true, List.getElem?_set] at h
        by_cases hk : k = j
        · rw [if_pos hk] at h
          split at h <;> simp at h
        · rw [if_neg hk] at h
          exact ⟨h, fun q => hk (by omega)⟩
      | false =>
        rw [hb, cond_false] at h
        refine ⟨h, fun q => ?_⟩
        have hj : k = j := by omega
        subst hj
        rw [hw'] at h
        cases h
        rw [q.2] at hb
        simp at hb
    · rename_i hn
      refine ⟨h, fun q => ?_⟩
      have hj : k = j := by omega
      subst hj
      exact hn w h
theorem drl_len (ls : List (Option Value)) (i : Nat) : (drl ls i).length = ls.length := by
  unfold drl
  split
  · rfl
  · split
    · rename_i w' _
      cases Nat.beq w'.category 2 <;> simp
    · rfl
theorem lvR.st1 {z : Nat} {sv : Nat → Value} (hsv : ∀ i, sv i = .null ∨ ∃ a : Nat, sv i = .ref a) {LS LS' : Array Slot} {n i : Nat} {ls : List (Option Value)} {v : Value} (h : lvR z sv LS n ls) (h' : lv_has LS' n ((i, cv z sv v) :: (prs z sv ls).filter (fun q => !(q.1 == i) && !(q.1 + 1 == i && q.2.category == 2)))) : lvR z sv LS' n (sto1 ls i v) := by
  refine ⟨by simp [sto1, drl_len, h.1], h'.1, h'.2.1, fun q hq => ?_⟩
  obtain ⟨w, hw, e⟩ := prs_of hq
  obtain ⟨j, y⟩ := q
  dsimp only at hw e
  subst e
  unfold sto1 at hw
  rw [List.getElem?_set] at hw
  by_cases hij : i = j
  · subst hij
    rw [if_pos rfl] at hw
    split at hw
    · cases hw
      exact h'.2.2 _ List.mem_cons_self
    · cases hw
  · rw [if_neg hij] at hw
    obtain ⟨h1, h2⟩ := drl_get hw
    refine h'.2.2 _ (List.mem_cons_of_mem _ (List.mem_filter.mpr ⟨prs_in h1, ?_⟩))
    simp only [Bool.and_eq_true, Bool.not_eq_true', beq_eq_false_iff_ne, ne_eq, Bool.and_eq_false_iff, cat_cv hsv]
    exact ⟨fun q => hij q.symm, (Classical.em (j + 1 = i)).elim (fun q => Or.inr (fun q2 => h2 ⟨q, q2⟩)) Or.inl⟩
theorem lvR.st2 {z : Nat} {sv : Nat → Value} (hsv : ∀ i, sv i = .null ∨ ∃ a : Nat, sv i = .ref a) {LS LS' : Array Slot} {n i : Nat} {ls : List (Option Value)} {v : Value} (h : lvR z sv LS n ls) (h' : lv_has LS' n ((i, cv z sv v) :: (prs z sv ls).filter (fun q => !(q.1 == i) && (!(q.1 == i + 1) && !(q.1 + 1 == i && q.2.category == 2))))) : lvR z sv LS' n (sto2 ls i v) := by
  refine ⟨by simp [sto2, drl_len, h.1], h'.1, h'.2.1, fun q hq => ?_⟩
  obtain ⟨w, hw, e⟩ := prs_of hq
  obtain ⟨j, y⟩ := q
  dsimp only at hw e
  subst e
  unfold sto2 at hw
  rw [List.getElem?_set] at hw
  by_cases hj1 : i + 1 = j
  · rw [if_pos hj1] at hw
    split at hw <;> simp at hw
  · rw [if_neg hj1, List.getElem?_set] at hw
    by_cases hij : i = j
    · subst hij
      rw [if_pos rfl] at hw
      split at hw
      · cases hw
        exact h'.2.2 _ List.mem_cons_self
      · cases hw
    · rw [if_neg hij] at hw
      obtain ⟨h1, h2⟩ := drl_get hw
      refine h'.2.2 _ (List.mem_cons_of_mem _ (List.mem_filter.mpr ⟨prs_in h1, ?_⟩))
      simp only [Bool.and_eq_true, Bool.not_eq_true', beq_eq_false_iff_ne, ne_eq, Bool.and_eq_false_iff, cat_cv hsv]
      exact ⟨fun q => hij q.symm, fun q => hj1 q.symm, (Classical.em (j + 1 = i)).elim (fun q => Or.inr (fun q2 => h2 ⟨q, q2⟩)) Or.inl⟩
