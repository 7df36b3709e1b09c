/-- OPEN in hpure: the pure statement, of the machine of the tables alone -/
def Pure : Prop := ∀ (L : Nat) (xs : Nat → Int32), L ≤ 260 → ∃ (f : Nat) (h' : Hp), exec (L, xs) f 62 0 0 (some (.retAddr 28) :: List.replicate 17 none) [] ([], fun _ _ => 0, fun _ _ => none) = some (some (.int 1), h') ∧ h'.1.length ≤ 600000 ∧ ksum h'.1 ≤ 7302250
set_option maxHeartbeats 4000000 in
theorem whole_from_open (hpure : Pure) (hok : ∀ k, k < mN → okA k) {p : Program} {e : Env} {s : State} {m : MethodId} {below : List Frame} {meth : Method} {c : Code} (l : Launch) {b L : Nat} {xs : Nat → Int32} (hL : L ≤ 260) (C0 : lw_At p s m meth c b L xs) : W p l e room_1 s m #[Value.ref b] below meth c s.heap [] 0 0 (lw_Z below #[Value.ref b] s) (entryFrame m ([Value.ref b] : List Value).toArray 18) := by
  obtain ⟨hx, hb, hr, hml, hown, hts, hX, hbl, hlocks, hgv⟩ := C0
  have hfl : ∀ w ∈ fl1, w.before #[Value.ref b] s = true := flat_of_before _ hgv
  have ht1 : ∀ w ∈ tables_1, w.before #[Value.ref b] s = true := fun w hw => hts w (List.mem_append_right _ hw)
  obtain ⟨sv, hSp, hsv28⟩ := sp_of (X := (L, xs)) hfl ht1 hts hX hbl
  obtain ⟨ca, hca⟩ := ca_of hts
  obtain ⟨dC, dI, hkn⟩ := kn_of hts
  obtain ⟨f, h', hex, hc, hs⟩ := hpure L xs hL
  have hsv := hSp.2.2.2.2.2.2.2.2
  have hK : va_K (dC, dI) vwCl (tys ca) s := ⟨hkn, hca⟩
  have C : Cx p s m #[Value.ref b] meth c 0 s.heap.size (L, xs) sv ca (dC, dI) := ⟨hx, hb, hml, hown, fun w hw => hts w (List.mem_filter.mp hw).1, fun q => absurd q (by decide +kernel), hK, hSp, Nat.le_refl _⟩
  have hl := lv_entry ([Value.ref b]) (n := 18) (Nat.le_of_ble_eq_true rfl)
  rw [lg_entry_eq]
  generalize (lg_sl ([Value.ref b]) ++ List.replicate (18 - (lg_sl ([Value.ref b])).length) Slot.unset).toArray = LS at hl ⊢
  have hl : lv_has LS 18 [(0, .ref b)] := hl
  have hlv : lvR s.heap.size sv LS (mL 0) (some (.retAddr 28) :: List.replicate 17 none) := by
    refine ⟨rfl, hl.1, hl.2.1, fun q hq => ?_⟩
    obtain ⟨v, hv, e9⟩ := prs_of hq
    obtain ⟨j, y⟩ := q
    match j, hv with
    | 0, hv =>
      cases hv
      refine hl.2.2 (0, y) ?_
      have e8 : y = .ref b := by rw [show y = cv s.heap.size sv (.retAddr 28) from e9]; exact hsv28
      rw [e8]
      exact List.mem_cons_self
    | j + 1, hv =>
      rw [List.getElem?_cons_succ, List.getElem?_replicate] at hv
      split at hv <;> cases hv
  refine sound l s.heap.size (L, xs) sv ca (dC, dI) hsv hok f 62 0 0 _ [] _ _ _ (by decide) hex C hlv ⟨rfl, fun p t n hp => by simp at hp, fun k q hq => by simp [wrl] at hq⟩ va_S.rf (by decide) (by decide) ?_ ?_ ?_
  · show 0 + h'.1.length ≤ 600000 + 0
    omega
  · show 0 + ksum h'.1 ≤ 7302250 + 0
    omega
  · intro e9 pc' st' LS' H' locs' cells' slots' hoe hrt hW' hS' hc' hs'
    have hcc : cells' ≤ 600000 := by
      have h9 : cells' + 0 = 0 + h'.1.length := hc'
      omega
    have hss : slots' ≤ 7302250 := by
      have h9 : slots' + 0 = 0 + ksum h'.1 := hs'
      omega
    obtain ⟨ins, np, a, b9, c9, v⟩ := e9
    unfold okE at hoe
    simp only [Bool.and_eq_true, Bool.or_eq_true, decide_eq_true_eq] at hoe
    obtain ⟨⟨hd, hsw⟩, hXx⟩ := hoe
    have hm : mR 0 = some .boolean := rfl
    unfold rtv at hrt
    dsimp only at hrt
    split at hrt
    · have hnp : np = pc' + 1 := Nat.eq_of_beq_eq_true (hsw.resolve_left (fun q => Bool.noConfusion q))
      subst hnp
      rw [Nat.add_sub_cancel_left] at hd
      split at hrt
      · rw [hm] at hrt
        dsimp only at hrt
        obtain ⟨h1, hv⟩ := cond_some hrt
        cases hv
        refine va_forget (fun q hq => hS'.2.2 q hq) ?_
        refine W.widen (k := 600000) (n := 7302250) hcc hss ?_
        exact lw_ret hx hb hr hlocks hd
      · cases hrt
    · split at hrt
      · rw [hm] at hrt; cases hrt
      · cases hrt
    · split at hrt
      · rw [hm] at hrt; cases hrt
      · rw [hm] at hrt; cases hrt
      · cases hrt
    · split at hrt
      · rw [hm] at hrt; cases hrt
      · cases hrt
    · cases hrt
