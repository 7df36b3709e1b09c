section WCP
variable {p : Program} {l : Launch} {e : Env} {R : Room} {s : State} {m : MethodId} {args : Array Value} {below : List Frame} {meth : Method} {c : Code} {H : Heap} {locs : List Loc} {cells slots : Nat} {Q : State → Prop}
variable {cc : ByteArray} {pc : Nat} {ls : Array Slot} {rest : List Value} {D : va_G} {cl : List vw_C} {A : Nat → Prop} {a : Nat} {tys : List (ClassId × FieldType)} {ws : va_W} {H0 : Heap}
theorem wd_copy {cc : ByteArray} (hexec : p.tables.exec = Jvm.exec) (hb : c.code = cc) (hml : c.maxLocals = ls.size) {own : String} {index : Nat} (hown : s.vm.findClass own = some m.cls) (hlink : (Cond.methodLink own index arraycopyName).before args s = true) (hnat : (Cond.native arraycopyName).before args s = true) (hstat : (Cond.static arraycopyName).before args s = true) (hini : (Cond.initialized "java/lang/System").before args s = true)
    (hK : va_K D cl tys s) (hP : va_P D cl ws H) (hD : va_D A ws) (hS : va_S A H0 H locs) (q0 q1 t0 t1 : Nat) {a0 : Nat} {c0 c1 : ClassId} {n0 n1 : Nat} {f g : Nat → Int32} {ty : FieldType} (ha0 : ws[q0]? = some (a0, .inl (c0, n0, .inl f))) (ha1 : ws[q1]? = some (a, .inl (c1, n1, .inl g))) (ht0 : tys[t0]? = some (c0, ty)) (ht1 : tys[t1]? = some (c1, ty)) (hprim : refKind ty = false)
    {sp dp n : Int32} (h1 : ¬ sp < 0) (h2 : ¬ dp < 0) (h3 : ¬ n < 0) (h4 : sp.toNatClampNeg + n.toNatClampNeg ≤ n0) (h5 : dp.toNatClampNeg + n.toNatClampNeg ≤ n1) (hfit : ∀ i, i < n.toNatClampNeg → fits ty (.int (f (sp.toNatClampNeg + i))) = true)
    (hframes : 1 ≤ R.frames) (hlocals : (rest.map fun v => v.category).sum + (nativeFrameWords "java/lang/System" "arraycopy" 5 + 11) ≤ R.locals) (hdg : decode cc pc = .ok (.invokestatic index, 3))
    (kk : ∀ (H1 : Heap) (locs1 : List Loc), H1.size = H.size → va_P D cl (ws.set q1 (a, .inl (c1, n1, .inl (va_cpy f g sp.toNatClampNeg dp.toNatClampNeg n.toNatClampNeg)))) H1 → va_S A H0 H1 locs1 → W p l e R s m args below meth c H1 locs1 cells slots Q (F0 m (pc + 3) ls rest)) : W p l e R s m args below meth c H locs cells slots Q (F0 m pc ls (.int n :: .int dp :: .ref a :: .int sp :: .ref a0 :: rest)) := by
  have nn : ∀ z : Int32, ¬ z < 0 → z.toInt = (z.toNatClampNeg : Int) := by
    intro z hz
    have hz0 : (0 : Int) ≤ z.toInt := by
      have := Int32.not_lt.mp hz
      simpa using Int32.le_iff_toInt_le.mp this
    show z.toInt = ((z.toInt.toNat : Nat) : Int)
    omega
  intro T hT X
  have hc0 : H[a0]? = some (vp_cell c0 (n0, .inl f)) := hP q0 _ ha0
  have hc1 : H[a]? = some (vp_cell c1 (n1, .inl g)) := hP q1 _ ha1
  obtain ⟨-, k0, hk0, cm0, hkk0⟩ := (hK.2 t0 _ ht0).1 n0 (fun j => .int (f j))
  obtain ⟨-, k1, hk1, cm1, hkk1⟩ := (hK.2 t1 _ ht1).1 n1 (fun j => .int (g j))
  obtain ⟨vm', X', step⟩ := X.arraycopy hexec hown hlink hnat hstat hini (src := a0) (dst := a) (cs := vp_cell c0 (n0, .inl f)) (cd := vp_cell c1 (n1, .inl g)) (srcPos := sp) (destPos := dp) (n := n) (by rw [hT]; exact hc0) (by rw [hT]; exact hc1)
    (fun _ h => by cases h) (fun _ h => by cases h) (fun h => by cases h) (fun h => by cases h) hk0 hk1 hkk0 hkk1 (by simp [hprim]) h1 h2 h3
    (by rw [nn sp h1, nn n h3]; show ¬ _ > ((arrV c0 n0 (fun j => .int (f j))).slots.size : Int); rw [arrV_size]; omega)
    (by rw [nn dp h2, nn n h3]; show ¬ _ > ((arrV c1 n1 (fun j => .int (g j))).slots.size : Int); rw [arrV_size]; omega)
    (fun vm₁ _ i hi => by
      have e : (vp_cell c0 (n0, .inl f)).slots.getD (sp.toNatClampNeg + i) .null = .int (f (sp.toNatClampNeg + i)) := by
        show (arrV c0 n0 (fun j => .int (f j))).slots.getD _ _ = _
        rw [Array.getD_eq_getD_getElem?, arrV_read _ _ (by omega)]
        rfl
      refine ⟨?_, ?_⟩
      · rw [e]
        exact hfit i hi
      · rw [e]
        exact trivial)
    (g := F0 m pc ls (.int n :: .int dp :: .ref a :: .int sp :: .ref a0 :: rest)) rfl (by rw [hml]) (rest := rest) rfl (by rw [hb]; exact hdg) hframes (by show 2 * 0 + _ + _ ≤ _; omega)
  have e1 : copied (vp_cell c0 (n0, .inl f)) (vp_cell c1 (n1, .inl g)) sp dp n = vp_cell c1 (n1, .inl (va_cpy f g sp.toNatClampNeg dp.toNatClampNeg n.toNatClampNeg)) := va_copied (fun z => .int z) c0 c1 f g h4
  rw [e1] at X' step
  have hl : a < H.size := (Array.getElem?_eq_some_iff.mp hc1).1
  have hheap : ((T.setVm vm').setCell a (vp_cell c1 (n1, .inl (va_cpy f g sp.toNatClampNeg dp.toNatClampNeg n.toNatClampNeg)))).heap = H.setIfInBounds a (vp_cell c1 (n1, .inl (va_cpy f g sp.toNatClampNeg dp.toNatClampNeg n.toNatClampNeg))) := by rw [← hT]; rfl
  have oq : ∀ q : Nat, q ≠ a → (H.setIfInBounds a (vp_cell c1 (n1, .inl (va_cpy f g sp.toNatClampNeg dp.toNatClampNeg n.toNatClampNeg))))[q]? = H[q]? := fun q hq => by simp [Array.getElem?_setIfInBounds, Ne.symm hq]
  obtain ⟨t, a1, b1⟩ := kk _ _ (by simp) (hP.set hD ha1 (show (H.setIfInBounds a _)[a]? = some _ by simp [Array.getElem?_setIfInBounds, hl]) oq) ⟨by simp; exact hS.1, fun q g1 g2 => by
      rw [oq q (fun e => g2 (by rw [e]; exact hD.2 q1 _ ha1))]
      exact hS.2.1 q g1 g2, fun q hq => by
      rcases List.mem_append.mp hq with h | h
      · exact hS.2.2 q h
      · obtain ⟨z, -, hz⟩ := List.mem_map.mp h
        rw [← hz]
        exact hD.2 q1 _ ha1⟩ _ hheap X'
  exact ⟨t, step t a1, b1⟩
end WCP
section STEPA
variable {p : Program} {l : Launch} {e' : Env} {R : Room} {s : State} {m : MethodId} {args : Array Value} {below : List Frame} {meth : Method} {c : Code} {H : Heap} {locs : List Loc} {cells slots : Nat} {Q : State → Prop} {LS : Array Slot}
variable {k z : Nat} {X : Nat × (Nat → Int32)} {sv : Nat → Value} {ca : Nat → ClassId} {D : va_G}
theorem good_const (o : String) (i : Nat) (v : Int32) : goodWord (.constant o i v) = true := by simp [goodWord, Cond.onTables, Cond.keeps, Cond.steady]
theorem good_constL (o : String) (i : Nat) (v : Int64) : goodWord (.constantLong o i v) = true := by simp [goodWord, Cond.onTables, Cond.keeps, Cond.steady]
theorem blt_ge {a b : Nat} (h : Nat.blt a b = false) : b ≤ a := Nat.le_of_not_lt fun q => by
  rw [show Nat.blt a b = true from by simpa using q] at h
  cases h
theorem blt_of_ge {a b : Nat} (h : b ≤ a) : Nat.blt a b = false := by
  cases hh : Nat.blt a b with
  | false => rfl
  | true => have := blt_lt hh; omega
theorem zA_old {z : Nat} {s : State} (hz : z ≤ s.heap.size) : ∀ q : Nat, s.heap.size ≤ q → zA z q := fun q h => by show z ≤ q; omega
theorem sv_map {z : Nat} {sv : Nat → Value} {i : Nat} {v : Value} {r : List Value} (h : sv i = v) : (Value.retAddr i :: r).map (cv z sv) = v :: r.map (cv z sv) := by rw [List.map_cons]; show sv i :: _ = _; rw [h]
theorem nfit_ok {ty : FieldType} {x : Int32} (h : nfit ty x = true) : narrow ty (.int x) = .int x ∧ fits ty (.int x) = true := by
  unfold nfit at h
  rw [Bool.and_eq_true] at h
  exact ⟨of_decide_eq_true h.1, h.2⟩
set_option maxHeartbeats 4000000 in
theorem st_arraylength (C : Cx p s m args meth c k z X sv ca D) { np a b c0 : Nat} {v : Int32} {pc pc' : Nat} {ls ls' : List (Option Value)} {st st' : List Value} {h h' : Hp} (hl : okE k pc (.arraylength, np, a, b, c0, v) = true) (hs : stp X (.arraylength, np, a, b, c0, v) ls st h = some (pc', ls', st', h'))
    (hL : lvR z sv LS (mL k) ls) (hW : Wd z ca D H h) (hS : va_S (zA z) s.heap H locs) (hc : cells + h'.1.length ≤ R.cells + h.1.length) (hsl : slots + ksum h'.1 ≤ R.slots + ksum h.1) (hfr : 1 ≤ R.frames) (hlo : 60 ≤ R.locals)
    (kk : ∀ (LS' : Array Slot) (H' : Heap) (locs' : List Loc) (cells' slots' : Nat), lvR z sv LS' (mL k) ls' → Wd z ca D H' h' → va_S (zA z) s.heap H' locs' → cells' + h.1.length = cells + h'.1.length → slots' + ksum h.1 = slots + ksum h'.1 → W p l e' R s m args below meth c H' locs' cells' slots' Q (F0 m pc' LS' (st'.map (cv z sv)))) : W p l e' R s m args below meth c H locs cells slots Q (F0 m pc LS (st.map (cv z sv))) := by
  have hC : Cx p s m args meth c k z X sv ca D := C
  obtain ⟨hx, hb, hml, hown, hts, hnm, hK, hSp, hz⟩ := C
  unfold okE at hl
  simp only [Bool.and_eq_true, Bool.or_eq_true, decide_eq_true_eq] at hl
  obtain ⟨⟨hd, hsw⟩, hX⟩ := hl
  have hnp : np = pc + 1 := Nat.eq_of_beq_eq_true (hsw.resolve_left (fun q => Bool.noConfusion q))
  subst hnp
  have hd : decode (mB k) pc = .ok (.arraylength, 1) := by
    have hd2 := hd
    rwa [Nat.add_sub_cancel_left] at hd2
  dsimp only [stp] at hs
  split at hs
  · rename_i q r
    split at hs
    · rename_i t n hk
      obtain ⟨h1, hs⟩ := cond_none hs
      cases hs
      have he := wrl_get (z := z) (ca := ca) hk
      rw [Bool.or_eq_false_iff] at h1
      obtain ⟨h1, h24⟩ := h1
      have hc20 := blt_ge h1
      have hc24 := blt_ge h24
      by_cases h23 : t < 23
      · have ecel : cel z ca t n (h.2.1 q) (h.2.2 q) = .inl (ca t, n, .inl (h.2.1 q)) := by
          have : Nat.blt t 23 = true := by simpa using h23
          simp [cel, h1, this]
        rw [ecel] at he
        rcases (by omega : t = 20 ∨ t = 21 ∨ t = 22) with rfl | rfl | rfl
        · exact va_alen hx hb hK hW.2.2 q 0 he rfl rfl hd (kk _ _ _ _ _ hL hW hS rfl rfl)
        · exact va_alen hx hb hK hW.2.2 q 1 he rfl rfl hd (kk _ _ _ _ _ hL hW hS rfl rfl)
        · exact va_alen hx hb hK hW.2.2 q 2 he rfl rfl hd (kk _ _ _ _ _ hL hW hS rfl rfl)
      · have ecel : cel z ca t n (h.2.1 q) (h.2.2 q) = .inl (ca t, n, .inr (.inr (.inr (.inr (fun k => (h.2.2 q k).map (z + ·)))))) := by
          have : Nat.blt t 23 = false := blt_of_ge (by omega)
          simp [cel, h1, this]
        rw [ecel] at he
        by_cases h23' : t = 23
        · subst h23'
          exact va_alen hx hb hK hW.2.2 q 3 he rfl rfl hd (kk _ _ _ _ _ hL hW hS rfl rfl)
        · by_cases h24' : t = 24
          · subst h24'
            exact va_alen hx hb hK hW.2.2 q 4 he rfl rfl hd (kk _ _ _ _ _ hL hW hS rfl rfl)
          · omega
    · cases hs
  · rename_i j r
    obtain ⟨h1, hs⟩ := cond_none hs
    have hj13 := blt_ge h1
    cases h26 : Nat.blt j 26 with
    | true =>
      rw [h26] at hs
      cases hs
      have hj26 := blt_lt h26
      obtain ⟨q, t, a1, a2, a3, a4, a5, a6, a7⟩ := hSp.1 (j - 13) (by omega)
      rw [show 13 + (j - 13) = j by omega] at a2
      rw [sv_map a2]
      exact va_tlen hx hb a7 hS rfl hd (kk _ _ _ _ _ hL hW hS rfl rfl)
    | false =>
      rw [h26] at hs
      cases h26' : Nat.beq j 26 with
      | true =>
        rw [h26'] at hs
        cases hs
        have e := Nat.eq_of_beq_eq_true h26'
        subst e
        obtain ⟨t, a1, a2, a3⟩ := hSp.2.2.1
        rw [sv_map a1]
        exact va_tlen hx hb a3 hS rfl hd (kk _ _ _ _ _ hL hW hS rfl rfl)
      | false =>
        rw [h26'] at hs
        obtain ⟨h28, hs⟩ := cond_if hs
        cases hs
        have e := Nat.eq_of_beq_eq_true h28
        subst e
        obtain ⟨b9, a1, a2, a3⟩ := hSp.2.2.2.2.1
        rw [sv_map a1]
        exact va_slen hx hb a3 (by omega) (by show ¬ z ≤ b9; omega) hS hd (kk _ _ _ _ _ hL hW hS rfl rfl)
  · cases hs
set_option maxHeartbeats 4000000 in
theorem st_iaload (C : Cx p s m args meth c k z X sv ca D) { np a b c0 : Nat} {v : Int32} {pc pc' : Nat} {ls ls' : List (Option Value)} {st st' : List Value} {h h' : Hp} (hl : okE k pc (.iaload, np, a, b, c0, v) = true) (hs : stp X (.iaload, np, a, b, c0, v) ls st h = some (pc', ls', st', h'))
    (hL : lvR z sv LS (mL k) ls) (hW : Wd z ca D H h) (hS : va_S (zA z) s.heap H locs) (hc : cells + h'.1.length ≤ R.cells + h.1.length) (hsl : slots + ksum h'.1 ≤ R.slots + ksum h.1) (hfr : 1 ≤ R.frames) (hlo : 60 ≤ R.locals)
    (kk : ∀ (LS' : Array Slot) (H' : Heap) (locs' : List Loc) (cells' slots' : Nat), lvR z sv LS' (mL k) ls' → Wd z ca D H' h' → va_S (zA z) s.heap H' locs' → cells' + h.1.length = cells + h'.1.length → slots' + ksum h.1 = slots + ksum h'.1 → W p l e' R s m args below meth c H' locs' cells' slots' Q (F0 m pc' LS' (st'.map (cv z sv)))) : W p l e' R s m args below meth c H locs cells slots Q (F0 m pc LS (st.map (cv z sv))) := by
  have hC : Cx p s m args meth c k z X sv ca D := C
  obtain ⟨hx, hb, hml, hown, hts, hnm, hK, hSp, hz⟩ := C
  unfold okE at hl
  simp only [Bool.and_eq_true, Bool.or_eq_true, decide_eq_true_eq] at hl
  obtain ⟨⟨hd, hsw⟩, hX⟩ := hl
  have hnp : np = pc + 1 := Nat.eq_of_beq_eq_true (hsw.resolve_left (fun q => Bool.noConfusion q))
  subst hnp
  have hd : decode (mB k) pc = .ok (.iaload, 1) := by
    have hd2 := hd
    rwa [Nat.add_sub_cancel_left] at hd2
  dsimp only [stp] at hs
  split at hs
  · rename_i i q r
    split at hs
    · rename_i t n hk
      obtain ⟨h1, hs⟩ := cond_if hs
      obtain ⟨h2, hs⟩ := cond_none hs
      cases hs
      have e := Nat.eq_of_beq_eq_true h1
      subst e
      exact va_iald hx hb hK hW.2.2 q 0 (wrl_get hk) rfl (vpin_of h2) hd (kk _ _ _ _ _ hL hW hS rfl rfl)
    · cases hs
  · rename_i i j r
    cases h28 : Nat.beq j 28 with
    | true =>
      rw [h28] at hs
      obtain ⟨h2, hs⟩ := cond_none hs
      cases hs
      have e := Nat.eq_of_beq_eq_true h28
      subst e
      obtain ⟨b9, a1, a2, a3⟩ := hSp.2.2.2.2.1
      have e0 : (Value.int i :: Value.retAddr 28 :: r).map (cv z sv) = .int i :: .ref b9 :: r.map (cv z sv) := by rw [List.map_cons, sv_map a1]; rfl
      rw [e0]
      exact va_sld hx hb a3 (by omega) (by show ¬ z ≤ b9; omega) hS (vpin_of h2) hd (kk _ _ _ _ _ hL hW hS rfl rfl)
    | false =>
      rw [h28] at hs
      obtain ⟨h26, hs⟩ := cond_if hs
      obtain ⟨h2, hs⟩ := cond_none hs
      cases hs
      have e := Nat.eq_of_beq_eq_true h26
      subst e
      obtain ⟨t, a1, a2, a3⟩ := hSp.2.2.1
      have e0 : (Value.int i :: Value.retAddr 26 :: r).map (cv z sv) = .int i :: .ref t :: r.map (cv z sv) := by rw [List.map_cons, sv_map a1]; rfl
      rw [e0]
      exact va_ti hx hb a3 hS (vpin_of h2) rfl hd (kk _ _ _ _ _ hL hW hS rfl rfl)
  · cases hs
set_option maxHeartbeats 4000000 in
theorem st_baload (C : Cx p s m args meth c k z X sv ca D) { np a b c0 : Nat} {v : Int32} {pc pc' : Nat} {ls ls' : List (Option Value)} {st st' : List Value} {h h' : Hp} (hl : okE k pc (.baload, np, a, b, c0, v) = true) (hs : stp X (.baload, np, a, b, c0, v) ls st h = some (pc', ls', st', h'))
    (hL : lvR z sv LS (mL k) ls) (hW : Wd z ca D H h) (hS : va_S (zA z) s.heap H locs) (hc : cells + h'.1.length ≤ R.cells + h.1.length) (hsl : slots + ksum h'.1 ≤ R.slots + ksum h.1) (hfr : 1 ≤ R.frames) (hlo : 60 ≤ R.locals)
    (kk : ∀ (LS' : Array Slot) (H' : Heap) (locs' : List Loc) (cells' slots' : Nat), lvR z sv LS' (mL k) ls' → Wd z ca D H' h' → va_S (zA z) s.heap H' locs' → cells' + h.1.length = cells + h'.1.length → slots' + ksum h.1 = slots + ksum h'.1 → W p l e' R s m args below meth c H' locs' cells' slots' Q (F0 m pc' LS' (st'.map (cv z sv)))) : W p l e' R s m args below meth c H locs cells slots Q (F0 m pc LS (st.map (cv z sv))) := by
  have hC : Cx p s m args meth c k z X sv ca D := C
  obtain ⟨hx, hb, hml, hown, hts, hnm, hK, hSp, hz⟩ := C
  unfold okE at hl
  simp only [Bool.and_eq_true, Bool.or_eq_true, decide_eq_true_eq] at hl
  obtain ⟨⟨hd, hsw⟩, hX⟩ := hl
  have hnp : np = pc + 1 := Nat.eq_of_beq_eq_true (hsw.resolve_left (fun q => Bool.noConfusion q))
  subst hnp
  have hd : decode (mB k) pc = .ok (.baload, 1) := by
    have hd2 := hd
    rwa [Nat.add_sub_cancel_left] at hd2
  dsimp only [stp] at hs
  split at hs
  · rename_i i q r
    split at hs
    · rename_i t n hk
      obtain ⟨h1, hs⟩ := cond_if hs
      obtain ⟨h2, hs⟩ := cond_none hs
      cases hs
      rcases Bool.or_eq_true_iff.mp h1 with h1 | h1
      · have e := Nat.eq_of_beq_eq_true h1
        subst e
        exact va_bald hx hb hK hW.2.2 q 1 (wrl_get hk) rfl (vpin_of h2) hd (kk _ _ _ _ _ hL hW hS rfl rfl)
      · have e := Nat.eq_of_beq_eq_true h1
        subst e
        exact va_bald hx hb hK hW.2.2 q 2 (wrl_get hk) rfl (vpin_of h2) hd (kk _ _ _ _ _ hL hW hS rfl rfl)
    · cases hs
  · rename_i i j r
    obtain ⟨h1, hs⟩ := cond_none hs
    obtain ⟨h26, hs⟩ := cond_if hs
    obtain ⟨h2, hs⟩ := cond_none hs
    cases hs
    have hj13 := blt_ge h1
    have hj26 := blt_lt h26
    obtain ⟨q, t, a1, a2, a3, a4, a5, a6, a7⟩ := hSp.1 (j - 13) (by omega)
    rw [show 13 + (j - 13) = j by omega] at a2
    have e0 : (Value.int i :: Value.retAddr j :: r).map (cv z sv) = .int i :: .ref t :: r.map (cv z sv) := by rw [List.map_cons, sv_map a2]; rfl
    rw [e0]
    exact va_tb hx hb a7 hS (vpin_of h2) rfl hd (kk _ _ _ _ _ hL hW hS rfl rfl)
  · cases hs
set_option maxHeartbeats 4000000 in
theorem st_aaload (C : Cx p s m args meth c k z X sv ca D) { np a b c0 : Nat} {v : Int32} {pc pc' : Nat} {ls ls' : List (Option Value)} {st st' : List Value} {h h' : Hp} (hl : okE k pc (.aaload, np, a, b, c0, v) = true) (hs : stp X (.aaload, np, a, b, c0, v) ls st h = some (pc', ls', st', h'))
    (hL : lvR z sv LS (mL k) ls) (hW : Wd z ca D H h) (hS : va_S (zA z) s.heap H locs) (hc : cells + h'.1.length ≤ R.cells + h.1.length) (hsl : slots + ksum h'.1 ≤ R.slots + ksum h.1) (hfr : 1 ≤ R.frames) (hlo : 60 ≤ R.locals)
    (kk : ∀ (LS' : Array Slot) (H' : Heap) (locs' : List Loc) (cells' slots' : Nat), lvR z sv LS' (mL k) ls' → Wd z ca D H' h' → va_S (zA z) s.heap H' locs' → cells' + h.1.length = cells + h'.1.length → slots' + ksum h.1 = slots + ksum h'.1 → W p l e' R s m args below meth c H' locs' cells' slots' Q (F0 m pc' LS' (st'.map (cv z sv)))) : W p l e' R s m args below meth c H locs cells slots Q (F0 m pc LS (st.map (cv z sv))) := by
  have hC : Cx p s m args meth c k z X sv ca D := C
  obtain ⟨hx, hb, hml, hown, hts, hnm, hK, hSp, hz⟩ := C
  unfold okE at hl
  simp only [Bool.and_eq_true, Bool.or_eq_true, decide_eq_true_eq] at hl
  obtain ⟨⟨hd, hsw⟩, hX⟩ := hl
  have hnp : np = pc + 1 := Nat.eq_of_beq_eq_true (hsw.resolve_left (fun q => Bool.noConfusion q))
  subst hnp
  have hd : decode (mB k) pc = .ok (.aaload, 1) := by
    have hd2 := hd
    rwa [Nat.add_sub_cancel_left] at hd2
  dsimp only [stp] at hs
  split at hs
  · rename_i i q r
    split at hs
    · rename_i t n hk
      obtain ⟨h1, hs⟩ := cond_if hs
      obtain ⟨h2, hs⟩ := cond_none hs
      cases hs
      have hgo := kk _ _ _ _ _ hL hW hS rfl rfl
      rw [List.map_cons, xv_cv] at hgo
      rcases Bool.or_eq_true_iff.mp h1 with h1 | h1
      · have e := Nat.eq_of_beq_eq_true h1
        subst e
        exact va_aldq hx hb hK hW.2.2 q 3 (wrl_get hk) rfl (vpin_of h2) hd hgo
      · have e := Nat.eq_of_beq_eq_true h1
        subst e
        exact va_aldq hx hb hK hW.2.2 q 4 (wrl_get hk) rfl (vpin_of h2) hd hgo
    · cases hs
  · cases hs
theorem cell_upd (cA : ClassId) (n : Nat) (f : Nat → Int32) (i : Nat) (x : Int32) (v : Value) (hv : v = .int x) : (arrV cA n (fun j => .int (f j))).setSlot i v = vp_cell cA (n, .inl (upd f i x)) := by
  rw [vp_cell_i, arrV_store]
  congr 1
  funext q
  by_cases hq : q = i
  · subst hq
    simp [updV, upd, hv]
  · simp [updV, upd, hq]
theorem cell_updq (cA : ClassId) (n : Nat) (f : Nat → Option Nat) (i : Nat) (x : Option Nat) : (arrV cA n (fun j => va_rf (f j))).setSlot i (va_rf x) = vp_cell cA (n, .inr (.inr (.inr (.inr (va_up f i x))))) := by
  rw [vp_cell_q, arrV_store]
  congr 1
  funext q
  by_cases hq : q = i
  · subst hq
    simp [updV, va_up]
  · simp [updV, va_up, hq]
set_option maxHeartbeats 4000000 in
theorem st_iastore (C : Cx p s m args meth c k z X sv ca D) { np a b c0 : Nat} {v : Int32} {pc pc' : Nat} {ls ls' : List (Option Value)} {st st' : List Value} {h h' : Hp} (hl : okE k pc (.iastore, np, a, b, c0, v) = true) (hs : stp X (.iastore, np, a, b, c0, v) ls st h = some (pc', ls', st', h'))
    (hL : lvR z sv LS (mL k) ls) (hW : Wd z ca D H h) (hS : va_S (zA z) s.heap H locs) (hc : cells + h'.1.length ≤ R.cells + h.1.length) (hsl : slots + ksum h'.1 ≤ R.slots + ksum h.1) (hfr : 1 ≤ R.frames) (hlo : 60 ≤ R.locals)
    (kk : ∀ (LS' : Array Slot) (H' : Heap) (locs' : List Loc) (cells' slots' : Nat), lvR z sv LS' (mL k) ls' → Wd z ca D H' h' → va_S (zA z) s.heap H' locs' → cells' + h.1.length = cells + h'.1.length → slots' + ksum h.1 = slots + ksum h'.1 → W p l e' R s m args below meth c H' locs' cells' slots' Q (F0 m pc' LS' (st'.map (cv z sv)))) : W p l e' R s m args below meth c H locs cells slots Q (F0 m pc LS (st.map (cv z sv))) := by
  have hC : Cx p s m args meth c k z X sv ca D := C
  obtain ⟨hx, hb, hml, hown, hts, hnm, hK, hSp, hz⟩ := C
  unfold okE at hl
  simp only [Bool.and_eq_true, Bool.or_eq_true, decide_eq_true_eq] at hl
  obtain ⟨⟨hd, hsw⟩, hX⟩ := hl
  have hnp : np = pc + 1 := Nat.eq_of_beq_eq_true (hsw.resolve_left (fun q => Bool.noConfusion q))
  subst hnp
  have hd : decode (mB k) pc = .ok (.iastore, 1) := by
    have hd2 := hd
    rwa [Nat.add_sub_cancel_left] at hd2
  dsimp only [stp] at hs
  split at hs
  · rename_i x i q r
    split at hs
    · rename_i t n hk
      obtain ⟨h1, hs⟩ := cond_if hs
      obtain ⟨h2, hs⟩ := cond_none hs
      cases hs
      have e := Nat.eq_of_beq_eq_true h1
      subst e
      have hP := hW.2.2 q _ (wrl_get hk)
      refine W.iast hx hb (show H[z + q]? = some (arrV (ca 20) n (fun j => .int (h.2.1 q j))) from hP) ((hK.2 0 _ rfl).1 n (fun j => .int (h.2.1 q j))) (fun q => by cases q) (by rw [arrV_size]; exact vpin_of h2) rfl rfl hd fun H1 e z1 oq => ?_
      refine kk _ _ _ _ _ hL (hW.put hk z1 oq (fun a ha => upI_ne ha) (fun a ha => rfl) ?_) (hS.put z1 oq (by show z ≤ z + q; omega)) rfl rfl
      rw [upI_eq]
      show H1[z + q]? = some (vp_cell _ _)
      rw [e]
      exact congrArg some (cell_upd _ _ _ _ _ _ rfl)
    · cases hs
  · cases hs
set_option maxHeartbeats 4000000 in
theorem st_bastore (C : Cx p s m args meth c k z X sv ca D) { np a b c0 : Nat} {v : Int32} {pc pc' : Nat} {ls ls' : List (Option Value)} {st st' : List Value} {h h' : Hp} (hl : okE k pc (.bastore, np, a, b, c0, v) = true) (hs : stp X (.bastore, np, a, b, c0, v) ls st h = some (pc', ls', st', h'))
    (hL : lvR z sv LS (mL k) ls) (hW : Wd z ca D H h) (hS : va_S (zA z) s.heap H locs) (hc : cells + h'.1.length ≤ R.cells + h.1.length) (hsl : slots + ksum h'.1 ≤ R.slots + ksum h.1) (hfr : 1 ≤ R.frames) (hlo : 60 ≤ R.locals)
    (kk : ∀ (LS' : Array Slot) (H' : Heap) (locs' : List Loc) (cells' slots' : Nat), lvR z sv LS' (mL k) ls' → Wd z ca D H' h' → va_S (zA z) s.heap H' locs' → cells' + h.1.length = cells + h'.1.length → slots' + ksum h.1 = slots + ksum h'.1 → W p l e' R s m args below meth c H' locs' cells' slots' Q (F0 m pc' LS' (st'.map (cv z sv)))) : W p l e' R s m args below meth c H locs cells slots Q (F0 m pc LS (st.map (cv z sv))) := by
  have hC : Cx p s m args meth c k z X sv ca D := C
  obtain ⟨hx, hb, hml, hown, hts, hnm, hK, hSp, hz⟩ := C
  unfold okE at hl
  simp only [Bool.and_eq_true, Bool.or_eq_true, decide_eq_true_eq] at hl
  obtain ⟨⟨hd, hsw⟩, hX⟩ := hl
  have hnp : np = pc + 1 := Nat.eq_of_beq_eq_true (hsw.resolve_left (fun q => Bool.noConfusion q))
  subst hnp
  have hd : decode (mB k) pc = .ok (.bastore, 1) := by
    have hd2 := hd
    rwa [Nat.add_sub_cancel_left] at hd2
  dsimp only [stp] at hs
  split at hs
  · rename_i x i q r
    split at hs
    · rename_i t n hk
      obtain ⟨h1, hs⟩ := cond_if hs
      obtain ⟨h2, hs⟩ := cond_none hs
      cases hs
      rw [Bool.and_eq_true] at h1
      obtain ⟨h1, h3⟩ := h1
      rcases Bool.or_eq_true_iff.mp h1 with h1 | h1
      · have e := Nat.eq_of_beq_eq_true h1
        subst e
        have hnf := nfit_ok (show nfit .byte x = true from h3)
        have hP := hW.2.2 q _ (wrl_get hk)
        refine W.bast hx hb (show H[z + q]? = some (arrV (ca 21) n (fun j => .int (h.2.1 q j))) from hP) ((hK.2 1 _ rfl).1 n (fun j => .int (h.2.1 q j))) (fun q => by cases q) (by rw [arrV_size]; exact vpin_of h2) rfl rfl hd fun H1 e z1 oq => ?_
        refine kk _ _ _ _ _ hL (hW.put hk z1 oq (fun a ha => upI_ne ha) (fun a ha => rfl) ?_) (hS.put z1 oq (by show z ≤ z + q; omega)) rfl rfl
        rw [upI_eq]
        show H1[z + q]? = some (vp_cell _ _)
        rw [e]
        exact congrArg some (cell_upd _ _ _ _ _ _ hnf.1)
      · have e := Nat.eq_of_beq_eq_true h1
        subst e
        have hnf := nfit_ok (show nfit .byte x = true from h3)
        have hP := hW.2.2 q _ (wrl_get hk)
        refine W.bast hx hb (show H[z + q]? = some (arrV (ca 22) n (fun j => .int (h.2.1 q j))) from hP) ((hK.2 2 _ rfl).1 n (fun j => .int (h.2.1 q j))) (fun q => by cases q) (by rw [arrV_size]; exact vpin_of h2) rfl rfl hd fun H1 e z1 oq => ?_
        refine kk _ _ _ _ _ hL (hW.put hk z1 oq (fun a ha => upI_ne ha) (fun a ha => rfl) ?_) (hS.put z1 oq (by show z ≤ z + q; omega)) rfl rfl
        rw [upI_eq]
        show H1[z + q]? = some (vp_cell _ _)
        rw [e]
        exact congrArg some (cell_upd _ _ _ _ _ _ hnf.1)
    · cases hs
  · cases hs
theorem upR_map {G : Nat → Nat → Option Nat} {q i z : Nat} {v : Option Nat} : (fun k => (upR G q i v q k).map (z + ·)) = va_up (fun k => (G q k).map (z + ·)) i (v.map (z + ·)) := by
  funext k
  by_cases hq : k = i
  · subst hq
    simp [upR, va_up]
  · simp [upR, va_up, hq]
set_option maxHeartbeats 4000000 in
/-- a reference goes into an array of references -/
theorem wd_aast (C : Cx p s m args meth c k z X sv ca D) {t n q i0 : Nat} {pc : Nat} {h : Hp} {rest : List Value} {i : Int32} {E : String} (hW : Wd z ca D H h) (hS : va_S (zA z) s.heap H locs) (hk : h.1[q]? = some (t, n)) (hin : vp_in i n) (hT : (tys ca)[i0]? = some (ca t, .object E)) (h20 : Nat.blt t 20 = false) (h23 : Nat.blt t 23 = false) (hd : decode (mB k) pc = .ok (.aastore, 1)) (v : Option Nat)
    (hv : ∀ y, v = some y → ∃ t' n', h.1[y]? = some (t', n') ∧ t' < 13 ∧ (cn t' = E ∨ Cond.castable (cn t') E ∈ lw_tbl))
    (kk : ∀ (H1 : Heap) (locs1 : List Loc), Wd z ca D H1 (h.1, h.2.1, upR h.2.2 q i.toNatClampNeg v) → va_S (zA z) s.heap H1 locs1 → W p l e' R s m args below meth c H1 locs1 cells slots Q (F0 m (pc + 1) LS rest)) : W p l e' R s m args below meth c H locs cells slots Q (F0 m pc LS (va_rf (v.map (z + ·)) :: .int i :: .ref (z + q) :: rest)) := by
  obtain ⟨hx, hb, hml, hown, hts, hnm, hK, hSp, hz⟩ := C
  have hlt : i.toNatClampNeg < n := Nat.not_le.mp fun q => hin (Or.inr q)
  have h0 : ¬ i < 0 := fun q => hin (Or.inl q)
  have ecel : ∀ (f : Nat → Int32) (g : Nat → Option Nat), cel z ca t n f g = .inl (ca t, n, .inr (.inr (.inr (.inr (fun k => (g k).map (z + ·)))))) := fun f g => by simp [cel, h20, h23]
  have hP := hW.2.2 q _ (wrl_get hk)
  rw [ecel] at hP
  have hP : H[z + q]? = some (arrV (ca t) n (fun j => va_rf ((h.2.2 q j).map (z + ·)))) := hP
  have fin : ∀ H1 : Heap, H1[z + q]? = some ((arrV (ca t) n (fun j => va_rf ((h.2.2 q j).map (z + ·)))).setSlot i.toNatClampNeg (va_rf (v.map (z + ·)))) → H1.size = H.size → (∀ a : Nat, a ≠ z + q → H1[a]? = H[a]?) → W p l e' R s m args below meth c H1 (locs ++ [⟨z + q, i.toNatClampNeg⟩]) cells slots Q (F0 m (pc + 1) LS rest) := by
    intro H1 e z1 oq
    refine kk _ _ (hW.put hk z1 oq (fun a ha => rfl) (fun a ha => upR_ne ha) ?_) (hS.put z1 oq (by show z ≤ z + q; omega))
    rw [ecel, upR_map]
    show H1[z + q]? = some (vp_cell _ _)
    rw [e]
    exact congrArg some (cell_updq _ _ _ _ _)
  cases v with
  | none => exact va_WaastN (C := E) hx hb hP ((hK.2 i0 _ hT).1 n (fun j => va_rf ((h.2.2 q j).map (z + ·)))) (fun h => by cases h) (by rw [arrV_size]; exact hin) rfl rfl hd fin
  | some y =>
    obtain ⟨t', n', hk', ht', hca⟩ := hv y rfl
    obtain ⟨hn', he'⟩ := obj_cell hW hk' ht'
    obtain ⟨r', hr', cellV, g1, g2, g3, -⟩ := hW.2.2 y _ he'
    have hcl := (cls_all t' ht').2.1
    have hnm9 := (cls_all t' ht').2.2
    have hcls := (hK.1 t' _ hcl).2
    obtain ⟨kA, comp, k1, k2, k3, -⟩ := (hK.2 i0 _ hT).2
    obtain ⟨kC, hkC, -⟩ := hcls.2
    have hasg : ∃ kE, s.vm.classes[comp]? = some kE ∧ s.vm.assignable (D.1 t') comp = true := by
      rcases hca with hca | hca
      · have hcomp : comp = D.1 t' := by
          have h9 := hcls.1
          rw [hnm9, hca] at h9
          exact Option.some.inj (k3.symm.trans h9)
        subst hcomp
        exact ⟨kC, hkC, va_assign hcls⟩
      · obtain ⟨kE, hkE, -⟩ := Vm.findClass_spec k3
        obtain ⟨c0, t1, f1, f2, f3⟩ := Cond.castable_spec (va_Nw.use (A := args) rfl (hSp.2.2.2.2.2.1 _ hca rfl))
        have h9 := hcls.1
        rw [hnm9] at h9
        cases h9.symm.trans f1
        cases k3.symm.trans f2
        exact ⟨kE, hkE, f3⟩
    obtain ⟨kE, hkE, hf3⟩ := hasg
    exact W.aast hx hb hP (fun q h => by cases h) (fun h => by cases h) k1 k2 rfl hkE ⟨h0, by rw [arrV_size]; exact hlt⟩ g1 (fun q h => by rw [g3] at h; cases h) (by rw [g2]; exact hkC) (by rw [g2]; exact hf3) rfl rfl hd fin
set_option maxHeartbeats 4000000 in
theorem st_aastore (C : Cx p s m args meth c k z X sv ca D) { np a b c0 : Nat} {v : Int32} {pc pc' : Nat} {ls ls' : List (Option Value)} {st st' : List Value} {h h' : Hp} (hl : okE k pc (.aastore, np, a, b, c0, v) = true) (hs : stp X (.aastore, np, a, b, c0, v) ls st h = some (pc', ls', st', h'))
    (hL : lvR z sv LS (mL k) ls) (hW : Wd z ca D H h) (hS : va_S (zA z) s.heap H locs) (hc : cells + h'.1.length ≤ R.cells + h.1.length) (hsl : slots + ksum h'.1 ≤ R.slots + ksum h.1) (hfr : 1 ≤ R.frames) (hlo : 60 ≤ R.locals)
    (kk : ∀ (LS' : Array Slot) (H' : Heap) (locs' : List Loc) (cells' slots' : Nat), lvR z sv LS' (mL k) ls' → Wd z ca D H' h' → va_S (zA z) s.heap H' locs' → cells' + h.1.length = cells + h'.1.length → slots' + ksum h.1 = slots + ksum h'.1 → W p l e' R s m args below meth c H' locs' cells' slots' Q (F0 m pc' LS' (st'.map (cv z sv)))) : W p l e' R s m args below meth c H locs cells slots Q (F0 m pc LS (st.map (cv z sv))) := by
  have hC : Cx p s m args meth c k z X sv ca D := C
  obtain ⟨hx, hb, hml, hown, hts, hnm, hK, hSp, hz⟩ := C
  unfold okE at hl
  simp only [Bool.and_eq_true, Bool.or_eq_true, decide_eq_true_eq] at hl
  obtain ⟨⟨hd, hsw⟩, hX⟩ := hl
  have hnp : np = pc + 1 := Nat.eq_of_beq_eq_true (hsw.resolve_left (fun q => Bool.noConfusion q))
  subst hnp
  have hd : decode (mB k) pc = .ok (.aastore, 1) := by
    have hd2 := hd
    rwa [Nat.add_sub_cancel_left] at hd2
  dsimp only [stp] at hs
  split at hs
  · rename_i i q r
    split at hs
    · rename_i t n hk
      obtain ⟨h1, hs⟩ := cond_if hs
      obtain ⟨h2, hs⟩ := cond_none hs
      cases hs
      rcases Bool.or_eq_true_iff.mp h1 with h1 | h1
      · have e := Nat.eq_of_beq_eq_true h1
        subst e
        exact wd_aast (i0 := 3) hC hW hS hk (vpin_of h2) rfl rfl rfl hd none (fun y hy => by cases hy) (fun H1 locs1 hW1 hS1 => kk _ _ _ _ _ hL hW1 hS1 rfl rfl)
      · have e := Nat.eq_of_beq_eq_true h1
        subst e
        exact wd_aast (i0 := 4) hC hW hS hk (vpin_of h2) rfl rfl rfl hd none (fun y hy => by cases hy) (fun H1 locs1 hW1 hS1 => kk _ _ _ _ _ hL hW1 hS1 rfl rfl)
    · cases hs
  · rename_i y i q r
    split at hs
    · rename_i t n t' n' hk hk'
      obtain ⟨h1, hs⟩ := cond_if hs
      obtain ⟨h2, hs⟩ := cond_none hs
      cases hs
      simp only [Bool.or_eq_true, Bool.and_eq_true] at h1
      rcases h1 with ⟨h1, h3⟩ | ⟨h1, h3⟩
      · have e := Nat.eq_of_beq_eq_true h1
        subst e
        refine wd_aast (i0 := 3) hC hW hS hk (vpin_of h2) rfl rfl rfl hd (some y) (fun y' hy => ?_) (fun H1 locs1 hW1 hS1 => kk _ _ _ _ _ hL hW1 hS1 rfl rfl)
        cases hy
        have h4 : t' = 6 ∨ (t' = 1 ∨ t' = 2 ∨ t' = 4 ∨ t' = 5 ∨ t' = 7 ∨ t' = 9) := by
          simp [fam] at h3
          omega
        refine ⟨t', n', hk', by omega, ?_⟩
        rcases h4 with h4 | h4
        · subst h4
          exact Or.inl rfl
        · exact Or.inr (castM t' h4)
      · have e := Nat.eq_of_beq_eq_true h1
        subst e
        have e2 := Nat.eq_of_beq_eq_true h3
        subst e2
        refine wd_aast (i0 := 4) hC hW hS hk (vpin_of h2) rfl rfl rfl hd (some y) (fun y' hy => ?_) (fun H1 locs1 hW1 hS1 => kk _ _ _ _ _ hL hW1 hS1 rfl rfl)
        cases hy
        exact ⟨10, n', hk', by omega, Or.inl rfl⟩
    · cases hs
  · cases hs
set_option maxHeartbeats 4000000 in
theorem st_getstatic (C : Cx p s m args meth c k z X sv ca D) {i : Nat} { np a b c0 : Nat} {v : Int32} {pc pc' : Nat} {ls ls' : List (Option Value)} {st st' : List Value} {h h' : Hp} (hl : okE k pc (.getstatic i, np, a, b, c0, v) = true) (hs : stp X (.getstatic i, np, a, b, c0, v) ls st h = some (pc', ls', st', h'))
    (hL : lvR z sv LS (mL k) ls) (hW : Wd z ca D H h) (hS : va_S (zA z) s.heap H locs) (hc : cells + h'.1.length ≤ R.cells + h.1.length) (hsl : slots + ksum h'.1 ≤ R.slots + ksum h.1) (hfr : 1 ≤ R.frames) (hlo : 60 ≤ R.locals)
    (kk : ∀ (LS' : Array Slot) (H' : Heap) (locs' : List Loc) (cells' slots' : Nat), lvR z sv LS' (mL k) ls' → Wd z ca D H' h' → va_S (zA z) s.heap H' locs' → cells' + h.1.length = cells + h'.1.length → slots' + ksum h.1 = slots + ksum h'.1 → W p l e' R s m args below meth c H' locs' cells' slots' Q (F0 m pc' LS' (st'.map (cv z sv)))) : W p l e' R s m args below meth c H locs cells slots Q (F0 m pc LS (st.map (cv z sv))) := by
  have hC : Cx p s m args meth c k z X sv ca D := C
  obtain ⟨hx, hb, hml, hown, hts, hnm, hK, hSp, hz⟩ := C
  unfold okE at hl
  simp only [Bool.and_eq_true, Bool.or_eq_true, decide_eq_true_eq] at hl
  obtain ⟨⟨hd, hsw⟩, hX⟩ := hl
  have hnp : np = pc + 3 := Nat.eq_of_beq_eq_true (hsw.resolve_left (fun q => Bool.noConfusion q))
  subst hnp
  have hd : decode (mB k) pc = .ok (.getstatic i, 3) := by
    have hd2 := hd
    rwa [Nat.add_sub_cancel_left] at hd2
  dsimp only [stp] at hs
  dsimp only [okX] at hX
  cases h0 : Nat.beq b 0 with
  | true =>
    rw [h0] at hX hs
    cases hs
    exact va_gets hx hb hSp.2.1 hS hown (hts _ (TB_in (of_decide_eq_true hX) rfl)) (fun _ h9 => h9) hd (kk _ _ _ _ _ hL hW hS rfl rfl)
  | false =>
    rw [h0] at hX hs
    cases h1 : Nat.beq b 1 with
    | true =>
      rw [h1] at hX hs
      cases hs
      obtain ⟨t, a1, a2, a3⟩ := hSp.2.2.1
      have hgo := kk _ _ _ _ _ hL hW hS rfl rfl
      rw [sv_map a1] at hgo
      exact va_gets hx hb a2 hS hown (hts _ (TB_in (of_decide_eq_true hX) rfl)) (fun _ h9 => h9) hd hgo
    | false =>
      rw [h1] at hX hs
      obtain ⟨h2, hs⟩ := cond_if hs
      rw [h2] at hX
      cases hs
      have hgo := kk _ _ _ _ _ hL hW hS rfl rfl
      exact va_gets hx hb hSp.2.2.2.1 hS hown (hts _ (TB_in (of_decide_eq_true hX) rfl)) (fun _ h9 => h9) hd hgo
set_option maxHeartbeats 4000000 in
theorem st_ldc (C : Cx p s m args meth c k z X sv ca D) {i : Nat} { np a b c0 : Nat} {v : Int32} {pc pc' : Nat} {ls ls' : List (Option Value)} {st st' : List Value} {h h' : Hp} (hl : okE k pc (.ldc i, np, a, b, c0, v) = true) (hs : stp X (.ldc i, np, a, b, c0, v) ls st h = some (pc', ls', st', h'))
    (hL : lvR z sv LS (mL k) ls) (hW : Wd z ca D H h) (hS : va_S (zA z) s.heap H locs) (hc : cells + h'.1.length ≤ R.cells + h.1.length) (hsl : slots + ksum h'.1 ≤ R.slots + ksum h.1) (hfr : 1 ≤ R.frames) (hlo : 60 ≤ R.locals)
    (kk : ∀ (LS' : Array Slot) (H' : Heap) (locs' : List Loc) (cells' slots' : Nat), lvR z sv LS' (mL k) ls' → Wd z ca D H' h' → va_S (zA z) s.heap H' locs' → cells' + h.1.length = cells + h'.1.length → slots' + ksum h.1 = slots + ksum h'.1 → W p l e' R s m args below meth c H' locs' cells' slots' Q (F0 m pc' LS' (st'.map (cv z sv)))) : W p l e' R s m args below meth c H locs cells slots Q (F0 m pc LS (st.map (cv z sv))) := by
  have hC : Cx p s m args meth c k z X sv ca D := C
  obtain ⟨hx, hb, hml, hown, hts, hnm, hK, hSp, hz⟩ := C
  unfold okE at hl
  simp only [Bool.and_eq_true, Bool.or_eq_true, decide_eq_true_eq] at hl
  obtain ⟨⟨hd, hsw⟩, hX⟩ := hl
  have hnp : np = pc + 2 := Nat.eq_of_beq_eq_true (hsw.resolve_left (fun q => Bool.noConfusion q))
  subst hnp
  have hd : decode (mB k) pc = .ok (.ldc i, 2) := by
    have hd2 := hd
    rwa [Nat.add_sub_cancel_left] at hd2
  dsimp only [stp] at hs
  dsimp only [okX] at hX
  cases h0 : Nat.beq a 1 with
  | true =>
    rw [h0] at hX hs
    cases hs
    simp only [cond_true, Bool.and_eq_true, decide_eq_true_eq] at hX
    obtain ⟨⟨x1, x2⟩, x3⟩ := hX
    have e := Nat.eq_of_beq_eq_true x3
    subst e
    obtain ⟨q, t, a1, a2, a3, a4, a5, a6, a7⟩ := hSp.1 b (blt_lt x1)
    have hgo := kk _ _ _ _ _ hL hW hS rfl rfl
    rw [sv_map a1] at hgo
    rw [x2] at hown
    exact va_ldcS hx hb hown a3 hd hgo
  | false =>
    rw [h0] at hX hs
    cases hs
    rw [cond_false] at hX
    have hX2 : decide (Cond.constant (cn (mO k)) i v ∈ lw_tbl) = true := hX
    have hw := hts (.constant (cn (mO k)) i v) (TB_in (of_decide_eq_true hX2) (good_const _ _ _))
    exact lv_ldc hx hb hown hw hd (kk _ _ _ _ _ hL hW hS rfl rfl)
set_option maxHeartbeats 4000000 in
theorem st_ldc_w (C : Cx p s m args meth c k z X sv ca D) {i : Nat} { np a b c0 : Nat} {v : Int32} {pc pc' : Nat} {ls ls' : List (Option Value)} {st st' : List Value} {h h' : Hp} (hl : okE k pc (.ldc_w i, np, a, b, c0, v) = true) (hs : stp X (.ldc_w i, np, a, b, c0, v) ls st h = some (pc', ls', st', h'))
    (hL : lvR z sv LS (mL k) ls) (hW : Wd z ca D H h) (hS : va_S (zA z) s.heap H locs) (hc : cells + h'.1.length ≤ R.cells + h.1.length) (hsl : slots + ksum h'.1 ≤ R.slots + ksum h.1) (hfr : 1 ≤ R.frames) (hlo : 60 ≤ R.locals)
    (kk : ∀ (LS' : Array Slot) (H' : Heap) (locs' : List Loc) (cells' slots' : Nat), lvR z sv LS' (mL k) ls' → Wd z ca D H' h' → va_S (zA z) s.heap H' locs' → cells' + h.1.length = cells + h'.1.length → slots' + ksum h.1 = slots + ksum h'.1 → W p l e' R s m args below meth c H' locs' cells' slots' Q (F0 m pc' LS' (st'.map (cv z sv)))) : W p l e' R s m args below meth c H locs cells slots Q (F0 m pc LS (st.map (cv z sv))) := by
  have hC : Cx p s m args meth c k z X sv ca D := C
  obtain ⟨hx, hb, hml, hown, hts, hnm, hK, hSp, hz⟩ := C
  unfold okE at hl
  simp only [Bool.and_eq_true, Bool.or_eq_true, decide_eq_true_eq] at hl
  obtain ⟨⟨hd, hsw⟩, hX⟩ := hl
  have hnp : np = pc + 3 := Nat.eq_of_beq_eq_true (hsw.resolve_left (fun q => Bool.noConfusion q))
  subst hnp
  have hd : decode (mB k) pc = .ok (.ldc_w i, 3) := by
    have hd2 := hd
    rwa [Nat.add_sub_cancel_left] at hd2
  cases hs
  have hX2 : decide (Cond.constant (cn (mO k)) i v ∈ lw_tbl) = true := hX
  have hw := hts (.constant (cn (mO k)) i v) (TB_in (of_decide_eq_true hX2) (good_const _ _ _))
  exact lv_ldcw hx hb hown hw hd (kk _ _ _ _ _ hL hW hS rfl rfl)
set_option maxHeartbeats 4000000 in
theorem st_ldc2_w (C : Cx p s m args meth c k z X sv ca D) {i : Nat} { np a b c0 : Nat} {v : Int32} {pc pc' : Nat} {ls ls' : List (Option Value)} {st st' : List Value} {h h' : Hp} (hl : okE k pc (.ldc2_w i, np, a, b, c0, v) = true) (hs : stp X (.ldc2_w i, np, a, b, c0, v) ls st h = some (pc', ls', st', h'))
    (hL : lvR z sv LS (mL k) ls) (hW : Wd z ca D H h) (hS : va_S (zA z) s.heap H locs) (hc : cells + h'.1.length ≤ R.cells + h.1.length) (hsl : slots + ksum h'.1 ≤ R.slots + ksum h.1) (hfr : 1 ≤ R.frames) (hlo : 60 ≤ R.locals)
    (kk : ∀ (LS' : Array Slot) (H' : Heap) (locs' : List Loc) (cells' slots' : Nat), lvR z sv LS' (mL k) ls' → Wd z ca D H' h' → va_S (zA z) s.heap H' locs' → cells' + h.1.length = cells + h'.1.length → slots' + ksum h.1 = slots + ksum h'.1 → W p l e' R s m args below meth c H' locs' cells' slots' Q (F0 m pc' LS' (st'.map (cv z sv)))) : W p l e' R s m args below meth c H locs cells slots Q (F0 m pc LS (st.map (cv z sv))) := by
  have hC : Cx p s m args meth c k z X sv ca D := C
  obtain ⟨hx, hb, hml, hown, hts, hnm, hK, hSp, hz⟩ := C
  unfold okE at hl
  simp only [Bool.and_eq_true, Bool.or_eq_true, decide_eq_true_eq] at hl
  obtain ⟨⟨hd, hsw⟩, hX⟩ := hl
  have hnp : np = pc + 3 := Nat.eq_of_beq_eq_true (hsw.resolve_left (fun q => Bool.noConfusion q))
  subst hnp
  have hd : decode (mB k) pc = .ok (.ldc2_w i, 3) := by
    have hd2 := hd
    rwa [Nat.add_sub_cancel_left] at hd2
  cases hs
  have hX2 : decide (Cond.constantLong (cn (mO k)) i (bif Nat.beq c0 1 then (-9223372036854775808) else bif Nat.beq c0 2 then 123456789012345 else v.toInt64) ∈ lw_tbl) = true := hX
  have hw := hts (.constantLong (cn (mO k)) i (bif Nat.beq c0 1 then (-9223372036854775808) else bif Nat.beq c0 2 then 123456789012345 else v.toInt64)) (TB_in (of_decide_eq_true hX2) (good_constL _ _ _))
  exact lv_ldc2 hx hb hown hw hd (kk _ _ _ _ _ hL hW hS rfl rfl)
set_option maxHeartbeats 4000000 in
theorem st_objInit (C : Cx p s m args meth c k z X sv ca D) {i : Nat} { np a b c0 : Nat} {v : Int32} {pc pc' : Nat} {ls ls' : List (Option Value)} {st st' : List Value} {h h' : Hp} (hl : okE k pc (.invokespecial i, np, a, b, c0, v) = true) (hs : stp X (.invokespecial i, np, a, b, c0, v) ls st h = some (pc', ls', st', h'))
    (hL : lvR z sv LS (mL k) ls) (hW : Wd z ca D H h) (hS : va_S (zA z) s.heap H locs) (hc : cells + h'.1.length ≤ R.cells + h.1.length) (hsl : slots + ksum h'.1 ≤ R.slots + ksum h.1) (hfr : 1 ≤ R.frames) (hlo : 60 ≤ R.locals)
    (kk : ∀ (LS' : Array Slot) (H' : Heap) (locs' : List Loc) (cells' slots' : Nat), lvR z sv LS' (mL k) ls' → Wd z ca D H' h' → va_S (zA z) s.heap H' locs' → cells' + h.1.length = cells + h'.1.length → slots' + ksum h.1 = slots + ksum h'.1 → W p l e' R s m args below meth c H' locs' cells' slots' Q (F0 m pc' LS' (st'.map (cv z sv)))) : W p l e' R s m args below meth c H locs cells slots Q (F0 m pc LS (st.map (cv z sv))) := by
  have hC : Cx p s m args meth c k z X sv ca D := C
  obtain ⟨hx, hb, hml, hown, hts, hnm, hK, hSp, hz⟩ := C
  unfold okE at hl
  simp only [Bool.and_eq_true, Bool.or_eq_true, decide_eq_true_eq] at hl
  obtain ⟨⟨hd, hsw⟩, hX⟩ := hl
  have hnp : np = pc + 3 := Nat.eq_of_beq_eq_true (hsw.resolve_left (fun q => Bool.noConfusion q))
  subst hnp
  have hd : decode (mB k) pc = .ok (.invokespecial i, 3) := by
    have hd2 := hd
    rwa [Nat.add_sub_cancel_left] at hd2
  dsimp only [stp] at hs
  split at hs
  · rename_i q r
    obtain ⟨h1, hs⟩ := cond_if hs
    cases hs
    rw [Bool.and_eq_true, decide_eq_true_eq] at h1
    obtain ⟨h1, h2⟩ := h1
    dsimp only [okX] at hX
    rw [h1, cond_true] at hX
    refine W.objInit hx hb hown (hts _ (TB_in (of_decide_eq_true hX) rfl)) (hts _ (TB_in objW.1 rfl)) (hts _ (TB_in objW.2 rfl)) rfl (by rw [hml]; exact hL.2.1) rfl hd hfr (by
      have h3 := cat_cvs (z := z) hSp.2.2.2.2.2.2.2.2 st'
      show 2 * 0 + ((st'.map (cv z sv)).map fun v => v.category).sum + 12 ≤ R.locals
      omega) (kk _ _ _ _ _ hL hW hS rfl rfl)
  · cases hs
set_option maxHeartbeats 4000000 in
theorem st_arraycopy (C : Cx p s m args meth c k z X sv ca D) {i : Nat} { np a b c0 : Nat} {v : Int32} {pc pc' : Nat} {ls ls' : List (Option Value)} {st st' : List Value} {h h' : Hp} (hl : okE k pc (.invokestatic i, np, a, b, c0, v) = true) (hs : stp X (.invokestatic i, np, a, b, c0, v) ls st h = some (pc', ls', st', h'))
    (hL : lvR z sv LS (mL k) ls) (hW : Wd z ca D H h) (hS : va_S (zA z) s.heap H locs) (hc : cells + h'.1.length ≤ R.cells + h.1.length) (hsl : slots + ksum h'.1 ≤ R.slots + ksum h.1) (hfr : 1 ≤ R.frames) (hlo : 60 ≤ R.locals)
    (kk : ∀ (LS' : Array Slot) (H' : Heap) (locs' : List Loc) (cells' slots' : Nat), lvR z sv LS' (mL k) ls' → Wd z ca D H' h' → va_S (zA z) s.heap H' locs' → cells' + h.1.length = cells + h'.1.length → slots' + ksum h.1 = slots + ksum h'.1 → W p l e' R s m args below meth c H' locs' cells' slots' Q (F0 m pc' LS' (st'.map (cv z sv)))) : W p l e' R s m args below meth c H locs cells slots Q (F0 m pc LS (st.map (cv z sv))) := by
  have hC : Cx p s m args meth c k z X sv ca D := C
  obtain ⟨hx, hb, hml, hown, hts, hnm, hK, hSp, hz⟩ := C
  unfold okE at hl
  simp only [Bool.and_eq_true, Bool.or_eq_true, decide_eq_true_eq] at hl
  obtain ⟨⟨hd, hsw⟩, hX⟩ := hl
  have hnp : np = pc + 3 := Nat.eq_of_beq_eq_true (hsw.resolve_left (fun q => Bool.noConfusion q))
  subst hnp
  have hd : decode (mB k) pc = .ok (.invokestatic i, 3) := by
    have hd2 := hd
    rwa [Nat.add_sub_cancel_left] at hd2
  dsimp only [stp] at hs
  split at hs
  · rename_i n dp q1 sp q0 r
    obtain ⟨h1, hs⟩ := cond_if hs
    dsimp only [okX] at hX
    rw [h1, cond_true] at hX
    split at hs
    · rename_i t n0 t' n1 hk0 hk1
      obtain ⟨h2, hs⟩ := cond_if hs
      cases hs
      simp only [Bool.and_eq_true, decide_eq_true_eq, List.all_eq_true] at h2
      obtain ⟨⟨⟨⟨⟨a1, a2⟩, a3⟩, a4⟩, b1, b2, b3, b4, b5⟩, b6⟩ := h2
      have e := Nat.eq_of_beq_eq_true a1
      subst e
      have a2 := Nat.le_of_ble_eq_true a2
      have a3 := Nat.le_of_ble_eq_true a3
      have key : ∀ (ti : Nat) (fty : FieldType), (tys ca)[ti]? = some (ca t, fty) → refKind fty = false → (∀ x, okc t x = true → fits fty (.int x) = true) → (∀ (nn : Nat) (f : Nat → Int32) (g : Nat → Option Nat), cel z ca t nn f g = .inl (ca t, nn, .inl f)) → W p l e' R s m args below meth c H locs cells slots Q (F0 m pc LS ((Value.int n :: Value.int dp :: Value.ref q1 :: Value.int sp :: Value.ref q0 :: st').map (cv z sv))) := by
        intro ti fty hti hprim hfit hcel
        have he0 := wrl_get (z := z) (ca := ca) hk0
        have he1 := wrl_get (z := z) (ca := ca) hk1
        rw [hcel] at he0 he1
        refine wd_copy hx hb (by rw [hml]; exact hL.2.1.symm) hown (hts _ (TB_in (of_decide_eq_true hX) rfl)) (hts _ (TB_in sysW.1 rfl)) (hts _ (TB_in sysW.2.1 rfl)) (hts _ (TB_in sysW.2.2 rfl)) hK hW.2.2 (wrl_D z ca h) hS q0 q1 ti ti he0 he1 hti hti hprim b1 b2 b3 b4 b5 (fun j hj => hfit _ (b6 j (List.mem_range.mpr hj))) hfr (by
          have h3 := cat_cvs (z := z) hSp.2.2.2.2.2.2.2.2 st'
          have h4 : nativeFrameWords "java/lang/System" "arraycopy" 5 + 11 ≤ 50 := by decide +kernel
          omega) hd (fun H1 locs1 hz1 hP1 hS1 => kk _ _ _ _ _ hL ⟨by rw [hz1]; exact hW.1, hW.2.1, ?_⟩ hS1 rfl rfl)
        have h5 := wrl_set (z := z) (ca := ca) (I := cpI h.2.1 q0 q1 sp.toNatClampNeg dp.toNatClampNeg n.toNatClampNeg) (G := h.2.2) (e := .inl (ca t, n1, .inl (va_cpy (h.2.1 q0) (h.2.1 q1) sp.toNatClampNeg dp.toNatClampNeg n.toNatClampNeg))) hk1 (fun a ha => by funext j; simp [cpI, ha]) (fun a ha => rfl) (by
          rw [hcel]
          congr 4
          funext j
          simp only [cpI, va_cpy, true_and])
        rw [← h5]
        exact hP1
      rcases (by omega : t = 20 ∨ t = 21 ∨ t = 22) with rfl | rfl | rfl
      · exact key 0 .int rfl rfl (fun x _ => rfl) (fun _ _ _ => rfl)
      · exact key 1 .byte rfl rfl (fun x hx9 => (nfit_ok (show nfit .byte x = true from hx9)).2) (fun _ _ _ => rfl)
      · exact key 2 .byte rfl rfl (fun x hx9 => (nfit_ok (show nfit .byte x = true from hx9)).2) (fun _ _ _ => rfl)
    · cases hs
  · cases hs
end STEPA
