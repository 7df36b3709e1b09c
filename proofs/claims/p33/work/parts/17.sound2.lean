/-- a frame of method k, from pc on: it comes to a return with r, in the world h' -/
def Fr (l : Launch) (z : Nat) (X : Nat × (Nat → Int32)) (sv : Nat → Value) (ca : Nat → ClassId) (D : va_G) (d k pc : Nat) (ls : List (Option Value)) (st : List Value) (h h' : Hp) (r : Option Value) : Prop :=
  ∀ {p : Program} {e' : Env} {R : Room} {s : State} {m : MethodId} {args : Array Value} {below : List Frame} {meth : Method} {c : Code} {H : Heap} {locs : List Loc} {cells slots : Nat} {Q : State → Prop} {LS : Array Slot}, Cx p s m args meth c k z X sv ca D → lvR z sv LS (mL k) ls → Wd z ca D H h → va_S (zA z) s.heap H locs → d + 1 ≤ R.frames → 60 + 60 * d ≤ R.locals → cells + h'.1.length ≤ R.cells + h.1.length → slots + ksum h'.1 ≤ R.slots + ksum h.1 →
    (∀ (e : Ent) (pc' : Nat) (st' : List Value) (LS' : Array Slot) (H' : Heap) (locs' : List Loc) (cells' slots' : Nat), okE k pc' e = true → rtv k e st' = some r → Wd z ca D H' h' → va_S (zA z) s.heap H' locs' → cells' + h.1.length = cells + h'.1.length → slots' + ksum h.1 = slots + ksum h'.1 → W p l e' R s m args below meth c H' locs' cells' slots' Q (F0 m pc' LS' (st'.map (cv z sv)))) →
    W p l e' R s m args below meth c H locs cells slots Q (F0 m pc LS (st.map (cv z sv)))
set_option maxHeartbeats 4000000 in
/-- a method's contract out of its frame -/
theorem mt_of {l : Launch} {z : Nat} {X : Nat × (Nat → Int32)} {sv : Nat → Value} {ca : Nat → ClassId} {D : va_G} {d k : Nat} {As : List Value} {h h' : Hp} {r : Option Value} (h0 : 0 < k) (h1 : k < mN) (hsv : ∀ i, sv i = .null ∨ ∃ a : Nat, sv i = .ref a) (hlen : (lay As).length ≤ mL k) (hg1 : h.1.length ≤ h'.1.length) (hg2 : ksum h.1 ≤ ksum h'.1) (hF : Fr l z X sv ca D d k 0 (ent k As) [] h h' r) : Mt l z X sv ca D d k As h h' r := by
  refine va_MetF (cc := mB k) (maxL := mL k) (ret := mR k) (mk_all h1).2.1 rfl ?_
  intro p e s m args below meth c s₁ B hml hv
  obtain ⟨rfl, hW, hSp, hK, hz⟩ := hv
  have hts := atoms_spec (ws := wsM k) B.pre
  have hown : s.vm.findClass (cn (mO k)) = some m.cls := by
    have h9 := findClass_of_methodNamed B.named
    rw [(mk_all h1).2.2.2] at h9
    exact h9
  have hnm : meth.name = (mY k).name := (name_of_methodNamed B.named B.method).1
  have C : Cx p s m (As.map (cv z sv)).toArray meth c k z X sv ca D := ⟨B.exec, B.bytes, hml, hown, fun w hw => hts w (List.mem_cons_of_mem _ hw), fun q => hnm.trans q, hK, hSp, hz⟩
  have hl := lv_entry (As.map (cv z sv)) (n := mL k) (by rw [lay_len hsv]; exact hlen)
  rw [lg_entry_eq]
  generalize (lg_sl (As.map (cv z sv)) ++ List.replicate (mL k - (lg_sl (As.map (cv z sv))).length) Slot.unset).toArray = LS at hl ⊢
  have hlv := ent_lv hsv hlen hl
  refine hF C hlv hW va_S.rf (Nat.le_refl _) (Nat.le_refl _) ?_ ?_ ?_
  · show 0 + h'.1.length ≤ (h'.1.length - h.1.length) + h.1.length
    omega
  · show 0 + ksum h'.1 ≤ (ksum h'.1 - ksum h.1) + ksum h.1
    omega
  · intro e9 pc' st' LS' H' locs' cells' slots' hoe hrt hW' hS' hc hs
    have e1 : cells' = h'.1.length - h.1.length := by omega
    have e2 : slots' = ksum h'.1 - ksum h.1 := by omega
    subst e1; subst e2
    exact ret_all C B.returns B.notSynchronized hoe hrt hW' hS'
theorem tk_rev (st : List Value) (a : Nat) (z : Nat) (sv : Nat → Value) : st.map (cv z sv) = (((st.take a).reverse).map (cv z sv)).reverse ++ (st.drop a).map (cv z sv) := by
  rw [← List.map_reverse, List.reverse_reverse, ← List.map_append, List.take_append_drop]
set_option maxHeartbeats 8000000 in
/-- SOUND: what the machine of the tables gives is what the machine gives -/
theorem sound (l : Launch) (z : Nat) (X : Nat × (Nat → Int32)) (sv : Nat → Value) (ca : Nat → ClassId) (D : va_G) (hsv : ∀ i, sv i = .null ∨ ∃ a : Nat, sv i = .ref a) (hok : ∀ k, k < mN → okA k) : ∀ (f d k pc : Nat) (ls : List (Option Value)) (st : List Value) (h : Hp) (r : Option Value) (h' : Hp), k < mN → exec X f d k pc ls st h = some (r, h') → Fr l z X sv ca D d k pc ls st h h' r := by
  intro f
  induction f with
  | zero => intro d k pc ls st h r h' hk hR; simp [exec] at hR
  | succ f ih =>
    intro d k pc ls st h r h' hk hR
    intro p e' R s m args below meth c H locs cells slots Q LS C hL hW hS hRf hRl hc hsl kret
    rw [exec_succ] at hR
    cases hl : look k pc with
    | none => rw [hl] at hR; simp at hR
    | some e =>
      rw [hl] at hR
      simp only at hR
      have hoe : okE k pc e = true := by
        refine hok k hk pc e ?_ hl
        unfold look at hl
        cases hb : Nat.blt k 147 with
        | false => rw [hb] at hl; cases hl
        | true =>
          rw [hb, cond_true] at hl
          cases hb2 : Nat.blt pc (mS k) with
          | false => rw [hb2] at hl; cases hl
          | true => exact blt_lt hb2
      split at hR
      · cases hs : stp X e ls st h with
        | none => rw [hs] at hR; simp at hR
        | some q =>
          obtain ⟨pc', ls', st', h1⟩ := q
          rw [hs] at hR
          simp only at hR
          have g1 := stp_grow hs
          have g2 := exec_grow _ _ _ _ _ _ _ _ _ hR
          refine st_all C hoe hs hL hW hS (by omega) (by omega) (by omega) (by omega) (fun LS' H' locs' cells' slots' hL' hW' hS' hc' hs' => ?_)
          refine ih _ _ _ _ _ _ _ _ hk hR C hL' hW' hS' hRf hRl (by omega) (by omega) ?_
          intro e9 pc9 st9 LS9 H9 locs9 cells9 slots9 x1 x2 x3 x4 x5 x6
          exact kret e9 pc9 st9 LS9 H9 locs9 cells9 slots9 x1 x2 x3 x4 (by omega) (by omega)
      · rename_i hkd
        cases d with
        | zero => simp at hR
        | succ d' =>
          simp only at hR
          cases hcl : cle e st h with
          | none => rw [hcl] at hR; simp at hR
          | some q =>
            obtain ⟨k', As, rest, np⟩ := q
            rw [hcl] at hR
            simp only at hR
            cases he : exec X f d' k' 0 (ent k' As) [] h with
            | none => rw [he] at hR; simp at hR
            | some q =>
              obtain ⟨r1, h1⟩ := q
              rw [he] at hR
              simp only at hR
              have g1 := exec_grow _ _ _ _ _ _ _ _ _ he
              have g2 := exec_grow _ _ _ _ _ _ _ _ _ hR
              have hLs : LS.size = mL k := hL.2.1
              have hcc : cells + (h1.1.length - h.1.length) ≤ R.cells := by omega
              have hcs : slots + (ksum h1.1 - ksum h.1) ≤ R.slots := by omega
              have hfr9 : d' + 2 ≤ R.frames := by omega
              have hlo9 : 120 + 60 * d' ≤ R.locals := by omega
              have hgo : ∀ (H1 : Heap) (locs1 : List Loc), Wd z ca D H1 h1 → va_S (zA z) s.heap H1 locs1 → W p l e' R s m args below meth c H1 locs1 (cells + (h1.1.length - h.1.length)) (slots + (ksum h1.1 - ksum h.1)) Q (F0 m np LS ((r1.map (cv z sv)).toList ++ rest.map (cv z sv))) := by
                intro H1 locs1 hW1 hS1
                have e9 : (r1.map (cv z sv)).toList ++ rest.map (cv z sv) = (r1.toList ++ rest).map (cv z sv) := by cases r1 <;> simp
                rw [e9]
                refine ih _ _ _ _ _ _ _ _ hk hR C hL hW1 hS1 hRf hRl (by omega) (by omega) ?_
                intro e9 pc9 st9 LS9 H9 locs9 cells9 slots9 x1 x2 x3 x4 x5 x6
                exact kret e9 pc9 st9 LS9 H9 locs9 cells9 slots9 x1 x2 x3 x4 (by omega) (by omega)
              have hM : ∀ n, okm k' n = true → (lay As).length ≤ mL k' → Mt l z X sv ca D d' k' As h h1 r1 ∧ 0 < k' ∧ k' < mN ∧ mA k' = n := by
                intro n hm hlen
                unfold okm at hm
                simp only [Bool.and_eq_true] at hm
                have a0 := blt_lt hm.1.1
                have a1 := blt_lt hm.1.2
                exact ⟨mt_of a0 a1 hsv hlen g1.1 g1.2 (ih _ _ _ _ _ _ _ _ a1 he), a0, a1, Nat.eq_of_beq_eq_true hm.2⟩
              obtain ⟨ins, np0, a, b, c0, v⟩ := e
              unfold okE at hoe
              simp only [Bool.and_eq_true, Bool.or_eq_true, decide_eq_true_eq] at hoe
              obtain ⟨⟨hd, hsw⟩, hX⟩ := hoe
              unfold cle at hcl
              dsimp only at hcl
              split at hcl
              · rename_i i
                have hnp : np0 = pc + 3 := Nat.eq_of_beq_eq_true (hsw.resolve_left (fun q => Bool.noConfusion q))
                subst hnp
                rw [Nat.add_sub_cancel_left] at hd
                obtain ⟨q1, q2⟩ := cond_some hcl
                simp only [Bool.and_eq_true, decide_eq_true_eq] at q1
                obtain ⟨⟨b1, b2⟩, b3⟩ := q1
                cases q2
                have b1 := Nat.le_of_ble_eq_true b1
                have b3 := Nat.le_of_ble_eq_true b3
                dsimp only [kd] at hkd
                cases h997 : Nat.beq k' 997 with
                | true => rw [h997] at hkd; cases hkd
                | false =>
                  dsimp only [okX] at hX
                  rw [h997, cond_false] at hX
                  cases h999 : Nat.beq k' 999 with
                  | true =>
                    exfalso
                    have e9 := Nat.eq_of_beq_eq_true h999
                    subst e9
                    cases f with
                    | zero => simp [exec] at he
                    | succ f => rw [exec_succ] at he; simp [show look 999 0 = none from rfl] at he
                  | false =>
                    rw [h999, cond_false, Bool.and_eq_true] at hX
                    obtain ⟨m1, m2, m3, m4⟩ := hM a hX.1 b3
                    rw [tk_rev st a z sv]
                    exact ca_static C (n := a) (clf_ok hX.2) (by simp; omega) hd m1 m2 m3 m4 hW hS b2 hfr9 hlo9 hcc hcs hLs hgo
              · rename_i i
                have hnp : np0 = pc + 3 := Nat.eq_of_beq_eq_true (hsw.resolve_left (fun q => Bool.noConfusion q))
                subst hnp
                rw [Nat.add_sub_cancel_left] at hd
                dsimp only [okX] at hX
                split at hcl
                · rename_i q9 r9 hdr
                  have hlt : a < st.length := by
                    rcases Nat.lt_or_ge a st.length with g | g
                    · exact g
                    · rw [List.drop_eq_nil_of_le g] at hdr; cases hdr
                  split at hcl
                  · rename_i t nn hk9
                    obtain ⟨q1, q2⟩ := cond_some hcl
                    simp only [Bool.and_eq_true, decide_eq_true_eq] at q1
                    obtain ⟨⟨⟨b0, b1⟩, b2⟩, b3⟩ := q1
                    cases q2
                    have ht := blt_lt b0
                    have b3 := Nat.le_of_ble_eq_true b3
                    have hX2 : (List.range 13).all (fun t => !fam c0 t || (okm (vg b t) a && ((clf (mO k) i).elem (0, t, vg b t, 0) || (List.range 13).any (fun x => (clf (mO k) i).elem (1, t, vg b t, x))))) = true := by
                      cases h100 : Nat.beq c0 100 with
                      | true =>
                        exfalso
                        have e9 := Nat.eq_of_beq_eq_true h100
                        subst e9
                        simp [fam] at b1
                        omega
                      | false => rw [h100] at hX; exact hX
                    refine fam13 hX2 ht b1 (fun hf => ?_)
                    simp only [Bool.and_eq_true, Bool.or_eq_true, List.any_eq_true] at hf
                    obtain ⟨f1, f2⟩ := hf
                    obtain ⟨m1, m2, m3, m4⟩ := hM a f1 b3
                    rw [tk_rev st a z sv, hdr]
                    rcases f2 with f2 | ⟨xc, -, f2⟩
                    · exact ca_virt C (n := a) (clf_ok f2) hk9 ht (by simp; omega) hd m1 m2 m3 m4 hW hS b2 hfr9 hlo9 hcc hcs hLs hgo
                    · exact ca_virtU C (n := a) (clf_ok f2) hk9 ht (by simp; omega) hd m1 m2 m3 m4 hW hS b2 hfr9 hlo9 hcc hcs hLs hgo
                  · cases hcl
                · rename_i j r9 hdr
                  have hlt : a < st.length := by
                    rcases Nat.lt_or_ge a st.length with g | g
                    · exact g
                    · rw [List.drop_eq_nil_of_le g] at hdr; cases hdr
                  obtain ⟨q1, q2⟩ := cond_some hcl
                  simp only [Bool.and_eq_true, decide_eq_true_eq] at q1
                  obtain ⟨⟨⟨b0, b1⟩, b2⟩, b3⟩ := q1
                  cases q2
                  have b3 := Nat.le_of_ble_eq_true b3
                  rw [b0, cond_true, Bool.and_eq_true] at hX
                  obtain ⟨m1, m2, m3, m4⟩ := hM a hX.1 b3
                  rw [tk_rev st a z sv, hdr]
                  exact ca_str C (n := a) (clf_ok hX.2) (blt_lt b1) (by simp; omega) hd m1 m2 m3 m4 hW hS b2 hfr9 hlo9 hcc hcs hLs hgo
                · cases hcl
              · rename_i i
                have hnp : np0 = pc + 3 := Nat.eq_of_beq_eq_true (hsw.resolve_left (fun q => Bool.noConfusion q))
                subst hnp
                rw [Nat.add_sub_cancel_left] at hd
                dsimp only [okX] at hX
                dsimp only [kd] at hkd
                have h998 : Nat.beq b 998 = false := by
                  cases h998 : Nat.beq b 998 with
                  | false => rfl
                  | true => rw [h998] at hkd; cases hkd
                rw [h998, cond_false] at hX
                split at hcl
                · rename_i q9 r9 hdr
                  have hlt : a < st.length := by
                    rcases Nat.lt_or_ge a st.length with g | g
                    · exact g
                    · rw [List.drop_eq_nil_of_le g] at hdr; cases hdr
                  split at hcl
                  · rename_i t nn hk9
                    obtain ⟨q1, q2⟩ := cond_some hcl
                    simp only [Bool.and_eq_true, decide_eq_true_eq] at q1
                    obtain ⟨⟨⟨b0, b1⟩, b2⟩, b3⟩ := q1
                    cases q2
                    have ht := blt_lt b0
                    have b3 := Nat.le_of_ble_eq_true b3
                    simp only [Bool.and_eq_true, Bool.or_eq_true, List.any_eq_true] at hX
                    obtain ⟨f1, f2⟩ := hX
                    obtain ⟨m1, m2, m3, m4⟩ := hM a f1 b3
                    rw [tk_rev st a z sv, hdr]
                    rcases f2 with (f2 | f2) | ⟨xc, -, f2⟩
                    · exact ca_init C (t := t) (nn := nn) (n := a) (clf_ok f2) (by simp; omega) hd m1 m2 m3 m4 hW hS b2 hfr9 hlo9 hcc hcs hLs hgo
                    · exact ca_initN C (t := t) (nn := nn) (n := a) (clf_ok f2) (by simp; omega) hd m1 m2 m3 m4 hW hS b2 hfr9 hlo9 hcc hcs hLs hgo
                    · exact ca_super C (n := a) (clf_ok f2) hk9 ht (by simp; omega) hd m1 m2 m3 m4 hW hS b2 hfr9 hlo9 hcc hcs hLs hgo
                  · cases hcl
                · cases hcl
              · cases hcl
      · cases hrt : rtv k e st with
        | none => rw [hrt] at hR; simp at hR
        | some q =>
          rw [hrt] at hR
          simp only [Option.some.injEq, Prod.mk.injEq] at hR
          obtain ⟨rfl, rfl⟩ := hR
          exact kret e pc st LS H locs cells slots hoe hrt hW hS rfl rfl
