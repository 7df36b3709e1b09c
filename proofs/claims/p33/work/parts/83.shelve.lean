/-! CALLS OF THE LAW: shelve -/
/-- alike but for the evening, the matters' numbers -/
def VOo (s s' : Nat → Int32) : Prop := ∀ j, 26 ≤ j → ¬ (33 ≤ j ∧ j < 75) → s' j = s j
theorem VOo.st {s s' : Nat → Int32} {hd : Option Nat} {cls : Cls} (h : VOo s s') (hs : stOK s hd cls) : stOK s' hd cls := by
  cases hd with
  | none => exact ⟨(h 32 (by omega) (by omega)).trans hs.1, hs.2⟩
  | some k =>
    obtain ⟨h1, h2, h3, h4, h5, h6⟩ := hs
    exact ⟨(h 32 (by omega) (by omega)).trans h1, h2, (h _ (by omega) (by omega)).trans h3, h4, fun j x hj => (h _ (by omega) (by omega)).trans (h5 j x hj), h6⟩
theorem VOo.T {s s' : Nat → Int32} {hd : Option Nat} (h : VOo s s') {w : Nat} (hw : 222 ≤ w) (no : Int32) : rT s' hd w no = rT s hd w no := by
  cases hd with
  | none => rfl
  | some k => exact h _ (by omega) (by omega)
theorem GS.vo {s s' : Nat → Int32} {n e e' : Nat} {hd : Option Nat} {cls : Cls} (h : GS s n hd cls e) (ho : VOo s s') (hk : ∀ p, p < 6 → ∃ kk, kk ≤ 6 ∧ s' (33 + p) = nI kk) (hRI : RI s' n e' cls) (he : e' ≤ 9999) (hc : ∃ c, c ≤ 6 * e' ∧ s' 1 = nI c) (ha : ∀ p, p < 6 → ∃ a, a ≤ e' ∧ s' (2 + p) = nI a) : GS s' n hd cls e' := by
  obtain ⟨⟨a1, a2, a3, a4, a5, a6⟩, -, -, -, -, ⟨b1, h1⟩, ⟨b2, h2⟩, h3, h4, c4, c5, c6, hby⟩ := h
  have hl : ∀ j, 26 ≤ j → ¬ (33 ≤ j ∧ j < 75) → s' j = s j := ho
  refine ⟨⟨(hl 26 (by omega) (by omega)).trans a1, a2, hk, hRI.2.2.2.1, by omega, ho.st a6⟩, hRI, he, hc, ha, ⟨b1, h1.al (fun j hj => hl j (by omega) (by omega))⟩, ⟨b2, h2.al2 (fun j hj => hl j (by omega) (by omega))⟩, SL8.al h3 (fun j hj => hl j (by omega) (by omega)), STx.al h4 (fun j hj => hl j (by omega) (by omega)), ?_, ?_, fun j hj => (hl j (by omega) (by omega)).trans (c6 j hj), hby.al (fun j hj => hl j (by omega) (by omega))⟩
  · rw [hl 27 (by omega) (by omega)]; exact c4
  · rw [ho.T (by omega)]; exact c5
theorem HM.vo {I : Nat → Nat → Int32} {h : Nat} {s s' : Nat → Int32} (hM : HM I h s) (ho : VOo s s') : HM I h s' := by
  obtain ⟨m1, m2, m3, m4, m5, m6, m7, m8⟩ := hM
  refine ⟨m1.trans (ho 31 (by omega) (by omega)).symm, m2.trans (ho 28 (by omega) (by omega)).symm, m3.trans (ho 29 (by omega) (by omega)).symm, m4.trans (ho 30 (by omega) (by omega)).symm, fun j hj => (m5 j hj).trans (ho _ (by omega) (by omega)).symm, fun k hk => ?_, fun k hk => ?_, m8.trans (seeB_al (fun j hj => ho j (by omega) (by omega)))⟩
  · rw [ho (75 + k) (by omega) (by omega), ho (80 + k) (by omega) (by omega)]; exact m6 k hk
  · rw [ho (90 + k) (by omega) (by omega), ho (98 + k) (by omega) (by omega), ho (106 + k) (by omega) (by omega), ho (114 + k) (by omega) (by omega)]; exact m7 k hk
theorem VH.vo {K : List (Nat × Nat)} {I I' : Nat → Nat → Int32} {R : Nat → Nat → Option Nat} {v h n : Nat} {s s' : Nat → Int32} {hd : Option Nat} {cls : Cls} (hV : VH K I R v h s n hd cls) (ho : VOo s s') (hA : VA K I' R v s' n cls (rT s hd 222 20) (rT s hd 227 1)) (h15 : I' v 15 = I v 15) (hz : ∀ p, n ≤ p → p < 6 → I' (v + 4) p = 0 ∧ I' (v + 5) p = 0 ∧ I' (v + 6) p = 0 ∧ ∀ k, k < 4 → I' (v + 7) (4 * p + k) = 0) (hkv : ∀ p, p < n → s' (33 + p) = s (33 + p) ∧ s' (39 + p) = s (39 + p)) (hI2 : ∀ c t, K[c]? = some (t, 4) → t < 13 → I' c = I c) (hh : ∀ c, h ≤ c → c ≤ h + 7 → I' c = I c) : VH K I' R v h s' n hd cls := by
  obtain ⟨h1, h2, h3, h4, h5⟩ := hV
  refine ⟨by rw [ho.T (by omega), ho.T (by omega)]; exact hA, by rw [h15, ho 27 (by omega) (by omega)]; exact h2, hz, fun p hp => ?_, (h5.c hh).vo ho⟩
  obtain ⟨m, kk, a1, a2, a3, a4, a5, a6, a7, a8⟩ := h4 p hp
  have em := hI2 m _ a4 (kt_lt kk)
  exact ⟨m, kk, a1, (hkv p hp).1.trans a2, a3, a4, by rw [em]; exact a5, by rw [em, (hkv p hp).2]; exact a6, a7, a8⟩
section SHELVE
variable {X : Nat × (Nat → Int32)} {d : Nat} {K : List (Nat × Nat)} {T : List (Nat × Nat)} {I : Nat → Nat → Int32} {R : Nat → Nat → Option Nat} {s : Nat → Int32} {n e : Nat} {hd : Option Nat} {cls : Cls} {l : List Int32} {im : Option Img} {kc km : Nat} {As : List Value}
theorem shel_b (s : Nat → Int32) {n p : Nat} (hn : n ≤ 6) (hp : p < n) (b : Bool) : (if b = true then nI (mk (shel s) n) ||| ((1 : Int32) <<< (nI p &&& 31)) else nI (mk (shel s) n) &&& (((1 : Int32) <<< (nI p &&& 31)) ^^^ (-1))) = nI (mk (shel (upd s (20 + p) (bI b))) n) := by
  cases b
  · rw [if_neg (by decide)]; exact shel_00 s hn hp
  · rw [if_pos rfl]; exact shel_1 s hn hp
theorem c_shelve (hF : FX K R) (hG : GS s n hd cls e) (hVH : VH K I R 1 15 s n hd cls) (x : Int32) (b : Bool) : (∀ p, p < n → x = nI p → Ev X 59 kX11_shelve 0 (ent kX11_shelve [.ref 0, .int x, .int (bI b)]) [] (K, I, R) (some (.int (s (20 + p))), (K, upI I 1 10 (nI (mk (shel (upd s (20 + p) (bI b))) n)), R))) ∧ (¬ isM n x → Ev X 59 kX11_shelve 0 (ent kX11_shelve [.ref 0, .int x, .int (bI b)]) [] (K, I, R) (some (.int (-1)), (K, I, R))) := by
  have hV := hVH.1
  have hn6 := hG.2.1.1
  have hS := hG.2.1.2.1
  have hm := c_isM (X := X) (d := 58) hF hV.2.1.1 hn6 x
  obtain ⟨f0, f1, f2, f3, f4, f5, f6, fv1, fv2, fv3, fh1, fh2, f7, f8, f9, f10, f11, f12⟩ := hF
  obtain ⟨k0, -⟩ := id fv1
  have v10 := hV.2.1.2.2.1
  refine ⟨fun p hp ex => ?_, fun h => ?_⟩
  · have h := hm.1 ((isM_iff hn6).mpr ⟨p, hp, ex⟩)
    subst ex
    rw [shel_0 hS.2.1 (q := p) (by omega), ← mk_sr _ hn6 hp, ← shel_b s hn6 hp b]
    (repeat (first | refine Ev.p rfl rfl ?_ | refine Ev.gr (by rfl) (by rfl) (by assumption) (by rfl) (by assumption) ?_ | refine Ev.gi (by rfl) (by rfl) (by assumption) (by rfl) (by assumption) ?_))
    refine Ev.cv (by rfl) (by rfl) (by assumption) (by rfl) (by rfl) (by rfl) (by rfl) (by rfl) h ?_
    (repeat (first | refine Ev.p rfl rfl ?_ | refine Ev.gr (by rfl) (by rfl) (by assumption) (by rfl) (by assumption) ?_ | refine Ev.gi (by rfl) (by rfl) (by assumption) (by rfl) (by assumption) ?_))
    refine Ev.c rfl (c_withBit _ _ _ b) ?_
    (repeat (first | refine Ev.p rfl rfl ?_ | refine Ev.gr (by rfl) (by rfl) (by assumption) (by rfl) (by assumption) ?_ | refine Ev.gi (by rfl) (by rfl) (by assumption) (by rfl) (by assumption) ?_))
    refine Ev.pi (by rfl) (by rfl) (by assumption) (by rfl) ?_
    ((repeat refine Ev.p rfl rfl ?_); exact Ev.r rfl)
  · (repeat (first | refine Ev.p rfl rfl ?_ | refine Ev.gr (by rfl) (by rfl) (by assumption) (by rfl) (by assumption) ?_ | refine Ev.gi (by rfl) (by rfl) (by assumption) (by rfl) (by assumption) ?_))
    refine Ev.cv (by rfl) (by rfl) (by assumption) (by rfl) (by rfl) (by rfl) (by rfl) (by rfl) (hm.2 h) ?_
    ((repeat refine Ev.p rfl rfl ?_); exact Ev.r rfl)
end SHELVE
