/-! CALLS OF THE LAW: tie -/
section TIE
variable {X : Nat × (Nat → Int32)} {d : Nat} {K : List (Nat × Nat)} {T : List (Nat × Nat)} {I : Nat → Nat → Int32} {R : Nat → Nat → Option Nat} {s : Nat → Int32} {n e : Nat} {hd : Option Nat} {cls : Cls} {l : List Int32} {im : Option Img} {kc km : Nat} {As : List Value}
/-- ties of p behind tie -/
def tiV (s : Nat → Int32) (p q : Nat) (b : Bool) : Int32 := if b = true then s (69 + p) ||| ((1 : Int32) <<< (nI q &&& 31)) else s (69 + p) &&& (((1 : Int32) <<< (nI q &&& 31)) ^^^ (-1))
theorem tiV_lt (hn : n ≤ 6) (h : SF s n) {p q : Nat} (hp : p < 6) (hq : q < n) (b : Bool) : ∃ t, t < 2 ^ n ∧ tiV s p q b = nI t := by
  unfold tiV
  rw [tie_mk hn h hp]
  cases b
  · rw [if_neg (by decide), mk_clr _ hn hq]; exact ⟨_, mk_lt _ n, rfl⟩
  · rw [if_pos rfl, mk_set _ hn hq]; exact ⟨_, mk_lt _ n, rfl⟩
theorem tiV_m (hn : n ≤ 6) (h : SF s n) {p q : Nat} (hp : p < 6) (hq : q < n) (b : Bool) : (s (69 + p) &&& ((1 : Int32) <<< (nI q &&& 31) ^^^ (-1))) ||| (if b = true then (1 : Int32) <<< (nI q &&& 31) else 0) = tiV s p q b := by
  unfold tiV
  cases b
  · rw [if_neg (by decide), if_neg (by decide), Int32.or_zero]
  · rw [if_pos rfl, if_pos rfl, tie_mk hn h hp, mk_clr _ hn hq, mk_set _ hn hq, mk_set _ hn hq]
    congr 1
    exact mk_ext (fun r hr => by cases decide (r = q) <;> cases tieB s p r <;> rfl)
theorem c_tie (hF : FX K R) (hG : GS s n hd cls e) (hVH : VH K I R 1 15 s n hd cls) (x y : Int32) (b : Bool) : (∀ p q, p < n → q < n → x = nI p → y = nI q → p ≠ q → Ev X 59 kX11_tie 0 (ent kX11_tie [.ref 0, .int x, .int y, .int (bI b)]) [] (K, I, R) (some (.int ((s (69 + p) >>> (nI q &&& 31)) &&& 1)), (K, upI I 7 p (tiV s p q b), R))) ∧ (isM n x → x = y → Ev X 59 kX11_tie 0 (ent kX11_tie [.ref 0, .int x, .int y, .int (bI b)]) [] (K, I, R) (some (.int (-2)), (K, I, R))) ∧ (¬ (isM n x ∧ isM n y) → Ev X 59 kX11_tie 0 (ent kX11_tie [.ref 0, .int x, .int y, .int (bI b)]) [] (K, I, R) (some (.int (-1)), (K, I, R))) := by
  have hV := hVH.1
  have hn6 := hG.2.1.1
  have hm := fun x => c_isM (X := X) (d := 58) hF hV.2.1.1 hn6 x
  obtain ⟨f0, f1, f2, f3, f4, f5, f6, fv1, fv2, fv3, fh1, fh2, f7, f8, f9, f10, f11, f12, -⟩ := hF
  obtain ⟨k0, k1, k2, k3, k4, k5, k6, k7, k8, r0, r1, r2, r3, r4, r5, r6, r7⟩ := id fv1
  obtain ⟨v8, v9, v10, v11, v12, vk, vv, va, vt, vh, vr⟩ := hV.2.1
  refine ⟨fun p q hp hq ex ey hpq => ?_, fun h1 h2 => ?_, fun h => ?_⟩
  · have h1 := (hm x).1 ((isM_iff hn6).mpr ⟨p, hp, ex⟩)
    have h2 := (hm y).1 ((isM_iff hn6).mpr ⟨q, hq, ey⟩)
    have hne : nI p ≠ nI q := fun g => hpq ((nI_eq (by omega) (by omega)).mp g)
    subst ex ey
    (repeat (first | refine Ev.p rfl rfl ?_ | refine Ev.gr (by rfl) (by rfl) (by assumption) (by rfl) (by assumption) ?_ | refine Ev.gi (by rfl) (by rfl) (by assumption) (by rfl) (by assumption) ?_))
    refine Ev.cv (by rfl) (by rfl) (by assumption) (by rfl) (by rfl) (by rfl) (by rfl) (by rfl) h1 ?_
    (repeat (first | refine Ev.p rfl rfl ?_ | refine Ev.gr (by rfl) (by rfl) (by assumption) (by rfl) (by assumption) ?_ | refine Ev.gi (by rfl) (by rfl) (by assumption) (by rfl) (by assumption) ?_))
    refine Ev.cv (by rfl) (by rfl) (by assumption) (by rfl) (by rfl) (by rfl) (by rfl) (by rfl) h2 ?_
    (repeat (first | refine Ev.p rfl rfl ?_ | refine Ev.gr (by rfl) (by rfl) (by assumption) (by rfl) (by assumption) ?_ | refine Ev.gi (by rfl) (by rfl) (by assumption) (by rfl) (by assumption) ?_))
    refine Ev.bp rfl (fun c => ?_) (fun c => ?_)
    · (repeat (first | refine Ev.p rfl rfl ?_ | refine Ev.gr (by rfl) (by rfl) (by assumption) (by rfl) (by assumption) ?_ | refine Ev.gi (by rfl) (by rfl) (by assumption) (by rfl) (by assumption) ?_))
      (refine Ev.iald (j := p) (by rfl) (by assumption) (by rfl) (by omega) (by omega) ?_; rw [vh p hp])
      (repeat (first | refine Ev.p rfl rfl ?_ | refine Ev.gr (by rfl) (by rfl) (by assumption) (by rfl) (by assumption) ?_ | refine Ev.gi (by rfl) (by rfl) (by assumption) (by rfl) (by assumption) ?_))
      (refine Ev.iald (j := p) (by rfl) (by assumption) (by rfl) (by omega) (by omega) ?_; rw [vh p hp])
      (repeat (first | refine Ev.p rfl rfl ?_ | refine Ev.gr (by rfl) (by rfl) (by assumption) (by rfl) (by assumption) ?_ | refine Ev.gi (by rfl) (by rfl) (by assumption) (by rfl) (by assumption) ?_))
      refine Ev.c rfl (c_withBit _ _ _ b) ?_
      (repeat (first | refine Ev.p rfl rfl ?_ | refine Ev.gr (by rfl) (by rfl) (by assumption) (by rfl) (by assumption) ?_ | refine Ev.gi (by rfl) (by rfl) (by assumption) (by rfl) (by assumption) ?_))
      refine Ev.iast (j := p) (by rfl) (by assumption) (by rfl) (by omega) (by omega) ?_
      rw [show (if b = true then s (69 + p) ||| (1 : Int32) <<< (nI q &&& 31) else s (69 + p) &&& ((1 : Int32) <<< (nI q &&& 31) ^^^ -1)) = tiV s p q b from rfl]
      ((repeat refine Ev.p rfl rfl ?_); exact Ev.r rfl)
    · exact absurd (Decidable.not_not.mp c) hne
  · subst h2
    (repeat (first | refine Ev.p rfl rfl ?_ | refine Ev.gr (by rfl) (by rfl) (by assumption) (by rfl) (by assumption) ?_ | refine Ev.gi (by rfl) (by rfl) (by assumption) (by rfl) (by assumption) ?_))
    refine Ev.cv (by rfl) (by rfl) (by assumption) (by rfl) (by rfl) (by rfl) (by rfl) (by rfl) ((hm x).1 h1) ?_
    (repeat (first | refine Ev.p rfl rfl ?_ | refine Ev.gr (by rfl) (by rfl) (by assumption) (by rfl) (by assumption) ?_ | refine Ev.gi (by rfl) (by rfl) (by assumption) (by rfl) (by assumption) ?_))
    refine Ev.cv (by rfl) (by rfl) (by assumption) (by rfl) (by rfl) (by rfl) (by rfl) (by rfl) ((hm x).1 h1) ?_
    (repeat (first | refine Ev.p rfl rfl ?_ | refine Ev.gr (by rfl) (by rfl) (by assumption) (by rfl) (by assumption) ?_ | refine Ev.gi (by rfl) (by rfl) (by assumption) (by rfl) (by assumption) ?_))
    refine Ev.bp rfl (fun c => ?_) (fun c => ?_)
    · exact absurd rfl c
    · ((repeat refine Ev.p rfl rfl ?_); exact Ev.r rfl)
  · by_cases h1 : isM n x
    · by_cases h2 : isM n y
      · exact absurd ⟨h1, h2⟩ h
      · (repeat (first | refine Ev.p rfl rfl ?_ | refine Ev.gr (by rfl) (by rfl) (by assumption) (by rfl) (by assumption) ?_ | refine Ev.gi (by rfl) (by rfl) (by assumption) (by rfl) (by assumption) ?_))
        refine Ev.cv (by rfl) (by rfl) (by assumption) (by rfl) (by rfl) (by rfl) (by rfl) (by rfl) ((hm x).1 h1) ?_
        (repeat (first | refine Ev.p rfl rfl ?_ | refine Ev.gr (by rfl) (by rfl) (by assumption) (by rfl) (by assumption) ?_ | refine Ev.gi (by rfl) (by rfl) (by assumption) (by rfl) (by assumption) ?_))
        refine Ev.cv (by rfl) (by rfl) (by assumption) (by rfl) (by rfl) (by rfl) (by rfl) (by rfl) ((hm y).2 h2) ?_
        ((repeat refine Ev.p rfl rfl ?_); exact Ev.r rfl)
    · (repeat (first | refine Ev.p rfl rfl ?_ | refine Ev.gr (by rfl) (by rfl) (by assumption) (by rfl) (by assumption) ?_ | refine Ev.gi (by rfl) (by rfl) (by assumption) (by rfl) (by assumption) ?_))
      refine Ev.cv (by rfl) (by rfl) (by assumption) (by rfl) (by rfl) (by rfl) (by rfl) (by rfl) ((hm x).2 h1) ?_
      ((repeat refine Ev.p rfl rfl ?_); exact Ev.r rfl)
theorem op_tie (hK : RSok R) (hG : GS s n hd cls e) (hC : CR (K0 ++ T) I R s n hd cls l im) (hR : RR I s l im) (x y : Int32) (b : Bool) : OP X T I R kX11_tie kX12_tie [.int x, .int y, .int (bI b)] := by
  have hF := FX1 (T := T) hK
  have hn6 := hG.2.1.1
  have hS := hG.2.1.2.1
  have hc := c_tie (X := X) hF hG hC.1 x y b
  have hm := fun (I1 : Nat → Nat → Int32) (h1 : I1 141 = s) => m_tie (X := X) (d := 57) (T := T) (G := R) h1 hG.1.1 hG.2.1.1 x y b
  by_cases h : isM n x ∧ isM n y
  · obtain ⟨p, hp, ex⟩ := (isM_iff hn6).mp h.1
    obtain ⟨q, hq, ey⟩ := (isM_iff hn6).mp h.2
    by_cases hpq : p = q
    · have hxy : x = y := by rw [ex, ey, hpq]
      exact stay_op hK hG hC hR (hc.2.1 h.1 hxy) (fun I1 g => (hm I1 g).2.1 h.1 hxy)
    · obtain ⟨V, hV⟩ : ∃ V, V = tiV s p q b := ⟨_, rfl⟩
      have hVl := tiV_lt hn6 hS (p := p) (by omega) hq b
      have hVm := tiV_m hn6 hS (p := p) (by omega) hq b
      have hc1 := hc.1 p q hp hq ex ey hpq
      rw [← hV] at hVl hVm hc1
      have ho : VOo s (upd s (69 + p) V) := fun j h1 h2 => upd_ne (by omega)
      have hq2 : FR UC I (upI I 7 p V) := UC.up (FR.rf I) (by unfold UC; omega)
      have hl : ∀ j, j < 69 → upd s (69 + p) V j = s j := fun j hj => upd_ne (by omega)
      obtain ⟨b1, ⟨b2, b3, b4⟩, b5, b6, b7, b8⟩ := hG.2.1
      have hRI : RI (upd s (69 + p) V) n e cls := by
        refine ⟨b1, ⟨fun q hq => ?_, fun q hq => ?_, fun q hq => ?_⟩, fun q hq => ?_, (hl 0 (by omega)).trans b6, b7, b8⟩
        · rw [hl (14 + q) (by omega)]; exact b2 q hq
        · rw [hl (20 + q) (by omega)]; exact b3 q hq
        · by_cases g : q = p
          · rw [g, upd_at]; exact hVl
          · rw [upd_ne (by omega)]; exact b4 q hq
        · rw [hl (8 + q) (by omega), hl (39 + q) (by omega)]
          refine ⟨(b5 q hq).1, (b5 q hq).2.1, fun k' hk' => ?_⟩
          rw [hl _ (by omega)]
          exact (b5 q hq).2.2 k' hk'
      have hVM := hC.1.1.2.1
      obtain ⟨v8, v9, v10, v11, v12, vk, vv, va, vt, vh, vr⟩ := id hVM
      have hA : VA (K0 ++ T) (upI I 7 p V) R 1 (upd s (69 + p) V) n cls (rT s hd 222 20) (rT s hd 227 1) := by
        refine hC.1.1.vm ?_ (fun q hq => hl _ (by omega)) (fun c hc => upI_ne (by omega)) (by rw [upI_ne (by omega)])
        refine ⟨by rw [upI_ne (by omega)]; exact v8, ?_, ?_, by rw [upI_ne (by omega), hl 1 (by omega)]; exact v11, by rw [upI_ne (by omega), hl 0 (by omega)]; exact v12, fun i hi => ?_, fun i hi => ?_, fun i hi => ?_, fun i hi => ?_, fun i hi => ?_, fun i k' hi hk' => ?_⟩
        · rw [upI_ne (by omega), v9]; congr 1; exact mk_ext (fun i hi => by unfold sett; rw [hl (14 + i) (by omega)])
        · rw [upI_ne (by omega), v10]; congr 1; exact mk_ext (fun i hi => by unfold shel; rw [hl (20 + i) (by omega)])
        · rw [upI_ne (by omega), hl (33 + i) (by omega)]; exact vk i hi
        · rw [upI_ne (by omega), hl (39 + i) (by omega)]; exact vv i hi
        · rw [upI_ne (by omega), hl (2 + i) (by omega)]; exact va i hi
        · rw [upI_ne (by omega), hl (8 + i) (by omega)]; exact vt i hi
        · rw [show 1 + 6 = 7 from rfl, upI_eq]
          by_cases g : i = p
          · rw [g, upd_at, upd_at]
          · rw [upd_ne g, upd_ne (by omega)]; exact vh i hi
        · rw [upI_ne (by omega), hl _ (by omega)]; exact vr i k' hi hk'
      refine upd_op (s' := upd s (69 + p) V) hK hC hR hc1 hq2 (fun g1 g2 _ => ⟨_, (hm _ g1).1 p q hp hq ex ey hpq, by rw [upI_eq, g1, hVm], MF.up (by omega)⟩) (hG.vo ho (fun q hq => by rw [hl (33 + q) (by omega)]; exact hG.1.2.2.1 q hq) hRI hG.2.2.1 (by rw [hl 1 (by omega)]; exact hG.2.2.2.1) (fun q hq => by rw [hl (2 + q) (by omega)]; exact hG.2.2.2.2.1 q hq)) (hC.1.vo ho hA (by rw [upI_ne (by omega)]) (fun q q1 q2 => ?_) (fun q hq => ⟨hl _ (by omega), hl _ (by omega)⟩) (fun c t hk ht => uc_tags hF hq2 c t 4 hk (Or.inl ⟨ht, rfl⟩)) (fun c c1 c2 => upI_ne (by omega)))
      obtain ⟨z1, z2, z3, z4⟩ := hC.1.2.2.1 q q1 q2
      refine ⟨by rw [upI_ne (by omega)]; exact z1, by rw [upI_ne (by omega)]; exact z2, ?_, fun k' hk' => by rw [upI_ne (by omega)]; exact z4 k' hk'⟩
      rw [show 1 + 6 = 7 from rfl, upI_eq, upd_ne (by omega)]
      exact z3
  · exact stay_op hK hG hC hR (hc.2.2 h) (fun I1 g => (hm I1 g).2.2 h)
end TIE
