/-! CALLS OF THE LAW that only ask -/
/-- what a call adds to the cells -/
def TG (T T1 : List (Nat × Nat)) : Prop := T1 = T ∨ (∃ t, t < 13 ∧ T1 = T ++ [(t, 4)]) ∨ T1 = T ++ [(8, 10), (20, 10), (20, 10), (20, 100), (21, 0)]
/-- both sides answer the same, and what holds between two calls holds again -/
def OP (X : Nat × (Nat → Int32)) (T : List (Nat × Nat)) (I : Nat → Nat → Int32) (R : Nat → Nat → Option Nat) (kc km : Nat) (As : List Value) : Prop := ∃ (w : Value) (T1 : List (Nat × Nat)) (I1 : Nat → Nat → Int32) (R1 : Nat → Nat → Option Nat) (I2 : Nat → Nat → Int32), Ev X 59 kc 0 (ent kc (.ref 0 :: As)) [] (K0 ++ T, I, R) (some w, (K0 ++ T1, I1, R1)) ∧ Ev X 59 km 0 (ent km (.ref 140 :: As)) [] (K0 ++ T1, I1, R1) (some w, (K0 ++ T1, I2, R1)) ∧ LI T1 I2 R1 ∧ TG T T1
theorem RR.q {I I2 : Nat → Nat → Int32} {s : Nat → Int32} {l : List Int32} {im : Option Img} (h : RR I s l im) (h1 : I2 141 = s) (h2 : I2 142 = I 142) (h3 : I2 148 = I 148) (h4 : I2 140 4 = I 140 4) (h5 : I2 140 5 = I 140 5) (h6 : I2 140 16 = I 140 16) : RR I2 s l im := by
  obtain ⟨a1, a2, a3, a4, a5, a6⟩ := h
  refine ⟨h1, h5.trans a2, h4.trans a3, ?_, by rw [h2]; exact a5, by rw [h2]; exact a6⟩
  unfold TC at a4 ⊢
  rw [h6, h3]
  exact a4
section ASKS
variable {X : Nat × (Nat → Int32)} {d : Nat} {T : List (Nat × Nat)} {I : Nat → Nat → Int32} {R : Nat → Nat → Option Nat} {s : Nat → Int32} {n e : Nat} {hd : Option Nat} {cls : Cls} {l : List Int32} {im : Option Img} {kc km : Nat} {As : List Value}
theorem ask_op (hK : RSok R) (hG : GS s n hd cls e) (hC : CR (K0 ++ T) I R s n hd cls l im) (hR : RR I s l im) {w : Value} {I1 : Nat → Nat → Int32} {R1 : Nat → Nat → Option Nat} (h1 : Ev X 59 kc 0 (ent kc (.ref 0 :: As)) [] (K0 ++ T, I, R) (some w, (K0 ++ T, I1, R1))) (hI : FR QC I I1) (hQ : QR R R1) (h2 : I1 141 = s → I1 140 = I 140 → I1 148 = I 148 → ∃ I2, Ev X 59 km 0 (ent km (.ref 140 :: As)) [] (K0 ++ T, I1, RS R1) (some w, (K0 ++ T, I2, RS R1)) ∧ I2 141 = s ∧ MF I1 I2) : OP X T I R kc km As := by
  have hm : ∀ c, 140 ≤ c → c ≤ 148 → I1 c = I c := fun c c1 c2 => hI c (fun g => by have := QC_lt g; omega)
  obtain ⟨I2, e1, e2, e3⟩ := h2 ((hm 141 (by omega) (by omega)).trans hR.1) (hm 140 (by omega) (by omega)) (hm 148 (by omega) (by omega))
  have hK1 := hK.q hQ
  rw [hK1.eq] at e1
  have hf : FR QX I I2 := (hI.mo (fun c hc => Or.inl hc)).tr (fun c hc => by
    by_cases g : c < 140
    · exact e3.1 c g
    · exact e3.2.1 c (by
        rcases Nat.lt_or_ge 148 c with g2 | g2
        · omega
        · exact absurd (Or.inr ⟨by omega, g2⟩) hc))
  refine ⟨w, T, I1, R1, I2, h1, e1, ⟨hK1, s, n, hd, cls, e, l, im, hG, hC.q (FX1 hK) hf hQ, hR.q e2 ?_ ?_ ?_ ?_ ?_⟩, Or.inl rfl⟩
  · rw [e3.2.2.1, hm 142 (by omega) (by omega)]
  · rw [e3.2.2.2.1, hm 148 (by omega) (by omega)]
  · rw [e3.2.2.2.2.1, hm 140 (by omega) (by omega)]
  · rw [e3.2.2.2.2.2.1, hm 140 (by omega) (by omega)]
  · rw [e3.2.2.2.2.2.2, hm 140 (by omega) (by omega)]
theorem c_isM {K : List (Nat × Nat)} (hF : FX K R) (h8 : I 1 8 = nI n) (hn : n ≤ 6) (x : Int32) : (isM n x → Ev X d kX11_isMatter 0 (ent kX11_isMatter [.ref 0, .int x]) [] (K, I, R) (some (.int 1), (K, I, R))) ∧ (¬ isM n x → Ev X d kX11_isMatter 0 (ent kX11_isMatter [.ref 0, .int x]) [] (K, I, R) (some (.int 0), (K, I, R))) := by
  obtain ⟨f0, f1, f2, f3, f4, f5, f6, fv1, -⟩ := hF
  obtain ⟨k0, -⟩ := fv1
  refine ⟨fun h => ?_, fun h => ?_⟩
  · obtain ⟨p, hp, ex⟩ := (isM_iff hn).mp h
    subst ex
    (repeat (first | refine Ev.p rfl rfl ?_ | refine Ev.gr (by rfl) (by rfl) (by assumption) (by rfl) (by assumption) ?_ | refine Ev.gi (by rfl) (by rfl) (by assumption) (by rfl) (by assumption) ?_))
    refine Ev.bp rfl (fun c => ?_) (fun c => ?_)
    · exact absurd c (nI_pos (by omega))
    · (repeat (first | refine Ev.p rfl rfl ?_ | refine Ev.gr (by rfl) (by rfl) (by assumption) (by rfl) (by assumption) ?_ | refine Ev.gi (by rfl) (by rfl) (by assumption) (by rfl) (by assumption) ?_))
      refine Ev.bp rfl (fun c2 => ?_) (fun c2 => ?_)
      · exact absurd c2 (nI_ge hp (by omega))
      · ((repeat refine Ev.p rfl rfl ?_); exact Ev.r rfl)
  · (repeat (first | refine Ev.p rfl rfl ?_ | refine Ev.gr (by rfl) (by rfl) (by assumption) (by rfl) (by assumption) ?_ | refine Ev.gi (by rfl) (by rfl) (by assumption) (by rfl) (by assumption) ?_))
    refine Ev.bp rfl (fun c => ?_) (fun c => ?_)
    · ((repeat refine Ev.p rfl rfl ?_); exact Ev.r rfl)
    · (repeat (first | refine Ev.p rfl rfl ?_ | refine Ev.gr (by rfl) (by rfl) (by assumption) (by rfl) (by assumption) ?_ | refine Ev.gi (by rfl) (by rfl) (by assumption) (by rfl) (by assumption) ?_))
      refine Ev.bp rfl (fun c2 => ?_) (fun c2 => ?_)
      · ((repeat refine Ev.p rfl rfl ?_); exact Ev.r rfl)
      · exfalso
        obtain ⟨j, hj, ej⟩ := nI_of c
        subst ej
        refine h ((isM_iff hn).mpr ⟨j, ?_, rfl⟩)
        rcases Nat.lt_or_ge j n with g | g
        · exact g
        · exact absurd (nI_le g hj) c2
theorem c_net {K : List (Nat × Nat)} (hF : FX K R) (hV : VK K R 1) (hM : VM I 1 s n) (hS : SF s n) (hn : n ≤ 6) (x : Int32) : (∀ p, p < n → x = nI p → Ev X 59 kX11_net 0 (ent kX11_net [.ref 0, .int x]) [] (K, I, R) (some (.int (rNet s n p)), (K, I, R))) ∧ (¬ isM n x → Ev X 59 kX11_net 0 (ent kX11_net [.ref 0, .int x]) [] (K, I, R) (some (.int (-1)), (K, I, R))) := by
  have hm := c_isM (X := X) (d := 58) hF hM.1 hn x
  obtain ⟨f0, f1, -⟩ := hF
  obtain ⟨k0, -⟩ := id hV
  refine ⟨fun p hp ex => ?_, fun h => ?_⟩
  · have hnet := c_netOf (X := X) (d := 57) hV hM hn hS hp
    rw [← ex] at hnet
    (repeat (first | refine Ev.p rfl rfl ?_ | refine Ev.gr (by rfl) (by rfl) (by assumption) (by rfl) (by assumption) ?_ | refine Ev.gi (by rfl) (by rfl) (by assumption) (by rfl) (by assumption) ?_))
    refine Ev.cv (by rfl) (by rfl) (by assumption) (by rfl) (by rfl) (by rfl) (by rfl) (by rfl) (hm.1 ((isM_iff hn).mpr ⟨p, hp, ex⟩)) ?_
    (repeat (first | refine Ev.p rfl rfl ?_ | refine Ev.gr (by rfl) (by rfl) (by assumption) (by rfl) (by assumption) ?_ | refine Ev.gi (by rfl) (by rfl) (by assumption) (by rfl) (by assumption) ?_))
    refine Ev.cv (by rfl) (by rfl) (by assumption) (by rfl) (by rfl) (by rfl) (by rfl) (by rfl) hnet ?_
    ((repeat refine Ev.p rfl rfl ?_); exact Ev.r rfl)
  · (repeat (first | refine Ev.p rfl rfl ?_ | refine Ev.gr (by rfl) (by rfl) (by assumption) (by rfl) (by assumption) ?_ | refine Ev.gi (by rfl) (by rfl) (by assumption) (by rfl) (by assumption) ?_))
    refine Ev.cv (by rfl) (by rfl) (by assumption) (by rfl) (by rfl) (by rfl) (by rfl) (by rfl) (hm.2 h) ?_
    ((repeat refine Ev.p rfl rfl ?_); exact Ev.r rfl)
theorem op_net (hK : RSok R) (hG : GS s n hd cls e) (hC : CR (K0 ++ T) I R s n hd cls l im) (hR : RR I s l im) (x : Int32) : OP X T I R kX11_net kX12_net [.int x] := by
  have hF := FX1 (T := T) hK
  have hV := hC.1.1
  have hn6 := hG.2.1.1
  have hc := c_net (X := X) hF hF.2.2.2.2.2.2.2.1 hV.2.1 hG.2.1.2.1 hn6 x
  by_cases h : isM n x
  · obtain ⟨p, hp, ex⟩ := (isM_iff hn6).mp h
    exact ask_op hK hG hC hR (w := .int (rNet s n p)) (I1 := I) (R1 := R) (hc.1 p hp ex) (FR.rf I) (fun _ _ _ _ _ => rfl) (fun h1 _ _ => ⟨I, (m_net (X := X) (d := 57) h1 hG.1.1 hn6 x).1 p hp ex, h1, MF.rf I⟩)
  · exact ask_op hK hG hC hR (w := .int (-1)) (I1 := I) (R1 := R) (hc.2 h) (FR.rf I) (fun _ _ _ _ _ => rfl) (fun h1 _ _ => ⟨I, (m_net (X := X) (d := 57) h1 hG.1.1 hn6 x).2 h, h1, MF.rf I⟩)
theorem pv_qc {I I' : Nat → Nat → Int32} (h : FR (PV 1) I I') : FR QC I I' := h.mo (fun c hc => Or.inl hc)
/-- the answer of OF -/
def ofV (s : Nat → Int32) (n : Nat) (cls : Cls) (p w : Nat) : Int32 := match w with | 0 => s (33 + p) | 1 => s (39 + p) | 2 => s (2 + p) | 3 => s (8 + p) | 4 => s (14 + p) | 5 => s (20 + p) | 6 => bI (rRd s n p) | 7 => rStir s n p cls | _ => s (69 + p)
theorem c_of {K : List (Nat × Nat)} (hF : FX K R) (hG : GS s n hd cls e) (hVH : VH K I R 1 15 s n hd cls) (x y : Int32) : (∀ p w, p < n → x = nI p → w < 9 → y = nI w → ∃ I1, Ev X 59 kX11_of 0 (ent kX11_of [.ref 0, .int x, .int y]) [] (K, I, R) (some (.int (ofV s n cls p w)), (K, I1, R)) ∧ FR (PV 1) I I1) ∧ (isM n x → ¬ (0 ≤ y ∧ y ≤ 8) → Ev X 59 kX11_of 0 (ent kX11_of [.ref 0, .int x, .int y]) [] (K, I, R) (some (.int (-999999)), (K, I, R))) ∧ (¬ isM n x → Ev X 59 kX11_of 0 (ent kX11_of [.ref 0, .int x, .int y]) [] (K, I, R) (some (.int (-999999)), (K, I, R))) := by
  have hV := hVH.1
  have hn6 := hG.2.1.1
  have hS := hG.2.1.2.1
  have he : e < 1000000 := by have := hG.2.2.1; omega
  have hm := c_isM (X := X) (d := 58) hF hV.2.1.1 hn6 x
  obtain ⟨f0, f1, f2, f3, f4, f5, f6, fv1, -⟩ := hF
  refine ⟨fun p w hp ex hw ey => ?_, fun h h2 => ?_, fun h => ?_⟩
  · have h := (isM_iff hn6).mpr ⟨p, hp, ex⟩
    subst ex ey
    have hrd := c_isReady (X := X) (d := 56) fv1 hV.2.1 hn6 hS hp
    obtain ⟨q, h14, hst⟩ := hV.2.2.2.2.1
    obtain ⟨Is, hs1, hs2⟩ := c_stirOf (X := X) (d := 54) fv1 hV.2.1 hn6 hS hV.2.2.1 hp hG.1.2.2.2.1 he h14 hst
    obtain ⟨k0, k1, k2, k3, k4, k5, k6, k7, k8, r0, r1, r2, r3, r4, r5, r6, r7⟩ := id fv1
    obtain ⟨v8, v9, v10, v11, v12, vk, vv, va, vt, vh, vr⟩ := hV.2.1
    rcases (by omega : w = 0 ∨ w = 1 ∨ w = 2 ∨ w = 3 ∨ w = 4 ∨ w = 5 ∨ w = 6 ∨ w = 7 ∨ w = 8) with rfl | rfl | rfl | rfl | rfl | rfl | rfl | rfl | rfl
    · refine ⟨I, ?_, FR.rf I⟩
      (repeat (first | refine Ev.p rfl rfl ?_ | refine Ev.gr (by rfl) (by rfl) (by assumption) (by rfl) (by assumption) ?_ | refine Ev.gi (by rfl) (by rfl) (by assumption) (by rfl) (by assumption) ?_))
      refine Ev.cv (by rfl) (by rfl) (by assumption) (by rfl) (by rfl) (by rfl) (by rfl) (by rfl) (hm.1 h) ?_
      (repeat (first | refine Ev.p rfl rfl ?_ | refine Ev.gr (by rfl) (by rfl) (by assumption) (by rfl) (by assumption) ?_ | refine Ev.gi (by rfl) (by rfl) (by assumption) (by rfl) (by assumption) ?_))
      (refine Ev.iald (j := p) (by rfl) (by assumption) (by rfl) (by omega) (by omega) ?_; rw [vk p hp])
      ((repeat refine Ev.p rfl rfl ?_); exact Ev.r rfl)
    · refine ⟨I, ?_, FR.rf I⟩
      (repeat (first | refine Ev.p rfl rfl ?_ | refine Ev.gr (by rfl) (by rfl) (by assumption) (by rfl) (by assumption) ?_ | refine Ev.gi (by rfl) (by rfl) (by assumption) (by rfl) (by assumption) ?_))
      refine Ev.cv (by rfl) (by rfl) (by assumption) (by rfl) (by rfl) (by rfl) (by rfl) (by rfl) (hm.1 h) ?_
      (repeat (first | refine Ev.p rfl rfl ?_ | refine Ev.gr (by rfl) (by rfl) (by assumption) (by rfl) (by assumption) ?_ | refine Ev.gi (by rfl) (by rfl) (by assumption) (by rfl) (by assumption) ?_))
      (refine Ev.iald (j := p) (by rfl) (by assumption) (by rfl) (by omega) (by omega) ?_; rw [vv p hp])
      ((repeat refine Ev.p rfl rfl ?_); exact Ev.r rfl)
    · refine ⟨I, ?_, FR.rf I⟩
      (repeat (first | refine Ev.p rfl rfl ?_ | refine Ev.gr (by rfl) (by rfl) (by assumption) (by rfl) (by assumption) ?_ | refine Ev.gi (by rfl) (by rfl) (by assumption) (by rfl) (by assumption) ?_))
      refine Ev.cv (by rfl) (by rfl) (by assumption) (by rfl) (by rfl) (by rfl) (by rfl) (by rfl) (hm.1 h) ?_
      (repeat (first | refine Ev.p rfl rfl ?_ | refine Ev.gr (by rfl) (by rfl) (by assumption) (by rfl) (by assumption) ?_ | refine Ev.gi (by rfl) (by rfl) (by assumption) (by rfl) (by assumption) ?_))
      (refine Ev.iald (j := p) (by rfl) (by assumption) (by rfl) (by omega) (by omega) ?_; rw [va p hp])
      ((repeat refine Ev.p rfl rfl ?_); exact Ev.r rfl)
    · refine ⟨I, ?_, FR.rf I⟩
      (repeat (first | refine Ev.p rfl rfl ?_ | refine Ev.gr (by rfl) (by rfl) (by assumption) (by rfl) (by assumption) ?_ | refine Ev.gi (by rfl) (by rfl) (by assumption) (by rfl) (by assumption) ?_))
      refine Ev.cv (by rfl) (by rfl) (by assumption) (by rfl) (by rfl) (by rfl) (by rfl) (by rfl) (hm.1 h) ?_
      (repeat (first | refine Ev.p rfl rfl ?_ | refine Ev.gr (by rfl) (by rfl) (by assumption) (by rfl) (by assumption) ?_ | refine Ev.gi (by rfl) (by rfl) (by assumption) (by rfl) (by assumption) ?_))
      (refine Ev.iald (j := p) (by rfl) (by assumption) (by rfl) (by omega) (by omega) ?_; rw [vt p hp])
      ((repeat refine Ev.p rfl rfl ?_); exact Ev.r rfl)
    · refine ⟨I, ?_, FR.rf I⟩
      (repeat (first | refine Ev.p rfl rfl ?_ | refine Ev.gr (by rfl) (by rfl) (by assumption) (by rfl) (by assumption) ?_ | refine Ev.gi (by rfl) (by rfl) (by assumption) (by rfl) (by assumption) ?_))
      refine Ev.cv (by rfl) (by rfl) (by assumption) (by rfl) (by rfl) (by rfl) (by rfl) (by rfl) (hm.1 h) ?_
      (repeat (first | refine Ev.p rfl rfl ?_ | refine Ev.gr (by rfl) (by rfl) (by assumption) (by rfl) (by assumption) ?_ | refine Ev.gi (by rfl) (by rfl) (by assumption) (by rfl) (by assumption) ?_))
      rw [mk_sr _ hn6 hp, ← sett_0 hS.1 (by omega)]
      ((repeat refine Ev.p rfl rfl ?_); exact Ev.r rfl)
    · refine ⟨I, ?_, FR.rf I⟩
      (repeat (first | refine Ev.p rfl rfl ?_ | refine Ev.gr (by rfl) (by rfl) (by assumption) (by rfl) (by assumption) ?_ | refine Ev.gi (by rfl) (by rfl) (by assumption) (by rfl) (by assumption) ?_))
      refine Ev.cv (by rfl) (by rfl) (by assumption) (by rfl) (by rfl) (by rfl) (by rfl) (by rfl) (hm.1 h) ?_
      (repeat (first | refine Ev.p rfl rfl ?_ | refine Ev.gr (by rfl) (by rfl) (by assumption) (by rfl) (by assumption) ?_ | refine Ev.gi (by rfl) (by rfl) (by assumption) (by rfl) (by assumption) ?_))
      rw [mk_sr _ hn6 hp, ← shel_0 hS.2.1 (by omega)]
      ((repeat refine Ev.p rfl rfl ?_); exact Ev.r rfl)
    · refine ⟨I, ?_, FR.rf I⟩
      (repeat (first | refine Ev.p rfl rfl ?_ | refine Ev.gr (by rfl) (by rfl) (by assumption) (by rfl) (by assumption) ?_ | refine Ev.gi (by rfl) (by rfl) (by assumption) (by rfl) (by assumption) ?_))
      refine Ev.cv (by rfl) (by rfl) (by assumption) (by rfl) (by rfl) (by rfl) (by rfl) (by rfl) (hm.1 h) ?_
      (repeat (first | refine Ev.p rfl rfl ?_ | refine Ev.gr (by rfl) (by rfl) (by assumption) (by rfl) (by assumption) ?_ | refine Ev.gi (by rfl) (by rfl) (by assumption) (by rfl) (by assumption) ?_))
      refine Ev.cv (by rfl) (by rfl) (by assumption) (by rfl) (by rfl) (by rfl) (by rfl) (by rfl) hrd ?_
      unfold ofV
      cases rRd s n p <;> ((repeat refine Ev.p rfl rfl ?_); exact Ev.r rfl)
    · refine ⟨Is, ?_, hs2⟩
      have hs1 := hs1.dp (d' := 58) (by omega)
      (repeat (first | refine Ev.p rfl rfl ?_ | refine Ev.gr (by rfl) (by rfl) (by assumption) (by rfl) (by assumption) ?_ | refine Ev.gi (by rfl) (by rfl) (by assumption) (by rfl) (by assumption) ?_))
      refine Ev.cv (by rfl) (by rfl) (by assumption) (by rfl) (by rfl) (by rfl) (by rfl) (by rfl) (hm.1 h) ?_
      (repeat (first | refine Ev.p rfl rfl ?_ | refine Ev.gr (by rfl) (by rfl) (by assumption) (by rfl) (by assumption) ?_ | refine Ev.gi (by rfl) (by rfl) (by assumption) (by rfl) (by assumption) ?_))
      refine Ev.cv (by rfl) (by rfl) (by assumption) (by rfl) (by rfl) (by rfl) (by rfl) (by rfl) hs1 ?_
      ((repeat refine Ev.p rfl rfl ?_); exact Ev.r rfl)
    · refine ⟨I, ?_, FR.rf I⟩
      (repeat (first | refine Ev.p rfl rfl ?_ | refine Ev.gr (by rfl) (by rfl) (by assumption) (by rfl) (by assumption) ?_ | refine Ev.gi (by rfl) (by rfl) (by assumption) (by rfl) (by assumption) ?_))
      refine Ev.cv (by rfl) (by rfl) (by assumption) (by rfl) (by rfl) (by rfl) (by rfl) (by rfl) (hm.1 h) ?_
      (repeat (first | refine Ev.p rfl rfl ?_ | refine Ev.gr (by rfl) (by rfl) (by assumption) (by rfl) (by assumption) ?_ | refine Ev.gi (by rfl) (by rfl) (by assumption) (by rfl) (by assumption) ?_))
      (refine Ev.iald (j := p) (by rfl) (by assumption) (by rfl) (by omega) (by omega) ?_; rw [vh p hp])
      ((repeat refine Ev.p rfl rfl ?_); exact Ev.r rfl)
  · (repeat (first | refine Ev.p rfl rfl ?_ | refine Ev.gr (by rfl) (by rfl) (by assumption) (by rfl) (by assumption) ?_ | refine Ev.gi (by rfl) (by rfl) (by assumption) (by rfl) (by assumption) ?_))
    refine Ev.cv (by rfl) (by rfl) (by assumption) (by rfl) (by rfl) (by rfl) (by rfl) (by rfl) (hm.1 h) ?_
    iterate 2 refine Ev.p rfl rfl ?_
    refine Ev.p (pc' := 164) (ls' := ent kX11_of [.ref 0, .int x, .int y]) (st' := []) (h' := (K, I, R)) rfl ?_ ?_
    · show (some (swt 152 0 8 _ 12 y.toInt, ent kX11_of [.ref 0, .int x, .int y], [], (K, I, R)) : Option St) = _
      rw [swt_out (by
        by_cases h3 : y.toInt < 0
        · exact Or.inl h3
        · by_cases h4 : 8 < y.toInt
          · exact Or.inr h4
          · exact absurd ⟨Int32.le_iff_toInt_le.mpr (by show (0 : Int) ≤ _; omega), Int32.le_iff_toInt_le.mpr (by show _ ≤ (8 : Int); omega)⟩ h2)]
      rfl
    ((repeat refine Ev.p rfl rfl ?_); exact Ev.r rfl)
  · (repeat (first | refine Ev.p rfl rfl ?_ | refine Ev.gr (by rfl) (by rfl) (by assumption) (by rfl) (by assumption) ?_ | refine Ev.gi (by rfl) (by rfl) (by assumption) (by rfl) (by assumption) ?_))
    refine Ev.cv (by rfl) (by rfl) (by assumption) (by rfl) (by rfl) (by rfl) (by rfl) (by rfl) (hm.2 h) ?_
    ((repeat refine Ev.p rfl rfl ?_); exact Ev.r rfl)
theorem op_of (hK : RSok R) (hG : GS s n hd cls e) (hC : CR (K0 ++ T) I R s n hd cls l im) (hR : RR I s l im) (x y : Int32) : OP X T I R kX11_of kX12_of [.int x, .int y] := by
  have hc := c_of (X := X) (FX1 (T := T) hK) hG hC.1 x y
  have hn6 := hG.2.1.1
  by_cases h : isM n x
  · by_cases h2 : 0 ≤ y ∧ y ≤ 8
    · obtain ⟨p, hp, ex⟩ := (isM_iff hn6).mp h
      obtain ⟨w, hw, ey⟩ := nI_of2 (M := 8) (n := 8) (by decide) (Int32.not_lt.mpr h2.1) h2.2
      obtain ⟨I1, c1, c2⟩ := hc.1 p w hp ex (by omega) ey
      refine ask_op hK hG hC hR (w := .int (ofV s n cls p w)) (I1 := I1) (R1 := R) c1 (pv_qc c2) (fun _ _ _ _ _ => rfl) (fun h1 _ _ => ?_)
      exact (m_of (X := X) (d := 56) h1 hG.1 x y).2.2 p w hp ex (by omega) ey
    · exact ask_op hK hG hC hR (w := .int (-999999)) (I1 := I) (R1 := R) (hc.2.1 h h2) (FR.rf I) (fun _ _ _ _ _ => rfl) (fun h1 _ _ => ⟨I, (m_of (X := X) (d := 56) h1 hG.1 x y).2.1 h h2, h1, MF.rf I⟩)
  · exact ask_op hK hG hC hR (w := .int (-999999)) (I1 := I) (R1 := R) (hc.2.2 h) (FR.rf I) (fun _ _ _ _ _ => rfl) (fun h1 _ _ => ⟨I, (m_of (X := X) (d := 56) h1 hG.1 x y).1 h, h1, MF.rf I⟩)
end ASKS
