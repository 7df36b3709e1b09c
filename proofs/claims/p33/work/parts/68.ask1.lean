/-! CALLS OF THE LAW that only ask -/
/-- what a call adds to the cells -/
def TG (T T1 : List (Nat × Nat)) : Prop := T1 = T ∨ (∃ t, t < 13 ∧ T1 = T ++ [(t, 4)]) ∨ T1 = T ++ [(8, 10), (20, 10), (20, 10), (20, 100), (21, 0)]
section ASKS
variable {X : Nat × (Nat → Int32)} {d : Nat} {T : List (Nat × Nat)} {I : Nat → Nat → Int32} {R : Nat → Nat → Option Nat} {s : Nat → Int32} {n e : Nat} {hd : Option Nat} {cls : Cls} {l : List Int32} {im : Option Img} {kc km : Nat} {As : List Value}
theorem c_isM {K : List (Nat × Nat)} (hF : FX K R) (h8 : I 1 8 = nI n) (hn : n ≤ 6) (x : Int32) : (isM n x → Ev X d kX11_isMatter 0 (ent kX11_isMatter [.ref 0, .int x]) [] (K, I, R) (some (.int 1), (K, I, R))) ∧ (¬ isM n x → Ev X d kX11_isMatter 0 (ent kX11_isMatter [.ref 0, .int x]) [] (K, I, R) (some (.int 0), (K, I, R))) := by
  obtain ⟨f0, f1, f2, f3, f4, f5, f6, fv1, -⟩ := hF
  obtain ⟨k0, -⟩ := fv1
  refine ⟨fun h => ?_, fun h => ?_⟩
  · obtain ⟨p, hp, ex⟩ := (isM_iff hn).mp h
    subst ex
    (repeat (first | refine Ev.p rfl rfl ?_ | refine Ev.gr (by rfl) (by rfl) (by assumption) (by rfl) (by assumption) ?_ | refine Ev.gi (by rfl) (by rfl) (by assumption) (by rfl) (by assumption) ?_))
    refine Ev.bp rfl (fun c => ?_) (fun c => ?_)
    · exact absurd c (nI_pos (by omega))
    · (repeat (first | refine Ev.p rfl rfl ?_ | refine Ev.gr (by rfl) (by rfl) (by assumption) (by rfl) (by assumption) ?_ | refine Ev.gi (by rfl) (by rfl) (by assumption) (by rfl) (by assumption) ?_))
      refine Ev.bp rfl (fun c2 => ?_) (fun c2 => ?_)
      · exact absurd c2 (nI_ge hp (by omega))
      · ((repeat refine Ev.p rfl rfl ?_); exact Ev.r rfl)
  · (repeat (first | refine Ev.p rfl rfl ?_ | refine Ev.gr (by rfl) (by rfl) (by assumption) (by rfl) (by assumption) ?_ | refine Ev.gi (by rfl) (by rfl) (by assumption) (by rfl) (by assumption) ?_))
    refine Ev.bp rfl (fun c => ?_) (fun c => ?_)
    · ((repeat refine Ev.p rfl rfl ?_); exact Ev.r rfl)
    · (repeat (first | refine Ev.p rfl rfl ?_ | refine Ev.gr (by rfl) (by rfl) (by assumption) (by rfl) (by assumption) ?_ | refine Ev.gi (by rfl) (by rfl) (by assumption) (by rfl) (by assumption) ?_))
      refine Ev.bp rfl (fun c2 => ?_) (fun c2 => ?_)
      · ((repeat refine Ev.p rfl rfl ?_); exact Ev.r rfl)
      · exfalso
        obtain ⟨j, hj, ej⟩ := nI_of c
        subst ej
        refine h ((isM_iff hn).mpr ⟨j, ?_, rfl⟩)
        rcases Nat.lt_or_ge j n with g | g
        · exact g
        · exact absurd (nI_le g hj) c2
theorem c_net {K : List (Nat × Nat)} (hF : FX K R) (hV : VK K R 1) (hM : VM I 1 s n) (hS : SF s n) (hn : n ≤ 6) (x : Int32) : (∀ p, p < n → x = nI p → Ev X 59 kX11_net 0 (ent kX11_net [.ref 0, .int x]) [] (K, I, R) (some (.int (rNet s n p)), (K, I, R))) ∧ (¬ isM n x → Ev X 59 kX11_net 0 (ent kX11_net [.ref 0, .int x]) [] (K, I, R) (some (.int (-1)), (K, I, R))) := by
  have hm := c_isM (X := X) (d := 58) hF hM.1 hn x
  obtain ⟨f0, f1, -⟩ := hF
  obtain ⟨k0, -⟩ := id hV
  refine ⟨fun p hp ex => ?_, fun h => ?_⟩
  · have hnet := c_netOf (X := X) (d := 57) hV hM hn hS hp
    rw [← ex] at hnet
    (repeat (first | refine Ev.p rfl rfl ?_ | refine Ev.gr (by rfl) (by rfl) (by assumption) (by rfl) (by assumption) ?_ | refine Ev.gi (by rfl) (by rfl) (by assumption) (by rfl) (by assumption) ?_))
    refine Ev.cv (by rfl) (by rfl) (by assumption) (by rfl) (by rfl) (by rfl) (by rfl) (by rfl) (hm.1 ((isM_iff hn).mpr ⟨p, hp, ex⟩)) ?_
    (repeat (first | refine Ev.p rfl rfl ?_ | refine Ev.gr (by rfl) (by rfl) (by assumption) (by rfl) (by assumption) ?_ | refine Ev.gi (by rfl) (by rfl) (by assumption) (by rfl) (by assumption) ?_))
    refine Ev.cv (by rfl) (by rfl) (by assumption) (by rfl) (by rfl) (by rfl) (by rfl) (by rfl) hnet ?_
    ((repeat refine Ev.p rfl rfl ?_); exact Ev.r rfl)
  · (repeat (first | refine Ev.p rfl rfl ?_ | refine Ev.gr (by rfl) (by rfl) (by assumption) (by rfl) (by assumption) ?_ | refine Ev.gi (by rfl) (by rfl) (by assumption) (by rfl) (by assumption) ?_))
    refine Ev.cv (by rfl) (by rfl) (by assumption) (by rfl) (by rfl) (by rfl) (by rfl) (by rfl) (hm.2 h) ?_
    ((repeat refine Ev.p rfl rfl ?_); exact Ev.r rfl)
theorem pv_qc {I I' : Nat → Nat → Int32} (h : FR (PV 1) I I') : FR QC I I' := h.mo (fun c hc => Or.inl hc)
/-- the answer of OF -/
def ofV (s : Nat → Int32) (n : Nat) (cls : Cls) (p w : Nat) : Int32 := match w with | 0 => s (33 + p) | 1 => s (39 + p) | 2 => s (2 + p) | 3 => s (8 + p) | 4 => s (14 + p) | 5 => s (20 + p) | 6 => bI (rRd s n p) | 7 => rStir s n p cls | _ => s (69 + p)
theorem c_of {K : List (Nat × Nat)} (hF : FX K R) (hG : GS s n hd cls e) (hVH : VH K I R 1 15 s n hd cls) (x y : Int32) : (∀ p w, p < n → x = nI p → w < 9 → y = nI w → ∃ I1, Ev X 59 kX11_of 0 (ent kX11_of [.ref 0, .int x, .int y]) [] (K, I, R) (some (.int (ofV s n cls p w)), (K, I1, R)) ∧ FR (PV 1) I I1) ∧ (isM n x → ¬ (0 ≤ y ∧ y ≤ 8) → Ev X 59 kX11_of 0 (ent kX11_of [.ref 0, .int x, .int y]) [] (K, I, R) (some (.int (-999999)), (K, I, R))) ∧ (¬ isM n x → Ev X 59 kX11_of 0 (ent kX11_of [.ref 0, .int x, .int y]) [] (K, I, R) (some (.int (-999999)), (K, I, R))) := by
  have hV := hVH.1
  have hn6 := hG.2.1.1
  have hS := hG.2.1.2.1
  have he : e < 1000000 := by have := hG.2.2.1; omega
  have hm := c_isM (X := X) (d := 58) hF hV.2.1.1 hn6 x
  obtain ⟨f0, f1, f2, f3, f4, f5, f6, fv1, -⟩ := hF
  refine ⟨fun p w hp ex hw ey => ?_, fun h h2 => ?_, fun h => ?_⟩
  · have h := (isM_iff hn6).mpr ⟨p, hp, ex⟩
    subst ex ey
    have hrd := c_isReady (X := X) (d := 56) fv1 hV.2.1 hn6 hS hp
    obtain ⟨q, h14, hst⟩ := hV.2.2.2.2.1
    obtain ⟨Is, hs1, hs2⟩ := c_stirOf (X := X) (d := 54) fv1 hV.2.1 hn6 hS hV.2.2.1 hp hG.1.2.2.2.1 he h14 hst
    obtain ⟨k0, k1, k2, k3, k4, k5, k6, k7, k8, r0, r1, r2, r3, r4, r5, r6, r7⟩ := id fv1
    obtain ⟨v8, v9, v10, v11, v12, vk, vv, va, vt, vh, vr⟩ := hV.2.1
    rcases (by omega : w = 0 ∨ w = 1 ∨ w = 2 ∨ w = 3 ∨ w = 4 ∨ w = 5 ∨ w = 6 ∨ w = 7 ∨ w = 8) with rfl | rfl | rfl | rfl | rfl | rfl | rfl | rfl | rfl
    · refine ⟨I, ?_, FR.rf I⟩
      (repeat (first | refine Ev.p rfl rfl ?_ | refine Ev.gr (by rfl) (by rfl) (by assumption) (by rfl) (by assumption) ?_ | refine Ev.gi (by rfl) (by rfl) (by assumption) (by rfl) (by assumption) ?_))
      refine Ev.cv (by rfl) (by rfl) (by assumption) (by rfl) (by rfl) (by rfl) (by rfl) (by rfl) (hm.1 h) ?_
      (repeat (first | refine Ev.p rfl rfl ?_ | refine Ev.gr (by rfl) (by rfl) (by assumption) (by rfl) (by assumption) ?_ | refine Ev.gi (by rfl) (by rfl) (by assumption) (by rfl) (by assumption) ?_))
      (refine Ev.iald (j := p) (by rfl) (by assumption) (by rfl) (by omega) (by omega) ?_; rw [vk p hp])
      ((repeat refine Ev.p rfl rfl ?_); exact Ev.r rfl)
    · refine ⟨I, ?_, FR.rf I⟩
      (repeat (first | refine Ev.p rfl rfl ?_ | refine Ev.gr (by rfl) (by rfl) (by assumption) (by rfl) (by assumption) ?_ | refine Ev.gi (by rfl) (by rfl) (by assumption) (by rfl) (by assumption) ?_))
      refine Ev.cv (by rfl) (by rfl) (by assumption) (by rfl) (by rfl) (by rfl) (by rfl) (by rfl) (hm.1 h) ?_
      (repeat (first | refine Ev.p rfl rfl ?_ | refine Ev.gr (by rfl) (by rfl) (by assumption) (by rfl) (by assumption) ?_ | refine Ev.gi (by rfl) (by rfl) (by assumption) (by rfl) (by assumption) ?_))
      (refine Ev.iald (j := p) (by rfl) (by assumption) (by rfl) (by omega) (by omega) ?_; rw [vv p hp])
      ((repeat refine Ev.p rfl rfl ?_); exact Ev.r rfl)
    · refine ⟨I, ?_, FR.rf I⟩
      (repeat (first | refine Ev.p rfl rfl ?_ | refine Ev.gr (by rfl) (by rfl) (by assumption) (by rfl) (by assumption) ?_ | refine Ev.gi (by rfl) (by rfl) (by assumption) (by rfl) (by assumption) ?_))
      refine Ev.cv (by rfl) (by rfl) (by assumption) (by rfl) (by rfl) (by rfl) (by rfl) (by rfl) (hm.1 h) ?_
      (repeat (first | refine Ev.p rfl rfl ?_ | refine Ev.gr (by rfl) (by rfl) (by assumption) (by rfl) (by assumption) ?_ | refine Ev.gi (by rfl) (by rfl) (by assumption) (by rfl) (by assumption) ?_))
      (refine Ev.iald (j := p) (by rfl) (by assumption) (by rfl) (by omega) (by omega) ?_; rw [va p hp])
      ((repeat refine Ev.p rfl rfl ?_); exact Ev.r rfl)
    · refine ⟨I, ?_, FR.rf I⟩
      (repeat (first | refine Ev.p rfl rfl ?_ | refine Ev.gr (by rfl) (by rfl) (by assumption) (by rfl) (by assumption) ?_ | refine Ev.gi (by rfl) (by rfl) (by assumption) (by rfl) (by assumption) ?_))
      refine Ev.cv (by rfl) (by rfl) (by assumption) (by rfl) (by rfl) (by rfl) (by rfl) (by rfl) (hm.1 h) ?_
      (repeat (first | refine Ev.p rfl rfl ?_ | refine Ev.gr (by rfl) (by rfl) (by assumption) (by rfl) (by assumption) ?_ | refine Ev.gi (by rfl) (by rfl) (by assumption) (by rfl) (by assumption) ?_))
      (refine Ev.iald (j := p) (by rfl) (by assumption) (by rfl) (by omega) (by omega) ?_; rw [vt p hp])
      ((repeat refine Ev.p rfl rfl ?_); exact Ev.r rfl)
    · refine ⟨I, ?_, FR.rf I⟩
      (repeat (first | refine Ev.p rfl rfl ?_ | refine Ev.gr (by rfl) (by rfl) (by assumption) (by rfl) (by assumption) ?_ | refine Ev.gi (by rfl) (by rfl) (by assumption) (by rfl) (by assumption) ?_))
      refine Ev.cv (by rfl) (by rfl) (by assumption) (by rfl) (by rfl) (by rfl) (by rfl) (by rfl) (hm.1 h) ?_
      (repeat (first | refine Ev.p rfl rfl ?_ | refine Ev.gr (by rfl) (by rfl) (by assumption) (by rfl) (by assumption) ?_ | refine Ev.gi (by rfl) (by rfl) (by assumption) (by rfl) (by assumption) ?_))
      rw [mk_sr _ hn6 hp, ← sett_0 hS.1 (by omega)]
      ((repeat refine Ev.p rfl rfl ?_); exact Ev.r rfl)
    · refine ⟨I, ?_, FR.rf I⟩
      (repeat (first | refine Ev.p rfl rfl ?_ | refine Ev.gr (by rfl) (by rfl) (by assumption) (by rfl) (by assumption) ?_ | refine Ev.gi (by rfl) (by rfl) (by assumption) (by rfl) (by assumption) ?_))
      refine Ev.cv (by rfl) (by rfl) (by assumption) (by rfl) (by rfl) (by rfl) (by rfl) (by rfl) (hm.1 h) ?_
      (repeat (first | refine Ev.p rfl rfl ?_ | refine Ev.gr (by rfl) (by rfl) (by assumption) (by rfl) (by assumption) ?_ | refine Ev.gi (by rfl) (by rfl) (by assumption) (by rfl) (by assumption) ?_))
      rw [mk_sr _ hn6 hp, ← shel_0 hS.2.1 (by omega)]
      ((repeat refine Ev.p rfl rfl ?_); exact Ev.r rfl)
    · refine ⟨I, ?_, FR.rf I⟩
      (repeat (first | refine Ev.p rfl rfl ?_ | refine Ev.gr (by rfl) (by rfl) (by assumption) (by rfl) (by assumption) ?_ | refine Ev.gi (by rfl) (by rfl) (by assumption) (by rfl) (by assumption) ?_))
      refine Ev.cv (by rfl) (by rfl) (by assumption) (by rfl) (by rfl) (by rfl) (by rfl) (by rfl) (hm.1 h) ?_
      (repeat (first | refine Ev.p rfl rfl ?_ | refine Ev.gr (by rfl) (by rfl) (by assumption) (by rfl) (by assumption) ?_ | refine Ev.gi (by rfl) (by rfl) (by assumption) (by rfl) (by assumption) ?_))
      refine Ev.cv (by rfl) (by rfl) (by assumption) (by rfl) (by rfl) (by rfl) (by rfl) (by rfl) hrd ?_
      unfold ofV
      cases rRd s n p <;> ((repeat refine Ev.p rfl rfl ?_); exact Ev.r rfl)
    · refine ⟨Is, ?_, hs2⟩
      have hs1 := hs1.dp (d' := 58) (by omega)
      (repeat (first | refine Ev.p rfl rfl ?_ | refine Ev.gr (by rfl) (by rfl) (by assumption) (by rfl) (by assumption) ?_ | refine Ev.gi (by rfl) (by rfl) (by assumption) (by rfl) (by assumption) ?_))
      refine Ev.cv (by rfl) (by rfl) (by assumption) (by rfl) (by rfl) (by rfl) (by rfl) (by rfl) (hm.1 h) ?_
      (repeat (first | refine Ev.p rfl rfl ?_ | refine Ev.gr (by rfl) (by rfl) (by assumption) (by rfl) (by assumption) ?_ | refine Ev.gi (by rfl) (by rfl) (by assumption) (by rfl) (by assumption) ?_))
      refine Ev.cv (by rfl) (by rfl) (by assumption) (by rfl) (by rfl) (by rfl) (by rfl) (by rfl) hs1 ?_
      ((repeat refine Ev.p rfl rfl ?_); exact Ev.r rfl)
    · refine ⟨I, ?_, FR.rf I⟩
      (repeat (first | refine Ev.p rfl rfl ?_ | refine Ev.gr (by rfl) (by rfl) (by assumption) (by rfl) (by assumption) ?_ | refine Ev.gi (by rfl) (by rfl) (by assumption) (by rfl) (by assumption) ?_))
      refine Ev.cv (by rfl) (by rfl) (by assumption) (by rfl) (by rfl) (by rfl) (by rfl) (by rfl) (hm.1 h) ?_
      (repeat (first | refine Ev.p rfl rfl ?_ | refine Ev.gr (by rfl) (by rfl) (by assumption) (by rfl) (by assumption) ?_ | refine Ev.gi (by rfl) (by rfl) (by assumption) (by rfl) (by assumption) ?_))
      (refine Ev.iald (j := p) (by rfl) (by assumption) (by rfl) (by omega) (by omega) ?_; rw [vh p hp])
      ((repeat refine Ev.p rfl rfl ?_); exact Ev.r rfl)
  · (repeat (first | refine Ev.p rfl rfl ?_ | refine Ev.gr (by rfl) (by rfl) (by assumption) (by rfl) (by assumption) ?_ | refine Ev.gi (by rfl) (by rfl) (by assumption) (by rfl) (by assumption) ?_))
    refine Ev.cv (by rfl) (by rfl) (by assumption) (by rfl) (by rfl) (by rfl) (by rfl) (by rfl) (hm.1 h) ?_
    iterate 2 refine Ev.p rfl rfl ?_
    refine Ev.p (pc' := 164) (ls' := ent kX11_of [.ref 0, .int x, .int y]) (st' := []) (h' := (K, I, R)) rfl ?_ ?_
    · show (some (swt 152 0 8 _ 12 y.toInt, ent kX11_of [.ref 0, .int x, .int y], [], (K, I, R)) : Option St) = _
      rw [swt_out (by
        by_cases h3 : y.toInt < 0
        · exact Or.inl h3
        · by_cases h4 : 8 < y.toInt
          · exact Or.inr h4
          · exact absurd ⟨Int32.le_iff_toInt_le.mpr (by show (0 : Int) ≤ _; omega), Int32.le_iff_toInt_le.mpr (by show _ ≤ (8 : Int); omega)⟩ h2)]
      rfl
    ((repeat refine Ev.p rfl rfl ?_); exact Ev.r rfl)
  · (repeat (first | refine Ev.p rfl rfl ?_ | refine Ev.gr (by rfl) (by rfl) (by assumption) (by rfl) (by assumption) ?_ | refine Ev.gi (by rfl) (by rfl) (by assumption) (by rfl) (by assumption) ?_))
    refine Ev.cv (by rfl) (by rfl) (by assumption) (by rfl) (by rfl) (by rfl) (by rfl) (by rfl) (hm.2 h) ?_
    ((repeat refine Ev.p rfl rfl ?_); exact Ev.r rfl)
end ASKS
