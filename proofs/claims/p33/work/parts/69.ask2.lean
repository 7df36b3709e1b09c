/-! CALLS OF THE LAW that only ask: when, told, done, dues, firm -/
section ASK2
variable {X : Nat × (Nat → Int32)} {d : Nat} {K : List (Nat × Nat)} {T : List (Nat × Nat)} {I : Nat → Nat → Int32} {R : Nat → Nat → Option Nat} {s : Nat → Int32} {n e : Nat} {hd : Option Nat} {cls : Cls} {l : List Int32} {im : Option Img} {kc km : Nat} {As : List Value}
theorem pw_qc {I I' : Nat → Nat → Int32} (h : FR (PW 46) I I') : FR QC I I' := h.mo (fun c hc => Or.inr (Or.inr (Or.inr (Or.inr (Or.inr (Or.inl hc))))))
theorem pa_qc {I I' : Nat → Nat → Int32} (h : FR (PA 45 46) I I') : FR QC I I' := h.mo (fun c hc => by
  rcases hc with h | h
  · exact Or.inr (Or.inl h)
  · exact Or.inr (Or.inr (Or.inr (Or.inr (Or.inr (Or.inl h))))))
theorem rf_qr {R R' : Nat → Nat → Option Nat} (h : RF 46 R R') : QR R R' := fun c j h1 h2 _ => h c j h1 h2
theorem c_when (hF : FX K R) (hG : GS s n hd cls e) (hVH : VH K I R 1 15 s n hd cls) (x : Int32) : (¬ isM n x → Ev X 59 kX11_when 0 (ent kX11_when [.ref 0, .int x]) [] (K, I, R) (some (.int (-1)), (K, I, R))) ∧ (∀ p, p < n → x = nI p → ∃ I1 R1, Ev X 59 kX11_when 0 (ent kX11_when [.ref 0, .int x]) [] (K, I, R) (some (.int (tv (fst (rSet s n cls (rT s hd 222 20) (rT s hd 227 1) p) 61 0))), (K, I1, R1)) ∧ FR (PW 46) I I1 ∧ RF 46 R R1) := by
  have hV := hVH.1
  have hn6 := hG.2.1.1
  have he : e + 60 + 1 < 1000000 := by have := hG.2.2.1; omega
  have hm := c_isM (X := X) (d := 58) hF hV.2.1.1 hn6 x
  obtain ⟨f0, f1, f2, f3, f4, f5, f6, fv1, fv2, fv3, fh1, fh2, f7, f8, -⟩ := hF
  obtain ⟨k0, -⟩ := id fv1
  have h13 := hV.2.2.2.2.2
  refine ⟨fun h => ?_, fun p hp ex => ?_⟩
  · (repeat (first | refine Ev.p rfl rfl ?_ | refine Ev.gr (by rfl) (by rfl) (by assumption) (by rfl) (by assumption) ?_ | refine Ev.gi (by rfl) (by rfl) (by assumption) (by rfl) (by assumption) ?_))
    refine Ev.cv (by rfl) (by rfl) (by assumption) (by rfl) (by rfl) (by rfl) (by rfl) (by rfl) (hm.2 h) ?_
    ((repeat refine Ev.p rfl rfl ?_); exact Ev.r rfl)
  · obtain ⟨f, hf, ef⟩ := hG.2.2.2.2.2.2.2.2.2.2.1
    obtain ⟨I1, R1, c1, c2, c3⟩ := c_firstSettled (X := X) (d := 52) (du := rT s hd 222 20) f7 f8 fv3 hV hG.2.1 (by omega) hp he ef hf
    have h := hm.1 ((isM_iff hn6).mpr ⟨p, hp, ex⟩)
    subst ex
    refine ⟨I1, R1, ?_, c2, c3⟩
    (repeat (first | refine Ev.p rfl rfl ?_ | refine Ev.gr (by rfl) (by rfl) (by assumption) (by rfl) (by assumption) ?_ | refine Ev.gi (by rfl) (by rfl) (by assumption) (by rfl) (by assumption) ?_))
    refine Ev.cv (by rfl) (by rfl) (by assumption) (by rfl) (by rfl) (by rfl) (by rfl) (by rfl) h ?_
    (repeat (first | refine Ev.p rfl rfl ?_ | refine Ev.gr (by rfl) (by rfl) (by assumption) (by rfl) (by assumption) ?_ | refine Ev.gi (by rfl) (by rfl) (by assumption) (by rfl) (by assumption) ?_))
    refine Ev.cv (by rfl) (by rfl) (by assumption) (by rfl) (by rfl) (by rfl) (by rfl) (by rfl) c1 ?_
    ((repeat refine Ev.p rfl rfl ?_); exact Ev.r rfl)
theorem c_done (hF : FX K R) (hG : GS s n hd cls e) (hVH : VH K I R 1 15 s n hd cls) {b : Nat} (hs : SP s n b) (x : Int32) : (¬ (0 ≤ x ∧ x ≤ 1) → Ev X 59 kX11_done 0 (ent kX11_done [.ref 0, .int x]) [] (K, I, R) (some (.int (-1)), (K, I, R))) ∧ (∀ w, w ≤ 1 → x = nI w → ∃ I1 R1, Ev X 59 kX11_done 0 (ent kX11_done [.ref 0, .int x]) [] (K, I, R) (some (.int (if w = 0 then rSO (rDn s n cls (rT s hd 222 20) (rT s hd 227 1) b) n else rDn s n cls (rT s hd 222 20) (rT s hd 227 1) b 1)), (K, I1, R1)) ∧ FR (PW 46) I I1 ∧ RF 46 R R1) := by
  have hV := hVH.1
  have hn6 := hG.2.1.1
  have he : e + 30 < 1000000 := by have := hG.2.2.1; omega
  obtain ⟨f0, f1, f2, f3, f4, f5, f6, fv1, fv2, fv3, fh1, fh2, f7, f8, -⟩ := hF
  obtain ⟨k0, -⟩ := id fv1
  refine ⟨fun h => ?_, fun w hw ex => ?_⟩
  · (repeat (first | refine Ev.p rfl rfl ?_ | refine Ev.gr (by rfl) (by rfl) (by assumption) (by rfl) (by assumption) ?_ | refine Ev.gi (by rfl) (by rfl) (by assumption) (by rfl) (by assumption) ?_))
    refine Ev.bp rfl (fun c => ?_) (fun c => ?_)
    · exact absurd (by rw [c]; decide) h
    · (repeat (first | refine Ev.p rfl rfl ?_ | refine Ev.gr (by rfl) (by rfl) (by assumption) (by rfl) (by assumption) ?_ | refine Ev.gi (by rfl) (by rfl) (by assumption) (by rfl) (by assumption) ?_))
      refine Ev.bp rfl (fun c2 => ?_) (fun c2 => ?_)
      · exact absurd (by rw [c2]; decide) h
      · ((repeat refine Ev.p rfl rfl ?_); exact Ev.r rfl)
  · obtain ⟨f, hf, ef⟩ := hG.2.2.2.2.2.2.2.2.2.2.1
    obtain ⟨I1, R1, c1, c2, c3, c4⟩ := c_behindPlan (X := X) (d := 52) f7 f8 fh1 hVH.2.2.2.2 hs fv3 hV (by omega) hG.2.1 he ef hf
    obtain ⟨k0', -⟩ := id c2.1
    have h9 := c2.2.1.2.1
    have h11 := c2.2.1.2.2.2.1
    obtain ⟨e', -, hr⟩ := RI_Dn (du := rT s hd 222 20) hG.2.1 hs ef hf b (Nat.le_refl b)
    refine ⟨I1, R1, ?_, c3, c4⟩
    subst ex
    rcases (by omega : w = 0 ∨ w = 1) with rfl | rfl
    · (repeat (first | refine Ev.p rfl rfl ?_ | refine Ev.gr (by rfl) (by rfl) (by assumption) (by rfl) (by assumption) ?_ | refine Ev.gi (by rfl) (by rfl) (by assumption) (by rfl) (by assumption) ?_))
      refine Ev.cv (by rfl) (by rfl) (by assumption) (by rfl) (by rfl) (by rfl) (by rfl) (by rfl) c1 ?_
      (repeat (first | refine Ev.p rfl rfl ?_ | refine Ev.gr (by rfl) (by rfl) (by assumption) (by rfl) (by assumption) ?_ | refine Ev.gi (by rfl) (by rfl) (by assumption) (by rfl) (by assumption) ?_))
      rw [if_pos rfl, rSO_mk hr.2.1.1 n hn6]
      ((repeat refine Ev.p rfl rfl ?_); exact Ev.r rfl)
    · (repeat (first | refine Ev.p rfl rfl ?_ | refine Ev.gr (by rfl) (by rfl) (by assumption) (by rfl) (by assumption) ?_ | refine Ev.gi (by rfl) (by rfl) (by assumption) (by rfl) (by assumption) ?_))
      refine Ev.cv (by rfl) (by rfl) (by assumption) (by rfl) (by rfl) (by rfl) (by rfl) (by rfl) c1 ?_
      (repeat (first | refine Ev.p rfl rfl ?_ | refine Ev.gr (by rfl) (by rfl) (by assumption) (by rfl) (by assumption) ?_ | refine Ev.gi (by rfl) (by rfl) (by assumption) (by rfl) (by assumption) ?_))
      rw [if_neg (by decide)]
      ((repeat refine Ev.p rfl rfl ?_); exact Ev.r rfl)
theorem c_dues (hF : FX K R) (hG : GS s n hd cls e) (hVH : VH K I R 1 15 s n hd cls) {b : Nat} (hs : SN s n b) (x : Int32) : (¬ (0 ≤ x ∧ x ≤ 1) → Ev X 59 kX11_dues 0 (ent kX11_dues [.ref 0, .int x]) [] (K, I, R) (some (.int (-1)), (K, I, R))) ∧ (∀ w, w ≤ 1 → x = nI w → ∃ I1 R1, Ev X 59 kX11_dues 0 (ent kX11_dues [.ref 0, .int x]) [] (K, I, R) (some (.int (if w = 0 then (da (fun v => rAll s n cls (nI v) (rT s hd 227 1) b) 60 60 (0, -5)).1 else (da (fun v => rAll s n cls (nI v) (rT s hd 227 1) b) 60 60 (0, -5)).2)), (K, I1, R1)) ∧ FR (PA 45 46) I I1 ∧ RF 46 R R1) := by
  have hV := hVH.1
  have hn6 := hG.2.1.1
  have he : e + 30 < 1000000 := by have := hG.2.2.1; omega
  obtain ⟨f0, f1, f2, f3, f4, f5, f6, fv1, fv2, fv3, fh1, fh2, f7, f8, -⟩ := hF
  refine ⟨fun h => ?_, fun w hw ex => ?_⟩
  · (repeat (first | refine Ev.p rfl rfl ?_ | refine Ev.gr (by rfl) (by rfl) (by assumption) (by rfl) (by assumption) ?_ | refine Ev.gi (by rfl) (by rfl) (by assumption) (by rfl) (by assumption) ?_))
    refine Ev.bp rfl (fun c => ?_) (fun c => ?_)
    · exact absurd (by rw [c]; decide) h
    · (repeat (first | refine Ev.p rfl rfl ?_ | refine Ev.gr (by rfl) (by rfl) (by assumption) (by rfl) (by assumption) ?_ | refine Ev.gi (by rfl) (by rfl) (by assumption) (by rfl) (by assumption) ?_))
      refine Ev.bp rfl (fun c2 => ?_) (fun c2 => ?_)
      · exact absurd (by rw [c2]; decide) h
      · ((repeat refine Ev.p rfl rfl ?_); exact Ev.r rfl)
  · obtain ⟨f, hf, ef⟩ := hG.2.2.2.2.2.2.2.2.2.2.1
    obtain ⟨I1, R1, c1, c6, c7, c3, c4⟩ := c_findDues (X := X) (d := 51) f7 f8 fh1 hVH.2.2.2.2 hs fv3 hV (by omega) hG.2.1 he ef hf
    have f4' : R1 0 4 = some 45 := by rw [c4 0 4 (by omega) (by omega)]; exact f5
    refine ⟨I1, R1, ?_, c3, c4⟩
    subst ex
    rcases (by omega : w = 0 ∨ w = 1) with rfl | rfl
    · (repeat (first | refine Ev.p rfl rfl ?_ | refine Ev.gr (by rfl) (by rfl) (by assumption) (by rfl) (by assumption) ?_ | refine Ev.gi (by rfl) (by rfl) (by assumption) (by rfl) (by assumption) ?_))
      refine Ev.cv (by rfl) (by rfl) (by assumption) (by rfl) (by rfl) (by rfl) (by rfl) (by rfl) c1 ?_
      (repeat (first | refine Ev.p rfl rfl ?_ | refine Ev.gr (by rfl) (by rfl) (by assumption) (by rfl) (by assumption) ?_ | refine Ev.gi (by rfl) (by rfl) (by assumption) (by rfl) (by assumption) ?_))
      rw [if_pos rfl]
      ((repeat refine Ev.p rfl rfl ?_); exact Ev.r rfl)
    · (repeat (first | refine Ev.p rfl rfl ?_ | refine Ev.gr (by rfl) (by rfl) (by assumption) (by rfl) (by assumption) ?_ | refine Ev.gi (by rfl) (by rfl) (by assumption) (by rfl) (by assumption) ?_))
      refine Ev.cv (by rfl) (by rfl) (by assumption) (by rfl) (by rfl) (by rfl) (by rfl) (by rfl) c1 ?_
      (repeat (first | refine Ev.p rfl rfl ?_ | refine Ev.gr (by rfl) (by rfl) (by assumption) (by rfl) (by assumption) ?_ | refine Ev.gi (by rfl) (by rfl) (by assumption) (by rfl) (by assumption) ?_))
      rw [if_neg (by decide)]
      ((repeat refine Ev.p rfl rfl ?_); exact Ev.r rfl)
theorem SN.ss {b : Nat} (h : SN s n b) (hn : n ≤ 6) : SS s b := ⟨h.1, h.2.1, fun k hk => by
  obtain ⟨⟨p, hp, e⟩, -⟩ := h.2.2 k hk
  exact ⟨p, by omega, e⟩⟩
theorem c_firm (hF : FX K R) (hG : GS s n hd cls e) (hVH : VH K I R 1 15 s n hd cls) {b : Nat} (hs : SN s n b) (x y : Int32) : (¬ (isM n x ∧ (0 ≤ y ∧ y ≤ 1)) → Ev X 59 kX11_firm 0 (ent kX11_firm [.ref 0, .int x, .int y]) [] (K, I, R) (some (.int (-1)), (K, I, R))) ∧ (∀ p w, p < n → x = nI p → w ≤ 1 → y = nI w → ∃ I1 R1, Ev X 59 kX11_firm 0 (ent kX11_firm [.ref 0, .int x, .int y]) [] (K, I, R) (some (.int (if w = 0 then (da (fun v => rAll (upd s (39 + p) (nI v)) n cls (rT s hd 222 20) (rT s hd 227 1) b) 10 9 (0, -5)).1 else (da (fun v => rAll (upd s (39 + p) (nI v)) n cls (rT s hd 222 20) (rT s hd 227 1) b) 10 9 (0, -5)).2)), (K, I1, R1)) ∧ FR (PA 45 46) I I1 ∧ RF 46 R R1) := by
  have hV := hVH.1
  have hn6 := hG.2.1.1
  have he : e + 30 < 1000000 := by have := hG.2.2.1; omega
  have hm := c_isM (X := X) (d := 58) hF hV.2.1.1 hn6 x
  obtain ⟨f0, f1, f2, f3, f4, f5, f6, fv1, fv2, fv3, fh1, fh2, f7, f8, -⟩ := hF
  refine ⟨fun h => ?_, fun p w hp ex hw ey => ?_⟩
  · by_cases h1 : isM n x
    · (repeat (first | refine Ev.p rfl rfl ?_ | refine Ev.gr (by rfl) (by rfl) (by assumption) (by rfl) (by assumption) ?_ | refine Ev.gi (by rfl) (by rfl) (by assumption) (by rfl) (by assumption) ?_))
      refine Ev.cv (by rfl) (by rfl) (by assumption) (by rfl) (by rfl) (by rfl) (by rfl) (by rfl) (hm.1 h1) ?_
      (repeat (first | refine Ev.p rfl rfl ?_ | refine Ev.gr (by rfl) (by rfl) (by assumption) (by rfl) (by assumption) ?_ | refine Ev.gi (by rfl) (by rfl) (by assumption) (by rfl) (by assumption) ?_))
      refine Ev.bp rfl (fun c => ?_) (fun c => ?_)
      · exact absurd ⟨h1, by rw [c]; decide⟩ h
      · (repeat (first | refine Ev.p rfl rfl ?_ | refine Ev.gr (by rfl) (by rfl) (by assumption) (by rfl) (by assumption) ?_ | refine Ev.gi (by rfl) (by rfl) (by assumption) (by rfl) (by assumption) ?_))
        refine Ev.bp rfl (fun c2 => ?_) (fun c2 => ?_)
        · exact absurd ⟨h1, by rw [c2]; decide⟩ h
        · ((repeat refine Ev.p rfl rfl ?_); exact Ev.r rfl)
    · (repeat (first | refine Ev.p rfl rfl ?_ | refine Ev.gr (by rfl) (by rfl) (by assumption) (by rfl) (by assumption) ?_ | refine Ev.gi (by rfl) (by rfl) (by assumption) (by rfl) (by assumption) ?_))
      refine Ev.cv (by rfl) (by rfl) (by assumption) (by rfl) (by rfl) (by rfl) (by rfl) (by rfl) (hm.2 h1) ?_
      ((repeat refine Ev.p rfl rfl ?_); exact Ev.r rfl)
  · obtain ⟨f, hf, ef⟩ := hG.2.2.2.2.2.2.2.2.2.2.1
    obtain ⟨I1, R1, c1, c6, c7, c3, c4⟩ := c_findFirm (X := X) (d := 51) f7 f8 fh1 hVH.2.2.2.2 hs fv3 hV (by omega) hG.2.1 he hp ef hf
    have f4' : R1 0 4 = some 45 := by rw [c4 0 4 (by omega) (by omega)]; exact f5
    have h := hm.1 ((isM_iff hn6).mpr ⟨p, hp, ex⟩)
    refine ⟨I1, R1, ?_, c3, c4⟩
    subst ex ey
    rcases (by omega : w = 0 ∨ w = 1) with rfl | rfl
    · (repeat (first | refine Ev.p rfl rfl ?_ | refine Ev.gr (by rfl) (by rfl) (by assumption) (by rfl) (by assumption) ?_ | refine Ev.gi (by rfl) (by rfl) (by assumption) (by rfl) (by assumption) ?_))
      refine Ev.cv (by rfl) (by rfl) (by assumption) (by rfl) (by rfl) (by rfl) (by rfl) (by rfl) h ?_
      (repeat (first | refine Ev.p rfl rfl ?_ | refine Ev.gr (by rfl) (by rfl) (by assumption) (by rfl) (by assumption) ?_ | refine Ev.gi (by rfl) (by rfl) (by assumption) (by rfl) (by assumption) ?_))
      refine Ev.cv (by rfl) (by rfl) (by assumption) (by rfl) (by rfl) (by rfl) (by rfl) (by rfl) c1 ?_
      (repeat (first | refine Ev.p rfl rfl ?_ | refine Ev.gr (by rfl) (by rfl) (by assumption) (by rfl) (by assumption) ?_ | refine Ev.gi (by rfl) (by rfl) (by assumption) (by rfl) (by assumption) ?_))
      rw [if_pos rfl]
      ((repeat refine Ev.p rfl rfl ?_); exact Ev.r rfl)
    · (repeat (first | refine Ev.p rfl rfl ?_ | refine Ev.gr (by rfl) (by rfl) (by assumption) (by rfl) (by assumption) ?_ | refine Ev.gi (by rfl) (by rfl) (by assumption) (by rfl) (by assumption) ?_))
      refine Ev.cv (by rfl) (by rfl) (by assumption) (by rfl) (by rfl) (by rfl) (by rfl) (by rfl) h ?_
      (repeat (first | refine Ev.p rfl rfl ?_ | refine Ev.gr (by rfl) (by rfl) (by assumption) (by rfl) (by assumption) ?_ | refine Ev.gi (by rfl) (by rfl) (by assumption) (by rfl) (by assumption) ?_))
      refine Ev.cv (by rfl) (by rfl) (by assumption) (by rfl) (by rfl) (by rfl) (by rfl) (by rfl) c1 ?_
      (repeat (first | refine Ev.p rfl rfl ?_ | refine Ev.gr (by rfl) (by rfl) (by assumption) (by rfl) (by assumption) ?_ | refine Ev.gi (by rfl) (by rfl) (by assumption) (by rfl) (by assumption) ?_))
      rw [if_neg (by decide)]
      ((repeat refine Ev.p rfl rfl ?_); exact Ev.r rfl)
end ASK2
