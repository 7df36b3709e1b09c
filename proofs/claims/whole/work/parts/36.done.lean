/-! THE REFERENCE: done, of, told, loose -/
/-- alike from 26 on -/
def AM (s u : Nat → Int32) : Prop := ∀ j, 26 ≤ j → u j = s j
theorem AL.m {s u : Nat → Int32} (h : AL s u) : AM s u := fun j hj => h j (by omega)
theorem AM.tr {s u w : Nat → Int32} (h : AM s u) (h2 : AM u w) : AM s w := fun j hj => (h2 j hj).trans (h j hj)
theorem AM.T {s u : Nat → Int32} (h : AM s u) {hd : Option Nat} {w : Nat} (hw : 26 ≤ w) (no : Int32) : rT u hd w no = rT s hd w no := by
  cases hd with
  | none => rfl
  | some k => exact h _ (by omega)
theorem AM.V {s u : Nat → Int32} (h : AM s u) {n : Nat} {hd : Option Nat} {cls : Cls} {e e' : Nat} (hv : SV s n hd cls e) (h0 : u 0 = nI e') (h1 : e' < 1000000) : SV u n hd cls e' := by
  obtain ⟨a1, a2, a3, a4, a5, a6⟩ := hv
  refine ⟨(h 26 (by omega)).trans a1, a2, fun p hp => ?_, h0, h1, ?_⟩
  · obtain ⟨kk, k1, k2⟩ := a3 p hp
    exact ⟨kk, k1, (h _ (by omega)).trans k2⟩
  · cases hd with
    | none => exact ⟨(h 32 (by omega)).trans a6.1, a6.2⟩
    | some k =>
      obtain ⟨h1, h2, h3, h4, h5, h6⟩ := a6
      exact ⟨(h 32 (by omega)).trans h1, h2, (h _ (by omega)).trans h3, h4, fun j x hj => (h _ (by omega)).trans (h5 j x hj), h6⟩
theorem mix_backM {s u : Nat → Int32} (g : Nat → Int32) (h : AM s u) : mixf (mixf s g 26) u 26 = s := by
  funext j
  unfold mixf
  by_cases hj : j < 26
  · rw [if_pos hj, if_pos hj]
  · rw [if_neg hj]; exact h j (by omega)
theorem DF.am {I I' : Nat → Nat → Int32} {s u : Nat → Int32} {hd : Option Nat} {du fd : Int32} (h : DF I s hd du fd) (ha : AM s u) (hM : I' 140 = I 140) : DF I' u hd du fd := by
  refine ⟨?_, ?_⟩
  · rw [ha.T (by omega), hM]; exact h.1
  · rw [ha.T (by omega)]; exact h.2
def rGB (s : Nat → Int32) (n : Nat) (cls : Cls) (du fd : Int32) (w p : Nat) : Nat → Int32 := match w with
  | 0 => rGo s n cls du fd (rTop s n cls n).1
  | 1 => rGo s n cls du fd (some p)
  | 2 => upd s (20 + p) 1
  | _ => upd s (20 + p) 0
def rDn (s : Nat → Int32) (n : Nat) (cls : Cls) (du fd : Int32) : Nat → (Nat → Int32)
  | 0 => s
  | k + 1 => rGB (rDn s n cls du fd k) n cls du fd (s (90 + k)).toNatClampNeg (s (98 + k)).toNatClampNeg
/-- the PLAN -/
def SP (s : Nat → Int32) (n b : Nat) : Prop := s 29 = nI b ∧ b ≤ 8 ∧ ∀ k, k < b → ∃ w, w ≤ 3 ∧ s (90 + k) = nI w ∧ (0 < w → ∃ p, p < n ∧ s (98 + k) = nI p)
theorem rGB_am {s : Nat → Int32} {n : Nat} (hn6 : n ≤ 6) (cls : Cls) (du fd : Int32) {w p : Nat} (hp : 0 < w → p < n) : AM s (rGB s n cls du fd w p) := by
  match w, hp with
  | 0, hp => exact (rGo_al hn6 cls du fd (rTop_tk s n cls)).m
  | 1, hp => exact (rGo_al hn6 cls du fd (show tkV (some p) n (nI p) from ⟨hp (by omega), rfl⟩)).m
  | 2, hp => exact fun j hj => upd_ne (by have := hp (by omega); omega)
  | w + 3, hp => exact fun j hj => upd_ne (by have := hp (by omega); omega)
theorem rGB_0 {s : Nat → Int32} {e : Nat} (h : s 0 = nI e) (n : Nat) (cls : Cls) (du fd : Int32) (w p : Nat) : ∃ e', e' ≤ e + 1 ∧ rGB s n cls du fd w p 0 = nI e' := by
  match w with
  | 0 => exact ⟨e + 1, by omega, by show rGo _ _ _ _ _ _ 0 = _; rw [rGo_0, h, nI_succ]⟩
  | 1 => exact ⟨e + 1, by omega, by show rGo _ _ _ _ _ _ 0 = _; rw [rGo_0, h, nI_succ]⟩
  | 2 => exact ⟨e, by omega, by show upd s (20 + p) 1 0 = _; rw [upd_ne (by omega)]; exact h⟩
  | w + 3 => exact ⟨e, by omega, by show upd s (20 + p) 0 0 = _; rw [upd_ne (by omega)]; exact h⟩
theorem SP_p {s : Nat → Int32} {n b : Nat} (hn : n ≤ 6) (h : SP s n b) {k : Nat} (hk : k < b) : 0 < (s (90 + k)).toNatClampNeg → (s (98 + k)).toNatClampNeg < n := by
  obtain ⟨w, hw, e1, hp⟩ := h.2.2 k hk
  rw [e1, nI_clamp (by omega)]
  intro h0
  obtain ⟨p, hp, e2⟩ := hp h0
  rw [e2, nI_clamp (by omega)]
  exact hp
theorem rDn_am {s : Nat → Int32} {n b : Nat} (hn6 : n ≤ 6) (cls : Cls) (du fd : Int32) (h : SP s n b) : ∀ k, k ≤ b → AM s (rDn s n cls du fd k) := by
  intro k
  induction k with
  | zero => intro _; exact fun _ _ => rfl
  | succ k ih => intro hk; exact (ih (by omega)).tr (rGB_am hn6 cls du fd (SP_p hn6 h (by omega)))
theorem rDn_V {s : Nat → Int32} {n b : Nat} {hd : Option Nat} {cls : Cls} {e : Nat} (hv : SV s n hd cls e) (du fd : Int32) (h : SP s n b) : ∀ k, k ≤ b → e + k < 1000000 → ∃ e', e' ≤ e + k ∧ SV (rDn s n cls du fd k) n hd cls e' := by
  intro k
  induction k with
  | zero => intro _ _; exact ⟨e, by omega, hv⟩
  | succ k ih =>
    intro hk hk2
    obtain ⟨e', h1, h2⟩ := ih (by omega) (by omega)
    obtain ⟨e2, h3, h4⟩ := rGB_0 h2.2.2.2.1 n cls du fd (s (90 + k)).toNatClampNeg (s (98 + k)).toNatClampNeg
    exact ⟨e2, by omega, (rGB_am hv.2.1 cls du fd (SP_p hv.2.1 h (by omega))).V h2 h4 (by omega)⟩
theorem swt_out {dd lo hi : Int} {offs : Array Int} {c : Nat} {x : Int} (h : x < lo ∨ hi < x) : swt dd lo hi offs c x = ((c : Int) + dd).toNat := if_pos h
theorem clr_le : ∀ set, set < 64 → ∀ q, q < 6 → (if set / 2 ^ q % 2 = 1 then set - 2 ^ q else set) ≤ set := by decide +kernel
def clr (set q : Nat) : Nat := if set / 2 ^ q % 2 = 1 then set - 2 ^ q else set
theorem clr_nI : ∀ set, set < 64 → ∀ q, q < 6 → nI set &&& ((1 : Int32) <<< (nI q &&& 31) ^^^ (-1)) = nI (clr set q) := by decide +kernel
/-- the inner loop of loose: f holds what is known of smaller sets -/
def rLi (s : Nat → Int32) (n : Nat) (f : Nat → Int32) (set : Nat) : Nat → Int32
  | 0 => 1000000000
  | q + 1 => if clr set q ≠ set ∧ f (clr set q) + rTF s n q (nI (clr set q)) < rLi s n f set q then f (clr set q) + rTF s n q (nI (clr set q)) else rLi s n f set q
def rLo (s : Nat → Int32) (n : Nat) : Nat → (Nat → Int32)
  | 0 => fun _ => 0
  | k + 1 => upd (rLo s n k) (k + 1) (rLi s n (rLo s n k) (k + 1) n)
section DONE
variable {X : Nat × (Nat → Int32)} {d : Nat} {T : List (Nat × Nat)} {I : Nat → Nat → Int32} {G : Nat → Nat → Option Nat} {s : Nat → Int32} {n p : Nat} {hd : Option Nat} {cls : Cls} {e : Nat} {du fd : Int32} {b : Nat}
theorem m_goesBy (hI : I 141 = s) (hv : SV s n hd cls e) (hdf : DF I s hd du fd) (he : e + 1 < 1000000) {w p : Nat} (hw : w ≤ 3) {x : Int32} (hx : 0 < w → p < n ∧ x = nI p) : ∃ I', Ev X (d + 5) kX12_goesBy 0 (ent kX12_goesBy [.ref 140, .int (nI w), .int x]) [] (K0 ++ T, I, RS G) (none, (K0 ++ T, I', RS G)) ∧ I' 141 = rGB s n cls du fd w p ∧ FR PG I I' := by
  have hn := hv.1
  have hn6 := hv.2.1
  rcases (by omega : w = 0 ∨ w = 1 ∨ w = 2 ∨ w = 3) with rfl | rfl | rfl | rfl
  · obtain ⟨J1, f1, f2, f3⟩ := m_topic (X := X) (d := d + 1) (T := T) (G := G) hI hv
    obtain ⟨J2, g1, g2, g3⟩ := m_goes (X := X) (d := d) (T := T) (G := G) f2 hv (hdf.al (fun _ _ => rfl) (f3.mo PS.g)) (rTop_tk s n cls)
    refine ⟨J2, ?_, g2, (f3.mo PS.g).tr g3⟩
    (repeat refine Ev.p rfl rfl ?_)
    refine Ev.c rfl f1 ?_
    (repeat refine Ev.p rfl rfl ?_)
    refine Ev.c rfl g1 ?_
    ((repeat refine Ev.p rfl rfl ?_); exact Ev.r rfl)
  · obtain ⟨hp, ex⟩ := hx (by omega)
    subst ex
    obtain ⟨J2, g1, g2, g3⟩ := m_goes (X := X) (d := d) (T := T) (G := G) hI hv hdf (show tkV (some p) n (nI p) from ⟨hp, rfl⟩)
    refine ⟨J2, ?_, g2, g3⟩
    (repeat refine Ev.p rfl rfl ?_)
    refine Ev.c rfl g1 ?_
    ((repeat refine Ev.p rfl rfl ?_); exact Ev.r rfl)
  · obtain ⟨hp, ex⟩ := hx (by omega)
    subst ex
    refine ⟨upI I 141 (20 + p) 1, ?_, by rw [up143 hI]; rfl, FR.up (by simp [PG])⟩
    (repeat refine Ev.p rfl rfl ?_)
    refine Ev.iast (j := 20 + p) rfl rfl (nI_add 20 p) (by omega) (by omega) ?_
    ((repeat refine Ev.p rfl rfl ?_); exact Ev.r rfl)
  · obtain ⟨hp, ex⟩ := hx (by omega)
    subst ex
    refine ⟨upI I 141 (20 + p) 0, ?_, by rw [up143 hI]; rfl, FR.up (by simp [PG])⟩
    (repeat refine Ev.p rfl rfl ?_)
    refine Ev.iast (j := 20 + p) rfl rfl (nI_add 20 p) (by omega) (by omega) ?_
    ((repeat refine Ev.p rfl rfl ?_); exact Ev.r rfl)
theorem m_done (hI : I 141 = s) (hv : SV s n hd cls e) (hdf : DF I s hd du fd) (he : e ≤ 9999) (hs : SP s n b) (x : Int32) :
    (¬ (0 ≤ x ∧ x ≤ 1) → Ev X (d + 6) kX12_done 0 (ent kX12_done [.ref 140, .int x]) [] (K0 ++ T, I, RS G) (some (.int (-1)), (K0 ++ T, I, RS G))) ∧
    (∀ w, w ≤ 1 → x = nI w → ∃ I', Ev X (d + 6) kX12_done 0 (ent kX12_done [.ref 140, .int x]) [] (K0 ++ T, I, RS G) (some (.int (if w = 0 then rSO (rDn s n cls du fd b) n else rDn s n cls du fd b 1)), (K0 ++ T, I', RS G)) ∧ I' 141 = s ∧ MF I I') := by
  have hn := hv.1
  have hn6 := hv.2.1
  refine ⟨fun h => ?_, fun w hw hx => ?_⟩
  · (repeat refine Ev.p rfl rfl ?_)
    refine Ev.c rfl (m_in _ _ _ _) ?_
    rw [if_neg h]
    ((repeat refine Ev.p rfl rfl ?_); exact Ev.r rfl)
  · obtain ⟨J, a1, a2, a3, a4⟩ := m_keeps (X := X) (d := d + 5) (T := T) (I := I) (G := G)
    have lp : ∀ m k (J2 : Nat → Nat → Int32), k + m = b → J2 141 = rDn s n cls du fd k → FR PG J J2 → ∃ I', Ev X (d + 6) kX12_done 17 [some (.ref 140), some (.int x), some (.int (nI k))] [] (K0 ++ T, J2, RS G) (some (.int (if w = 0 then rSO (rDn s n cls du fd b) n else rDn s n cls du fd b 1)), (K0 ++ T, I', RS G)) ∧ I' 141 = s ∧ MF I I' := by
      intro m
      induction m with
      | zero =>
        intro k J2 hk h1 h2
        have e : k = b := by omega
        subst e
        have am := rDn_am hn6 cls du fd hs k (Nat.le_refl _)
        obtain ⟨I', c1, c2, c3⟩ := m_goesBack (X := X) (d := d + 5) (T := T) (G := G) (I := J2)
        have hN : rDn s n cls du fd k 26 = nI n := (am 26 (by omega)).trans hn
        refine ⟨I', ?_, ?_, (a3.tr (PG.f h2)).tr c3⟩
        · rcases (by omega : w = 0 ∨ w = 1) with rfl | rfl
          · subst hx
            (repeat refine Ev.p rfl rfl ?_)
            (refine Ev.iald (j := 29) rfl rfl rfl (by omega) (by omega) ?_; rw [h1, am 29 (by omega), hs.1])
            (repeat refine Ev.p rfl rfl ?_)
            refine Ev.bp rfl (fun c => ?_) (fun c => ?_)
            · (repeat refine Ev.p rfl rfl ?_)
              refine Ev.c rfl (m_settledOnes h1 hN hn6) ?_
              (repeat refine Ev.p rfl rfl ?_)
              refine Ev.c rfl c1 ?_
              ((repeat refine Ev.p rfl rfl ?_); exact Ev.r rfl)
            · exact absurd (Int32.le_refl _) c
          · subst hx
            (repeat refine Ev.p rfl rfl ?_)
            (refine Ev.iald (j := 29) rfl rfl rfl (by omega) (by omega) ?_; rw [h1, am 29 (by omega), hs.1])
            (repeat refine Ev.p rfl rfl ?_)
            refine Ev.bp rfl (fun c => ?_) (fun c => ?_)
            · (repeat refine Ev.p rfl rfl ?_)
              (refine Ev.iald (j := 1) rfl rfl rfl (by omega) (by omega) ?_; rw [h1])
              (repeat refine Ev.p rfl rfl ?_)
              refine Ev.c rfl c1 ?_
              ((repeat refine Ev.p rfl rfl ?_); exact Ev.r rfl)
            · exact absurd (Int32.le_refl _) c
        · rw [c2, h1, h2 143 (by unfold PG; omega), a4, hI]
          exact mix_backM _ am
      | succ m ih =>
        intro k J2 hk h1 h2
        have hb8 := hs.2.1
        have am := rDn_am hn6 cls du fd hs k (by omega)
        obtain ⟨e', he', v1⟩ := rDn_V hv du fd hs k (by omega) (by omega)
        obtain ⟨w', hw', ew, hp'⟩ := hs.2.2 k (by omega)
        have hdf2 : DF J2 (rDn s n cls du fd k) hd du fd := (hdf.mf (fun _ _ => rfl) a3).am am (h2 140 (by unfold PG; omega))
        obtain ⟨J3, b1, b2, b3⟩ := m_goesBy (X := X) (d := d) (T := T) (G := G) h1 v1 hdf2 (by omega) hw' (p := (s (98 + k)).toNatClampNeg) (x := s (98 + k)) (fun h0 => by
          obtain ⟨p, hp, ep⟩ := hp' h0
          rw [ep, nI_clamp (by omega)]
          exact ⟨hp, rfl⟩)
        obtain ⟨I', c1, c2⟩ := ih (k + 1) J3 (by omega) (by rw [b2]; show _ = rGB _ n cls du fd (s (90 + k)).toNatClampNeg _; rw [ew, nI_clamp (by omega)]) (h2.tr b3)
        refine ⟨I', ?_, c2⟩
        rw [nI_succ] at c1
        (repeat refine Ev.p rfl rfl ?_)
        (refine Ev.iald (j := 29) rfl rfl rfl (by omega) (by omega) ?_; rw [h1, am 29 (by omega), hs.1])
        (repeat refine Ev.p rfl rfl ?_)
        refine Ev.bp rfl (fun c => ?_) (fun c => ?_)
        · exact absurd c (nI_ge (by omega) (by omega))
        · (repeat refine Ev.p rfl rfl ?_)
          (refine Ev.iald (j := 90 + k) rfl rfl (nI_add 90 k) (by omega) (by omega) ?_; rw [h1, am (90 + k) (by omega), ew])
          (repeat refine Ev.p rfl rfl ?_)
          (refine Ev.iald (j := 98 + k) rfl rfl (nI_add 98 k) (by omega) (by omega) ?_; rw [h1, am (98 + k) (by omega)])
          refine Ev.c rfl b1 ?_
          (repeat (first | (refine Ev.at (q := 17) rfl ?_; exact c1) | refine Ev.p rfl rfl ?_))
    obtain ⟨I', e1, e2⟩ := lp b 0 J (by omega) (a2.trans hI) (FR.rf J)
    refine ⟨I', ?_, e2⟩
    (repeat refine Ev.p rfl rfl ?_)
    refine Ev.c rfl (m_in _ _ _ _) ?_
    rw [if_pos (by subst hx; exact ⟨nI_pos' (by omega), nI_le (b := 1) hw (by omega)⟩)]
    (repeat refine Ev.p rfl rfl ?_)
    refine Ev.c rfl a1 ?_
    (repeat (first | (refine Ev.at (q := 17) rfl ?_; exact e1) | refine Ev.p rfl rfl ?_))
theorem m_of (hI : I 141 = s) (hv : SV s n hd cls e) (x y : Int32) :
    (¬ isM n x → Ev X (d + 3) kX12_of 0 (ent kX12_of [.ref 140, .int x, .int y]) [] (K0 ++ T, I, RS G) (some (.int (-999999)), (K0 ++ T, I, RS G))) ∧
    (isM n x → ¬ (0 ≤ y ∧ y ≤ 8) → Ev X (d + 3) kX12_of 0 (ent kX12_of [.ref 140, .int x, .int y]) [] (K0 ++ T, I, RS G) (some (.int (-999999)), (K0 ++ T, I, RS G))) ∧
    (∀ p w, p < n → x = nI p → w ≤ 8 → y = nI w → ∃ I', Ev X (d + 3) kX12_of 0 (ent kX12_of [.ref 140, .int x, .int y]) [] (K0 ++ T, I, RS G) (some (.int (match w with | 0 => s (33 + p) | 1 => s (39 + p) | 2 => s (2 + p) | 3 => s (8 + p) | 4 => s (14 + p) | 5 => s (20 + p) | 6 => bI (rRd s n p) | 7 => rStir s n p cls | _ => s (69 + p))), (K0 ++ T, I', RS G)) ∧ I' 141 = s ∧ MF I I') := by
  have hn := hv.1
  have hn6 := hv.2.1
  refine ⟨fun h => ?_, fun h h2 => ?_, fun p w hp hx hw hy => ?_⟩
  · (repeat refine Ev.p rfl rfl ?_)
    refine Ev.c rfl ((m_isM hI hn x).2 h) ?_
    ((repeat refine Ev.p rfl rfl ?_); exact Ev.r rfl)
  · (repeat refine Ev.p rfl rfl ?_)
    refine Ev.c rfl ((m_isM hI hn x).1 h) ?_
    iterate 2 refine Ev.p rfl rfl ?_
    refine Ev.p (pc' := 153) (ls' := ent kX12_of [.ref 140, .int x, .int y]) (st' := []) (h' := (K0 ++ T, I, RS G)) rfl ?_ ?_
    · show (some (swt 141 0 8 _ 12 y.toInt, ent kX12_of [.ref 140, .int x, .int y], [], (K0 ++ T, I, RS G)) : Option St) = _
      rw [swt_out (by
        by_cases h3 : y.toInt < 0
        · exact Or.inl h3
        · by_cases h4 : 8 < y.toInt
          · exact Or.inr h4
          · exact absurd ⟨Int32.le_iff_toInt_le.mpr (by show (0 : Int) ≤ _; omega), Int32.le_iff_toInt_le.mpr (by show _ ≤ (8 : Int); omega)⟩ h2)]
      rfl
    ((repeat refine Ev.p rfl rfl ?_); exact Ev.r rfl)
  · subst hx
    subst hy
    have hm := (m_isM (X := X) (d := d + 1) (T := T) (G := G) hI hn (nI p)).1 ((isM_iff hn6).mpr ⟨p, hp, rfl⟩)
    rcases (by omega : w = 0 ∨ w = 1 ∨ w = 2 ∨ w = 3 ∨ w = 4 ∨ w = 5 ∨ w = 6 ∨ w = 7 ∨ w = 8) with rfl | rfl | rfl | rfl | rfl | rfl | rfl | rfl | rfl
    · refine ⟨I, ?_, hI, MF.rf I⟩
      (repeat refine Ev.p rfl rfl ?_)
      refine Ev.c rfl hm ?_
      (repeat refine Ev.p rfl rfl ?_)
      (refine Ev.iald (j := 33 + p) rfl rfl (nI_add 33 p) (by omega) (by omega) ?_; rw [hI])
      ((repeat refine Ev.p rfl rfl ?_); exact Ev.r rfl)
    · refine ⟨I, ?_, hI, MF.rf I⟩
      (repeat refine Ev.p rfl rfl ?_)
      refine Ev.c rfl hm ?_
      (repeat refine Ev.p rfl rfl ?_)
      (refine Ev.iald (j := 39 + p) rfl rfl (nI_add 39 p) (by omega) (by omega) ?_; rw [hI])
      ((repeat refine Ev.p rfl rfl ?_); exact Ev.r rfl)
    · refine ⟨I, ?_, hI, MF.rf I⟩
      (repeat refine Ev.p rfl rfl ?_)
      refine Ev.c rfl hm ?_
      (repeat refine Ev.p rfl rfl ?_)
      (refine Ev.iald (j := 2 + p) rfl rfl (nI_add 2 p) (by omega) (by omega) ?_; rw [hI])
      ((repeat refine Ev.p rfl rfl ?_); exact Ev.r rfl)
    · refine ⟨I, ?_, hI, MF.rf I⟩
      (repeat refine Ev.p rfl rfl ?_)
      refine Ev.c rfl hm ?_
      (repeat refine Ev.p rfl rfl ?_)
      (refine Ev.iald (j := 8 + p) rfl rfl (nI_add 8 p) (by omega) (by omega) ?_; rw [hI])
      ((repeat refine Ev.p rfl rfl ?_); exact Ev.r rfl)
    · refine ⟨I, ?_, hI, MF.rf I⟩
      (repeat refine Ev.p rfl rfl ?_)
      refine Ev.c rfl hm ?_
      (repeat refine Ev.p rfl rfl ?_)
      (refine Ev.iald (j := 14 + p) rfl rfl (nI_add 14 p) (by omega) (by omega) ?_; rw [hI])
      ((repeat refine Ev.p rfl rfl ?_); exact Ev.r rfl)
    · refine ⟨I, ?_, hI, MF.rf I⟩
      (repeat refine Ev.p rfl rfl ?_)
      refine Ev.c rfl hm ?_
      (repeat refine Ev.p rfl rfl ?_)
      (refine Ev.iald (j := 20 + p) rfl rfl (nI_add 20 p) (by omega) (by omega) ?_; rw [hI])
      ((repeat refine Ev.p rfl rfl ?_); exact Ev.r rfl)
    · refine ⟨I, ?_, hI, MF.rf I⟩
      (repeat refine Ev.p rfl rfl ?_)
      refine Ev.c rfl hm ?_
      (repeat refine Ev.p rfl rfl ?_)
      refine Ev.c rfl (m_isReady hI hn hn6 (p := p) (by omega)) ?_
      cases rRd s n p <;> ((repeat refine Ev.p rfl rfl ?_); exact Ev.r rfl)
    · obtain ⟨I', e1, e2, e3⟩ := m_stirOf (X := X) (d := d) (T := T) (G := G) (p := p) hI hv (by omega)
      refine ⟨I', ?_, e2, PG.f (e3.mo PS.g)⟩
      (repeat refine Ev.p rfl rfl ?_)
      refine Ev.c rfl hm ?_
      (repeat refine Ev.p rfl rfl ?_)
      refine Ev.c rfl e1 ?_
      ((repeat refine Ev.p rfl rfl ?_); exact Ev.r rfl)
    · refine ⟨I, ?_, hI, MF.rf I⟩
      (repeat refine Ev.p rfl rfl ?_)
      refine Ev.c rfl hm ?_
      (repeat refine Ev.p rfl rfl ?_)
      (refine Ev.iald (j := 69 + p) rfl rfl (nI_add 69 p) (by omega) (by omega) ?_; rw [hI])
      ((repeat refine Ev.p rfl rfl ?_); exact Ev.r rfl)
theorem m_loose (hI : I 141 = s) (hn : s 26 = nI n) (hn6 : n ≤ 6) : ∃ I', Ev X (d + 2) kX12_loose 0 (ent kX12_loose [.ref 140]) [] (K0 ++ T, I, RS G) (some (.int (rLo s n (2 ^ n - 1) (2 ^ n - 1))), (K0 ++ T, I', RS G)) ∧ I' 141 = s ∧ MF I I' := by
  have hP : 2 ^ n ≤ 64 ∧ 0 < 2 ^ n ∧ (1 : Int32) <<< (nI n &&& 31) = nI (2 ^ n) := by
    rcases (by omega : n = 0 ∨ n = 1 ∨ n = 2 ∨ n = 3 ∨ n = 4 ∨ n = 5 ∨ n = 6) with rfl | rfl | rfl | rfl | rfl | rfl | rfl <;> decide
  obtain ⟨P, hPP⟩ : ∃ P, P = 2 ^ n := ⟨_, rfl⟩
  rw [← hPP] at hP ⊢
  obtain ⟨res, hres⟩ : ∃ res, res = rLo s n (P - 1) (P - 1) := ⟨_, rfl⟩
  rw [← hres]
  have li : ∀ (set : Nat) (f : Nat → Int32), 0 < set → set < P → ∀ m q (J : Nat → Nat → Int32), q + m = n → J 141 = s → (∀ j, j < set → J 146 j = f j) → J 146 set = rLi s n f set q → MF I J → ∃ J', J' 141 = s ∧ (∀ j, j < set → J' 146 j = f j) ∧ J' 146 set = rLi s n f set n ∧ MF I J' ∧ ∀ (R : Option Value × Hp), (∀ a b c : Option Value, Ev X (d + 2) kX12_loose 124 [some (.ref 140), some (.int (nI set)), some (.int (nI n)), a, b] [] (K0 ++ T, J', RS G) R) → ∀ a b : Option Value, Ev X (d + 2) kX12_loose 32 [some (.ref 140), some (.int (nI set)), some (.int (nI q)), a, b] [] (K0 ++ T, J, RS G) R := by
    intro set f h0 hset m
    induction m with
    | zero =>
      intro q J hq hI h1 h2 h3
      have e : q = n := by omega
      subst e
      refine ⟨J, hI, h1, h2, h3, fun R g a b => ?_⟩
      (repeat refine Ev.p rfl rfl ?_)
      (refine Ev.iald (j := 26) rfl rfl rfl (by omega) (by omega) ?_; rw [hI, hn])
      (repeat refine Ev.p rfl rfl ?_)
      refine Ev.bp rfl (fun c => ?_) (fun c => ?_)
      · (repeat (first | (refine Ev.at (q := 124) rfl ?_; exact (g _ _ none)) | refine Ev.p rfl rfl ?_))
      · exact absurd (Int32.le_refl _) c
    | succ m ih =>
      intro q J hq hI h1 h2 h3
      have hcl := clr_nI set (by omega) q (by omega)
      obtain ⟨cs, hcs⟩ : ∃ cs, cs = clr set q := ⟨_, rfl⟩
      rw [← hcs] at hcl
      have hcs2 : cs ≤ set ∧ (cs ≠ set → cs < set) := by
        have : cs ≤ set := by rw [hcs]; exact clr_le set (by omega) q (by omega)
        omega
      obtain ⟨v0, hv0⟩ : ∃ v, v = rLi s n f set q := ⟨_, rfl⟩
      obtain ⟨v1, hv1⟩ : ∃ v, v = rLi s n f set (q + 1) := ⟨_, rfl⟩
      have hv2 : v1 = if cs ≠ set ∧ f cs + rTF s n q (nI cs) < v0 then f cs + rTF s n q (nI cs) else v0 := by rw [hv1, hv0, hcs]; rfl
      rw [← hv0] at h2
      obtain ⟨J', a1, a2, a3, a4, a5⟩ := ih (q + 1) (upI J 146 set v1) (by omega) (by rw [upI_ne (by omega), hI]) (fun j hj => by rw [upI_eq, upd_ne (by omega)]; exact h1 j hj) (by rw [upI_eq, upd_at, hv1]) (h3.tr (MF.up (by omega)))
      refine ⟨J', a1, a2, a3, a4, fun R g a b => ?_⟩
      have a6 := a5 R g
      rw [nI_succ] at a6
      have k117 : ∀ (x : Int32) (a b : Option Value), x = v1 → Ev X (d + 2) kX12_loose 117 [some (.ref 140), some (.int (nI set)), some (.int (nI q)), a, b] [.int x, .int (nI set), .ref 146] (K0 ++ T, J, RS G) R := by
        intro x a b hx
        subst hx
        refine Ev.iast (j := set) rfl rfl rfl (by omega) (by omega) ?_
        (repeat (first | (refine Ev.at (q := 32) rfl ?_; exact (a6 _ _)) | refine Ev.p rfl rfl ?_))
      have kno : v1 = v0 → ∀ (a b : Option Value), Ev X (d + 2) kX12_loose 82 [some (.ref 140), some (.int (nI set)), some (.int (nI q)), some (.int (nI cs)), b] [] (K0 ++ T, J, RS G) R := by
        intro hx a b
        (repeat refine Ev.p rfl rfl ?_)
        (refine Ev.iald (j := set) rfl rfl rfl (by omega) (by omega) ?_; rw [h2])
        (repeat (first | (refine Ev.at (q := 117) rfl ?_; exact (k117 _ _ _ hx.symm)) | refine Ev.p rfl rfl ?_))
      (repeat refine Ev.p rfl rfl ?_)
      (refine Ev.iald (j := 26) rfl rfl rfl (by omega) (by omega) ?_; rw [hI, hn])
      (repeat refine Ev.p rfl rfl ?_)
      refine Ev.bp rfl (fun c => ?_) (fun c => ?_)
      · exact absurd c (nI_ge (by omega) (by omega))
      · iterate 7 refine Ev.p rfl rfl ?_
        rw [hcl]
        ((repeat refine Ev.p rfl rfl ?_); refine Ev.ls (ls2 := [_, _, _, _, _]) rfl ?_)
        refine Ev.bp rfl (fun c => ?_) (fun c => ?_)
        · have hne : cs = set := (nI_eq (by omega) (by omega)).mp c
          (repeat (first | (refine Ev.at (q := 82) rfl ?_; exact (kno (by rw [hv2, if_neg (fun h => h.1 hne)]) none _)) | refine Ev.p rfl rfl ?_))
        · have hne : cs ≠ set := fun h => c (by rw [h])
          have hlt := hcs2.2 hne
          (repeat refine Ev.p rfl rfl ?_)
          (refine Ev.iald (j := cs) rfl rfl rfl (by omega) (by omega) ?_; rw [h1 cs hlt])
          (repeat refine Ev.p rfl rfl ?_)
          refine Ev.c rfl (m_tiesFrom hI hn hn6 (p := q) (by omega) _) ?_
          (repeat refine Ev.p rfl rfl ?_)
          (refine Ev.iald (j := set) rfl rfl rfl (by omega) (by omega) ?_; rw [h2])
          (repeat refine Ev.p rfl rfl ?_)
          refine Ev.bp rfl (fun c2 => ?_) (fun c2 => ?_)
          · (repeat (first | (refine Ev.at (q := 82) rfl ?_; exact (kno (by rw [hv2, if_neg (fun h => absurd c2 (Int32.not_le.mpr h.2))]) none _)) | refine Ev.p rfl rfl ?_))
          · (repeat refine Ev.p rfl rfl ?_)
            (refine Ev.iald (j := cs) rfl rfl rfl (by omega) (by omega) ?_; rw [h1 cs hlt])
            (repeat refine Ev.p rfl rfl ?_)
            refine Ev.c rfl (m_tiesFrom hI hn hn6 (p := q) (by omega) _) ?_
            (repeat (first | (refine Ev.at (q := 117) rfl ?_; exact (k117 _ _ _ (by rw [hv2, if_pos ⟨hne, Int32.not_le.mp c2⟩]))) | refine Ev.p rfl rfl ?_))
  have lo : ∀ m set (J : Nat → Nat → Int32), set + m = P → 0 < set → J 141 = s → (∀ j, j < set → J 146 j = rLo s n (set - 1) j) → MF I J → ∃ I', (∀ a b c : Option Value, Ev X (d + 2) kX12_loose 9 [some (.ref 140), some (.int (nI set)), a, b, c] [] (K0 ++ T, J, RS G) (some (.int res), (K0 ++ T, I', RS G))) ∧ I' 141 = s ∧ MF I I' := by
    intro m
    induction m with
    | zero =>
      intro set J hs h0 hI h1 h2
      have e : set = P := by omega
      subst e
      refine ⟨J, fun a b c => ?_, hI, h2⟩
      (repeat refine Ev.p rfl rfl ?_)
      (refine Ev.iald (j := 26) rfl rfl rfl (by omega) (by omega) ?_; rw [hI, hn])
      iterate 1 refine Ev.p rfl rfl ?_
      rw [hP.2.2]
      (repeat refine Ev.p rfl rfl ?_)
      refine Ev.bp rfl (fun c => ?_) (fun c => absurd (Int32.le_refl _) c)
      (repeat refine Ev.p rfl rfl ?_)
      (refine Ev.iald (j := 26) rfl rfl rfl (by omega) (by omega) ?_; rw [hI, hn])
      iterate 1 refine Ev.p rfl rfl ?_
      rw [hP.2.2]
      iterate 2 refine Ev.p rfl rfl ?_
      rw [show nI set - 1 = nI (set - 1) from pk_sub (b := 1) (by omega)]
      (refine Ev.iald (j := set - 1) rfl rfl rfl (by omega) (by omega) ?_; rw [h1 (set - 1) (by omega), ← hres])
      ((repeat refine Ev.p rfl rfl ?_); exact Ev.r rfl)
    | succ m ih =>
      intro set J hs h0 hI h1 h2
      obtain ⟨J', a1, a2, a3, a4, a5⟩ := li set (rLo s n (set - 1)) h0 (by omega) n 0 (upI J 146 set 1000000000) (by omega) (by rw [upI_ne (by omega), hI]) (fun j hj => by rw [upI_eq, upd_ne (by omega)]; exact h1 j hj) (by rw [upI_eq, upd_at]; rfl) (h2.tr (MF.up (by omega)))
      obtain ⟨I', e1, e2⟩ := ih (set + 1) J' (by omega) (by omega) a1 (fun j hj => by
        obtain ⟨k, rfl⟩ : ∃ k, set = k + 1 := ⟨set - 1, by omega⟩
        show _ = upd (rLo s n k) (k + 1) (rLi s n (rLo s n k) (k + 1) n) j
        by_cases hj2 : j = k + 1
        · subst hj2; rw [upd_at]; exact a3
        · rw [upd_ne hj2]; exact a2 j (by omega)) a4
      refine ⟨I', fun a b c => ?_, e2⟩
      rw [nI_succ] at e1
      have a6 := a5 (some (.int res), (K0 ++ T, I', RS G)) (fun a b c => by
        (repeat (first | (refine Ev.at (q := 9) rfl ?_; exact (e1 _ _ _)) | refine Ev.p rfl rfl ?_))) b c
      (repeat refine Ev.p rfl rfl ?_)
      (refine Ev.iald (j := 26) rfl rfl rfl (by omega) (by omega) ?_; rw [hI, hn])
      iterate 1 refine Ev.p rfl rfl ?_
      rw [hP.2.2]
      (repeat refine Ev.p rfl rfl ?_)
      refine Ev.bp rfl (fun c => absurd c (nI_ge (by omega) (by omega))) (fun c => ?_)
      (repeat refine Ev.p rfl rfl ?_)
      refine Ev.iast (j := set) rfl rfl rfl (by omega) (by omega) ?_
      (repeat (first | (refine Ev.at (q := 32) rfl ?_; exact a6) | refine Ev.p rfl rfl ?_))
  obtain ⟨I', e1, e2⟩ := lo (P - 1) 1 (upI I 146 0 0) (by omega) (by omega) (by rw [upI_ne (by omega), hI]) (fun j hj => by
    have : j = 0 := by omega
    subst this
    rw [upI_eq, upd_at]; rfl) (MF.up (by omega))
  refine ⟨I', ?_, e2⟩
  (repeat refine Ev.p rfl rfl ?_)
  refine Ev.iast (j := 0) rfl rfl rfl (by omega) (by omega) ?_
  (repeat (first | (refine Ev.at (q := 9) rfl ?_; exact (e1 _ _ _)) | refine Ev.p rfl rfl ?_))
end DONE
