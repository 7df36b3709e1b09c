/-! THE REFERENCE: SUM, all of it -/
def SL (s : Nat → Int32) (i : Nat) (l : List Int32) : Prop := ∀ (j : Nat) (x : Int32), l[j]? = some x → s (i + j) = x
theorem SL_cons {s : Nat → Int32} {i : Nat} {x : Int32} {l : List Int32} (h : SL s i (x :: l)) : s i = x ∧ SL s (i + 1) l := by
  refine ⟨h 0 x rfl, fun j y hj => ?_⟩
  have := h (j + 1) y hj
  rwa [show i + (j + 1) = i + 1 + j by omega] at this
theorem dpT_le {t m m' : Nat} (h : dpT t m = some m') (hm : m ≤ 20) : m' ≤ 20 := by
  match t, h with
  | 0, h => simp only [dpT] at h; split at h <;> simp at h; omega
  | 1, h => simp only [dpT] at h; split at h <;> simp at h; omega
  | 2, h => simp only [dpT] at h; split at h <;> simp at h; omega
  | u + 3, h => simp only [dpT] at h; split at h <;> simp at h; omega
section SUM2
variable {X : Nat × (Nat → Int32)} {d : Nat} {T : List (Nat × Nat)} {I : Nat → Nat → Int32} {G : Nat → Nat → Option Nat} {s : Nat → Int32} {n p : Nat}
theorem sg_end {fr many : Nat} {res : Int32} {by' : Nat → Int32} (hm : fr + many ≤ 937) {n : Nat} {w b : Bool} {ts : List Nat} (hn : n < 100) {i0 : Nat} (hi : i0 < fr + many) (hs : s i0 = endR n w) {J : Nat → Nat → Int32} (hJ : J 141 = s) (hT : TR J [b]) {sum : Int32} (kk : SG X d T I G s p fr many res J 0 (i0 + 1) (addC by' (n, w, ts) sum [b])) : SG X d T I G s p fr many res J 1 i0 sum := by
  have hlt : ¬ nI fr + nI many ≤ nI i0 := by rw [nI_add]; exact nI_ge hi (by omega)
  have hb0 : J 145 0 = bI b := TR_top (st := []) hT
  obtain ⟨I', e1, e2⟩ := kk
  refine ⟨I', fun l7 l8 l9 l10 => ?_, e2⟩
  rw [nI_succ i0] at e1
  obtain ⟨z, hz⟩ : ∃ z, s i0 = z := ⟨_, rfl⟩
  have hz1 : z < 0 ∧ z ≠ -1 ∧ z ≤ -10 := by
    rw [← hz, hs]
    cases w with
    | true => exact ⟨(end_w n hn).1, (end_w n hn).2.1, (end_w n hn).2.2.1⟩
    | false => exact ⟨(end_c n hn).1, (end_c n hn).2.1, (end_c n hn).2.2.1⟩
  (repeat refine Ev.p rfl rfl ?_)
  refine Ev.bp rfl (fun c => ?_) (fun c => ?_)
  · exact absurd c hlt
  · (repeat refine Ev.p rfl rfl ?_)
    (refine Ev.iald (j := i0) rfl rfl rfl (by omega) (by omega) ?_; rw [hJ, hz])
    (repeat refine Ev.p rfl rfl ?_)
    refine Ev.bp rfl (fun c => ?_) (fun c => ?_)
    · (repeat refine Ev.p rfl rfl ?_)
      refine Ev.bp rfl (fun c => ?_) (fun c => ?_)
      · (repeat refine Ev.p rfl rfl ?_)
        refine Ev.bp rfl (fun c => ?_) (fun c => ?_)
        · refine Ev.ls (ls2 := [_, _, _, _, _, _, _, _, _, _, _]) rfl ?_
          (repeat refine Ev.p rfl rfl ?_)
          (refine Ev.bald (j := 0) rfl rfl (Or.inr rfl) rfl (by omega) (by omega) ?_; rw [hb0])
          cases b with
          | false =>
            rw [show addC by' (n, w, ts) sum [false] = sum + 0 - 0 from by simp [addC]] at e1
            (repeat (first | (refine Ev.at (q := 118) rfl ?_; exact (e1 _ _ _ _)) | refine Ev.p rfl rfl ?_))
          | true =>
            cases w with
            | true =>
              have h1 := end_w n hn
              have hz3 : z = -10 - nI n := hz.symm.trans hs
              have hz4 : ¬ z ≤ -200 := by rw [hz3]; exact h1.2.2.2.1
              rw [show addC by' (n, true, ts) sum [true] = sum + (-10 - z) - 0 from by rw [hz3, h1.2.2.2.2]; simp [addC]] at e1
              (repeat refine Ev.p rfl rfl ?_)
              refine Ev.bp rfl (fun c => ?_) (fun c => ?_)
              · exact absurd c hz4
              · (repeat refine Ev.p rfl rfl ?_)
                refine Ev.bp rfl (fun c2 => ?_) (fun c2 => ?_)
                · (repeat (first | (refine Ev.at (q := 118) rfl ?_; exact (e1 _ _ _ _)) | refine Ev.p rfl rfl ?_))
                · exact absurd (Int32.not_le.mp hz4) c2
            | false =>
              have h1 := end_c n hn
              have hz3 : z = -200 - nI n := hz.symm.trans hs
              have hz4 : z ≤ -200 := by rw [hz3]; exact h1.2.2.2.1
              rw [show addC by' (n, false, ts) sum [true] = sum + 0 - (-200 - z) from by rw [hz3, h1.2.2.2.2]; simp [addC]] at e1
              (repeat refine Ev.p rfl rfl ?_)
              refine Ev.bp rfl (fun c => ?_) (fun c => ?_)
              · (repeat refine Ev.p rfl rfl ?_)
                refine Ev.bp rfl (fun c2 => ?_) (fun c2 => ?_)
                · exact absurd c2 (Int32.not_lt.mpr hz4)
                · (repeat (first | (refine Ev.at (q := 118) rfl ?_; exact (e1 _ _ _ _)) | refine Ev.p rfl rfl ?_))
              · exact absurd hz4 c
        · exact absurd hz1.2.2 c
      · exact absurd (Decidable.not_not.mp c) hz1.2.1
    · exact absurd hz1.1 c
theorem sg_toks {fr many : Nat} {res : Int32} {by' : Nat → Int32} (hm : fr + many ≤ 937) {rest : List Int32} : ∀ (ts : List Nat) (m : Nat) (st : List Bool) (i0 : Nat) (J : Nat → Nat → Int32) (sum : Int32), dpL ts st.length = some m → st.length ≤ 20 → SL s i0 (ts.map tokR ++ rest) → i0 + ts.length ≤ fr + many → J 141 = s → MS I J → (∀ j, j < 6 → J 144 j = by' j) → TR J st →
    (∀ J', J' 141 = s → MS I J' → (∀ j, j < 6 → J' 144 j = by' j) → TR J' (evL by' ts st) → (evL by' ts st).length = m → SL s (i0 + ts.length) rest → SG X d T I G s p fr many res J' m (i0 + ts.length) sum) → SG X d T I G s p fr many res J st.length i0 sum := by
  intro ts
  induction ts with
  | nil =>
    intro m st i0 J sum hd hst hs hi hJ hM hb hT kk
    have e : st.length = m := Option.some.inj hd
    subst e
    exact kk J hJ hM hb hT rfl hs
  | cons t ts ih =>
    intro m st i0 J sum hd hst hs hi hJ hM hb hT kk
    obtain ⟨m1, hd1⟩ : ∃ m1, dpT t st.length = some m1 := by
      cases h : dpT t st.length with
      | none => simp [dpL, h] at hd
      | some m1 => exact ⟨m1, rfl⟩
    have hd2 : dpL ts m1 = some m := by simpa [dpL, hd1] using hd
    have hl : (t :: ts).length = ts.length + 1 := rfl
    rw [hl] at hi kk
    obtain ⟨hs1, hs2⟩ := SL_cons (l := ts.map tokR ++ rest) hs
    refine sg_tok hm hd1 hst (by omega) hs1 hJ hM hb hT (fun J' h1 h2 h3 h4 h5 => ?_)
    subst h5
    refine ih m _ (i0 + 1) J' sum hd2 (dpT_le hd1 hst) hs2 (by omega) h1 h2 h3 h4 (fun J'' g1 g2 g3 g4 g5 g6 => ?_)
    rw [show i0 + 1 + ts.length = i0 + (ts.length + 1) by omega] at g6 ⊢
    exact kk J'' g1 g2 g3 g4 g5 g6
theorem clR_len (q : Nat × Bool × List Nat) : (clR q).length = q.2.2.length + 1 := by simp [clR]
theorem sg_cls {fr many : Nat} {res : Int32} {by' : Nat → Int32} (hm : fr + many ≤ 937) : ∀ (cls : Cls) (i0 : Nat) (J : Nat → Nat → Int32) (sum : Int32), clOK cls → SL s i0 (clsR cls) → i0 + (clsR cls).length = fr + many → J 141 = s → MS I J → (∀ j, j < 6 → J 144 j = by' j) →
    (∀ J', J' 141 = s → MS I J' → SG X d T I G s p fr many res J' 0 (fr + many) (sumC by' cls sum)) → SG X d T I G s p fr many res J 0 i0 sum := by
  intro cls
  induction cls with
  | nil =>
    intro i0 J sum hc hs hi hJ hM hb kk
    have e : i0 = fr + many := hi
    subst e
    exact kk J hJ hM
  | cons q cls ih =>
    intro i0 J sum hc hs hi hJ hM hb kk
    obtain ⟨nn, w, ts⟩ := q
    have hq := hc (nn, w, ts) (List.mem_cons_self ..)
    have e0 : clsR ((nn, w, ts) :: cls) = ts.map tokR ++ (endR nn w :: clsR cls) := by simp [clsR, clR]
    rw [e0] at hs hi
    have hi2 : i0 + ts.length + 1 + (clsR cls).length = fr + many := by simp at hi; omega
    refine sg_toks hm ts 1 [] i0 J sum hq.2 (by simp) hs (by omega) hJ hM hb (TR_0 J) (fun J' h1 h2 h3 h4 h5 h6 => ?_)
    obtain ⟨k1, k2⟩ := SL_cons h6
    obtain ⟨b, hb1⟩ : ∃ b, evL by' ts [] = [b] := List.length_eq_one_iff.mp h5
    rw [hb1] at h4
    refine sg_end (by' := by') (ts := ts) (b := b) (w := w) hm (by have := hq.1; dsimp only at this; omega) (by omega) k1 h1 h4 ?_
    refine ih (i0 + ts.length + 1) J' _ (fun q' hq' => hc q' (List.mem_cons_of_mem _ hq')) k2 hi2 h1 h2 h3 (fun J'' g1 g2 => ?_)
    have g3 := kk J'' g1 g2
    simp only [sumC, hb1] at g3
    exact g3
theorem sg_fin {fr many : Nat} (hm : fr + many ≤ 937) {J : Nat → Nat → Int32} (hJ : J 141 = s) (hM : MS I J) {top : Nat} {sum : Int32} : SG X d T I G s p fr many sum J top (fr + many) sum := by
  refine ⟨J, fun l7 l8 l9 l10 => ?_, hJ, hM⟩
  (repeat refine Ev.p rfl rfl ?_)
  refine Ev.bp rfl (fun c => ?_) (fun c => ?_)
  · ((repeat refine Ev.p rfl rfl ?_); exact Ev.r rfl)
  · exact absurd (by rw [nI_add]; exact Int32.le_refl _) c
def rBy (s : Nat → Int32) (n p : Nat) (j : Nat) : Int32 := match j with
  | 0 => nI p
  | 1 => s (33 + p)
  | 2 => s (39 + p)
  | 3 => s (2 + p) - s (2 + p) / 10 * 10
  | 4 => rC (rW s p n) 6
  | _ => s 0 - s 0 / 10 * 10
def rSum (s : Nat → Int32) (n p : Nat) (cls : Cls) : Int32 := sumC (rBy s n p) cls 5
/-- the station that is held, and its clauses -/
def stOK (s : Nat → Int32) (hd : Option Nat) (cls : Cls) : Prop := match hd with
  | none => s 32 = -1 ∧ cls = []
  | some h => s 32 = nI h ∧ h < 5 ∧ s (232 + h) = nI (clsR cls).length ∧ (clsR cls).length ≤ 140 ∧ SL s (237 + 140 * h) (clsR cls) ∧ clOK cls
theorem stOK.hold {hd : Option Nat} {cls : Cls} (h : stOK s hd cls) : rHold s hd := by
  cases hd with
  | none => exact h.1
  | some k => exact ⟨h.1, h.2.1⟩
theorem m_sumOf (hI : I 141 = s) (hn : s 26 = nI n) (hn6 : n ≤ 6) (hp : p < 6) {hd : Option Nat} {cls : Cls} (hh : stOK s hd cls) : ∃ I', Ev X (d + 1) kX12_sumOf 0 (ent kX12_sumOf [.ref 140, .int (nI p)]) [] (K0 ++ T, I, RS G) (some (.int (rSum s n p cls)), (K0 ++ T, I', RS G)) ∧ I' 141 = s ∧ MS I I' := by
  obtain ⟨J, hJ⟩ : ∃ J, J = upI (upI (upI (upI (upI (upI I 144 0 (nI p)) 144 1 (s (33 + p))) 144 2 (s (39 + p))) 144 3 (s (2 + p) - s (2 + p) / 10 * 10)) 144 4 (rC (rW s p n) 6)) 144 5 (s 0 - s 0 / 10 * 10) := ⟨_, rfl⟩
  have j143 : J 141 = s := by rw [hJ]; simp only [upI_ne (show (141 : Nat) ≠ 144 by omega)]; exact hI
  have jM : MS I J := by
    rw [hJ]
    exact (((((MS.up (by omega)).tr (MS.up (by omega))).tr (MS.up (by omega))).tr (MS.up (by omega))).tr (MS.up (by omega))).tr (MS.up (by omega))
  have jb : ∀ j, j < 6 → J 144 j = rBy s n p j := by
    intro j hj
    rw [hJ]
    simp only [upI_eq]
    rcases (by omega : j = 0 ∨ j = 1 ∨ j = 2 ∨ j = 3 ∨ j = 4 ∨ j = 5) with rfl | rfl | rfl | rfl | rfl | rfl <;> rfl
  obtain ⟨fr, many, hfr, hm, hmany, hfl, hs, hi, hcl⟩ : ∃ fr many : Nat, (237 + 140 * s 32 : Int32) = nI fr ∧ fr + many ≤ 937 ∧ rT s hd 232 0 = nI many ∧ fr < 937 ∧ SL s fr (clsR cls) ∧ fr + (clsR cls).length = fr + many ∧ clOK cls := by
    cases hd with
    | none =>
      obtain ⟨h1, h2⟩ := hh
      subst h2
      refine ⟨97, 0, by rw [h1]; rfl, by omega, rfl, by omega, fun j x h => by simp [clsR] at h, rfl, fun q hq => by cases hq⟩
    | some h =>
      obtain ⟨h1, h2, h3, h4, h5, h6⟩ := hh
      refine ⟨237 + 140 * h, (clsR cls).length, ?_, by omega, h3, by omega, h5, rfl, h6⟩
      rw [h1]
      rcases (by omega : h = 0 ∨ h = 1 ∨ h = 2 ∨ h = 3 ∨ h = 4) with rfl | rfl | rfl | rfl | rfl <;> decide
  obtain ⟨I', e1, e2⟩ := sg_cls (X := X) (d := d + 1) (T := T) (I := I) (G := G) (s := s) (p := p) (by' := rBy s n p) (res := rSum s n p cls) hm cls fr J 5 hcl hs hi j143 jM jb (fun J' h1 h2 => sg_fin hm h1 h2)
  refine ⟨I', ?_, e2⟩
  (repeat refine Ev.p rfl rfl ?_)
  refine Ev.iast (j := 0) rfl rfl rfl (by omega) (by omega) ?_
  (repeat refine Ev.p rfl rfl ?_)
  (refine Ev.iald (j := 33 + p) rfl rfl (nI_add 33 p) (by omega) (by omega) ?_; simp only [upI_ne (show (141 : Nat) ≠ 144 by omega), hI])
  refine Ev.iast (j := 1) rfl rfl rfl (by omega) (by omega) ?_
  (repeat refine Ev.p rfl rfl ?_)
  (refine Ev.iald (j := 39 + p) rfl rfl (nI_add 39 p) (by omega) (by omega) ?_; simp only [upI_ne (show (141 : Nat) ≠ 144 by omega), hI])
  refine Ev.iast (j := 2) rfl rfl rfl (by omega) (by omega) ?_
  (repeat refine Ev.p rfl rfl ?_)
  (refine Ev.iald (j := 2 + p) rfl rfl (nI_add 2 p) (by omega) (by omega) ?_; simp only [upI_ne (show (141 : Nat) ≠ 144 by omega), hI])
  (repeat refine Ev.p rfl rfl ?_)
  refine Ev.iast (j := 3) rfl rfl rfl (by omega) (by omega) ?_
  (repeat refine Ev.p rfl rfl ?_)
  refine Ev.c rfl (m_waitsFor (s := s) (n := n) (by simp only [upI_ne (show (141 : Nat) ≠ 144 by omega), hI]) hn hn6 hp) ?_
  refine Ev.c rfl (m_countOf _ _) ?_
  (repeat refine Ev.p rfl rfl ?_)
  refine Ev.iast (j := 4) rfl rfl rfl (by omega) (by omega) ?_
  (repeat refine Ev.p rfl rfl ?_)
  (refine Ev.iald (j := 0) rfl rfl rfl (by omega) (by omega) ?_; simp only [upI_ne (show (141 : Nat) ≠ 144 by omega), hI])
  (repeat refine Ev.p rfl rfl ?_)
  refine Ev.iast (j := 5) rfl rfl rfl (by omega) (by omega) ?_
  rw [← hJ]
  ((repeat refine Ev.p rfl rfl ?_); refine Ev.ls (ls2 := [_, _, _, _, _, _, _, _, _, _, _]) rfl ?_)
  refine Ev.c rfl (m_tellsOf (s := s) j143 hh.hold (w := 232) (by omega) 0) ?_
  rw [hmany]
  ((repeat refine Ev.p rfl rfl ?_); refine Ev.ls (ls2 := [_, _, _, _, _, _, _, _, _, _, _]) rfl ?_)
  (refine Ev.iald (j := 32) rfl rfl rfl (by omega) (by omega) ?_; rw [j143])
  iterate 3 refine Ev.p rfl rfl ?_
  rw [hfr]
  (repeat (first | (refine Ev.at (q := 118) rfl ?_; exact (e1 _ _ _ _)) | refine Ev.p rfl rfl ?_))
end SUM2
