/-! THE CLASS: SUM, STIR -/
/-- the tag of each KIND's objects -/
def kt : Nat → Nat
  | 0 => 6
  | 1 => 5
  | 2 => 1
  | 3 => 4
  | 4 => 7
  | 5 => 2
  | _ => 9
def PV (v q : Nat) : Prop := q = v + 8
theorem PV.s (v : Nat) : PV v (v + 8) := rfl
/-- the Veranda's MATTERS are objects of their KINDS -/
def VO (K : List (Nat × Nat)) (I : Nat → Nat → Int32) (R : Nat → Nat → Option Nat) (v : Nat) (s : Nat → Int32) (n : Nat) : Prop := ∀ p, p < n → ∃ m kk, R (v + 1) p = some m ∧ kk ≤ 6 ∧ s (33 + p) = nI kk ∧ K[m]? = some (kt kk, 4) ∧ I m 0 = nI p
section CSTIR
variable {X : Nat × (Nat → Int32)} {d : Nat} {K : List (Nat × Nat)} {I : Nat → Nat → Int32} {R : Nat → Nat → Option Nat} {s : Nat → Int32} {n p v q m e : Nat} {fd : Int32} {cls : Cls}
theorem VM.fr {I' : Nat → Nat → Int32} (h : VM I v s n) (hf : FR (PV v) I I') : VM I' v s n := by
  unfold VM at h ⊢
  rw [hf v (by unfold PV; omega), hf (v + 2) (by unfold PV; omega), hf (v + 3) (by unfold PV; omega), hf (v + 4) (by unfold PV; omega), hf (v + 5) (by unfold PV; omega), hf (v + 6) (by unfold PV; omega), hf (v + 7) (by unfold PV; omega)]
  exact h
theorem VO.fr {I' : Nat → Nat → Int32} (hK : VK K R v) (h : VO K I R v s n) (hf : FR (PV v) I I') : VO K I' R v s n := by
  intro p hp
  obtain ⟨m, kk, h1, h2, h3, h4, h5⟩ := h p hp
  refine ⟨m, kk, h1, h2, h3, h4, ?_⟩
  rw [hf m (fun g => ?_)]
  · exact h5
  · have g : m = v + 8 := g
    have k8 := hK.2.2.2.2.2.2.2.2.1
    rw [g, k8] at h4
    exact absurd (congrArg Prod.snd (Option.some.inj h4)) (show ¬ (6 : Nat) = 4 by decide)
theorem stC.fv (hK : VK K R v) {I' : Nat → Nat → Int32} (h : stC K I R q fd cls) (hf : FR (PV v) I I') : stC K I' R q fd cls := by
  have k8 := hK.2.2.2.2.2.2.2.2.1
  refine h.fr (hf _ (fun g => ?_)) (hf _ (fun g => ?_)) (hf _ (fun g => ?_)) (hf _ (fun g => ?_))
  · have g : q = v + 8 := g
    have k := h.1
    rw [g, k8] at k
    cases k
  · have g : q + 1 = v + 8 := g
    have k := h.2.1
    rw [g, k8] at k
    cases k
  · have g : q + 2 = v + 8 := g
    have k := h.2.2.1
    rw [g, k8] at k
    cases k
  · have g : q + 3 = v + 8 := g
    have k := h.2.2.2.1
    rw [g, k8] at k
    cases k
theorem c_sumOf (hK : VK K R v) (hM : VM I v s n) (hn : n ≤ 6) (hS : SF s n) (hp : p < n) (h14 : R v 14 = some q) (hst : stC K I R q fd cls) : ∃ I', Ev X (d + 2) kX10_sumOf 0 (ent kX10_sumOf [.ref v, .int (nI p)]) [] (K, I, R) (some (.int (rSum s n p cls)), (K, I', R)) ∧ FR (PV v) I I' := by
  obtain ⟨J, hJ⟩ : ∃ J, J = upI (upI (upI (upI (upI (upI I (v + 8) 0 (nI p)) (v + 8) 1 (s (33 + p))) (v + 8) 2 (s (39 + p))) (v + 8) 3 (s (2 + p) - s (2 + p) / 10 * 10)) (v + 8) 4 (rC (rW s p n) 6)) (v + 8) 5 (s 0 - s 0 / 10 * 10) := ⟨_, rfl⟩
  have fJ : FR (PV v) I J := by
    rw [hJ]
    exact (((((FR.up (PV.s v)).tr (FR.up (PV.s v))).tr (FR.up (PV.s v))).tr (FR.up (PV.s v))).tr (FR.up (PV.s v))).tr (FR.up (PV.s v))
  have jb : ∀ j, j < 6 → J (v + 8) j = rBy s n p j := by
    intro j hj
    rw [hJ]
    simp only [upI_eq]
    rcases (by omega : j = 0 ∨ j = 1 ∨ j = 2 ∨ j = 3 ∨ j = 4 ∨ j = 5) with rfl | rfl | rfl | rfl | rfl | rfl <;> rfl
  have hstJ : stC K J R q fd cls := hst.fv hK fJ
  have hKK := hK
  have hbc := j_bitCount (X := X) (d := d + 1)
  have hW : ∃ a, a < 64 ∧ rW s p n = nI a := ⟨_, mk_64 _ hn, rW_mk hn hS (by omega) n hn⟩
  obtain ⟨aW, haW, eW⟩ := hW
  obtain ⟨k0, k1, k2, k3, k4, k5, k6, k7, k8, r0, r1, r2, r3, r4, r5, r6, r7⟩ := hK
  have hch := fun (pre rest : Cls) (m : Nat) (wa : Bool) (ts : List Nat) (hc : cls = pre ++ (m, wa, ts) :: rest) => c_holds (X := X) (d := d) (by' := rBy s n p) (vv := 0) hstJ k8 jb hc
  obtain ⟨v8, v9, v10, v11, v12, vk, vv, va, vt, vh, vr⟩ := hM
  obtain ⟨q0, q1, q2, q3, s3, s4, s5, f1, f2, hl, hok, ht, hac, hcd⟩ := hstJ
  have lp : ∀ (rest pre : Cls) (sum : Int32), cls = pre ++ rest → Ev X (d + 2) kX10_sumOf 85 [some (.ref v), some (.int (nI p)), some (.int sum), some (.int (nI pre.length))] [] (K, J, R) (some (.int (sumC (rBy s n p) rest sum)), (K, J, R)) := by
    intro rest
    induction rest with
    | nil =>
      intro pre sum hc
      have e : cls.length = pre.length := by rw [hc, List.append_nil]
      rw [e] at f2
      (repeat (first | refine Ev.p rfl rfl ?_ | refine Ev.gr (by rfl) (by rfl) (by assumption) (by rfl) (by assumption) ?_ | refine Ev.gi (by rfl) (by rfl) (by assumption) (by rfl) (by assumption) ?_))
      refine Ev.bp rfl (fun c => ?_) (fun c => ?_)
      · ((repeat refine Ev.p rfl rfl ?_); exact Ev.r rfl)
      · exact absurd (Int32.le_refl _) c
    | cons z rest ih =>
      intro pre sum hc
      obtain ⟨m, wa, ts⟩ := z
      have hlt : pre.length < cls.length := by rw [hc]; simp
      have g := ih (pre ++ [(m, wa, ts)]) (addC (rBy s n p) (m, wa, ts) sum (evL (rBy s n p) ts [])) (by rw [hc, List.append_assoc]; rfl)
      rw [show (pre ++ [(m, wa, ts)]).length = pre.length + 1 from by simp, nI_succ] at g
      have ham := (hac pre rest m wa ts hc).1
      have hh := hch pre rest m wa ts hc
      show Ev X (d + 2) kX10_sumOf 85 _ [] _ (some (.int (sumC (rBy s n p) rest (addC (rBy s n p) (m, wa, ts) sum (evL (rBy s n p) ts [])))), _)
      (repeat (first | refine Ev.p rfl rfl ?_ | refine Ev.gr (by rfl) (by rfl) (by assumption) (by rfl) (by assumption) ?_ | refine Ev.gi (by rfl) (by rfl) (by assumption) (by rfl) (by assumption) ?_))
      refine Ev.bp rfl (fun c => ?_) (fun c => ?_)
      · exact absurd c (nI_ge hlt (by omega))
      · (repeat (first | refine Ev.p rfl rfl ?_ | refine Ev.gr (by rfl) (by rfl) (by assumption) (by rfl) (by assumption) ?_ | refine Ev.gi (by rfl) (by rfl) (by assumption) (by rfl) (by assumption) ?_))
        refine Ev.cv (by rfl) (by rfl) (by assumption) (by rfl) (by rfl) (by rfl) (by rfl) (by rfl) hh ?_
        obtain ⟨sm, hsm⟩ : ∃ sm, sm = addC (rBy s n p) (m, wa, ts) sum (evL (rBy s n p) ts []) := ⟨_, rfl⟩
        rw [← hsm] at g ⊢
        cases hb : (evL (rBy s n p) ts []).headD false with
        | false =>
          rw [show sm = sum from by rw [hsm]; unfold addC; rw [hb, if_neg (by decide)]] at g ⊢
          (repeat (first | (refine Ev.at (q := 85) rfl ?_; exact g) | refine Ev.p rfl rfl ?_))
        | true =>
          (repeat (first | refine Ev.p rfl rfl ?_ | refine Ev.gr (by rfl) (by rfl) (by assumption) (by rfl) (by assumption) ?_ | refine Ev.gi (by rfl) (by rfl) (by assumption) (by rfl) (by assumption) ?_))
          refine Ev.iald (j := pre.length) (by rfl) (by assumption) (by rfl) (by omega) (by omega) ?_
          rw [ham]
          cases wa with
          | true =>
            rw [show sm = sum + nI m from by rw [hsm]; unfold addC; rw [hb, if_pos rfl, if_pos rfl]] at g ⊢
            rw [if_pos rfl]
            (repeat (first | (refine Ev.at (q := 85) rfl ?_; exact g) | refine Ev.p rfl rfl ?_))
          | false =>
            rw [show sm = sum + (-nI m) from by rw [hsm]; unfold addC; rw [hb, if_pos rfl, if_neg (show ¬ (false : Bool) = true by decide), Int32.sub_eq_add_neg]] at g ⊢
            rw [if_neg (by decide)]
            (repeat (first | (refine Ev.at (q := 85) rfl ?_; exact g) | refine Ev.p rfl rfl ?_))
  have g := lp cls [] 5 rfl
  refine ⟨J, ?_, fJ⟩
  rw [hJ] at g ⊢
  show Ev X (d + 2) kX10_sumOf 0 _ [] _ (some (.int (sumC (rBy s n p) cls 5)), _)
  (repeat (first | refine Ev.p rfl rfl ?_ | refine Ev.gr (by rfl) (by rfl) (by assumption) (by rfl) (by assumption) ?_ | refine Ev.gi (by rfl) (by rfl) (by assumption) (by rfl) (by assumption) ?_))
  refine Ev.iast (j := 0) (by rfl) (by assumption) (by rfl) (by omega) (by omega) ?_
  (repeat (first | refine Ev.p rfl rfl ?_ | refine Ev.gr (by rfl) (by rfl) (by assumption) (by rfl) (by assumption) ?_ | refine Ev.gi (by rfl) (by rfl) (by assumption) (by rfl) (by assumption) ?_))
  (refine Ev.iald (j := p) (by rfl) (by assumption) (by rfl) (by omega) (by omega) ?_; simp only [upI_ne (show v + 2 ≠ v + 8 by omega), vk p hp])
  refine Ev.iast (j := 1) (by rfl) (by assumption) (by rfl) (by omega) (by omega) ?_
  (repeat (first | refine Ev.p rfl rfl ?_ | refine Ev.gr (by rfl) (by rfl) (by assumption) (by rfl) (by assumption) ?_ | refine Ev.gi (by rfl) (by rfl) (by assumption) (by rfl) (by assumption) ?_))
  (refine Ev.iald (j := p) (by rfl) (by assumption) (by rfl) (by omega) (by omega) ?_; simp only [upI_ne (show v + 3 ≠ v + 8 by omega), vv p hp])
  refine Ev.iast (j := 2) (by rfl) (by assumption) (by rfl) (by omega) (by omega) ?_
  (repeat (first | refine Ev.p rfl rfl ?_ | refine Ev.gr (by rfl) (by rfl) (by assumption) (by rfl) (by assumption) ?_ | refine Ev.gi (by rfl) (by rfl) (by assumption) (by rfl) (by assumption) ?_))
  (refine Ev.iald (j := p) (by rfl) (by assumption) (by rfl) (by omega) (by omega) ?_; simp only [upI_ne (show v + 4 ≠ v + 8 by omega), va p hp])
  (repeat (first | refine Ev.p rfl rfl ?_ | refine Ev.gr (by rfl) (by rfl) (by assumption) (by rfl) (by assumption) ?_ | refine Ev.gi (by rfl) (by rfl) (by assumption) (by rfl) (by assumption) ?_))
  refine Ev.iast (j := 3) (by rfl) (by assumption) (by rfl) (by omega) (by omega) ?_
  (repeat (first | refine Ev.p rfl rfl ?_ | refine Ev.gr (by rfl) (by rfl) (by assumption) (by rfl) (by assumption) ?_ | refine Ev.gi (by rfl) (by rfl) (by assumption) (by rfl) (by assumption) ?_))
  (refine Ev.iald (j := p) (by rfl) (by assumption) (by rfl) (by omega) (by omega) ?_; simp only [upI_ne (show v + 6 ≠ v + 8 by omega), vh p hp])
  iterate 1 refine Ev.p rfl rfl ?_
  refine Ev.gi (by rfl) (by rfl) (by assumption) (by rfl) (y := nI (mk (sett s) n)) (by simp only [upI_ne (show v ≠ v + 8 by omega)]; exact v9) ?_
  iterate 3 refine Ev.p rfl rfl ?_
  rw [wai_mk hn hS (by omega), eW]
  refine Ev.c rfl (hbc _ haW) ?_
  rw [← eW]
  (repeat (first | refine Ev.p rfl rfl ?_ | refine Ev.gr (by rfl) (by rfl) (by assumption) (by rfl) (by assumption) ?_ | refine Ev.gi (by rfl) (by rfl) (by assumption) (by rfl) (by assumption) ?_))
  refine Ev.iast (j := 4) (by rfl) (by assumption) (by rfl) (by omega) (by omega) ?_
  iterate 1 refine Ev.p rfl rfl ?_
  (repeat (first | refine Ev.p rfl rfl ?_ | refine Ev.gr (by rfl) (by rfl) (by assumption) (by rfl) (by assumption) ?_ | refine Ev.gi (by rfl) (by rfl) (by assumption) (by rfl) (by assumption) ?_))
  refine Ev.gi (by rfl) (by rfl) (by assumption) (by rfl) (y := s 0) (by simp only [upI_ne (show v ≠ v + 8 by omega)]; exact v12) ?_
  (repeat (first | refine Ev.p rfl rfl ?_ | refine Ev.gr (by rfl) (by rfl) (by assumption) (by rfl) (by assumption) ?_ | refine Ev.gi (by rfl) (by rfl) (by assumption) (by rfl) (by assumption) ?_))
  refine Ev.iast (j := 5) (by rfl) (by assumption) (by rfl) (by omega) (by omega) ?_
  (repeat (first | (refine Ev.at (q := 85) rfl ?_; exact g) | refine Ev.p rfl rfl ?_))
theorem c_X1 {t : Nat} (ht : t = 1 ∨ t = 2) (hK : VK K R v) (hM : VM I v s n) (hp : p < n) (hn : n ≤ 6) (hm : K[m]? = some (t, 4)) (h0 : I m 0 = nI p) (sum : Int32) : Ev X d kX1_stir 0 (ent kX1_stir [.ref m, .ref v, .int sum]) [] (K, I, R) (some (.int (sum - s (39 + p))), (K, I, R)) := by
  obtain ⟨k0, k1, k2, k3, k4, k5, k6, k7, k8, r0, r1, r2, r3, r4, r5, r6, r7⟩ := hK
  obtain ⟨v8, v9, v10, v11, v12, vk, vv, va, vt, vh, vr⟩ := hM
  rcases ht with rfl | rfl
  all_goals
    (repeat (first | refine Ev.p rfl rfl ?_ | refine Ev.gr (by rfl) (by rfl) (by assumption) (by rfl) (by assumption) ?_ | refine Ev.gi (by rfl) (by rfl) (by assumption) (by rfl) (by assumption) ?_))
    (refine Ev.iald (j := p) (by rfl) (by assumption) (by rfl) (by omega) (by omega) ?_; rw [vv p hp])
    ((repeat refine Ev.p rfl rfl ?_); exact Ev.r rfl)
theorem c_X5 {t : Nat} (ht : t = 5 ∨ t = 7) (hK : VK K R v) (hM : VM I v s n) (hp : p < n) (hn : n ≤ 6) (hm : K[m]? = some (t, 4)) (h0 : I m 0 = nI p) (sum : Int32) : Ev X d kX5_stir 0 (ent kX5_stir [.ref m, .ref v, .int sum]) [] (K, I, R) (some (.int (if 10 ≤ s (2 + p) then sum / 2 else sum)), (K, I, R)) := by
  obtain ⟨k0, k1, k2, k3, k4, k5, k6, k7, k8, r0, r1, r2, r3, r4, r5, r6, r7⟩ := hK
  obtain ⟨v8, v9, v10, v11, v12, vk, vv, va, vt, vh, vr⟩ := hM
  rcases ht with rfl | rfl
  all_goals
    (repeat (first | refine Ev.p rfl rfl ?_ | refine Ev.gr (by rfl) (by rfl) (by assumption) (by rfl) (by assumption) ?_ | refine Ev.gi (by rfl) (by rfl) (by assumption) (by rfl) (by assumption) ?_))
    (refine Ev.iald (j := p) (by rfl) (by assumption) (by rfl) (by omega) (by omega) ?_; rw [va p hp])
    (repeat refine Ev.p rfl rfl ?_)
    refine Ev.bp rfl (fun c => ?_) (fun c => ?_)
    · rw [if_neg (fun h => absurd c (Int32.not_lt.mpr h))]
      ((repeat refine Ev.p rfl rfl ?_); exact Ev.r rfl)
    · rw [if_pos (Int32.not_lt.mp c)]
      ((repeat refine Ev.p rfl rfl ?_); exact Ev.r rfl)
theorem c_X4 {t : Nat} (ht : t = 4 ∨ t = 9) (hK : VK K R v) (hM : VM I v s n) (hp : p < n) (hn : n ≤ 6) (hS : SF s n) (hm : K[m]? = some (t, 4)) (h0 : I m 0 = nI p) (sum : Int32) : Ev X (d + 1) kX4_stir 0 (ent kX4_stir [.ref m, .ref v, .int sum]) [] (K, I, R) (some (.int (sum + rSB s p n)), (K, I, R)) := by
  obtain ⟨k0, k1, k2, k3, k4, k5, k6, k7, k8, r0, r1, r2, r3, r4, r5, r6, r7⟩ := hK
  obtain ⟨v8, v9, v10, v11, v12, vk, vv, va, vt, vh, vr⟩ := hM
  have hb := j_bitCount (X := X) (d := d) (K, I, R) (mk_64 (fun q => !decide (q = p) && sett s q) hn)
  rw [rC_mk _ hn, ← rSB_mk hS.1 hn] at hb
  rcases ht with rfl | rfl
  all_goals
    (repeat (first | refine Ev.p rfl rfl ?_ | refine Ev.gr (by rfl) (by rfl) (by assumption) (by rfl) (by assumption) ?_ | refine Ev.gi (by rfl) (by rfl) (by assumption) (by rfl) (by assumption) ?_))
    rw [oth_mk s hn hp]
    refine Ev.c rfl hb ?_
    ((repeat refine Ev.p rfl rfl ?_); exact Ev.r rfl)
theorem c_stirK (hK : VK K R v) (hM : VM I v s n) (hn : n ≤ 6) (hS : SF s n) (hp : p < n) (he : s 0 = nI e) (he2 : e < 1000000) {kk : Nat} (hkk : kk ≤ 6) (hm : K[m]? = some (kt kk, 4)) (h0 : I m 0 = nI p) : Ev X (d + 3) (vg 500 (kt kk)) 0 (ent (vg 500 (kt kk)) [.ref m, .ref v, .int (rSum s n p cls)]) [] (K, I, R) (some (.int (rStK s n p cls kk)), (K, I, R)) := by
  have h1 := fun (t : Nat) (ht : t = 1 ∨ t = 2) (hm : K[m]? = some (t, 4)) => c_X1 (X := X) (d := d + 2) ht hK hM hp hn hm h0 (rSum s n p cls)
  have h5 := fun (t : Nat) (ht : t = 5 ∨ t = 7) (hm : K[m]? = some (t, 4)) => c_X5 (X := X) (d := d + 2) ht hK hM hp hn hm h0 (rSum s n p cls)
  have h4 := fun (t : Nat) (ht : t = 4 ∨ t = 9) (hm : K[m]? = some (t, 4)) => c_X4 (X := X) (d := d + 1) ht hK hM hp hn hS hm h0 (rSum s n p cls)
  obtain ⟨k0, k1, k2, k3, k4, k5, k6, k7, k8, r0, r1, r2, r3, r4, r5, r6, r7⟩ := hK
  obtain ⟨v8, v9, v10, v11, v12, vk, vv, va, vt, vh, vr⟩ := hM
  rw [he] at v12
  rcases (by omega : kk = 0 ∨ kk = 1 ∨ kk = 2 ∨ kk = 3 ∨ kk = 4 ∨ kk = 5 ∨ kk = 6) with rfl | rfl | rfl | rfl | rfl | rfl | rfl
  · show Ev X (d + 3) kX6_stir 0 (ent kX6_stir _) [] _ _
    ((repeat refine Ev.p rfl rfl ?_); exact Ev.r rfl)
  · exact (c_X5 (X := X) (d := d + 3) (Or.inl rfl) ⟨k0, k1, k2, k3, k4, k5, k6, k7, k8, r0, r1, r2, r3, r4, r5, r6, r7⟩ ⟨v8, v9, v10, v11, by rw [v12, he], vk, vv, va, vt, vh, vr⟩ hp hn hm h0 _)
  · exact (c_X1 (X := X) (d := d + 3) (Or.inl rfl) ⟨k0, k1, k2, k3, k4, k5, k6, k7, k8, r0, r1, r2, r3, r4, r5, r6, r7⟩ ⟨v8, v9, v10, v11, by rw [v12, he], vk, vv, va, vt, vh, vr⟩ hp hn hm h0 _)
  · exact (c_X4 (X := X) (d := d + 2) (Or.inl rfl) ⟨k0, k1, k2, k3, k4, k5, k6, k7, k8, r0, r1, r2, r3, r4, r5, r6, r7⟩ ⟨v8, v9, v10, v11, by rw [v12, he], vk, vv, va, vt, vh, vr⟩ hp hn hS hm h0 _)
  · show Ev X (d + 3) kX7_stir 0 (ent kX7_stir _) [] _ _
    have hm : K[m]? = some (7, 4) := hm
    have h9 := h5 7 (Or.inr rfl) hm
    have ee : s 0 - s 0 / 2 * 2 = nI (e % 2) := by rw [he]; exact pk_rem (d := 2) (by omega) (by omega) (by omega)
    show Ev X (d + 3) kX7_stir 0 _ [] _ (some (.int (if s 0 - s 0 / 2 * 2 = 1 then 0 else rMar s n p cls)), _)
    rw [ee]
    (repeat (first | refine Ev.p rfl rfl ?_ | refine Ev.gr (by rfl) (by rfl) (by assumption) (by rfl) (by assumption) ?_ | refine Ev.gi (by rfl) (by rfl) (by assumption) (by rfl) (by assumption) ?_))
    rw [show nI e &&& 1 = nI (e % 2) from pk_andN (by omega) 1 (by decide)]
    refine Ev.bp rfl (fun c => ?_) (fun c => ?_)
    · rw [if_neg c]
      (repeat (first | refine Ev.p rfl rfl ?_ | refine Ev.gr (by rfl) (by rfl) (by assumption) (by rfl) (by assumption) ?_ | refine Ev.gi (by rfl) (by rfl) (by assumption) (by rfl) (by assumption) ?_))
      refine Ev.csp (by rfl) (by rfl) (by rfl) (by assumption) (by rfl) (by rfl) (by rfl) (by rfl) h9 ?_
      ((repeat refine Ev.p rfl rfl ?_); exact Ev.r rfl)
    · rw [if_pos (Decidable.not_not.mp c)]
      ((repeat refine Ev.p rfl rfl ?_); exact Ev.r rfl)
  · show Ev X (d + 3) kX2_stir 0 (ent kX2_stir _) [] _ _
    have hm : K[m]? = some (2, 4) := hm
    have h9 := h1 2 (Or.inr rfl) hm
    show Ev X (d + 3) kX2_stir 0 _ [] _ (some (.int (if s (69 + p) = 0 then 2 * rBou s n p cls else rBou s n p cls)), _)
    (repeat (first | refine Ev.p rfl rfl ?_ | refine Ev.gr (by rfl) (by rfl) (by assumption) (by rfl) (by assumption) ?_ | refine Ev.gi (by rfl) (by rfl) (by assumption) (by rfl) (by assumption) ?_))
    refine Ev.csp (by rfl) (by rfl) (by rfl) (by assumption) (by rfl) (by rfl) (by rfl) (by rfl) h9 ?_
    (repeat (first | refine Ev.p rfl rfl ?_ | refine Ev.gr (by rfl) (by rfl) (by assumption) (by rfl) (by assumption) ?_ | refine Ev.gi (by rfl) (by rfl) (by assumption) (by rfl) (by assumption) ?_))
    (refine Ev.iald (j := p) (by rfl) (by assumption) (by rfl) (by omega) (by omega) ?_; rw [vh p hp])
    (repeat refine Ev.p rfl rfl ?_)
    refine Ev.bp rfl (fun c => ?_) (fun c => ?_)
    · rw [if_neg c]
      ((repeat refine Ev.p rfl rfl ?_); exact Ev.r rfl)
    · rw [if_pos (Decidable.not_not.mp c), Int32.mul_comm]
      ((repeat refine Ev.p rfl rfl ?_); exact Ev.r rfl)
  · show Ev X (d + 3) kX9_stir 0 (ent kX9_stir _) [] _ _
    have hm : K[m]? = some (9, 4) := hm
    have h9 := h4 9 (Or.inr rfl) hm
    show Ev X (d + 3) kX9_stir 0 _ [] _ (some (.int (rLoa s n p cls + s (45 + 4 * p + (s 0).toNatClampNeg % 4))), _)
    rw [he, nI_clamp (by omega), ← vr p (e % 4) hp (by omega)]
    (repeat (first | refine Ev.p rfl rfl ?_ | refine Ev.gr (by rfl) (by rfl) (by assumption) (by rfl) (by assumption) ?_ | refine Ev.gi (by rfl) (by rfl) (by assumption) (by rfl) (by assumption) ?_))
    refine Ev.csp (by rfl) (by rfl) (by rfl) (by assumption) (by rfl) (by rfl) (by rfl) (by rfl) h9 ?_
    (repeat (first | refine Ev.p rfl rfl ?_ | refine Ev.gr (by rfl) (by rfl) (by assumption) (by rfl) (by assumption) ?_ | refine Ev.gi (by rfl) (by rfl) (by assumption) (by rfl) (by assumption) ?_))
    rw [show nI e &&& 3 = nI (e % 4) from pk_andN (by omega) 2 (by decide), Int32.mul_comm, nI_4mul (by omega), nI_add]
    refine Ev.iald (j := 4 * p + e % 4) (by rfl) (by assumption) (by rfl) (by omega) (by omega) ?_
    ((repeat refine Ev.p rfl rfl ?_); exact Ev.r rfl)
theorem c_stirOf (hK : VK K R v) (hM : VM I v s n) (hn : n ≤ 6) (hS : SF s n) (hO : VO K I R v s n) (hp : p < n) (he : s 0 = nI e) (he2 : e < 1000000) (h14 : R v 14 = some q) (hst : stC K I R q fd cls) : ∃ I', Ev X (d + 4) kX10_stirOf 0 (ent kX10_stirOf [.ref v, .int (nI p)]) [] (K, I, R) (some (.int (rStir s n p cls)), (K, I', R)) ∧ FR (PV v) I I' := by
  obtain ⟨J, e1, e2⟩ := c_sumOf (X := X) (d := d + 1) hK hM hn hS hp h14 hst
  refine ⟨J, ?_, e2⟩
  obtain ⟨m, kk, m1, m2, m3, m4, m5⟩ := hO p hp
  obtain ⟨m', kk', n1, n2, n3, n4, n5⟩ := (hO.fr hK e2) p hp
  have : m' = m := Option.some.inj (n1.symm.trans m1)
  subst this
  have h9 := c_stirK (X := X) (d := d) (cls := cls) hK (hM.fr e2) hn hS hp he he2 m2 m4 n5
  rw [show rStir s n p cls = rStK s n p cls kk from by unfold rStir; rw [m3, nI_clamp (by omega)]]
  obtain ⟨k0, k1, k2, k3, k4, k5, k6, k7, k8, r0, r1, r2, r3, r4, r5, r6, r7⟩ := hK
  have hnn : xv (R (v + 1) p) = .ref m' := by rw [m1]; rfl
  (repeat (first | refine Ev.p rfl rfl ?_ | refine Ev.gr (by rfl) (by rfl) (by assumption) (by rfl) (by assumption) ?_ | refine Ev.gi (by rfl) (by rfl) (by assumption) (by rfl) (by assumption) ?_))
  (refine Ev.aald (j := p) (by rfl) (by assumption) (Or.inl rfl) (by rfl) (by omega) (by omega) ?_; rw [hnn])
  (repeat (first | refine Ev.p rfl rfl ?_ | refine Ev.gr (by rfl) (by rfl) (by assumption) (by rfl) (by assumption) ?_ | refine Ev.gi (by rfl) (by rfl) (by assumption) (by rfl) (by assumption) ?_))
  refine Ev.cv (by rfl) (by rfl) (by assumption) (by rfl) (by rfl) (by rfl) (by rfl) (by rfl) e1 ?_
  (repeat (first | refine Ev.p rfl rfl ?_ | refine Ev.gr (by rfl) (by rfl) (by assumption) (by rfl) (by assumption) ?_ | refine Ev.gi (by rfl) (by rfl) (by assumption) (by rfl) (by assumption) ?_))
  rcases (by omega : kk = 0 ∨ kk = 1 ∨ kk = 2 ∨ kk = 3 ∨ kk = 4 ∨ kk = 5 ∨ kk = 6) with rfl | rfl | rfl | rfl | rfl | rfl | rfl
  all_goals
    refine Ev.cv (by rfl) (by rfl) m4 (by rfl) (by rfl) (by rfl) (by rfl) (by rfl) h9 ?_
    ((repeat refine Ev.p rfl rfl ?_); exact Ev.r rfl)
end CSTIR
