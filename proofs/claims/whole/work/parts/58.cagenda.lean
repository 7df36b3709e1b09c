/-! THE CLASS: agendas -/
theorem dig_div {n t pr k m j : Nat} (hj : j < k) (hk : k ≤ m) (ht : t < (n + 1) ^ (m - k)) : (pr * (n + 1) ^ (m - k) + t) / (n + 1) ^ (m - 1 - j) = pr / (n + 1) ^ (k - 1 - j) := by
  have hp : 0 < (n + 1) ^ (m - k) := Nat.pow_pos (by omega)
  rw [show m - 1 - j = (m - k) + (k - 1 - j) by omega, Nat.pow_add, ← Nat.div_div_eq_div_mul, Nat.mul_comm pr, Nat.mul_add_div hp, Nat.div_eq_of_lt ht, Nat.add_zero]
theorem rDig_pre {n t pr k m j : Nat} (hj : j < k) (hk : k ≤ m) (ht : t < (n + 1) ^ (m - k)) : rDig n (pr * (n + 1) ^ (m - k) + t) m j = rDig n pr k j := by
  unfold rDig
  rw [dig_div hj hk ht]
theorem rRw_pre {s : Nat → Int32} {n : Nat} {cls : Cls} {du fd : Int32} {t pr k m : Nat} (hk : k ≤ m) (ht : t < (n + 1) ^ (m - k)) : ∀ j, j ≤ k → rRw s n cls du fd m (pr * (n + 1) ^ (m - k) + t) j = rRw s n cls du fd k pr j := by
  intro j
  induction j with
  | zero => intro _; rfl
  | succ j ih =>
    intro hj
    show rGo (rRw s n cls du fd m _ j) n cls du fd (rDig n _ m j) = rGo (rRw s n cls du fd k pr j) n cls du fd (rDig n pr k j)
    rw [ih (by omega), rDig_pre (by omega) hk ht]
/-- one place more -/
theorem rDig_suc {n pr k j i : Nat} (hi : i ≤ n) (hj : j < k) : rDig n (pr * (n + 1) + i) (k + 1) j = rDig n pr k j := by
  have h := rDig_pre (n := n) (t := i) (pr := pr) (k := k) (m := k + 1) hj (by omega) (by rw [show k + 1 - k = 1 by omega, Nat.pow_one]; omega)
  rw [show k + 1 - k = 1 by omega, Nat.pow_one] at h
  exact h
theorem rRw_suc {s : Nat → Int32} {n : Nat} {cls : Cls} {du fd : Int32} {pr k i : Nat} (hi : i ≤ n) : ∀ j, j ≤ k → rRw s n cls du fd (k + 1) (pr * (n + 1) + i) j = rRw s n cls du fd k pr j := by
  intro j hj
  have h := rRw_pre (s := s) (cls := cls) (du := du) (fd := fd) (n := n) (t := i) (pr := pr) (k := k) (m := k + 1) (by omega) (by rw [show k + 1 - k = 1 by omega, Nat.pow_one]; omega) j hj
  rw [show k + 1 - k = 1 by omega, Nat.pow_one] at h
  exact h
theorem rDig_last {n pr k i : Nat} (hi : i ≤ n) : rDig n (pr * (n + 1) + i) (k + 1) k = if i = n then none else some i := by
  unfold rDig
  rw [show k + 1 - 1 - k = 0 by omega, Nat.pow_zero, Nat.div_one, Nat.mul_add_mod_self_right, Nat.mod_eq_of_lt (by omega)]
theorem rDig_tc (n r m k : Nat) : tkV (rDig n r m k) n (tc (rDig n r m k)) := by
  cases h : rDig n r m k with
  | none => show (-1 : Int32) < 0; decide
  | some p => exact ⟨rDig_lt h, rfl⟩
/-- what the search for agendas works on -/
def AX (K : List (Nat × Nat)) (R : Nat → Nat → Option Nat) (a sa ta ba : Nat) (sv : Nat → Nat) : Prop := K[a]? = some (0, 9) ∧ K[sa]? = some (24, 5) ∧ K[ta]? = some (20, 4) ∧ K[ba]? = some (20, 4) ∧ ta ≠ ba ∧ R a 1 = some sa ∧ R a 2 = some ta ∧ R a 3 = some ba ∧ (∀ k, k < 5 → R sa k = some (sv k)) ∧ (∀ k, k < 5 → VK K R (sv k)) ∧ (∀ j k, j < k → k < 5 → sv j + 9 ≤ sv k)
def RFs (sv : Nat → Nat) (k : Nat) (R R' : Nat → Nat → Option Nat) : Prop := ∀ c j, (∀ i, k < i → i < 5 → ¬ (c = sv i + 1 ∧ j < 6) ∧ ¬ (c = sv i ∧ j = 14)) → R' c j = R c j
def PS4 (a ta ba : Nat) (sv : Nat → Nat) (k c : Nat) : Prop := c = a ∨ c = ta ∨ c = ba ∨ ∃ i, k < i ∧ i < 5 ∧ PW (sv i) c
theorem RFs.tr {sv : Nat → Nat} {k : Nat} {R R' R'' : Nat → Nat → Option Nat} (h : RFs sv k R R') (h' : RFs sv k R' R'') : RFs sv k R R'' := fun c j hc => (h' c j hc).trans (h c j hc)
theorem RFs.mo {sv : Nat → Nat} {k : Nat} {R R' : Nat → Nat → Option Nat} (h : RFs sv (k + 1) R R') : RFs sv k R R' := fun c j hc => h c j (fun i i1 i2 => hc i (by omega) i2)
theorem RFs.of {sv : Nat → Nat} {k : Nat} {R R' : Nat → Nat → Option Nat} (hk : k + 1 < 5) (h : RF (sv (k + 1)) R R') : RFs sv k R R' := fun c j hc => h c j (hc (k + 1) (by omega) hk).1 (hc (k + 1) (by omega) hk).2
section AGX
variable {K : List (Nat × Nat)} {R R' : Nat → Nat → Option Nat} {a sa ta ba k : Nat} {sv : Nat → Nat}
theorem AX.rf (h : AX K R a sa ta ba sv) (hR : RFs sv k R R') : AX K R' a sa ta ba sv := by
  obtain ⟨h1, h2, h3, h4, h5, h6, h7, h8, h9, h10, h11⟩ := h
  have na : ∀ i, i < 5 → a ≠ sv i + 1 ∧ a ≠ sv i := fun i hi => by
    have hv := h10 i hi
    exact ⟨(fun g => by rw [g, hv.2.1] at h1; cases h1), (fun g => by rw [g, hv.1] at h1; cases h1)⟩
  have ns : ∀ i, i < 5 → sa ≠ sv i + 1 ∧ sa ≠ sv i := fun i hi => by
    have hv := h10 i hi
    exact ⟨(fun g => by rw [g, hv.2.1] at h2; cases h2), (fun g => by rw [g, hv.1] at h2; cases h2)⟩
  have ra : ∀ j, R' a j = R a j := fun j => hR a j (fun i _ i2 => ⟨fun g => (na i i2).1 g.1, fun g => (na i i2).2 g.1⟩)
  refine ⟨h1, h2, h3, h4, h5, (ra 1).trans h6, (ra 2).trans h7, (ra 3).trans h8, fun i hi => ?_, fun i hi => ?_, h11⟩
  · rw [hR sa i (fun z _ z2 => ⟨fun g => (ns z z2).1 g.1, fun g => (ns z z2).2 g.1⟩)]
    exact h9 i hi
  · refine (h10 i hi).r (fun j hj => hR (sv i) j (fun z _ z2 => ⟨fun g => ?_, fun g => by omega⟩))
    rcases Nat.lt_trichotomy i z with c | c | c
    · have := h11 i z c z2; omega
    · subst c; omega
    · have := h11 z i c hi; omega
/-- a Veranda that stands before the ones that are written -/
theorem VA.sx {I I' : Nat → Nat → Int32} {v n : Nat} {s : Nat → Int32} {cls : Cls} {du fd : Int32} (hX : AX K R a sa ta ba sv) (h : VA K I R v s n cls du fd) (hv : ∀ i, k < i → i < 5 → v + 9 ≤ sv i) (hI : FR (PS4 a ta ba sv k) I I') (hR : RFs sv k R R') : VA K I' R' v s n cls du fd := by
  obtain ⟨h1, h2, h3, h4, h5, h6, h7, h8, h9, h10, h11⟩ := hX
  have hvk := h.1
  refine h.gen (fun c t z hk hz => hI c ?_) (fun c c1 c2 => hI c ?_) (fun j => hR v j (fun i i1 i2 => by have := hv i i1 i2; omega)) (fun j => hR (v + 1) j (fun i i1 i2 => by have := hv i i1 i2; omega)) (fun q hq j hj => hR q j (fun i i1 i2 => ⟨fun g => ?_, fun g => by omega⟩))
  · rintro (g | g | g | ⟨i, i1, i2, g⟩)
    · rw [g, h1] at hk; cases hk; omega
    · rw [g, h3] at hk; cases hk; omega
    · rw [g, h4] at hk; cases hk; omega
    · exact PW_no (h10 i i2) hk (by omega) g
  · rintro (g | g | g | ⟨i, i1, i2, g⟩)
    · obtain ⟨k0, k1, k2, k3, k4, k5, k6, k7, k8, -⟩ := hvk
      rcases (by omega : c = v ∨ c = v + 1 ∨ c = v + 2 ∨ c = v + 3 ∨ c = v + 4 ∨ c = v + 5 ∨ c = v + 6 ∨ c = v + 7 ∨ c = v + 8) with e | e | e | e | e | e | e | e | e <;> (rw [← g, e] at h1; simp_all)
    · obtain ⟨k0, k1, k2, k3, k4, k5, k6, k7, k8, -⟩ := hvk
      rcases (by omega : c = v ∨ c = v + 1 ∨ c = v + 2 ∨ c = v + 3 ∨ c = v + 4 ∨ c = v + 5 ∨ c = v + 6 ∨ c = v + 7 ∨ c = v + 8) with e | e | e | e | e | e | e | e | e <;> (rw [← g, e] at h3; simp_all)
    · obtain ⟨k0, k1, k2, k3, k4, k5, k6, k7, k8, -⟩ := hvk
      rcases (by omega : c = v ∨ c = v + 1 ∨ c = v + 2 ∨ c = v + 3 ∨ c = v + 4 ∨ c = v + 5 ∨ c = v + 6 ∨ c = v + 7 ∨ c = v + 8) with e | e | e | e | e | e | e | e | e <;> (rw [← g, e] at h4; simp_all)
    · have := hv i i1 i2
      unfold PW at g
      omega
  · rw [g.1, (h10 i i2).2.1] at hq; cases hq
/-- the best so far -/
def AGS (J : Nat → Nat → Int32) (a ba n m : Nat) (ag : Int32 × Int32 × Nat) (r : Nat) : Prop := J a 4 = ag.1 ∧ J a 5 = ag.2.1 ∧ (0 < r → ∀ j, j < m → J ba j = dv9 (rDig n ag.2.2 m j))
end AGX
section AGENDAC
variable {X : Nat × (Nat → Int32)} {d : Nat} {K : List (Nat × Nat)} {I : Nat → Nat → Int32} {R : Nat → Nat → Option Nat} {s u : Nat → Int32} {n p v w o a sa ta ba e h b m : Nat} {sv : Nat → Nat} {du fd : Int32} {cls : Cls}
theorem c_judge (hX : AX K R a sa ta ba sv) (hm : m ≤ 4) (hv : VK K R v) (hV : VM I v u n) (hn : n ≤ 6) (h01 : r01 u) {ag : Int32 × Int32 × Nat} {r : Nat} (hag : AGS I a ba n m ag r) (ht : ∀ j, j < m → I ta j = dv9 (rDig n r m j)) (h0 : r = 0 → ag.1 = -1) : ∃ I', Ev X (d + 1) kX0_judge 0 (ent kX0_judge [.ref a, .ref v, .int (nI m)]) [] (K, I, R) (none, (K, I', R)) ∧ AGS I' a ba n m (better ag (rC (rSO u n) 6) (u 1) r) (r + 1) ∧ FR (fun c => c = a ∨ c = ba) I I' := by
  obtain ⟨h1, h2, h3, h4, h5, h6, h7, h8, h9, h10, h11⟩ := hX
  obtain ⟨k0, k1, k2, k3, k4, k5, k6, k7, k8, r0, r1, r2, r3, r4, r5, r6, r7⟩ := hv
  obtain ⟨v8, v9, v10, v11, v12, vk, vv, va, vt, vh, vr⟩ := hV
  obtain ⟨g1, g2, g3⟩ := hag
  have hbc := j_bitCount (X := X) (d := d) (K, I, R) (mk_64 (sett u) hn)
  rw [← rSO_mk h01 n hn] at hbc v9
  obtain ⟨mny, hmny⟩ : ∃ mny, mny = rC (rSO u n) 6 := ⟨_, rfl⟩
  have hm0 : ∃ c, mny = nI c ∧ c < 7 := ⟨cnt (sett u) n, by rw [hmny, rSO_mk h01 n hn, rC_mk _ hn], by have := cnt_le (sett u) n; omega⟩
  rw [← hmny] at hbc ⊢
  obtain ⟨y1, hy1⟩ : ∃ y, y = ag.1 := ⟨_, rfl⟩
  obtain ⟨y2, hy2⟩ : ∃ y, y = ag.2.1 := ⟨_, rfl⟩
  rw [← hy1] at g1
  rw [← hy2] at g2
  have na : a ≠ v := fun g => by rw [g, k0] at h1; cases h1
  have nab : a ≠ ba := fun g => by rw [g, h4] at h1; cases h1
  -- the better one
  have up : ∃ I', (∀ x3 : Int32, x3 = mny → Ev X (d + 1) kX0_judge 35 [some (.ref a), some (.ref v), some (.int (nI m)), some (.int x3)] [] (K, I, R) (none, (K, I', R))) ∧ AGS I' a ba n m (mny, u 1, r) (r + 1) ∧ FR (fun c => c = a ∨ c = ba) I I' := by
    obtain ⟨J, hJ⟩ : ∃ J, J = upI (upI I a 4 mny) a 5 (u 1) := ⟨_, rfl⟩
    have jt : J ta = I ta := by rw [hJ, upI_ne (fun g => by rw [g, h1] at h3; cases h3), upI_ne (fun g => by rw [g, h1] at h3; cases h3)]
    refine ⟨cpI J ta ba 0 0 m, fun x3 hx3 => ?_, ⟨?_, ?_, fun _ j hj => ?_⟩, fun c hc => ?_⟩
    · subst hx3
      (repeat (first | refine Ev.p rfl rfl ?_ | refine Ev.gr (by rfl) (by rfl) (by assumption) (by rfl) (by assumption) ?_ | refine Ev.gi (by rfl) (by rfl) (by assumption) (by rfl) (by assumption) ?_))
      refine Ev.pi (by rfl) (by rfl) (by assumption) (by rfl) ?_
      iterate 2 refine Ev.p rfl rfl ?_
      refine Ev.gi (by rfl) (by rfl) (by assumption) (by rfl) (y := u 1) (by rw [upI_ne (Ne.symm na)]; exact v11) ?_
      refine Ev.pi (by rfl) (by rfl) (by assumption) (by rfl) ?_
      rw [← hJ]
      (repeat (first | refine Ev.p rfl rfl ?_ | refine Ev.gr (by rfl) (by rfl) (by assumption) (by rfl) (by assumption) ?_ | refine Ev.gi (by rfl) (by rfl) (by assumption) (by rfl) (by assumption) ?_))
      refine Ev.acp (sp := 0) (dp := 0) (n := m) (by rfl) h3 h4 (by rfl) (by rfl) (by rfl) (by rfl) (by rfl) (by omega) (by omega) (by omega) (fun _ _ => by rfl) ?_
      ((repeat refine Ev.p rfl rfl ?_); exact Ev.r rfl)
    · show cpI J ta ba 0 0 m a 4 = mny
      unfold cpI
      rw [if_neg (fun g => nab g.1), hJ, upI_eq, upd_ne (by omega), upI_eq, upd_at]
    · show cpI J ta ba 0 0 m a 5 = u 1
      unfold cpI
      rw [if_neg (fun g => nab g.1), hJ, upI_eq, upd_at]
    · show cpI J ta ba 0 0 m ba j = dv9 (rDig n r m j)
      unfold cpI
      rw [if_pos ⟨rfl, by omega, by omega⟩, show 0 + (j - 0) = j by omega, jt]
      exact ht j hj
    · funext j
      unfold cpI
      rw [if_neg (fun g => hc (Or.inr g.1)), hJ, upI_ne (fun g => hc (Or.inl g)), upI_ne (fun g => hc (Or.inl g))]
  obtain ⟨I', ev, up1, up2⟩ := up
  by_cases hgt : y1 < mny
  · refine ⟨I', ?_, by unfold better; rw [← hy1, if_pos hgt]; exact up1, up2⟩
    (repeat (first | refine Ev.p rfl rfl ?_ | refine Ev.gr (by rfl) (by rfl) (by assumption) (by rfl) (by assumption) ?_ | refine Ev.gi (by rfl) (by rfl) (by assumption) (by rfl) (by assumption) ?_))
    refine Ev.c rfl hbc ?_
    (repeat (first | refine Ev.p rfl rfl ?_ | refine Ev.gr (by rfl) (by rfl) (by assumption) (by rfl) (by assumption) ?_ | refine Ev.gi (by rfl) (by rfl) (by assumption) (by rfl) (by assumption) ?_))
    refine Ev.bp rfl (fun c => ?_) (fun c => ?_)
    · (repeat (first | (refine Ev.at (q := 35) rfl ?_; exact (ev _ rfl)) | refine Ev.p rfl rfl ?_))
    · exact absurd hgt c
  · have hr : 0 < r := by
      rcases Nat.eq_zero_or_pos r with h | h
      · exfalso
        obtain ⟨c, ec, hc⟩ := hm0
        refine hgt ?_
        rw [hy1, h0 h, ec]
        exact Int32.lt_iff_toInt_lt.mpr (by rw [nI_toInt (by omega)]; show (-1 : Int) < c; omega)
      · exact h
    by_cases heq : mny = y1 ∧ u 1 < y2
    · refine ⟨I', ?_, by unfold better; rw [← hy1, ← hy2, if_neg hgt, if_pos heq]; exact up1, up2⟩
      (repeat (first | refine Ev.p rfl rfl ?_ | refine Ev.gr (by rfl) (by rfl) (by assumption) (by rfl) (by assumption) ?_ | refine Ev.gi (by rfl) (by rfl) (by assumption) (by rfl) (by assumption) ?_))
      refine Ev.c rfl hbc ?_
      (repeat (first | refine Ev.p rfl rfl ?_ | refine Ev.gr (by rfl) (by rfl) (by assumption) (by rfl) (by assumption) ?_ | refine Ev.gi (by rfl) (by rfl) (by assumption) (by rfl) (by assumption) ?_))
      refine Ev.bp rfl (fun c => ?_) (fun c => ?_)
      · exact absurd c hgt
      · (repeat (first | refine Ev.p rfl rfl ?_ | refine Ev.gr (by rfl) (by rfl) (by assumption) (by rfl) (by assumption) ?_ | refine Ev.gi (by rfl) (by rfl) (by assumption) (by rfl) (by assumption) ?_))
        refine Ev.bp rfl (fun c2 => ?_) (fun c2 => ?_)
        · exact absurd heq.1 c2
        · (repeat (first | refine Ev.p rfl rfl ?_ | refine Ev.gr (by rfl) (by rfl) (by assumption) (by rfl) (by assumption) ?_ | refine Ev.gi (by rfl) (by rfl) (by assumption) (by rfl) (by assumption) ?_))
          refine Ev.bp rfl (fun c3 => ?_) (fun c3 => ?_)
          · exact absurd heq.2 (Int32.not_lt.mpr c3)
          · (repeat (first | (refine Ev.at (q := 35) rfl ?_; exact (ev _ rfl)) | refine Ev.p rfl rfl ?_))
    · refine ⟨I, ?_, ?_, FR.rf I⟩
      · (repeat (first | refine Ev.p rfl rfl ?_ | refine Ev.gr (by rfl) (by rfl) (by assumption) (by rfl) (by assumption) ?_ | refine Ev.gi (by rfl) (by rfl) (by assumption) (by rfl) (by assumption) ?_))
        refine Ev.c rfl hbc ?_
        (repeat (first | refine Ev.p rfl rfl ?_ | refine Ev.gr (by rfl) (by rfl) (by assumption) (by rfl) (by assumption) ?_ | refine Ev.gi (by rfl) (by rfl) (by assumption) (by rfl) (by assumption) ?_))
        refine Ev.bp rfl (fun c => ?_) (fun c => ?_)
        · exact absurd c hgt
        · (repeat (first | refine Ev.p rfl rfl ?_ | refine Ev.gr (by rfl) (by rfl) (by assumption) (by rfl) (by assumption) ?_ | refine Ev.gi (by rfl) (by rfl) (by assumption) (by rfl) (by assumption) ?_))
          refine Ev.bp rfl (fun c2 => ?_) (fun c2 => ?_)
          · ((repeat refine Ev.p rfl rfl ?_); exact Ev.r rfl)
          · (repeat (first | refine Ev.p rfl rfl ?_ | refine Ev.gr (by rfl) (by rfl) (by assumption) (by rfl) (by assumption) ?_ | refine Ev.gi (by rfl) (by rfl) (by assumption) (by rfl) (by assumption) ?_))
            refine Ev.bp rfl (fun c3 => ?_) (fun c3 => ?_)
            · ((repeat refine Ev.p rfl rfl ?_); exact Ev.r rfl)
            · exact absurd ⟨Decidable.not_not.mp c2, Int32.not_le.mp c3⟩ heq
      · unfold better
        rw [← hy1, ← hy2, if_neg hgt, if_neg heq]
        exact ⟨by rw [← hy1]; exact g1, by rw [← hy2]; exact g2, fun _ => g3 hr⟩
theorem c_tryRows (hm : m ≤ 4) (hn : n ≤ 6) {f : Nat} (hfd : fd = nI f) (hf : f ≤ 99) (he : e + 30 < 1000000) : ∀ (mm k pr : Nat) (J : Nat → Nat → Int32) (RJ : Nat → Nat → Option Nat), k + mm = m → AX K RJ a sa ta ba sv → VA K J RJ (sv k) (rRw s n cls du fd k pr k) n cls du fd → RI (rRw s n cls du fd k pr k) n (e + k) cls → (∀ j, j < k → J ta j = dv9 (rDig n pr k j)) → AGS J a ba n m (rAg s n cls du fd m (pr * (n + 1) ^ mm)) (pr * (n + 1) ^ mm) → ∃ I' R', Ev X (d + 6 + mm) kX0_tryRows 0 (ent kX0_tryRows [.ref a, .int (nI k), .int (nI m)]) [] (K, J, RJ) (none, (K, I', R')) ∧ AGS I' a ba n m (rAg s n cls du fd m ((pr + 1) * (n + 1) ^ mm)) ((pr + 1) * (n + 1) ^ mm) ∧ (∀ j, j < k → I' ta j = J ta j) ∧ FR (PS4 a ta ba sv k) J I' ∧ RFs sv k RJ R' := by
  intro mm
  induction mm with
  | zero =>
    intro k pr J RJ hk hX hA hRI ht hag
    have e0 : k = m := by omega
    subst e0
    rw [Nat.pow_zero, Nat.mul_one] at hag ⊢
    have hX2 := hX
    obtain ⟨h1, h2, h3, h4, h5, h6, h7, h8, h9, h10, h11⟩ := hX2
    obtain ⟨I', g1, g2, g3⟩ := c_judge (X := X) (d := d + 4) hX hm hA.1 hA.2.1 hn hRI.2.1.1 hag ht (fun h => by subst h; rfl)
    refine ⟨I', RJ, ?_, ?_, fun j hj => ?_, g3.mo (fun c hc => hc.elim Or.inl (fun h => Or.inr (Or.inr (Or.inl h)))), fun _ _ _ => rfl⟩
    · (repeat (first | refine Ev.p rfl rfl ?_ | refine Ev.gr (by rfl) (by rfl) (by assumption) (by rfl) (by assumption) ?_ | refine Ev.gi (by rfl) (by rfl) (by assumption) (by rfl) (by assumption) ?_))
      refine Ev.bp rfl (fun c => ?_) (fun c => ?_)
      · (repeat (first | refine Ev.p rfl rfl ?_ | refine Ev.gr (by rfl) (by rfl) (by assumption) (by rfl) (by assumption) ?_ | refine Ev.gi (by rfl) (by rfl) (by assumption) (by rfl) (by assumption) ?_))
        (refine Ev.aald (j := k) (by rfl) (by assumption) (Or.inr rfl) (by rfl) (by omega) (by omega) ?_; rw [show xv (RJ sa k) = .ref (sv k) from by rw [h9 k (by omega)]; rfl])
        (repeat (first | refine Ev.p rfl rfl ?_ | refine Ev.gr (by rfl) (by rfl) (by assumption) (by rfl) (by assumption) ?_ | refine Ev.gi (by rfl) (by rfl) (by assumption) (by rfl) (by assumption) ?_))
        refine Ev.cv (by rfl) (by rfl) (by assumption) (by rfl) (by rfl) (by rfl) (by rfl) (by rfl) (g1.dp (d' := d + 5) (by omega)) ?_
        ((repeat refine Ev.p rfl rfl ?_); exact Ev.r rfl)
      · exact absurd (Int32.le_refl _) c
    · exact g2
    · rw [g3 ta (fun g => g.elim (fun g => by rw [g, h1] at h3; cases h3) (fun g => h5 g))]
  | succ mm ih =>
    intro k pr J RJ hk hX hA hRI ht hag
    obtain ⟨h1, h2, h3, h4, h5, h6, h7, h8, h9, h10, h11⟩ := hX
    have hX : AX K RJ a sa ta ba sv := ⟨h1, h2, h3, h4, h5, h6, h7, h8, h9, h10, h11⟩
    have hta : a ≠ ta := fun g => by rw [g, h3] at h1; cases h1
    have hvk := fun i (hi : k < i) (hi5 : i < 5) => h11 k i hi hi5
    have pw : ∀ i : Nat, (pr * (n + 1) + i) * (n + 1) ^ mm = pr * (n + 1) ^ (mm + 1) + i * (n + 1) ^ mm := fun i => by
      rw [Nat.add_mul, Nat.pow_succ, Nat.mul_assoc, Nat.mul_comm (n + 1) ((n + 1) ^ mm)]
    have lp : ∀ zz i (Ji : Nat → Nat → Int32) (Ri : Nat → Nat → Option Nat), i + zz = n + 1 → FR (PS4 a ta ba sv k) J Ji → RFs sv k RJ Ri → (∀ j, j < k → Ji ta j = J ta j) → AGS Ji a ba n m (rAg s n cls du fd m ((pr * (n + 1) + i) * (n + 1) ^ mm)) ((pr * (n + 1) + i) * (n + 1) ^ mm) → ∃ I' R', (∀ y : Option Value, Ev X (d + 6 + (mm + 1)) kX0_tryRows 32 [some (.ref a), some (.int (nI k)), some (.int (nI m)), some (.ref (sv k)), some (.int (nI i)), y] [] (K, Ji, Ri) (none, (K, I', R'))) ∧ AGS I' a ba n m (rAg s n cls du fd m ((pr * (n + 1) + (n + 1)) * (n + 1) ^ mm)) ((pr * (n + 1) + (n + 1)) * (n + 1) ^ mm) ∧ (∀ j, j < k → I' ta j = J ta j) ∧ FR (PS4 a ta ba sv k) J I' ∧ RFs sv k RJ R' := by
      intro zz
      induction zz with
      | zero =>
        intro i Ji Ri hi fJ fR hti hagi
        have e0 : i = n + 1 := by omega
        subst e0
        refine ⟨Ji, Ri, fun y => ?_, hagi, hti, fJ, fR⟩
        have hAi := hA.sx hX hvk fJ fR
        have v8 := hAi.2.1.1
        obtain ⟨k0, -⟩ := hAi.1
        (repeat (first | refine Ev.p rfl rfl ?_ | refine Ev.gr (by rfl) (by rfl) (by assumption) (by rfl) (by assumption) ?_ | refine Ev.gi (by rfl) (by rfl) (by assumption) (by rfl) (by assumption) ?_))
        refine Ev.bp rfl (fun c => ?_) (fun c => ?_)
        · ((repeat refine Ev.p rfl rfl ?_); exact Ev.r rfl)
        · exact absurd (nI_lt (by omega) (by omega)) c
      | succ zz ihz =>
        intro i Ji Ri hi fJ fR hti hagi
        have hin : i ≤ n := by omega
        have hXi := hX.rf fR
        have hAi := hA.sx hX hvk fJ fR
        obtain ⟨tk, htk⟩ : ∃ tk, tk = rDig n (pr * (n + 1) + i) (k + 1) k := ⟨_, rfl⟩
        have htk2 : tk = if i = n then none else some i := by rw [htk, rDig_last hin]
        obtain ⟨J1, hJ1⟩ : ∃ J1, J1 = upI Ji ta k (dv9 tk) := ⟨_, rfl⟩
        have f1 : FR (PS4 a ta ba sv k) J J1 := by rw [hJ1]; exact fJ.tr (FR.up (Or.inr (Or.inl rfl)))
        have hA1 := hA.sx hX hvk f1 fR
        have hVk1 := hXi.2.2.2.2.2.2.2.2.2.1 (k + 1) (by omega)
        obtain ⟨J2, R2, a1, a2, a3, a4⟩ := c_copyA (X := X) (d := d + 6 + mm) hVk1 hA1 hn (Or.inl (h11 k (k + 1) (by omega) (by omega)))
        have hx : tkV tk n (tc tk) := by rw [htk]; exact rDig_tc n _ _ _
        obtain ⟨J3, b1, b2, b3, -, -⟩ := c_goA (X := X) (d := d) a2 hRI (by omega) hx
        have f3 : FR (PS4 a ta ba sv k) J J3 := f1.tr ((a3.tr (b3.mo PGo.w)).mo (fun c hc => Or.inr (Or.inr (Or.inr ⟨k + 1, by omega, by omega, hc⟩))))
        have fR2 : RFs sv k RJ R2 := fR.tr (RFs.of (by omega) a4)
        have eS : rRw s n cls du fd (k + 1) (pr * (n + 1) + i) (k + 1) = rGo (rRw s n cls du fd k pr k) n cls du fd tk := by
          show rGo (rRw s n cls du fd (k + 1) _ k) n cls du fd (rDig n _ (k + 1) k) = _
          rw [rRw_suc hin k (Nat.le_refl _), ← htk]
        have p3 : ∀ c t z, K[c]? = some (t, z) → (z = 4 ∨ z = 9) → J3 c = J1 c := fun c t z hc hz => by
          rw [b3 c (fun g => PW_no hVk1 hc (by omega) (PGo.w c g)), a3 c (PW_no hVk1 hc (by omega))]
        have ag3 : AGS J3 a ba n m (rAg s n cls du fd m ((pr * (n + 1) + i) * (n + 1) ^ mm)) ((pr * (n + 1) + i) * (n + 1) ^ mm) := by
          unfold AGS
          rw [p3 a _ _ h1 (Or.inr rfl), p3 ba _ _ h4 (Or.inl rfl), hJ1, upI_ne hta, upI_ne (Ne.symm h5)]
          exact hagi
        have t3 : ∀ j, j < k + 1 → J3 ta j = dv9 (rDig n (pr * (n + 1) + i) (k + 1) j) := fun j hj => by
          rw [p3 ta _ _ h3 (Or.inl rfl), hJ1, upI_eq]
          by_cases hjk : j = k
          · subst hjk; rw [upd_at, htk]
          · rw [upd_ne hjk, hti j (by omega), ht j (by omega), rDig_suc hin (by omega)]
        obtain ⟨J4, R4, c1, c2, c3, c4, c5⟩ := ih (k + 1) (pr * (n + 1) + i) J3 R2 (by omega) (hX.rf fR2) (by rw [eS]; exact b2) (by rw [eS]; exact RI_go hRI hx hfd hf) t3 ag3
        have f4 : FR (PS4 a ta ba sv k) J J4 := f3.tr (c4.mo (fun c hc => by
          rcases hc with h | h | h | ⟨z, z1, z2, h⟩
          · exact Or.inl h
          · exact Or.inr (Or.inl h)
          · exact Or.inr (Or.inr (Or.inl h))
          · exact Or.inr (Or.inr (Or.inr ⟨z, by omega, z2, h⟩))))
        obtain ⟨I', R', g1, g2⟩ := ihz (i + 1) J4 R4 (by omega) f4 (fR2.tr c5.mo) (fun j hj => by rw [c3 j (by omega), t3 j (by omega), rDig_suc hin hj, ht j hj]) c2
        refine ⟨I', R', fun y => ?_, g2⟩
        rw [nI_succ] at g1
        have v8 := hAi.2.1.1
        obtain ⟨k0, -⟩ := hAi.1
        obtain ⟨w0, -⟩ := hVk1
        obtain ⟨-, -, -, -, -, i6, i7, i8, i9, -, -⟩ := hXi
        have hRs : AX K R2 a sa ta ba sv := hX.rf fR2
        obtain ⟨-, -, -, -, -, j6, j7, j8, j9, -, -⟩ := hRs
        have e2 : nI k + 1 = nI (k + 1) := nI_1 k
        have tail : ∀ (iL5 : Int32) (x : Int32), (iL5 = 0 ∧ x = nI i ∨ iL5 = 1 ∧ x = -1) → tc tk = x → dv9 tk = (if iL5 = 0 then nI i else 9) → Ev X (d + 6 + (mm + 1)) kX0_tryRows 74 [some (.ref a), some (.int (nI k)), some (.int (nI m)), some (.ref (sv k)), some (.int (nI i)), some (.int iL5)] [.int (dv9 tk), .int (nI k), .ref ta] (K, Ji, Ri) (none, (K, I', R')) := by
          intro iL5 x h5' hxx hdv
          rw [hxx] at b1
          refine Ev.iast (j := k) (by rfl) (by assumption) (by rfl) (by omega) (by omega) ?_
          rw [← hJ1]
          (repeat (first | refine Ev.p rfl rfl ?_ | refine Ev.gr (by rfl) (by rfl) (by assumption) (by rfl) (by assumption) ?_ | refine Ev.gi (by rfl) (by rfl) (by assumption) (by rfl) (by assumption) ?_))
          (refine Ev.aald (j := k + 1) (by rfl) (by assumption) (Or.inr rfl) e2 (by omega) (by omega) ?_; rw [show xv (Ri sa (k + 1)) = .ref (sv (k + 1)) from by rw [i9 (k + 1) (by omega)]; rfl])
          (repeat (first | refine Ev.p rfl rfl ?_ | refine Ev.gr (by rfl) (by rfl) (by assumption) (by rfl) (by assumption) ?_ | refine Ev.gi (by rfl) (by rfl) (by assumption) (by rfl) (by assumption) ?_))
          refine Ev.cv (by rfl) (by rfl) (by assumption) (by rfl) (by rfl) (by rfl) (by rfl) (by rfl) a1 ?_
          (repeat (first | refine Ev.p rfl rfl ?_ | refine Ev.gr (by rfl) (by rfl) (by assumption) (by rfl) (by assumption) ?_ | refine Ev.gi (by rfl) (by rfl) (by assumption) (by rfl) (by assumption) ?_))
          (refine Ev.aald (j := k + 1) (by rfl) (by assumption) (Or.inr rfl) e2 (by omega) (by omega) ?_; rw [show xv (R2 sa (k + 1)) = .ref (sv (k + 1)) from by rw [j9 (k + 1) (by omega)]; rfl])
          have b1d := b1.dp (d' := d + 6 + mm) (by omega)
          have c1d := c1
          rw [nI_succ k] at c1d
          rcases h5' with ⟨rfl, rfl⟩ | ⟨rfl, rfl⟩
          · (repeat (first | refine Ev.p rfl rfl ?_ | refine Ev.gr (by rfl) (by rfl) (by assumption) (by rfl) (by assumption) ?_ | refine Ev.gi (by rfl) (by rfl) (by assumption) (by rfl) (by assumption) ?_))
            refine Ev.cv (by rfl) (by rfl) (by assumption) (by rfl) (by rfl) (by rfl) (by rfl) (by rfl) b1d ?_
            (repeat (first | refine Ev.p rfl rfl ?_ | refine Ev.gr (by rfl) (by rfl) (by assumption) (by rfl) (by assumption) ?_ | refine Ev.gi (by rfl) (by rfl) (by assumption) (by rfl) (by assumption) ?_))
            refine Ev.cv (by rfl) (by rfl) (by assumption) (by rfl) (by rfl) (by rfl) (by rfl) (by rfl) c1d ?_
            (repeat (first | (refine Ev.at (q := 32) rfl ?_; exact (g1 _)) | refine Ev.p rfl rfl ?_))
          · (repeat (first | refine Ev.p rfl rfl ?_ | refine Ev.gr (by rfl) (by rfl) (by assumption) (by rfl) (by assumption) ?_ | refine Ev.gi (by rfl) (by rfl) (by assumption) (by rfl) (by assumption) ?_))
            refine Ev.cv (by rfl) (by rfl) (by assumption) (by rfl) (by rfl) (by rfl) (by rfl) (by rfl) b1d ?_
            (repeat (first | refine Ev.p rfl rfl ?_ | refine Ev.gr (by rfl) (by rfl) (by assumption) (by rfl) (by assumption) ?_ | refine Ev.gi (by rfl) (by rfl) (by assumption) (by rfl) (by assumption) ?_))
            refine Ev.cv (by rfl) (by rfl) (by assumption) (by rfl) (by rfl) (by rfl) (by rfl) (by rfl) c1d ?_
            (repeat (first | (refine Ev.at (q := 32) rfl ?_; exact (g1 _)) | refine Ev.p rfl rfl ?_))
        by_cases hieq : i = n
        · rw [if_pos hieq] at htk2
          have tl := tail 1 (-1) (Or.inr ⟨rfl, rfl⟩) (by rw [htk2]; rfl) (by rw [htk2]; rfl)
          rw [htk2] at tl
          (repeat (first | refine Ev.p rfl rfl ?_ | refine Ev.gr (by rfl) (by rfl) (by assumption) (by rfl) (by assumption) ?_ | refine Ev.gi (by rfl) (by rfl) (by assumption) (by rfl) (by assumption) ?_))
          refine Ev.bp rfl (fun c => ?_) (fun c => ?_)
          · exact absurd c (nI_nlt (by omega) (by omega))
          · (repeat (first | refine Ev.p rfl rfl ?_ | refine Ev.gr (by rfl) (by rfl) (by assumption) (by rfl) (by assumption) ?_ | refine Ev.gi (by rfl) (by rfl) (by assumption) (by rfl) (by assumption) ?_))
            refine Ev.bp rfl (fun c2 => ?_) (fun c2 => ?_)
            · exact absurd (by rw [hieq]) c2
            · (repeat (first | refine Ev.p rfl rfl ?_ | refine Ev.gr (by rfl) (by rfl) (by assumption) (by rfl) (by assumption) ?_ | refine Ev.gi (by rfl) (by rfl) (by assumption) (by rfl) (by assumption) ?_))
              (repeat (first | (refine Ev.at (q := 74) rfl ?_; exact tl) | refine Ev.p rfl rfl ?_))
        · rw [if_neg hieq] at htk2
          have tl := tail 0 (nI i) (Or.inl ⟨rfl, rfl⟩) (by rw [htk2]; rfl) (by rw [htk2]; rfl)
          rw [htk2] at tl
          (repeat (first | refine Ev.p rfl rfl ?_ | refine Ev.gr (by rfl) (by rfl) (by assumption) (by rfl) (by assumption) ?_ | refine Ev.gi (by rfl) (by rfl) (by assumption) (by rfl) (by assumption) ?_))
          refine Ev.bp rfl (fun c => ?_) (fun c => ?_)
          · exact absurd c (nI_nlt (by omega) (by omega))
          · (repeat (first | refine Ev.p rfl rfl ?_ | refine Ev.gr (by rfl) (by rfl) (by assumption) (by rfl) (by assumption) ?_ | refine Ev.gi (by rfl) (by rfl) (by assumption) (by rfl) (by assumption) ?_))
            refine Ev.bp rfl (fun c2 => ?_) (fun c2 => ?_)
            · (repeat (first | refine Ev.p rfl rfl ?_ | refine Ev.gr (by rfl) (by rfl) (by assumption) (by rfl) (by assumption) ?_ | refine Ev.gi (by rfl) (by rfl) (by assumption) (by rfl) (by assumption) ?_))
              (repeat (first | (refine Ev.at (q := 74) rfl ?_; exact tl) | refine Ev.p rfl rfl ?_))
            · exact absurd ((nI_eq (by omega) (by omega)).mp (Decidable.not_not.mp c2)) hieq
    obtain ⟨I', R', g1, g2, g3, g4, g5⟩ := lp (n + 1) 0 J RJ (by omega) (FR.rf J) (fun _ _ _ => rfl) (fun _ _ => rfl) (by rw [pw 0, Nat.zero_mul, Nat.add_zero]; exact hag)
    have e9 : (pr * (n + 1) + (n + 1)) * (n + 1) ^ mm = (pr + 1) * (n + 1) ^ (mm + 1) := by rw [pw, Nat.pow_succ, Nat.add_mul pr 1, Nat.one_mul, Nat.mul_comm ((n + 1) ^ mm) (n + 1)]
    rw [e9] at g2
    refine ⟨I', R', ?_, g2, g3, g4, g5⟩
    (repeat (first | refine Ev.p rfl rfl ?_ | refine Ev.gr (by rfl) (by rfl) (by assumption) (by rfl) (by assumption) ?_ | refine Ev.gi (by rfl) (by rfl) (by assumption) (by rfl) (by assumption) ?_))
    refine Ev.bp rfl (fun c => ?_) (fun c => ?_)
    · exact absurd c (nI_ge (by omega) (by omega))
    · (repeat (first | refine Ev.p rfl rfl ?_ | refine Ev.gr (by rfl) (by rfl) (by assumption) (by rfl) (by assumption) ?_ | refine Ev.gi (by rfl) (by rfl) (by assumption) (by rfl) (by assumption) ?_))
      refine Ev.bp rfl (fun c => ?_) (fun c => absurd (nI_lt (b := 4) (by omega) (by omega)) c)
      (repeat (first | refine Ev.p rfl rfl ?_ | refine Ev.gr (by rfl) (by rfl) (by assumption) (by rfl) (by assumption) ?_ | refine Ev.gi (by rfl) (by rfl) (by assumption) (by rfl) (by assumption) ?_))
      (refine Ev.aald (j := k) (by rfl) (by assumption) (Or.inr rfl) (by rfl) (by omega) (by omega) ?_; rw [show xv (RJ sa k) = .ref (sv k) from by rw [h9 k (by omega)]; rfl])
      (repeat (first | (refine Ev.at (q := 32) rfl ?_; exact (g1 _)) | refine Ev.p rfl rfl ?_))
theorem c_findAgenda (hX : AX K R a sa ta ba sv) (hA : VA K I R o s n cls du fd) (hov : ∀ i, i < 5 → o + 9 ≤ sv i) (hRI : RI s n e cls) (hm : m ≤ 4) (he : e + 30 < 1000000) {f : Nat} (hfd : fd = nI f) (hf : f ≤ 99) : ∃ I' R', Ev X (d + 11) kX0_findAgenda 0 (ent kX0_findAgenda [.ref a, .ref o, .int (nI m)]) [] (K, I, R) (none, (K, I', R')) ∧ AGS I' a ba n m (rAg s n cls du fd m ((n + 1) ^ m)) ((n + 1) ^ m) ∧ FR (fun c => c = a ∨ c = ta ∨ c = ba ∨ ∃ i, i < 5 ∧ PW (sv i) c) I I' ∧ (∀ c j, (∀ i, i < 5 → ¬ (c = sv i + 1 ∧ j < 6) ∧ ¬ (c = sv i ∧ j = 14)) → R' c j = R c j) := by
  have hn := hRI.1
  have hX2 := hX
  obtain ⟨h1, h2, h3, h4, h5, h6, h7, h8, h9, h10, h11⟩ := hX2
  have hV0 := h10 0 (by omega)
  obtain ⟨I1, R1, a1, a2, a3, a4⟩ := c_copyA (X := X) (d := d + 10) hV0 hA hn (Or.inl (hov 0 (by omega)))
  have na : ∀ c t z, K[c]? = some (t, z) → (z = 9 ∨ z = 4 ∨ z = 5) → ¬ PW (sv 0) c := fun c t z hc hz => PW_no hV0 hc (by omega)
  have na1 : ∀ c t z, K[c]? = some (t, z) → (t = 0 ∨ t = 24) → c ≠ sv 0 + 1 ∧ c ≠ sv 0 := fun c t z hc hz => ⟨(fun g => by rw [g, hV0.2.1] at hc; cases hc; omega), (fun g => by rw [g, hV0.1] at hc; cases hc; omega)⟩
  have hX1 : AX K R1 a sa ta ba sv := by
    have ra : ∀ j, R1 a j = R a j := fun j => a4 a j (fun g => (na1 a _ _ h1 (Or.inl rfl)).1 g.1) (fun g => (na1 a _ _ h1 (Or.inl rfl)).2 g.1)
    refine ⟨h1, h2, h3, h4, h5, (ra 1).trans h6, (ra 2).trans h7, (ra 3).trans h8, fun i hi => ?_, fun i hi => ?_, h11⟩
    · rw [a4 sa i (fun g => (na1 sa _ _ h2 (Or.inr rfl)).1 g.1) (fun g => (na1 sa _ _ h2 (Or.inr rfl)).2 g.1)]
      exact h9 i hi
    · refine (h10 i hi).r (fun j hj => a4 (sv i) j (fun g => ?_) (fun g => by omega))
      rcases Nat.eq_zero_or_pos i with c | c
      · subst c; omega
      · have := h11 0 i c hi; omega
  obtain ⟨J, hJ⟩ : ∃ J, J = upI (upI I1 a 4 (-1)) a 5 0 := ⟨_, rfl⟩
  have fJ : FR (PS4 a ta ba sv 0) I1 J := by rw [hJ]; exact (FR.up (Or.inl rfl)).tr (FR.up (Or.inl rfl))
  have hAJ := a2.sx hX1 (k := 0) (fun i i1 i2 => h11 0 i i1 i2) fJ (fun _ _ _ => rfl)
  have hp2 := pw_le (k := m) hn hm
  obtain ⟨I', R', g1, g2, g3, g4, g5⟩ := c_tryRows (X := X) (d := d) (sa := sa) (ta := ta) (ba := ba) (a := a) (sv := sv) (s := s) (cls := cls) (du := du) (e := e) hm hn hfd hf he m 0 0 J R1 (by omega) hX1 hAJ hRI (fun j hj => by omega) (by
    rw [Nat.zero_mul]
    exact ⟨by rw [hJ, upI_eq, upd_ne (by omega), upI_eq, upd_at]; rfl, by rw [hJ, upI_eq, upd_at]; rfl, fun h => by omega⟩)
  rw [Nat.zero_add, Nat.one_mul] at g2
  have g1 := g1.dp (d' := d + 10) (by omega)
  have hmn := j_min (X := X) (d := d + 10) (K, J, R1) (nI m) 4
  rw [if_pos (show nI m ≤ (4 : Int32) from nI_le (b := 4) hm (by omega))] at hmn
  refine ⟨I', R', ?_, g2, ?_, ?_⟩
  · obtain ⟨-, -, -, -, -, i6, i7, i8, i9, -, -⟩ := hX1
    obtain ⟨w0, -⟩ := hV0
    (repeat (first | refine Ev.p rfl rfl ?_ | refine Ev.gr (by rfl) (by rfl) (by assumption) (by rfl) (by assumption) ?_ | refine Ev.gi (by rfl) (by rfl) (by assumption) (by rfl) (by assumption) ?_))
    (refine Ev.aald (j := 0) (by rfl) (by assumption) (Or.inr rfl) (by rfl) (by omega) (by omega) ?_; rw [show xv (R sa 0) = .ref (sv 0) from by rw [h9 0 (by omega)]; rfl])
    (repeat (first | refine Ev.p rfl rfl ?_ | refine Ev.gr (by rfl) (by rfl) (by assumption) (by rfl) (by assumption) ?_ | refine Ev.gi (by rfl) (by rfl) (by assumption) (by rfl) (by assumption) ?_))
    refine Ev.cv (by rfl) (by rfl) (by assumption) (by rfl) (by rfl) (by rfl) (by rfl) (by rfl) a1 ?_
    (repeat (first | refine Ev.p rfl rfl ?_ | refine Ev.gr (by rfl) (by rfl) (by assumption) (by rfl) (by assumption) ?_ | refine Ev.gi (by rfl) (by rfl) (by assumption) (by rfl) (by assumption) ?_))
    refine Ev.pi (by rfl) (by rfl) (by assumption) (by rfl) ?_
    (repeat (first | refine Ev.p rfl rfl ?_ | refine Ev.gr (by rfl) (by rfl) (by assumption) (by rfl) (by assumption) ?_ | refine Ev.gi (by rfl) (by rfl) (by assumption) (by rfl) (by assumption) ?_))
    refine Ev.pi (by rfl) (by rfl) (by assumption) (by rfl) ?_
    rw [← hJ]
    (repeat (first | refine Ev.p rfl rfl ?_ | refine Ev.gr (by rfl) (by rfl) (by assumption) (by rfl) (by assumption) ?_ | refine Ev.gi (by rfl) (by rfl) (by assumption) (by rfl) (by assumption) ?_))
    refine Ev.c rfl hmn ?_
    (repeat (first | refine Ev.p rfl rfl ?_ | refine Ev.gr (by rfl) (by rfl) (by assumption) (by rfl) (by assumption) ?_ | refine Ev.gi (by rfl) (by rfl) (by assumption) (by rfl) (by assumption) ?_))
    refine Ev.cv (by rfl) (by rfl) (by assumption) (by rfl) (by rfl) (by rfl) (by rfl) (by rfl) g1 ?_
    ((repeat refine Ev.p rfl rfl ?_); exact Ev.r rfl)
  · refine (a3.mo (fun c hc => Or.inr (Or.inr (Or.inr ⟨0, by omega, hc⟩)))).tr ((fJ.tr g4).mo (fun c hc => ?_))
    rcases hc with h | h | h | ⟨z, z1, z2, h⟩
    · exact Or.inl h
    · exact Or.inr (Or.inl h)
    · exact Or.inr (Or.inr (Or.inl h))
    · exact Or.inr (Or.inr (Or.inr ⟨z, z2, h⟩))
  · intro c j hc
    rw [g5 c j (fun i i1 i2 => hc i i2), a4 c j (hc 0 (by omega)).1 (hc 0 (by omega)).2]
end AGENDAC
