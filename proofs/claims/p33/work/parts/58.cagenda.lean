/-! THE CLASS: agendas -/
theorem dig_div {n t pr k m j : Nat} (hj : j < k) (hk : k ≤ m) (ht : t < (n + 1) ^ (m - k)) : (pr * (n + 1) ^ (m - k) + t) / (n + 1) ^ (m - 1 - j) = pr / (n + 1) ^ (k - 1 - j) := by
  have hp : 0 < (n + 1) ^ (m - k) := Nat.pow_pos (by omega)
  rw [show m - 1 - j = (m - k) + (k - 1 - j) by omega, Nat.pow_add, ← Nat.div_div_eq_div_mul, Nat.mul_comm pr, Nat.mul_add_div hp, Nat.div_eq_of_lt ht, Nat.add_zero]
theorem rDig_pre {n t pr k m j : Nat} (hj : j < k) (hk : k ≤ m) (ht : t < (n + 1) ^ (m - k)) : rDig n (pr * (n + 1) ^ (m - k) + t) m j = rDig n pr k j := by
  unfold rDig
  rw [dig_div hj hk ht]
theorem rRw_pre {s : Nat → Int32} {n : Nat} {cls : Cls} {du fd : Int32} {t pr k m : Nat} (hk : k ≤ m) (ht : t < (n + 1) ^ (m - k)) : ∀ j, j ≤ k → rRw s n cls du fd m (pr * (n + 1) ^ (m - k) + t) j = rRw s n cls du fd k pr j := by
  intro j
  induction j with
  | zero => intro _; rfl
  | succ j ih =>
    intro hj
    show rGo (rRw s n cls du fd m _ j) n cls du fd (rDig n _ m j) = rGo (rRw s n cls du fd k pr j) n cls du fd (rDig n pr k j)
    rw [ih (by omega), rDig_pre (by omega) hk ht]
/-- one place more -/
theorem rDig_suc {n pr k j i : Nat} (hi : i ≤ n) (hj : j < k) : rDig n (pr * (n + 1) + i) (k + 1) j = rDig n pr k j := by
  have h := rDig_pre (n := n) (t := i) (pr := pr) (k := k) (m := k + 1) hj (by omega) (by rw [show k + 1 - k = 1 by omega, Nat.pow_one]; omega)
  rw [show k + 1 - k = 1 by omega, Nat.pow_one] at h
  exact h
theorem rRw_suc {s : Nat → Int32} {n : Nat} {cls : Cls} {du fd : Int32} {pr k i : Nat} (hi : i ≤ n) : ∀ j, j ≤ k → rRw s n cls du fd (k + 1) (pr * (n + 1) + i) j = rRw s n cls du fd k pr j := by
  intro j hj
  have h := rRw_pre (s := s) (cls := cls) (du := du) (fd := fd) (n := n) (t := i) (pr := pr) (k := k) (m := k + 1) (by omega) (by rw [show k + 1 - k = 1 by omega, Nat.pow_one]; omega) j hj
  rw [show k + 1 - k = 1 by omega, Nat.pow_one] at h
  exact h
theorem rDig_last {n pr k i : Nat} (hi : i ≤ n) : rDig n (pr * (n + 1) + i) (k + 1) k = if i = n then none else some i := by
  unfold rDig
  rw [show k + 1 - 1 - k = 0 by omega, Nat.pow_zero, Nat.div_one, Nat.mul_add_mod_self_right, Nat.mod_eq_of_lt (by omega)]
theorem rDig_tc (n r m k : Nat) : tkV (rDig n r m k) n (tc (rDig n r m k)) := by
  cases h : rDig n r m k with
  | none => show (-1 : Int32) < 0; decide
  | some p => exact ⟨rDig_lt h, rfl⟩
/-- what the search for agendas works on -/
def AX (K : List (Nat × Nat)) (R : Nat → Nat → Option Nat) (a sa ta ba : Nat) (sv : Nat → Nat) : Prop := K[a]? = some (0, 9) ∧ K[sa]? = some (24, 5) ∧ K[ta]? = some (20, 4) ∧ K[ba]? = some (20, 4) ∧ ta ≠ ba ∧ R a 1 = some sa ∧ R a 2 = some ta ∧ R a 3 = some ba ∧ (∀ k, k < 5 → R sa k = some (sv k)) ∧ (∀ k, k < 5 → VK K R (sv k)) ∧ (∀ j k, j < k → k < 5 → sv j + 9 ≤ sv k)
def RFs (sv : Nat → Nat) (k : Nat) (R R' : Nat → Nat → Option Nat) : Prop := ∀ c j, (∀ i, k < i → i < 5 → ¬ (c = sv i + 1 ∧ j < 6) ∧ ¬ (c = sv i ∧ j = 14)) → R' c j = R c j
def PS4 (a ta ba : Nat) (sv : Nat → Nat) (k c : Nat) : Prop := c = a ∨ c = ta ∨ c = ba ∨ ∃ i, k < i ∧ i < 5 ∧ PW (sv i) c
theorem RFs.tr {sv : Nat → Nat} {k : Nat} {R R' R'' : Nat → Nat → Option Nat} (h : RFs sv k R R') (h' : RFs sv k R' R'') : RFs sv k R R'' := fun c j hc => (h' c j hc).trans (h c j hc)
theorem RFs.mo {sv : Nat → Nat} {k : Nat} {R R' : Nat → Nat → Option Nat} (h : RFs sv (k + 1) R R') : RFs sv k R R' := fun c j hc => h c j (fun i i1 i2 => hc i (by omega) i2)
theorem RFs.of {sv : Nat → Nat} {k : Nat} {R R' : Nat → Nat → Option Nat} (hk : k + 1 < 5) (h : RF (sv (k + 1)) R R') : RFs sv k R R' := fun c j hc => h c j (hc (k + 1) (by omega) hk).1 (hc (k + 1) (by omega) hk).2
section AGX
variable {K : List (Nat × Nat)} {R R' : Nat → Nat → Option Nat} {a sa ta ba k : Nat} {sv : Nat → Nat}
theorem AX.rf (h : AX K R a sa ta ba sv) (hR : RFs sv k R R') : AX K R' a sa ta ba sv := by
  obtain ⟨h1, h2, h3, h4, h5, h6, h7, h8, h9, h10, h11⟩ := h
  have na : ∀ i, i < 5 → a ≠ sv i + 1 ∧ a ≠ sv i := fun i hi => by
    have hv := h10 i hi
    exact ⟨(fun g => by rw [g, hv.2.1] at h1; cases h1), (fun g => by rw [g, hv.1] at h1; cases h1)⟩
  have ns : ∀ i, i < 5 → sa ≠ sv i + 1 ∧ sa ≠ sv i := fun i hi => by
    have hv := h10 i hi
    exact ⟨(fun g => by rw [g, hv.2.1] at h2; cases h2), (fun g => by rw [g, hv.1] at h2; cases h2)⟩
  have ra : ∀ j, R' a j = R a j := fun j => hR a j (fun i _ i2 => ⟨fun g => (na i i2).1 g.1, fun g => (na i i2).2 g.1⟩)
  refine ⟨h1, h2, h3, h4, h5, (ra 1).trans h6, (ra 2).trans h7, (ra 3).trans h8, fun i hi => ?_, fun i hi => ?_, h11⟩
  · rw [hR sa i (fun z _ z2 => ⟨fun g => (ns z z2).1 g.1, fun g => (ns z z2).2 g.1⟩)]
    exact h9 i hi
  · refine (h10 i hi).r (fun j hj => hR (sv i) j (fun z _ z2 => ⟨fun g => ?_, fun g => by omega⟩))
    rcases Nat.lt_trichotomy i z with c | c | c
    · have := h11 i z c z2; omega
    · subst c; omega
    · have := h11 z i c hi; omega
/-- a Veranda that stands before the ones that are written -/
theorem VA.sx {I I' : Nat → Nat → Int32} {v n : Nat} {s : Nat → Int32} {cls : Cls} {du fd : Int32} (hX : AX K R a sa ta ba sv) (h : VA K I R v s n cls du fd) (hv : ∀ i, k < i → i < 5 → v + 9 ≤ sv i) (hI : FR (PS4 a ta ba sv k) I I') (hR : RFs sv k R R') : VA K I' R' v s n cls du fd := by
  obtain ⟨h1, h2, h3, h4, h5, h6, h7, h8, h9, h10, h11⟩ := hX
  have hvk := h.1
  refine h.gen (fun c t z hk hz => hI c ?_) (fun c c1 c2 => hI c ?_) (fun j => hR v j (fun i i1 i2 => by have := hv i i1 i2; omega)) (fun j => hR (v + 1) j (fun i i1 i2 => by have := hv i i1 i2; omega)) (fun q hq j hj => hR q j (fun i i1 i2 => ⟨fun g => ?_, fun g => by omega⟩))
  · rintro (g | g | g | ⟨i, i1, i2, g⟩)
    · rw [g, h1] at hk; cases hk; omega
    · rw [g, h3] at hk; cases hk; omega
    · rw [g, h4] at hk; cases hk; omega
    · exact PW_no (h10 i i2) hk (by omega) g
  · rintro (g | g | g | ⟨i, i1, i2, g⟩)
    · obtain ⟨k0, k1, k2, k3, k4, k5, k6, k7, k8, -⟩ := hvk
      rcases (by omega : c = v ∨ c = v + 1 ∨ c = v + 2 ∨ c = v + 3 ∨ c = v + 4 ∨ c = v + 5 ∨ c = v + 6 ∨ c = v + 7 ∨ c = v + 8) with e | e | e | e | e | e | e | e | e <;> (rw [← g, e] at h1; simp_all)
    · obtain ⟨k0, k1, k2, k3, k4, k5, k6, k7, k8, -⟩ := hvk
      rcases (by omega : c = v ∨ c = v + 1 ∨ c = v + 2 ∨ c = v + 3 ∨ c = v + 4 ∨ c = v + 5 ∨ c = v + 6 ∨ c = v + 7 ∨ c = v + 8) with e | e | e | e | e | e | e | e | e <;> (rw [← g, e] at h3; simp_all)
    · obtain ⟨k0, k1, k2, k3, k4, k5, k6, k7, k8, -⟩ := hvk
      rcases (by omega : c = v ∨ c = v + 1 ∨ c = v + 2 ∨ c = v + 3 ∨ c = v + 4 ∨ c = v + 5 ∨ c = v + 6 ∨ c = v + 7 ∨ c = v + 8) with e | e | e | e | e | e | e | e | e <;> (rw [← g, e] at h4; simp_all)
    · have := hv i i1 i2
      unfold PW at g
      omega
  · rw [g.1, (h10 i i2).2.1] at hq; cases hq
/-- the best so far -/
def AGS (J : Nat → Nat → Int32) (a ba n m : Nat) (ag : Int32 × Int32 × Nat) (r : Nat) : Prop := J a 4 = ag.1 ∧ J a 5 = ag.2.1 ∧ (0 < r → ∀ j, j < m → J ba j = dv9 (rDig n ag.2.2 m j))
end AGX
section AGENDAC
variable {X : Nat × (Nat → Int32)} {d : Nat} {K : List (Nat × Nat)} {I : Nat → Nat → Int32} {R : Nat → Nat → Option Nat} {s u : Nat → Int32} {n p v w o a sa ta ba e h b m : Nat} {sv : Nat → Nat} {du fd : Int32} {cls : Cls}
theorem c_judge (hX : AX K R a sa ta ba sv) (hm : m ≤ 4) (hv : VK K R v) (hV : VM I v u n) (hn : n ≤ 6) (h01 : r01 u) {ag : Int32 × Int32 × Nat} {r : Nat} (hag : AGS I a ba n m ag r) (ht : ∀ j, j < m → I ta j = dv9 (rDig n r m j)) (h0 : r = 0 → ag.1 = -1) : ∃ I', Ev X (d + 1) kX0_judge 0 (ent kX0_judge [.ref a, .ref v, .int (nI m)]) [] (K, I, R) (none, (K, I', R)) ∧ AGS I' a ba n m (better ag (rC (rSO u n) 6) (u 1) r) (r + 1) ∧ FR (fun c => c = a ∨ c = ba) I I' := by
  obtain ⟨h1, h2, h3, h4, h5, h6, h7, h8, h9, h10, h11⟩ := hX
  obtain ⟨k0, k1, k2, k3, k4, k5, k6, k7, k8, r0, r1, r2, r3, r4, r5, r6, r7⟩ := hv
  obtain ⟨v8, v9, v10, v11, v12, vk, vv, va, vt, vh, vr⟩ := hV
  obtain ⟨g1, g2, g3⟩ := hag
  have hbc := j_bitCount (X := X) (d := d) (K, I, R) (mk_64 (sett u) hn)
  rw [← rSO_mk h01 n hn] at hbc v9
  obtain ⟨mny, hmny⟩ : ∃ mny, mny = rC (rSO u n) 6 := ⟨_, rfl⟩
  have hm0 : ∃ c, mny = nI c ∧ c < 7 := ⟨cnt (sett u) n, by rw [hmny, rSO_mk h01 n hn, rC_mk _ hn], by have := cnt_le (sett u) n; omega⟩
  rw [← hmny] at hbc ⊢
  obtain ⟨y1, hy1⟩ : ∃ y, y = ag.1 := ⟨_, rfl⟩
  obtain ⟨y2, hy2⟩ : ∃ y, y = ag.2.1 := ⟨_, rfl⟩
  rw [← hy1] at g1
  rw [← hy2] at g2
  have na : a ≠ v := fun g => by rw [g, k0] at h1; cases h1
  have nab : a ≠ ba := fun g => by rw [g, h4] at h1; cases h1
  -- the better one
  have up : ∃ I', (∀ x3 : Int32, x3 = mny → Ev X (d + 1) kX0_judge 35 [some (.ref a), some (.ref v), some (.int (nI m)), some (.int x3)] [] (K, I, R) (none, (K, I', R))) ∧ AGS I' a ba n m (mny, u 1, r) (r + 1) ∧ FR (fun c => c = a ∨ c = ba) I I' := by
    obtain ⟨J, hJ⟩ : ∃ J, J = upI (upI I a 4 mny) a 5 (u 1) := ⟨_, rfl⟩
    have jt : J ta = I ta := by rw [hJ, upI_ne (fun g => by rw [g, h1] at h3; cases h3), upI_ne (fun g => by rw [g, h1] at h3; cases h3)]
    refine ⟨cpI J ta ba 0 0 m, fun x3 hx3 => ?_, ⟨?_, ?_, fun _ j hj => ?_⟩, fun c hc => ?_⟩
    · subst hx3
      (repeat (first | refine Ev.p rfl rfl ?_ | refine Ev.gr (by rfl) (by rfl) (by assumption) (by rfl) (by assumption) ?_ | refine Ev.gi (by rfl) (by rfl) (by assumption) (by rfl) (by assumption) ?_))
      refine Ev.pi (by rfl) (by rfl) (by assumption) (by rfl) ?_
      iterate 2 refine Ev.p rfl rfl ?_
      refine Ev.gi (by rfl) (by rfl) (by assumption) (by rfl) (y := u 1) (by rw [upI_ne (Ne.symm na)]; exact v11) ?_
      refine Ev.pi (by rfl) (by rfl) (by assumption) (by rfl) ?_
      rw [← hJ]
      (repeat (first | refine Ev.p rfl rfl ?_ | refine Ev.gr (by rfl) (by rfl) (by assumption) (by rfl) (by assumption) ?_ | refine Ev.gi (by rfl) (by rfl) (by assumption) (by rfl) (by assumption) ?_))
      refine Ev.acp (sp := 0) (dp := 0) (n := m) (by rfl) h3 h4 (by rfl) (by rfl) (by rfl) (by rfl) (by rfl) (by omega) (by omega) (by omega) (fun _ _ => by rfl) ?_
      ((repeat refine Ev.p rfl rfl ?_); exact Ev.r rfl)
    · show cpI J ta ba 0 0 m a 4 = mny
      unfold cpI
      rw [if_neg (fun g => nab g.1), hJ, upI_eq, upd_ne (by omega), upI_eq, upd_at]
    · show cpI J ta ba 0 0 m a 5 = u 1
      unfold cpI
      rw [if_neg (fun g => nab g.1), hJ, upI_eq, upd_at]
    · show cpI J ta ba 0 0 m ba j = dv9 (rDig n r m j)
      unfold cpI
      rw [if_pos ⟨rfl, by omega, by omega⟩, show 0 + (j - 0) = j by omega, jt]
      exact ht j hj
    · funext j
      unfold cpI
      rw [if_neg (fun g => hc (Or.inr g.1)), hJ, upI_ne (fun g => hc (Or.inl g)), upI_ne (fun g => hc (Or.inl g))]
  obtain ⟨I', ev, up1, up2⟩ := up
  by_cases hgt : y1 < mny
  · refine ⟨I', ?_, by unfold better; rw [← hy1, if_pos hgt]; exact up1, up2⟩
    (repeat (first | refine Ev.p rfl rfl ?_ | refine Ev.gr (by rfl) (by rfl) (by assumption) (by rfl) (by assumption) ?_ | refine Ev.gi (by rfl) (by rfl) (by assumption) (by rfl) (by assumption) ?_))
    refine Ev.c rfl hbc ?_
    (repeat (first | refine Ev.p rfl rfl ?_ | refine Ev.gr (by rfl) (by rfl) (by assumption) (by rfl) (by assumption) ?_ | refine Ev.gi (by rfl) (by rfl) (by assumption) (by rfl) (by assumption) ?_))
    refine Ev.bp rfl (fun c => ?_) (fun c => ?_)
    · (repeat (first | (refine Ev.at (q := 35) rfl ?_; exact (ev _ rfl)) | refine Ev.p rfl rfl ?_))
    · exact absurd hgt c
  · have hr : 0 < r := by
      rcases Nat.eq_zero_or_pos r with h | h
      · exfalso
        obtain ⟨c, ec, hc⟩ := hm0
        refine hgt ?_
        rw [hy1, h0 h, ec]
        exact Int32.lt_iff_toInt_lt.mpr (by rw [nI_toInt (by omega)]; show (-1 : Int) < c; omega)
      · exact h
    by_cases heq : mny = y1 ∧ u 1 < y2
    · refine ⟨I', ?_, by unfold better; rw [← hy1, ← hy2, if_neg hgt, if_pos heq]; exact up1, up2⟩
      (repeat (first | refine Ev.p rfl rfl ?_ | refine Ev.gr (by rfl) (by rfl) (by assumption) (by rfl) (by assumption) ?_ | refine Ev.gi (by rfl) (by rfl) (by assumption) (by rfl) (by assumption) ?_))
      refine Ev.c rfl hbc ?_
      (repeat (first | refine Ev.p rfl rfl ?_ | refine Ev.gr (by rfl) (by rfl) (by assumption) (by rfl) (by assumption) ?_ | refine Ev.gi (by rfl) (by rfl) (by assumption) (by rfl) (by assumption) ?_))
      refine Ev.bp rfl (fun c => ?_) (fun c => ?_)
      · exact absurd c hgt
      · (repeat (first | refine Ev.p rfl rfl ?_ | refine Ev.gr (by rfl) (by rfl) (by assumption) (by rfl) (by assumption) ?_ | refine Ev.gi (by rfl) (by rfl) (by assumption) (by rfl) (by assumption) ?_))
        refine Ev.bp rfl (fun c2 => ?_) (fun c2 => ?_)
        · exact absurd heq.1 c2
        · (repeat (first | refine Ev.p rfl rfl ?_ | refine Ev.gr (by rfl) (by rfl) (by assumption) (by rfl) (by assumption) ?_ | refine Ev.gi (by rfl) (by rfl) (by assumption) (by rfl) (by assumption) ?_))
          refine Ev.bp rfl (fun c3 => ?_) (fun c3 => ?_)
          · exact absurd heq.2 (Int32.not_lt.mpr c3)
          · (repeat (first | (refine Ev.at (q := 35) rfl ?_; exact (ev _ rfl)) | refine Ev.p rfl rfl ?_))
    · refine ⟨I, ?_, ?_, FR.rf I⟩
      · (repeat (first | refine Ev.p rfl rfl ?_ | refine Ev.gr (by rfl) (by rfl) (by assumption) (by rfl) (by assumption) ?_ | refine Ev.gi (by rfl) (by rfl) (by assumption) (by rfl) (by assumption) ?_))
        refine Ev.c rfl hbc ?_
        (repeat (first | refine Ev.p rfl rfl ?_ | refine Ev.gr (by rfl) (by rfl) (by assumption) (by rfl) (by assumption) ?_ | refine Ev.gi (by rfl) (by rfl) (by assumption) (by rfl) (by assumption) ?_))
        refine Ev.bp rfl (fun c => ?_) (fun c => ?_)
        · exact absurd c hgt
        · (repeat (first | refine Ev.p rfl rfl ?_ | refine Ev.gr (by rfl) (by rfl) (by assumption) (by rfl) (by assumption) ?_ | refine Ev.gi (by rfl) (by rfl) (by assumption) (by rfl) (by assumption) ?_))
          refine Ev.bp rfl (fun c2 => ?_) (fun c2 => ?_)
          · ((repeat refine Ev.p rfl rfl ?_); exact Ev.r rfl)
          · (repeat (first | refine Ev.p rfl rfl ?_ | refine Ev.gr (by rfl) (by rfl) (by assumption) (by rfl) (by assumption) ?_ | refine Ev.gi (by rfl) (by rfl) (by assumption) (by rfl) (by assumption) ?_))
            refine Ev.bp rfl (fun c3 => ?_) (fun c3 => ?_)
            · ((repeat refine Ev.p rfl rfl ?_); exact Ev.r rfl)
            · exact absurd ⟨Decidable.not_not.mp c2, Int32.not_le.mp c3⟩ heq
      · unfold better
        rw [← hy1, ← hy2, if_neg hgt, if_neg heq]
        exact ⟨by rw [← hy1]; exact g1, by rw [← hy2]; exact g2, fun _ => g3 hr⟩
/-- the states of a row stand in their places up to k -/
def VR (K : List (Nat × Nat)) (J : Nat → Nat → Int32) (RJ : Nat → Nat → Option Nat) (sv : Nat → Nat) (s : Nat → Int32) (n : Nat) (cls : Cls) (du fd : Int32) (m r k : Nat) : Prop := ∀ i, i ≤ k → VA K J RJ (sv i) (rRw s n cls du fd m r i) n cls du fd
theorem RI_row {e f : Nat} (hRI : RI s n e cls) (hfd : fd = nI f) (hf : f ≤ 99) (m r : Nat) : ∀ k, RI (rRw s n cls du fd m r k) n (e + k) cls := by
  intro k
  induction k with
  | zero => exact hRI
  | succ k ih => exact RI_go ih (rDig_tc n r m k) hfd hf
theorem dv9_9 {n : Nat} (hn : n ≤ 6) {tk : Option Nat} (h : ∀ q, tk = some q → q < n) : dv9 tk = 9 ↔ tk = none := by
  cases tk with
  | none => exact ⟨fun _ => rfl, fun _ => rfl⟩
  | some q =>
    have hq := h q rfl
    constructor
    · intro g
      have g : nI q = nI 9 := g
      have := (nI_eq (by omega) (by omega)).mp g
      omega
    · intro g; cases g
theorem c_goRow (hm : m ≤ 4) (hn : n ≤ 6) (hRI : RI s n e cls) {f : Nat} (hfd : fd = nI f) (hf : f ≤ 99) (he : e + 30 < 1000000) {r : Nat} : ∀ (mm k : Nat) (J : Nat → Nat → Int32) (RJ : Nat → Nat → Option Nat), k + mm = m → AX K RJ a sa ta ba sv → VR K J RJ sv s n cls du fd m r k → (∀ j, j < m → J ta j = dv9 (rDig n r m j)) → ∃ I' R', (∀ y : Option Value, Ev X (d + 6) kX0_goRow 2 [some (.ref a), y, some (.int (nI m)), some (.int (nI k))] [] (K, J, RJ) (none, (K, I', R'))) ∧ VR K I' R' sv s n cls du fd m r m ∧ FR (fun c => ∃ i, i < 5 ∧ PW (sv i) c) J I' ∧ RFs sv 0 RJ R' := by
  intro mm
  induction mm with
  | zero =>
    intro k J RJ hk hX hA ht
    have e0 : k = m := by omega
    subst e0
    refine ⟨J, RJ, fun y => ?_, hA, FR.rf J, fun _ _ _ => rfl⟩
    (repeat refine Ev.p rfl rfl ?_)
    refine Ev.bp rfl (fun c => ?_) (fun c => ?_)
    · ((repeat refine Ev.p rfl rfl ?_); exact Ev.r rfl)
    · exact absurd (Int32.le_refl _) c
  | succ mm ih =>
    intro k J RJ hk hX hA ht
    have hXk := hX
    obtain ⟨h1, h2, h3, h4, h5, h6, h7, h8, h9, h10, h11⟩ := hX
    have hX : AX K RJ a sa ta ba sv := ⟨h1, h2, h3, h4, h5, h6, h7, h8, h9, h10, h11⟩
    have hVk := h10 k (by omega)
    have hVk1 := h10 (k + 1) (by omega)
    obtain ⟨J2, R2, a1, a2, a3, a4⟩ := c_copyA (X := X) (d := d + 5) hVk1 (hA k (Nat.le_refl _)) hn (Or.inl (h11 k (k + 1) (by omega) (by omega)))
    obtain ⟨tk, htk⟩ : ∃ tk, tk = rDig n r m k := ⟨_, rfl⟩
    have hx : tkV tk n (tc tk) := by rw [htk]; exact rDig_tc n _ _ _
    have hRk := RI_row (du := du) hRI hfd hf m r k
    obtain ⟨J3, b1, b2, b3, -, -⟩ := c_goA (X := X) (d := d) a2 hRk (by omega) hx
    have fw : FR (PW (sv (k + 1))) J J3 := a3.tr (b3.mo PGo.w)
    have f4 : FR (PS4 a ta ba sv k) J J3 := fw.mo (fun c hc => Or.inr (Or.inr (Or.inr ⟨k + 1, by omega, by omega, hc⟩)))
    have fR : RFs sv k RJ R2 := RFs.of (by omega) a4
    have hX2 := hX.rf fR
    have hA3 : VR K J3 R2 sv s n cls du fd m r (k + 1) := fun i hi => by
      by_cases hik : i = k + 1
      · subst hik
        show VA K J3 R2 (sv (k + 1)) (rGo (rRw s n cls du fd m r k) n cls du fd (rDig n r m k)) n cls du fd
        rw [← htk]
        exact b2
      · exact (hA i (by omega)).sx hX (k := k) (fun z z1 z2 => h11 i z (by omega) z2) f4 fR
    have pta : ∀ J', FR (PW (sv (k + 1))) J J' → J' ta = J ta := fun J' g => g ta (PW_no hVk1 h3 (by omega))
    obtain ⟨I', R', g1, g2, g3, g4⟩ := ih (k + 1) J3 R2 (by omega) hX2 hA3 (fun j hj => by rw [pta J3 fw]; exact ht j hj)
    have fR0 : RFs sv 0 RJ R2 := fun c j hc => fR c j (fun i i1 i2 => hc i (by omega) i2)
    refine ⟨I', R', fun y => ?_, g2, (fw.mo (fun c hc => ⟨k + 1, by omega, hc⟩)).tr g3, fR0.tr g4⟩
    have g1 := g1 y
    rw [nI_succ k] at g1
    have w0 := hVk1.1
    have x0 := hVk.1
    obtain ⟨-, -, -, -, -, i6, i7, i8, i9, -, -⟩ := hX2
    have e2 : nI k + 1 = nI (k + 1) := nI_1 k
    have t2 : J2 ta k = dv9 tk := by rw [pta J2 a3, ht k (by omega), htk]
    have t9 := dv9_9 hn (tk := tk) (fun q hq => by rw [htk] at hq; exact rDig_lt hq)
    (repeat refine Ev.p rfl rfl ?_)
    refine Ev.bp rfl (fun c => ?_) (fun c => ?_)
    · exact absurd c (nI_ge (by omega) (by omega))
    · (repeat (first | refine Ev.p rfl rfl ?_ | refine Ev.gr (by rfl) (by rfl) (by assumption) (by rfl) (by assumption) ?_ | refine Ev.gi (by rfl) (by rfl) (by assumption) (by rfl) (by assumption) ?_))
      (refine Ev.aald (j := k + 1) (by rfl) (by assumption) (Or.inr rfl) e2 (by omega) (by omega) ?_; rw [show xv (RJ sa (k + 1)) = .ref (sv (k + 1)) from by rw [h9 (k + 1) (by omega)]; rfl])
      (repeat (first | refine Ev.p rfl rfl ?_ | refine Ev.gr (by rfl) (by rfl) (by assumption) (by rfl) (by assumption) ?_ | refine Ev.gi (by rfl) (by rfl) (by assumption) (by rfl) (by assumption) ?_))
      (refine Ev.aald (j := k) (by rfl) (by assumption) (Or.inr rfl) (by rfl) (by omega) (by omega) ?_; rw [show xv (RJ sa k) = .ref (sv k) from by rw [h9 k (by omega)]; rfl])
      refine Ev.cv (by rfl) (by rfl) (by assumption) (by rfl) (by rfl) (by rfl) (by rfl) (by rfl) a1 ?_
      (repeat (first | refine Ev.p rfl rfl ?_ | refine Ev.gr (by rfl) (by rfl) (by assumption) (by rfl) (by assumption) ?_ | refine Ev.gi (by rfl) (by rfl) (by assumption) (by rfl) (by assumption) ?_))
      (refine Ev.aald (j := k + 1) (by rfl) (by assumption) (Or.inr rfl) e2 (by omega) (by omega) ?_; rw [show xv (R2 sa (k + 1)) = .ref (sv (k + 1)) from by rw [i9 (k + 1) (by omega)]; rfl])
      (repeat (first | refine Ev.p rfl rfl ?_ | refine Ev.gr (by rfl) (by rfl) (by assumption) (by rfl) (by assumption) ?_ | refine Ev.gi (by rfl) (by rfl) (by assumption) (by rfl) (by assumption) ?_))
      (refine Ev.iald (j := k) (by rfl) (by assumption) (by rfl) (by omega) (by omega) ?_; rw [t2])
      (repeat refine Ev.p rfl rfl ?_)
      refine Ev.bp rfl (fun c2 => ?_) (fun c2 => ?_)
      · have hne : tk ≠ none := fun g => c2 (t9.mpr g)
        have b1d := b1.dp (d' := d + 5) (by omega)
        (repeat (first | refine Ev.p rfl rfl ?_ | refine Ev.gr (by rfl) (by rfl) (by assumption) (by rfl) (by assumption) ?_ | refine Ev.gi (by rfl) (by rfl) (by assumption) (by rfl) (by assumption) ?_))
        (refine Ev.iald (j := k) (by rfl) (by assumption) (by rfl) (by omega) (by omega) ?_; rw [t2])
        rw [show tc tk = dv9 tk from by cases tk with | none => exact absurd rfl hne | some q => rfl] at b1d
        refine Ev.cv (by rfl) (by rfl) (by assumption) (by rfl) (by rfl) (by rfl) (by rfl) (by rfl) b1d ?_
        (repeat (first | (refine Ev.at (q := 2) rfl ?_; exact g1) | refine Ev.p rfl rfl ?_))
      · have hno : tk = none := t9.mp (Decidable.not_not.mp c2)
        have b1d := b1.dp (d' := d + 5) (by omega)
        rw [show tc tk = -1 from by rw [hno]; rfl] at b1d
        (repeat refine Ev.p rfl rfl ?_)
        refine Ev.cv (by rfl) (by rfl) (by assumption) (by rfl) (by rfl) (by rfl) (by rfl) (by rfl) b1d ?_
        (repeat (first | (refine Ev.at (q := 2) rfl ?_; exact g1) | refine Ev.p rfl rfl ?_))
theorem c_firstTalk (h : Hp) (hn : n ≤ 6) : Ev X d kX0_firstTalk 0 (ent kX0_firstTalk [.int (nI n)]) [] h (some (.int (dv9 (if 0 = n then none else some 0))), h) := by
  by_cases h0 : 0 = n
  · rw [if_pos h0, ← h0]
    ((repeat refine Ev.p rfl rfl ?_); exact Ev.r rfl)
  · rw [if_neg h0]
    (repeat refine Ev.p rfl rfl ?_)
    refine Ev.bp rfl (fun c => ?_) (fun c => ?_)
    · exact absurd c (nI_nle (by omega) (by omega))
    · ((repeat refine Ev.p rfl rfl ?_); exact Ev.r rfl)
theorem rDig_0 {P k j : Nat} (hj : k ≤ j) (hjm : j < m) : rDig n (P * (n + 1) ^ (m - k)) m j = if 0 = n then none else some 0 := by
  unfold rDig
  have e1 : (P * (n + 1) ^ (m - k)) / (n + 1) ^ (m - 1 - j) % (n + 1) = 0 := by
    rw [show m - k = (m - 1 - j) + (j - k + 1) by omega, Nat.pow_add, Nat.mul_comm ((n + 1) ^ (m - 1 - j)), ← Nat.mul_assoc, Nat.mul_div_cancel _ (Nat.pow_pos (by omega)), Nat.pow_succ, ← Nat.mul_assoc, Nat.mul_mod_left]
  rw [e1]
/-- what the next row is: x where it differs, as from; none is left at the end -/
def NX (I' : Nat → Nat → Int32) (s : Nat → Int32) (n : Nat) (cls : Cls) (du fd : Int32) (ta m r : Nat) (x : Int32) : Prop := (x = -1 ∧ r + 1 = (n + 1) ^ m) ∨ ∃ k, k < m ∧ x = nI k ∧ r + 1 < (n + 1) ^ m ∧ (∀ j, j < m → I' ta j = dv9 (rDig n (r + 1) m j)) ∧ (∀ j, j ≤ k → rRw s n cls du fd m (r + 1) j = rRw s n cls du fd m r j)
theorem c_nextRow (ha : K[a]? = some (0, 9)) (hta : K[ta]? = some (20, 4)) (hr : R a 2 = some ta) (hm : m ≤ 4) (hn : n ≤ 6) {r : Nat} : ∀ (kk pr : Nat) (J : Nat → Nat → Int32), kk ≤ m → pr < (n + 1) ^ kk → r + 1 = (pr + 1) * (n + 1) ^ (m - kk) → (∀ j, j < kk → J ta j = dv9 (rDig n pr kk j)) → (∀ j, kk ≤ j → j < m → J ta j = dv9 (if 0 = n then none else some 0)) → ∃ I' x, Ev X (d + 1) kX0_nextRow 4 [some (.ref a), some (.int (nI m)), some (.int (nI n)), some (.int (nI kk - 1))] [] (K, J, R) (some (.int x), (K, I', R)) ∧ NX I' s n cls du fd ta m r x ∧ FR (fun c => c = ta) J I' := by
  intro kk
  induction kk with
  | zero =>
    intro pr J hk hpr hrr ht ht0
    have hp0 : pr = 0 := by rw [Nat.pow_zero] at hpr; omega
    subst hp0
    refine ⟨J, -1, ?_, Or.inl ⟨rfl, by rw [hrr, Nat.sub_zero, Nat.zero_add, Nat.one_mul]⟩, FR.rf J⟩
    rw [show nI 0 - 1 = (-1 : Int32) from rfl]
    ((repeat refine Ev.p rfl rfl ?_); exact Ev.r rfl)
  | succ kk ih =>
    intro pr J hk hpr hrr ht ht0
    obtain ⟨P, i, hP, hi⟩ : ∃ P i, pr = P * (n + 1) + i ∧ i ≤ n := ⟨pr / (n + 1), pr % (n + 1), by rw [Nat.mul_comm]; exact (Nat.div_add_mod pr (n + 1)).symm, by have := Nat.mod_lt pr (show 0 < n + 1 by omega); omega⟩
    subst hP
    have hPl : P < (n + 1) ^ kk := by
      rw [Nat.pow_succ] at hpr
      exact Nat.lt_of_mul_lt_mul_right (Nat.lt_of_le_of_lt (Nat.le_add_right _ i) hpr)
    have tk : J ta kk = dv9 (if i = n then none else some i) := by rw [ht kk (by omega), rDig_last hi]
    have ek : nI (kk + 1) - 1 = nI kk := by rw [nI_succ]; exact Int32.add_sub_cancel _ _
    have ft := c_firstTalk (X := X) (d := d) (n := n) (K, J, R) hn
    have pws : (n + 1) ^ (m - kk) = (n + 1) * (n + 1) ^ (m - (kk + 1)) := by rw [show m - kk = (m - (kk + 1)) + 1 by omega, Nat.pow_succ, Nat.mul_comm]
    rw [ek]
    by_cases hin : i = n
    · subst hin
      rw [if_pos rfl] at tk
      obtain ⟨J1, hJ1⟩ : ∃ J1, J1 = upI J ta kk (dv9 (if 0 = i then none else some 0)) := ⟨_, rfl⟩
      obtain ⟨I', x, g1, g2, g3⟩ := ih P J1 (by omega) hPl (by rw [hrr, pws, ← Nat.mul_assoc, Nat.add_mul P 1, Nat.one_mul, Nat.add_assoc]) (fun j hj => by
        rw [hJ1, upI_eq, upd_ne (by omega), ht j (by omega), rDig_suc (Nat.le_refl _) hj]) (fun j j1 j2 => by
        rw [hJ1, upI_eq]
        by_cases hjk : j = kk
        · subst hjk; rw [upd_at]
        · rw [upd_ne hjk]; exact ht0 j (by omega) j2)
      refine ⟨I', x, ?_, g2, FR.tr (by rw [hJ1]; exact FR.up rfl) g3⟩
      (repeat refine Ev.p rfl rfl ?_)
      refine Ev.bp rfl (fun c => absurd c (nI_pos (by omega))) (fun c => ?_)
      (repeat (first | refine Ev.p rfl rfl ?_ | refine Ev.gr (by rfl) (by rfl) (by assumption) (by rfl) (by assumption) ?_ | refine Ev.gi (by rfl) (by rfl) (by assumption) (by rfl) (by assumption) ?_))
      (refine Ev.iald (j := kk) (by rfl) (by assumption) (by rfl) (by omega) (by omega) ?_; rw [tk])
      (repeat (first | refine Ev.p rfl rfl ?_ | refine Ev.gr (by rfl) (by rfl) (by assumption) (by rfl) (by assumption) ?_ | refine Ev.gi (by rfl) (by rfl) (by assumption) (by rfl) (by assumption) ?_))
      refine Ev.c rfl ft ?_
      refine Ev.iast (j := kk) (by rfl) (by assumption) (by rfl) (by omega) (by omega) ?_
      rw [← hJ1]
      rw [show nI kk - 1 = nI kk + -1 from Int32.sub_eq_add_neg _ _] at g1
      (repeat (first | (refine Ev.at (q := 4) rfl ?_; exact g1) | refine Ev.p rfl rfl ?_))
    · rw [if_neg hin] at tk
      have tk : J ta kk = nI i := tk
      obtain ⟨J1, hJ1⟩ : ∃ J1, J1 = upI J ta kk (dv9 (if i + 1 = n then none else some (i + 1))) := ⟨_, rfl⟩
      have eR : r + 1 = (P * (n + 1) + (i + 1)) * (n + 1) ^ (m - (kk + 1)) + 0 := by rw [hrr, Nat.add_assoc]; rfl
      have eR0 : r + 1 = P * (n + 1) ^ (m - kk) + (i + 1) * (n + 1) ^ (m - (kk + 1)) := by rw [eR, Nat.add_zero, Nat.add_mul, pws, Nat.mul_assoc]
      have hq : 0 < (n + 1) ^ (m - (kk + 1)) := Nat.pow_pos (by omega)
      have h1 : (i + 1) * (n + 1) ^ (m - (kk + 1)) < (n + 1) ^ (m - kk) := by rw [pws]; exact Nat.mul_lt_mul_of_pos_right (by omega) hq
      have h0 : r = P * (n + 1) ^ (m - kk) + ((i + 1) * (n + 1) ^ (m - (kk + 1)) - 1) := by
        have : 0 < (i + 1) * (n + 1) ^ (m - (kk + 1)) := Nat.mul_pos (by omega) hq
        omega
      have hlt : r + 1 < (n + 1) ^ m := by
        have e3 : (n + 1) ^ m = (n + 1) ^ kk * (n + 1) ^ (m - kk) := by rw [← Nat.pow_add, show kk + (m - kk) = m by omega]
        have e4 : (P + 1) * (n + 1) ^ (m - kk) ≤ (n + 1) ^ kk * (n + 1) ^ (m - kk) := Nat.mul_le_mul_right _ hPl
        rw [Nat.add_mul, Nat.one_mul] at e4
        omega
      have dg : ∀ j, j < m → J1 ta j = dv9 (rDig n (r + 1) m j) := fun j hj => by
        rw [hJ1, upI_eq]
        rcases Nat.lt_trichotomy j kk with h | h | h
        · rw [upd_ne (by omega), ht j (by omega), eR, rDig_pre (by omega) (by omega) hq, rDig_suc hi h, rDig_suc (by omega) h]
        · subst h
          rw [upd_at, eR, rDig_pre (by omega) (by omega) hq, rDig_last (by omega)]
        · rw [upd_ne (by omega), ht0 j (by omega) hj, eR, Nat.add_zero, rDig_0 (by omega) hj]
      have rw0 : ∀ j, j ≤ kk → rRw s n cls du fd m (r + 1) j = rRw s n cls du fd m r j := fun j hj => by
        rw [eR0, rRw_pre (by omega) h1 j hj, h0, rRw_pre (by omega) (by omega) j hj]
      refine ⟨J1, nI kk, ?_, Or.inr ⟨kk, by omega, rfl, hlt, dg, rw0⟩, by rw [hJ1]; exact FR.up rfl⟩
      have e2 : nI i + 1 = nI (i + 1) := nI_1 i
      (repeat refine Ev.p rfl rfl ?_)
      refine Ev.bp rfl (fun c => absurd c (nI_pos (by omega))) (fun c => ?_)
      (repeat (first | refine Ev.p rfl rfl ?_ | refine Ev.gr (by rfl) (by rfl) (by assumption) (by rfl) (by assumption) ?_ | refine Ev.gi (by rfl) (by rfl) (by assumption) (by rfl) (by assumption) ?_))
      (refine Ev.iald (j := kk) (by rfl) (by assumption) (by rfl) (by omega) (by omega) ?_; rw [tk])
      (repeat refine Ev.p rfl rfl ?_)
      refine Ev.bp rfl (fun c2 => absurd ((nI_eq (a := i) (b := 9) (by omega) (by omega)).mp c2) (by omega)) (fun c2 => ?_)
      (repeat (first | refine Ev.p rfl rfl ?_ | refine Ev.gr (by rfl) (by rfl) (by assumption) (by rfl) (by assumption) ?_ | refine Ev.gi (by rfl) (by rfl) (by assumption) (by rfl) (by assumption) ?_))
      (refine Ev.iald (j := kk) (by rfl) (by assumption) (by rfl) (by omega) (by omega) ?_; rw [tk])
      iterate 2 refine Ev.p rfl rfl ?_
      rw [e2]
      (repeat refine Ev.p rfl rfl ?_)
      refine Ev.bp rfl (fun c3 => ?_) (fun c3 => ?_)
      · have hin1 : i + 1 = n := by
          rcases Nat.lt_or_ge (i + 1) n with g | g
          · exact absurd c3 (nI_ge g (by omega))
          · omega
        rw [if_pos hin1] at hJ1
        (repeat refine Ev.p rfl rfl ?_)
        refine Ev.iast (j := kk) (by rfl) (by assumption) (by rfl) (by omega) (by omega) ?_
        rw [show (9 : Int32) = dv9 none from rfl, ← hJ1]
        ((repeat refine Ev.p rfl rfl ?_); exact Ev.r rfl)
      · have hin1 : i + 1 ≠ n := fun g => c3 (by rw [g]; exact Int32.le_refl _)
        rw [if_neg hin1] at hJ1
        (repeat (first | refine Ev.p rfl rfl ?_ | refine Ev.gr (by rfl) (by rfl) (by assumption) (by rfl) (by assumption) ?_ | refine Ev.gi (by rfl) (by rfl) (by assumption) (by rfl) (by assumption) ?_))
        (refine Ev.iald (j := kk) (by rfl) (by assumption) (by rfl) (by omega) (by omega) ?_; rw [tk])
        iterate 2 refine Ev.p rfl rfl ?_
        rw [e2]
        (repeat refine Ev.p rfl rfl ?_)
        refine Ev.iast (j := kk) (by rfl) (by assumption) (by rfl) (by omega) (by omega) ?_
        rw [show nI (i + 1) = dv9 (some (i + 1)) from rfl, ← hJ1]
        ((repeat refine Ev.p rfl rfl ?_); exact Ev.r rfl)
/-- what the search writes -/
def PA5 (a ta ba : Nat) (sv : Nat → Nat) (c : Nat) : Prop := c = a ∨ c = ta ∨ c = ba ∨ ∃ i, i < 5 ∧ PW (sv i) c
theorem c_row1 {no : Nat} {J : Nat → Nat → Int32} {RJ : Nat → Nat → Option Nat} {r k : Nat} (hm : m ≤ 4) (hRI : RI s n e cls) {f : Nat} (hfd : fd = nI f) (hf : f ≤ 99) (he : e + 30 < 1000000) (ho : K[o]? = some (10, no)) (h8 : ∀ J', FR (PA5 a ta ba sv) J J' → J' o 8 = nI n) (hX : AX K RJ a sa ta ba sv) (hk : k ≤ m) (hr : r < (n + 1) ^ m) (hV : VR K J RJ sv s n cls du fd m r k) (ht : ∀ j, j < m → J ta j = dv9 (rDig n r m j)) (hag : AGS J a ba n m (rAg s n cls du fd m r) r) : ∃ J' R' x, (∀ Z : Option Value × Hp, Ev X (d + 11) kX0_findAgenda 61 [some (.ref a), some (.ref o), some (.int (nI m)), some (.int (nI m)), some (.int x), some (.int (nI (r + 1)))] [] (K, J', R') Z → Ev X (d + 11) kX0_findAgenda 61 [some (.ref a), some (.ref o), some (.int (nI m)), some (.int (nI m)), some (.int (nI k)), some (.int (nI r))] [] (K, J, RJ) Z) ∧ AGS J' a ba n m (rAg s n cls du fd m (r + 1)) (r + 1) ∧ NX J' s n cls du fd ta m r x ∧ VR K J' R' sv s n cls du fd m r m ∧ FR (PA5 a ta ba sv) J J' ∧ RFs sv 0 RJ R' := by
  have hn := hRI.1
  have hp2 := pw_le (k := m) hn hm
  have hX0 := hX
  obtain ⟨h1, h2, h3, h4, h5, h6, h7, h8', h9, h10, h11⟩ := hX0
  obtain ⟨J1, R1, g1, g2, g3, g4⟩ := c_goRow (X := X) (d := d + 4) hm hn hRI hfd hf he (m - k) k J RJ (by omega) hX hV ht
  have g0 : Ev X (d + 10) kX0_goRow 0 (ent kX0_goRow [.ref a, .int (nI k), .int (nI m)]) [] (K, J, RJ) (none, (K, J1, R1)) := by (repeat (first | (refine Ev.at (q := 2) rfl ?_; exact (g1 _)) | refine Ev.p rfl rfl ?_))
  have hX1 : AX K R1 a sa ta ba sv := hX.rf g4
  have p3 : ∀ c t z, K[c]? = some (t, z) → (z = 4 ∨ z = 9) → J1 c = J c := fun c t z hc hz => g3 c (fun ⟨i, hi, h⟩ => PW_no (h10 i hi) hc (by omega) h)
  have pta := p3 ta _ _ h3 (Or.inl rfl)
  have hag1 : AGS J1 a ba n m (rAg s n cls du fd m r) r := by
    unfold AGS
    rw [p3 a _ _ h1 (Or.inr rfl), p3 ba _ _ h4 (Or.inl rfl)]
    exact hag
  have ht1 : ∀ j, j < m → J1 ta j = dv9 (rDig n r m j) := fun j hj => by rw [pta]; exact ht j hj
  have hAm := g2 m (Nat.le_refl _)
  obtain ⟨J2, j1, j2, j3⟩ := c_judge (X := X) (d := d + 9) hX1 hm hAm.1 hAm.2.1 hn (RI_row hRI hfd hf m r m).2.1.1 hag1 ht1 (fun h => by subst h; rfl)
  have qta : J2 ta = J1 ta := j3 ta (fun g => g.elim (fun g => by rw [g, h1] at h3; cases h3) (fun g => h5 g))
  obtain ⟨J3, x, n1, n2, n3⟩ := c_nextRow (X := X) (d := d + 9) (s := s) (cls := cls) (du := du) (fd := fd) (R := R1) h1 h3 hX1.2.2.2.2.2.2.1 hm hn m r J2 (Nat.le_refl _) hr (by rw [Nat.sub_self, Nat.pow_zero, Nat.mul_one]) (fun j hj => by rw [qta]; exact ht1 j hj) (fun j j1 j2 => by omega)
  have n0 : Ev X (d + 10) kX0_nextRow 0 (ent kX0_nextRow [.ref a, .int (nI m), .int (nI n)]) [] (K, J2, R1) (some (.int x), (K, J3, R1)) := by (repeat (first | (refine Ev.at (q := 4) rfl ?_; exact n1) | refine Ev.p rfl rfl ?_))
  have f1 : FR (PA5 a ta ba sv) J J1 := g3.mo (fun c hc => Or.inr (Or.inr (Or.inr hc)))
  have f2 : FR (PA5 a ta ba sv) J1 J2 := j3.mo (fun c hc => hc.elim Or.inl (fun h => Or.inr (Or.inr (Or.inl h))))
  have f3 : FR (PA5 a ta ba sv) J2 J3 := n3.mo (fun c hc => Or.inr (Or.inl hc))
  have k3 : FR (PS4 a ta ba sv 4) J1 J3 := (j3.mo (fun c hc => hc.elim Or.inl (fun h => Or.inr (Or.inr (Or.inl h))))).tr (n3.mo (fun c hc => Or.inr (Or.inl hc)))
  refine ⟨J3, R1, x, fun Z g => ?_, ?_, n2, fun i hi => (g2 i hi).sx hX1 (k := 4) (fun z z1 z2 => by omega) k3 (fun _ _ _ => rfl), (f1.tr f2).tr f3, g4⟩
  · rw [nI_succ r] at g
    obtain ⟨-, -, -, -, -, i6, i7, i8, i9, -, -⟩ := hX1
    have q8 := h8 J2 (f1.tr f2)
    (repeat refine Ev.p rfl rfl ?_)
    refine Ev.bp rfl (fun c => absurd c (nI_ge (b := 2401) (by omega) (by omega))) (fun c => ?_)
    (repeat refine Ev.p rfl rfl ?_)
    refine Ev.bp rfl (fun c => absurd c (nI_pos (by omega))) (fun c => ?_)
    (repeat refine Ev.p rfl rfl ?_)
    refine Ev.cv (by rfl) (by rfl) (by assumption) (by rfl) (by rfl) (by rfl) (by rfl) (by rfl) g0 ?_
    (repeat (first | refine Ev.p rfl rfl ?_ | refine Ev.gr (by rfl) (by rfl) (by assumption) (by rfl) (by assumption) ?_ | refine Ev.gi (by rfl) (by rfl) (by assumption) (by rfl) (by assumption) ?_))
    (refine Ev.aald (j := m) (by rfl) (by assumption) (Or.inr rfl) (by rfl) (by omega) (by omega) ?_; rw [show xv (R1 sa m) = .ref (sv m) from by rw [i9 m (by omega)]; rfl])
    (repeat refine Ev.p rfl rfl ?_)
    refine Ev.cv (by rfl) (by rfl) (by assumption) (by rfl) (by rfl) (by rfl) (by rfl) (by rfl) j1 ?_
    (repeat (first | refine Ev.p rfl rfl ?_ | refine Ev.gr (by rfl) (by rfl) (by assumption) (by rfl) (by assumption) ?_ | refine Ev.gi (by rfl) (by rfl) (by assumption) (by rfl) (by assumption) ?_))
    refine Ev.cv (by rfl) (by rfl) (by assumption) (by rfl) (by rfl) (by rfl) (by rfl) (by rfl) n0 ?_
    (repeat (first | (refine Ev.at (q := 61) rfl ?_; exact g) | refine Ev.p rfl rfl ?_))
  · have e3 : ∀ c, c ≠ ta → J3 c = J2 c := fun c hc => n3 c hc
    unfold AGS
    rw [e3 a (fun g => by rw [g, h3] at h1; cases h1), e3 ba (Ne.symm h5)]
    exact j2
theorem c_rows {no : Nat} (hm : m ≤ 4) (hRI : RI s n e cls) {f : Nat} (hfd : fd = nI f) (hf : f ≤ 99) (he : e + 30 < 1000000) (ho : K[o]? = some (10, no)) : ∀ (mm r k : Nat) (J : Nat → Nat → Int32) (RJ : Nat → Nat → Option Nat), r + mm + 1 = (n + 1) ^ m → k ≤ m → (∀ J', FR (PA5 a ta ba sv) J J' → J' o 8 = nI n) → AX K RJ a sa ta ba sv → VR K J RJ sv s n cls du fd m r k → (∀ j, j < m → J ta j = dv9 (rDig n r m j)) → AGS J a ba n m (rAg s n cls du fd m r) r → ∃ I' R', Ev X (d + 11) kX0_findAgenda 61 [some (.ref a), some (.ref o), some (.int (nI m)), some (.int (nI m)), some (.int (nI k)), some (.int (nI r))] [] (K, J, RJ) (none, (K, I', R')) ∧ AGS I' a ba n m (rAg s n cls du fd m ((n + 1) ^ m)) ((n + 1) ^ m) ∧ FR (PA5 a ta ba sv) J I' ∧ RFs sv 0 RJ R' := by
  have hp2 := pw_le (k := m) hRI.1 hm
  intro mm
  induction mm with
  | zero =>
    intro r k J RJ hr hk h8 hX hV ht hag
    obtain ⟨J', R', x, g1, g2, g3, g4, g5, g6⟩ := c_row1 (X := X) (d := d) hm hRI hfd hf he ho h8 hX hk (by omega) hV ht hag
    rcases g3 with ⟨rfl, e⟩ | ⟨z, z1, z2, z3, -⟩
    · rw [e] at g2
      refine ⟨J', R', g1 _ ?_, g2, g5, g6⟩
      (repeat refine Ev.p rfl rfl ?_)
      refine Ev.bp rfl (fun c => ?_) (fun c => ?_)
      · ((repeat refine Ev.p rfl rfl ?_); exact Ev.r rfl)
      · ((repeat refine Ev.p rfl rfl ?_); exact Ev.r rfl)
    · omega
  | succ mm ih =>
    intro r k J RJ hr hk h8 hX hV ht hag
    obtain ⟨J', R', x, g1, g2, g3, g4, g5, g6⟩ := c_row1 (X := X) (d := d) hm hRI hfd hf he ho h8 hX hk (by omega) hV ht hag
    rcases g3 with ⟨-, e⟩ | ⟨z, z1, rfl, z3, z4, z5⟩
    · omega
    · obtain ⟨I', R'', i1, i2, i3, i4⟩ := ih (r + 1) z J' R' (by omega) (by omega) (fun J2 h => h8 J2 (g5.tr h)) (hX.rf g6) (fun i hi => by rw [z5 i hi]; exact g4 i (by omega)) z4 g2
      exact ⟨I', R'', g1 _ i1, i2, g5.tr i3, g6.tr i4⟩
theorem c_findAgenda (hX : AX K R a sa ta ba sv) (hA : VA K I R o s n cls du fd) (hov : ∀ i, i < 5 → o + 9 ≤ sv i) (hRI : RI s n e cls) (hm : m ≤ 4) (he : e + 30 < 1000000) {f : Nat} (hfd : fd = nI f) (hf : f ≤ 99) : ∃ I' R', Ev X (d + 11) kX0_findAgenda 0 (ent kX0_findAgenda [.ref a, .ref o, .int (nI m)]) [] (K, I, R) (none, (K, I', R')) ∧ AGS I' a ba n m (rAg s n cls du fd m ((n + 1) ^ m)) ((n + 1) ^ m) ∧ FR (fun c => c = a ∨ c = ta ∨ c = ba ∨ ∃ i, i < 5 ∧ PW (sv i) c) I I' ∧ (∀ c j, (∀ i, i < 5 → ¬ (c = sv i + 1 ∧ j < 6) ∧ ¬ (c = sv i ∧ j = 14)) → R' c j = R c j) := by
  have hn := hRI.1
  have hX2 := hX
  obtain ⟨h1, h2, h3, h4, h5, h6, h7, h8, h9, h10, h11⟩ := hX2
  have hV0 := h10 0 (by omega)
  obtain ⟨I1, R1, a1, a2, a3, a4⟩ := c_copyA (X := X) (d := d + 10) hV0 hA hn (Or.inl (hov 0 (by omega)))
  have na : ∀ c t z, K[c]? = some (t, z) → (z = 9 ∨ z = 4 ∨ z = 5) → ¬ PW (sv 0) c := fun c t z hc hz => PW_no hV0 hc (by omega)
  have na1 : ∀ c t z, K[c]? = some (t, z) → (t = 0 ∨ t = 24) → c ≠ sv 0 + 1 ∧ c ≠ sv 0 := fun c t z hc hz => ⟨(fun g => by rw [g, hV0.2.1] at hc; cases hc; omega), (fun g => by rw [g, hV0.1] at hc; cases hc; omega)⟩
  have hX1 : AX K R1 a sa ta ba sv := by
    have ra : ∀ j, R1 a j = R a j := fun j => a4 a j (fun g => (na1 a _ _ h1 (Or.inl rfl)).1 g.1) (fun g => (na1 a _ _ h1 (Or.inl rfl)).2 g.1)
    refine ⟨h1, h2, h3, h4, h5, (ra 1).trans h6, (ra 2).trans h7, (ra 3).trans h8, fun i hi => ?_, fun i hi => ?_, h11⟩
    · rw [a4 sa i (fun g => (na1 sa _ _ h2 (Or.inr rfl)).1 g.1) (fun g => (na1 sa _ _ h2 (Or.inr rfl)).2 g.1)]
      exact h9 i hi
    · refine (h10 i hi).r (fun j hj => a4 (sv i) j (fun g => ?_) (fun g => by omega))
      rcases Nat.eq_zero_or_pos i with c | c
      · subst c; omega
      · have := h11 0 i c hi; omega
  obtain ⟨J, hJ⟩ : ∃ J, J = upI (upI I1 a 4 (-1)) a 5 0 := ⟨_, rfl⟩
  have fJ : FR (PS4 a ta ba sv 0) I1 J := by rw [hJ]; exact (FR.up (Or.inl rfl)).tr (FR.up (Or.inl rfl))
  have hp2 := pw_le (k := m) hn hm
  have hvo := hA.1
  have v8 := hA.2.1.1
  have na0 : ∀ c, o ≤ c → c ≤ o + 8 → ¬ PA5 a ta ba sv c := fun c c1 c2 g => by
    obtain ⟨k0, k1, k2, k3, k4, k5, k6, k7, k8, -⟩ := hvo
    rcases g with g | g | g | ⟨i, i1, g⟩
    · rcases (by omega : c = o ∨ c = o + 1 ∨ c = o + 2 ∨ c = o + 3 ∨ c = o + 4 ∨ c = o + 5 ∨ c = o + 6 ∨ c = o + 7 ∨ c = o + 8) with e | e | e | e | e | e | e | e | e <;> (rw [← g, e] at h1; simp_all)
    · rcases (by omega : c = o ∨ c = o + 1 ∨ c = o + 2 ∨ c = o + 3 ∨ c = o + 4 ∨ c = o + 5 ∨ c = o + 6 ∨ c = o + 7 ∨ c = o + 8) with e | e | e | e | e | e | e | e | e <;> (rw [← g, e] at h3; simp_all)
    · rcases (by omega : c = o ∨ c = o + 1 ∨ c = o + 2 ∨ c = o + 3 ∨ c = o + 4 ∨ c = o + 5 ∨ c = o + 6 ∨ c = o + 7 ∨ c = o + 8) with e | e | e | e | e | e | e | e | e <;> (rw [← g, e] at h4; simp_all)
    · have := hov i i1
      unfold PW at g
      omega
  have q8 : ∀ J', FR (PA5 a ta ba sv) I J' → J' o 8 = nI n := fun J' h => by rw [h o (na0 o (by omega) (by omega))]; exact v8
  have fIJ : FR (PA5 a ta ba sv) I J := (a3.mo (fun c hc => Or.inr (Or.inr (Or.inr ⟨0, by omega, hc⟩)))).tr (fJ.mo (fun c hc => by
    rcases hc with h | h | h | ⟨z, z1, z2, h⟩
    · exact Or.inl h
    · exact Or.inr (Or.inl h)
    · exact Or.inr (Or.inr (Or.inl h))
    · exact Or.inr (Or.inr (Or.inr ⟨z, z2, h⟩))))
  have ko : K[o]? = some (10, 16) := hvo.1
  have hX1c := hX1
  obtain ⟨-, -, -, -, -, i6, i7, i8, i9, -, -⟩ := hX1c
  have li : ∀ mm k (Ji : Nat → Nat → Int32), k + mm = m → FR (fun c => c = ta) J Ji → (∀ j, j < k → Ji ta j = dv9 (if 0 = n then none else some 0)) → ∃ Je, FR (fun c => c = ta) J Je ∧ (∀ j, j < m → Je ta j = dv9 (if 0 = n then none else some 0)) ∧ ∀ Z : Option Value × Hp, Ev X (d + 11) kX0_findAgenda 29 [some (.ref a), some (.ref o), some (.int (nI m)), some (.int (nI m)), some (.int (nI m)), none] [] (K, Je, R1) Z → Ev X (d + 11) kX0_findAgenda 29 [some (.ref a), some (.ref o), some (.int (nI m)), some (.int (nI m)), some (.int (nI k)), none] [] (K, Ji, R1) Z := by
    intro mm
    induction mm with
    | zero =>
      intro k Ji hk fi hi
      have e0 : k = m := by omega
      subst e0
      exact ⟨Ji, fi, hi, fun Z g => g⟩
    | succ mm ih =>
      intro k Ji hk fi hi
      obtain ⟨Jn, hJn⟩ : ∃ Jn, Jn = upI Ji ta k (dv9 (if 0 = n then none else some 0)) := ⟨_, rfl⟩
      obtain ⟨Je, e1, e2, e3⟩ := ih (k + 1) Jn (by omega) (fi.tr (by rw [hJn]; exact FR.up rfl)) (fun j hj => by
        rw [hJn, upI_eq]
        by_cases hjk : j = k
        · subst hjk; rw [upd_at]
        · rw [upd_ne hjk]; exact hi j (by omega))
      refine ⟨Je, e1, e2, fun Z g => ?_⟩
      have g := e3 Z g
      rw [nI_succ k] at g
      have ft := c_firstTalk (X := X) (d := d + 10) (n := n) (K, Ji, R1) hn
      have w8 : Ji o 8 = nI n := q8 Ji (fIJ.tr (fi.mo (fun c hc => Or.inr (Or.inl hc))))
      (repeat refine Ev.p rfl rfl ?_)
      refine Ev.bp rfl (fun c => absurd c (nI_ge (by omega) (by omega))) (fun c => ?_)
      (repeat (first | refine Ev.p rfl rfl ?_ | refine Ev.gr (by rfl) (by rfl) (by assumption) (by rfl) (by assumption) ?_ | refine Ev.gi (by rfl) (by rfl) (by assumption) (by rfl) (by assumption) ?_))
      refine Ev.c rfl ft ?_
      refine Ev.iast (j := k) (by rfl) (by assumption) (by rfl) (by omega) (by omega) ?_
      rw [← hJn]
      (repeat (first | (refine Ev.at (q := 29) rfl ?_; exact g) | refine Ev.p rfl rfl ?_))
  obtain ⟨Je, e1, e2, e3⟩ := li m 0 J (by omega) (FR.rf J) (fun j hj => by omega)
  have fIe : FR (PA5 a ta ba sv) I Je := fIJ.tr (e1.mo (fun c hc => Or.inr (Or.inl hc)))
  have fe : FR (PS4 a ta ba sv 4) I1 Je := (show FR (PS4 a ta ba sv 4) I1 J from by rw [hJ]; exact (FR.up (Or.inl rfl)).tr (FR.up (Or.inl rfl))).tr (e1.mo (fun c hc => Or.inr (Or.inl hc)))
  have hV0' : VR K Je R1 sv s n cls du fd m 0 0 := fun i hi => by
    have : i = 0 := by omega
    subst this
    exact a2.sx hX1 (k := 4) (fun z z1 z2 => by omega) fe (fun _ _ _ => rfl)
  have nta : a ≠ ta := fun g => by rw [g, h3] at h1; cases h1
  obtain ⟨I', R', g1, g2, g3, g4⟩ := c_rows (X := X) (d := d) (a := a) (sa := sa) (ta := ta) (ba := ba) (sv := sv) (s := s) (cls := cls) (du := du) (fd := fd) (e := e) hm hRI hfd hf he ko ((n + 1) ^ m - 1) 0 0 Je R1 (by omega) (by omega) (fun J' h => q8 J' (fIe.tr h)) hX1 hV0' (fun j hj => by
    have := rDig_0 (n := n) (P := 0) (k := 0) (m := m) (Nat.zero_le _) hj
    rw [Nat.zero_mul] at this
    rw [e2 j hj, this]) ⟨by rw [e1 a nta, hJ, upI_eq, upd_ne (by omega), upI_eq, upd_at]; rfl, by rw [e1 a nta, hJ, upI_eq, upd_at]; rfl, fun h => by omega⟩
  have hmn := j_min (X := X) (d := d + 10) (K, I, R) (nI m) 4
  rw [if_pos (show nI m ≤ (4 : Int32) from nI_le (b := 4) hm (by omega))] at hmn
  refine ⟨I', R', ?_, g2, fIe.tr g3, ?_⟩
  · have w0 := hV0.1
    have t := e3 (none, (K, I', R')) (by
      (repeat refine Ev.p rfl rfl ?_)
      refine Ev.bp rfl (fun c => ?_) (fun c => absurd (Int32.le_refl _) c)
      (repeat (first | (refine Ev.at (q := 61) rfl ?_; exact g1) | refine Ev.p rfl rfl ?_)))
    (repeat refine Ev.p rfl rfl ?_)
    refine Ev.c rfl hmn ?_
    (repeat (first | refine Ev.p rfl rfl ?_ | refine Ev.gr (by rfl) (by rfl) (by assumption) (by rfl) (by assumption) ?_ | refine Ev.gi (by rfl) (by rfl) (by assumption) (by rfl) (by assumption) ?_))
    (refine Ev.aald (j := 0) (by rfl) (by assumption) (Or.inr rfl) (by rfl) (by omega) (by omega) ?_; rw [show xv (R sa 0) = .ref (sv 0) from by rw [h9 0 (by omega)]; rfl])
    (repeat refine Ev.p rfl rfl ?_)
    refine Ev.cv (by rfl) (by rfl) (by assumption) (by rfl) (by rfl) (by rfl) (by rfl) (by rfl) a1 ?_
    (repeat refine Ev.p rfl rfl ?_)
    refine Ev.pi (by rfl) (by rfl) (by assumption) (by rfl) ?_
    (repeat refine Ev.p rfl rfl ?_)
    refine Ev.pi (by rfl) (by rfl) (by assumption) (by rfl) ?_
    rw [← hJ]
    (repeat (first | (refine Ev.at (q := 29) rfl ?_; exact t) | refine Ev.p rfl rfl ?_))
  · intro c j hc
    rw [g4 c j (fun i i1 i2 => hc i i2), a4 c j (hc 0 (by omega)).1 (hc 0 (by omega)).2]
end AGENDAC
