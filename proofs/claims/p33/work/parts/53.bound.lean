/-! HOW FAR NUMBERS GO -/
def bd (x : Int32) (b : Nat) : Prop := -(b : Int) ≤ x.toInt ∧ x.toInt ≤ b
theorem bd.mo {x : Int32} {a b : Nat} (h : bd x a) (hab : a ≤ b) : bd x b := ⟨by have := h.1; omega, by have := h.2; omega⟩
theorem bm {z : Int} (h1 : -1000000000 ≤ z) (h2 : z ≤ 1000000000) : z.bmod (2 ^ 32) = z := by
  rw [Int.bmod_def]
  have : (2 : Int) ^ 32 = 4294967296 := by decide
  split <;> omega
theorem bd_add {x y : Int32} {a b : Nat} (hx : bd x a) (hy : bd y b) (h : a + b ≤ 1000000000) : bd (x + y) (a + b) := by
  have e : (x + y).toInt = x.toInt + y.toInt := by
    rw [Int32.toInt_add, bm (by have := hx.1; have := hy.1; omega) (by have := hx.2; have := hy.2; omega)]
  unfold bd
  rw [e]
  have := hx.1; have := hx.2; have := hy.1; have := hy.2
  omega
theorem bd_sub {x y : Int32} {a b : Nat} (hx : bd x a) (hy : bd y b) (h : a + b ≤ 1000000000) : bd (x - y) (a + b) := by
  have e : (x - y).toInt = x.toInt - y.toInt := by
    rw [Int32.toInt_sub, bm (by have := hx.1; have := hy.2; omega) (by have := hx.2; have := hy.1; omega)]
  unfold bd
  rw [e]
  have := hx.1; have := hx.2; have := hy.1; have := hy.2
  omega
theorem bd_n {n b : Nat} (h : n ≤ b) (hb : b ≤ 1000000000) : bd (nI n) b := by
  unfold bd
  rw [nI_toInt (by omega)]
  omega
theorem bd_half {x : Int32} {a : Nat} (hx : bd x a) (h : a ≤ 1000000000) : bd (x / 2) a := by
  have e2 : (2 : Int32).toInt = 2 := by decide
  have h1 := hx.1
  have h2 := hx.2
  have hq : -(a : Int) ≤ x.toInt.tdiv 2 ∧ x.toInt.tdiv 2 ≤ a := by
    have h3 : (x.toInt.tdiv 2).natAbs ≤ x.toInt.natAbs := by
      rw [Int.natAbs_tdiv]
      exact Nat.div_le_self _ _
    omega
  unfold bd
  rw [Int32.toInt_div, e2, bm (by omega) (by omega)]
  exact hq
theorem bd_nn {x : Int32} {a : Nat} (hx : bd x a) {t : Nat} (ht : t ≤ 99) (ha : a ≤ 1000000) : 0 ≤ nI t + (if x ≤ 0 then 0 else x) := by
  by_cases h : x ≤ 0
  · rw [if_pos h, Int32.add_zero]
    exact nI_pos' (by omega)
  · rw [if_neg h]
    have h0 : 0 < x := Int32.not_le.mp h
    have h1 : (0 : Int) < x.toInt := by simpa using Int32.lt_iff_toInt_lt.mp h0
    have e : (nI t + x).toInt = t + x.toInt := by
      rw [Int32.toInt_add, nI_toInt (by omega), bm (by omega) (by have := hx.2; omega)]
    apply Int32.le_iff_toInt_le.mpr
    rw [e]
    show (0 : Int) ≤ _
    omega
/-- values stay small -/
def SX (s : Nat → Int32) : Prop := ∀ p, p < 6 → (∃ t, t ≤ 99 ∧ s (8 + p) = nI t) ∧ (∃ w, w ≤ 9 ∧ s (39 + p) = nI w) ∧ ∀ k, k < 4 → ∃ r, r ≤ 9 ∧ s (45 + 4 * p + k) = nI r
theorem sumC_bd (by' : Nat → Int32) : ∀ (cls : Cls) (sum : Int32) (b : Nat), (∀ q ∈ cls, q.1 ≤ 99) → bd sum b → b + 99 * cls.length ≤ 1000000 → bd (sumC by' cls sum) (b + 99 * cls.length) := by
  intro cls
  induction cls with
  | nil => intro sum b _ h _; exact h
  | cons q cls ih =>
    intro sum b hq hs hb
    simp only [List.length_cons] at hb ⊢
    have h1 : bd (addC by' q sum (evL by' q.2.2 [])) (b + 99) := by
      have hn := bd_n (hq q (List.mem_cons_self ..)) (by omega)
      unfold addC
      split
      · split
        · exact bd_add hs hn (by omega)
        · exact bd_sub hs hn (by omega)
      · exact hs.mo (by omega)
    have h2 := ih _ (b + 99) (fun q' hq' => hq q' (List.mem_cons_of_mem _ hq')) h1 (by omega)
    exact h2.mo (by omega)
theorem stir_bd {s : Nat → Int32} {n p : Nat} {cls : Cls} (hn : n ≤ 6) (h01 : r01 s) (hX : SX s) (hp : p < 6) (hcl : clOK cls) (hlen : cls.length ≤ 10) : bd (rStir s n p cls) 10000 := by
  have hs : bd (rSum s n p cls) 1000 := by
    have h5 : bd (5 : Int32) 5 := by unfold bd; decide
    exact (sumC_bd _ cls 5 5 (fun q hq => (hcl q hq).1) h5 (by omega)).mo (by omega)
  obtain ⟨-, ⟨w, hw, ew⟩, hr⟩ := hX p hp
  have hm : bd (rMar s n p cls) 1000 := by
    unfold rMar
    split
    · exact bd_half hs (by omega)
    · exact hs
  have hb : bd (rBou s n p cls) 1009 := by
    unfold rBou
    rw [ew]
    exact bd_sub hs (bd_n hw (by omega)) (by omega)
  have hl : bd (rLoa s n p cls) 1006 := by
    unfold rLoa
    rw [rSB_mk h01 hn]
    exact bd_add hs (bd_n (Nat.le_trans (cnt_le _ n) hn) (by omega)) (by omega)
  have h2 : ∀ x : Int32, bd x 1009 → bd (2 * x) 10000 := by
    intro x hx
    have e : 2 * x = x + x := by
      apply Int32.toBitVec_inj.mp
      simp [BitVec.two_mul]
    rw [e]
    exact (bd_add hx hx (by omega)).mo (by omega)
  unfold rStir
  generalize (s (33 + p)).toNatClampNeg = kk
  unfold rStK
  split
  · exact hm.mo (by omega)
  · exact hb.mo (by omega)
  · exact hl.mo (by omega)
  · split
    · unfold bd; decide
    · exact hm.mo (by omega)
  · split
    · exact h2 _ hb
    · exact hb.mo (by omega)
  · obtain ⟨r, hr1, hr2⟩ := hr ((s 0).toNatClampNeg % 4) (by omega)
    rw [hr2]
    exact (bd_add hl (bd_n hr1 (by omega)) (by omega)).mo (by omega)
  · exact hs.mo (by omega)
theorem TBk_of {s : Nat → Int32} {n : Nat} {cls : Cls} (hn : n ≤ 6) (h01 : r01 s) (hX : SX s) (hcl : clOK cls) (hlen : cls.length ≤ 10) : TBk s n cls := by
  intro p hp
  obtain ⟨⟨t, ht, et⟩, -⟩ := hX p (by omega)
  have h0 : 0 ≤ rTk s n p cls := by
    unfold rTk
    rw [et]
    exact bd_nn (stir_bd hn h01 hX (by omega) hcl hlen) ht (by omega)
  refine ⟨by rw [et]; exact nI_pos' (by omega), ?_⟩
  unfold rTlk
  split
  · exact h0
  · decide
/-- what a run keeps to -/
def RI (s : Nat → Int32) (n e : Nat) (cls : Cls) : Prop := n ≤ 6 ∧ SF s n ∧ SX s ∧ s 0 = nI e ∧ clOK cls ∧ cls.length ≤ 10
theorem RI.T {s : Nat → Int32} {n e : Nat} {cls : Cls} (h : RI s n e cls) : TBk s n cls := TBk_of h.1 h.2.1.1 h.2.2.1 h.2.2.2.2.1 h.2.2.2.2.2
theorem nn_99 {x : Int32} (h0 : 0 ≤ x) (h1 : x ≤ 99) : ∃ t, t ≤ 99 ∧ x = nI t := nI_of2 (M := 99) (n := 99) (by decide) (Int32.not_lt.mpr h0) h1
theorem go_o {s : Nat → Int32} {n : Nat} {cls : Cls} {du fd : Int32} {tk : Option Nat} {x : Int32} (hn : n ≤ 6) (hx : tkV tk n x) {p : Nat} (hp : p < 6) (hpn : n ≤ p) : rGo s n cls du fd tk (8 + p) = s (8 + p) ∧ rGo s n cls du fd tk (2 + p) = s (2 + p) := by
  have e8 : rG1 s n cls du (rHr s n tk) (8 + p) = s (8 + p) ∧ rG1 s n cls du (rHr s n tk) (2 + p) = s (2 + p) := by
    cases hr : rHr s n tk with
    | none => exact ⟨rfl, rfl⟩
    | some p' =>
      have hp' := (rHr_lt hx hr).1
      show rTalk s n p' cls du (8 + p) = _ ∧ rTalk s n p' cls du (2 + p) = _
      unfold rTalk
      exact ⟨by rw [upd_ne (by omega), upd_ne (by omega)], by rw [upd_ne (by omega), upd_ne (by omega)]⟩
  refine ⟨?_, ?_⟩
  · rw [rGo_j (by omega), (rG_val _ _ _ _ n hn).1 p hp, if_neg (by omega), e8.1]
  · rw [rGo_j (by omega), (rG_val _ _ _ _ n hn).2.1 p hp, if_neg (by omega), e8.2]
theorem SX_go {s : Nat → Int32} {n : Nat} {cls : Cls} {du fd : Int32} {tk : Option Nat} {x : Int32} (hn : n ≤ 6) (hX : SX s) (hT : TBk s n cls) (hx : tkV tk n x) {f : Nat} (hfd : fd = nI f) (hf : f ≤ 99) : SX (rGo s n cls du fd tk) := by
  intro p hp
  have ha := rGo_al (s := s) hn cls du fd hx
  obtain ⟨⟨t, ht, et⟩, h2, h3⟩ := hX p hp
  refine ⟨?_, ?_, ?_⟩
  · by_cases hpn : p < n
    · have g := go_8 (du := du) (fd := fd) hn hx hT hpn
      by_cases hr : rHr s n tk = some p
      · rw [g.1 hr]
        refine nn_99 (hT p hpn).2 ?_
        unfold rTlk
        split
        · assumption
        · exact Int32.le_refl _
      · cases ho : rOp s p with
        | true =>
          rw [g.2.1 hr ho, et, hfd]
          by_cases h9 : nI t - nI f ≤ 0
          · rw [if_pos h9]; exact ⟨0, by omega, rfl⟩
          · rw [if_neg h9]
            have hlt : f ≤ t := by
              rcases Nat.lt_or_ge t f with h | h
              · exact absurd (Int32.le_of_lt (pk_sneg (a := t) (b := f) (by omega) h)) h9
              · exact h
            rw [pk_sub hlt]
            exact ⟨t - f, by omega, rfl⟩
        | false => rw [g.2.2 hr ho]; exact ⟨t, ht, et⟩
    · rw [(go_o hn hx hp (by omega)).1]; exact ⟨t, ht, et⟩
  · rw [ha _ (by omega)]; exact h2
  · intro k hk
    rw [ha _ (by omega)]
    exact h3 k hk
theorem RI_go {s : Nat → Int32} {n e : Nat} {cls : Cls} {du fd : Int32} {tk : Option Nat} {x : Int32} (h : RI s n e cls) (hx : tkV tk n x) {f : Nat} (hfd : fd = nI f) (hf : f ≤ 99) : RI (rGo s n cls du fd tk) n (e + 1) cls := ⟨h.1, SF_go h.2.1 h.1 cls du fd hx, SX_go h.1 h.2.2.1 h.T hx hfd hf, by rw [rGo_0, h.2.2.2.1, nI_succ], h.2.2.2.2⟩
