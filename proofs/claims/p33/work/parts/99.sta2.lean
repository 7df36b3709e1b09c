/-! A CALL OF THE LAW: station, the class's side -/
/-- what station may write: the spare at sp, the Veranda's due, station and stations, the Hand's signs, the face's spare -/
def STF (K : List (Nat × Nat)) (I : Nat → Nat → Int32) (R : Nat → Nat → Option Nat) (sp : Nat) (J : Nat → Nat → Int32) (Q : Nat → Nat → Option Nat) : Prop := (∀ c, c < K.length → ¬ (sp ≤ c ∧ c ≤ sp + 3) → c ≠ 1 → c ≠ 15 → J c = I c) ∧ (∀ j, j ≠ 13 → j ≠ 15 → J 1 j = I 1 j) ∧ (∀ j, j ≠ 1 → J 15 j = I 15 j) ∧ J 15 1 = 0 ∧ (∀ c j, c < K.length → ¬ (c = sp ∧ j = 7) → ¬ (c = 1 ∧ j = 14) → ¬ (c = 0 ∧ j = 6) → Q c j = R c j)
section STATION
variable {X : Nat × (Nat → Int32)} {d : Nat} {K : List (Nat × Nat)} {T : List (Nat × Nat)} {I : Nat → Nat → Int32} {R : Nat → Nat → Option Nat} {s : Nat → Int32} {n e sp act z : Nat} {hd : Option Nat} {cls : Cls} {l : List Int32} {im : Option Img}
theorem c_hold {v q : Nat} {x y : Int32} (hv : K[v]? = some (10, 16)) (hq : K[q]? = some (8, 10)) (h0 : I q 0 = x) (h15 : I v 15 = y) (hqv : q ≠ v) : Ev X d kX10_hold 0 (ent kX10_hold [.ref v, .ref q]) [] (K, I, R) (none, (K, upI (upI I v 13 x) v 15 (y + 1), upR R v 14 (some q))) := by
  have e15 : upI I v 13 x v 15 = y := by rw [upI_eq, upd_ne (by omega)]; exact h15
  (repeat (first | refine Ev.p rfl rfl ?_ | refine Ev.gr (by rfl) (by rfl) (by assumption) (by rfl) (by assumption) ?_ | refine Ev.gi (by rfl) (by rfl) (by assumption) (by rfl) (by assumption) ?_))
  refine Ev.pr (by rfl) (by rfl) hv (by rfl) ?_
  (repeat (first | refine Ev.p rfl rfl ?_ | refine Ev.gr (by rfl) (by rfl) (by assumption) (by rfl) (by assumption) ?_ | refine Ev.gi (by rfl) (by rfl) (by assumption) (by rfl) (by assumption) ?_))
  refine Ev.pi (by rfl) (by rfl) hv (by rfl) ?_
  (repeat (first | refine Ev.p rfl rfl ?_ | refine Ev.gr (by rfl) (by rfl) (by assumption) (by rfl) (by assumption) ?_ | refine Ev.gi (by rfl) (by rfl) (by assumption) (by rfl) (by assumption) ?_))
  refine Ev.pi (by rfl) (by rfl) hv (by rfl) ?_
  ((repeat refine Ev.p rfl rfl ?_); exact Ev.r rfl)
theorem stC.away {K K' : List (Nat × Nat)} {I J : Nat → Nat → Int32} {R Q : Nat → Nat → Option Nat} {q : Nat} {fd : Int32} {cls : Cls} (h : stC K I R q fd cls) (hs : CKn K R sp) (hq : q ≠ sp) (h1 : K[1]? = some (10, 16)) (h15 : K[15]? = some (3, 12)) (h0 : K[0]? = some (11, 8)) (hk : KM K K') (hF : STF K I R sp J Q) : stC K' J Q q fd cls := by
  refine stC.km ?_ hk
  obtain ⟨s0, s1, s2, s3, -⟩ := hs
  have lk : ∀ (c : Nat) (y : Nat × Nat), K[c]? = some y → c < K.length := fun c y h => (List.getElem?_eq_some_iff.mp h).1
  have no : ∀ i, i ≤ 3 → ¬ (sp ≤ q + i ∧ q + i ≤ sp + 3) := fun i hi g => by
    have a0 := h.1
    rcases (by omega : q = sp + 1 ∨ q = sp + 2 ∨ q = sp + 3 ∨ sp = q + 1 ∨ sp = q + 2 ∨ sp = q + 3) with g | g | g | g | g | g
    · rw [g, s1] at a0; cases a0
    · rw [g, s2] at a0; cases a0
    · rw [g, s3] at a0; cases a0
    · have := h.2.1; rw [← g, s0] at this; cases this
    · have := h.2.2.1; rw [← g, s0] at this; cases this
    · have := h.2.2.2.1; rw [← g, s0] at this; cases this
  have n1 : ∀ c t z, K[c]? = some (t, z) → (t = 8 ∨ t = 20) → c ≠ 1 ∧ c ≠ 15 ∧ c ≠ 0 := fun c t z hc ht => by
    refine ⟨fun g => ?_, fun g => ?_, fun g => ?_⟩
    · rw [g, h1] at hc; cases hc; omega
    · rw [g, h15] at hc; cases hc; omega
    · rw [g, h0] at hc; cases hc; omega
  have m0 := n1 _ _ _ h.1 (Or.inl rfl)
  have m1 := n1 _ _ _ h.2.1 (Or.inr rfl)
  have m2 := n1 _ _ _ h.2.2.1 (Or.inr rfl)
  have m3 := n1 _ _ _ h.2.2.2.1 (Or.inr rfl)
  have h' := h.fr (I' := J) (hF.1 q (lk _ _ h.1) (no 0 (by omega)) m0.1 m0.2.1) (hF.1 (q + 1) (lk _ _ h.2.1) (no 1 (by omega)) m1.1 m1.2.1) (hF.1 (q + 2) (lk _ _ h.2.2.1) (no 2 (by omega)) m2.1 m2.2.1) (hF.1 (q + 3) (lk _ _ h.2.2.2.1) (no 3 (by omega)) m3.1 m3.2.1)
  have r : ∀ j, Q q j = R q j := fun j => hF.2.2.2.2 q j (lk _ _ h.1) (fun g => hq g.1) (fun g => m0.1 g.1) (fun g => m0.2.2 g.1)
  unfold stC at h' ⊢
  rw [r 3, r 4, r 5]
  exact h'
theorem c_station (hF : FX K R) (hVH : VH K I R 1 15 s n hd cls) (h6 : R 0 6 = some sp) (hs : CKn K R sp) (h27 : s 27 = nI act) (ha5 : act ≤ 5) (h31 : s 31 = nI z) (hz : z ≤ 100) (ht : tOK (fun j => s (122 + j)) z) :
    (act = 5 → Ev X 59 kX11_station 0 (ent kX11_station [.ref 0]) [] (K, I, R) (some (.int (-4)), (K, I, R))) ∧
    (act < 5 → (pS (fun i => s (122 + i)) z 10 0 (20, 1, [])).1 = false → ∃ J Q, Ev X 59 kX11_station 0 (ent kX11_station [.ref 0]) [] (K, I, R) (some (.int (-10 - nI (pS (fun i => s (122 + i)) z 10 0 (20, 1, [])).2.1)), (K, J, Q)) ∧ STF K I R sp J Q ∧ J 1 13 = I 1 13 ∧ J 1 15 = I 1 15 ∧ Q 1 14 = R 1 14 ∧ Q 0 6 = some sp) ∧
    (act < 5 → (pS (fun i => s (122 + i)) z 10 0 (20, 1, [])).1 = true → ∃ J Q, Ev X 59 kX11_station 0 (ent kX11_station [.ref 0]) [] (K, I, R) (some (.int (nI act)), (K ++ [(8, 10), (20, 10), (20, 10), (20, 100), (21, 0)], J, Q)) ∧ STF K I R sp J Q ∧ J 1 13 = nI (pS (fun i => s (122 + i)) z 10 0 (20, 1, [])).2.2.1 ∧ J 1 15 = nI (act + 1) ∧ Q 1 14 = some sp ∧ Q 0 6 = some K.length ∧ stC (K ++ [(8, 10), (20, 10), (20, 10), (20, 100), (21, 0)]) J Q sp (nI (pS (fun i => s (122 + i)) z 10 0 (20, 1, [])).2.2.2.1) (pS (fun i => s (122 + i)) z 10 0 (20, 1, [])).2.2.2.2 ∧ CKn (K ++ [(8, 10), (20, 10), (20, 10), (20, 100), (21, 0)]) Q K.length) := by
  have hno := hF.uc
  obtain ⟨f0, f1, f2, f3, f4, f5, f6, fv1, fv2, fv3, fh1, fh2, -⟩ := hF
  have k0 := fv1.1
  have ks := hs.1
  obtain ⟨j0, jt, -, -, -, -, -, -, q0, -⟩ := id fh1
  have h15 : I 1 15 = nI act := hVH.2.1.trans h27
  have hHM := hVH.2.2.2.2
  have hsg : I 15 1 = nI z := hHM.1.trans h31
  have htp : ∀ j, j < z → I 16 j = s (122 + j) := fun j hj => hHM.2.2.2.2.1 j (by omega)
  have htI : tOK (I 16) z := fun j hj => by rw [htp j hj]; exact ht j hj
  have hal := pS_al (pk_al htp) 10 0 (20, 1, [])
  obtain ⟨P, hP⟩ : ∃ P, P = pS (fun i => s (122 + i)) z 10 0 (20, 1, []) := ⟨_, rfl⟩
  have hok := pS_ok (t := fun i => s (122 + i)) (z := z) 10 0 (20, 1, []) (by omega) stI_0
  rw [← hP] at hal hok ⊢
  obtain ⟨I', e1, e2, e3⟩ := c_read (X := X) (d := 30) (K := K) (I := I) (R := R) hs (show K[16]? = some (21, 100) from jt) hz htI
  rw [hal] at e1 e2
  have lk : ∀ (c : Nat) (y : Nat × Nat), K[c]? = some y → c < K.length := fun c y h => (List.getElem?_eq_some_iff.mp h).1
  have ns : ¬ UC sp := hno sp 8 10 hs.1 (by omega)
  have ns1 : ¬ UC (sp + 1) := hno (sp + 1) 20 10 hs.2.1 (by omega)
  have ns2 : ¬ UC (sp + 2) := hno (sp + 2) 20 10 hs.2.2.1 (by omega)
  have ns3 : ¬ UC (sp + 3) := hno (sp + 3) 20 100 hs.2.2.2.1 (by omega)
  have sp0 : sp ≠ 0 := fun g => by
    have := hs.1
    rw [g, f0] at this; cases this
  have nuc : ∀ c, UC c → c ≠ sp ∧ c ≠ sp + 1 ∧ c ≠ sp + 2 ∧ c ≠ sp + 3 := fun c hc => ⟨fun g => ns (g ▸ hc), fun g => ns1 (g ▸ hc), fun g => ns2 (g ▸ hc), fun g => ns3 (g ▸ hc)⟩
  have n1 := nuc 1 (by unfold UC; omega)
  have n15 := nuc 15 (by unfold UC; omega)
  obtain ⟨Q, hQ⟩ : ∃ Q, Q = upR R sp 7 (some 16) := ⟨_, rfl⟩
  obtain ⟨J, hJ⟩ : ∃ J, J = upI I' 15 1 0 := ⟨_, rfl⟩
  have qo : ∀ c j, ¬ (c = sp ∧ j = 7) → Q c j = R c j := fun c j h => by
    rw [hQ]
    show (if c = sp ∧ j = 7 then some 16 else R c j) = _
    rw [if_neg h]
  rw [← hQ] at e1 e2
  have r1 : Q 0 1 = some 15 := (qo 0 1 (by omega)).trans f2
  have r0 : Q 0 0 = some 1 := (qo 0 0 (by omega)).trans f1
  have r6 : Q 0 6 = some sp := (qo 0 6 (by omega)).trans h6
  have jo : ∀ c, ¬ (sp ≤ c ∧ c ≤ sp + 3) → c ≠ 15 → J c = I c := fun c c1 c2 => by
    rw [hJ, upI_ne c2, e3 c (by omega) (by omega) (by omega) (by omega)]
  have j15 : ∀ j, j ≠ 1 → J 15 j = I 15 j := fun j hj => by
    rw [hJ, upI_eq, upd_ne hj, e3 15 n15.1 n15.2.1 n15.2.2.1 n15.2.2.2]
  have j151 : J 15 1 = 0 := by rw [hJ, upI_eq, upd_at]
  have j1 : J 1 = I 1 := jo 1 (by omega) (by omega)
  have hsp1 : sp ≠ 1 := fun g => n1.1 g.symm
  have hsp15 : sp ≠ 15 := fun g => n15.1 g.symm
  have jsp : ∀ c, sp ≤ c → c ≤ sp + 3 → J c = I' c := fun c c1 c2 => by
    rw [hJ, upI_ne (by omega)]
  refine ⟨fun h5 => ?_, fun hact hf => ?_, fun hact hf => ?_⟩
  · subst h5
    (repeat (first | refine Ev.p rfl rfl ?_ | refine Ev.gr (by rfl) (by rfl) (by assumption) (by rfl) (by assumption) ?_ | refine Ev.gi (by rfl) (by rfl) (by assumption) (by rfl) (by assumption) ?_))
    ((repeat refine Ev.p rfl rfl ?_); exact Ev.r rfl)
  · rw [hf, if_neg (by decide)] at e1
    refine ⟨J, Q, ?_, ⟨fun c c0 c1 c2 c3 => jo c c1 c3, fun j _ _ => by rw [j1], j15, j151, fun c j _ h _ _ => qo c j h⟩, by rw [j1], by rw [j1], qo 1 14 (by omega), r6⟩
    have hb : P.2.1 < 2 ^ 31 := by
      have := hok.1
      omega
    (repeat (first | refine Ev.p rfl rfl ?_ | refine Ev.gr (by rfl) (by rfl) (by assumption) (by rfl) (by assumption) ?_ | refine Ev.gi (by rfl) (by rfl) (by assumption) (by rfl) (by assumption) ?_))
    refine Ev.bp rfl (fun c => ?_) (fun c => ?_)
    · (repeat (first | refine Ev.p rfl rfl ?_ | refine Ev.gr (by rfl) (by rfl) (by assumption) (by rfl) (by assumption) ?_ | refine Ev.gi (by rfl) (by rfl) (by assumption) (by rfl) (by assumption) ?_))
      refine Ev.cv (by rfl) (by rfl) (by assumption) (by rfl) (by rfl) (by rfl) (by rfl) (by rfl) e1 ?_
      (repeat (first | refine Ev.p rfl rfl ?_ | refine Ev.gr (by rfl) (by rfl) (by assumption) (by rfl) (by assumption) ?_ | refine Ev.gi (by rfl) (by rfl) (by assumption) (by rfl) (by assumption) ?_))
      refine Ev.pi (by rfl) (by rfl) j0 (by rfl) ?_
      rw [← hJ]
      (repeat (first | refine Ev.p rfl rfl ?_ | refine Ev.gr (by rfl) (by rfl) (by assumption) (by rfl) (by assumption) ?_ | refine Ev.gi (by rfl) (by rfl) (by assumption) (by rfl) (by assumption) ?_))
      refine Ev.bp rfl (fun c2 => ?_) (fun c2 => ?_)
      · exact absurd c2 (nI_pos hb)
      · ((repeat refine Ev.p rfl rfl ?_); exact Ev.r rfl)
    · exact absurd (nI_lt (b := 5) hact (by omega)) c
  · rw [hf, if_pos rfl] at e1
    obtain ⟨g1, g2⟩ := e2 hf
    have hJ0 : J sp 0 = nI P.2.2.1 := by rw [jsp sp (by omega) (by omega)]; exact g2
    have hh := c_hold (X := X) (d := 58) (K := K) (I := J) (R := Q) (v := 1) (q := sp) (y := nI act) k0 hs.1 hJ0 (by rw [j1]; exact h15) hsp1
    rw [nI_1] at hh
    obtain ⟨J1, hJ1⟩ : ∃ J1, J1 = upI (upI J 1 13 (nI P.2.2.1)) 1 15 (nI (act + 1)) := ⟨_, rfl⟩
    obtain ⟨Q1, hQ1⟩ : ∃ Q1, Q1 = upR Q 1 14 (some sp) := ⟨_, rfl⟩
    rw [← hJ1, ← hQ1] at hh
    obtain ⟨L, hL⟩ : ∃ L, K.length = L := ⟨_, rfl⟩
    rw [hL]
    obtain ⟨K1, hK1⟩ : ∃ K1, K1 = K ++ [(8, 10)] := ⟨_, rfl⟩
    have l1 : K1.length = L + 1 := by rw [hK1, List.length_append, hL]; rfl
    have kL : K1[L]? = some (8, 10) := by
      rw [hK1, List.getElem?_append_right (by omega), hL, Nat.sub_self]
      rfl
    obtain ⟨J3, Q3, i1, i2, i3, i4, i5, i6, -⟩ := c_init8 (X := X) (d := 58) (K := K1) (I := zrI J1 L) (R := zrR Q1 L) kL l1
    have e5 : K ++ [(8, 10), (20, 10), (20, 10), (20, 100), (21, 0)] = K1 ++ [(20, 10), (20, 10), (20, 100), (21, 0)] := by
      rw [hK1, List.append_assoc]
      rfl
    rw [e5]
    obtain ⟨K2, hK2⟩ : ∃ K2, K2 = K1 ++ [(20, 10), (20, 10), (20, 100), (21, 0)] := ⟨_, rfl⟩
    rw [← hK2] at i1 ⊢
    have km1 : KM K K1 := by rw [hK1]; exact KM.app _ _
    have km2 : KM K1 K2 := by rw [hK2]; exact KM.app _ _
    have km : KM K K2 := fun c y h => km2 c y (km1 c y h)
    have kx : ∀ i y, [((20 : Nat), (10 : Nat)), (20, 10), (20, 100), (21, 0)][i]? = some y → K2[L + 1 + i]? = some y := fun i y h => by
      rw [hK2, List.getElem?_append_right (by omega), l1, Nat.add_sub_cancel_left]
      exact h
    have l0 : 0 < L := by rw [← hL]; exact lk _ _ f0
    have l1' : 1 < L := by rw [← hL]; exact lk _ _ k0
    have l15 : 15 < L := by rw [← hL]; exact lk _ _ j0
    have lsp : sp + 3 < L := by rw [← hL]; exact lk _ _ hs.2.2.2.1
    obtain ⟨Q4, hQ4⟩ : ∃ Q4, Q4 = upR Q3 0 6 (some L) := ⟨_, rfl⟩
    have jf : ∀ c, c < L → J3 c = J1 c := fun c hc => (i5 c (by omega) (by omega)).trans (zrI_ne (by omega))
    have qf : ∀ c, c < L → Q3 c = Q1 c := fun c hc => (i6 c (by omega) (by omega)).trans (zrR_ne (by omega))
    have jj : ∀ c, c < L → c ≠ 1 → J3 c = J c := fun c hc h1 => by
      rw [jf c hc, hJ1, upI_ne h1, upI_ne h1]
    have jj1 : ∀ j, j ≠ 13 → j ≠ 15 → J3 1 j = I 1 j := fun j a b => by
      rw [jf 1 l1', hJ1, upI_eq, upd_ne b, upI_eq, upd_ne a, j1]
    have e13 : J3 1 13 = nI P.2.2.1 := by rw [jf 1 l1', hJ1, upI_eq, upd_ne (by omega), upI_eq, upd_at]
    have e15 : J3 1 15 = nI (act + 1) := by rw [jf 1 l1', hJ1, upI_eq, upd_at]
    have qq : ∀ c j, c < L → ¬ (c = 1 ∧ j = 14) → ¬ (c = 0 ∧ j = 6) → Q4 c j = Q c j := fun c j hc h1 h2 => by
      rw [hQ4]
      show (if c = 0 ∧ j = 6 then some L else Q3 c j) = _
      rw [if_neg h2, qf c hc, hQ1]
      show (if c = 1 ∧ j = 14 then some sp else Q c j) = _
      rw [if_neg h1]
    have q14 : Q4 1 14 = some sp := by
      rw [hQ4, upR_ne (by omega), qf 1 l1', hQ1, upR_at]
    have hst : stC K2 J3 Q4 sp (nI P.2.2.2.1) P.2.2.2.2 := by
      have h := g1.fr (I' := J3) ((jj sp (by omega) hsp1).trans (jsp sp (by omega) (by omega))) ((jj (sp + 1) (by omega) (by omega)).trans (jsp (sp + 1) (by omega) (by omega))) ((jj (sp + 2) (by omega) (by omega)).trans (jsp (sp + 2) (by omega) (by omega))) ((jj (sp + 3) (by omega) (by omega)).trans (jsp (sp + 3) (by omega) (by omega)))
      refine stC.km ?_ km
      unfold stC at h ⊢
      rw [qq sp 3 (by omega) (by omega) (by omega), qq sp 4 (by omega) (by omega) (by omega), qq sp 5 (by omega) (by omega) (by omega)]
      exact h
    refine ⟨J3, Q4, ?_, ⟨fun c c0 c1 c2 c3 => (jj c (by omega) c2).trans (jo c c1 c3), jj1, fun j hj => by rw [jj 15 l15 (by omega)]; exact j15 j hj, by rw [jj 15 l15 (by omega)]; exact j151, fun c j c0 h1 h2 h3 => (qq c j (by omega) h2 h3).trans (qo c j h1)⟩, e13, e15, q14, ?_, hst, km2 _ _ kL, kx 0 _ rfl, kx 1 _ rfl, kx 2 _ rfl, ?_, ?_, ?_⟩
    · have r0' : Q1 0 0 = some 1 := by rw [hQ1, upR_ne (by omega)]; exact r0
      have r6' : Q1 0 6 = some sp := by rw [hQ1, upR_ne (by omega)]; exact r6
      have s0 : Q4 0 0 = some 1 := (qq 0 0 l0 (by omega) (by omega)).trans r0
      have f0' : K2[0]? = some (11, 8) := km _ _ f0
      have k0' : K2[1]? = some (10, 16) := km _ _ k0
      (repeat (first | refine Ev.p rfl rfl ?_ | refine Ev.gr (by rfl) (by rfl) (by assumption) (by rfl) (by assumption) ?_ | refine Ev.gi (by rfl) (by rfl) (by assumption) (by rfl) (by assumption) ?_))
      refine Ev.bp rfl (fun c => ?_) (fun c => ?_)
      · (repeat (first | refine Ev.p rfl rfl ?_ | refine Ev.gr (by rfl) (by rfl) (by assumption) (by rfl) (by assumption) ?_ | refine Ev.gi (by rfl) (by rfl) (by assumption) (by rfl) (by assumption) ?_))
        refine Ev.cv (by rfl) (by rfl) (by assumption) (by rfl) (by rfl) (by rfl) (by rfl) (by rfl) e1 ?_
        (repeat (first | refine Ev.p rfl rfl ?_ | refine Ev.gr (by rfl) (by rfl) (by assumption) (by rfl) (by assumption) ?_ | refine Ev.gi (by rfl) (by rfl) (by assumption) (by rfl) (by assumption) ?_))
        refine Ev.pi (by rfl) (by rfl) j0 (by rfl) ?_
        rw [← hJ]
        (repeat (first | refine Ev.p rfl rfl ?_ | refine Ev.gr (by rfl) (by rfl) (by assumption) (by rfl) (by assumption) ?_ | refine Ev.gi (by rfl) (by rfl) (by assumption) (by rfl) (by assumption) ?_))
        (repeat (first | refine Ev.p rfl rfl ?_ | refine Ev.gr (by rfl) (by rfl) (by assumption) (by rfl) (by assumption) ?_ | refine Ev.gi (by rfl) (by rfl) (by assumption) (by rfl) (by assumption) ?_))
        refine Ev.cv (by rfl) (by rfl) (by assumption) (by rfl) (by rfl) (by rfl) (by rfl) (by rfl) hh ?_
        iterate 1 refine Ev.p rfl rfl ?_
        refine Ev.nw (by rfl) hL ?_
        rw [← hK1]
        iterate 1 refine Ev.p rfl rfl ?_
        refine Ev.csp (by rfl) (by rfl) (by rfl) kL (by rfl) (by rfl) (by rfl) (by rfl) i1 ?_
        refine Ev.pr (by rfl) (by rfl) f0' (by rfl) ?_
        rw [← hQ4]
        (repeat (first | refine Ev.p rfl rfl ?_ | refine Ev.gr (by rfl) (by rfl) (by assumption) (by rfl) (by assumption) ?_ | refine Ev.gi (by rfl) (by rfl) (by assumption) (by rfl) (by assumption) ?_))
        rw [nI_pred]
        ((repeat refine Ev.p rfl rfl ?_); exact Ev.r rfl)
      · exact absurd (nI_lt (b := 5) hact (by omega)) c
    · rw [hQ4, upR_at]
    · rw [hQ4, upR_ne (by omega)]; exact i2
    · rw [hQ4, upR_ne (by omega)]; exact i3
    · rw [hQ4, upR_ne (by omega)]; exact i4
end STATION
