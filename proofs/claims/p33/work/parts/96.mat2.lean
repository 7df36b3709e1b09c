/-! A CALL OF THE LAW: matter -/
/-- the class's heap behind MATTER: the new cell is L -/
def maI (I : Nat → Nat → Int32) (L n : Nat) (x y : Int32) : Nat → Nat → Int32 := upI (upI (upI (upI (upI (upI (zrI I L) L 0 (nI n)) L 1 x) L 2 y) 3 n x) 4 n y) 1 8 (nI (n + 1))
def maR (R : Nat → Nat → Option Nat) (L n : Nat) : Nat → Nat → Option Nat := upR (upR (zrR R L) L 3 (some 134)) 2 n (some L)
section MATTER
variable {X : Nat × (Nat → Int32)} {d : Nat} {K : List (Nat × Nat)} {T : List (Nat × Nat)} {I : Nat → Nat → Int32} {R : Nat → Nat → Option Nat} {s : Nat → Int32} {n e kk : Nat} {hd : Option Nat} {cls : Cls} {l : List Int32} {im : Option Img}
theorem lt7 {x : Int32} (h : x < 7) : x ≤ 6 := by
  rw [Int32.le_iff_toInt_le]
  rw [Int32.lt_iff_toInt_lt] at h
  have h3 : (6 : Int32).toInt = 6 := by decide
  have h4 : (7 : Int32).toInt = 7 := by decide
  omega
theorem le6 {x : Int32} (h : x ≤ 6) : x < 7 := Int32.lt_of_le_of_lt h (by decide)
theorem c_matter (hF : FX K R) (hG : GS s n hd cls e) (hVH : VH K I R 1 15 s n hd cls) (x y : Int32) : (∀ kk, kk ≤ 6 → x = nI kk → (0 ≤ y ∧ y ≤ 9) → n < 6 → Ev X 59 kX11_matter 0 (ent kX11_matter [.ref 0, .int x, .int y]) [] (K, I, R) (some (.int (nI n)), (K ++ [(kt kk, 4)], maI I K.length n (nI kk) y, maR R K.length n))) ∧ ((0 ≤ x ∧ x ≤ 6) → (0 ≤ y ∧ y ≤ 9) → n = 6 → Ev X 59 kX11_matter 0 (ent kX11_matter [.ref 0, .int x, .int y]) [] (K, I, R) (some (.int (-4)), (K, I, R))) ∧ ((0 ≤ x ∧ x ≤ 6) → ¬ (0 ≤ y ∧ y ≤ 9) → Ev X 59 kX11_matter 0 (ent kX11_matter [.ref 0, .int x, .int y]) [] (K, I, R) (some (.int (-2)), (K, I, R))) ∧ (¬ (0 ≤ x ∧ x ≤ 6) → Ev X 59 kX11_matter 0 (ent kX11_matter [.ref 0, .int x, .int y]) [] (K, I, R) (some (.int (-1)), (K, I, R))) := by
  have hV := hVH.1
  have hn6 := hG.2.1.1
  have h8 : I 1 8 = nI n := hV.2.1.1
  obtain ⟨f0, f1, f2, f3, f4, f5, f6, fv1, -⟩ := hF
  obtain ⟨k0, k1, k2, k3, -⟩ := id fv1
  have go : ∀ {Z : Option Value × Hp}, (0 ≤ x ∧ x ≤ 6) → Ev X 59 kX11_matter 12 [some (.ref 0), some (.int x), some (.int y), none] [] (K, I, R) Z → Ev X 59 kX11_matter 0 (ent kX11_matter [.ref 0, .int x, .int y]) [] (K, I, R) Z := by
    intro Z h g
    iterate 2 refine Ev.p rfl rfl ?_
    refine Ev.bp rfl (fun c => ?_) (fun c => ?_)
    · exact absurd c (Int32.not_lt.mpr h.1)
    · iterate 3 refine Ev.p rfl rfl ?_
      refine Ev.bp rfl (fun c2 => ?_) (fun c2 => ?_)
      · exact g
      · exact absurd (le6 h.2) c2
  have go2 : ∀ {Z : Option Value × Hp}, (0 ≤ x ∧ x ≤ 6) → (0 ≤ y ∧ y ≤ 9) → Ev X 59 kX11_matter 25 [some (.ref 0), some (.int x), some (.int y), none] [] (K, I, R) Z → Ev X 59 kX11_matter 0 (ent kX11_matter [.ref 0, .int x, .int y]) [] (K, I, R) Z := by
    intro Z h h2 g
    refine go h ?_
    iterate 2 refine Ev.p rfl rfl ?_
    refine Ev.bp rfl (fun c => ?_) (fun c => ?_)
    · exact absurd c (Int32.not_lt.mpr h2.1)
    · iterate 3 refine Ev.p rfl rfl ?_
      refine Ev.bp rfl (fun c2 => ?_) (fun c2 => ?_)
      · exact g
      · exact absurd h2.2 c2
  refine ⟨fun kk hkk ex hy hn => ?_, fun hx hy hn => go2 hx hy ?_, fun hx hy => go hx ?_, fun hx => ?_⟩
  · subst ex
    refine go2 ⟨nI_pos' (by omega), nI_le (b := 6) hkk (by omega)⟩ hy ?_
    have hl : 4 < K.length := by
      obtain ⟨-, -, -, -, k4, -⟩ := fv1
      have := (List.getElem?_eq_some_iff.mp k4).1
      omega
    have h1 := c_newMatter (X := X) (d := 55) (K := K) (I := I) (R := R) (nu := nI n) (v := y) f0 f6 hkk
    obtain ⟨L, hL⟩ : ∃ L, L = K.length := ⟨_, rfl⟩
    rw [← hL] at h1 hl ⊢
    obtain ⟨K1, hK1⟩ : ∃ K1, K1 = K ++ [(kt kk, 4)] := ⟨_, rfl⟩
    have km : KM K K1 := by rw [hK1]; exact KM.app K _
    have hm : K1[L]? = some (kt kk, 4) := by
      rw [hK1, List.getElem?_append_right (by omega), hL, Nat.sub_self]
      rfl
    rw [← hK1] at h1 ⊢
    obtain ⟨J, hJ⟩ : ∃ J, J = upI (upI (upI (zrI I L) L 0 (nI n)) L 1 (nI kk)) L 2 y := ⟨_, rfl⟩
    obtain ⟨Q, hQ⟩ : ∃ Q, Q = upR (zrR R L) L 3 (some 134) := ⟨_, rfl⟩
    have jo : ∀ c, c ≠ L → J c = I c := fun c hc => by
      rw [hJ, upI_ne hc, upI_ne hc, upI_ne hc]
      funext j
      unfold zrI
      rw [if_neg hc]
    have qo : ∀ c, c ≠ L → Q c = R c := fun c hc => by
      rw [hQ, upR_ne hc]
      funext j
      unfold zrR
      rw [if_neg hc]
    have hV1 : VK K1 Q 1 := by
      have := hV.1.r (R' := Q) (fun j _ => by rw [qo 1 (by omega)])
      obtain ⟨a0, a1, a2, a3, a4, a5, a6, a7, a8, r⟩ := this
      exact ⟨km _ _ a0, km _ _ a1, km _ _ a2, km _ _ a3, km _ _ a4, km _ _ a5, km _ _ a6, km _ _ a7, km _ _ a8, r⟩
    have h2 := c_join (X := X) (d := 58) (K := K1) (I := J) (R := Q) (m := L) (v := 1) (n := n) (t := kt kk) (kd := nI kk) (w := y) hV1 hn (by rw [jo 1 (by omega)]; exact h8) hm (by rw [fam_kt hkk, Bool.and_true]; have := kt_lt kk; rcases (by omega : kk = 0 ∨ kk = 1 ∨ kk = 2 ∨ kk = 3 ∨ kk = 4 ∨ kk = 5 ∨ kk = 6) with rfl | rfl | rfl | rfl | rfl | rfl | rfl <;> rfl) (by rw [hJ, upI_eq, upd_ne (by omega), upI_eq, upd_at]) (by rw [hJ, upI_eq, upd_at]) (by omega)
    have kk0 : K1[1]? = some (10, 16) := km _ _ k0
    rw [← hJ, ← hQ] at h1
    unfold maI maR
    rw [← hJ, ← hQ]
    (repeat (first | refine Ev.p rfl rfl ?_ | refine Ev.gr (by rfl) (by rfl) (by assumption) (by rfl) (by assumption) ?_ | refine Ev.gi (by rfl) (by rfl) (by assumption) (by rfl) (by assumption) ?_))
    refine Ev.bp rfl (fun c => ?_) (fun c => ?_)
    · (repeat (first | refine Ev.p rfl rfl ?_ | refine Ev.gr (by rfl) (by rfl) (by assumption) (by rfl) (by assumption) ?_ | refine Ev.gi (by rfl) (by rfl) (by assumption) (by rfl) (by assumption) ?_))
      refine Ev.cv (by rfl) (by rfl) (by assumption) (by rfl) (by rfl) (by rfl) (by rfl) (by rfl) h1 ?_
      (repeat (first | refine Ev.p rfl rfl ?_ | refine Ev.gr (by rfl) (by rfl) (by assumption) (by rfl) (by assumption) ?_ | refine Ev.gi (by rfl) (by rfl) (by assumption) (by rfl) (by assumption) ?_))
      refine Ev.cv (by rfl) (by rfl) (by assumption) (by rfl) (by rfl) (by rfl) (by rfl) (by rfl) h2 ?_
      ((repeat refine Ev.p rfl rfl ?_); exact Ev.r rfl)
    · exact absurd (nI_lt (b := 6) hn (by omega)) c
  · subst hn
    (repeat (first | refine Ev.p rfl rfl ?_ | refine Ev.gr (by rfl) (by rfl) (by assumption) (by rfl) (by assumption) ?_ | refine Ev.gi (by rfl) (by rfl) (by assumption) (by rfl) (by assumption) ?_))
    ((repeat refine Ev.p rfl rfl ?_); exact Ev.r rfl)
  · (repeat (first | refine Ev.p rfl rfl ?_ | refine Ev.gr (by rfl) (by rfl) (by assumption) (by rfl) (by assumption) ?_ | refine Ev.gi (by rfl) (by rfl) (by assumption) (by rfl) (by assumption) ?_))
    refine Ev.bp rfl (fun c => ?_) (fun c => ?_)
    · ((repeat refine Ev.p rfl rfl ?_); exact Ev.r rfl)
    · (repeat (first | refine Ev.p rfl rfl ?_ | refine Ev.gr (by rfl) (by rfl) (by assumption) (by rfl) (by assumption) ?_ | refine Ev.gi (by rfl) (by rfl) (by assumption) (by rfl) (by assumption) ?_))
      refine Ev.bp rfl (fun c2 => ?_) (fun c2 => ?_)
      · exact absurd ⟨Int32.not_lt.mp c, c2⟩ hy
      · ((repeat refine Ev.p rfl rfl ?_); exact Ev.r rfl)
  · (repeat (first | refine Ev.p rfl rfl ?_ | refine Ev.gr (by rfl) (by rfl) (by assumption) (by rfl) (by assumption) ?_ | refine Ev.gi (by rfl) (by rfl) (by assumption) (by rfl) (by assumption) ?_))
    refine Ev.bp rfl (fun c => ?_) (fun c => ?_)
    · ((repeat refine Ev.p rfl rfl ?_); exact Ev.r rfl)
    · (repeat (first | refine Ev.p rfl rfl ?_ | refine Ev.gr (by rfl) (by rfl) (by assumption) (by rfl) (by assumption) ?_ | refine Ev.gi (by rfl) (by rfl) (by assumption) (by rfl) (by assumption) ?_))
      refine Ev.bp rfl (fun c2 => ?_) (fun c2 => ?_)
      · exact absurd ⟨Int32.not_lt.mp c, lt7 c2⟩ hx
      · ((repeat refine Ev.p rfl rfl ?_); exact Ev.r rfl)
end MATTER
