/-! A NEW STATION's cells; a text read alike by alike signs -/
section NEWS
variable {X : Nat × (Nat → Int32)} {d k pc np p q n t a b c m L : Nat} {v y : Int32} {ls : List (Option Value)} {r : List Value} {K : List (Nat × Nat)} {I : Nat → Nat → Int32} {R : Nat → Nat → Option Nat} {Z : Option Value × Hp}
theorem Ev.na {x : ArrayType} (hl : look k pc = some (.newarray x, np, a, b, c, v)) (ho : oob y 1000 = false) (hm : y.toNatClampNeg = m) (hL : K.length = L) (e : Ev X d k np ls (.ref L :: r) (K ++ [(c, m)], zrI I L, zrR R L) Z) : Ev X d k pc ls (.int y :: r) (K, I, R) Z := by
  subst hL hm
  refine Ev.s (pc' := np) (ls' := ls) (st' := .ref K.length :: r) (h' := (K ++ [(c, y.toNatClampNeg)], zrI I K.length, zrR R K.length)) ?_ e
  unfold stq
  rw [hl]
  show stp X _ ls _ (K, I, R) = _
  dsimp only [stp]
  rw [ho]
  rfl
theorem Ev.nw {x : Nat} (hl : look k pc = some (.new x, np, a, b, c, v)) (hL : K.length = L) (e : Ev X d k np ls (.ref L :: r) (K ++ [(c, a)], zrI I L, zrR R L) Z) : Ev X d k pc ls r (K, I, R) Z := by
  subst hL
  refine Ev.s (pc' := np) (ls' := ls) (st' := .ref K.length :: r) (h' := (K ++ [(c, a)], zrI I K.length, zrR R K.length)) ?_ e
  unfold stq
  rw [hl]
  rfl
theorem zrI_ne {p q : Nat} (h : q ≠ p) : zrI I p q = I q := by
  funext j
  unfold zrI
  rw [if_neg h]
theorem zrR_ne {p q : Nat} (h : q ≠ p) : zrR R p q = R q := by
  funext j
  unfold zrR
  rw [if_neg h]
theorem upR_at {p i : Nat} {w : Option Nat} : upR R p i w p i = w := by
  show (if p = p ∧ i = i then w else R p i) = w
  rw [if_pos ⟨rfl, rfl⟩]
theorem upR_nj {p i j : Nat} {w : Option Nat} (h : j ≠ i) : upR R p i w p j = R p j := by
  show (if p = p ∧ j = i then w else R p j) = _
  rw [if_neg (fun g => h g.2)]
theorem c_init8 (hk : K[p]? = some (8, 10)) (hL : K.length = L) : ∃ J Q, Ev X d kX8_init 0 (ent kX8_init [.ref p]) [] (K, I, R) (none, (K ++ [(20, 10), (20, 10), (20, 100), (21, 0)], J, Q)) ∧ Q p 3 = some L ∧ Q p 4 = some (L + 1) ∧ Q p 5 = some (L + 2) ∧ (∀ c, c < L → c ≠ p → J c = I c) ∧ (∀ c, c < L → c ≠ p → Q c = R c) ∧ J p 0 = 20 ∧ J p 1 = 1 ∧ J p 2 = 0 := by
  have hp : p < L := by
    rw [← hL]
    exact (List.getElem?_eq_some_iff.mp hk).1
  obtain ⟨K1, hK1⟩ : ∃ K1, K1 = K ++ [(20, 10)] := ⟨_, rfl⟩
  have l1 : K1.length = L + 1 := by rw [hK1, List.length_append, hL]; rfl
  have p1 : K1[p]? = some (8, 10) := by rw [hK1]; exact KM.app _ _ _ _ hk
  obtain ⟨K2, hK2⟩ : ∃ K2, K2 = K1 ++ [(20, 10)] := ⟨_, rfl⟩
  have l2 : K2.length = L + 2 := by rw [hK2, List.length_append, l1]; rfl
  have p2 : K2[p]? = some (8, 10) := by rw [hK2]; exact KM.app _ _ _ _ p1
  obtain ⟨K3, hK3⟩ : ∃ K3, K3 = K2 ++ [(20, 100)] := ⟨_, rfl⟩
  have l3 : K3.length = L + 3 := by rw [hK3, List.length_append, l2]; rfl
  have p3 : K3[p]? = some (8, 10) := by rw [hK3]; exact KM.app _ _ _ _ p2
  obtain ⟨K4, hK4⟩ : ∃ K4, K4 = K3 ++ [(21, 0)] := ⟨_, rfl⟩
  have p4 : K4[p]? = some (8, 10) := by rw [hK4]; exact KM.app _ _ _ _ p3
  have e4 : K ++ [(20, 10), (20, 10), (20, 100), (21, 0)] = K4 := by
    rw [hK4, hK3, hK2, hK1]
    simp only [List.append_assoc]
    rfl
  rw [e4]
  obtain ⟨J1, hJ1⟩ : ∃ J1, J1 = zrI (upI (upI (upI I p 0 20) p 1 1) p 2 0) L := ⟨_, rfl⟩
  obtain ⟨Q1, hQ1⟩ : ∃ Q1, Q1 = upR (zrR R L) p 3 (some L) := ⟨_, rfl⟩
  obtain ⟨J2, hJ2⟩ : ∃ J2, J2 = zrI J1 (L + 1) := ⟨_, rfl⟩
  obtain ⟨Q2, hQ2⟩ : ∃ Q2, Q2 = upR (zrR Q1 (L + 1)) p 4 (some (L + 1)) := ⟨_, rfl⟩
  obtain ⟨J3, hJ3⟩ : ∃ J3, J3 = zrI J2 (L + 2) := ⟨_, rfl⟩
  obtain ⟨Q3, hQ3⟩ : ∃ Q3, Q3 = upR (zrR Q2 (L + 2)) p 5 (some (L + 2)) := ⟨_, rfl⟩
  obtain ⟨J4, hJ4⟩ : ∃ J4, J4 = zrI (upI J3 p 6 0) (L + 3) := ⟨_, rfl⟩
  obtain ⟨Q4, hQ4⟩ : ∃ Q4, Q4 = upR (zrR Q3 (L + 3)) p 7 (some (L + 3)) := ⟨_, rfl⟩
  obtain ⟨J5, hJ5⟩ : ∃ J5, J5 = upI (upI J4 p 8 0) p 9 0 := ⟨_, rfl⟩
  have np0 : p ≠ L := by omega
  have np1 : p ≠ L + 1 := by omega
  have np2 : p ≠ L + 2 := by omega
  have np3 : p ≠ L + 3 := by omega
  refine ⟨J5, Q4, ?_, ?_, ?_, ?_, fun c c1 c2 => ?_, fun c c1 c2 => ?_, ?_, ?_, ?_⟩
  · iterate 4 refine Ev.p rfl rfl ?_
    refine Ev.pi (by rfl) (by rfl) hk (by rfl) ?_
    iterate 2 refine Ev.p rfl rfl ?_
    refine Ev.pi (by rfl) (by rfl) hk (by rfl) ?_
    iterate 2 refine Ev.p rfl rfl ?_
    refine Ev.pi (by rfl) (by rfl) hk (by rfl) ?_
    iterate 2 refine Ev.p rfl rfl ?_
    refine Ev.na (m := 10) (by rfl) (by rfl) (by rfl) hL ?_
    rw [← hK1, ← hJ1]
    refine Ev.pr (by rfl) (by rfl) p1 (by rfl) ?_
    rw [← hQ1]
    iterate 2 refine Ev.p rfl rfl ?_
    refine Ev.na (m := 10) (by rfl) (by rfl) (by rfl) l1 ?_
    rw [← hK2, ← hJ2]
    refine Ev.pr (by rfl) (by rfl) p2 (by rfl) ?_
    rw [← hQ2]
    iterate 2 refine Ev.p rfl rfl ?_
    refine Ev.na (m := 100) (by rfl) (by rfl) (by rfl) l2 ?_
    rw [← hK3, ← hJ3]
    refine Ev.pr (by rfl) (by rfl) p3 (by rfl) ?_
    rw [← hQ3]
    iterate 2 refine Ev.p rfl rfl ?_
    refine Ev.pi (by rfl) (by rfl) p3 (by rfl) ?_
    iterate 2 refine Ev.p rfl rfl ?_
    refine Ev.na (m := 0) (by rfl) (by rfl) (by rfl) l3 ?_
    rw [← hK4, ← hJ4]
    refine Ev.pr (by rfl) (by rfl) p4 (by rfl) ?_
    rw [← hQ4]
    iterate 2 refine Ev.p rfl rfl ?_
    refine Ev.pi (by rfl) (by rfl) p4 (by rfl) ?_
    iterate 2 refine Ev.p rfl rfl ?_
    refine Ev.pi (by rfl) (by rfl) p4 (by rfl) ?_
    rw [← hJ5]
    ((repeat refine Ev.p rfl rfl ?_); exact Ev.r rfl)
  · rw [hQ4, upR_nj (by omega), zrR_ne np3, hQ3, upR_nj (by omega), zrR_ne np2, hQ2, upR_nj (by omega), zrR_ne np1, hQ1, upR_at]
  · rw [hQ4, upR_nj (by omega), zrR_ne np3, hQ3, upR_nj (by omega), zrR_ne np2, hQ2, upR_at]
  · rw [hQ4, upR_nj (by omega), zrR_ne np3, hQ3, upR_at]
  · rw [hJ5, upI_ne c2, upI_ne c2, hJ4, zrI_ne (by omega), upI_ne c2, hJ3, zrI_ne (by omega), hJ2, zrI_ne (by omega), hJ1, zrI_ne (by omega), upI_ne c2, upI_ne c2, upI_ne c2]
  · rw [hQ4, upR_ne c2, zrR_ne (by omega), hQ3, upR_ne c2, zrR_ne (by omega), hQ2, upR_ne c2, zrR_ne (by omega), hQ1, upR_ne c2, zrR_ne (by omega)]
  · rw [hJ5, upI_eq, upd_ne (by omega), upI_eq, upd_ne (by omega), hJ4, zrI_ne np3, upI_eq, upd_ne (by omega), hJ3, zrI_ne np2, hJ2, zrI_ne np1, hJ1, zrI_ne np0, upI_eq, upd_ne (by omega), upI_eq, upd_ne (by omega), upI_eq, upd_at]
  · rw [hJ5, upI_eq, upd_ne (by omega), upI_eq, upd_ne (by omega), hJ4, zrI_ne np3, upI_eq, upd_ne (by omega), hJ3, zrI_ne np2, hJ2, zrI_ne np1, hJ1, zrI_ne np0, upI_eq, upd_ne (by omega), upI_eq, upd_at]
  · rw [hJ5, upI_eq, upd_ne (by omega), upI_eq, upd_ne (by omega), hJ4, zrI_ne np3, upI_eq, upd_ne (by omega), hJ3, zrI_ne np2, hJ2, zrI_ne np1, hJ1, zrI_ne np0, upI_eq, upd_at]
end NEWS
section PALIKE
variable {t t' : Nat → Int32} {z : Nat}
theorem pk_al (h : ∀ j, j < z → t j = t' j) (a : Nat) : pk t z a = pk t' z a := by
  unfold pk
  by_cases g : a < z
  · rw [if_pos g, if_pos g, h a g]
  · rw [if_neg g, if_neg g]
theorem pN_al (h : ∀ a, pk t z a = pk t' z a) (a : Nat) : pN t z a = pN t' z a := by
  unfold pN
  rw [h a, h (a + 1)]
theorem pX_al (h : ∀ a, pk t z a = pk t' z a) (a : Nat) : pX t z a = pX t' z a := by
  unfold pX
  rw [h a, h (a + 1), pN_al h]
theorem pp_al (h : ∀ a, pk t z a = pk t' z a) : ∀ (f w o a : Nat) (ts : List Nat), pp t z f w o a ts = pp t' z f w o a ts := by
  intro f
  induction f with
  | zero =>
    intro w o a ts
    simp only [pp]
  | succ f ih =>
    intro w o a ts
    match w with
    | 0 => simp only [pp, h, ih, pX_al h]
    | 1 => simp only [pp, ih]
    | 2 => simp only [pp, h, ih]
    | 3 => simp only [pp, ih]
    | w + 4 => simp only [pp, h, ih]
theorem pW_al (h : ∀ a, pk t z a = pk t' z a) : ∀ (l : List Int32) (a : Nat), pW t z l a = pW t' z l a := by
  intro l
  induction l with
  | nil => intro a; rfl
  | cons c l ih =>
    intro a
    simp only [pW, h, ih]
theorem pCn_al (h : ∀ a, pk t z a = pk t' z a) (l : List Int32) (a : Nat) : pCn t z l a = pCn t' z l a := by
  unfold pCn
  simp only [pW_al h, pN_al h]
theorem pCm_al (h : ∀ a, pk t z a = pk t' z a) (w : Bool) (l : List Int32) (a : Nat) (st : Stn) : pCm t z w l a st = pCm t' z w l a st := by
  unfold pCm
  simp only [pCn_al h, h, pp_al h]
theorem pC_al (h : ∀ a, pk t z a = pk t' z a) (a : Nat) (st : Stn) : pC t z a st = pC t' z a st := by
  unfold pC
  simp only [pCn_al h, h, pCm_al h]
theorem pS_al (h : ∀ a, pk t z a = pk t' z a) : ∀ (m a : Nat) (st : Stn), pS t z m a st = pS t' z m a st := by
  intro m
  induction m with
  | zero => intro a st; rfl
  | succ m ih =>
    intro a st
    simp only [pS, pC_al h, h, ih]
end PALIKE
