/-! THE REFERENCE: SUM; a station's clauses as (n, warm, tokens) -/
def tokR (t : Nat) : Int32 := match t with
  | 0 => -1
  | 1 => -2
  | 2 => -3
  | u + 3 => nI u
def tst (by' : Nat → Int32) (u : Nat) : Bool := if u / 8 % 4 = 0 then decide (by' (u % 8) < nI (u / 32)) else if u / 8 % 4 = 1 then decide (by' (u % 8) = nI (u / 32)) else decide (nI (u / 32) < by' (u % 8))
def evTok (by' : Nat → Int32) (t : Nat) (st : List Bool) : List Bool := match t with
  | 0 => match st with
    | b :: r => (!b) :: r
    | _ => st
  | 1 => match st with
    | b :: a :: r => (a && b) :: r
    | _ => st
  | 2 => match st with
    | b :: a :: r => (a || b) :: r
    | _ => st
  | u + 3 => tst by' u :: st
/-- how deep the stack is behind a token; none: it can't be -/
def dpT (t m : Nat) : Option Nat := match t with
  | 0 => if 1 ≤ m then some m else none
  | 1 => if 2 ≤ m then some (m - 1) else none
  | 2 => if 2 ≤ m then some (m - 1) else none
  | u + 3 => if u % 8 < 6 ∧ u / 8 % 4 < 3 ∧ u < 3200 ∧ m < 20 then some (m + 1) else none
def dpL : List Nat → Nat → Option Nat
  | [], m => some m
  | t :: r, m => match dpT t m with
    | some m' => dpL r m'
    | none => none
def evL (by' : Nat → Int32) : List Nat → List Bool → List Bool
  | [], st => st
  | t :: r, st => evL by' r (evTok by' t st)
abbrev Cls : Type := List (Nat × Bool × List Nat)
def endR (n : Nat) (w : Bool) : Int32 := if w = true then -10 - nI n else -200 - nI n
def clR (q : Nat × Bool × List Nat) : List Int32 := q.2.2.map tokR ++ [endR q.1 q.2.1]
def clsR : Cls → List Int32
  | [] => []
  | q :: r => clR q ++ clsR r
def clOK (cls : Cls) : Prop := ∀ q ∈ cls, q.1 ≤ 99 ∧ dpL q.2.2 0 = some 1
def addC (by' : Nat → Int32) (q : Nat × Bool × List Nat) (sum : Int32) (st : List Bool) : Int32 := if st.headD false = true then (if q.2.1 = true then sum + nI q.1 else sum - nI q.1) else sum
def sumC (by' : Nat → Int32) : Cls → Int32 → Int32
  | [], sum => sum
  | q :: r, sum => sumC by' r (addC by' q sum (evL by' q.2.2 []))
def TR (J : Nat → Nat → Int32) (st : List Bool) : Prop := ∀ (j : Nat) (b : Bool), st[j]? = some b → J 145 (st.length - 1 - j) = bI b
theorem TR_0 (J : Nat → Nat → Int32) : TR J [] := fun j b h => by simp at h
theorem TR_push {J : Nat → Nat → Int32} {st : List Bool} (h : TR J st) (b : Bool) : TR (upI J 145 st.length (bI b)) (b :: st) := by
  intro j b' hj
  cases j with
  | zero =>
    cases hj
    show upI J 145 st.length (bI b) 145 (st.length + 1 - 1 - 0) = bI b
    rw [upI_eq, show st.length + 1 - 1 - 0 = st.length by omega, upd_at]
  | succ j =>
    have hj : st[j]? = some b' := hj
    have hlt := (List.getElem?_eq_some_iff.mp hj).1
    show upI J 145 st.length (bI b) 145 (st.length + 1 - 1 - (j + 1)) = bI b'
    rw [upI_eq, upd_ne (by omega), show st.length + 1 - 1 - (j + 1) = st.length - 1 - j by omega]
    exact h j b' hj
theorem TR_tail {J : Nat → Nat → Int32} {st : List Bool} {b : Bool} (h : TR J (b :: st)) : TR J st := by
  intro j b' hj
  have hlt := (List.getElem?_eq_some_iff.mp hj).1
  have h1 := h (j + 1) b' hj
  rw [show (b :: st).length - 1 - (j + 1) = st.length - 1 - j by simp; omega] at h1
  exact h1
theorem TR_top {J : Nat → Nat → Int32} {st : List Bool} {b : Bool} (h : TR J (b :: st)) : J 145 st.length = bI b := by
  have h1 := h 0 b rfl
  rwa [show (b :: st).length - 1 - 0 = st.length by simp] at h1
theorem nI_m1 (q : Nat) : nI (q + 1) + (-1) = nI q := by
  rw [← Int32.sub_eq_add_neg, nI_pred]
theorem end_w : ∀ n, n < 100 → (-10 - nI n : Int32) < 0 ∧ (-10 - nI n : Int32) ≠ -1 ∧ (-10 - nI n : Int32) ≤ -10 ∧ ¬ (-10 - nI n : Int32) ≤ -200 ∧ (-10 - (-10 - nI n) : Int32) = nI n := by decide +kernel
theorem end_c : ∀ n, n < 100 → (-200 - nI n : Int32) < 0 ∧ (-200 - nI n : Int32) ≠ -1 ∧ (-200 - nI n : Int32) ≤ -10 ∧ (-200 - nI n : Int32) ≤ -200 ∧ (-200 - (-200 - nI n) : Int32) = nI n := by decide +kernel
theorem Ev.at {X : Nat × (Nat → Int32)} {d k pc q : Nat} {ls : List (Option Value)} {st : List Value} {h : Hp} {R : Option Value × Hp} (e : pc = q) (t : Ev X d k q ls st h R) : Ev X d k pc ls st h R := by
  subst e
  exact t
theorem Ev.ls {X : Nat × (Nat → Int32)} {d k pc : Nat} {ls ls2 : List (Option Value)} {st : List Value} {h : Hp} {R : Option Value × Hp} (e : ls = ls2) (t : Ev X d k pc ls2 st h R) : Ev X d k pc ls st h R := by
  subst e
  exact t
/-- all but the cells of P are as they were -/
def FR (P : Nat → Prop) (I I' : Nat → Nat → Int32) : Prop := ∀ q, ¬ P q → I' q = I q
theorem FR.rf {P : Nat → Prop} (I : Nat → Nat → Int32) : FR P I I := fun _ _ => rfl
theorem FR.tr {P : Nat → Prop} {I I' I'' : Nat → Nat → Int32} (h : FR P I I') (h' : FR P I' I'') : FR P I I'' := fun q hq => (h' q hq).trans (h q hq)
theorem FR.mo {P Q : Nat → Prop} {I I' : Nat → Nat → Int32} (h : FR P I I') (hs : ∀ q, P q → Q q) : FR Q I I' := fun q hq => h q (fun hp => hq (hs q hp))
theorem FR.up {P : Nat → Prop} {I : Nat → Nat → Int32} {p j : Nat} {x : Int32} (hp : P p) : FR P I (upI I p j x) := fun q hq => upI_ne (fun e => hq (e ▸ hp))
def PS (q : Nat) : Prop := q = 144 ∨ q = 145
abbrev MS (I I' : Nat → Nat → Int32) : Prop := FR PS I I'
theorem MS.up {I : Nat → Nat → Int32} {p j : Nat} {x : Int32} (hp : p = 144 ∨ p = 145) : MS I (upI I p j x) := FR.up hp
theorem MS.rf (I : Nat → Nat → Int32) : MS I I := FR.rf I
theorem MS.tr {I I' I'' : Nat → Nat → Int32} (h : MS I I') (h' : MS I' I'') : MS I I'' := FR.tr h h'
section SUM
variable {X : Nat × (Nat → Int32)} {d : Nat} {T : List (Nat × Nat)} {I : Nat → Nat → Int32} {G : Nat → Nat → Option Nat} {s : Nat → Int32} {n p : Nat}
/-- at the head of sumOf's loop -/
def SG (X : Nat × (Nat → Int32)) (d : Nat) (T : List (Nat × Nat)) (I : Nat → Nat → Int32) (G : Nat → Nat → Option Nat) (s : Nat → Int32) (p fr many : Nat) (res : Int32) (J : Nat → Nat → Int32) (top i0 : Nat) (sum : Int32) : Prop :=
  ∃ I', (∀ a b c e : Option Value, Ev X d kX12_sumOf 118 [some (.ref 140), some (.int (nI p)), some (.int sum), some (.int (nI many)), some (.int (nI fr)), some (.int (nI top)), some (.int (nI i0)), a, b, c, e] [] (K0 ++ T, J, RS G) (some (.int res), (K0 ++ T, I', RS G))) ∧ I' 141 = s ∧ MS I I'
set_option maxRecDepth 4000 in
set_option maxHeartbeats 8000000 in
theorem sg_not {fr many : Nat} {res : Int32} {by' : Nat → Int32} (hm : fr + many ≤ 937) {m : Nat} {st : List Bool} (hd : dpT 0 st.length = some m) (hst : st.length ≤ 20) {i0 : Nat} (hi : i0 < fr + many) (hs : s i0 = tokR 0) {J : Nat → Nat → Int32} (hJ : J 141 = s) (hM : MS I J) (hb : ∀ j, j < 6 → J 144 j = by' j) (hT : TR J st) {sum : Int32}
    (kk : ∀ J', J' 141 = s → MS I J' → (∀ j, j < 6 → J' 144 j = by' j) → TR J' (evTok by' 0 st) → (evTok by' 0 st).length = m → SG X d T I G s p fr many res J' m (i0 + 1) sum) : SG X d T I G s p fr many res J st.length i0 sum := by
  have hlt : ¬ nI fr + nI many ≤ nI i0 := by rw [nI_add]; exact nI_ge hi (by omega)
  match st, hd with
  | [], hd => simp [dpT] at hd
  | b :: r, hd =>
    have e : r.length + 1 = m := by simpa [dpT] using hd
    subst e
    have hlen : (b :: r).length = r.length + 1 := rfl
    rw [hlen] at hst
    obtain ⟨I', e1, e2⟩ := kk (upI J 145 r.length (bI (!b))) (by rw [upI_ne (by omega), hJ]) (hM.tr (MS.up (by omega))) (fun j hj => by rw [upI_ne (by omega)]; exact hb j hj) (TR_push (TR_tail hT) (!b)) rfl
    refine ⟨I', fun l7 l8 l9 l10 => ?_, e2⟩
    rw [nI_succ i0] at e1
    rw [hlen]
    (repeat refine Ev.p rfl rfl ?_)
    refine Ev.bp rfl (fun c => ?_) (fun c => ?_)
    · exact absurd c hlt
    · (repeat refine Ev.p rfl rfl ?_)
      (refine Ev.iald (j := i0) rfl rfl rfl (by omega) (by omega) ?_; rw [hJ, show s i0 = (-1 : Int32) from hs])
      iterate 16 refine Ev.p rfl rfl ?_
      rw [nI_pred]
      (refine Ev.bald (j := r.length) rfl rfl (Or.inr rfl) rfl (by omega) (by omega) ?_; rw [TR_top hT])
      cases b with
      | true =>
        (repeat refine Ev.p rfl rfl ?_)
        refine Ev.bast (j := r.length) rfl rfl (Or.inr rfl) rfl rfl (by omega) (by omega) ?_
        (repeat (first | (refine Ev.at (q := 118) rfl ?_; exact (e1 _ _ _ _)) | refine Ev.p rfl rfl ?_))
      | false =>
        (repeat refine Ev.p rfl rfl ?_)
        refine Ev.bast (j := r.length) rfl rfl (Or.inr rfl) rfl rfl (by omega) (by omega) ?_
        (repeat (first | (refine Ev.at (q := 118) rfl ?_; exact (e1 _ _ _ _)) | refine Ev.p rfl rfl ?_))
set_option maxRecDepth 4000 in
set_option maxHeartbeats 8000000 in
theorem sg_and {fr many : Nat} {res : Int32} {by' : Nat → Int32} (hm : fr + many ≤ 937) {m : Nat} {st : List Bool} (hd : dpT 1 st.length = some m) (hst : st.length ≤ 20) {i0 : Nat} (hi : i0 < fr + many) (hs : s i0 = tokR 1) {J : Nat → Nat → Int32} (hJ : J 141 = s) (hM : MS I J) (hb : ∀ j, j < 6 → J 144 j = by' j) (hT : TR J st) {sum : Int32}
    (kk : ∀ J', J' 141 = s → MS I J' → (∀ j, j < 6 → J' 144 j = by' j) → TR J' (evTok by' 1 st) → (evTok by' 1 st).length = m → SG X d T I G s p fr many res J' m (i0 + 1) sum) : SG X d T I G s p fr many res J st.length i0 sum := by
  have hlt : ¬ nI fr + nI many ≤ nI i0 := by rw [nI_add]; exact nI_ge hi (by omega)
  match st, hd with
  | [], hd => simp [dpT] at hd
  | [_], hd => simp [dpT] at hd
  | b :: a :: r, hd =>
    have e : r.length + 1 = m := by simpa [dpT] using hd
    subst e
    have hlen : (b :: a :: r).length = r.length + 1 + 1 := rfl
    rw [hlen] at hst
    obtain ⟨I', e1, e2⟩ := kk (upI J 145 r.length (bI (a && b))) (by rw [upI_ne (by omega), hJ]) (hM.tr (MS.up (by omega))) (fun j hj => by rw [upI_ne (by omega)]; exact hb j hj) (TR_push (TR_tail (TR_tail hT)) (a && b)) rfl
    refine ⟨I', fun l7 l8 l9 l10 => ?_, e2⟩
    rw [nI_succ i0] at e1
    rw [hlen]
    (repeat refine Ev.p rfl rfl ?_)
    refine Ev.bp rfl (fun c => ?_) (fun c => ?_)
    · exact absurd c hlt
    · (repeat refine Ev.p rfl rfl ?_)
      (refine Ev.iald (j := i0) rfl rfl rfl (by omega) (by omega) ?_; rw [hJ, show s i0 = (-2 : Int32) from hs])
      iterate 23 refine Ev.p rfl rfl ?_
      rw [nI_m1, nI_pred]
      (refine Ev.bald (j := r.length) rfl rfl (Or.inr rfl) rfl (by omega) (by omega) ?_; rw [TR_top (TR_tail hT)])
      cases a with
      | false =>
        (repeat refine Ev.p rfl rfl ?_)
        refine Ev.bast (j := r.length) rfl rfl (Or.inr rfl) rfl rfl (by omega) (by omega) ?_
        (repeat (first | (refine Ev.at (q := 118) rfl ?_; exact (e1 _ _ _ _)) | refine Ev.p rfl rfl ?_))
      | true =>
        (repeat refine Ev.p rfl rfl ?_)
        (refine Ev.bald (j := r.length + 1) rfl rfl (Or.inr rfl) rfl (by omega) (by omega) ?_; rw [show J 145 (r.length + 1) = bI b from TR_top hT])
        cases b with
        | true =>
          (repeat refine Ev.p rfl rfl ?_)
          refine Ev.bast (j := r.length) rfl rfl (Or.inr rfl) rfl rfl (by omega) (by omega) ?_
          (repeat (first | (refine Ev.at (q := 118) rfl ?_; exact (e1 _ _ _ _)) | refine Ev.p rfl rfl ?_))
        | false =>
          (repeat refine Ev.p rfl rfl ?_)
          refine Ev.bast (j := r.length) rfl rfl (Or.inr rfl) rfl rfl (by omega) (by omega) ?_
          (repeat (first | (refine Ev.at (q := 118) rfl ?_; exact (e1 _ _ _ _)) | refine Ev.p rfl rfl ?_))
set_option maxRecDepth 4000 in
set_option maxHeartbeats 8000000 in
theorem sg_or {fr many : Nat} {res : Int32} {by' : Nat → Int32} (hm : fr + many ≤ 937) {m : Nat} {st : List Bool} (hd : dpT 2 st.length = some m) (hst : st.length ≤ 20) {i0 : Nat} (hi : i0 < fr + many) (hs : s i0 = tokR 2) {J : Nat → Nat → Int32} (hJ : J 141 = s) (hM : MS I J) (hb : ∀ j, j < 6 → J 144 j = by' j) (hT : TR J st) {sum : Int32}
    (kk : ∀ J', J' 141 = s → MS I J' → (∀ j, j < 6 → J' 144 j = by' j) → TR J' (evTok by' 2 st) → (evTok by' 2 st).length = m → SG X d T I G s p fr many res J' m (i0 + 1) sum) : SG X d T I G s p fr many res J st.length i0 sum := by
  have hlt : ¬ nI fr + nI many ≤ nI i0 := by rw [nI_add]; exact nI_ge hi (by omega)
  match st, hd with
  | [], hd => simp [dpT] at hd
  | [_], hd => simp [dpT] at hd
  | b :: a :: r, hd =>
    have e : r.length + 1 = m := by simpa [dpT] using hd
    subst e
    have hlen : (b :: a :: r).length = r.length + 1 + 1 := rfl
    rw [hlen] at hst
    obtain ⟨I', e1, e2⟩ := kk (upI J 145 r.length (bI (a || b))) (by rw [upI_ne (by omega), hJ]) (hM.tr (MS.up (by omega))) (fun j hj => by rw [upI_ne (by omega)]; exact hb j hj) (TR_push (TR_tail (TR_tail hT)) (a || b)) rfl
    refine ⟨I', fun l7 l8 l9 l10 => ?_, e2⟩
    rw [nI_succ i0] at e1
    rw [hlen]
    (repeat refine Ev.p rfl rfl ?_)
    refine Ev.bp rfl (fun c => ?_) (fun c => ?_)
    · exact absurd c hlt
    · (repeat refine Ev.p rfl rfl ?_)
      (refine Ev.iald (j := i0) rfl rfl rfl (by omega) (by omega) ?_; rw [hJ, show s i0 = (-3 : Int32) from hs])
      iterate 23 refine Ev.p rfl rfl ?_
      rw [nI_m1, nI_pred]
      (refine Ev.bald (j := r.length) rfl rfl (Or.inr rfl) rfl (by omega) (by omega) ?_; rw [TR_top (TR_tail hT)])
      cases a with
      | true =>
        (repeat refine Ev.p rfl rfl ?_)
        refine Ev.bast (j := r.length) rfl rfl (Or.inr rfl) rfl rfl (by omega) (by omega) ?_
        (repeat (first | (refine Ev.at (q := 118) rfl ?_; exact (e1 _ _ _ _)) | refine Ev.p rfl rfl ?_))
      | false =>
        (repeat refine Ev.p rfl rfl ?_)
        (refine Ev.bald (j := r.length + 1) rfl rfl (Or.inr rfl) rfl (by omega) (by omega) ?_; rw [show J 145 (r.length + 1) = bI b from TR_top hT])
        cases b with
        | true =>
          (repeat refine Ev.p rfl rfl ?_)
          refine Ev.bast (j := r.length) rfl rfl (Or.inr rfl) rfl rfl (by omega) (by omega) ?_
          (repeat (first | (refine Ev.at (q := 118) rfl ?_; exact (e1 _ _ _ _)) | refine Ev.p rfl rfl ?_))
        | false =>
          (repeat refine Ev.p rfl rfl ?_)
          refine Ev.bast (j := r.length) rfl rfl (Or.inr rfl) rfl rfl (by omega) (by omega) ?_
          (repeat (first | (refine Ev.at (q := 118) rfl ?_; exact (e1 _ _ _ _)) | refine Ev.p rfl rfl ?_))
set_option maxRecDepth 4000 in
set_option maxHeartbeats 8000000 in
theorem sg_tst {fr many : Nat} {res : Int32} {by' : Nat → Int32} (hm : fr + many ≤ 937) {u m : Nat} {st : List Bool} (hd : dpT (u + 3) st.length = some m) (hst : st.length ≤ 20) {i0 : Nat} (hi : i0 < fr + many) (hs : s i0 = tokR (u + 3)) {J : Nat → Nat → Int32} (hJ : J 141 = s) (hM : MS I J) (hb : ∀ j, j < 6 → J 144 j = by' j) (hT : TR J st) {sum : Int32}
    (kk : ∀ J', J' 141 = s → MS I J' → (∀ j, j < 6 → J' 144 j = by' j) → TR J' (evTok by' (u + 3) st) → (evTok by' (u + 3) st).length = m → SG X d T I G s p fr many res J' m (i0 + 1) sum) : SG X d T I G s p fr many res J st.length i0 sum := by
  have hlt : ¬ nI fr + nI many ≤ nI i0 := by rw [nI_add]; exact nI_ge hi (by omega)
  obtain ⟨⟨h6, h3, hu, h20⟩, e⟩ : (u % 8 < 6 ∧ u / 8 % 4 < 3 ∧ u < 3200 ∧ st.length < 20) ∧ st.length + 1 = m := by
    simp only [dpT] at hd
    split at hd
    · rename_i hh
      exact ⟨hh, Option.some.inj hd⟩
    · cases hd
  subst e
  have hs : s i0 = nI u := hs
  obtain ⟨I', e1, e2⟩ := kk (upI J 145 st.length (bI (tst by' u))) (by rw [upI_ne (by omega), hJ]) (hM.tr (MS.up (by omega))) (fun j hj => by rw [upI_ne (by omega)]; exact hb j hj) (TR_push hT _) rfl
  refine ⟨I', fun l7 l8 l9 l10 => ?_, e2⟩
  rw [nI_succ i0, nI_succ st.length] at e1
  have d8 : nI u / 8 = nI (u / 8) := pk_div (a := u) (d := 8) (by omega) (by omega) (by omega)
  have r8 : nI u - nI u / 8 * 8 = nI (u % 8) := pk_rem (a := u) (d := 8) (by omega) (by omega) (by omega)
  have r4 : nI (u / 8) - nI (u / 8) / 4 * 4 = nI (u / 8 % 4) := pk_rem (a := u / 8) (d := 4) (by omega) (by omega) (by omega)
  have d32 : nI u / 32 = nI (u / 32) := pk_div (a := u) (d := 32) (by omega) (by omega) (by omega)
  have ht : tst by' u = if u / 8 % 4 = 0 then decide (by' (u % 8) < nI (u / 32)) else if u / 8 % 4 = 1 then decide (by' (u % 8) = nI (u / 32)) else decide (nI (u / 32) < by' (u % 8)) := rfl
  have hu0 : ¬ nI u < 0 := nI_pos (by omega)
  generalize tst by' u = tb at *
  generalize u / 8 % 4 = o at *
  generalize u / 8 = e at *
  generalize u % 8 = l at *
  generalize u / 32 = w at *
  (repeat refine Ev.p rfl rfl ?_)
  refine Ev.bp rfl (fun c => ?_) (fun c => ?_)
  · exact absurd c hlt
  · (repeat refine Ev.p rfl rfl ?_)
    (refine Ev.iald (j := i0) rfl rfl rfl (by omega) (by omega) ?_; rw [hJ, hs])
    (repeat refine Ev.p rfl rfl ?_)
    refine Ev.bp rfl (fun c2 => ?_) (fun c2 => ?_)
    · exact absurd c2 hu0
    · refine Ev.ls (ls2 := [_, _, _, _, _, _, _, _, _, _, _]) rfl ?_
      (repeat refine Ev.p rfl rfl ?_)
      (refine Ev.iald (j := l) rfl rfl r8 (by omega) (by omega) ?_; rw [hb _ h6])
      (repeat refine Ev.p rfl rfl ?_)
      rw [d8, r4, d32]
      refine Ev.ls (ls2 := [_, _, _, _, _, _, _, _, _, _, _]) rfl ?_
      rcases (by omega : o = 0 ∨ o = 1 ∨ o = 2) with hh | hh | hh
      · rw [hh]
        (repeat refine Ev.p rfl rfl ?_)
        refine Ev.bp rfl (fun c3 => ?_) (fun c3 => ?_)
        · rw [show tb = false by rw [ht, if_pos hh]; exact decide_eq_false (Int32.not_lt.mpr c3)] at e1
          (repeat refine Ev.p rfl rfl ?_)
          refine Ev.bast (j := st.length) rfl rfl (Or.inr rfl) rfl rfl (by omega) (by omega) ?_
          (repeat (first | (refine Ev.at (q := 118) rfl ?_; exact (e1 _ _ _ _)) | refine Ev.p rfl rfl ?_))
        · rw [show tb = true by rw [ht, if_pos hh]; exact decide_eq_true (Int32.not_le.mp c3)] at e1
          (repeat refine Ev.p rfl rfl ?_)
          refine Ev.bast (j := st.length) rfl rfl (Or.inr rfl) rfl rfl (by omega) (by omega) ?_
          (repeat (first | (refine Ev.at (q := 118) rfl ?_; exact (e1 _ _ _ _)) | refine Ev.p rfl rfl ?_))
      · rw [hh]
        have hn0 : ¬ o = 0 := by omega
        (repeat refine Ev.p rfl rfl ?_)
        refine Ev.bp rfl (fun c3 => ?_) (fun c3 => ?_)
        · rw [show tb = false by rw [ht, if_neg hn0, if_pos hh]; exact decide_eq_false c3] at e1
          (repeat refine Ev.p rfl rfl ?_)
          refine Ev.bast (j := st.length) rfl rfl (Or.inr rfl) rfl rfl (by omega) (by omega) ?_
          (repeat (first | (refine Ev.at (q := 118) rfl ?_; exact (e1 _ _ _ _)) | refine Ev.p rfl rfl ?_))
        · rw [show tb = true by rw [ht, if_neg hn0, if_pos hh]; exact decide_eq_true (Decidable.not_not.mp c3)] at e1
          (repeat refine Ev.p rfl rfl ?_)
          refine Ev.bast (j := st.length) rfl rfl (Or.inr rfl) rfl rfl (by omega) (by omega) ?_
          (repeat (first | (refine Ev.at (q := 118) rfl ?_; exact (e1 _ _ _ _)) | refine Ev.p rfl rfl ?_))
      · rw [hh]
        have hn0 : ¬ o = 0 := by omega
        have hn1 : ¬ o = 1 := by omega
        (repeat refine Ev.p rfl rfl ?_)
        refine Ev.bp rfl (fun c3 => ?_) (fun c3 => ?_)
        · rw [show tb = false by rw [ht, if_neg hn0, if_neg hn1]; exact decide_eq_false (Int32.not_lt.mpr c3)] at e1
          (repeat refine Ev.p rfl rfl ?_)
          refine Ev.bast (j := st.length) rfl rfl (Or.inr rfl) rfl rfl (by omega) (by omega) ?_
          (repeat (first | (refine Ev.at (q := 118) rfl ?_; exact (e1 _ _ _ _)) | refine Ev.p rfl rfl ?_))
        · rw [show tb = true by rw [ht, if_neg hn0, if_neg hn1]; exact decide_eq_true (Int32.not_le.mp c3)] at e1
          (repeat refine Ev.p rfl rfl ?_)
          refine Ev.bast (j := st.length) rfl rfl (Or.inr rfl) rfl rfl (by omega) (by omega) ?_
          (repeat (first | (refine Ev.at (q := 118) rfl ?_; exact (e1 _ _ _ _)) | refine Ev.p rfl rfl ?_))
theorem sg_tok {fr many : Nat} {res : Int32} {by' : Nat → Int32} (hm : fr + many ≤ 937) {t m : Nat} {st : List Bool} (hd : dpT t st.length = some m) (hst : st.length ≤ 20) {i0 : Nat} (hi : i0 < fr + many) (hs : s i0 = tokR t) {J : Nat → Nat → Int32} (hJ : J 141 = s) (hM : MS I J) (hb : ∀ j, j < 6 → J 144 j = by' j) (hT : TR J st) {sum : Int32}
    (kk : ∀ J', J' 141 = s → MS I J' → (∀ j, j < 6 → J' 144 j = by' j) → TR J' (evTok by' t st) → (evTok by' t st).length = m → SG X d T I G s p fr many res J' m (i0 + 1) sum) : SG X d T I G s p fr many res J st.length i0 sum := by
  match t, hd, hs, kk with
  | 0, hd, hs, kk => exact sg_not hm hd hst hi hs hJ hM hb hT kk
  | 1, hd, hs, kk => exact sg_and hm hd hst hi hs hJ hM hb hT kk
  | 2, hd, hs, kk => exact sg_or hm hd hst hi hs hJ hM hb hT kk
  | u + 3, hd, hs, kk => exact sg_tst hm hd hst hi hs hJ hM hb hT kk
end SUM
