/-! THE REFERENCE: goes, goesOn -/
def tkV (tk : Option Nat) (n : Nat) (x : Int32) : Prop := match tk with
  | none => x < 0
  | some p => p < n ∧ x = nI p
theorem rTop_lt {s : Nat → Int32} {n : Nat} {cls : Cls} : ∀ (q p : Nat), (rTop s n cls q).1 = some p → p < q := by
  intro q
  induction q with
  | zero => intro p h; cases h
  | succ q ih =>
    intro p h
    simp only [rTop] at h
    generalize (if rRd s n q = true then rStir s n q cls else 0) = z at h
    split at h
    · have := ih p h; omega
    · cases h; omega
theorem rTop_tk (s : Nat → Int32) (n : Nat) (cls : Cls) : tkV (rTop s n cls n).1 n (tv (rTop s n cls n).1) := by
  cases h : (rTop s n cls n).1 with
  | none => show (-5 : Int32) < 0; decide
  | some p => exact ⟨rTop_lt n p h, rfl⟩
theorem rGq_al {s u : Nat → Int32} (h : AL s u) {q : Nat} (hq : q < 6) (f : Bool) (fd : Int32) : AL s (rGq u f fd q) := AL.up (AL.up (AL.up h (by omega) _) (by omega) _) (by omega) _
theorem rG_al {s u : Nat → Int32} (s' : Nat → Int32) (h : AL s u) (hr : Option Nat) (fd : Int32) : ∀ q, q ≤ 6 → AL s (rG s' u hr fd q) := by
  intro q
  induction q with
  | zero => intro _; exact h
  | succ q ih => intro hq; exact rGq_al (ih (by omega)) (by omega) _ _
theorem rG1_al (s : Nat → Int32) (n : Nat) (cls : Cls) (du : Int32) {hr : Option Nat} (h : ∀ p, hr = some p → p < 6) : AL s (rG1 s n cls du hr) := by
  cases hr with
  | none => exact fun _ _ => rfl
  | some p =>
    have := h p rfl
    exact AL.up (AL.up (fun _ _ => rfl) (by omega) _) (by omega) _
theorem rHr_some {s : Nat → Int32} {n : Nat} {tk : Option Nat} {p : Nat} (h : rHr s n tk = some p) : tk = some p ∧ rRd s n p = true := by
  cases tk with
  | none => cases h
  | some q =>
    unfold rHr at h
    dsimp only at h
    split at h
    · cases h; exact ⟨rfl, by assumption⟩
    · cases h
theorem rHr_lt {s : Nat → Int32} {n : Nat} {tk : Option Nat} {x : Int32} (hx : tkV tk n x) {p : Nat} (h : rHr s n tk = some p) : p < n ∧ x = nI p := by
  have := (rHr_some h).1
  subst this
  exact hx
theorem rGo_al {s : Nat → Int32} {n : Nat} (hn6 : n ≤ 6) (cls : Cls) (du fd : Int32) {tk : Option Nat} {x : Int32} (hx : tkV tk n x) : AL s (rGo s n cls du fd tk) := AL.up (rG_al s (rG1_al s n cls du (fun p hp => by have := (rHr_lt hx hp).1; omega)) _ fd n hn6) (by omega) _
theorem rG_0 (s u : Nat → Int32) (hr : Option Nat) (fd : Int32) : ∀ q, rG s u hr fd q 0 = u 0 := by
  intro q
  induction q with
  | zero => rfl
  | succ q ih =>
    rw [← ih]
    show gC (gA (upd _ (8 + q) _) q) q 0 = _
    unfold gC gA
    rw [upd_ne (by omega), upd_ne (by omega), upd_ne (by omega)]
theorem rGo_0 (s : Nat → Int32) (n : Nat) (cls : Cls) (du fd : Int32) (tk : Option Nat) : rGo s n cls du fd tk 0 = s 0 + 1 := by
  unfold rGo
  rw [upd_at, rG_0]
  cases rHr s n tk with
  | none => rfl
  | some p =>
    show rTalk s n p cls du 0 + 1 = _
    unfold rTalk
    rw [upd_ne (by omega), upd_ne (by omega)]
theorem rGo_V {s : Nat → Int32} {n : Nat} {hd : Option Nat} {cls : Cls} {e : Nat} (hv : SV s n hd cls e) (he : e + 1 < 1000000) (du fd : Int32) {tk : Option Nat} {x : Int32} (hx : tkV tk n x) : SV (rGo s n cls du fd tk) n hd cls (e + 1) := (rGo_al hv.2.1 cls du fd hx).V hv (by rw [rGo_0, hv.2.2.2.1, nI_succ]) he
def rOn (s : Nat → Int32) (n : Nat) (cls : Cls) (du fd : Int32) : Nat → (Nat → Int32)
  | 0 => s
  | k + 1 => rGo (rOn s n cls du fd k) n cls du fd (rTop (rOn s n cls du fd k) n cls n).1
theorem AL.tr {s u w : Nat → Int32} (h : AL s u) (h2 : AL u w) : AL s w := fun j hj => (h2 j hj).trans (h j hj)
theorem rOn_al {s : Nat → Int32} {n : Nat} (hn6 : n ≤ 6) (cls : Cls) (du fd : Int32) (k : Nat) : AL s (rOn s n cls du fd k) := by
  induction k with
  | zero => exact fun _ _ => rfl
  | succ k ih => exact ih.tr (rGo_al hn6 cls du fd (rTop_tk _ n cls))
theorem rOn_V {s : Nat → Int32} {n : Nat} {hd : Option Nat} {cls : Cls} {e : Nat} (hv : SV s n hd cls e) (du fd : Int32) : ∀ k, e + k < 1000000 → SV (rOn s n cls du fd k) n hd cls (e + k) := by
  intro k
  induction k with
  | zero => intro _; exact hv
  | succ k ih => intro h; exact rGo_V (ih (by omega)) (by omega) du fd (rTop_tk _ n cls)
theorem rOn_succ (s : Nat → Int32) (n : Nat) (cls : Cls) (du fd : Int32) (k : Nat) : rOn s n cls du fd (k + 1) = rOn (rGo s n cls du fd (rTop s n cls n).1) n cls du fd k := by
  induction k with
  | zero => rfl
  | succ k ih =>
    show rGo (rOn s n cls du fd (k + 1)) n cls du fd (rTop (rOn s n cls du fd (k + 1)) n cls n).1 = rGo (rOn _ n cls du fd k) n cls du fd (rTop (rOn _ n cls du fd k) n cls n).1
    rw [ih]
/-- what talk is due by, and how fast it fades -/
def DF (I : Nat → Nat → Int32) (s : Nat → Int32) (hd : Option Nat) (du fd : Int32) : Prop := (if I 140 5 = -1 then rT s hd 222 20 else I 140 5) = du ∧ rT s hd 227 1 = fd
theorem DF.al {I I' : Nat → Nat → Int32} {s u : Nat → Int32} {hd : Option Nat} {du fd : Int32} (h : DF I s hd du fd) (ha : AL s u) (hM : FR PG I I') : DF I' u hd du fd := by
  refine ⟨?_, ?_⟩
  · rw [ha.T (by omega), hM 140 (by unfold PG; omega)]; exact h.1
  · rw [ha.T (by omega)]; exact h.2
section GOES2
variable {X : Nat × (Nat → Int32)} {d : Nat} {T : List (Nat × Nat)} {I : Nat → Nat → Int32} {G : Nat → Nat → Option Nat} {s : Nat → Int32} {n p : Nat} {hd : Option Nat} {cls : Cls} {e : Nat} {du fd : Int32}
theorem okc_bI (b : Bool) : okc 22 (bI b) = true := by cases b <;> rfl
end GOES2
