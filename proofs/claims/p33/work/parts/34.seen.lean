/-! THE REFERENCE: what is seen; dues, firm -/
def rAs (s u : Nat → Int32) (x : Int32) : Nat → Bool
  | 0 => true
  | k + 1 => rAs s u x k && (!decide (s (80 + k) = x) || decide (u (14 + (s (75 + k)).toNatClampNeg) = s (85 + k)))
/-- f holds from q on, m times -/
def fa (f : Nat → Bool) : Nat → Nat → Bool
  | 0, _ => true
  | m + 1, q => f q && fa f m (q + 1)
/-- all of SEEN is so -/
def rAll (s : Nat → Int32) (n : Nat) (cls : Cls) (du fd : Int32) (b : Nat) : Bool := fa (fun k => rAs s (rOn s n cls du fd k) (nI k) b) 21 0
/-- how many, and the least, from v down -/
def da (f : Nat → Bool) : Nat → Nat → Int32 × Int32 → Int32 × Int32
  | 0, _, a => a
  | m + 1, v, a => da f m (v - 1) (if f v = true then (a.1 + 1, nI v) else a)
/-- what is SEEN -/
def SS (s : Nat → Int32) (b : Nat) : Prop := s 28 = nI b ∧ b ≤ 5 ∧ ∀ k, k < b → ∃ p, p < 6 ∧ s (75 + k) = nI p
theorem SS.al {s u : Nat → Int32} (h : AL s u) {b : Nat} (hs : SS s b) : SS u b := by
  refine ⟨(h 28 (by omega)).trans hs.1, hs.2.1, fun k hk => ?_⟩
  obtain ⟨p, hp, e⟩ := hs.2.2 k hk
  exact ⟨p, hp, (h _ (by omega)).trans e⟩
theorem rAs_al {s u w : Nat → Int32} (h : AL s w) (x : Int32) : ∀ b, rAs w u x b = rAs s u x b := by
  intro b
  induction b with
  | zero => rfl
  | succ b ih =>
    show (rAs w u x b && _) = (rAs s u x b && _)
    rw [ih, h (80 + b) (by omega), h (75 + b) (by omega), h (85 + b) (by omega)]
/-- all but what is tried -/
def MT (I J : Nat → Nat → Int32) : Prop := MF (upI I 140 5 (J 140 5)) J
theorem upI_id (I : Nat → Nat → Int32) (p j : Nat) : upI I p j (I p j) = I := by
  funext q k
  unfold upI
  split
  · rename_i h; rw [h.1, h.2]
  · rfl
theorem MT.of {I J : Nat → Nat → Int32} (h : MF I J) : MT I J := by
  unfold MT
  rw [h.2.2.2.2.2.1, upI_id]
  exact h
theorem MT.mf {I J : Nat → Nat → Int32} (h : MT I J) (e : J 140 5 = I 140 5) : MF I J := by
  unfold MT at h
  rw [e, upI_id] at h
  exact h
theorem MT.tr {I J J' : Nat → Nat → Int32} (h : MT I J) (h' : MF J J') : MT I J' := by
  unfold MT
  rw [h'.2.2.2.2.2.1]
  exact MF.tr h h'
theorem upI_upI (I : Nat → Nat → Int32) (p j : Nat) (x y : Int32) : upI (upI I p j x) p j y = upI I p j y := by
  funext q k
  unfold upI
  split
  · rfl
  · rfl
theorem MF.up2 {A B : Nat → Nat → Int32} (h : MF A B) (x : Int32) : MF (upI A 140 5 x) (upI B 140 5 x) := by
  obtain ⟨h1, h2, h3, h4, h5, h6, h7⟩ := h
  refine ⟨fun q hq => ?_, fun q hq => ?_, ?_, ?_, ?_, ?_, ?_⟩
  · rw [upI_ne (by omega), upI_ne (by omega)]; exact h1 q hq
  · rw [upI_ne (by omega), upI_ne (by omega)]; exact h2 q hq
  · rw [upI_ne (by omega), upI_ne (by omega)]; exact h3
  · rw [upI_ne (by omega), upI_ne (by omega)]; exact h4
  · rw [upI_eq, upI_eq, upd_ne (by omega), upd_ne (by omega)]; exact h5
  · rw [upI_eq, upI_eq, upd_at, upd_at]
  · rw [upI_eq, upI_eq, upd_ne (by omega), upd_ne (by omega)]; exact h7
theorem MT.up {I J : Nat → Nat → Int32} (h : MT I J) (x : Int32) : MT I (upI J 140 5 x) := by
  unfold MT at h ⊢
  have h2 := MF.up2 h x
  rw [upI_upI] at h2
  rw [show upI J 140 5 x 140 5 = x from by rw [upI_eq, upd_at]]
  exact h2
theorem SV_v {s : Nat → Int32} {n : Nat} {hd : Option Nat} {cls : Cls} {e p : Nat} (hv : SV s n hd cls e) (hp : p < 6) (x : Int32) : SV (upd s (39 + p) x) n hd cls e := by
  obtain ⟨a1, a2, a3, a4, a5, a6⟩ := hv
  refine ⟨by rw [upd_ne (by omega)]; exact a1, a2, fun q hq => ?_, by rw [upd_ne (by omega)]; exact a4, a5, ?_⟩
  · obtain ⟨kk, k1, k2⟩ := a3 q hq
    exact ⟨kk, k1, by rw [upd_ne (by omega)]; exact k2⟩
  · cases hd with
    | none => exact ⟨by rw [upd_ne (by omega)]; exact a6.1, a6.2⟩
    | some k =>
      obtain ⟨h1, h2, h3, h4, h5, h6⟩ := a6
      exact ⟨by rw [upd_ne (by omega)]; exact h1, h2, by rw [upd_ne (by omega)]; exact h3, h4, fun j z hj => by rw [upd_ne (by omega)]; exact h5 j z hj, h6⟩
section SEEN
variable {X : Nat × (Nat → Int32)} {d : Nat} {T : List (Nat × Nat)} {I : Nat → Nat → Int32} {G : Nat → Nat → Option Nat} {s : Nat → Int32} {n p : Nat} {hd : Option Nat} {cls : Cls} {e : Nat} {du fd : Int32} {b : Nat}
theorem nI_nem1 {v : Nat} (h : v < 2 ^ 31) : nI v ≠ -1 := fun e => by
  have := nI_pos' h
  rw [e] at this
  exact absurd this (by decide)
end SEEN
