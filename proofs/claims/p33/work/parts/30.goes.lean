/-! THE REFERENCE: AN EVENING GOES -/
def rTk (s : Nat → Int32) (n p : Nat) (cls : Cls) : Int32 := s (8 + p) + (if rStir s n p cls ≤ 0 then 0 else rStir s n p cls)
def rTlk (s : Nat → Int32) (n p : Nat) (cls : Cls) : Int32 := if rTk s n p cls ≤ 99 then rTk s n p cls else 99
/-- TALK of one -/
def rTalk (s : Nat → Int32) (n p : Nat) (cls : Cls) (du : Int32) : Nat → Int32 := upd (upd s (8 + p) (rTlk s n p cls)) (14 + p) (if rTlk s n p cls < du then 0 else 1)
def rHr (s : Nat → Int32) (n : Nat) (tk : Option Nat) : Option Nat := match tk with
  | some p => if rRd s n p = true then some p else none
  | none => none
def rG1 (s : Nat → Int32) (n : Nat) (cls : Cls) (du : Int32) (hr : Option Nat) : Nat → Int32 := match hr with
  | some p => rTalk s n p cls du
  | none => s
def gT (u : Nat → Int32) (f : Bool) (fd : Int32) (q : Nat) : Int32 := if 0 ≤ u (8 + q) - (if f = true then fd else 0) then u (8 + q) - (if f = true then fd else 0) else 0
def gA (u1 : Nat → Int32) (q : Nat) : Nat → Int32 := upd u1 (2 + q) (u1 (2 + q) + if u1 (14 + q) = 0 then 1 else 0)
def gC (u2 : Nat → Int32) (q : Nat) : Nat → Int32 := upd u2 1 (u2 1 + bI (rOp u2 q))
def rGq (u : Nat → Int32) (f : Bool) (fd : Int32) (q : Nat) : Nat → Int32 := gC (gA (upd u (8 + q) (gT u f fd q)) q) q
def rG (s u0 : Nat → Int32) (hr : Option Nat) (fd : Int32) : Nat → (Nat → Int32)
  | 0 => u0
  | q + 1 => rGq (rG s u0 hr fd q) (rOp s q && !decide (hr = some q)) fd q
def rGo (s : Nat → Int32) (n : Nat) (cls : Cls) (du fd : Int32) (tk : Option Nat) : Nat → Int32 := upd (rG s (rG1 s n cls du (rHr s n tk)) (rHr s n tk) fd n) 0 (rG s (rG1 s n cls du (rHr s n tk)) (rHr s n tk) fd n 0 + 1)
def PG (q : Nat) : Prop := q = 141 ∨ q = 144 ∨ q = 145 ∨ q = 147
theorem PS.g : ∀ q, PS q → PG q := fun q h => by rcases h with h | h <;> simp [PG, h]
theorem PG.f {I I' : Nat → Nat → Int32} (h : FR PG I I') : MF I I' := by
  refine ⟨fun q hq => h q (fun g => ?_), fun q hq => h q (fun g => ?_), h _ (fun g => ?_), h _ (fun g => ?_), ?_, ?_, ?_⟩
  all_goals first | (unfold PG at g; omega) | (rw [h _ (by unfold PG; omega)])
/-- alike from 20 on -/
def AL (s u : Nat → Int32) : Prop := ∀ j, 20 ≤ j → u j = s j
theorem AL.T {s u : Nat → Int32} (h : AL s u) {hd : Option Nat} {w : Nat} (hw : 20 ≤ w) (no : Int32) : rT u hd w no = rT s hd w no := by
  cases hd with
  | none => rfl
  | some k => exact h _ (by omega)
theorem AL.H {s u : Nat → Int32} (h : AL s u) {hd : Option Nat} (hh : rHold s hd) : rHold u hd := by
  cases hd with
  | none => exact (h 32 (by omega)).trans hh
  | some k => exact ⟨(h 32 (by omega)).trans hh.1, hh.2⟩
theorem AL.S {s u : Nat → Int32} (h : AL s u) {hd : Option Nat} {cls : Cls} (hh : stOK s hd cls) : stOK u hd cls := by
  cases hd with
  | none => exact ⟨(h 32 (by omega)).trans hh.1, hh.2⟩
  | some k =>
    obtain ⟨h1, h2, h3, h4, h5, h6⟩ := hh
    exact ⟨(h 32 (by omega)).trans h1, h2, (h _ (by omega)).trans h3, h4, fun j x hj => (h _ (by omega)).trans (h5 j x hj), h6⟩
theorem AL.up {s u : Nat → Int32} (h : AL s u) {j : Nat} (hj : j < 20) (x : Int32) : AL s (upd u j x) := fun k hk => by rw [upd_ne (by omega)]; exact h k hk
theorem AL.V {s u : Nat → Int32} (h : AL s u) {n : Nat} {hd : Option Nat} {cls : Cls} {e e' : Nat} (hv : SV s n hd cls e) (h0 : u 0 = nI e') (h1 : e' < 1000000) : SV u n hd cls e' := by
  obtain ⟨a1, a2, a3, a4, a5, a6⟩ := hv
  refine ⟨(h 26 (by omega)).trans a1, a2, fun p hp => ?_, h0, h1, h.S a6⟩
  obtain ⟨kk, k1, k2⟩ := a3 p hp
  exact ⟨kk, k1, (h _ (by omega)).trans k2⟩
section GOES
variable {X : Nat × (Nat → Int32)} {d : Nat} {T : List (Nat × Nat)} {I : Nat → Nat → Int32} {G : Nat → Nat → Option Nat} {s : Nat → Int32} {n p : Nat} {hd : Option Nat} {cls : Cls} {e : Nat}
end GOES
