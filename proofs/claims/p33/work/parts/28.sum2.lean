/-! THE REFERENCE: SUM, all of it -/
def SL (s : Nat → Int32) (i : Nat) (l : List Int32) : Prop := ∀ (j : Nat) (x : Int32), l[j]? = some x → s (i + j) = x
theorem SL_cons {s : Nat → Int32} {i : Nat} {x : Int32} {l : List Int32} (h : SL s i (x :: l)) : s i = x ∧ SL s (i + 1) l := by
  refine ⟨h 0 x rfl, fun j y hj => ?_⟩
  have := h (j + 1) y hj
  rwa [show i + (j + 1) = i + 1 + j by omega] at this
theorem dpT_le {t m m' : Nat} (h : dpT t m = some m') (hm : m ≤ 20) : m' ≤ 20 := by
  match t, h with
  | 0, h => simp only [dpT] at h; split at h <;> simp at h; omega
  | 1, h => simp only [dpT] at h; split at h <;> simp at h; omega
  | 2, h => simp only [dpT] at h; split at h <;> simp at h; omega
  | u + 3, h => simp only [dpT] at h; split at h <;> simp at h; omega
section SUM2
variable {X : Nat × (Nat → Int32)} {d : Nat} {T : List (Nat × Nat)} {I : Nat → Nat → Int32} {G : Nat → Nat → Option Nat} {s : Nat → Int32} {n p : Nat}
theorem clR_len (q : Nat × Bool × List Nat) : (clR q).length = q.2.2.length + 1 := by simp [clR]
def rBy (s : Nat → Int32) (n p : Nat) (j : Nat) : Int32 := match j with
  | 0 => nI p
  | 1 => s (33 + p)
  | 2 => s (39 + p)
  | 3 => s (2 + p) - s (2 + p) / 10 * 10
  | 4 => rC (rW s p n) 6
  | _ => s 0 - s 0 / 10 * 10
def rSum (s : Nat → Int32) (n p : Nat) (cls : Cls) : Int32 := sumC (rBy s n p) cls 5
/-- the station that is held, and its clauses -/
def stOK (s : Nat → Int32) (hd : Option Nat) (cls : Cls) : Prop := match hd with
  | none => s 32 = -1 ∧ cls = []
  | some h => s 32 = nI h ∧ h < 5 ∧ s (232 + h) = nI (clsR cls).length ∧ (clsR cls).length ≤ 140 ∧ SL s (237 + 140 * h) (clsR cls) ∧ clOK cls
theorem stOK.hold {hd : Option Nat} {cls : Cls} (h : stOK s hd cls) : rHold s hd := by
  cases hd with
  | none => exact h.1
  | some k => exact ⟨h.1, h.2.1⟩
end SUM2
