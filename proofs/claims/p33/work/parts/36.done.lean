/-! THE REFERENCE: done, of, told, loose -/
/-- alike from 26 on -/
def AM (s u : Nat → Int32) : Prop := ∀ j, 26 ≤ j → u j = s j
theorem AL.m {s u : Nat → Int32} (h : AL s u) : AM s u := fun j hj => h j (by omega)
theorem AM.tr {s u w : Nat → Int32} (h : AM s u) (h2 : AM u w) : AM s w := fun j hj => (h2 j hj).trans (h j hj)
theorem AM.T {s u : Nat → Int32} (h : AM s u) {hd : Option Nat} {w : Nat} (hw : 26 ≤ w) (no : Int32) : rT u hd w no = rT s hd w no := by
  cases hd with
  | none => rfl
  | some k => exact h _ (by omega)
theorem AM.V {s u : Nat → Int32} (h : AM s u) {n : Nat} {hd : Option Nat} {cls : Cls} {e e' : Nat} (hv : SV s n hd cls e) (h0 : u 0 = nI e') (h1 : e' < 1000000) : SV u n hd cls e' := by
  obtain ⟨a1, a2, a3, a4, a5, a6⟩ := hv
  refine ⟨(h 26 (by omega)).trans a1, a2, fun p hp => ?_, h0, h1, ?_⟩
  · obtain ⟨kk, k1, k2⟩ := a3 p hp
    exact ⟨kk, k1, (h _ (by omega)).trans k2⟩
  · cases hd with
    | none => exact ⟨(h 32 (by omega)).trans a6.1, a6.2⟩
    | some k =>
      obtain ⟨h1, h2, h3, h4, h5, h6⟩ := a6
      exact ⟨(h 32 (by omega)).trans h1, h2, (h _ (by omega)).trans h3, h4, fun j x hj => (h _ (by omega)).trans (h5 j x hj), h6⟩
theorem mix_backM {s u : Nat → Int32} (g : Nat → Int32) (h : AM s u) : mixf (mixf s g 26) u 26 = s := by
  funext j
  unfold mixf
  by_cases hj : j < 26
  · rw [if_pos hj, if_pos hj]
  · rw [if_neg hj]; exact h j (by omega)
theorem DF.am {I I' : Nat → Nat → Int32} {s u : Nat → Int32} {hd : Option Nat} {du fd : Int32} (h : DF I s hd du fd) (ha : AM s u) (hM : I' 140 = I 140) : DF I' u hd du fd := by
  refine ⟨?_, ?_⟩
  · rw [ha.T (by omega), hM]; exact h.1
  · rw [ha.T (by omega)]; exact h.2
def rGB (s : Nat → Int32) (n : Nat) (cls : Cls) (du fd : Int32) (w p : Nat) : Nat → Int32 := match w with
  | 0 => rGo s n cls du fd (rTop s n cls n).1
  | 1 => rGo s n cls du fd (some p)
  | 2 => upd s (20 + p) 1
  | _ => upd s (20 + p) 0
def rDn (s : Nat → Int32) (n : Nat) (cls : Cls) (du fd : Int32) : Nat → (Nat → Int32)
  | 0 => s
  | k + 1 => rGB (rDn s n cls du fd k) n cls du fd (s (90 + k)).toNatClampNeg (s (98 + k)).toNatClampNeg
/-- the PLAN -/
def SP (s : Nat → Int32) (n b : Nat) : Prop := s 29 = nI b ∧ b ≤ 8 ∧ ∀ k, k < b → ∃ w, w ≤ 3 ∧ s (90 + k) = nI w ∧ (0 < w → ∃ p, p < n ∧ s (98 + k) = nI p)
theorem rGB_am {s : Nat → Int32} {n : Nat} (hn6 : n ≤ 6) (cls : Cls) (du fd : Int32) {w p : Nat} (hp : 0 < w → p < n) : AM s (rGB s n cls du fd w p) := by
  match w, hp with
  | 0, hp => exact (rGo_al hn6 cls du fd (rTop_tk s n cls)).m
  | 1, hp => exact (rGo_al hn6 cls du fd (show tkV (some p) n (nI p) from ⟨hp (by omega), rfl⟩)).m
  | 2, hp => exact fun j hj => upd_ne (by have := hp (by omega); omega)
  | w + 3, hp => exact fun j hj => upd_ne (by have := hp (by omega); omega)
theorem rGB_0 {s : Nat → Int32} {e : Nat} (h : s 0 = nI e) (n : Nat) (cls : Cls) (du fd : Int32) (w p : Nat) : ∃ e', e' ≤ e + 1 ∧ rGB s n cls du fd w p 0 = nI e' := by
  match w with
  | 0 => exact ⟨e + 1, by omega, by show rGo _ _ _ _ _ _ 0 = _; rw [rGo_0, h, nI_succ]⟩
  | 1 => exact ⟨e + 1, by omega, by show rGo _ _ _ _ _ _ 0 = _; rw [rGo_0, h, nI_succ]⟩
  | 2 => exact ⟨e, by omega, by show upd s (20 + p) 1 0 = _; rw [upd_ne (by omega)]; exact h⟩
  | w + 3 => exact ⟨e, by omega, by show upd s (20 + p) 0 0 = _; rw [upd_ne (by omega)]; exact h⟩
theorem SP_p {s : Nat → Int32} {n b : Nat} (hn : n ≤ 6) (h : SP s n b) {k : Nat} (hk : k < b) : 0 < (s (90 + k)).toNatClampNeg → (s (98 + k)).toNatClampNeg < n := by
  obtain ⟨w, hw, e1, hp⟩ := h.2.2 k hk
  rw [e1, nI_clamp (by omega)]
  intro h0
  obtain ⟨p, hp, e2⟩ := hp h0
  rw [e2, nI_clamp (by omega)]
  exact hp
theorem rDn_am {s : Nat → Int32} {n b : Nat} (hn6 : n ≤ 6) (cls : Cls) (du fd : Int32) (h : SP s n b) : ∀ k, k ≤ b → AM s (rDn s n cls du fd k) := by
  intro k
  induction k with
  | zero => intro _; exact fun _ _ => rfl
  | succ k ih => intro hk; exact (ih (by omega)).tr (rGB_am hn6 cls du fd (SP_p hn6 h (by omega)))
theorem rDn_V {s : Nat → Int32} {n b : Nat} {hd : Option Nat} {cls : Cls} {e : Nat} (hv : SV s n hd cls e) (du fd : Int32) (h : SP s n b) : ∀ k, k ≤ b → e + k < 1000000 → ∃ e', e' ≤ e + k ∧ SV (rDn s n cls du fd k) n hd cls e' := by
  intro k
  induction k with
  | zero => intro _ _; exact ⟨e, by omega, hv⟩
  | succ k ih =>
    intro hk hk2
    obtain ⟨e', h1, h2⟩ := ih (by omega) (by omega)
    obtain ⟨e2, h3, h4⟩ := rGB_0 h2.2.2.2.1 n cls du fd (s (90 + k)).toNatClampNeg (s (98 + k)).toNatClampNeg
    exact ⟨e2, by omega, (rGB_am hv.2.1 cls du fd (SP_p hv.2.1 h (by omega))).V h2 h4 (by omega)⟩
theorem swt_out {dd lo hi : Int} {offs : Array Int} {c : Nat} {x : Int} (h : x < lo ∨ hi < x) : swt dd lo hi offs c x = ((c : Int) + dd).toNat := if_pos h
theorem clr_le : ∀ set, set < 64 → ∀ q, q < 6 → (if set / 2 ^ q % 2 = 1 then set - 2 ^ q else set) ≤ set := by decide +kernel
def clr (set q : Nat) : Nat := if set / 2 ^ q % 2 = 1 then set - 2 ^ q else set
theorem clr_nI : ∀ set, set < 64 → ∀ q, q < 6 → nI set &&& ((1 : Int32) <<< (nI q &&& 31) ^^^ (-1)) = nI (clr set q) := by decide +kernel
/-- the inner loop of loose: f holds what is known of smaller sets -/
def rLi (s : Nat → Int32) (n : Nat) (f : Nat → Int32) (set : Nat) : Nat → Int32
  | 0 => 1000000000
  | q + 1 => if clr set q ≠ set ∧ f (clr set q) + rTF s n q (nI (clr set q)) < rLi s n f set q then f (clr set q) + rTF s n q (nI (clr set q)) else rLi s n f set q
def rLo (s : Nat → Int32) (n : Nat) : Nat → (Nat → Int32)
  | 0 => fun _ => 0
  | k + 1 => upd (rLo s n k) (k + 1) (rLi s n (rLo s n k) (k + 1) n)
section DONE
variable {X : Nat × (Nat → Int32)} {d : Nat} {T : List (Nat × Nat)} {I : Nat → Nat → Int32} {G : Nat → Nat → Option Nat} {s : Nat → Int32} {n p : Nat} {hd : Option Nat} {cls : Cls} {e : Nat} {du fd : Int32} {b : Nat}
end DONE
