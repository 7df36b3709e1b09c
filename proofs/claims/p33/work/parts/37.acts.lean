/-! THE REFERENCE: told, acts -/
/-- whose kind is under which -/
def und (kk j : Nat) : Bool := decide (j = 0 ∨ j = kk ∨ (j < 4 ∧ kk = j + 3))
/-- what acts answer, and which bodies run -/
def aPW (nu x : Int32) : Int32 × List Int32 := (x + nu, [1])
def aW (kk : Nat) (nu x : Int32) : Int32 × List Int32 := if und kk 1 = true then ((aPW nu (x * 3)).1, 11 :: (aPW nu (x * 3)).2) else if kk = 5 then ((aPW nu x).1 ^^^ nu, 51 :: (aPW nu x).2) else aPW nu x
def aPN (kk : Nat) (nu v x : Int32) : Int32 × List Int32 := ((aW kk nu x).1 - v, 2 :: (aW kk nu x).2)
def aN (kk : Nat) (nu v x : Int32) : Int32 × List Int32 := if und kk 2 = true then (-(aPN kk nu v x).1, 21 :: (aPN kk nu v x).2) else if kk = 6 then ((aPN kk nu v x).1 + v, 61 :: (aPN kk nu v x).2) else aPN kk nu v x
def aPT (kk : Nat) (nu v x : Int32) : Int32 × List Int32 := ((aN kk nu v x).1 * 2, 3 :: (aN kk nu v x).2)
def aT (kk : Nat) (nu v x : Int32) : Int32 × List Int32 := if und kk 3 = true then ((aPT kk nu v x).1 ^^^ 7, 31 :: (aPT kk nu v x).2) else if kk = 4 then ((aPT kk nu v (x - 1)).1 + (aW kk nu 2).1, 41 :: (aPT kk nu v (x - 1)).2 ++ (aW kk nu 2).2) else aPT kk nu v x
def aAct (kk : Nat) (nu v x : Int32) : Nat → Int32 × List Int32
  | 0 => aW kk nu x
  | 1 => aN kk nu v x
  | _ => aT kk nu v x
theorem aW_len (kk : Nat) (nu x : Int32) : (aW kk nu x).2.length ≤ 2 := by
  unfold aW
  split
  · exact Nat.le_refl _
  · split
    · exact Nat.le_refl _
    · exact Nat.le_succ _
theorem aN_len (kk : Nat) (nu v x : Int32) : (aN kk nu v x).2.length ≤ 4 := by
  have := aW_len kk nu x
  unfold aN aPN
  split
  · simp only [List.length_cons]; omega
  · split <;> simp only [List.length_cons] <;> omega
theorem aAct_len : ∀ (kk w : Nat) (nu v x : Int32), (aAct kk nu v x w).2.length ≤ 9 := by
  have hW := aW_len
  have hN := aN_len
  intro kk w nu v x
  match w with
  | 0 => have := hW kk nu x; show (aW kk nu x).2.length ≤ 9; omega
  | 1 => have := hN kk nu v x; show (aN kk nu v x).2.length ≤ 9; omega
  | w + 2 =>
    have h1 := hN kk nu v x
    have h2 := hN kk nu v (x - 1)
    have h3 := hW kk nu 2
    show (aT kk nu v x).2.length ≤ 9
    unfold aT aPT
    split
    · simp only [List.length_cons]; omega
    · split
      · simp only [List.length_cons, List.length_append]; omega
      · simp only [List.length_cons]; omega
/-- which bodies have run, as the reference holds it -/
def TC (J : Nat → Nat → Int32) (l : List Int32) : Prop := J 140 16 = nI l.length ∧ ∀ (i : Nat) (x : Int32), l[i]? = some x → i < 20 → J 148 i = x
/-- what the acts of the reference leave -/
def MA (I I' : Nat → Nat → Int32) : Prop := (∀ q, q ≠ 140 → q ≠ 148 → I' q = I q) ∧ ∀ j, j ≠ 16 → I' 140 j = I 140 j
theorem MA.rf (I : Nat → Nat → Int32) : MA I I := ⟨fun _ _ _ => rfl, fun _ _ => rfl⟩
theorem MA.tr {I I' I'' : Nat → Nat → Int32} (h : MA I I') (h' : MA I' I'') : MA I I'' := ⟨fun q h1 h2 => (h'.1 q h1 h2).trans (h.1 q h1 h2), fun j hj => (h'.2 j hj).trans (h.2 j hj)⟩
section ACTS
variable {X : Nat × (Nat → Int32)} {d : Nat} {T : List (Nat × Nat)} {I : Nat → Nat → Int32} {G : Nat → Nat → Option Nat} {s : Nat → Int32} {n p : Nat} {hd : Option Nat} {cls : Cls} {e : Nat} {du fd : Int32} {l : List Int32} {kk : Nat} {nu v : Int32}
/-- the fields that acts look at -/
def KN (I : Nat → Nat → Int32) (kk : Nat) (nu v : Int32) : Prop := kk ≤ 6 ∧ I 140 17 = nI kk ∧ I 140 18 = nu ∧ I 140 19 = v
theorem KN.ma {I I' : Nat → Nat → Int32} (h : KN I kk nu v) (h' : MA I I') : KN I' kk nu v := ⟨h.1, (h'.2 17 (by omega)).trans h.2.1, (h'.2 18 (by omega)).trans h.2.2.1, (h'.2 19 (by omega)).trans h.2.2.2⟩
theorem aPT_len (kk : Nat) (nu v x : Int32) : (aPT kk nu v x).2.length ≤ 5 := by
  have h := aN_len kk nu v x
  show (3 :: (aN kk nu v x).2).length ≤ 5
  simp only [List.length_cons]
  omega
/-- what act leaves: the bodies, and the fields that it looks at -/
def MB (I I' : Nat → Nat → Int32) : Prop := (∀ q, q ≠ 140 → q ≠ 148 → I' q = I q) ∧ I' 140 4 = I 140 4 ∧ I' 140 5 = I 140 5
/-- what told tells -/
def rTold (s : Nat → Int32) (n : Nat) (hd : Option Nat) (cls : Cls) (w : Nat) : Int32 := match w with
  | 0 => s 0
  | 1 => rT s hd 222 20
  | 2 => rT s hd 227 1
  | 3 => s 1
  | 4 => rSO s n
  | 5 => rRO s n n
  | 6 => tv (rTop s n cls n).1
  | 7 => rRing s n n
  | _ => rLo s n (2 ^ n - 1) (2 ^ n - 1)
end ACTS
