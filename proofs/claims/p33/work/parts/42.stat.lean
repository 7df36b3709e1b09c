/-! THE REFERENCE reads a station: clauses, all of it -/
theorem lkt_def {x : Int32} (h1 : x ≠ 99) (h2 : x ≠ 100) (h3 : x ≠ 102) (h4 : x ≠ 119) (dd o1 o2 o3 o4 : Int) (c : Nat) : lkt dd #[(99, o1), (100, o2), (102, o3), (119, o4)] c x.toInt = ((c : Int) + dd).toNat := by
  have k : ∀ y : Int32, x ≠ y → ¬ y.toInt = x.toInt := fun y hy e => hy (Int32.toInt_inj.mp e.symm)
  unfold lkt
  show ((c : Int) + Op.lookupswitch.offset [(99, o1), (100, o2), (102, o3), (119, o4)] dd x.toInt).toNat = _
  rw [Op.lookupswitch.offset_cons, if_neg (show ¬ (99 : Int) = x.toInt from k 99 h1), Op.lookupswitch.offset_cons, if_neg (show ¬ (100 : Int) = x.toInt from k 100 h2), Op.lookupswitch.offset_cons, if_neg (show ¬ (102 : Int) = x.toInt from k 102 h3), Op.lookupswitch.offset_cons, if_neg (show ¬ (119 : Int) = x.toInt from k 119 h4), Op.lookupswitch.offset_nil]
/-- what clauses leave -/
def FC (act : Nat) (J J' : Nat → Nat → Int32) : Prop := (∀ q, q ≠ 140 → q ≠ 141 → J' q = J q) ∧ (∀ j, j < 6 ∨ 10 < j → J' 140 j = J 140 j) ∧ (∀ j, j ≠ 222 + act → j ≠ 227 + act → j ≠ 232 + act → (j < 237 + 140 * act ∨ 377 + 140 * act ≤ j) → J' 141 j = J 141 j)
theorem FC.rf (act : Nat) (J : Nat → Nat → Int32) : FC act J J := ⟨fun _ _ _ => rfl, fun _ _ => rfl, fun _ _ _ _ _ => rfl⟩
theorem FC.tr {act : Nat} {J J' J'' : Nat → Nat → Int32} (h : FC act J J') (h' : FC act J' J'') : FC act J J'' := ⟨fun q h1 h2 => (h'.1 q h1 h2).trans (h.1 q h1 h2), fun j hj => (h'.2.1 j hj).trans (h.2.1 j hj), fun j h1 h2 h3 h4 => (h'.2.2 j h1 h2 h3 h4).trans (h.2.2 j h1 h2 h3 h4)⟩
theorem FP.c {act : Nat} {J J' : Nat → Nat → Int32} (h : FP act J J') : FC act J J' := ⟨h.1, h.2.1, fun j h1 h2 h3 h4 => h.2.2 j h3 h4⟩
/-- between two clauses -/
def RC (J : Nat → Nat → Int32) (t : Nat → Int32) (z act a : Nat) (st : Stn) : Prop := RP J t z act a 0 false (clsR st.2.2) ∧ J 141 (222 + act) = nI st.1 ∧ J 141 (227 + act) = nI st.2.1
def RD (J : Nat → Nat → Int32) (t : Nat → Int32) (z act : Nat) (r : Bool × Nat × Stn) : Prop := match r with
  | (true, b, st) => RC J t z act b st
  | (false, b, _) => ∃ L, RP J t z act b 0 true L
theorem RC.fp {J J' : Nat → Nat → Int32} {t : Nat → Int32} {z act a b : Nat} {st : Stn} (hact : act < 5) (h : RC J t z act a st) (hf : FP act J J') : J' 141 (222 + act) = nI st.1 ∧ J' 141 (227 + act) = nI st.2.1 := ⟨(hf.2.2 _ (by omega) (by omega)).trans h.2.1, (hf.2.2 _ (by omega) (by omega)).trans h.2.2⟩
/-- the clauses from the result of one on, m more at most -/
def pS1 (t : Nat → Int32) (z m : Nat) (r : Bool × Nat × Stn) : Bool × Nat × Stn := match r with
  | (false, b, st) => (false, b, st)
  | (true, b, st) => if z ≤ b then (true, b, st) else if m = 0 ∨ pk t z b ≠ 59 then (false, b, st) else pS t z m (b + 1) st
theorem pS_1 (t : Nat → Int32) (z m a : Nat) (st : Stn) : pS t z (m + 1) a st = pS1 t z m (pC t z a st) := by
  show (match pC t z a st with
    | (false, b, st') => (false, b, st')
    | (true, b, st') => if z ≤ b then (true, b, st') else if m = 0 ∨ pk t z b ≠ 59 then (false, b, st') else pS t z m (b + 1) st') = _
  rcases pC t z a st with ⟨ok, b, st'⟩
  cases ok <;> rfl
section STAT
variable {X : Nat × (Nat → Int32)} {d : Nat} {T : List (Nat × Nat)} {I : Nat → Nat → Int32} {G : Nat → Nat → Option Nat} {t : Nat → Int32} {z act a : Nat} {st : Stn} {s : Nat → Int32}
end STAT
