/-! THE REFERENCE: AN EVENING GOES -/
def rTk (s : Nat → Int32) (n p : Nat) (cls : Cls) : Int32 := s (8 + p) + (if rStir s n p cls ≤ 0 then 0 else rStir s n p cls)
def rTlk (s : Nat → Int32) (n p : Nat) (cls : Cls) : Int32 := if rTk s n p cls ≤ 99 then rTk s n p cls else 99
/-- TALK of one -/
def rTalk (s : Nat → Int32) (n p : Nat) (cls : Cls) (du : Int32) : Nat → Int32 := upd (upd s (8 + p) (rTlk s n p cls)) (14 + p) (if rTlk s n p cls < du then 0 else 1)
def rHr (s : Nat → Int32) (n : Nat) (tk : Option Nat) : Option Nat := match tk with
  | some p => if rRd s n p = true then some p else none
  | none => none
def rG1 (s : Nat → Int32) (n : Nat) (cls : Cls) (du : Int32) (hr : Option Nat) : Nat → Int32 := match hr with
  | some p => rTalk s n p cls du
  | none => s
def gT (u : Nat → Int32) (f : Bool) (fd : Int32) (q : Nat) : Int32 := if 0 ≤ u (8 + q) - (if f = true then fd else 0) then u (8 + q) - (if f = true then fd else 0) else 0
def gA (u1 : Nat → Int32) (q : Nat) : Nat → Int32 := upd u1 (2 + q) (u1 (2 + q) + if u1 (14 + q) = 0 then 1 else 0)
def gC (u2 : Nat → Int32) (q : Nat) : Nat → Int32 := upd u2 1 (u2 1 + bI (rOp u2 q))
def rGq (u : Nat → Int32) (f : Bool) (fd : Int32) (q : Nat) : Nat → Int32 := gC (gA (upd u (8 + q) (gT u f fd q)) q) q
def rG (s u0 : Nat → Int32) (hr : Option Nat) (fd : Int32) : Nat → (Nat → Int32)
  | 0 => u0
  | q + 1 => rGq (rG s u0 hr fd q) (rOp s q && !decide (hr = some q)) fd q
def rGo (s : Nat → Int32) (n : Nat) (cls : Cls) (du fd : Int32) (tk : Option Nat) : Nat → Int32 := upd (rG s (rG1 s n cls du (rHr s n tk)) (rHr s n tk) fd n) 0 (rG s (rG1 s n cls du (rHr s n tk)) (rHr s n tk) fd n 0 + 1)
def PG (q : Nat) : Prop := q = 141 ∨ q = 144 ∨ q = 145 ∨ q = 147
theorem PS.g : ∀ q, PS q → PG q := fun q h => by rcases h with h | h <;> simp [PG, h]
theorem PG.f {I I' : Nat → Nat → Int32} (h : FR PG I I') : MF I I' := by
  refine ⟨fun q hq => h q (fun g => ?_), fun q hq => h q (fun g => ?_), h _ (fun g => ?_), h _ (fun g => ?_), ?_, ?_, ?_⟩
  all_goals first | (unfold PG at g; omega) | (rw [h _ (by unfold PG; omega)])
/-- alike from 20 on -/
def AL (s u : Nat → Int32) : Prop := ∀ j, 20 ≤ j → u j = s j
theorem AL.T {s u : Nat → Int32} (h : AL s u) {hd : Option Nat} {w : Nat} (hw : 20 ≤ w) (no : Int32) : rT u hd w no = rT s hd w no := by
  cases hd with
  | none => rfl
  | some k => exact h _ (by omega)
theorem AL.H {s u : Nat → Int32} (h : AL s u) {hd : Option Nat} (hh : rHold s hd) : rHold u hd := by
  cases hd with
  | none => exact (h 32 (by omega)).trans hh
  | some k => exact ⟨(h 32 (by omega)).trans hh.1, hh.2⟩
theorem AL.S {s u : Nat → Int32} (h : AL s u) {hd : Option Nat} {cls : Cls} (hh : stOK s hd cls) : stOK u hd cls := by
  cases hd with
  | none => exact ⟨(h 32 (by omega)).trans hh.1, hh.2⟩
  | some k =>
    obtain ⟨h1, h2, h3, h4, h5, h6⟩ := hh
    exact ⟨(h 32 (by omega)).trans h1, h2, (h _ (by omega)).trans h3, h4, fun j x hj => (h _ (by omega)).trans (h5 j x hj), h6⟩
theorem AL.up {s u : Nat → Int32} (h : AL s u) {j : Nat} (hj : j < 20) (x : Int32) : AL s (upd u j x) := fun k hk => by rw [upd_ne (by omega)]; exact h k hk
theorem AL.V {s u : Nat → Int32} (h : AL s u) {n : Nat} {hd : Option Nat} {cls : Cls} {e e' : Nat} (hv : SV s n hd cls e) (h0 : u 0 = nI e') (h1 : e' < 1000000) : SV u n hd cls e' := by
  obtain ⟨a1, a2, a3, a4, a5, a6⟩ := hv
  refine ⟨(h 26 (by omega)).trans a1, a2, fun p hp => ?_, h0, h1, h.S a6⟩
  obtain ⟨kk, k1, k2⟩ := a3 p hp
  exact ⟨kk, k1, (h _ (by omega)).trans k2⟩
section GOES
variable {X : Nat × (Nat → Int32)} {d : Nat} {T : List (Nat × Nat)} {I : Nat → Nat → Int32} {G : Nat → Nat → Option Nat} {s : Nat → Int32} {n p : Nat} {hd : Option Nat} {cls : Cls} {e : Nat}
theorem m_talksOf (hI : I 141 = s) (hv : SV s n hd cls e) (hp : p < 6) {du : Int32} (hdu : du = if I 140 5 = -1 then rT s hd 222 20 else I 140 5) : ∃ I', Ev X (d + 3) kX12_talksOf 0 (ent kX12_talksOf [.ref 140, .int (nI p)]) [] (K0 ++ T, I, RS G) (none, (K0 ++ T, I', RS G)) ∧ I' 141 = rTalk s n p cls du ∧ FR PG I I' ∧ I' 147 = I 147 := by
  obtain ⟨J, e1, e2, e3⟩ := m_stirOf (X := X) (d := d) (T := T) (G := G) hI hv hp
  have hI := e2
  obtain ⟨J1, hJ1⟩ : ∃ J1, J1 = upI J 141 (8 + p) (rTlk s n p cls) := ⟨_, rfl⟩
  have j1 : J1 141 = upd s (8 + p) (rTlk s n p cls) := by rw [hJ1, up143 e2]
  have al : AL s (upd s (8 + p) (rTlk s n p cls)) := AL.up (fun _ _ => rfl) (by omega) _
  have hdu2 : (if J1 140 5 = -1 then rT (upd s (8 + p) (rTlk s n p cls)) hd 222 20 else J1 140 5) = du := by
    rw [al.T (by omega), hdu, hJ1, upI_ne (by omega), e3 140 (by unfold PS; omega)]
  refine ⟨upI J1 141 (14 + p) (if rTlk s n p cls < du then 0 else 1), ?_, ?_, ?_, ?_⟩
  · have k46 : ∀ a b : Option Value, Ev X (d + 3) kX12_talksOf 46 [some (.ref 140), some (.int (nI p)), a, b] [.int (rTlk s n p cls), .int (8 + nI p), .ref 141] (K0 ++ T, J, RS G) (none, (K0 ++ T, upI J1 141 (14 + p) (if rTlk s n p cls < du then 0 else 1), RS G)) := by
      intro a b
      refine Ev.iast (j := 8 + p) rfl rfl (nI_add 8 p) (by omega) (by omega) ?_
      rw [← hJ1]
      (repeat refine Ev.p rfl rfl ?_)
      (refine Ev.iald (j := 8 + p) rfl rfl (nI_add 8 p) (by omega) (by omega) ?_; rw [j1, upd_at])
      (repeat refine Ev.p rfl rfl ?_)
      refine Ev.c rfl (m_due j1 (al.H hv.2.2.2.2.2.hold)) ?_
      rw [hdu2]
      (repeat refine Ev.p rfl rfl ?_)
      refine Ev.bp rfl (fun c => ?_) (fun c => ?_)
      · rw [if_pos c]
        (repeat refine Ev.p rfl rfl ?_)
        refine Ev.iast (j := 14 + p) rfl rfl (nI_add 14 p) (by omega) (by omega) ?_
        ((repeat refine Ev.p rfl rfl ?_); exact Ev.r rfl)
      · rw [if_neg c]
        (repeat refine Ev.p rfl rfl ?_)
        refine Ev.iast (j := 14 + p) rfl rfl (nI_add 14 p) (by omega) (by omega) ?_
        ((repeat refine Ev.p rfl rfl ?_); exact Ev.r rfl)
    have k24 : ∀ (a : Int32) (b : Option Value) (z : Int32), z = (if rStir s n p cls ≤ 0 then 0 else rStir s n p cls) → Ev X (d + 3) kX12_talksOf 24 [some (.ref 140), some (.int (nI p)), some (.int a), b] [.int z, .int (s (8 + p))] (K0 ++ T, J, RS G) (none, (K0 ++ T, upI J1 141 (14 + p) (if rTlk s n p cls < du then 0 else 1), RS G)) := by
      intro a b z hz
      have hz2 : s (8 + p) + z = rTk s n p cls := by rw [hz]; rfl
      iterate 1 refine Ev.p rfl rfl ?_
      rw [hz2]
      (repeat refine Ev.p rfl rfl ?_)
      refine Ev.bp rfl (fun c => ?_) (fun c => ?_)
      · have g := k46
        rw [show rTlk s n p cls = rTk s n p cls from if_pos c] at g ⊢
        (repeat (first | (refine Ev.at (q := 46) rfl ?_; exact (g _ _)) | refine Ev.p rfl rfl ?_))
      · have g := k46
        rw [show rTlk s n p cls = 99 from if_neg c] at g ⊢
        (repeat (first | (refine Ev.at (q := 46) rfl ?_; exact (g _ _)) | refine Ev.p rfl rfl ?_))
    (repeat refine Ev.p rfl rfl ?_)
    refine Ev.c rfl e1 ?_
    ((repeat refine Ev.p rfl rfl ?_); refine Ev.ls (ls2 := [_, _, _, _]) rfl ?_)
    (refine Ev.iald (j := 8 + p) rfl rfl (nI_add 8 p) (by omega) (by omega) ?_; rw [hI])
    (repeat refine Ev.p rfl rfl ?_)
    refine Ev.bp rfl (fun c => ?_) (fun c => ?_)
    · (repeat (first | (refine Ev.at (q := 24) rfl ?_; exact (k24 _ _ _ (if_pos c).symm)) | refine Ev.p rfl rfl ?_))
    · (repeat (first | (refine Ev.at (q := 24) rfl ?_; exact (k24 _ _ _ (if_neg c).symm)) | refine Ev.p rfl rfl ?_))
  · rw [up143 j1]; rfl
  · refine FR.tr (FR.mo e3 PS.g) (FR.tr (I' := J1) ?_ (FR.up (by simp [PG])))
    rw [hJ1]
    exact FR.up (by simp [PG])
  · rw [upI_ne (by omega), hJ1, upI_ne (by omega), e3 147 (by unfold PS; omega)]
/-- at the head of the second loop of goes -/
def GG (X : Nat × (Nat → Int32)) (d : Nat) (T : List (Nat × Nat)) (I : Nat → Nat → Int32) (G : Nat → Nat → Option Nat) (x : Int32) (tb : Bool) (res : Nat → Int32) (J : Nat → Nat → Int32) (q : Nat) : Prop :=
  ∃ I', (∀ a b : Option Value, Ev X d kX12_goes 59 [some (.ref 140), some (.int x), some (.int (bI tb)), some (.int (nI q)), a, b] [] (K0 ++ T, J, RS G) (none, (K0 ++ T, I', RS G))) ∧ I' 141 = res ∧ FR PG I I'
theorem gg_step {x : Int32} {tb w : Bool} {res : Nat → Int32} {J : Nat → Nat → Int32} {u : Nat → Int32} {q : Nat} {fd : Int32} (hJ : J 141 = u) (ha : AL s u) (hn : s 26 = nI n) (hn6 : n ≤ 6) (hq : q < n) (hw : J 147 q = bI w) (hh : rHold s hd) (hfd : rT s hd 227 1 = fd) (hM : FR PG I J)
    (kk : ∀ J', J' 141 = rGq u (w && !(tb && decide (nI q = x))) fd q → J' 147 = J 147 → FR PG I J' → GG X (d + 1) T I G x tb res J' (q + 1)) : GG X (d + 1) T I G x tb res J q := by
  obtain ⟨f, hf⟩ : ∃ f, f = (w && !(tb && decide (nI q = x))) := ⟨_, rfl⟩
  rw [← hf] at kk
  obtain ⟨u1, hu1⟩ : ∃ u1, u1 = upd u (8 + q) (gT u f fd q) := ⟨_, rfl⟩
  obtain ⟨J1, hJ1⟩ : ∃ J1, J1 = upI J 141 (8 + q) (gT u f fd q) := ⟨_, rfl⟩
  have j1 : J1 141 = u1 := by rw [hJ1, up143 hJ, hu1]
  obtain ⟨w2, hw2⟩ : ∃ w2, w2 = u1 (2 + q) + (if u1 (14 + q) = 0 then 1 else 0) := ⟨_, rfl⟩
  obtain ⟨u2, hu2⟩ : ∃ u2, u2 = gA u1 q := ⟨_, rfl⟩
  obtain ⟨J2, hJ2⟩ : ∃ J2, J2 = upI J1 141 (2 + q) w2 := ⟨_, rfl⟩
  have j2 : J2 141 = u2 := by rw [hJ2, up143 j1, hu2, hw2]; rfl
  have hM2 : FR PG I J2 := by
    rw [hJ2, hJ1]
    exact FR.tr hM (FR.tr (FR.up (by simp [PG])) (FR.up (by simp [PG])))
  obtain ⟨I', e1, e2⟩ := kk (upI J2 141 1 (u2 1 + bI (rOp u2 q))) (by rw [up143 j2, hu2, hu1]; rfl) (by rw [upI_ne (by omega), hJ2, upI_ne (by omega), hJ1, upI_ne (by omega)]) (hM2.tr (FR.up (by simp [PG])))
  refine ⟨I', ?_, e2⟩
  rw [nI_succ] at e1
  have hN : u 26 = nI n := (ha 26 (by omega)).trans hn
  have k170 : ∀ (a b : Option Value) (z : Int32), z = (if u1 (14 + q) = 0 then 1 else 0) → Ev X (d + 1) kX12_goes 170 [some (.ref 140), some (.int x), some (.int (bI tb)), some (.int (nI q)), a, b] [.int z, .int (u1 (2 + q)), .int (2 + nI q), .ref 141] (K0 ++ T, J1, RS G) (none, (K0 ++ T, I', RS G)) := by
    intro a b z hz
    iterate 1 refine Ev.p rfl rfl ?_
    rw [hz, ← hw2]
    refine Ev.iast (j := 2 + q) rfl rfl (nI_add 2 q) (by omega) (by omega) ?_
    rw [← hJ2]
    (repeat refine Ev.p rfl rfl ?_)
    (refine Ev.iald (j := 1) rfl rfl rfl (by omega) (by omega) ?_; rw [j2])
    (repeat refine Ev.p rfl rfl ?_)
    refine Ev.c rfl (m_isOpen j2 (p := q) (by omega)) ?_
    cases hb : rOp u2 q with
    | true =>
      rw [hb] at e1
      (repeat refine Ev.p rfl rfl ?_)
      refine Ev.iast (j := 1) rfl rfl rfl (by omega) (by omega) ?_
      (repeat (first | (refine Ev.at (q := 59) rfl ?_; exact (e1 _ _)) | refine Ev.p rfl rfl ?_))
    | false =>
      rw [hb] at e1
      (repeat refine Ev.p rfl rfl ?_)
      refine Ev.iast (j := 1) rfl rfl rfl (by omega) (by omega) ?_
      (repeat (first | (refine Ev.at (q := 59) rfl ?_; exact (e1 _ _)) | refine Ev.p rfl rfl ?_))
  have k143 : ∀ (a b : Option Value), Ev X (d + 1) kX12_goes 143 [some (.ref 140), some (.int x), some (.int (bI tb)), some (.int (nI q)), a, b] [.int (gT u f fd q), .int (8 + nI q), .ref 141] (K0 ++ T, J, RS G) (none, (K0 ++ T, I', RS G)) := by
    intro a b
    refine Ev.iast (j := 8 + q) rfl rfl (nI_add 8 q) (by omega) (by omega) ?_
    rw [← hJ1]
    (repeat refine Ev.p rfl rfl ?_)
    (refine Ev.iald (j := 2 + q) rfl rfl (nI_add 2 q) (by omega) (by omega) ?_; rw [j1])
    (repeat refine Ev.p rfl rfl ?_)
    (refine Ev.iald (j := 14 + q) rfl rfl (nI_add 14 q) (by omega) (by omega) ?_; rw [j1])
    (repeat refine Ev.p rfl rfl ?_)
    refine Ev.bp rfl (fun c => ?_) (fun c => ?_)
    · (repeat (first | (refine Ev.at (q := 170) rfl ?_; exact (k170 _ _ _ (if_neg c).symm)) | refine Ev.p rfl rfl ?_))
    · (repeat (first | (refine Ev.at (q := 170) rfl ?_; exact (k170 _ _ _ (if_pos (Decidable.not_not.mp c)).symm)) | refine Ev.p rfl rfl ?_))
  have k121 : ∀ (a : Int32) (b : Option Value) (z : Int32), z = (if f = true then fd else 0) → Ev X (d + 1) kX12_goes 121 [some (.ref 140), some (.int x), some (.int (bI tb)), some (.int (nI q)), some (.int a), b] [.int z, .int (u (8 + q))] (K0 ++ T, J, RS G) (none, (K0 ++ T, I', RS G)) := by
    intro a b z hz
    have hg : gT u f fd q = if 0 ≤ u (8 + q) - z then u (8 + q) - z else 0 := by rw [hz]; rfl
    (repeat refine Ev.p rfl rfl ?_)
    refine Ev.bp rfl (fun c => ?_) (fun c => ?_)
    · have g := k143
      rw [hg, if_pos c] at g
      (repeat (first | (refine Ev.at (q := 143) rfl ?_; exact (g _ _)) | refine Ev.p rfl rfl ?_))
    · have g := k143
      rw [hg, if_neg c] at g
      (repeat (first | (refine Ev.at (q := 143) rfl ?_; exact (g _ _)) | refine Ev.p rfl rfl ?_))
  have k93 : ∀ (a b : Option Value), Ev X (d + 1) kX12_goes 93 [some (.ref 140), some (.int x), some (.int (bI tb)), some (.int (nI q)), a, b] [.int (bI f)] (K0 ++ T, J, RS G) (none, (K0 ++ T, I', RS G)) := by
    intro a b
    ((repeat refine Ev.p rfl rfl ?_); refine Ev.ls (ls2 := [_, _, _, _, _, _]) rfl ?_)
    (refine Ev.iald (j := 8 + q) rfl rfl (nI_add 8 q) (by omega) (by omega) ?_; rw [hJ])
    cases hfb : f with
    | true =>
      (repeat refine Ev.p rfl rfl ?_)
      refine Ev.c rfl (m_tellsOf hJ (ha.H hh) (w := 227) (by omega) 1) ?_
      rw [ha.T (by omega), hfd]
      (repeat (first | (refine Ev.at (q := 121) rfl ?_; exact (k121 _ _ _ (by rw [hfb]; rfl))) | refine Ev.p rfl rfl ?_))
    | false =>
      (repeat (first | (refine Ev.at (q := 121) rfl ?_; exact (k121 _ _ _ (by rw [hfb]; rfl))) | refine Ev.p rfl rfl ?_))
  intro a b
  (repeat refine Ev.p rfl rfl ?_)
  (refine Ev.iald (j := 26) rfl rfl rfl (by omega) (by omega) ?_; rw [hJ, hN])
  (repeat refine Ev.p rfl rfl ?_)
  refine Ev.bp rfl (fun c => ?_) (fun c => ?_)
  · exact absurd c (nI_ge (by omega) (by omega))
  · (repeat refine Ev.p rfl rfl ?_)
    (refine Ev.bald (j := q) rfl rfl (Or.inr rfl) rfl (by omega) (by omega) ?_; rw [hw])
    cases w with
    | false =>
      have hf2 : f = false := hf
      rw [hf2] at k93
      (repeat (first | (refine Ev.at (q := 93) rfl ?_; exact (k93 _ _)) | refine Ev.p rfl rfl ?_))
    | true =>
      cases tb with
      | false =>
        have hf2 : f = true := hf
        rw [hf2] at k93
        (repeat (first | (refine Ev.at (q := 93) rfl ?_; exact (k93 _ _)) | refine Ev.p rfl rfl ?_))
      | true =>
        (repeat refine Ev.p rfl rfl ?_)
        refine Ev.bp rfl (fun c2 => ?_) (fun c2 => ?_)
        · have hf2 : f = false := by rw [hf, decide_eq_true c2]; rfl
          rw [hf2] at k93
          (repeat (first | (refine Ev.at (q := 93) rfl ?_; exact (k93 _ _)) | refine Ev.p rfl rfl ?_))
        · have hf2 : f = true := by rw [hf, decide_eq_false c2]; rfl
          rw [hf2] at k93
          (repeat (first | (refine Ev.at (q := 93) rfl ?_; exact (k93 _ _)) | refine Ev.p rfl rfl ?_))
end GOES
