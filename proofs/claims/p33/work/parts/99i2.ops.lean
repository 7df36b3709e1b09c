/-! WHAT act, image, undo, matter, station LEAVE, on the class's side -/
section CO2
variable {X : Nat × (Nat → Int32)} {d : Nat} {K : List (Nat × Nat)} {T : List (Nat × Nat)} {I I1 : Nat → Nat → Int32} {R R1 : Nat → Nat → Option Nat} {s : Nat → Int32} {n e : Nat} {hd : Option Nat} {cls : Cls} {l l2 : List Int32} {im : Option Img} {kc km : Nat} {As : List Value}
theorem CT.act (h : CT T I R s n hd cls e l im) (hl : l2.length ≤ 20) (t1 : TCc I1 134 l2) (q1 : FR (fun c => c = 134) I I1) : CT T I1 R s n hd cls e l2 im := by
  obtain ⟨hK, hG, hC⟩ := h
  have hF := FX1 (T := T) hK
  obtain ⟨f0, f1, f2, f3, f4, f5, f6, fv1, fv2, fv3, fh1, fh2, f7, f8, f9, f10, f11, f12⟩ := hF
  have hq : ∀ c, c ≠ 134 → I1 c = I c := fun c hc => q1 c hc
  have htag : ∀ c t z, (K0 ++ T)[c]? = some (t, z) → ((t < 13 ∧ z = 4) ∨ z = 10 ∨ z = 100 ∨ z = 12 ∨ z = 5 ∨ z = 8) → I1 c = I c := fun c t z hk hz => hq c (fun g => by rw [g, f12] at hk; cases hk; omega)
  obtain ⟨g1, g2, g3, g4, g5, sp, g6, g7, g8, g9⟩ := hC
  refine ⟨hK, hG, g1.i fh1 htag (fun c c1 c2 => hq c (by omega)), t1, hl, ?_, fun i hi => ⟨(g5 i hi).1.i fh2 htag (fun c c1 c2 => hq c (by omega)), (g5 i hi).2⟩, sp, g6, g7, g8, g9⟩
  rw [hq 0 (by omega)]; exact g4
/-- an image keeps the row -/
theorem co_image (h : CT T I R s n hd cls e l im) : ∃ I1 R1, Ev X 59 kX11_image 0 (ent kX11_image [.ref 0]) [] (K0 ++ T, I, R) (some (.int (nI n)), (K0 ++ T, I1, R1)) ∧ CT T I1 R1 s n hd cls e l (some (s, n, hd, cls, e)) := by
  obtain ⟨hK, hG, hC⟩ := h
  have hF := FX1 (T := T) hK
  obtain ⟨I1, R1, c1, c2, c3, c4, c5, c6, c7⟩ := c_image (X := X) hF hG hC.1
  obtain ⟨f0, f1, f2, f3, f4, f5, f6, fv1, fv2, fv3, fh1, fh2, f7, f8, f9, f10, f11, f12⟩ := id hF
  have hK1 : RSok R1 := by
    intro p i q hs
    rw [c6 p i (fun g => ?_) (fun g => ?_)]
    · exact hK p i q hs
    · rw [g.1] at hs
      have : sr 24 i = none := rfl
      rw [this] at hs; cases hs
    · rw [g.1, g.2] at hs; cases hs
  obtain ⟨g1, g2, g3, g4, g5, sp, g6, g7, g8, g9⟩ := hC
  have hui : ∀ c t z, (K0 ++ T)[c]? = some (t, z) → ((t < 13 ∧ z = 4) ∨ (t = 8 ∧ z = 10) ∨ (t = 20 ∧ z = 10) ∨ (t = 20 ∧ z = 100)) → ¬ UI c := fun c t z hk hz hc => by
    rcases hc with g | g | g
    · rw [g, f0] at hk; cases hk; omega
    · exact VK_no fv2 c t z hk hz g
    · exact HK_no fh2 c t z hk hz g
  refine ⟨I1, R1, c1, hK1, hG, ?_, ?_, g3, ?_, fun i hi => ?_, sp, ?_, ?_, ?_, fun _ => ?_⟩
  · exact (g1.r fv2 c6 (by omega)).j (fun c t z hk hz => c3 c (hui c t z hk hz)) (fun c d1 d2 => c3 c (fun g => by unfold UI at g; omega)) (fun c d1 d2 => c3 c (fun g => by unfold UI at g; omega))
  · have e136 : I1 134 = I 134 := c3 134 (fun g => by unfold UI at g; omega)
    unfold TCc at g2 ⊢
    rw [e136]; exact g2
  · exact c5
  · cases hi
    exact ⟨c2, hG⟩
  · exact (c6 0 6 (by omega) (by omega)).trans g6
  · obtain ⟨k0, k1, k2, k3, q3, q4, q5⟩ := g7
    have nsp : ∀ j, j < 14 → R1 sp j = R sp j := fun j hj => c6 sp j (fun g => by have := fv2.2.1; rw [← g.1, k0] at this; cases this) (by omega)
    exact ⟨k0, k1, k2, k3, (nsp 3 (by omega)).trans q3, (nsp 4 (by omega)).trans q4, (nsp 5 (by omega)).trans q5⟩
  · rw [c6 1 14 (by omega) (by omega)]; exact g8
  · rw [c7]; exact g8
/-- undone, the row is the image's -/
theorem co_undo {i : Img} (h : CT T I R s n hd cls e l (some i)) : ∃ I1 R1, Ev X 59 kX11_undo 0 (ent kX11_undo [.ref 0]) [] (K0 ++ T, I, R) (some (.int (nI i.2.1)), (K0 ++ T, I1, R1)) ∧ CT T I1 R1 i.1 i.2.1 i.2.2.1 i.2.2.2.1 i.2.2.2.2 l (some i) := by
  obtain ⟨hK, hG, hC⟩ := h
  have hF := FX1 (T := T) hK
  have hno := hF.uc
  have h7 : I 0 7 = 1 := hC.2.2.2.1
  obtain ⟨g1, g2, g3, g4, g5, sp, g6, g7, g8, g9⟩ := hC
  obtain ⟨iV, iG⟩ := g5 i rfl
  obtain ⟨I1, R1, c1, c2, c3, c6, c7⟩ := c_undo (X := X) hF iG iV h7
  obtain ⟨f0, f1, f2, f3, f4, f5, f6, fv1, fv2, fv3, fh1, fh2, f7, f8, f9, f10, f11, f12⟩ := id hF
  have hK1 : RSok R1 := by
    intro p j q hs
    rw [c6 p j (fun g => ?_) (fun g => ?_)]
    · exact hK p j q hs
    · rw [g.1] at hs
      have : sr 2 j = none := rfl
      rw [this] at hs; cases hs
    · rw [g.1, g.2] at hs; cases hs
  have hlow : ∀ c, ¬ UC c → I1 c = I c := fun c h => c3 c h
  refine ⟨I1, R1, c1, hK1, iG, c2, ?_, g3, ?_, fun i' hi => ⟨((g5 i' hi).1.r fv1 c6 (by omega)).j (fun c t z hk hz => c3 c (hno c t z hk hz)) (fun c d1 d2 => hlow c (by unfold UC; omega)) (fun c d1 d2 => hlow c (by unfold UC; omega)), (g5 i' hi).2⟩, sp, ?_, ?_, ?_, fun hi => ?_⟩
  · have e136 : I1 134 = I 134 := hlow 134 (by unfold UC; omega)
    unfold TCc at g2 ⊢
    rw [e136]; exact g2
  · rw [hlow 0 (by unfold UC; omega)]; exact g4
  · exact (c6 0 6 (by omega) (by omega)).trans g6
  · obtain ⟨k0, k1, k2, k3, q3, q4, q5⟩ := g7
    have nsp : ∀ j, j < 14 → R1 sp j = R sp j := fun j hj => c6 sp j (fun g => by have := fv1.2.1; rw [← g.1, k0] at this; cases this) (by omega)
    exact ⟨k0, k1, k2, k3, (nsp 3 (by omega)).trans q3, (nsp 4 (by omega)).trans q4, (nsp 5 (by omega)).trans q5⟩
  · rw [c7]; exact g9 rfl
  · rw [c6 23 14 (by omega) (by omega)]; exact g9 hi
/-- a new MATTER -/
theorem co_matter1 (h : CT T I R s n hd cls e l im) (hn : n < 6) {kk w : Nat} (hkk : kk ≤ 6) (hw : w ≤ 9) : ∃ I1 R1, Ev X 59 kX11_matter 0 (ent kX11_matter [.ref 0, .int (nI kk), .int (nI w)]) [] (K0 ++ T, I, R) (some (.int (nI n)), (K0 ++ (T ++ [(kt kk, 4)]), I1, R1)) ∧ CT (T ++ [(kt kk, 4)]) I1 R1 (rMat s n (nI kk) (nI w)) (n + 1) hd cls e l im := by
  obtain ⟨hK, hG, hC⟩ := h
  have hF := FX1 (T := T) hK
  obtain ⟨y, hy⟩ : ∃ y, y = nI w := ⟨_, rfl⟩
  rw [← hy]
  have hy9 : 0 ≤ y ∧ y ≤ 9 := by rw [hy]; exact ⟨Int32.not_lt.mp (nI_pos (by omega)), nI_le (b := 9) hw (by omega)⟩
  have hc := c_matter (X := X) hF hG hC.1 (nI kk) y
  have h1 := hc.1 kk hkk rfl hy9 hn
  have hl : 140 ≤ (K0 ++ T).length := by
    rw [List.length_append, show K0.length = 140 from rfl]
    omega
  have hVm := VH.mat (y := y) hF hl hC.1 hn hkk
  obtain ⟨L, hL⟩ : ∃ L, L = (K0 ++ T).length := ⟨_, rfl⟩
  rw [← hL] at h1 hl hVm
  have h4 : 4 < L := by omega
  rw [List.append_assoc] at h1 hVm
  have hno := hF.uc
  obtain ⟨f0, f1, f2, f3, f4, f5, f6, fv1, fv2, fv3, fh1, fh2, f7, f8, f9, f10, f11, f12⟩ := id hF
  obtain ⟨J, hJ⟩ : ∃ J, J = maI I L n (nI kk) y := ⟨_, rfl⟩
  obtain ⟨Q, hQ⟩ : ∃ Q, Q = maR R L n := ⟨_, rfl⟩
  have jo : ∀ c, c ≠ L → c ≠ 1 → c ≠ 3 → c ≠ 4 → J c = I c := fun c c1 c2 c3 c4 => by rw [hJ]; exact maI_o c1 c2 c3 c4
  have qo : ∀ c, c ≠ L → c ≠ 2 → Q c = R c := fun c c1 c2 => by rw [hQ]; exact maR_o c1 c2
  have q2 : ∀ j, j ≠ n → Q 2 j = R 2 j := fun j hj => by rw [hQ, maR_2 h4, if_neg hj]
  rw [← hJ, ← hQ] at h1 hVm
  have hK1 : RSok Q := by
    intro p i q hs
    by_cases g : p = 2
    · rw [g] at hs
      have : sr 2 i = none := rfl
      rw [this] at hs; cases hs
    · by_cases g2 : p = L
      · rw [g2, sr_big hl] at hs; cases hs
      · rw [qo p g2 g]; exact hK p i q hs
  obtain ⟨g1, g2, g3, g4, g5, sp, g6, g7, g8, g9⟩ := hC
  have km : KM (K0 ++ T) (K0 ++ (T ++ [(kt kk, 4)])) := by rw [← List.append_assoc]; exact KM.app _ _
  -- the class's other Veranda: first what is written, then the new cell
  obtain ⟨J0, hJ0⟩ : ∃ J0 : Nat → Nat → Int32, J0 = fun c => if c = L then I c else J c := ⟨_, rfl⟩
  obtain ⟨Q0, hQ0⟩ : ∃ Q0 : Nat → Nat → Option Nat, Q0 = fun c => if c = L then R c else Q c := ⟨_, rfl⟩
  have j0 : ∀ c, c ≠ 1 → c ≠ 3 → c ≠ 4 → J0 c = I c := fun c c1 c2 c3 => by
    rw [hJ0]
    by_cases g : c = L
    · exact if_pos g
    · exact (if_neg g).trans (jo c g c1 c2 c3)
  have r0 : RF 1 R Q0 := fun c j c1 c2 => by
    rw [hQ0]
    by_cases g : c = L
    · show (if c = L then R c else Q c) j = _
      rw [if_pos g]
    · show (if c = L then R c else Q c) j = _
      rw [if_neg g]
      by_cases g2 : c = 2
      · rw [g2]
        exact q2 j (fun g3 => c1 ⟨by omega, by omega⟩)
      · rw [qo c g g2]
  have lst : ∀ c, c < (K0 ++ T).length → J c = J0 c ∧ Q c = Q0 c := fun c hc => by
    rw [hJ0, hQ0]
    exact ⟨(if_neg (by omega)).symm, (if_neg (by omega)).symm⟩
  have hsp : sp < L := by
    have := (List.getElem?_eq_some_iff.mp g7.1).1
    omega
  have sp2 : sp ≠ 2 := fun g => by
    have k := fv1.2.1
    have k' := g7.1
    rw [g, k] at k'; cases k'
  subst hy
  refine ⟨J, Q, h1, hK1, hG.mat hn hkk hw, hVm, ?_, g3, ?_, fun i hi => ⟨?_, (g5 i hi).2⟩, sp, ?_, ?_, ?_, fun g => ?_⟩
  · unfold TCc at g2 ⊢
    rw [jo 134 (by omega) (by omega) (by omega) (by omega)]
    exact g2
  · rw [jo 0 (by omega) (by omega) (by omega) (by omega)]; exact g4
  · refine VH.al (K := K0 ++ T) (I := J0) (R := Q0) ?_ km (by omega) lst
    exact ((g5 i hi).1.r fv1 r0 (by omega)).j (fun c t z hk hz => j0 c (fun g => hno c t z hk hz (by unfold UC; omega)) (fun g => hno c t z hk hz (by unfold UC; omega)) (fun g => hno c t z hk hz (by unfold UC; omega))) (fun c c1 c2 => j0 c (by omega) (by omega) (by omega)) (fun c c1 c2 => j0 c (by omega) (by omega) (by omega))
  · rw [qo 0 (by omega) (by omega)]; exact g6
  · refine CKn.km ?_ km
    obtain ⟨k0, k1, k2, k3, q3, q4, q5⟩ := g7
    have e := qo sp (by omega) sp2
    exact ⟨k0, k1, k2, k3, by rw [e]; exact q3, by rw [e]; exact q4, by rw [e]; exact q5⟩
  · rw [qo 1 (by omega) (by omega)]; exact g8
  · rw [qo 23 (by omega) (by omega)]; exact g9 g
/-- what is refused leaves all -/
theorem co_matter0 (h : CT T I R s n hd cls e l im) (x y : Int32) (hx : ¬ (0 ≤ x ∧ x ≤ 6)) : Ev X 59 kX11_matter 0 (ent kX11_matter [.ref 0, .int x, .int y]) [] (K0 ++ T, I, R) (some (.int (-1)), (K0 ++ T, I, R)) := (c_matter (X := X) (FX1 h.1) h.2.1 h.2.2.1 x y).2.2.2 hx
/-- a station may make cells -/
def COs (X : Nat × (Nat → Int32)) (T : List (Nat × Nat)) (I : Nat → Nat → Int32) (R : Nat → Nat → Option Nat) (s : Nat → Int32) (n : Nat) (im : Option Img) : Prop := ∃ (w : Int32) (T1 : List (Nat × Nat)) (I1 : Nat → Nat → Int32) (R1 : Nat → Nat → Option Nat) (s' : Nat → Int32) (hd' : Option Nat) (cls' : Cls) (e' : Nat) (l' : List Int32), Ev X 59 kX11_station 0 (ent kX11_station [.ref 0]) [] (K0 ++ T, I, R) (some (.int w), (K0 ++ T1, I1, R1)) ∧ CT T1 I1 R1 s' n hd' cls' e' l' im ∧ KV s' s ∧ TG T T1
/-- the row behind a new STATION -/
def staR (s : Nat → Int32) (act : Nat) (st : Stn) : Nat → Int32 := fun j => if 237 + 140 * act ≤ j ∧ j < 377 + 140 * act then ((clsR st.2.2)[j - (237 + 140 * act)]?).getD 0 else if j = 27 then nI (act + 1) else if j = 31 then 0 else if j = 32 then nI act else if j = 222 + act then nI st.1 else if j = 227 + act then nI st.2.1 else if j = 232 + act then nI (clsR st.2.2).length else s j
section STAR
variable {act : Nat} {st : Stn}
theorem staR_F (ha : act < 5) : FS act s (staR s act st) := fun j h1 h2 h3 h4 h5 h6 h7 => by
  unfold staR
  rw [if_neg (by omega), if_neg h1, if_neg h2, if_neg h3, if_neg h4, if_neg h5, if_neg h6]
theorem staR_27 (ha : act < 5) : staR s act st 27 = nI (act + 1) := by
  unfold staR
  rw [if_neg (by omega), if_pos rfl]
theorem staR_31 (ha : act < 5) : staR s act st 31 = 0 := by
  unfold staR
  rw [if_neg (by omega), if_neg (by omega), if_pos rfl]
theorem staR_32 (ha : act < 5) : staR s act st 32 = nI act := by
  unfold staR
  rw [if_neg (by omega), if_neg (by omega), if_neg (by omega), if_pos rfl]
theorem staR_222 (ha : act < 5) : staR s act st (222 + act) = nI st.1 := by
  unfold staR
  rw [if_neg (by omega), if_neg (by omega), if_neg (by omega), if_neg (by omega), if_pos rfl]
theorem staR_227 (ha : act < 5) : staR s act st (227 + act) = nI st.2.1 := by
  unfold staR
  rw [if_neg (by omega), if_neg (by omega), if_neg (by omega), if_neg (by omega), if_neg (by omega), if_pos rfl]
theorem staR_232 (ha : act < 5) : staR s act st (232 + act) = nI (clsR st.2.2).length := by
  unfold staR
  rw [if_neg (by omega), if_neg (by omega), if_neg (by omega), if_neg (by omega), if_neg (by omega), if_neg (by omega), if_pos rfl]
theorem staR_ok (ha : act < 5) (hl : (clsR st.2.2).length ≤ 140) (hc : clOK st.2.2) : stOK (staR s act st) (some act) st.2.2 := by
  refine ⟨staR_32 ha, ha, staR_232 ha, hl, fun j x hj => ?_, hc⟩
  have hlt := (List.getElem?_eq_some_iff.mp hj).1
  unfold staR
  rw [if_pos ⟨by omega, by omega⟩, show 237 + 140 * act + j - (237 + 140 * act) = j by omega, hj]
  rfl
end STAR
theorem co_station (hK : RSok R) (hG : GS s n hd cls e) (hC : CR (K0 ++ T) I R s n hd cls l im) : COs X T I R s n im := by
  have hF := FX1 (T := T) hK
  have hn6 := hG.2.1.1
  obtain ⟨z, hz, h31, ht⟩ := hG.2.2.2.2.2.2.2.2.1
  obtain ⟨act, ha5, h27, hah⟩ := hG.2.2.2.2.2.2.2.2.2.1
  obtain ⟨fd, hfd, efd⟩ := hG.2.2.2.2.2.2.2.2.2.2.1
  have hst := hG.1.2.2.2.2.2
  obtain ⟨g1, g2, g3, g4, g5, sp, g6, g7, g8, g9⟩ := id hC
  have hc := c_station (X := X) hF g1 g6 g7 h27 ha5 h31 hz ht
  have hno := hF.uc
  obtain ⟨f0, f1, f2, f3, f4, f5, f6, fv1, fv2, fv3, fh1, fh2, f7, f8, f9, f10, f11, f12⟩ := id hF
  have k0 := fv1.1
  have j0 := fh1.1
  obtain ⟨s0, s1, s2, s3, s4⟩ := id g7
  have lk : ∀ (c : Nat) (y : Nat × Nat), (K0 ++ T)[c]? = some y → c < (K0 ++ T).length := fun c y h => (List.getElem?_eq_some_iff.mp h).1
  have hl : 140 ≤ (K0 ++ T).length := by
    rw [List.length_append, show K0.length = 140 from rfl]
    omega
  have no : ∀ c t z, (K0 ++ T)[c]? = some (t, z) → ¬ ((t = 8 ∧ z = 10) ∨ (t = 20 ∧ z = 10) ∨ (t = 20 ∧ z = 100)) → ¬ (sp ≤ c ∧ c ≤ sp + 3) := fun c t z hc hz g => by
    rcases (by omega : c = sp ∨ c = sp + 1 ∨ c = sp + 2 ∨ c = sp + 3) with g | g | g | g
    · rw [g, s0] at hc; cases hc; omega
    · rw [g, s1] at hc; cases hc; omega
    · rw [g, s2] at hc; cases hc; omega
    · rw [g, s3] at hc; cases hc; omega
  have huc : ∀ c, UC c → ¬ (sp ≤ c ∧ c ≤ sp + 3) := fun c hc g => by
    rcases (by omega : c = sp ∨ c = sp + 1 ∨ c = sp + 2 ∨ c = sp + 3) with g | g | g | g
    · rw [g] at hc; exact hno _ 8 10 s0 (by omega) hc
    · rw [g] at hc; exact hno _ 20 10 s1 (by omega) hc
    · rw [g] at hc; exact hno _ 20 10 s2 (by omega) hc
    · rw [g] at hc; exact hno _ 20 100 s3 (by omega) hc
  have sp0 : sp ≠ 0 := fun g => no 0 11 8 f0 (by omega) (by omega)
  have sp1 : ¬ (sp ≤ 1 ∧ 1 ≤ sp + 3) := huc 1 (by unfold UC; omega)
  have sp2 : ¬ (sp ≤ 2 ∧ 2 ≤ sp + 3) := huc 2 (by unfold UC; omega)
  have sp24 : sp ≠ 23 := fun g => no 23 10 16 fv2.1 (by omega) (by omega)
  -- what stands between both, when the class has written
  have hrs : ∀ (J : Nat → Nat → Int32) (Q : Nat → Nat → Option Nat), STF (K0 ++ T) I R sp J Q → RSok Q := fun J Q hS p i q hs => by
    rcases Nat.lt_or_ge p 140 with gp | gp
    · rw [hS.2.2.2.2 p i (by omega) (fun g => ?_) (fun g => ?_) (fun g => ?_)]
      · exact hK p i q hs
      · have k8 := s0
        rw [← g.1] at k8
        rw [g.2] at hs
        exact SR8 gp hs k8
      · rw [g.1, g.2] at hs; cases hs
      · rw [g.1, g.2] at hs; cases hs
    · rw [sr_big gp] at hs; cases hs
  have hvm : ∀ (J : Nat → Nat → Int32) (Q : Nat → Nat → Option Nat) (K' : List (Nat × Nat)) (s' : Nat → Int32) (hd' : Option Nat) (cls' : Cls), STF (K0 ++ T) I R sp J Q → KM (K0 ++ T) K' → FS act s s' → act < 5 → s' 31 = 0 → (∃ q, Q 1 14 = some q ∧ stC K' J Q q (rT s' hd' 227 1) cls') → J 1 13 = rT s' hd' 222 20 → J 1 15 = s' 27 → VH K' J Q 1 15 s' n hd' cls' := fun J Q K' s' hd' cls' hS km hf ha e31 hA h13 h15 => by
    refine g1.sta km (fun j hj => hf j (by omega) (by omega) (by omega) (by omega) (by omega) (by omega) (by omega)) hA h13 h15 (fun j c1 c2 => hS.2.1 j (by omega) (by omega)) (fun c c1 c2 => hS.1 c (by omega) (huc c (by unfold UC; omega)) (by omega) (by omega)) (fun c t hc ht => ⟨hS.1 c (lk c _ hc) (no c t 4 hc (by omega)) (fun g => by rw [g, k0] at hc; cases hc) (fun g => by rw [g, j0] at hc; cases hc), hS.2.2.2.2 c 3 (lk c _ hc) (by omega) (by omega) (by omega)⟩) (fun j hj => hS.2.2.2.2 1 j (by omega) (by omega) (by omega) (by omega)) (fun j => hS.2.2.2.2 2 j (by omega) (by omega) (by omega) (by omega)) hn6 (g1.2.2.2.2.sta ha hf e31 (fun c c1 c2 => hS.1 c (by omega) (huc c (by unfold UC; omega)) (by omega) (by omega)) hS.2.2.1 hS.2.2.2.1)
  obtain ⟨P, hP⟩ : ∃ P, P = pS (fun i => s (122 + i)) z 10 0 (20, 1, []) := ⟨_, rfl⟩
  have hok := pS_ok (t := fun i => s (122 + i)) (z := z) 10 0 (20, 1, []) (by omega) stI_0
  rw [← hP] at hc hok
  by_cases h5 : act = 5
  · exact ⟨_, T, I, R, s, hd, cls, e, l, hc.1 h5, ⟨hK, hG, hC⟩, KV.rf s, Or.inl rfl⟩
  · have ha : act < 5 := by omega
    have hhd : ∀ h, hd = some h → h < 5 := fun h e => by have := hah h e; omega
    cases hb : P.1 with
    | false =>
      obtain ⟨J, Q, e1, hS, e3, e4, e5, e6⟩ := hc.2.1 ha hb
      obtain ⟨s', hs'⟩ : ∃ s', s' = upd s 31 0 := ⟨_, rfl⟩
      have m3 : FS act s s' := fun j _ h31 _ _ _ _ _ => by rw [hs', upd_ne h31]
      have m4 : s' 31 = 0 := by rw [hs', upd_at]
      have c27 : s' 27 = s 27 := by rw [hs', upd_ne (by omega)]
      have c32 : s' 32 = s 32 := by rw [hs', upd_ne (by omega)]
      have t222 := m3.rt ha hah hhd (Or.inl rfl) 20
      have t227 := m3.rt ha hah hhd (Or.inr rfl) 1
      obtain ⟨q, q1, q2⟩ := g1.1.2.2.2.2.1
      have hq : q ≠ sp := fun g => g8 (by rw [q1, g])
      have hKM : KM (K0 ++ T) (K0 ++ T) := fun _ _ h => h
      have hV := hvm J Q (K0 ++ T) s' hd cls hS hKM m3 ha m4 ⟨q, e5.trans q1, by rw [t227]; exact q2.away g7 hq k0 j0 f0 hKM hS⟩ (by rw [t222, e3]; exact g1.1.2.2.2.2.2) (by rw [c27, e4]; exact g1.2.1)
      refine ⟨_, _, J, Q, s', _, _, _, l, e1, ⟨(hrs J Q hS), (hG.sta ha m3 m4 (m3.st ha c32 hah hst) hG.2.1.2.2.2.2.2 ⟨act, ha5, c27.trans h27, hah⟩ ⟨fd, hfd, t227.trans efd⟩ hG.2.1.2.2.2.2.1), (hC.sta hF g6 g7 g9 hKM hS hV ⟨sp, e6, ⟨s0, s1, s2, s3, ?_, ?_, ?_⟩, by rw [e5]; exact g8, fun g => ?_⟩)⟩, (fun j j1 j2 => m3 j (by omega) (by omega) (by omega) (by omega) (by omega) (by omega) (Or.inl (by omega))), (Or.inl rfl)⟩
      · rw [hS.2.2.2.2 sp 3 (lk _ _ s0) (by omega) (by omega) (by omega)]; exact s4.1
      · rw [hS.2.2.2.2 sp 4 (lk _ _ s0) (by omega) (by omega) (by omega)]; exact s4.2.1
      · rw [hS.2.2.2.2 sp 5 (lk _ _ s0) (by omega) (by omega) (by omega)]; exact s4.2.2
      · rw [hS.2.2.2.2 23 14 (by omega) (by omega) (by omega) (by omega)]; exact g9 g
    | true =>
      obtain ⟨J, Q, e1, hS, e3, e4, e5, e6, e7, e8⟩ := hc.2.2 ha hb
      rw [List.append_assoc] at e1 e7 e8
      have hlen : (clsR P.2.2.2.2).length ≤ 140 := by
        have h1 := hok.2.1.2.2.2.1
        have h2 := hok.1
        omega
      obtain ⟨s', hs'⟩ : ∃ s', s' = staR s act P.2.2 := ⟨_, rfl⟩
      have m3 : FS act s s' := by rw [hs']; exact staR_F ha
      have m4 : s' 31 = 0 := by rw [hs']; exact staR_31 ha
      have c27 : s' 27 = nI (act + 1) := by rw [hs']; exact staR_27 ha
      have c222 : s' (222 + act) = nI P.2.2.1 := by rw [hs']; exact staR_222 ha
      have c227 : s' (227 + act) = nI P.2.2.2.1 := by rw [hs']; exact staR_227 ha
      have cst : stOK s' (some act) P.2.2.2.2 := by rw [hs']; exact staR_ok ha hlen hok.2.1.2.2.1
      have hKM : KM (K0 ++ T) (K0 ++ (T ++ [(8, 10), (20, 10), (20, 10), (20, 100), (21, 0)])) := by rw [← List.append_assoc]; exact KM.app _ _
      have hV := hvm J Q _ s' (some act) P.2.2.2.2 hS hKM m3 ha m4 ⟨sp, e5, by rw [show rT s' (some act) 227 1 = s' (227 + act) from rfl, c227]; exact e7⟩ (by rw [show rT s' (some act) 222 20 = s' (222 + act) from rfl, c222]; exact e3) (by rw [c27]; exact e4)
      have h10 : P.2.2.2.2.length ≤ 10 := by
        have := hok.2.2
        exact Nat.le_trans this (by show 0 + 10 ≤ 10; omega)
      refine ⟨_, _, J, Q, s', _, _, _, l, e1, ⟨(hrs J Q hS), (hG.sta ha m3 m4 cst h10 ⟨act + 1, by omega, c27, fun h e => by cases e; omega⟩ ⟨P.2.2.2.1, hok.2.1.2.1, c227⟩ hok.2.1.2.2.1), (hC.sta hF g6 g7 g9 hKM hS hV ⟨_, e6, e8, fun g => ?_, fun g => ?_⟩)⟩, (fun j j1 j2 => m3 j (by omega) (by omega) (by omega) (by omega) (by omega) (by omega) (Or.inl (by omega))), (Or.inr (Or.inr rfl))⟩
      · rw [e5] at g
        have := lk _ _ s0
        cases g
        omega
      · rw [hS.2.2.2.2 23 14 (by omega) (by omega) (by omega) (by omega)]
        intro g2
        cases him : im with
        | none => rw [him] at g; cases g
        | some i =>
          obtain ⟨q, q1, q2⟩ := (g5 i him).1.1.2.2.2.2.1
          rw [q1] at g2
          cases g2
          have := lk _ _ q2.1
          omega
end CO2
