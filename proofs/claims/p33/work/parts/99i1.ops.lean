/-! WHAT A CALL LEAVES, on the class's side -/
/-- kinds and v are as they were -/
def KV (s' s : Nat → Int32) : Prop := ∀ j, 33 ≤ j → j < 45 → s' j = s j
theorem KV.rf (s : Nat → Int32) : KV s s := fun _ _ _ => rfl
theorem KV.tr {a b c : Nat → Int32} (h : KV b a) (h2 : KV c b) : KV c a := fun j j1 j2 => (h2 j j1 j2).trans (h j j1 j2)
/-- a call comes back and makes no cells, what holds between two calls holds again -/
def CO (X : Nat × (Nat → Int32)) (T : List (Nat × Nat)) (I : Nat → Nat → Int32) (R : Nat → Nat → Option Nat) (kc : Nat) (As : List Value) (s : Nat → Int32) (n : Nat) (im : Option Img) : Prop := ∃ (w : Int32) (I1 : Nat → Nat → Int32) (R1 : Nat → Nat → Option Nat) (s' : Nat → Int32) (hd' : Option Nat) (cls' : Cls) (e' : Nat) (l' : List Int32), Ev X 59 kc 0 (ent kc (.ref 0 :: As)) [] (K0 ++ T, I, R) (some (.int w), (K0 ++ T, I1, R1)) ∧ CT T I1 R1 s' n hd' cls' e' l' im ∧ KV s' s
section CO
variable {X : Nat × (Nat → Int32)} {d : Nat} {K : List (Nat × Nat)} {T : List (Nat × Nat)} {I I1 : Nat → Nat → Int32} {R R1 : Nat → Nat → Option Nat} {s : Nat → Int32} {n e : Nat} {hd : Option Nat} {cls : Cls} {l : List Int32} {im : Option Img} {kc km : Nat} {As : List Value}
/-- questions leave all as it was -/
theorem CT.ask (h : CT T I R s n hd cls e l im) (hI : FR QC I I1) (hQ : QR R R1) : CT T I1 R1 s n hd cls e l im := ⟨h.1.q hQ, h.2.1, h.2.2.q (FX1 h.1) hI hQ⟩
theorem stay_co (hK : RSok R) (hG : GS s n hd cls e) (hC : CR (K0 ++ T) I R s n hd cls l im) {w : Int32} (h1 : Ev X 59 kc 0 (ent kc (.ref 0 :: As)) [] (K0 ++ T, I, R) (some (.int w), (K0 ++ T, I, R))) : CO X T I R kc As s n im := ⟨w, I, R, s, hd, cls, e, l, h1, ⟨hK, hG, hC⟩, KV.rf s⟩
theorem upd_co (hK : RSok R) (hC : CR (K0 ++ T) I R s n hd cls l im) {w : Int32} {I1 : Nat → Nat → Int32} {s' : Nat → Int32} {e' : Nat} (h1 : Ev X 59 kc 0 (ent kc (.ref 0 :: As)) [] (K0 ++ T, I, R) (some (.int w), (K0 ++ T, I1, R))) (hw : FR UC I I1) (hkv : KV s' s) (hG' : GS s' n hd cls e') (hV' : VH (K0 ++ T) I1 R 1 15 s' n hd cls) : CO X T I R kc As s n im := by
  have hF := FX1 (T := T) hK
  have hno := hF.uc
  have htag : ∀ c t z, (K0 ++ T)[c]? = some (t, z) → ((t < 13 ∧ z = 4) ∨ (t = 8 ∧ z = 10) ∨ (t = 20 ∧ z = 10) ∨ (t = 20 ∧ z = 100)) → I1 c = I c := fun c t z hk hz => hw c (hno c t z hk hz)
  have hlow : ∀ c, ¬ UC c → I1 c = I c := fun c h => hw c h
  obtain ⟨g1, g2, g3, g4, g5, sp, g6, g7, g8, g9⟩ := hC
  refine ⟨w, I1, R, s', hd, cls, e', l, h1, ⟨hK, hG', hV', ?_, g3, ?_, fun i hi => ⟨(g5 i hi).1.j htag (fun c c1 c2 => hlow c (by unfold UC; omega)) (fun c c1 c2 => hlow c (by unfold UC; omega)), (g5 i hi).2⟩, sp, g6, g7, g8, g9⟩, hkv⟩
  · have : I1 134 = I 134 := hlow 134 (by unfold UC; omega)
    unfold TCc at g2 ⊢
    rw [this]
    exact g2
  · rw [hlow 0 (by unfold UC; omega)]; exact g4

theorem co_book (hK : RSok R) (hG : GS s n hd cls e) (hC : CR (K0 ++ T) I R s n hd cls l im) (x y : Int32) : CO X T I R kX11_book [.int x, .int y] s n im := by
  have hF := FX1 (T := T) hK
  obtain ⟨b, hb8, hb, hbs⟩ := hG.2.2.2.2.2.2.2.1
  have hc := c_book (X := X) hF hG hC.1 hb hb8 x y
  have hno := hF.uc
  have hM := hC.1.2.2.2.2
  have u15 : UC 15 := by unfold UC; omega
  have upUC : ∀ {J : Nat → Nat → Int32} {c j : Nat} {z : Int32}, FR UC I J → UC c → FR UC I (upI J c j z) := fun h hc => h.tr (fun q hq => upI_ne (fun g => hq (by rw [g]; exact hc)))
  have tags : ∀ {J : Nat → Nat → Int32}, FR UC I J → ∀ c t z, (K0 ++ T)[c]? = some (t, z) → ((t < 13 ∧ z = 4) ∨ (t = 8 ∧ z = 10) ∨ (t = 20 ∧ z = 10) ∨ (t = 20 ∧ z = 100)) → J c = I c := fun h c t z hk hz => h c (hno c t z hk hz)
  have stay : ∀ {w : Int32}, Ev X 59 kX11_book 0 (ent kX11_book [.ref 0, .int x, .int y]) [] (K0 ++ T, I, R) (some (.int w), (K0 ++ T, I, R)) → CO X T I R kX11_book [.int x, .int y] s n im := fun h1 => stay_co hK hG hC h1
  by_cases h1 : x = -1
  · have ho : HO s (upd s 30 0) := (HO.rf s).up 0 (by omega)
    have hq : FR UC I (upI I 15 11 0) := upUC (FR.rf I) u15
    refine upd_co (s' := upd s 30 0) hK hC (hc.1 h1) hq (fun j j1 j2 => ho j (by omega) (by omega)) (hG.ho ho ?_ ?_ ⟨0, by omega, upd_at _ _ _, fun k hk => absurd hk (by omega)⟩ ?_ (hG.by.al (fun j hj => upd_ne (by omega)))) (hC.1.ho hG.2.1.1 ho (tags hq) (fun c c1 c2 => upI_ne (by omega)) ?_)
    · obtain ⟨b, h⟩ := hG.2.2.2.2.2.1
      exact ⟨b, h.al (fun j hj => upd_ne (by omega))⟩
    · obtain ⟨b, h⟩ := hG.2.2.2.2.2.2.1
      exact ⟨b, h.al2 (fun j hj => upd_ne (by omega))⟩
    · exact STx.al hG.2.2.2.2.2.2.2.2.1 (fun j hj => upd_ne (by omega))
    · obtain ⟨m1, m2, m3, m4, m5, m6, m7, m8⟩ := hM
      refine ⟨?_, ?_, ?_, ?_, fun j hj => ?_, fun k hk => ?_, fun k hk => ?_, ?_⟩
      · rw [upI_eq, upd_ne (by omega), upd_ne (by omega)]; exact m1
      · rw [upI_eq, upd_ne (by omega), upd_ne (by omega)]; exact m2
      · rw [upI_eq, upd_ne (by omega), upd_ne (by omega)]; exact m3
      · rw [upI_eq, upd_at, upd_at]
      · rw [upI_ne (by omega), upd_ne (by omega)]; exact m5 j hj
      · rw [upI_ne (by omega), upI_ne (by omega), upd_ne (by omega), upd_ne (by omega)]; exact m6 k hk
      · rw [upI_ne (by omega), upI_ne (by omega), upI_ne (by omega), upI_ne (by omega), upd_ne (by omega), upd_ne (by omega), upd_ne (by omega), upd_ne (by omega)]; exact m7 k hk
      · rw [upI_eq, upd_ne (by omega)]; exact m8.trans (seeB_al (fun j hj => upd_ne (by omega)))
  · by_cases h2 : isM n x
    · by_cases h3 : 0 ≤ y ∧ y ≤ 99
      · rcases (by omega : b = 8 ∨ b < 8) with h4 | h4
        · exact stay (hc.2.2.2.1 h2 h3 h4)
        · have ho : HO s (upd (upd (upd s (106 + b) x) (114 + b) y) 30 (nI (b + 1))) := (((HO.rf s).up x (by omega)).up y (by omega)).up _ (by omega)
          have hq : FR UC I (upI (upI (upI I 21 b x) 22 b y) 15 11 (nI (b + 1))) := upUC (upUC (upUC (FR.rf I) (by unfold UC; omega)) (by unfold UC; omega)) u15
          obtain ⟨p, hp, ex⟩ := (isM_iff hG.2.1.1).mp h2
          refine upd_co (s' := upd (upd (upd s (106 + b) x) (114 + b) y) 30 (nI (b + 1))) hK hC (hc.2.2.2.2 h2 h3 h4) hq (fun j j1 j2 => ho j (by omega) (by omega)) (hG.ho ho ?_ ?_ ⟨b + 1, by omega, upd_at _ _ _, fun k hk => ?_⟩ ?_ (hG.by.al (fun j hj => by rw [upd_ne (by omega), upd_ne (by omega), upd_ne (by omega)]))) (hC.1.ho hG.2.1.1 ho (tags hq) (fun c c1 c2 => by rw [upI_ne (by omega), upI_ne (by omega), upI_ne (by omega)]) ?_)
          · obtain ⟨b, h⟩ := hG.2.2.2.2.2.1
            exact ⟨b, h.al (fun j hj => by rw [upd_ne (by omega), upd_ne (by omega), upd_ne (by omega)])⟩
          · obtain ⟨b, h⟩ := hG.2.2.2.2.2.2.1
            exact ⟨b, h.al2 (fun j hj => by rw [upd_ne (by omega), upd_ne (by omega), upd_ne (by omega)])⟩
          · rw [upd_ne (by omega), upd_ne (by omega)]
            rcases (by omega : k = b ∨ k < b) with g | g
            · rw [g, upd_at]; exact ⟨p, hp, ex⟩
            · rw [upd_ne (by omega)]; exact hbs k g
          · exact STx.al hG.2.2.2.2.2.2.2.2.1 (fun j hj => by rw [upd_ne (by omega), upd_ne (by omega), upd_ne (by omega)])
          · obtain ⟨m1, m2, m3, m4, m5, m6, m7, m8⟩ := hM
            refine ⟨?_, ?_, ?_, ?_, fun j hj => ?_, fun k hk => ?_, fun k hk => ?_, ?_⟩
            · rw [upI_eq, upd_ne (by omega), upI_ne (by omega), upI_ne (by omega), upd_ne (by omega), upd_ne (by omega), upd_ne (by omega)]; exact m1
            · rw [upI_eq, upd_ne (by omega), upI_ne (by omega), upI_ne (by omega), upd_ne (by omega), upd_ne (by omega), upd_ne (by omega)]; exact m2
            · rw [upI_eq, upd_ne (by omega), upI_ne (by omega), upI_ne (by omega), upd_ne (by omega), upd_ne (by omega), upd_ne (by omega)]; exact m3
            · rw [upI_eq, upd_at, upd_at]
            · rw [upI_ne (by omega), upI_ne (by omega), upI_ne (by omega), upd_ne (by omega), upd_ne (by omega), upd_ne (by omega)]; exact m5 j hj
            · refine ⟨?_, ?_⟩
              · rw [upI_ne (by omega), upI_ne (by omega), upI_ne (by omega), upd_ne (by omega), upd_ne (by omega), upd_ne (by omega)]; exact (m6 k hk).1
              · rw [upI_ne (by omega), upI_ne (by omega), upI_ne (by omega), upd_ne (by omega), upd_ne (by omega), upd_ne (by omega)]; exact (m6 k hk).2
            · refine ⟨?_, ?_, ?_, ?_⟩
              · rw [upI_ne (by omega), upI_ne (by omega), upI_ne (by omega), upd_ne (by omega), upd_ne (by omega), upd_ne (by omega)]; exact (m7 k hk).1
              · rw [upI_ne (by omega), upI_ne (by omega), upI_ne (by omega), upd_ne (by omega), upd_ne (by omega), upd_ne (by omega)]; exact (m7 k hk).2.1
              · rw [upI_ne (by omega), upI_ne (by omega), upI_eq]
                by_cases g : k = b
                · rw [g, upd_at, upd_ne (by omega), upd_ne (by omega), upd_at]
                · rw [upd_ne g, upd_ne (by omega), upd_ne (by omega), upd_ne (by omega)]; exact (m7 k hk).2.2.1
              · rw [upI_ne (by omega), upI_eq]
                by_cases g : k = b
                · rw [g, upd_at, upd_ne (by omega), upd_at]
                · rw [upd_ne g, upI_ne (by omega), upd_ne (by omega), upd_ne (by omega), upd_ne (by omega)]; exact (m7 k hk).2.2.2
            · rw [upI_eq, upd_ne (by omega), upI_ne (by omega), upI_ne (by omega)]; exact m8.trans (seeB_al (fun j hj => by rw [upd_ne (by omega), upd_ne (by omega), upd_ne (by omega)]))
      · exact stay (hc.2.2.1 h2 h3)
    · exact stay (hc.2.1 h1 h2)
theorem co_plan (hK : RSok R) (hG : GS s n hd cls e) (hC : CR (K0 ++ T) I R s n hd cls l im) (x y : Int32) : CO X T I R kX11_plan [.int x, .int y] s n im := by
  have hF := FX1 (T := T) hK
  obtain ⟨b, hs⟩ := hG.2.2.2.2.2.2.1
  have hb := hs.1
  have hb8 := hs.2.1
  have hbs := hs.2.2
  have hc := c_plan (X := X) hF hG hC.1 hb hb8 x y
  have hM := hC.1.2.2.2.2
  have u15 : UC 15 := by unfold UC; omega
  by_cases h1 : x = -1
  · have ho : HO s (upd s 29 0) := (HO.rf s).up 0 (by omega)
    have hq : FR UC I (upI I 15 8 0) := UC.up (FR.rf I) u15
    refine upd_co (s' := upd s 29 0) hK hC (hc.1 h1) hq (fun j j1 j2 => ho j (by omega) (by omega)) (hG.ho ho ?_ ⟨0, upd_at _ _ _, by omega, fun k hk => absurd hk (by omega)⟩ ?_ ?_ (hG.by.al (fun j hj => upd_ne (by omega)))) (hC.1.ho hG.2.1.1 ho (uc_tags hF hq) (fun c c1 c2 => upI_ne (by omega)) ?_)
    · obtain ⟨b, h⟩ := hG.2.2.2.2.2.1
      exact ⟨b, h.al (fun j hj => upd_ne (by omega))⟩
    · exact SL8.al hG.2.2.2.2.2.2.2.1 (fun j hj => upd_ne (by omega))
    · exact STx.al hG.2.2.2.2.2.2.2.2.1 (fun j hj => upd_ne (by omega))
    · obtain ⟨m1, m2, m3, m4, m5, m6, m7, m8⟩ := hM
      refine ⟨?_, ?_, ?_, ?_, fun j hj => ?_, fun k hk => ?_, fun k hk => ?_, ?_⟩
      · rw [upI_eq, upd_ne (by omega), upd_ne (by omega)]; exact m1
      · rw [upI_eq, upd_ne (by omega), upd_ne (by omega)]; exact m2
      · rw [upI_eq, upd_at, upd_at]
      · rw [upI_eq, upd_ne (by omega), upd_ne (by omega)]; exact m4
      · rw [upI_ne (by omega), upd_ne (by omega)]; exact m5 j hj
      · rw [upI_ne (by omega), upI_ne (by omega), upd_ne (by omega), upd_ne (by omega)]; exact m6 k hk
      · rw [upI_ne (by omega), upI_ne (by omega), upI_ne (by omega), upI_ne (by omega), upd_ne (by omega), upd_ne (by omega), upd_ne (by omega), upd_ne (by omega)]; exact m7 k hk
      · rw [upI_eq, upd_ne (by omega)]; exact m8.trans (seeB_al (fun j hj => upd_ne (by omega)))
  · by_cases h2 : (0 ≤ x ∧ x ≤ 3) ∧ (0 < x → isM n y)
    · obtain ⟨h2, h3⟩ := h2
      rcases (by omega : b = 8 ∨ b < 8) with h4 | h4
      · exact stay_co hK hG hC (hc.2.2.1 h2 h3 h4)
      · have ho : HO s (upd (upd (upd s (90 + b) x) (98 + b) y) 29 (nI (b + 1))) := (((HO.rf s).up x (by omega)).up y (by omega)).up _ (by omega)
        have hq : FR UC I (upI (upI (upI I 19 b x) 20 b y) 15 8 (nI (b + 1))) := UC.up (UC.up (UC.up (FR.rf I) (by unfold UC; omega)) (by unfold UC; omega)) u15
        obtain ⟨w, hw, ex⟩ := nI_of2 (M := 3) (n := 3) (by decide) (Int32.not_lt.mpr h2.1) h2.2
        refine upd_co (s' := upd (upd (upd s (90 + b) x) (98 + b) y) 29 (nI (b + 1))) hK hC (hc.2.2.2 h2 h3 h4) hq (fun j j1 j2 => ho j (by omega) (by omega)) (hG.ho ho ?_ ⟨b + 1, upd_at _ _ _, by omega, fun k hk => ?_⟩ ?_ ?_ (hG.by.al (fun j hj => by rw [upd_ne (by omega), upd_ne (by omega), upd_ne (by omega)]))) (hC.1.ho hG.2.1.1 ho (uc_tags hF hq) (fun c c1 c2 => by rw [upI_ne (by omega), upI_ne (by omega), upI_ne (by omega)]) ?_)
        · obtain ⟨b, h⟩ := hG.2.2.2.2.2.1
          exact ⟨b, h.al (fun j hj => by rw [upd_ne (by omega), upd_ne (by omega), upd_ne (by omega)])⟩
        · rcases (by omega : k = b ∨ k < b) with g | g
          · rw [g, upd_ne (by omega), upd_ne (by omega), upd_at, upd_ne (by omega), upd_at]
            exact ⟨w, hw, ex, fun hw0 => (isM_iff hG.2.1.1).mp (h3 (by rw [ex]; exact nI_lt (a := 0) hw0 (by omega)))⟩
          · rw [upd_ne (by omega), upd_ne (by omega), upd_ne (by omega), upd_ne (by omega), upd_ne (by omega), upd_ne (by omega)]; exact hbs k g
        · exact SL8.al hG.2.2.2.2.2.2.2.1 (fun j hj => by rw [upd_ne (by omega), upd_ne (by omega), upd_ne (by omega)])
        · exact STx.al hG.2.2.2.2.2.2.2.2.1 (fun j hj => by rw [upd_ne (by omega), upd_ne (by omega), upd_ne (by omega)])
        · obtain ⟨m1, m2, m3, m4, m5, m6, m7, m8⟩ := hM
          refine ⟨?_, ?_, ?_, ?_, fun j hj => ?_, fun k hk => ?_, fun k hk => ?_, ?_⟩
          · rw [upI_eq, upd_ne (by omega), upI_ne (by omega), upI_ne (by omega), upd_ne (by omega), upd_ne (by omega), upd_ne (by omega)]; exact m1
          · rw [upI_eq, upd_ne (by omega), upI_ne (by omega), upI_ne (by omega), upd_ne (by omega), upd_ne (by omega), upd_ne (by omega)]; exact m2
          · rw [upI_eq, upd_at, upd_at]
          · rw [upI_eq, upd_ne (by omega), upI_ne (by omega), upI_ne (by omega), upd_ne (by omega), upd_ne (by omega), upd_ne (by omega)]; exact m4
          · rw [upI_ne (by omega), upI_ne (by omega), upI_ne (by omega), upd_ne (by omega), upd_ne (by omega), upd_ne (by omega)]; exact m5 j hj
          · refine ⟨?_, ?_⟩
            · rw [upI_ne (by omega), upI_ne (by omega), upI_ne (by omega), upd_ne (by omega), upd_ne (by omega), upd_ne (by omega)]; exact (m6 k hk).1
            · rw [upI_ne (by omega), upI_ne (by omega), upI_ne (by omega), upd_ne (by omega), upd_ne (by omega), upd_ne (by omega)]; exact (m6 k hk).2
          · refine ⟨?_, ?_, ?_, ?_⟩
            · rw [upI_ne (by omega), upI_ne (by omega), upI_eq]
              by_cases g : k = b
              · rw [g, upd_at, upd_ne (by omega), upd_ne (by omega), upd_at]
              · rw [upd_ne g, upd_ne (by omega), upd_ne (by omega), upd_ne (by omega)]; exact (m7 k hk).1
            · rw [upI_ne (by omega), upI_eq]
              by_cases g : k = b
              · rw [g, upd_at, upd_ne (by omega), upd_at]
              · rw [upd_ne g, upI_ne (by omega), upd_ne (by omega), upd_ne (by omega), upd_ne (by omega)]; exact (m7 k hk).2.1
            · rw [upI_ne (by omega), upI_ne (by omega), upI_ne (by omega), upd_ne (by omega), upd_ne (by omega), upd_ne (by omega)]; exact (m7 k hk).2.2.1
            · rw [upI_ne (by omega), upI_ne (by omega), upI_ne (by omega), upd_ne (by omega), upd_ne (by omega), upd_ne (by omega)]; exact (m7 k hk).2.2.2
          · rw [upI_eq, upd_ne (by omega), upI_ne (by omega), upI_ne (by omega)]; exact m8.trans (seeB_al (fun j hj => by rw [upd_ne (by omega), upd_ne (by omega), upd_ne (by omega)]))
    · exact stay_co hK hG hC (hc.2.1 h1 h2)
theorem co_see (hK : RSok R) (hG : GS s n hd cls e) (hC : CR (K0 ++ T) I R s n hd cls l im) (x y : Int32) (w : Bool) : CO X T I R kX11_see [.int x, .int y, .int (bI w)] s n im := by
  have hF := FX1 (T := T) hK
  obtain ⟨b, hs⟩ := hG.2.2.2.2.2.1
  have hb := hs.1
  have hb8 := hs.2.1
  have hbs := hs.2.2
  have hc := c_see (X := X) hF hG hC.1 hb hb8 x y w
  have hM := hC.1.2.2.2.2
  have u15 : UC 15 := by unfold UC; omega
  by_cases h1 : x = -1
  · have ho : HO s (upd s 28 0) := (HO.rf s).up 0 (by omega)
    have hq : FR UC I (upI I 15 5 0) := UC.up (FR.rf I) u15
    refine upd_co (s' := upd s 28 0) hK hC (hc.1 h1) hq (fun j j1 j2 => ho j (by omega) (by omega)) (hG.ho ho ⟨0, upd_at _ _ _, by omega, fun k hk => absurd hk (by omega)⟩ ?_ ?_ ?_ (hG.by.al (fun j hj => upd_ne (by omega)))) (hC.1.ho hG.2.1.1 ho (uc_tags hF hq) (fun c c1 c2 => upI_ne (by omega)) ?_)
    · obtain ⟨b, h⟩ := hG.2.2.2.2.2.2.1
      exact ⟨b, h.al2 (fun j hj => upd_ne (by omega))⟩
    · exact SL8.al hG.2.2.2.2.2.2.2.1 (fun j hj => upd_ne (by omega))
    · exact STx.al hG.2.2.2.2.2.2.2.2.1 (fun j hj => upd_ne (by omega))
    · obtain ⟨m1, m2, m3, m4, m5, m6, m7, m8⟩ := hM
      refine ⟨?_, ?_, ?_, ?_, fun j hj => ?_, fun k hk => ?_, fun k hk => ?_, ?_⟩
      · rw [upI_eq, upd_ne (by omega), upd_ne (by omega)]; exact m1
      · rw [upI_eq, upd_at, upd_at]
      · rw [upI_eq, upd_ne (by omega), upd_ne (by omega)]; exact m3
      · rw [upI_eq, upd_ne (by omega), upd_ne (by omega)]; exact m4
      · rw [upI_ne (by omega), upd_ne (by omega)]; exact m5 j hj
      · rw [upI_ne (by omega), upI_ne (by omega), upd_ne (by omega), upd_ne (by omega)]; exact m6 k hk
      · rw [upI_ne (by omega), upI_ne (by omega), upI_ne (by omega), upI_ne (by omega), upd_ne (by omega), upd_ne (by omega), upd_ne (by omega), upd_ne (by omega)]; exact m7 k hk
      · rw [upI_eq, upd_ne (by omega)]; exact m8.trans (seeB_al (fun j hj => upd_ne (by omega)))
  · by_cases h2 : isM n x
    · by_cases h3 : 0 ≤ y ∧ y ≤ 20
      · rcases (by omega : b = 5 ∨ b < 5) with h4 | h4
        · exact stay_co hK hG hC (hc.2.2.2.1 h2 h3 h4)
        · have ho : HO s (upd (upd (upd (upd s (75 + b) x) (80 + b) y) (85 + b) (bI w)) 28 (nI (b + 1))) := ((((HO.rf s).up x (by omega)).up y (by omega)).up _ (by omega)).up _ (by omega)
          have hq : FR UC I (upI (upI (upI (upI I 17 b x) 18 b y) 15 4 (nI (mk (seeB (upd s (85 + b) (bI w))) 5))) 15 5 (nI (b + 1))) := UC.up (UC.up (UC.up (UC.up (FR.rf I) (by unfold UC; omega)) (by unfold UC; omega)) (by unfold UC; omega)) u15
          obtain ⟨p, hp, ex⟩ := (isM_iff hG.2.1.1).mp h2
          obtain ⟨a, ha, ey⟩ := nI_of2 (M := 20) (n := 20) (by decide) (Int32.not_lt.mpr h3.1) h3.2
          refine upd_co (s' := upd (upd (upd (upd s (75 + b) x) (80 + b) y) (85 + b) (bI w)) 28 (nI (b + 1))) hK hC (hc.2.2.2.2 h2 h3 h4) hq (fun j j1 j2 => ho j (by omega) (by omega)) (hG.ho ho ⟨b + 1, upd_at _ _ _, by omega, fun k hk => ?_⟩ ?_ ?_ ?_ ⟨fun j hj => by rw [upd_ne (by omega), upd_ne (by omega), upd_ne (by omega), upd_ne (by omega)]; exact hG.by.1 j hj, fun k hk => by
            by_cases g : k = b
            · rw [g, upd_ne (by omega), upd_at]; cases w
              · exact Or.inl rfl
              · exact Or.inr rfl
            · rw [upd_ne (by omega), upd_ne (by omega), upd_ne (by omega), upd_ne (by omega)]; exact hG.by.2 k hk⟩) (hC.1.ho hG.2.1.1 ho (uc_tags hF hq) (fun c c1 c2 => by rw [upI_ne (by omega), upI_ne (by omega), upI_ne (by omega), upI_ne (by omega)]) ?_)
          · rcases (by omega : k = b ∨ k < b) with g | g
            · refine ⟨⟨p, hp, ?_⟩, ⟨a, ha, ?_⟩, ?_⟩
              · rw [g, upd_ne (by omega), upd_ne (by omega), upd_ne (by omega), upd_at]; exact ex
              · rw [g, upd_ne (by omega), upd_ne (by omega), upd_at]; exact ey
              · rw [g, upd_ne (by omega), upd_at]; cases w
                · exact Or.inl rfl
                · exact Or.inr rfl
            · rw [upd_ne (by omega), upd_ne (by omega), upd_ne (by omega), upd_ne (by omega), upd_ne (by omega), upd_ne (by omega), upd_ne (by omega), upd_ne (by omega), upd_ne (by omega), upd_ne (by omega), upd_ne (by omega), upd_ne (by omega)]; exact hbs k g
          · obtain ⟨b, h⟩ := hG.2.2.2.2.2.2.1
            exact ⟨b, h.al2 (fun j hj => by rw [upd_ne (by omega), upd_ne (by omega), upd_ne (by omega), upd_ne (by omega)])⟩
          · exact SL8.al hG.2.2.2.2.2.2.2.1 (fun j hj => by rw [upd_ne (by omega), upd_ne (by omega), upd_ne (by omega), upd_ne (by omega)])
          · exact STx.al hG.2.2.2.2.2.2.2.2.1 (fun j hj => by rw [upd_ne (by omega), upd_ne (by omega), upd_ne (by omega), upd_ne (by omega)])
          · obtain ⟨m1, m2, m3, m4, m5, m6, m7, m8⟩ := hM
            refine ⟨?_, ?_, ?_, ?_, fun j hj => ?_, fun k hk => ?_, fun k hk => ?_, ?_⟩
            · rw [upI_eq, upd_ne (by omega), upI_eq, upd_ne (by omega), upI_ne (by omega), upI_ne (by omega), upd_ne (by omega), upd_ne (by omega), upd_ne (by omega), upd_ne (by omega)]; exact m1
            · rw [upI_eq, upd_at, upd_at]
            · rw [upI_eq, upd_ne (by omega), upI_eq, upd_ne (by omega), upI_ne (by omega), upI_ne (by omega), upd_ne (by omega), upd_ne (by omega), upd_ne (by omega), upd_ne (by omega)]; exact m3
            · rw [upI_eq, upd_ne (by omega), upI_eq, upd_ne (by omega), upI_ne (by omega), upI_ne (by omega), upd_ne (by omega), upd_ne (by omega), upd_ne (by omega), upd_ne (by omega)]; exact m4
            · rw [upI_ne (by omega), upI_ne (by omega), upI_ne (by omega), upI_ne (by omega), upd_ne (by omega), upd_ne (by omega), upd_ne (by omega), upd_ne (by omega)]; exact m5 j hj
            · refine ⟨?_, ?_⟩
              · rw [upI_ne (by omega), upI_ne (by omega), upI_ne (by omega), upI_eq]
                by_cases g : k = b
                · rw [g, upd_at, upd_ne (by omega), upd_ne (by omega), upd_ne (by omega), upd_at]
                · rw [upd_ne g, upd_ne (by omega), upd_ne (by omega), upd_ne (by omega), upd_ne (by omega)]; exact (m6 k hk).1
              · rw [upI_ne (by omega), upI_ne (by omega), upI_eq]
                by_cases g : k = b
                · rw [g, upd_at, upd_ne (by omega), upd_ne (by omega), upd_at]
                · rw [upd_ne g, upI_ne (by omega), upd_ne (by omega), upd_ne (by omega), upd_ne (by omega), upd_ne (by omega)]; exact (m6 k hk).2
            · refine ⟨?_, ?_, ?_, ?_⟩
              · rw [upI_ne (by omega), upI_ne (by omega), upI_ne (by omega), upI_ne (by omega), upd_ne (by omega), upd_ne (by omega), upd_ne (by omega), upd_ne (by omega)]; exact (m7 k hk).1
              · rw [upI_ne (by omega), upI_ne (by omega), upI_ne (by omega), upI_ne (by omega), upd_ne (by omega), upd_ne (by omega), upd_ne (by omega), upd_ne (by omega)]; exact (m7 k hk).2.1
              · rw [upI_ne (by omega), upI_ne (by omega), upI_ne (by omega), upI_ne (by omega), upd_ne (by omega), upd_ne (by omega), upd_ne (by omega), upd_ne (by omega)]; exact (m7 k hk).2.2.1
              · rw [upI_ne (by omega), upI_ne (by omega), upI_ne (by omega), upI_ne (by omega), upd_ne (by omega), upd_ne (by omega), upd_ne (by omega), upd_ne (by omega)]; exact (m7 k hk).2.2.2
            · rw [upI_eq, upd_ne (by omega), upI_eq, upd_at]
              refine congrArg nI (mk_ext (fun k hk => ?_))
              unfold seeB
              by_cases g : k = b
              · rw [g, upd_at, upd_ne (by omega), upd_at]
              · rw [upd_ne (by omega), upd_ne (by omega), upd_ne (by omega), upd_ne (by omega), upd_ne (by omega)]
      · exact stay_co hK hG hC (hc.2.2.1 h2 h3)
    · exact stay_co hK hG hC (hc.2.1 h1 h2)
theorem co_feed (hK : RSok R) (hG : GS s n hd cls e) (hC : CR (K0 ++ T) I R s n hd cls l im) (x : Int32) : CO X T I R kX11_feed [.int x] s n im := by
  have hF := FX1 (T := T) hK
  have hM := hC.1.2.2.2.2
  obtain ⟨z, hz2, hz, hzt⟩ := hG.2.2.2.2.2.2.2.2.1
  have hc := c_feed (X := X) hF hM hz hz2 x
  have u15 : UC 15 := by unfold UC; omega
  by_cases h : 0 ≤ x ∧ x ≤ 127
  · rcases (by omega : z = 100 ∨ z < 100) with h3 | h3
    · exact stay_co hK hG hC (hc.2.1 h h3)
    · obtain ⟨j, hj, ej⟩ := nI_of2 (M := 127) (n := 127) (by decide) (Int32.not_lt.mpr h.1) h.2
      have ho : HO s (upd (upd s (122 + z) x) 31 (nI (z + 1))) := ((HO.rf s).up x (by omega)).up _ (by omega)
      have hq : FR UC I (upI (upI I 16 z x) 15 1 (nI (z + 1))) := UC.up (UC.up (FR.rf I) (by unfold UC; omega)) u15
      refine upd_co (s' := upd (upd s (122 + z) x) 31 (nI (z + 1))) hK hC (hc.2.2 h h3) hq (fun j j1 j2 => ho j (by omega) (by omega)) (hG.ho ho ?_ ?_ ?_ ⟨z + 1, by omega, upd_at _ _ _, fun k hk => ?_⟩ ⟨fun k hk => by
        by_cases g : k = z
        · rw [g, upd_ne (by omega), upd_at]; exact ⟨j, by omega, ej⟩
        · rw [upd_ne (by omega), upd_ne (by omega)]; exact hG.by.1 k hk, fun k hk => by rw [upd_ne (by omega), upd_ne (by omega)]; exact hG.by.2 k hk⟩) (hC.1.ho hG.2.1.1 ho (uc_tags hF hq) (fun c c1 c2 => by rw [upI_ne (by omega), upI_ne (by omega)]) ?_)
      · obtain ⟨b, h⟩ := hG.2.2.2.2.2.1
        exact ⟨b, h.al (fun j hj => by rw [upd_ne (by omega), upd_ne (by omega)])⟩
      · obtain ⟨b, h⟩ := hG.2.2.2.2.2.2.1
        exact ⟨b, h.al2 (fun j hj => by rw [upd_ne (by omega), upd_ne (by omega)])⟩
      · exact SL8.al hG.2.2.2.2.2.2.2.1 (fun j hj => by rw [upd_ne (by omega), upd_ne (by omega)])
      · show ∃ c, c < 128 ∧ upd (upd s (122 + z) x) 31 (nI (z + 1)) (122 + k) = nI c
        rcases (by omega : k = z ∨ k < z) with g | g
        · rw [g, upd_ne (by omega), upd_at]; exact ⟨j, by omega, ej⟩
        · rw [upd_ne (by omega), upd_ne (by omega)]; exact hzt k g
      · obtain ⟨m1, m2, m3, m4, m5, m6, m7, m8⟩ := hM
        refine ⟨?_, ?_, ?_, ?_, fun j hj => ?_, fun k hk => ?_, fun k hk => ?_, ?_⟩
        · rw [upI_eq, upd_at, upd_at]
        · rw [upI_eq, upd_ne (by omega), upI_ne (by omega), upd_ne (by omega), upd_ne (by omega)]; exact m2
        · rw [upI_eq, upd_ne (by omega), upI_ne (by omega), upd_ne (by omega), upd_ne (by omega)]; exact m3
        · rw [upI_eq, upd_ne (by omega), upI_ne (by omega), upd_ne (by omega), upd_ne (by omega)]; exact m4
        · rw [upI_ne (by omega), upI_eq]
          by_cases g : j = z
          · rw [g, upd_at, upd_ne (by omega), upd_at]
          · rw [upd_ne g, upd_ne (by omega), upd_ne (by omega)]; exact m5 j hj
        · rw [upI_ne (by omega), upI_ne (by omega), upI_ne (by omega), upI_ne (by omega), upd_ne (by omega), upd_ne (by omega), upd_ne (by omega), upd_ne (by omega)]; exact m6 k hk
        · rw [upI_ne (by omega), upI_ne (by omega), upI_ne (by omega), upI_ne (by omega), upI_ne (by omega), upI_ne (by omega), upI_ne (by omega), upI_ne (by omega), upd_ne (by omega), upd_ne (by omega), upd_ne (by omega), upd_ne (by omega), upd_ne (by omega), upd_ne (by omega), upd_ne (by omega), upd_ne (by omega)]; exact m7 k hk
        · rw [upI_eq, upd_ne (by omega), upI_ne (by omega)]; exact m8.trans (seeB_al (fun j hj => by rw [upd_ne (by omega), upd_ne (by omega)]))
  · exact stay_co hK hG hC (hc.1 h)
theorem co_shelve (hK : RSok R) (hG : GS s n hd cls e) (hC : CR (K0 ++ T) I R s n hd cls l im) (x : Int32) (b : Bool) : CO X T I R kX11_shelve [.int x, .int (bI b)] s n im := by
  have hF := FX1 (T := T) hK
  have hn6 := hG.2.1.1
  have hc := c_shelve (X := X) hF hG hC.1 x b
  by_cases h : isM n x
  · obtain ⟨p, hp, ex⟩ := (isM_iff hn6).mp h
    have hb : bI b = 0 ∨ bI b = 1 := by
      cases b
      · exact Or.inl rfl
      · exact Or.inr rfl
    have ho : VOo s (upd s (20 + p) (bI b)) := fun j h1 h2 => upd_ne (by omega)
    have hq : FR UC I (upI I 1 10 (nI (mk (shel (upd s (20 + p) (bI b))) n))) := UC.up (FR.rf I) (by unfold UC; omega)
    have hA := hC.1.1.sh hn6 hp (bI b) rfl
    refine upd_co (s' := upd s (20 + p) (bI b)) hK hC (hc.1 p hp ex) hq (fun j j1 j2 => upd_ne (by omega)) (hG.vo ho (fun q hq => by rw [upd_ne (by omega)]; exact hG.1.2.2.1 q hq) (RI_sh hG.2.1 (by omega) hb) hG.2.2.1 (by rw [upd_ne (by omega)]; exact hG.2.2.2.1) (fun q hq => by rw [upd_ne (by omega)]; exact hG.2.2.2.2.1 q hq)) (hC.1.vo ho hA (by rw [upI_eq, upd_ne (by omega)]) (fun q q1 q2 => ?_) (fun q hq => ⟨upd_ne (by omega), upd_ne (by omega)⟩) (fun c t hk ht => uc_tags hF hq c t 4 hk (Or.inl ⟨ht, rfl⟩)) (fun c c1 c2 => upI_ne (by omega)))
    rw [upI_ne (by omega), upI_ne (by omega), upI_ne (by omega), upI_ne (by omega)]
    exact hC.1.2.2.1 q q1 q2
  · exact stay_co hK hG hC (hc.2 h)
theorem co_row (hK : RSok R) (hG : GS s n hd cls e) (hC : CR (K0 ++ T) I R s n hd cls l im) (x y z : Int32) : CO X T I R kX11_row [.int x, .int y, .int z] s n im := by
  have hF := FX1 (T := T) hK
  have hn6 := hG.2.1.1
  have hc := c_row (X := X) hF hG hC.1 x y z
  by_cases h : isM n x ∧ 0 ≤ y ∧ y ≤ 3
  · by_cases hz : 0 ≤ z ∧ z ≤ 9
    · obtain ⟨p, hp, ex⟩ := (isM_iff hn6).mp h.1
      by_cases h6 : s (33 + p) = 6
      · obtain ⟨k, hk, ey⟩ := nI_of2 (M := 3) (n := 3) (by decide) (Int32.not_lt.mpr h.2.1) h.2.2
        obtain ⟨r, hr, er⟩ := nI_of2 (M := 9) (n := 9) (by decide) (Int32.not_lt.mpr hz.1) hz.2
        have ho : VOo s (upd s (45 + 4 * p + k) z) := fun j h1 h2 => upd_ne (by omega)
        have hq : FR UC I (upI I 8 (4 * p + k) z) := UC.up (FR.rf I) (by unfold UC; omega)
        have hl : ∀ j, j < 45 ∨ 69 ≤ j → upd s (45 + 4 * p + k) z j = s j := fun j hj => upd_ne (by omega)
        obtain ⟨b1, ⟨b2, b3, b4⟩, b5, b6, b7, b8⟩ := hG.2.1
        have hRI : RI (upd s (45 + 4 * p + k) z) n e cls := by
          refine ⟨b1, ⟨fun q hq => ?_, fun q hq => ?_, fun q hq => ?_⟩, fun q hq => ?_, (hl 0 (by omega)).trans b6, b7, b8⟩
          · rw [hl (14 + q) (by omega)]; exact b2 q hq
          · rw [hl (20 + q) (by omega)]; exact b3 q hq
          · rw [hl (69 + q) (by omega)]; exact b4 q hq
          · rw [hl (8 + q) (by omega), hl (39 + q) (by omega)]
            refine ⟨(b5 q hq).1, (b5 q hq).2.1, fun k' hk' => ?_⟩
            by_cases g : 45 + 4 * q + k' = 45 + 4 * p + k
            · rw [g, upd_at]; exact ⟨r, hr, er⟩
            · rw [upd_ne g]; exact (b5 q hq).2.2 k' hk'
        have hVM := hC.1.1.2.1
        obtain ⟨v8, v9, v10, v11, v12, vk, vv, va, vt, vh, vr⟩ := id hVM
        have hA : VA (K0 ++ T) (upI I 8 (4 * p + k) z) R 1 (upd s (45 + 4 * p + k) z) n cls (rT s hd 222 20) (rT s hd 227 1) := by
          refine hC.1.1.vm ?_ (fun q hq => hl _ (by omega)) (fun c hc => upI_ne (by omega)) (by rw [upI_ne (by omega)])
          refine ⟨by rw [upI_ne (by omega)]; exact v8, ?_, ?_, by rw [upI_ne (by omega), hl 1 (by omega)]; exact v11, by rw [upI_ne (by omega), hl 0 (by omega)]; exact v12, fun i hi => ?_, fun i hi => ?_, fun i hi => ?_, fun i hi => ?_, fun i hi => ?_, fun i k' hi hk' => ?_⟩
          · rw [upI_ne (by omega), v9]; congr 1; exact mk_ext (fun i hi => by unfold sett; rw [hl (14 + i) (by omega)])
          · rw [upI_ne (by omega), v10]; congr 1; exact mk_ext (fun i hi => by unfold shel; rw [hl (20 + i) (by omega)])
          · rw [upI_ne (by omega), hl (33 + i) (by omega)]; exact vk i hi
          · rw [upI_ne (by omega), hl (39 + i) (by omega)]; exact vv i hi
          · rw [upI_ne (by omega), hl (2 + i) (by omega)]; exact va i hi
          · rw [upI_ne (by omega), hl (8 + i) (by omega)]; exact vt i hi
          · rw [upI_ne (by omega), hl (69 + i) (by omega)]; exact vh i hi
          · rw [show 1 + 7 = 8 from rfl, upI_eq]
            by_cases g : 4 * i + k' = 4 * p + k
            · rw [show 45 + 4 * i + k' = 45 + 4 * p + k by omega, g, upd_at, upd_at]
            · rw [upd_ne g, upd_ne (by omega)]; exact vr i k' hi hk'
        refine upd_co (s' := upd s (45 + 4 * p + k) z) hK hC (hc.1 p k hp (by omega) ex ey hz h6) hq (fun j j1 j2 => hl j (by omega)) (hG.vo ho (fun q hq => by rw [hl (33 + q) (by omega)]; exact hG.1.2.2.1 q hq) hRI hG.2.2.1 (by rw [hl 1 (by omega)]; exact hG.2.2.2.1) (fun q hq => by rw [hl (2 + q) (by omega)]; exact hG.2.2.2.2.1 q hq)) (hC.1.vo ho hA (by rw [upI_ne (by omega)]) (fun q q1 q2 => ?_) (fun q hq => ⟨hl _ (by omega), hl _ (by omega)⟩) (fun c t hk ht => uc_tags hF hq c t 4 hk (Or.inl ⟨ht, rfl⟩)) (fun c c1 c2 => upI_ne (by omega)))
        obtain ⟨z1, z2, z3, z4⟩ := hC.1.2.2.1 q q1 q2
        refine ⟨by rw [upI_ne (by omega)]; exact z1, by rw [upI_ne (by omega)]; exact z2, by rw [upI_ne (by omega)]; exact z3, fun k' hk' => ?_⟩
        rw [show 1 + 7 = 8 from rfl, upI_eq, upd_ne (by omega)]
        exact z4 k' hk'
      · exact stay_co hK hG hC (hc.2.1 p hp ex h.2 hz h6)
    · exact stay_co hK hG hC (hc.2.2.1 h hz)
  · exact stay_co hK hG hC (hc.2.2.2 h)
theorem co_reopen (hK : RSok R) (hG : GS s n hd cls e) (hC : CR (K0 ++ T) I R s n hd cls l im) (x : Int32) : CO X T I R kX11_reopen [.int x] s n im := by
  have hF := FX1 (T := T) hK
  have hn6 := hG.2.1.1
  have hc := c_reopen (X := X) hF hG hC.1 x
  by_cases h : isM n x
  · obtain ⟨p, hp, ex⟩ := (isM_iff hn6).mp h
    have ho : VOo s (rRe s p) := fun j h1 h2 => rRe_o (by omega) (by omega) (by omega)
    obtain ⟨J, hJ⟩ : ∃ J, J = upI (upI (upI I 1 9 (nI (mk (sett (rRe s p)) n))) 6 p 0) 5 p 0 := ⟨_, rfl⟩
    have hq : FR UC I J := by
      rw [hJ]
      exact UC.up (UC.up (UC.up (FR.rf I) (by unfold UC; omega)) (by unfold UC; omega)) (by unfold UC; omega)
    have hc1 := hc.1 p hp ex
    rw [← hJ] at hc1
    have jo : ∀ c, c ≠ 1 → c ≠ 5 → c ≠ 6 → J c = I c := fun c c1 c2 c3 => by rw [hJ, upI_ne c2, upI_ne c3, upI_ne c1]
    have j1 : ∀ j, j ≠ 9 → J 1 j = I 1 j := fun j hj => by rw [hJ, upI_ne (by omega), upI_ne (by omega), upI_eq, upd_ne hj]
    have j19 : J 1 9 = nI (mk (sett (rRe s p)) n) := by rw [hJ, upI_ne (by omega), upI_ne (by omega), upI_eq, upd_at]
    have j5 : J 5 = upd (I 5) p 0 := by rw [hJ, upI_eq, upI_ne (by omega), upI_ne (by omega)]
    have j6 : J 6 = upd (I 6) p 0 := by rw [hJ, upI_ne (by omega), upI_eq, upI_ne (by omega)]
    obtain ⟨b1, ⟨b2, b3, b4⟩, b5, b6, b7, b8⟩ := hG.2.1
    have hRI : RI (rRe s p) n e cls := by
      refine ⟨b1, ⟨fun q hq => ?_, fun q hq => ?_, fun q hq => ?_⟩, fun q hq => ?_, (rRe_o (by omega) (by omega) (by omega)).trans b6, b7, b8⟩
      · by_cases g : q = p
        · rw [g, rRe_14]; exact Or.inl rfl
        · rw [rRe_o (by omega) (by omega) (by omega)]; exact b2 q hq
      · rw [rRe_o (by omega) (by omega) (by omega)]; exact b3 q hq
      · rw [rRe_o (by omega) (by omega) (by omega)]; exact b4 q hq
      · refine ⟨?_, ?_, fun k' hk' => ?_⟩
        · by_cases g : q = p
          · rw [g, rRe_8]; exact ⟨0, by omega, rfl⟩
          · rw [rRe_o (by omega) (by omega) (by omega)]; exact (b5 q hq).1
        · rw [rRe_o (by omega) (by omega) (by omega)]; exact (b5 q hq).2.1
        · rw [rRe_o (by omega) (by omega) (by omega)]; exact (b5 q hq).2.2 k' hk'
    have hVM := hC.1.1.2.1
    obtain ⟨v8, v9, v10, v11, v12, vk, vv, va, vt, vh, vr⟩ := id hVM
    have hA : VA (K0 ++ T) J R 1 (rRe s p) n cls (rT s hd 222 20) (rT s hd 227 1) := by
      refine hC.1.1.vm ?_ (fun q hq => rRe_o (by omega) (by omega) (by omega)) (fun c hc => jo c (by omega) (by omega) (by omega)) (j1 13 (by omega))
      refine ⟨(j1 8 (by omega)).trans v8, j19, ?_, by rw [j1 11 (by omega), rRe_o (by omega) (by omega) (by omega)]; exact v11, by rw [j1 12 (by omega), rRe_o (by omega) (by omega) (by omega)]; exact v12, fun i hi => ?_, fun i hi => ?_, fun i hi => ?_, fun i hi => ?_, fun i hi => ?_, fun i k' hi hk' => ?_⟩
      · rw [j1 10 (by omega), v10]; congr 1; exact mk_ext (fun i hi => by unfold shel; rw [rRe_o (by omega) (by omega) (by omega)])
      · rw [jo (1 + 2) (by omega) (by omega) (by omega), rRe_o (by omega) (by omega) (by omega)]; exact vk i hi
      · rw [jo (1 + 3) (by omega) (by omega) (by omega), rRe_o (by omega) (by omega) (by omega)]; exact vv i hi
      · rw [show 1 + 4 = 5 from rfl, j5]
        by_cases g : i = p
        · rw [g, upd_at, rRe_2]
        · rw [upd_ne g, rRe_o (by omega) (by omega) (by omega)]; exact va i hi
      · rw [show 1 + 5 = 6 from rfl, j6]
        by_cases g : i = p
        · rw [g, upd_at, rRe_8]
        · rw [upd_ne g, rRe_o (by omega) (by omega) (by omega)]; exact vt i hi
      · rw [jo (1 + 6) (by omega) (by omega) (by omega), rRe_o (by omega) (by omega) (by omega)]; exact vh i hi
      · rw [jo (1 + 7) (by omega) (by omega) (by omega), rRe_o (by omega) (by omega) (by omega)]; exact vr i k' hi hk'
    refine upd_co (s' := rRe s p) hK hC hc1 hq (fun j j1 j2 => rRe_o (by omega) (by omega) (by omega)) (hG.vo ho (fun q hq => by rw [rRe_o (by omega) (by omega) (by omega)]; exact hG.1.2.2.1 q hq) hRI hG.2.2.1 (by rw [rRe_o (by omega) (by omega) (by omega)]; exact hG.2.2.2.1) (fun q hq => ?_)) (hC.1.vo ho hA (j1 15 (by omega)) (fun q q1 q2 => ?_) (fun q hq => ⟨rRe_o (by omega) (by omega) (by omega), rRe_o (by omega) (by omega) (by omega)⟩) (fun c t hk ht => uc_tags hF hq c t 4 hk (Or.inl ⟨ht, rfl⟩)) (fun c c1 c2 => jo c (by omega) (by omega) (by omega)))
    · by_cases g : q = p
      · rw [g, rRe_2]; exact ⟨0, by omega, rfl⟩
      · rw [rRe_o (by omega) (by omega) (by omega)]; exact hG.2.2.2.2.1 q hq
    · obtain ⟨z1, z2, z3, z4⟩ := hC.1.2.2.1 q q1 q2
      refine ⟨?_, ?_, by rw [jo (1 + 6) (by omega) (by omega) (by omega)]; exact z3, fun k' hk' => by rw [jo (1 + 7) (by omega) (by omega) (by omega)]; exact z4 k' hk'⟩
      · rw [show 1 + 4 = 5 from rfl, j5, upd_ne (by omega)]; exact z1
      · rw [show 1 + 5 = 6 from rfl, j6, upd_ne (by omega)]; exact z2
  · exact stay_co hK hG hC (hc.2 h)
theorem co_tie (hK : RSok R) (hG : GS s n hd cls e) (hC : CR (K0 ++ T) I R s n hd cls l im) (x y : Int32) (b : Bool) : CO X T I R kX11_tie [.int x, .int y, .int (bI b)] s n im := by
  have hF := FX1 (T := T) hK
  have hn6 := hG.2.1.1
  have hS := hG.2.1.2.1
  have hc := c_tie (X := X) hF hG hC.1 x y b
  by_cases h : isM n x ∧ isM n y
  · obtain ⟨p, hp, ex⟩ := (isM_iff hn6).mp h.1
    obtain ⟨q, hq, ey⟩ := (isM_iff hn6).mp h.2
    by_cases hpq : p = q
    · have hxy : x = y := by rw [ex, ey, hpq]
      exact stay_co hK hG hC (hc.2.1 h.1 hxy)
    · obtain ⟨V, hV⟩ : ∃ V, V = tiV s p q b := ⟨_, rfl⟩
      have hVl := tiV_lt hn6 hS (p := p) (by omega) hq b
      have hVm := tiV_m hn6 hS (p := p) (by omega) hq b
      have hc1 := hc.1 p q hp hq ex ey hpq
      rw [← hV] at hVl hVm hc1
      have ho : VOo s (upd s (69 + p) V) := fun j h1 h2 => upd_ne (by omega)
      have hq2 : FR UC I (upI I 7 p V) := UC.up (FR.rf I) (by unfold UC; omega)
      have hl : ∀ j, j < 69 → upd s (69 + p) V j = s j := fun j hj => upd_ne (by omega)
      obtain ⟨b1, ⟨b2, b3, b4⟩, b5, b6, b7, b8⟩ := hG.2.1
      have hRI : RI (upd s (69 + p) V) n e cls := by
        refine ⟨b1, ⟨fun q hq => ?_, fun q hq => ?_, fun q hq => ?_⟩, fun q hq => ?_, (hl 0 (by omega)).trans b6, b7, b8⟩
        · rw [hl (14 + q) (by omega)]; exact b2 q hq
        · rw [hl (20 + q) (by omega)]; exact b3 q hq
        · by_cases g : q = p
          · rw [g, upd_at]; exact hVl
          · rw [upd_ne (by omega)]; exact b4 q hq
        · rw [hl (8 + q) (by omega), hl (39 + q) (by omega)]
          refine ⟨(b5 q hq).1, (b5 q hq).2.1, fun k' hk' => ?_⟩
          rw [hl _ (by omega)]
          exact (b5 q hq).2.2 k' hk'
      have hVM := hC.1.1.2.1
      obtain ⟨v8, v9, v10, v11, v12, vk, vv, va, vt, vh, vr⟩ := id hVM
      have hA : VA (K0 ++ T) (upI I 7 p V) R 1 (upd s (69 + p) V) n cls (rT s hd 222 20) (rT s hd 227 1) := by
        refine hC.1.1.vm ?_ (fun q hq => hl _ (by omega)) (fun c hc => upI_ne (by omega)) (by rw [upI_ne (by omega)])
        refine ⟨by rw [upI_ne (by omega)]; exact v8, ?_, ?_, by rw [upI_ne (by omega), hl 1 (by omega)]; exact v11, by rw [upI_ne (by omega), hl 0 (by omega)]; exact v12, fun i hi => ?_, fun i hi => ?_, fun i hi => ?_, fun i hi => ?_, fun i hi => ?_, fun i k' hi hk' => ?_⟩
        · rw [upI_ne (by omega), v9]; congr 1; exact mk_ext (fun i hi => by unfold sett; rw [hl (14 + i) (by omega)])
        · rw [upI_ne (by omega), v10]; congr 1; exact mk_ext (fun i hi => by unfold shel; rw [hl (20 + i) (by omega)])
        · rw [upI_ne (by omega), hl (33 + i) (by omega)]; exact vk i hi
        · rw [upI_ne (by omega), hl (39 + i) (by omega)]; exact vv i hi
        · rw [upI_ne (by omega), hl (2 + i) (by omega)]; exact va i hi
        · rw [upI_ne (by omega), hl (8 + i) (by omega)]; exact vt i hi
        · rw [show 1 + 6 = 7 from rfl, upI_eq]
          by_cases g : i = p
          · rw [g, upd_at, upd_at]
          · rw [upd_ne g, upd_ne (by omega)]; exact vh i hi
        · rw [upI_ne (by omega), hl _ (by omega)]; exact vr i k' hi hk'
      refine upd_co (s' := upd s (69 + p) V) hK hC hc1 hq2 (fun j j1 j2 => hl j (by omega)) (hG.vo ho (fun q hq => by rw [hl (33 + q) (by omega)]; exact hG.1.2.2.1 q hq) hRI hG.2.2.1 (by rw [hl 1 (by omega)]; exact hG.2.2.2.1) (fun q hq => by rw [hl (2 + q) (by omega)]; exact hG.2.2.2.2.1 q hq)) (hC.1.vo ho hA (by rw [upI_ne (by omega)]) (fun q q1 q2 => ?_) (fun q hq => ⟨hl _ (by omega), hl _ (by omega)⟩) (fun c t hk ht => uc_tags hF hq2 c t 4 hk (Or.inl ⟨ht, rfl⟩)) (fun c c1 c2 => upI_ne (by omega)))
      obtain ⟨z1, z2, z3, z4⟩ := hC.1.2.2.1 q q1 q2
      refine ⟨by rw [upI_ne (by omega)]; exact z1, by rw [upI_ne (by omega)]; exact z2, ?_, fun k' hk' => by rw [upI_ne (by omega)]; exact z4 k' hk'⟩
      rw [show 1 + 6 = 7 from rfl, upI_eq, upd_ne (by omega)]
      exact z3
  · exact stay_co hK hG hC (hc.2.2 h)
theorem co_talk (hK : RSok R) (hG : GS s n hd cls e) (hC : CR (K0 ++ T) I R s n hd cls l im) (x : Int32) : CO X T I R kX11_talk [.int x] s n im := by
  have hF := FX1 (T := T) hK
  have hn6 := hG.2.1.1
  have hc := c_talk (X := X) hF hG hC.1 x
  by_cases h : x = -1 ∨ isM n x
  · rcases (by have := hG.2.2.1; omega : e = 9999 ∨ e < 9999) with he | he
    · exact stay_co hK hG hC (hc.1 h he)
    · obtain ⟨tk, hx⟩ : ∃ tk, tkV tk n x := by
        rcases h with h | h
        · exact ⟨none, by rw [h]; show (-1 : Int32) < 0; decide⟩
        · obtain ⟨p, hp, ex⟩ := (isM_iff hn6).mp h
          exact ⟨some p, hp, ex⟩
      obtain ⟨I', c1, c2, c3⟩ := hc.2.1 tk h he hx
      have hG2 := GS_go (du := rT s hd 222 20) hG he hx rfl
      exact upd_co (s' := rGo s n cls (rT s hd 222 20) (rT s hd 227 1) tk) hK hC c1 c3 (fun j j1 j2 => rGo_al (s := s) hn6 cls (rT s hd 222 20) (rT s hd 227 1) hx j (by omega)) hG2 c2
  · have h1 : x ≠ -1 := fun g => h (Or.inl g)
    have h2 : ¬ isM n x := fun g => h (Or.inr g)
    exact stay_co hK hG hC (hc.2.2 h1 h2)
theorem co_pass (hK : RSok R) (hG : GS s n hd cls e) (hC : CR (K0 ++ T) I R s n hd cls l im) (x : Int32) : CO X T I R kX11_pass [.int x] s n im := by
  have hF := FX1 (T := T) hK
  have hn6 := hG.2.1.1
  have hc := c_pass (X := X) hF hG hC.1 x
  by_cases h : 0 ≤ x ∧ x ≤ 60
  · obtain ⟨k, hk, ex⟩ := nI_of2 (M := 60) (n := 60) (by decide) (Int32.not_lt.mpr h.1) h.2
    rcases Nat.lt_or_ge 9999 (e + k) with g | g
    · exact stay_co hK hG hC (hc.2.1 k hk ex g)
    · obtain ⟨I', c1, c2, c3⟩ := hc.2.2 k hk ex g
      exact upd_co (s' := rPs s n cls (rT s hd 222 20) (rT s hd 227 1) k) hK hC c1 c3 (fun j j1 j2 => rPs_al (s := s) hn6 cls (rT s hd 222 20) (rT s hd 227 1) k j (by omega)) (GS_ps hG rfl k g) c2
  · exact stay_co hK hG hC (hc.1 h)
end CO
