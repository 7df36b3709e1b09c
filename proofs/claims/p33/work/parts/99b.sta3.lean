/-! A CALL OF THE LAW: station, both sides -/
section STATION2
variable {X : Nat × (Nat → Int32)} {d : Nat} {K K' : List (Nat × Nat)} {T : List (Nat × Nat)} {I I' : Nat → Nat → Int32} {R R' : Nat → Nat → Option Nat} {s s' : Nat → Int32} {n e sn act z v h : Nat} {hd hd' : Option Nat} {cls cls' : Cls} {l : List Int32} {im : Option Img}
/-- a Veranda and a Hand, when the row's stations change -/
theorem VH.sta (hV : VH K I R v h s n hd cls) (hk : KM K K') (hs : ∀ j, j < 27 ∨ (33 ≤ j ∧ j < 75) → s' j = s j) (hA : ∃ q, R' v 14 = some q ∧ stC K' I' R' q (rT s' hd' 227 1) cls') (h13 : I' v 13 = rT s' hd' 222 20) (h15 : I' v 15 = s' 27) (hIv : ∀ j, 8 ≤ j → j ≤ 12 → I' v j = I v j) (hI : ∀ c, v + 2 ≤ c → c ≤ v + 7 → I' c = I c) (hm : ∀ c t, K[c]? = some (t, 4) → t < 13 → I' c = I c ∧ R' c 3 = R c 3) (hR : ∀ j, j < 8 → R' v j = R v j) (hR1 : ∀ j, R' (v + 1) j = R (v + 1) j) (hn : n ≤ 6) (hM : HM I' h s') : VH K' I' R' v h s' n hd' cls' := by
  obtain ⟨⟨h1, ⟨v8, v9, v10, v11, v12, vk, vv, va, vt, vh, vr⟩, h3, h4, -, -⟩, -, b3, b4, -⟩ := hV
  refine ⟨⟨?_, ⟨(hIv 8 (by omega) (by omega)).trans v8, ?_, ?_, ?_, ?_, fun p hp => ?_, fun p hp => ?_, fun p hp => ?_, fun p hp => ?_, fun p hp => ?_, fun p k hp hk => ?_⟩, fun p hp => ?_, fun i i1 i2 => (hR1 i).trans (h4 i i1 i2), hA, h13⟩, h15, fun p p1 p2 => ?_, fun p hp => ?_, hM⟩
  · exact (h1.r hR).km hk
  · rw [hIv 9 (by omega) (by omega), v9]
    congr 1
    exact mk_ext (fun q hq => by unfold sett; rw [hs (14 + q) (by omega)])
  · rw [hIv 10 (by omega) (by omega), v10]
    congr 1
    exact mk_ext (fun q hq => by unfold shel; rw [hs (20 + q) (by omega)])
  · rw [hIv 11 (by omega) (by omega), hs 1 (by omega)]; exact v11
  · rw [hIv 12 (by omega) (by omega), hs 0 (by omega)]; exact v12
  · rw [hI (v + 2) (by omega) (by omega), hs (33 + p) (by omega)]; exact vk p hp
  · rw [hI (v + 3) (by omega) (by omega), hs (39 + p) (by omega)]; exact vv p hp
  · rw [hI (v + 4) (by omega) (by omega), hs (2 + p) (by omega)]; exact va p hp
  · rw [hI (v + 5) (by omega) (by omega), hs (8 + p) (by omega)]; exact vt p hp
  · rw [hI (v + 6) (by omega) (by omega), hs (69 + p) (by omega)]; exact vh p hp
  · rw [hI (v + 7) (by omega) (by omega), hs (45 + 4 * p + k) (by omega)]; exact vr p k hp hk
  · obtain ⟨m, kk, a1, a2, a3, a4, a5⟩ := h3 p hp
    have em := hm m _ a4 (kt_lt kk)
    exact ⟨m, kk, (hR1 p).trans a1, a2, (hs (33 + p) (by omega)).trans a3, hk _ _ a4, by rw [em.1]; exact a5⟩
  · rw [hI (v + 4) (by omega) (by omega), hI (v + 5) (by omega) (by omega), hI (v + 6) (by omega) (by omega), hI (v + 7) (by omega) (by omega)]
    exact b3 p p1 p2
  · obtain ⟨m, kk, a1, a2, a3, a4, a5, a6, a7, a8⟩ := b4 p hp
    have em := hm m _ a4 (kt_lt kk)
    exact ⟨m, kk, (hR1 p).trans a1, (hs (33 + p) (by omega)).trans a2, a3, hk _ _ a4, by rw [em.1]; exact a5, by rw [em.1, hs (39 + p) (by omega)]; exact a6, em.2.trans a7, hk _ _ a8⟩
/-- the row behind a station -/
theorem GS.sta (hG : GS s n hd cls e) (ha : act < 5) (hF : FS act s s') (h31 : s' 31 = 0) (hst : stOK s' hd' cls') (hcl : cls'.length ≤ 10) (hns : ∃ ns, ns ≤ 5 ∧ s' 27 = nI ns ∧ ∀ h, hd' = some h → h < ns) (hfd : ∃ f, f ≤ 99 ∧ rT s' hd' 227 1 = nI f) (hck : clOK cls') : GS s' n hd' cls' e := by
  obtain ⟨⟨a1, a2, a3, a4, a5, a6⟩, ⟨b1, ⟨b2, b3, b4⟩, b5, b6, b7, b8⟩, c1, c2, c3, ⟨bn, h1⟩, ⟨bp, h2⟩, h3, h4, c4, c5, c6, hby⟩ := hG
  have hl : ∀ j, j < 27 ∨ (28 ≤ j ∧ j < 31) ∨ (33 ≤ j ∧ j < 222) ∨ 937 ≤ j → s' j = s j := fun j hj => hF j (by omega) (by omega) (by omega) (by omega) (by omega) (by omega) (by omega)
  refine ⟨⟨(hl 26 (by omega)).trans a1, a2, fun p hp => ?_, (hl 0 (by omega)).trans a4, a5, hst⟩, ⟨b1, ⟨fun q hq => ?_, fun q hq => ?_, fun q hq => ?_⟩, fun q hq => ?_, (hl 0 (by omega)).trans b6, hck, hcl⟩, c1, ?_, fun q hq => ?_, ⟨bn, h1.al (fun j hj => hl j (by omega))⟩, ⟨bp, h2.al2 (fun j hj => hl j (by omega))⟩, SL8.al h3 (fun j hj => hl j (by omega)), ⟨0, by omega, h31, fun j hj => by omega⟩, hns, hfd, fun j hj => (hl j (by omega)).trans (c6 j hj), hby.al (fun j hj => hl j (by omega))⟩
  · rw [hl (33 + p) (by omega)]; exact a3 p hp
  · rw [hl (14 + q) (by omega)]; exact b2 q hq
  · rw [hl (20 + q) (by omega)]; exact b3 q hq
  · rw [hl (69 + q) (by omega)]; exact b4 q hq
  · rw [hl (8 + q) (by omega), hl (39 + q) (by omega)]
    refine ⟨(b5 q hq).1, (b5 q hq).2.1, fun k hk => ?_⟩
    rw [hl (45 + 4 * q + k) (by omega)]
    exact (b5 q hq).2.2 k hk
  · rw [hl 1 (by omega)]; exact c2
  · rw [hl (2 + q) (by omega)]; exact c3 q hq
theorem HM.sta (hM : HM I 15 s) (ha : act < 5) (hF : FS act s s') (h31 : s' 31 = 0) (hI : ∀ c, 16 ≤ c → c ≤ 22 → I' c = I c) (h15 : ∀ j, j ≠ 1 → I' 15 j = I 15 j) (h151 : I' 15 1 = 0) : HM I' 15 s' := by
  have hl : ∀ j, (28 ≤ j ∧ j < 31) ∨ (33 ≤ j ∧ j < 222) → s' j = s j := fun j hj => hF j (by omega) (by omega) (by omega) (by omega) (by omega) (by omega) (by omega)
  obtain ⟨m1, m2, m3, m4, m5, m6, m7, m8⟩ := hM
  refine ⟨h151.trans h31.symm, ?_, ?_, ?_, fun j hj => ?_, fun k hk => ?_, fun k hk => ?_, ?_⟩
  · rw [h15 5 (by omega), hl 28 (by omega)]; exact m2
  · rw [h15 8 (by omega), hl 29 (by omega)]; exact m3
  · rw [h15 11 (by omega), hl 30 (by omega)]; exact m4
  · rw [hI (15 + 1) (by omega) (by omega), hl (122 + j) (by omega)]; exact m5 j hj
  · rw [hI (15 + 2) (by omega) (by omega), hI (15 + 3) (by omega) (by omega), hl (75 + k) (by omega), hl (80 + k) (by omega)]; exact m6 k hk
  · rw [hI (15 + 4) (by omega) (by omega), hI (15 + 5) (by omega) (by omega), hI (15 + 6) (by omega) (by omega), hI (15 + 7) (by omega) (by omega), hl (90 + k) (by omega), hl (98 + k) (by omega), hl (106 + k) (by omega), hl (114 + k) (by omega)]; exact m7 k hk
  · rw [h15 4 (by omega)]; exact m8.trans (seeB_al (fun j hj => hl j (by omega)))
theorem FS.st (hF : FS act s s') (ha : act < 5) (h32 : s' 32 = s 32) (hh : ∀ h, hd = some h → h < act) (hs : stOK s hd cls) : stOK s' hd cls := by
  cases hd with
  | none => exact ⟨h32.trans hs.1, hs.2⟩
  | some k =>
    obtain ⟨g1, g2, g3, g4, g5, g6⟩ := hs
    have hk := hh k rfl
    refine ⟨h32.trans g1, g2, (hF (232 + k) (by omega) (by omega) (by omega) (by omega) (by omega) (by omega) (by omega)).trans g3, g4, fun j x hj => ?_, g6⟩
    have hj2 : j < (clsR cls).length := (List.getElem?_eq_some_iff.mp hj).1
    rw [hF (237 + 140 * k + j) (by omega) (by omega) (by omega) (by omega) (by omega) (by omega) (by omega)]
    exact g5 j x hj
theorem FS.rt (hF : FS act s s') (ha : act < 5) (hh : ∀ h, hd = some h → h < act) (h5 : ∀ h, hd = some h → h < 5) {w : Nat} (hw : w = 222 ∨ w = 227) (no : Int32) : rT s' hd w no = rT s hd w no := by
  cases hd with
  | none => rfl
  | some k =>
    have hk := hh k rfl
    have h5 := h5 k rfl
    exact hF (w + k) (by omega) (by omega) (by omega) (by omega) (by omega) (by omega) (by omega)
end STATION2
