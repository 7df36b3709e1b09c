/-! MORE CELLS: what is said of a heap holds of a longer one -/
def KM (K K' : List (Nat × Nat)) : Prop := ∀ (c : Nat) (y : Nat × Nat), K[c]? = some y → K'[c]? = some y
theorem KM.app (K L : List (Nat × Nat)) : KM K (K ++ L) := fun c y h => by
  rw [List.getElem?_append_left ((List.getElem?_eq_some_iff.mp h).1)]
  exact h
section MONO
variable {K K' : List (Nat × Nat)} {I : Nat → Nat → Int32} {R : Nat → Nat → Option Nat} {s : Nat → Int32} {n v h q : Nat} {hd : Option Nat} {cls : Cls} {du fd : Int32}
theorem VK.km (hV : VK K R v) (hk : KM K K') : VK K' R v := by
  obtain ⟨k0, k1, k2, k3, k4, k5, k6, k7, k8, r⟩ := hV
  exact ⟨hk _ _ k0, hk _ _ k1, hk _ _ k2, hk _ _ k3, hk _ _ k4, hk _ _ k5, hk _ _ k6, hk _ _ k7, hk _ _ k8, r⟩
theorem stC.km (hs : stC K I R q fd cls) (hk : KM K K') : stC K' I R q fd cls := by
  obtain ⟨k0, k1, k2, k3, r⟩ := hs
  exact ⟨hk _ _ k0, hk _ _ k1, hk _ _ k2, hk _ _ k3, r⟩
theorem VH.km (hV : VH K I R v h s n hd cls) (hk : KM K K') : VH K' I R v h s n hd cls := by
  obtain ⟨⟨h1, h2, h3, h4, ⟨q, h5, h6⟩, h7⟩, b2, b3, b4, b5⟩ := hV
  refine ⟨⟨h1.km hk, h2, fun p hp => ?_, h4, ⟨q, h5, h6.km hk⟩, h7⟩, b2, b3, fun p hp => ?_, b5⟩
  · obtain ⟨m, kk, a1, a2, a3, a4, a5⟩ := h3 p hp
    exact ⟨m, kk, a1, a2, a3, hk _ _ a4, a5⟩
  · obtain ⟨m, kk, a1, a2, a3, a4, a5, a6, a7, a8⟩ := b4 p hp
    exact ⟨m, kk, a1, a2, a3, hk _ _ a4, a5, a6, a7, hk _ _ a8⟩
theorem CKn.km {sp : Nat} (hC : CKn K R sp) (hk : KM K K') : CKn K' R sp := by
  obtain ⟨k0, k1, k2, k3, r⟩ := hC
  exact ⟨hk _ _ k0, hk _ _ k1, hk _ _ k2, hk _ _ k3, r⟩
end MONO
