/-! ONE STEP of the machine of the tables is a row of the machine -/
def ksum (K : List (Nat × Nat)) : Nat := (K.map (fun q => q.2)).sum
theorem cls_all : ∀ t, t < 13 → (vwAt t).2.2 = nF t ∧ vwCl[t]? = some (vwAt t) ∧ (vwAt t).1 = cn t := by
  intro t ht
  have h : t = 0 ∨ t = 1 ∨ t = 2 ∨ t = 3 ∨ t = 4 ∨ t = 5 ∨ t = 6 ∨ t = 7 ∨ t = 8 ∨ t = 9 ∨ t = 10 ∨ t = 11 ∨ t = 12 := by omega
  rcases h with rfl | rfl | rfl | rfl | rfl | rfl | rfl | rfl | rfl | rfl | rfl | rfl | rfl <;> exact ⟨rfl, rfl, rfl⟩
theorem cls_ty : ∀ t, t < 13 → ∀ k, k < (vwAt t).2.2 → parseFieldDescriptor ((vwAt t).2.1 k).2.2.1 = some (tyT t k) := by
  intro t ht
  have h : t = 0 ∨ t = 1 ∨ t = 2 ∨ t = 3 ∨ t = 4 ∨ t = 5 ∨ t = 6 ∨ t = 7 ∨ t = 8 ∨ t = 9 ∨ t = 10 ∨ t = 11 ∨ t = 12 := by omega
  rcases h with rfl | rfl | rfl | rfl | rfl | rfl | rfl | rfl | rfl | rfl | rfl | rfl | rfl
  · exact tyX0_ok
  · exact tyX1_ok
  · exact tyX2_ok
  · exact tyX3_ok
  · exact tyX4_ok
  · exact tyX5_ok
  · exact tyX6_ok
  · exact tyX7_ok
  · exact tyX8_ok
  · exact tyX9_ok
  · exact tyX10_ok
  · exact tyX11_ok
  · exact tyX11_ok
theorem cls_nm : ∀ t, t < 13 → ∀ a, a < (vwAt t).2.2 → ∀ b, b < (vwAt t).2.2 → a ≠ b → ((vwAt t).2.1 a).2.1 ≠ ((vwAt t).2.1 b).2.1 := by
  intro t ht
  have h : t = 0 ∨ t = 1 ∨ t = 2 ∨ t = 3 ∨ t = 4 ∨ t = 5 ∨ t = 6 ∨ t = 7 ∨ t = 8 ∨ t = 9 ∨ t = 10 ∨ t = 11 ∨ t = 12 := by omega
  rcases h with rfl | rfl | rfl | rfl | rfl | rfl | rfl | rfl | rfl | rfl | rfl | rfl | rfl
  · exact nmX0
  · exact nmX1
  · exact nmX2
  · exact nmX3
  · exact nmX4
  · exact nmX5
  · exact nmX6
  · exact nmX7
  · exact nmX8
  · exact nmX9
  · exact nmX10
  · exact nmX11
  · exact nmX11
def TB : List Cond := lw_tbl.filter goodWord
set_option maxRecDepth 100000 in
theorem cls_ws : ∀ t, t < 13 → ∀ w ∈ u_ws (vwAt t).1 (vwAt t).2.1 (vwAt t).2.2, w ∈ TB := by
  intro t ht
  have h : t = 0 ∨ t = 1 ∨ t = 2 ∨ t = 3 ∨ t = 4 ∨ t = 5 ∨ t = 6 ∨ t = 7 ∨ t = 8 ∨ t = 9 ∨ t = 10 ∨ t = 11 ∨ t = 12 := by omega
  rcases h with rfl | rfl | rfl | rfl | rfl | rfl | rfl | rfl | rfl | rfl | rfl | rfl | rfl
  · exact (by decide +kernel : ∀ w ∈ u_ws RX0 TX0 9, w ∈ TB)
  · exact (by decide +kernel : ∀ w ∈ u_ws RX1 TX1 4, w ∈ TB)
  · exact (by decide +kernel : ∀ w ∈ u_ws RX2 TX2 4, w ∈ TB)
  · exact (by decide +kernel : ∀ w ∈ u_ws RX3 TX3 12, w ∈ TB)
  · exact (by decide +kernel : ∀ w ∈ u_ws RX4 TX4 4, w ∈ TB)
  · exact (by decide +kernel : ∀ w ∈ u_ws RX5 TX5 4, w ∈ TB)
  · exact (by decide +kernel : ∀ w ∈ u_ws RX6 TX6 4, w ∈ TB)
  · exact (by decide +kernel : ∀ w ∈ u_ws RX7 TX7 4, w ∈ TB)
  · exact (by decide +kernel : ∀ w ∈ u_ws RX8 TX8 10, w ∈ TB)
  · exact (by decide +kernel : ∀ w ∈ u_ws RX9 TX9 4, w ∈ TB)
  · exact (by decide +kernel : ∀ w ∈ u_ws RX10 TX10 16, w ∈ TB)
  · exact (by decide +kernel : ∀ w ∈ u_ws RX11 TX11 8, w ∈ TB)
  · exact (by decide +kernel : ∀ w ∈ u_ws RX11 TX11 8, w ∈ TB)
theorem TB_in {w : Cond} (h : w ∈ lw_tbl) (hg : goodWord w = true) : w ∈ TB := List.mem_filter.mpr ⟨h, hg⟩
