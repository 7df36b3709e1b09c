/-! ALL METHODS are checked -/
theorem okA_0 : okA 0 := by
  intro pc e h hl
  have h : pc < 892 := h
  rcases (by omega : (0 ≤ pc ∧ pc < 48) ∨ (48 ≤ pc ∧ pc < 102) ∨ (102 ≤ pc ∧ pc < 159) ∨ (159 ≤ pc ∧ pc < 217) ∨ (217 ≤ pc ∧ pc < 265) ∨ (265 ≤ pc ∧ pc < 309) ∨ (309 ≤ pc ∧ pc < 366) ∨ (366 ≤ pc ∧ pc < 426) ∨ (426 ≤ pc ∧ pc < 481) ∨ (481 ≤ pc ∧ pc < 540) ∨ (540 ≤ pc ∧ pc < 602) ∨ (602 ≤ pc ∧ pc < 664) ∨ (664 ≤ pc ∧ pc < 725) ∨ (725 ≤ pc ∧ pc < 780) ∨ (780 ≤ pc ∧ pc < 824) ∨ (824 ≤ pc ∧ pc < 892)) with ⟨h1, h2⟩ | ⟨h1, h2⟩ | ⟨h1, h2⟩ | ⟨h1, h2⟩ | ⟨h1, h2⟩ | ⟨h1, h2⟩ | ⟨h1, h2⟩ | ⟨h1, h2⟩ | ⟨h1, h2⟩ | ⟨h1, h2⟩ | ⟨h1, h2⟩ | ⟨h1, h2⟩ | ⟨h1, h2⟩ | ⟨h1, h2⟩ | ⟨h1, h2⟩ | ⟨h1, h2⟩
  · exact okMr_at okM_0_0 h1 h2 hl
  · exact okMr_at okM_0_1 h1 h2 hl
  · exact okMr_at okM_0_2 h1 h2 hl
  · exact okMr_at okM_0_3 h1 h2 hl
  · exact okMr_at okM_0_4 h1 h2 hl
  · exact okMr_at okM_0_5 h1 h2 hl
  · exact okMr_at okM_0_6 h1 h2 hl
  · exact okMr_at okM_0_7 h1 h2 hl
  · exact okMr_at okM_0_8 h1 h2 hl
  · exact okMr_at okM_0_9 h1 h2 hl
  · exact okMr_at okM_0_10 h1 h2 hl
  · exact okMr_at okM_0_11 h1 h2 hl
  · exact okMr_at okM_0_12 h1 h2 hl
  · exact okMr_at okM_0_13 h1 h2 hl
  · exact okMr_at okM_0_14 h1 h2 hl
  · exact okMr_at okM_0_15 h1 h2 hl
theorem okA_1 : okA 1 := by
  intro pc e h hl
  have h : pc < 14 := h
  exact okMr_at okM_1_0 (Nat.zero_le _) (by omega) hl
theorem okA_2 : okA 2 := by
  intro pc e h hl
  have h : pc < 16 := h
  exact okMr_at okM_2_0 (Nat.zero_le _) (by omega) hl
theorem okA_3 : okA 3 := by
  intro pc e h hl
  have h : pc < 28 := h
  exact okMr_at okM_3_0 (Nat.zero_le _) (by omega) hl
theorem okA_4 : okA 4 := by
  intro pc e h hl
  have h : pc < 37 := h
  exact okMr_at okM_4_0 (Nat.zero_le _) (by omega) hl
theorem okA_5 : okA 5 := by
  intro pc e h hl
  have h : pc < 10 := h
  exact okMr_at okM_5_0 (Nat.zero_le _) (by omega) hl
theorem okA_6 : okA 6 := by
  intro pc e h hl
  have h : pc < 15 := h
  exact okMr_at okM_6_0 (Nat.zero_le _) (by omega) hl
theorem okA_7 : okA 7 := by
  intro pc e h hl
  have h : pc < 15 := h
  exact okMr_at okM_7_0 (Nat.zero_le _) (by omega) hl
theorem okA_8 : okA 8 := by
  intro pc e h hl
  have h : pc < 15 := h
  exact okMr_at okM_8_0 (Nat.zero_le _) (by omega) hl
theorem okA_9 : okA 9 := by
  intro pc e h hl
  have h : pc < 18 := h
  exact okMr_at okM_9_0 (Nat.zero_le _) (by omega) hl
theorem okA_10 : okA 10 := by
  intro pc e h hl
  have h : pc < 17 := h
  exact okMr_at okM_10_0 (Nat.zero_le _) (by omega) hl
theorem okA_11 : okA 11 := by
  intro pc e h hl
  have h : pc < 295 := h
  rcases (by omega : (0 ≤ pc ∧ pc < 59) ∨ (59 ≤ pc ∧ pc < 119) ∨ (119 ≤ pc ∧ pc < 170) ∨ (170 ≤ pc ∧ pc < 235) ∨ (235 ≤ pc ∧ pc < 295)) with ⟨h1, h2⟩ | ⟨h1, h2⟩ | ⟨h1, h2⟩ | ⟨h1, h2⟩ | ⟨h1, h2⟩
  · exact okMr_at okM_11_0 h1 h2 hl
  · exact okMr_at okM_11_1 h1 h2 hl
  · exact okMr_at okM_11_2 h1 h2 hl
  · exact okMr_at okM_11_3 h1 h2 hl
  · exact okMr_at okM_11_4 h1 h2 hl
theorem okA_12 : okA 12 := by
  intro pc e h hl
  have h : pc < 21 := h
  exact okMr_at okM_12_0 (Nat.zero_le _) (by omega) hl
theorem okA_13 : okA 13 := by
  intro pc e h hl
  have h : pc < 35 := h
  exact okMr_at okM_13_0 (Nat.zero_le _) (by omega) hl
theorem okA_14 : okA 14 := by
  intro pc e h hl
  have h : pc < 50 := h
  exact okMr_at okM_14_0 (Nat.zero_le _) (by omega) hl
theorem okA_15 : okA 15 := by
  intro pc e h hl
  have h : pc < 248 := h
  rcases (by omega : (0 ≤ pc ∧ pc < 66) ∨ (66 ≤ pc ∧ pc < 118) ∨ (118 ≤ pc ∧ pc < 167) ∨ (167 ≤ pc ∧ pc < 218) ∨ (218 ≤ pc ∧ pc < 248)) with ⟨h1, h2⟩ | ⟨h1, h2⟩ | ⟨h1, h2⟩ | ⟨h1, h2⟩ | ⟨h1, h2⟩
  · exact okMr_at okM_15_0 h1 h2 hl
  · exact okMr_at okM_15_1 h1 h2 hl
  · exact okMr_at okM_15_2 h1 h2 hl
  · exact okMr_at okM_15_3 h1 h2 hl
  · exact okMr_at okM_15_4 h1 h2 hl
theorem okA_16 : okA 16 := by
  intro pc e h hl
  have h : pc < 152 := h
  rcases (by omega : (0 ≤ pc ∧ pc < 50) ∨ (50 ≤ pc ∧ pc < 106) ∨ (106 ≤ pc ∧ pc < 152)) with ⟨h1, h2⟩ | ⟨h1, h2⟩ | ⟨h1, h2⟩
  · exact okMr_at okM_16_0 h1 h2 hl
  · exact okMr_at okM_16_1 h1 h2 hl
  · exact okMr_at okM_16_2 h1 h2 hl
theorem okA_17 : okA 17 := by
  intro pc e h hl
  have h : pc < 97 := h
  rcases (by omega : (0 ≤ pc ∧ pc < 55) ∨ (55 ≤ pc ∧ pc < 97)) with ⟨h1, h2⟩ | ⟨h1, h2⟩
  · exact okMr_at okM_17_0 h1 h2 hl
  · exact okMr_at okM_17_1 h1 h2 hl
theorem okA_18 : okA 18 := by
  intro pc e h hl
  have h : pc < 40 := h
  exact okMr_at okM_18_0 (Nat.zero_le _) (by omega) hl
theorem okA_19 : okA 19 := by
  intro pc e h hl
  have h : pc < 63 := h
  exact okMr_at okM_19_0 (Nat.zero_le _) (by omega) hl
theorem okA_20 : okA 20 := by
  intro pc e h hl
  have h : pc < 110 := h
  rcases (by omega : (0 ≤ pc ∧ pc < 55) ∨ (55 ≤ pc ∧ pc < 110)) with ⟨h1, h2⟩ | ⟨h1, h2⟩
  · exact okMr_at okM_20_0 h1 h2 hl
  · exact okMr_at okM_20_1 h1 h2 hl
theorem okA_21 : okA 21 := by
  intro pc e h hl
  have h : pc < 11 := h
  exact okMr_at okM_21_0 (Nat.zero_le _) (by omega) hl
theorem okA_22 : okA 22 := by
  intro pc e h hl
  have h : pc < 63 := h
  rcases (by omega : (0 ≤ pc ∧ pc < 47) ∨ (47 ≤ pc ∧ pc < 63)) with ⟨h1, h2⟩ | ⟨h1, h2⟩
  · exact okMr_at okM_22_0 h1 h2 hl
  · exact okMr_at okM_22_1 h1 h2 hl
theorem okA_23 : okA 23 := by
  intro pc e h hl
  have h : pc < 70 := h
  rcases (by omega : (0 ≤ pc ∧ pc < 47) ∨ (47 ≤ pc ∧ pc < 70)) with ⟨h1, h2⟩ | ⟨h1, h2⟩
  · exact okMr_at okM_23_0 h1 h2 hl
  · exact okMr_at okM_23_1 h1 h2 hl
theorem okA_24 : okA 24 := by
  intro pc e h hl
  have h : pc < 63 := h
  exact okMr_at okM_24_0 (Nat.zero_le _) (by omega) hl
theorem okA_25 : okA 25 := by
  intro pc e h hl
  have h : pc < 117 := h
  rcases (by omega : (0 ≤ pc ∧ pc < 46) ∨ (46 ≤ pc ∧ pc < 91) ∨ (91 ≤ pc ∧ pc < 117)) with ⟨h1, h2⟩ | ⟨h1, h2⟩ | ⟨h1, h2⟩
  · exact okMr_at okM_25_0 h1 h2 hl
  · exact okMr_at okM_25_1 h1 h2 hl
  · exact okMr_at okM_25_2 h1 h2 hl
theorem okA_26 : okA 26 := by
  intro pc e h hl
  have h : pc < 65 := h
  exact okMr_at okM_26_0 (Nat.zero_le _) (by omega) hl
theorem okA_27 : okA 27 := by
  intro pc e h hl
  have h : pc < 70 := h
  exact okMr_at okM_27_0 (Nat.zero_le _) (by omega) hl
theorem okA_28 : okA 28 := by
  intro pc e h hl
  have h : pc < 58 := h
  exact okMr_at okM_28_0 (Nat.zero_le _) (by omega) hl
theorem okA_29 : okA 29 := by
  intro pc e h hl
  have h : pc < 137 := h
  rcases (by omega : (0 ≤ pc ∧ pc < 83) ∨ (83 ≤ pc ∧ pc < 137)) with ⟨h1, h2⟩ | ⟨h1, h2⟩
  · exact okMr_at okM_29_0 h1 h2 hl
  · exact okMr_at okM_29_1 h1 h2 hl
theorem okA_30 : okA 30 := by
  intro pc e h hl
  have h : pc < 10 := h
  exact okMr_at okM_30_0 (Nat.zero_le _) (by omega) hl
theorem okA_31 : okA 31 := by
  intro pc e h hl
  have h : pc < 12 := h
  exact okMr_at okM_31_0 (Nat.zero_le _) (by omega) hl
theorem okA_32 : okA 32 := by
  intro pc e h hl
  have h : pc < 13 := h
  exact okMr_at okM_32_0 (Nat.zero_le _) (by omega) hl
theorem okA_33 : okA 33 := by
  intro pc e h hl
  have h : pc < 10 := h
  exact okMr_at okM_33_0 (Nat.zero_le _) (by omega) hl
theorem okA_34 : okA 34 := by
  intro pc e h hl
  have h : pc < 27 := h
  exact okMr_at okM_34_0 (Nat.zero_le _) (by omega) hl
theorem okA_35 : okA 35 := by
  intro pc e h hl
  have h : pc < 17 := h
  exact okMr_at okM_35_0 (Nat.zero_le _) (by omega) hl
theorem okA_36 : okA 36 := by
  intro pc e h hl
  have h : pc < 84 := h
  rcases (by omega : (0 ≤ pc ∧ pc < 54) ∨ (54 ≤ pc ∧ pc < 84)) with ⟨h1, h2⟩ | ⟨h1, h2⟩
  · exact okMr_at okM_36_0 h1 h2 hl
  · exact okMr_at okM_36_1 h1 h2 hl
theorem okA_37 : okA 37 := by
  intro pc e h hl
  have h : pc < 144 := h
  rcases (by omega : (0 ≤ pc ∧ pc < 53) ∨ (53 ≤ pc ∧ pc < 111) ∨ (111 ≤ pc ∧ pc < 144)) with ⟨h1, h2⟩ | ⟨h1, h2⟩ | ⟨h1, h2⟩
  · exact okMr_at okM_37_0 h1 h2 hl
  · exact okMr_at okM_37_1 h1 h2 hl
  · exact okMr_at okM_37_2 h1 h2 hl
theorem okA_38 : okA 38 := by
  intro pc e h hl
  have h : pc < 31 := h
  exact okMr_at okM_38_0 (Nat.zero_le _) (by omega) hl
theorem okA_39 : okA 39 := by
  intro pc e h hl
  have h : pc < 64 := h
  rcases (by omega : (0 ≤ pc ∧ pc < 49) ∨ (49 ≤ pc ∧ pc < 64)) with ⟨h1, h2⟩ | ⟨h1, h2⟩
  · exact okMr_at okM_39_0 h1 h2 hl
  · exact okMr_at okM_39_1 h1 h2 hl
theorem okA_40 : okA 40 := by
  intro pc e h hl
  have h : pc < 10 := h
  exact okMr_at okM_40_0 (Nat.zero_le _) (by omega) hl
theorem okA_41 : okA 41 := by
  intro pc e h hl
  have h : pc < 19 := h
  exact okMr_at okM_41_0 (Nat.zero_le _) (by omega) hl
theorem okA_42 : okA 42 := by
  intro pc e h hl
  have h : pc < 15 := h
  exact okMr_at okM_42_0 (Nat.zero_le _) (by omega) hl
theorem okA_43 : okA 43 := by
  intro pc e h hl
  have h : pc < 10 := h
  exact okMr_at okM_43_0 (Nat.zero_le _) (by omega) hl
theorem okA_44 : okA 44 := by
  intro pc e h hl
  have h : pc < 22 := h
  exact okMr_at okM_44_0 (Nat.zero_le _) (by omega) hl
theorem okA_45 : okA 45 := by
  intro pc e h hl
  have h : pc < 14 := h
  exact okMr_at okM_45_0 (Nat.zero_le _) (by omega) hl
theorem okA_46 : okA 46 := by
  intro pc e h hl
  have h : pc < 26 := h
  exact okMr_at okM_46_0 (Nat.zero_le _) (by omega) hl
theorem okA_47 : okA 47 := by
  intro pc e h hl
  have h : pc < 2 := h
  exact okMr_at okM_47_0 (Nat.zero_le _) (by omega) hl
theorem okA_48 : okA 48 := by
  intro pc e h hl
  have h : pc < 12 := h
  exact okMr_at okM_48_0 (Nat.zero_le _) (by omega) hl
theorem okA_49 : okA 49 := by
  intro pc e h hl
  have h : pc < 16 := h
  exact okMr_at okM_49_0 (Nat.zero_le _) (by omega) hl
theorem okA_50 : okA 50 := by
  intro pc e h hl
  have h : pc < 13 := h
  exact okMr_at okM_50_0 (Nat.zero_le _) (by omega) hl
theorem okA_51 : okA 51 := by
  intro pc e h hl
  have h : pc < 37 := h
  exact okMr_at okM_51_0 (Nat.zero_le _) (by omega) hl
theorem okA_52 : okA 52 := by
  intro pc e h hl
  have h : pc < 10 := h
  exact okMr_at okM_52_0 (Nat.zero_le _) (by omega) hl
theorem okA_53 : okA 53 := by
  intro pc e h hl
  have h : pc < 21 := h
  exact okMr_at okM_53_0 (Nat.zero_le _) (by omega) hl
theorem okA_54 : okA 54 := by
  intro pc e h hl
  have h : pc < 20 := h
  exact okMr_at okM_54_0 (Nat.zero_le _) (by omega) hl
theorem okA_55 : okA 55 := by
  intro pc e h hl
  have h : pc < 67 := h
  exact okMr_at okM_55_0 (Nat.zero_le _) (by omega) hl
theorem okA_56 : okA 56 := by
  intro pc e h hl
  have h : pc < 105 := h
  rcases (by omega : (0 ≤ pc ∧ pc < 50) ∨ (50 ≤ pc ∧ pc < 105)) with ⟨h1, h2⟩ | ⟨h1, h2⟩
  · exact okMr_at okM_56_0 h1 h2 hl
  · exact okMr_at okM_56_1 h1 h2 hl
theorem okA_57 : okA 57 := by
  intro pc e h hl
  have h : pc < 138 := h
  rcases (by omega : (0 ≤ pc ∧ pc < 52) ∨ (52 ≤ pc ∧ pc < 110) ∨ (110 ≤ pc ∧ pc < 138)) with ⟨h1, h2⟩ | ⟨h1, h2⟩ | ⟨h1, h2⟩
  · exact okMr_at okM_57_0 h1 h2 hl
  · exact okMr_at okM_57_1 h1 h2 hl
  · exact okMr_at okM_57_2 h1 h2 hl
theorem okA_58 : okA 58 := by
  intro pc e h hl
  have h : pc < 59 := h
  exact okMr_at okM_58_0 (Nat.zero_le _) (by omega) hl
theorem okA_59 : okA 59 := by
  intro pc e h hl
  have h : pc < 51 := h
  exact okMr_at okM_59_0 (Nat.zero_le _) (by omega) hl
theorem okA_60 : okA 60 := by
  intro pc e h hl
  have h : pc < 51 := h
  exact okMr_at okM_60_0 (Nat.zero_le _) (by omega) hl
theorem okA_61 : okA 61 := by
  intro pc e h hl
  have h : pc < 139 := h
  rcases (by omega : (0 ≤ pc ∧ pc < 57) ∨ (57 ≤ pc ∧ pc < 112) ∨ (112 ≤ pc ∧ pc < 139)) with ⟨h1, h2⟩ | ⟨h1, h2⟩ | ⟨h1, h2⟩
  · exact okMr_at okM_61_0 h1 h2 hl
  · exact okMr_at okM_61_1 h1 h2 hl
  · exact okMr_at okM_61_2 h1 h2 hl
theorem okA_62 : okA 62 := by
  intro pc e h hl
  have h : pc < 63 := h
  rcases (by omega : (0 ≤ pc ∧ pc < 52) ∨ (52 ≤ pc ∧ pc < 63)) with ⟨h1, h2⟩ | ⟨h1, h2⟩
  · exact okMr_at okM_62_0 h1 h2 hl
  · exact okMr_at okM_62_1 h1 h2 hl
theorem okA_63 : okA 63 := by
  intro pc e h hl
  have h : pc < 21 := h
  exact okMr_at okM_63_0 (Nat.zero_le _) (by omega) hl
theorem okA_64 : okA 64 := by
  intro pc e h hl
  have h : pc < 36 := h
  exact okMr_at okM_64_0 (Nat.zero_le _) (by omega) hl
theorem okA_65 : okA 65 := by
  intro pc e h hl
  have h : pc < 43 := h
  exact okMr_at okM_65_0 (Nat.zero_le _) (by omega) hl
theorem okA_66 : okA 66 := by
  intro pc e h hl
  have h : pc < 22 := h
  exact okMr_at okM_66_0 (Nat.zero_le _) (by omega) hl
theorem okA_67 : okA 67 := by
  intro pc e h hl
  have h : pc < 44 := h
  exact okMr_at okM_67_0 (Nat.zero_le _) (by omega) hl
theorem okA_68 : okA 68 := by
  intro pc e h hl
  have h : pc < 33 := h
  exact okMr_at okM_68_0 (Nat.zero_le _) (by omega) hl
theorem okA_69 : okA 69 := by
  intro pc e h hl
  have h : pc < 46 := h
  exact okMr_at okM_69_0 (Nat.zero_le _) (by omega) hl
theorem okA_70 : okA 70 := by
  intro pc e h hl
  have h : pc < 147 := h
  rcases (by omega : (0 ≤ pc ∧ pc < 49) ∨ (49 ≤ pc ∧ pc < 94) ∨ (94 ≤ pc ∧ pc < 147)) with ⟨h1, h2⟩ | ⟨h1, h2⟩ | ⟨h1, h2⟩
  · exact okMr_at okM_70_0 h1 h2 hl
  · exact okMr_at okM_70_1 h1 h2 hl
  · exact okMr_at okM_70_2 h1 h2 hl
theorem okA_71 : okA 71 := by
  intro pc e h hl
  have h : pc < 10 := h
  exact okMr_at okM_71_0 (Nat.zero_le _) (by omega) hl
theorem okA_72 : okA 72 := by
  intro pc e h hl
  have h : pc < 26 := h
  exact okMr_at okM_72_0 (Nat.zero_le _) (by omega) hl
theorem okA_73 : okA 73 := by
  intro pc e h hl
  have h : pc < 17 := h
  exact okMr_at okM_73_0 (Nat.zero_le _) (by omega) hl
theorem okA_74 : okA 74 := by
  intro pc e h hl
  have h : pc < 117 := h
  rcases (by omega : (0 ≤ pc ∧ pc < 61) ∨ (61 ≤ pc ∧ pc < 117)) with ⟨h1, h2⟩ | ⟨h1, h2⟩
  · exact okMr_at okM_74_0 h1 h2 hl
  · exact okMr_at okM_74_1 h1 h2 hl
theorem okA_75 : okA 75 := by
  intro pc e h hl
  have h : pc < 169 := h
  rcases (by omega : (0 ≤ pc ∧ pc < 45) ∨ (45 ≤ pc ∧ pc < 95) ∨ (95 ≤ pc ∧ pc < 153) ∨ (153 ≤ pc ∧ pc < 169)) with ⟨h1, h2⟩ | ⟨h1, h2⟩ | ⟨h1, h2⟩ | ⟨h1, h2⟩
  · exact okMr_at okM_75_0 h1 h2 hl
  · exact okMr_at okM_75_1 h1 h2 hl
  · exact okMr_at okM_75_2 h1 h2 hl
  · exact okMr_at okM_75_3 h1 h2 hl
theorem okA_76 : okA 76 := by
  intro pc e h hl
  have h : pc < 50 := h
  exact okMr_at okM_76_0 (Nat.zero_le _) (by omega) hl
theorem okA_77 : okA 77 := by
  intro pc e h hl
  have h : pc < 24 := h
  exact okMr_at okM_77_0 (Nat.zero_le _) (by omega) hl
theorem okA_78 : okA 78 := by
  intro pc e h hl
  have h : pc < 18 := h
  exact okMr_at okM_78_0 (Nat.zero_le _) (by omega) hl
theorem okA_79 : okA 79 := by
  intro pc e h hl
  have h : pc < 16 := h
  exact okMr_at okM_79_0 (Nat.zero_le _) (by omega) hl
theorem okA_80 : okA 80 := by
  intro pc e h hl
  have h : pc < 12 := h
  exact okMr_at okM_80_0 (Nat.zero_le _) (by omega) hl
theorem okA_81 : okA 81 := by
  intro pc e h hl
  have h : pc < 34 := h
  exact okMr_at okM_81_0 (Nat.zero_le _) (by omega) hl
theorem okA_82 : okA 82 := by
  intro pc e h hl
  have h : pc < 34 := h
  exact okMr_at okM_82_0 (Nat.zero_le _) (by omega) hl
theorem okA_83 : okA 83 := by
  intro pc e h hl
  have h : pc < 26 := h
  exact okMr_at okM_83_0 (Nat.zero_le _) (by omega) hl
theorem okA_84 : okA 84 := by
  intro pc e h hl
  have h : pc < 131 := h
  rcases (by omega : (0 ≤ pc ∧ pc < 45) ∨ (45 ≤ pc ∧ pc < 90) ∨ (90 ≤ pc ∧ pc < 131)) with ⟨h1, h2⟩ | ⟨h1, h2⟩ | ⟨h1, h2⟩
  · exact okMr_at okM_84_0 h1 h2 hl
  · exact okMr_at okM_84_1 h1 h2 hl
  · exact okMr_at okM_84_2 h1 h2 hl
theorem okA_85 : okA 85 := by
  intro pc e h hl
  have h : pc < 52 := h
  exact okMr_at okM_85_0 (Nat.zero_le _) (by omega) hl
theorem okA_86 : okA 86 := by
  intro pc e h hl
  have h : pc < 233 := h
  rcases (by omega : (0 ≤ pc ∧ pc < 55) ∨ (55 ≤ pc ∧ pc < 111) ∨ (111 ≤ pc ∧ pc < 165) ∨ (165 ≤ pc ∧ pc < 233)) with ⟨h1, h2⟩ | ⟨h1, h2⟩ | ⟨h1, h2⟩ | ⟨h1, h2⟩
  · exact okMr_at okM_86_0 h1 h2 hl
  · exact okMr_at okM_86_1 h1 h2 hl
  · exact okMr_at okM_86_2 h1 h2 hl
  · exact okMr_at okM_86_3 h1 h2 hl
theorem okA_87 : okA 87 := by
  intro pc e h hl
  have h : pc < 74 := h
  rcases (by omega : (0 ≤ pc ∧ pc < 49) ∨ (49 ≤ pc ∧ pc < 74)) with ⟨h1, h2⟩ | ⟨h1, h2⟩
  · exact okMr_at okM_87_0 h1 h2 hl
  · exact okMr_at okM_87_1 h1 h2 hl
theorem okA_88 : okA 88 := by
  intro pc e h hl
  have h : pc < 66 := h
  rcases (by omega : (0 ≤ pc ∧ pc < 44) ∨ (44 ≤ pc ∧ pc < 66)) with ⟨h1, h2⟩ | ⟨h1, h2⟩
  · exact okMr_at okM_88_0 h1 h2 hl
  · exact okMr_at okM_88_1 h1 h2 hl
theorem okA_89 : okA 89 := by
  intro pc e h hl
  have h : pc < 84 := h
  rcases (by omega : (0 ≤ pc ∧ pc < 64) ∨ (64 ≤ pc ∧ pc < 84)) with ⟨h1, h2⟩ | ⟨h1, h2⟩
  · exact okMr_at okM_89_0 h1 h2 hl
  · exact okMr_at okM_89_1 h1 h2 hl
theorem okA_90 : okA 90 := by
  intro pc e h hl
  have h : pc < 66 := h
  exact okMr_at okM_90_0 (Nat.zero_le _) (by omega) hl
theorem okA_91 : okA 91 := by
  intro pc e h hl
  have h : pc < 85 := h
  rcases (by omega : (0 ≤ pc ∧ pc < 58) ∨ (58 ≤ pc ∧ pc < 85)) with ⟨h1, h2⟩ | ⟨h1, h2⟩
  · exact okMr_at okM_91_0 h1 h2 hl
  · exact okMr_at okM_91_1 h1 h2 hl
theorem okA_92 : okA 92 := by
  intro pc e h hl
  have h : pc < 64 := h
  exact okMr_at okM_92_0 (Nat.zero_le _) (by omega) hl
theorem okA_93 : okA 93 := by
  intro pc e h hl
  have h : pc < 167 := h
  rcases (by omega : (0 ≤ pc ∧ pc < 102) ∨ (102 ≤ pc ∧ pc < 150) ∨ (150 ≤ pc ∧ pc < 167)) with ⟨h1, h2⟩ | ⟨h1, h2⟩ | ⟨h1, h2⟩
  · exact okMr_at okM_93_0 h1 h2 hl
  · exact okMr_at okM_93_1 h1 h2 hl
  · exact okMr_at okM_93_2 h1 h2 hl
theorem okA_94 : okA 94 := by
  intro pc e h hl
  have h : pc < 82 := h
  rcases (by omega : (0 ≤ pc ∧ pc < 52) ∨ (52 ≤ pc ∧ pc < 82)) with ⟨h1, h2⟩ | ⟨h1, h2⟩
  · exact okMr_at okM_94_0 h1 h2 hl
  · exact okMr_at okM_94_1 h1 h2 hl
theorem okA_95 : okA 95 := by
  intro pc e h hl
  have h : pc < 67 := h
  rcases (by omega : (0 ≤ pc ∧ pc < 50) ∨ (50 ≤ pc ∧ pc < 67)) with ⟨h1, h2⟩ | ⟨h1, h2⟩
  · exact okMr_at okM_95_0 h1 h2 hl
  · exact okMr_at okM_95_1 h1 h2 hl
theorem okA_96 : okA 96 := by
  intro pc e h hl
  have h : pc < 43 := h
  exact okMr_at okM_96_0 (Nat.zero_le _) (by omega) hl
theorem okA_97 : okA 97 := by
  intro pc e h hl
  have h : pc < 63 := h
  exact okMr_at okM_97_0 (Nat.zero_le _) (by omega) hl
theorem okA_98 : okA 98 := by
  intro pc e h hl
  have h : pc < 145 := h
  rcases (by omega : (0 ≤ pc ∧ pc < 110) ∨ (110 ≤ pc ∧ pc < 145)) with ⟨h1, h2⟩ | ⟨h1, h2⟩
  · exact okMr_at okM_98_0 h1 h2 hl
  · exact okMr_at okM_98_1 h1 h2 hl
theorem okA_99 : okA 99 := by
  intro pc e h hl
  have h : pc < 47 := h
  exact okMr_at okM_99_0 (Nat.zero_le _) (by omega) hl
theorem okA_100 : okA 100 := by
  intro pc e h hl
  have h : pc < 60 := h
  exact okMr_at okM_100_0 (Nat.zero_le _) (by omega) hl
theorem okA_101 : okA 101 := by
  intro pc e h hl
  have h : pc < 98 := h
  rcases (by omega : (0 ≤ pc ∧ pc < 55) ∨ (55 ≤ pc ∧ pc < 98)) with ⟨h1, h2⟩ | ⟨h1, h2⟩
  · exact okMr_at okM_101_0 h1 h2 hl
  · exact okMr_at okM_101_1 h1 h2 hl
theorem okA_102 : okA 102 := by
  intro pc e h hl
  have h : pc < 32 := h
  exact okMr_at okM_102_0 (Nat.zero_le _) (by omega) hl
theorem okA_103 : okA 103 := by
  intro pc e h hl
  have h : pc < 120 := h
  rcases (by omega : (0 ≤ pc ∧ pc < 51) ∨ (51 ≤ pc ∧ pc < 120)) with ⟨h1, h2⟩ | ⟨h1, h2⟩
  · exact okMr_at okM_103_0 h1 h2 hl
  · exact okMr_at okM_103_1 h1 h2 hl
theorem okA_104 : okA 104 := by
  intro pc e h hl
  have h : pc < 21 := h
  exact okMr_at okM_104_0 (Nat.zero_le _) (by omega) hl
theorem okA_105 : okA 105 := by
  intro pc e h hl
  have h : pc < 130 := h
  rcases (by omega : (0 ≤ pc ∧ pc < 53) ∨ (53 ≤ pc ∧ pc < 130)) with ⟨h1, h2⟩ | ⟨h1, h2⟩
  · exact okMr_at okM_105_0 h1 h2 hl
  · exact okMr_at okM_105_1 h1 h2 hl
theorem okA_106 : okA 106 := by
  intro pc e h hl
  have h : pc < 48 := h
  exact okMr_at okM_106_0 (Nat.zero_le _) (by omega) hl
theorem okA_107 : okA 107 := by
  intro pc e h hl
  have h : pc < 57 := h
  exact okMr_at okM_107_0 (Nat.zero_le _) (by omega) hl
theorem okA_108 : okA 108 := by
  intro pc e h hl
  have h : pc < 77 := h
  exact okMr_at okM_108_0 (Nat.zero_le _) (by omega) hl
theorem okA_109 : okA 109 := by
  intro pc e h hl
  have h : pc < 76 := h
  rcases (by omega : (0 ≤ pc ∧ pc < 56) ∨ (56 ≤ pc ∧ pc < 76)) with ⟨h1, h2⟩ | ⟨h1, h2⟩
  · exact okMr_at okM_109_0 h1 h2 hl
  · exact okMr_at okM_109_1 h1 h2 hl
theorem okA_110 : okA 110 := by
  intro pc e h hl
  have h : pc < 106 := h
  rcases (by omega : (0 ≤ pc ∧ pc < 54) ∨ (54 ≤ pc ∧ pc < 106)) with ⟨h1, h2⟩ | ⟨h1, h2⟩
  · exact okMr_at okM_110_0 h1 h2 hl
  · exact okMr_at okM_110_1 h1 h2 hl
theorem okA_111 : okA 111 := by
  intro pc e h hl
  have h : pc < 43 := h
  exact okMr_at okM_111_0 (Nat.zero_le _) (by omega) hl
theorem okA_112 : okA 112 := by
  intro pc e h hl
  have h : pc < 106 := h
  rcases (by omega : (0 ≤ pc ∧ pc < 54) ∨ (54 ≤ pc ∧ pc < 106)) with ⟨h1, h2⟩ | ⟨h1, h2⟩
  · exact okMr_at okM_112_0 h1 h2 hl
  · exact okMr_at okM_112_1 h1 h2 hl
theorem okA_113 : okA 113 := by
  intro pc e h hl
  have h : pc < 63 := h
  exact okMr_at okM_113_0 (Nat.zero_le _) (by omega) hl
theorem okA_114 : okA 114 := by
  intro pc e h hl
  have h : pc < 87 := h
  exact okMr_at okM_114_0 (Nat.zero_le _) (by omega) hl
theorem okA_115 : okA 115 := by
  intro pc e h hl
  have h : pc < 33 := h
  exact okMr_at okM_115_0 (Nat.zero_le _) (by omega) hl
theorem okA_116 : okA 116 := by
  intro pc e h hl
  have h : pc < 51 := h
  exact okMr_at okM_116_0 (Nat.zero_le _) (by omega) hl
theorem okA_117 : okA 117 := by
  intro pc e h hl
  have h : pc < 35 := h
  exact okMr_at okM_117_0 (Nat.zero_le _) (by omega) hl
theorem okA_118 : okA 118 := by
  intro pc e h hl
  have h : pc < 40 := h
  exact okMr_at okM_118_0 (Nat.zero_le _) (by omega) hl
theorem okA_119 : okA 119 := by
  intro pc e h hl
  have h : pc < 101 := h
  exact okMr_at okM_119_0 (Nat.zero_le _) (by omega) hl
theorem okA_120 : okA 120 := by
  intro pc e h hl
  have h : pc < 21 := h
  exact okMr_at okM_120_0 (Nat.zero_le _) (by omega) hl
theorem okA_121 : okA 121 := by
  intro pc e h hl
  have h : pc < 16 := h
  exact okMr_at okM_121_0 (Nat.zero_le _) (by omega) hl
theorem okA_122 : okA 122 := by
  intro pc e h hl
  have h : pc < 15 := h
  exact okMr_at okM_122_0 (Nat.zero_le _) (by omega) hl
theorem okA_123 : okA 123 := by
  intro pc e h hl
  have h : pc < 20 := h
  exact okMr_at okM_123_0 (Nat.zero_le _) (by omega) hl
theorem okA_124 : okA 124 := by
  intro pc e h hl
  have h : pc < 43 := h
  exact okMr_at okM_124_0 (Nat.zero_le _) (by omega) hl
theorem okA_125 : okA 125 := by
  intro pc e h hl
  have h : pc < 30 := h
  exact okMr_at okM_125_0 (Nat.zero_le _) (by omega) hl
theorem okA_126 : okA 126 := by
  intro pc e h hl
  have h : pc < 36 := h
  exact okMr_at okM_126_0 (Nat.zero_le _) (by omega) hl
theorem okA_127 : okA 127 := by
  intro pc e h hl
  have h : pc < 145 := h
  rcases (by omega : (0 ≤ pc ∧ pc < 88) ∨ (88 ≤ pc ∧ pc < 145)) with ⟨h1, h2⟩ | ⟨h1, h2⟩
  · exact okMr_at okM_127_0 h1 h2 hl
  · exact okMr_at okM_127_1 h1 h2 hl
theorem okA_128 : okA 128 := by
  intro pc e h hl
  have h : pc < 11 := h
  exact okMr_at okM_128_0 (Nat.zero_le _) (by omega) hl
theorem okA_129 : okA 129 := by
  intro pc e h hl
  have h : pc < 14 := h
  exact okMr_at okM_129_0 (Nat.zero_le _) (by omega) hl
theorem okA_130 : okA 130 := by
  intro pc e h hl
  have h : pc < 25 := h
  exact okMr_at okM_130_0 (Nat.zero_le _) (by omega) hl
theorem okA_131 : okA 131 := by
  intro pc e h hl
  have h : pc < 7 := h
  exact okMr_at okM_131_0 (Nat.zero_le _) (by omega) hl
theorem okA_132 : okA 132 := by
  intro pc e h hl
  have h : pc < 37 := h
  exact okMr_at okM_132_0 (Nat.zero_le _) (by omega) hl
theorem okA_133 : okA 133 := by
  intro pc e h hl
  have h : pc < 15 := h
  exact okMr_at okM_133_0 (Nat.zero_le _) (by omega) hl
theorem okA_134 : okA 134 := by
  intro pc e h hl
  have h : pc < 19 := h
  exact okMr_at okM_134_0 (Nat.zero_le _) (by omega) hl
theorem okA_135 : okA 135 := by
  intro pc e h hl
  have h : pc < 10 := h
  exact okMr_at okM_135_0 (Nat.zero_le _) (by omega) hl
theorem okA_136 : okA 136 := by
  intro pc e h hl
  have h : pc < 15 := h
  exact okMr_at okM_136_0 (Nat.zero_le _) (by omega) hl
theorem okA_137 : okA 137 := by
  intro pc e h hl
  have h : pc < 17 := h
  exact okMr_at okM_137_0 (Nat.zero_le _) (by omega) hl
theorem okA_138 : okA 138 := by
  intro pc e h hl
  have h : pc < 37 := h
  exact okMr_at okM_138_0 (Nat.zero_le _) (by omega) hl
theorem okA_139 : okA 139 := by
  intro pc e h hl
  have h : pc < 33 := h
  exact okMr_at okM_139_0 (Nat.zero_le _) (by omega) hl
theorem okA_140 : okA 140 := by
  intro pc e h hl
  have h : pc < 18 := h
  exact okMr_at okM_140_0 (Nat.zero_le _) (by omega) hl
theorem okA_141 : okA 141 := by
  intro pc e h hl
  have h : pc < 53 := h
  rcases (by omega : (0 ≤ pc ∧ pc < 39) ∨ (39 ≤ pc ∧ pc < 53)) with ⟨h1, h2⟩ | ⟨h1, h2⟩
  · exact okMr_at okM_141_0 h1 h2 hl
  · exact okMr_at okM_141_1 h1 h2 hl
theorem okA_142 : okA 142 := by
  intro pc e h hl
  have h : pc < 11 := h
  exact okMr_at okM_142_0 (Nat.zero_le _) (by omega) hl
theorem okA_143 : okA 143 := by
  intro pc e h hl
  have h : pc < 11 := h
  exact okMr_at okM_143_0 (Nat.zero_le _) (by omega) hl
theorem okA_144 : okA 144 := by
  intro pc e h hl
  have h : pc < 17 := h
  exact okMr_at okM_144_0 (Nat.zero_le _) (by omega) hl
theorem okA_145 : okA 145 := by
  intro pc e h hl
  have h : pc < 9 := h
  exact okMr_at okM_145_0 (Nat.zero_le _) (by omega) hl
theorem okA_146 : okA 146 := by
  intro pc e h hl
  have h : pc < 10 := h
  exact okMr_at okM_146_0 (Nat.zero_le _) (by omega) hl
theorem okB_0 {k : Nat} (h : 0 ≤ k) (h2 : k < 20) : okA k := by
  rcases (by omega : k = 0 ∨ k = 1 ∨ k = 2 ∨ k = 3 ∨ k = 4 ∨ k = 5 ∨ k = 6 ∨ k = 7 ∨ k = 8 ∨ k = 9 ∨ k = 10 ∨ k = 11 ∨ k = 12 ∨ k = 13 ∨ k = 14 ∨ k = 15 ∨ k = 16 ∨ k = 17 ∨ k = 18 ∨ k = 19) with rfl | rfl | rfl | rfl | rfl | rfl | rfl | rfl | rfl | rfl | rfl | rfl | rfl | rfl | rfl | rfl | rfl | rfl | rfl | rfl
  · exact okA_0
  · exact okA_1
  · exact okA_2
  · exact okA_3
  · exact okA_4
  · exact okA_5
  · exact okA_6
  · exact okA_7
  · exact okA_8
  · exact okA_9
  · exact okA_10
  · exact okA_11
  · exact okA_12
  · exact okA_13
  · exact okA_14
  · exact okA_15
  · exact okA_16
  · exact okA_17
  · exact okA_18
  · exact okA_19
theorem okB_20 {k : Nat} (h : 20 ≤ k) (h2 : k < 40) : okA k := by
  rcases (by omega : k = 20 ∨ k = 21 ∨ k = 22 ∨ k = 23 ∨ k = 24 ∨ k = 25 ∨ k = 26 ∨ k = 27 ∨ k = 28 ∨ k = 29 ∨ k = 30 ∨ k = 31 ∨ k = 32 ∨ k = 33 ∨ k = 34 ∨ k = 35 ∨ k = 36 ∨ k = 37 ∨ k = 38 ∨ k = 39) with rfl | rfl | rfl | rfl | rfl | rfl | rfl | rfl | rfl | rfl | rfl | rfl | rfl | rfl | rfl | rfl | rfl | rfl | rfl | rfl
  · exact okA_20
  · exact okA_21
  · exact okA_22
  · exact okA_23
  · exact okA_24
  · exact okA_25
  · exact okA_26
  · exact okA_27
  · exact okA_28
  · exact okA_29
  · exact okA_30
  · exact okA_31
  · exact okA_32
  · exact okA_33
  · exact okA_34
  · exact okA_35
  · exact okA_36
  · exact okA_37
  · exact okA_38
  · exact okA_39
theorem okB_40 {k : Nat} (h : 40 ≤ k) (h2 : k < 60) : okA k := by
  rcases (by omega : k = 40 ∨ k = 41 ∨ k = 42 ∨ k = 43 ∨ k = 44 ∨ k = 45 ∨ k = 46 ∨ k = 47 ∨ k = 48 ∨ k = 49 ∨ k = 50 ∨ k = 51 ∨ k = 52 ∨ k = 53 ∨ k = 54 ∨ k = 55 ∨ k = 56 ∨ k = 57 ∨ k = 58 ∨ k = 59) with rfl | rfl | rfl | rfl | rfl | rfl | rfl | rfl | rfl | rfl | rfl | rfl | rfl | rfl | rfl | rfl | rfl | rfl | rfl | rfl
  · exact okA_40
  · exact okA_41
  · exact okA_42
  · exact okA_43
  · exact okA_44
  · exact okA_45
  · exact okA_46
  · exact okA_47
  · exact okA_48
  · exact okA_49
  · exact okA_50
  · exact okA_51
  · exact okA_52
  · exact okA_53
  · exact okA_54
  · exact okA_55
  · exact okA_56
  · exact okA_57
  · exact okA_58
  · exact okA_59
theorem okB_60 {k : Nat} (h : 60 ≤ k) (h2 : k < 80) : okA k := by
  rcases (by omega : k = 60 ∨ k = 61 ∨ k = 62 ∨ k = 63 ∨ k = 64 ∨ k = 65 ∨ k = 66 ∨ k = 67 ∨ k = 68 ∨ k = 69 ∨ k = 70 ∨ k = 71 ∨ k = 72 ∨ k = 73 ∨ k = 74 ∨ k = 75 ∨ k = 76 ∨ k = 77 ∨ k = 78 ∨ k = 79) with rfl | rfl | rfl | rfl | rfl | rfl | rfl | rfl | rfl | rfl | rfl | rfl | rfl | rfl | rfl | rfl | rfl | rfl | rfl | rfl
  · exact okA_60
  · exact okA_61
  · exact okA_62
  · exact okA_63
  · exact okA_64
  · exact okA_65
  · exact okA_66
  · exact okA_67
  · exact okA_68
  · exact okA_69
  · exact okA_70
  · exact okA_71
  · exact okA_72
  · exact okA_73
  · exact okA_74
  · exact okA_75
  · exact okA_76
  · exact okA_77
  · exact okA_78
  · exact okA_79
theorem okB_80 {k : Nat} (h : 80 ≤ k) (h2 : k < 100) : okA k := by
  rcases (by omega : k = 80 ∨ k = 81 ∨ k = 82 ∨ k = 83 ∨ k = 84 ∨ k = 85 ∨ k = 86 ∨ k = 87 ∨ k = 88 ∨ k = 89 ∨ k = 90 ∨ k = 91 ∨ k = 92 ∨ k = 93 ∨ k = 94 ∨ k = 95 ∨ k = 96 ∨ k = 97 ∨ k = 98 ∨ k = 99) with rfl | rfl | rfl | rfl | rfl | rfl | rfl | rfl | rfl | rfl | rfl | rfl | rfl | rfl | rfl | rfl | rfl | rfl | rfl | rfl
  · exact okA_80
  · exact okA_81
  · exact okA_82
  · exact okA_83
  · exact okA_84
  · exact okA_85
  · exact okA_86
  · exact okA_87
  · exact okA_88
  · exact okA_89
  · exact okA_90
  · exact okA_91
  · exact okA_92
  · exact okA_93
  · exact okA_94
  · exact okA_95
  · exact okA_96
  · exact okA_97
  · exact okA_98
  · exact okA_99
theorem okB_100 {k : Nat} (h : 100 ≤ k) (h2 : k < 120) : okA k := by
  rcases (by omega : k = 100 ∨ k = 101 ∨ k = 102 ∨ k = 103 ∨ k = 104 ∨ k = 105 ∨ k = 106 ∨ k = 107 ∨ k = 108 ∨ k = 109 ∨ k = 110 ∨ k = 111 ∨ k = 112 ∨ k = 113 ∨ k = 114 ∨ k = 115 ∨ k = 116 ∨ k = 117 ∨ k = 118 ∨ k = 119) with rfl | rfl | rfl | rfl | rfl | rfl | rfl | rfl | rfl | rfl | rfl | rfl | rfl | rfl | rfl | rfl | rfl | rfl | rfl | rfl
  · exact okA_100
  · exact okA_101
  · exact okA_102
  · exact okA_103
  · exact okA_104
  · exact okA_105
  · exact okA_106
  · exact okA_107
  · exact okA_108
  · exact okA_109
  · exact okA_110
  · exact okA_111
  · exact okA_112
  · exact okA_113
  · exact okA_114
  · exact okA_115
  · exact okA_116
  · exact okA_117
  · exact okA_118
  · exact okA_119
theorem okB_120 {k : Nat} (h : 120 ≤ k) (h2 : k < 140) : okA k := by
  rcases (by omega : k = 120 ∨ k = 121 ∨ k = 122 ∨ k = 123 ∨ k = 124 ∨ k = 125 ∨ k = 126 ∨ k = 127 ∨ k = 128 ∨ k = 129 ∨ k = 130 ∨ k = 131 ∨ k = 132 ∨ k = 133 ∨ k = 134 ∨ k = 135 ∨ k = 136 ∨ k = 137 ∨ k = 138 ∨ k = 139) with rfl | rfl | rfl | rfl | rfl | rfl | rfl | rfl | rfl | rfl | rfl | rfl | rfl | rfl | rfl | rfl | rfl | rfl | rfl | rfl
  · exact okA_120
  · exact okA_121
  · exact okA_122
  · exact okA_123
  · exact okA_124
  · exact okA_125
  · exact okA_126
  · exact okA_127
  · exact okA_128
  · exact okA_129
  · exact okA_130
  · exact okA_131
  · exact okA_132
  · exact okA_133
  · exact okA_134
  · exact okA_135
  · exact okA_136
  · exact okA_137
  · exact okA_138
  · exact okA_139
theorem okB_140 {k : Nat} (h : 140 ≤ k) (h2 : k < 147) : okA k := by
  rcases (by omega : k = 140 ∨ k = 141 ∨ k = 142 ∨ k = 143 ∨ k = 144 ∨ k = 145 ∨ k = 146) with rfl | rfl | rfl | rfl | rfl | rfl | rfl
  · exact okA_140
  · exact okA_141
  · exact okA_142
  · exact okA_143
  · exact okA_144
  · exact okA_145
  · exact okA_146
theorem okA_all : ∀ k, k < mN → okA k := by
  intro k h
  have h : k < 147 := h
  rcases (by omega : (0 ≤ k ∧ k < 20) ∨ (20 ≤ k ∧ k < 40) ∨ (40 ≤ k ∧ k < 60) ∨ (60 ≤ k ∧ k < 80) ∨ (80 ≤ k ∧ k < 100) ∨ (100 ≤ k ∧ k < 120) ∨ (120 ≤ k ∧ k < 140) ∨ (140 ≤ k ∧ k < 147)) with ⟨h1, h2⟩ | ⟨h1, h2⟩ | ⟨h1, h2⟩ | ⟨h1, h2⟩ | ⟨h1, h2⟩ | ⟨h1, h2⟩ | ⟨h1, h2⟩ | ⟨h1, h2⟩
  · exact okB_0 h1 h2
  · exact okB_20 h1 h2
  · exact okB_40 h1 h2
  · exact okB_60 h1 h2
  · exact okB_80 h1 h2
  · exact okB_100 h1 h2
  · exact okB_120 h1 h2
  · exact okB_140 h1 h2
