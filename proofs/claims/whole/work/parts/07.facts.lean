/-! ===== the two worlds, once they are made; what the tables say, by places ===== -/
def SB : List hp_S := [.inl (11, [(1, 1, 0), (1, 35, 0), (1, 44, 0), (1, 50, 0), (1, 53, 0), (1, 64, 0)]), .inl (4, [(1, 2, 0), (1, 7, 0), (1, 12, 0), (1, 15, 0), (1, 23, 0), (1, 32, 0), (1, 33, 0), (1, 34, 0), (0, 0, 0), (0, 0, 0)]), .inl (10, [(1, 3, 0), (0, 0, 0), (1, 4, 0), (1, 5, 0), (1, 6, 0)]), .inr (0, 1), .inr (0, 6), .inr (0, 6), .inr (0, 6), .inl (10, [(1, 8, 0), (0, 0, 0), (1, 9, 0), (1, 10, 0), (1, 11, 0)]), .inr (0, 3), .inr (0, 9), .inr (0, 9), .inr (0, 9), .inl (6, [(1, 13, 0), (0, 0, 0), (1, 14, 0)]), .inr (0, 3), .inr (0, 3), .inl (1, [(1, 16, 0), (0, 0, 0), (1, 12, 0), (1, 17, 0), (1, 18, 0), (1, 19, 0), (1, 20, 0), (1, 21, 0), (1, 22, 0), (0, 0, 0)]), .inr (0, 80), .inr (0, 80), .inr (0, 80), .inr (0, 80), .inr (0, 80), .inr (0, 80), .inr (2, 80), .inl (9, [(1, 24, 0), (1, 25, 0), (1, 26, 0), (1, 27, 0), (1, 28, 0), (1, 29, 0), (1, 30, 0), (1, 31, 0), (0, 0, 0)]), .inr (0, 24), .inr (0, 24), .inr (0, 24), .inr (0, 24), .inr (0, 24), .inr (0, 96), .inr (0, 96), .inr (0, 96), .inr (0, 3), .inr (2, 3), .inr (2, 3), .inl (2, [(0, 0, 0), (0, 0, 0), (0, 0, 0), (0, 0, 0), (0, 0, 0), (0, 0, 0), (0, 0, 0), (0, 0, 0), (1, 36, 0), (1, 37, 0), (1, 38, 0), (1, 39, 0), (1, 40, 0), (1, 41, 0), (1, 42, 0), (1, 43, 0)]), .inr (0, 401), .inr (0, 6000), .inr (0, 400), .inr (0, 400), .inr (0, 400), .inr (0, 6000), .inr (0, 5200), .inr (0, 1024), .inl (8, [(1, 1, 0), (1, 35, 0), (1, 45, 0), (1, 47, 0), (1, 49, 0)]), .inl (7, [(1, 46, 0)]), .inr (0, 13), .inl (7, [(1, 48, 0)]), .inr (0, 13), .inr (0, 4), .inl (5, [(1, 1, 0), (1, 35, 0), (1, 51, 0)]), .inl (7, [(1, 52, 0)]), .inr (0, 13), .inl (3, [(1, 1, 0), (1, 35, 0), (1, 50, 0), (1, 54, 0), (1, 55, 0), (1, 56, 0), (1, 57, 0), (1, 58, 0), (1, 59, 0), (1, 60, 0), (1, 61, 0), (1, 62, 0), (1, 63, 0), (0, 0, 0), (0, 0, 0), (0, 0, 0), (0, 0, 0), (0, 0, 0), (0, 0, 0), (0, 0, 0)]), .inr (2, 400), .inr (2, 400), .inr (2, 400), .inr (2, 400), .inr (0, 400), .inr (0, 400), .inr (0, 400), .inr (0, 400), .inr (0, 400), .inr (0, 400), .inl (0, [(0, 0, 0), (0, 0, 0), (2, 65, 0), (1, 35, 0), (1, 50, 0), (1, 66, 0), (1, 67, 0), (2, 65, 1), (1, 69, 0), (1, 70, 0), (1, 71, 0), (0, 0, 0)]), .inr (0, 400), .inr (0, 8), .inr (0, 5200), .inr (0, 400), .inr (0, 400), .inr (0, 400), .inr (0, 400)]
theorem fB_0_0 : hp_sh SB 0 11 0 (1, 1, 0) := ⟨_, rfl, rfl⟩
theorem fB_0_1 : hp_sh SB 0 11 1 (1, 35, 0) := ⟨_, rfl, rfl⟩
theorem fB_0_2 : hp_sh SB 0 11 2 (1, 44, 0) := ⟨_, rfl, rfl⟩
theorem fB_0_3 : hp_sh SB 0 11 3 (1, 50, 0) := ⟨_, rfl, rfl⟩
theorem fB_0_4 : hp_sh SB 0 11 4 (1, 53, 0) := ⟨_, rfl, rfl⟩
theorem fB_0_5 : hp_sh SB 0 11 5 (1, 64, 0) := ⟨_, rfl, rfl⟩
theorem fB_1_0 : hp_sh SB 1 4 0 (1, 2, 0) := ⟨_, rfl, rfl⟩
theorem fB_1_1 : hp_sh SB 1 4 1 (1, 7, 0) := ⟨_, rfl, rfl⟩
theorem fB_1_2 : hp_sh SB 1 4 2 (1, 12, 0) := ⟨_, rfl, rfl⟩
theorem fB_1_3 : hp_sh SB 1 4 3 (1, 15, 0) := ⟨_, rfl, rfl⟩
theorem fB_1_4 : hp_sh SB 1 4 4 (1, 23, 0) := ⟨_, rfl, rfl⟩
theorem fB_1_5 : hp_sh SB 1 4 5 (1, 32, 0) := ⟨_, rfl, rfl⟩
theorem fB_1_6 : hp_sh SB 1 4 6 (1, 33, 0) := ⟨_, rfl, rfl⟩
theorem fB_1_7 : hp_sh SB 1 4 7 (1, 34, 0) := ⟨_, rfl, rfl⟩
theorem fB_1_8 : hp_sh SB 1 4 8 (0, 0, 0) := ⟨_, rfl, rfl⟩
theorem fB_1_9 : hp_sh SB 1 4 9 (0, 0, 0) := ⟨_, rfl, rfl⟩
theorem fB_2_0 : hp_sh SB 2 10 0 (1, 3, 0) := ⟨_, rfl, rfl⟩
theorem fB_2_1 : hp_sh SB 2 10 1 (0, 0, 0) := ⟨_, rfl, rfl⟩
theorem fB_2_2 : hp_sh SB 2 10 2 (1, 4, 0) := ⟨_, rfl, rfl⟩
theorem fB_2_3 : hp_sh SB 2 10 3 (1, 5, 0) := ⟨_, rfl, rfl⟩
theorem fB_2_4 : hp_sh SB 2 10 4 (1, 6, 0) := ⟨_, rfl, rfl⟩
theorem aB_3 : SB[3]? = some (.inr (0, 1)) := rfl
theorem zB_3 : 3 ≠ hp_V := by decide
theorem aB_4 : SB[4]? = some (.inr (0, 6)) := rfl
theorem zB_4 : 4 ≠ hp_V := by decide
theorem aB_5 : SB[5]? = some (.inr (0, 6)) := rfl
theorem zB_5 : 5 ≠ hp_V := by decide
theorem aB_6 : SB[6]? = some (.inr (0, 6)) := rfl
theorem zB_6 : 6 ≠ hp_V := by decide
theorem fB_7_0 : hp_sh SB 7 10 0 (1, 8, 0) := ⟨_, rfl, rfl⟩
theorem fB_7_1 : hp_sh SB 7 10 1 (0, 0, 0) := ⟨_, rfl, rfl⟩
theorem fB_7_2 : hp_sh SB 7 10 2 (1, 9, 0) := ⟨_, rfl, rfl⟩
theorem fB_7_3 : hp_sh SB 7 10 3 (1, 10, 0) := ⟨_, rfl, rfl⟩
theorem fB_7_4 : hp_sh SB 7 10 4 (1, 11, 0) := ⟨_, rfl, rfl⟩
theorem aB_8 : SB[8]? = some (.inr (0, 3)) := rfl
theorem zB_8 : 8 ≠ hp_V := by decide
theorem aB_9 : SB[9]? = some (.inr (0, 9)) := rfl
theorem zB_9 : 9 ≠ hp_V := by decide
theorem aB_10 : SB[10]? = some (.inr (0, 9)) := rfl
theorem zB_10 : 10 ≠ hp_V := by decide
theorem aB_11 : SB[11]? = some (.inr (0, 9)) := rfl
theorem zB_11 : 11 ≠ hp_V := by decide
theorem fB_12_0 : hp_sh SB 12 6 0 (1, 13, 0) := ⟨_, rfl, rfl⟩
theorem fB_12_1 : hp_sh SB 12 6 1 (0, 0, 0) := ⟨_, rfl, rfl⟩
theorem fB_12_2 : hp_sh SB 12 6 2 (1, 14, 0) := ⟨_, rfl, rfl⟩
theorem aB_13 : SB[13]? = some (.inr (0, 3)) := rfl
theorem zB_13 : 13 ≠ hp_V := by decide
theorem aB_14 : SB[14]? = some (.inr (0, 3)) := rfl
theorem zB_14 : 14 ≠ hp_V := by decide
theorem fB_15_0 : hp_sh SB 15 1 0 (1, 16, 0) := ⟨_, rfl, rfl⟩
theorem fB_15_1 : hp_sh SB 15 1 1 (0, 0, 0) := ⟨_, rfl, rfl⟩
theorem fB_15_2 : hp_sh SB 15 1 2 (1, 12, 0) := ⟨_, rfl, rfl⟩
theorem fB_15_3 : hp_sh SB 15 1 3 (1, 17, 0) := ⟨_, rfl, rfl⟩
theorem fB_15_4 : hp_sh SB 15 1 4 (1, 18, 0) := ⟨_, rfl, rfl⟩
theorem fB_15_5 : hp_sh SB 15 1 5 (1, 19, 0) := ⟨_, rfl, rfl⟩
theorem fB_15_6 : hp_sh SB 15 1 6 (1, 20, 0) := ⟨_, rfl, rfl⟩
theorem fB_15_7 : hp_sh SB 15 1 7 (1, 21, 0) := ⟨_, rfl, rfl⟩
theorem fB_15_8 : hp_sh SB 15 1 8 (1, 22, 0) := ⟨_, rfl, rfl⟩
theorem fB_15_9 : hp_sh SB 15 1 9 (0, 0, 0) := ⟨_, rfl, rfl⟩
theorem aB_16 : SB[16]? = some (.inr (0, 80)) := rfl
theorem zB_16 : 16 ≠ hp_V := by decide
theorem aB_17 : SB[17]? = some (.inr (0, 80)) := rfl
theorem zB_17 : 17 ≠ hp_V := by decide
theorem aB_18 : SB[18]? = some (.inr (0, 80)) := rfl
theorem zB_18 : 18 ≠ hp_V := by decide
theorem aB_19 : SB[19]? = some (.inr (0, 80)) := rfl
theorem zB_19 : 19 ≠ hp_V := by decide
theorem aB_20 : SB[20]? = some (.inr (0, 80)) := rfl
theorem zB_20 : 20 ≠ hp_V := by decide
theorem aB_21 : SB[21]? = some (.inr (0, 80)) := rfl
theorem zB_21 : 21 ≠ hp_V := by decide
theorem aB_22 : SB[22]? = some (.inr (2, 80)) := rfl
theorem zB_22 : 22 ≠ hp_V := by decide
theorem fB_23_0 : hp_sh SB 23 9 0 (1, 24, 0) := ⟨_, rfl, rfl⟩
theorem fB_23_1 : hp_sh SB 23 9 1 (1, 25, 0) := ⟨_, rfl, rfl⟩
theorem fB_23_2 : hp_sh SB 23 9 2 (1, 26, 0) := ⟨_, rfl, rfl⟩
theorem fB_23_3 : hp_sh SB 23 9 3 (1, 27, 0) := ⟨_, rfl, rfl⟩
theorem fB_23_4 : hp_sh SB 23 9 4 (1, 28, 0) := ⟨_, rfl, rfl⟩
theorem fB_23_5 : hp_sh SB 23 9 5 (1, 29, 0) := ⟨_, rfl, rfl⟩
theorem fB_23_6 : hp_sh SB 23 9 6 (1, 30, 0) := ⟨_, rfl, rfl⟩
theorem fB_23_7 : hp_sh SB 23 9 7 (1, 31, 0) := ⟨_, rfl, rfl⟩
theorem fB_23_8 : hp_sh SB 23 9 8 (0, 0, 0) := ⟨_, rfl, rfl⟩
theorem aB_24 : SB[24]? = some (.inr (0, 24)) := rfl
theorem zB_24 : 24 ≠ hp_V := by decide
theorem aB_25 : SB[25]? = some (.inr (0, 24)) := rfl
theorem zB_25 : 25 ≠ hp_V := by decide
theorem aB_26 : SB[26]? = some (.inr (0, 24)) := rfl
theorem zB_26 : 26 ≠ hp_V := by decide
theorem aB_27 : SB[27]? = some (.inr (0, 24)) := rfl
theorem zB_27 : 27 ≠ hp_V := by decide
theorem aB_28 : SB[28]? = some (.inr (0, 24)) := rfl
theorem zB_28 : 28 ≠ hp_V := by decide
theorem aB_29 : SB[29]? = some (.inr (0, 96)) := rfl
theorem zB_29 : 29 ≠ hp_V := by decide
theorem aB_30 : SB[30]? = some (.inr (0, 96)) := rfl
theorem zB_30 : 30 ≠ hp_V := by decide
theorem aB_31 : SB[31]? = some (.inr (0, 96)) := rfl
theorem zB_31 : 31 ≠ hp_V := by decide
theorem aB_32 : SB[32]? = some (.inr (0, 3)) := rfl
theorem zB_32 : 32 ≠ hp_V := by decide
theorem aB_33 : SB[33]? = some (.inr (2, 3)) := rfl
theorem zB_33 : 33 ≠ hp_V := by decide
theorem aB_34 : SB[34]? = some (.inr (2, 3)) := rfl
theorem zB_34 : 34 ≠ hp_V := by decide
theorem fB_35_0 : hp_sh SB 35 2 0 (0, 0, 0) := ⟨_, rfl, rfl⟩
theorem fB_35_1 : hp_sh SB 35 2 1 (0, 0, 0) := ⟨_, rfl, rfl⟩
theorem fB_35_2 : hp_sh SB 35 2 2 (0, 0, 0) := ⟨_, rfl, rfl⟩
theorem fB_35_3 : hp_sh SB 35 2 3 (0, 0, 0) := ⟨_, rfl, rfl⟩
theorem fB_35_4 : hp_sh SB 35 2 4 (0, 0, 0) := ⟨_, rfl, rfl⟩
theorem fB_35_5 : hp_sh SB 35 2 5 (0, 0, 0) := ⟨_, rfl, rfl⟩
theorem fB_35_6 : hp_sh SB 35 2 6 (0, 0, 0) := ⟨_, rfl, rfl⟩
theorem fB_35_7 : hp_sh SB 35 2 7 (0, 0, 0) := ⟨_, rfl, rfl⟩
theorem fB_35_8 : hp_sh SB 35 2 8 (1, 36, 0) := ⟨_, rfl, rfl⟩
theorem fB_35_9 : hp_sh SB 35 2 9 (1, 37, 0) := ⟨_, rfl, rfl⟩
theorem fB_35_10 : hp_sh SB 35 2 10 (1, 38, 0) := ⟨_, rfl, rfl⟩
theorem fB_35_11 : hp_sh SB 35 2 11 (1, 39, 0) := ⟨_, rfl, rfl⟩
theorem fB_35_12 : hp_sh SB 35 2 12 (1, 40, 0) := ⟨_, rfl, rfl⟩
theorem fB_35_13 : hp_sh SB 35 2 13 (1, 41, 0) := ⟨_, rfl, rfl⟩
theorem fB_35_14 : hp_sh SB 35 2 14 (1, 42, 0) := ⟨_, rfl, rfl⟩
theorem fB_35_15 : hp_sh SB 35 2 15 (1, 43, 0) := ⟨_, rfl, rfl⟩
theorem aB_36 : SB[36]? = some (.inr (0, 401)) := rfl
theorem zB_36 : 36 ≠ hp_V := by decide
theorem aB_37 : SB[37]? = some (.inr (0, 6000)) := rfl
theorem zB_37 : 37 ≠ hp_V := by decide
theorem aB_38 : SB[38]? = some (.inr (0, 400)) := rfl
theorem zB_38 : 38 ≠ hp_V := by decide
theorem aB_39 : SB[39]? = some (.inr (0, 400)) := rfl
theorem zB_39 : 39 ≠ hp_V := by decide
theorem aB_40 : SB[40]? = some (.inr (0, 400)) := rfl
theorem zB_40 : 40 ≠ hp_V := by decide
theorem aB_41 : SB[41]? = some (.inr (0, 6000)) := rfl
theorem zB_41 : 41 ≠ hp_V := by decide
theorem aB_42 : SB[42]? = some (.inr (0, 5200)) := rfl
theorem zB_42 : 42 ≠ hp_V := by decide
theorem aB_43 : SB[43]? = some (.inr (0, 1024)) := rfl
theorem zB_43 : 43 ≠ hp_V := by decide
theorem fB_44_0 : hp_sh SB 44 8 0 (1, 1, 0) := ⟨_, rfl, rfl⟩
theorem fB_44_1 : hp_sh SB 44 8 1 (1, 35, 0) := ⟨_, rfl, rfl⟩
theorem fB_44_2 : hp_sh SB 44 8 2 (1, 45, 0) := ⟨_, rfl, rfl⟩
theorem fB_44_3 : hp_sh SB 44 8 3 (1, 47, 0) := ⟨_, rfl, rfl⟩
theorem fB_44_4 : hp_sh SB 44 8 4 (1, 49, 0) := ⟨_, rfl, rfl⟩
theorem fB_45_0 : hp_sh SB 45 7 0 (1, 46, 0) := ⟨_, rfl, rfl⟩
theorem aB_46 : SB[46]? = some (.inr (0, 13)) := rfl
theorem zB_46 : 46 ≠ hp_V := by decide
theorem fB_47_0 : hp_sh SB 47 7 0 (1, 48, 0) := ⟨_, rfl, rfl⟩
theorem aB_48 : SB[48]? = some (.inr (0, 13)) := rfl
theorem zB_48 : 48 ≠ hp_V := by decide
theorem aB_49 : SB[49]? = some (.inr (0, 4)) := rfl
theorem zB_49 : 49 ≠ hp_V := by decide
theorem fB_50_0 : hp_sh SB 50 5 0 (1, 1, 0) := ⟨_, rfl, rfl⟩
theorem fB_50_1 : hp_sh SB 50 5 1 (1, 35, 0) := ⟨_, rfl, rfl⟩
theorem fB_50_2 : hp_sh SB 50 5 2 (1, 51, 0) := ⟨_, rfl, rfl⟩
theorem fB_51_0 : hp_sh SB 51 7 0 (1, 52, 0) := ⟨_, rfl, rfl⟩
theorem aB_52 : SB[52]? = some (.inr (0, 13)) := rfl
theorem zB_52 : 52 ≠ hp_V := by decide
theorem fB_53_0 : hp_sh SB 53 3 0 (1, 1, 0) := ⟨_, rfl, rfl⟩
theorem fB_53_1 : hp_sh SB 53 3 1 (1, 35, 0) := ⟨_, rfl, rfl⟩
theorem fB_53_2 : hp_sh SB 53 3 2 (1, 50, 0) := ⟨_, rfl, rfl⟩
theorem fB_53_3 : hp_sh SB 53 3 3 (1, 54, 0) := ⟨_, rfl, rfl⟩
theorem fB_53_4 : hp_sh SB 53 3 4 (1, 55, 0) := ⟨_, rfl, rfl⟩
theorem fB_53_5 : hp_sh SB 53 3 5 (1, 56, 0) := ⟨_, rfl, rfl⟩
theorem fB_53_6 : hp_sh SB 53 3 6 (1, 57, 0) := ⟨_, rfl, rfl⟩
theorem fB_53_7 : hp_sh SB 53 3 7 (1, 58, 0) := ⟨_, rfl, rfl⟩
theorem fB_53_8 : hp_sh SB 53 3 8 (1, 59, 0) := ⟨_, rfl, rfl⟩
theorem fB_53_9 : hp_sh SB 53 3 9 (1, 60, 0) := ⟨_, rfl, rfl⟩
theorem fB_53_10 : hp_sh SB 53 3 10 (1, 61, 0) := ⟨_, rfl, rfl⟩
theorem fB_53_11 : hp_sh SB 53 3 11 (1, 62, 0) := ⟨_, rfl, rfl⟩
theorem fB_53_12 : hp_sh SB 53 3 12 (1, 63, 0) := ⟨_, rfl, rfl⟩
theorem fB_53_13 : hp_sh SB 53 3 13 (0, 0, 0) := ⟨_, rfl, rfl⟩
theorem fB_53_14 : hp_sh SB 53 3 14 (0, 0, 0) := ⟨_, rfl, rfl⟩
theorem fB_53_15 : hp_sh SB 53 3 15 (0, 0, 0) := ⟨_, rfl, rfl⟩
theorem fB_53_16 : hp_sh SB 53 3 16 (0, 0, 0) := ⟨_, rfl, rfl⟩
theorem fB_53_17 : hp_sh SB 53 3 17 (0, 0, 0) := ⟨_, rfl, rfl⟩
theorem fB_53_18 : hp_sh SB 53 3 18 (0, 0, 0) := ⟨_, rfl, rfl⟩
theorem fB_53_19 : hp_sh SB 53 3 19 (0, 0, 0) := ⟨_, rfl, rfl⟩
theorem aB_54 : SB[54]? = some (.inr (2, 400)) := rfl
theorem zB_54 : 54 ≠ hp_V := by decide
theorem aB_55 : SB[55]? = some (.inr (2, 400)) := rfl
theorem zB_55 : 55 ≠ hp_V := by decide
theorem aB_56 : SB[56]? = some (.inr (2, 400)) := rfl
theorem zB_56 : 56 ≠ hp_V := by decide
theorem aB_57 : SB[57]? = some (.inr (2, 400)) := rfl
theorem zB_57 : 57 ≠ hp_V := by decide
theorem aB_58 : SB[58]? = some (.inr (0, 400)) := rfl
theorem zB_58 : 58 ≠ hp_V := by decide
theorem aB_59 : SB[59]? = some (.inr (0, 400)) := rfl
theorem zB_59 : 59 ≠ hp_V := by decide
theorem aB_60 : SB[60]? = some (.inr (0, 400)) := rfl
theorem zB_60 : 60 ≠ hp_V := by decide
theorem aB_61 : SB[61]? = some (.inr (0, 400)) := rfl
theorem zB_61 : 61 ≠ hp_V := by decide
theorem aB_62 : SB[62]? = some (.inr (0, 400)) := rfl
theorem zB_62 : 62 ≠ hp_V := by decide
theorem aB_63 : SB[63]? = some (.inr (0, 400)) := rfl
theorem zB_63 : 63 ≠ hp_V := by decide
theorem fB_64_0 : hp_sh SB 64 0 0 (0, 0, 0) := ⟨_, rfl, rfl⟩
theorem fB_64_1 : hp_sh SB 64 0 1 (0, 0, 0) := ⟨_, rfl, rfl⟩
theorem fB_64_2 : hp_sh SB 64 0 2 (2, 65, 0) := ⟨_, rfl, rfl⟩
theorem fB_64_3 : hp_sh SB 64 0 3 (1, 35, 0) := ⟨_, rfl, rfl⟩
theorem fB_64_4 : hp_sh SB 64 0 4 (1, 50, 0) := ⟨_, rfl, rfl⟩
theorem fB_64_5 : hp_sh SB 64 0 5 (1, 66, 0) := ⟨_, rfl, rfl⟩
theorem fB_64_6 : hp_sh SB 64 0 6 (1, 67, 0) := ⟨_, rfl, rfl⟩
theorem fB_64_7 : hp_sh SB 64 0 7 (2, 65, 1) := ⟨_, rfl, rfl⟩
theorem fB_64_8 : hp_sh SB 64 0 8 (1, 69, 0) := ⟨_, rfl, rfl⟩
theorem fB_64_9 : hp_sh SB 64 0 9 (1, 70, 0) := ⟨_, rfl, rfl⟩
theorem fB_64_10 : hp_sh SB 64 0 10 (1, 71, 0) := ⟨_, rfl, rfl⟩
theorem fB_64_11 : hp_sh SB 64 0 11 (0, 0, 0) := ⟨_, rfl, rfl⟩
theorem aB_65 : SB[65]? = some (.inr (0, 400)) := rfl
theorem zB_65 : 65 ≠ hp_V := by decide
theorem aB_66 : SB[66]? = some (.inr (0, 8)) := rfl
theorem zB_66 : 66 ≠ hp_V := by decide
theorem aB_67 : SB[67]? = some (.inr (0, 5200)) := rfl
theorem zB_67 : 67 ≠ hp_V := by decide
theorem aB_68 : SB[68]? = some (.inr (0, 400)) := rfl
theorem zB_68 : 68 ≠ hp_V := by decide
theorem aB_69 : SB[69]? = some (.inr (0, 400)) := rfl
theorem zB_69 : 69 ≠ hp_V := by decide
theorem aB_70 : SB[70]? = some (.inr (0, 400)) := rfl
theorem zB_70 : 70 ≠ hp_V := by decide
theorem aB_71 : SB[71]? = some (.inr (0, 400)) := rfl
theorem zB_71 : 71 ≠ hp_V := by decide
def SM : List hp_S := [.inl (12, [(0, 0, 0), (1, 1, 0), (1, 2, 0), (1, 3, 0), (0, 0, 0), (1, 4, 0), (1, 5, 0), (1, 6, 0), (1, 7, 0), (1, 8, 0), (1, 9, 0), (0, 0, 0), (1, 10, 0), (1, 11, 0), (1, 12, 0), (0, 0, 0), (1, 13, 0), (1, 14, 0), (1, 15, 0), (1, 16, 0), (1, 17, 0), (0, 0, 0), (1, 18, 0), (1, 19, 0), (1, 20, 0), (1, 21, 0), (1, 22, 0), (1, 23, 0), (1, 24, 0), (1, 25, 0), (0, 0, 0), (0, 0, 0), (1, 26, 0), (0, 0, 0), (0, 0, 0), (0, 0, 0), (1, 27, 0), (1, 28, 0), (1, 29, 0), (1, 30, 0), (0, 0, 0), (1, 31, 0), (1, 32, 0), (1, 33, 0), (1, 34, 0), (1, 35, 0), (0, 0, 0), (0, 0, 0), (0, 0, 0), (0, 0, 0), (0, 0, 0), (1, 36, 0), (1, 37, 0), (1, 38, 0), (1, 39, 0), (1, 40, 0), (1, 41, 0), (1, 42, 0), (1, 43, 0), (1, 44, 0), (1, 45, 0), (1, 46, 0), (1, 47, 0), (1, 48, 0)]), .inr (0, 6), .inr (0, 6), .inr (0, 6), .inr (0, 3), .inr (0, 3), .inr (0, 9), .inr (0, 9), .inr (0, 9), .inr (2, 30), .inr (0, 3), .inr (2, 3), .inr (2, 3), .inr (0, 80), .inr (0, 80), .inr (0, 80), .inr (0, 80), .inr (2, 80), .inr (0, 24), .inr (0, 24), .inr (0, 24), .inr (0, 24), .inr (0, 24), .inr (0, 96), .inr (0, 96), .inr (0, 96), .inr (0, 8), .inr (0, 21600), .inr (0, 400), .inr (0, 400), .inr (0, 400), .inr (0, 401), .inr (0, 6000), .inr (0, 6000), .inr (0, 6000), .inr (0, 6000), .inr (0, 54), .inr (0, 80), .inr (0, 4), .inr (2, 80), .inr (2, 400), .inr (2, 400), .inr (2, 400), .inr (2, 400), .inr (2, 400), .inr (0, 400), .inr (0, 400), .inr (1, 2800), .inr (0, 3200)]
theorem fM_0_0 : hp_sh SM 0 12 0 (0, 0, 0) := ⟨_, rfl, rfl⟩
theorem fM_0_1 : hp_sh SM 0 12 1 (1, 1, 0) := ⟨_, rfl, rfl⟩
theorem fM_0_2 : hp_sh SM 0 12 2 (1, 2, 0) := ⟨_, rfl, rfl⟩
theorem fM_0_3 : hp_sh SM 0 12 3 (1, 3, 0) := ⟨_, rfl, rfl⟩
theorem fM_0_4 : hp_sh SM 0 12 4 (0, 0, 0) := ⟨_, rfl, rfl⟩
theorem fM_0_5 : hp_sh SM 0 12 5 (1, 4, 0) := ⟨_, rfl, rfl⟩
theorem fM_0_6 : hp_sh SM 0 12 6 (1, 5, 0) := ⟨_, rfl, rfl⟩
theorem fM_0_7 : hp_sh SM 0 12 7 (1, 6, 0) := ⟨_, rfl, rfl⟩
theorem fM_0_8 : hp_sh SM 0 12 8 (1, 7, 0) := ⟨_, rfl, rfl⟩
theorem fM_0_9 : hp_sh SM 0 12 9 (1, 8, 0) := ⟨_, rfl, rfl⟩
theorem fM_0_10 : hp_sh SM 0 12 10 (1, 9, 0) := ⟨_, rfl, rfl⟩
theorem fM_0_11 : hp_sh SM 0 12 11 (0, 0, 0) := ⟨_, rfl, rfl⟩
theorem fM_0_12 : hp_sh SM 0 12 12 (1, 10, 0) := ⟨_, rfl, rfl⟩
theorem fM_0_13 : hp_sh SM 0 12 13 (1, 11, 0) := ⟨_, rfl, rfl⟩
theorem fM_0_14 : hp_sh SM 0 12 14 (1, 12, 0) := ⟨_, rfl, rfl⟩
theorem fM_0_15 : hp_sh SM 0 12 15 (0, 0, 0) := ⟨_, rfl, rfl⟩
theorem fM_0_16 : hp_sh SM 0 12 16 (1, 13, 0) := ⟨_, rfl, rfl⟩
theorem fM_0_17 : hp_sh SM 0 12 17 (1, 14, 0) := ⟨_, rfl, rfl⟩
theorem fM_0_18 : hp_sh SM 0 12 18 (1, 15, 0) := ⟨_, rfl, rfl⟩
theorem fM_0_19 : hp_sh SM 0 12 19 (1, 16, 0) := ⟨_, rfl, rfl⟩
theorem fM_0_20 : hp_sh SM 0 12 20 (1, 17, 0) := ⟨_, rfl, rfl⟩
theorem fM_0_21 : hp_sh SM 0 12 21 (0, 0, 0) := ⟨_, rfl, rfl⟩
theorem fM_0_22 : hp_sh SM 0 12 22 (1, 18, 0) := ⟨_, rfl, rfl⟩
theorem fM_0_23 : hp_sh SM 0 12 23 (1, 19, 0) := ⟨_, rfl, rfl⟩
theorem fM_0_24 : hp_sh SM 0 12 24 (1, 20, 0) := ⟨_, rfl, rfl⟩
theorem fM_0_25 : hp_sh SM 0 12 25 (1, 21, 0) := ⟨_, rfl, rfl⟩
theorem fM_0_26 : hp_sh SM 0 12 26 (1, 22, 0) := ⟨_, rfl, rfl⟩
theorem fM_0_27 : hp_sh SM 0 12 27 (1, 23, 0) := ⟨_, rfl, rfl⟩
theorem fM_0_28 : hp_sh SM 0 12 28 (1, 24, 0) := ⟨_, rfl, rfl⟩
theorem fM_0_29 : hp_sh SM 0 12 29 (1, 25, 0) := ⟨_, rfl, rfl⟩
theorem fM_0_30 : hp_sh SM 0 12 30 (0, 0, 0) := ⟨_, rfl, rfl⟩
theorem fM_0_31 : hp_sh SM 0 12 31 (0, 0, 0) := ⟨_, rfl, rfl⟩
theorem fM_0_32 : hp_sh SM 0 12 32 (1, 26, 0) := ⟨_, rfl, rfl⟩
theorem fM_0_33 : hp_sh SM 0 12 33 (0, 0, 0) := ⟨_, rfl, rfl⟩
theorem fM_0_34 : hp_sh SM 0 12 34 (0, 0, 0) := ⟨_, rfl, rfl⟩
theorem fM_0_35 : hp_sh SM 0 12 35 (0, 0, 0) := ⟨_, rfl, rfl⟩
theorem fM_0_36 : hp_sh SM 0 12 36 (1, 27, 0) := ⟨_, rfl, rfl⟩
theorem fM_0_37 : hp_sh SM 0 12 37 (1, 28, 0) := ⟨_, rfl, rfl⟩
theorem fM_0_38 : hp_sh SM 0 12 38 (1, 29, 0) := ⟨_, rfl, rfl⟩
theorem fM_0_39 : hp_sh SM 0 12 39 (1, 30, 0) := ⟨_, rfl, rfl⟩
theorem fM_0_40 : hp_sh SM 0 12 40 (0, 0, 0) := ⟨_, rfl, rfl⟩
theorem fM_0_41 : hp_sh SM 0 12 41 (1, 31, 0) := ⟨_, rfl, rfl⟩
theorem fM_0_42 : hp_sh SM 0 12 42 (1, 32, 0) := ⟨_, rfl, rfl⟩
theorem fM_0_43 : hp_sh SM 0 12 43 (1, 33, 0) := ⟨_, rfl, rfl⟩
theorem fM_0_44 : hp_sh SM 0 12 44 (1, 34, 0) := ⟨_, rfl, rfl⟩
theorem fM_0_45 : hp_sh SM 0 12 45 (1, 35, 0) := ⟨_, rfl, rfl⟩
theorem fM_0_46 : hp_sh SM 0 12 46 (0, 0, 0) := ⟨_, rfl, rfl⟩
theorem fM_0_47 : hp_sh SM 0 12 47 (0, 0, 0) := ⟨_, rfl, rfl⟩
theorem fM_0_48 : hp_sh SM 0 12 48 (0, 0, 0) := ⟨_, rfl, rfl⟩
theorem fM_0_49 : hp_sh SM 0 12 49 (0, 0, 0) := ⟨_, rfl, rfl⟩
theorem fM_0_50 : hp_sh SM 0 12 50 (0, 0, 0) := ⟨_, rfl, rfl⟩
theorem fM_0_51 : hp_sh SM 0 12 51 (1, 36, 0) := ⟨_, rfl, rfl⟩
theorem fM_0_52 : hp_sh SM 0 12 52 (1, 37, 0) := ⟨_, rfl, rfl⟩
theorem fM_0_53 : hp_sh SM 0 12 53 (1, 38, 0) := ⟨_, rfl, rfl⟩
theorem fM_0_54 : hp_sh SM 0 12 54 (1, 39, 0) := ⟨_, rfl, rfl⟩
theorem fM_0_55 : hp_sh SM 0 12 55 (1, 40, 0) := ⟨_, rfl, rfl⟩
theorem fM_0_56 : hp_sh SM 0 12 56 (1, 41, 0) := ⟨_, rfl, rfl⟩
theorem fM_0_57 : hp_sh SM 0 12 57 (1, 42, 0) := ⟨_, rfl, rfl⟩
theorem fM_0_58 : hp_sh SM 0 12 58 (1, 43, 0) := ⟨_, rfl, rfl⟩
theorem fM_0_59 : hp_sh SM 0 12 59 (1, 44, 0) := ⟨_, rfl, rfl⟩
theorem fM_0_60 : hp_sh SM 0 12 60 (1, 45, 0) := ⟨_, rfl, rfl⟩
theorem fM_0_61 : hp_sh SM 0 12 61 (1, 46, 0) := ⟨_, rfl, rfl⟩
theorem fM_0_62 : hp_sh SM 0 12 62 (1, 47, 0) := ⟨_, rfl, rfl⟩
theorem fM_0_63 : hp_sh SM 0 12 63 (1, 48, 0) := ⟨_, rfl, rfl⟩
theorem aM_1 : SM[1]? = some (.inr (0, 6)) := rfl
theorem zM_1 : 1 ≠ hp_V := by decide
theorem aM_2 : SM[2]? = some (.inr (0, 6)) := rfl
theorem zM_2 : 2 ≠ hp_V := by decide
theorem aM_3 : SM[3]? = some (.inr (0, 6)) := rfl
theorem zM_3 : 3 ≠ hp_V := by decide
theorem aM_4 : SM[4]? = some (.inr (0, 3)) := rfl
theorem zM_4 : 4 ≠ hp_V := by decide
theorem aM_5 : SM[5]? = some (.inr (0, 3)) := rfl
theorem zM_5 : 5 ≠ hp_V := by decide
theorem aM_6 : SM[6]? = some (.inr (0, 9)) := rfl
theorem zM_6 : 6 ≠ hp_V := by decide
theorem aM_7 : SM[7]? = some (.inr (0, 9)) := rfl
theorem zM_7 : 7 ≠ hp_V := by decide
theorem aM_8 : SM[8]? = some (.inr (0, 9)) := rfl
theorem zM_8 : 8 ≠ hp_V := by decide
theorem aM_9 : SM[9]? = some (.inr (2, 30)) := rfl
theorem zM_9 : 9 ≠ hp_V := by decide
theorem aM_10 : SM[10]? = some (.inr (0, 3)) := rfl
theorem zM_10 : 10 ≠ hp_V := by decide
theorem aM_11 : SM[11]? = some (.inr (2, 3)) := rfl
theorem zM_11 : 11 ≠ hp_V := by decide
theorem aM_12 : SM[12]? = some (.inr (2, 3)) := rfl
theorem zM_12 : 12 ≠ hp_V := by decide
theorem aM_13 : SM[13]? = some (.inr (0, 80)) := rfl
theorem zM_13 : 13 ≠ hp_V := by decide
theorem aM_14 : SM[14]? = some (.inr (0, 80)) := rfl
theorem zM_14 : 14 ≠ hp_V := by decide
theorem aM_15 : SM[15]? = some (.inr (0, 80)) := rfl
theorem zM_15 : 15 ≠ hp_V := by decide
theorem aM_16 : SM[16]? = some (.inr (0, 80)) := rfl
theorem zM_16 : 16 ≠ hp_V := by decide
theorem aM_17 : SM[17]? = some (.inr (2, 80)) := rfl
theorem zM_17 : 17 ≠ hp_V := by decide
theorem aM_18 : SM[18]? = some (.inr (0, 24)) := rfl
theorem zM_18 : 18 ≠ hp_V := by decide
theorem aM_19 : SM[19]? = some (.inr (0, 24)) := rfl
theorem zM_19 : 19 ≠ hp_V := by decide
theorem aM_20 : SM[20]? = some (.inr (0, 24)) := rfl
theorem zM_20 : 20 ≠ hp_V := by decide
theorem aM_21 : SM[21]? = some (.inr (0, 24)) := rfl
theorem zM_21 : 21 ≠ hp_V := by decide
theorem aM_22 : SM[22]? = some (.inr (0, 24)) := rfl
theorem zM_22 : 22 ≠ hp_V := by decide
theorem aM_23 : SM[23]? = some (.inr (0, 96)) := rfl
theorem zM_23 : 23 ≠ hp_V := by decide
theorem aM_24 : SM[24]? = some (.inr (0, 96)) := rfl
theorem zM_24 : 24 ≠ hp_V := by decide
theorem aM_25 : SM[25]? = some (.inr (0, 96)) := rfl
theorem zM_25 : 25 ≠ hp_V := by decide
theorem aM_26 : SM[26]? = some (.inr (0, 8)) := rfl
theorem zM_26 : 26 ≠ hp_V := by decide
theorem aM_27 : SM[27]? = some (.inr (0, 21600)) := rfl
theorem zM_27 : 27 ≠ hp_V := by decide
theorem aM_28 : SM[28]? = some (.inr (0, 400)) := rfl
theorem zM_28 : 28 ≠ hp_V := by decide
theorem aM_29 : SM[29]? = some (.inr (0, 400)) := rfl
theorem zM_29 : 29 ≠ hp_V := by decide
theorem aM_30 : SM[30]? = some (.inr (0, 400)) := rfl
theorem zM_30 : 30 ≠ hp_V := by decide
theorem aM_31 : SM[31]? = some (.inr (0, 401)) := rfl
theorem zM_31 : 31 ≠ hp_V := by decide
theorem aM_32 : SM[32]? = some (.inr (0, 6000)) := rfl
theorem zM_32 : 32 ≠ hp_V := by decide
theorem aM_33 : SM[33]? = some (.inr (0, 6000)) := rfl
theorem zM_33 : 33 ≠ hp_V := by decide
theorem aM_34 : SM[34]? = some (.inr (0, 6000)) := rfl
theorem zM_34 : 34 ≠ hp_V := by decide
theorem aM_35 : SM[35]? = some (.inr (0, 6000)) := rfl
theorem zM_35 : 35 ≠ hp_V := by decide
theorem aM_36 : SM[36]? = some (.inr (0, 54)) := rfl
theorem zM_36 : 36 ≠ hp_V := by decide
theorem aM_37 : SM[37]? = some (.inr (0, 80)) := rfl
theorem zM_37 : 37 ≠ hp_V := by decide
theorem aM_38 : SM[38]? = some (.inr (0, 4)) := rfl
theorem zM_38 : 38 ≠ hp_V := by decide
theorem aM_39 : SM[39]? = some (.inr (2, 80)) := rfl
theorem zM_39 : 39 ≠ hp_V := by decide
theorem aM_40 : SM[40]? = some (.inr (2, 400)) := rfl
theorem zM_40 : 40 ≠ hp_V := by decide
theorem aM_41 : SM[41]? = some (.inr (2, 400)) := rfl
theorem zM_41 : 41 ≠ hp_V := by decide
theorem aM_42 : SM[42]? = some (.inr (2, 400)) := rfl
theorem zM_42 : 42 ≠ hp_V := by decide
theorem aM_43 : SM[43]? = some (.inr (2, 400)) := rfl
theorem zM_43 : 43 ≠ hp_V := by decide
theorem aM_44 : SM[44]? = some (.inr (2, 400)) := rfl
theorem zM_44 : 44 ≠ hp_V := by decide
theorem aM_45 : SM[45]? = some (.inr (0, 400)) := rfl
theorem zM_45 : 45 ≠ hp_V := by decide
theorem aM_46 : SM[46]? = some (.inr (0, 400)) := rfl
theorem zM_46 : 46 ≠ hp_V := by decide
theorem aM_47 : SM[47]? = some (.inr (1, 2800)) := rfl
theorem zM_47 : 47 ≠ hp_V := by decide
theorem aM_48 : SM[48]? = some (.inr (0, 3200)) := rfl
theorem zM_48 : 48 ≠ hp_V := by decide
theorem pw_a {w : Nat} (h : w = 65 ∨ w = 68) : SB[w]? = some (.inr (0, 400)) := by rcases h with rfl | rfl <;> rfl
theorem pw_z {w : Nat} (h : w = 65 ∨ w = 68) : w ≠ hp_V := by rcases h with rfl | rfl <;> decide
theorem pw_l {w : Nat} (h : w = 65 ∨ w = 68) : 65 ≤ w := by omega
theorem pw_s {w : Nat} (h : w = 65 ∨ w = 68) : w - 65 < 2 ^ 31 := by omega
def hp_mck (y k j : Nat) (S : List hp_S) : Bool := (S.zipIdx).all fun q => match q.1 with
  | .inl o => (o.2.zipIdx).all fun d => !(d.1.1 == 2 && d.1.2.2 == y) || (q.2 == k && d.2 == j)
  | .inr _ => true
theorem hp_mck_ok {S : List hp_S} {y k j : Nat} (h : hp_mck y k j S = true) (i c : Nat) (es : List (Nat × Nat × Nat)) (b z : Nat) (h1 : S[i]? = some (.inl (c, es))) (h2 : es[b]? = some (2, z, y)) : i = k ∧ b = j := by
  have m1 : ((.inl (c, es) : hp_S), i) ∈ S.zipIdx := List.mk_mem_zipIdx_iff_getElem?.mpr h1
  have e1 := List.all_eq_true.mp h _ m1
  have m2 : (((2, z, y) : Nat × Nat × Nat), b) ∈ es.zipIdx := List.mk_mem_zipIdx_iff_getElem?.mpr h2
  have e2 := List.all_eq_true.mp e1 _ m2
  simpa using e2
theorem mut_0 : ∀ (i c : Nat) (es : List (Nat × Nat × Nat)) (b z : Nat), SB[i]? = some (.inl (c, es)) → es[b]? = some (2, z, 0) → i = 64 ∧ b = 2 := hp_mck_ok (S := SB) (y := 0) (k := 64) (j := 2) (by decide +kernel)
theorem mut_1 : ∀ (i c : Nat) (es : List (Nat × Nat × Nat)) (b z : Nat), SB[i]? = some (.inl (c, es)) → es[b]? = some (2, z, 1) → i = 64 ∧ b = 7 := hp_mck_ok (S := SB) (y := 1) (k := 64) (j := 7) (by decide +kernel)
theorem vcl_0 : vwCl[0]? = some (RX0, TX0, 12) := rfl
theorem vcl_1 : vwCl[1]? = some (RX1, TX1, 10) := rfl
theorem vcl_2 : vwCl[2]? = some (RX2, TX2, 16) := rfl
theorem vcl_3 : vwCl[3]? = some (RX3, TX3, 20) := rfl
theorem vcl_4 : vwCl[4]? = some (RX4, TX4, 10) := rfl
theorem vcl_5 : vwCl[5]? = some (RX5, TX5, 3) := rfl
theorem vcl_6 : vwCl[6]? = some (RX6, TX6, 3) := rfl
theorem vcl_7 : vwCl[7]? = some (RX7, TX7, 1) := rfl
theorem vcl_8 : vwCl[8]? = some (RX8, TX8, 5) := rfl
theorem vcl_9 : vwCl[9]? = some (RX9, TX9, 9) := rfl
theorem vcl_10 : vwCl[10]? = some (RX10, TX10, 5) := rfl
theorem vcl_11 : vwCl[11]? = some (RX11, TX11, 6) := rfl
theorem vcl_12 : vwCl[12]? = some (RX12, TX12, 64) := rfl
theorem in_0 : ∀ w ∈ u_ws RX0 TX0 12, w ∈ hp_tbl := by decide +kernel
theorem in_1 : ∀ w ∈ u_ws RX1 TX1 10, w ∈ hp_tbl := by decide +kernel
theorem in_2 : ∀ w ∈ u_ws RX2 TX2 16, w ∈ hp_tbl := by decide +kernel
theorem in_3 : ∀ w ∈ u_ws RX3 TX3 20, w ∈ hp_tbl := by decide +kernel
theorem in_4 : ∀ w ∈ u_ws RX4 TX4 10, w ∈ hp_tbl := by decide +kernel
theorem in_5 : ∀ w ∈ u_ws RX5 TX5 3, w ∈ hp_tbl := by decide +kernel
theorem in_6 : ∀ w ∈ u_ws RX6 TX6 3, w ∈ hp_tbl := by decide +kernel
theorem in_7 : ∀ w ∈ u_ws RX7 TX7 1, w ∈ hp_tbl := by decide +kernel
theorem in_8 : ∀ w ∈ u_ws RX8 TX8 5, w ∈ hp_tbl := by decide +kernel
theorem in_9 : ∀ w ∈ u_ws RX9 TX9 9, w ∈ hp_tbl := by decide +kernel
theorem in_10 : ∀ w ∈ u_ws RX10 TX10 5, w ∈ hp_tbl := by decide +kernel
theorem in_11 : ∀ w ∈ u_ws RX11 TX11 6, w ∈ hp_tbl := by decide +kernel
theorem in_12 : ∀ w ∈ u_ws RX12 TX12 64, w ∈ hp_tbl := by decide +kernel
