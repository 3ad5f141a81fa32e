/-! ===== the class is made ===== -/
theorem dX0_init_0 : decode cX0_init 0 = .ok (.aload_n 0, 1) := by decide +kernel
theorem dX0_init_1 : decode cX0_init 1 = .ok (.invokespecial 5, 3) := by decide +kernel
theorem dX0_init_4 : decode cX0_init 4 = .ok (.aload_n 0, 1) := by decide +kernel
theorem dX0_init_5 : decode cX0_init 5 = .ok (.sipush 400, 3) := by decide +kernel
theorem dX0_init_8 : decode cX0_init 8 = .ok (.newarray .int, 2) := by decide +kernel
theorem dX0_init_10 : decode cX0_init 10 = .ok (.putfield 11, 3) := by decide +kernel
theorem dX0_init_13 : decode cX0_init 13 = .ok (.aload_n 0, 1) := by decide +kernel
theorem dX0_init_14 : decode cX0_init 14 = .ok (.bipush 8, 2) := by decide +kernel
theorem dX0_init_16 : decode cX0_init 16 = .ok (.newarray .int, 2) := by decide +kernel
theorem dX0_init_18 : decode cX0_init 18 = .ok (.putfield 15, 3) := by decide +kernel
theorem dX0_init_21 : decode cX0_init 21 = .ok (.aload_n 0, 1) := by decide +kernel
theorem dX0_init_22 : decode cX0_init 22 = .ok (.sipush 5200, 3) := by decide +kernel
theorem dX0_init_25 : decode cX0_init 25 = .ok (.newarray .int, 2) := by decide +kernel
theorem dX0_init_27 : decode cX0_init 27 = .ok (.putfield 18, 3) := by decide +kernel
theorem dX0_init_30 : decode cX0_init 30 = .ok (.aload_n 0, 1) := by decide +kernel
theorem dX0_init_31 : decode cX0_init 31 = .ok (.sipush 400, 3) := by decide +kernel
theorem dX0_init_34 : decode cX0_init 34 = .ok (.newarray .int, 2) := by decide +kernel
theorem dX0_init_36 : decode cX0_init 36 = .ok (.putfield 21, 3) := by decide +kernel
theorem dX0_init_39 : decode cX0_init 39 = .ok (.aload_n 0, 1) := by decide +kernel
theorem dX0_init_40 : decode cX0_init 40 = .ok (.sipush 400, 3) := by decide +kernel
theorem dX0_init_43 : decode cX0_init 43 = .ok (.newarray .int, 2) := by decide +kernel
theorem dX0_init_45 : decode cX0_init 45 = .ok (.putfield 24, 3) := by decide +kernel
theorem dX0_init_48 : decode cX0_init 48 = .ok (.aload_n 0, 1) := by decide +kernel
theorem dX0_init_49 : decode cX0_init 49 = .ok (.sipush 400, 3) := by decide +kernel
theorem dX0_init_52 : decode cX0_init 52 = .ok (.newarray .int, 2) := by decide +kernel
theorem dX0_init_54 : decode cX0_init 54 = .ok (.putfield 27, 3) := by decide +kernel
theorem dX0_init_57 : decode cX0_init 57 = .ok (.aload_n 0, 1) := by decide +kernel
theorem dX0_init_58 : decode cX0_init 58 = .ok (.sipush 400, 3) := by decide +kernel
theorem dX0_init_61 : decode cX0_init 61 = .ok (.newarray .int, 2) := by decide +kernel
theorem dX0_init_63 : decode cX0_init 63 = .ok (.putfield 30, 3) := by decide +kernel
theorem dX0_init_66 : decode cX0_init 66 = .ok (.aload_n 0, 1) := by decide +kernel
theorem dX0_init_67 : decode cX0_init 67 = .ok (.aload_n 1, 1) := by decide +kernel
theorem dX0_init_68 : decode cX0_init 68 = .ok (.putfield 33, 3) := by decide +kernel
theorem dX0_init_71 : decode cX0_init 71 = .ok (.aload_n 0, 1) := by decide +kernel
theorem dX0_init_72 : decode cX0_init 72 = .ok (.aload_n 2, 1) := by decide +kernel
theorem dX0_init_73 : decode cX0_init 73 = .ok (.putfield 37, 3) := by decide +kernel
theorem dX0_init_76 : decode cX0_init 76 = .ok (.return_, 1) := by decide +kernel
theorem dX1_init_0 : decode cX1_init 0 = .ok (.aload_n 0, 1) := by decide +kernel
theorem dX1_init_1 : decode cX1_init 1 = .ok (.invokespecial 3, 3) := by decide +kernel
theorem dX1_init_4 : decode cX1_init 4 = .ok (.aload_n 0, 1) := by decide +kernel
theorem dX1_init_5 : decode cX1_init 5 = .ok (.bipush 80, 2) := by decide +kernel
theorem dX1_init_7 : decode cX1_init 7 = .ok (.newarray .int, 2) := by decide +kernel
theorem dX1_init_9 : decode cX1_init 9 = .ok (.putfield 9, 3) := by decide +kernel
theorem dX1_init_12 : decode cX1_init 12 = .ok (.aload_n 0, 1) := by decide +kernel
theorem dX1_init_13 : decode cX1_init 13 = .ok (.bipush 80, 2) := by decide +kernel
theorem dX1_init_15 : decode cX1_init 15 = .ok (.newarray .int, 2) := by decide +kernel
theorem dX1_init_17 : decode cX1_init 17 = .ok (.putfield 15, 3) := by decide +kernel
theorem dX1_init_20 : decode cX1_init 20 = .ok (.aload_n 0, 1) := by decide +kernel
theorem dX1_init_21 : decode cX1_init 21 = .ok (.bipush 80, 2) := by decide +kernel
theorem dX1_init_23 : decode cX1_init 23 = .ok (.newarray .int, 2) := by decide +kernel
theorem dX1_init_25 : decode cX1_init 25 = .ok (.putfield 18, 3) := by decide +kernel
theorem dX1_init_28 : decode cX1_init 28 = .ok (.aload_n 0, 1) := by decide +kernel
theorem dX1_init_29 : decode cX1_init 29 = .ok (.bipush 80, 2) := by decide +kernel
theorem dX1_init_31 : decode cX1_init 31 = .ok (.newarray .int, 2) := by decide +kernel
theorem dX1_init_33 : decode cX1_init 33 = .ok (.putfield 21, 3) := by decide +kernel
theorem dX1_init_36 : decode cX1_init 36 = .ok (.aload_n 0, 1) := by decide +kernel
theorem dX1_init_37 : decode cX1_init 37 = .ok (.bipush 80, 2) := by decide +kernel
theorem dX1_init_39 : decode cX1_init 39 = .ok (.newarray .int, 2) := by decide +kernel
theorem dX1_init_41 : decode cX1_init 41 = .ok (.putfield 24, 3) := by decide +kernel
theorem dX1_init_44 : decode cX1_init 44 = .ok (.aload_n 0, 1) := by decide +kernel
theorem dX1_init_45 : decode cX1_init 45 = .ok (.bipush 80, 2) := by decide +kernel
theorem dX1_init_47 : decode cX1_init 47 = .ok (.newarray .int, 2) := by decide +kernel
theorem dX1_init_49 : decode cX1_init 49 = .ok (.putfield 27, 3) := by decide +kernel
theorem dX1_init_52 : decode cX1_init 52 = .ok (.aload_n 0, 1) := by decide +kernel
theorem dX1_init_53 : decode cX1_init 53 = .ok (.bipush 80, 2) := by decide +kernel
theorem dX1_init_55 : decode cX1_init 55 = .ok (.newarray .boolean, 2) := by decide +kernel
theorem dX1_init_57 : decode cX1_init 57 = .ok (.putfield 30, 3) := by decide +kernel
theorem dX1_init_60 : decode cX1_init 60 = .ok (.aload_n 0, 1) := by decide +kernel
theorem dX1_init_61 : decode cX1_init 61 = .ok (.aload_n 1, 1) := by decide +kernel
theorem dX1_init_62 : decode cX1_init 62 = .ok (.putfield 34, 3) := by decide +kernel
theorem dX1_init_65 : decode cX1_init 65 = .ok (.return_, 1) := by decide +kernel
theorem dX2_init_0 : decode cX2_init 0 = .ok (.aload_n 0, 1) := by decide +kernel
theorem dX2_init_1 : decode cX2_init 1 = .ok (.invokespecial 3, 3) := by decide +kernel
theorem dX2_init_4 : decode cX2_init 4 = .ok (.aload_n 0, 1) := by decide +kernel
theorem dX2_init_5 : decode cX2_init 5 = .ok (.iconst (-1), 1) := by decide +kernel
theorem dX2_init_6 : decode cX2_init 6 = .ok (.putfield 9, 3) := by decide +kernel
theorem dX2_init_9 : decode cX2_init 9 = .ok (.aload_n 0, 1) := by decide +kernel
theorem dX2_init_10 : decode cX2_init 10 = .ok (.iconst (-1), 1) := by decide +kernel
theorem dX2_init_11 : decode cX2_init 11 = .ok (.putfield 15, 3) := by decide +kernel
theorem dX2_init_14 : decode cX2_init 14 = .ok (.aload_n 0, 1) := by decide +kernel
theorem dX2_init_15 : decode cX2_init 15 = .ok (.iconst (-1), 1) := by decide +kernel
theorem dX2_init_16 : decode cX2_init 16 = .ok (.putfield 18, 3) := by decide +kernel
theorem dX2_init_19 : decode cX2_init 19 = .ok (.aload_n 0, 1) := by decide +kernel
theorem dX2_init_20 : decode cX2_init 20 = .ok (.iconst (-1), 1) := by decide +kernel
theorem dX2_init_21 : decode cX2_init 21 = .ok (.putfield 21, 3) := by decide +kernel
theorem dX2_init_24 : decode cX2_init 24 = .ok (.aload_n 0, 1) := by decide +kernel
theorem dX2_init_25 : decode cX2_init 25 = .ok (.sipush 401, 3) := by decide +kernel
theorem dX2_init_28 : decode cX2_init 28 = .ok (.newarray .int, 2) := by decide +kernel
theorem dX2_init_30 : decode cX2_init 30 = .ok (.putfield 24, 3) := by decide +kernel
theorem dX2_init_33 : decode cX2_init 33 = .ok (.aload_n 0, 1) := by decide +kernel
theorem dX2_init_34 : decode cX2_init 34 = .ok (.sipush 6000, 3) := by decide +kernel
theorem dX2_init_37 : decode cX2_init 37 = .ok (.newarray .int, 2) := by decide +kernel
theorem dX2_init_39 : decode cX2_init 39 = .ok (.putfield 28, 3) := by decide +kernel
theorem dX2_init_42 : decode cX2_init 42 = .ok (.aload_n 0, 1) := by decide +kernel
theorem dX2_init_43 : decode cX2_init 43 = .ok (.sipush 400, 3) := by decide +kernel
theorem dX2_init_46 : decode cX2_init 46 = .ok (.newarray .int, 2) := by decide +kernel
theorem dX2_init_48 : decode cX2_init 48 = .ok (.putfield 31, 3) := by decide +kernel
theorem dX2_init_51 : decode cX2_init 51 = .ok (.aload_n 0, 1) := by decide +kernel
theorem dX2_init_52 : decode cX2_init 52 = .ok (.sipush 400, 3) := by decide +kernel
theorem dX2_init_55 : decode cX2_init 55 = .ok (.newarray .int, 2) := by decide +kernel
theorem dX2_init_57 : decode cX2_init 57 = .ok (.putfield 34, 3) := by decide +kernel
theorem dX2_init_60 : decode cX2_init 60 = .ok (.aload_n 0, 1) := by decide +kernel
theorem dX2_init_61 : decode cX2_init 61 = .ok (.sipush 400, 3) := by decide +kernel
theorem dX2_init_64 : decode cX2_init 64 = .ok (.newarray .int, 2) := by decide +kernel
theorem dX2_init_66 : decode cX2_init 66 = .ok (.putfield 37, 3) := by decide +kernel
theorem dX2_init_69 : decode cX2_init 69 = .ok (.aload_n 0, 1) := by decide +kernel
theorem dX2_init_70 : decode cX2_init 70 = .ok (.sipush 6000, 3) := by decide +kernel
theorem dX2_init_73 : decode cX2_init 73 = .ok (.newarray .int, 2) := by decide +kernel
theorem dX2_init_75 : decode cX2_init 75 = .ok (.putfield 40, 3) := by decide +kernel
theorem dX2_init_78 : decode cX2_init 78 = .ok (.aload_n 0, 1) := by decide +kernel
theorem dX2_init_79 : decode cX2_init 79 = .ok (.sipush 5200, 3) := by decide +kernel
theorem dX2_init_82 : decode cX2_init 82 = .ok (.newarray .int, 2) := by decide +kernel
theorem dX2_init_84 : decode cX2_init 84 = .ok (.putfield 45, 3) := by decide +kernel
theorem dX2_init_87 : decode cX2_init 87 = .ok (.aload_n 0, 1) := by decide +kernel
theorem dX2_init_88 : decode cX2_init 88 = .ok (.sipush 1024, 3) := by decide +kernel
theorem dX2_init_91 : decode cX2_init 91 = .ok (.newarray .int, 2) := by decide +kernel
theorem dX2_init_93 : decode cX2_init 93 = .ok (.putfield 48, 3) := by decide +kernel
theorem dX2_init_96 : decode cX2_init 96 = .ok (.return_, 1) := by decide +kernel
theorem dX3_init_0 : decode cX3_init 0 = .ok (.aload_n 0, 1) := by decide +kernel
theorem dX3_init_1 : decode cX3_init 1 = .ok (.invokespecial 3, 3) := by decide +kernel
theorem dX3_init_4 : decode cX3_init 4 = .ok (.aload_n 0, 1) := by decide +kernel
theorem dX3_init_5 : decode cX3_init 5 = .ok (.sipush 400, 3) := by decide +kernel
theorem dX3_init_8 : decode cX3_init 8 = .ok (.newarray .boolean, 2) := by decide +kernel
theorem dX3_init_10 : decode cX3_init 10 = .ok (.putfield 9, 3) := by decide +kernel
theorem dX3_init_13 : decode cX3_init 13 = .ok (.aload_n 0, 1) := by decide +kernel
theorem dX3_init_14 : decode cX3_init 14 = .ok (.sipush 400, 3) := by decide +kernel
theorem dX3_init_17 : decode cX3_init 17 = .ok (.newarray .boolean, 2) := by decide +kernel
theorem dX3_init_19 : decode cX3_init 19 = .ok (.putfield 15, 3) := by decide +kernel
theorem dX3_init_22 : decode cX3_init 22 = .ok (.aload_n 0, 1) := by decide +kernel
theorem dX3_init_23 : decode cX3_init 23 = .ok (.sipush 400, 3) := by decide +kernel
theorem dX3_init_26 : decode cX3_init 26 = .ok (.newarray .boolean, 2) := by decide +kernel
theorem dX3_init_28 : decode cX3_init 28 = .ok (.putfield 18, 3) := by decide +kernel
theorem dX3_init_31 : decode cX3_init 31 = .ok (.aload_n 0, 1) := by decide +kernel
theorem dX3_init_32 : decode cX3_init 32 = .ok (.sipush 400, 3) := by decide +kernel
theorem dX3_init_35 : decode cX3_init 35 = .ok (.newarray .boolean, 2) := by decide +kernel
theorem dX3_init_37 : decode cX3_init 37 = .ok (.putfield 21, 3) := by decide +kernel
theorem dX3_init_40 : decode cX3_init 40 = .ok (.aload_n 0, 1) := by decide +kernel
theorem dX3_init_41 : decode cX3_init 41 = .ok (.sipush 400, 3) := by decide +kernel
theorem dX3_init_44 : decode cX3_init 44 = .ok (.newarray .int, 2) := by decide +kernel
theorem dX3_init_46 : decode cX3_init 46 = .ok (.putfield 24, 3) := by decide +kernel
theorem dX3_init_49 : decode cX3_init 49 = .ok (.aload_n 0, 1) := by decide +kernel
theorem dX3_init_50 : decode cX3_init 50 = .ok (.sipush 400, 3) := by decide +kernel
theorem dX3_init_53 : decode cX3_init 53 = .ok (.newarray .int, 2) := by decide +kernel
theorem dX3_init_55 : decode cX3_init 55 = .ok (.putfield 28, 3) := by decide +kernel
theorem dX3_init_58 : decode cX3_init 58 = .ok (.aload_n 0, 1) := by decide +kernel
theorem dX3_init_59 : decode cX3_init 59 = .ok (.sipush 400, 3) := by decide +kernel
theorem dX3_init_62 : decode cX3_init 62 = .ok (.newarray .int, 2) := by decide +kernel
theorem dX3_init_64 : decode cX3_init 64 = .ok (.putfield 31, 3) := by decide +kernel
theorem dX3_init_67 : decode cX3_init 67 = .ok (.aload_n 0, 1) := by decide +kernel
theorem dX3_init_68 : decode cX3_init 68 = .ok (.sipush 400, 3) := by decide +kernel
theorem dX3_init_71 : decode cX3_init 71 = .ok (.newarray .int, 2) := by decide +kernel
theorem dX3_init_73 : decode cX3_init 73 = .ok (.putfield 34, 3) := by decide +kernel
theorem dX3_init_76 : decode cX3_init 76 = .ok (.aload_n 0, 1) := by decide +kernel
theorem dX3_init_77 : decode cX3_init 77 = .ok (.sipush 400, 3) := by decide +kernel
theorem dX3_init_80 : decode cX3_init 80 = .ok (.newarray .int, 2) := by decide +kernel
theorem dX3_init_82 : decode cX3_init 82 = .ok (.putfield 37, 3) := by decide +kernel
theorem dX3_init_85 : decode cX3_init 85 = .ok (.aload_n 0, 1) := by decide +kernel
theorem dX3_init_86 : decode cX3_init 86 = .ok (.sipush 400, 3) := by decide +kernel
theorem dX3_init_89 : decode cX3_init 89 = .ok (.newarray .int, 2) := by decide +kernel
theorem dX3_init_91 : decode cX3_init 91 = .ok (.putfield 40, 3) := by decide +kernel
theorem dX3_init_94 : decode cX3_init 94 = .ok (.aload_n 0, 1) := by decide +kernel
theorem dX3_init_95 : decode cX3_init 95 = .ok (.aload_n 1, 1) := by decide +kernel
theorem dX3_init_96 : decode cX3_init 96 = .ok (.putfield 43, 3) := by decide +kernel
theorem dX3_init_99 : decode cX3_init 99 = .ok (.aload_n 0, 1) := by decide +kernel
theorem dX3_init_100 : decode cX3_init 100 = .ok (.aload_n 2, 1) := by decide +kernel
theorem dX3_init_101 : decode cX3_init 101 = .ok (.putfield 47, 3) := by decide +kernel
theorem dX3_init_104 : decode cX3_init 104 = .ok (.aload_n 0, 1) := by decide +kernel
theorem dX3_init_105 : decode cX3_init 105 = .ok (.aload_n 3, 1) := by decide +kernel
theorem dX3_init_106 : decode cX3_init 106 = .ok (.putfield 51, 3) := by decide +kernel
theorem dX3_init_109 : decode cX3_init 109 = .ok (.return_, 1) := by decide +kernel
theorem dX4_init_0 : decode cX4_init 0 = .ok (.aload_n 0, 1) := by decide +kernel
theorem dX4_init_1 : decode cX4_init 1 = .ok (.invokespecial 3, 3) := by decide +kernel
theorem dX4_init_4 : decode cX4_init 4 = .ok (.aload_n 0, 1) := by decide +kernel
theorem dX4_init_5 : decode cX4_init 5 = .ok (.new 9, 3) := by decide +kernel
theorem dX4_init_8 : decode cX4_init 8 = .ok (.dup, 1) := by decide +kernel
theorem dX4_init_9 : decode cX4_init 9 = .ok (.iconst 1, 1) := by decide +kernel
theorem dX4_init_10 : decode cX4_init 10 = .ok (.bipush 6, 2) := by decide +kernel
theorem dX4_init_12 : decode cX4_init 12 = .ok (.invokespecial 11, 3) := by decide +kernel
theorem dX4_init_15 : decode cX4_init 15 = .ok (.putfield 14, 3) := by decide +kernel
theorem dX4_init_18 : decode cX4_init 18 = .ok (.aload_n 0, 1) := by decide +kernel
theorem dX4_init_19 : decode cX4_init 19 = .ok (.new 9, 3) := by decide +kernel
theorem dX4_init_22 : decode cX4_init 22 = .ok (.dup, 1) := by decide +kernel
theorem dX4_init_23 : decode cX4_init 23 = .ok (.iconst 3, 1) := by decide +kernel
theorem dX4_init_24 : decode cX4_init 24 = .ok (.iconst 3, 1) := by decide +kernel
theorem dX4_init_25 : decode cX4_init 25 = .ok (.invokespecial 11, 3) := by decide +kernel
theorem dX4_init_28 : decode cX4_init 28 = .ok (.putfield 20, 3) := by decide +kernel
theorem dX4_init_31 : decode cX4_init 31 = .ok (.aload_n 0, 1) := by decide +kernel
theorem dX4_init_32 : decode cX4_init 32 = .ok (.new 23, 3) := by decide +kernel
theorem dX4_init_35 : decode cX4_init 35 = .ok (.dup, 1) := by decide +kernel
theorem dX4_init_36 : decode cX4_init 36 = .ok (.invokespecial 25, 3) := by decide +kernel
theorem dX4_init_39 : decode cX4_init 39 = .ok (.putfield 26, 3) := by decide +kernel
theorem dX4_init_42 : decode cX4_init 42 = .ok (.aload_n 0, 1) := by decide +kernel
theorem dX4_init_43 : decode cX4_init 43 = .ok (.new 30, 3) := by decide +kernel
theorem dX4_init_46 : decode cX4_init 46 = .ok (.dup, 1) := by decide +kernel
theorem dX4_init_47 : decode cX4_init 47 = .ok (.aload_n 0, 1) := by decide +kernel
theorem dX4_init_48 : decode cX4_init 48 = .ok (.getfield 26, 3) := by decide +kernel
theorem dX4_init_51 : decode cX4_init 51 = .ok (.invokespecial 32, 3) := by decide +kernel
theorem dX4_init_54 : decode cX4_init 54 = .ok (.putfield 35, 3) := by decide +kernel
theorem dX4_init_57 : decode cX4_init 57 = .ok (.aload_n 0, 1) := by decide +kernel
theorem dX4_init_58 : decode cX4_init 58 = .ok (.new 39, 3) := by decide +kernel
theorem dX4_init_61 : decode cX4_init 61 = .ok (.dup, 1) := by decide +kernel
theorem dX4_init_62 : decode cX4_init 62 = .ok (.invokespecial 41, 3) := by decide +kernel
theorem dX4_init_65 : decode cX4_init 65 = .ok (.putfield 42, 3) := by decide +kernel
theorem dX4_init_68 : decode cX4_init 68 = .ok (.aload_n 0, 1) := by decide +kernel
theorem dX4_init_69 : decode cX4_init 69 = .ok (.iconst 3, 1) := by decide +kernel
theorem dX4_init_70 : decode cX4_init 70 = .ok (.newarray .int, 2) := by decide +kernel
theorem dX4_init_72 : decode cX4_init 72 = .ok (.putfield 46, 3) := by decide +kernel
theorem dX4_init_75 : decode cX4_init 75 = .ok (.aload_n 0, 1) := by decide +kernel
theorem dX4_init_76 : decode cX4_init 76 = .ok (.iconst 3, 1) := by decide +kernel
theorem dX4_init_77 : decode cX4_init 77 = .ok (.newarray .boolean, 2) := by decide +kernel
theorem dX4_init_79 : decode cX4_init 79 = .ok (.putfield 50, 3) := by decide +kernel
theorem dX4_init_82 : decode cX4_init 82 = .ok (.aload_n 0, 1) := by decide +kernel
theorem dX4_init_83 : decode cX4_init 83 = .ok (.iconst 3, 1) := by decide +kernel
theorem dX4_init_84 : decode cX4_init 84 = .ok (.newarray .boolean, 2) := by decide +kernel
theorem dX4_init_86 : decode cX4_init 86 = .ok (.putfield 54, 3) := by decide +kernel
theorem dX4_init_89 : decode cX4_init 89 = .ok (.return_, 1) := by decide +kernel
theorem dX5_init_0 : decode cX5_init 0 = .ok (.aload_n 0, 1) := by decide +kernel
theorem dX5_init_1 : decode cX5_init 1 = .ok (.invokespecial 3, 3) := by decide +kernel
theorem dX5_init_4 : decode cX5_init 4 = .ok (.aload_n 0, 1) := by decide +kernel
theorem dX5_init_5 : decode cX5_init 5 = .ok (.new 9, 3) := by decide +kernel
theorem dX5_init_8 : decode cX5_init 8 = .ok (.dup, 1) := by decide +kernel
theorem dX5_init_9 : decode cX5_init 9 = .ok (.invokespecial 11, 3) := by decide +kernel
theorem dX5_init_12 : decode cX5_init 12 = .ok (.putfield 12, 3) := by decide +kernel
theorem dX5_init_15 : decode cX5_init 15 = .ok (.aload_n 0, 1) := by decide +kernel
theorem dX5_init_16 : decode cX5_init 16 = .ok (.aload_n 1, 1) := by decide +kernel
theorem dX5_init_17 : decode cX5_init 17 = .ok (.putfield 18, 3) := by decide +kernel
theorem dX5_init_20 : decode cX5_init 20 = .ok (.aload_n 0, 1) := by decide +kernel
theorem dX5_init_21 : decode cX5_init 21 = .ok (.aload_n 2, 1) := by decide +kernel
theorem dX5_init_22 : decode cX5_init 22 = .ok (.putfield 22, 3) := by decide +kernel
theorem dX5_init_25 : decode cX5_init 25 = .ok (.return_, 1) := by decide +kernel
theorem dX6_init_0 : decode cX6_init 0 = .ok (.aload_n 0, 1) := by decide +kernel
theorem dX6_init_1 : decode cX6_init 1 = .ok (.invokespecial 3, 3) := by decide +kernel
theorem dX6_init_4 : decode cX6_init 4 = .ok (.aload_n 0, 1) := by decide +kernel
theorem dX6_init_5 : decode cX6_init 5 = .ok (.iconst 3, 1) := by decide +kernel
theorem dX6_init_6 : decode cX6_init 6 = .ok (.newarray .int, 2) := by decide +kernel
theorem dX6_init_8 : decode cX6_init 8 = .ok (.putfield 9, 3) := by decide +kernel
theorem dX6_init_11 : decode cX6_init 11 = .ok (.aload_n 0, 1) := by decide +kernel
theorem dX6_init_12 : decode cX6_init 12 = .ok (.iconst 3, 1) := by decide +kernel
theorem dX6_init_13 : decode cX6_init 13 = .ok (.newarray .int, 2) := by decide +kernel
theorem dX6_init_15 : decode cX6_init 15 = .ok (.putfield 15, 3) := by decide +kernel
theorem dX6_init_18 : decode cX6_init 18 = .ok (.return_, 1) := by decide +kernel
theorem dX7_init_0 : decode cX7_init 0 = .ok (.aload_n 0, 1) := by decide +kernel
theorem dX7_init_1 : decode cX7_init 1 = .ok (.invokespecial 5, 3) := by decide +kernel
theorem dX7_init_4 : decode cX7_init 4 = .ok (.aload_n 0, 1) := by decide +kernel
theorem dX7_init_5 : decode cX7_init 5 = .ok (.bipush 13, 2) := by decide +kernel
theorem dX7_init_7 : decode cX7_init 7 = .ok (.newarray .int, 2) := by decide +kernel
theorem dX7_init_9 : decode cX7_init 9 = .ok (.putfield 11, 3) := by decide +kernel
theorem dX7_init_12 : decode cX7_init 12 = .ok (.return_, 1) := by decide +kernel
theorem dX8_init_0 : decode cX8_init 0 = .ok (.aload_n 0, 1) := by decide +kernel
theorem dX8_init_1 : decode cX8_init 1 = .ok (.invokespecial 3, 3) := by decide +kernel
theorem dX8_init_4 : decode cX8_init 4 = .ok (.aload_n 0, 1) := by decide +kernel
theorem dX8_init_5 : decode cX8_init 5 = .ok (.new 9, 3) := by decide +kernel
theorem dX8_init_8 : decode cX8_init 8 = .ok (.dup, 1) := by decide +kernel
theorem dX8_init_9 : decode cX8_init 9 = .ok (.invokespecial 11, 3) := by decide +kernel
theorem dX8_init_12 : decode cX8_init 12 = .ok (.putfield 12, 3) := by decide +kernel
theorem dX8_init_15 : decode cX8_init 15 = .ok (.aload_n 0, 1) := by decide +kernel
theorem dX8_init_16 : decode cX8_init 16 = .ok (.new 9, 3) := by decide +kernel
theorem dX8_init_19 : decode cX8_init 19 = .ok (.dup, 1) := by decide +kernel
theorem dX8_init_20 : decode cX8_init 20 = .ok (.invokespecial 11, 3) := by decide +kernel
theorem dX8_init_23 : decode cX8_init 23 = .ok (.putfield 18, 3) := by decide +kernel
theorem dX8_init_26 : decode cX8_init 26 = .ok (.aload_n 0, 1) := by decide +kernel
theorem dX8_init_27 : decode cX8_init 27 = .ok (.iconst 4, 1) := by decide +kernel
theorem dX8_init_28 : decode cX8_init 28 = .ok (.newarray .int, 2) := by decide +kernel
theorem dX8_init_30 : decode cX8_init 30 = .ok (.putfield 21, 3) := by decide +kernel
theorem dX8_init_33 : decode cX8_init 33 = .ok (.aload_n 0, 1) := by decide +kernel
theorem dX8_init_34 : decode cX8_init 34 = .ok (.aload_n 1, 1) := by decide +kernel
theorem dX8_init_35 : decode cX8_init 35 = .ok (.putfield 25, 3) := by decide +kernel
theorem dX8_init_38 : decode cX8_init 38 = .ok (.aload_n 0, 1) := by decide +kernel
theorem dX8_init_39 : decode cX8_init 39 = .ok (.aload_n 2, 1) := by decide +kernel
theorem dX8_init_40 : decode cX8_init 40 = .ok (.putfield 29, 3) := by decide +kernel
theorem dX8_init_43 : decode cX8_init 43 = .ok (.return_, 1) := by decide +kernel
theorem dX9_init_0 : decode cX9_init 0 = .ok (.aload_n 0, 1) := by decide +kernel
theorem dX9_init_1 : decode cX9_init 1 = .ok (.invokespecial 3, 3) := by decide +kernel
theorem dX9_init_4 : decode cX9_init 4 = .ok (.aload_n 0, 1) := by decide +kernel
theorem dX9_init_5 : decode cX9_init 5 = .ok (.bipush 24, 2) := by decide +kernel
theorem dX9_init_7 : decode cX9_init 7 = .ok (.newarray .int, 2) := by decide +kernel
theorem dX9_init_9 : decode cX9_init 9 = .ok (.putfield 9, 3) := by decide +kernel
theorem dX9_init_12 : decode cX9_init 12 = .ok (.aload_n 0, 1) := by decide +kernel
theorem dX9_init_13 : decode cX9_init 13 = .ok (.bipush 24, 2) := by decide +kernel
theorem dX9_init_15 : decode cX9_init 15 = .ok (.newarray .int, 2) := by decide +kernel
theorem dX9_init_17 : decode cX9_init 17 = .ok (.putfield 15, 3) := by decide +kernel
theorem dX9_init_20 : decode cX9_init 20 = .ok (.aload_n 0, 1) := by decide +kernel
theorem dX9_init_21 : decode cX9_init 21 = .ok (.bipush 24, 2) := by decide +kernel
theorem dX9_init_23 : decode cX9_init 23 = .ok (.newarray .int, 2) := by decide +kernel
theorem dX9_init_25 : decode cX9_init 25 = .ok (.putfield 18, 3) := by decide +kernel
theorem dX9_init_28 : decode cX9_init 28 = .ok (.aload_n 0, 1) := by decide +kernel
theorem dX9_init_29 : decode cX9_init 29 = .ok (.bipush 24, 2) := by decide +kernel
theorem dX9_init_31 : decode cX9_init 31 = .ok (.newarray .int, 2) := by decide +kernel
theorem dX9_init_33 : decode cX9_init 33 = .ok (.putfield 21, 3) := by decide +kernel
theorem dX9_init_36 : decode cX9_init 36 = .ok (.aload_n 0, 1) := by decide +kernel
theorem dX9_init_37 : decode cX9_init 37 = .ok (.bipush 24, 2) := by decide +kernel
theorem dX9_init_39 : decode cX9_init 39 = .ok (.newarray .int, 2) := by decide +kernel
theorem dX9_init_41 : decode cX9_init 41 = .ok (.putfield 24, 3) := by decide +kernel
theorem dX9_init_44 : decode cX9_init 44 = .ok (.aload_n 0, 1) := by decide +kernel
theorem dX9_init_45 : decode cX9_init 45 = .ok (.bipush 96, 2) := by decide +kernel
theorem dX9_init_47 : decode cX9_init 47 = .ok (.newarray .int, 2) := by decide +kernel
theorem dX9_init_49 : decode cX9_init 49 = .ok (.putfield 27, 3) := by decide +kernel
theorem dX9_init_52 : decode cX9_init 52 = .ok (.aload_n 0, 1) := by decide +kernel
theorem dX9_init_53 : decode cX9_init 53 = .ok (.bipush 96, 2) := by decide +kernel
theorem dX9_init_55 : decode cX9_init 55 = .ok (.newarray .int, 2) := by decide +kernel
theorem dX9_init_57 : decode cX9_init 57 = .ok (.putfield 30, 3) := by decide +kernel
theorem dX9_init_60 : decode cX9_init 60 = .ok (.aload_n 0, 1) := by decide +kernel
theorem dX9_init_61 : decode cX9_init 61 = .ok (.bipush 96, 2) := by decide +kernel
theorem dX9_init_63 : decode cX9_init 63 = .ok (.newarray .int, 2) := by decide +kernel
theorem dX9_init_65 : decode cX9_init 65 = .ok (.putfield 33, 3) := by decide +kernel
theorem dX9_init_68 : decode cX9_init 68 = .ok (.return_, 1) := by decide +kernel
theorem dX10_init_0 : decode cX10_init 0 = .ok (.aload_n 0, 1) := by decide +kernel
theorem dX10_init_1 : decode cX10_init 1 = .ok (.invokespecial 3, 3) := by decide +kernel
theorem dX10_init_4 : decode cX10_init 4 = .ok (.aload_n 0, 1) := by decide +kernel
theorem dX10_init_5 : decode cX10_init 5 = .ok (.iload_n 2, 1) := by decide +kernel
theorem dX10_init_6 : decode cX10_init 6 = .ok (.putfield 9, 3) := by decide +kernel
theorem dX10_init_9 : decode cX10_init 9 = .ok (.aload_n 0, 1) := by decide +kernel
theorem dX10_init_10 : decode cX10_init 10 = .ok (.iload_n 1, 1) := by decide +kernel
theorem dX10_init_11 : decode cX10_init 11 = .ok (.newarray .int, 2) := by decide +kernel
theorem dX10_init_13 : decode cX10_init 13 = .ok (.putfield 15, 3) := by decide +kernel
theorem dX10_init_16 : decode cX10_init 16 = .ok (.aload_n 0, 1) := by decide +kernel
theorem dX10_init_17 : decode cX10_init 17 = .ok (.iload_n 1, 1) := by decide +kernel
theorem dX10_init_18 : decode cX10_init 18 = .ok (.iload_n 2, 1) := by decide +kernel
theorem dX10_init_19 : decode cX10_init 19 = .ok (.imul, 1) := by decide +kernel
theorem dX10_init_20 : decode cX10_init 20 = .ok (.newarray .int, 2) := by decide +kernel
theorem dX10_init_22 : decode cX10_init 22 = .ok (.putfield 19, 3) := by decide +kernel
theorem dX10_init_25 : decode cX10_init 25 = .ok (.aload_n 0, 1) := by decide +kernel
theorem dX10_init_26 : decode cX10_init 26 = .ok (.iload_n 1, 1) := by decide +kernel
theorem dX10_init_27 : decode cX10_init 27 = .ok (.iload_n 2, 1) := by decide +kernel
theorem dX10_init_28 : decode cX10_init 28 = .ok (.imul, 1) := by decide +kernel
theorem dX10_init_29 : decode cX10_init 29 = .ok (.newarray .int, 2) := by decide +kernel
theorem dX10_init_31 : decode cX10_init 31 = .ok (.putfield 22, 3) := by decide +kernel
theorem dX10_init_34 : decode cX10_init 34 = .ok (.aload_n 0, 1) := by decide +kernel
theorem dX10_init_35 : decode cX10_init 35 = .ok (.iload_n 1, 1) := by decide +kernel
theorem dX10_init_36 : decode cX10_init 36 = .ok (.iload_n 2, 1) := by decide +kernel
theorem dX10_init_37 : decode cX10_init 37 = .ok (.imul, 1) := by decide +kernel
theorem dX10_init_38 : decode cX10_init 38 = .ok (.newarray .int, 2) := by decide +kernel
theorem dX10_init_40 : decode cX10_init 40 = .ok (.putfield 25, 3) := by decide +kernel
theorem dX10_init_43 : decode cX10_init 43 = .ok (.return_, 1) := by decide +kernel
theorem dX11_init_0 : decode cX11_init 0 = .ok (.aload_n 0, 1) := by decide +kernel
theorem dX11_init_1 : decode cX11_init 1 = .ok (.invokespecial 3, 3) := by decide +kernel
theorem dX11_init_4 : decode cX11_init 4 = .ok (.aload_n 0, 1) := by decide +kernel
theorem dX11_init_5 : decode cX11_init 5 = .ok (.new 9, 3) := by decide +kernel
theorem dX11_init_8 : decode cX11_init 8 = .ok (.dup, 1) := by decide +kernel
theorem dX11_init_9 : decode cX11_init 9 = .ok (.invokespecial 11, 3) := by decide +kernel
theorem dX11_init_12 : decode cX11_init 12 = .ok (.putfield 12, 3) := by decide +kernel
theorem dX11_init_15 : decode cX11_init 15 = .ok (.aload_n 0, 1) := by decide +kernel
theorem dX11_init_16 : decode cX11_init 16 = .ok (.new 16, 3) := by decide +kernel
theorem dX11_init_19 : decode cX11_init 19 = .ok (.dup, 1) := by decide +kernel
theorem dX11_init_20 : decode cX11_init 20 = .ok (.invokespecial 18, 3) := by decide +kernel
theorem dX11_init_23 : decode cX11_init 23 = .ok (.putfield 19, 3) := by decide +kernel
theorem dX11_init_26 : decode cX11_init 26 = .ok (.aload_n 0, 1) := by decide +kernel
theorem dX11_init_27 : decode cX11_init 27 = .ok (.new 23, 3) := by decide +kernel
theorem dX11_init_30 : decode cX11_init 30 = .ok (.dup, 1) := by decide +kernel
theorem dX11_init_31 : decode cX11_init 31 = .ok (.aload_n 0, 1) := by decide +kernel
theorem dX11_init_32 : decode cX11_init 32 = .ok (.getfield 12, 3) := by decide +kernel
theorem dX11_init_35 : decode cX11_init 35 = .ok (.aload_n 0, 1) := by decide +kernel
theorem dX11_init_36 : decode cX11_init 36 = .ok (.getfield 19, 3) := by decide +kernel
theorem dX11_init_39 : decode cX11_init 39 = .ok (.invokespecial 25, 3) := by decide +kernel
theorem dX11_init_42 : decode cX11_init 42 = .ok (.putfield 28, 3) := by decide +kernel
theorem dX11_init_45 : decode cX11_init 45 = .ok (.aload_n 0, 1) := by decide +kernel
theorem dX11_init_46 : decode cX11_init 46 = .ok (.new 32, 3) := by decide +kernel
theorem dX11_init_49 : decode cX11_init 49 = .ok (.dup, 1) := by decide +kernel
theorem dX11_init_50 : decode cX11_init 50 = .ok (.aload_n 0, 1) := by decide +kernel
theorem dX11_init_51 : decode cX11_init 51 = .ok (.getfield 12, 3) := by decide +kernel
theorem dX11_init_54 : decode cX11_init 54 = .ok (.aload_n 0, 1) := by decide +kernel
theorem dX11_init_55 : decode cX11_init 55 = .ok (.getfield 19, 3) := by decide +kernel
theorem dX11_init_58 : decode cX11_init 58 = .ok (.invokespecial 34, 3) := by decide +kernel
theorem dX11_init_61 : decode cX11_init 61 = .ok (.putfield 35, 3) := by decide +kernel
theorem dX11_init_64 : decode cX11_init 64 = .ok (.aload_n 0, 1) := by decide +kernel
theorem dX11_init_65 : decode cX11_init 65 = .ok (.new 39, 3) := by decide +kernel
theorem dX11_init_68 : decode cX11_init 68 = .ok (.dup, 1) := by decide +kernel
theorem dX11_init_69 : decode cX11_init 69 = .ok (.aload_n 0, 1) := by decide +kernel
theorem dX11_init_70 : decode cX11_init 70 = .ok (.getfield 12, 3) := by decide +kernel
theorem dX11_init_73 : decode cX11_init 73 = .ok (.aload_n 0, 1) := by decide +kernel
theorem dX11_init_74 : decode cX11_init 74 = .ok (.getfield 19, 3) := by decide +kernel
theorem dX11_init_77 : decode cX11_init 77 = .ok (.aload_n 0, 1) := by decide +kernel
theorem dX11_init_78 : decode cX11_init 78 = .ok (.getfield 35, 3) := by decide +kernel
theorem dX11_init_81 : decode cX11_init 81 = .ok (.invokespecial 41, 3) := by decide +kernel
theorem dX11_init_84 : decode cX11_init 84 = .ok (.putfield 44, 3) := by decide +kernel
theorem dX11_init_87 : decode cX11_init 87 = .ok (.aload_n 0, 1) := by decide +kernel
theorem dX11_init_88 : decode cX11_init 88 = .ok (.new 48, 3) := by decide +kernel
theorem dX11_init_91 : decode cX11_init 91 = .ok (.dup, 1) := by decide +kernel
theorem dX11_init_92 : decode cX11_init 92 = .ok (.aload_n 0, 1) := by decide +kernel
theorem dX11_init_93 : decode cX11_init 93 = .ok (.getfield 19, 3) := by decide +kernel
theorem dX11_init_96 : decode cX11_init 96 = .ok (.aload_n 0, 1) := by decide +kernel
theorem dX11_init_97 : decode cX11_init 97 = .ok (.getfield 35, 3) := by decide +kernel
theorem dX11_init_100 : decode cX11_init 100 = .ok (.invokespecial 50, 3) := by decide +kernel
theorem dX11_init_103 : decode cX11_init 103 = .ok (.putfield 53, 3) := by decide +kernel
theorem dX11_init_106 : decode cX11_init 106 = .ok (.return_, 1) := by decide +kernel
def zB0 : hp_H := fun a b => if a = 999 ∧ b = 1 then nI 3 else 0
def zB1 : hp_H := hp_up zB0 2 1 (nI 6)
def zB2 : hp_H := hp_up zB1 7 1 (nI 3)
def zB3 : hp_H := hp_up zB2 35 4 (-1)
def zB4 : hp_H := hp_up zB3 35 5 (-1)
def zB5 : hp_H := hp_up zB4 35 6 (-1)
def zB6 : hp_H := hp_up zB5 35 7 (-1)
def rmmkB_2_X10_init : Room := { frames := 1, cells := 4, slots := 19, locals := 12 }
set_option maxHeartbeats 4000000 in
set_option maxRecDepth 100000 in
theorem mkB_2_X10_init (l : Launch) (cs : Nat → ClassId) (D : va_G) (b0 : Nat) : mk_M l yX10_init cX10_init 3 rmmkB_2_X10_init [.ref (mk_ad b0 2), .int (nI 1), .int (nI 6)] cs D b0 ((((SB.take 3).set 0 (.inl (11, [(3, 0, 0), (3, 0, 0), (3, 0, 0), (3, 0, 0), (3, 0, 0), (3, 0, 0)]))).set 1 (.inl (4, [(3, 0, 0), (3, 0, 0), (3, 0, 0), (3, 0, 0), (3, 0, 0), (3, 0, 0), (3, 0, 0), (3, 0, 0), (0, 0, 0), (0, 0, 0)]))).set 2 (.inl (10, [(3, 0, 0), (0, 0, 0), (3, 0, 0), (3, 0, 0), (3, 0, 0)]))) zB0 (((SB.take 7).set 0 (.inl (11, [(3, 0, 0), (3, 0, 0), (3, 0, 0), (3, 0, 0), (3, 0, 0), (3, 0, 0)]))).set 1 (.inl (4, [(3, 0, 0), (3, 0, 0), (3, 0, 0), (3, 0, 0), (3, 0, 0), (3, 0, 0), (3, 0, 0), (3, 0, 0), (0, 0, 0), (0, 0, 0)]))) zB1 4 19 := by
  refine mk_met (own := RX10) rfl (by decide +kernel) rfl (Nat.le_of_ble_eq_true rfl) rfl ?_
  intro p e s m args below meth c Z E hZ hi
  refine gi_aload_n E 0 dX10_init_0 rfl rfl ?_
  refine mk_obj E mi_RX10_3 mm_obj (by decide) (by decide) dX10_init_1 ?_
  refine gi_aload_n E 0 dX10_init_4 rfl rfl ?_
  refine gi_iload_n E 2 dX10_init_5 rfl rfl ?_
  refine mk_puti (h' := zB1) (ds := [(3, 0, 0), (0, 0, 0), (3, 0, 0), (3, 0, 0), (3, 0, 0)]) E hi qf_RX10_9 (by decide +kernel) rfl (by decide) rfl dX10_init_6 ?_
  refine gi_aload_n E 0 dX10_init_9 rfl rfl ?_
  refine gi_iload_n E 1 dX10_init_10 rfl rfl ?_
  refine mk_nai (n := 3) (N := 1) (cells' := 1) (slots' := 1) (S' := ((((SB.take 4).set 0 (.inl (11, [(3, 0, 0), (3, 0, 0), (3, 0, 0), (3, 0, 0), (3, 0, 0), (3, 0, 0)]))).set 1 (.inl (4, [(3, 0, 0), (3, 0, 0), (3, 0, 0), (3, 0, 0), (3, 0, 0), (3, 0, 0), (3, 0, 0), (3, 0, 0), (0, 0, 0), (0, 0, 0)]))).set 2 (.inl (10, [(3, 0, 0), (0, 0, 0), (3, 0, 0), (3, 0, 0), (3, 0, 0)])))) E af_int (by decide +kernel) (fun _ => rfl) (by decide +kernel) (by decide +kernel) (by decide +kernel) (by decide) rfl rfl (by decide) dX10_init_11 ?_
  refine mk_putr (t := 3) (ds := [(3, 0, 0), (0, 0, 0), (3, 0, 0), (3, 0, 0), (3, 0, 0)]) (S' := ((((SB.take 4).set 0 (.inl (11, [(3, 0, 0), (3, 0, 0), (3, 0, 0), (3, 0, 0), (3, 0, 0), (3, 0, 0)]))).set 1 (.inl (4, [(3, 0, 0), (3, 0, 0), (3, 0, 0), (3, 0, 0), (3, 0, 0), (3, 0, 0), (3, 0, 0), (3, 0, 0), (0, 0, 0), (0, 0, 0)]))).set 2 (.inl (10, [(1, 3, 0), (0, 0, 0), (3, 0, 0), (3, 0, 0), (3, 0, 0)])))) E (1, 3, 0) hi qf_RX10_15 (by decide +kernel) (by decide) rfl rfl rfl (by decide +kernel) dX10_init_13 ?_
  refine gi_aload_n E 0 dX10_init_16 rfl rfl ?_
  refine gi_iload_n E 1 dX10_init_17 rfl rfl ?_
  refine gi_iload_n E 2 dX10_init_18 rfl rfl ?_
  refine gi_imul E dX10_init_19 ?_
  refine mk_nai (n := 4) (N := 6) (cells' := 2) (slots' := 7) (S' := ((((SB.take 5).set 0 (.inl (11, [(3, 0, 0), (3, 0, 0), (3, 0, 0), (3, 0, 0), (3, 0, 0), (3, 0, 0)]))).set 1 (.inl (4, [(3, 0, 0), (3, 0, 0), (3, 0, 0), (3, 0, 0), (3, 0, 0), (3, 0, 0), (3, 0, 0), (3, 0, 0), (0, 0, 0), (0, 0, 0)]))).set 2 (.inl (10, [(1, 3, 0), (0, 0, 0), (3, 0, 0), (3, 0, 0), (3, 0, 0)])))) E af_int (by decide +kernel) (fun _ => rfl) (by decide +kernel) (by decide +kernel) (by decide +kernel) (by decide) rfl rfl (by decide) dX10_init_20 ?_
  refine mk_putr (t := 4) (ds := [(1, 3, 0), (0, 0, 0), (3, 0, 0), (3, 0, 0), (3, 0, 0)]) (S' := ((((SB.take 5).set 0 (.inl (11, [(3, 0, 0), (3, 0, 0), (3, 0, 0), (3, 0, 0), (3, 0, 0), (3, 0, 0)]))).set 1 (.inl (4, [(3, 0, 0), (3, 0, 0), (3, 0, 0), (3, 0, 0), (3, 0, 0), (3, 0, 0), (3, 0, 0), (3, 0, 0), (0, 0, 0), (0, 0, 0)]))).set 2 (.inl (10, [(1, 3, 0), (0, 0, 0), (1, 4, 0), (3, 0, 0), (3, 0, 0)])))) E (1, 4, 0) hi qf_RX10_19 (by decide +kernel) (by decide) rfl rfl rfl (by decide +kernel) dX10_init_22 ?_
  refine gi_aload_n E 0 dX10_init_25 rfl rfl ?_
  refine gi_iload_n E 1 dX10_init_26 rfl rfl ?_
  refine gi_iload_n E 2 dX10_init_27 rfl rfl ?_
  refine gi_imul E dX10_init_28 ?_
  refine mk_nai (n := 5) (N := 6) (cells' := 3) (slots' := 13) (S' := ((((SB.take 6).set 0 (.inl (11, [(3, 0, 0), (3, 0, 0), (3, 0, 0), (3, 0, 0), (3, 0, 0), (3, 0, 0)]))).set 1 (.inl (4, [(3, 0, 0), (3, 0, 0), (3, 0, 0), (3, 0, 0), (3, 0, 0), (3, 0, 0), (3, 0, 0), (3, 0, 0), (0, 0, 0), (0, 0, 0)]))).set 2 (.inl (10, [(1, 3, 0), (0, 0, 0), (1, 4, 0), (3, 0, 0), (3, 0, 0)])))) E af_int (by decide +kernel) (fun _ => rfl) (by decide +kernel) (by decide +kernel) (by decide +kernel) (by decide) rfl rfl (by decide) dX10_init_29 ?_
  refine mk_putr (t := 5) (ds := [(1, 3, 0), (0, 0, 0), (1, 4, 0), (3, 0, 0), (3, 0, 0)]) (S' := ((((SB.take 6).set 0 (.inl (11, [(3, 0, 0), (3, 0, 0), (3, 0, 0), (3, 0, 0), (3, 0, 0), (3, 0, 0)]))).set 1 (.inl (4, [(3, 0, 0), (3, 0, 0), (3, 0, 0), (3, 0, 0), (3, 0, 0), (3, 0, 0), (3, 0, 0), (3, 0, 0), (0, 0, 0), (0, 0, 0)]))).set 2 (.inl (10, [(1, 3, 0), (0, 0, 0), (1, 4, 0), (1, 5, 0), (3, 0, 0)])))) E (1, 5, 0) hi qf_RX10_22 (by decide +kernel) (by decide) rfl rfl rfl (by decide +kernel) dX10_init_31 ?_
  refine gi_aload_n E 0 dX10_init_34 rfl rfl ?_
  refine gi_iload_n E 1 dX10_init_35 rfl rfl ?_
  refine gi_iload_n E 2 dX10_init_36 rfl rfl ?_
  refine gi_imul E dX10_init_37 ?_
  refine mk_nai (n := 6) (N := 6) (cells' := 4) (slots' := 19) (S' := ((((SB.take 7).set 0 (.inl (11, [(3, 0, 0), (3, 0, 0), (3, 0, 0), (3, 0, 0), (3, 0, 0), (3, 0, 0)]))).set 1 (.inl (4, [(3, 0, 0), (3, 0, 0), (3, 0, 0), (3, 0, 0), (3, 0, 0), (3, 0, 0), (3, 0, 0), (3, 0, 0), (0, 0, 0), (0, 0, 0)]))).set 2 (.inl (10, [(1, 3, 0), (0, 0, 0), (1, 4, 0), (1, 5, 0), (3, 0, 0)])))) E af_int (by decide +kernel) (fun _ => rfl) (by decide +kernel) (by decide +kernel) (by decide +kernel) (by decide) rfl rfl (by decide) dX10_init_38 ?_
  refine mk_putr (t := 6) (ds := [(1, 3, 0), (0, 0, 0), (1, 4, 0), (1, 5, 0), (3, 0, 0)]) (S' := (((SB.take 7).set 0 (.inl (11, [(3, 0, 0), (3, 0, 0), (3, 0, 0), (3, 0, 0), (3, 0, 0), (3, 0, 0)]))).set 1 (.inl (4, [(3, 0, 0), (3, 0, 0), (3, 0, 0), (3, 0, 0), (3, 0, 0), (3, 0, 0), (3, 0, 0), (3, 0, 0), (0, 0, 0), (0, 0, 0)])))) E (1, 6, 0) hi qf_RX10_25 (by decide +kernel) (by decide) rfl rfl rfl (by decide +kernel) dX10_init_40 ?_
  exact mk_ret E hZ dX10_init_43
def rmmkB_3_X10_init : Room := { frames := 1, cells := 4, slots := 30, locals := 12 }
set_option maxHeartbeats 4000000 in
set_option maxRecDepth 100000 in
theorem mkB_3_X10_init (l : Launch) (cs : Nat → ClassId) (D : va_G) (b0 : Nat) : mk_M l yX10_init cX10_init 3 rmmkB_3_X10_init [.ref (mk_ad b0 7), .int (nI 3), .int (nI 3)] cs D b0 ((((SB.take 8).set 0 (.inl (11, [(3, 0, 0), (3, 0, 0), (3, 0, 0), (3, 0, 0), (3, 0, 0), (3, 0, 0)]))).set 1 (.inl (4, [(1, 2, 0), (3, 0, 0), (3, 0, 0), (3, 0, 0), (3, 0, 0), (3, 0, 0), (3, 0, 0), (3, 0, 0), (0, 0, 0), (0, 0, 0)]))).set 7 (.inl (10, [(3, 0, 0), (0, 0, 0), (3, 0, 0), (3, 0, 0), (3, 0, 0)]))) zB1 (((SB.take 12).set 0 (.inl (11, [(3, 0, 0), (3, 0, 0), (3, 0, 0), (3, 0, 0), (3, 0, 0), (3, 0, 0)]))).set 1 (.inl (4, [(1, 2, 0), (3, 0, 0), (3, 0, 0), (3, 0, 0), (3, 0, 0), (3, 0, 0), (3, 0, 0), (3, 0, 0), (0, 0, 0), (0, 0, 0)]))) zB2 4 30 := by
  refine mk_met (own := RX10) rfl (by decide +kernel) rfl (Nat.le_of_ble_eq_true rfl) rfl ?_
  intro p e s m args below meth c Z E hZ hi
  refine gi_aload_n E 0 dX10_init_0 rfl rfl ?_
  refine mk_obj E mi_RX10_3 mm_obj (by decide) (by decide) dX10_init_1 ?_
  refine gi_aload_n E 0 dX10_init_4 rfl rfl ?_
  refine gi_iload_n E 2 dX10_init_5 rfl rfl ?_
  refine mk_puti (h' := zB2) (ds := [(3, 0, 0), (0, 0, 0), (3, 0, 0), (3, 0, 0), (3, 0, 0)]) E hi qf_RX10_9 (by decide +kernel) rfl (by decide) rfl dX10_init_6 ?_
  refine gi_aload_n E 0 dX10_init_9 rfl rfl ?_
  refine gi_iload_n E 1 dX10_init_10 rfl rfl ?_
  refine mk_nai (n := 8) (N := 3) (cells' := 1) (slots' := 3) (S' := ((((SB.take 9).set 0 (.inl (11, [(3, 0, 0), (3, 0, 0), (3, 0, 0), (3, 0, 0), (3, 0, 0), (3, 0, 0)]))).set 1 (.inl (4, [(1, 2, 0), (3, 0, 0), (3, 0, 0), (3, 0, 0), (3, 0, 0), (3, 0, 0), (3, 0, 0), (3, 0, 0), (0, 0, 0), (0, 0, 0)]))).set 7 (.inl (10, [(3, 0, 0), (0, 0, 0), (3, 0, 0), (3, 0, 0), (3, 0, 0)])))) E af_int (by decide +kernel) (fun _ => rfl) (by decide +kernel) (by decide +kernel) (by decide +kernel) (by decide) rfl rfl (by decide) dX10_init_11 ?_
  refine mk_putr (t := 8) (ds := [(3, 0, 0), (0, 0, 0), (3, 0, 0), (3, 0, 0), (3, 0, 0)]) (S' := ((((SB.take 9).set 0 (.inl (11, [(3, 0, 0), (3, 0, 0), (3, 0, 0), (3, 0, 0), (3, 0, 0), (3, 0, 0)]))).set 1 (.inl (4, [(1, 2, 0), (3, 0, 0), (3, 0, 0), (3, 0, 0), (3, 0, 0), (3, 0, 0), (3, 0, 0), (3, 0, 0), (0, 0, 0), (0, 0, 0)]))).set 7 (.inl (10, [(1, 8, 0), (0, 0, 0), (3, 0, 0), (3, 0, 0), (3, 0, 0)])))) E (1, 8, 0) hi qf_RX10_15 (by decide +kernel) (by decide) rfl rfl rfl (by decide +kernel) dX10_init_13 ?_
  refine gi_aload_n E 0 dX10_init_16 rfl rfl ?_
  refine gi_iload_n E 1 dX10_init_17 rfl rfl ?_
  refine gi_iload_n E 2 dX10_init_18 rfl rfl ?_
  refine gi_imul E dX10_init_19 ?_
  refine mk_nai (n := 9) (N := 9) (cells' := 2) (slots' := 12) (S' := ((((SB.take 10).set 0 (.inl (11, [(3, 0, 0), (3, 0, 0), (3, 0, 0), (3, 0, 0), (3, 0, 0), (3, 0, 0)]))).set 1 (.inl (4, [(1, 2, 0), (3, 0, 0), (3, 0, 0), (3, 0, 0), (3, 0, 0), (3, 0, 0), (3, 0, 0), (3, 0, 0), (0, 0, 0), (0, 0, 0)]))).set 7 (.inl (10, [(1, 8, 0), (0, 0, 0), (3, 0, 0), (3, 0, 0), (3, 0, 0)])))) E af_int (by decide +kernel) (fun _ => rfl) (by decide +kernel) (by decide +kernel) (by decide +kernel) (by decide) rfl rfl (by decide) dX10_init_20 ?_
  refine mk_putr (t := 9) (ds := [(1, 8, 0), (0, 0, 0), (3, 0, 0), (3, 0, 0), (3, 0, 0)]) (S' := ((((SB.take 10).set 0 (.inl (11, [(3, 0, 0), (3, 0, 0), (3, 0, 0), (3, 0, 0), (3, 0, 0), (3, 0, 0)]))).set 1 (.inl (4, [(1, 2, 0), (3, 0, 0), (3, 0, 0), (3, 0, 0), (3, 0, 0), (3, 0, 0), (3, 0, 0), (3, 0, 0), (0, 0, 0), (0, 0, 0)]))).set 7 (.inl (10, [(1, 8, 0), (0, 0, 0), (1, 9, 0), (3, 0, 0), (3, 0, 0)])))) E (1, 9, 0) hi qf_RX10_19 (by decide +kernel) (by decide) rfl rfl rfl (by decide +kernel) dX10_init_22 ?_
  refine gi_aload_n E 0 dX10_init_25 rfl rfl ?_
  refine gi_iload_n E 1 dX10_init_26 rfl rfl ?_
  refine gi_iload_n E 2 dX10_init_27 rfl rfl ?_
  refine gi_imul E dX10_init_28 ?_
  refine mk_nai (n := 10) (N := 9) (cells' := 3) (slots' := 21) (S' := ((((SB.take 11).set 0 (.inl (11, [(3, 0, 0), (3, 0, 0), (3, 0, 0), (3, 0, 0), (3, 0, 0), (3, 0, 0)]))).set 1 (.inl (4, [(1, 2, 0), (3, 0, 0), (3, 0, 0), (3, 0, 0), (3, 0, 0), (3, 0, 0), (3, 0, 0), (3, 0, 0), (0, 0, 0), (0, 0, 0)]))).set 7 (.inl (10, [(1, 8, 0), (0, 0, 0), (1, 9, 0), (3, 0, 0), (3, 0, 0)])))) E af_int (by decide +kernel) (fun _ => rfl) (by decide +kernel) (by decide +kernel) (by decide +kernel) (by decide) rfl rfl (by decide) dX10_init_29 ?_
  refine mk_putr (t := 10) (ds := [(1, 8, 0), (0, 0, 0), (1, 9, 0), (3, 0, 0), (3, 0, 0)]) (S' := ((((SB.take 11).set 0 (.inl (11, [(3, 0, 0), (3, 0, 0), (3, 0, 0), (3, 0, 0), (3, 0, 0), (3, 0, 0)]))).set 1 (.inl (4, [(1, 2, 0), (3, 0, 0), (3, 0, 0), (3, 0, 0), (3, 0, 0), (3, 0, 0), (3, 0, 0), (3, 0, 0), (0, 0, 0), (0, 0, 0)]))).set 7 (.inl (10, [(1, 8, 0), (0, 0, 0), (1, 9, 0), (1, 10, 0), (3, 0, 0)])))) E (1, 10, 0) hi qf_RX10_22 (by decide +kernel) (by decide) rfl rfl rfl (by decide +kernel) dX10_init_31 ?_
  refine gi_aload_n E 0 dX10_init_34 rfl rfl ?_
  refine gi_iload_n E 1 dX10_init_35 rfl rfl ?_
  refine gi_iload_n E 2 dX10_init_36 rfl rfl ?_
  refine gi_imul E dX10_init_37 ?_
  refine mk_nai (n := 11) (N := 9) (cells' := 4) (slots' := 30) (S' := ((((SB.take 12).set 0 (.inl (11, [(3, 0, 0), (3, 0, 0), (3, 0, 0), (3, 0, 0), (3, 0, 0), (3, 0, 0)]))).set 1 (.inl (4, [(1, 2, 0), (3, 0, 0), (3, 0, 0), (3, 0, 0), (3, 0, 0), (3, 0, 0), (3, 0, 0), (3, 0, 0), (0, 0, 0), (0, 0, 0)]))).set 7 (.inl (10, [(1, 8, 0), (0, 0, 0), (1, 9, 0), (1, 10, 0), (3, 0, 0)])))) E af_int (by decide +kernel) (fun _ => rfl) (by decide +kernel) (by decide +kernel) (by decide +kernel) (by decide) rfl rfl (by decide) dX10_init_38 ?_
  refine mk_putr (t := 11) (ds := [(1, 8, 0), (0, 0, 0), (1, 9, 0), (1, 10, 0), (3, 0, 0)]) (S' := (((SB.take 12).set 0 (.inl (11, [(3, 0, 0), (3, 0, 0), (3, 0, 0), (3, 0, 0), (3, 0, 0), (3, 0, 0)]))).set 1 (.inl (4, [(1, 2, 0), (3, 0, 0), (3, 0, 0), (3, 0, 0), (3, 0, 0), (3, 0, 0), (3, 0, 0), (3, 0, 0), (0, 0, 0), (0, 0, 0)])))) E (1, 11, 0) hi qf_RX10_25 (by decide +kernel) (by decide) rfl rfl rfl (by decide +kernel) dX10_init_40 ?_
  exact mk_ret E hZ dX10_init_43
def rmmkB_4_X6_init : Room := { frames := 1, cells := 2, slots := 6, locals := 12 }
set_option maxHeartbeats 4000000 in
set_option maxRecDepth 100000 in
theorem mkB_4_X6_init (l : Launch) (cs : Nat → ClassId) (D : va_G) (b0 : Nat) : mk_M l yX6_init cX6_init 1 rmmkB_4_X6_init [.ref (mk_ad b0 12)] cs D b0 ((((SB.take 13).set 0 (.inl (11, [(3, 0, 0), (3, 0, 0), (3, 0, 0), (3, 0, 0), (3, 0, 0), (3, 0, 0)]))).set 1 (.inl (4, [(1, 2, 0), (1, 7, 0), (3, 0, 0), (3, 0, 0), (3, 0, 0), (3, 0, 0), (3, 0, 0), (3, 0, 0), (0, 0, 0), (0, 0, 0)]))).set 12 (.inl (6, [(3, 0, 0), (0, 0, 0), (3, 0, 0)]))) zB2 (((SB.take 15).set 0 (.inl (11, [(3, 0, 0), (3, 0, 0), (3, 0, 0), (3, 0, 0), (3, 0, 0), (3, 0, 0)]))).set 1 (.inl (4, [(1, 2, 0), (1, 7, 0), (3, 0, 0), (3, 0, 0), (3, 0, 0), (3, 0, 0), (3, 0, 0), (3, 0, 0), (0, 0, 0), (0, 0, 0)]))) zB2 2 6 := by
  refine mk_met (own := RX6) rfl (by decide +kernel) rfl (Nat.le_of_ble_eq_true rfl) rfl ?_
  intro p e s m args below meth c Z E hZ hi
  refine gi_aload_n E 0 dX6_init_0 rfl rfl ?_
  refine mk_obj E mi_RX6_3 mm_obj (by decide) (by decide) dX6_init_1 ?_
  refine gi_aload_n E 0 dX6_init_4 rfl rfl ?_
  refine gi_iconst E (nI 3) dX6_init_5 (by decide +kernel) ?_
  refine mk_nai (n := 13) (N := 3) (cells' := 1) (slots' := 3) (S' := ((((SB.take 14).set 0 (.inl (11, [(3, 0, 0), (3, 0, 0), (3, 0, 0), (3, 0, 0), (3, 0, 0), (3, 0, 0)]))).set 1 (.inl (4, [(1, 2, 0), (1, 7, 0), (3, 0, 0), (3, 0, 0), (3, 0, 0), (3, 0, 0), (3, 0, 0), (3, 0, 0), (0, 0, 0), (0, 0, 0)]))).set 12 (.inl (6, [(3, 0, 0), (0, 0, 0), (3, 0, 0)])))) E af_int (by decide +kernel) (fun _ => rfl) (by decide +kernel) (by decide +kernel) (by decide +kernel) (by decide) rfl rfl (by decide) dX6_init_6 ?_
  refine mk_putr (t := 13) (ds := [(3, 0, 0), (0, 0, 0), (3, 0, 0)]) (S' := ((((SB.take 14).set 0 (.inl (11, [(3, 0, 0), (3, 0, 0), (3, 0, 0), (3, 0, 0), (3, 0, 0), (3, 0, 0)]))).set 1 (.inl (4, [(1, 2, 0), (1, 7, 0), (3, 0, 0), (3, 0, 0), (3, 0, 0), (3, 0, 0), (3, 0, 0), (3, 0, 0), (0, 0, 0), (0, 0, 0)]))).set 12 (.inl (6, [(1, 13, 0), (0, 0, 0), (3, 0, 0)])))) E (1, 13, 0) hi qf_RX6_9 (by decide +kernel) (by decide) rfl rfl rfl (by decide +kernel) dX6_init_8 ?_
  refine gi_aload_n E 0 dX6_init_11 rfl rfl ?_
  refine gi_iconst E (nI 3) dX6_init_12 (by decide +kernel) ?_
  refine mk_nai (n := 14) (N := 3) (cells' := 2) (slots' := 6) (S' := ((((SB.take 15).set 0 (.inl (11, [(3, 0, 0), (3, 0, 0), (3, 0, 0), (3, 0, 0), (3, 0, 0), (3, 0, 0)]))).set 1 (.inl (4, [(1, 2, 0), (1, 7, 0), (3, 0, 0), (3, 0, 0), (3, 0, 0), (3, 0, 0), (3, 0, 0), (3, 0, 0), (0, 0, 0), (0, 0, 0)]))).set 12 (.inl (6, [(1, 13, 0), (0, 0, 0), (3, 0, 0)])))) E af_int (by decide +kernel) (fun _ => rfl) (by decide +kernel) (by decide +kernel) (by decide +kernel) (by decide) rfl rfl (by decide) dX6_init_13 ?_
  refine mk_putr (t := 14) (ds := [(1, 13, 0), (0, 0, 0), (3, 0, 0)]) (S' := (((SB.take 15).set 0 (.inl (11, [(3, 0, 0), (3, 0, 0), (3, 0, 0), (3, 0, 0), (3, 0, 0), (3, 0, 0)]))).set 1 (.inl (4, [(1, 2, 0), (1, 7, 0), (3, 0, 0), (3, 0, 0), (3, 0, 0), (3, 0, 0), (3, 0, 0), (3, 0, 0), (0, 0, 0), (0, 0, 0)])))) E (1, 14, 0) hi qf_RX6_15 (by decide +kernel) (by decide) rfl rfl rfl (by decide +kernel) dX6_init_15 ?_
  exact mk_ret E hZ dX6_init_18
def rmmkB_5_X1_init : Room := { frames := 1, cells := 7, slots := 560, locals := 12 }
set_option maxHeartbeats 4000000 in
set_option maxRecDepth 100000 in
theorem mkB_5_X1_init (l : Launch) (cs : Nat → ClassId) (D : va_G) (b0 : Nat) : mk_M l yX1_init cX1_init 2 rmmkB_5_X1_init [.ref (mk_ad b0 15), .ref (mk_ad b0 12)] cs D b0 ((((SB.take 16).set 0 (.inl (11, [(3, 0, 0), (3, 0, 0), (3, 0, 0), (3, 0, 0), (3, 0, 0), (3, 0, 0)]))).set 1 (.inl (4, [(1, 2, 0), (1, 7, 0), (1, 12, 0), (3, 0, 0), (3, 0, 0), (3, 0, 0), (3, 0, 0), (3, 0, 0), (0, 0, 0), (0, 0, 0)]))).set 15 (.inl (1, [(3, 0, 0), (0, 0, 0), (3, 0, 0), (3, 0, 0), (3, 0, 0), (3, 0, 0), (3, 0, 0), (3, 0, 0), (3, 0, 0), (0, 0, 0)]))) zB2 (((SB.take 23).set 0 (.inl (11, [(3, 0, 0), (3, 0, 0), (3, 0, 0), (3, 0, 0), (3, 0, 0), (3, 0, 0)]))).set 1 (.inl (4, [(1, 2, 0), (1, 7, 0), (1, 12, 0), (3, 0, 0), (3, 0, 0), (3, 0, 0), (3, 0, 0), (3, 0, 0), (0, 0, 0), (0, 0, 0)]))) zB2 7 560 := by
  refine mk_met (own := RX1) rfl (by decide +kernel) rfl (Nat.le_of_ble_eq_true rfl) rfl ?_
  intro p e s m args below meth c Z E hZ hi
  refine gi_aload_n E 0 dX1_init_0 rfl rfl ?_
  refine mk_obj E mi_RX1_3 mm_obj (by decide) (by decide) dX1_init_1 ?_
  refine gi_aload_n E 0 dX1_init_4 rfl rfl ?_
  refine gi_bipush E (nI 80) dX1_init_5 (by decide +kernel) ?_
  refine mk_nai (n := 16) (N := 80) (cells' := 1) (slots' := 80) (S' := ((((SB.take 17).set 0 (.inl (11, [(3, 0, 0), (3, 0, 0), (3, 0, 0), (3, 0, 0), (3, 0, 0), (3, 0, 0)]))).set 1 (.inl (4, [(1, 2, 0), (1, 7, 0), (1, 12, 0), (3, 0, 0), (3, 0, 0), (3, 0, 0), (3, 0, 0), (3, 0, 0), (0, 0, 0), (0, 0, 0)]))).set 15 (.inl (1, [(3, 0, 0), (0, 0, 0), (3, 0, 0), (3, 0, 0), (3, 0, 0), (3, 0, 0), (3, 0, 0), (3, 0, 0), (3, 0, 0), (0, 0, 0)])))) E af_int (by decide +kernel) (fun _ => rfl) (by decide +kernel) (by decide +kernel) (by decide +kernel) (by decide) rfl rfl (by decide) dX1_init_7 ?_
  refine mk_putr (t := 16) (ds := [(3, 0, 0), (0, 0, 0), (3, 0, 0), (3, 0, 0), (3, 0, 0), (3, 0, 0), (3, 0, 0), (3, 0, 0), (3, 0, 0), (0, 0, 0)]) (S' := ((((SB.take 17).set 0 (.inl (11, [(3, 0, 0), (3, 0, 0), (3, 0, 0), (3, 0, 0), (3, 0, 0), (3, 0, 0)]))).set 1 (.inl (4, [(1, 2, 0), (1, 7, 0), (1, 12, 0), (3, 0, 0), (3, 0, 0), (3, 0, 0), (3, 0, 0), (3, 0, 0), (0, 0, 0), (0, 0, 0)]))).set 15 (.inl (1, [(1, 16, 0), (0, 0, 0), (3, 0, 0), (3, 0, 0), (3, 0, 0), (3, 0, 0), (3, 0, 0), (3, 0, 0), (3, 0, 0), (0, 0, 0)])))) E (1, 16, 0) hi qf_RX1_9 (by decide +kernel) (by decide) rfl rfl rfl (by decide +kernel) dX1_init_9 ?_
  refine gi_aload_n E 0 dX1_init_12 rfl rfl ?_
  refine gi_bipush E (nI 80) dX1_init_13 (by decide +kernel) ?_
  refine mk_nai (n := 17) (N := 80) (cells' := 2) (slots' := 160) (S' := ((((SB.take 18).set 0 (.inl (11, [(3, 0, 0), (3, 0, 0), (3, 0, 0), (3, 0, 0), (3, 0, 0), (3, 0, 0)]))).set 1 (.inl (4, [(1, 2, 0), (1, 7, 0), (1, 12, 0), (3, 0, 0), (3, 0, 0), (3, 0, 0), (3, 0, 0), (3, 0, 0), (0, 0, 0), (0, 0, 0)]))).set 15 (.inl (1, [(1, 16, 0), (0, 0, 0), (3, 0, 0), (3, 0, 0), (3, 0, 0), (3, 0, 0), (3, 0, 0), (3, 0, 0), (3, 0, 0), (0, 0, 0)])))) E af_int (by decide +kernel) (fun _ => rfl) (by decide +kernel) (by decide +kernel) (by decide +kernel) (by decide) rfl rfl (by decide) dX1_init_15 ?_
  refine mk_putr (t := 17) (ds := [(1, 16, 0), (0, 0, 0), (3, 0, 0), (3, 0, 0), (3, 0, 0), (3, 0, 0), (3, 0, 0), (3, 0, 0), (3, 0, 0), (0, 0, 0)]) (S' := ((((SB.take 18).set 0 (.inl (11, [(3, 0, 0), (3, 0, 0), (3, 0, 0), (3, 0, 0), (3, 0, 0), (3, 0, 0)]))).set 1 (.inl (4, [(1, 2, 0), (1, 7, 0), (1, 12, 0), (3, 0, 0), (3, 0, 0), (3, 0, 0), (3, 0, 0), (3, 0, 0), (0, 0, 0), (0, 0, 0)]))).set 15 (.inl (1, [(1, 16, 0), (0, 0, 0), (3, 0, 0), (1, 17, 0), (3, 0, 0), (3, 0, 0), (3, 0, 0), (3, 0, 0), (3, 0, 0), (0, 0, 0)])))) E (1, 17, 0) hi qf_RX1_15 (by decide +kernel) (by decide) rfl rfl rfl (by decide +kernel) dX1_init_17 ?_
  refine gi_aload_n E 0 dX1_init_20 rfl rfl ?_
  refine gi_bipush E (nI 80) dX1_init_21 (by decide +kernel) ?_
  refine mk_nai (n := 18) (N := 80) (cells' := 3) (slots' := 240) (S' := ((((SB.take 19).set 0 (.inl (11, [(3, 0, 0), (3, 0, 0), (3, 0, 0), (3, 0, 0), (3, 0, 0), (3, 0, 0)]))).set 1 (.inl (4, [(1, 2, 0), (1, 7, 0), (1, 12, 0), (3, 0, 0), (3, 0, 0), (3, 0, 0), (3, 0, 0), (3, 0, 0), (0, 0, 0), (0, 0, 0)]))).set 15 (.inl (1, [(1, 16, 0), (0, 0, 0), (3, 0, 0), (1, 17, 0), (3, 0, 0), (3, 0, 0), (3, 0, 0), (3, 0, 0), (3, 0, 0), (0, 0, 0)])))) E af_int (by decide +kernel) (fun _ => rfl) (by decide +kernel) (by decide +kernel) (by decide +kernel) (by decide) rfl rfl (by decide) dX1_init_23 ?_
  refine mk_putr (t := 18) (ds := [(1, 16, 0), (0, 0, 0), (3, 0, 0), (1, 17, 0), (3, 0, 0), (3, 0, 0), (3, 0, 0), (3, 0, 0), (3, 0, 0), (0, 0, 0)]) (S' := ((((SB.take 19).set 0 (.inl (11, [(3, 0, 0), (3, 0, 0), (3, 0, 0), (3, 0, 0), (3, 0, 0), (3, 0, 0)]))).set 1 (.inl (4, [(1, 2, 0), (1, 7, 0), (1, 12, 0), (3, 0, 0), (3, 0, 0), (3, 0, 0), (3, 0, 0), (3, 0, 0), (0, 0, 0), (0, 0, 0)]))).set 15 (.inl (1, [(1, 16, 0), (0, 0, 0), (3, 0, 0), (1, 17, 0), (1, 18, 0), (3, 0, 0), (3, 0, 0), (3, 0, 0), (3, 0, 0), (0, 0, 0)])))) E (1, 18, 0) hi qf_RX1_18 (by decide +kernel) (by decide) rfl rfl rfl (by decide +kernel) dX1_init_25 ?_
  refine gi_aload_n E 0 dX1_init_28 rfl rfl ?_
  refine gi_bipush E (nI 80) dX1_init_29 (by decide +kernel) ?_
  refine mk_nai (n := 19) (N := 80) (cells' := 4) (slots' := 320) (S' := ((((SB.take 20).set 0 (.inl (11, [(3, 0, 0), (3, 0, 0), (3, 0, 0), (3, 0, 0), (3, 0, 0), (3, 0, 0)]))).set 1 (.inl (4, [(1, 2, 0), (1, 7, 0), (1, 12, 0), (3, 0, 0), (3, 0, 0), (3, 0, 0), (3, 0, 0), (3, 0, 0), (0, 0, 0), (0, 0, 0)]))).set 15 (.inl (1, [(1, 16, 0), (0, 0, 0), (3, 0, 0), (1, 17, 0), (1, 18, 0), (3, 0, 0), (3, 0, 0), (3, 0, 0), (3, 0, 0), (0, 0, 0)])))) E af_int (by decide +kernel) (fun _ => rfl) (by decide +kernel) (by decide +kernel) (by decide +kernel) (by decide) rfl rfl (by decide) dX1_init_31 ?_
  refine mk_putr (t := 19) (ds := [(1, 16, 0), (0, 0, 0), (3, 0, 0), (1, 17, 0), (1, 18, 0), (3, 0, 0), (3, 0, 0), (3, 0, 0), (3, 0, 0), (0, 0, 0)]) (S' := ((((SB.take 20).set 0 (.inl (11, [(3, 0, 0), (3, 0, 0), (3, 0, 0), (3, 0, 0), (3, 0, 0), (3, 0, 0)]))).set 1 (.inl (4, [(1, 2, 0), (1, 7, 0), (1, 12, 0), (3, 0, 0), (3, 0, 0), (3, 0, 0), (3, 0, 0), (3, 0, 0), (0, 0, 0), (0, 0, 0)]))).set 15 (.inl (1, [(1, 16, 0), (0, 0, 0), (3, 0, 0), (1, 17, 0), (1, 18, 0), (1, 19, 0), (3, 0, 0), (3, 0, 0), (3, 0, 0), (0, 0, 0)])))) E (1, 19, 0) hi qf_RX1_21 (by decide +kernel) (by decide) rfl rfl rfl (by decide +kernel) dX1_init_33 ?_
  refine gi_aload_n E 0 dX1_init_36 rfl rfl ?_
  refine gi_bipush E (nI 80) dX1_init_37 (by decide +kernel) ?_
  refine mk_nai (n := 20) (N := 80) (cells' := 5) (slots' := 400) (S' := ((((SB.take 21).set 0 (.inl (11, [(3, 0, 0), (3, 0, 0), (3, 0, 0), (3, 0, 0), (3, 0, 0), (3, 0, 0)]))).set 1 (.inl (4, [(1, 2, 0), (1, 7, 0), (1, 12, 0), (3, 0, 0), (3, 0, 0), (3, 0, 0), (3, 0, 0), (3, 0, 0), (0, 0, 0), (0, 0, 0)]))).set 15 (.inl (1, [(1, 16, 0), (0, 0, 0), (3, 0, 0), (1, 17, 0), (1, 18, 0), (1, 19, 0), (3, 0, 0), (3, 0, 0), (3, 0, 0), (0, 0, 0)])))) E af_int (by decide +kernel) (fun _ => rfl) (by decide +kernel) (by decide +kernel) (by decide +kernel) (by decide) rfl rfl (by decide) dX1_init_39 ?_
  refine mk_putr (t := 20) (ds := [(1, 16, 0), (0, 0, 0), (3, 0, 0), (1, 17, 0), (1, 18, 0), (1, 19, 0), (3, 0, 0), (3, 0, 0), (3, 0, 0), (0, 0, 0)]) (S' := ((((SB.take 21).set 0 (.inl (11, [(3, 0, 0), (3, 0, 0), (3, 0, 0), (3, 0, 0), (3, 0, 0), (3, 0, 0)]))).set 1 (.inl (4, [(1, 2, 0), (1, 7, 0), (1, 12, 0), (3, 0, 0), (3, 0, 0), (3, 0, 0), (3, 0, 0), (3, 0, 0), (0, 0, 0), (0, 0, 0)]))).set 15 (.inl (1, [(1, 16, 0), (0, 0, 0), (3, 0, 0), (1, 17, 0), (1, 18, 0), (1, 19, 0), (1, 20, 0), (3, 0, 0), (3, 0, 0), (0, 0, 0)])))) E (1, 20, 0) hi qf_RX1_24 (by decide +kernel) (by decide) rfl rfl rfl (by decide +kernel) dX1_init_41 ?_
  refine gi_aload_n E 0 dX1_init_44 rfl rfl ?_
  refine gi_bipush E (nI 80) dX1_init_45 (by decide +kernel) ?_
  refine mk_nai (n := 21) (N := 80) (cells' := 6) (slots' := 480) (S' := ((((SB.take 22).set 0 (.inl (11, [(3, 0, 0), (3, 0, 0), (3, 0, 0), (3, 0, 0), (3, 0, 0), (3, 0, 0)]))).set 1 (.inl (4, [(1, 2, 0), (1, 7, 0), (1, 12, 0), (3, 0, 0), (3, 0, 0), (3, 0, 0), (3, 0, 0), (3, 0, 0), (0, 0, 0), (0, 0, 0)]))).set 15 (.inl (1, [(1, 16, 0), (0, 0, 0), (3, 0, 0), (1, 17, 0), (1, 18, 0), (1, 19, 0), (1, 20, 0), (3, 0, 0), (3, 0, 0), (0, 0, 0)])))) E af_int (by decide +kernel) (fun _ => rfl) (by decide +kernel) (by decide +kernel) (by decide +kernel) (by decide) rfl rfl (by decide) dX1_init_47 ?_
  refine mk_putr (t := 21) (ds := [(1, 16, 0), (0, 0, 0), (3, 0, 0), (1, 17, 0), (1, 18, 0), (1, 19, 0), (1, 20, 0), (3, 0, 0), (3, 0, 0), (0, 0, 0)]) (S' := ((((SB.take 22).set 0 (.inl (11, [(3, 0, 0), (3, 0, 0), (3, 0, 0), (3, 0, 0), (3, 0, 0), (3, 0, 0)]))).set 1 (.inl (4, [(1, 2, 0), (1, 7, 0), (1, 12, 0), (3, 0, 0), (3, 0, 0), (3, 0, 0), (3, 0, 0), (3, 0, 0), (0, 0, 0), (0, 0, 0)]))).set 15 (.inl (1, [(1, 16, 0), (0, 0, 0), (3, 0, 0), (1, 17, 0), (1, 18, 0), (1, 19, 0), (1, 20, 0), (1, 21, 0), (3, 0, 0), (0, 0, 0)])))) E (1, 21, 0) hi qf_RX1_27 (by decide +kernel) (by decide) rfl rfl rfl (by decide +kernel) dX1_init_49 ?_
  refine gi_aload_n E 0 dX1_init_52 rfl rfl ?_
  refine gi_bipush E (nI 80) dX1_init_53 (by decide +kernel) ?_
  refine mk_naz (n := 22) (N := 80) (cells' := 7) (slots' := 560) (S' := ((((SB.take 23).set 0 (.inl (11, [(3, 0, 0), (3, 0, 0), (3, 0, 0), (3, 0, 0), (3, 0, 0), (3, 0, 0)]))).set 1 (.inl (4, [(1, 2, 0), (1, 7, 0), (1, 12, 0), (3, 0, 0), (3, 0, 0), (3, 0, 0), (3, 0, 0), (3, 0, 0), (0, 0, 0), (0, 0, 0)]))).set 15 (.inl (1, [(1, 16, 0), (0, 0, 0), (3, 0, 0), (1, 17, 0), (1, 18, 0), (1, 19, 0), (1, 20, 0), (1, 21, 0), (3, 0, 0), (0, 0, 0)])))) E af_boolean (by decide +kernel) (fun _ => rfl) (by decide +kernel) (by decide +kernel) (by decide +kernel) (by decide) rfl rfl (by decide) dX1_init_55 ?_
  refine mk_putr (t := 22) (ds := [(1, 16, 0), (0, 0, 0), (3, 0, 0), (1, 17, 0), (1, 18, 0), (1, 19, 0), (1, 20, 0), (1, 21, 0), (3, 0, 0), (0, 0, 0)]) (S' := ((((SB.take 23).set 0 (.inl (11, [(3, 0, 0), (3, 0, 0), (3, 0, 0), (3, 0, 0), (3, 0, 0), (3, 0, 0)]))).set 1 (.inl (4, [(1, 2, 0), (1, 7, 0), (1, 12, 0), (3, 0, 0), (3, 0, 0), (3, 0, 0), (3, 0, 0), (3, 0, 0), (0, 0, 0), (0, 0, 0)]))).set 15 (.inl (1, [(1, 16, 0), (0, 0, 0), (3, 0, 0), (1, 17, 0), (1, 18, 0), (1, 19, 0), (1, 20, 0), (1, 21, 0), (1, 22, 0), (0, 0, 0)])))) E (1, 22, 0) hi qf_RX1_30 (by decide +kernel) (by decide) rfl rfl rfl (by decide +kernel) dX1_init_57 ?_
  refine gi_aload_n E 0 dX1_init_60 rfl rfl ?_
  refine gi_aload_n E 1 dX1_init_61 rfl rfl ?_
  refine mk_putr (t := 12) (ds := [(1, 16, 0), (0, 0, 0), (3, 0, 0), (1, 17, 0), (1, 18, 0), (1, 19, 0), (1, 20, 0), (1, 21, 0), (1, 22, 0), (0, 0, 0)]) (S' := (((SB.take 23).set 0 (.inl (11, [(3, 0, 0), (3, 0, 0), (3, 0, 0), (3, 0, 0), (3, 0, 0), (3, 0, 0)]))).set 1 (.inl (4, [(1, 2, 0), (1, 7, 0), (1, 12, 0), (3, 0, 0), (3, 0, 0), (3, 0, 0), (3, 0, 0), (3, 0, 0), (0, 0, 0), (0, 0, 0)])))) E (1, 12, 0) hi qf_RX1_34 (by decide +kernel) (by decide) rfl rfl rfl (by decide +kernel) dX1_init_62 ?_
  exact mk_ret E hZ dX1_init_65
def rmmkB_6_X9_init : Room := { frames := 1, cells := 8, slots := 408, locals := 12 }
set_option maxHeartbeats 4000000 in
set_option maxRecDepth 100000 in
theorem mkB_6_X9_init (l : Launch) (cs : Nat → ClassId) (D : va_G) (b0 : Nat) : mk_M l yX9_init cX9_init 1 rmmkB_6_X9_init [.ref (mk_ad b0 23)] cs D b0 ((((SB.take 24).set 0 (.inl (11, [(3, 0, 0), (3, 0, 0), (3, 0, 0), (3, 0, 0), (3, 0, 0), (3, 0, 0)]))).set 1 (.inl (4, [(1, 2, 0), (1, 7, 0), (1, 12, 0), (1, 15, 0), (3, 0, 0), (3, 0, 0), (3, 0, 0), (3, 0, 0), (0, 0, 0), (0, 0, 0)]))).set 23 (.inl (9, [(3, 0, 0), (3, 0, 0), (3, 0, 0), (3, 0, 0), (3, 0, 0), (3, 0, 0), (3, 0, 0), (3, 0, 0), (0, 0, 0)]))) zB2 (((SB.take 32).set 0 (.inl (11, [(3, 0, 0), (3, 0, 0), (3, 0, 0), (3, 0, 0), (3, 0, 0), (3, 0, 0)]))).set 1 (.inl (4, [(1, 2, 0), (1, 7, 0), (1, 12, 0), (1, 15, 0), (3, 0, 0), (3, 0, 0), (3, 0, 0), (3, 0, 0), (0, 0, 0), (0, 0, 0)]))) zB2 8 408 := by
  refine mk_met (own := RX9) rfl (by decide +kernel) rfl (Nat.le_of_ble_eq_true rfl) rfl ?_
  intro p e s m args below meth c Z E hZ hi
  refine gi_aload_n E 0 dX9_init_0 rfl rfl ?_
  refine mk_obj E mi_RX9_3 mm_obj (by decide) (by decide) dX9_init_1 ?_
  refine gi_aload_n E 0 dX9_init_4 rfl rfl ?_
  refine gi_bipush E (nI 24) dX9_init_5 (by decide +kernel) ?_
  refine mk_nai (n := 24) (N := 24) (cells' := 1) (slots' := 24) (S' := ((((SB.take 25).set 0 (.inl (11, [(3, 0, 0), (3, 0, 0), (3, 0, 0), (3, 0, 0), (3, 0, 0), (3, 0, 0)]))).set 1 (.inl (4, [(1, 2, 0), (1, 7, 0), (1, 12, 0), (1, 15, 0), (3, 0, 0), (3, 0, 0), (3, 0, 0), (3, 0, 0), (0, 0, 0), (0, 0, 0)]))).set 23 (.inl (9, [(3, 0, 0), (3, 0, 0), (3, 0, 0), (3, 0, 0), (3, 0, 0), (3, 0, 0), (3, 0, 0), (3, 0, 0), (0, 0, 0)])))) E af_int (by decide +kernel) (fun _ => rfl) (by decide +kernel) (by decide +kernel) (by decide +kernel) (by decide) rfl rfl (by decide) dX9_init_7 ?_
  refine mk_putr (t := 24) (ds := [(3, 0, 0), (3, 0, 0), (3, 0, 0), (3, 0, 0), (3, 0, 0), (3, 0, 0), (3, 0, 0), (3, 0, 0), (0, 0, 0)]) (S' := ((((SB.take 25).set 0 (.inl (11, [(3, 0, 0), (3, 0, 0), (3, 0, 0), (3, 0, 0), (3, 0, 0), (3, 0, 0)]))).set 1 (.inl (4, [(1, 2, 0), (1, 7, 0), (1, 12, 0), (1, 15, 0), (3, 0, 0), (3, 0, 0), (3, 0, 0), (3, 0, 0), (0, 0, 0), (0, 0, 0)]))).set 23 (.inl (9, [(1, 24, 0), (3, 0, 0), (3, 0, 0), (3, 0, 0), (3, 0, 0), (3, 0, 0), (3, 0, 0), (3, 0, 0), (0, 0, 0)])))) E (1, 24, 0) hi qf_RX9_9 (by decide +kernel) (by decide) rfl rfl rfl (by decide +kernel) dX9_init_9 ?_
  refine gi_aload_n E 0 dX9_init_12 rfl rfl ?_
  refine gi_bipush E (nI 24) dX9_init_13 (by decide +kernel) ?_
  refine mk_nai (n := 25) (N := 24) (cells' := 2) (slots' := 48) (S' := ((((SB.take 26).set 0 (.inl (11, [(3, 0, 0), (3, 0, 0), (3, 0, 0), (3, 0, 0), (3, 0, 0), (3, 0, 0)]))).set 1 (.inl (4, [(1, 2, 0), (1, 7, 0), (1, 12, 0), (1, 15, 0), (3, 0, 0), (3, 0, 0), (3, 0, 0), (3, 0, 0), (0, 0, 0), (0, 0, 0)]))).set 23 (.inl (9, [(1, 24, 0), (3, 0, 0), (3, 0, 0), (3, 0, 0), (3, 0, 0), (3, 0, 0), (3, 0, 0), (3, 0, 0), (0, 0, 0)])))) E af_int (by decide +kernel) (fun _ => rfl) (by decide +kernel) (by decide +kernel) (by decide +kernel) (by decide) rfl rfl (by decide) dX9_init_15 ?_
  refine mk_putr (t := 25) (ds := [(1, 24, 0), (3, 0, 0), (3, 0, 0), (3, 0, 0), (3, 0, 0), (3, 0, 0), (3, 0, 0), (3, 0, 0), (0, 0, 0)]) (S' := ((((SB.take 26).set 0 (.inl (11, [(3, 0, 0), (3, 0, 0), (3, 0, 0), (3, 0, 0), (3, 0, 0), (3, 0, 0)]))).set 1 (.inl (4, [(1, 2, 0), (1, 7, 0), (1, 12, 0), (1, 15, 0), (3, 0, 0), (3, 0, 0), (3, 0, 0), (3, 0, 0), (0, 0, 0), (0, 0, 0)]))).set 23 (.inl (9, [(1, 24, 0), (1, 25, 0), (3, 0, 0), (3, 0, 0), (3, 0, 0), (3, 0, 0), (3, 0, 0), (3, 0, 0), (0, 0, 0)])))) E (1, 25, 0) hi qf_RX9_15 (by decide +kernel) (by decide) rfl rfl rfl (by decide +kernel) dX9_init_17 ?_
  refine gi_aload_n E 0 dX9_init_20 rfl rfl ?_
  refine gi_bipush E (nI 24) dX9_init_21 (by decide +kernel) ?_
  refine mk_nai (n := 26) (N := 24) (cells' := 3) (slots' := 72) (S' := ((((SB.take 27).set 0 (.inl (11, [(3, 0, 0), (3, 0, 0), (3, 0, 0), (3, 0, 0), (3, 0, 0), (3, 0, 0)]))).set 1 (.inl (4, [(1, 2, 0), (1, 7, 0), (1, 12, 0), (1, 15, 0), (3, 0, 0), (3, 0, 0), (3, 0, 0), (3, 0, 0), (0, 0, 0), (0, 0, 0)]))).set 23 (.inl (9, [(1, 24, 0), (1, 25, 0), (3, 0, 0), (3, 0, 0), (3, 0, 0), (3, 0, 0), (3, 0, 0), (3, 0, 0), (0, 0, 0)])))) E af_int (by decide +kernel) (fun _ => rfl) (by decide +kernel) (by decide +kernel) (by decide +kernel) (by decide) rfl rfl (by decide) dX9_init_23 ?_
  refine mk_putr (t := 26) (ds := [(1, 24, 0), (1, 25, 0), (3, 0, 0), (3, 0, 0), (3, 0, 0), (3, 0, 0), (3, 0, 0), (3, 0, 0), (0, 0, 0)]) (S' := ((((SB.take 27).set 0 (.inl (11, [(3, 0, 0), (3, 0, 0), (3, 0, 0), (3, 0, 0), (3, 0, 0), (3, 0, 0)]))).set 1 (.inl (4, [(1, 2, 0), (1, 7, 0), (1, 12, 0), (1, 15, 0), (3, 0, 0), (3, 0, 0), (3, 0, 0), (3, 0, 0), (0, 0, 0), (0, 0, 0)]))).set 23 (.inl (9, [(1, 24, 0), (1, 25, 0), (1, 26, 0), (3, 0, 0), (3, 0, 0), (3, 0, 0), (3, 0, 0), (3, 0, 0), (0, 0, 0)])))) E (1, 26, 0) hi qf_RX9_18 (by decide +kernel) (by decide) rfl rfl rfl (by decide +kernel) dX9_init_25 ?_
  refine gi_aload_n E 0 dX9_init_28 rfl rfl ?_
  refine gi_bipush E (nI 24) dX9_init_29 (by decide +kernel) ?_
  refine mk_nai (n := 27) (N := 24) (cells' := 4) (slots' := 96) (S' := ((((SB.take 28).set 0 (.inl (11, [(3, 0, 0), (3, 0, 0), (3, 0, 0), (3, 0, 0), (3, 0, 0), (3, 0, 0)]))).set 1 (.inl (4, [(1, 2, 0), (1, 7, 0), (1, 12, 0), (1, 15, 0), (3, 0, 0), (3, 0, 0), (3, 0, 0), (3, 0, 0), (0, 0, 0), (0, 0, 0)]))).set 23 (.inl (9, [(1, 24, 0), (1, 25, 0), (1, 26, 0), (3, 0, 0), (3, 0, 0), (3, 0, 0), (3, 0, 0), (3, 0, 0), (0, 0, 0)])))) E af_int (by decide +kernel) (fun _ => rfl) (by decide +kernel) (by decide +kernel) (by decide +kernel) (by decide) rfl rfl (by decide) dX9_init_31 ?_
  refine mk_putr (t := 27) (ds := [(1, 24, 0), (1, 25, 0), (1, 26, 0), (3, 0, 0), (3, 0, 0), (3, 0, 0), (3, 0, 0), (3, 0, 0), (0, 0, 0)]) (S' := ((((SB.take 28).set 0 (.inl (11, [(3, 0, 0), (3, 0, 0), (3, 0, 0), (3, 0, 0), (3, 0, 0), (3, 0, 0)]))).set 1 (.inl (4, [(1, 2, 0), (1, 7, 0), (1, 12, 0), (1, 15, 0), (3, 0, 0), (3, 0, 0), (3, 0, 0), (3, 0, 0), (0, 0, 0), (0, 0, 0)]))).set 23 (.inl (9, [(1, 24, 0), (1, 25, 0), (1, 26, 0), (1, 27, 0), (3, 0, 0), (3, 0, 0), (3, 0, 0), (3, 0, 0), (0, 0, 0)])))) E (1, 27, 0) hi qf_RX9_21 (by decide +kernel) (by decide) rfl rfl rfl (by decide +kernel) dX9_init_33 ?_
  refine gi_aload_n E 0 dX9_init_36 rfl rfl ?_
  refine gi_bipush E (nI 24) dX9_init_37 (by decide +kernel) ?_
  refine mk_nai (n := 28) (N := 24) (cells' := 5) (slots' := 120) (S' := ((((SB.take 29).set 0 (.inl (11, [(3, 0, 0), (3, 0, 0), (3, 0, 0), (3, 0, 0), (3, 0, 0), (3, 0, 0)]))).set 1 (.inl (4, [(1, 2, 0), (1, 7, 0), (1, 12, 0), (1, 15, 0), (3, 0, 0), (3, 0, 0), (3, 0, 0), (3, 0, 0), (0, 0, 0), (0, 0, 0)]))).set 23 (.inl (9, [(1, 24, 0), (1, 25, 0), (1, 26, 0), (1, 27, 0), (3, 0, 0), (3, 0, 0), (3, 0, 0), (3, 0, 0), (0, 0, 0)])))) E af_int (by decide +kernel) (fun _ => rfl) (by decide +kernel) (by decide +kernel) (by decide +kernel) (by decide) rfl rfl (by decide) dX9_init_39 ?_
  refine mk_putr (t := 28) (ds := [(1, 24, 0), (1, 25, 0), (1, 26, 0), (1, 27, 0), (3, 0, 0), (3, 0, 0), (3, 0, 0), (3, 0, 0), (0, 0, 0)]) (S' := ((((SB.take 29).set 0 (.inl (11, [(3, 0, 0), (3, 0, 0), (3, 0, 0), (3, 0, 0), (3, 0, 0), (3, 0, 0)]))).set 1 (.inl (4, [(1, 2, 0), (1, 7, 0), (1, 12, 0), (1, 15, 0), (3, 0, 0), (3, 0, 0), (3, 0, 0), (3, 0, 0), (0, 0, 0), (0, 0, 0)]))).set 23 (.inl (9, [(1, 24, 0), (1, 25, 0), (1, 26, 0), (1, 27, 0), (1, 28, 0), (3, 0, 0), (3, 0, 0), (3, 0, 0), (0, 0, 0)])))) E (1, 28, 0) hi qf_RX9_24 (by decide +kernel) (by decide) rfl rfl rfl (by decide +kernel) dX9_init_41 ?_
  refine gi_aload_n E 0 dX9_init_44 rfl rfl ?_
  refine gi_bipush E (nI 96) dX9_init_45 (by decide +kernel) ?_
  refine mk_nai (n := 29) (N := 96) (cells' := 6) (slots' := 216) (S' := ((((SB.take 30).set 0 (.inl (11, [(3, 0, 0), (3, 0, 0), (3, 0, 0), (3, 0, 0), (3, 0, 0), (3, 0, 0)]))).set 1 (.inl (4, [(1, 2, 0), (1, 7, 0), (1, 12, 0), (1, 15, 0), (3, 0, 0), (3, 0, 0), (3, 0, 0), (3, 0, 0), (0, 0, 0), (0, 0, 0)]))).set 23 (.inl (9, [(1, 24, 0), (1, 25, 0), (1, 26, 0), (1, 27, 0), (1, 28, 0), (3, 0, 0), (3, 0, 0), (3, 0, 0), (0, 0, 0)])))) E af_int (by decide +kernel) (fun _ => rfl) (by decide +kernel) (by decide +kernel) (by decide +kernel) (by decide) rfl rfl (by decide) dX9_init_47 ?_
  refine mk_putr (t := 29) (ds := [(1, 24, 0), (1, 25, 0), (1, 26, 0), (1, 27, 0), (1, 28, 0), (3, 0, 0), (3, 0, 0), (3, 0, 0), (0, 0, 0)]) (S' := ((((SB.take 30).set 0 (.inl (11, [(3, 0, 0), (3, 0, 0), (3, 0, 0), (3, 0, 0), (3, 0, 0), (3, 0, 0)]))).set 1 (.inl (4, [(1, 2, 0), (1, 7, 0), (1, 12, 0), (1, 15, 0), (3, 0, 0), (3, 0, 0), (3, 0, 0), (3, 0, 0), (0, 0, 0), (0, 0, 0)]))).set 23 (.inl (9, [(1, 24, 0), (1, 25, 0), (1, 26, 0), (1, 27, 0), (1, 28, 0), (1, 29, 0), (3, 0, 0), (3, 0, 0), (0, 0, 0)])))) E (1, 29, 0) hi qf_RX9_27 (by decide +kernel) (by decide) rfl rfl rfl (by decide +kernel) dX9_init_49 ?_
  refine gi_aload_n E 0 dX9_init_52 rfl rfl ?_
  refine gi_bipush E (nI 96) dX9_init_53 (by decide +kernel) ?_
  refine mk_nai (n := 30) (N := 96) (cells' := 7) (slots' := 312) (S' := ((((SB.take 31).set 0 (.inl (11, [(3, 0, 0), (3, 0, 0), (3, 0, 0), (3, 0, 0), (3, 0, 0), (3, 0, 0)]))).set 1 (.inl (4, [(1, 2, 0), (1, 7, 0), (1, 12, 0), (1, 15, 0), (3, 0, 0), (3, 0, 0), (3, 0, 0), (3, 0, 0), (0, 0, 0), (0, 0, 0)]))).set 23 (.inl (9, [(1, 24, 0), (1, 25, 0), (1, 26, 0), (1, 27, 0), (1, 28, 0), (1, 29, 0), (3, 0, 0), (3, 0, 0), (0, 0, 0)])))) E af_int (by decide +kernel) (fun _ => rfl) (by decide +kernel) (by decide +kernel) (by decide +kernel) (by decide) rfl rfl (by decide) dX9_init_55 ?_
  refine mk_putr (t := 30) (ds := [(1, 24, 0), (1, 25, 0), (1, 26, 0), (1, 27, 0), (1, 28, 0), (1, 29, 0), (3, 0, 0), (3, 0, 0), (0, 0, 0)]) (S' := ((((SB.take 31).set 0 (.inl (11, [(3, 0, 0), (3, 0, 0), (3, 0, 0), (3, 0, 0), (3, 0, 0), (3, 0, 0)]))).set 1 (.inl (4, [(1, 2, 0), (1, 7, 0), (1, 12, 0), (1, 15, 0), (3, 0, 0), (3, 0, 0), (3, 0, 0), (3, 0, 0), (0, 0, 0), (0, 0, 0)]))).set 23 (.inl (9, [(1, 24, 0), (1, 25, 0), (1, 26, 0), (1, 27, 0), (1, 28, 0), (1, 29, 0), (1, 30, 0), (3, 0, 0), (0, 0, 0)])))) E (1, 30, 0) hi qf_RX9_30 (by decide +kernel) (by decide) rfl rfl rfl (by decide +kernel) dX9_init_57 ?_
  refine gi_aload_n E 0 dX9_init_60 rfl rfl ?_
  refine gi_bipush E (nI 96) dX9_init_61 (by decide +kernel) ?_
  refine mk_nai (n := 31) (N := 96) (cells' := 8) (slots' := 408) (S' := ((((SB.take 32).set 0 (.inl (11, [(3, 0, 0), (3, 0, 0), (3, 0, 0), (3, 0, 0), (3, 0, 0), (3, 0, 0)]))).set 1 (.inl (4, [(1, 2, 0), (1, 7, 0), (1, 12, 0), (1, 15, 0), (3, 0, 0), (3, 0, 0), (3, 0, 0), (3, 0, 0), (0, 0, 0), (0, 0, 0)]))).set 23 (.inl (9, [(1, 24, 0), (1, 25, 0), (1, 26, 0), (1, 27, 0), (1, 28, 0), (1, 29, 0), (1, 30, 0), (3, 0, 0), (0, 0, 0)])))) E af_int (by decide +kernel) (fun _ => rfl) (by decide +kernel) (by decide +kernel) (by decide +kernel) (by decide) rfl rfl (by decide) dX9_init_63 ?_
  refine mk_putr (t := 31) (ds := [(1, 24, 0), (1, 25, 0), (1, 26, 0), (1, 27, 0), (1, 28, 0), (1, 29, 0), (1, 30, 0), (3, 0, 0), (0, 0, 0)]) (S' := (((SB.take 32).set 0 (.inl (11, [(3, 0, 0), (3, 0, 0), (3, 0, 0), (3, 0, 0), (3, 0, 0), (3, 0, 0)]))).set 1 (.inl (4, [(1, 2, 0), (1, 7, 0), (1, 12, 0), (1, 15, 0), (3, 0, 0), (3, 0, 0), (3, 0, 0), (3, 0, 0), (0, 0, 0), (0, 0, 0)])))) E (1, 31, 0) hi qf_RX9_33 (by decide +kernel) (by decide) rfl rfl rfl (by decide +kernel) dX9_init_65 ?_
  exact mk_ret E hZ dX9_init_68
def rmmkB_1_X4_init : Room := { frames := 2, cells := 33, slots := 1064, locals := 34 }
set_option maxHeartbeats 4000000 in
set_option maxRecDepth 100000 in
theorem mkB_1_X4_init (l : Launch) (cs : Nat → ClassId) (D : va_G) (b0 : Nat) : mk_M l yX4_init cX4_init 1 rmmkB_1_X4_init [.ref (mk_ad b0 1)] cs D b0 (((SB.take 2).set 0 (.inl (11, [(3, 0, 0), (3, 0, 0), (3, 0, 0), (3, 0, 0), (3, 0, 0), (3, 0, 0)]))).set 1 (.inl (4, [(3, 0, 0), (3, 0, 0), (3, 0, 0), (3, 0, 0), (3, 0, 0), (3, 0, 0), (3, 0, 0), (3, 0, 0), (0, 0, 0), (0, 0, 0)]))) zB0 ((SB.take 35).set 0 (.inl (11, [(3, 0, 0), (3, 0, 0), (3, 0, 0), (3, 0, 0), (3, 0, 0), (3, 0, 0)]))) zB2 33 1064 := by
  refine mk_met (own := RX4) rfl (by decide +kernel) rfl (Nat.le_of_ble_eq_true rfl) rfl ?_
  intro p e s m args below meth c Z E hZ hi
  refine gi_aload_n E 0 dX4_init_0 rfl rfl ?_
  refine mk_obj E mi_RX4_3 mm_obj (by decide) (by decide) dX4_init_1 ?_
  refine gi_aload_n E 0 dX4_init_4 rfl rfl ?_
  refine mk_new (n := 2) (cells' := 1) (slots' := 5) (S' := ((((SB.take 3).set 0 (.inl (11, [(3, 0, 0), (3, 0, 0), (3, 0, 0), (3, 0, 0), (3, 0, 0), (3, 0, 0)]))).set 1 (.inl (4, [(3, 0, 0), (3, 0, 0), (3, 0, 0), (3, 0, 0), (3, 0, 0), (3, 0, 0), (3, 0, 0), (3, 0, 0), (0, 0, 0), (0, 0, 0)]))).set 2 (.inl (10, [(3, 0, 0), (0, 0, 0), (3, 0, 0), (3, 0, 0), (3, 0, 0)])))) E nf_RX4_9 (by decide +kernel) (fun _ => rfl) (by decide +kernel) rfl rfl (by decide) dX4_init_5 ?_
  refine gi_dup E rfl dX4_init_8 ?_
  refine gi_iconst E (nI 1) dX4_init_9 (by decide +kernel) ?_
  refine gi_bipush E (nI 6) dX4_init_10 (by decide +kernel) ?_
  refine mk_callP (As := [.int (nI 1), .int (nI 6)]) (cells' := 5) (slots' := 24) E (mkB_2_X10_init l cs D b0) Fi_X10_init mi_RX4_11 ⟨rfl, rfl⟩ (by decide) rfl rfl (by decide) rfl rfl (Nat.le_of_ble_eq_true rfl) dX4_init_12 ?_
  refine mk_putr (t := 2) (ds := [(3, 0, 0), (3, 0, 0), (3, 0, 0), (3, 0, 0), (3, 0, 0), (3, 0, 0), (3, 0, 0), (3, 0, 0), (0, 0, 0), (0, 0, 0)]) (S' := (((SB.take 7).set 0 (.inl (11, [(3, 0, 0), (3, 0, 0), (3, 0, 0), (3, 0, 0), (3, 0, 0), (3, 0, 0)]))).set 1 (.inl (4, [(1, 2, 0), (3, 0, 0), (3, 0, 0), (3, 0, 0), (3, 0, 0), (3, 0, 0), (3, 0, 0), (3, 0, 0), (0, 0, 0), (0, 0, 0)])))) E (1, 2, 0) hi qf_RX4_14 (by decide +kernel) (by decide) rfl rfl rfl (by decide +kernel) dX4_init_15 ?_
  refine gi_aload_n E 0 dX4_init_18 rfl rfl ?_
  refine mk_new (n := 7) (cells' := 6) (slots' := 29) (S' := ((((SB.take 8).set 0 (.inl (11, [(3, 0, 0), (3, 0, 0), (3, 0, 0), (3, 0, 0), (3, 0, 0), (3, 0, 0)]))).set 1 (.inl (4, [(1, 2, 0), (3, 0, 0), (3, 0, 0), (3, 0, 0), (3, 0, 0), (3, 0, 0), (3, 0, 0), (3, 0, 0), (0, 0, 0), (0, 0, 0)]))).set 7 (.inl (10, [(3, 0, 0), (0, 0, 0), (3, 0, 0), (3, 0, 0), (3, 0, 0)])))) E nf_RX4_9 (by decide +kernel) (fun _ => rfl) (by decide +kernel) rfl rfl (by decide) dX4_init_19 ?_
  refine gi_dup E rfl dX4_init_22 ?_
  refine gi_iconst E (nI 3) dX4_init_23 (by decide +kernel) ?_
  refine gi_iconst E (nI 3) dX4_init_24 (by decide +kernel) ?_
  refine mk_callP (As := [.int (nI 3), .int (nI 3)]) (cells' := 10) (slots' := 59) E (mkB_3_X10_init l cs D b0) Fi_X10_init mi_RX4_11 ⟨rfl, rfl⟩ (by decide) rfl rfl (by decide) rfl rfl (Nat.le_of_ble_eq_true rfl) dX4_init_25 ?_
  refine mk_putr (t := 7) (ds := [(1, 2, 0), (3, 0, 0), (3, 0, 0), (3, 0, 0), (3, 0, 0), (3, 0, 0), (3, 0, 0), (3, 0, 0), (0, 0, 0), (0, 0, 0)]) (S' := (((SB.take 12).set 0 (.inl (11, [(3, 0, 0), (3, 0, 0), (3, 0, 0), (3, 0, 0), (3, 0, 0), (3, 0, 0)]))).set 1 (.inl (4, [(1, 2, 0), (1, 7, 0), (3, 0, 0), (3, 0, 0), (3, 0, 0), (3, 0, 0), (3, 0, 0), (3, 0, 0), (0, 0, 0), (0, 0, 0)])))) E (1, 7, 0) hi qf_RX4_20 (by decide +kernel) (by decide) rfl rfl rfl (by decide +kernel) dX4_init_28 ?_
  refine gi_aload_n E 0 dX4_init_31 rfl rfl ?_
  refine mk_new (n := 12) (cells' := 11) (slots' := 62) (S' := ((((SB.take 13).set 0 (.inl (11, [(3, 0, 0), (3, 0, 0), (3, 0, 0), (3, 0, 0), (3, 0, 0), (3, 0, 0)]))).set 1 (.inl (4, [(1, 2, 0), (1, 7, 0), (3, 0, 0), (3, 0, 0), (3, 0, 0), (3, 0, 0), (3, 0, 0), (3, 0, 0), (0, 0, 0), (0, 0, 0)]))).set 12 (.inl (6, [(3, 0, 0), (0, 0, 0), (3, 0, 0)])))) E nf_RX4_23 (by decide +kernel) (fun _ => rfl) (by decide +kernel) rfl rfl (by decide) dX4_init_32 ?_
  refine gi_dup E rfl dX4_init_35 ?_
  refine mk_callN (As := []) (cells' := 13) (slots' := 68) E (mkB_4_X6_init l cs D b0) Fi_X6_init mi_RX4_25 ⟨rfl, rfl⟩ (by decide) rfl rfl (by decide) rfl rfl (Nat.le_of_ble_eq_true rfl) dX4_init_36 ?_
  refine mk_putr (t := 12) (ds := [(1, 2, 0), (1, 7, 0), (3, 0, 0), (3, 0, 0), (3, 0, 0), (3, 0, 0), (3, 0, 0), (3, 0, 0), (0, 0, 0), (0, 0, 0)]) (S' := (((SB.take 15).set 0 (.inl (11, [(3, 0, 0), (3, 0, 0), (3, 0, 0), (3, 0, 0), (3, 0, 0), (3, 0, 0)]))).set 1 (.inl (4, [(1, 2, 0), (1, 7, 0), (1, 12, 0), (3, 0, 0), (3, 0, 0), (3, 0, 0), (3, 0, 0), (3, 0, 0), (0, 0, 0), (0, 0, 0)])))) E (1, 12, 0) hi qf_RX4_26 (by decide +kernel) (by decide) rfl rfl rfl (by decide +kernel) dX4_init_39 ?_
  refine gi_aload_n E 0 dX4_init_42 rfl rfl ?_
  refine mk_new (n := 15) (cells' := 14) (slots' := 78) (S' := ((((SB.take 16).set 0 (.inl (11, [(3, 0, 0), (3, 0, 0), (3, 0, 0), (3, 0, 0), (3, 0, 0), (3, 0, 0)]))).set 1 (.inl (4, [(1, 2, 0), (1, 7, 0), (1, 12, 0), (3, 0, 0), (3, 0, 0), (3, 0, 0), (3, 0, 0), (3, 0, 0), (0, 0, 0), (0, 0, 0)]))).set 15 (.inl (1, [(3, 0, 0), (0, 0, 0), (3, 0, 0), (3, 0, 0), (3, 0, 0), (3, 0, 0), (3, 0, 0), (3, 0, 0), (3, 0, 0), (0, 0, 0)])))) E nf_RX4_30 (by decide +kernel) (fun _ => rfl) (by decide +kernel) rfl rfl (by decide) dX4_init_43 ?_
  refine gi_dup E rfl dX4_init_46 ?_
  refine gi_aload_n E 0 dX4_init_47 rfl rfl ?_
  refine mk_getr (t := 12) (u := 0) E gf_RX4_26 ⟨[(1, 2, 0), (1, 7, 0), (1, 12, 0), (3, 0, 0), (3, 0, 0), (3, 0, 0), (3, 0, 0), (3, 0, 0), (0, 0, 0), (0, 0, 0)], (by decide +kernel), rfl⟩ dX4_init_48 ?_
  refine mk_callP (As := [.ref (mk_ad b0 12)]) (cells' := 21) (slots' := 638) E (mkB_5_X1_init l cs D b0) Fi_X1_init mi_RX4_32 ⟨rfl, rfl⟩ (by decide) rfl rfl (by decide) rfl rfl (Nat.le_of_ble_eq_true rfl) dX4_init_51 ?_
  refine mk_putr (t := 15) (ds := [(1, 2, 0), (1, 7, 0), (1, 12, 0), (3, 0, 0), (3, 0, 0), (3, 0, 0), (3, 0, 0), (3, 0, 0), (0, 0, 0), (0, 0, 0)]) (S' := (((SB.take 23).set 0 (.inl (11, [(3, 0, 0), (3, 0, 0), (3, 0, 0), (3, 0, 0), (3, 0, 0), (3, 0, 0)]))).set 1 (.inl (4, [(1, 2, 0), (1, 7, 0), (1, 12, 0), (1, 15, 0), (3, 0, 0), (3, 0, 0), (3, 0, 0), (3, 0, 0), (0, 0, 0), (0, 0, 0)])))) E (1, 15, 0) hi qf_RX4_35 (by decide +kernel) (by decide) rfl rfl rfl (by decide +kernel) dX4_init_54 ?_
  refine gi_aload_n E 0 dX4_init_57 rfl rfl ?_
  refine mk_new (n := 23) (cells' := 22) (slots' := 647) (S' := ((((SB.take 24).set 0 (.inl (11, [(3, 0, 0), (3, 0, 0), (3, 0, 0), (3, 0, 0), (3, 0, 0), (3, 0, 0)]))).set 1 (.inl (4, [(1, 2, 0), (1, 7, 0), (1, 12, 0), (1, 15, 0), (3, 0, 0), (3, 0, 0), (3, 0, 0), (3, 0, 0), (0, 0, 0), (0, 0, 0)]))).set 23 (.inl (9, [(3, 0, 0), (3, 0, 0), (3, 0, 0), (3, 0, 0), (3, 0, 0), (3, 0, 0), (3, 0, 0), (3, 0, 0), (0, 0, 0)])))) E nf_RX4_39 (by decide +kernel) (fun _ => rfl) (by decide +kernel) rfl rfl (by decide) dX4_init_58 ?_
  refine gi_dup E rfl dX4_init_61 ?_
  refine mk_callN (As := []) (cells' := 30) (slots' := 1055) E (mkB_6_X9_init l cs D b0) Fi_X9_init mi_RX4_41 ⟨rfl, rfl⟩ (by decide) rfl rfl (by decide) rfl rfl (Nat.le_of_ble_eq_true rfl) dX4_init_62 ?_
  refine mk_putr (t := 23) (ds := [(1, 2, 0), (1, 7, 0), (1, 12, 0), (1, 15, 0), (3, 0, 0), (3, 0, 0), (3, 0, 0), (3, 0, 0), (0, 0, 0), (0, 0, 0)]) (S' := (((SB.take 32).set 0 (.inl (11, [(3, 0, 0), (3, 0, 0), (3, 0, 0), (3, 0, 0), (3, 0, 0), (3, 0, 0)]))).set 1 (.inl (4, [(1, 2, 0), (1, 7, 0), (1, 12, 0), (1, 15, 0), (1, 23, 0), (3, 0, 0), (3, 0, 0), (3, 0, 0), (0, 0, 0), (0, 0, 0)])))) E (1, 23, 0) hi qf_RX4_42 (by decide +kernel) (by decide) rfl rfl rfl (by decide +kernel) dX4_init_65 ?_
  refine gi_aload_n E 0 dX4_init_68 rfl rfl ?_
  refine gi_iconst E (nI 3) dX4_init_69 (by decide +kernel) ?_
  refine mk_nai (n := 32) (N := 3) (cells' := 31) (slots' := 1058) (S' := (((SB.take 33).set 0 (.inl (11, [(3, 0, 0), (3, 0, 0), (3, 0, 0), (3, 0, 0), (3, 0, 0), (3, 0, 0)]))).set 1 (.inl (4, [(1, 2, 0), (1, 7, 0), (1, 12, 0), (1, 15, 0), (1, 23, 0), (3, 0, 0), (3, 0, 0), (3, 0, 0), (0, 0, 0), (0, 0, 0)])))) E af_int (by decide +kernel) (fun _ => rfl) (by decide +kernel) (by decide +kernel) (by decide +kernel) (by decide) rfl rfl (by decide) dX4_init_70 ?_
  refine mk_putr (t := 32) (ds := [(1, 2, 0), (1, 7, 0), (1, 12, 0), (1, 15, 0), (1, 23, 0), (3, 0, 0), (3, 0, 0), (3, 0, 0), (0, 0, 0), (0, 0, 0)]) (S' := (((SB.take 33).set 0 (.inl (11, [(3, 0, 0), (3, 0, 0), (3, 0, 0), (3, 0, 0), (3, 0, 0), (3, 0, 0)]))).set 1 (.inl (4, [(1, 2, 0), (1, 7, 0), (1, 12, 0), (1, 15, 0), (1, 23, 0), (1, 32, 0), (3, 0, 0), (3, 0, 0), (0, 0, 0), (0, 0, 0)])))) E (1, 32, 0) hi qf_RX4_46 (by decide +kernel) (by decide) rfl rfl rfl (by decide +kernel) dX4_init_72 ?_
  refine gi_aload_n E 0 dX4_init_75 rfl rfl ?_
  refine gi_iconst E (nI 3) dX4_init_76 (by decide +kernel) ?_
  refine mk_naz (n := 33) (N := 3) (cells' := 32) (slots' := 1061) (S' := (((SB.take 34).set 0 (.inl (11, [(3, 0, 0), (3, 0, 0), (3, 0, 0), (3, 0, 0), (3, 0, 0), (3, 0, 0)]))).set 1 (.inl (4, [(1, 2, 0), (1, 7, 0), (1, 12, 0), (1, 15, 0), (1, 23, 0), (1, 32, 0), (3, 0, 0), (3, 0, 0), (0, 0, 0), (0, 0, 0)])))) E af_boolean (by decide +kernel) (fun _ => rfl) (by decide +kernel) (by decide +kernel) (by decide +kernel) (by decide) rfl rfl (by decide) dX4_init_77 ?_
  refine mk_putr (t := 33) (ds := [(1, 2, 0), (1, 7, 0), (1, 12, 0), (1, 15, 0), (1, 23, 0), (1, 32, 0), (3, 0, 0), (3, 0, 0), (0, 0, 0), (0, 0, 0)]) (S' := (((SB.take 34).set 0 (.inl (11, [(3, 0, 0), (3, 0, 0), (3, 0, 0), (3, 0, 0), (3, 0, 0), (3, 0, 0)]))).set 1 (.inl (4, [(1, 2, 0), (1, 7, 0), (1, 12, 0), (1, 15, 0), (1, 23, 0), (1, 32, 0), (1, 33, 0), (3, 0, 0), (0, 0, 0), (0, 0, 0)])))) E (1, 33, 0) hi qf_RX4_50 (by decide +kernel) (by decide) rfl rfl rfl (by decide +kernel) dX4_init_79 ?_
  refine gi_aload_n E 0 dX4_init_82 rfl rfl ?_
  refine gi_iconst E (nI 3) dX4_init_83 (by decide +kernel) ?_
  refine mk_naz (n := 34) (N := 3) (cells' := 33) (slots' := 1064) (S' := (((SB.take 35).set 0 (.inl (11, [(3, 0, 0), (3, 0, 0), (3, 0, 0), (3, 0, 0), (3, 0, 0), (3, 0, 0)]))).set 1 (.inl (4, [(1, 2, 0), (1, 7, 0), (1, 12, 0), (1, 15, 0), (1, 23, 0), (1, 32, 0), (1, 33, 0), (3, 0, 0), (0, 0, 0), (0, 0, 0)])))) E af_boolean (by decide +kernel) (fun _ => rfl) (by decide +kernel) (by decide +kernel) (by decide +kernel) (by decide) rfl rfl (by decide) dX4_init_84 ?_
  refine mk_putr (t := 34) (ds := [(1, 2, 0), (1, 7, 0), (1, 12, 0), (1, 15, 0), (1, 23, 0), (1, 32, 0), (1, 33, 0), (3, 0, 0), (0, 0, 0), (0, 0, 0)]) (S' := ((SB.take 35).set 0 (.inl (11, [(3, 0, 0), (3, 0, 0), (3, 0, 0), (3, 0, 0), (3, 0, 0), (3, 0, 0)])))) E (1, 34, 0) hi qf_RX4_54 (by decide +kernel) (by decide) rfl rfl rfl (by decide +kernel) dX4_init_86 ?_
  exact mk_ret E hZ dX4_init_89
def rmmkB_7_X2_init : Room := { frames := 1, cells := 8, slots := 19825, locals := 12 }
set_option maxHeartbeats 4000000 in
set_option maxRecDepth 100000 in
theorem mkB_7_X2_init (l : Launch) (cs : Nat → ClassId) (D : va_G) (b0 : Nat) : mk_M l yX2_init cX2_init 1 rmmkB_7_X2_init [.ref (mk_ad b0 35)] cs D b0 (((SB.take 36).set 0 (.inl (11, [(1, 1, 0), (3, 0, 0), (3, 0, 0), (3, 0, 0), (3, 0, 0), (3, 0, 0)]))).set 35 (.inl (2, [(0, 0, 0), (0, 0, 0), (0, 0, 0), (0, 0, 0), (0, 0, 0), (0, 0, 0), (0, 0, 0), (0, 0, 0), (3, 0, 0), (3, 0, 0), (3, 0, 0), (3, 0, 0), (3, 0, 0), (3, 0, 0), (3, 0, 0), (3, 0, 0)]))) zB2 ((SB.take 44).set 0 (.inl (11, [(1, 1, 0), (3, 0, 0), (3, 0, 0), (3, 0, 0), (3, 0, 0), (3, 0, 0)]))) zB6 8 19825 := by
  refine mk_met (own := RX2) rfl (by decide +kernel) rfl (Nat.le_of_ble_eq_true rfl) rfl ?_
  intro p e s m args below meth c Z E hZ hi
  refine gi_aload_n E 0 dX2_init_0 rfl rfl ?_
  refine mk_obj E mi_RX2_3 mm_obj (by decide) (by decide) dX2_init_1 ?_
  refine gi_aload_n E 0 dX2_init_4 rfl rfl ?_
  refine gi_iconst E (-1) dX2_init_5 (by decide +kernel) ?_
  refine mk_puti (h' := zB3) (ds := [(0, 0, 0), (0, 0, 0), (0, 0, 0), (0, 0, 0), (0, 0, 0), (0, 0, 0), (0, 0, 0), (0, 0, 0), (3, 0, 0), (3, 0, 0), (3, 0, 0), (3, 0, 0), (3, 0, 0), (3, 0, 0), (3, 0, 0), (3, 0, 0)]) E hi qf_RX2_9 (by decide +kernel) rfl (by decide) rfl dX2_init_6 ?_
  refine gi_aload_n E 0 dX2_init_9 rfl rfl ?_
  refine gi_iconst E (-1) dX2_init_10 (by decide +kernel) ?_
  refine mk_puti (h' := zB4) (ds := [(0, 0, 0), (0, 0, 0), (0, 0, 0), (0, 0, 0), (0, 0, 0), (0, 0, 0), (0, 0, 0), (0, 0, 0), (3, 0, 0), (3, 0, 0), (3, 0, 0), (3, 0, 0), (3, 0, 0), (3, 0, 0), (3, 0, 0), (3, 0, 0)]) E hi qf_RX2_15 (by decide +kernel) rfl (by decide) rfl dX2_init_11 ?_
  refine gi_aload_n E 0 dX2_init_14 rfl rfl ?_
  refine gi_iconst E (-1) dX2_init_15 (by decide +kernel) ?_
  refine mk_puti (h' := zB5) (ds := [(0, 0, 0), (0, 0, 0), (0, 0, 0), (0, 0, 0), (0, 0, 0), (0, 0, 0), (0, 0, 0), (0, 0, 0), (3, 0, 0), (3, 0, 0), (3, 0, 0), (3, 0, 0), (3, 0, 0), (3, 0, 0), (3, 0, 0), (3, 0, 0)]) E hi qf_RX2_18 (by decide +kernel) rfl (by decide) rfl dX2_init_16 ?_
  refine gi_aload_n E 0 dX2_init_19 rfl rfl ?_
  refine gi_iconst E (-1) dX2_init_20 (by decide +kernel) ?_
  refine mk_puti (h' := zB6) (ds := [(0, 0, 0), (0, 0, 0), (0, 0, 0), (0, 0, 0), (0, 0, 0), (0, 0, 0), (0, 0, 0), (0, 0, 0), (3, 0, 0), (3, 0, 0), (3, 0, 0), (3, 0, 0), (3, 0, 0), (3, 0, 0), (3, 0, 0), (3, 0, 0)]) E hi qf_RX2_21 (by decide +kernel) rfl (by decide) rfl dX2_init_21 ?_
  refine gi_aload_n E 0 dX2_init_24 rfl rfl ?_
  refine gi_sipush E (nI 401) dX2_init_25 (by decide +kernel) ?_
  refine mk_nai (n := 36) (N := 401) (cells' := 1) (slots' := 401) (S' := (((SB.take 37).set 0 (.inl (11, [(1, 1, 0), (3, 0, 0), (3, 0, 0), (3, 0, 0), (3, 0, 0), (3, 0, 0)]))).set 35 (.inl (2, [(0, 0, 0), (0, 0, 0), (0, 0, 0), (0, 0, 0), (0, 0, 0), (0, 0, 0), (0, 0, 0), (0, 0, 0), (3, 0, 0), (3, 0, 0), (3, 0, 0), (3, 0, 0), (3, 0, 0), (3, 0, 0), (3, 0, 0), (3, 0, 0)])))) E af_int (by decide +kernel) (fun _ => rfl) (by decide +kernel) (by decide +kernel) (by decide +kernel) (by decide) rfl rfl (by decide) dX2_init_28 ?_
  refine mk_putr (t := 36) (ds := [(0, 0, 0), (0, 0, 0), (0, 0, 0), (0, 0, 0), (0, 0, 0), (0, 0, 0), (0, 0, 0), (0, 0, 0), (3, 0, 0), (3, 0, 0), (3, 0, 0), (3, 0, 0), (3, 0, 0), (3, 0, 0), (3, 0, 0), (3, 0, 0)]) (S' := (((SB.take 37).set 0 (.inl (11, [(1, 1, 0), (3, 0, 0), (3, 0, 0), (3, 0, 0), (3, 0, 0), (3, 0, 0)]))).set 35 (.inl (2, [(0, 0, 0), (0, 0, 0), (0, 0, 0), (0, 0, 0), (0, 0, 0), (0, 0, 0), (0, 0, 0), (0, 0, 0), (1, 36, 0), (3, 0, 0), (3, 0, 0), (3, 0, 0), (3, 0, 0), (3, 0, 0), (3, 0, 0), (3, 0, 0)])))) E (1, 36, 0) hi qf_RX2_24 (by decide +kernel) (by decide) rfl rfl rfl (by decide +kernel) dX2_init_30 ?_
  refine gi_aload_n E 0 dX2_init_33 rfl rfl ?_
  refine gi_sipush E (nI 6000) dX2_init_34 (by decide +kernel) ?_
  refine mk_nai (n := 37) (N := 6000) (cells' := 2) (slots' := 6401) (S' := (((SB.take 38).set 0 (.inl (11, [(1, 1, 0), (3, 0, 0), (3, 0, 0), (3, 0, 0), (3, 0, 0), (3, 0, 0)]))).set 35 (.inl (2, [(0, 0, 0), (0, 0, 0), (0, 0, 0), (0, 0, 0), (0, 0, 0), (0, 0, 0), (0, 0, 0), (0, 0, 0), (1, 36, 0), (3, 0, 0), (3, 0, 0), (3, 0, 0), (3, 0, 0), (3, 0, 0), (3, 0, 0), (3, 0, 0)])))) E af_int (by decide +kernel) (fun _ => rfl) (by decide +kernel) (by decide +kernel) (by decide +kernel) (by decide) rfl rfl (by decide) dX2_init_37 ?_
  refine mk_putr (t := 37) (ds := [(0, 0, 0), (0, 0, 0), (0, 0, 0), (0, 0, 0), (0, 0, 0), (0, 0, 0), (0, 0, 0), (0, 0, 0), (1, 36, 0), (3, 0, 0), (3, 0, 0), (3, 0, 0), (3, 0, 0), (3, 0, 0), (3, 0, 0), (3, 0, 0)]) (S' := (((SB.take 38).set 0 (.inl (11, [(1, 1, 0), (3, 0, 0), (3, 0, 0), (3, 0, 0), (3, 0, 0), (3, 0, 0)]))).set 35 (.inl (2, [(0, 0, 0), (0, 0, 0), (0, 0, 0), (0, 0, 0), (0, 0, 0), (0, 0, 0), (0, 0, 0), (0, 0, 0), (1, 36, 0), (1, 37, 0), (3, 0, 0), (3, 0, 0), (3, 0, 0), (3, 0, 0), (3, 0, 0), (3, 0, 0)])))) E (1, 37, 0) hi qf_RX2_28 (by decide +kernel) (by decide) rfl rfl rfl (by decide +kernel) dX2_init_39 ?_
  refine gi_aload_n E 0 dX2_init_42 rfl rfl ?_
  refine gi_sipush E (nI 400) dX2_init_43 (by decide +kernel) ?_
  refine mk_nai (n := 38) (N := 400) (cells' := 3) (slots' := 6801) (S' := (((SB.take 39).set 0 (.inl (11, [(1, 1, 0), (3, 0, 0), (3, 0, 0), (3, 0, 0), (3, 0, 0), (3, 0, 0)]))).set 35 (.inl (2, [(0, 0, 0), (0, 0, 0), (0, 0, 0), (0, 0, 0), (0, 0, 0), (0, 0, 0), (0, 0, 0), (0, 0, 0), (1, 36, 0), (1, 37, 0), (3, 0, 0), (3, 0, 0), (3, 0, 0), (3, 0, 0), (3, 0, 0), (3, 0, 0)])))) E af_int (by decide +kernel) (fun _ => rfl) (by decide +kernel) (by decide +kernel) (by decide +kernel) (by decide) rfl rfl (by decide) dX2_init_46 ?_
  refine mk_putr (t := 38) (ds := [(0, 0, 0), (0, 0, 0), (0, 0, 0), (0, 0, 0), (0, 0, 0), (0, 0, 0), (0, 0, 0), (0, 0, 0), (1, 36, 0), (1, 37, 0), (3, 0, 0), (3, 0, 0), (3, 0, 0), (3, 0, 0), (3, 0, 0), (3, 0, 0)]) (S' := (((SB.take 39).set 0 (.inl (11, [(1, 1, 0), (3, 0, 0), (3, 0, 0), (3, 0, 0), (3, 0, 0), (3, 0, 0)]))).set 35 (.inl (2, [(0, 0, 0), (0, 0, 0), (0, 0, 0), (0, 0, 0), (0, 0, 0), (0, 0, 0), (0, 0, 0), (0, 0, 0), (1, 36, 0), (1, 37, 0), (1, 38, 0), (3, 0, 0), (3, 0, 0), (3, 0, 0), (3, 0, 0), (3, 0, 0)])))) E (1, 38, 0) hi qf_RX2_31 (by decide +kernel) (by decide) rfl rfl rfl (by decide +kernel) dX2_init_48 ?_
  refine gi_aload_n E 0 dX2_init_51 rfl rfl ?_
  refine gi_sipush E (nI 400) dX2_init_52 (by decide +kernel) ?_
  refine mk_nai (n := 39) (N := 400) (cells' := 4) (slots' := 7201) (S' := (((SB.take 40).set 0 (.inl (11, [(1, 1, 0), (3, 0, 0), (3, 0, 0), (3, 0, 0), (3, 0, 0), (3, 0, 0)]))).set 35 (.inl (2, [(0, 0, 0), (0, 0, 0), (0, 0, 0), (0, 0, 0), (0, 0, 0), (0, 0, 0), (0, 0, 0), (0, 0, 0), (1, 36, 0), (1, 37, 0), (1, 38, 0), (3, 0, 0), (3, 0, 0), (3, 0, 0), (3, 0, 0), (3, 0, 0)])))) E af_int (by decide +kernel) (fun _ => rfl) (by decide +kernel) (by decide +kernel) (by decide +kernel) (by decide) rfl rfl (by decide) dX2_init_55 ?_
  refine mk_putr (t := 39) (ds := [(0, 0, 0), (0, 0, 0), (0, 0, 0), (0, 0, 0), (0, 0, 0), (0, 0, 0), (0, 0, 0), (0, 0, 0), (1, 36, 0), (1, 37, 0), (1, 38, 0), (3, 0, 0), (3, 0, 0), (3, 0, 0), (3, 0, 0), (3, 0, 0)]) (S' := (((SB.take 40).set 0 (.inl (11, [(1, 1, 0), (3, 0, 0), (3, 0, 0), (3, 0, 0), (3, 0, 0), (3, 0, 0)]))).set 35 (.inl (2, [(0, 0, 0), (0, 0, 0), (0, 0, 0), (0, 0, 0), (0, 0, 0), (0, 0, 0), (0, 0, 0), (0, 0, 0), (1, 36, 0), (1, 37, 0), (1, 38, 0), (1, 39, 0), (3, 0, 0), (3, 0, 0), (3, 0, 0), (3, 0, 0)])))) E (1, 39, 0) hi qf_RX2_34 (by decide +kernel) (by decide) rfl rfl rfl (by decide +kernel) dX2_init_57 ?_
  refine gi_aload_n E 0 dX2_init_60 rfl rfl ?_
  refine gi_sipush E (nI 400) dX2_init_61 (by decide +kernel) ?_
  refine mk_nai (n := 40) (N := 400) (cells' := 5) (slots' := 7601) (S' := (((SB.take 41).set 0 (.inl (11, [(1, 1, 0), (3, 0, 0), (3, 0, 0), (3, 0, 0), (3, 0, 0), (3, 0, 0)]))).set 35 (.inl (2, [(0, 0, 0), (0, 0, 0), (0, 0, 0), (0, 0, 0), (0, 0, 0), (0, 0, 0), (0, 0, 0), (0, 0, 0), (1, 36, 0), (1, 37, 0), (1, 38, 0), (1, 39, 0), (3, 0, 0), (3, 0, 0), (3, 0, 0), (3, 0, 0)])))) E af_int (by decide +kernel) (fun _ => rfl) (by decide +kernel) (by decide +kernel) (by decide +kernel) (by decide) rfl rfl (by decide) dX2_init_64 ?_
  refine mk_putr (t := 40) (ds := [(0, 0, 0), (0, 0, 0), (0, 0, 0), (0, 0, 0), (0, 0, 0), (0, 0, 0), (0, 0, 0), (0, 0, 0), (1, 36, 0), (1, 37, 0), (1, 38, 0), (1, 39, 0), (3, 0, 0), (3, 0, 0), (3, 0, 0), (3, 0, 0)]) (S' := (((SB.take 41).set 0 (.inl (11, [(1, 1, 0), (3, 0, 0), (3, 0, 0), (3, 0, 0), (3, 0, 0), (3, 0, 0)]))).set 35 (.inl (2, [(0, 0, 0), (0, 0, 0), (0, 0, 0), (0, 0, 0), (0, 0, 0), (0, 0, 0), (0, 0, 0), (0, 0, 0), (1, 36, 0), (1, 37, 0), (1, 38, 0), (1, 39, 0), (1, 40, 0), (3, 0, 0), (3, 0, 0), (3, 0, 0)])))) E (1, 40, 0) hi qf_RX2_37 (by decide +kernel) (by decide) rfl rfl rfl (by decide +kernel) dX2_init_66 ?_
  refine gi_aload_n E 0 dX2_init_69 rfl rfl ?_
  refine gi_sipush E (nI 6000) dX2_init_70 (by decide +kernel) ?_
  refine mk_nai (n := 41) (N := 6000) (cells' := 6) (slots' := 13601) (S' := (((SB.take 42).set 0 (.inl (11, [(1, 1, 0), (3, 0, 0), (3, 0, 0), (3, 0, 0), (3, 0, 0), (3, 0, 0)]))).set 35 (.inl (2, [(0, 0, 0), (0, 0, 0), (0, 0, 0), (0, 0, 0), (0, 0, 0), (0, 0, 0), (0, 0, 0), (0, 0, 0), (1, 36, 0), (1, 37, 0), (1, 38, 0), (1, 39, 0), (1, 40, 0), (3, 0, 0), (3, 0, 0), (3, 0, 0)])))) E af_int (by decide +kernel) (fun _ => rfl) (by decide +kernel) (by decide +kernel) (by decide +kernel) (by decide) rfl rfl (by decide) dX2_init_73 ?_
  refine mk_putr (t := 41) (ds := [(0, 0, 0), (0, 0, 0), (0, 0, 0), (0, 0, 0), (0, 0, 0), (0, 0, 0), (0, 0, 0), (0, 0, 0), (1, 36, 0), (1, 37, 0), (1, 38, 0), (1, 39, 0), (1, 40, 0), (3, 0, 0), (3, 0, 0), (3, 0, 0)]) (S' := (((SB.take 42).set 0 (.inl (11, [(1, 1, 0), (3, 0, 0), (3, 0, 0), (3, 0, 0), (3, 0, 0), (3, 0, 0)]))).set 35 (.inl (2, [(0, 0, 0), (0, 0, 0), (0, 0, 0), (0, 0, 0), (0, 0, 0), (0, 0, 0), (0, 0, 0), (0, 0, 0), (1, 36, 0), (1, 37, 0), (1, 38, 0), (1, 39, 0), (1, 40, 0), (1, 41, 0), (3, 0, 0), (3, 0, 0)])))) E (1, 41, 0) hi qf_RX2_40 (by decide +kernel) (by decide) rfl rfl rfl (by decide +kernel) dX2_init_75 ?_
  refine gi_aload_n E 0 dX2_init_78 rfl rfl ?_
  refine gi_sipush E (nI 5200) dX2_init_79 (by decide +kernel) ?_
  refine mk_nai (n := 42) (N := 5200) (cells' := 7) (slots' := 18801) (S' := (((SB.take 43).set 0 (.inl (11, [(1, 1, 0), (3, 0, 0), (3, 0, 0), (3, 0, 0), (3, 0, 0), (3, 0, 0)]))).set 35 (.inl (2, [(0, 0, 0), (0, 0, 0), (0, 0, 0), (0, 0, 0), (0, 0, 0), (0, 0, 0), (0, 0, 0), (0, 0, 0), (1, 36, 0), (1, 37, 0), (1, 38, 0), (1, 39, 0), (1, 40, 0), (1, 41, 0), (3, 0, 0), (3, 0, 0)])))) E af_int (by decide +kernel) (fun _ => rfl) (by decide +kernel) (by decide +kernel) (by decide +kernel) (by decide) rfl rfl (by decide) dX2_init_82 ?_
  refine mk_putr (t := 42) (ds := [(0, 0, 0), (0, 0, 0), (0, 0, 0), (0, 0, 0), (0, 0, 0), (0, 0, 0), (0, 0, 0), (0, 0, 0), (1, 36, 0), (1, 37, 0), (1, 38, 0), (1, 39, 0), (1, 40, 0), (1, 41, 0), (3, 0, 0), (3, 0, 0)]) (S' := (((SB.take 43).set 0 (.inl (11, [(1, 1, 0), (3, 0, 0), (3, 0, 0), (3, 0, 0), (3, 0, 0), (3, 0, 0)]))).set 35 (.inl (2, [(0, 0, 0), (0, 0, 0), (0, 0, 0), (0, 0, 0), (0, 0, 0), (0, 0, 0), (0, 0, 0), (0, 0, 0), (1, 36, 0), (1, 37, 0), (1, 38, 0), (1, 39, 0), (1, 40, 0), (1, 41, 0), (1, 42, 0), (3, 0, 0)])))) E (1, 42, 0) hi qf_RX2_45 (by decide +kernel) (by decide) rfl rfl rfl (by decide +kernel) dX2_init_84 ?_
  refine gi_aload_n E 0 dX2_init_87 rfl rfl ?_
  refine gi_sipush E (nI 1024) dX2_init_88 (by decide +kernel) ?_
  refine mk_nai (n := 43) (N := 1024) (cells' := 8) (slots' := 19825) (S' := (((SB.take 44).set 0 (.inl (11, [(1, 1, 0), (3, 0, 0), (3, 0, 0), (3, 0, 0), (3, 0, 0), (3, 0, 0)]))).set 35 (.inl (2, [(0, 0, 0), (0, 0, 0), (0, 0, 0), (0, 0, 0), (0, 0, 0), (0, 0, 0), (0, 0, 0), (0, 0, 0), (1, 36, 0), (1, 37, 0), (1, 38, 0), (1, 39, 0), (1, 40, 0), (1, 41, 0), (1, 42, 0), (3, 0, 0)])))) E af_int (by decide +kernel) (fun _ => rfl) (by decide +kernel) (by decide +kernel) (by decide +kernel) (by decide) rfl rfl (by decide) dX2_init_91 ?_
  refine mk_putr (t := 43) (ds := [(0, 0, 0), (0, 0, 0), (0, 0, 0), (0, 0, 0), (0, 0, 0), (0, 0, 0), (0, 0, 0), (0, 0, 0), (1, 36, 0), (1, 37, 0), (1, 38, 0), (1, 39, 0), (1, 40, 0), (1, 41, 0), (1, 42, 0), (3, 0, 0)]) (S' := ((SB.take 44).set 0 (.inl (11, [(1, 1, 0), (3, 0, 0), (3, 0, 0), (3, 0, 0), (3, 0, 0), (3, 0, 0)])))) E (1, 43, 0) hi qf_RX2_48 (by decide +kernel) (by decide) rfl rfl rfl (by decide +kernel) dX2_init_93 ?_
  exact mk_ret E hZ dX2_init_96
def rmmkB_9_X7_init : Room := { frames := 1, cells := 1, slots := 13, locals := 12 }
set_option maxHeartbeats 4000000 in
set_option maxRecDepth 100000 in
theorem mkB_9_X7_init (l : Launch) (cs : Nat → ClassId) (D : va_G) (b0 : Nat) : mk_M l yX7_init cX7_init 1 rmmkB_9_X7_init [.ref (mk_ad b0 45)] cs D b0 ((((SB.take 46).set 0 (.inl (11, [(1, 1, 0), (1, 35, 0), (3, 0, 0), (3, 0, 0), (3, 0, 0), (3, 0, 0)]))).set 44 (.inl (8, [(3, 0, 0), (3, 0, 0), (3, 0, 0), (3, 0, 0), (3, 0, 0)]))).set 45 (.inl (7, [(3, 0, 0)]))) zB6 (((SB.take 47).set 0 (.inl (11, [(1, 1, 0), (1, 35, 0), (3, 0, 0), (3, 0, 0), (3, 0, 0), (3, 0, 0)]))).set 44 (.inl (8, [(3, 0, 0), (3, 0, 0), (3, 0, 0), (3, 0, 0), (3, 0, 0)]))) zB6 1 13 := by
  refine mk_met (own := RX7) rfl (by decide +kernel) rfl (Nat.le_of_ble_eq_true rfl) rfl ?_
  intro p e s m args below meth c Z E hZ hi
  refine gi_aload_n E 0 dX7_init_0 rfl rfl ?_
  refine mk_obj E mi_RX7_5 mm_obj (by decide) (by decide) dX7_init_1 ?_
  refine gi_aload_n E 0 dX7_init_4 rfl rfl ?_
  refine gi_bipush E (nI 13) dX7_init_5 (by decide +kernel) ?_
  refine mk_nai (n := 46) (N := 13) (cells' := 1) (slots' := 13) (S' := ((((SB.take 47).set 0 (.inl (11, [(1, 1, 0), (1, 35, 0), (3, 0, 0), (3, 0, 0), (3, 0, 0), (3, 0, 0)]))).set 44 (.inl (8, [(3, 0, 0), (3, 0, 0), (3, 0, 0), (3, 0, 0), (3, 0, 0)]))).set 45 (.inl (7, [(3, 0, 0)])))) E af_int (by decide +kernel) (fun _ => rfl) (by decide +kernel) (by decide +kernel) (by decide +kernel) (by decide) rfl rfl (by decide) dX7_init_7 ?_
  refine mk_putr (t := 46) (ds := [(3, 0, 0)]) (S' := (((SB.take 47).set 0 (.inl (11, [(1, 1, 0), (1, 35, 0), (3, 0, 0), (3, 0, 0), (3, 0, 0), (3, 0, 0)]))).set 44 (.inl (8, [(3, 0, 0), (3, 0, 0), (3, 0, 0), (3, 0, 0), (3, 0, 0)])))) E (1, 46, 0) hi qf_RX7_11 (by decide +kernel) (by decide) rfl rfl rfl (by decide +kernel) dX7_init_9 ?_
  exact mk_ret E hZ dX7_init_12
def rmmkB_10_X7_init : Room := { frames := 1, cells := 1, slots := 13, locals := 12 }
set_option maxHeartbeats 4000000 in
set_option maxRecDepth 100000 in
theorem mkB_10_X7_init (l : Launch) (cs : Nat → ClassId) (D : va_G) (b0 : Nat) : mk_M l yX7_init cX7_init 1 rmmkB_10_X7_init [.ref (mk_ad b0 47)] cs D b0 ((((SB.take 48).set 0 (.inl (11, [(1, 1, 0), (1, 35, 0), (3, 0, 0), (3, 0, 0), (3, 0, 0), (3, 0, 0)]))).set 44 (.inl (8, [(3, 0, 0), (3, 0, 0), (1, 45, 0), (3, 0, 0), (3, 0, 0)]))).set 47 (.inl (7, [(3, 0, 0)]))) zB6 (((SB.take 49).set 0 (.inl (11, [(1, 1, 0), (1, 35, 0), (3, 0, 0), (3, 0, 0), (3, 0, 0), (3, 0, 0)]))).set 44 (.inl (8, [(3, 0, 0), (3, 0, 0), (1, 45, 0), (3, 0, 0), (3, 0, 0)]))) zB6 1 13 := by
  refine mk_met (own := RX7) rfl (by decide +kernel) rfl (Nat.le_of_ble_eq_true rfl) rfl ?_
  intro p e s m args below meth c Z E hZ hi
  refine gi_aload_n E 0 dX7_init_0 rfl rfl ?_
  refine mk_obj E mi_RX7_5 mm_obj (by decide) (by decide) dX7_init_1 ?_
  refine gi_aload_n E 0 dX7_init_4 rfl rfl ?_
  refine gi_bipush E (nI 13) dX7_init_5 (by decide +kernel) ?_
  refine mk_nai (n := 48) (N := 13) (cells' := 1) (slots' := 13) (S' := ((((SB.take 49).set 0 (.inl (11, [(1, 1, 0), (1, 35, 0), (3, 0, 0), (3, 0, 0), (3, 0, 0), (3, 0, 0)]))).set 44 (.inl (8, [(3, 0, 0), (3, 0, 0), (1, 45, 0), (3, 0, 0), (3, 0, 0)]))).set 47 (.inl (7, [(3, 0, 0)])))) E af_int (by decide +kernel) (fun _ => rfl) (by decide +kernel) (by decide +kernel) (by decide +kernel) (by decide) rfl rfl (by decide) dX7_init_7 ?_
  refine mk_putr (t := 48) (ds := [(3, 0, 0)]) (S' := (((SB.take 49).set 0 (.inl (11, [(1, 1, 0), (1, 35, 0), (3, 0, 0), (3, 0, 0), (3, 0, 0), (3, 0, 0)]))).set 44 (.inl (8, [(3, 0, 0), (3, 0, 0), (1, 45, 0), (3, 0, 0), (3, 0, 0)])))) E (1, 48, 0) hi qf_RX7_11 (by decide +kernel) (by decide) rfl rfl rfl (by decide +kernel) dX7_init_9 ?_
  exact mk_ret E hZ dX7_init_12
def rmmkB_8_X8_init : Room := { frames := 2, cells := 5, slots := 32, locals := 32 }
set_option maxHeartbeats 4000000 in
set_option maxRecDepth 100000 in
theorem mkB_8_X8_init (l : Launch) (cs : Nat → ClassId) (D : va_G) (b0 : Nat) : mk_M l yX8_init cX8_init 3 rmmkB_8_X8_init [.ref (mk_ad b0 44), .ref (mk_ad b0 1), .ref (mk_ad b0 35)] cs D b0 (((SB.take 45).set 0 (.inl (11, [(1, 1, 0), (1, 35, 0), (3, 0, 0), (3, 0, 0), (3, 0, 0), (3, 0, 0)]))).set 44 (.inl (8, [(3, 0, 0), (3, 0, 0), (3, 0, 0), (3, 0, 0), (3, 0, 0)]))) zB6 ((SB.take 50).set 0 (.inl (11, [(1, 1, 0), (1, 35, 0), (3, 0, 0), (3, 0, 0), (3, 0, 0), (3, 0, 0)]))) zB6 5 32 := by
  refine mk_met (own := RX8) rfl (by decide +kernel) rfl (Nat.le_of_ble_eq_true rfl) rfl ?_
  intro p e s m args below meth c Z E hZ hi
  refine gi_aload_n E 0 dX8_init_0 rfl rfl ?_
  refine mk_obj E mi_RX8_3 mm_obj (by decide) (by decide) dX8_init_1 ?_
  refine gi_aload_n E 0 dX8_init_4 rfl rfl ?_
  refine mk_new (n := 45) (cells' := 1) (slots' := 1) (S' := ((((SB.take 46).set 0 (.inl (11, [(1, 1, 0), (1, 35, 0), (3, 0, 0), (3, 0, 0), (3, 0, 0), (3, 0, 0)]))).set 44 (.inl (8, [(3, 0, 0), (3, 0, 0), (3, 0, 0), (3, 0, 0), (3, 0, 0)]))).set 45 (.inl (7, [(3, 0, 0)])))) E nf_RX8_9 (by decide +kernel) (fun _ => rfl) (by decide +kernel) rfl rfl (by decide) dX8_init_5 ?_
  refine gi_dup E rfl dX8_init_8 ?_
  refine mk_callN (As := []) (cells' := 2) (slots' := 14) E (mkB_9_X7_init l cs D b0) Fi_X7_init mi_RX8_11 ⟨rfl, rfl⟩ (by decide) rfl rfl (by decide) rfl rfl (Nat.le_of_ble_eq_true rfl) dX8_init_9 ?_
  refine mk_putr (t := 45) (ds := [(3, 0, 0), (3, 0, 0), (3, 0, 0), (3, 0, 0), (3, 0, 0)]) (S' := (((SB.take 47).set 0 (.inl (11, [(1, 1, 0), (1, 35, 0), (3, 0, 0), (3, 0, 0), (3, 0, 0), (3, 0, 0)]))).set 44 (.inl (8, [(3, 0, 0), (3, 0, 0), (1, 45, 0), (3, 0, 0), (3, 0, 0)])))) E (1, 45, 0) hi qf_RX8_12 (by decide +kernel) (by decide) rfl rfl rfl (by decide +kernel) dX8_init_12 ?_
  refine gi_aload_n E 0 dX8_init_15 rfl rfl ?_
  refine mk_new (n := 47) (cells' := 3) (slots' := 15) (S' := ((((SB.take 48).set 0 (.inl (11, [(1, 1, 0), (1, 35, 0), (3, 0, 0), (3, 0, 0), (3, 0, 0), (3, 0, 0)]))).set 44 (.inl (8, [(3, 0, 0), (3, 0, 0), (1, 45, 0), (3, 0, 0), (3, 0, 0)]))).set 47 (.inl (7, [(3, 0, 0)])))) E nf_RX8_9 (by decide +kernel) (fun _ => rfl) (by decide +kernel) rfl rfl (by decide) dX8_init_16 ?_
  refine gi_dup E rfl dX8_init_19 ?_
  refine mk_callN (As := []) (cells' := 4) (slots' := 28) E (mkB_10_X7_init l cs D b0) Fi_X7_init mi_RX8_11 ⟨rfl, rfl⟩ (by decide) rfl rfl (by decide) rfl rfl (Nat.le_of_ble_eq_true rfl) dX8_init_20 ?_
  refine mk_putr (t := 47) (ds := [(3, 0, 0), (3, 0, 0), (1, 45, 0), (3, 0, 0), (3, 0, 0)]) (S' := (((SB.take 49).set 0 (.inl (11, [(1, 1, 0), (1, 35, 0), (3, 0, 0), (3, 0, 0), (3, 0, 0), (3, 0, 0)]))).set 44 (.inl (8, [(3, 0, 0), (3, 0, 0), (1, 45, 0), (1, 47, 0), (3, 0, 0)])))) E (1, 47, 0) hi qf_RX8_18 (by decide +kernel) (by decide) rfl rfl rfl (by decide +kernel) dX8_init_23 ?_
  refine gi_aload_n E 0 dX8_init_26 rfl rfl ?_
  refine gi_iconst E (nI 4) dX8_init_27 (by decide +kernel) ?_
  refine mk_nai (n := 49) (N := 4) (cells' := 5) (slots' := 32) (S' := (((SB.take 50).set 0 (.inl (11, [(1, 1, 0), (1, 35, 0), (3, 0, 0), (3, 0, 0), (3, 0, 0), (3, 0, 0)]))).set 44 (.inl (8, [(3, 0, 0), (3, 0, 0), (1, 45, 0), (1, 47, 0), (3, 0, 0)])))) E af_int (by decide +kernel) (fun _ => rfl) (by decide +kernel) (by decide +kernel) (by decide +kernel) (by decide) rfl rfl (by decide) dX8_init_28 ?_
  refine mk_putr (t := 49) (ds := [(3, 0, 0), (3, 0, 0), (1, 45, 0), (1, 47, 0), (3, 0, 0)]) (S' := (((SB.take 50).set 0 (.inl (11, [(1, 1, 0), (1, 35, 0), (3, 0, 0), (3, 0, 0), (3, 0, 0), (3, 0, 0)]))).set 44 (.inl (8, [(3, 0, 0), (3, 0, 0), (1, 45, 0), (1, 47, 0), (1, 49, 0)])))) E (1, 49, 0) hi qf_RX8_21 (by decide +kernel) (by decide) rfl rfl rfl (by decide +kernel) dX8_init_30 ?_
  refine gi_aload_n E 0 dX8_init_33 rfl rfl ?_
  refine gi_aload_n E 1 dX8_init_34 rfl rfl ?_
  refine mk_putr (t := 1) (ds := [(3, 0, 0), (3, 0, 0), (1, 45, 0), (1, 47, 0), (1, 49, 0)]) (S' := (((SB.take 50).set 0 (.inl (11, [(1, 1, 0), (1, 35, 0), (3, 0, 0), (3, 0, 0), (3, 0, 0), (3, 0, 0)]))).set 44 (.inl (8, [(1, 1, 0), (3, 0, 0), (1, 45, 0), (1, 47, 0), (1, 49, 0)])))) E (1, 1, 0) hi qf_RX8_25 (by decide +kernel) (by decide) rfl rfl rfl (by decide +kernel) dX8_init_35 ?_
  refine gi_aload_n E 0 dX8_init_38 rfl rfl ?_
  refine gi_aload_n E 2 dX8_init_39 rfl rfl ?_
  refine mk_putr (t := 35) (ds := [(1, 1, 0), (3, 0, 0), (1, 45, 0), (1, 47, 0), (1, 49, 0)]) (S' := ((SB.take 50).set 0 (.inl (11, [(1, 1, 0), (1, 35, 0), (3, 0, 0), (3, 0, 0), (3, 0, 0), (3, 0, 0)])))) E (1, 35, 0) hi qf_RX8_29 (by decide +kernel) (by decide) rfl rfl rfl (by decide +kernel) dX8_init_40 ?_
  exact mk_ret E hZ dX8_init_43
def rmmkB_12_X7_init : Room := { frames := 1, cells := 1, slots := 13, locals := 12 }
set_option maxHeartbeats 4000000 in
set_option maxRecDepth 100000 in
theorem mkB_12_X7_init (l : Launch) (cs : Nat → ClassId) (D : va_G) (b0 : Nat) : mk_M l yX7_init cX7_init 1 rmmkB_12_X7_init [.ref (mk_ad b0 51)] cs D b0 ((((SB.take 52).set 0 (.inl (11, [(1, 1, 0), (1, 35, 0), (1, 44, 0), (3, 0, 0), (3, 0, 0), (3, 0, 0)]))).set 50 (.inl (5, [(3, 0, 0), (3, 0, 0), (3, 0, 0)]))).set 51 (.inl (7, [(3, 0, 0)]))) zB6 (((SB.take 53).set 0 (.inl (11, [(1, 1, 0), (1, 35, 0), (1, 44, 0), (3, 0, 0), (3, 0, 0), (3, 0, 0)]))).set 50 (.inl (5, [(3, 0, 0), (3, 0, 0), (3, 0, 0)]))) zB6 1 13 := by
  refine mk_met (own := RX7) rfl (by decide +kernel) rfl (Nat.le_of_ble_eq_true rfl) rfl ?_
  intro p e s m args below meth c Z E hZ hi
  refine gi_aload_n E 0 dX7_init_0 rfl rfl ?_
  refine mk_obj E mi_RX7_5 mm_obj (by decide) (by decide) dX7_init_1 ?_
  refine gi_aload_n E 0 dX7_init_4 rfl rfl ?_
  refine gi_bipush E (nI 13) dX7_init_5 (by decide +kernel) ?_
  refine mk_nai (n := 52) (N := 13) (cells' := 1) (slots' := 13) (S' := ((((SB.take 53).set 0 (.inl (11, [(1, 1, 0), (1, 35, 0), (1, 44, 0), (3, 0, 0), (3, 0, 0), (3, 0, 0)]))).set 50 (.inl (5, [(3, 0, 0), (3, 0, 0), (3, 0, 0)]))).set 51 (.inl (7, [(3, 0, 0)])))) E af_int (by decide +kernel) (fun _ => rfl) (by decide +kernel) (by decide +kernel) (by decide +kernel) (by decide) rfl rfl (by decide) dX7_init_7 ?_
  refine mk_putr (t := 52) (ds := [(3, 0, 0)]) (S' := (((SB.take 53).set 0 (.inl (11, [(1, 1, 0), (1, 35, 0), (1, 44, 0), (3, 0, 0), (3, 0, 0), (3, 0, 0)]))).set 50 (.inl (5, [(3, 0, 0), (3, 0, 0), (3, 0, 0)])))) E (1, 52, 0) hi qf_RX7_11 (by decide +kernel) (by decide) rfl rfl rfl (by decide +kernel) dX7_init_9 ?_
  exact mk_ret E hZ dX7_init_12
def rmmkB_11_X5_init : Room := { frames := 2, cells := 2, slots := 14, locals := 32 }
set_option maxHeartbeats 4000000 in
set_option maxRecDepth 100000 in
theorem mkB_11_X5_init (l : Launch) (cs : Nat → ClassId) (D : va_G) (b0 : Nat) : mk_M l yX5_init cX5_init 3 rmmkB_11_X5_init [.ref (mk_ad b0 50), .ref (mk_ad b0 1), .ref (mk_ad b0 35)] cs D b0 (((SB.take 51).set 0 (.inl (11, [(1, 1, 0), (1, 35, 0), (1, 44, 0), (3, 0, 0), (3, 0, 0), (3, 0, 0)]))).set 50 (.inl (5, [(3, 0, 0), (3, 0, 0), (3, 0, 0)]))) zB6 ((SB.take 53).set 0 (.inl (11, [(1, 1, 0), (1, 35, 0), (1, 44, 0), (3, 0, 0), (3, 0, 0), (3, 0, 0)]))) zB6 2 14 := by
  refine mk_met (own := RX5) rfl (by decide +kernel) rfl (Nat.le_of_ble_eq_true rfl) rfl ?_
  intro p e s m args below meth c Z E hZ hi
  refine gi_aload_n E 0 dX5_init_0 rfl rfl ?_
  refine mk_obj E mi_RX5_3 mm_obj (by decide) (by decide) dX5_init_1 ?_
  refine gi_aload_n E 0 dX5_init_4 rfl rfl ?_
  refine mk_new (n := 51) (cells' := 1) (slots' := 1) (S' := ((((SB.take 52).set 0 (.inl (11, [(1, 1, 0), (1, 35, 0), (1, 44, 0), (3, 0, 0), (3, 0, 0), (3, 0, 0)]))).set 50 (.inl (5, [(3, 0, 0), (3, 0, 0), (3, 0, 0)]))).set 51 (.inl (7, [(3, 0, 0)])))) E nf_RX5_9 (by decide +kernel) (fun _ => rfl) (by decide +kernel) rfl rfl (by decide) dX5_init_5 ?_
  refine gi_dup E rfl dX5_init_8 ?_
  refine mk_callN (As := []) (cells' := 2) (slots' := 14) E (mkB_12_X7_init l cs D b0) Fi_X7_init mi_RX5_11 ⟨rfl, rfl⟩ (by decide) rfl rfl (by decide) rfl rfl (Nat.le_of_ble_eq_true rfl) dX5_init_9 ?_
  refine mk_putr (t := 51) (ds := [(3, 0, 0), (3, 0, 0), (3, 0, 0)]) (S' := (((SB.take 53).set 0 (.inl (11, [(1, 1, 0), (1, 35, 0), (1, 44, 0), (3, 0, 0), (3, 0, 0), (3, 0, 0)]))).set 50 (.inl (5, [(3, 0, 0), (3, 0, 0), (1, 51, 0)])))) E (1, 51, 0) hi qf_RX5_12 (by decide +kernel) (by decide) rfl rfl rfl (by decide +kernel) dX5_init_12 ?_
  refine gi_aload_n E 0 dX5_init_15 rfl rfl ?_
  refine gi_aload_n E 1 dX5_init_16 rfl rfl ?_
  refine mk_putr (t := 1) (ds := [(3, 0, 0), (3, 0, 0), (1, 51, 0)]) (S' := (((SB.take 53).set 0 (.inl (11, [(1, 1, 0), (1, 35, 0), (1, 44, 0), (3, 0, 0), (3, 0, 0), (3, 0, 0)]))).set 50 (.inl (5, [(1, 1, 0), (3, 0, 0), (1, 51, 0)])))) E (1, 1, 0) hi qf_RX5_18 (by decide +kernel) (by decide) rfl rfl rfl (by decide +kernel) dX5_init_17 ?_
  refine gi_aload_n E 0 dX5_init_20 rfl rfl ?_
  refine gi_aload_n E 2 dX5_init_21 rfl rfl ?_
  refine mk_putr (t := 35) (ds := [(1, 1, 0), (3, 0, 0), (1, 51, 0)]) (S' := ((SB.take 53).set 0 (.inl (11, [(1, 1, 0), (1, 35, 0), (1, 44, 0), (3, 0, 0), (3, 0, 0), (3, 0, 0)])))) E (1, 35, 0) hi qf_RX5_22 (by decide +kernel) (by decide) rfl rfl rfl (by decide +kernel) dX5_init_22 ?_
  exact mk_ret E hZ dX5_init_25
def rmmkB_13_X3_init : Room := { frames := 1, cells := 10, slots := 4000, locals := 12 }
set_option maxHeartbeats 4000000 in
set_option maxRecDepth 100000 in
theorem mkB_13_X3_init (l : Launch) (cs : Nat → ClassId) (D : va_G) (b0 : Nat) : mk_M l yX3_init cX3_init 4 rmmkB_13_X3_init [.ref (mk_ad b0 53), .ref (mk_ad b0 1), .ref (mk_ad b0 35), .ref (mk_ad b0 50)] cs D b0 (((SB.take 54).set 0 (.inl (11, [(1, 1, 0), (1, 35, 0), (1, 44, 0), (1, 50, 0), (3, 0, 0), (3, 0, 0)]))).set 53 (.inl (3, [(3, 0, 0), (3, 0, 0), (3, 0, 0), (3, 0, 0), (3, 0, 0), (3, 0, 0), (3, 0, 0), (3, 0, 0), (3, 0, 0), (3, 0, 0), (3, 0, 0), (3, 0, 0), (3, 0, 0), (0, 0, 0), (0, 0, 0), (0, 0, 0), (0, 0, 0), (0, 0, 0), (0, 0, 0), (0, 0, 0)]))) zB6 ((SB.take 64).set 0 (.inl (11, [(1, 1, 0), (1, 35, 0), (1, 44, 0), (1, 50, 0), (3, 0, 0), (3, 0, 0)]))) zB6 10 4000 := by
  refine mk_met (own := RX3) rfl (by decide +kernel) rfl (Nat.le_of_ble_eq_true rfl) rfl ?_
  intro p e s m args below meth c Z E hZ hi
  refine gi_aload_n E 0 dX3_init_0 rfl rfl ?_
  refine mk_obj E mi_RX3_3 mm_obj (by decide) (by decide) dX3_init_1 ?_
  refine gi_aload_n E 0 dX3_init_4 rfl rfl ?_
  refine gi_sipush E (nI 400) dX3_init_5 (by decide +kernel) ?_
  refine mk_naz (n := 54) (N := 400) (cells' := 1) (slots' := 400) (S' := (((SB.take 55).set 0 (.inl (11, [(1, 1, 0), (1, 35, 0), (1, 44, 0), (1, 50, 0), (3, 0, 0), (3, 0, 0)]))).set 53 (.inl (3, [(3, 0, 0), (3, 0, 0), (3, 0, 0), (3, 0, 0), (3, 0, 0), (3, 0, 0), (3, 0, 0), (3, 0, 0), (3, 0, 0), (3, 0, 0), (3, 0, 0), (3, 0, 0), (3, 0, 0), (0, 0, 0), (0, 0, 0), (0, 0, 0), (0, 0, 0), (0, 0, 0), (0, 0, 0), (0, 0, 0)])))) E af_boolean (by decide +kernel) (fun _ => rfl) (by decide +kernel) (by decide +kernel) (by decide +kernel) (by decide) rfl rfl (by decide) dX3_init_8 ?_
  refine mk_putr (t := 54) (ds := [(3, 0, 0), (3, 0, 0), (3, 0, 0), (3, 0, 0), (3, 0, 0), (3, 0, 0), (3, 0, 0), (3, 0, 0), (3, 0, 0), (3, 0, 0), (3, 0, 0), (3, 0, 0), (3, 0, 0), (0, 0, 0), (0, 0, 0), (0, 0, 0), (0, 0, 0), (0, 0, 0), (0, 0, 0), (0, 0, 0)]) (S' := (((SB.take 55).set 0 (.inl (11, [(1, 1, 0), (1, 35, 0), (1, 44, 0), (1, 50, 0), (3, 0, 0), (3, 0, 0)]))).set 53 (.inl (3, [(3, 0, 0), (3, 0, 0), (3, 0, 0), (1, 54, 0), (3, 0, 0), (3, 0, 0), (3, 0, 0), (3, 0, 0), (3, 0, 0), (3, 0, 0), (3, 0, 0), (3, 0, 0), (3, 0, 0), (0, 0, 0), (0, 0, 0), (0, 0, 0), (0, 0, 0), (0, 0, 0), (0, 0, 0), (0, 0, 0)])))) E (1, 54, 0) hi qf_RX3_9 (by decide +kernel) (by decide) rfl rfl rfl (by decide +kernel) dX3_init_10 ?_
  refine gi_aload_n E 0 dX3_init_13 rfl rfl ?_
  refine gi_sipush E (nI 400) dX3_init_14 (by decide +kernel) ?_
  refine mk_naz (n := 55) (N := 400) (cells' := 2) (slots' := 800) (S' := (((SB.take 56).set 0 (.inl (11, [(1, 1, 0), (1, 35, 0), (1, 44, 0), (1, 50, 0), (3, 0, 0), (3, 0, 0)]))).set 53 (.inl (3, [(3, 0, 0), (3, 0, 0), (3, 0, 0), (1, 54, 0), (3, 0, 0), (3, 0, 0), (3, 0, 0), (3, 0, 0), (3, 0, 0), (3, 0, 0), (3, 0, 0), (3, 0, 0), (3, 0, 0), (0, 0, 0), (0, 0, 0), (0, 0, 0), (0, 0, 0), (0, 0, 0), (0, 0, 0), (0, 0, 0)])))) E af_boolean (by decide +kernel) (fun _ => rfl) (by decide +kernel) (by decide +kernel) (by decide +kernel) (by decide) rfl rfl (by decide) dX3_init_17 ?_
  refine mk_putr (t := 55) (ds := [(3, 0, 0), (3, 0, 0), (3, 0, 0), (1, 54, 0), (3, 0, 0), (3, 0, 0), (3, 0, 0), (3, 0, 0), (3, 0, 0), (3, 0, 0), (3, 0, 0), (3, 0, 0), (3, 0, 0), (0, 0, 0), (0, 0, 0), (0, 0, 0), (0, 0, 0), (0, 0, 0), (0, 0, 0), (0, 0, 0)]) (S' := (((SB.take 56).set 0 (.inl (11, [(1, 1, 0), (1, 35, 0), (1, 44, 0), (1, 50, 0), (3, 0, 0), (3, 0, 0)]))).set 53 (.inl (3, [(3, 0, 0), (3, 0, 0), (3, 0, 0), (1, 54, 0), (1, 55, 0), (3, 0, 0), (3, 0, 0), (3, 0, 0), (3, 0, 0), (3, 0, 0), (3, 0, 0), (3, 0, 0), (3, 0, 0), (0, 0, 0), (0, 0, 0), (0, 0, 0), (0, 0, 0), (0, 0, 0), (0, 0, 0), (0, 0, 0)])))) E (1, 55, 0) hi qf_RX3_15 (by decide +kernel) (by decide) rfl rfl rfl (by decide +kernel) dX3_init_19 ?_
  refine gi_aload_n E 0 dX3_init_22 rfl rfl ?_
  refine gi_sipush E (nI 400) dX3_init_23 (by decide +kernel) ?_
  refine mk_naz (n := 56) (N := 400) (cells' := 3) (slots' := 1200) (S' := (((SB.take 57).set 0 (.inl (11, [(1, 1, 0), (1, 35, 0), (1, 44, 0), (1, 50, 0), (3, 0, 0), (3, 0, 0)]))).set 53 (.inl (3, [(3, 0, 0), (3, 0, 0), (3, 0, 0), (1, 54, 0), (1, 55, 0), (3, 0, 0), (3, 0, 0), (3, 0, 0), (3, 0, 0), (3, 0, 0), (3, 0, 0), (3, 0, 0), (3, 0, 0), (0, 0, 0), (0, 0, 0), (0, 0, 0), (0, 0, 0), (0, 0, 0), (0, 0, 0), (0, 0, 0)])))) E af_boolean (by decide +kernel) (fun _ => rfl) (by decide +kernel) (by decide +kernel) (by decide +kernel) (by decide) rfl rfl (by decide) dX3_init_26 ?_
  refine mk_putr (t := 56) (ds := [(3, 0, 0), (3, 0, 0), (3, 0, 0), (1, 54, 0), (1, 55, 0), (3, 0, 0), (3, 0, 0), (3, 0, 0), (3, 0, 0), (3, 0, 0), (3, 0, 0), (3, 0, 0), (3, 0, 0), (0, 0, 0), (0, 0, 0), (0, 0, 0), (0, 0, 0), (0, 0, 0), (0, 0, 0), (0, 0, 0)]) (S' := (((SB.take 57).set 0 (.inl (11, [(1, 1, 0), (1, 35, 0), (1, 44, 0), (1, 50, 0), (3, 0, 0), (3, 0, 0)]))).set 53 (.inl (3, [(3, 0, 0), (3, 0, 0), (3, 0, 0), (1, 54, 0), (1, 55, 0), (1, 56, 0), (3, 0, 0), (3, 0, 0), (3, 0, 0), (3, 0, 0), (3, 0, 0), (3, 0, 0), (3, 0, 0), (0, 0, 0), (0, 0, 0), (0, 0, 0), (0, 0, 0), (0, 0, 0), (0, 0, 0), (0, 0, 0)])))) E (1, 56, 0) hi qf_RX3_18 (by decide +kernel) (by decide) rfl rfl rfl (by decide +kernel) dX3_init_28 ?_
  refine gi_aload_n E 0 dX3_init_31 rfl rfl ?_
  refine gi_sipush E (nI 400) dX3_init_32 (by decide +kernel) ?_
  refine mk_naz (n := 57) (N := 400) (cells' := 4) (slots' := 1600) (S' := (((SB.take 58).set 0 (.inl (11, [(1, 1, 0), (1, 35, 0), (1, 44, 0), (1, 50, 0), (3, 0, 0), (3, 0, 0)]))).set 53 (.inl (3, [(3, 0, 0), (3, 0, 0), (3, 0, 0), (1, 54, 0), (1, 55, 0), (1, 56, 0), (3, 0, 0), (3, 0, 0), (3, 0, 0), (3, 0, 0), (3, 0, 0), (3, 0, 0), (3, 0, 0), (0, 0, 0), (0, 0, 0), (0, 0, 0), (0, 0, 0), (0, 0, 0), (0, 0, 0), (0, 0, 0)])))) E af_boolean (by decide +kernel) (fun _ => rfl) (by decide +kernel) (by decide +kernel) (by decide +kernel) (by decide) rfl rfl (by decide) dX3_init_35 ?_
  refine mk_putr (t := 57) (ds := [(3, 0, 0), (3, 0, 0), (3, 0, 0), (1, 54, 0), (1, 55, 0), (1, 56, 0), (3, 0, 0), (3, 0, 0), (3, 0, 0), (3, 0, 0), (3, 0, 0), (3, 0, 0), (3, 0, 0), (0, 0, 0), (0, 0, 0), (0, 0, 0), (0, 0, 0), (0, 0, 0), (0, 0, 0), (0, 0, 0)]) (S' := (((SB.take 58).set 0 (.inl (11, [(1, 1, 0), (1, 35, 0), (1, 44, 0), (1, 50, 0), (3, 0, 0), (3, 0, 0)]))).set 53 (.inl (3, [(3, 0, 0), (3, 0, 0), (3, 0, 0), (1, 54, 0), (1, 55, 0), (1, 56, 0), (1, 57, 0), (3, 0, 0), (3, 0, 0), (3, 0, 0), (3, 0, 0), (3, 0, 0), (3, 0, 0), (0, 0, 0), (0, 0, 0), (0, 0, 0), (0, 0, 0), (0, 0, 0), (0, 0, 0), (0, 0, 0)])))) E (1, 57, 0) hi qf_RX3_21 (by decide +kernel) (by decide) rfl rfl rfl (by decide +kernel) dX3_init_37 ?_
  refine gi_aload_n E 0 dX3_init_40 rfl rfl ?_
  refine gi_sipush E (nI 400) dX3_init_41 (by decide +kernel) ?_
  refine mk_nai (n := 58) (N := 400) (cells' := 5) (slots' := 2000) (S' := (((SB.take 59).set 0 (.inl (11, [(1, 1, 0), (1, 35, 0), (1, 44, 0), (1, 50, 0), (3, 0, 0), (3, 0, 0)]))).set 53 (.inl (3, [(3, 0, 0), (3, 0, 0), (3, 0, 0), (1, 54, 0), (1, 55, 0), (1, 56, 0), (1, 57, 0), (3, 0, 0), (3, 0, 0), (3, 0, 0), (3, 0, 0), (3, 0, 0), (3, 0, 0), (0, 0, 0), (0, 0, 0), (0, 0, 0), (0, 0, 0), (0, 0, 0), (0, 0, 0), (0, 0, 0)])))) E af_int (by decide +kernel) (fun _ => rfl) (by decide +kernel) (by decide +kernel) (by decide +kernel) (by decide) rfl rfl (by decide) dX3_init_44 ?_
  refine mk_putr (t := 58) (ds := [(3, 0, 0), (3, 0, 0), (3, 0, 0), (1, 54, 0), (1, 55, 0), (1, 56, 0), (1, 57, 0), (3, 0, 0), (3, 0, 0), (3, 0, 0), (3, 0, 0), (3, 0, 0), (3, 0, 0), (0, 0, 0), (0, 0, 0), (0, 0, 0), (0, 0, 0), (0, 0, 0), (0, 0, 0), (0, 0, 0)]) (S' := (((SB.take 59).set 0 (.inl (11, [(1, 1, 0), (1, 35, 0), (1, 44, 0), (1, 50, 0), (3, 0, 0), (3, 0, 0)]))).set 53 (.inl (3, [(3, 0, 0), (3, 0, 0), (3, 0, 0), (1, 54, 0), (1, 55, 0), (1, 56, 0), (1, 57, 0), (1, 58, 0), (3, 0, 0), (3, 0, 0), (3, 0, 0), (3, 0, 0), (3, 0, 0), (0, 0, 0), (0, 0, 0), (0, 0, 0), (0, 0, 0), (0, 0, 0), (0, 0, 0), (0, 0, 0)])))) E (1, 58, 0) hi qf_RX3_24 (by decide +kernel) (by decide) rfl rfl rfl (by decide +kernel) dX3_init_46 ?_
  refine gi_aload_n E 0 dX3_init_49 rfl rfl ?_
  refine gi_sipush E (nI 400) dX3_init_50 (by decide +kernel) ?_
  refine mk_nai (n := 59) (N := 400) (cells' := 6) (slots' := 2400) (S' := (((SB.take 60).set 0 (.inl (11, [(1, 1, 0), (1, 35, 0), (1, 44, 0), (1, 50, 0), (3, 0, 0), (3, 0, 0)]))).set 53 (.inl (3, [(3, 0, 0), (3, 0, 0), (3, 0, 0), (1, 54, 0), (1, 55, 0), (1, 56, 0), (1, 57, 0), (1, 58, 0), (3, 0, 0), (3, 0, 0), (3, 0, 0), (3, 0, 0), (3, 0, 0), (0, 0, 0), (0, 0, 0), (0, 0, 0), (0, 0, 0), (0, 0, 0), (0, 0, 0), (0, 0, 0)])))) E af_int (by decide +kernel) (fun _ => rfl) (by decide +kernel) (by decide +kernel) (by decide +kernel) (by decide) rfl rfl (by decide) dX3_init_53 ?_
  refine mk_putr (t := 59) (ds := [(3, 0, 0), (3, 0, 0), (3, 0, 0), (1, 54, 0), (1, 55, 0), (1, 56, 0), (1, 57, 0), (1, 58, 0), (3, 0, 0), (3, 0, 0), (3, 0, 0), (3, 0, 0), (3, 0, 0), (0, 0, 0), (0, 0, 0), (0, 0, 0), (0, 0, 0), (0, 0, 0), (0, 0, 0), (0, 0, 0)]) (S' := (((SB.take 60).set 0 (.inl (11, [(1, 1, 0), (1, 35, 0), (1, 44, 0), (1, 50, 0), (3, 0, 0), (3, 0, 0)]))).set 53 (.inl (3, [(3, 0, 0), (3, 0, 0), (3, 0, 0), (1, 54, 0), (1, 55, 0), (1, 56, 0), (1, 57, 0), (1, 58, 0), (1, 59, 0), (3, 0, 0), (3, 0, 0), (3, 0, 0), (3, 0, 0), (0, 0, 0), (0, 0, 0), (0, 0, 0), (0, 0, 0), (0, 0, 0), (0, 0, 0), (0, 0, 0)])))) E (1, 59, 0) hi qf_RX3_28 (by decide +kernel) (by decide) rfl rfl rfl (by decide +kernel) dX3_init_55 ?_
  refine gi_aload_n E 0 dX3_init_58 rfl rfl ?_
  refine gi_sipush E (nI 400) dX3_init_59 (by decide +kernel) ?_
  refine mk_nai (n := 60) (N := 400) (cells' := 7) (slots' := 2800) (S' := (((SB.take 61).set 0 (.inl (11, [(1, 1, 0), (1, 35, 0), (1, 44, 0), (1, 50, 0), (3, 0, 0), (3, 0, 0)]))).set 53 (.inl (3, [(3, 0, 0), (3, 0, 0), (3, 0, 0), (1, 54, 0), (1, 55, 0), (1, 56, 0), (1, 57, 0), (1, 58, 0), (1, 59, 0), (3, 0, 0), (3, 0, 0), (3, 0, 0), (3, 0, 0), (0, 0, 0), (0, 0, 0), (0, 0, 0), (0, 0, 0), (0, 0, 0), (0, 0, 0), (0, 0, 0)])))) E af_int (by decide +kernel) (fun _ => rfl) (by decide +kernel) (by decide +kernel) (by decide +kernel) (by decide) rfl rfl (by decide) dX3_init_62 ?_
  refine mk_putr (t := 60) (ds := [(3, 0, 0), (3, 0, 0), (3, 0, 0), (1, 54, 0), (1, 55, 0), (1, 56, 0), (1, 57, 0), (1, 58, 0), (1, 59, 0), (3, 0, 0), (3, 0, 0), (3, 0, 0), (3, 0, 0), (0, 0, 0), (0, 0, 0), (0, 0, 0), (0, 0, 0), (0, 0, 0), (0, 0, 0), (0, 0, 0)]) (S' := (((SB.take 61).set 0 (.inl (11, [(1, 1, 0), (1, 35, 0), (1, 44, 0), (1, 50, 0), (3, 0, 0), (3, 0, 0)]))).set 53 (.inl (3, [(3, 0, 0), (3, 0, 0), (3, 0, 0), (1, 54, 0), (1, 55, 0), (1, 56, 0), (1, 57, 0), (1, 58, 0), (1, 59, 0), (1, 60, 0), (3, 0, 0), (3, 0, 0), (3, 0, 0), (0, 0, 0), (0, 0, 0), (0, 0, 0), (0, 0, 0), (0, 0, 0), (0, 0, 0), (0, 0, 0)])))) E (1, 60, 0) hi qf_RX3_31 (by decide +kernel) (by decide) rfl rfl rfl (by decide +kernel) dX3_init_64 ?_
  refine gi_aload_n E 0 dX3_init_67 rfl rfl ?_
  refine gi_sipush E (nI 400) dX3_init_68 (by decide +kernel) ?_
  refine mk_nai (n := 61) (N := 400) (cells' := 8) (slots' := 3200) (S' := (((SB.take 62).set 0 (.inl (11, [(1, 1, 0), (1, 35, 0), (1, 44, 0), (1, 50, 0), (3, 0, 0), (3, 0, 0)]))).set 53 (.inl (3, [(3, 0, 0), (3, 0, 0), (3, 0, 0), (1, 54, 0), (1, 55, 0), (1, 56, 0), (1, 57, 0), (1, 58, 0), (1, 59, 0), (1, 60, 0), (3, 0, 0), (3, 0, 0), (3, 0, 0), (0, 0, 0), (0, 0, 0), (0, 0, 0), (0, 0, 0), (0, 0, 0), (0, 0, 0), (0, 0, 0)])))) E af_int (by decide +kernel) (fun _ => rfl) (by decide +kernel) (by decide +kernel) (by decide +kernel) (by decide) rfl rfl (by decide) dX3_init_71 ?_
  refine mk_putr (t := 61) (ds := [(3, 0, 0), (3, 0, 0), (3, 0, 0), (1, 54, 0), (1, 55, 0), (1, 56, 0), (1, 57, 0), (1, 58, 0), (1, 59, 0), (1, 60, 0), (3, 0, 0), (3, 0, 0), (3, 0, 0), (0, 0, 0), (0, 0, 0), (0, 0, 0), (0, 0, 0), (0, 0, 0), (0, 0, 0), (0, 0, 0)]) (S' := (((SB.take 62).set 0 (.inl (11, [(1, 1, 0), (1, 35, 0), (1, 44, 0), (1, 50, 0), (3, 0, 0), (3, 0, 0)]))).set 53 (.inl (3, [(3, 0, 0), (3, 0, 0), (3, 0, 0), (1, 54, 0), (1, 55, 0), (1, 56, 0), (1, 57, 0), (1, 58, 0), (1, 59, 0), (1, 60, 0), (1, 61, 0), (3, 0, 0), (3, 0, 0), (0, 0, 0), (0, 0, 0), (0, 0, 0), (0, 0, 0), (0, 0, 0), (0, 0, 0), (0, 0, 0)])))) E (1, 61, 0) hi qf_RX3_34 (by decide +kernel) (by decide) rfl rfl rfl (by decide +kernel) dX3_init_73 ?_
  refine gi_aload_n E 0 dX3_init_76 rfl rfl ?_
  refine gi_sipush E (nI 400) dX3_init_77 (by decide +kernel) ?_
  refine mk_nai (n := 62) (N := 400) (cells' := 9) (slots' := 3600) (S' := (((SB.take 63).set 0 (.inl (11, [(1, 1, 0), (1, 35, 0), (1, 44, 0), (1, 50, 0), (3, 0, 0), (3, 0, 0)]))).set 53 (.inl (3, [(3, 0, 0), (3, 0, 0), (3, 0, 0), (1, 54, 0), (1, 55, 0), (1, 56, 0), (1, 57, 0), (1, 58, 0), (1, 59, 0), (1, 60, 0), (1, 61, 0), (3, 0, 0), (3, 0, 0), (0, 0, 0), (0, 0, 0), (0, 0, 0), (0, 0, 0), (0, 0, 0), (0, 0, 0), (0, 0, 0)])))) E af_int (by decide +kernel) (fun _ => rfl) (by decide +kernel) (by decide +kernel) (by decide +kernel) (by decide) rfl rfl (by decide) dX3_init_80 ?_
  refine mk_putr (t := 62) (ds := [(3, 0, 0), (3, 0, 0), (3, 0, 0), (1, 54, 0), (1, 55, 0), (1, 56, 0), (1, 57, 0), (1, 58, 0), (1, 59, 0), (1, 60, 0), (1, 61, 0), (3, 0, 0), (3, 0, 0), (0, 0, 0), (0, 0, 0), (0, 0, 0), (0, 0, 0), (0, 0, 0), (0, 0, 0), (0, 0, 0)]) (S' := (((SB.take 63).set 0 (.inl (11, [(1, 1, 0), (1, 35, 0), (1, 44, 0), (1, 50, 0), (3, 0, 0), (3, 0, 0)]))).set 53 (.inl (3, [(3, 0, 0), (3, 0, 0), (3, 0, 0), (1, 54, 0), (1, 55, 0), (1, 56, 0), (1, 57, 0), (1, 58, 0), (1, 59, 0), (1, 60, 0), (1, 61, 0), (1, 62, 0), (3, 0, 0), (0, 0, 0), (0, 0, 0), (0, 0, 0), (0, 0, 0), (0, 0, 0), (0, 0, 0), (0, 0, 0)])))) E (1, 62, 0) hi qf_RX3_37 (by decide +kernel) (by decide) rfl rfl rfl (by decide +kernel) dX3_init_82 ?_
  refine gi_aload_n E 0 dX3_init_85 rfl rfl ?_
  refine gi_sipush E (nI 400) dX3_init_86 (by decide +kernel) ?_
  refine mk_nai (n := 63) (N := 400) (cells' := 10) (slots' := 4000) (S' := (((SB.take 64).set 0 (.inl (11, [(1, 1, 0), (1, 35, 0), (1, 44, 0), (1, 50, 0), (3, 0, 0), (3, 0, 0)]))).set 53 (.inl (3, [(3, 0, 0), (3, 0, 0), (3, 0, 0), (1, 54, 0), (1, 55, 0), (1, 56, 0), (1, 57, 0), (1, 58, 0), (1, 59, 0), (1, 60, 0), (1, 61, 0), (1, 62, 0), (3, 0, 0), (0, 0, 0), (0, 0, 0), (0, 0, 0), (0, 0, 0), (0, 0, 0), (0, 0, 0), (0, 0, 0)])))) E af_int (by decide +kernel) (fun _ => rfl) (by decide +kernel) (by decide +kernel) (by decide +kernel) (by decide) rfl rfl (by decide) dX3_init_89 ?_
  refine mk_putr (t := 63) (ds := [(3, 0, 0), (3, 0, 0), (3, 0, 0), (1, 54, 0), (1, 55, 0), (1, 56, 0), (1, 57, 0), (1, 58, 0), (1, 59, 0), (1, 60, 0), (1, 61, 0), (1, 62, 0), (3, 0, 0), (0, 0, 0), (0, 0, 0), (0, 0, 0), (0, 0, 0), (0, 0, 0), (0, 0, 0), (0, 0, 0)]) (S' := (((SB.take 64).set 0 (.inl (11, [(1, 1, 0), (1, 35, 0), (1, 44, 0), (1, 50, 0), (3, 0, 0), (3, 0, 0)]))).set 53 (.inl (3, [(3, 0, 0), (3, 0, 0), (3, 0, 0), (1, 54, 0), (1, 55, 0), (1, 56, 0), (1, 57, 0), (1, 58, 0), (1, 59, 0), (1, 60, 0), (1, 61, 0), (1, 62, 0), (1, 63, 0), (0, 0, 0), (0, 0, 0), (0, 0, 0), (0, 0, 0), (0, 0, 0), (0, 0, 0), (0, 0, 0)])))) E (1, 63, 0) hi qf_RX3_40 (by decide +kernel) (by decide) rfl rfl rfl (by decide +kernel) dX3_init_91 ?_
  refine gi_aload_n E 0 dX3_init_94 rfl rfl ?_
  refine gi_aload_n E 1 dX3_init_95 rfl rfl ?_
  refine mk_putr (t := 1) (ds := [(3, 0, 0), (3, 0, 0), (3, 0, 0), (1, 54, 0), (1, 55, 0), (1, 56, 0), (1, 57, 0), (1, 58, 0), (1, 59, 0), (1, 60, 0), (1, 61, 0), (1, 62, 0), (1, 63, 0), (0, 0, 0), (0, 0, 0), (0, 0, 0), (0, 0, 0), (0, 0, 0), (0, 0, 0), (0, 0, 0)]) (S' := (((SB.take 64).set 0 (.inl (11, [(1, 1, 0), (1, 35, 0), (1, 44, 0), (1, 50, 0), (3, 0, 0), (3, 0, 0)]))).set 53 (.inl (3, [(1, 1, 0), (3, 0, 0), (3, 0, 0), (1, 54, 0), (1, 55, 0), (1, 56, 0), (1, 57, 0), (1, 58, 0), (1, 59, 0), (1, 60, 0), (1, 61, 0), (1, 62, 0), (1, 63, 0), (0, 0, 0), (0, 0, 0), (0, 0, 0), (0, 0, 0), (0, 0, 0), (0, 0, 0), (0, 0, 0)])))) E (1, 1, 0) hi qf_RX3_43 (by decide +kernel) (by decide) rfl rfl rfl (by decide +kernel) dX3_init_96 ?_
  refine gi_aload_n E 0 dX3_init_99 rfl rfl ?_
  refine gi_aload_n E 2 dX3_init_100 rfl rfl ?_
  refine mk_putr (t := 35) (ds := [(1, 1, 0), (3, 0, 0), (3, 0, 0), (1, 54, 0), (1, 55, 0), (1, 56, 0), (1, 57, 0), (1, 58, 0), (1, 59, 0), (1, 60, 0), (1, 61, 0), (1, 62, 0), (1, 63, 0), (0, 0, 0), (0, 0, 0), (0, 0, 0), (0, 0, 0), (0, 0, 0), (0, 0, 0), (0, 0, 0)]) (S' := (((SB.take 64).set 0 (.inl (11, [(1, 1, 0), (1, 35, 0), (1, 44, 0), (1, 50, 0), (3, 0, 0), (3, 0, 0)]))).set 53 (.inl (3, [(1, 1, 0), (1, 35, 0), (3, 0, 0), (1, 54, 0), (1, 55, 0), (1, 56, 0), (1, 57, 0), (1, 58, 0), (1, 59, 0), (1, 60, 0), (1, 61, 0), (1, 62, 0), (1, 63, 0), (0, 0, 0), (0, 0, 0), (0, 0, 0), (0, 0, 0), (0, 0, 0), (0, 0, 0), (0, 0, 0)])))) E (1, 35, 0) hi qf_RX3_47 (by decide +kernel) (by decide) rfl rfl rfl (by decide +kernel) dX3_init_101 ?_
  refine gi_aload_n E 0 dX3_init_104 rfl rfl ?_
  refine gi_aload_n E 3 dX3_init_105 rfl rfl ?_
  refine mk_putr (t := 50) (ds := [(1, 1, 0), (1, 35, 0), (3, 0, 0), (1, 54, 0), (1, 55, 0), (1, 56, 0), (1, 57, 0), (1, 58, 0), (1, 59, 0), (1, 60, 0), (1, 61, 0), (1, 62, 0), (1, 63, 0), (0, 0, 0), (0, 0, 0), (0, 0, 0), (0, 0, 0), (0, 0, 0), (0, 0, 0), (0, 0, 0)]) (S' := ((SB.take 64).set 0 (.inl (11, [(1, 1, 0), (1, 35, 0), (1, 44, 0), (1, 50, 0), (3, 0, 0), (3, 0, 0)])))) E (1, 50, 0) hi qf_RX3_51 (by decide +kernel) (by decide) rfl rfl rfl (by decide +kernel) dX3_init_106 ?_
  exact mk_ret E hZ dX3_init_109
def rmmkB_14_X0_init : Room := { frames := 1, cells := 7, slots := 7208, locals := 12 }
set_option maxHeartbeats 4000000 in
set_option maxRecDepth 100000 in
theorem mkB_14_X0_init (l : Launch) (cs : Nat → ClassId) (D : va_G) (b0 : Nat) : mk_M l yX0_init cX0_init 3 rmmkB_14_X0_init [.ref (mk_ad b0 64), .ref (mk_ad b0 35), .ref (mk_ad b0 50)] cs D b0 (((SB.take 65).set 0 (.inl (11, [(1, 1, 0), (1, 35, 0), (1, 44, 0), (1, 50, 0), (1, 53, 0), (3, 0, 0)]))).set 64 (.inl (0, [(0, 0, 0), (0, 0, 0), (3, 0, 0), (3, 0, 0), (3, 0, 0), (3, 0, 0), (3, 0, 0), (3, 0, 0), (3, 0, 0), (3, 0, 0), (3, 0, 0), (0, 0, 0)]))) zB6 (SB.set 0 (.inl (11, [(1, 1, 0), (1, 35, 0), (1, 44, 0), (1, 50, 0), (1, 53, 0), (3, 0, 0)]))) zB6 7 7208 := by
  refine mk_met (own := RX0) rfl (by decide +kernel) rfl (Nat.le_of_ble_eq_true rfl) rfl ?_
  intro p e s m args below meth c Z E hZ hi
  refine gi_aload_n E 0 dX0_init_0 rfl rfl ?_
  refine mk_obj E mi_RX0_5 mm_obj (by decide) (by decide) dX0_init_1 ?_
  refine gi_aload_n E 0 dX0_init_4 rfl rfl ?_
  refine gi_sipush E (nI 400) dX0_init_5 (by decide +kernel) ?_
  refine mk_nai (n := 65) (N := 400) (cells' := 1) (slots' := 400) (S' := (((SB.take 66).set 0 (.inl (11, [(1, 1, 0), (1, 35, 0), (1, 44, 0), (1, 50, 0), (1, 53, 0), (3, 0, 0)]))).set 64 (.inl (0, [(0, 0, 0), (0, 0, 0), (3, 0, 0), (3, 0, 0), (3, 0, 0), (3, 0, 0), (3, 0, 0), (3, 0, 0), (3, 0, 0), (3, 0, 0), (3, 0, 0), (0, 0, 0)])))) E af_int (by decide +kernel) (fun _ => rfl) (by decide +kernel) (by decide +kernel) (by decide +kernel) (by decide) rfl rfl (by decide) dX0_init_8 ?_
  refine mk_putr (t := 65) (ds := [(0, 0, 0), (0, 0, 0), (3, 0, 0), (3, 0, 0), (3, 0, 0), (3, 0, 0), (3, 0, 0), (3, 0, 0), (3, 0, 0), (3, 0, 0), (3, 0, 0), (0, 0, 0)]) (S' := (((SB.take 66).set 0 (.inl (11, [(1, 1, 0), (1, 35, 0), (1, 44, 0), (1, 50, 0), (1, 53, 0), (3, 0, 0)]))).set 64 (.inl (0, [(0, 0, 0), (0, 0, 0), (2, 65, 0), (3, 0, 0), (3, 0, 0), (3, 0, 0), (3, 0, 0), (3, 0, 0), (3, 0, 0), (3, 0, 0), (3, 0, 0), (0, 0, 0)])))) E (2, 65, 0) hi qf_RX0_11 (by decide +kernel) (by decide) rfl rfl (by show Value.ref (mk_ad b0 (65 + (zB6 999 0).toNatClampNeg)) = _; rw [show (zB6 999 0).toNatClampNeg = 0 by decide +kernel]) (by decide +kernel) dX0_init_10 ?_
  refine gi_aload_n E 0 dX0_init_13 rfl rfl ?_
  refine gi_bipush E (nI 8) dX0_init_14 (by decide +kernel) ?_
  refine mk_nai (n := 66) (N := 8) (cells' := 2) (slots' := 408) (S' := (((SB.take 67).set 0 (.inl (11, [(1, 1, 0), (1, 35, 0), (1, 44, 0), (1, 50, 0), (1, 53, 0), (3, 0, 0)]))).set 64 (.inl (0, [(0, 0, 0), (0, 0, 0), (2, 65, 0), (3, 0, 0), (3, 0, 0), (3, 0, 0), (3, 0, 0), (3, 0, 0), (3, 0, 0), (3, 0, 0), (3, 0, 0), (0, 0, 0)])))) E af_int (by decide +kernel) (fun _ => rfl) (by decide +kernel) (by decide +kernel) (by decide +kernel) (by decide) rfl rfl (by decide) dX0_init_16 ?_
  refine mk_putr (t := 66) (ds := [(0, 0, 0), (0, 0, 0), (2, 65, 0), (3, 0, 0), (3, 0, 0), (3, 0, 0), (3, 0, 0), (3, 0, 0), (3, 0, 0), (3, 0, 0), (3, 0, 0), (0, 0, 0)]) (S' := (((SB.take 67).set 0 (.inl (11, [(1, 1, 0), (1, 35, 0), (1, 44, 0), (1, 50, 0), (1, 53, 0), (3, 0, 0)]))).set 64 (.inl (0, [(0, 0, 0), (0, 0, 0), (2, 65, 0), (3, 0, 0), (3, 0, 0), (1, 66, 0), (3, 0, 0), (3, 0, 0), (3, 0, 0), (3, 0, 0), (3, 0, 0), (0, 0, 0)])))) E (1, 66, 0) hi qf_RX0_15 (by decide +kernel) (by decide) rfl rfl rfl (by decide +kernel) dX0_init_18 ?_
  refine gi_aload_n E 0 dX0_init_21 rfl rfl ?_
  refine gi_sipush E (nI 5200) dX0_init_22 (by decide +kernel) ?_
  refine mk_nai (n := 67) (N := 5200) (cells' := 3) (slots' := 5608) (S' := (((SB.take 68).set 0 (.inl (11, [(1, 1, 0), (1, 35, 0), (1, 44, 0), (1, 50, 0), (1, 53, 0), (3, 0, 0)]))).set 64 (.inl (0, [(0, 0, 0), (0, 0, 0), (2, 65, 0), (3, 0, 0), (3, 0, 0), (1, 66, 0), (3, 0, 0), (3, 0, 0), (3, 0, 0), (3, 0, 0), (3, 0, 0), (0, 0, 0)])))) E af_int (by decide +kernel) (fun _ => rfl) (by decide +kernel) (by decide +kernel) (by decide +kernel) (by decide) rfl rfl (by decide) dX0_init_25 ?_
  refine mk_putr (t := 67) (ds := [(0, 0, 0), (0, 0, 0), (2, 65, 0), (3, 0, 0), (3, 0, 0), (1, 66, 0), (3, 0, 0), (3, 0, 0), (3, 0, 0), (3, 0, 0), (3, 0, 0), (0, 0, 0)]) (S' := (((SB.take 68).set 0 (.inl (11, [(1, 1, 0), (1, 35, 0), (1, 44, 0), (1, 50, 0), (1, 53, 0), (3, 0, 0)]))).set 64 (.inl (0, [(0, 0, 0), (0, 0, 0), (2, 65, 0), (3, 0, 0), (3, 0, 0), (1, 66, 0), (1, 67, 0), (3, 0, 0), (3, 0, 0), (3, 0, 0), (3, 0, 0), (0, 0, 0)])))) E (1, 67, 0) hi qf_RX0_18 (by decide +kernel) (by decide) rfl rfl rfl (by decide +kernel) dX0_init_27 ?_
  refine gi_aload_n E 0 dX0_init_30 rfl rfl ?_
  refine gi_sipush E (nI 400) dX0_init_31 (by decide +kernel) ?_
  refine mk_nai (n := 68) (N := 400) (cells' := 4) (slots' := 6008) (S' := (((SB.take 69).set 0 (.inl (11, [(1, 1, 0), (1, 35, 0), (1, 44, 0), (1, 50, 0), (1, 53, 0), (3, 0, 0)]))).set 64 (.inl (0, [(0, 0, 0), (0, 0, 0), (2, 65, 0), (3, 0, 0), (3, 0, 0), (1, 66, 0), (1, 67, 0), (3, 0, 0), (3, 0, 0), (3, 0, 0), (3, 0, 0), (0, 0, 0)])))) E af_int (by decide +kernel) (fun _ => rfl) (by decide +kernel) (by decide +kernel) (by decide +kernel) (by decide) rfl rfl (by decide) dX0_init_34 ?_
  refine mk_putr (t := 68) (ds := [(0, 0, 0), (0, 0, 0), (2, 65, 0), (3, 0, 0), (3, 0, 0), (1, 66, 0), (1, 67, 0), (3, 0, 0), (3, 0, 0), (3, 0, 0), (3, 0, 0), (0, 0, 0)]) (S' := (((SB.take 69).set 0 (.inl (11, [(1, 1, 0), (1, 35, 0), (1, 44, 0), (1, 50, 0), (1, 53, 0), (3, 0, 0)]))).set 64 (.inl (0, [(0, 0, 0), (0, 0, 0), (2, 65, 0), (3, 0, 0), (3, 0, 0), (1, 66, 0), (1, 67, 0), (2, 65, 1), (3, 0, 0), (3, 0, 0), (3, 0, 0), (0, 0, 0)])))) E (2, 65, 1) hi qf_RX0_21 (by decide +kernel) (by decide) rfl rfl (by show Value.ref (mk_ad b0 (65 + (zB6 999 1).toNatClampNeg)) = _; rw [show (zB6 999 1).toNatClampNeg = 3 by decide +kernel]) (by decide +kernel) dX0_init_36 ?_
  refine gi_aload_n E 0 dX0_init_39 rfl rfl ?_
  refine gi_sipush E (nI 400) dX0_init_40 (by decide +kernel) ?_
  refine mk_nai (n := 69) (N := 400) (cells' := 5) (slots' := 6408) (S' := (((SB.take 70).set 0 (.inl (11, [(1, 1, 0), (1, 35, 0), (1, 44, 0), (1, 50, 0), (1, 53, 0), (3, 0, 0)]))).set 64 (.inl (0, [(0, 0, 0), (0, 0, 0), (2, 65, 0), (3, 0, 0), (3, 0, 0), (1, 66, 0), (1, 67, 0), (2, 65, 1), (3, 0, 0), (3, 0, 0), (3, 0, 0), (0, 0, 0)])))) E af_int (by decide +kernel) (fun _ => rfl) (by decide +kernel) (by decide +kernel) (by decide +kernel) (by decide) rfl rfl (by decide) dX0_init_43 ?_
  refine mk_putr (t := 69) (ds := [(0, 0, 0), (0, 0, 0), (2, 65, 0), (3, 0, 0), (3, 0, 0), (1, 66, 0), (1, 67, 0), (2, 65, 1), (3, 0, 0), (3, 0, 0), (3, 0, 0), (0, 0, 0)]) (S' := (((SB.take 70).set 0 (.inl (11, [(1, 1, 0), (1, 35, 0), (1, 44, 0), (1, 50, 0), (1, 53, 0), (3, 0, 0)]))).set 64 (.inl (0, [(0, 0, 0), (0, 0, 0), (2, 65, 0), (3, 0, 0), (3, 0, 0), (1, 66, 0), (1, 67, 0), (2, 65, 1), (1, 69, 0), (3, 0, 0), (3, 0, 0), (0, 0, 0)])))) E (1, 69, 0) hi qf_RX0_24 (by decide +kernel) (by decide) rfl rfl rfl (by decide +kernel) dX0_init_45 ?_
  refine gi_aload_n E 0 dX0_init_48 rfl rfl ?_
  refine gi_sipush E (nI 400) dX0_init_49 (by decide +kernel) ?_
  refine mk_nai (n := 70) (N := 400) (cells' := 6) (slots' := 6808) (S' := (((SB.take 71).set 0 (.inl (11, [(1, 1, 0), (1, 35, 0), (1, 44, 0), (1, 50, 0), (1, 53, 0), (3, 0, 0)]))).set 64 (.inl (0, [(0, 0, 0), (0, 0, 0), (2, 65, 0), (3, 0, 0), (3, 0, 0), (1, 66, 0), (1, 67, 0), (2, 65, 1), (1, 69, 0), (3, 0, 0), (3, 0, 0), (0, 0, 0)])))) E af_int (by decide +kernel) (fun _ => rfl) (by decide +kernel) (by decide +kernel) (by decide +kernel) (by decide) rfl rfl (by decide) dX0_init_52 ?_
  refine mk_putr (t := 70) (ds := [(0, 0, 0), (0, 0, 0), (2, 65, 0), (3, 0, 0), (3, 0, 0), (1, 66, 0), (1, 67, 0), (2, 65, 1), (1, 69, 0), (3, 0, 0), (3, 0, 0), (0, 0, 0)]) (S' := (((SB.take 71).set 0 (.inl (11, [(1, 1, 0), (1, 35, 0), (1, 44, 0), (1, 50, 0), (1, 53, 0), (3, 0, 0)]))).set 64 (.inl (0, [(0, 0, 0), (0, 0, 0), (2, 65, 0), (3, 0, 0), (3, 0, 0), (1, 66, 0), (1, 67, 0), (2, 65, 1), (1, 69, 0), (1, 70, 0), (3, 0, 0), (0, 0, 0)])))) E (1, 70, 0) hi qf_RX0_27 (by decide +kernel) (by decide) rfl rfl rfl (by decide +kernel) dX0_init_54 ?_
  refine gi_aload_n E 0 dX0_init_57 rfl rfl ?_
  refine gi_sipush E (nI 400) dX0_init_58 (by decide +kernel) ?_
  refine mk_nai (n := 71) (N := 400) (cells' := 7) (slots' := 7208) (S' := ((SB.set 0 (.inl (11, [(1, 1, 0), (1, 35, 0), (1, 44, 0), (1, 50, 0), (1, 53, 0), (3, 0, 0)]))).set 64 (.inl (0, [(0, 0, 0), (0, 0, 0), (2, 65, 0), (3, 0, 0), (3, 0, 0), (1, 66, 0), (1, 67, 0), (2, 65, 1), (1, 69, 0), (1, 70, 0), (3, 0, 0), (0, 0, 0)])))) E af_int (by decide +kernel) (fun _ => rfl) (by decide +kernel) (by decide +kernel) (by decide +kernel) (by decide) rfl rfl (by decide) dX0_init_61 ?_
  refine mk_putr (t := 71) (ds := [(0, 0, 0), (0, 0, 0), (2, 65, 0), (3, 0, 0), (3, 0, 0), (1, 66, 0), (1, 67, 0), (2, 65, 1), (1, 69, 0), (1, 70, 0), (3, 0, 0), (0, 0, 0)]) (S' := ((SB.set 0 (.inl (11, [(1, 1, 0), (1, 35, 0), (1, 44, 0), (1, 50, 0), (1, 53, 0), (3, 0, 0)]))).set 64 (.inl (0, [(0, 0, 0), (0, 0, 0), (2, 65, 0), (3, 0, 0), (3, 0, 0), (1, 66, 0), (1, 67, 0), (2, 65, 1), (1, 69, 0), (1, 70, 0), (1, 71, 0), (0, 0, 0)])))) E (1, 71, 0) hi qf_RX0_30 (by decide +kernel) (by decide) rfl rfl rfl (by decide +kernel) dX0_init_63 ?_
  refine gi_aload_n E 0 dX0_init_66 rfl rfl ?_
  refine gi_aload_n E 1 dX0_init_67 rfl rfl ?_
  refine mk_putr (t := 35) (ds := [(0, 0, 0), (0, 0, 0), (2, 65, 0), (3, 0, 0), (3, 0, 0), (1, 66, 0), (1, 67, 0), (2, 65, 1), (1, 69, 0), (1, 70, 0), (1, 71, 0), (0, 0, 0)]) (S' := ((SB.set 0 (.inl (11, [(1, 1, 0), (1, 35, 0), (1, 44, 0), (1, 50, 0), (1, 53, 0), (3, 0, 0)]))).set 64 (.inl (0, [(0, 0, 0), (0, 0, 0), (2, 65, 0), (1, 35, 0), (3, 0, 0), (1, 66, 0), (1, 67, 0), (2, 65, 1), (1, 69, 0), (1, 70, 0), (1, 71, 0), (0, 0, 0)])))) E (1, 35, 0) hi qf_RX0_33 (by decide +kernel) (by decide) rfl rfl rfl (by decide +kernel) dX0_init_68 ?_
  refine gi_aload_n E 0 dX0_init_71 rfl rfl ?_
  refine gi_aload_n E 2 dX0_init_72 rfl rfl ?_
  refine mk_putr (t := 50) (ds := [(0, 0, 0), (0, 0, 0), (2, 65, 0), (1, 35, 0), (3, 0, 0), (1, 66, 0), (1, 67, 0), (2, 65, 1), (1, 69, 0), (1, 70, 0), (1, 71, 0), (0, 0, 0)]) (S' := (SB.set 0 (.inl (11, [(1, 1, 0), (1, 35, 0), (1, 44, 0), (1, 50, 0), (1, 53, 0), (3, 0, 0)])))) E (1, 50, 0) hi qf_RX0_37 (by decide +kernel) (by decide) rfl rfl rfl (by decide +kernel) dX0_init_73 ?_
  exact mk_ret E hZ dX0_init_76
def rmmkB_0_X11_init : Room := { frames := 3, cells := 71, slots := 32209, locals := 54 }
set_option maxHeartbeats 4000000 in
set_option maxRecDepth 100000 in
theorem mkB_0_X11_init (l : Launch) (cs : Nat → ClassId) (D : va_G) (b0 : Nat) : mk_M l yX11_init cX11_init 1 rmmkB_0_X11_init [.ref (mk_ad b0 0)] cs D b0 ((SB.take 1).set 0 (.inl (11, [(3, 0, 0), (3, 0, 0), (3, 0, 0), (3, 0, 0), (3, 0, 0), (3, 0, 0)]))) zB0 SB zB6 71 32209 := by
  refine mk_met (own := RX11) rfl (by decide +kernel) rfl (Nat.le_of_ble_eq_true rfl) rfl ?_
  intro p e s m args below meth c Z E hZ hi
  refine gi_aload_n E 0 dX11_init_0 rfl rfl ?_
  refine mk_obj E mi_RX11_3 mm_obj (by decide) (by decide) dX11_init_1 ?_
  refine gi_aload_n E 0 dX11_init_4 rfl rfl ?_
  refine mk_new (n := 1) (cells' := 1) (slots' := 10) (S' := (((SB.take 2).set 0 (.inl (11, [(3, 0, 0), (3, 0, 0), (3, 0, 0), (3, 0, 0), (3, 0, 0), (3, 0, 0)]))).set 1 (.inl (4, [(3, 0, 0), (3, 0, 0), (3, 0, 0), (3, 0, 0), (3, 0, 0), (3, 0, 0), (3, 0, 0), (3, 0, 0), (0, 0, 0), (0, 0, 0)])))) E nf_RX11_9 (by decide +kernel) (fun _ => rfl) (by decide +kernel) rfl rfl (by decide) dX11_init_5 ?_
  refine gi_dup E rfl dX11_init_8 ?_
  refine mk_callN (As := []) (cells' := 34) (slots' := 1074) E (mkB_1_X4_init l cs D b0) Fi_X4_init mi_RX11_11 ⟨rfl, rfl⟩ (by decide) rfl rfl (by decide) rfl rfl (Nat.le_of_ble_eq_true rfl) dX11_init_9 ?_
  refine mk_putr (t := 1) (ds := [(3, 0, 0), (3, 0, 0), (3, 0, 0), (3, 0, 0), (3, 0, 0), (3, 0, 0)]) (S' := ((SB.take 35).set 0 (.inl (11, [(1, 1, 0), (3, 0, 0), (3, 0, 0), (3, 0, 0), (3, 0, 0), (3, 0, 0)])))) E (1, 1, 0) hi qf_RX11_12 (by decide +kernel) (by decide) rfl rfl rfl (by decide +kernel) dX11_init_12 ?_
  refine gi_aload_n E 0 dX11_init_15 rfl rfl ?_
  refine mk_new (n := 35) (cells' := 35) (slots' := 1090) (S' := (((SB.take 36).set 0 (.inl (11, [(1, 1, 0), (3, 0, 0), (3, 0, 0), (3, 0, 0), (3, 0, 0), (3, 0, 0)]))).set 35 (.inl (2, [(0, 0, 0), (0, 0, 0), (0, 0, 0), (0, 0, 0), (0, 0, 0), (0, 0, 0), (0, 0, 0), (0, 0, 0), (3, 0, 0), (3, 0, 0), (3, 0, 0), (3, 0, 0), (3, 0, 0), (3, 0, 0), (3, 0, 0), (3, 0, 0)])))) E nf_RX11_16 (by decide +kernel) (fun _ => rfl) (by decide +kernel) rfl rfl (by decide) dX11_init_16 ?_
  refine gi_dup E rfl dX11_init_19 ?_
  refine mk_callN (As := []) (cells' := 43) (slots' := 20915) E (mkB_7_X2_init l cs D b0) Fi_X2_init mi_RX11_18 ⟨rfl, rfl⟩ (by decide) rfl rfl (by decide) rfl rfl (Nat.le_of_ble_eq_true rfl) dX11_init_20 ?_
  refine mk_putr (t := 35) (ds := [(1, 1, 0), (3, 0, 0), (3, 0, 0), (3, 0, 0), (3, 0, 0), (3, 0, 0)]) (S' := ((SB.take 44).set 0 (.inl (11, [(1, 1, 0), (1, 35, 0), (3, 0, 0), (3, 0, 0), (3, 0, 0), (3, 0, 0)])))) E (1, 35, 0) hi qf_RX11_19 (by decide +kernel) (by decide) rfl rfl rfl (by decide +kernel) dX11_init_23 ?_
  refine gi_aload_n E 0 dX11_init_26 rfl rfl ?_
  refine mk_new (n := 44) (cells' := 44) (slots' := 20920) (S' := (((SB.take 45).set 0 (.inl (11, [(1, 1, 0), (1, 35, 0), (3, 0, 0), (3, 0, 0), (3, 0, 0), (3, 0, 0)]))).set 44 (.inl (8, [(3, 0, 0), (3, 0, 0), (3, 0, 0), (3, 0, 0), (3, 0, 0)])))) E nf_RX11_23 (by decide +kernel) (fun _ => rfl) (by decide +kernel) rfl rfl (by decide) dX11_init_27 ?_
  refine gi_dup E rfl dX11_init_30 ?_
  refine gi_aload_n E 0 dX11_init_31 rfl rfl ?_
  refine mk_getr (t := 1) (u := 0) E gf_RX11_12 ⟨[(1, 1, 0), (1, 35, 0), (3, 0, 0), (3, 0, 0), (3, 0, 0), (3, 0, 0)], (by decide +kernel), rfl⟩ dX11_init_32 ?_
  refine gi_aload_n E 0 dX11_init_35 rfl rfl ?_
  refine mk_getr (t := 35) (u := 0) E gf_RX11_19 ⟨[(1, 1, 0), (1, 35, 0), (3, 0, 0), (3, 0, 0), (3, 0, 0), (3, 0, 0)], (by decide +kernel), rfl⟩ dX11_init_36 ?_
  refine mk_callP (As := [.ref (mk_ad b0 1), .ref (mk_ad b0 35)]) (cells' := 49) (slots' := 20952) E (mkB_8_X8_init l cs D b0) Fi_X8_init mi_RX11_25 ⟨rfl, rfl⟩ (by decide) rfl rfl (by decide) rfl rfl (Nat.le_of_ble_eq_true rfl) dX11_init_39 ?_
  refine mk_putr (t := 44) (ds := [(1, 1, 0), (1, 35, 0), (3, 0, 0), (3, 0, 0), (3, 0, 0), (3, 0, 0)]) (S' := ((SB.take 50).set 0 (.inl (11, [(1, 1, 0), (1, 35, 0), (1, 44, 0), (3, 0, 0), (3, 0, 0), (3, 0, 0)])))) E (1, 44, 0) hi qf_RX11_28 (by decide +kernel) (by decide) rfl rfl rfl (by decide +kernel) dX11_init_42 ?_
  refine gi_aload_n E 0 dX11_init_45 rfl rfl ?_
  refine mk_new (n := 50) (cells' := 50) (slots' := 20955) (S' := (((SB.take 51).set 0 (.inl (11, [(1, 1, 0), (1, 35, 0), (1, 44, 0), (3, 0, 0), (3, 0, 0), (3, 0, 0)]))).set 50 (.inl (5, [(3, 0, 0), (3, 0, 0), (3, 0, 0)])))) E nf_RX11_32 (by decide +kernel) (fun _ => rfl) (by decide +kernel) rfl rfl (by decide) dX11_init_46 ?_
  refine gi_dup E rfl dX11_init_49 ?_
  refine gi_aload_n E 0 dX11_init_50 rfl rfl ?_
  refine mk_getr (t := 1) (u := 0) E gf_RX11_12 ⟨[(1, 1, 0), (1, 35, 0), (1, 44, 0), (3, 0, 0), (3, 0, 0), (3, 0, 0)], (by decide +kernel), rfl⟩ dX11_init_51 ?_
  refine gi_aload_n E 0 dX11_init_54 rfl rfl ?_
  refine mk_getr (t := 35) (u := 0) E gf_RX11_19 ⟨[(1, 1, 0), (1, 35, 0), (1, 44, 0), (3, 0, 0), (3, 0, 0), (3, 0, 0)], (by decide +kernel), rfl⟩ dX11_init_55 ?_
  refine mk_callP (As := [.ref (mk_ad b0 1), .ref (mk_ad b0 35)]) (cells' := 52) (slots' := 20969) E (mkB_11_X5_init l cs D b0) Fi_X5_init mi_RX11_34 ⟨rfl, rfl⟩ (by decide) rfl rfl (by decide) rfl rfl (Nat.le_of_ble_eq_true rfl) dX11_init_58 ?_
  refine mk_putr (t := 50) (ds := [(1, 1, 0), (1, 35, 0), (1, 44, 0), (3, 0, 0), (3, 0, 0), (3, 0, 0)]) (S' := ((SB.take 53).set 0 (.inl (11, [(1, 1, 0), (1, 35, 0), (1, 44, 0), (1, 50, 0), (3, 0, 0), (3, 0, 0)])))) E (1, 50, 0) hi qf_RX11_35 (by decide +kernel) (by decide) rfl rfl rfl (by decide +kernel) dX11_init_61 ?_
  refine gi_aload_n E 0 dX11_init_64 rfl rfl ?_
  refine mk_new (n := 53) (cells' := 53) (slots' := 20989) (S' := (((SB.take 54).set 0 (.inl (11, [(1, 1, 0), (1, 35, 0), (1, 44, 0), (1, 50, 0), (3, 0, 0), (3, 0, 0)]))).set 53 (.inl (3, [(3, 0, 0), (3, 0, 0), (3, 0, 0), (3, 0, 0), (3, 0, 0), (3, 0, 0), (3, 0, 0), (3, 0, 0), (3, 0, 0), (3, 0, 0), (3, 0, 0), (3, 0, 0), (3, 0, 0), (0, 0, 0), (0, 0, 0), (0, 0, 0), (0, 0, 0), (0, 0, 0), (0, 0, 0), (0, 0, 0)])))) E nf_RX11_39 (by decide +kernel) (fun _ => rfl) (by decide +kernel) rfl rfl (by decide) dX11_init_65 ?_
  refine gi_dup E rfl dX11_init_68 ?_
  refine gi_aload_n E 0 dX11_init_69 rfl rfl ?_
  refine mk_getr (t := 1) (u := 0) E gf_RX11_12 ⟨[(1, 1, 0), (1, 35, 0), (1, 44, 0), (1, 50, 0), (3, 0, 0), (3, 0, 0)], (by decide +kernel), rfl⟩ dX11_init_70 ?_
  refine gi_aload_n E 0 dX11_init_73 rfl rfl ?_
  refine mk_getr (t := 35) (u := 0) E gf_RX11_19 ⟨[(1, 1, 0), (1, 35, 0), (1, 44, 0), (1, 50, 0), (3, 0, 0), (3, 0, 0)], (by decide +kernel), rfl⟩ dX11_init_74 ?_
  refine gi_aload_n E 0 dX11_init_77 rfl rfl ?_
  refine mk_getr (t := 50) (u := 0) E gf_RX11_35 ⟨[(1, 1, 0), (1, 35, 0), (1, 44, 0), (1, 50, 0), (3, 0, 0), (3, 0, 0)], (by decide +kernel), rfl⟩ dX11_init_78 ?_
  refine mk_callP (As := [.ref (mk_ad b0 1), .ref (mk_ad b0 35), .ref (mk_ad b0 50)]) (cells' := 63) (slots' := 24989) E (mkB_13_X3_init l cs D b0) Fi_X3_init mi_RX11_41 ⟨rfl, rfl⟩ (by decide) rfl rfl (by decide) rfl rfl (Nat.le_of_ble_eq_true rfl) dX11_init_81 ?_
  refine mk_putr (t := 53) (ds := [(1, 1, 0), (1, 35, 0), (1, 44, 0), (1, 50, 0), (3, 0, 0), (3, 0, 0)]) (S' := ((SB.take 64).set 0 (.inl (11, [(1, 1, 0), (1, 35, 0), (1, 44, 0), (1, 50, 0), (1, 53, 0), (3, 0, 0)])))) E (1, 53, 0) hi qf_RX11_44 (by decide +kernel) (by decide) rfl rfl rfl (by decide +kernel) dX11_init_84 ?_
  refine gi_aload_n E 0 dX11_init_87 rfl rfl ?_
  refine mk_new (n := 64) (cells' := 64) (slots' := 25001) (S' := (((SB.take 65).set 0 (.inl (11, [(1, 1, 0), (1, 35, 0), (1, 44, 0), (1, 50, 0), (1, 53, 0), (3, 0, 0)]))).set 64 (.inl (0, [(0, 0, 0), (0, 0, 0), (3, 0, 0), (3, 0, 0), (3, 0, 0), (3, 0, 0), (3, 0, 0), (3, 0, 0), (3, 0, 0), (3, 0, 0), (3, 0, 0), (0, 0, 0)])))) E nf_RX11_48 (by decide +kernel) (fun _ => rfl) (by decide +kernel) rfl rfl (by decide) dX11_init_88 ?_
  refine gi_dup E rfl dX11_init_91 ?_
  refine gi_aload_n E 0 dX11_init_92 rfl rfl ?_
  refine mk_getr (t := 35) (u := 0) E gf_RX11_19 ⟨[(1, 1, 0), (1, 35, 0), (1, 44, 0), (1, 50, 0), (1, 53, 0), (3, 0, 0)], (by decide +kernel), rfl⟩ dX11_init_93 ?_
  refine gi_aload_n E 0 dX11_init_96 rfl rfl ?_
  refine mk_getr (t := 50) (u := 0) E gf_RX11_35 ⟨[(1, 1, 0), (1, 35, 0), (1, 44, 0), (1, 50, 0), (1, 53, 0), (3, 0, 0)], (by decide +kernel), rfl⟩ dX11_init_97 ?_
  refine mk_callP (As := [.ref (mk_ad b0 35), .ref (mk_ad b0 50)]) (cells' := 71) (slots' := 32209) E (mkB_14_X0_init l cs D b0) Fi_X0_init mi_RX11_50 ⟨rfl, rfl⟩ (by decide) rfl rfl (by decide) rfl rfl (Nat.le_of_ble_eq_true rfl) dX11_init_100 ?_
  refine mk_putr (t := 64) (ds := [(1, 1, 0), (1, 35, 0), (1, 44, 0), (1, 50, 0), (1, 53, 0), (3, 0, 0)]) (S' := SB) E (1, 64, 0) hi qf_RX11_53 (by decide +kernel) (by decide) rfl rfl rfl (by decide +kernel) dX11_init_103 ?_
  exact mk_ret E hZ dX11_init_106
