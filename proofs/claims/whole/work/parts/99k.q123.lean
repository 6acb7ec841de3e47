/-! making the objects: the constructors' rows and words (ctor.py) -/
abbrev mX0_init : MD := (yX0_init, cX0_init, 1, none, [])
abbrev mX1_init : MD := (yX1_init, cX1_init, 1, none, [])
abbrev mX2_init : MD := (yX2_init, cX2_init, 1, none, [])
abbrev mX3_init : MD := (yX3_init, cX3_init, 2, none, [])
abbrev mX4_init : MD := (yX4_init, cX4_init, 1, none, [])
abbrev mX5_init : MD := (yX5_init, cX5_init, 1, none, [])
abbrev mX6_init : MD := (yX6_init, cX6_init, 1, none, [])
abbrev mX7_init : MD := (yX7_init, cX7_init, 1, none, [])
abbrev mX8_init : MD := (yX8_init, cX8_init, 1, none, [])
abbrev mX9_init : MD := (yX9_init, cX9_init, 1, none, [])
abbrev mX10_init : MD := (yX10_init, cX10_init, 1, none, [])
abbrev mX11_init : MD := (yX11_init, cX11_init, 1, none, [])
abbrev mX12_init : MD := (yX12_init, cX12_init, 1, none, [])
theorem iX4_0 : decode cX4_init 0 = .ok (.aload_n 0, 1) := by decide +kernel
theorem iX4_1 : decode cX4_init 1 = .ok (.invokespecial 3, 3) := by decide +kernel
theorem iX4_4 : decode cX4_init 4 = .ok (.aload_n 0, 1) := by decide +kernel
theorem iX4_5 : decode cX4_init 5 = .ok (.sipush 900, 3) := by decide +kernel
theorem iX4_8 : decode cX4_init 8 = .ok (.newarray .byte, 2) := by decide +kernel
theorem iX4_10 : decode cX4_init 10 = .ok (.putfield 9, 3) := by decide +kernel
theorem iX4_13 : decode cX4_init 13 = .ok (.return_, 1) := by decide +kernel
theorem iX9_0 : decode cX9_init 0 = .ok (.aload_n 0, 1) := by decide +kernel
theorem iX9_1 : decode cX9_init 1 = .ok (.invokespecial 3, 3) := by decide +kernel
theorem iX9_4 : decode cX9_init 4 = .ok (.aload_n 0, 1) := by decide +kernel
theorem iX9_5 : decode cX9_init 5 = .ok (.new 9, 3) := by decide +kernel
theorem iX9_8 : decode cX9_init 8 = .ok (.dup, 1) := by decide +kernel
theorem iX9_9 : decode cX9_init 9 = .ok (.invokespecial 11, 3) := by decide +kernel
theorem iX9_12 : decode cX9_init 12 = .ok (.putfield 12, 3) := by decide +kernel
theorem iX9_15 : decode cX9_init 15 = .ok (.return_, 1) := by decide +kernel
theorem iX10_0 : decode cX10_init 0 = .ok (.aload_n 0, 1) := by decide +kernel
theorem iX10_1 : decode cX10_init 1 = .ok (.invokespecial 3, 3) := by decide +kernel
theorem iX10_4 : decode cX10_init 4 = .ok (.aload_n 0, 1) := by decide +kernel
theorem iX10_5 : decode cX10_init 5 = .ok (.bipush 12, 2) := by decide +kernel
theorem iX10_7 : decode cX10_init 7 = .ok (.newarray .int, 2) := by decide +kernel
theorem iX10_9 : decode cX10_init 9 = .ok (.putfield 9, 3) := by decide +kernel
theorem iX10_12 : decode cX10_init 12 = .ok (.aload_n 0, 1) := by decide +kernel
theorem iX10_13 : decode cX10_init 13 = .ok (.bipush 12, 2) := by decide +kernel
theorem iX10_15 : decode cX10_init 15 = .ok (.newarray .int, 2) := by decide +kernel
theorem iX10_17 : decode cX10_init 17 = .ok (.putfield 15, 3) := by decide +kernel
theorem iX10_20 : decode cX10_init 20 = .ok (.aload_n 0, 1) := by decide +kernel
theorem iX10_21 : decode cX10_init 21 = .ok (.bipush 20, 2) := by decide +kernel
theorem iX10_23 : decode cX10_init 23 = .ok (.newarray .int, 2) := by decide +kernel
theorem iX10_25 : decode cX10_init 25 = .ok (.putfield 18, 3) := by decide +kernel
theorem iX10_28 : decode cX10_init 28 = .ok (.aload_n 0, 1) := by decide +kernel
theorem iX10_29 : decode cX10_init 29 = .ok (.bipush 20, 2) := by decide +kernel
theorem iX10_31 : decode cX10_init 31 = .ok (.newarray .int, 2) := by decide +kernel
theorem iX10_33 : decode cX10_init 33 = .ok (.putfield 21, 3) := by decide +kernel
theorem iX10_36 : decode cX10_init 36 = .ok (.aload_n 0, 1) := by decide +kernel
theorem iX10_37 : decode cX10_init 37 = .ok (.bipush 20, 2) := by decide +kernel
theorem iX10_39 : decode cX10_init 39 = .ok (.newarray .int, 2) := by decide +kernel
theorem iX10_41 : decode cX10_init 41 = .ok (.putfield 24, 3) := by decide +kernel
theorem iX10_44 : decode cX10_init 44 = .ok (.return_, 1) := by decide +kernel
theorem iX6_0 : decode cX6_init 0 = .ok (.aload_n 0, 1) := by decide +kernel
theorem iX6_1 : decode cX6_init 1 = .ok (.invokespecial 3, 3) := by decide +kernel
theorem iX6_4 : decode cX6_init 4 = .ok (.aload_n 0, 1) := by decide +kernel
theorem iX6_5 : decode cX6_init 5 = .ok (.bipush 20, 2) := by decide +kernel
theorem iX6_7 : decode cX6_init 7 = .ok (.newarray .int, 2) := by decide +kernel
theorem iX6_9 : decode cX6_init 9 = .ok (.putfield 9, 3) := by decide +kernel
theorem iX6_12 : decode cX6_init 12 = .ok (.aload_n 0, 1) := by decide +kernel
theorem iX6_13 : decode cX6_init 13 = .ok (.bipush 20, 2) := by decide +kernel
theorem iX6_15 : decode cX6_init 15 = .ok (.newarray .int, 2) := by decide +kernel
theorem iX6_17 : decode cX6_init 17 = .ok (.putfield 15, 3) := by decide +kernel
theorem iX6_20 : decode cX6_init 20 = .ok (.aload_n 0, 1) := by decide +kernel
theorem iX6_21 : decode cX6_init 21 = .ok (.bipush 20, 2) := by decide +kernel
theorem iX6_23 : decode cX6_init 23 = .ok (.newarray .int, 2) := by decide +kernel
theorem iX6_25 : decode cX6_init 25 = .ok (.putfield 18, 3) := by decide +kernel
theorem iX6_28 : decode cX6_init 28 = .ok (.aload_n 0, 1) := by decide +kernel
theorem iX6_29 : decode cX6_init 29 = .ok (.bipush 20, 2) := by decide +kernel
theorem iX6_31 : decode cX6_init 31 = .ok (.newarray .int, 2) := by decide +kernel
theorem iX6_33 : decode cX6_init 33 = .ok (.putfield 21, 3) := by decide +kernel
theorem iX6_36 : decode cX6_init 36 = .ok (.aload_n 0, 1) := by decide +kernel
theorem iX6_37 : decode cX6_init 37 = .ok (.bipush 20, 2) := by decide +kernel
theorem iX6_39 : decode cX6_init 39 = .ok (.newarray .boolean, 2) := by decide +kernel
theorem iX6_41 : decode cX6_init 41 = .ok (.putfield 24, 3) := by decide +kernel
theorem iX6_44 : decode cX6_init 44 = .ok (.aload_n 0, 1) := by decide +kernel
theorem iX6_45 : decode cX6_init 45 = .ok (.bipush 20, 2) := by decide +kernel
theorem iX6_47 : decode cX6_init 47 = .ok (.newarray .boolean, 2) := by decide +kernel
theorem iX6_49 : decode cX6_init 49 = .ok (.putfield 28, 3) := by decide +kernel
theorem iX6_52 : decode cX6_init 52 = .ok (.aload_n 0, 1) := by decide +kernel
theorem iX6_53 : decode cX6_init 53 = .ok (.bipush 20, 2) := by decide +kernel
theorem iX6_55 : decode cX6_init 55 = .ok (.newarray .int, 2) := by decide +kernel
theorem iX6_57 : decode cX6_init 57 = .ok (.putfield 31, 3) := by decide +kernel
theorem iX6_60 : decode cX6_init 60 = .ok (.aload_n 0, 1) := by decide +kernel
theorem iX6_61 : decode cX6_init 61 = .ok (.bipush 20, 2) := by decide +kernel
theorem iX6_63 : decode cX6_init 63 = .ok (.newarray .int, 2) := by decide +kernel
theorem iX6_65 : decode cX6_init 65 = .ok (.putfield 34, 3) := by decide +kernel
theorem iX6_68 : decode cX6_init 68 = .ok (.return_, 1) := by decide +kernel
theorem iX8_0 : decode cX8_init 0 = .ok (.aload_n 0, 1) := by decide +kernel
theorem iX8_1 : decode cX8_init 1 = .ok (.invokespecial 3, 3) := by decide +kernel
theorem iX8_4 : decode cX8_init 4 = .ok (.aload_n 0, 1) := by decide +kernel
theorem iX8_5 : decode cX8_init 5 = .ok (.iconst 5, 1) := by decide +kernel
theorem iX8_6 : decode cX8_init 6 = .ok (.newarray .int, 2) := by decide +kernel
theorem iX8_8 : decode cX8_init 8 = .ok (.putfield 9, 3) := by decide +kernel
theorem iX8_11 : decode cX8_init 11 = .ok (.aload_n 0, 1) := by decide +kernel
theorem iX8_12 : decode cX8_init 12 = .ok (.bipush 16, 2) := by decide +kernel
theorem iX8_14 : decode cX8_init 14 = .ok (.newarray .int, 2) := by decide +kernel
theorem iX8_16 : decode cX8_init 16 = .ok (.putfield 15, 3) := by decide +kernel
theorem iX8_19 : decode cX8_init 19 = .ok (.aload_n 0, 1) := by decide +kernel
theorem iX8_20 : decode cX8_init 20 = .ok (.bipush 16, 2) := by decide +kernel
theorem iX8_22 : decode cX8_init 22 = .ok (.newarray .int, 2) := by decide +kernel
theorem iX8_24 : decode cX8_init 24 = .ok (.putfield 18, 3) := by decide +kernel
theorem iX8_27 : decode cX8_init 27 = .ok (.aload_n 0, 1) := by decide +kernel
theorem iX8_28 : decode cX8_init 28 = .ok (.bipush 16, 2) := by decide +kernel
theorem iX8_30 : decode cX8_init 30 = .ok (.newarray .int, 2) := by decide +kernel
theorem iX8_32 : decode cX8_init 32 = .ok (.putfield 21, 3) := by decide +kernel
theorem iX8_35 : decode cX8_init 35 = .ok (.return_, 1) := by decide +kernel
theorem iX5_0 : decode cX5_init 0 = .ok (.aload_n 0, 1) := by decide +kernel
theorem iX5_1 : decode cX5_init 1 = .ok (.invokespecial 3, 3) := by decide +kernel
theorem iX5_4 : decode cX5_init 4 = .ok (.aload_n 0, 1) := by decide +kernel
theorem iX5_5 : decode cX5_init 5 = .ok (.new 9, 3) := by decide +kernel
theorem iX5_8 : decode cX5_init 8 = .ok (.dup, 1) := by decide +kernel
theorem iX5_9 : decode cX5_init 9 = .ok (.invokespecial 11, 3) := by decide +kernel
theorem iX5_12 : decode cX5_init 12 = .ok (.putfield 12, 3) := by decide +kernel
theorem iX5_15 : decode cX5_init 15 = .ok (.aload_n 0, 1) := by decide +kernel
theorem iX5_16 : decode cX5_init 16 = .ok (.new 18, 3) := by decide +kernel
theorem iX5_19 : decode cX5_init 19 = .ok (.dup, 1) := by decide +kernel
theorem iX5_20 : decode cX5_init 20 = .ok (.invokespecial 20, 3) := by decide +kernel
theorem iX5_23 : decode cX5_init 23 = .ok (.putfield 21, 3) := by decide +kernel
theorem iX5_26 : decode cX5_init 26 = .ok (.aload_n 0, 1) := by decide +kernel
theorem iX5_27 : decode cX5_init 27 = .ok (.new 25, 3) := by decide +kernel
theorem iX5_30 : decode cX5_init 30 = .ok (.dup, 1) := by decide +kernel
theorem iX5_31 : decode cX5_init 31 = .ok (.invokespecial 27, 3) := by decide +kernel
theorem iX5_34 : decode cX5_init 34 = .ok (.putfield 28, 3) := by decide +kernel
theorem iX5_37 : decode cX5_init 37 = .ok (.return_, 1) := by decide +kernel
theorem iX1_0 : decode cX1_init 0 = .ok (.aload_n 0, 1) := by decide +kernel
theorem iX1_1 : decode cX1_init 1 = .ok (.invokespecial 3, 3) := by decide +kernel
theorem iX1_4 : decode cX1_init 4 = .ok (.aload_n 0, 1) := by decide +kernel
theorem iX1_5 : decode cX1_init 5 = .ok (.bipush 12, 2) := by decide +kernel
theorem iX1_7 : decode cX1_init 7 = .ok (.newarray .long, 2) := by decide +kernel
theorem iX1_9 : decode cX1_init 9 = .ok (.putfield 9, 3) := by decide +kernel
theorem iX1_12 : decode cX1_init 12 = .ok (.aload_n 0, 1) := by decide +kernel
theorem iX1_13 : decode cX1_init 13 = .ok (.bipush 12, 2) := by decide +kernel
theorem iX1_15 : decode cX1_init 15 = .ok (.newarray .int, 2) := by decide +kernel
theorem iX1_17 : decode cX1_init 17 = .ok (.putfield 15, 3) := by decide +kernel
theorem iX1_20 : decode cX1_init 20 = .ok (.aload_n 0, 1) := by decide +kernel
theorem iX1_21 : decode cX1_init 21 = .ok (.bipush 8, 2) := by decide +kernel
theorem iX1_23 : decode cX1_init 23 = .ok (.newarray .long, 2) := by decide +kernel
theorem iX1_25 : decode cX1_init 25 = .ok (.putfield 19, 3) := by decide +kernel
theorem iX1_28 : decode cX1_init 28 = .ok (.aload_n 0, 1) := by decide +kernel
theorem iX1_29 : decode cX1_init 29 = .ok (.bipush 8, 2) := by decide +kernel
theorem iX1_31 : decode cX1_init 31 = .ok (.newarray .int, 2) := by decide +kernel
theorem iX1_33 : decode cX1_init 33 = .ok (.putfield 22, 3) := by decide +kernel
theorem iX1_36 : decode cX1_init 36 = .ok (.aload_n 0, 1) := by decide +kernel
theorem iX1_37 : decode cX1_init 37 = .ok (.bipush 8, 2) := by decide +kernel
theorem iX1_39 : decode cX1_init 39 = .ok (.newarray .int, 2) := by decide +kernel
theorem iX1_41 : decode cX1_init 41 = .ok (.putfield 25, 3) := by decide +kernel
theorem iX1_44 : decode cX1_init 44 = .ok (.aload_n 0, 1) := by decide +kernel
theorem iX1_45 : decode cX1_init 45 = .ok (.bipush 8, 2) := by decide +kernel
theorem iX1_47 : decode cX1_init 47 = .ok (.bipush 6, 2) := by decide +kernel
theorem iX1_49 : decode cX1_init 49 = .ok (.multianewarray 28 2, 4) := by decide +kernel
theorem iX1_53 : decode cX1_init 53 = .ok (.putfield 30, 3) := by decide +kernel
theorem iX1_56 : decode cX1_init 56 = .ok (.aload_n 0, 1) := by decide +kernel
theorem iX1_57 : decode cX1_init 57 = .ok (.bipush 8, 2) := by decide +kernel
theorem iX1_59 : decode cX1_init 59 = .ok (.bipush 6, 2) := by decide +kernel
theorem iX1_61 : decode cX1_init 61 = .ok (.multianewarray 28 2, 4) := by decide +kernel
theorem iX1_65 : decode cX1_init 65 = .ok (.putfield 33, 3) := by decide +kernel
theorem iX1_68 : decode cX1_init 68 = .ok (.aload_n 0, 1) := by decide +kernel
theorem iX1_69 : decode cX1_init 69 = .ok (.bipush 8, 2) := by decide +kernel
theorem iX1_71 : decode cX1_init 71 = .ok (.bipush 12, 2) := by decide +kernel
theorem iX1_73 : decode cX1_init 73 = .ok (.multianewarray 28 2, 4) := by decide +kernel
theorem iX1_77 : decode cX1_init 77 = .ok (.putfield 36, 3) := by decide +kernel
theorem iX1_80 : decode cX1_init 80 = .ok (.aload_n 0, 1) := by decide +kernel
theorem iX1_81 : decode cX1_init 81 = .ok (.bipush 6, 2) := by decide +kernel
theorem iX1_83 : decode cX1_init 83 = .ok (.newarray .int, 2) := by decide +kernel
theorem iX1_85 : decode cX1_init 85 = .ok (.putfield 39, 3) := by decide +kernel
theorem iX1_88 : decode cX1_init 88 = .ok (.aload_n 0, 1) := by decide +kernel
theorem iX1_89 : decode cX1_init 89 = .ok (.bipush 6, 2) := by decide +kernel
theorem iX1_91 : decode cX1_init 91 = .ok (.newarray .int, 2) := by decide +kernel
theorem iX1_93 : decode cX1_init 93 = .ok (.putfield 42, 3) := by decide +kernel
theorem iX1_96 : decode cX1_init 96 = .ok (.aload_n 0, 1) := by decide +kernel
theorem iX1_97 : decode cX1_init 97 = .ok (.bipush 6, 2) := by decide +kernel
theorem iX1_99 : decode cX1_init 99 = .ok (.newarray .int, 2) := by decide +kernel
theorem iX1_101 : decode cX1_init 101 = .ok (.putfield 45, 3) := by decide +kernel
theorem iX1_104 : decode cX1_init 104 = .ok (.return_, 1) := by decide +kernel
theorem iX7_0 : decode cX7_init 0 = .ok (.aload_n 0, 1) := by decide +kernel
theorem iX7_1 : decode cX7_init 1 = .ok (.invokespecial 3, 3) := by decide +kernel
theorem iX7_4 : decode cX7_init 4 = .ok (.aload_n 0, 1) := by decide +kernel
theorem iX7_5 : decode cX7_init 5 = .ok (.iconst (-1), 1) := by decide +kernel
theorem iX7_6 : decode cX7_init 6 = .ok (.putfield 9, 3) := by decide +kernel
theorem iX7_9 : decode cX7_init 9 = .ok (.aload_n 0, 1) := by decide +kernel
theorem iX7_10 : decode cX7_init 10 = .ok (.new 15, 3) := by decide +kernel
theorem iX7_13 : decode cX7_init 13 = .ok (.dup, 1) := by decide +kernel
theorem iX7_14 : decode cX7_init 14 = .ok (.invokespecial 17, 3) := by decide +kernel
theorem iX7_17 : decode cX7_init 17 = .ok (.putfield 18, 3) := by decide +kernel
theorem iX7_20 : decode cX7_init 20 = .ok (.aload_n 0, 1) := by decide +kernel
theorem iX7_21 : decode cX7_init 21 = .ok (.new 22, 3) := by decide +kernel
theorem iX7_24 : decode cX7_init 24 = .ok (.dup, 1) := by decide +kernel
theorem iX7_25 : decode cX7_init 25 = .ok (.invokespecial 24, 3) := by decide +kernel
theorem iX7_28 : decode cX7_init 28 = .ok (.putfield 25, 3) := by decide +kernel
theorem iX7_31 : decode cX7_init 31 = .ok (.aload_n 0, 1) := by decide +kernel
theorem iX7_32 : decode cX7_init 32 = .ok (.new 29, 3) := by decide +kernel
theorem iX7_35 : decode cX7_init 35 = .ok (.dup, 1) := by decide +kernel
theorem iX7_36 : decode cX7_init 36 = .ok (.invokespecial 31, 3) := by decide +kernel
theorem iX7_39 : decode cX7_init 39 = .ok (.putfield 32, 3) := by decide +kernel
theorem iX7_42 : decode cX7_init 42 = .ok (.return_, 1) := by decide +kernel
theorem iX0_0 : decode cX0_init 0 = .ok (.aload_n 0, 1) := by decide +kernel
theorem iX0_1 : decode cX0_init 1 = .ok (.invokespecial 3, 3) := by decide +kernel
theorem iX0_4 : decode cX0_init 4 = .ok (.aload_n 0, 1) := by decide +kernel
theorem iX0_5 : decode cX0_init 5 = .ok (.bipush 12, 2) := by decide +kernel
theorem iX0_7 : decode cX0_init 7 = .ok (.newarray .int, 2) := by decide +kernel
theorem iX0_9 : decode cX0_init 9 = .ok (.putfield 9, 3) := by decide +kernel
theorem iX0_12 : decode cX0_init 12 = .ok (.aload_n 0, 1) := by decide +kernel
theorem iX0_13 : decode cX0_init 13 = .ok (.bipush 12, 2) := by decide +kernel
theorem iX0_15 : decode cX0_init 15 = .ok (.newarray .int, 2) := by decide +kernel
theorem iX0_17 : decode cX0_init 17 = .ok (.putfield 15, 3) := by decide +kernel
theorem iX0_20 : decode cX0_init 20 = .ok (.aload_n 0, 1) := by decide +kernel
theorem iX0_21 : decode cX0_init 21 = .ok (.bipush 20, 2) := by decide +kernel
theorem iX0_23 : decode cX0_init 23 = .ok (.newarray .int, 2) := by decide +kernel
theorem iX0_25 : decode cX0_init 25 = .ok (.putfield 18, 3) := by decide +kernel
theorem iX0_28 : decode cX0_init 28 = .ok (.aload_n 0, 1) := by decide +kernel
theorem iX0_29 : decode cX0_init 29 = .ok (.bipush 20, 2) := by decide +kernel
theorem iX0_31 : decode cX0_init 31 = .ok (.newarray .int, 2) := by decide +kernel
theorem iX0_33 : decode cX0_init 33 = .ok (.putfield 21, 3) := by decide +kernel
theorem iX0_36 : decode cX0_init 36 = .ok (.aload_n 0, 1) := by decide +kernel
theorem iX0_37 : decode cX0_init 37 = .ok (.bipush 20, 2) := by decide +kernel
theorem iX0_39 : decode cX0_init 39 = .ok (.newarray .int, 2) := by decide +kernel
theorem iX0_41 : decode cX0_init 41 = .ok (.putfield 24, 3) := by decide +kernel
theorem iX0_44 : decode cX0_init 44 = .ok (.aload_n 0, 1) := by decide +kernel
theorem iX0_45 : decode cX0_init 45 = .ok (.bipush 6, 2) := by decide +kernel
theorem iX0_47 : decode cX0_init 47 = .ok (.newarray .int, 2) := by decide +kernel
theorem iX0_49 : decode cX0_init 49 = .ok (.putfield 27, 3) := by decide +kernel
theorem iX0_52 : decode cX0_init 52 = .ok (.return_, 1) := by decide +kernel
theorem iX2_0 : decode cX2_init 0 = .ok (.aload_n 0, 1) := by decide +kernel
theorem iX2_1 : decode cX2_init 1 = .ok (.invokespecial 3, 3) := by decide +kernel
theorem iX2_4 : decode cX2_init 4 = .ok (.aload_n 0, 1) := by decide +kernel
theorem iX2_5 : decode cX2_init 5 = .ok (.sipush 200, 3) := by decide +kernel
theorem iX2_8 : decode cX2_init 8 = .ok (.newarray .byte, 2) := by decide +kernel
theorem iX2_10 : decode cX2_init 10 = .ok (.putfield 9, 3) := by decide +kernel
theorem iX2_13 : decode cX2_init 13 = .ok (.return_, 1) := by decide +kernel
theorem iX3_0 : decode cX3_init 0 = .ok (.aload_n 0, 1) := by decide +kernel
theorem iX3_1 : decode cX3_init 1 = .ok (.invokespecial 3, 3) := by decide +kernel
theorem iX3_4 : decode cX3_init 4 = .ok (.aload_n 0, 1) := by decide +kernel
theorem iX3_5 : decode cX3_init 5 = .ok (.bipush 12, 2) := by decide +kernel
theorem iX3_7 : decode cX3_init 7 = .ok (.anewarray 9, 3) := by decide +kernel
theorem iX3_10 : decode cX3_init 10 = .ok (.putfield 11, 3) := by decide +kernel
theorem iX3_13 : decode cX3_init 13 = .ok (.iconst 0, 1) := by decide +kernel
theorem iX3_14 : decode cX3_init 14 = .ok (.istore_n 1, 1) := by decide +kernel
theorem iX3_15 : decode cX3_init 15 = .ok (.iload_n 1, 1) := by decide +kernel
theorem iX3_16 : decode cX3_init 16 = .ok (.bipush 12, 2) := by decide +kernel
theorem iX3_18 : decode cX3_init 18 = .ok (.if_icmp .ge 22, 3) := by decide +kernel
theorem iX3_21 : decode cX3_init 21 = .ok (.aload_n 0, 1) := by decide +kernel
theorem iX3_22 : decode cX3_init 22 = .ok (.getfield 11, 3) := by decide +kernel
theorem iX3_25 : decode cX3_init 25 = .ok (.iload_n 1, 1) := by decide +kernel
theorem iX3_26 : decode cX3_init 26 = .ok (.new 9, 3) := by decide +kernel
theorem iX3_29 : decode cX3_init 29 = .ok (.dup, 1) := by decide +kernel
theorem iX3_30 : decode cX3_init 30 = .ok (.invokespecial 17, 3) := by decide +kernel
theorem iX3_33 : decode cX3_init 33 = .ok (.aastore, 1) := by decide +kernel
theorem iX3_34 : decode cX3_init 34 = .ok (.iinc 1 1, 3) := by decide +kernel
theorem iX3_37 : decode cX3_init 37 = .ok (.goto (-22), 3) := by decide +kernel
theorem iX3_40 : decode cX3_init 40 = .ok (.return_, 1) := by decide +kernel
theorem iX11_0 : decode cX11_init 0 = .ok (.aload_n 0, 1) := by decide +kernel
theorem iX11_1 : decode cX11_init 1 = .ok (.invokespecial 1, 3) := by decide +kernel
theorem iX11_4 : decode cX11_init 4 = .ok (.aload_n 0, 1) := by decide +kernel
theorem iX11_5 : decode cX11_init 5 = .ok (.new 7, 3) := by decide +kernel
theorem iX11_8 : decode cX11_init 8 = .ok (.dup, 1) := by decide +kernel
theorem iX11_9 : decode cX11_init 9 = .ok (.invokespecial 9, 3) := by decide +kernel
theorem iX11_12 : decode cX11_init 12 = .ok (.putfield 10, 3) := by decide +kernel
theorem iX11_15 : decode cX11_init 15 = .ok (.aload_n 0, 1) := by decide +kernel
theorem iX11_16 : decode cX11_init 16 = .ok (.aload_n 0, 1) := by decide +kernel
theorem iX11_17 : decode cX11_init 17 = .ok (.getfield 10, 3) := by decide +kernel
theorem iX11_20 : decode cX11_init 20 = .ok (.getfield 16, 3) := by decide +kernel
theorem iX11_23 : decode cX11_init 23 = .ok (.getfield 20, 3) := by decide +kernel
theorem iX11_26 : decode cX11_init 26 = .ok (.putfield 26, 3) := by decide +kernel
theorem iX11_29 : decode cX11_init 29 = .ok (.aload_n 0, 1) := by decide +kernel
theorem iX11_30 : decode cX11_init 30 = .ok (.new 29, 3) := by decide +kernel
theorem iX11_33 : decode cX11_init 33 = .ok (.dup, 1) := by decide +kernel
theorem iX11_34 : decode cX11_init 34 = .ok (.invokespecial 31, 3) := by decide +kernel
theorem iX11_37 : decode cX11_init 37 = .ok (.putfield 32, 3) := by decide +kernel
theorem iX11_40 : decode cX11_init 40 = .ok (.aload_n 0, 1) := by decide +kernel
theorem iX11_41 : decode cX11_init 41 = .ok (.new 36, 3) := by decide +kernel
theorem iX11_44 : decode cX11_init 44 = .ok (.dup, 1) := by decide +kernel
theorem iX11_45 : decode cX11_init 45 = .ok (.invokespecial 38, 3) := by decide +kernel
theorem iX11_48 : decode cX11_init 48 = .ok (.putfield 39, 3) := by decide +kernel
theorem iX11_51 : decode cX11_init 51 = .ok (.aload_n 0, 1) := by decide +kernel
theorem iX11_52 : decode cX11_init 52 = .ok (.new 43, 3) := by decide +kernel
theorem iX11_55 : decode cX11_init 55 = .ok (.dup, 1) := by decide +kernel
theorem iX11_56 : decode cX11_init 56 = .ok (.invokespecial 45, 3) := by decide +kernel
theorem iX11_59 : decode cX11_init 59 = .ok (.putfield 46, 3) := by decide +kernel
theorem iX11_62 : decode cX11_init 62 = .ok (.aload_n 0, 1) := by decide +kernel
theorem iX11_63 : decode cX11_init 63 = .ok (.bipush 12, 2) := by decide +kernel
theorem iX11_65 : decode cX11_init 65 = .ok (.newarray .int, 2) := by decide +kernel
theorem iX11_67 : decode cX11_init 67 = .ok (.putfield 50, 3) := by decide +kernel
theorem iX11_70 : decode cX11_init 70 = .ok (.aload_n 0, 1) := by decide +kernel
theorem iX11_71 : decode cX11_init 71 = .ok (.new 54, 3) := by decide +kernel
theorem iX11_74 : decode cX11_init 74 = .ok (.dup, 1) := by decide +kernel
theorem iX11_75 : decode cX11_init 75 = .ok (.invokespecial 56, 3) := by decide +kernel
theorem iX11_78 : decode cX11_init 78 = .ok (.putfield 57, 3) := by decide +kernel
theorem iX11_81 : decode cX11_init 81 = .ok (.aload_n 0, 1) := by decide +kernel
theorem iX11_82 : decode cX11_init 82 = .ok (.new 61, 3) := by decide +kernel
theorem iX11_85 : decode cX11_init 85 = .ok (.dup, 1) := by decide +kernel
theorem iX11_86 : decode cX11_init 86 = .ok (.invokespecial 63, 3) := by decide +kernel
theorem iX11_89 : decode cX11_init 89 = .ok (.putfield 64, 3) := by decide +kernel
theorem iX11_92 : decode cX11_init 92 = .ok (.aload_n 0, 1) := by decide +kernel
theorem iX11_93 : decode cX11_init 93 = .ok (.getfield 57, 3) := by decide +kernel
theorem iX11_96 : decode cX11_init 96 = .ok (.iconst 0, 1) := by decide +kernel
theorem iX11_97 : decode cX11_init 97 = .ok (.bipush 9, 2) := by decide +kernel
theorem iX11_99 : decode cX11_init 99 = .ok (.bipush 100, 2) := by decide +kernel
theorem iX11_101 : decode cX11_init 101 = .ok (.invokevirtual 68, 3) := by decide +kernel
theorem iX11_104 : decode cX11_init 104 = .ok (.return_, 1) := by decide +kernel
theorem iX12_0 : decode cX12_init 0 = .ok (.aload_n 0, 1) := by decide +kernel
theorem iX12_1 : decode cX12_init 1 = .ok (.invokespecial 76, 3) := by decide +kernel
theorem iX12_4 : decode cX12_init 4 = .ok (.aload_n 0, 1) := by decide +kernel
theorem iX12_5 : decode cX12_init 5 = .ok (.sipush 900, 3) := by decide +kernel
theorem iX12_8 : decode cX12_init 8 = .ok (.newarray .byte, 2) := by decide +kernel
theorem iX12_10 : decode cX12_init 10 = .ok (.putfield 14, 3) := by decide +kernel
theorem iX12_13 : decode cX12_init 13 = .ok (.aload_n 0, 1) := by decide +kernel
theorem iX12_14 : decode cX12_init 14 = .ok (.iconst 5, 1) := by decide +kernel
theorem iX12_15 : decode cX12_init 15 = .ok (.newarray .int, 2) := by decide +kernel
theorem iX12_17 : decode cX12_init 17 = .ok (.putfield 10, 3) := by decide +kernel
theorem iX12_20 : decode cX12_init 20 = .ok (.aload_n 0, 1) := by decide +kernel
theorem iX12_21 : decode cX12_init 21 = .ok (.iconst (-1), 1) := by decide +kernel
theorem iX12_22 : decode cX12_init 22 = .ok (.putfield 18, 3) := by decide +kernel
theorem iX12_25 : decode cX12_init 25 = .ok (.aload_n 0, 1) := by decide +kernel
theorem iX12_26 : decode cX12_init 26 = .ok (.sipush 506, 3) := by decide +kernel
theorem iX12_29 : decode cX12_init 29 = .ok (.newarray .int, 2) := by decide +kernel
theorem iX12_31 : decode cX12_init 31 = .ok (.putfield 81, 3) := by decide +kernel
theorem iX12_34 : decode cX12_init 34 = .ok (.aload_n 0, 1) := by decide +kernel
theorem iX12_35 : decode cX12_init 35 = .ok (.sipush 506, 3) := by decide +kernel
theorem iX12_38 : decode cX12_init 38 = .ok (.newarray .int, 2) := by decide +kernel
theorem iX12_40 : decode cX12_init 40 = .ok (.putfield 84, 3) := by decide +kernel
theorem iX12_43 : decode cX12_init 43 = .ok (.aload_n 0, 1) := by decide +kernel
theorem iX12_44 : decode cX12_init 44 = .ok (.sipush 301, 3) := by decide +kernel
theorem iX12_47 : decode cX12_init 47 = .ok (.newarray .int, 2) := by decide +kernel
theorem iX12_49 : decode cX12_init 49 = .ok (.putfield 87, 3) := by decide +kernel
theorem iX12_52 : decode cX12_init 52 = .ok (.aload_n 0, 1) := by decide +kernel
theorem iX12_53 : decode cX12_init 53 = .ok (.sipush 3612, 3) := by decide +kernel
theorem iX12_56 : decode cX12_init 56 = .ok (.newarray .int, 2) := by decide +kernel
theorem iX12_58 : decode cX12_init 58 = .ok (.putfield 90, 3) := by decide +kernel
theorem iX12_61 : decode cX12_init 61 = .ok (.aload_n 0, 1) := by decide +kernel
theorem iX12_62 : decode cX12_init 62 = .ok (.bipush 12, 2) := by decide +kernel
theorem iX12_64 : decode cX12_init 64 = .ok (.newarray .int, 2) := by decide +kernel
theorem iX12_66 : decode cX12_init 66 = .ok (.putfield 93, 3) := by decide +kernel
theorem iX12_69 : decode cX12_init 69 = .ok (.aload_n 0, 1) := by decide +kernel
theorem iX12_70 : decode cX12_init 70 = .ok (.bipush 12, 2) := by decide +kernel
theorem iX12_72 : decode cX12_init 72 = .ok (.newarray .int, 2) := by decide +kernel
theorem iX12_74 : decode cX12_init 74 = .ok (.putfield 96, 3) := by decide +kernel
theorem iX12_77 : decode cX12_init 77 = .ok (.aload_n 0, 1) := by decide +kernel
theorem iX12_78 : decode cX12_init 78 = .ok (.bipush 20, 2) := by decide +kernel
theorem iX12_80 : decode cX12_init 80 = .ok (.newarray .int, 2) := by decide +kernel
theorem iX12_82 : decode cX12_init 82 = .ok (.putfield 99, 3) := by decide +kernel
theorem iX12_85 : decode cX12_init 85 = .ok (.aload_n 0, 1) := by decide +kernel
theorem iX12_86 : decode cX12_init 86 = .ok (.bipush 20, 2) := by decide +kernel
theorem iX12_88 : decode cX12_init 88 = .ok (.newarray .int, 2) := by decide +kernel
theorem iX12_90 : decode cX12_init 90 = .ok (.putfield 102, 3) := by decide +kernel
theorem iX12_93 : decode cX12_init 93 = .ok (.aload_n 0, 1) := by decide +kernel
theorem iX12_94 : decode cX12_init 94 = .ok (.bipush 6, 2) := by decide +kernel
theorem iX12_96 : decode cX12_init 96 = .ok (.newarray .int, 2) := by decide +kernel
theorem iX12_98 : decode cX12_init 98 = .ok (.putfield 105, 3) := by decide +kernel
theorem iX12_101 : decode cX12_init 101 = .ok (.aload_n 0, 1) := by decide +kernel
theorem iX12_102 : decode cX12_init 102 = .ok (.sipush 320, 3) := by decide +kernel
theorem iX12_105 : decode cX12_init 105 = .ok (.newarray .byte, 2) := by decide +kernel
theorem iX12_107 : decode cX12_init 107 = .ok (.putfield 108, 3) := by decide +kernel
theorem iX12_110 : decode cX12_init 110 = .ok (.aload_n 0, 1) := by decide +kernel
theorem iX12_111 : decode cX12_init 111 = .ok (.getfield 84, 3) := by decide +kernel
theorem iX12_114 : decode cX12_init 114 = .ok (.iconst 2, 1) := by decide +kernel
theorem iX12_115 : decode cX12_init 115 = .ok (.iconst 1, 1) := by decide +kernel
theorem iX12_116 : decode cX12_init 116 = .ok (.iastore, 1) := by decide +kernel
theorem iX12_117 : decode cX12_init 117 = .ok (.aload_n 0, 1) := by decide +kernel
theorem iX12_118 : decode cX12_init 118 = .ok (.invokevirtual 111, 3) := by decide +kernel
theorem iX12_121 : decode cX12_init 121 = .ok (.aload_n 0, 1) := by decide +kernel
theorem iX12_122 : decode cX12_init 122 = .ok (.invokevirtual 114, 3) := by decide +kernel
theorem iX12_125 : decode cX12_init 125 = .ok (.return_, 1) := by decide +kernel
theorem gi_88 : (Cond.initialized RX9) ∈ oa_GT := oa_g1 3 rfl rfl
theorem gi_89 : (Cond.initialized RX4) ∈ oa_GT := oa_g1 4 rfl rfl
theorem gi_90 : (Cond.initialized RX1) ∈ oa_GT := oa_g1 5 rfl rfl
theorem gi_91 : (Cond.initialized RX5) ∈ oa_GT := oa_g1 6 rfl rfl
theorem gi_92 : (Cond.initialized RX10) ∈ oa_GT := oa_g1 7 rfl rfl
theorem gi_93 : (Cond.initialized RX6) ∈ oa_GT := oa_g1 8 rfl rfl
theorem gi_94 : (Cond.initialized RX8) ∈ oa_GT := oa_g1 9 rfl rfl
theorem gi_118 : (Cond.instanceMethod objectInit) ∈ oa_GT := oa_g1 33 rfl rfl
theorem gi_119 : (Cond.code objectInit ⟨#[0xb1]⟩ 1 none) ∈ oa_GT := oa_g1 34 rfl rfl
theorem gi_125 : (Cond.methodLink RX7 3 objectInit) ∈ oa_GT := oa_g1 40 rfl rfl
theorem gi_126 : (Cond.classLink RX7 15 RX9) ∈ oa_GT := oa_g1 41 rfl rfl
theorem gi_127 : (Cond.instantiable RX9 4) ∈ oa_GT := oa_g1 42 rfl rfl
theorem gi_129 : (Cond.instanceMethod yX9_init) ∈ oa_GT := oa_g1 44 rfl rfl
theorem gi_130 : (oa_cw mX9_init) ∈ oa_GT := oa_g1 45 rfl rfl
theorem gi_131 : (Cond.methodLink RX9 3 objectInit) ∈ oa_GT := oa_g1 46 rfl rfl
theorem gi_132 : (Cond.classLink RX9 9 RX4) ∈ oa_GT := oa_g1 47 rfl rfl
theorem gi_133 : (Cond.instantiable RX4 2) ∈ oa_GT := oa_g1 48 rfl rfl
theorem gi_135 : (Cond.instanceMethod yX4_init) ∈ oa_GT := oa_g1 50 rfl rfl
theorem gi_136 : (oa_cw mX4_init) ∈ oa_GT := oa_g1 51 rfl rfl
theorem gi_137 : (Cond.methodLink RX4 3 objectInit) ∈ oa_GT := oa_g1 52 rfl rfl
theorem gi_141 : (Cond.fieldLink RX4 9 (TX4 1).1 (TX4 1).2.1 (TX4 1).2.2.1) ∈ oa_GT := oa_g1 56 rfl rfl
theorem gi_147 : (Cond.arrayClass .byte) ∈ oa_GT := oa_g1 62 rfl rfl
theorem gi_152 : (Cond.fieldLink RX9 12 (TX9 2).1 (TX9 2).2.1 (TX9 2).2.2.1) ∈ oa_GT := oa_g1 67 rfl rfl
theorem gi_164 : (Cond.classLink RX7 22 RX1) ∈ oa_GT := oa_g1 79 rfl rfl
theorem gi_165 : (Cond.instantiable RX1 14) ∈ oa_GT := oa_g1 80 rfl rfl
theorem gi_167 : (Cond.instanceMethod yX1_init) ∈ oa_GT := oa_g1 82 rfl rfl
theorem gi_168 : (oa_cw mX1_init) ∈ oa_GT := oa_g1 83 rfl rfl
theorem gi_169 : (Cond.methodLink RX1 3 objectInit) ∈ oa_GT := oa_g1 84 rfl rfl
theorem gi_170 : (Cond.classLink RX1 28 "[[I") ∈ oa_GT := oa_g1 85 rfl rfl
theorem gi_183 : (Cond.fieldLink RX1 9 (TX1 3).1 (TX1 3).2.1 (TX1 3).2.2.1) ∈ oa_GT := oa_g1 98 rfl rfl
theorem gi_184 : (Cond.fieldLink RX1 15 (TX1 4).1 (TX1 4).2.1 (TX1 4).2.2.1) ∈ oa_GT := oa_g1 99 rfl rfl
theorem gi_185 : (Cond.fieldLink RX1 19 (TX1 5).1 (TX1 5).2.1 (TX1 5).2.2.1) ∈ oa_GT := oa_g1 100 rfl rfl
theorem gi_186 : (Cond.fieldLink RX1 22 (TX1 6).1 (TX1 6).2.1 (TX1 6).2.2.1) ∈ oa_GT := oa_g1 101 rfl rfl
theorem gi_187 : (Cond.fieldLink RX1 25 (TX1 7).1 (TX1 7).2.1 (TX1 7).2.2.1) ∈ oa_GT := oa_g1 102 rfl rfl
theorem gi_188 : (Cond.fieldLink RX1 30 (TX1 8).1 (TX1 8).2.1 (TX1 8).2.2.1) ∈ oa_GT := oa_g1 103 rfl rfl
theorem gi_189 : (Cond.fieldLink RX1 33 (TX1 9).1 (TX1 9).2.1 (TX1 9).2.2.1) ∈ oa_GT := oa_g1 104 rfl rfl
theorem gi_190 : (Cond.fieldLink RX1 36 (TX1 10).1 (TX1 10).2.1 (TX1 10).2.2.1) ∈ oa_GT := oa_g1 105 rfl rfl
theorem gi_191 : (Cond.fieldLink RX1 39 (TX1 11).1 (TX1 11).2.1 (TX1 11).2.2.1) ∈ oa_GT := oa_g1 106 rfl rfl
theorem gi_192 : (Cond.fieldLink RX1 42 (TX1 12).1 (TX1 12).2.1 (TX1 12).2.2.1) ∈ oa_GT := oa_g1 107 rfl rfl
theorem gi_193 : (Cond.fieldLink RX1 45 (TX1 13).1 (TX1 13).2.1 (TX1 13).2.2.1) ∈ oa_GT := oa_g1 108 rfl rfl
theorem gi_223 : (Cond.arrayClass .long) ∈ oa_GT := oa_g1 138 rfl rfl
theorem gi_224 : (Cond.arrayClass .int) ∈ oa_GT := oa_g1 139 rfl rfl
theorem gi_225 : (Cond.classLink RX7 29 RX5) ∈ oa_GT := oa_g1 140 rfl rfl
theorem gi_226 : (Cond.instantiable RX5 3) ∈ oa_GT := oa_g1 141 rfl rfl
theorem gi_228 : (Cond.instanceMethod yX5_init) ∈ oa_GT := oa_g1 143 rfl rfl
theorem gi_229 : (oa_cw mX5_init) ∈ oa_GT := oa_g1 144 rfl rfl
theorem gi_230 : (Cond.methodLink RX5 3 objectInit) ∈ oa_GT := oa_g1 145 rfl rfl
theorem gi_231 : (Cond.classLink RX5 9 RX10) ∈ oa_GT := oa_g1 146 rfl rfl
theorem gi_232 : (Cond.instantiable RX10 7) ∈ oa_GT := oa_g1 147 rfl rfl
theorem gi_234 : (Cond.instanceMethod yX10_init) ∈ oa_GT := oa_g1 149 rfl rfl
theorem gi_235 : (oa_cw mX10_init) ∈ oa_GT := oa_g1 150 rfl rfl
theorem gi_236 : (Cond.methodLink RX10 3 objectInit) ∈ oa_GT := oa_g1 151 rfl rfl
theorem gi_242 : (Cond.fieldLink RX10 9 (TX10 2).1 (TX10 2).2.1 (TX10 2).2.2.1) ∈ oa_GT := oa_g1 157 rfl rfl
theorem gi_243 : (Cond.fieldLink RX10 15 (TX10 3).1 (TX10 3).2.1 (TX10 3).2.2.1) ∈ oa_GT := oa_g1 158 rfl rfl
theorem gi_244 : (Cond.fieldLink RX10 18 (TX10 4).1 (TX10 4).2.1 (TX10 4).2.2.1) ∈ oa_GT := oa_g1 159 rfl rfl
theorem gi_245 : (Cond.fieldLink RX10 21 (TX10 5).1 (TX10 5).2.1 (TX10 5).2.2.1) ∈ oa_GT := oa_g1 160 rfl rfl
theorem gi_246 : (Cond.fieldLink RX10 24 (TX10 6).1 (TX10 6).2.1 (TX10 6).2.2.1) ∈ oa_GT := oa_g1 161 rfl rfl
theorem gi_262 : (Cond.classLink RX5 18 RX6) ∈ oa_GT := oa_g1 177 rfl rfl
theorem gi_263 : (Cond.instantiable RX6 9) ∈ oa_GT := oa_g1 178 rfl rfl
theorem gi_265 : (Cond.instanceMethod yX6_init) ∈ oa_GT := oa_g1 180 rfl rfl
theorem gi_266 : (oa_cw mX6_init) ∈ oa_GT := oa_g1 181 rfl rfl
theorem gi_267 : (Cond.methodLink RX6 3 objectInit) ∈ oa_GT := oa_g1 182 rfl rfl
theorem gi_273 : (Cond.fieldLink RX6 9 (TX6 1).1 (TX6 1).2.1 (TX6 1).2.2.1) ∈ oa_GT := oa_g1 188 rfl rfl
theorem gi_274 : (Cond.fieldLink RX6 15 (TX6 2).1 (TX6 2).2.1 (TX6 2).2.2.1) ∈ oa_GT := oa_g1 189 rfl rfl
theorem gi_275 : (Cond.fieldLink RX6 18 (TX6 3).1 (TX6 3).2.1 (TX6 3).2.2.1) ∈ oa_GT := oa_g1 190 rfl rfl
theorem gi_276 : (Cond.fieldLink RX6 21 (TX6 4).1 (TX6 4).2.1 (TX6 4).2.2.1) ∈ oa_GT := oa_g1 191 rfl rfl
theorem gi_277 : (Cond.fieldLink RX6 24 (TX6 5).1 (TX6 5).2.1 (TX6 5).2.2.1) ∈ oa_GT := oa_g1 192 rfl rfl
theorem gi_278 : (Cond.fieldLink RX6 28 (TX6 6).1 (TX6 6).2.1 (TX6 6).2.2.1) ∈ oa_GT := oa_g1 193 rfl rfl
theorem gi_279 : (Cond.fieldLink RX6 31 (TX6 7).1 (TX6 7).2.1 (TX6 7).2.2.1) ∈ oa_GT := oa_g1 194 rfl rfl
theorem gi_280 : (Cond.fieldLink RX6 34 (TX6 8).1 (TX6 8).2.1 (TX6 8).2.2.1) ∈ oa_GT := oa_g1 195 rfl rfl
theorem gi_300 : (Cond.arrayClass .boolean) ∈ oa_GT := oa_g1 215 rfl rfl
theorem gi_301 : (Cond.classLink RX5 25 RX8) ∈ oa_GT := oa_g1 216 rfl rfl
theorem gi_302 : (Cond.instantiable RX8 4) ∈ oa_GT := oa_g1 217 rfl rfl
theorem gi_304 : (Cond.instanceMethod yX8_init) ∈ oa_GT := oa_g1 219 rfl rfl
theorem gi_305 : (oa_cw mX8_init) ∈ oa_GT := oa_g1 220 rfl rfl
theorem gi_306 : (Cond.methodLink RX8 3 objectInit) ∈ oa_GT := oa_g1 221 rfl rfl
theorem gi_307 : (Cond.fieldLink RX8 9 (TX8 0).1 (TX8 0).2.1 (TX8 0).2.2.1) ∈ oa_GT := oa_g1 222 rfl rfl
theorem gi_308 : (Cond.fieldLink RX8 15 (TX8 1).1 (TX8 1).2.1 (TX8 1).2.2.1) ∈ oa_GT := oa_g1 223 rfl rfl
theorem gi_309 : (Cond.fieldLink RX8 18 (TX8 2).1 (TX8 2).2.1 (TX8 2).2.2.1) ∈ oa_GT := oa_g1 224 rfl rfl
theorem gi_310 : (Cond.fieldLink RX8 21 (TX8 3).1 (TX8 3).2.1 (TX8 3).2.2.1) ∈ oa_GT := oa_g1 225 rfl rfl
theorem gi_320 : (Cond.fieldLink RX5 12 (TX5 0).1 (TX5 0).2.1 (TX5 0).2.2.1) ∈ oa_GT := oa_g1 235 rfl rfl
theorem gi_324 : (Cond.fieldLink RX5 21 (TX5 1).1 (TX5 1).2.1 (TX5 1).2.2.1) ∈ oa_GT := oa_g1 239 rfl rfl
theorem gi_328 : (Cond.fieldLink RX5 28 (TX5 2).1 (TX5 2).2.1 (TX5 2).2.2.1) ∈ oa_GT := oa_g2 3 rfl rfl
theorem gi_337 : (Cond.fieldLink RX7 9 (TX7 0).1 (TX7 0).2.1 (TX7 0).2.2.1) ∈ oa_GT := oa_g2 12 rfl rfl
theorem gi_341 : (Cond.fieldLink RX7 18 (TX7 2).1 (TX7 2).2.1 (TX7 2).2.2.1) ∈ oa_GT := oa_g2 16 rfl rfl
theorem gi_343 : (Cond.fieldLink RX7 25 (TX7 3).1 (TX7 3).2.1 (TX7 3).2.2.1) ∈ oa_GT := oa_g2 18 rfl rfl
theorem gi_344 : (Cond.fieldLink RX7 32 (TX7 4).1 (TX7 4).2.1 (TX7 4).2.2.1) ∈ oa_GT := oa_g2 19 rfl rfl
theorem gi_381 : (Cond.methodLink RX0 3 objectInit) ∈ oa_GT := oa_g2 56 rfl rfl
theorem gi_382 : (Cond.fieldLink RX0 9 (TX0 0).1 (TX0 0).2.1 (TX0 0).2.2.1) ∈ oa_GT := oa_g2 57 rfl rfl
theorem gi_383 : (Cond.fieldLink RX0 15 (TX0 1).1 (TX0 1).2.1 (TX0 1).2.2.1) ∈ oa_GT := oa_g2 58 rfl rfl
theorem gi_384 : (Cond.fieldLink RX0 18 (TX0 2).1 (TX0 2).2.1 (TX0 2).2.2.1) ∈ oa_GT := oa_g2 59 rfl rfl
theorem gi_385 : (Cond.fieldLink RX0 21 (TX0 3).1 (TX0 3).2.1 (TX0 3).2.2.1) ∈ oa_GT := oa_g2 60 rfl rfl
theorem gi_386 : (Cond.fieldLink RX0 24 (TX0 4).1 (TX0 4).2.1 (TX0 4).2.2.1) ∈ oa_GT := oa_g2 61 rfl rfl
theorem gi_387 : (Cond.fieldLink RX0 27 (TX0 5).1 (TX0 5).2.1 (TX0 5).2.2.1) ∈ oa_GT := oa_g2 62 rfl rfl
theorem gi_406 : (Cond.methodLink RX2 3 objectInit) ∈ oa_GT := oa_g2 81 rfl rfl
theorem gi_409 : (Cond.fieldLink RX2 9 (TX2 1).1 (TX2 1).2.1 (TX2 1).2.2.1) ∈ oa_GT := oa_g2 84 rfl rfl
theorem ni_128 : (Cond.methodLinkNest RX7 17 yX9_init "OrderAssembler") ∈ lw_tbl := List.mem_of_getElem? (i := 128) (by decide +kernel)
theorem ni_134 : (Cond.methodLinkNest RX9 11 yX4_init "OrderAssembler") ∈ lw_tbl := List.mem_of_getElem? (i := 134) (by decide +kernel)
theorem ni_166 : (Cond.methodLinkNest RX7 24 yX1_init "OrderAssembler") ∈ lw_tbl := List.mem_of_getElem? (i := 166) (by decide +kernel)
theorem ni_171 : (Cond.arrayOver (.array .int)) ∈ lw_tbl := List.mem_of_getElem? (i := 171) (by decide +kernel)
theorem ni_227 : (Cond.methodLinkNest RX7 31 yX5_init "OrderAssembler") ∈ lw_tbl := List.mem_of_getElem? (i := 227) (by decide +kernel)
theorem ni_233 : (Cond.methodLinkNest RX5 11 yX10_init "OrderAssembler") ∈ lw_tbl := List.mem_of_getElem? (i := 233) (by decide +kernel)
theorem ni_264 : (Cond.methodLinkNest RX5 20 yX6_init "OrderAssembler") ∈ lw_tbl := List.mem_of_getElem? (i := 264) (by decide +kernel)
theorem ni_303 : (Cond.methodLinkNest RX5 27 yX8_init "OrderAssembler") ∈ lw_tbl := List.mem_of_getElem? (i := 303) (by decide +kernel)
