theorem dX0_tryOut_0 : decode cX0_tryOut 0 = .ok (.aload_n 0, 1) := by decide +kernel
theorem dX0_tryOut_1 : decode cX0_tryOut 1 = .ok (.aload_n 2, 1) := by decide +kernel
theorem dX0_tryOut_2 : decode cX0_tryOut 2 = .ok (.invokevirtual 30, 3) := by decide +kernel
theorem dX0_tryOut_5 : decode cX0_tryOut 5 = .ok (.iconst 0, 1) := by decide +kernel
theorem dX0_tryOut_6 : decode cX0_tryOut 6 = .ok (.istore_n 3, 1) := by decide +kernel
theorem dX0_tryOut_7 : decode cX0_tryOut 7 = .ok (.iload_n 3, 1) := by decide +kernel
theorem dX0_tryOut_8 : decode cX0_tryOut 8 = .ok (.aload_n 1, 1) := by decide +kernel
theorem dX0_tryOut_9 : decode cX0_tryOut 9 = .ok (.getfield 34, 3) := by decide +kernel
theorem dX0_tryOut_12 : decode cX0_tryOut 12 = .ok (.if_icmp .ge 85, 3) := by decide +kernel
theorem dX0_tryOut_15 : decode cX0_tryOut 15 = .ok (.aload_n 0, 1) := by decide +kernel
theorem dX0_tryOut_16 : decode cX0_tryOut 16 = .ok (.aload_n 1, 1) := by decide +kernel
theorem dX0_tryOut_17 : decode cX0_tryOut 17 = .ok (.iload_n 3, 1) := by decide +kernel
theorem dX0_tryOut_18 : decode cX0_tryOut 18 = .ok (.invokevirtual 40, 3) := by decide +kernel
theorem dX0_tryOut_21 : decode cX0_tryOut 21 = .ok (.invokevirtual 44, 3) := by decide +kernel
theorem dX0_tryOut_24 : decode cX0_tryOut 24 = .ok (.iconst 0, 1) := by decide +kernel
theorem dX0_tryOut_25 : decode cX0_tryOut 25 = .ok (.istore 4, 2) := by decide +kernel
theorem dX0_tryOut_27 : decode cX0_tryOut 27 = .ok (.iload 4, 2) := by decide +kernel
theorem dX0_tryOut_29 : decode cX0_tryOut 29 = .ok (.aload_n 2, 1) := by decide +kernel
theorem dX0_tryOut_30 : decode cX0_tryOut 30 = .ok (.getfield 48, 3) := by decide +kernel
theorem dX0_tryOut_33 : decode cX0_tryOut 33 = .ok (.getfield 54, 3) := by decide +kernel
theorem dX0_tryOut_36 : decode cX0_tryOut 36 = .ok (.if_icmp .ge 55, 3) := by decide +kernel
theorem dX0_tryOut_39 : decode cX0_tryOut 39 = .ok (.iload 4, 2) := by decide +kernel
theorem dX0_tryOut_41 : decode cX0_tryOut 41 = .ok (.bipush 20, 2) := by decide +kernel
theorem dX0_tryOut_43 : decode cX0_tryOut 43 = .ok (.if_icmp .ge 48, 3) := by decide +kernel
theorem dX0_tryOut_46 : decode cX0_tryOut 46 = .ok (.aload_n 1, 1) := by decide +kernel
theorem dX0_tryOut_47 : decode cX0_tryOut 47 = .ok (.iload_n 3, 1) := by decide +kernel
theorem dX0_tryOut_48 : decode cX0_tryOut 48 = .ok (.aload_n 2, 1) := by decide +kernel
theorem dX0_tryOut_49 : decode cX0_tryOut 49 = .ok (.getfield 48, 3) := by decide +kernel
theorem dX0_tryOut_52 : decode cX0_tryOut 52 = .ok (.aload_n 0, 1) := by decide +kernel
theorem dX0_tryOut_53 : decode cX0_tryOut 53 = .ok (.getfield 18, 3) := by decide +kernel
theorem dX0_tryOut_56 : decode cX0_tryOut 56 = .ok (.iload 4, 2) := by decide +kernel
theorem dX0_tryOut_58 : decode cX0_tryOut 58 = .ok (.iaload, 1) := by decide +kernel
theorem dX0_tryOut_59 : decode cX0_tryOut 59 = .ok (.invokevirtual 59, 3) := by decide +kernel
theorem dX0_tryOut_62 : decode cX0_tryOut 62 = .ok (.invokevirtual 62, 3) := by decide +kernel
theorem dX0_tryOut_65 : decode cX0_tryOut 65 = .ok (.ifCond .eq 20, 3) := by decide +kernel
theorem dX0_tryOut_68 : decode cX0_tryOut 68 = .ok (.aload_n 0, 1) := by decide +kernel
theorem dX0_tryOut_69 : decode cX0_tryOut 69 = .ok (.aload_n 1, 1) := by decide +kernel
theorem dX0_tryOut_70 : decode cX0_tryOut 70 = .ok (.aload_n 2, 1) := by decide +kernel
theorem dX0_tryOut_71 : decode cX0_tryOut 71 = .ok (.getfield 48, 3) := by decide +kernel
theorem dX0_tryOut_74 : decode cX0_tryOut 74 = .ok (.aload_n 0, 1) := by decide +kernel
theorem dX0_tryOut_75 : decode cX0_tryOut 75 = .ok (.getfield 18, 3) := by decide +kernel
theorem dX0_tryOut_78 : decode cX0_tryOut 78 = .ok (.iload 4, 2) := by decide +kernel
theorem dX0_tryOut_80 : decode cX0_tryOut 80 = .ok (.iaload, 1) := by decide +kernel
theorem dX0_tryOut_81 : decode cX0_tryOut 81 = .ok (.iload_n 3, 1) := by decide +kernel
theorem dX0_tryOut_82 : decode cX0_tryOut 82 = .ok (.invokevirtual 66, 3) := by decide +kernel
theorem dX0_tryOut_85 : decode cX0_tryOut 85 = .ok (.iinc 4 1, 3) := by decide +kernel
theorem dX0_tryOut_88 : decode cX0_tryOut 88 = .ok (.goto (-61), 3) := by decide +kernel
theorem dX0_tryOut_91 : decode cX0_tryOut 91 = .ok (.iinc 3 1, 3) := by decide +kernel
theorem dX0_tryOut_94 : decode cX0_tryOut 94 = .ok (.goto (-87), 3) := by decide +kernel
theorem dX0_tryOut_97 : decode cX0_tryOut 97 = .ok (.return_, 1) := by decide +kernel
theorem dX0_begin_0 : decode cX0_begin 0 = .ok (.aload_n 1, 1) := by decide +kernel
theorem dX0_begin_1 : decode cX0_begin 1 = .ok (.getfield 70, 3) := by decide +kernel
theorem dX0_begin_4 : decode cX0_begin 4 = .ok (.aload_n 0, 1) := by decide +kernel
theorem dX0_begin_5 : decode cX0_begin 5 = .ok (.getfield 9, 3) := by decide +kernel
theorem dX0_begin_8 : decode cX0_begin 8 = .ok (.invokevirtual 74, 3) := by decide +kernel
theorem dX0_begin_11 : decode cX0_begin 11 = .ok (.aload_n 1, 1) := by decide +kernel
theorem dX0_begin_12 : decode cX0_begin 12 = .ok (.getfield 48, 3) := by decide +kernel
theorem dX0_begin_15 : decode cX0_begin 15 = .ok (.aload_n 0, 1) := by decide +kernel
theorem dX0_begin_16 : decode cX0_begin 16 = .ok (.getfield 18, 3) := by decide +kernel
theorem dX0_begin_19 : decode cX0_begin 19 = .ok (.invokevirtual 80, 3) := by decide +kernel
theorem dX0_begin_22 : decode cX0_begin 22 = .ok (.aload_n 0, 1) := by decide +kernel
theorem dX0_begin_23 : decode cX0_begin 23 = .ok (.getfield 21, 3) := by decide +kernel
theorem dX0_begin_26 : decode cX0_begin 26 = .ok (.iconst 0, 1) := by decide +kernel
theorem dX0_begin_27 : decode cX0_begin 27 = .ok (.invokestatic 83, 3) := by decide +kernel
theorem dX0_begin_30 : decode cX0_begin 30 = .ok (.aload_n 0, 1) := by decide +kernel
theorem dX0_begin_31 : decode cX0_begin 31 = .ok (.getfield 24, 3) := by decide +kernel
theorem dX0_begin_34 : decode cX0_begin 34 = .ok (.iconst (-1), 1) := by decide +kernel
theorem dX0_begin_35 : decode cX0_begin 35 = .ok (.invokestatic 83, 3) := by decide +kernel
theorem dX0_begin_38 : decode cX0_begin 38 = .ok (.aload_n 0, 1) := by decide +kernel
theorem dX0_begin_39 : decode cX0_begin 39 = .ok (.getfield 27, 3) := by decide +kernel
theorem dX0_begin_42 : decode cX0_begin 42 = .ok (.iconst 0, 1) := by decide +kernel
theorem dX0_begin_43 : decode cX0_begin 43 = .ok (.invokestatic 83, 3) := by decide +kernel
theorem dX0_begin_46 : decode cX0_begin 46 = .ok (.return_, 1) := by decide +kernel
theorem dX0_setQuotas_0 : decode cX0_setQuotas 0 = .ok (.iconst 0, 1) := by decide +kernel
theorem dX0_setQuotas_1 : decode cX0_setQuotas 1 = .ok (.istore_n 2, 1) := by decide +kernel
theorem dX0_setQuotas_2 : decode cX0_setQuotas 2 = .ok (.iload_n 2, 1) := by decide +kernel
theorem dX0_setQuotas_3 : decode cX0_setQuotas 3 = .ok (.bipush 12, 2) := by decide +kernel
theorem dX0_setQuotas_5 : decode cX0_setQuotas 5 = .ok (.if_icmp .ge 26, 3) := by decide +kernel
theorem dX0_setQuotas_8 : decode cX0_setQuotas 8 = .ok (.aload_n 0, 1) := by decide +kernel
theorem dX0_setQuotas_9 : decode cX0_setQuotas 9 = .ok (.getfield 15, 3) := by decide +kernel
theorem dX0_setQuotas_12 : decode cX0_setQuotas 12 = .ok (.iload_n 2, 1) := by decide +kernel
theorem dX0_setQuotas_13 : decode cX0_setQuotas 13 = .ok (.aload_n 0, 1) := by decide +kernel
theorem dX0_setQuotas_14 : decode cX0_setQuotas 14 = .ok (.getfield 9, 3) := by decide +kernel
theorem dX0_setQuotas_17 : decode cX0_setQuotas 17 = .ok (.iload_n 2, 1) := by decide +kernel
theorem dX0_setQuotas_18 : decode cX0_setQuotas 18 = .ok (.iaload, 1) := by decide +kernel
theorem dX0_setQuotas_19 : decode cX0_setQuotas 19 = .ok (.iload_n 1, 1) := by decide +kernel
theorem dX0_setQuotas_20 : decode cX0_setQuotas 20 = .ok (.imul, 1) := by decide +kernel
theorem dX0_setQuotas_21 : decode cX0_setQuotas 21 = .ok (.bipush 100, 2) := by decide +kernel
theorem dX0_setQuotas_23 : decode cX0_setQuotas 23 = .ok (.idiv, 1) := by decide +kernel
theorem dX0_setQuotas_24 : decode cX0_setQuotas 24 = .ok (.iastore, 1) := by decide +kernel
theorem dX0_setQuotas_25 : decode cX0_setQuotas 25 = .ok (.iinc 2 1, 3) := by decide +kernel
theorem dX0_setQuotas_28 : decode cX0_setQuotas 28 = .ok (.goto (-26), 3) := by decide +kernel
theorem dX0_setQuotas_31 : decode cX0_setQuotas 31 = .ok (.return_, 1) := by decide +kernel
theorem dX0_serve_0 : decode cX0_serve 0 = .ok (.aload_n 2, 1) := by decide +kernel
theorem dX0_serve_1 : decode cX0_serve 1 = .ok (.iload_n 3, 1) := by decide +kernel
theorem dX0_serve_2 : decode cX0_serve 2 = .ok (.invokevirtual 89, 3) := by decide +kernel
theorem dX0_serve_5 : decode cX0_serve 5 = .ok (.istore 5, 2) := by decide +kernel
theorem dX0_serve_7 : decode cX0_serve 7 = .ok (.aload_n 2, 1) := by decide +kernel
theorem dX0_serve_8 : decode cX0_serve 8 = .ok (.iload_n 3, 1) := by decide +kernel
theorem dX0_serve_9 : decode cX0_serve 9 = .ok (.invokevirtual 92, 3) := by decide +kernel
theorem dX0_serve_12 : decode cX0_serve 12 = .ok (.aload_n 0, 1) := by decide +kernel
theorem dX0_serve_13 : decode cX0_serve 13 = .ok (.iload_n 3, 1) := by decide +kernel
theorem dX0_serve_14 : decode cX0_serve 14 = .ok (.invokevirtual 95, 3) := by decide +kernel
theorem dX0_serve_17 : decode cX0_serve 17 = .ok (.isub, 1) := by decide +kernel
theorem dX0_serve_18 : decode cX0_serve 18 = .ok (.istore 6, 2) := by decide +kernel
theorem dX0_serve_20 : decode cX0_serve 20 = .ok (.iload 6, 2) := by decide +kernel
theorem dX0_serve_22 : decode cX0_serve 22 = .ok (.aload_n 1, 1) := by decide +kernel
theorem dX0_serve_23 : decode cX0_serve 23 = .ok (.iload 5, 2) := by decide +kernel
theorem dX0_serve_25 : decode cX0_serve 25 = .ok (.aload_n 0, 1) := by decide +kernel
theorem dX0_serve_26 : decode cX0_serve 26 = .ok (.getfield 15, 3) := by decide +kernel
theorem dX0_serve_29 : decode cX0_serve 29 = .ok (.invokevirtual 98, 3) := by decide +kernel
theorem dX0_serve_32 : decode cX0_serve 32 = .ok (.invokestatic 102, 3) := by decide +kernel
theorem dX0_serve_35 : decode cX0_serve 35 = .ok (.istore 7, 2) := by decide +kernel
theorem dX0_serve_37 : decode cX0_serve 37 = .ok (.iload 7, 2) := by decide +kernel
theorem dX0_serve_39 : decode cX0_serve 39 = .ok (.iload 6, 2) := by decide +kernel
theorem dX0_serve_41 : decode cX0_serve 41 = .ok (.if_icmp .eq 11, 3) := by decide +kernel
theorem dX0_serve_44 : decode cX0_serve 44 = .ok (.aload_n 2, 1) := by decide +kernel
theorem dX0_serve_45 : decode cX0_serve 45 = .ok (.iload_n 3, 1) := by decide +kernel
theorem dX0_serve_46 : decode cX0_serve 46 = .ok (.invokevirtual 108, 3) := by decide +kernel
theorem dX0_serve_49 : decode cX0_serve 49 = .ok (.ifCond .ne 7, 3) := by decide +kernel
theorem dX0_serve_52 : decode cX0_serve 52 = .ok (.iconst 1, 1) := by decide +kernel
theorem dX0_serve_53 : decode cX0_serve 53 = .ok (.goto 4, 3) := by decide +kernel
theorem dX0_serve_56 : decode cX0_serve 56 = .ok (.iconst 0, 1) := by decide +kernel
theorem dX0_serve_57 : decode cX0_serve 57 = .ok (.istore 8, 2) := by decide +kernel
theorem dX0_serve_59 : decode cX0_serve 59 = .ok (.iload 7, 2) := by decide +kernel
theorem dX0_serve_61 : decode cX0_serve 61 = .ok (.ifCond .le 101, 3) := by decide +kernel
theorem dX0_serve_64 : decode cX0_serve 64 = .ok (.iload 8, 2) := by decide +kernel
theorem dX0_serve_66 : decode cX0_serve 66 = .ok (.ifCond .eq 96, 3) := by decide +kernel
theorem dX0_serve_69 : decode cX0_serve 69 = .ok (.iload_n 3, 1) := by decide +kernel
theorem dX0_serve_70 : decode cX0_serve 70 = .ok (.bipush 20, 2) := by decide +kernel
theorem dX0_serve_72 : decode cX0_serve 72 = .ok (.invokestatic 112, 3) := by decide +kernel
theorem dX0_serve_75 : decode cX0_serve 75 = .ok (.ifCond .eq 87, 3) := by decide +kernel
theorem dX0_serve_78 : decode cX0_serve 78 = .ok (.iload 4, 2) := by decide +kernel
theorem dX0_serve_80 : decode cX0_serve 80 = .ok (.bipush 6, 2) := by decide +kernel
theorem dX0_serve_82 : decode cX0_serve 82 = .ok (.invokestatic 112, 3) := by decide +kernel
theorem dX0_serve_85 : decode cX0_serve 85 = .ok (.ifCond .eq 77, 3) := by decide +kernel
theorem dX0_serve_88 : decode cX0_serve 88 = .ok (.aload_n 1, 1) := by decide +kernel
theorem dX0_serve_89 : decode cX0_serve 89 = .ok (.iload 5, 2) := by decide +kernel
theorem dX0_serve_91 : decode cX0_serve 91 = .ok (.iload 7, 2) := by decide +kernel
theorem dX0_serve_93 : decode cX0_serve 93 = .ok (.aload_n 0, 1) := by decide +kernel
theorem dX0_serve_94 : decode cX0_serve 94 = .ok (.getfield 15, 3) := by decide +kernel
theorem dX0_serve_97 : decode cX0_serve 97 = .ok (.invokevirtual 115, 3) := by decide +kernel
theorem dX0_serve_100 : decode cX0_serve 100 = .ok (.aload_n 1, 1) := by decide +kernel
theorem dX0_serve_101 : decode cX0_serve 101 = .ok (.iload 5, 2) := by decide +kernel
theorem dX0_serve_103 : decode cX0_serve 103 = .ok (.iload 7, 2) := by decide +kernel
theorem dX0_serve_105 : decode cX0_serve 105 = .ok (.aload_n 0, 1) := by decide +kernel
theorem dX0_serve_106 : decode cX0_serve 106 = .ok (.getfield 9, 3) := by decide +kernel
theorem dX0_serve_109 : decode cX0_serve 109 = .ok (.invokevirtual 115, 3) := by decide +kernel
theorem dX0_serve_112 : decode cX0_serve 112 = .ok (.aload_n 0, 1) := by decide +kernel
theorem dX0_serve_113 : decode cX0_serve 113 = .ok (.getfield 21, 3) := by decide +kernel
theorem dX0_serve_116 : decode cX0_serve 116 = .ok (.iload_n 3, 1) := by decide +kernel
theorem dX0_serve_117 : decode cX0_serve 117 = .ok (.dup2, 1) := by decide +kernel
theorem dX0_serve_118 : decode cX0_serve 118 = .ok (.iaload, 1) := by decide +kernel
theorem dX0_serve_119 : decode cX0_serve 119 = .ok (.iload 7, 2) := by decide +kernel
theorem dX0_serve_121 : decode cX0_serve 121 = .ok (.iadd, 1) := by decide +kernel
theorem dX0_serve_122 : decode cX0_serve 122 = .ok (.iastore, 1) := by decide +kernel
theorem dX0_serve_123 : decode cX0_serve 123 = .ok (.aload_n 0, 1) := by decide +kernel
theorem dX0_serve_124 : decode cX0_serve 124 = .ok (.getfield 27, 3) := by decide +kernel
theorem dX0_serve_127 : decode cX0_serve 127 = .ok (.iload 4, 2) := by decide +kernel
theorem dX0_serve_129 : decode cX0_serve 129 = .ok (.dup2, 1) := by decide +kernel
theorem dX0_serve_130 : decode cX0_serve 130 = .ok (.iaload, 1) := by decide +kernel
theorem dX0_serve_131 : decode cX0_serve 131 = .ok (.iload 7, 2) := by decide +kernel
theorem dX0_serve_133 : decode cX0_serve 133 = .ok (.iadd, 1) := by decide +kernel
theorem dX0_serve_134 : decode cX0_serve 134 = .ok (.iastore, 1) := by decide +kernel
theorem dX0_serve_135 : decode cX0_serve 135 = .ok (.aload_n 0, 1) := by decide +kernel
theorem dX0_serve_136 : decode cX0_serve 136 = .ok (.getfield 24, 3) := by decide +kernel
theorem dX0_serve_139 : decode cX0_serve 139 = .ok (.iload_n 3, 1) := by decide +kernel
theorem dX0_serve_140 : decode cX0_serve 140 = .ok (.aload_n 0, 1) := by decide +kernel
theorem dX0_serve_141 : decode cX0_serve 141 = .ok (.getfield 24, 3) := by decide +kernel
theorem dX0_serve_144 : decode cX0_serve 144 = .ok (.iload_n 3, 1) := by decide +kernel
theorem dX0_serve_145 : decode cX0_serve 145 = .ok (.iaload, 1) := by decide +kernel
theorem dX0_serve_146 : decode cX0_serve 146 = .ok (.iconst (-1), 1) := by decide +kernel
theorem dX0_serve_147 : decode cX0_serve 147 = .ok (.if_icmp .ne 8, 3) := by decide +kernel
theorem dX0_serve_150 : decode cX0_serve 150 = .ok (.iload 4, 2) := by decide +kernel
theorem dX0_serve_152 : decode cX0_serve 152 = .ok (.goto 9, 3) := by decide +kernel
theorem dX0_serve_155 : decode cX0_serve 155 = .ok (.aload_n 0, 1) := by decide +kernel
theorem dX0_serve_156 : decode cX0_serve 156 = .ok (.getfield 24, 3) := by decide +kernel
theorem dX0_serve_159 : decode cX0_serve 159 = .ok (.iload_n 3, 1) := by decide +kernel
theorem dX0_serve_160 : decode cX0_serve 160 = .ok (.iaload, 1) := by decide +kernel
theorem dX0_serve_161 : decode cX0_serve 161 = .ok (.iastore, 1) := by decide +kernel
theorem dX0_serve_162 : decode cX0_serve 162 = .ok (.return_, 1) := by decide +kernel
theorem dX0_grantOf_0 : decode cX0_grantOf 0 = .ok (.iload_n 1, 1) := by decide +kernel
theorem dX0_grantOf_1 : decode cX0_grantOf 1 = .ok (.bipush 20, 2) := by decide +kernel
theorem dX0_grantOf_3 : decode cX0_grantOf 3 = .ok (.invokestatic 112, 3) := by decide +kernel
theorem dX0_grantOf_6 : decode cX0_grantOf 6 = .ok (.ifCond .eq 12, 3) := by decide +kernel
theorem dX0_grantOf_9 : decode cX0_grantOf 9 = .ok (.aload_n 0, 1) := by decide +kernel
theorem dX0_grantOf_10 : decode cX0_grantOf 10 = .ok (.getfield 21, 3) := by decide +kernel
theorem dX0_grantOf_13 : decode cX0_grantOf 13 = .ok (.iload_n 1, 1) := by decide +kernel
theorem dX0_grantOf_14 : decode cX0_grantOf 14 = .ok (.iaload, 1) := by decide +kernel
theorem dX0_grantOf_15 : decode cX0_grantOf 15 = .ok (.goto 4, 3) := by decide +kernel
theorem dX0_grantOf_18 : decode cX0_grantOf 18 = .ok (.iconst 0, 1) := by decide +kernel
theorem dX0_grantOf_19 : decode cX0_grantOf 19 = .ok (.ireturn, 1) := by decide +kernel
theorem dX0_firstRungOf_0 : decode cX0_firstRungOf 0 = .ok (.iload_n 1, 1) := by decide +kernel
theorem dX0_firstRungOf_1 : decode cX0_firstRungOf 1 = .ok (.bipush 20, 2) := by decide +kernel
theorem dX0_firstRungOf_3 : decode cX0_firstRungOf 3 = .ok (.invokestatic 112, 3) := by decide +kernel
theorem dX0_firstRungOf_6 : decode cX0_firstRungOf 6 = .ok (.ifCond .eq 12, 3) := by decide +kernel
theorem dX0_firstRungOf_9 : decode cX0_firstRungOf 9 = .ok (.aload_n 0, 1) := by decide +kernel
theorem dX0_firstRungOf_10 : decode cX0_firstRungOf 10 = .ok (.getfield 24, 3) := by decide +kernel
theorem dX0_firstRungOf_13 : decode cX0_firstRungOf 13 = .ok (.iload_n 1, 1) := by decide +kernel
theorem dX0_firstRungOf_14 : decode cX0_firstRungOf 14 = .ok (.iaload, 1) := by decide +kernel
theorem dX0_firstRungOf_15 : decode cX0_firstRungOf 15 = .ok (.goto 4, 3) := by decide +kernel
theorem dX0_firstRungOf_18 : decode cX0_firstRungOf 18 = .ok (.iconst (-1), 1) := by decide +kernel
theorem dX0_firstRungOf_19 : decode cX0_firstRungOf 19 = .ok (.ireturn, 1) := by decide +kernel
theorem dX0_unitsInRung_0 : decode cX0_unitsInRung 0 = .ok (.iload_n 1, 1) := by decide +kernel
theorem dX0_unitsInRung_1 : decode cX0_unitsInRung 1 = .ok (.bipush 6, 2) := by decide +kernel
theorem dX0_unitsInRung_3 : decode cX0_unitsInRung 3 = .ok (.invokestatic 112, 3) := by decide +kernel
theorem dX0_unitsInRung_6 : decode cX0_unitsInRung 6 = .ok (.ifCond .eq 12, 3) := by decide +kernel
theorem dX0_unitsInRung_9 : decode cX0_unitsInRung 9 = .ok (.aload_n 0, 1) := by decide +kernel
theorem dX0_unitsInRung_10 : decode cX0_unitsInRung 10 = .ok (.getfield 27, 3) := by decide +kernel
theorem dX0_unitsInRung_13 : decode cX0_unitsInRung 13 = .ok (.iload_n 1, 1) := by decide +kernel
theorem dX0_unitsInRung_14 : decode cX0_unitsInRung 14 = .ok (.iaload, 1) := by decide +kernel
theorem dX0_unitsInRung_15 : decode cX0_unitsInRung 15 = .ok (.goto 4, 3) := by decide +kernel
theorem dX0_unitsInRung_18 : decode cX0_unitsInRung 18 = .ok (.iconst 0, 1) := by decide +kernel
theorem dX0_unitsInRung_19 : decode cX0_unitsInRung 19 = .ok (.ireturn, 1) := by decide +kernel
theorem dX0_coveredSet_0 : decode cX0_coveredSet 0 = .ok (.aload_n 0, 1) := by decide +kernel
theorem dX0_coveredSet_1 : decode cX0_coveredSet 1 = .ok (.aload_n 2, 1) := by decide +kernel
theorem dX0_coveredSet_2 : decode cX0_coveredSet 2 = .ok (.invokevirtual 30, 3) := by decide +kernel
theorem dX0_coveredSet_5 : decode cX0_coveredSet 5 = .ok (.iconst 0, 1) := by decide +kernel
theorem dX0_coveredSet_6 : decode cX0_coveredSet 6 = .ok (.istore_n 3, 1) := by decide +kernel
theorem dX0_coveredSet_7 : decode cX0_coveredSet 7 = .ok (.iconst 0, 1) := by decide +kernel
theorem dX0_coveredSet_8 : decode cX0_coveredSet 8 = .ok (.istore 4, 2) := by decide +kernel
theorem dX0_coveredSet_10 : decode cX0_coveredSet 10 = .ok (.iload 4, 2) := by decide +kernel
theorem dX0_coveredSet_12 : decode cX0_coveredSet 12 = .ok (.aload_n 2, 1) := by decide +kernel
theorem dX0_coveredSet_13 : decode cX0_coveredSet 13 = .ok (.getfield 48, 3) := by decide +kernel
theorem dX0_coveredSet_16 : decode cX0_coveredSet 16 = .ok (.getfield 54, 3) := by decide +kernel
theorem dX0_coveredSet_19 : decode cX0_coveredSet 19 = .ok (.if_icmp .ge 86, 3) := by decide +kernel
theorem dX0_coveredSet_22 : decode cX0_coveredSet 22 = .ok (.iload 4, 2) := by decide +kernel
theorem dX0_coveredSet_24 : decode cX0_coveredSet 24 = .ok (.bipush 20, 2) := by decide +kernel
theorem dX0_coveredSet_26 : decode cX0_coveredSet 26 = .ok (.if_icmp .ge 79, 3) := by decide +kernel
theorem dX0_coveredSet_29 : decode cX0_coveredSet 29 = .ok (.aload_n 0, 1) := by decide +kernel
theorem dX0_coveredSet_30 : decode cX0_coveredSet 30 = .ok (.getfield 18, 3) := by decide +kernel
theorem dX0_coveredSet_33 : decode cX0_coveredSet 33 = .ok (.iload 4, 2) := by decide +kernel
theorem dX0_coveredSet_35 : decode cX0_coveredSet 35 = .ok (.iaload, 1) := by decide +kernel
theorem dX0_coveredSet_36 : decode cX0_coveredSet 36 = .ok (.istore 5, 2) := by decide +kernel
theorem dX0_coveredSet_38 : decode cX0_coveredSet 38 = .ok (.aload_n 2, 1) := by decide +kernel
theorem dX0_coveredSet_39 : decode cX0_coveredSet 39 = .ok (.getfield 48, 3) := by decide +kernel
theorem dX0_coveredSet_42 : decode cX0_coveredSet 42 = .ok (.iload 5, 2) := by decide +kernel
theorem dX0_coveredSet_44 : decode cX0_coveredSet 44 = .ok (.invokevirtual 89, 3) := by decide +kernel
theorem dX0_coveredSet_47 : decode cX0_coveredSet 47 = .ok (.istore 6, 2) := by decide +kernel
theorem dX0_coveredSet_49 : decode cX0_coveredSet 49 = .ok (.aload_n 2, 1) := by decide +kernel
theorem dX0_coveredSet_50 : decode cX0_coveredSet 50 = .ok (.getfield 48, 3) := by decide +kernel
theorem dX0_coveredSet_53 : decode cX0_coveredSet 53 = .ok (.iload 5, 2) := by decide +kernel
theorem dX0_coveredSet_55 : decode cX0_coveredSet 55 = .ok (.invokevirtual 92, 3) := by decide +kernel
theorem dX0_coveredSet_58 : decode cX0_coveredSet 58 = .ok (.istore 7, 2) := by decide +kernel
theorem dX0_coveredSet_60 : decode cX0_coveredSet 60 = .ok (.iload 7, 2) := by decide +kernel
theorem dX0_coveredSet_62 : decode cX0_coveredSet 62 = .ok (.ifCond .le 37, 3) := by decide +kernel
theorem dX0_coveredSet_65 : decode cX0_coveredSet 65 = .ok (.iload 7, 2) := by decide +kernel
theorem dX0_coveredSet_67 : decode cX0_coveredSet 67 = .ok (.aload_n 1, 1) := by decide +kernel
theorem dX0_coveredSet_68 : decode cX0_coveredSet 68 = .ok (.iload 6, 2) := by decide +kernel
theorem dX0_coveredSet_70 : decode cX0_coveredSet 70 = .ok (.aload_n 0, 1) := by decide +kernel
theorem dX0_coveredSet_71 : decode cX0_coveredSet 71 = .ok (.getfield 9, 3) := by decide +kernel
theorem dX0_coveredSet_74 : decode cX0_coveredSet 74 = .ok (.invokevirtual 98, 3) := by decide +kernel
theorem dX0_coveredSet_77 : decode cX0_coveredSet 77 = .ok (.if_icmp .gt 22, 3) := by decide +kernel
theorem dX0_coveredSet_80 : decode cX0_coveredSet 80 = .ok (.aload_n 1, 1) := by decide +kernel
theorem dX0_coveredSet_81 : decode cX0_coveredSet 81 = .ok (.iload 6, 2) := by decide +kernel
theorem dX0_coveredSet_83 : decode cX0_coveredSet 83 = .ok (.iload 7, 2) := by decide +kernel
theorem dX0_coveredSet_85 : decode cX0_coveredSet 85 = .ok (.aload_n 0, 1) := by decide +kernel
theorem dX0_coveredSet_86 : decode cX0_coveredSet 86 = .ok (.getfield 9, 3) := by decide +kernel
theorem dX0_coveredSet_89 : decode cX0_coveredSet 89 = .ok (.invokevirtual 115, 3) := by decide +kernel
theorem dX0_coveredSet_92 : decode cX0_coveredSet 92 = .ok (.iload_n 3, 1) := by decide +kernel
theorem dX0_coveredSet_93 : decode cX0_coveredSet 93 = .ok (.iconst 1, 1) := by decide +kernel
theorem dX0_coveredSet_94 : decode cX0_coveredSet 94 = .ok (.iload 5, 2) := by decide +kernel
theorem dX0_coveredSet_96 : decode cX0_coveredSet 96 = .ok (.ishl, 1) := by decide +kernel
theorem dX0_coveredSet_97 : decode cX0_coveredSet 97 = .ok (.ior, 1) := by decide +kernel
theorem dX0_coveredSet_98 : decode cX0_coveredSet 98 = .ok (.istore_n 3, 1) := by decide +kernel
theorem dX0_coveredSet_99 : decode cX0_coveredSet 99 = .ok (.iinc 4 1, 3) := by decide +kernel
theorem dX0_coveredSet_102 : decode cX0_coveredSet 102 = .ok (.goto (-92), 3) := by decide +kernel
theorem dX0_coveredSet_105 : decode cX0_coveredSet 105 = .ok (.iload_n 3, 1) := by decide +kernel
theorem dX0_coveredSet_106 : decode cX0_coveredSet 106 = .ok (.ireturn, 1) := by decide +kernel
theorem dX1_clear_0 : decode cX1_clear 0 = .ok (.aload_n 0, 1) := by decide +kernel
theorem dX1_clear_1 : decode cX1_clear 1 = .ok (.iconst 0, 1) := by decide +kernel
theorem dX1_clear_2 : decode cX1_clear 2 = .ok (.putfield 48, 3) := by decide +kernel
theorem dX1_clear_5 : decode cX1_clear 5 = .ok (.aload_n 0, 1) := by decide +kernel
theorem dX1_clear_6 : decode cX1_clear 6 = .ok (.iconst 0, 1) := by decide +kernel
theorem dX1_clear_7 : decode cX1_clear 7 = .ok (.putfield 52, 3) := by decide +kernel
theorem dX1_clear_10 : decode cX1_clear 10 = .ok (.aload_n 0, 1) := by decide +kernel
theorem dX1_clear_11 : decode cX1_clear 11 = .ok (.iconst 0, 1) := by decide +kernel
theorem dX1_clear_12 : decode cX1_clear 12 = .ok (.putfield 55, 3) := by decide +kernel
theorem dX1_clear_15 : decode cX1_clear 15 = .ok (.return_, 1) := by decide +kernel
theorem dX1_addPart_0 : decode cX1_addPart 0 = .ok (.aload_n 0, 1) := by decide +kernel
theorem dX1_addPart_1 : decode cX1_addPart 1 = .ok (.getfield 48, 3) := by decide +kernel
theorem dX1_addPart_4 : decode cX1_addPart 4 = .ok (.bipush 12, 2) := by decide +kernel
theorem dX1_addPart_6 : decode cX1_addPart 6 = .ok (.if_icmp .ge 33, 3) := by decide +kernel
theorem dX1_addPart_9 : decode cX1_addPart 9 = .ok (.aload_n 0, 1) := by decide +kernel
theorem dX1_addPart_10 : decode cX1_addPart 10 = .ok (.getfield 9, 3) := by decide +kernel
theorem dX1_addPart_13 : decode cX1_addPart 13 = .ok (.aload_n 0, 1) := by decide +kernel
theorem dX1_addPart_14 : decode cX1_addPart 14 = .ok (.getfield 48, 3) := by decide +kernel
theorem dX1_addPart_17 : decode cX1_addPart 17 = .ok (.lload_n 1, 1) := by decide +kernel
theorem dX1_addPart_18 : decode cX1_addPart 18 = .ok (.lastore, 1) := by decide +kernel
theorem dX1_addPart_19 : decode cX1_addPart 19 = .ok (.aload_n 0, 1) := by decide +kernel
theorem dX1_addPart_20 : decode cX1_addPart 20 = .ok (.getfield 15, 3) := by decide +kernel
theorem dX1_addPart_23 : decode cX1_addPart 23 = .ok (.aload_n 0, 1) := by decide +kernel
theorem dX1_addPart_24 : decode cX1_addPart 24 = .ok (.getfield 48, 3) := by decide +kernel
theorem dX1_addPart_27 : decode cX1_addPart 27 = .ok (.iload_n 3, 1) := by decide +kernel
theorem dX1_addPart_28 : decode cX1_addPart 28 = .ok (.iastore, 1) := by decide +kernel
theorem dX1_addPart_29 : decode cX1_addPart 29 = .ok (.aload_n 0, 1) := by decide +kernel
theorem dX1_addPart_30 : decode cX1_addPart 30 = .ok (.dup, 1) := by decide +kernel
theorem dX1_addPart_31 : decode cX1_addPart 31 = .ok (.getfield 48, 3) := by decide +kernel
theorem dX1_addPart_34 : decode cX1_addPart 34 = .ok (.iconst 1, 1) := by decide +kernel
theorem dX1_addPart_35 : decode cX1_addPart 35 = .ok (.iadd, 1) := by decide +kernel
theorem dX1_addPart_36 : decode cX1_addPart 36 = .ok (.putfield 48, 3) := by decide +kernel
theorem dX1_addPart_39 : decode cX1_addPart 39 = .ok (.return_, 1) := by decide +kernel
theorem dX1_addRung_0 : decode cX1_addRung 0 = .ok (.aload_n 0, 1) := by decide +kernel
theorem dX1_addRung_1 : decode cX1_addRung 1 = .ok (.getfield 55, 3) := by decide +kernel
theorem dX1_addRung_4 : decode cX1_addRung 4 = .ok (.bipush 6, 2) := by decide +kernel
theorem dX1_addRung_6 : decode cX1_addRung 6 = .ok (.if_icmp .ge 43, 3) := by decide +kernel
theorem dX1_addRung_9 : decode cX1_addRung 9 = .ok (.aload_n 0, 1) := by decide +kernel
theorem dX1_addRung_10 : decode cX1_addRung 10 = .ok (.getfield 39, 3) := by decide +kernel
theorem dX1_addRung_13 : decode cX1_addRung 13 = .ok (.aload_n 0, 1) := by decide +kernel
theorem dX1_addRung_14 : decode cX1_addRung 14 = .ok (.getfield 55, 3) := by decide +kernel
theorem dX1_addRung_17 : decode cX1_addRung 17 = .ok (.iload_n 1, 1) := by decide +kernel
theorem dX1_addRung_18 : decode cX1_addRung 18 = .ok (.iastore, 1) := by decide +kernel
theorem dX1_addRung_19 : decode cX1_addRung 19 = .ok (.aload_n 0, 1) := by decide +kernel
theorem dX1_addRung_20 : decode cX1_addRung 20 = .ok (.getfield 42, 3) := by decide +kernel
theorem dX1_addRung_23 : decode cX1_addRung 23 = .ok (.aload_n 0, 1) := by decide +kernel
theorem dX1_addRung_24 : decode cX1_addRung 24 = .ok (.getfield 55, 3) := by decide +kernel
theorem dX1_addRung_27 : decode cX1_addRung 27 = .ok (.iload_n 2, 1) := by decide +kernel
theorem dX1_addRung_28 : decode cX1_addRung 28 = .ok (.iastore, 1) := by decide +kernel
theorem dX1_addRung_29 : decode cX1_addRung 29 = .ok (.aload_n 0, 1) := by decide +kernel
theorem dX1_addRung_30 : decode cX1_addRung 30 = .ok (.getfield 45, 3) := by decide +kernel
theorem dX1_addRung_33 : decode cX1_addRung 33 = .ok (.aload_n 0, 1) := by decide +kernel
theorem dX1_addRung_34 : decode cX1_addRung 34 = .ok (.getfield 55, 3) := by decide +kernel
theorem dX1_addRung_37 : decode cX1_addRung 37 = .ok (.iload_n 3, 1) := by decide +kernel
theorem dX1_addRung_38 : decode cX1_addRung 38 = .ok (.iastore, 1) := by decide +kernel
theorem dX1_addRung_39 : decode cX1_addRung 39 = .ok (.aload_n 0, 1) := by decide +kernel
theorem dX1_addRung_40 : decode cX1_addRung 40 = .ok (.dup, 1) := by decide +kernel
theorem dX1_addRung_41 : decode cX1_addRung 41 = .ok (.getfield 55, 3) := by decide +kernel
theorem dX1_addRung_44 : decode cX1_addRung 44 = .ok (.iconst 1, 1) := by decide +kernel
theorem dX1_addRung_45 : decode cX1_addRung 45 = .ok (.iadd, 1) := by decide +kernel
theorem dX1_addRung_46 : decode cX1_addRung 46 = .ok (.putfield 55, 3) := by decide +kernel
theorem dX1_addRung_49 : decode cX1_addRung 49 = .ok (.return_, 1) := by decide +kernel
theorem dX1_beginProduct_0 : decode cX1_beginProduct 0 = .ok (.aload_n 0, 1) := by decide +kernel
theorem dX1_beginProduct_1 : decode cX1_beginProduct 1 = .ok (.getfield 52, 3) := by decide +kernel
theorem dX1_beginProduct_4 : decode cX1_beginProduct 4 = .ok (.bipush 8, 2) := by decide +kernel
theorem dX1_beginProduct_6 : decode cX1_beginProduct 6 = .ok (.if_icmp .ge 46, 3) := by decide +kernel
theorem dX1_beginProduct_9 : decode cX1_beginProduct 9 = .ok (.aload_n 0, 1) := by decide +kernel
theorem dX1_beginProduct_10 : decode cX1_beginProduct 10 = .ok (.getfield 19, 3) := by decide +kernel
theorem dX1_beginProduct_13 : decode cX1_beginProduct 13 = .ok (.aload_n 0, 1) := by decide +kernel
theorem dX1_beginProduct_14 : decode cX1_beginProduct 14 = .ok (.getfield 52, 3) := by decide +kernel
theorem dX1_beginProduct_17 : decode cX1_beginProduct 17 = .ok (.lload_n 1, 1) := by decide +kernel
theorem dX1_beginProduct_18 : decode cX1_beginProduct 18 = .ok (.lastore, 1) := by decide +kernel
theorem dX1_beginProduct_19 : decode cX1_beginProduct 19 = .ok (.aload_n 0, 1) := by decide +kernel
theorem dX1_beginProduct_20 : decode cX1_beginProduct 20 = .ok (.getfield 22, 3) := by decide +kernel
theorem dX1_beginProduct_23 : decode cX1_beginProduct 23 = .ok (.aload_n 0, 1) := by decide +kernel
theorem dX1_beginProduct_24 : decode cX1_beginProduct 24 = .ok (.getfield 52, 3) := by decide +kernel
theorem dX1_beginProduct_27 : decode cX1_beginProduct 27 = .ok (.iconst 1, 1) := by decide +kernel
theorem dX1_beginProduct_28 : decode cX1_beginProduct 28 = .ok (.iastore, 1) := by decide +kernel
theorem dX1_beginProduct_29 : decode cX1_beginProduct 29 = .ok (.aload_n 0, 1) := by decide +kernel
theorem dX1_beginProduct_30 : decode cX1_beginProduct 30 = .ok (.getfield 25, 3) := by decide +kernel
theorem dX1_beginProduct_33 : decode cX1_beginProduct 33 = .ok (.aload_n 0, 1) := by decide +kernel
theorem dX1_beginProduct_34 : decode cX1_beginProduct 34 = .ok (.getfield 52, 3) := by decide +kernel
theorem dX1_beginProduct_37 : decode cX1_beginProduct 37 = .ok (.iconst 0, 1) := by decide +kernel
theorem dX1_beginProduct_38 : decode cX1_beginProduct 38 = .ok (.iastore, 1) := by decide +kernel
theorem dX1_beginProduct_39 : decode cX1_beginProduct 39 = .ok (.aload_n 0, 1) := by decide +kernel
theorem dX1_beginProduct_40 : decode cX1_beginProduct 40 = .ok (.getfield 36, 3) := by decide +kernel
theorem dX1_beginProduct_43 : decode cX1_beginProduct 43 = .ok (.aload_n 0, 1) := by decide +kernel
theorem dX1_beginProduct_44 : decode cX1_beginProduct 44 = .ok (.getfield 52, 3) := by decide +kernel
theorem dX1_beginProduct_47 : decode cX1_beginProduct 47 = .ok (.aaload, 1) := by decide +kernel
theorem dX1_beginProduct_48 : decode cX1_beginProduct 48 = .ok (.iconst 0, 1) := by decide +kernel
theorem dX1_beginProduct_49 : decode cX1_beginProduct 49 = .ok (.invokestatic 58, 3) := by decide +kernel
theorem dX1_beginProduct_52 : decode cX1_beginProduct 52 = .ok (.return_, 1) := by decide +kernel
theorem dX1_linesOfBegun_0 : decode cX1_linesOfBegun 0 = .ok (.aload_n 0, 1) := by decide +kernel
theorem dX1_linesOfBegun_1 : decode cX1_linesOfBegun 1 = .ok (.getfield 52, 3) := by decide +kernel
theorem dX1_linesOfBegun_4 : decode cX1_linesOfBegun 4 = .ok (.bipush 8, 2) := by decide +kernel
theorem dX1_linesOfBegun_6 : decode cX1_linesOfBegun 6 = .ok (.if_icmp .ge 15, 3) := by decide +kernel
theorem dX1_linesOfBegun_9 : decode cX1_linesOfBegun 9 = .ok (.aload_n 0, 1) := by decide +kernel
theorem dX1_linesOfBegun_10 : decode cX1_linesOfBegun 10 = .ok (.getfield 25, 3) := by decide +kernel
theorem dX1_linesOfBegun_13 : decode cX1_linesOfBegun 13 = .ok (.aload_n 0, 1) := by decide +kernel
theorem dX1_linesOfBegun_14 : decode cX1_linesOfBegun 14 = .ok (.getfield 52, 3) := by decide +kernel
theorem dX1_linesOfBegun_17 : decode cX1_linesOfBegun 17 = .ok (.iaload, 1) := by decide +kernel
theorem dX1_linesOfBegun_18 : decode cX1_linesOfBegun 18 = .ok (.goto 5, 3) := by decide +kernel
theorem dX1_linesOfBegun_21 : decode cX1_linesOfBegun 21 = .ok (.bipush 6, 2) := by decide +kernel
theorem dX1_linesOfBegun_23 : decode cX1_linesOfBegun 23 = .ok (.ireturn, 1) := by decide +kernel
theorem dX1_begunHas_0 : decode cX1_begunHas 0 = .ok (.iconst 0, 1) := by decide +kernel
theorem dX1_begunHas_1 : decode cX1_begunHas 1 = .ok (.istore_n 2, 1) := by decide +kernel
theorem dX1_begunHas_2 : decode cX1_begunHas 2 = .ok (.iload_n 2, 1) := by decide +kernel
theorem dX1_begunHas_3 : decode cX1_begunHas 3 = .ok (.aload_n 0, 1) := by decide +kernel
theorem dX1_begunHas_4 : decode cX1_begunHas 4 = .ok (.invokevirtual 64, 3) := by decide +kernel
theorem dX1_begunHas_7 : decode cX1_begunHas 7 = .ok (.if_icmp .ge 35, 3) := by decide +kernel
theorem dX1_begunHas_10 : decode cX1_begunHas 10 = .ok (.aload_n 0, 1) := by decide +kernel
theorem dX1_begunHas_11 : decode cX1_begunHas 11 = .ok (.getfield 52, 3) := by decide +kernel
theorem dX1_begunHas_14 : decode cX1_begunHas 14 = .ok (.bipush 8, 2) := by decide +kernel
theorem dX1_begunHas_16 : decode cX1_begunHas 16 = .ok (.if_icmp .ge 20, 3) := by decide +kernel
theorem dX1_begunHas_19 : decode cX1_begunHas 19 = .ok (.aload_n 0, 1) := by decide +kernel
theorem dX1_begunHas_20 : decode cX1_begunHas 20 = .ok (.getfield 30, 3) := by decide +kernel
theorem dX1_begunHas_23 : decode cX1_begunHas 23 = .ok (.aload_n 0, 1) := by decide +kernel
theorem dX1_begunHas_24 : decode cX1_begunHas 24 = .ok (.getfield 52, 3) := by decide +kernel
theorem dX1_begunHas_27 : decode cX1_begunHas 27 = .ok (.aaload, 1) := by decide +kernel
theorem dX1_begunHas_28 : decode cX1_begunHas 28 = .ok (.iload_n 2, 1) := by decide +kernel
theorem dX1_begunHas_29 : decode cX1_begunHas 29 = .ok (.iaload, 1) := by decide +kernel
theorem dX1_begunHas_30 : decode cX1_begunHas 30 = .ok (.iload_n 1, 1) := by decide +kernel
theorem dX1_begunHas_31 : decode cX1_begunHas 31 = .ok (.if_icmp .ne 5, 3) := by decide +kernel
theorem dX1_begunHas_34 : decode cX1_begunHas 34 = .ok (.iconst 1, 1) := by decide +kernel
theorem dX1_begunHas_35 : decode cX1_begunHas 35 = .ok (.ireturn, 1) := by decide +kernel
theorem dX1_begunHas_36 : decode cX1_begunHas 36 = .ok (.iinc 2 1, 3) := by decide +kernel
theorem dX1_begunHas_39 : decode cX1_begunHas 39 = .ok (.goto (-37), 3) := by decide +kernel
theorem dX1_begunHas_42 : decode cX1_begunHas 42 = .ok (.iconst 0, 1) := by decide +kernel
theorem dX1_begunHas_43 : decode cX1_begunHas 43 = .ok (.ireturn, 1) := by decide +kernel
theorem dX1_begunCanHold_0 : decode cX1_begunCanHold 0 = .ok (.iconst 0, 1) := by decide +kernel
theorem dX1_begunCanHold_1 : decode cX1_begunCanHold 1 = .ok (.istore_n 3, 1) := by decide +kernel
theorem dX1_begunCanHold_2 : decode cX1_begunCanHold 2 = .ok (.iload_n 3, 1) := by decide +kernel
theorem dX1_begunCanHold_3 : decode cX1_begunCanHold 3 = .ok (.aload_n 0, 1) := by decide +kernel
theorem dX1_begunCanHold_4 : decode cX1_begunCanHold 4 = .ok (.getfield 48, 3) := by decide +kernel
theorem dX1_begunCanHold_7 : decode cX1_begunCanHold 7 = .ok (.if_icmp .ge 24, 3) := by decide +kernel
theorem dX1_begunCanHold_10 : decode cX1_begunCanHold 10 = .ok (.aload_n 0, 1) := by decide +kernel
theorem dX1_begunCanHold_11 : decode cX1_begunCanHold 11 = .ok (.iload_n 1, 1) := by decide +kernel
theorem dX1_begunCanHold_12 : decode cX1_begunCanHold 12 = .ok (.iload_n 2, 1) := by decide +kernel
theorem dX1_begunCanHold_13 : decode cX1_begunCanHold 13 = .ok (.iload_n 3, 1) := by decide +kernel
theorem dX1_begunCanHold_14 : decode cX1_begunCanHold 14 = .ok (.invokevirtual 68, 3) := by decide +kernel
theorem dX1_begunCanHold_17 : decode cX1_begunCanHold 17 = .ok (.sipush 9999, 3) := by decide +kernel
theorem dX1_begunCanHold_20 : decode cX1_begunCanHold 20 = .ok (.if_icmp .le 5, 3) := by decide +kernel
theorem dX1_begunCanHold_23 : decode cX1_begunCanHold 23 = .ok (.iconst 0, 1) := by decide +kernel
theorem dX1_begunCanHold_24 : decode cX1_begunCanHold 24 = .ok (.ireturn, 1) := by decide +kernel
theorem dX1_begunCanHold_25 : decode cX1_begunCanHold 25 = .ok (.iinc 3 1, 3) := by decide +kernel
theorem dX1_begunCanHold_28 : decode cX1_begunCanHold 28 = .ok (.goto (-26), 3) := by decide +kernel
theorem dX1_begunCanHold_31 : decode cX1_begunCanHold 31 = .ok (.iconst 1, 1) := by decide +kernel
theorem dX1_begunCanHold_32 : decode cX1_begunCanHold 32 = .ok (.ireturn, 1) := by decide +kernel
theorem dX1_addLine_0 : decode cX1_addLine 0 = .ok (.aload_n 0, 1) := by decide +kernel
theorem dX1_addLine_1 : decode cX1_addLine 1 = .ok (.invokevirtual 64, 3) := by decide +kernel
theorem dX1_addLine_4 : decode cX1_addLine 4 = .ok (.istore_n 3, 1) := by decide +kernel
theorem dX1_addLine_5 : decode cX1_addLine 5 = .ok (.aload_n 0, 1) := by decide +kernel
theorem dX1_addLine_6 : decode cX1_addLine 6 = .ok (.getfield 52, 3) := by decide +kernel
theorem dX1_addLine_9 : decode cX1_addLine 9 = .ok (.bipush 8, 2) := by decide +kernel
theorem dX1_addLine_11 : decode cX1_addLine 11 = .ok (.if_icmp .ge 9, 3) := by decide +kernel
theorem dX1_addLine_14 : decode cX1_addLine 14 = .ok (.iload_n 3, 1) := by decide +kernel
theorem dX1_addLine_15 : decode cX1_addLine 15 = .ok (.bipush 6, 2) := by decide +kernel
theorem dX1_addLine_17 : decode cX1_addLine 17 = .ok (.if_icmp .lt 4, 3) := by decide +kernel
theorem dX1_addLine_20 : decode cX1_addLine 20 = .ok (.return_, 1) := by decide +kernel
theorem dX1_addLine_21 : decode cX1_addLine 21 = .ok (.iconst 0, 1) := by decide +kernel
theorem dX1_addLine_22 : decode cX1_addLine 22 = .ok (.istore 4, 2) := by decide +kernel
theorem dX1_addLine_24 : decode cX1_addLine 24 = .ok (.iload 4, 2) := by decide +kernel
theorem dX1_addLine_26 : decode cX1_addLine 26 = .ok (.aload_n 0, 1) := by decide +kernel
theorem dX1_addLine_27 : decode cX1_addLine 27 = .ok (.getfield 48, 3) := by decide +kernel
theorem dX1_addLine_30 : decode cX1_addLine 30 = .ok (.if_icmp .ge 29, 3) := by decide +kernel
theorem dX1_addLine_33 : decode cX1_addLine 33 = .ok (.aload_n 0, 1) := by decide +kernel
theorem dX1_addLine_34 : decode cX1_addLine 34 = .ok (.getfield 36, 3) := by decide +kernel
theorem dX1_addLine_37 : decode cX1_addLine 37 = .ok (.aload_n 0, 1) := by decide +kernel
theorem dX1_addLine_38 : decode cX1_addLine 38 = .ok (.getfield 52, 3) := by decide +kernel
theorem dX1_addLine_41 : decode cX1_addLine 41 = .ok (.aaload, 1) := by decide +kernel
theorem dX1_addLine_42 : decode cX1_addLine 42 = .ok (.iload 4, 2) := by decide +kernel
theorem dX1_addLine_44 : decode cX1_addLine 44 = .ok (.aload_n 0, 1) := by decide +kernel
theorem dX1_addLine_45 : decode cX1_addLine 45 = .ok (.iload_n 1, 1) := by decide +kernel
theorem dX1_addLine_46 : decode cX1_addLine 46 = .ok (.iload_n 2, 1) := by decide +kernel
theorem dX1_addLine_47 : decode cX1_addLine 47 = .ok (.iload 4, 2) := by decide +kernel
theorem dX1_addLine_49 : decode cX1_addLine 49 = .ok (.invokevirtual 68, 3) := by decide +kernel
theorem dX1_addLine_52 : decode cX1_addLine 52 = .ok (.iastore, 1) := by decide +kernel
theorem dX1_addLine_53 : decode cX1_addLine 53 = .ok (.iinc 4 1, 3) := by decide +kernel
theorem dX1_addLine_56 : decode cX1_addLine 56 = .ok (.goto (-32), 3) := by decide +kernel
theorem dX1_addLine_59 : decode cX1_addLine 59 = .ok (.aload_n 0, 1) := by decide +kernel
theorem dX1_addLine_60 : decode cX1_addLine 60 = .ok (.getfield 22, 3) := by decide +kernel
theorem dX1_addLine_63 : decode cX1_addLine 63 = .ok (.aload_n 0, 1) := by decide +kernel
theorem dX1_addLine_64 : decode cX1_addLine 64 = .ok (.getfield 52, 3) := by decide +kernel
theorem dX1_addLine_67 : decode cX1_addLine 67 = .ok (.aload_n 0, 1) := by decide +kernel
theorem dX1_addLine_68 : decode cX1_addLine 68 = .ok (.getfield 22, 3) := by decide +kernel
theorem dX1_addLine_71 : decode cX1_addLine 71 = .ok (.aload_n 0, 1) := by decide +kernel
theorem dX1_addLine_72 : decode cX1_addLine 72 = .ok (.getfield 52, 3) := by decide +kernel
theorem dX1_addLine_75 : decode cX1_addLine 75 = .ok (.iaload, 1) := by decide +kernel
theorem dX1_addLine_76 : decode cX1_addLine 76 = .ok (.iconst 1, 1) := by decide +kernel
theorem dX1_addLine_77 : decode cX1_addLine 77 = .ok (.aload_n 0, 1) := by decide +kernel
theorem dX1_addLine_78 : decode cX1_addLine 78 = .ok (.iload_n 1, 1) := by decide +kernel
theorem dX1_addLine_79 : decode cX1_addLine 79 = .ok (.bipush 100, 2) := by decide +kernel
theorem dX1_addLine_81 : decode cX1_addLine 81 = .ok (.isub, 1) := by decide +kernel
theorem dX1_addLine_82 : decode cX1_addLine 82 = .ok (.invokevirtual 72, 3) := by decide +kernel
theorem dX1_addLine_85 : decode cX1_addLine 85 = .ok (.iadd, 1) := by decide +kernel
theorem dX1_addLine_86 : decode cX1_addLine 86 = .ok (.invokestatic 76, 3) := by decide +kernel
theorem dX1_addLine_89 : decode cX1_addLine 89 = .ok (.iastore, 1) := by decide +kernel
theorem dX1_addLine_90 : decode cX1_addLine 90 = .ok (.aload_n 0, 1) := by decide +kernel
theorem dX1_addLine_91 : decode cX1_addLine 91 = .ok (.getfield 30, 3) := by decide +kernel
theorem dX1_addLine_94 : decode cX1_addLine 94 = .ok (.aload_n 0, 1) := by decide +kernel
theorem dX1_addLine_95 : decode cX1_addLine 95 = .ok (.getfield 52, 3) := by decide +kernel
theorem dX1_addLine_98 : decode cX1_addLine 98 = .ok (.aaload, 1) := by decide +kernel
theorem dX1_addLine_99 : decode cX1_addLine 99 = .ok (.iload_n 3, 1) := by decide +kernel
theorem dX1_addLine_100 : decode cX1_addLine 100 = .ok (.iload_n 1, 1) := by decide +kernel
theorem dX1_addLine_101 : decode cX1_addLine 101 = .ok (.iastore, 1) := by decide +kernel
theorem dX1_addLine_102 : decode cX1_addLine 102 = .ok (.aload_n 0, 1) := by decide +kernel
theorem dX1_addLine_103 : decode cX1_addLine 103 = .ok (.getfield 33, 3) := by decide +kernel
theorem dX1_addLine_106 : decode cX1_addLine 106 = .ok (.aload_n 0, 1) := by decide +kernel
theorem dX1_addLine_107 : decode cX1_addLine 107 = .ok (.getfield 52, 3) := by decide +kernel
theorem dX1_addLine_110 : decode cX1_addLine 110 = .ok (.aaload, 1) := by decide +kernel
theorem dX1_addLine_111 : decode cX1_addLine 111 = .ok (.iload_n 3, 1) := by decide +kernel
theorem dX1_addLine_112 : decode cX1_addLine 112 = .ok (.iload_n 2, 1) := by decide +kernel
theorem dX1_addLine_113 : decode cX1_addLine 113 = .ok (.iastore, 1) := by decide +kernel
theorem dX1_addLine_114 : decode cX1_addLine 114 = .ok (.aload_n 0, 1) := by decide +kernel
theorem dX1_addLine_115 : decode cX1_addLine 115 = .ok (.getfield 25, 3) := by decide +kernel
theorem dX1_addLine_118 : decode cX1_addLine 118 = .ok (.aload_n 0, 1) := by decide +kernel
theorem dX1_addLine_119 : decode cX1_addLine 119 = .ok (.getfield 52, 3) := by decide +kernel
theorem dX1_addLine_122 : decode cX1_addLine 122 = .ok (.iload_n 3, 1) := by decide +kernel
theorem dX1_addLine_123 : decode cX1_addLine 123 = .ok (.iconst 1, 1) := by decide +kernel
theorem dX1_addLine_124 : decode cX1_addLine 124 = .ok (.iadd, 1) := by decide +kernel
theorem dX1_addLine_125 : decode cX1_addLine 125 = .ok (.iastore, 1) := by decide +kernel
theorem dX1_addLine_126 : decode cX1_addLine 126 = .ok (.return_, 1) := by decide +kernel
theorem dX1_needWith_0 : decode cX1_needWith 0 = .ok (.aload_n 0, 1) := by decide +kernel
theorem dX1_needWith_1 : decode cX1_needWith 1 = .ok (.getfield 52, 3) := by decide +kernel
theorem dX1_needWith_4 : decode cX1_needWith 4 = .ok (.bipush 8, 2) := by decide +kernel
theorem dX1_needWith_6 : decode cX1_needWith 6 = .ok (.if_icmp .ge 17, 3) := by decide +kernel
theorem dX1_needWith_9 : decode cX1_needWith 9 = .ok (.aload_n 0, 1) := by decide +kernel
theorem dX1_needWith_10 : decode cX1_needWith 10 = .ok (.getfield 36, 3) := by decide +kernel
theorem dX1_needWith_13 : decode cX1_needWith 13 = .ok (.aload_n 0, 1) := by decide +kernel
theorem dX1_needWith_14 : decode cX1_needWith 14 = .ok (.getfield 52, 3) := by decide +kernel
theorem dX1_needWith_17 : decode cX1_needWith 17 = .ok (.aaload, 1) := by decide +kernel
theorem dX1_needWith_18 : decode cX1_needWith 18 = .ok (.iload_n 3, 1) := by decide +kernel
theorem dX1_needWith_19 : decode cX1_needWith 19 = .ok (.iaload, 1) := by decide +kernel
theorem dX1_needWith_20 : decode cX1_needWith 20 = .ok (.goto 4, 3) := by decide +kernel
theorem dX1_needWith_23 : decode cX1_needWith 23 = .ok (.iconst 0, 1) := by decide +kernel
theorem dX1_needWith_24 : decode cX1_needWith 24 = .ok (.istore 4, 2) := by decide +kernel
theorem dX1_needWith_26 : decode cX1_needWith 26 = .ok (.iload_n 1, 1) := by decide +kernel
theorem dX1_needWith_27 : decode cX1_needWith 27 = .ok (.iload_n 3, 1) := by decide +kernel
theorem dX1_needWith_28 : decode cX1_needWith 28 = .ok (.if_icmp .ne 7, 3) := by decide +kernel
theorem dX1_needWith_31 : decode cX1_needWith 31 = .ok (.iconst 1, 1) := by decide +kernel
theorem dX1_needWith_32 : decode cX1_needWith 32 = .ok (.goto 12, 3) := by decide +kernel
theorem dX1_needWith_35 : decode cX1_needWith 35 = .ok (.aload_n 0, 1) := by decide +kernel
theorem dX1_needWith_36 : decode cX1_needWith 36 = .ok (.iload_n 1, 1) := by decide +kernel
theorem dX1_needWith_37 : decode cX1_needWith 37 = .ok (.bipush 100, 2) := by decide +kernel
theorem dX1_needWith_39 : decode cX1_needWith 39 = .ok (.isub, 1) := by decide +kernel
theorem dX1_needWith_40 : decode cX1_needWith 40 = .ok (.iload_n 3, 1) := by decide +kernel
theorem dX1_needWith_41 : decode cX1_needWith 41 = .ok (.invokevirtual 82, 3) := by decide +kernel
theorem dX1_needWith_44 : decode cX1_needWith 44 = .ok (.istore 5, 2) := by decide +kernel
theorem dX1_needWith_46 : decode cX1_needWith 46 = .ok (.iload 4, 2) := by decide +kernel
theorem dX1_needWith_48 : decode cX1_needWith 48 = .ok (.iload_n 2, 1) := by decide +kernel
theorem dX1_needWith_49 : decode cX1_needWith 49 = .ok (.iload 5, 2) := by decide +kernel
theorem dX1_needWith_51 : decode cX1_needWith 51 = .ok (.imul, 1) := by decide +kernel
theorem dX1_needWith_52 : decode cX1_needWith 52 = .ok (.iadd, 1) := by decide +kernel
theorem dX1_needWith_53 : decode cX1_needWith 53 = .ok (.ireturn, 1) := by decide +kernel
theorem dX1_endProduct_0 : decode cX1_endProduct 0 = .ok (.aload_n 0, 1) := by decide +kernel
theorem dX1_endProduct_1 : decode cX1_endProduct 1 = .ok (.getfield 52, 3) := by decide +kernel
theorem dX1_endProduct_4 : decode cX1_endProduct 4 = .ok (.bipush 8, 2) := by decide +kernel
theorem dX1_endProduct_6 : decode cX1_endProduct 6 = .ok (.if_icmp .ge 13, 3) := by decide +kernel
theorem dX1_endProduct_9 : decode cX1_endProduct 9 = .ok (.aload_n 0, 1) := by decide +kernel
theorem dX1_endProduct_10 : decode cX1_endProduct 10 = .ok (.dup, 1) := by decide +kernel
theorem dX1_endProduct_11 : decode cX1_endProduct 11 = .ok (.getfield 52, 3) := by decide +kernel
theorem dX1_endProduct_14 : decode cX1_endProduct 14 = .ok (.iconst 1, 1) := by decide +kernel
theorem dX1_endProduct_15 : decode cX1_endProduct 15 = .ok (.iadd, 1) := by decide +kernel
theorem dX1_endProduct_16 : decode cX1_endProduct 16 = .ok (.putfield 52, 3) := by decide +kernel
theorem dX1_endProduct_19 : decode cX1_endProduct 19 = .ok (.return_, 1) := by decide +kernel
theorem dX1_partNamed_0 : decode cX1_partNamed 0 = .ok (.iconst 0, 1) := by decide +kernel
theorem dX1_partNamed_1 : decode cX1_partNamed 1 = .ok (.istore_n 3, 1) := by decide +kernel
theorem dX1_partNamed_2 : decode cX1_partNamed 2 = .ok (.iload_n 3, 1) := by decide +kernel
theorem dX1_partNamed_3 : decode cX1_partNamed 3 = .ok (.aload_n 0, 1) := by decide +kernel
theorem dX1_partNamed_4 : decode cX1_partNamed 4 = .ok (.getfield 48, 3) := by decide +kernel
theorem dX1_partNamed_7 : decode cX1_partNamed 7 = .ok (.if_icmp .ge 22, 3) := by decide +kernel
theorem dX1_partNamed_10 : decode cX1_partNamed 10 = .ok (.aload_n 0, 1) := by decide +kernel
theorem dX1_partNamed_11 : decode cX1_partNamed 11 = .ok (.getfield 9, 3) := by decide +kernel
theorem dX1_partNamed_14 : decode cX1_partNamed 14 = .ok (.iload_n 3, 1) := by decide +kernel
theorem dX1_partNamed_15 : decode cX1_partNamed 15 = .ok (.laload, 1) := by decide +kernel
theorem dX1_partNamed_16 : decode cX1_partNamed 16 = .ok (.lload_n 1, 1) := by decide +kernel
theorem dX1_partNamed_17 : decode cX1_partNamed 17 = .ok (.lcmp, 1) := by decide +kernel
theorem dX1_partNamed_18 : decode cX1_partNamed 18 = .ok (.ifCond .ne 5, 3) := by decide +kernel
theorem dX1_partNamed_21 : decode cX1_partNamed 21 = .ok (.iload_n 3, 1) := by decide +kernel
theorem dX1_partNamed_22 : decode cX1_partNamed 22 = .ok (.ireturn, 1) := by decide +kernel
theorem dX1_partNamed_23 : decode cX1_partNamed 23 = .ok (.iinc 3 1, 3) := by decide +kernel
theorem dX1_partNamed_26 : decode cX1_partNamed 26 = .ok (.goto (-24), 3) := by decide +kernel
theorem dX1_partNamed_29 : decode cX1_partNamed 29 = .ok (.iconst (-1), 1) := by decide +kernel
theorem dX1_partNamed_30 : decode cX1_partNamed 30 = .ok (.ireturn, 1) := by decide +kernel
theorem dX1_productNamed_0 : decode cX1_productNamed 0 = .ok (.iconst 0, 1) := by decide +kernel
theorem dX1_productNamed_1 : decode cX1_productNamed 1 = .ok (.istore_n 3, 1) := by decide +kernel
theorem dX1_productNamed_2 : decode cX1_productNamed 2 = .ok (.iload_n 3, 1) := by decide +kernel
theorem dX1_productNamed_3 : decode cX1_productNamed 3 = .ok (.aload_n 0, 1) := by decide +kernel
theorem dX1_productNamed_4 : decode cX1_productNamed 4 = .ok (.getfield 52, 3) := by decide +kernel
theorem dX1_productNamed_7 : decode cX1_productNamed 7 = .ok (.if_icmp .ge 22, 3) := by decide +kernel
theorem dX1_productNamed_10 : decode cX1_productNamed 10 = .ok (.aload_n 0, 1) := by decide +kernel
theorem dX1_productNamed_11 : decode cX1_productNamed 11 = .ok (.getfield 19, 3) := by decide +kernel
theorem dX1_productNamed_14 : decode cX1_productNamed 14 = .ok (.iload_n 3, 1) := by decide +kernel
theorem dX1_productNamed_15 : decode cX1_productNamed 15 = .ok (.laload, 1) := by decide +kernel
theorem dX1_productNamed_16 : decode cX1_productNamed 16 = .ok (.lload_n 1, 1) := by decide +kernel
theorem dX1_productNamed_17 : decode cX1_productNamed 17 = .ok (.lcmp, 1) := by decide +kernel
theorem dX1_productNamed_18 : decode cX1_productNamed 18 = .ok (.ifCond .ne 5, 3) := by decide +kernel
theorem dX1_productNamed_21 : decode cX1_productNamed 21 = .ok (.iload_n 3, 1) := by decide +kernel
theorem dX1_productNamed_22 : decode cX1_productNamed 22 = .ok (.ireturn, 1) := by decide +kernel
theorem dX1_productNamed_23 : decode cX1_productNamed 23 = .ok (.iinc 3 1, 3) := by decide +kernel
theorem dX1_productNamed_26 : decode cX1_productNamed 26 = .ok (.goto (-24), 3) := by decide +kernel
theorem dX1_productNamed_29 : decode cX1_productNamed 29 = .ok (.iconst (-1), 1) := by decide +kernel
theorem dX1_productNamed_30 : decode cX1_productNamed 30 = .ok (.ireturn, 1) := by decide +kernel
theorem dX1_itemNamed_0 : decode cX1_itemNamed 0 = .ok (.aload_n 0, 1) := by decide +kernel
theorem dX1_itemNamed_1 : decode cX1_itemNamed 1 = .ok (.lload_n 1, 1) := by decide +kernel
theorem dX1_itemNamed_2 : decode cX1_itemNamed 2 = .ok (.invokevirtual 85, 3) := by decide +kernel
theorem dX1_itemNamed_5 : decode cX1_itemNamed 5 = .ok (.istore_n 3, 1) := by decide +kernel
theorem dX1_itemNamed_6 : decode cX1_itemNamed 6 = .ok (.iload_n 3, 1) := by decide +kernel
theorem dX1_itemNamed_7 : decode cX1_itemNamed 7 = .ok (.iconst (-1), 1) := by decide +kernel
theorem dX1_itemNamed_8 : decode cX1_itemNamed 8 = .ok (.if_icmp .ne 11, 3) := by decide +kernel
theorem dX1_itemNamed_11 : decode cX1_itemNamed 11 = .ok (.aload_n 0, 1) := by decide +kernel
theorem dX1_itemNamed_12 : decode cX1_itemNamed 12 = .ok (.lload_n 1, 1) := by decide +kernel
theorem dX1_itemNamed_13 : decode cX1_itemNamed 13 = .ok (.invokevirtual 89, 3) := by decide +kernel
theorem dX1_itemNamed_16 : decode cX1_itemNamed 16 = .ok (.goto 7, 3) := by decide +kernel
theorem dX1_itemNamed_19 : decode cX1_itemNamed 19 = .ok (.bipush 100, 2) := by decide +kernel
theorem dX1_itemNamed_21 : decode cX1_itemNamed 21 = .ok (.iload_n 3, 1) := by decide +kernel
theorem dX1_itemNamed_22 : decode cX1_itemNamed 22 = .ok (.iadd, 1) := by decide +kernel
theorem dX1_itemNamed_23 : decode cX1_itemNamed 23 = .ok (.ireturn, 1) := by decide +kernel
theorem dX1_partName_0 : decode cX1_partName 0 = .ok (.iload_n 1, 1) := by decide +kernel
theorem dX1_partName_1 : decode cX1_partName 1 = .ok (.aload_n 0, 1) := by decide +kernel
theorem dX1_partName_2 : decode cX1_partName 2 = .ok (.getfield 48, 3) := by decide +kernel
theorem dX1_partName_5 : decode cX1_partName 5 = .ok (.invokestatic 92, 3) := by decide +kernel
theorem dX1_partName_8 : decode cX1_partName 8 = .ok (.ifCond .eq 12, 3) := by decide +kernel
theorem dX1_partName_11 : decode cX1_partName 11 = .ok (.aload_n 0, 1) := by decide +kernel
theorem dX1_partName_12 : decode cX1_partName 12 = .ok (.getfield 9, 3) := by decide +kernel
theorem dX1_partName_15 : decode cX1_partName 15 = .ok (.iload_n 1, 1) := by decide +kernel
theorem dX1_partName_16 : decode cX1_partName 16 = .ok (.laload, 1) := by decide +kernel
theorem dX1_partName_17 : decode cX1_partName 17 = .ok (.goto 4, 3) := by decide +kernel
theorem dX1_partName_20 : decode cX1_partName 20 = .ok (.lconst 0, 1) := by decide +kernel
theorem dX1_partName_21 : decode cX1_partName 21 = .ok (.lreturn, 1) := by decide +kernel
theorem dX1_productName_0 : decode cX1_productName 0 = .ok (.iload_n 1, 1) := by decide +kernel
theorem dX1_productName_1 : decode cX1_productName 1 = .ok (.aload_n 0, 1) := by decide +kernel
theorem dX1_productName_2 : decode cX1_productName 2 = .ok (.getfield 52, 3) := by decide +kernel
theorem dX1_productName_5 : decode cX1_productName 5 = .ok (.invokestatic 92, 3) := by decide +kernel
theorem dX1_productName_8 : decode cX1_productName 8 = .ok (.ifCond .eq 12, 3) := by decide +kernel
theorem dX1_productName_11 : decode cX1_productName 11 = .ok (.aload_n 0, 1) := by decide +kernel
theorem dX1_productName_12 : decode cX1_productName 12 = .ok (.getfield 19, 3) := by decide +kernel
theorem dX1_productName_15 : decode cX1_productName 15 = .ok (.iload_n 1, 1) := by decide +kernel
theorem dX1_productName_16 : decode cX1_productName 16 = .ok (.laload, 1) := by decide +kernel
theorem dX1_productName_17 : decode cX1_productName 17 = .ok (.goto 4, 3) := by decide +kernel
theorem dX1_productName_20 : decode cX1_productName 20 = .ok (.lconst 0, 1) := by decide +kernel
theorem dX1_productName_21 : decode cX1_productName 21 = .ok (.lreturn, 1) := by decide +kernel
theorem dX1_leadTimeOf_0 : decode cX1_leadTimeOf 0 = .ok (.iload_n 1, 1) := by decide +kernel
theorem dX1_leadTimeOf_1 : decode cX1_leadTimeOf 1 = .ok (.aload_n 0, 1) := by decide +kernel
theorem dX1_leadTimeOf_2 : decode cX1_leadTimeOf 2 = .ok (.getfield 48, 3) := by decide +kernel
theorem dX1_leadTimeOf_5 : decode cX1_leadTimeOf 5 = .ok (.invokestatic 92, 3) := by decide +kernel
theorem dX1_leadTimeOf_8 : decode cX1_leadTimeOf 8 = .ok (.ifCond .eq 12, 3) := by decide +kernel
theorem dX1_leadTimeOf_11 : decode cX1_leadTimeOf 11 = .ok (.aload_n 0, 1) := by decide +kernel
theorem dX1_leadTimeOf_12 : decode cX1_leadTimeOf 12 = .ok (.getfield 15, 3) := by decide +kernel
theorem dX1_leadTimeOf_15 : decode cX1_leadTimeOf 15 = .ok (.iload_n 1, 1) := by decide +kernel
theorem dX1_leadTimeOf_16 : decode cX1_leadTimeOf 16 = .ok (.iaload, 1) := by decide +kernel
theorem dX1_leadTimeOf_17 : decode cX1_leadTimeOf 17 = .ok (.goto 4, 3) := by decide +kernel
theorem dX1_leadTimeOf_20 : decode cX1_leadTimeOf 20 = .ok (.iconst 0, 1) := by decide +kernel
theorem dX1_leadTimeOf_21 : decode cX1_leadTimeOf 21 = .ok (.ireturn, 1) := by decide +kernel
theorem dX1_linesOf_0 : decode cX1_linesOf 0 = .ok (.iload_n 1, 1) := by decide +kernel
theorem dX1_linesOf_1 : decode cX1_linesOf 1 = .ok (.aload_n 0, 1) := by decide +kernel
theorem dX1_linesOf_2 : decode cX1_linesOf 2 = .ok (.getfield 52, 3) := by decide +kernel
theorem dX1_linesOf_5 : decode cX1_linesOf 5 = .ok (.invokestatic 92, 3) := by decide +kernel
theorem dX1_linesOf_8 : decode cX1_linesOf 8 = .ok (.ifCond .eq 12, 3) := by decide +kernel
theorem dX1_linesOf_11 : decode cX1_linesOf 11 = .ok (.aload_n 0, 1) := by decide +kernel
theorem dX1_linesOf_12 : decode cX1_linesOf 12 = .ok (.getfield 25, 3) := by decide +kernel
theorem dX1_linesOf_15 : decode cX1_linesOf 15 = .ok (.iload_n 1, 1) := by decide +kernel
theorem dX1_linesOf_16 : decode cX1_linesOf 16 = .ok (.iaload, 1) := by decide +kernel
theorem dX1_linesOf_17 : decode cX1_linesOf 17 = .ok (.goto 4, 3) := by decide +kernel
theorem dX1_linesOf_20 : decode cX1_linesOf 20 = .ok (.iconst 0, 1) := by decide +kernel
theorem dX1_linesOf_21 : decode cX1_linesOf 21 = .ok (.ireturn, 1) := by decide +kernel
theorem dX1_itemOf_0 : decode cX1_itemOf 0 = .ok (.iload_n 2, 1) := by decide +kernel
theorem dX1_itemOf_1 : decode cX1_itemOf 1 = .ok (.aload_n 0, 1) := by decide +kernel
theorem dX1_itemOf_2 : decode cX1_itemOf 2 = .ok (.iload_n 1, 1) := by decide +kernel
theorem dX1_itemOf_3 : decode cX1_itemOf 3 = .ok (.invokevirtual 96, 3) := by decide +kernel
theorem dX1_itemOf_6 : decode cX1_itemOf 6 = .ok (.invokestatic 92, 3) := by decide +kernel
theorem dX1_itemOf_9 : decode cX1_itemOf 9 = .ok (.ifCond .eq 14, 3) := by decide +kernel
theorem dX1_itemOf_12 : decode cX1_itemOf 12 = .ok (.aload_n 0, 1) := by decide +kernel
theorem dX1_itemOf_13 : decode cX1_itemOf 13 = .ok (.getfield 30, 3) := by decide +kernel
theorem dX1_itemOf_16 : decode cX1_itemOf 16 = .ok (.iload_n 1, 1) := by decide +kernel
theorem dX1_itemOf_17 : decode cX1_itemOf 17 = .ok (.aaload, 1) := by decide +kernel
theorem dX1_itemOf_18 : decode cX1_itemOf 18 = .ok (.iload_n 2, 1) := by decide +kernel
theorem dX1_itemOf_19 : decode cX1_itemOf 19 = .ok (.iaload, 1) := by decide +kernel
theorem dX1_itemOf_20 : decode cX1_itemOf 20 = .ok (.goto 4, 3) := by decide +kernel
theorem dX1_itemOf_23 : decode cX1_itemOf 23 = .ok (.iconst (-1), 1) := by decide +kernel
theorem dX1_itemOf_24 : decode cX1_itemOf 24 = .ok (.ireturn, 1) := by decide +kernel
theorem dX1_quantityOf_0 : decode cX1_quantityOf 0 = .ok (.iload_n 2, 1) := by decide +kernel
theorem dX1_quantityOf_1 : decode cX1_quantityOf 1 = .ok (.aload_n 0, 1) := by decide +kernel
theorem dX1_quantityOf_2 : decode cX1_quantityOf 2 = .ok (.iload_n 1, 1) := by decide +kernel
theorem dX1_quantityOf_3 : decode cX1_quantityOf 3 = .ok (.invokevirtual 96, 3) := by decide +kernel
theorem dX1_quantityOf_6 : decode cX1_quantityOf 6 = .ok (.invokestatic 92, 3) := by decide +kernel
theorem dX1_quantityOf_9 : decode cX1_quantityOf 9 = .ok (.ifCond .eq 14, 3) := by decide +kernel
theorem dX1_quantityOf_12 : decode cX1_quantityOf 12 = .ok (.aload_n 0, 1) := by decide +kernel
theorem dX1_quantityOf_13 : decode cX1_quantityOf 13 = .ok (.getfield 33, 3) := by decide +kernel
theorem dX1_quantityOf_16 : decode cX1_quantityOf 16 = .ok (.iload_n 1, 1) := by decide +kernel
theorem dX1_quantityOf_17 : decode cX1_quantityOf 17 = .ok (.aaload, 1) := by decide +kernel
theorem dX1_quantityOf_18 : decode cX1_quantityOf 18 = .ok (.iload_n 2, 1) := by decide +kernel
theorem dX1_quantityOf_19 : decode cX1_quantityOf 19 = .ok (.iaload, 1) := by decide +kernel
theorem dX1_quantityOf_20 : decode cX1_quantityOf 20 = .ok (.goto 4, 3) := by decide +kernel
theorem dX1_quantityOf_23 : decode cX1_quantityOf 23 = .ok (.iconst (-1), 1) := by decide +kernel
theorem dX1_quantityOf_24 : decode cX1_quantityOf 24 = .ok (.ireturn, 1) := by decide +kernel
theorem dX1_levelOf_0 : decode cX1_levelOf 0 = .ok (.iload_n 1, 1) := by decide +kernel
theorem dX1_levelOf_1 : decode cX1_levelOf 1 = .ok (.aload_n 0, 1) := by decide +kernel
theorem dX1_levelOf_2 : decode cX1_levelOf 2 = .ok (.getfield 52, 3) := by decide +kernel
theorem dX1_levelOf_5 : decode cX1_levelOf 5 = .ok (.invokestatic 92, 3) := by decide +kernel
theorem dX1_levelOf_8 : decode cX1_levelOf 8 = .ok (.ifCond .eq 12, 3) := by decide +kernel
theorem dX1_levelOf_11 : decode cX1_levelOf 11 = .ok (.aload_n 0, 1) := by decide +kernel
theorem dX1_levelOf_12 : decode cX1_levelOf 12 = .ok (.getfield 22, 3) := by decide +kernel
theorem dX1_levelOf_15 : decode cX1_levelOf 15 = .ok (.iload_n 1, 1) := by decide +kernel
theorem dX1_levelOf_16 : decode cX1_levelOf 16 = .ok (.iaload, 1) := by decide +kernel
theorem dX1_levelOf_17 : decode cX1_levelOf 17 = .ok (.goto 4, 3) := by decide +kernel
theorem dX1_levelOf_20 : decode cX1_levelOf 20 = .ok (.iconst 0, 1) := by decide +kernel
theorem dX1_levelOf_21 : decode cX1_levelOf 21 = .ok (.ireturn, 1) := by decide +kernel
theorem dX1_needOf_0 : decode cX1_needOf 0 = .ok (.iload_n 1, 1) := by decide +kernel
theorem dX1_needOf_1 : decode cX1_needOf 1 = .ok (.ifCond .lt 27, 3) := by decide +kernel
theorem dX1_needOf_4 : decode cX1_needOf 4 = .ok (.iload_n 1, 1) := by decide +kernel
theorem dX1_needOf_5 : decode cX1_needOf 5 = .ok (.aload_n 0, 1) := by decide +kernel
theorem dX1_needOf_6 : decode cX1_needOf 6 = .ok (.getfield 52, 3) := by decide +kernel
theorem dX1_needOf_9 : decode cX1_needOf 9 = .ok (.if_icmp .ge 19, 3) := by decide +kernel
theorem dX1_needOf_12 : decode cX1_needOf 12 = .ok (.iload_n 2, 1) := by decide +kernel
theorem dX1_needOf_13 : decode cX1_needOf 13 = .ok (.ifCond .lt 15, 3) := by decide +kernel
theorem dX1_needOf_16 : decode cX1_needOf 16 = .ok (.iload_n 2, 1) := by decide +kernel
theorem dX1_needOf_17 : decode cX1_needOf 17 = .ok (.aload_n 0, 1) := by decide +kernel
theorem dX1_needOf_18 : decode cX1_needOf 18 = .ok (.getfield 48, 3) := by decide +kernel
theorem dX1_needOf_21 : decode cX1_needOf 21 = .ok (.if_icmp .ge 7, 3) := by decide +kernel
theorem dX1_needOf_24 : decode cX1_needOf 24 = .ok (.iconst 1, 1) := by decide +kernel
theorem dX1_needOf_25 : decode cX1_needOf 25 = .ok (.goto 4, 3) := by decide +kernel
theorem dX1_needOf_28 : decode cX1_needOf 28 = .ok (.iconst 0, 1) := by decide +kernel
theorem dX1_needOf_29 : decode cX1_needOf 29 = .ok (.istore_n 3, 1) := by decide +kernel
theorem dX1_needOf_30 : decode cX1_needOf 30 = .ok (.iload_n 3, 1) := by decide +kernel
theorem dX1_needOf_31 : decode cX1_needOf 31 = .ok (.ifCond .eq 14, 3) := by decide +kernel
theorem dX1_needOf_34 : decode cX1_needOf 34 = .ok (.aload_n 0, 1) := by decide +kernel
theorem dX1_needOf_35 : decode cX1_needOf 35 = .ok (.getfield 36, 3) := by decide +kernel
theorem dX1_needOf_38 : decode cX1_needOf 38 = .ok (.iload_n 1, 1) := by decide +kernel
theorem dX1_needOf_39 : decode cX1_needOf 39 = .ok (.aaload, 1) := by decide +kernel
theorem dX1_needOf_40 : decode cX1_needOf 40 = .ok (.iload_n 2, 1) := by decide +kernel
theorem dX1_needOf_41 : decode cX1_needOf 41 = .ok (.iaload, 1) := by decide +kernel
theorem dX1_needOf_42 : decode cX1_needOf 42 = .ok (.goto 4, 3) := by decide +kernel
theorem dX1_needOf_45 : decode cX1_needOf 45 = .ok (.iconst 0, 1) := by decide +kernel
theorem dX1_needOf_46 : decode cX1_needOf 46 = .ok (.ireturn, 1) := by decide +kernel
theorem dX1_rungTakes_0 : decode cX1_rungTakes 0 = .ok (.iload_n 1, 1) := by decide +kernel
theorem dX1_rungTakes_1 : decode cX1_rungTakes 1 = .ok (.aload_n 0, 1) := by decide +kernel
theorem dX1_rungTakes_2 : decode cX1_rungTakes 2 = .ok (.getfield 55, 3) := by decide +kernel
theorem dX1_rungTakes_5 : decode cX1_rungTakes 5 = .ok (.invokestatic 92, 3) := by decide +kernel
theorem dX1_rungTakes_8 : decode cX1_rungTakes 8 = .ok (.ifCond .eq 27, 3) := by decide +kernel
theorem dX1_rungTakes_11 : decode cX1_rungTakes 11 = .ok (.iload_n 2, 1) := by decide +kernel
theorem dX1_rungTakes_12 : decode cX1_rungTakes 12 = .ok (.aload_n 0, 1) := by decide +kernel
theorem dX1_rungTakes_13 : decode cX1_rungTakes 13 = .ok (.getfield 39, 3) := by decide +kernel
theorem dX1_rungTakes_16 : decode cX1_rungTakes 16 = .ok (.iload_n 1, 1) := by decide +kernel
theorem dX1_rungTakes_17 : decode cX1_rungTakes 17 = .ok (.iaload, 1) := by decide +kernel
theorem dX1_rungTakes_18 : decode cX1_rungTakes 18 = .ok (.if_icmp .lt 17, 3) := by decide +kernel
theorem dX1_rungTakes_21 : decode cX1_rungTakes 21 = .ok (.iload_n 2, 1) := by decide +kernel
theorem dX1_rungTakes_22 : decode cX1_rungTakes 22 = .ok (.aload_n 0, 1) := by decide +kernel
theorem dX1_rungTakes_23 : decode cX1_rungTakes 23 = .ok (.getfield 42, 3) := by decide +kernel
theorem dX1_rungTakes_26 : decode cX1_rungTakes 26 = .ok (.iload_n 1, 1) := by decide +kernel
theorem dX1_rungTakes_27 : decode cX1_rungTakes 27 = .ok (.iaload, 1) := by decide +kernel
theorem dX1_rungTakes_28 : decode cX1_rungTakes 28 = .ok (.if_icmp .gt 7, 3) := by decide +kernel
theorem dX1_rungTakes_31 : decode cX1_rungTakes 31 = .ok (.iconst 1, 1) := by decide +kernel
theorem dX1_rungTakes_32 : decode cX1_rungTakes 32 = .ok (.goto 4, 3) := by decide +kernel
theorem dX1_rungTakes_35 : decode cX1_rungTakes 35 = .ok (.iconst 0, 1) := by decide +kernel
theorem dX1_rungTakes_36 : decode cX1_rungTakes 36 = .ok (.ireturn, 1) := by decide +kernel
theorem dX1_shareOf_0 : decode cX1_shareOf 0 = .ok (.iload_n 1, 1) := by decide +kernel
theorem dX1_shareOf_1 : decode cX1_shareOf 1 = .ok (.aload_n 0, 1) := by decide +kernel
theorem dX1_shareOf_2 : decode cX1_shareOf 2 = .ok (.getfield 55, 3) := by decide +kernel
theorem dX1_shareOf_5 : decode cX1_shareOf 5 = .ok (.invokestatic 92, 3) := by decide +kernel
theorem dX1_shareOf_8 : decode cX1_shareOf 8 = .ok (.ifCond .eq 12, 3) := by decide +kernel
theorem dX1_shareOf_11 : decode cX1_shareOf 11 = .ok (.aload_n 0, 1) := by decide +kernel
theorem dX1_shareOf_12 : decode cX1_shareOf 12 = .ok (.getfield 45, 3) := by decide +kernel
theorem dX1_shareOf_15 : decode cX1_shareOf 15 = .ok (.iload_n 1, 1) := by decide +kernel
theorem dX1_shareOf_16 : decode cX1_shareOf 16 = .ok (.iaload, 1) := by decide +kernel
theorem dX1_shareOf_17 : decode cX1_shareOf 17 = .ok (.goto 4, 3) := by decide +kernel
theorem dX1_shareOf_20 : decode cX1_shareOf 20 = .ok (.iconst 0, 1) := by decide +kernel
theorem dX1_shareOf_21 : decode cX1_shareOf 21 = .ok (.ireturn, 1) := by decide +kernel
theorem dX1_tightestPart_0 : decode cX1_tightestPart 0 = .ok (.iconst (-1), 1) := by decide +kernel
theorem dX1_tightestPart_1 : decode cX1_tightestPart 1 = .ok (.istore_n 3, 1) := by decide +kernel
theorem dX1_tightestPart_2 : decode cX1_tightestPart 2 = .ok (.iconst 0, 1) := by decide +kernel
theorem dX1_tightestPart_3 : decode cX1_tightestPart 3 = .ok (.istore 4, 2) := by decide +kernel
theorem dX1_tightestPart_5 : decode cX1_tightestPart 5 = .ok (.iconst 0, 1) := by decide +kernel
theorem dX1_tightestPart_6 : decode cX1_tightestPart 6 = .ok (.istore 5, 2) := by decide +kernel
theorem dX1_tightestPart_8 : decode cX1_tightestPart 8 = .ok (.iload 5, 2) := by decide +kernel
theorem dX1_tightestPart_10 : decode cX1_tightestPart 10 = .ok (.aload_n 0, 1) := by decide +kernel
theorem dX1_tightestPart_11 : decode cX1_tightestPart 11 = .ok (.getfield 48, 3) := by decide +kernel
theorem dX1_tightestPart_14 : decode cX1_tightestPart 14 = .ok (.if_icmp .ge 59, 3) := by decide +kernel
theorem dX1_tightestPart_17 : decode cX1_tightestPart 17 = .ok (.iload 5, 2) := by decide +kernel
theorem dX1_tightestPart_19 : decode cX1_tightestPart 19 = .ok (.aload_n 2, 1) := by decide +kernel
theorem dX1_tightestPart_20 : decode cX1_tightestPart 20 = .ok (.arraylength, 1) := by decide +kernel
theorem dX1_tightestPart_21 : decode cX1_tightestPart 21 = .ok (.if_icmp .ge 52, 3) := by decide +kernel
theorem dX1_tightestPart_24 : decode cX1_tightestPart 24 = .ok (.aload_n 0, 1) := by decide +kernel
theorem dX1_tightestPart_25 : decode cX1_tightestPart 25 = .ok (.iload_n 1, 1) := by decide +kernel
theorem dX1_tightestPart_26 : decode cX1_tightestPart 26 = .ok (.iload 5, 2) := by decide +kernel
theorem dX1_tightestPart_28 : decode cX1_tightestPart 28 = .ok (.invokevirtual 82, 3) := by decide +kernel
theorem dX1_tightestPart_31 : decode cX1_tightestPart 31 = .ok (.istore 6, 2) := by decide +kernel
theorem dX1_tightestPart_33 : decode cX1_tightestPart 33 = .ok (.iload 6, 2) := by decide +kernel
theorem dX1_tightestPart_35 : decode cX1_tightestPart 35 = .ok (.ifCond .le 32, 3) := by decide +kernel
theorem dX1_tightestPart_38 : decode cX1_tightestPart 38 = .ok (.iload_n 3, 1) := by decide +kernel
theorem dX1_tightestPart_39 : decode cX1_tightestPart 39 = .ok (.iconst (-1), 1) := by decide +kernel
theorem dX1_tightestPart_40 : decode cX1_tightestPart 40 = .ok (.if_icmp .eq 15, 3) := by decide +kernel
theorem dX1_tightestPart_43 : decode cX1_tightestPart 43 = .ok (.aload_n 2, 1) := by decide +kernel
theorem dX1_tightestPart_44 : decode cX1_tightestPart 44 = .ok (.iload 5, 2) := by decide +kernel
theorem dX1_tightestPart_46 : decode cX1_tightestPart 46 = .ok (.iaload, 1) := by decide +kernel
theorem dX1_tightestPart_47 : decode cX1_tightestPart 47 = .ok (.iload 6, 2) := by decide +kernel
theorem dX1_tightestPart_49 : decode cX1_tightestPart 49 = .ok (.idiv, 1) := by decide +kernel
theorem dX1_tightestPart_50 : decode cX1_tightestPart 50 = .ok (.iload 4, 2) := by decide +kernel
theorem dX1_tightestPart_52 : decode cX1_tightestPart 52 = .ok (.if_icmp .ge 15, 3) := by decide +kernel
theorem dX1_tightestPart_55 : decode cX1_tightestPart 55 = .ok (.iload 5, 2) := by decide +kernel
theorem dX1_tightestPart_57 : decode cX1_tightestPart 57 = .ok (.istore_n 3, 1) := by decide +kernel
theorem dX1_tightestPart_58 : decode cX1_tightestPart 58 = .ok (.aload_n 2, 1) := by decide +kernel
theorem dX1_tightestPart_59 : decode cX1_tightestPart 59 = .ok (.iload 5, 2) := by decide +kernel
theorem dX1_tightestPart_61 : decode cX1_tightestPart 61 = .ok (.iaload, 1) := by decide +kernel
theorem dX1_tightestPart_62 : decode cX1_tightestPart 62 = .ok (.iload 6, 2) := by decide +kernel
theorem dX1_tightestPart_64 : decode cX1_tightestPart 64 = .ok (.idiv, 1) := by decide +kernel
theorem dX1_tightestPart_65 : decode cX1_tightestPart 65 = .ok (.istore 4, 2) := by decide +kernel
theorem dX1_tightestPart_67 : decode cX1_tightestPart 67 = .ok (.iinc 5 1, 3) := by decide +kernel
theorem dX1_tightestPart_70 : decode cX1_tightestPart 70 = .ok (.goto (-62), 3) := by decide +kernel
theorem dX1_tightestPart_73 : decode cX1_tightestPart 73 = .ok (.iload_n 3, 1) := by decide +kernel
theorem dX1_tightestPart_74 : decode cX1_tightestPart 74 = .ok (.ireturn, 1) := by decide +kernel
theorem dX1_mostUnits_0 : decode cX1_mostUnits 0 = .ok (.aload_n 0, 1) := by decide +kernel
theorem dX1_mostUnits_1 : decode cX1_mostUnits 1 = .ok (.iload_n 1, 1) := by decide +kernel
theorem dX1_mostUnits_2 : decode cX1_mostUnits 2 = .ok (.aload_n 2, 1) := by decide +kernel
theorem dX1_mostUnits_3 : decode cX1_mostUnits 3 = .ok (.invokevirtual 99, 3) := by decide +kernel
theorem dX1_mostUnits_6 : decode cX1_mostUnits 6 = .ok (.istore_n 3, 1) := by decide +kernel
theorem dX1_mostUnits_7 : decode cX1_mostUnits 7 = .ok (.aload_n 0, 1) := by decide +kernel
theorem dX1_mostUnits_8 : decode cX1_mostUnits 8 = .ok (.iload_n 1, 1) := by decide +kernel
theorem dX1_mostUnits_9 : decode cX1_mostUnits 9 = .ok (.iload_n 3, 1) := by decide +kernel
theorem dX1_mostUnits_10 : decode cX1_mostUnits 10 = .ok (.invokevirtual 82, 3) := by decide +kernel
theorem dX1_mostUnits_13 : decode cX1_mostUnits 13 = .ok (.istore 4, 2) := by decide +kernel
theorem dX1_mostUnits_15 : decode cX1_mostUnits 15 = .ok (.iload 4, 2) := by decide +kernel
theorem dX1_mostUnits_17 : decode cX1_mostUnits 17 = .ok (.ifCond .le 21, 3) := by decide +kernel
theorem dX1_mostUnits_20 : decode cX1_mostUnits 20 = .ok (.iload_n 3, 1) := by decide +kernel
theorem dX1_mostUnits_21 : decode cX1_mostUnits 21 = .ok (.aload_n 2, 1) := by decide +kernel
theorem dX1_mostUnits_22 : decode cX1_mostUnits 22 = .ok (.arraylength, 1) := by decide +kernel
theorem dX1_mostUnits_23 : decode cX1_mostUnits 23 = .ok (.invokestatic 92, 3) := by decide +kernel
theorem dX1_mostUnits_26 : decode cX1_mostUnits 26 = .ok (.ifCond .eq 12, 3) := by decide +kernel
theorem dX1_mostUnits_29 : decode cX1_mostUnits 29 = .ok (.aload_n 2, 1) := by decide +kernel
theorem dX1_mostUnits_30 : decode cX1_mostUnits 30 = .ok (.iload_n 3, 1) := by decide +kernel
theorem dX1_mostUnits_31 : decode cX1_mostUnits 31 = .ok (.iaload, 1) := by decide +kernel
theorem dX1_mostUnits_32 : decode cX1_mostUnits 32 = .ok (.iload 4, 2) := by decide +kernel
theorem dX1_mostUnits_34 : decode cX1_mostUnits 34 = .ok (.idiv, 1) := by decide +kernel
theorem dX1_mostUnits_35 : decode cX1_mostUnits 35 = .ok (.goto 4, 3) := by decide +kernel
theorem dX1_mostUnits_38 : decode cX1_mostUnits 38 = .ok (.iconst 0, 1) := by decide +kernel
theorem dX1_mostUnits_39 : decode cX1_mostUnits 39 = .ok (.ireturn, 1) := by decide +kernel
theorem dX1_takePieces_0 : decode cX1_takePieces 0 = .ok (.iconst 0, 1) := by decide +kernel
theorem dX1_takePieces_1 : decode cX1_takePieces 1 = .ok (.istore 4, 2) := by decide +kernel
theorem dX1_takePieces_3 : decode cX1_takePieces 3 = .ok (.iload 4, 2) := by decide +kernel
theorem dX1_takePieces_5 : decode cX1_takePieces 5 = .ok (.aload_n 0, 1) := by decide +kernel
theorem dX1_takePieces_6 : decode cX1_takePieces 6 = .ok (.getfield 48, 3) := by decide +kernel
theorem dX1_takePieces_9 : decode cX1_takePieces 9 = .ok (.if_icmp .ge 32, 3) := by decide +kernel
theorem dX1_takePieces_12 : decode cX1_takePieces 12 = .ok (.iload 4, 2) := by decide +kernel
theorem dX1_takePieces_14 : decode cX1_takePieces 14 = .ok (.aload_n 3, 1) := by decide +kernel
theorem dX1_takePieces_15 : decode cX1_takePieces 15 = .ok (.arraylength, 1) := by decide +kernel
theorem dX1_takePieces_16 : decode cX1_takePieces 16 = .ok (.if_icmp .ge 25, 3) := by decide +kernel
theorem dX1_takePieces_19 : decode cX1_takePieces 19 = .ok (.aload_n 3, 1) := by decide +kernel
theorem dX1_takePieces_20 : decode cX1_takePieces 20 = .ok (.iload 4, 2) := by decide +kernel
theorem dX1_takePieces_22 : decode cX1_takePieces 22 = .ok (.dup2, 1) := by decide +kernel
theorem dX1_takePieces_23 : decode cX1_takePieces 23 = .ok (.iaload, 1) := by decide +kernel
theorem dX1_takePieces_24 : decode cX1_takePieces 24 = .ok (.iload_n 2, 1) := by decide +kernel
theorem dX1_takePieces_25 : decode cX1_takePieces 25 = .ok (.aload_n 0, 1) := by decide +kernel
theorem dX1_takePieces_26 : decode cX1_takePieces 26 = .ok (.iload_n 1, 1) := by decide +kernel
theorem dX1_takePieces_27 : decode cX1_takePieces 27 = .ok (.iload 4, 2) := by decide +kernel
theorem dX1_takePieces_29 : decode cX1_takePieces 29 = .ok (.invokevirtual 82, 3) := by decide +kernel
theorem dX1_takePieces_32 : decode cX1_takePieces 32 = .ok (.imul, 1) := by decide +kernel
theorem dX1_takePieces_33 : decode cX1_takePieces 33 = .ok (.isub, 1) := by decide +kernel
theorem dX1_takePieces_34 : decode cX1_takePieces 34 = .ok (.iastore, 1) := by decide +kernel
theorem dX1_takePieces_35 : decode cX1_takePieces 35 = .ok (.iinc 4 1, 3) := by decide +kernel
theorem dX1_takePieces_38 : decode cX1_takePieces 38 = .ok (.goto (-35), 3) := by decide +kernel
theorem dX1_takePieces_41 : decode cX1_takePieces 41 = .ok (.return_, 1) := by decide +kernel
theorem dX1_mostTogether_0 : decode cX1_mostTogether 0 = .ok (.iconst 0, 1) := by decide +kernel
theorem dX1_mostTogether_1 : decode cX1_mostTogether 1 = .ok (.istore 4, 2) := by decide +kernel
theorem dX1_mostTogether_3 : decode cX1_mostTogether 3 = .ok (.aload_n 0, 1) := by decide +kernel
theorem dX1_mostTogether_4 : decode cX1_mostTogether 4 = .ok (.iload_n 1, 1) := by decide +kernel
theorem dX1_mostTogether_5 : decode cX1_mostTogether 5 = .ok (.aload_n 3, 1) := by decide +kernel
theorem dX1_mostTogether_6 : decode cX1_mostTogether 6 = .ok (.invokevirtual 103, 3) := by decide +kernel
theorem dX1_mostTogether_9 : decode cX1_mostTogether 9 = .ok (.istore 5, 2) := by decide +kernel
theorem dX1_mostTogether_11 : decode cX1_mostTogether 11 = .ok (.iconst 0, 1) := by decide +kernel
theorem dX1_mostTogether_12 : decode cX1_mostTogether 12 = .ok (.istore 6, 2) := by decide +kernel
theorem dX1_mostTogether_14 : decode cX1_mostTogether 14 = .ok (.iload 6, 2) := by decide +kernel
theorem dX1_mostTogether_16 : decode cX1_mostTogether 16 = .ok (.bipush 32, 2) := by decide +kernel
theorem dX1_mostTogether_18 : decode cX1_mostTogether 18 = .ok (.if_icmp .ge 53, 3) := by decide +kernel
theorem dX1_mostTogether_21 : decode cX1_mostTogether 21 = .ok (.iload 4, 2) := by decide +kernel
theorem dX1_mostTogether_23 : decode cX1_mostTogether 23 = .ok (.iload 5, 2) := by decide +kernel
theorem dX1_mostTogether_25 : decode cX1_mostTogether 25 = .ok (.if_icmp .ge 46, 3) := by decide +kernel
theorem dX1_mostTogether_28 : decode cX1_mostTogether 28 = .ok (.iload 4, 2) := by decide +kernel
theorem dX1_mostTogether_30 : decode cX1_mostTogether 30 = .ok (.iload 5, 2) := by decide +kernel
theorem dX1_mostTogether_32 : decode cX1_mostTogether 32 = .ok (.iload 4, 2) := by decide +kernel
theorem dX1_mostTogether_34 : decode cX1_mostTogether 34 = .ok (.isub, 1) := by decide +kernel
theorem dX1_mostTogether_35 : decode cX1_mostTogether 35 = .ok (.iconst 2, 1) := by decide +kernel
theorem dX1_mostTogether_36 : decode cX1_mostTogether 36 = .ok (.idiv, 1) := by decide +kernel
theorem dX1_mostTogether_37 : decode cX1_mostTogether 37 = .ok (.iadd, 1) := by decide +kernel
theorem dX1_mostTogether_38 : decode cX1_mostTogether 38 = .ok (.istore 7, 2) := by decide +kernel
theorem dX1_mostTogether_40 : decode cX1_mostTogether 40 = .ok (.aload_n 0, 1) := by decide +kernel
theorem dX1_mostTogether_41 : decode cX1_mostTogether 41 = .ok (.iload_n 1, 1) := by decide +kernel
theorem dX1_mostTogether_42 : decode cX1_mostTogether 42 = .ok (.iload_n 2, 1) := by decide +kernel
theorem dX1_mostTogether_43 : decode cX1_mostTogether 43 = .ok (.aload_n 3, 1) := by decide +kernel
theorem dX1_mostTogether_44 : decode cX1_mostTogether 44 = .ok (.iload 7, 2) := by decide +kernel
theorem dX1_mostTogether_46 : decode cX1_mostTogether 46 = .ok (.invokevirtual 106, 3) := by decide +kernel
theorem dX1_mostTogether_49 : decode cX1_mostTogether 49 = .ok (.ifCond .eq 12, 3) := by decide +kernel
theorem dX1_mostTogether_52 : decode cX1_mostTogether 52 = .ok (.iload 7, 2) := by decide +kernel
theorem dX1_mostTogether_54 : decode cX1_mostTogether 54 = .ok (.iconst 1, 1) := by decide +kernel
theorem dX1_mostTogether_55 : decode cX1_mostTogether 55 = .ok (.iadd, 1) := by decide +kernel
theorem dX1_mostTogether_56 : decode cX1_mostTogether 56 = .ok (.istore 4, 2) := by decide +kernel
theorem dX1_mostTogether_58 : decode cX1_mostTogether 58 = .ok (.goto 7, 3) := by decide +kernel
theorem dX1_mostTogether_61 : decode cX1_mostTogether 61 = .ok (.iload 7, 2) := by decide +kernel
theorem dX1_mostTogether_63 : decode cX1_mostTogether 63 = .ok (.istore 5, 2) := by decide +kernel
theorem dX1_mostTogether_65 : decode cX1_mostTogether 65 = .ok (.iinc 6 1, 3) := by decide +kernel
theorem dX1_mostTogether_68 : decode cX1_mostTogether 68 = .ok (.goto (-54), 3) := by decide +kernel
theorem dX1_mostTogether_71 : decode cX1_mostTogether 71 = .ok (.aload_n 0, 1) := by decide +kernel
theorem dX1_mostTogether_72 : decode cX1_mostTogether 72 = .ok (.iload_n 1, 1) := by decide +kernel
theorem dX1_mostTogether_73 : decode cX1_mostTogether 73 = .ok (.iload_n 2, 1) := by decide +kernel
theorem dX1_mostTogether_74 : decode cX1_mostTogether 74 = .ok (.aload_n 3, 1) := by decide +kernel
theorem dX1_mostTogether_75 : decode cX1_mostTogether 75 = .ok (.iload 4, 2) := by decide +kernel
theorem dX1_mostTogether_77 : decode cX1_mostTogether 77 = .ok (.invokevirtual 110, 3) := by decide +kernel
theorem dX1_mostTogether_80 : decode cX1_mostTogether 80 = .ok (.istore 6, 2) := by decide +kernel
theorem dX1_mostTogether_82 : decode cX1_mostTogether 82 = .ok (.aload_n 0, 1) := by decide +kernel
theorem dX1_mostTogether_83 : decode cX1_mostTogether 83 = .ok (.iload_n 2, 1) := by decide +kernel
theorem dX1_mostTogether_84 : decode cX1_mostTogether 84 = .ok (.iload 6, 2) := by decide +kernel
theorem dX1_mostTogether_86 : decode cX1_mostTogether 86 = .ok (.invokevirtual 82, 3) := by decide +kernel
theorem dX1_mostTogether_89 : decode cX1_mostTogether 89 = .ok (.istore 7, 2) := by decide +kernel
theorem dX1_mostTogether_91 : decode cX1_mostTogether 91 = .ok (.iload 7, 2) := by decide +kernel
theorem dX1_mostTogether_93 : decode cX1_mostTogether 93 = .ok (.ifCond .le 24, 3) := by decide +kernel
theorem dX1_mostTogether_96 : decode cX1_mostTogether 96 = .ok (.iload 4, 2) := by decide +kernel
theorem dX1_mostTogether_98 : decode cX1_mostTogether 98 = .ok (.aload_n 0, 1) := by decide +kernel
theorem dX1_mostTogether_99 : decode cX1_mostTogether 99 = .ok (.iload_n 1, 1) := by decide +kernel
theorem dX1_mostTogether_100 : decode cX1_mostTogether 100 = .ok (.aload_n 3, 1) := by decide +kernel
theorem dX1_mostTogether_101 : decode cX1_mostTogether 101 = .ok (.iload 6, 2) := by decide +kernel
theorem dX1_mostTogether_103 : decode cX1_mostTogether 103 = .ok (.iload 4, 2) := by decide +kernel
theorem dX1_mostTogether_105 : decode cX1_mostTogether 105 = .ok (.invokevirtual 114, 3) := by decide +kernel
theorem dX1_mostTogether_108 : decode cX1_mostTogether 108 = .ok (.iload 7, 2) := by decide +kernel
theorem dX1_mostTogether_110 : decode cX1_mostTogether 110 = .ok (.i2l, 1) := by decide +kernel
theorem dX1_mostTogether_111 : decode cX1_mostTogether 111 = .ok (.ldiv, 1) := by decide +kernel
theorem dX1_mostTogether_112 : decode cX1_mostTogether 112 = .ok (.l2i, 1) := by decide +kernel
theorem dX1_mostTogether_113 : decode cX1_mostTogether 113 = .ok (.iadd, 1) := by decide +kernel
theorem dX1_mostTogether_114 : decode cX1_mostTogether 114 = .ok (.goto 5, 3) := by decide +kernel
theorem dX1_mostTogether_117 : decode cX1_mostTogether 117 = .ok (.iload 4, 2) := by decide +kernel
theorem dX1_mostTogether_119 : decode cX1_mostTogether 119 = .ok (.ireturn, 1) := by decide +kernel
theorem dX1_oneMoreGains_0 : decode cX1_oneMoreGains 0 = .ok (.aload_n 0, 1) := by decide +kernel
theorem dX1_oneMoreGains_1 : decode cX1_oneMoreGains 1 = .ok (.iload_n 1, 1) := by decide +kernel
theorem dX1_oneMoreGains_2 : decode cX1_oneMoreGains 2 = .ok (.iload_n 2, 1) := by decide +kernel
theorem dX1_oneMoreGains_3 : decode cX1_oneMoreGains 3 = .ok (.aload_n 3, 1) := by decide +kernel
theorem dX1_oneMoreGains_4 : decode cX1_oneMoreGains 4 = .ok (.iload 4, 2) := by decide +kernel
theorem dX1_oneMoreGains_6 : decode cX1_oneMoreGains 6 = .ok (.invokevirtual 110, 3) := by decide +kernel
theorem dX1_oneMoreGains_9 : decode cX1_oneMoreGains 9 = .ok (.istore 5, 2) := by decide +kernel
theorem dX1_oneMoreGains_11 : decode cX1_oneMoreGains 11 = .ok (.aload_n 0, 1) := by decide +kernel
theorem dX1_oneMoreGains_12 : decode cX1_oneMoreGains 12 = .ok (.iload_n 1, 1) := by decide +kernel
theorem dX1_oneMoreGains_13 : decode cX1_oneMoreGains 13 = .ok (.iload_n 2, 1) := by decide +kernel
theorem dX1_oneMoreGains_14 : decode cX1_oneMoreGains 14 = .ok (.aload_n 3, 1) := by decide +kernel
theorem dX1_oneMoreGains_15 : decode cX1_oneMoreGains 15 = .ok (.iload 4, 2) := by decide +kernel
theorem dX1_oneMoreGains_17 : decode cX1_oneMoreGains 17 = .ok (.iconst 1, 1) := by decide +kernel
theorem dX1_oneMoreGains_18 : decode cX1_oneMoreGains 18 = .ok (.iadd, 1) := by decide +kernel
theorem dX1_oneMoreGains_19 : decode cX1_oneMoreGains 19 = .ok (.invokevirtual 110, 3) := by decide +kernel
theorem dX1_oneMoreGains_22 : decode cX1_oneMoreGains 22 = .ok (.istore 6, 2) := by decide +kernel
theorem dX1_oneMoreGains_24 : decode cX1_oneMoreGains 24 = .ok (.aload_n 0, 1) := by decide +kernel
theorem dX1_oneMoreGains_25 : decode cX1_oneMoreGains 25 = .ok (.iload_n 2, 1) := by decide +kernel
theorem dX1_oneMoreGains_26 : decode cX1_oneMoreGains 26 = .ok (.iload 5, 2) := by decide +kernel
theorem dX1_oneMoreGains_28 : decode cX1_oneMoreGains 28 = .ok (.invokevirtual 82, 3) := by decide +kernel
theorem dX1_oneMoreGains_31 : decode cX1_oneMoreGains 31 = .ok (.i2l, 1) := by decide +kernel
theorem dX1_oneMoreGains_32 : decode cX1_oneMoreGains 32 = .ok (.lstore 7, 2) := by decide +kernel
theorem dX1_oneMoreGains_34 : decode cX1_oneMoreGains 34 = .ok (.aload_n 0, 1) := by decide +kernel
theorem dX1_oneMoreGains_35 : decode cX1_oneMoreGains 35 = .ok (.iload_n 2, 1) := by decide +kernel
theorem dX1_oneMoreGains_36 : decode cX1_oneMoreGains 36 = .ok (.iload 6, 2) := by decide +kernel
theorem dX1_oneMoreGains_38 : decode cX1_oneMoreGains 38 = .ok (.invokevirtual 82, 3) := by decide +kernel
theorem dX1_oneMoreGains_41 : decode cX1_oneMoreGains 41 = .ok (.i2l, 1) := by decide +kernel
theorem dX1_oneMoreGains_42 : decode cX1_oneMoreGains 42 = .ok (.lstore 9, 2) := by decide +kernel
theorem dX1_oneMoreGains_44 : decode cX1_oneMoreGains 44 = .ok (.aload_n 0, 1) := by decide +kernel
theorem dX1_oneMoreGains_45 : decode cX1_oneMoreGains 45 = .ok (.iload_n 1, 1) := by decide +kernel
theorem dX1_oneMoreGains_46 : decode cX1_oneMoreGains 46 = .ok (.aload_n 3, 1) := by decide +kernel
theorem dX1_oneMoreGains_47 : decode cX1_oneMoreGains 47 = .ok (.iload 5, 2) := by decide +kernel
theorem dX1_oneMoreGains_49 : decode cX1_oneMoreGains 49 = .ok (.iload 4, 2) := by decide +kernel
theorem dX1_oneMoreGains_51 : decode cX1_oneMoreGains 51 = .ok (.invokevirtual 114, 3) := by decide +kernel
theorem dX1_oneMoreGains_54 : decode cX1_oneMoreGains 54 = .ok (.lstore 11, 2) := by decide +kernel
theorem dX1_oneMoreGains_56 : decode cX1_oneMoreGains 56 = .ok (.aload_n 0, 1) := by decide +kernel
theorem dX1_oneMoreGains_57 : decode cX1_oneMoreGains 57 = .ok (.iload_n 1, 1) := by decide +kernel
theorem dX1_oneMoreGains_58 : decode cX1_oneMoreGains 58 = .ok (.aload_n 3, 1) := by decide +kernel
theorem dX1_oneMoreGains_59 : decode cX1_oneMoreGains 59 = .ok (.iload 6, 2) := by decide +kernel
theorem dX1_oneMoreGains_61 : decode cX1_oneMoreGains 61 = .ok (.iload 4, 2) := by decide +kernel
theorem dX1_oneMoreGains_63 : decode cX1_oneMoreGains 63 = .ok (.iconst 1, 1) := by decide +kernel
theorem dX1_oneMoreGains_64 : decode cX1_oneMoreGains 64 = .ok (.iadd, 1) := by decide +kernel
theorem dX1_oneMoreGains_65 : decode cX1_oneMoreGains 65 = .ok (.invokevirtual 114, 3) := by decide +kernel
theorem dX1_oneMoreGains_68 : decode cX1_oneMoreGains 68 = .ok (.lstore 13, 2) := by decide +kernel
theorem dX1_oneMoreGains_70 : decode cX1_oneMoreGains 70 = .ok (.lload 13, 2) := by decide +kernel
theorem dX1_oneMoreGains_72 : decode cX1_oneMoreGains 72 = .ok (.lload 9, 2) := by decide +kernel
theorem dX1_oneMoreGains_74 : decode cX1_oneMoreGains 74 = .ok (.ladd, 1) := by decide +kernel
theorem dX1_oneMoreGains_75 : decode cX1_oneMoreGains 75 = .ok (.lload 7, 2) := by decide +kernel
theorem dX1_oneMoreGains_77 : decode cX1_oneMoreGains 77 = .ok (.lmul, 1) := by decide +kernel
theorem dX1_oneMoreGains_78 : decode cX1_oneMoreGains 78 = .ok (.lload 11, 2) := by decide +kernel
theorem dX1_oneMoreGains_80 : decode cX1_oneMoreGains 80 = .ok (.lload 9, 2) := by decide +kernel
theorem dX1_oneMoreGains_82 : decode cX1_oneMoreGains 82 = .ok (.lmul, 1) := by decide +kernel
theorem dX1_oneMoreGains_83 : decode cX1_oneMoreGains 83 = .ok (.lcmp, 1) := by decide +kernel
theorem dX1_oneMoreGains_84 : decode cX1_oneMoreGains 84 = .ok (.ifCond .le 7, 3) := by decide +kernel
theorem dX1_oneMoreGains_87 : decode cX1_oneMoreGains 87 = .ok (.iconst 1, 1) := by decide +kernel
theorem dX1_oneMoreGains_88 : decode cX1_oneMoreGains 88 = .ok (.goto 4, 3) := by decide +kernel
theorem dX1_oneMoreGains_91 : decode cX1_oneMoreGains 91 = .ok (.iconst 0, 1) := by decide +kernel
theorem dX1_oneMoreGains_92 : decode cX1_oneMoreGains 92 = .ok (.ireturn, 1) := by decide +kernel
theorem dX1_limitingPart_0 : decode cX1_limitingPart 0 = .ok (.iconst (-1), 1) := by decide +kernel
theorem dX1_limitingPart_1 : decode cX1_limitingPart 1 = .ok (.istore 5, 2) := by decide +kernel
theorem dX1_limitingPart_3 : decode cX1_limitingPart 3 = .ok (.iconst 0, 1) := by decide +kernel
theorem dX1_limitingPart_4 : decode cX1_limitingPart 4 = .ok (.istore 6, 2) := by decide +kernel
theorem dX1_limitingPart_6 : decode cX1_limitingPart 6 = .ok (.iload 6, 2) := by decide +kernel
theorem dX1_limitingPart_8 : decode cX1_limitingPart 8 = .ok (.aload_n 0, 1) := by decide +kernel
theorem dX1_limitingPart_9 : decode cX1_limitingPart 9 = .ok (.getfield 48, 3) := by decide +kernel
theorem dX1_limitingPart_12 : decode cX1_limitingPart 12 = .ok (.if_icmp .ge 72, 3) := by decide +kernel
theorem dX1_limitingPart_15 : decode cX1_limitingPart 15 = .ok (.aload_n 0, 1) := by decide +kernel
theorem dX1_limitingPart_16 : decode cX1_limitingPart 16 = .ok (.iload_n 2, 1) := by decide +kernel
theorem dX1_limitingPart_17 : decode cX1_limitingPart 17 = .ok (.iload 6, 2) := by decide +kernel
theorem dX1_limitingPart_19 : decode cX1_limitingPart 19 = .ok (.invokevirtual 82, 3) := by decide +kernel
theorem dX1_limitingPart_22 : decode cX1_limitingPart 22 = .ok (.i2l, 1) := by decide +kernel
theorem dX1_limitingPart_23 : decode cX1_limitingPart 23 = .ok (.lstore 7, 2) := by decide +kernel
theorem dX1_limitingPart_25 : decode cX1_limitingPart 25 = .ok (.lload 7, 2) := by decide +kernel
theorem dX1_limitingPart_27 : decode cX1_limitingPart 27 = .ok (.lconst 0, 1) := by decide +kernel
theorem dX1_limitingPart_28 : decode cX1_limitingPart 28 = .ok (.lcmp, 1) := by decide +kernel
theorem dX1_limitingPart_29 : decode cX1_limitingPart 29 = .ok (.ifCond .le 49, 3) := by decide +kernel
theorem dX1_limitingPart_32 : decode cX1_limitingPart 32 = .ok (.iload 5, 2) := by decide +kernel
theorem dX1_limitingPart_34 : decode cX1_limitingPart 34 = .ok (.iconst (-1), 1) := by decide +kernel
theorem dX1_limitingPart_35 : decode cX1_limitingPart 35 = .ok (.if_icmp .eq 39, 3) := by decide +kernel
theorem dX1_limitingPart_38 : decode cX1_limitingPart 38 = .ok (.aload_n 0, 1) := by decide +kernel
theorem dX1_limitingPart_39 : decode cX1_limitingPart 39 = .ok (.iload_n 1, 1) := by decide +kernel
theorem dX1_limitingPart_40 : decode cX1_limitingPart 40 = .ok (.aload_n 3, 1) := by decide +kernel
theorem dX1_limitingPart_41 : decode cX1_limitingPart 41 = .ok (.iload 6, 2) := by decide +kernel
theorem dX1_limitingPart_43 : decode cX1_limitingPart 43 = .ok (.iload 4, 2) := by decide +kernel
theorem dX1_limitingPart_45 : decode cX1_limitingPart 45 = .ok (.invokevirtual 114, 3) := by decide +kernel
theorem dX1_limitingPart_48 : decode cX1_limitingPart 48 = .ok (.aload_n 0, 1) := by decide +kernel
theorem dX1_limitingPart_49 : decode cX1_limitingPart 49 = .ok (.iload_n 2, 1) := by decide +kernel
theorem dX1_limitingPart_50 : decode cX1_limitingPart 50 = .ok (.iload 5, 2) := by decide +kernel
theorem dX1_limitingPart_52 : decode cX1_limitingPart 52 = .ok (.invokevirtual 82, 3) := by decide +kernel
theorem dX1_limitingPart_55 : decode cX1_limitingPart 55 = .ok (.i2l, 1) := by decide +kernel
theorem dX1_limitingPart_56 : decode cX1_limitingPart 56 = .ok (.lmul, 1) := by decide +kernel
theorem dX1_limitingPart_57 : decode cX1_limitingPart 57 = .ok (.aload_n 0, 1) := by decide +kernel
theorem dX1_limitingPart_58 : decode cX1_limitingPart 58 = .ok (.iload_n 1, 1) := by decide +kernel
theorem dX1_limitingPart_59 : decode cX1_limitingPart 59 = .ok (.aload_n 3, 1) := by decide +kernel
theorem dX1_limitingPart_60 : decode cX1_limitingPart 60 = .ok (.iload 5, 2) := by decide +kernel
theorem dX1_limitingPart_62 : decode cX1_limitingPart 62 = .ok (.iload 4, 2) := by decide +kernel
theorem dX1_limitingPart_64 : decode cX1_limitingPart 64 = .ok (.invokevirtual 114, 3) := by decide +kernel
theorem dX1_limitingPart_67 : decode cX1_limitingPart 67 = .ok (.lload 7, 2) := by decide +kernel
theorem dX1_limitingPart_69 : decode cX1_limitingPart 69 = .ok (.lmul, 1) := by decide +kernel
theorem dX1_limitingPart_70 : decode cX1_limitingPart 70 = .ok (.lcmp, 1) := by decide +kernel
theorem dX1_limitingPart_71 : decode cX1_limitingPart 71 = .ok (.ifCond .ge 7, 3) := by decide +kernel
theorem dX1_limitingPart_74 : decode cX1_limitingPart 74 = .ok (.iload 6, 2) := by decide +kernel
theorem dX1_limitingPart_76 : decode cX1_limitingPart 76 = .ok (.istore 5, 2) := by decide +kernel
theorem dX1_limitingPart_78 : decode cX1_limitingPart 78 = .ok (.iinc 6 1, 3) := by decide +kernel
theorem dX1_limitingPart_81 : decode cX1_limitingPart 81 = .ok (.goto (-75), 3) := by decide +kernel
theorem dX1_limitingPart_84 : decode cX1_limitingPart 84 = .ok (.iload 5, 2) := by decide +kernel
theorem dX1_limitingPart_86 : decode cX1_limitingPart 86 = .ok (.ireturn, 1) := by decide +kernel
theorem dX1_leftAfter_0 : decode cX1_leftAfter 0 = .ok (.iload_n 3, 1) := by decide +kernel
theorem dX1_leftAfter_1 : decode cX1_leftAfter 1 = .ok (.aload_n 2, 1) := by decide +kernel
theorem dX1_leftAfter_2 : decode cX1_leftAfter 2 = .ok (.arraylength, 1) := by decide +kernel
theorem dX1_leftAfter_3 : decode cX1_leftAfter 3 = .ok (.invokestatic 92, 3) := by decide +kernel
theorem dX1_leftAfter_6 : decode cX1_leftAfter 6 = .ok (.ifCond .eq 22, 3) := by decide +kernel
theorem dX1_leftAfter_9 : decode cX1_leftAfter 9 = .ok (.aload_n 2, 1) := by decide +kernel
theorem dX1_leftAfter_10 : decode cX1_leftAfter 10 = .ok (.iload_n 3, 1) := by decide +kernel
theorem dX1_leftAfter_11 : decode cX1_leftAfter 11 = .ok (.iaload, 1) := by decide +kernel
theorem dX1_leftAfter_12 : decode cX1_leftAfter 12 = .ok (.i2l, 1) := by decide +kernel
theorem dX1_leftAfter_13 : decode cX1_leftAfter 13 = .ok (.iload 4, 2) := by decide +kernel
theorem dX1_leftAfter_15 : decode cX1_leftAfter 15 = .ok (.i2l, 1) := by decide +kernel
theorem dX1_leftAfter_16 : decode cX1_leftAfter 16 = .ok (.aload_n 0, 1) := by decide +kernel
theorem dX1_leftAfter_17 : decode cX1_leftAfter 17 = .ok (.iload_n 1, 1) := by decide +kernel
theorem dX1_leftAfter_18 : decode cX1_leftAfter 18 = .ok (.iload_n 3, 1) := by decide +kernel
theorem dX1_leftAfter_19 : decode cX1_leftAfter 19 = .ok (.invokevirtual 82, 3) := by decide +kernel
theorem dX1_leftAfter_22 : decode cX1_leftAfter 22 = .ok (.i2l, 1) := by decide +kernel
theorem dX1_leftAfter_23 : decode cX1_leftAfter 23 = .ok (.lmul, 1) := by decide +kernel
theorem dX1_leftAfter_24 : decode cX1_leftAfter 24 = .ok (.lsub, 1) := by decide +kernel
theorem dX1_leftAfter_25 : decode cX1_leftAfter 25 = .ok (.goto 4, 3) := by decide +kernel
theorem dX1_leftAfter_28 : decode cX1_leftAfter 28 = .ok (.lconst 0, 1) := by decide +kernel
theorem dX1_leftAfter_29 : decode cX1_leftAfter 29 = .ok (.lreturn, 1) := by decide +kernel
theorem dX2_begin_0 : decode cX2_begin 0 = .ok (.aload_n 0, 1) := by decide +kernel
theorem dX2_begin_1 : decode cX2_begin 1 = .ok (.iconst 0, 1) := by decide +kernel
theorem dX2_begin_2 : decode cX2_begin 2 = .ok (.putfield 15, 3) := by decide +kernel
theorem dX2_begin_5 : decode cX2_begin 5 = .ok (.aload_n 0, 1) := by decide +kernel
theorem dX2_begin_6 : decode cX2_begin 6 = .ok (.lload_n 1, 1) := by decide +kernel
theorem dX2_begin_7 : decode cX2_begin 7 = .ok (.invokevirtual 19, 3) := by decide +kernel
theorem dX2_begin_10 : decode cX2_begin 10 = .ok (.return_, 1) := by decide +kernel
theorem dX2_byteAt_0 : decode cX2_byteAt 0 = .ok (.iload_n 1, 1) := by decide +kernel
theorem dX2_byteAt_1 : decode cX2_byteAt 1 = .ok (.aload_n 0, 1) := by decide +kernel
theorem dX2_byteAt_2 : decode cX2_byteAt 2 = .ok (.getfield 15, 3) := by decide +kernel
theorem dX2_byteAt_5 : decode cX2_byteAt 5 = .ok (.invokestatic 23, 3) := by decide +kernel
theorem dX2_byteAt_8 : decode cX2_byteAt 8 = .ok (.ifCond .eq 19, 3) := by decide +kernel
theorem dX2_byteAt_11 : decode cX2_byteAt 11 = .ok (.iload_n 1, 1) := by decide +kernel
theorem dX2_byteAt_12 : decode cX2_byteAt 12 = .ok (.sipush 200, 3) := by decide +kernel
theorem dX2_byteAt_15 : decode cX2_byteAt 15 = .ok (.if_icmp .ge 12, 3) := by decide +kernel
theorem dX2_byteAt_18 : decode cX2_byteAt 18 = .ok (.aload_n 0, 1) := by decide +kernel
theorem dX2_byteAt_19 : decode cX2_byteAt 19 = .ok (.getfield 9, 3) := by decide +kernel
theorem dX2_byteAt_22 : decode cX2_byteAt 22 = .ok (.iload_n 1, 1) := by decide +kernel
theorem dX2_byteAt_23 : decode cX2_byteAt 23 = .ok (.baload, 1) := by decide +kernel
theorem dX2_byteAt_24 : decode cX2_byteAt 24 = .ok (.goto 4, 3) := by decide +kernel
theorem dX2_byteAt_27 : decode cX2_byteAt 27 = .ok (.iconst (-1), 1) := by decide +kernel
theorem dX2_byteAt_28 : decode cX2_byteAt 28 = .ok (.ireturn, 1) := by decide +kernel
theorem dX2_put_0 : decode cX2_put 0 = .ok (.aload_n 0, 1) := by decide +kernel
theorem dX2_put_1 : decode cX2_put 1 = .ok (.getfield 15, 3) := by decide +kernel
theorem dX2_put_4 : decode cX2_put 4 = .ok (.sipush 200, 3) := by decide +kernel
theorem dX2_put_7 : decode cX2_put 7 = .ok (.invokestatic 23, 3) := by decide +kernel
theorem dX2_put_10 : decode cX2_put 10 = .ok (.ifCond .eq 24, 3) := by decide +kernel
theorem dX2_put_13 : decode cX2_put 13 = .ok (.aload_n 0, 1) := by decide +kernel
theorem dX2_put_14 : decode cX2_put 14 = .ok (.getfield 9, 3) := by decide +kernel
theorem dX2_put_17 : decode cX2_put 17 = .ok (.aload_n 0, 1) := by decide +kernel
theorem dX2_put_18 : decode cX2_put 18 = .ok (.getfield 15, 3) := by decide +kernel
theorem dX2_put_21 : decode cX2_put 21 = .ok (.iload_n 1, 1) := by decide +kernel
theorem dX2_put_22 : decode cX2_put 22 = .ok (.i2b, 1) := by decide +kernel
theorem dX2_put_23 : decode cX2_put 23 = .ok (.bastore, 1) := by decide +kernel
theorem dX2_put_24 : decode cX2_put 24 = .ok (.aload_n 0, 1) := by decide +kernel
theorem dX2_put_25 : decode cX2_put 25 = .ok (.dup, 1) := by decide +kernel
theorem dX2_put_26 : decode cX2_put 26 = .ok (.getfield 15, 3) := by decide +kernel
theorem dX2_put_29 : decode cX2_put 29 = .ok (.iconst 1, 1) := by decide +kernel
theorem dX2_put_30 : decode cX2_put 30 = .ok (.iadd, 1) := by decide +kernel
theorem dX2_put_31 : decode cX2_put 31 = .ok (.putfield 15, 3) := by decide +kernel
theorem dX2_put_34 : decode cX2_put 34 = .ok (.return_, 1) := by decide +kernel
theorem dX2_putName_0 : decode cX2_putName 0 = .ok (.bipush 56, 2) := by decide +kernel
theorem dX2_putName_2 : decode cX2_putName 2 = .ok (.istore_n 3, 1) := by decide +kernel
theorem dX2_putName_3 : decode cX2_putName 3 = .ok (.iload_n 3, 1) := by decide +kernel
theorem dX2_putName_4 : decode cX2_putName 4 = .ok (.ifCond .lt 30, 3) := by decide +kernel
theorem dX2_putName_7 : decode cX2_putName 7 = .ok (.lload_n 1, 1) := by decide +kernel
theorem dX2_putName_8 : decode cX2_putName 8 = .ok (.iload_n 3, 1) := by decide +kernel
theorem dX2_putName_9 : decode cX2_putName 9 = .ok (.lushr, 1) := by decide +kernel
theorem dX2_putName_10 : decode cX2_putName 10 = .ok (.l2i, 1) := by decide +kernel
theorem dX2_putName_11 : decode cX2_putName 11 = .ok (.sipush 255, 3) := by decide +kernel
theorem dX2_putName_14 : decode cX2_putName 14 = .ok (.iand, 1) := by decide +kernel
theorem dX2_putName_15 : decode cX2_putName 15 = .ok (.istore 4, 2) := by decide +kernel
theorem dX2_putName_17 : decode cX2_putName 17 = .ok (.iload 4, 2) := by decide +kernel
theorem dX2_putName_19 : decode cX2_putName 19 = .ok (.ifCond .eq 9, 3) := by decide +kernel
theorem dX2_putName_22 : decode cX2_putName 22 = .ok (.aload_n 0, 1) := by decide +kernel
theorem dX2_putName_23 : decode cX2_putName 23 = .ok (.iload 4, 2) := by decide +kernel
theorem dX2_putName_25 : decode cX2_putName 25 = .ok (.invokevirtual 27, 3) := by decide +kernel
theorem dX2_putName_28 : decode cX2_putName 28 = .ok (.iinc 3 (-8), 3) := by decide +kernel
theorem dX2_putName_31 : decode cX2_putName 31 = .ok (.goto (-28), 3) := by decide +kernel
theorem dX2_putName_34 : decode cX2_putName 34 = .ok (.return_, 1) := by decide +kernel
theorem dX2_putText_0 : decode cX2_putText 0 = .ok (.iconst 0, 1) := by decide +kernel
theorem dX2_putText_1 : decode cX2_putText 1 = .ok (.istore_n 2, 1) := by decide +kernel
theorem dX2_putText_2 : decode cX2_putText 2 = .ok (.iload_n 2, 1) := by decide +kernel
theorem dX2_putText_3 : decode cX2_putText 3 = .ok (.aload_n 1, 1) := by decide +kernel
theorem dX2_putText_4 : decode cX2_putText 4 = .ok (.invokevirtual 31, 3) := by decide +kernel
theorem dX2_putText_7 : decode cX2_putText 7 = .ok (.if_icmp .ge 18, 3) := by decide +kernel
theorem dX2_putText_10 : decode cX2_putText 10 = .ok (.aload_n 0, 1) := by decide +kernel
theorem dX2_putText_11 : decode cX2_putText 11 = .ok (.aload_n 1, 1) := by decide +kernel
theorem dX2_putText_12 : decode cX2_putText 12 = .ok (.iload_n 2, 1) := by decide +kernel
theorem dX2_putText_13 : decode cX2_putText 13 = .ok (.invokevirtual 36, 3) := by decide +kernel
theorem dX2_putText_16 : decode cX2_putText 16 = .ok (.invokevirtual 27, 3) := by decide +kernel
theorem dX2_putText_19 : decode cX2_putText 19 = .ok (.iinc 2 1, 3) := by decide +kernel
theorem dX2_putText_22 : decode cX2_putText 22 = .ok (.goto (-20), 3) := by decide +kernel
theorem dX2_putText_25 : decode cX2_putText 25 = .ok (.return_, 1) := by decide +kernel
theorem dX2_putNumbered_0 : decode cX2_putNumbered 0 = .ok (.aload_n 0, 1) := by decide +kernel
theorem dX2_putNumbered_1 : decode cX2_putNumbered 1 = .ok (.aload_n 1, 1) := by decide +kernel
theorem dX2_putNumbered_2 : decode cX2_putNumbered 2 = .ok (.invokevirtual 40, 3) := by decide +kernel
theorem dX2_putNumbered_5 : decode cX2_putNumbered 5 = .ok (.iconst 0, 1) := by decide +kernel
theorem dX2_putNumbered_6 : decode cX2_putNumbered 6 = .ok (.istore_n 3, 1) := by decide +kernel
theorem dX2_putNumbered_7 : decode cX2_putNumbered 7 = .ok (.ldc 44, 2) := by decide +kernel
theorem dX2_putNumbered_9 : decode cX2_putNumbered 9 = .ok (.istore 4, 2) := by decide +kernel
theorem dX2_putNumbered_11 : decode cX2_putNumbered 11 = .ok (.iload 4, 2) := by decide +kernel
theorem dX2_putNumbered_13 : decode cX2_putNumbered 13 = .ok (.ifCond .le 56, 3) := by decide +kernel
theorem dX2_putNumbered_16 : decode cX2_putNumbered 16 = .ok (.iload_n 2, 1) := by decide +kernel
theorem dX2_putNumbered_17 : decode cX2_putNumbered 17 = .ok (.iload 4, 2) := by decide +kernel
theorem dX2_putNumbered_19 : decode cX2_putNumbered 19 = .ok (.idiv, 1) := by decide +kernel
theorem dX2_putNumbered_20 : decode cX2_putNumbered 20 = .ok (.bipush 10, 2) := by decide +kernel
theorem dX2_putNumbered_22 : decode cX2_putNumbered 22 = .ok (.irem, 1) := by decide +kernel
theorem dX2_putNumbered_23 : decode cX2_putNumbered 23 = .ok (.istore 5, 2) := by decide +kernel
theorem dX2_putNumbered_25 : decode cX2_putNumbered 25 = .ok (.iload_n 3, 1) := by decide +kernel
theorem dX2_putNumbered_26 : decode cX2_putNumbered 26 = .ok (.ifCond .ne 14, 3) := by decide +kernel
theorem dX2_putNumbered_29 : decode cX2_putNumbered 29 = .ok (.iload 5, 2) := by decide +kernel
theorem dX2_putNumbered_31 : decode cX2_putNumbered 31 = .ok (.ifCond .ne 9, 3) := by decide +kernel
theorem dX2_putNumbered_34 : decode cX2_putNumbered 34 = .ok (.iload 4, 2) := by decide +kernel
theorem dX2_putNumbered_36 : decode cX2_putNumbered 36 = .ok (.iconst 1, 1) := by decide +kernel
theorem dX2_putNumbered_37 : decode cX2_putNumbered 37 = .ok (.if_icmp .ne 7, 3) := by decide +kernel
theorem dX2_putNumbered_40 : decode cX2_putNumbered 40 = .ok (.iconst 1, 1) := by decide +kernel
theorem dX2_putNumbered_41 : decode cX2_putNumbered 41 = .ok (.goto 4, 3) := by decide +kernel
theorem dX2_putNumbered_44 : decode cX2_putNumbered 44 = .ok (.iconst 0, 1) := by decide +kernel
theorem dX2_putNumbered_45 : decode cX2_putNumbered 45 = .ok (.istore_n 3, 1) := by decide +kernel
theorem dX2_putNumbered_46 : decode cX2_putNumbered 46 = .ok (.iload_n 3, 1) := by decide +kernel
theorem dX2_putNumbered_47 : decode cX2_putNumbered 47 = .ok (.ifCond .eq 12, 3) := by decide +kernel
theorem dX2_putNumbered_50 : decode cX2_putNumbered 50 = .ok (.aload_n 0, 1) := by decide +kernel
theorem dX2_putNumbered_51 : decode cX2_putNumbered 51 = .ok (.bipush 48, 2) := by decide +kernel
theorem dX2_putNumbered_53 : decode cX2_putNumbered 53 = .ok (.iload 5, 2) := by decide +kernel
theorem dX2_putNumbered_55 : decode cX2_putNumbered 55 = .ok (.iadd, 1) := by decide +kernel
theorem dX2_putNumbered_56 : decode cX2_putNumbered 56 = .ok (.invokevirtual 27, 3) := by decide +kernel
theorem dX2_putNumbered_59 : decode cX2_putNumbered 59 = .ok (.iload 4, 2) := by decide +kernel
theorem dX2_putNumbered_61 : decode cX2_putNumbered 61 = .ok (.bipush 10, 2) := by decide +kernel
theorem dX2_putNumbered_63 : decode cX2_putNumbered 63 = .ok (.idiv, 1) := by decide +kernel
theorem dX2_putNumbered_64 : decode cX2_putNumbered 64 = .ok (.istore 4, 2) := by decide +kernel
theorem dX2_putNumbered_66 : decode cX2_putNumbered 66 = .ok (.goto (-55), 3) := by decide +kernel
theorem dX2_putNumbered_69 : decode cX2_putNumbered 69 = .ok (.return_, 1) := by decide +kernel
theorem dX3_forget_0 : decode cX3_forget 0 = .ok (.aload_n 0, 1) := by decide +kernel
theorem dX3_forget_1 : decode cX3_forget 1 = .ok (.iconst 0, 1) := by decide +kernel
theorem dX3_forget_2 : decode cX3_forget 2 = .ok (.putfield 18, 3) := by decide +kernel
theorem dX3_forget_5 : decode cX3_forget 5 = .ok (.return_, 1) := by decide +kernel
theorem dX3_record_0 : decode cX3_record 0 = .ok (.aload_n 0, 1) := by decide +kernel
theorem dX3_record_1 : decode cX3_record 1 = .ok (.getfield 11, 3) := by decide +kernel
theorem dX3_record_4 : decode cX3_record 4 = .ok (.aload_n 0, 1) := by decide +kernel
theorem dX3_record_5 : decode cX3_record 5 = .ok (.getfield 22, 3) := by decide +kernel
theorem dX3_record_8 : decode cX3_record 8 = .ok (.bipush 12, 2) := by decide +kernel
theorem dX3_record_10 : decode cX3_record 10 = .ok (.invokestatic 25, 3) := by decide +kernel
theorem dX3_record_13 : decode cX3_record 13 = .ok (.aaload, 1) := by decide +kernel
theorem dX3_record_14 : decode cX3_record 14 = .ok (.astore_n 2, 1) := by decide +kernel
theorem dX3_record_15 : decode cX3_record 15 = .ok (.aload_n 2, 1) := by decide +kernel
theorem dX3_record_16 : decode cX3_record 16 = .ok (.ifnull 38, 3) := by decide +kernel
theorem dX3_record_19 : decode cX3_record 19 = .ok (.aload_n 2, 1) := by decide +kernel
theorem dX3_record_20 : decode cX3_record 20 = .ok (.aload_n 1, 1) := by decide +kernel
theorem dX3_record_21 : decode cX3_record 21 = .ok (.invokevirtual 31, 3) := by decide +kernel
theorem dX3_record_24 : decode cX3_record 24 = .ok (.aload_n 0, 1) := by decide +kernel
theorem dX3_record_25 : decode cX3_record 25 = .ok (.aload_n 0, 1) := by decide +kernel
theorem dX3_record_26 : decode cX3_record 26 = .ok (.getfield 22, 3) := by decide +kernel
theorem dX3_record_29 : decode cX3_record 29 = .ok (.iconst 1, 1) := by decide +kernel
theorem dX3_record_30 : decode cX3_record 30 = .ok (.iadd, 1) := by decide +kernel
theorem dX3_record_31 : decode cX3_record 31 = .ok (.bipush 12, 2) := by decide +kernel
theorem dX3_record_33 : decode cX3_record 33 = .ok (.invokestatic 25, 3) := by decide +kernel
theorem dX3_record_36 : decode cX3_record 36 = .ok (.putfield 22, 3) := by decide +kernel
theorem dX3_record_39 : decode cX3_record 39 = .ok (.aload_n 0, 1) := by decide +kernel
theorem dX3_record_40 : decode cX3_record 40 = .ok (.aload_n 0, 1) := by decide +kernel
theorem dX3_record_41 : decode cX3_record 41 = .ok (.getfield 18, 3) := by decide +kernel
theorem dX3_record_44 : decode cX3_record 44 = .ok (.iconst 1, 1) := by decide +kernel
theorem dX3_record_45 : decode cX3_record 45 = .ok (.iadd, 1) := by decide +kernel
theorem dX3_record_46 : decode cX3_record 46 = .ok (.bipush 12, 2) := by decide +kernel
theorem dX3_record_48 : decode cX3_record 48 = .ok (.invokestatic 35, 3) := by decide +kernel
theorem dX3_record_51 : decode cX3_record 51 = .ok (.putfield 18, 3) := by decide +kernel
theorem dX3_record_54 : decode cX3_record 54 = .ok (.return_, 1) := by decide +kernel
theorem dX3_takeBack_0 : decode cX3_takeBack 0 = .ok (.aload_n 0, 1) := by decide +kernel
theorem dX3_takeBack_1 : decode cX3_takeBack 1 = .ok (.getfield 22, 3) := by decide +kernel
theorem dX3_takeBack_4 : decode cX3_takeBack 4 = .ok (.iconst 1, 1) := by decide +kernel
theorem dX3_takeBack_5 : decode cX3_takeBack 5 = .ok (.isub, 1) := by decide +kernel
theorem dX3_takeBack_6 : decode cX3_takeBack 6 = .ok (.bipush 12, 2) := by decide +kernel
theorem dX3_takeBack_8 : decode cX3_takeBack 8 = .ok (.invokestatic 25, 3) := by decide +kernel
theorem dX3_takeBack_11 : decode cX3_takeBack 11 = .ok (.istore_n 2, 1) := by decide +kernel
theorem dX3_takeBack_12 : decode cX3_takeBack 12 = .ok (.aload_n 0, 1) := by decide +kernel
theorem dX3_takeBack_13 : decode cX3_takeBack 13 = .ok (.getfield 11, 3) := by decide +kernel
theorem dX3_takeBack_16 : decode cX3_takeBack 16 = .ok (.iload_n 2, 1) := by decide +kernel
theorem dX3_takeBack_17 : decode cX3_takeBack 17 = .ok (.aaload, 1) := by decide +kernel
theorem dX3_takeBack_18 : decode cX3_takeBack 18 = .ok (.astore_n 3, 1) := by decide +kernel
theorem dX3_takeBack_19 : decode cX3_takeBack 19 = .ok (.aload_n 0, 1) := by decide +kernel
theorem dX3_takeBack_20 : decode cX3_takeBack 20 = .ok (.getfield 18, 3) := by decide +kernel
theorem dX3_takeBack_23 : decode cX3_takeBack 23 = .ok (.ifCond .eq 7, 3) := by decide +kernel
theorem dX3_takeBack_26 : decode cX3_takeBack 26 = .ok (.aload_n 3, 1) := by decide +kernel
theorem dX3_takeBack_27 : decode cX3_takeBack 27 = .ok (.ifnonnull 5, 3) := by decide +kernel
theorem dX3_takeBack_30 : decode cX3_takeBack 30 = .ok (.iconst 0, 1) := by decide +kernel
theorem dX3_takeBack_31 : decode cX3_takeBack 31 = .ok (.ireturn, 1) := by decide +kernel
theorem dX3_takeBack_32 : decode cX3_takeBack 32 = .ok (.aload_n 1, 1) := by decide +kernel
theorem dX3_takeBack_33 : decode cX3_takeBack 33 = .ok (.aload_n 3, 1) := by decide +kernel
theorem dX3_takeBack_34 : decode cX3_takeBack 34 = .ok (.invokevirtual 31, 3) := by decide +kernel
theorem dX3_takeBack_37 : decode cX3_takeBack 37 = .ok (.aload_n 0, 1) := by decide +kernel
theorem dX3_takeBack_38 : decode cX3_takeBack 38 = .ok (.iload_n 2, 1) := by decide +kernel
theorem dX3_takeBack_39 : decode cX3_takeBack 39 = .ok (.putfield 22, 3) := by decide +kernel
theorem dX3_takeBack_42 : decode cX3_takeBack 42 = .ok (.aload_n 0, 1) := by decide +kernel
theorem dX3_takeBack_43 : decode cX3_takeBack 43 = .ok (.dup, 1) := by decide +kernel
theorem dX3_takeBack_44 : decode cX3_takeBack 44 = .ok (.getfield 18, 3) := by decide +kernel
theorem dX3_takeBack_47 : decode cX3_takeBack 47 = .ok (.iconst 1, 1) := by decide +kernel
theorem dX3_takeBack_48 : decode cX3_takeBack 48 = .ok (.isub, 1) := by decide +kernel
theorem dX3_takeBack_49 : decode cX3_takeBack 49 = .ok (.putfield 18, 3) := by decide +kernel
theorem dX3_takeBack_52 : decode cX3_takeBack 52 = .ok (.iconst 1, 1) := by decide +kernel
theorem dX3_takeBack_53 : decode cX3_takeBack 53 = .ok (.ireturn, 1) := by decide +kernel
theorem dX4_hasRoomFor_0 : decode cX4_hasRoomFor 0 = .ok (.aload_n 0, 1) := by decide +kernel
theorem dX4_hasRoomFor_1 : decode cX4_hasRoomFor 1 = .ok (.getfield 15, 3) := by decide +kernel
theorem dX4_hasRoomFor_4 : decode cX4_hasRoomFor 4 = .ok (.iload_n 1, 1) := by decide +kernel
theorem dX4_hasRoomFor_5 : decode cX4_hasRoomFor 5 = .ok (.iadd, 1) := by decide +kernel
theorem dX4_hasRoomFor_6 : decode cX4_hasRoomFor 6 = .ok (.sipush 900, 3) := by decide +kernel
theorem dX4_hasRoomFor_9 : decode cX4_hasRoomFor 9 = .ok (.if_icmp .gt 7, 3) := by decide +kernel
theorem dX4_hasRoomFor_12 : decode cX4_hasRoomFor 12 = .ok (.iconst 1, 1) := by decide +kernel
theorem dX4_hasRoomFor_13 : decode cX4_hasRoomFor 13 = .ok (.goto 4, 3) := by decide +kernel
theorem dX4_hasRoomFor_16 : decode cX4_hasRoomFor 16 = .ok (.iconst 0, 1) := by decide +kernel
theorem dX4_hasRoomFor_17 : decode cX4_hasRoomFor 17 = .ok (.ireturn, 1) := by decide +kernel
theorem dX4_putWord_0 : decode cX4_putWord 0 = .ok (.bipush 24, 2) := by decide +kernel
theorem dX4_putWord_2 : decode cX4_putWord 2 = .ok (.istore_n 2, 1) := by decide +kernel
theorem dX4_putWord_3 : decode cX4_putWord 3 = .ok (.iload_n 2, 1) := by decide +kernel
theorem dX4_putWord_4 : decode cX4_putWord 4 = .ok (.ifCond .lt 45, 3) := by decide +kernel
theorem dX4_putWord_7 : decode cX4_putWord 7 = .ok (.aload_n 0, 1) := by decide +kernel
theorem dX4_putWord_8 : decode cX4_putWord 8 = .ok (.getfield 15, 3) := by decide +kernel
theorem dX4_putWord_11 : decode cX4_putWord 11 = .ok (.sipush 900, 3) := by decide +kernel
theorem dX4_putWord_14 : decode cX4_putWord 14 = .ok (.invokestatic 19, 3) := by decide +kernel
theorem dX4_putWord_17 : decode cX4_putWord 17 = .ok (.ifCond .eq 26, 3) := by decide +kernel
theorem dX4_putWord_20 : decode cX4_putWord 20 = .ok (.aload_n 0, 1) := by decide +kernel
theorem dX4_putWord_21 : decode cX4_putWord 21 = .ok (.getfield 9, 3) := by decide +kernel
theorem dX4_putWord_24 : decode cX4_putWord 24 = .ok (.aload_n 0, 1) := by decide +kernel
theorem dX4_putWord_25 : decode cX4_putWord 25 = .ok (.getfield 15, 3) := by decide +kernel
theorem dX4_putWord_28 : decode cX4_putWord 28 = .ok (.iload_n 1, 1) := by decide +kernel
theorem dX4_putWord_29 : decode cX4_putWord 29 = .ok (.iload_n 2, 1) := by decide +kernel
theorem dX4_putWord_30 : decode cX4_putWord 30 = .ok (.iushr, 1) := by decide +kernel
theorem dX4_putWord_31 : decode cX4_putWord 31 = .ok (.i2b, 1) := by decide +kernel
theorem dX4_putWord_32 : decode cX4_putWord 32 = .ok (.bastore, 1) := by decide +kernel
theorem dX4_putWord_33 : decode cX4_putWord 33 = .ok (.aload_n 0, 1) := by decide +kernel
theorem dX4_putWord_34 : decode cX4_putWord 34 = .ok (.dup, 1) := by decide +kernel
theorem dX4_putWord_35 : decode cX4_putWord 35 = .ok (.getfield 15, 3) := by decide +kernel
theorem dX4_putWord_38 : decode cX4_putWord 38 = .ok (.iconst 1, 1) := by decide +kernel
theorem dX4_putWord_39 : decode cX4_putWord 39 = .ok (.iadd, 1) := by decide +kernel
theorem dX4_putWord_40 : decode cX4_putWord 40 = .ok (.putfield 15, 3) := by decide +kernel
theorem dX4_putWord_43 : decode cX4_putWord 43 = .ok (.iinc 2 (-8), 3) := by decide +kernel
theorem dX4_putWord_46 : decode cX4_putWord 46 = .ok (.goto (-43), 3) := by decide +kernel
theorem dX4_putWord_49 : decode cX4_putWord 49 = .ok (.return_, 1) := by decide +kernel
theorem dX4_shorten_0 : decode cX4_shorten 0 = .ok (.iload_n 1, 1) := by decide +kernel
theorem dX4_shorten_1 : decode cX4_shorten 1 = .ok (.ifCond .lt 11, 3) := by decide +kernel
theorem dX4_shorten_4 : decode cX4_shorten 4 = .ok (.iload_n 1, 1) := by decide +kernel
theorem dX4_shorten_5 : decode cX4_shorten 5 = .ok (.aload_n 0, 1) := by decide +kernel
theorem dX4_shorten_6 : decode cX4_shorten 6 = .ok (.getfield 15, 3) := by decide +kernel
theorem dX4_shorten_9 : decode cX4_shorten 9 = .ok (.if_icmp .le 5, 3) := by decide +kernel
theorem dX4_shorten_12 : decode cX4_shorten 12 = .ok (.iconst 0, 1) := by decide +kernel
theorem dX4_shorten_13 : decode cX4_shorten 13 = .ok (.ireturn, 1) := by decide +kernel
theorem dX4_shorten_14 : decode cX4_shorten 14 = .ok (.aload_n 0, 1) := by decide +kernel
theorem dX4_shorten_15 : decode cX4_shorten 15 = .ok (.iload_n 1, 1) := by decide +kernel
theorem dX4_shorten_16 : decode cX4_shorten 16 = .ok (.putfield 15, 3) := by decide +kernel
theorem dX4_shorten_19 : decode cX4_shorten 19 = .ok (.iconst 1, 1) := by decide +kernel
theorem dX4_shorten_20 : decode cX4_shorten 20 = .ok (.ireturn, 1) := by decide +kernel
theorem dX4_signAt_0 : decode cX4_signAt 0 = .ok (.iload_n 1, 1) := by decide +kernel
theorem dX4_signAt_1 : decode cX4_signAt 1 = .ok (.ifCond .lt 31, 3) := by decide +kernel
theorem dX4_signAt_4 : decode cX4_signAt 4 = .ok (.iload_n 1, 1) := by decide +kernel
theorem dX4_signAt_5 : decode cX4_signAt 5 = .ok (.aload_n 0, 1) := by decide +kernel
theorem dX4_signAt_6 : decode cX4_signAt 6 = .ok (.getfield 15, 3) := by decide +kernel
theorem dX4_signAt_9 : decode cX4_signAt 9 = .ok (.if_icmp .ge 23, 3) := by decide +kernel
theorem dX4_signAt_12 : decode cX4_signAt 12 = .ok (.iload_n 1, 1) := by decide +kernel
theorem dX4_signAt_13 : decode cX4_signAt 13 = .ok (.sipush 900, 3) := by decide +kernel
theorem dX4_signAt_16 : decode cX4_signAt 16 = .ok (.if_icmp .ge 16, 3) := by decide +kernel
theorem dX4_signAt_19 : decode cX4_signAt 19 = .ok (.aload_n 0, 1) := by decide +kernel
theorem dX4_signAt_20 : decode cX4_signAt 20 = .ok (.getfield 9, 3) := by decide +kernel
theorem dX4_signAt_23 : decode cX4_signAt 23 = .ok (.iload_n 1, 1) := by decide +kernel
theorem dX4_signAt_24 : decode cX4_signAt 24 = .ok (.baload, 1) := by decide +kernel
theorem dX4_signAt_25 : decode cX4_signAt 25 = .ok (.sipush 255, 3) := by decide +kernel
theorem dX4_signAt_28 : decode cX4_signAt 28 = .ok (.iand, 1) := by decide +kernel
theorem dX4_signAt_29 : decode cX4_signAt 29 = .ok (.goto 4, 3) := by decide +kernel
theorem dX4_signAt_32 : decode cX4_signAt 32 = .ok (.iconst (-1), 1) := by decide +kernel
theorem dX4_signAt_33 : decode cX4_signAt 33 = .ok (.ireturn, 1) := by decide +kernel
theorem dX5_clear_0 : decode cX5_clear 0 = .ok (.aload_n 0, 1) := by decide +kernel
theorem dX5_clear_1 : decode cX5_clear 1 = .ok (.getfield 12, 3) := by decide +kernel
theorem dX5_clear_4 : decode cX5_clear 4 = .ok (.invokevirtual 32, 3) := by decide +kernel
theorem dX5_clear_7 : decode cX5_clear 7 = .ok (.aload_n 0, 1) := by decide +kernel
theorem dX5_clear_8 : decode cX5_clear 8 = .ok (.getfield 21, 3) := by decide +kernel
theorem dX5_clear_11 : decode cX5_clear 11 = .ok (.iconst 0, 1) := by decide +kernel
theorem dX5_clear_12 : decode cX5_clear 12 = .ok (.putfield 35, 3) := by decide +kernel
theorem dX5_clear_15 : decode cX5_clear 15 = .ok (.aload_n 0, 1) := by decide +kernel
theorem dX5_clear_16 : decode cX5_clear 16 = .ok (.getfield 28, 3) := by decide +kernel
theorem dX5_clear_19 : decode cX5_clear 19 = .ok (.invokevirtual 39, 3) := by decide +kernel
theorem dX5_clear_22 : decode cX5_clear 22 = .ok (.return_, 1) := by decide +kernel
theorem dX5_copyFrom_0 : decode cX5_copyFrom 0 = .ok (.aload_n 0, 1) := by decide +kernel
theorem dX5_copyFrom_1 : decode cX5_copyFrom 1 = .ok (.getfield 12, 3) := by decide +kernel
theorem dX5_copyFrom_4 : decode cX5_copyFrom 4 = .ok (.aload_n 1, 1) := by decide +kernel
theorem dX5_copyFrom_5 : decode cX5_copyFrom 5 = .ok (.getfield 12, 3) := by decide +kernel
theorem dX5_copyFrom_8 : decode cX5_copyFrom 8 = .ok (.invokevirtual 40, 3) := by decide +kernel
theorem dX5_copyFrom_11 : decode cX5_copyFrom 11 = .ok (.aload_n 0, 1) := by decide +kernel
theorem dX5_copyFrom_12 : decode cX5_copyFrom 12 = .ok (.getfield 21, 3) := by decide +kernel
theorem dX5_copyFrom_15 : decode cX5_copyFrom 15 = .ok (.aload_n 1, 1) := by decide +kernel
theorem dX5_copyFrom_16 : decode cX5_copyFrom 16 = .ok (.getfield 21, 3) := by decide +kernel
theorem dX5_copyFrom_19 : decode cX5_copyFrom 19 = .ok (.invokevirtual 44, 3) := by decide +kernel
theorem dX5_copyFrom_22 : decode cX5_copyFrom 22 = .ok (.aload_n 0, 1) := by decide +kernel
theorem dX5_copyFrom_23 : decode cX5_copyFrom 23 = .ok (.getfield 28, 3) := by decide +kernel
theorem dX5_copyFrom_26 : decode cX5_copyFrom 26 = .ok (.aload_n 1, 1) := by decide +kernel
theorem dX5_copyFrom_27 : decode cX5_copyFrom 27 = .ok (.getfield 28, 3) := by decide +kernel
theorem dX5_copyFrom_30 : decode cX5_copyFrom 30 = .ok (.invokevirtual 47, 3) := by decide +kernel
theorem dX5_copyFrom_33 : decode cX5_copyFrom 33 = .ok (.return_, 1) := by decide +kernel
theorem dX5_openPieces_0 : decode cX5_openPieces 0 = .ok (.iconst 0, 1) := by decide +kernel
theorem dX5_openPieces_1 : decode cX5_openPieces 1 = .ok (.istore_n 3, 1) := by decide +kernel
theorem dX5_openPieces_2 : decode cX5_openPieces 2 = .ok (.iconst 0, 1) := by decide +kernel
theorem dX5_openPieces_3 : decode cX5_openPieces 3 = .ok (.istore 4, 2) := by decide +kernel
theorem dX5_openPieces_5 : decode cX5_openPieces 5 = .ok (.iload 4, 2) := by decide +kernel
theorem dX5_openPieces_7 : decode cX5_openPieces 7 = .ok (.aload_n 0, 1) := by decide +kernel
theorem dX5_openPieces_8 : decode cX5_openPieces 8 = .ok (.getfield 21, 3) := by decide +kernel
theorem dX5_openPieces_11 : decode cX5_openPieces 11 = .ok (.getfield 35, 3) := by decide +kernel
theorem dX5_openPieces_14 : decode cX5_openPieces 14 = .ok (.if_icmp .ge 36, 3) := by decide +kernel
theorem dX5_openPieces_17 : decode cX5_openPieces 17 = .ok (.iload_n 3, 1) := by decide +kernel
theorem dX5_openPieces_18 : decode cX5_openPieces 18 = .ok (.aload_n 0, 1) := by decide +kernel
theorem dX5_openPieces_19 : decode cX5_openPieces 19 = .ok (.getfield 21, 3) := by decide +kernel
theorem dX5_openPieces_22 : decode cX5_openPieces 22 = .ok (.iload 4, 2) := by decide +kernel
theorem dX5_openPieces_24 : decode cX5_openPieces 24 = .ok (.invokevirtual 50, 3) := by decide +kernel
theorem dX5_openPieces_27 : decode cX5_openPieces 27 = .ok (.aload_n 1, 1) := by decide +kernel
theorem dX5_openPieces_28 : decode cX5_openPieces 28 = .ok (.aload_n 0, 1) := by decide +kernel
theorem dX5_openPieces_29 : decode cX5_openPieces 29 = .ok (.getfield 21, 3) := by decide +kernel
theorem dX5_openPieces_32 : decode cX5_openPieces 32 = .ok (.iload 4, 2) := by decide +kernel
theorem dX5_openPieces_34 : decode cX5_openPieces 34 = .ok (.invokevirtual 54, 3) := by decide +kernel
theorem dX5_openPieces_37 : decode cX5_openPieces 37 = .ok (.iload_n 2, 1) := by decide +kernel
theorem dX5_openPieces_38 : decode cX5_openPieces 38 = .ok (.invokevirtual 57, 3) := by decide +kernel
theorem dX5_openPieces_41 : decode cX5_openPieces 41 = .ok (.imul, 1) := by decide +kernel
theorem dX5_openPieces_42 : decode cX5_openPieces 42 = .ok (.iadd, 1) := by decide +kernel
theorem dX5_openPieces_43 : decode cX5_openPieces 43 = .ok (.istore_n 3, 1) := by decide +kernel
theorem dX5_openPieces_44 : decode cX5_openPieces 44 = .ok (.iinc 4 1, 3) := by decide +kernel
theorem dX5_openPieces_47 : decode cX5_openPieces 47 = .ok (.goto (-42), 3) := by decide +kernel
theorem dX5_openPieces_50 : decode cX5_openPieces 50 = .ok (.iload_n 3, 1) := by decide +kernel
theorem dX5_openPieces_51 : decode cX5_openPieces 51 = .ok (.ireturn, 1) := by decide +kernel
theorem dX5_changeReserved_0 : decode cX5_changeReserved 0 = .ok (.aload_n 0, 1) := by decide +kernel
theorem dX5_changeReserved_1 : decode cX5_changeReserved 1 = .ok (.getfield 21, 3) := by decide +kernel
theorem dX5_changeReserved_4 : decode cX5_changeReserved 4 = .ok (.iload_n 2, 1) := by decide +kernel
theorem dX5_changeReserved_5 : decode cX5_changeReserved 5 = .ok (.invokevirtual 54, 3) := by decide +kernel
theorem dX5_changeReserved_8 : decode cX5_changeReserved 8 = .ok (.istore 4, 2) := by decide +kernel
theorem dX5_changeReserved_10 : decode cX5_changeReserved 10 = .ok (.aload_n 0, 1) := by decide +kernel
theorem dX5_changeReserved_11 : decode cX5_changeReserved 11 = .ok (.getfield 21, 3) := by decide +kernel
theorem dX5_changeReserved_14 : decode cX5_changeReserved 14 = .ok (.iload_n 2, 1) := by decide +kernel
theorem dX5_changeReserved_15 : decode cX5_changeReserved 15 = .ok (.iload_n 3, 1) := by decide +kernel
theorem dX5_changeReserved_16 : decode cX5_changeReserved 16 = .ok (.invokevirtual 63, 3) := by decide +kernel
theorem dX5_changeReserved_19 : decode cX5_changeReserved 19 = .ok (.iconst 0, 1) := by decide +kernel
theorem dX5_changeReserved_20 : decode cX5_changeReserved 20 = .ok (.istore 5, 2) := by decide +kernel
theorem dX5_changeReserved_22 : decode cX5_changeReserved 22 = .ok (.iload 5, 2) := by decide +kernel
theorem dX5_changeReserved_24 : decode cX5_changeReserved 24 = .ok (.aload_n 1, 1) := by decide +kernel
theorem dX5_changeReserved_25 : decode cX5_changeReserved 25 = .ok (.getfield 67, 3) := by decide +kernel
theorem dX5_changeReserved_28 : decode cX5_changeReserved 28 = .ok (.if_icmp .ge 28, 3) := by decide +kernel
theorem dX5_changeReserved_31 : decode cX5_changeReserved 31 = .ok (.aload_n 0, 1) := by decide +kernel
theorem dX5_changeReserved_32 : decode cX5_changeReserved 32 = .ok (.getfield 12, 3) := by decide +kernel
theorem dX5_changeReserved_35 : decode cX5_changeReserved 35 = .ok (.iload 5, 2) := by decide +kernel
theorem dX5_changeReserved_37 : decode cX5_changeReserved 37 = .ok (.iload_n 3, 1) := by decide +kernel
theorem dX5_changeReserved_38 : decode cX5_changeReserved 38 = .ok (.aload_n 1, 1) := by decide +kernel
theorem dX5_changeReserved_39 : decode cX5_changeReserved 39 = .ok (.iload 4, 2) := by decide +kernel
theorem dX5_changeReserved_41 : decode cX5_changeReserved 41 = .ok (.iload 5, 2) := by decide +kernel
theorem dX5_changeReserved_43 : decode cX5_changeReserved 43 = .ok (.invokevirtual 57, 3) := by decide +kernel
theorem dX5_changeReserved_46 : decode cX5_changeReserved 46 = .ok (.imul, 1) := by decide +kernel
theorem dX5_changeReserved_47 : decode cX5_changeReserved 47 = .ok (.invokevirtual 70, 3) := by decide +kernel
theorem dX5_changeReserved_50 : decode cX5_changeReserved 50 = .ok (.iinc 5 1, 3) := by decide +kernel
theorem dX5_changeReserved_53 : decode cX5_changeReserved 53 = .ok (.goto (-31), 3) := by decide +kernel
theorem dX5_changeReserved_56 : decode cX5_changeReserved 56 = .ok (.return_, 1) := by decide +kernel
theorem dX5_sendReserved_0 : decode cX5_sendReserved 0 = .ok (.aload_n 0, 1) := by decide +kernel
theorem dX5_sendReserved_1 : decode cX5_sendReserved 1 = .ok (.getfield 21, 3) := by decide +kernel
theorem dX5_sendReserved_4 : decode cX5_sendReserved 4 = .ok (.iload_n 2, 1) := by decide +kernel
theorem dX5_sendReserved_5 : decode cX5_sendReserved 5 = .ok (.invokevirtual 54, 3) := by decide +kernel
theorem dX5_sendReserved_8 : decode cX5_sendReserved 8 = .ok (.istore_n 3, 1) := by decide +kernel
theorem dX5_sendReserved_9 : decode cX5_sendReserved 9 = .ok (.aload_n 0, 1) := by decide +kernel
theorem dX5_sendReserved_10 : decode cX5_sendReserved 10 = .ok (.getfield 21, 3) := by decide +kernel
theorem dX5_sendReserved_13 : decode cX5_sendReserved 13 = .ok (.iload_n 2, 1) := by decide +kernel
theorem dX5_sendReserved_14 : decode cX5_sendReserved 14 = .ok (.invokevirtual 71, 3) := by decide +kernel
theorem dX5_sendReserved_17 : decode cX5_sendReserved 17 = .ok (.istore 4, 2) := by decide +kernel
theorem dX5_sendReserved_19 : decode cX5_sendReserved 19 = .ok (.iconst 0, 1) := by decide +kernel
theorem dX5_sendReserved_20 : decode cX5_sendReserved 20 = .ok (.istore 5, 2) := by decide +kernel
theorem dX5_sendReserved_22 : decode cX5_sendReserved 22 = .ok (.iload 5, 2) := by decide +kernel
theorem dX5_sendReserved_24 : decode cX5_sendReserved 24 = .ok (.aload_n 1, 1) := by decide +kernel
theorem dX5_sendReserved_25 : decode cX5_sendReserved 25 = .ok (.getfield 67, 3) := by decide +kernel
theorem dX5_sendReserved_28 : decode cX5_sendReserved 28 = .ok (.if_icmp .ge 42, 3) := by decide +kernel
theorem dX5_sendReserved_31 : decode cX5_sendReserved 31 = .ok (.iload 4, 2) := by decide +kernel
theorem dX5_sendReserved_33 : decode cX5_sendReserved 33 = .ok (.aload_n 1, 1) := by decide +kernel
theorem dX5_sendReserved_34 : decode cX5_sendReserved 34 = .ok (.iload_n 3, 1) := by decide +kernel
theorem dX5_sendReserved_35 : decode cX5_sendReserved 35 = .ok (.iload 5, 2) := by decide +kernel
theorem dX5_sendReserved_37 : decode cX5_sendReserved 37 = .ok (.invokevirtual 57, 3) := by decide +kernel
theorem dX5_sendReserved_40 : decode cX5_sendReserved 40 = .ok (.imul, 1) := by decide +kernel
theorem dX5_sendReserved_41 : decode cX5_sendReserved 41 = .ok (.istore 6, 2) := by decide +kernel
theorem dX5_sendReserved_43 : decode cX5_sendReserved 43 = .ok (.aload_n 0, 1) := by decide +kernel
theorem dX5_sendReserved_44 : decode cX5_sendReserved 44 = .ok (.getfield 12, 3) := by decide +kernel
theorem dX5_sendReserved_47 : decode cX5_sendReserved 47 = .ok (.iload 5, 2) := by decide +kernel
theorem dX5_sendReserved_49 : decode cX5_sendReserved 49 = .ok (.aload_n 0, 1) := by decide +kernel
theorem dX5_sendReserved_50 : decode cX5_sendReserved 50 = .ok (.getfield 12, 3) := by decide +kernel
theorem dX5_sendReserved_53 : decode cX5_sendReserved 53 = .ok (.iload 5, 2) := by decide +kernel
theorem dX5_sendReserved_55 : decode cX5_sendReserved 55 = .ok (.invokevirtual 74, 3) := by decide +kernel
theorem dX5_sendReserved_58 : decode cX5_sendReserved 58 = .ok (.iload 6, 2) := by decide +kernel
theorem dX5_sendReserved_60 : decode cX5_sendReserved 60 = .ok (.isub, 1) := by decide +kernel
theorem dX5_sendReserved_61 : decode cX5_sendReserved 61 = .ok (.invokevirtual 77, 3) := by decide +kernel
theorem dX5_sendReserved_64 : decode cX5_sendReserved 64 = .ok (.iinc 5 1, 3) := by decide +kernel
theorem dX5_sendReserved_67 : decode cX5_sendReserved 67 = .ok (.goto (-45), 3) := by decide +kernel
theorem dX5_sendReserved_70 : decode cX5_sendReserved 70 = .ok (.aload_n 0, 1) := by decide +kernel
theorem dX5_sendReserved_71 : decode cX5_sendReserved 71 = .ok (.aload_n 1, 1) := by decide +kernel
theorem dX5_sendReserved_72 : decode cX5_sendReserved 72 = .ok (.iload_n 2, 1) := by decide +kernel
theorem dX5_sendReserved_73 : decode cX5_sendReserved 73 = .ok (.iload 4, 2) := by decide +kernel
theorem dX5_sendReserved_75 : decode cX5_sendReserved 75 = .ok (.ineg, 1) := by decide +kernel
theorem dX5_sendReserved_76 : decode cX5_sendReserved 76 = .ok (.invokevirtual 80, 3) := by decide +kernel
theorem dX5_sendReserved_79 : decode cX5_sendReserved 79 = .ok (.aload_n 0, 1) := by decide +kernel
theorem dX5_sendReserved_80 : decode cX5_sendReserved 80 = .ok (.getfield 21, 3) := by decide +kernel
theorem dX5_sendReserved_83 : decode cX5_sendReserved 83 = .ok (.iload_n 2, 1) := by decide +kernel
theorem dX5_sendReserved_84 : decode cX5_sendReserved 84 = .ok (.iload 4, 2) := by decide +kernel
theorem dX5_sendReserved_86 : decode cX5_sendReserved 86 = .ok (.invokevirtual 84, 3) := by decide +kernel
theorem dX5_sendReserved_89 : decode cX5_sendReserved 89 = .ok (.aload_n 0, 1) := by decide +kernel
theorem dX5_sendReserved_90 : decode cX5_sendReserved 90 = .ok (.getfield 28, 3) := by decide +kernel
theorem dX5_sendReserved_93 : decode cX5_sendReserved 93 = .ok (.iload_n 2, 1) := by decide +kernel
theorem dX5_sendReserved_94 : decode cX5_sendReserved 94 = .ok (.iload 4, 2) := by decide +kernel
theorem dX5_sendReserved_96 : decode cX5_sendReserved 96 = .ok (.aload_n 0, 1) := by decide +kernel
theorem dX5_sendReserved_97 : decode cX5_sendReserved 97 = .ok (.getfield 12, 3) := by decide +kernel
theorem dX5_sendReserved_100 : decode cX5_sendReserved 100 = .ok (.getfield 87, 3) := by decide +kernel
theorem dX5_sendReserved_103 : decode cX5_sendReserved 103 = .ok (.aload_n 0, 1) := by decide +kernel
theorem dX5_sendReserved_104 : decode cX5_sendReserved 104 = .ok (.getfield 21, 3) := by decide +kernel
theorem dX5_sendReserved_107 : decode cX5_sendReserved 107 = .ok (.iload_n 2, 1) := by decide +kernel
theorem dX5_sendReserved_108 : decode cX5_sendReserved 108 = .ok (.invokevirtual 90, 3) := by decide +kernel
theorem dX5_sendReserved_111 : decode cX5_sendReserved 111 = .ok (.invokevirtual 93, 3) := by decide +kernel
theorem dX5_sendReserved_114 : decode cX5_sendReserved 114 = .ok (.iload 4, 2) := by decide +kernel
theorem dX5_sendReserved_116 : decode cX5_sendReserved 116 = .ok (.ireturn, 1) := by decide +kernel
theorem dX5_releaseExcess_0 : decode cX5_releaseExcess 0 = .ok (.iconst 0, 1) := by decide +kernel
theorem dX5_releaseExcess_1 : decode cX5_releaseExcess 1 = .ok (.istore_n 3, 1) := by decide +kernel
theorem dX5_releaseExcess_2 : decode cX5_releaseExcess 2 = .ok (.iconst 0, 1) := by decide +kernel
theorem dX5_releaseExcess_3 : decode cX5_releaseExcess 3 = .ok (.istore 4, 2) := by decide +kernel
theorem dX5_releaseExcess_5 : decode cX5_releaseExcess 5 = .ok (.iload 4, 2) := by decide +kernel
theorem dX5_releaseExcess_7 : decode cX5_releaseExcess 7 = .ok (.sipush 1980, 3) := by decide +kernel
theorem dX5_releaseExcess_10 : decode cX5_releaseExcess 10 = .ok (.if_icmp .ge 81, 3) := by decide +kernel
theorem dX5_releaseExcess_13 : decode cX5_releaseExcess 13 = .ok (.aload_n 0, 1) := by decide +kernel
theorem dX5_releaseExcess_14 : decode cX5_releaseExcess 14 = .ok (.getfield 12, 3) := by decide +kernel
theorem dX5_releaseExcess_17 : decode cX5_releaseExcess 17 = .ok (.iload_n 2, 1) := by decide +kernel
theorem dX5_releaseExcess_18 : decode cX5_releaseExcess 18 = .ok (.invokevirtual 97, 3) := by decide +kernel
theorem dX5_releaseExcess_21 : decode cX5_releaseExcess 21 = .ok (.ifCond .ge 70, 3) := by decide +kernel
theorem dX5_releaseExcess_24 : decode cX5_releaseExcess 24 = .ok (.aload_n 0, 1) := by decide +kernel
theorem dX5_releaseExcess_25 : decode cX5_releaseExcess 25 = .ok (.getfield 21, 3) := by decide +kernel
theorem dX5_releaseExcess_28 : decode cX5_releaseExcess 28 = .ok (.aload_n 1, 1) := by decide +kernel
theorem dX5_releaseExcess_29 : decode cX5_releaseExcess 29 = .ok (.iload_n 2, 1) := by decide +kernel
theorem dX5_releaseExcess_30 : decode cX5_releaseExcess 30 = .ok (.invokevirtual 100, 3) := by decide +kernel
theorem dX5_releaseExcess_33 : decode cX5_releaseExcess 33 = .ok (.istore 5, 2) := by decide +kernel
theorem dX5_releaseExcess_35 : decode cX5_releaseExcess 35 = .ok (.iload 5, 2) := by decide +kernel
theorem dX5_releaseExcess_37 : decode cX5_releaseExcess 37 = .ok (.iconst (-1), 1) := by decide +kernel
theorem dX5_releaseExcess_38 : decode cX5_releaseExcess 38 = .ok (.if_icmp .ne 5, 3) := by decide +kernel
theorem dX5_releaseExcess_41 : decode cX5_releaseExcess 41 = .ok (.iload_n 3, 1) := by decide +kernel
theorem dX5_releaseExcess_42 : decode cX5_releaseExcess 42 = .ok (.ireturn, 1) := by decide +kernel
theorem dX5_releaseExcess_43 : decode cX5_releaseExcess 43 = .ok (.aload_n 0, 1) := by decide +kernel
theorem dX5_releaseExcess_44 : decode cX5_releaseExcess 44 = .ok (.getfield 21, 3) := by decide +kernel
theorem dX5_releaseExcess_47 : decode cX5_releaseExcess 47 = .ok (.iload 5, 2) := by decide +kernel
theorem dX5_releaseExcess_49 : decode cX5_releaseExcess 49 = .ok (.invokevirtual 104, 3) := by decide +kernel
theorem dX5_releaseExcess_52 : decode cX5_releaseExcess 52 = .ok (.ifCond .eq 15, 3) := by decide +kernel
theorem dX5_releaseExcess_55 : decode cX5_releaseExcess 55 = .ok (.aload_n 0, 1) := by decide +kernel
theorem dX5_releaseExcess_56 : decode cX5_releaseExcess 56 = .ok (.getfield 21, 3) := by decide +kernel
theorem dX5_releaseExcess_59 : decode cX5_releaseExcess 59 = .ok (.iload 5, 2) := by decide +kernel
theorem dX5_releaseExcess_61 : decode cX5_releaseExcess 61 = .ok (.invokevirtual 71, 3) := by decide +kernel
theorem dX5_releaseExcess_64 : decode cX5_releaseExcess 64 = .ok (.goto 4, 3) := by decide +kernel
theorem dX5_releaseExcess_67 : decode cX5_releaseExcess 67 = .ok (.iconst 1, 1) := by decide +kernel
theorem dX5_releaseExcess_68 : decode cX5_releaseExcess 68 = .ok (.istore 6, 2) := by decide +kernel
theorem dX5_releaseExcess_70 : decode cX5_releaseExcess 70 = .ok (.aload_n 0, 1) := by decide +kernel
theorem dX5_releaseExcess_71 : decode cX5_releaseExcess 71 = .ok (.aload_n 1, 1) := by decide +kernel
theorem dX5_releaseExcess_72 : decode cX5_releaseExcess 72 = .ok (.iload 5, 2) := by decide +kernel
theorem dX5_releaseExcess_74 : decode cX5_releaseExcess 74 = .ok (.iload 6, 2) := by decide +kernel
theorem dX5_releaseExcess_76 : decode cX5_releaseExcess 76 = .ok (.ineg, 1) := by decide +kernel
theorem dX5_releaseExcess_77 : decode cX5_releaseExcess 77 = .ok (.invokevirtual 80, 3) := by decide +kernel
theorem dX5_releaseExcess_80 : decode cX5_releaseExcess 80 = .ok (.iload_n 3, 1) := by decide +kernel
theorem dX5_releaseExcess_81 : decode cX5_releaseExcess 81 = .ok (.iload 6, 2) := by decide +kernel
theorem dX5_releaseExcess_83 : decode cX5_releaseExcess 83 = .ok (.iadd, 1) := by decide +kernel
theorem dX5_releaseExcess_84 : decode cX5_releaseExcess 84 = .ok (.istore_n 3, 1) := by decide +kernel
theorem dX5_releaseExcess_85 : decode cX5_releaseExcess 85 = .ok (.iinc 4 1, 3) := by decide +kernel
theorem dX5_releaseExcess_88 : decode cX5_releaseExcess 88 = .ok (.goto (-83), 3) := by decide +kernel
theorem dX5_releaseExcess_91 : decode cX5_releaseExcess 91 = .ok (.iload_n 3, 1) := by decide +kernel
theorem dX5_releaseExcess_92 : decode cX5_releaseExcess 92 = .ok (.ireturn, 1) := by decide +kernel
theorem dX6_copyFrom_0 : decode cX6_copyFrom 0 = .ok (.aload_n 0, 1) := by decide +kernel
theorem dX6_copyFrom_1 : decode cX6_copyFrom 1 = .ok (.aload_n 1, 1) := by decide +kernel
theorem dX6_copyFrom_2 : decode cX6_copyFrom 2 = .ok (.getfield 37, 3) := by decide +kernel
theorem dX6_copyFrom_5 : decode cX6_copyFrom 5 = .ok (.putfield 37, 3) := by decide +kernel
theorem dX6_copyFrom_8 : decode cX6_copyFrom 8 = .ok (.aload_n 1, 1) := by decide +kernel
theorem dX6_copyFrom_9 : decode cX6_copyFrom 9 = .ok (.getfield 9, 3) := by decide +kernel
theorem dX6_copyFrom_12 : decode cX6_copyFrom 12 = .ok (.iconst 0, 1) := by decide +kernel
theorem dX6_copyFrom_13 : decode cX6_copyFrom 13 = .ok (.aload_n 0, 1) := by decide +kernel
theorem dX6_copyFrom_14 : decode cX6_copyFrom 14 = .ok (.getfield 9, 3) := by decide +kernel
theorem dX6_copyFrom_17 : decode cX6_copyFrom 17 = .ok (.iconst 0, 1) := by decide +kernel
theorem dX6_copyFrom_18 : decode cX6_copyFrom 18 = .ok (.bipush 20, 2) := by decide +kernel
theorem dX6_copyFrom_20 : decode cX6_copyFrom 20 = .ok (.invokestatic 41, 3) := by decide +kernel
theorem dX6_copyFrom_23 : decode cX6_copyFrom 23 = .ok (.aload_n 1, 1) := by decide +kernel
theorem dX6_copyFrom_24 : decode cX6_copyFrom 24 = .ok (.getfield 15, 3) := by decide +kernel
theorem dX6_copyFrom_27 : decode cX6_copyFrom 27 = .ok (.iconst 0, 1) := by decide +kernel
theorem dX6_copyFrom_28 : decode cX6_copyFrom 28 = .ok (.aload_n 0, 1) := by decide +kernel
theorem dX6_copyFrom_29 : decode cX6_copyFrom 29 = .ok (.getfield 15, 3) := by decide +kernel
theorem dX6_copyFrom_32 : decode cX6_copyFrom 32 = .ok (.iconst 0, 1) := by decide +kernel
theorem dX6_copyFrom_33 : decode cX6_copyFrom 33 = .ok (.bipush 20, 2) := by decide +kernel
theorem dX6_copyFrom_35 : decode cX6_copyFrom 35 = .ok (.invokestatic 41, 3) := by decide +kernel
theorem dX6_copyFrom_38 : decode cX6_copyFrom 38 = .ok (.aload_n 1, 1) := by decide +kernel
theorem dX6_copyFrom_39 : decode cX6_copyFrom 39 = .ok (.getfield 18, 3) := by decide +kernel
theorem dX6_copyFrom_42 : decode cX6_copyFrom 42 = .ok (.iconst 0, 1) := by decide +kernel
theorem dX6_copyFrom_43 : decode cX6_copyFrom 43 = .ok (.aload_n 0, 1) := by decide +kernel
theorem dX6_copyFrom_44 : decode cX6_copyFrom 44 = .ok (.getfield 18, 3) := by decide +kernel
theorem dX6_copyFrom_47 : decode cX6_copyFrom 47 = .ok (.iconst 0, 1) := by decide +kernel
theorem dX6_copyFrom_48 : decode cX6_copyFrom 48 = .ok (.bipush 20, 2) := by decide +kernel
theorem dX6_copyFrom_50 : decode cX6_copyFrom 50 = .ok (.invokestatic 41, 3) := by decide +kernel
theorem dX6_copyFrom_53 : decode cX6_copyFrom 53 = .ok (.aload_n 1, 1) := by decide +kernel
theorem dX6_copyFrom_54 : decode cX6_copyFrom 54 = .ok (.getfield 21, 3) := by decide +kernel
theorem dX6_copyFrom_57 : decode cX6_copyFrom 57 = .ok (.iconst 0, 1) := by decide +kernel
theorem dX6_copyFrom_58 : decode cX6_copyFrom 58 = .ok (.aload_n 0, 1) := by decide +kernel
theorem dX6_copyFrom_59 : decode cX6_copyFrom 59 = .ok (.getfield 21, 3) := by decide +kernel
theorem dX6_copyFrom_62 : decode cX6_copyFrom 62 = .ok (.iconst 0, 1) := by decide +kernel
theorem dX6_copyFrom_63 : decode cX6_copyFrom 63 = .ok (.bipush 20, 2) := by decide +kernel
theorem dX6_copyFrom_65 : decode cX6_copyFrom 65 = .ok (.invokestatic 41, 3) := by decide +kernel
theorem dX6_copyFrom_68 : decode cX6_copyFrom 68 = .ok (.aload_n 1, 1) := by decide +kernel
theorem dX6_copyFrom_69 : decode cX6_copyFrom 69 = .ok (.getfield 31, 3) := by decide +kernel
theorem dX6_copyFrom_72 : decode cX6_copyFrom 72 = .ok (.iconst 0, 1) := by decide +kernel
theorem dX6_copyFrom_73 : decode cX6_copyFrom 73 = .ok (.aload_n 0, 1) := by decide +kernel
theorem dX6_copyFrom_74 : decode cX6_copyFrom 74 = .ok (.getfield 31, 3) := by decide +kernel
theorem dX6_copyFrom_77 : decode cX6_copyFrom 77 = .ok (.iconst 0, 1) := by decide +kernel
theorem dX6_copyFrom_78 : decode cX6_copyFrom 78 = .ok (.bipush 20, 2) := by decide +kernel
theorem dX6_copyFrom_80 : decode cX6_copyFrom 80 = .ok (.invokestatic 41, 3) := by decide +kernel
theorem dX6_copyFrom_83 : decode cX6_copyFrom 83 = .ok (.aload_n 1, 1) := by decide +kernel
theorem dX6_copyFrom_84 : decode cX6_copyFrom 84 = .ok (.getfield 34, 3) := by decide +kernel
theorem dX6_copyFrom_87 : decode cX6_copyFrom 87 = .ok (.iconst 0, 1) := by decide +kernel
theorem dX6_copyFrom_88 : decode cX6_copyFrom 88 = .ok (.aload_n 0, 1) := by decide +kernel
theorem dX6_copyFrom_89 : decode cX6_copyFrom 89 = .ok (.getfield 34, 3) := by decide +kernel
theorem dX6_copyFrom_92 : decode cX6_copyFrom 92 = .ok (.iconst 0, 1) := by decide +kernel
theorem dX6_copyFrom_93 : decode cX6_copyFrom 93 = .ok (.bipush 20, 2) := by decide +kernel
theorem dX6_copyFrom_95 : decode cX6_copyFrom 95 = .ok (.invokestatic 41, 3) := by decide +kernel
theorem dX6_copyFrom_98 : decode cX6_copyFrom 98 = .ok (.iconst 0, 1) := by decide +kernel
theorem dX6_copyFrom_99 : decode cX6_copyFrom 99 = .ok (.istore_n 2, 1) := by decide +kernel
theorem dX6_copyFrom_100 : decode cX6_copyFrom 100 = .ok (.iload_n 2, 1) := by decide +kernel
theorem dX6_copyFrom_101 : decode cX6_copyFrom 101 = .ok (.bipush 20, 2) := by decide +kernel
theorem dX6_copyFrom_103 : decode cX6_copyFrom 103 = .ok (.if_icmp .ge 33, 3) := by decide +kernel
theorem dX6_copyFrom_106 : decode cX6_copyFrom 106 = .ok (.aload_n 0, 1) := by decide +kernel
theorem dX6_copyFrom_107 : decode cX6_copyFrom 107 = .ok (.getfield 24, 3) := by decide +kernel
theorem dX6_copyFrom_110 : decode cX6_copyFrom 110 = .ok (.iload_n 2, 1) := by decide +kernel
theorem dX6_copyFrom_111 : decode cX6_copyFrom 111 = .ok (.aload_n 1, 1) := by decide +kernel
theorem dX6_copyFrom_112 : decode cX6_copyFrom 112 = .ok (.getfield 24, 3) := by decide +kernel
theorem dX6_copyFrom_115 : decode cX6_copyFrom 115 = .ok (.iload_n 2, 1) := by decide +kernel
theorem dX6_copyFrom_116 : decode cX6_copyFrom 116 = .ok (.baload, 1) := by decide +kernel
theorem dX6_copyFrom_117 : decode cX6_copyFrom 117 = .ok (.bastore, 1) := by decide +kernel
theorem dX6_copyFrom_118 : decode cX6_copyFrom 118 = .ok (.aload_n 0, 1) := by decide +kernel
theorem dX6_copyFrom_119 : decode cX6_copyFrom 119 = .ok (.getfield 28, 3) := by decide +kernel
theorem dX6_copyFrom_122 : decode cX6_copyFrom 122 = .ok (.iload_n 2, 1) := by decide +kernel
theorem dX6_copyFrom_123 : decode cX6_copyFrom 123 = .ok (.aload_n 1, 1) := by decide +kernel
theorem dX6_copyFrom_124 : decode cX6_copyFrom 124 = .ok (.getfield 28, 3) := by decide +kernel
theorem dX6_copyFrom_127 : decode cX6_copyFrom 127 = .ok (.iload_n 2, 1) := by decide +kernel
theorem dX6_copyFrom_128 : decode cX6_copyFrom 128 = .ok (.baload, 1) := by decide +kernel
theorem dX6_copyFrom_129 : decode cX6_copyFrom 129 = .ok (.bastore, 1) := by decide +kernel
theorem dX6_copyFrom_130 : decode cX6_copyFrom 130 = .ok (.iinc 2 1, 3) := by decide +kernel
theorem dX6_copyFrom_133 : decode cX6_copyFrom 133 = .ok (.goto (-33), 3) := by decide +kernel
theorem dX6_copyFrom_136 : decode cX6_copyFrom 136 = .ok (.return_, 1) := by decide +kernel
theorem dX6_enter_0 : decode cX6_enter 0 = .ok (.aload_n 0, 1) := by decide +kernel
theorem dX6_enter_1 : decode cX6_enter 1 = .ok (.getfield 37, 3) := by decide +kernel
theorem dX6_enter_4 : decode cX6_enter 4 = .ok (.bipush 20, 2) := by decide +kernel
theorem dX6_enter_6 : decode cX6_enter 6 = .ok (.if_icmp .lt 5, 3) := by decide +kernel
theorem dX6_enter_9 : decode cX6_enter 9 = .ok (.iconst (-1), 1) := by decide +kernel
theorem dX6_enter_10 : decode cX6_enter 10 = .ok (.ireturn, 1) := by decide +kernel
theorem dX6_enter_11 : decode cX6_enter 11 = .ok (.aload_n 0, 1) := by decide +kernel
theorem dX6_enter_12 : decode cX6_enter 12 = .ok (.getfield 9, 3) := by decide +kernel
theorem dX6_enter_15 : decode cX6_enter 15 = .ok (.aload_n 0, 1) := by decide +kernel
theorem dX6_enter_16 : decode cX6_enter 16 = .ok (.getfield 37, 3) := by decide +kernel
theorem dX6_enter_19 : decode cX6_enter 19 = .ok (.iload_n 1, 1) := by decide +kernel
theorem dX6_enter_20 : decode cX6_enter 20 = .ok (.iastore, 1) := by decide +kernel
theorem dX6_enter_21 : decode cX6_enter 21 = .ok (.aload_n 0, 1) := by decide +kernel
theorem dX6_enter_22 : decode cX6_enter 22 = .ok (.getfield 15, 3) := by decide +kernel
theorem dX6_enter_25 : decode cX6_enter 25 = .ok (.aload_n 0, 1) := by decide +kernel
theorem dX6_enter_26 : decode cX6_enter 26 = .ok (.getfield 37, 3) := by decide +kernel
theorem dX6_enter_29 : decode cX6_enter 29 = .ok (.iload_n 2, 1) := by decide +kernel
theorem dX6_enter_30 : decode cX6_enter 30 = .ok (.iastore, 1) := by decide +kernel
theorem dX6_enter_31 : decode cX6_enter 31 = .ok (.aload_n 0, 1) := by decide +kernel
theorem dX6_enter_32 : decode cX6_enter 32 = .ok (.getfield 18, 3) := by decide +kernel
theorem dX6_enter_35 : decode cX6_enter 35 = .ok (.aload_n 0, 1) := by decide +kernel
theorem dX6_enter_36 : decode cX6_enter 36 = .ok (.getfield 37, 3) := by decide +kernel
theorem dX6_enter_39 : decode cX6_enter 39 = .ok (.iload_n 3, 1) := by decide +kernel
theorem dX6_enter_40 : decode cX6_enter 40 = .ok (.iastore, 1) := by decide +kernel
theorem dX6_enter_41 : decode cX6_enter 41 = .ok (.aload_n 0, 1) := by decide +kernel
theorem dX6_enter_42 : decode cX6_enter 42 = .ok (.getfield 21, 3) := by decide +kernel
theorem dX6_enter_45 : decode cX6_enter 45 = .ok (.aload_n 0, 1) := by decide +kernel
theorem dX6_enter_46 : decode cX6_enter 46 = .ok (.getfield 37, 3) := by decide +kernel
theorem dX6_enter_49 : decode cX6_enter 49 = .ok (.iload 4, 2) := by decide +kernel
theorem dX6_enter_51 : decode cX6_enter 51 = .ok (.iastore, 1) := by decide +kernel
theorem dX6_enter_52 : decode cX6_enter 52 = .ok (.aload_n 0, 1) := by decide +kernel
theorem dX6_enter_53 : decode cX6_enter 53 = .ok (.getfield 24, 3) := by decide +kernel
theorem dX6_enter_56 : decode cX6_enter 56 = .ok (.aload_n 0, 1) := by decide +kernel
theorem dX6_enter_57 : decode cX6_enter 57 = .ok (.getfield 37, 3) := by decide +kernel
theorem dX6_enter_60 : decode cX6_enter 60 = .ok (.iload 5, 2) := by decide +kernel
theorem dX6_enter_62 : decode cX6_enter 62 = .ok (.bastore, 1) := by decide +kernel
theorem dX6_enter_63 : decode cX6_enter 63 = .ok (.aload_n 0, 1) := by decide +kernel
theorem dX6_enter_64 : decode cX6_enter 64 = .ok (.getfield 28, 3) := by decide +kernel
theorem dX6_enter_67 : decode cX6_enter 67 = .ok (.aload_n 0, 1) := by decide +kernel
theorem dX6_enter_68 : decode cX6_enter 68 = .ok (.getfield 37, 3) := by decide +kernel
theorem dX6_enter_71 : decode cX6_enter 71 = .ok (.iconst 0, 1) := by decide +kernel
theorem dX6_enter_72 : decode cX6_enter 72 = .ok (.bastore, 1) := by decide +kernel
theorem dX6_enter_73 : decode cX6_enter 73 = .ok (.aload_n 0, 1) := by decide +kernel
theorem dX6_enter_74 : decode cX6_enter 74 = .ok (.getfield 31, 3) := by decide +kernel
theorem dX6_enter_77 : decode cX6_enter 77 = .ok (.aload_n 0, 1) := by decide +kernel
theorem dX6_enter_78 : decode cX6_enter 78 = .ok (.getfield 37, 3) := by decide +kernel
theorem dX6_enter_81 : decode cX6_enter 81 = .ok (.iconst 0, 1) := by decide +kernel
theorem dX6_enter_82 : decode cX6_enter 82 = .ok (.iastore, 1) := by decide +kernel
theorem dX6_enter_83 : decode cX6_enter 83 = .ok (.aload_n 0, 1) := by decide +kernel
theorem dX6_enter_84 : decode cX6_enter 84 = .ok (.getfield 34, 3) := by decide +kernel
theorem dX6_enter_87 : decode cX6_enter 87 = .ok (.aload_n 0, 1) := by decide +kernel
theorem dX6_enter_88 : decode cX6_enter 88 = .ok (.getfield 37, 3) := by decide +kernel
theorem dX6_enter_91 : decode cX6_enter 91 = .ok (.iconst 0, 1) := by decide +kernel
theorem dX6_enter_92 : decode cX6_enter 92 = .ok (.iastore, 1) := by decide +kernel
theorem dX6_enter_93 : decode cX6_enter 93 = .ok (.aload_n 0, 1) := by decide +kernel
theorem dX6_enter_94 : decode cX6_enter 94 = .ok (.dup, 1) := by decide +kernel
theorem dX6_enter_95 : decode cX6_enter 95 = .ok (.getfield 37, 3) := by decide +kernel
theorem dX6_enter_98 : decode cX6_enter 98 = .ok (.iconst 1, 1) := by decide +kernel
theorem dX6_enter_99 : decode cX6_enter 99 = .ok (.iadd, 1) := by decide +kernel
theorem dX6_enter_100 : decode cX6_enter 100 = .ok (.putfield 37, 3) := by decide +kernel
theorem dX6_enter_103 : decode cX6_enter 103 = .ok (.aload_n 0, 1) := by decide +kernel
theorem dX6_enter_104 : decode cX6_enter 104 = .ok (.getfield 37, 3) := by decide +kernel
theorem dX6_enter_107 : decode cX6_enter 107 = .ok (.iconst 1, 1) := by decide +kernel
theorem dX6_enter_108 : decode cX6_enter 108 = .ok (.isub, 1) := by decide +kernel
theorem dX6_enter_109 : decode cX6_enter 109 = .ok (.ireturn, 1) := by decide +kernel
theorem dX6_productOf_0 : decode cX6_productOf 0 = .ok (.iload_n 1, 1) := by decide +kernel
theorem dX6_productOf_1 : decode cX6_productOf 1 = .ok (.aload_n 0, 1) := by decide +kernel
theorem dX6_productOf_2 : decode cX6_productOf 2 = .ok (.getfield 37, 3) := by decide +kernel
theorem dX6_productOf_5 : decode cX6_productOf 5 = .ok (.invokestatic 47, 3) := by decide +kernel
theorem dX6_productOf_8 : decode cX6_productOf 8 = .ok (.ifCond .eq 12, 3) := by decide +kernel
theorem dX6_productOf_11 : decode cX6_productOf 11 = .ok (.aload_n 0, 1) := by decide +kernel
theorem dX6_productOf_12 : decode cX6_productOf 12 = .ok (.getfield 9, 3) := by decide +kernel
theorem dX6_productOf_15 : decode cX6_productOf 15 = .ok (.iload_n 1, 1) := by decide +kernel
theorem dX6_productOf_16 : decode cX6_productOf 16 = .ok (.iaload, 1) := by decide +kernel
theorem dX6_productOf_17 : decode cX6_productOf 17 = .ok (.goto 4, 3) := by decide +kernel
theorem dX6_productOf_20 : decode cX6_productOf 20 = .ok (.iconst (-1), 1) := by decide +kernel
theorem dX6_productOf_21 : decode cX6_productOf 21 = .ok (.ireturn, 1) := by decide +kernel
theorem dX6_quantityOf_0 : decode cX6_quantityOf 0 = .ok (.iload_n 1, 1) := by decide +kernel
theorem dX6_quantityOf_1 : decode cX6_quantityOf 1 = .ok (.aload_n 0, 1) := by decide +kernel
theorem dX6_quantityOf_2 : decode cX6_quantityOf 2 = .ok (.getfield 37, 3) := by decide +kernel
theorem dX6_quantityOf_5 : decode cX6_quantityOf 5 = .ok (.invokestatic 47, 3) := by decide +kernel
theorem dX6_quantityOf_8 : decode cX6_quantityOf 8 = .ok (.ifCond .eq 12, 3) := by decide +kernel
theorem dX6_quantityOf_11 : decode cX6_quantityOf 11 = .ok (.aload_n 0, 1) := by decide +kernel
theorem dX6_quantityOf_12 : decode cX6_quantityOf 12 = .ok (.getfield 15, 3) := by decide +kernel
theorem dX6_quantityOf_15 : decode cX6_quantityOf 15 = .ok (.iload_n 1, 1) := by decide +kernel
theorem dX6_quantityOf_16 : decode cX6_quantityOf 16 = .ok (.iaload, 1) := by decide +kernel
theorem dX6_quantityOf_17 : decode cX6_quantityOf 17 = .ok (.goto 4, 3) := by decide +kernel
theorem dX6_quantityOf_20 : decode cX6_quantityOf 20 = .ok (.iconst 0, 1) := by decide +kernel
theorem dX6_quantityOf_21 : decode cX6_quantityOf 21 = .ok (.ireturn, 1) := by decide +kernel
theorem dX6_classOf_0 : decode cX6_classOf 0 = .ok (.iload_n 1, 1) := by decide +kernel
theorem dX6_classOf_1 : decode cX6_classOf 1 = .ok (.aload_n 0, 1) := by decide +kernel
theorem dX6_classOf_2 : decode cX6_classOf 2 = .ok (.getfield 37, 3) := by decide +kernel
theorem dX6_classOf_5 : decode cX6_classOf 5 = .ok (.invokestatic 47, 3) := by decide +kernel
theorem dX6_classOf_8 : decode cX6_classOf 8 = .ok (.ifCond .eq 12, 3) := by decide +kernel
theorem dX6_classOf_11 : decode cX6_classOf 11 = .ok (.aload_n 0, 1) := by decide +kernel
theorem dX6_classOf_12 : decode cX6_classOf 12 = .ok (.getfield 18, 3) := by decide +kernel
theorem dX6_classOf_15 : decode cX6_classOf 15 = .ok (.iload_n 1, 1) := by decide +kernel
theorem dX6_classOf_16 : decode cX6_classOf 16 = .ok (.iaload, 1) := by decide +kernel
theorem dX6_classOf_17 : decode cX6_classOf 17 = .ok (.goto 4, 3) := by decide +kernel
theorem dX6_classOf_20 : decode cX6_classOf 20 = .ok (.iconst (-1), 1) := by decide +kernel
theorem dX6_classOf_21 : decode cX6_classOf 21 = .ok (.ireturn, 1) := by decide +kernel
theorem dX6_dueOf_0 : decode cX6_dueOf 0 = .ok (.iload_n 1, 1) := by decide +kernel
theorem dX6_dueOf_1 : decode cX6_dueOf 1 = .ok (.aload_n 0, 1) := by decide +kernel
theorem dX6_dueOf_2 : decode cX6_dueOf 2 = .ok (.getfield 37, 3) := by decide +kernel
theorem dX6_dueOf_5 : decode cX6_dueOf 5 = .ok (.invokestatic 47, 3) := by decide +kernel
theorem dX6_dueOf_8 : decode cX6_dueOf 8 = .ok (.ifCond .eq 12, 3) := by decide +kernel
theorem dX6_dueOf_11 : decode cX6_dueOf 11 = .ok (.aload_n 0, 1) := by decide +kernel
theorem dX6_dueOf_12 : decode cX6_dueOf 12 = .ok (.getfield 21, 3) := by decide +kernel
theorem dX6_dueOf_15 : decode cX6_dueOf 15 = .ok (.iload_n 1, 1) := by decide +kernel
theorem dX6_dueOf_16 : decode cX6_dueOf 16 = .ok (.iaload, 1) := by decide +kernel
theorem dX6_dueOf_17 : decode cX6_dueOf 17 = .ok (.goto 4, 3) := by decide +kernel
theorem dX6_dueOf_20 : decode cX6_dueOf 20 = .ok (.iconst 0, 1) := by decide +kernel
theorem dX6_dueOf_21 : decode cX6_dueOf 21 = .ok (.ireturn, 1) := by decide +kernel
theorem dX6_isWhole_0 : decode cX6_isWhole 0 = .ok (.iload_n 1, 1) := by decide +kernel
theorem dX6_isWhole_1 : decode cX6_isWhole 1 = .ok (.aload_n 0, 1) := by decide +kernel
theorem dX6_isWhole_2 : decode cX6_isWhole 2 = .ok (.getfield 37, 3) := by decide +kernel
theorem dX6_isWhole_5 : decode cX6_isWhole 5 = .ok (.invokestatic 47, 3) := by decide +kernel
theorem dX6_isWhole_8 : decode cX6_isWhole 8 = .ok (.ifCond .eq 16, 3) := by decide +kernel
theorem dX6_isWhole_11 : decode cX6_isWhole 11 = .ok (.aload_n 0, 1) := by decide +kernel
theorem dX6_isWhole_12 : decode cX6_isWhole 12 = .ok (.getfield 24, 3) := by decide +kernel
theorem dX6_isWhole_15 : decode cX6_isWhole 15 = .ok (.iload_n 1, 1) := by decide +kernel
theorem dX6_isWhole_16 : decode cX6_isWhole 16 = .ok (.baload, 1) := by decide +kernel
theorem dX6_isWhole_17 : decode cX6_isWhole 17 = .ok (.ifCond .eq 7, 3) := by decide +kernel
theorem dX6_isWhole_20 : decode cX6_isWhole 20 = .ok (.iconst 1, 1) := by decide +kernel
theorem dX6_isWhole_21 : decode cX6_isWhole 21 = .ok (.goto 4, 3) := by decide +kernel
theorem dX6_isWhole_24 : decode cX6_isWhole 24 = .ok (.iconst 0, 1) := by decide +kernel
theorem dX6_isWhole_25 : decode cX6_isWhole 25 = .ok (.ireturn, 1) := by decide +kernel
theorem dX6_reservedOf_0 : decode cX6_reservedOf 0 = .ok (.iload_n 1, 1) := by decide +kernel
theorem dX6_reservedOf_1 : decode cX6_reservedOf 1 = .ok (.aload_n 0, 1) := by decide +kernel
theorem dX6_reservedOf_2 : decode cX6_reservedOf 2 = .ok (.getfield 37, 3) := by decide +kernel
theorem dX6_reservedOf_5 : decode cX6_reservedOf 5 = .ok (.invokestatic 47, 3) := by decide +kernel
theorem dX6_reservedOf_8 : decode cX6_reservedOf 8 = .ok (.ifCond .eq 12, 3) := by decide +kernel
theorem dX6_reservedOf_11 : decode cX6_reservedOf 11 = .ok (.aload_n 0, 1) := by decide +kernel
theorem dX6_reservedOf_12 : decode cX6_reservedOf 12 = .ok (.getfield 31, 3) := by decide +kernel
theorem dX6_reservedOf_15 : decode cX6_reservedOf 15 = .ok (.iload_n 1, 1) := by decide +kernel
theorem dX6_reservedOf_16 : decode cX6_reservedOf 16 = .ok (.iaload, 1) := by decide +kernel
theorem dX6_reservedOf_17 : decode cX6_reservedOf 17 = .ok (.goto 4, 3) := by decide +kernel
theorem dX6_reservedOf_20 : decode cX6_reservedOf 20 = .ok (.iconst 0, 1) := by decide +kernel
theorem dX6_reservedOf_21 : decode cX6_reservedOf 21 = .ok (.ireturn, 1) := by decide +kernel
theorem dX6_shippedOf_0 : decode cX6_shippedOf 0 = .ok (.iload_n 1, 1) := by decide +kernel
theorem dX6_shippedOf_1 : decode cX6_shippedOf 1 = .ok (.aload_n 0, 1) := by decide +kernel
theorem dX6_shippedOf_2 : decode cX6_shippedOf 2 = .ok (.getfield 37, 3) := by decide +kernel
theorem dX6_shippedOf_5 : decode cX6_shippedOf 5 = .ok (.invokestatic 47, 3) := by decide +kernel
theorem dX6_shippedOf_8 : decode cX6_shippedOf 8 = .ok (.ifCond .eq 12, 3) := by decide +kernel
theorem dX6_shippedOf_11 : decode cX6_shippedOf 11 = .ok (.aload_n 0, 1) := by decide +kernel
theorem dX6_shippedOf_12 : decode cX6_shippedOf 12 = .ok (.getfield 34, 3) := by decide +kernel
theorem dX6_shippedOf_15 : decode cX6_shippedOf 15 = .ok (.iload_n 1, 1) := by decide +kernel
theorem dX6_shippedOf_16 : decode cX6_shippedOf 16 = .ok (.iaload, 1) := by decide +kernel
theorem dX6_shippedOf_17 : decode cX6_shippedOf 17 = .ok (.goto 4, 3) := by decide +kernel
theorem dX6_shippedOf_20 : decode cX6_shippedOf 20 = .ok (.iconst 0, 1) := by decide +kernel
theorem dX6_shippedOf_21 : decode cX6_shippedOf 21 = .ok (.ireturn, 1) := by decide +kernel
theorem dX6_openOf_0 : decode cX6_openOf 0 = .ok (.iload_n 1, 1) := by decide +kernel
theorem dX6_openOf_1 : decode cX6_openOf 1 = .ok (.aload_n 0, 1) := by decide +kernel
theorem dX6_openOf_2 : decode cX6_openOf 2 = .ok (.getfield 37, 3) := by decide +kernel
theorem dX6_openOf_5 : decode cX6_openOf 5 = .ok (.invokestatic 47, 3) := by decide +kernel
theorem dX6_openOf_8 : decode cX6_openOf 8 = .ok (.ifCond .eq 12, 3) := by decide +kernel
theorem dX6_openOf_11 : decode cX6_openOf 11 = .ok (.aload_n 0, 1) := by decide +kernel
theorem dX6_openOf_12 : decode cX6_openOf 12 = .ok (.getfield 28, 3) := by decide +kernel
theorem dX6_openOf_15 : decode cX6_openOf 15 = .ok (.iload_n 1, 1) := by decide +kernel
theorem dX6_openOf_16 : decode cX6_openOf 16 = .ok (.baload, 1) := by decide +kernel
theorem dX6_openOf_17 : decode cX6_openOf 17 = .ok (.ifCond .eq 5, 3) := by decide +kernel
theorem dX6_openOf_20 : decode cX6_openOf 20 = .ok (.iconst 0, 1) := by decide +kernel
theorem dX6_openOf_21 : decode cX6_openOf 21 = .ok (.ireturn, 1) := by decide +kernel
theorem dX6_openOf_22 : decode cX6_openOf 22 = .ok (.aload_n 0, 1) := by decide +kernel
theorem dX6_openOf_23 : decode cX6_openOf 23 = .ok (.getfield 15, 3) := by decide +kernel
theorem dX6_openOf_26 : decode cX6_openOf 26 = .ok (.iload_n 1, 1) := by decide +kernel
theorem dX6_openOf_27 : decode cX6_openOf 27 = .ok (.iaload, 1) := by decide +kernel
theorem dX6_openOf_28 : decode cX6_openOf 28 = .ok (.aload_n 0, 1) := by decide +kernel
theorem dX6_openOf_29 : decode cX6_openOf 29 = .ok (.getfield 31, 3) := by decide +kernel
theorem dX6_openOf_32 : decode cX6_openOf 32 = .ok (.iload_n 1, 1) := by decide +kernel
theorem dX6_openOf_33 : decode cX6_openOf 33 = .ok (.iaload, 1) := by decide +kernel
theorem dX6_openOf_34 : decode cX6_openOf 34 = .ok (.isub, 1) := by decide +kernel
theorem dX6_openOf_35 : decode cX6_openOf 35 = .ok (.aload_n 0, 1) := by decide +kernel
theorem dX6_openOf_36 : decode cX6_openOf 36 = .ok (.getfield 34, 3) := by decide +kernel
theorem dX6_openOf_39 : decode cX6_openOf 39 = .ok (.iload_n 1, 1) := by decide +kernel
theorem dX6_openOf_40 : decode cX6_openOf 40 = .ok (.iaload, 1) := by decide +kernel
theorem dX6_openOf_41 : decode cX6_openOf 41 = .ok (.isub, 1) := by decide +kernel
theorem dX6_openOf_42 : decode cX6_openOf 42 = .ok (.ireturn, 1) := by decide +kernel
theorem dX6_stateFor_0 : decode cX6_stateFor 0 = .ok (.iload_n 1, 1) := by decide +kernel
theorem dX6_stateFor_1 : decode cX6_stateFor 1 = .ok (.aload_n 0, 1) := by decide +kernel
theorem dX6_stateFor_2 : decode cX6_stateFor 2 = .ok (.getfield 37, 3) := by decide +kernel
theorem dX6_stateFor_5 : decode cX6_stateFor 5 = .ok (.invokestatic 47, 3) := by decide +kernel
theorem dX6_stateFor_8 : decode cX6_stateFor 8 = .ok (.ifCond .eq 14, 3) := by decide +kernel
theorem dX6_stateFor_11 : decode cX6_stateFor 11 = .ok (.aload_n 0, 1) := by decide +kernel
theorem dX6_stateFor_12 : decode cX6_stateFor 12 = .ok (.getfield 28, 3) := by decide +kernel
theorem dX6_stateFor_15 : decode cX6_stateFor 15 = .ok (.iload_n 1, 1) := by decide +kernel
theorem dX6_stateFor_16 : decode cX6_stateFor 16 = .ok (.baload, 1) := by decide +kernel
theorem dX6_stateFor_17 : decode cX6_stateFor 17 = .ok (.ifCond .eq 5, 3) := by decide +kernel
theorem dX6_stateFor_20 : decode cX6_stateFor 20 = .ok (.iconst 3, 1) := by decide +kernel
theorem dX6_stateFor_21 : decode cX6_stateFor 21 = .ok (.ireturn, 1) := by decide +kernel
theorem dX6_stateFor_22 : decode cX6_stateFor 22 = .ok (.aload_n 0, 1) := by decide +kernel
theorem dX6_stateFor_23 : decode cX6_stateFor 23 = .ok (.iload_n 1, 1) := by decide +kernel
theorem dX6_stateFor_24 : decode cX6_stateFor 24 = .ok (.invokevirtual 51, 3) := by decide +kernel
theorem dX6_stateFor_27 : decode cX6_stateFor 27 = .ok (.ifCond .le 5, 3) := by decide +kernel
theorem dX6_stateFor_30 : decode cX6_stateFor 30 = .ok (.iconst 0, 1) := by decide +kernel
theorem dX6_stateFor_31 : decode cX6_stateFor 31 = .ok (.ireturn, 1) := by decide +kernel
theorem dX6_stateFor_32 : decode cX6_stateFor 32 = .ok (.aload_n 0, 1) := by decide +kernel
theorem dX6_stateFor_33 : decode cX6_stateFor 33 = .ok (.iload_n 1, 1) := by decide +kernel
theorem dX6_stateFor_34 : decode cX6_stateFor 34 = .ok (.invokevirtual 55, 3) := by decide +kernel
theorem dX6_stateFor_37 : decode cX6_stateFor 37 = .ok (.ifCond .le 7, 3) := by decide +kernel
theorem dX6_stateFor_40 : decode cX6_stateFor 40 = .ok (.iconst 1, 1) := by decide +kernel
theorem dX6_stateFor_41 : decode cX6_stateFor 41 = .ok (.goto 4, 3) := by decide +kernel
theorem dX6_stateFor_44 : decode cX6_stateFor 44 = .ok (.iconst 2, 1) := by decide +kernel
theorem dX6_stateFor_45 : decode cX6_stateFor 45 = .ok (.ireturn, 1) := by decide +kernel
theorem dX6_mayMove_0 : decode cX6_mayMove 0 = .ok (.aload_n 0, 1) := by decide +kernel
theorem dX6_mayMove_1 : decode cX6_mayMove 1 = .ok (.iload_n 1, 1) := by decide +kernel
theorem dX6_mayMove_2 : decode cX6_mayMove 2 = .ok (.invokevirtual 58, 3) := by decide +kernel
theorem dX6_mayMove_5 : decode cX6_mayMove 5 = .ok (.ifCond .eq 12, 3) := by decide +kernel
theorem dX6_mayMove_8 : decode cX6_mayMove 8 = .ok (.iload_n 2, 1) := by decide +kernel
theorem dX6_mayMove_9 : decode cX6_mayMove 9 = .ok (.aload_n 0, 1) := by decide +kernel
theorem dX6_mayMove_10 : decode cX6_mayMove 10 = .ok (.iload_n 1, 1) := by decide +kernel
theorem dX6_mayMove_11 : decode cX6_mayMove 11 = .ok (.invokevirtual 62, 3) := by decide +kernel
theorem dX6_mayMove_14 : decode cX6_mayMove 14 = .ok (.if_icmp .ne 7, 3) := by decide +kernel
theorem dX6_mayMove_17 : decode cX6_mayMove 17 = .ok (.iconst 1, 1) := by decide +kernel
theorem dX6_mayMove_18 : decode cX6_mayMove 18 = .ok (.goto 4, 3) := by decide +kernel
theorem dX6_mayMove_21 : decode cX6_mayMove 21 = .ok (.iconst 0, 1) := by decide +kernel
theorem dX6_mayMove_22 : decode cX6_mayMove 22 = .ok (.ireturn, 1) := by decide +kernel
theorem dX6_addReserved_0 : decode cX6_addReserved 0 = .ok (.iload_n 1, 1) := by decide +kernel
theorem dX6_addReserved_1 : decode cX6_addReserved 1 = .ok (.aload_n 0, 1) := by decide +kernel
theorem dX6_addReserved_2 : decode cX6_addReserved 2 = .ok (.getfield 37, 3) := by decide +kernel
theorem dX6_addReserved_5 : decode cX6_addReserved 5 = .ok (.invokestatic 47, 3) := by decide +kernel
theorem dX6_addReserved_8 : decode cX6_addReserved 8 = .ok (.ifCond .eq 13, 3) := by decide +kernel
theorem dX6_addReserved_11 : decode cX6_addReserved 11 = .ok (.aload_n 0, 1) := by decide +kernel
theorem dX6_addReserved_12 : decode cX6_addReserved 12 = .ok (.getfield 31, 3) := by decide +kernel
theorem dX6_addReserved_15 : decode cX6_addReserved 15 = .ok (.iload_n 1, 1) := by decide +kernel
theorem dX6_addReserved_16 : decode cX6_addReserved 16 = .ok (.dup2, 1) := by decide +kernel
theorem dX6_addReserved_17 : decode cX6_addReserved 17 = .ok (.iaload, 1) := by decide +kernel
theorem dX6_addReserved_18 : decode cX6_addReserved 18 = .ok (.iload_n 2, 1) := by decide +kernel
theorem dX6_addReserved_19 : decode cX6_addReserved 19 = .ok (.iadd, 1) := by decide +kernel
theorem dX6_addReserved_20 : decode cX6_addReserved 20 = .ok (.iastore, 1) := by decide +kernel
theorem dX6_addReserved_21 : decode cX6_addReserved 21 = .ok (.return_, 1) := by decide +kernel
theorem dX6_addShipped_0 : decode cX6_addShipped 0 = .ok (.iload_n 1, 1) := by decide +kernel
theorem dX6_addShipped_1 : decode cX6_addShipped 1 = .ok (.aload_n 0, 1) := by decide +kernel
theorem dX6_addShipped_2 : decode cX6_addShipped 2 = .ok (.getfield 37, 3) := by decide +kernel
theorem dX6_addShipped_5 : decode cX6_addShipped 5 = .ok (.invokestatic 47, 3) := by decide +kernel
theorem dX6_addShipped_8 : decode cX6_addShipped 8 = .ok (.ifCond .eq 13, 3) := by decide +kernel
theorem dX6_addShipped_11 : decode cX6_addShipped 11 = .ok (.aload_n 0, 1) := by decide +kernel
theorem dX6_addShipped_12 : decode cX6_addShipped 12 = .ok (.getfield 34, 3) := by decide +kernel
theorem dX6_addShipped_15 : decode cX6_addShipped 15 = .ok (.iload_n 1, 1) := by decide +kernel
theorem dX6_addShipped_16 : decode cX6_addShipped 16 = .ok (.dup2, 1) := by decide +kernel
theorem dX6_addShipped_17 : decode cX6_addShipped 17 = .ok (.iaload, 1) := by decide +kernel
theorem dX6_addShipped_18 : decode cX6_addShipped 18 = .ok (.iload_n 2, 1) := by decide +kernel
theorem dX6_addShipped_19 : decode cX6_addShipped 19 = .ok (.iadd, 1) := by decide +kernel
theorem dX6_addShipped_20 : decode cX6_addShipped 20 = .ok (.iastore, 1) := by decide +kernel
theorem dX6_addShipped_21 : decode cX6_addShipped 21 = .ok (.return_, 1) := by decide +kernel
theorem dX6_markCancelled_0 : decode cX6_markCancelled 0 = .ok (.iload_n 1, 1) := by decide +kernel
theorem dX6_markCancelled_1 : decode cX6_markCancelled 1 = .ok (.aload_n 0, 1) := by decide +kernel
theorem dX6_markCancelled_2 : decode cX6_markCancelled 2 = .ok (.getfield 37, 3) := by decide +kernel
theorem dX6_markCancelled_5 : decode cX6_markCancelled 5 = .ok (.invokestatic 47, 3) := by decide +kernel
theorem dX6_markCancelled_8 : decode cX6_markCancelled 8 = .ok (.ifCond .eq 10, 3) := by decide +kernel
theorem dX6_markCancelled_11 : decode cX6_markCancelled 11 = .ok (.aload_n 0, 1) := by decide +kernel
theorem dX6_markCancelled_12 : decode cX6_markCancelled 12 = .ok (.getfield 28, 3) := by decide +kernel
theorem dX6_markCancelled_15 : decode cX6_markCancelled 15 = .ok (.iload_n 1, 1) := by decide +kernel
theorem dX6_markCancelled_16 : decode cX6_markCancelled 16 = .ok (.iconst 1, 1) := by decide +kernel
theorem dX6_markCancelled_17 : decode cX6_markCancelled 17 = .ok (.bastore, 1) := by decide +kernel
theorem dX6_markCancelled_18 : decode cX6_markCancelled 18 = .ok (.return_, 1) := by decide +kernel
theorem dX6_fillTurns_0 : decode cX6_fillTurns 0 = .ok (.iconst 0, 1) := by decide +kernel
theorem dX6_fillTurns_1 : decode cX6_fillTurns 1 = .ok (.istore_n 2, 1) := by decide +kernel
theorem dX6_fillTurns_2 : decode cX6_fillTurns 2 = .ok (.iload_n 2, 1) := by decide +kernel
theorem dX6_fillTurns_3 : decode cX6_fillTurns 3 = .ok (.aload_n 0, 1) := by decide +kernel
theorem dX6_fillTurns_4 : decode cX6_fillTurns 4 = .ok (.getfield 37, 3) := by decide +kernel
theorem dX6_fillTurns_7 : decode cX6_fillTurns 7 = .ok (.if_icmp .ge 52, 3) := by decide +kernel
theorem dX6_fillTurns_10 : decode cX6_fillTurns 10 = .ok (.iload_n 2, 1) := by decide +kernel
theorem dX6_fillTurns_11 : decode cX6_fillTurns 11 = .ok (.aload_n 1, 1) := by decide +kernel
theorem dX6_fillTurns_12 : decode cX6_fillTurns 12 = .ok (.arraylength, 1) := by decide +kernel
theorem dX6_fillTurns_13 : decode cX6_fillTurns 13 = .ok (.if_icmp .ge 46, 3) := by decide +kernel
theorem dX6_fillTurns_16 : decode cX6_fillTurns 16 = .ok (.iload_n 2, 1) := by decide +kernel
theorem dX6_fillTurns_17 : decode cX6_fillTurns 17 = .ok (.istore_n 3, 1) := by decide +kernel
theorem dX6_fillTurns_18 : decode cX6_fillTurns 18 = .ok (.iload_n 3, 1) := by decide +kernel
theorem dX6_fillTurns_19 : decode cX6_fillTurns 19 = .ok (.ifCond .le 30, 3) := by decide +kernel
theorem dX6_fillTurns_22 : decode cX6_fillTurns 22 = .ok (.aload_n 0, 1) := by decide +kernel
theorem dX6_fillTurns_23 : decode cX6_fillTurns 23 = .ok (.iload_n 2, 1) := by decide +kernel
theorem dX6_fillTurns_24 : decode cX6_fillTurns 24 = .ok (.aload_n 1, 1) := by decide +kernel
theorem dX6_fillTurns_25 : decode cX6_fillTurns 25 = .ok (.iload_n 3, 1) := by decide +kernel
theorem dX6_fillTurns_26 : decode cX6_fillTurns 26 = .ok (.iconst 1, 1) := by decide +kernel
theorem dX6_fillTurns_27 : decode cX6_fillTurns 27 = .ok (.isub, 1) := by decide +kernel
theorem dX6_fillTurns_28 : decode cX6_fillTurns 28 = .ok (.iaload, 1) := by decide +kernel
theorem dX6_fillTurns_29 : decode cX6_fillTurns 29 = .ok (.invokevirtual 65, 3) := by decide +kernel
theorem dX6_fillTurns_32 : decode cX6_fillTurns 32 = .ok (.ifCond .eq 17, 3) := by decide +kernel
theorem dX6_fillTurns_35 : decode cX6_fillTurns 35 = .ok (.aload_n 1, 1) := by decide +kernel
theorem dX6_fillTurns_36 : decode cX6_fillTurns 36 = .ok (.iload_n 3, 1) := by decide +kernel
theorem dX6_fillTurns_37 : decode cX6_fillTurns 37 = .ok (.aload_n 1, 1) := by decide +kernel
theorem dX6_fillTurns_38 : decode cX6_fillTurns 38 = .ok (.iload_n 3, 1) := by decide +kernel
theorem dX6_fillTurns_39 : decode cX6_fillTurns 39 = .ok (.iconst 1, 1) := by decide +kernel
theorem dX6_fillTurns_40 : decode cX6_fillTurns 40 = .ok (.isub, 1) := by decide +kernel
theorem dX6_fillTurns_41 : decode cX6_fillTurns 41 = .ok (.iaload, 1) := by decide +kernel
theorem dX6_fillTurns_42 : decode cX6_fillTurns 42 = .ok (.iastore, 1) := by decide +kernel
theorem dX6_fillTurns_43 : decode cX6_fillTurns 43 = .ok (.iinc 3 (-1), 3) := by decide +kernel
theorem dX6_fillTurns_46 : decode cX6_fillTurns 46 = .ok (.goto (-28), 3) := by decide +kernel
theorem dX6_fillTurns_49 : decode cX6_fillTurns 49 = .ok (.aload_n 1, 1) := by decide +kernel
theorem dX6_fillTurns_50 : decode cX6_fillTurns 50 = .ok (.iload_n 3, 1) := by decide +kernel
theorem dX6_fillTurns_51 : decode cX6_fillTurns 51 = .ok (.iload_n 2, 1) := by decide +kernel
theorem dX6_fillTurns_52 : decode cX6_fillTurns 52 = .ok (.iastore, 1) := by decide +kernel
theorem dX6_fillTurns_53 : decode cX6_fillTurns 53 = .ok (.iinc 2 1, 3) := by decide +kernel
theorem dX6_fillTurns_56 : decode cX6_fillTurns 56 = .ok (.goto (-54), 3) := by decide +kernel
theorem dX6_fillTurns_59 : decode cX6_fillTurns 59 = .ok (.return_, 1) := by decide +kernel
theorem dX6_isServedBefore_0 : decode cX6_isServedBefore 0 = .ok (.aload_n 0, 1) := by decide +kernel
theorem dX6_isServedBefore_1 : decode cX6_isServedBefore 1 = .ok (.iload_n 1, 1) := by decide +kernel
theorem dX6_isServedBefore_2 : decode cX6_isServedBefore 2 = .ok (.invokevirtual 68, 3) := by decide +kernel
theorem dX6_isServedBefore_5 : decode cX6_isServedBefore 5 = .ok (.aload_n 0, 1) := by decide +kernel
theorem dX6_isServedBefore_6 : decode cX6_isServedBefore 6 = .ok (.iload_n 2, 1) := by decide +kernel
theorem dX6_isServedBefore_7 : decode cX6_isServedBefore 7 = .ok (.invokevirtual 68, 3) := by decide +kernel
theorem dX6_isServedBefore_10 : decode cX6_isServedBefore 10 = .ok (.if_icmp .eq 22, 3) := by decide +kernel
theorem dX6_isServedBefore_13 : decode cX6_isServedBefore 13 = .ok (.aload_n 0, 1) := by decide +kernel
theorem dX6_isServedBefore_14 : decode cX6_isServedBefore 14 = .ok (.iload_n 1, 1) := by decide +kernel
theorem dX6_isServedBefore_15 : decode cX6_isServedBefore 15 = .ok (.invokevirtual 68, 3) := by decide +kernel
theorem dX6_isServedBefore_18 : decode cX6_isServedBefore 18 = .ok (.aload_n 0, 1) := by decide +kernel
theorem dX6_isServedBefore_19 : decode cX6_isServedBefore 19 = .ok (.iload_n 2, 1) := by decide +kernel
theorem dX6_isServedBefore_20 : decode cX6_isServedBefore 20 = .ok (.invokevirtual 68, 3) := by decide +kernel
theorem dX6_isServedBefore_23 : decode cX6_isServedBefore 23 = .ok (.if_icmp .ge 7, 3) := by decide +kernel
theorem dX6_isServedBefore_26 : decode cX6_isServedBefore 26 = .ok (.iconst 1, 1) := by decide +kernel
theorem dX6_isServedBefore_27 : decode cX6_isServedBefore 27 = .ok (.goto 4, 3) := by decide +kernel
theorem dX6_isServedBefore_30 : decode cX6_isServedBefore 30 = .ok (.iconst 0, 1) := by decide +kernel
theorem dX6_isServedBefore_31 : decode cX6_isServedBefore 31 = .ok (.ireturn, 1) := by decide +kernel
theorem dX6_isServedBefore_32 : decode cX6_isServedBefore 32 = .ok (.aload_n 0, 1) := by decide +kernel
theorem dX6_isServedBefore_33 : decode cX6_isServedBefore 33 = .ok (.iload_n 1, 1) := by decide +kernel
theorem dX6_isServedBefore_34 : decode cX6_isServedBefore 34 = .ok (.invokevirtual 71, 3) := by decide +kernel
theorem dX6_isServedBefore_37 : decode cX6_isServedBefore 37 = .ok (.aload_n 0, 1) := by decide +kernel
theorem dX6_isServedBefore_38 : decode cX6_isServedBefore 38 = .ok (.iload_n 2, 1) := by decide +kernel
theorem dX6_isServedBefore_39 : decode cX6_isServedBefore 39 = .ok (.invokevirtual 71, 3) := by decide +kernel
theorem dX6_isServedBefore_42 : decode cX6_isServedBefore 42 = .ok (.if_icmp .le 7, 3) := by decide +kernel
theorem dX6_isServedBefore_45 : decode cX6_isServedBefore 45 = .ok (.iconst 1, 1) := by decide +kernel
theorem dX6_isServedBefore_46 : decode cX6_isServedBefore 46 = .ok (.goto 4, 3) := by decide +kernel
theorem dX6_isServedBefore_49 : decode cX6_isServedBefore 49 = .ok (.iconst 0, 1) := by decide +kernel
theorem dX6_isServedBefore_50 : decode cX6_isServedBefore 50 = .ok (.ireturn, 1) := by decide +kernel
theorem dX6_firstToLose_0 : decode cX6_firstToLose 0 = .ok (.iconst (-1), 1) := by decide +kernel
theorem dX6_firstToLose_1 : decode cX6_firstToLose 1 = .ok (.istore_n 3, 1) := by decide +kernel
theorem dX6_firstToLose_2 : decode cX6_firstToLose 2 = .ok (.iconst 0, 1) := by decide +kernel
theorem dX6_firstToLose_3 : decode cX6_firstToLose 3 = .ok (.istore 4, 2) := by decide +kernel
theorem dX6_firstToLose_5 : decode cX6_firstToLose 5 = .ok (.iload 4, 2) := by decide +kernel
theorem dX6_firstToLose_7 : decode cX6_firstToLose 7 = .ok (.aload_n 0, 1) := by decide +kernel
theorem dX6_firstToLose_8 : decode cX6_firstToLose 8 = .ok (.getfield 37, 3) := by decide +kernel
theorem dX6_firstToLose_11 : decode cX6_firstToLose 11 = .ok (.if_icmp .ge 62, 3) := by decide +kernel
theorem dX6_firstToLose_14 : decode cX6_firstToLose 14 = .ok (.aload_n 0, 1) := by decide +kernel
theorem dX6_firstToLose_15 : decode cX6_firstToLose 15 = .ok (.iload 4, 2) := by decide +kernel
theorem dX6_firstToLose_17 : decode cX6_firstToLose 17 = .ok (.invokevirtual 55, 3) := by decide +kernel
theorem dX6_firstToLose_20 : decode cX6_firstToLose 20 = .ok (.ifCond .le 21, 3) := by decide +kernel
theorem dX6_firstToLose_23 : decode cX6_firstToLose 23 = .ok (.aload_n 1, 1) := by decide +kernel
theorem dX6_firstToLose_24 : decode cX6_firstToLose 24 = .ok (.aload_n 0, 1) := by decide +kernel
theorem dX6_firstToLose_25 : decode cX6_firstToLose 25 = .ok (.iload 4, 2) := by decide +kernel
theorem dX6_firstToLose_27 : decode cX6_firstToLose 27 = .ok (.invokevirtual 74, 3) := by decide +kernel
theorem dX6_firstToLose_30 : decode cX6_firstToLose 30 = .ok (.iload_n 2, 1) := by decide +kernel
theorem dX6_firstToLose_31 : decode cX6_firstToLose 31 = .ok (.invokevirtual 77, 3) := by decide +kernel
theorem dX6_firstToLose_34 : decode cX6_firstToLose 34 = .ok (.ifCond .le 7, 3) := by decide +kernel
theorem dX6_firstToLose_37 : decode cX6_firstToLose 37 = .ok (.iconst 1, 1) := by decide +kernel
theorem dX6_firstToLose_38 : decode cX6_firstToLose 38 = .ok (.goto 4, 3) := by decide +kernel
theorem dX6_firstToLose_41 : decode cX6_firstToLose 41 = .ok (.iconst 0, 1) := by decide +kernel
theorem dX6_firstToLose_42 : decode cX6_firstToLose 42 = .ok (.istore 5, 2) := by decide +kernel
theorem dX6_firstToLose_44 : decode cX6_firstToLose 44 = .ok (.iload 5, 2) := by decide +kernel
theorem dX6_firstToLose_46 : decode cX6_firstToLose 46 = .ok (.ifCond .eq 21, 3) := by decide +kernel
theorem dX6_firstToLose_49 : decode cX6_firstToLose 49 = .ok (.iload_n 3, 1) := by decide +kernel
theorem dX6_firstToLose_50 : decode cX6_firstToLose 50 = .ok (.iconst (-1), 1) := by decide +kernel
theorem dX6_firstToLose_51 : decode cX6_firstToLose 51 = .ok (.if_icmp .eq 13, 3) := by decide +kernel
theorem dX6_firstToLose_54 : decode cX6_firstToLose 54 = .ok (.aload_n 0, 1) := by decide +kernel
theorem dX6_firstToLose_55 : decode cX6_firstToLose 55 = .ok (.iload 4, 2) := by decide +kernel
theorem dX6_firstToLose_57 : decode cX6_firstToLose 57 = .ok (.iload_n 3, 1) := by decide +kernel
theorem dX6_firstToLose_58 : decode cX6_firstToLose 58 = .ok (.invokevirtual 83, 3) := by decide +kernel
theorem dX6_firstToLose_61 : decode cX6_firstToLose 61 = .ok (.ifCond .eq 6, 3) := by decide +kernel
theorem dX6_firstToLose_64 : decode cX6_firstToLose 64 = .ok (.iload 4, 2) := by decide +kernel
theorem dX6_firstToLose_66 : decode cX6_firstToLose 66 = .ok (.istore_n 3, 1) := by decide +kernel
theorem dX6_firstToLose_67 : decode cX6_firstToLose 67 = .ok (.iinc 4 1, 3) := by decide +kernel
theorem dX6_firstToLose_70 : decode cX6_firstToLose 70 = .ok (.goto (-65), 3) := by decide +kernel
theorem dX6_firstToLose_73 : decode cX6_firstToLose 73 = .ok (.iload_n 3, 1) := by decide +kernel
theorem dX6_firstToLose_74 : decode cX6_firstToLose 74 = .ok (.ireturn, 1) := by decide +kernel
theorem dX6_losesBefore_0 : decode cX6_losesBefore 0 = .ok (.aload_n 0, 1) := by decide +kernel
theorem dX6_losesBefore_1 : decode cX6_losesBefore 1 = .ok (.iload_n 1, 1) := by decide +kernel
theorem dX6_losesBefore_2 : decode cX6_losesBefore 2 = .ok (.invokevirtual 71, 3) := by decide +kernel
theorem dX6_losesBefore_5 : decode cX6_losesBefore 5 = .ok (.aload_n 0, 1) := by decide +kernel
theorem dX6_losesBefore_6 : decode cX6_losesBefore 6 = .ok (.iload_n 2, 1) := by decide +kernel
theorem dX6_losesBefore_7 : decode cX6_losesBefore 7 = .ok (.invokevirtual 71, 3) := by decide +kernel
theorem dX6_losesBefore_10 : decode cX6_losesBefore 10 = .ok (.if_icmp .eq 22, 3) := by decide +kernel
theorem dX6_losesBefore_13 : decode cX6_losesBefore 13 = .ok (.aload_n 0, 1) := by decide +kernel
theorem dX6_losesBefore_14 : decode cX6_losesBefore 14 = .ok (.iload_n 1, 1) := by decide +kernel
theorem dX6_losesBefore_15 : decode cX6_losesBefore 15 = .ok (.invokevirtual 71, 3) := by decide +kernel
theorem dX6_losesBefore_18 : decode cX6_losesBefore 18 = .ok (.aload_n 0, 1) := by decide +kernel
theorem dX6_losesBefore_19 : decode cX6_losesBefore 19 = .ok (.iload_n 2, 1) := by decide +kernel
theorem dX6_losesBefore_20 : decode cX6_losesBefore 20 = .ok (.invokevirtual 71, 3) := by decide +kernel
theorem dX6_losesBefore_23 : decode cX6_losesBefore 23 = .ok (.if_icmp .ge 7, 3) := by decide +kernel
theorem dX6_losesBefore_26 : decode cX6_losesBefore 26 = .ok (.iconst 1, 1) := by decide +kernel
theorem dX6_losesBefore_27 : decode cX6_losesBefore 27 = .ok (.goto 4, 3) := by decide +kernel
theorem dX6_losesBefore_30 : decode cX6_losesBefore 30 = .ok (.iconst 0, 1) := by decide +kernel
theorem dX6_losesBefore_31 : decode cX6_losesBefore 31 = .ok (.ireturn, 1) := by decide +kernel
theorem dX6_losesBefore_32 : decode cX6_losesBefore 32 = .ok (.aload_n 0, 1) := by decide +kernel
theorem dX6_losesBefore_33 : decode cX6_losesBefore 33 = .ok (.iload_n 1, 1) := by decide +kernel
theorem dX6_losesBefore_34 : decode cX6_losesBefore 34 = .ok (.invokevirtual 68, 3) := by decide +kernel
theorem dX6_losesBefore_37 : decode cX6_losesBefore 37 = .ok (.aload_n 0, 1) := by decide +kernel
theorem dX6_losesBefore_38 : decode cX6_losesBefore 38 = .ok (.iload_n 2, 1) := by decide +kernel
theorem dX6_losesBefore_39 : decode cX6_losesBefore 39 = .ok (.invokevirtual 68, 3) := by decide +kernel
theorem dX6_losesBefore_42 : decode cX6_losesBefore 42 = .ok (.if_icmp .lt 7, 3) := by decide +kernel
theorem dX6_losesBefore_45 : decode cX6_losesBefore 45 = .ok (.iconst 1, 1) := by decide +kernel
theorem dX6_losesBefore_46 : decode cX6_losesBefore 46 = .ok (.goto 4, 3) := by decide +kernel
theorem dX6_losesBefore_49 : decode cX6_losesBefore 49 = .ok (.iconst 0, 1) := by decide +kernel
theorem dX6_losesBefore_50 : decode cX6_losesBefore 50 = .ok (.ireturn, 1) := by decide +kernel
theorem dX7_begin_0 : decode cX7_begin 0 = .ok (.aload_n 0, 1) := by decide +kernel
theorem dX7_begin_1 : decode cX7_begin 1 = .ok (.getfield 25, 3) := by decide +kernel
theorem dX7_begin_4 : decode cX7_begin 4 = .ok (.invokevirtual 36, 3) := by decide +kernel
theorem dX7_begin_7 : decode cX7_begin 7 = .ok (.aload_n 0, 1) := by decide +kernel
theorem dX7_begin_8 : decode cX7_begin 8 = .ok (.getfield 32, 3) := by decide +kernel
theorem dX7_begin_11 : decode cX7_begin 11 = .ok (.invokevirtual 39, 3) := by decide +kernel
theorem dX7_begin_14 : decode cX7_begin 14 = .ok (.aload_n 0, 1) := by decide +kernel
theorem dX7_begin_15 : decode cX7_begin 15 = .ok (.iconst (-1), 1) := by decide +kernel
theorem dX7_begin_16 : decode cX7_begin 16 = .ok (.putfield 9, 3) := by decide +kernel
theorem dX7_begin_19 : decode cX7_begin 19 = .ok (.aload_n 0, 1) := by decide +kernel
theorem dX7_begin_20 : decode cX7_begin 20 = .ok (.iconst 0, 1) := by decide +kernel
theorem dX7_begin_21 : decode cX7_begin 21 = .ok (.putfield 40, 3) := by decide +kernel
theorem dX7_begin_24 : decode cX7_begin 24 = .ok (.aload_n 0, 1) := by decide +kernel
theorem dX7_begin_25 : decode cX7_begin 25 = .ok (.getfield 18, 3) := by decide +kernel
theorem dX7_begin_28 : decode cX7_begin 28 = .ok (.invokevirtual 43, 3) := by decide +kernel
theorem dX7_begin_31 : decode cX7_begin 31 = .ok (.return_, 1) := by decide +kernel
theorem dX7_hasLine_0 : decode cX7_hasLine 0 = .ok (.aload_n 0, 1) := by decide +kernel
theorem dX7_hasLine_1 : decode cX7_hasLine 1 = .ok (.getfield 18, 3) := by decide +kernel
theorem dX7_hasLine_4 : decode cX7_hasLine 4 = .ok (.getfield 46, 3) := by decide +kernel
theorem dX7_hasLine_7 : decode cX7_hasLine 7 = .ok (.ifCond .eq 7, 3) := by decide +kernel
theorem dX7_hasLine_10 : decode cX7_hasLine 10 = .ok (.iconst 1, 1) := by decide +kernel
theorem dX7_hasLine_11 : decode cX7_hasLine 11 = .ok (.goto 4, 3) := by decide +kernel
theorem dX7_hasLine_14 : decode cX7_hasLine 14 = .ok (.iconst 0, 1) := by decide +kernel
theorem dX7_hasLine_15 : decode cX7_hasLine 15 = .ok (.ireturn, 1) := by decide +kernel
theorem dX7_swapCatalog_0 : decode cX7_swapCatalog 0 = .ok (.aload_n 0, 1) := by decide +kernel
theorem dX7_swapCatalog_1 : decode cX7_swapCatalog 1 = .ok (.getfield 25, 3) := by decide +kernel
theorem dX7_swapCatalog_4 : decode cX7_swapCatalog 4 = .ok (.astore_n 2, 1) := by decide +kernel
theorem dX7_swapCatalog_5 : decode cX7_swapCatalog 5 = .ok (.aload_n 2, 1) := by decide +kernel
theorem dX7_swapCatalog_6 : decode cX7_swapCatalog 6 = .ok (.getfield 49, 3) := by decide +kernel
theorem dX7_swapCatalog_9 : decode cX7_swapCatalog 9 = .ok (.ifCond .ne 12, 3) := by decide +kernel
theorem dX7_swapCatalog_12 : decode cX7_swapCatalog 12 = .ok (.aload_n 2, 1) := by decide +kernel
theorem dX7_swapCatalog_13 : decode cX7_swapCatalog 13 = .ok (.iconst 0, 1) := by decide +kernel
theorem dX7_swapCatalog_14 : decode cX7_swapCatalog 14 = .ok (.bipush 9, 2) := by decide +kernel
theorem dX7_swapCatalog_16 : decode cX7_swapCatalog 16 = .ok (.bipush 100, 2) := by decide +kernel
theorem dX7_swapCatalog_18 : decode cX7_swapCatalog 18 = .ok (.invokevirtual 52, 3) := by decide +kernel
theorem dX7_swapCatalog_21 : decode cX7_swapCatalog 21 = .ok (.aload_n 0, 1) := by decide +kernel
theorem dX7_swapCatalog_22 : decode cX7_swapCatalog 22 = .ok (.aload_n 1, 1) := by decide +kernel
theorem dX7_swapCatalog_23 : decode cX7_swapCatalog 23 = .ok (.putfield 25, 3) := by decide +kernel
theorem dX7_swapCatalog_26 : decode cX7_swapCatalog 26 = .ok (.aload_n 2, 1) := by decide +kernel
theorem dX7_swapCatalog_27 : decode cX7_swapCatalog 27 = .ok (.areturn, 1) := by decide +kernel
theorem dX7_swapLedger_0 : decode cX7_swapLedger 0 = .ok (.aload_n 0, 1) := by decide +kernel
theorem dX7_swapLedger_1 : decode cX7_swapLedger 1 = .ok (.getfield 32, 3) := by decide +kernel
theorem dX7_swapLedger_4 : decode cX7_swapLedger 4 = .ok (.astore_n 2, 1) := by decide +kernel
theorem dX7_swapLedger_5 : decode cX7_swapLedger 5 = .ok (.aload_n 0, 1) := by decide +kernel
theorem dX7_swapLedger_6 : decode cX7_swapLedger 6 = .ok (.aload_n 1, 1) := by decide +kernel
theorem dX7_swapLedger_7 : decode cX7_swapLedger 7 = .ok (.putfield 32, 3) := by decide +kernel
theorem dX7_swapLedger_10 : decode cX7_swapLedger 10 = .ok (.aload_n 2, 1) := by decide +kernel
theorem dX7_swapLedger_11 : decode cX7_swapLedger 11 = .ok (.areturn, 1) := by decide +kernel
theorem dX7_readLine_0 : decode cX7_readLine 0 = .ok (.aload_n 0, 1) := by decide +kernel
theorem dX7_readLine_1 : decode cX7_readLine 1 = .ok (.getfield 18, 3) := by decide +kernel
theorem dX7_readLine_4 : decode cX7_readLine 4 = .ok (.ldc 56, 2) := by decide +kernel
theorem dX7_readLine_6 : decode cX7_readLine 6 = .ok (.invokevirtual 58, 3) := by decide +kernel
theorem dX7_readLine_9 : decode cX7_readLine 9 = .ok (.ifCond .eq 28, 3) := by decide +kernel
theorem dX7_readLine_12 : decode cX7_readLine 12 = .ok (.aload_n 0, 1) := by decide +kernel
theorem dX7_readLine_13 : decode cX7_readLine 13 = .ok (.getfield 25, 3) := by decide +kernel
theorem dX7_readLine_16 : decode cX7_readLine 16 = .ok (.getfield 62, 3) := by decide +kernel
theorem dX7_readLine_19 : decode cX7_readLine 19 = .ok (.bipush 12, 2) := by decide +kernel
theorem dX7_readLine_21 : decode cX7_readLine 21 = .ok (.if_icmp .ge 10, 3) := by decide +kernel
theorem dX7_readLine_24 : decode cX7_readLine 24 = .ok (.aload_n 0, 1) := by decide +kernel
theorem dX7_readLine_25 : decode cX7_readLine 25 = .ok (.invokevirtual 65, 3) := by decide +kernel
theorem dX7_readLine_28 : decode cX7_readLine 28 = .ok (.goto 8, 3) := by decide +kernel
theorem dX7_readLine_31 : decode cX7_readLine 31 = .ok (.aload_n 0, 1) := by decide +kernel
theorem dX7_readLine_32 : decode cX7_readLine 32 = .ok (.iconst 4, 1) := by decide +kernel
theorem dX7_readLine_33 : decode cX7_readLine 33 = .ok (.invokevirtual 69, 3) := by decide +kernel
theorem dX7_readLine_36 : decode cX7_readLine 36 = .ok (.ireturn, 1) := by decide +kernel
theorem dX7_readLine_37 : decode cX7_readLine 37 = .ok (.aload_n 0, 1) := by decide +kernel
theorem dX7_readLine_38 : decode cX7_readLine 38 = .ok (.getfield 18, 3) := by decide +kernel
theorem dX7_readLine_41 : decode cX7_readLine 41 = .ok (.ldc 73, 2) := by decide +kernel
theorem dX7_readLine_43 : decode cX7_readLine 43 = .ok (.invokevirtual 58, 3) := by decide +kernel
theorem dX7_readLine_46 : decode cX7_readLine 46 = .ok (.ifCond .eq 28, 3) := by decide +kernel
theorem dX7_readLine_49 : decode cX7_readLine 49 = .ok (.aload_n 0, 1) := by decide +kernel
theorem dX7_readLine_50 : decode cX7_readLine 50 = .ok (.getfield 25, 3) := by decide +kernel
theorem dX7_readLine_53 : decode cX7_readLine 53 = .ok (.getfield 75, 3) := by decide +kernel
theorem dX7_readLine_56 : decode cX7_readLine 56 = .ok (.bipush 8, 2) := by decide +kernel
theorem dX7_readLine_58 : decode cX7_readLine 58 = .ok (.if_icmp .ge 10, 3) := by decide +kernel
theorem dX7_readLine_61 : decode cX7_readLine 61 = .ok (.aload_n 0, 1) := by decide +kernel
theorem dX7_readLine_62 : decode cX7_readLine 62 = .ok (.invokevirtual 78, 3) := by decide +kernel
theorem dX7_readLine_65 : decode cX7_readLine 65 = .ok (.goto 8, 3) := by decide +kernel
theorem dX7_readLine_68 : decode cX7_readLine 68 = .ok (.aload_n 0, 1) := by decide +kernel
theorem dX7_readLine_69 : decode cX7_readLine 69 = .ok (.iconst 4, 1) := by decide +kernel
theorem dX7_readLine_70 : decode cX7_readLine 70 = .ok (.invokevirtual 69, 3) := by decide +kernel
theorem dX7_readLine_73 : decode cX7_readLine 73 = .ok (.ireturn, 1) := by decide +kernel
theorem dX7_readLine_74 : decode cX7_readLine 74 = .ok (.aload_n 0, 1) := by decide +kernel
theorem dX7_readLine_75 : decode cX7_readLine 75 = .ok (.getfield 18, 3) := by decide +kernel
theorem dX7_readLine_78 : decode cX7_readLine 78 = .ok (.ldc 81, 2) := by decide +kernel
theorem dX7_readLine_80 : decode cX7_readLine 80 = .ok (.invokevirtual 58, 3) := by decide +kernel
theorem dX7_readLine_83 : decode cX7_readLine 83 = .ok (.ifCond .eq 28, 3) := by decide +kernel
theorem dX7_readLine_86 : decode cX7_readLine 86 = .ok (.aload_n 0, 1) := by decide +kernel
theorem dX7_readLine_87 : decode cX7_readLine 87 = .ok (.getfield 25, 3) := by decide +kernel
theorem dX7_readLine_90 : decode cX7_readLine 90 = .ok (.getfield 49, 3) := by decide +kernel
theorem dX7_readLine_93 : decode cX7_readLine 93 = .ok (.bipush 6, 2) := by decide +kernel
theorem dX7_readLine_95 : decode cX7_readLine 95 = .ok (.if_icmp .ge 10, 3) := by decide +kernel
theorem dX7_readLine_98 : decode cX7_readLine 98 = .ok (.aload_n 0, 1) := by decide +kernel
theorem dX7_readLine_99 : decode cX7_readLine 99 = .ok (.invokevirtual 83, 3) := by decide +kernel
theorem dX7_readLine_102 : decode cX7_readLine 102 = .ok (.goto 8, 3) := by decide +kernel
theorem dX7_readLine_105 : decode cX7_readLine 105 = .ok (.aload_n 0, 1) := by decide +kernel
theorem dX7_readLine_106 : decode cX7_readLine 106 = .ok (.iconst 4, 1) := by decide +kernel
theorem dX7_readLine_107 : decode cX7_readLine 107 = .ok (.invokevirtual 69, 3) := by decide +kernel
theorem dX7_readLine_110 : decode cX7_readLine 110 = .ok (.ireturn, 1) := by decide +kernel
theorem dX7_readLine_111 : decode cX7_readLine 111 = .ok (.aload_n 0, 1) := by decide +kernel
theorem dX7_readLine_112 : decode cX7_readLine 112 = .ok (.getfield 18, 3) := by decide +kernel
theorem dX7_readLine_115 : decode cX7_readLine 115 = .ok (.ldc 86, 2) := by decide +kernel
theorem dX7_readLine_117 : decode cX7_readLine 117 = .ok (.invokevirtual 58, 3) := by decide +kernel
theorem dX7_readLine_120 : decode cX7_readLine 120 = .ok (.ifCond .eq 31, 3) := by decide +kernel
theorem dX7_readLine_123 : decode cX7_readLine 123 = .ok (.aload_n 0, 1) := by decide +kernel
theorem dX7_readLine_124 : decode cX7_readLine 124 = .ok (.getfield 32, 3) := by decide +kernel
theorem dX7_readLine_127 : decode cX7_readLine 127 = .ok (.getfield 88, 3) := by decide +kernel
theorem dX7_readLine_130 : decode cX7_readLine 130 = .ok (.getfield 92, 3) := by decide +kernel
theorem dX7_readLine_133 : decode cX7_readLine 133 = .ok (.bipush 20, 2) := by decide +kernel
theorem dX7_readLine_135 : decode cX7_readLine 135 = .ok (.if_icmp .ge 10, 3) := by decide +kernel
theorem dX7_readLine_138 : decode cX7_readLine 138 = .ok (.aload_n 0, 1) := by decide +kernel
theorem dX7_readLine_139 : decode cX7_readLine 139 = .ok (.invokevirtual 97, 3) := by decide +kernel
theorem dX7_readLine_142 : decode cX7_readLine 142 = .ok (.goto 8, 3) := by decide +kernel
theorem dX7_readLine_145 : decode cX7_readLine 145 = .ok (.aload_n 0, 1) := by decide +kernel
theorem dX7_readLine_146 : decode cX7_readLine 146 = .ok (.iconst 4, 1) := by decide +kernel
theorem dX7_readLine_147 : decode cX7_readLine 147 = .ok (.invokevirtual 69, 3) := by decide +kernel
theorem dX7_readLine_150 : decode cX7_readLine 150 = .ok (.ireturn, 1) := by decide +kernel
theorem dX7_readLine_151 : decode cX7_readLine 151 = .ok (.aload_n 0, 1) := by decide +kernel
theorem dX7_readLine_152 : decode cX7_readLine 152 = .ok (.iconst 1, 1) := by decide +kernel
theorem dX7_readLine_153 : decode cX7_readLine 153 = .ok (.invokevirtual 69, 3) := by decide +kernel
theorem dX7_readLine_156 : decode cX7_readLine 156 = .ok (.ireturn, 1) := by decide +kernel
theorem dX7_fail_0 : decode cX7_fail 0 = .ok (.aload_n 0, 1) := by decide +kernel
theorem dX7_fail_1 : decode cX7_fail 1 = .ok (.aload_n 0, 1) := by decide +kernel
theorem dX7_fail_2 : decode cX7_fail 2 = .ok (.getfield 18, 3) := by decide +kernel
theorem dX7_fail_5 : decode cX7_fail 5 = .ok (.getfield 100, 3) := by decide +kernel
theorem dX7_fail_8 : decode cX7_fail 8 = .ok (.putfield 9, 3) := by decide +kernel
theorem dX7_fail_11 : decode cX7_fail 11 = .ok (.aload_n 0, 1) := by decide +kernel
theorem dX7_fail_12 : decode cX7_fail 12 = .ok (.iload_n 1, 1) := by decide +kernel
theorem dX7_fail_13 : decode cX7_fail 13 = .ok (.putfield 40, 3) := by decide +kernel
theorem dX7_fail_16 : decode cX7_fail 16 = .ok (.iconst 0, 1) := by decide +kernel
theorem dX7_fail_17 : decode cX7_fail 17 = .ok (.ireturn, 1) := by decide +kernel
theorem dX7_readSemicolon_0 : decode cX7_readSemicolon 0 = .ok (.aload_n 0, 1) := by decide +kernel
theorem dX7_readSemicolon_1 : decode cX7_readSemicolon 1 = .ok (.getfield 18, 3) := by decide +kernel
theorem dX7_readSemicolon_4 : decode cX7_readSemicolon 4 = .ok (.invokevirtual 103, 3) := by decide +kernel
theorem dX7_readSemicolon_7 : decode cX7_readSemicolon 7 = .ok (.ifCond .ne 9, 3) := by decide +kernel
theorem dX7_readSemicolon_10 : decode cX7_readSemicolon 10 = .ok (.aload_n 0, 1) := by decide +kernel
theorem dX7_readSemicolon_11 : decode cX7_readSemicolon 11 = .ok (.iconst 1, 1) := by decide +kernel
theorem dX7_readSemicolon_12 : decode cX7_readSemicolon 12 = .ok (.invokevirtual 69, 3) := by decide +kernel
theorem dX7_readSemicolon_15 : decode cX7_readSemicolon 15 = .ok (.ireturn, 1) := by decide +kernel
theorem dX7_readSemicolon_16 : decode cX7_readSemicolon 16 = .ok (.aload_n 0, 1) := by decide +kernel
theorem dX7_readSemicolon_17 : decode cX7_readSemicolon 17 = .ok (.getfield 18, 3) := by decide +kernel
theorem dX7_readSemicolon_20 : decode cX7_readSemicolon 20 = .ok (.invokevirtual 106, 3) := by decide +kernel
theorem dX7_readSemicolon_23 : decode cX7_readSemicolon 23 = .ok (.iconst 1, 1) := by decide +kernel
theorem dX7_readSemicolon_24 : decode cX7_readSemicolon 24 = .ok (.ireturn, 1) := by decide +kernel
theorem dX7_readPart_0 : decode cX7_readPart 0 = .ok (.aload_n 0, 1) := by decide +kernel
theorem dX7_readPart_1 : decode cX7_readPart 1 = .ok (.getfield 18, 3) := by decide +kernel
theorem dX7_readPart_4 : decode cX7_readPart 4 = .ok (.invokevirtual 106, 3) := by decide +kernel
theorem dX7_readPart_7 : decode cX7_readPart 7 = .ok (.aload_n 0, 1) := by decide +kernel
theorem dX7_readPart_8 : decode cX7_readPart 8 = .ok (.invokevirtual 109, 3) := by decide +kernel
theorem dX7_readPart_11 : decode cX7_readPart 11 = .ok (.ifCond .ne 5, 3) := by decide +kernel
theorem dX7_readPart_14 : decode cX7_readPart 14 = .ok (.iconst 0, 1) := by decide +kernel
theorem dX7_readPart_15 : decode cX7_readPart 15 = .ok (.ireturn, 1) := by decide +kernel
theorem dX7_readPart_16 : decode cX7_readPart 16 = .ok (.aload_n 0, 1) := by decide +kernel
theorem dX7_readPart_17 : decode cX7_readPart 17 = .ok (.getfield 18, 3) := by decide +kernel
theorem dX7_readPart_20 : decode cX7_readPart 20 = .ok (.invokevirtual 112, 3) := by decide +kernel
theorem dX7_readPart_23 : decode cX7_readPart 23 = .ok (.lstore_n 1, 1) := by decide +kernel
theorem dX7_readPart_24 : decode cX7_readPart 24 = .ok (.aload_n 0, 1) := by decide +kernel
theorem dX7_readPart_25 : decode cX7_readPart 25 = .ok (.getfield 18, 3) := by decide +kernel
theorem dX7_readPart_28 : decode cX7_readPart 28 = .ok (.invokevirtual 106, 3) := by decide +kernel
theorem dX7_readPart_31 : decode cX7_readPart 31 = .ok (.aload_n 0, 1) := by decide +kernel
theorem dX7_readPart_32 : decode cX7_readPart 32 = .ok (.iconst 0, 1) := by decide +kernel
theorem dX7_readPart_33 : decode cX7_readPart 33 = .ok (.sipush 9999, 3) := by decide +kernel
theorem dX7_readPart_36 : decode cX7_readPart 36 = .ok (.invokevirtual 116, 3) := by decide +kernel
theorem dX7_readPart_39 : decode cX7_readPart 39 = .ok (.istore_n 3, 1) := by decide +kernel
theorem dX7_readPart_40 : decode cX7_readPart 40 = .ok (.iload_n 3, 1) := by decide +kernel
theorem dX7_readPart_41 : decode cX7_readPart 41 = .ok (.iconst (-1), 1) := by decide +kernel
theorem dX7_readPart_42 : decode cX7_readPart 42 = .ok (.if_icmp .ne 5, 3) := by decide +kernel
theorem dX7_readPart_45 : decode cX7_readPart 45 = .ok (.iconst 0, 1) := by decide +kernel
theorem dX7_readPart_46 : decode cX7_readPart 46 = .ok (.ireturn, 1) := by decide +kernel
theorem dX7_readPart_47 : decode cX7_readPart 47 = .ok (.aload_n 0, 1) := by decide +kernel
theorem dX7_readPart_48 : decode cX7_readPart 48 = .ok (.iconst 1, 1) := by decide +kernel
theorem dX7_readPart_49 : decode cX7_readPart 49 = .ok (.bipush 60, 2) := by decide +kernel
theorem dX7_readPart_51 : decode cX7_readPart 51 = .ok (.invokevirtual 116, 3) := by decide +kernel
theorem dX7_readPart_54 : decode cX7_readPart 54 = .ok (.istore 4, 2) := by decide +kernel
theorem dX7_readPart_56 : decode cX7_readPart 56 = .ok (.iload 4, 2) := by decide +kernel
theorem dX7_readPart_58 : decode cX7_readPart 58 = .ok (.iconst (-1), 1) := by decide +kernel
theorem dX7_readPart_59 : decode cX7_readPart 59 = .ok (.if_icmp .ne 5, 3) := by decide +kernel
theorem dX7_readPart_62 : decode cX7_readPart 62 = .ok (.iconst 0, 1) := by decide +kernel
theorem dX7_readPart_63 : decode cX7_readPart 63 = .ok (.ireturn, 1) := by decide +kernel
theorem dX7_readPart_64 : decode cX7_readPart 64 = .ok (.aload_n 0, 1) := by decide +kernel
theorem dX7_readPart_65 : decode cX7_readPart 65 = .ok (.getfield 32, 3) := by decide +kernel
theorem dX7_readPart_68 : decode cX7_readPart 68 = .ok (.getfield 120, 3) := by decide +kernel
theorem dX7_readPart_71 : decode cX7_readPart 71 = .ok (.aload_n 0, 1) := by decide +kernel
theorem dX7_readPart_72 : decode cX7_readPart 72 = .ok (.getfield 25, 3) := by decide +kernel
theorem dX7_readPart_75 : decode cX7_readPart 75 = .ok (.getfield 62, 3) := by decide +kernel
theorem dX7_readPart_78 : decode cX7_readPart 78 = .ok (.iload_n 3, 1) := by decide +kernel
theorem dX7_readPart_79 : decode cX7_readPart 79 = .ok (.invokevirtual 124, 3) := by decide +kernel
theorem dX7_readPart_82 : decode cX7_readPart 82 = .ok (.aload_n 0, 1) := by decide +kernel
theorem dX7_readPart_83 : decode cX7_readPart 83 = .ok (.getfield 25, 3) := by decide +kernel
theorem dX7_readPart_86 : decode cX7_readPart 86 = .ok (.lload_n 1, 1) := by decide +kernel
theorem dX7_readPart_87 : decode cX7_readPart 87 = .ok (.iload 4, 2) := by decide +kernel
theorem dX7_readPart_89 : decode cX7_readPart 89 = .ok (.invokevirtual 130, 3) := by decide +kernel
theorem dX7_readPart_92 : decode cX7_readPart 92 = .ok (.aload_n 0, 1) := by decide +kernel
theorem dX7_readPart_93 : decode cX7_readPart 93 = .ok (.invokevirtual 134, 3) := by decide +kernel
theorem dX7_readPart_96 : decode cX7_readPart 96 = .ok (.ireturn, 1) := by decide +kernel
theorem dX7_readProduct_0 : decode cX7_readProduct 0 = .ok (.aload_n 0, 1) := by decide +kernel
theorem dX7_readProduct_1 : decode cX7_readProduct 1 = .ok (.getfield 18, 3) := by decide +kernel
theorem dX7_readProduct_4 : decode cX7_readProduct 4 = .ok (.invokevirtual 106, 3) := by decide +kernel
theorem dX7_readProduct_7 : decode cX7_readProduct 7 = .ok (.aload_n 0, 1) := by decide +kernel
theorem dX7_readProduct_8 : decode cX7_readProduct 8 = .ok (.invokevirtual 109, 3) := by decide +kernel
theorem dX7_readProduct_11 : decode cX7_readProduct 11 = .ok (.ifCond .ne 5, 3) := by decide +kernel
theorem dX7_readProduct_14 : decode cX7_readProduct 14 = .ok (.iconst 0, 1) := by decide +kernel
theorem dX7_readProduct_15 : decode cX7_readProduct 15 = .ok (.ireturn, 1) := by decide +kernel
theorem dX7_readProduct_16 : decode cX7_readProduct 16 = .ok (.aload_n 0, 1) := by decide +kernel
theorem dX7_readProduct_17 : decode cX7_readProduct 17 = .ok (.getfield 25, 3) := by decide +kernel
theorem dX7_readProduct_20 : decode cX7_readProduct 20 = .ok (.aload_n 0, 1) := by decide +kernel
theorem dX7_readProduct_21 : decode cX7_readProduct 21 = .ok (.getfield 18, 3) := by decide +kernel
theorem dX7_readProduct_24 : decode cX7_readProduct 24 = .ok (.invokevirtual 112, 3) := by decide +kernel
theorem dX7_readProduct_27 : decode cX7_readProduct 27 = .ok (.invokevirtual 137, 3) := by decide +kernel
theorem dX7_readProduct_30 : decode cX7_readProduct 30 = .ok (.aload_n 0, 1) := by decide +kernel
theorem dX7_readProduct_31 : decode cX7_readProduct 31 = .ok (.getfield 18, 3) := by decide +kernel
theorem dX7_readProduct_34 : decode cX7_readProduct 34 = .ok (.invokevirtual 106, 3) := by decide +kernel
theorem dX7_readProduct_37 : decode cX7_readProduct 37 = .ok (.aload_n 0, 1) := by decide +kernel
theorem dX7_readProduct_38 : decode cX7_readProduct 38 = .ok (.invokevirtual 141, 3) := by decide +kernel
theorem dX7_readProduct_41 : decode cX7_readProduct 41 = .ok (.istore_n 1, 1) := by decide +kernel
theorem dX7_readProduct_42 : decode cX7_readProduct 42 = .ok (.iconst 1, 1) := by decide +kernel
theorem dX7_readProduct_43 : decode cX7_readProduct 43 = .ok (.istore_n 2, 1) := by decide +kernel
theorem dX7_readProduct_44 : decode cX7_readProduct 44 = .ok (.iload_n 2, 1) := by decide +kernel
theorem dX7_readProduct_45 : decode cX7_readProduct 45 = .ok (.bipush 6, 2) := by decide +kernel
theorem dX7_readProduct_47 : decode cX7_readProduct 47 = .ok (.if_icmp .gt 29, 3) := by decide +kernel
theorem dX7_readProduct_50 : decode cX7_readProduct 50 = .ok (.iload_n 1, 1) := by decide +kernel
theorem dX7_readProduct_51 : decode cX7_readProduct 51 = .ok (.ifCond .eq 25, 3) := by decide +kernel
theorem dX7_readProduct_54 : decode cX7_readProduct 54 = .ok (.aload_n 0, 1) := by decide +kernel
theorem dX7_readProduct_55 : decode cX7_readProduct 55 = .ok (.getfield 18, 3) := by decide +kernel
theorem dX7_readProduct_58 : decode cX7_readProduct 58 = .ok (.getfield 46, 3) := by decide +kernel
theorem dX7_readProduct_61 : decode cX7_readProduct 61 = .ok (.iconst 2, 1) := by decide +kernel
theorem dX7_readProduct_62 : decode cX7_readProduct 62 = .ok (.if_icmp .ne 14, 3) := by decide +kernel
theorem dX7_readProduct_65 : decode cX7_readProduct 65 = .ok (.aload_n 0, 1) := by decide +kernel
theorem dX7_readProduct_66 : decode cX7_readProduct 66 = .ok (.invokevirtual 141, 3) := by decide +kernel
theorem dX7_readProduct_69 : decode cX7_readProduct 69 = .ok (.istore_n 1, 1) := by decide +kernel
theorem dX7_readProduct_70 : decode cX7_readProduct 70 = .ok (.iinc 2 1, 3) := by decide +kernel
theorem dX7_readProduct_73 : decode cX7_readProduct 73 = .ok (.goto (-29), 3) := by decide +kernel
theorem dX7_readProduct_76 : decode cX7_readProduct 76 = .ok (.iload_n 1, 1) := by decide +kernel
theorem dX7_readProduct_77 : decode cX7_readProduct 77 = .ok (.ifCond .ne 5, 3) := by decide +kernel
theorem dX7_readProduct_80 : decode cX7_readProduct 80 = .ok (.iconst 0, 1) := by decide +kernel
theorem dX7_readProduct_81 : decode cX7_readProduct 81 = .ok (.ireturn, 1) := by decide +kernel
theorem dX7_readProduct_82 : decode cX7_readProduct 82 = .ok (.aload_n 0, 1) := by decide +kernel
theorem dX7_readProduct_83 : decode cX7_readProduct 83 = .ok (.getfield 25, 3) := by decide +kernel
theorem dX7_readProduct_86 : decode cX7_readProduct 86 = .ok (.invokevirtual 144, 3) := by decide +kernel
theorem dX7_readProduct_89 : decode cX7_readProduct 89 = .ok (.aload_n 0, 1) := by decide +kernel
theorem dX7_readProduct_90 : decode cX7_readProduct 90 = .ok (.invokevirtual 134, 3) := by decide +kernel
theorem dX7_readProduct_93 : decode cX7_readProduct 93 = .ok (.ireturn, 1) := by decide +kernel
theorem dX7_readBillLine_0 : decode cX7_readBillLine 0 = .ok (.aload_n 0, 1) := by decide +kernel
theorem dX7_readBillLine_1 : decode cX7_readBillLine 1 = .ok (.getfield 18, 3) := by decide +kernel
theorem dX7_readBillLine_4 : decode cX7_readBillLine 4 = .ok (.getfield 46, 3) := by decide +kernel
theorem dX7_readBillLine_7 : decode cX7_readBillLine 7 = .ok (.iconst 2, 1) := by decide +kernel
theorem dX7_readBillLine_8 : decode cX7_readBillLine 8 = .ok (.if_icmp .ne 21, 3) := by decide +kernel
theorem dX7_readBillLine_11 : decode cX7_readBillLine 11 = .ok (.aload_n 0, 1) := by decide +kernel
theorem dX7_readBillLine_12 : decode cX7_readBillLine 12 = .ok (.getfield 25, 3) := by decide +kernel
theorem dX7_readBillLine_15 : decode cX7_readBillLine 15 = .ok (.invokevirtual 147, 3) := by decide +kernel
theorem dX7_readBillLine_18 : decode cX7_readBillLine 18 = .ok (.bipush 6, 2) := by decide +kernel
theorem dX7_readBillLine_20 : decode cX7_readBillLine 20 = .ok (.if_icmp .lt 9, 3) := by decide +kernel
theorem dX7_readBillLine_23 : decode cX7_readBillLine 23 = .ok (.aload_n 0, 1) := by decide +kernel
theorem dX7_readBillLine_24 : decode cX7_readBillLine 24 = .ok (.iconst 4, 1) := by decide +kernel
theorem dX7_readBillLine_25 : decode cX7_readBillLine 25 = .ok (.invokevirtual 69, 3) := by decide +kernel
theorem dX7_readBillLine_28 : decode cX7_readBillLine 28 = .ok (.ireturn, 1) := by decide +kernel
theorem dX7_readBillLine_29 : decode cX7_readBillLine 29 = .ok (.aload_n 0, 1) := by decide +kernel
theorem dX7_readBillLine_30 : decode cX7_readBillLine 30 = .ok (.iconst 1, 1) := by decide +kernel
theorem dX7_readBillLine_31 : decode cX7_readBillLine 31 = .ok (.bipush 20, 2) := by decide +kernel
theorem dX7_readBillLine_33 : decode cX7_readBillLine 33 = .ok (.invokevirtual 116, 3) := by decide +kernel
theorem dX7_readBillLine_36 : decode cX7_readBillLine 36 = .ok (.istore_n 1, 1) := by decide +kernel
theorem dX7_readBillLine_37 : decode cX7_readBillLine 37 = .ok (.iload_n 1, 1) := by decide +kernel
theorem dX7_readBillLine_38 : decode cX7_readBillLine 38 = .ok (.iconst (-1), 1) := by decide +kernel
theorem dX7_readBillLine_39 : decode cX7_readBillLine 39 = .ok (.if_icmp .ne 5, 3) := by decide +kernel
theorem dX7_readBillLine_42 : decode cX7_readBillLine 42 = .ok (.iconst 0, 1) := by decide +kernel
theorem dX7_readBillLine_43 : decode cX7_readBillLine 43 = .ok (.ireturn, 1) := by decide +kernel
theorem dX7_readBillLine_44 : decode cX7_readBillLine 44 = .ok (.aload_n 0, 1) := by decide +kernel
theorem dX7_readBillLine_45 : decode cX7_readBillLine 45 = .ok (.getfield 18, 3) := by decide +kernel
theorem dX7_readBillLine_48 : decode cX7_readBillLine 48 = .ok (.invokevirtual 151, 3) := by decide +kernel
theorem dX7_readBillLine_51 : decode cX7_readBillLine 51 = .ok (.ifCond .ne 9, 3) := by decide +kernel
theorem dX7_readBillLine_54 : decode cX7_readBillLine 54 = .ok (.aload_n 0, 1) := by decide +kernel
theorem dX7_readBillLine_55 : decode cX7_readBillLine 55 = .ok (.iconst 1, 1) := by decide +kernel
theorem dX7_readBillLine_56 : decode cX7_readBillLine 56 = .ok (.invokevirtual 69, 3) := by decide +kernel
theorem dX7_readBillLine_59 : decode cX7_readBillLine 59 = .ok (.ireturn, 1) := by decide +kernel
theorem dX7_readBillLine_60 : decode cX7_readBillLine 60 = .ok (.aload_n 0, 1) := by decide +kernel
theorem dX7_readBillLine_61 : decode cX7_readBillLine 61 = .ok (.getfield 25, 3) := by decide +kernel
theorem dX7_readBillLine_64 : decode cX7_readBillLine 64 = .ok (.aload_n 0, 1) := by decide +kernel
theorem dX7_readBillLine_65 : decode cX7_readBillLine 65 = .ok (.getfield 18, 3) := by decide +kernel
theorem dX7_readBillLine_68 : decode cX7_readBillLine 68 = .ok (.invokevirtual 112, 3) := by decide +kernel
theorem dX7_readBillLine_71 : decode cX7_readBillLine 71 = .ok (.invokevirtual 154, 3) := by decide +kernel
theorem dX7_readBillLine_74 : decode cX7_readBillLine 74 = .ok (.istore_n 2, 1) := by decide +kernel
theorem dX7_readBillLine_75 : decode cX7_readBillLine 75 = .ok (.iload_n 2, 1) := by decide +kernel
theorem dX7_readBillLine_76 : decode cX7_readBillLine 76 = .ok (.iconst (-1), 1) := by decide +kernel
theorem dX7_readBillLine_77 : decode cX7_readBillLine 77 = .ok (.if_icmp .eq 14, 3) := by decide +kernel
theorem dX7_readBillLine_80 : decode cX7_readBillLine 80 = .ok (.aload_n 0, 1) := by decide +kernel
theorem dX7_readBillLine_81 : decode cX7_readBillLine 81 = .ok (.getfield 25, 3) := by decide +kernel
theorem dX7_readBillLine_84 : decode cX7_readBillLine 84 = .ok (.iload_n 2, 1) := by decide +kernel
theorem dX7_readBillLine_85 : decode cX7_readBillLine 85 = .ok (.invokevirtual 158, 3) := by decide +kernel
theorem dX7_readBillLine_88 : decode cX7_readBillLine 88 = .ok (.ifCond .eq 9, 3) := by decide +kernel
theorem dX7_readBillLine_91 : decode cX7_readBillLine 91 = .ok (.aload_n 0, 1) := by decide +kernel
theorem dX7_readBillLine_92 : decode cX7_readBillLine 92 = .ok (.iconst 3, 1) := by decide +kernel
theorem dX7_readBillLine_93 : decode cX7_readBillLine 93 = .ok (.invokevirtual 69, 3) := by decide +kernel
theorem dX7_readBillLine_96 : decode cX7_readBillLine 96 = .ok (.ireturn, 1) := by decide +kernel
theorem dX7_readBillLine_97 : decode cX7_readBillLine 97 = .ok (.aload_n 0, 1) := by decide +kernel
theorem dX7_readBillLine_98 : decode cX7_readBillLine 98 = .ok (.getfield 25, 3) := by decide +kernel
theorem dX7_readBillLine_101 : decode cX7_readBillLine 101 = .ok (.iload_n 2, 1) := by decide +kernel
theorem dX7_readBillLine_102 : decode cX7_readBillLine 102 = .ok (.iload_n 1, 1) := by decide +kernel
theorem dX7_readBillLine_103 : decode cX7_readBillLine 103 = .ok (.invokevirtual 161, 3) := by decide +kernel
theorem dX7_readBillLine_106 : decode cX7_readBillLine 106 = .ok (.ifCond .ne 9, 3) := by decide +kernel
theorem dX7_readBillLine_109 : decode cX7_readBillLine 109 = .ok (.aload_n 0, 1) := by decide +kernel
theorem dX7_readBillLine_110 : decode cX7_readBillLine 110 = .ok (.iconst 5, 1) := by decide +kernel
theorem dX7_readBillLine_111 : decode cX7_readBillLine 111 = .ok (.invokevirtual 69, 3) := by decide +kernel
theorem dX7_readBillLine_114 : decode cX7_readBillLine 114 = .ok (.ireturn, 1) := by decide +kernel
theorem dX7_readBillLine_115 : decode cX7_readBillLine 115 = .ok (.aload_n 0, 1) := by decide +kernel
theorem dX7_readBillLine_116 : decode cX7_readBillLine 116 = .ok (.getfield 25, 3) := by decide +kernel
theorem dX7_readBillLine_119 : decode cX7_readBillLine 119 = .ok (.iload_n 2, 1) := by decide +kernel
theorem dX7_readBillLine_120 : decode cX7_readBillLine 120 = .ok (.iload_n 1, 1) := by decide +kernel
theorem dX7_readBillLine_121 : decode cX7_readBillLine 121 = .ok (.invokevirtual 165, 3) := by decide +kernel
theorem dX7_readBillLine_124 : decode cX7_readBillLine 124 = .ok (.aload_n 0, 1) := by decide +kernel
theorem dX7_readBillLine_125 : decode cX7_readBillLine 125 = .ok (.getfield 18, 3) := by decide +kernel
theorem dX7_readBillLine_128 : decode cX7_readBillLine 128 = .ok (.invokevirtual 106, 3) := by decide +kernel
theorem dX7_readBillLine_131 : decode cX7_readBillLine 131 = .ok (.iconst 1, 1) := by decide +kernel
theorem dX7_readBillLine_132 : decode cX7_readBillLine 132 = .ok (.ireturn, 1) := by decide +kernel
theorem dX7_readRung_0 : decode cX7_readRung 0 = .ok (.aload_n 0, 1) := by decide +kernel
theorem dX7_readRung_1 : decode cX7_readRung 1 = .ok (.getfield 18, 3) := by decide +kernel
theorem dX7_readRung_4 : decode cX7_readRung 4 = .ok (.invokevirtual 106, 3) := by decide +kernel
theorem dX7_readRung_7 : decode cX7_readRung 7 = .ok (.aload_n 0, 1) := by decide +kernel
theorem dX7_readRung_8 : decode cX7_readRung 8 = .ok (.iconst 0, 1) := by decide +kernel
theorem dX7_readRung_9 : decode cX7_readRung 9 = .ok (.bipush 9, 2) := by decide +kernel
theorem dX7_readRung_11 : decode cX7_readRung 11 = .ok (.invokevirtual 116, 3) := by decide +kernel
theorem dX7_readRung_14 : decode cX7_readRung 14 = .ok (.istore_n 1, 1) := by decide +kernel
theorem dX7_readRung_15 : decode cX7_readRung 15 = .ok (.iload_n 1, 1) := by decide +kernel
theorem dX7_readRung_16 : decode cX7_readRung 16 = .ok (.iconst (-1), 1) := by decide +kernel
theorem dX7_readRung_17 : decode cX7_readRung 17 = .ok (.if_icmp .ne 5, 3) := by decide +kernel
theorem dX7_readRung_20 : decode cX7_readRung 20 = .ok (.iconst 0, 1) := by decide +kernel
theorem dX7_readRung_21 : decode cX7_readRung 21 = .ok (.ireturn, 1) := by decide +kernel
theorem dX7_readRung_22 : decode cX7_readRung 22 = .ok (.aload_n 0, 1) := by decide +kernel
theorem dX7_readRung_23 : decode cX7_readRung 23 = .ok (.iload_n 1, 1) := by decide +kernel
theorem dX7_readRung_24 : decode cX7_readRung 24 = .ok (.bipush 9, 2) := by decide +kernel
theorem dX7_readRung_26 : decode cX7_readRung 26 = .ok (.invokevirtual 116, 3) := by decide +kernel
theorem dX7_readRung_29 : decode cX7_readRung 29 = .ok (.istore_n 2, 1) := by decide +kernel
theorem dX7_readRung_30 : decode cX7_readRung 30 = .ok (.iload_n 2, 1) := by decide +kernel
theorem dX7_readRung_31 : decode cX7_readRung 31 = .ok (.iconst (-1), 1) := by decide +kernel
theorem dX7_readRung_32 : decode cX7_readRung 32 = .ok (.if_icmp .ne 5, 3) := by decide +kernel
theorem dX7_readRung_35 : decode cX7_readRung 35 = .ok (.iconst 0, 1) := by decide +kernel
theorem dX7_readRung_36 : decode cX7_readRung 36 = .ok (.ireturn, 1) := by decide +kernel
theorem dX7_readRung_37 : decode cX7_readRung 37 = .ok (.aload_n 0, 1) := by decide +kernel
theorem dX7_readRung_38 : decode cX7_readRung 38 = .ok (.iconst 1, 1) := by decide +kernel
theorem dX7_readRung_39 : decode cX7_readRung 39 = .ok (.bipush 100, 2) := by decide +kernel
theorem dX7_readRung_41 : decode cX7_readRung 41 = .ok (.invokevirtual 116, 3) := by decide +kernel
theorem dX7_readRung_44 : decode cX7_readRung 44 = .ok (.istore_n 3, 1) := by decide +kernel
theorem dX7_readRung_45 : decode cX7_readRung 45 = .ok (.iload_n 3, 1) := by decide +kernel
theorem dX7_readRung_46 : decode cX7_readRung 46 = .ok (.iconst (-1), 1) := by decide +kernel
theorem dX7_readRung_47 : decode cX7_readRung 47 = .ok (.if_icmp .ne 5, 3) := by decide +kernel
theorem dX7_readRung_50 : decode cX7_readRung 50 = .ok (.iconst 0, 1) := by decide +kernel
theorem dX7_readRung_51 : decode cX7_readRung 51 = .ok (.ireturn, 1) := by decide +kernel
theorem dX7_readRung_52 : decode cX7_readRung 52 = .ok (.aload_n 0, 1) := by decide +kernel
theorem dX7_readRung_53 : decode cX7_readRung 53 = .ok (.getfield 25, 3) := by decide +kernel
theorem dX7_readRung_56 : decode cX7_readRung 56 = .ok (.iload_n 1, 1) := by decide +kernel
theorem dX7_readRung_57 : decode cX7_readRung 57 = .ok (.iload_n 2, 1) := by decide +kernel
theorem dX7_readRung_58 : decode cX7_readRung 58 = .ok (.iload_n 3, 1) := by decide +kernel
theorem dX7_readRung_59 : decode cX7_readRung 59 = .ok (.invokevirtual 52, 3) := by decide +kernel
theorem dX7_readRung_62 : decode cX7_readRung 62 = .ok (.aload_n 0, 1) := by decide +kernel
theorem dX7_readRung_63 : decode cX7_readRung 63 = .ok (.invokevirtual 134, 3) := by decide +kernel
theorem dX7_readRung_66 : decode cX7_readRung 66 = .ok (.ireturn, 1) := by decide +kernel
theorem dX7_readOrder_0 : decode cX7_readOrder 0 = .ok (.aload_n 0, 1) := by decide +kernel
theorem dX7_readOrder_1 : decode cX7_readOrder 1 = .ok (.getfield 18, 3) := by decide +kernel
theorem dX7_readOrder_4 : decode cX7_readOrder 4 = .ok (.invokevirtual 106, 3) := by decide +kernel
theorem dX7_readOrder_7 : decode cX7_readOrder 7 = .ok (.aload_n 0, 1) := by decide +kernel
theorem dX7_readOrder_8 : decode cX7_readOrder 8 = .ok (.getfield 18, 3) := by decide +kernel
theorem dX7_readOrder_11 : decode cX7_readOrder 11 = .ok (.invokevirtual 151, 3) := by decide +kernel
theorem dX7_readOrder_14 : decode cX7_readOrder 14 = .ok (.ifCond .ne 9, 3) := by decide +kernel
theorem dX7_readOrder_17 : decode cX7_readOrder 17 = .ok (.aload_n 0, 1) := by decide +kernel
theorem dX7_readOrder_18 : decode cX7_readOrder 18 = .ok (.iconst 1, 1) := by decide +kernel
theorem dX7_readOrder_19 : decode cX7_readOrder 19 = .ok (.invokevirtual 69, 3) := by decide +kernel
theorem dX7_readOrder_22 : decode cX7_readOrder 22 = .ok (.ireturn, 1) := by decide +kernel
theorem dX7_readOrder_23 : decode cX7_readOrder 23 = .ok (.aload_n 0, 1) := by decide +kernel
theorem dX7_readOrder_24 : decode cX7_readOrder 24 = .ok (.getfield 25, 3) := by decide +kernel
theorem dX7_readOrder_27 : decode cX7_readOrder 27 = .ok (.aload_n 0, 1) := by decide +kernel
theorem dX7_readOrder_28 : decode cX7_readOrder 28 = .ok (.getfield 18, 3) := by decide +kernel
theorem dX7_readOrder_31 : decode cX7_readOrder 31 = .ok (.invokevirtual 112, 3) := by decide +kernel
theorem dX7_readOrder_34 : decode cX7_readOrder 34 = .ok (.invokevirtual 168, 3) := by decide +kernel
theorem dX7_readOrder_37 : decode cX7_readOrder 37 = .ok (.istore_n 1, 1) := by decide +kernel
theorem dX7_readOrder_38 : decode cX7_readOrder 38 = .ok (.iload_n 1, 1) := by decide +kernel
theorem dX7_readOrder_39 : decode cX7_readOrder 39 = .ok (.iconst (-1), 1) := by decide +kernel
theorem dX7_readOrder_40 : decode cX7_readOrder 40 = .ok (.if_icmp .ne 9, 3) := by decide +kernel
theorem dX7_readOrder_43 : decode cX7_readOrder 43 = .ok (.aload_n 0, 1) := by decide +kernel
theorem dX7_readOrder_44 : decode cX7_readOrder 44 = .ok (.iconst 3, 1) := by decide +kernel
theorem dX7_readOrder_45 : decode cX7_readOrder 45 = .ok (.invokevirtual 69, 3) := by decide +kernel
theorem dX7_readOrder_48 : decode cX7_readOrder 48 = .ok (.ireturn, 1) := by decide +kernel
theorem dX7_readOrder_49 : decode cX7_readOrder 49 = .ok (.aload_n 0, 1) := by decide +kernel
theorem dX7_readOrder_50 : decode cX7_readOrder 50 = .ok (.getfield 18, 3) := by decide +kernel
theorem dX7_readOrder_53 : decode cX7_readOrder 53 = .ok (.invokevirtual 106, 3) := by decide +kernel
theorem dX7_readOrder_56 : decode cX7_readOrder 56 = .ok (.aload_n 0, 1) := by decide +kernel
theorem dX7_readOrder_57 : decode cX7_readOrder 57 = .ok (.iconst 1, 1) := by decide +kernel
theorem dX7_readOrder_58 : decode cX7_readOrder 58 = .ok (.bipush 99, 2) := by decide +kernel
theorem dX7_readOrder_60 : decode cX7_readOrder 60 = .ok (.invokevirtual 116, 3) := by decide +kernel
theorem dX7_readOrder_63 : decode cX7_readOrder 63 = .ok (.istore_n 2, 1) := by decide +kernel
theorem dX7_readOrder_64 : decode cX7_readOrder 64 = .ok (.iload_n 2, 1) := by decide +kernel
theorem dX7_readOrder_65 : decode cX7_readOrder 65 = .ok (.iconst (-1), 1) := by decide +kernel
theorem dX7_readOrder_66 : decode cX7_readOrder 66 = .ok (.if_icmp .ne 5, 3) := by decide +kernel
theorem dX7_readOrder_69 : decode cX7_readOrder 69 = .ok (.iconst 0, 1) := by decide +kernel
theorem dX7_readOrder_70 : decode cX7_readOrder 70 = .ok (.ireturn, 1) := by decide +kernel
theorem dX7_readOrder_71 : decode cX7_readOrder 71 = .ok (.aload_n 0, 1) := by decide +kernel
theorem dX7_readOrder_72 : decode cX7_readOrder 72 = .ok (.iconst 0, 1) := by decide +kernel
theorem dX7_readOrder_73 : decode cX7_readOrder 73 = .ok (.bipush 9, 2) := by decide +kernel
theorem dX7_readOrder_75 : decode cX7_readOrder 75 = .ok (.invokevirtual 116, 3) := by decide +kernel
theorem dX7_readOrder_78 : decode cX7_readOrder 78 = .ok (.istore_n 3, 1) := by decide +kernel
theorem dX7_readOrder_79 : decode cX7_readOrder 79 = .ok (.iload_n 3, 1) := by decide +kernel
theorem dX7_readOrder_80 : decode cX7_readOrder 80 = .ok (.iconst (-1), 1) := by decide +kernel
theorem dX7_readOrder_81 : decode cX7_readOrder 81 = .ok (.if_icmp .ne 5, 3) := by decide +kernel
theorem dX7_readOrder_84 : decode cX7_readOrder 84 = .ok (.iconst 0, 1) := by decide +kernel
theorem dX7_readOrder_85 : decode cX7_readOrder 85 = .ok (.ireturn, 1) := by decide +kernel
theorem dX7_readOrder_86 : decode cX7_readOrder 86 = .ok (.aload_n 0, 1) := by decide +kernel
theorem dX7_readOrder_87 : decode cX7_readOrder 87 = .ok (.iconst 0, 1) := by decide +kernel
theorem dX7_readOrder_88 : decode cX7_readOrder 88 = .ok (.sipush 999, 3) := by decide +kernel
theorem dX7_readOrder_91 : decode cX7_readOrder 91 = .ok (.invokevirtual 116, 3) := by decide +kernel
theorem dX7_readOrder_94 : decode cX7_readOrder 94 = .ok (.istore 4, 2) := by decide +kernel
theorem dX7_readOrder_96 : decode cX7_readOrder 96 = .ok (.iload 4, 2) := by decide +kernel
theorem dX7_readOrder_98 : decode cX7_readOrder 98 = .ok (.iconst (-1), 1) := by decide +kernel
theorem dX7_readOrder_99 : decode cX7_readOrder 99 = .ok (.if_icmp .ne 5, 3) := by decide +kernel
theorem dX7_readOrder_102 : decode cX7_readOrder 102 = .ok (.iconst 0, 1) := by decide +kernel
theorem dX7_readOrder_103 : decode cX7_readOrder 103 = .ok (.ireturn, 1) := by decide +kernel
theorem dX7_readOrder_104 : decode cX7_readOrder 104 = .ok (.aload_n 0, 1) := by decide +kernel
theorem dX7_readOrder_105 : decode cX7_readOrder 105 = .ok (.getfield 18, 3) := by decide +kernel
theorem dX7_readOrder_108 : decode cX7_readOrder 108 = .ok (.ldc 171, 2) := by decide +kernel
theorem dX7_readOrder_110 : decode cX7_readOrder 110 = .ok (.invokevirtual 58, 3) := by decide +kernel
theorem dX7_readOrder_113 : decode cX7_readOrder 113 = .ok (.istore 5, 2) := by decide +kernel
theorem dX7_readOrder_115 : decode cX7_readOrder 115 = .ok (.iload 5, 2) := by decide +kernel
theorem dX7_readOrder_117 : decode cX7_readOrder 117 = .ok (.ifCond .eq 10, 3) := by decide +kernel
theorem dX7_readOrder_120 : decode cX7_readOrder 120 = .ok (.aload_n 0, 1) := by decide +kernel
theorem dX7_readOrder_121 : decode cX7_readOrder 121 = .ok (.getfield 18, 3) := by decide +kernel
theorem dX7_readOrder_124 : decode cX7_readOrder 124 = .ok (.invokevirtual 106, 3) := by decide +kernel
theorem dX7_readOrder_127 : decode cX7_readOrder 127 = .ok (.aload_n 0, 1) := by decide +kernel
theorem dX7_readOrder_128 : decode cX7_readOrder 128 = .ok (.getfield 32, 3) := by decide +kernel
theorem dX7_readOrder_131 : decode cX7_readOrder 131 = .ok (.getfield 88, 3) := by decide +kernel
theorem dX7_readOrder_134 : decode cX7_readOrder 134 = .ok (.iload_n 1, 1) := by decide +kernel
theorem dX7_readOrder_135 : decode cX7_readOrder 135 = .ok (.iload_n 2, 1) := by decide +kernel
theorem dX7_readOrder_136 : decode cX7_readOrder 136 = .ok (.iload_n 3, 1) := by decide +kernel
theorem dX7_readOrder_137 : decode cX7_readOrder 137 = .ok (.iload 4, 2) := by decide +kernel
theorem dX7_readOrder_139 : decode cX7_readOrder 139 = .ok (.iload 5, 2) := by decide +kernel
theorem dX7_readOrder_141 : decode cX7_readOrder 141 = .ok (.invokevirtual 173, 3) := by decide +kernel
theorem dX7_readOrder_144 : decode cX7_readOrder 144 = .ok (.pop, 1) := by decide +kernel
theorem dX7_readOrder_145 : decode cX7_readOrder 145 = .ok (.aload_n 0, 1) := by decide +kernel
theorem dX7_readOrder_146 : decode cX7_readOrder 146 = .ok (.invokevirtual 134, 3) := by decide +kernel
theorem dX7_readOrder_149 : decode cX7_readOrder 149 = .ok (.ireturn, 1) := by decide +kernel
theorem dX7_isNewName_0 : decode cX7_isNewName 0 = .ok (.aload_n 0, 1) := by decide +kernel
theorem dX7_isNewName_1 : decode cX7_isNewName 1 = .ok (.getfield 18, 3) := by decide +kernel
theorem dX7_isNewName_4 : decode cX7_isNewName 4 = .ok (.invokevirtual 151, 3) := by decide +kernel
theorem dX7_isNewName_7 : decode cX7_isNewName 7 = .ok (.ifCond .ne 9, 3) := by decide +kernel
theorem dX7_isNewName_10 : decode cX7_isNewName 10 = .ok (.aload_n 0, 1) := by decide +kernel
theorem dX7_isNewName_11 : decode cX7_isNewName 11 = .ok (.iconst 1, 1) := by decide +kernel
theorem dX7_isNewName_12 : decode cX7_isNewName 12 = .ok (.invokevirtual 69, 3) := by decide +kernel
theorem dX7_isNewName_15 : decode cX7_isNewName 15 = .ok (.ireturn, 1) := by decide +kernel
theorem dX7_isNewName_16 : decode cX7_isNewName 16 = .ok (.aload_n 0, 1) := by decide +kernel
theorem dX7_isNewName_17 : decode cX7_isNewName 17 = .ok (.getfield 25, 3) := by decide +kernel
theorem dX7_isNewName_20 : decode cX7_isNewName 20 = .ok (.aload_n 0, 1) := by decide +kernel
theorem dX7_isNewName_21 : decode cX7_isNewName 21 = .ok (.getfield 18, 3) := by decide +kernel
theorem dX7_isNewName_24 : decode cX7_isNewName 24 = .ok (.invokevirtual 112, 3) := by decide +kernel
theorem dX7_isNewName_27 : decode cX7_isNewName 27 = .ok (.invokevirtual 154, 3) := by decide +kernel
theorem dX7_isNewName_30 : decode cX7_isNewName 30 = .ok (.iconst (-1), 1) := by decide +kernel
theorem dX7_isNewName_31 : decode cX7_isNewName 31 = .ok (.if_icmp .eq 11, 3) := by decide +kernel
theorem dX7_isNewName_34 : decode cX7_isNewName 34 = .ok (.aload_n 0, 1) := by decide +kernel
theorem dX7_isNewName_35 : decode cX7_isNewName 35 = .ok (.iconst 3, 1) := by decide +kernel
theorem dX7_isNewName_36 : decode cX7_isNewName 36 = .ok (.invokevirtual 69, 3) := by decide +kernel
theorem dX7_isNewName_39 : decode cX7_isNewName 39 = .ok (.ifCond .eq 7, 3) := by decide +kernel
theorem dX7_isNewName_42 : decode cX7_isNewName 42 = .ok (.iconst 1, 1) := by decide +kernel
theorem dX7_isNewName_43 : decode cX7_isNewName 43 = .ok (.goto 4, 3) := by decide +kernel
theorem dX7_isNewName_46 : decode cX7_isNewName 46 = .ok (.iconst 0, 1) := by decide +kernel
theorem dX7_isNewName_47 : decode cX7_isNewName 47 = .ok (.ireturn, 1) := by decide +kernel
theorem dX7_readNumber_0 : decode cX7_readNumber 0 = .ok (.aload_n 0, 1) := by decide +kernel
theorem dX7_readNumber_1 : decode cX7_readNumber 1 = .ok (.getfield 18, 3) := by decide +kernel
theorem dX7_readNumber_4 : decode cX7_readNumber 4 = .ok (.getfield 46, 3) := by decide +kernel
theorem dX7_readNumber_7 : decode cX7_readNumber 7 = .ok (.iconst 2, 1) := by decide +kernel
theorem dX7_readNumber_8 : decode cX7_readNumber 8 = .ok (.if_icmp .eq 11, 3) := by decide +kernel
theorem dX7_readNumber_11 : decode cX7_readNumber 11 = .ok (.aload_n 0, 1) := by decide +kernel
theorem dX7_readNumber_12 : decode cX7_readNumber 12 = .ok (.iconst 1, 1) := by decide +kernel
theorem dX7_readNumber_13 : decode cX7_readNumber 13 = .ok (.invokevirtual 69, 3) := by decide +kernel
theorem dX7_readNumber_16 : decode cX7_readNumber 16 = .ok (.pop, 1) := by decide +kernel
theorem dX7_readNumber_17 : decode cX7_readNumber 17 = .ok (.iconst (-1), 1) := by decide +kernel
theorem dX7_readNumber_18 : decode cX7_readNumber 18 = .ok (.ireturn, 1) := by decide +kernel
theorem dX7_readNumber_19 : decode cX7_readNumber 19 = .ok (.aload_n 0, 1) := by decide +kernel
theorem dX7_readNumber_20 : decode cX7_readNumber 20 = .ok (.getfield 18, 3) := by decide +kernel
theorem dX7_readNumber_23 : decode cX7_readNumber 23 = .ok (.invokevirtual 177, 3) := by decide +kernel
theorem dX7_readNumber_26 : decode cX7_readNumber 26 = .ok (.istore_n 3, 1) := by decide +kernel
theorem dX7_readNumber_27 : decode cX7_readNumber 27 = .ok (.iload_n 3, 1) := by decide +kernel
theorem dX7_readNumber_28 : decode cX7_readNumber 28 = .ok (.iload_n 1, 1) := by decide +kernel
theorem dX7_readNumber_29 : decode cX7_readNumber 29 = .ok (.if_icmp .lt 8, 3) := by decide +kernel
theorem dX7_readNumber_32 : decode cX7_readNumber 32 = .ok (.iload_n 3, 1) := by decide +kernel
theorem dX7_readNumber_33 : decode cX7_readNumber 33 = .ok (.iload_n 2, 1) := by decide +kernel
theorem dX7_readNumber_34 : decode cX7_readNumber 34 = .ok (.if_icmp .le 11, 3) := by decide +kernel
theorem dX7_readNumber_37 : decode cX7_readNumber 37 = .ok (.aload_n 0, 1) := by decide +kernel
theorem dX7_readNumber_38 : decode cX7_readNumber 38 = .ok (.iconst 2, 1) := by decide +kernel
theorem dX7_readNumber_39 : decode cX7_readNumber 39 = .ok (.invokevirtual 69, 3) := by decide +kernel
theorem dX7_readNumber_42 : decode cX7_readNumber 42 = .ok (.pop, 1) := by decide +kernel
theorem dX7_readNumber_43 : decode cX7_readNumber 43 = .ok (.iconst (-1), 1) := by decide +kernel
theorem dX7_readNumber_44 : decode cX7_readNumber 44 = .ok (.ireturn, 1) := by decide +kernel
theorem dX7_readNumber_45 : decode cX7_readNumber 45 = .ok (.aload_n 0, 1) := by decide +kernel
theorem dX7_readNumber_46 : decode cX7_readNumber 46 = .ok (.getfield 18, 3) := by decide +kernel
theorem dX7_readNumber_49 : decode cX7_readNumber 49 = .ok (.invokevirtual 106, 3) := by decide +kernel
theorem dX7_readNumber_52 : decode cX7_readNumber 52 = .ok (.iload_n 3, 1) := by decide +kernel
theorem dX7_readNumber_53 : decode cX7_readNumber 53 = .ok (.ireturn, 1) := by decide +kernel
theorem dX8_clear_0 : decode cX8_clear 0 = .ok (.aload_n 0, 1) := by decide +kernel
theorem dX8_clear_1 : decode cX8_clear 1 = .ok (.getfield 9, 3) := by decide +kernel
theorem dX8_clear_4 : decode cX8_clear 4 = .ok (.iconst 0, 1) := by decide +kernel
theorem dX8_clear_5 : decode cX8_clear 5 = .ok (.invokestatic 24, 3) := by decide +kernel
theorem dX8_clear_8 : decode cX8_clear 8 = .ok (.return_, 1) := by decide +kernel
theorem dX8_copyFrom_0 : decode cX8_copyFrom 0 = .ok (.aload_n 1, 1) := by decide +kernel
theorem dX8_copyFrom_1 : decode cX8_copyFrom 1 = .ok (.getfield 9, 3) := by decide +kernel
theorem dX8_copyFrom_4 : decode cX8_copyFrom 4 = .ok (.iconst 0, 1) := by decide +kernel
theorem dX8_copyFrom_5 : decode cX8_copyFrom 5 = .ok (.aload_n 0, 1) := by decide +kernel
theorem dX8_copyFrom_6 : decode cX8_copyFrom 6 = .ok (.getfield 9, 3) := by decide +kernel
theorem dX8_copyFrom_9 : decode cX8_copyFrom 9 = .ok (.iconst 0, 1) := by decide +kernel
theorem dX8_copyFrom_10 : decode cX8_copyFrom 10 = .ok (.iconst 5, 1) := by decide +kernel
theorem dX8_copyFrom_11 : decode cX8_copyFrom 11 = .ok (.invokestatic 30, 3) := by decide +kernel
theorem dX8_copyFrom_14 : decode cX8_copyFrom 14 = .ok (.aload_n 1, 1) := by decide +kernel
theorem dX8_copyFrom_15 : decode cX8_copyFrom 15 = .ok (.getfield 15, 3) := by decide +kernel
theorem dX8_copyFrom_18 : decode cX8_copyFrom 18 = .ok (.iconst 0, 1) := by decide +kernel
theorem dX8_copyFrom_19 : decode cX8_copyFrom 19 = .ok (.aload_n 0, 1) := by decide +kernel
theorem dX8_copyFrom_20 : decode cX8_copyFrom 20 = .ok (.getfield 15, 3) := by decide +kernel
theorem dX8_copyFrom_23 : decode cX8_copyFrom 23 = .ok (.iconst 0, 1) := by decide +kernel
theorem dX8_copyFrom_24 : decode cX8_copyFrom 24 = .ok (.bipush 16, 2) := by decide +kernel
theorem dX8_copyFrom_26 : decode cX8_copyFrom 26 = .ok (.invokestatic 30, 3) := by decide +kernel
theorem dX8_copyFrom_29 : decode cX8_copyFrom 29 = .ok (.aload_n 1, 1) := by decide +kernel
theorem dX8_copyFrom_30 : decode cX8_copyFrom 30 = .ok (.getfield 18, 3) := by decide +kernel
theorem dX8_copyFrom_33 : decode cX8_copyFrom 33 = .ok (.iconst 0, 1) := by decide +kernel
theorem dX8_copyFrom_34 : decode cX8_copyFrom 34 = .ok (.aload_n 0, 1) := by decide +kernel
theorem dX8_copyFrom_35 : decode cX8_copyFrom 35 = .ok (.getfield 18, 3) := by decide +kernel
theorem dX8_copyFrom_38 : decode cX8_copyFrom 38 = .ok (.iconst 0, 1) := by decide +kernel
theorem dX8_copyFrom_39 : decode cX8_copyFrom 39 = .ok (.bipush 16, 2) := by decide +kernel
theorem dX8_copyFrom_41 : decode cX8_copyFrom 41 = .ok (.invokestatic 30, 3) := by decide +kernel
theorem dX8_copyFrom_44 : decode cX8_copyFrom 44 = .ok (.aload_n 1, 1) := by decide +kernel
theorem dX8_copyFrom_45 : decode cX8_copyFrom 45 = .ok (.getfield 21, 3) := by decide +kernel
theorem dX8_copyFrom_48 : decode cX8_copyFrom 48 = .ok (.iconst 0, 1) := by decide +kernel
theorem dX8_copyFrom_49 : decode cX8_copyFrom 49 = .ok (.aload_n 0, 1) := by decide +kernel
theorem dX8_copyFrom_50 : decode cX8_copyFrom 50 = .ok (.getfield 21, 3) := by decide +kernel
theorem dX8_copyFrom_53 : decode cX8_copyFrom 53 = .ok (.iconst 0, 1) := by decide +kernel
theorem dX8_copyFrom_54 : decode cX8_copyFrom 54 = .ok (.bipush 16, 2) := by decide +kernel
theorem dX8_copyFrom_56 : decode cX8_copyFrom 56 = .ok (.invokestatic 30, 3) := by decide +kernel
theorem dX8_copyFrom_59 : decode cX8_copyFrom 59 = .ok (.return_, 1) := by decide +kernel
theorem dX8_addShipment_0 : decode cX8_addShipment 0 = .ok (.aload_n 0, 1) := by decide +kernel
theorem dX8_addShipment_1 : decode cX8_addShipment 1 = .ok (.getfield 9, 3) := by decide +kernel
theorem dX8_addShipment_4 : decode cX8_addShipment 4 = .ok (.iconst 0, 1) := by decide +kernel
theorem dX8_addShipment_5 : decode cX8_addShipment 5 = .ok (.iaload, 1) := by decide +kernel
theorem dX8_addShipment_6 : decode cX8_addShipment 6 = .ok (.bipush 16, 2) := by decide +kernel
theorem dX8_addShipment_8 : decode cX8_addShipment 8 = .ok (.invokestatic 36, 3) := by decide +kernel
theorem dX8_addShipment_11 : decode cX8_addShipment 11 = .ok (.istore 5, 2) := by decide +kernel
theorem dX8_addShipment_13 : decode cX8_addShipment 13 = .ok (.aload_n 0, 1) := by decide +kernel
theorem dX8_addShipment_14 : decode cX8_addShipment 14 = .ok (.getfield 15, 3) := by decide +kernel
theorem dX8_addShipment_17 : decode cX8_addShipment 17 = .ok (.iload 5, 2) := by decide +kernel
theorem dX8_addShipment_19 : decode cX8_addShipment 19 = .ok (.iload_n 1, 1) := by decide +kernel
theorem dX8_addShipment_20 : decode cX8_addShipment 20 = .ok (.iastore, 1) := by decide +kernel
theorem dX8_addShipment_21 : decode cX8_addShipment 21 = .ok (.aload_n 0, 1) := by decide +kernel
theorem dX8_addShipment_22 : decode cX8_addShipment 22 = .ok (.getfield 18, 3) := by decide +kernel
theorem dX8_addShipment_25 : decode cX8_addShipment 25 = .ok (.iload 5, 2) := by decide +kernel
theorem dX8_addShipment_27 : decode cX8_addShipment 27 = .ok (.iload_n 2, 1) := by decide +kernel
theorem dX8_addShipment_28 : decode cX8_addShipment 28 = .ok (.iastore, 1) := by decide +kernel
theorem dX8_addShipment_29 : decode cX8_addShipment 29 = .ok (.aload_n 0, 1) := by decide +kernel
theorem dX8_addShipment_30 : decode cX8_addShipment 30 = .ok (.getfield 21, 3) := by decide +kernel
theorem dX8_addShipment_33 : decode cX8_addShipment 33 = .ok (.iload 5, 2) := by decide +kernel
theorem dX8_addShipment_35 : decode cX8_addShipment 35 = .ok (.iload_n 3, 1) := by decide +kernel
theorem dX8_addShipment_36 : decode cX8_addShipment 36 = .ok (.iastore, 1) := by decide +kernel
theorem dX8_addShipment_37 : decode cX8_addShipment 37 = .ok (.aload_n 0, 1) := by decide +kernel
theorem dX8_addShipment_38 : decode cX8_addShipment 38 = .ok (.getfield 9, 3) := by decide +kernel
theorem dX8_addShipment_41 : decode cX8_addShipment 41 = .ok (.iconst 0, 1) := by decide +kernel
theorem dX8_addShipment_42 : decode cX8_addShipment 42 = .ok (.dup2, 1) := by decide +kernel
theorem dX8_addShipment_43 : decode cX8_addShipment 43 = .ok (.iaload, 1) := by decide +kernel
theorem dX8_addShipment_44 : decode cX8_addShipment 44 = .ok (.iconst 1, 1) := by decide +kernel
theorem dX8_addShipment_45 : decode cX8_addShipment 45 = .ok (.iadd, 1) := by decide +kernel
theorem dX8_addShipment_46 : decode cX8_addShipment 46 = .ok (.iastore, 1) := by decide +kernel
theorem dX8_addShipment_47 : decode cX8_addShipment 47 = .ok (.aload_n 0, 1) := by decide +kernel
theorem dX8_addShipment_48 : decode cX8_addShipment 48 = .ok (.getfield 9, 3) := by decide +kernel
theorem dX8_addShipment_51 : decode cX8_addShipment 51 = .ok (.iconst 1, 1) := by decide +kernel
theorem dX8_addShipment_52 : decode cX8_addShipment 52 = .ok (.dup2, 1) := by decide +kernel
theorem dX8_addShipment_53 : decode cX8_addShipment 53 = .ok (.iaload, 1) := by decide +kernel
theorem dX8_addShipment_54 : decode cX8_addShipment 54 = .ok (.iload_n 2, 1) := by decide +kernel
theorem dX8_addShipment_55 : decode cX8_addShipment 55 = .ok (.iadd, 1) := by decide +kernel
theorem dX8_addShipment_56 : decode cX8_addShipment 56 = .ok (.iastore, 1) := by decide +kernel
theorem dX8_addShipment_57 : decode cX8_addShipment 57 = .ok (.iload_n 3, 1) := by decide +kernel
theorem dX8_addShipment_58 : decode cX8_addShipment 58 = .ok (.iload 4, 2) := by decide +kernel
theorem dX8_addShipment_60 : decode cX8_addShipment 60 = .ok (.if_icmp .le 28, 3) := by decide +kernel
theorem dX8_addShipment_63 : decode cX8_addShipment 63 = .ok (.aload_n 0, 1) := by decide +kernel
theorem dX8_addShipment_64 : decode cX8_addShipment 64 = .ok (.getfield 9, 3) := by decide +kernel
theorem dX8_addShipment_67 : decode cX8_addShipment 67 = .ok (.iconst 2, 1) := by decide +kernel
theorem dX8_addShipment_68 : decode cX8_addShipment 68 = .ok (.dup2, 1) := by decide +kernel
theorem dX8_addShipment_69 : decode cX8_addShipment 69 = .ok (.iaload, 1) := by decide +kernel
theorem dX8_addShipment_70 : decode cX8_addShipment 70 = .ok (.iload_n 2, 1) := by decide +kernel
theorem dX8_addShipment_71 : decode cX8_addShipment 71 = .ok (.iadd, 1) := by decide +kernel
theorem dX8_addShipment_72 : decode cX8_addShipment 72 = .ok (.iastore, 1) := by decide +kernel
theorem dX8_addShipment_73 : decode cX8_addShipment 73 = .ok (.aload_n 0, 1) := by decide +kernel
theorem dX8_addShipment_74 : decode cX8_addShipment 74 = .ok (.getfield 9, 3) := by decide +kernel
theorem dX8_addShipment_77 : decode cX8_addShipment 77 = .ok (.iconst 3, 1) := by decide +kernel
theorem dX8_addShipment_78 : decode cX8_addShipment 78 = .ok (.dup2, 1) := by decide +kernel
theorem dX8_addShipment_79 : decode cX8_addShipment 79 = .ok (.iaload, 1) := by decide +kernel
theorem dX8_addShipment_80 : decode cX8_addShipment 80 = .ok (.iload_n 2, 1) := by decide +kernel
theorem dX8_addShipment_81 : decode cX8_addShipment 81 = .ok (.iload_n 3, 1) := by decide +kernel
theorem dX8_addShipment_82 : decode cX8_addShipment 82 = .ok (.iload 4, 2) := by decide +kernel
theorem dX8_addShipment_84 : decode cX8_addShipment 84 = .ok (.isub, 1) := by decide +kernel
theorem dX8_addShipment_85 : decode cX8_addShipment 85 = .ok (.imul, 1) := by decide +kernel
theorem dX8_addShipment_86 : decode cX8_addShipment 86 = .ok (.iadd, 1) := by decide +kernel
theorem dX8_addShipment_87 : decode cX8_addShipment 87 = .ok (.iastore, 1) := by decide +kernel
theorem dX8_addShipment_88 : decode cX8_addShipment 88 = .ok (.return_, 1) := by decide +kernel
theorem dX8_addBought_0 : decode cX8_addBought 0 = .ok (.aload_n 0, 1) := by decide +kernel
theorem dX8_addBought_1 : decode cX8_addBought 1 = .ok (.getfield 9, 3) := by decide +kernel
theorem dX8_addBought_4 : decode cX8_addBought 4 = .ok (.iconst 4, 1) := by decide +kernel
theorem dX8_addBought_5 : decode cX8_addBought 5 = .ok (.dup2, 1) := by decide +kernel
theorem dX8_addBought_6 : decode cX8_addBought 6 = .ok (.iaload, 1) := by decide +kernel
theorem dX8_addBought_7 : decode cX8_addBought 7 = .ok (.iload_n 1, 1) := by decide +kernel
theorem dX8_addBought_8 : decode cX8_addBought 8 = .ok (.iadd, 1) := by decide +kernel
theorem dX8_addBought_9 : decode cX8_addBought 9 = .ok (.iastore, 1) := by decide +kernel
theorem dX8_addBought_10 : decode cX8_addBought 10 = .ok (.return_, 1) := by decide +kernel
theorem dX8_totalOf_0 : decode cX8_totalOf 0 = .ok (.iload_n 1, 1) := by decide +kernel
theorem dX8_totalOf_1 : decode cX8_totalOf 1 = .ok (.iconst 5, 1) := by decide +kernel
theorem dX8_totalOf_2 : decode cX8_totalOf 2 = .ok (.invokestatic 42, 3) := by decide +kernel
theorem dX8_totalOf_5 : decode cX8_totalOf 5 = .ok (.ifCond .eq 12, 3) := by decide +kernel
theorem dX8_totalOf_8 : decode cX8_totalOf 8 = .ok (.aload_n 0, 1) := by decide +kernel
theorem dX8_totalOf_9 : decode cX8_totalOf 9 = .ok (.getfield 9, 3) := by decide +kernel
theorem dX8_totalOf_12 : decode cX8_totalOf 12 = .ok (.iload_n 1, 1) := by decide +kernel
theorem dX8_totalOf_13 : decode cX8_totalOf 13 = .ok (.iaload, 1) := by decide +kernel
theorem dX8_totalOf_14 : decode cX8_totalOf 14 = .ok (.goto 4, 3) := by decide +kernel
theorem dX8_totalOf_17 : decode cX8_totalOf 17 = .ok (.iconst (-1), 1) := by decide +kernel
theorem dX8_totalOf_18 : decode cX8_totalOf 18 = .ok (.ireturn, 1) := by decide +kernel
theorem dX8_entry_0 : decode cX8_entry 0 = .ok (.iload_n 1, 1) := by decide +kernel
theorem dX8_entry_1 : decode cX8_entry 1 = .ok (.aload_n 0, 1) := by decide +kernel
theorem dX8_entry_2 : decode cX8_entry 2 = .ok (.getfield 9, 3) := by decide +kernel
theorem dX8_entry_5 : decode cX8_entry 5 = .ok (.iconst 0, 1) := by decide +kernel
theorem dX8_entry_6 : decode cX8_entry 6 = .ok (.iaload, 1) := by decide +kernel
theorem dX8_entry_7 : decode cX8_entry 7 = .ok (.bipush 16, 2) := by decide +kernel
theorem dX8_entry_9 : decode cX8_entry 9 = .ok (.invokestatic 46, 3) := by decide +kernel
theorem dX8_entry_12 : decode cX8_entry 12 = .ok (.invokestatic 42, 3) := by decide +kernel
theorem dX8_entry_15 : decode cX8_entry 15 = .ok (.ifCond .ne 5, 3) := by decide +kernel
theorem dX8_entry_18 : decode cX8_entry 18 = .ok (.iconst (-1), 1) := by decide +kernel
theorem dX8_entry_19 : decode cX8_entry 19 = .ok (.ireturn, 1) := by decide +kernel
theorem dX8_entry_20 : decode cX8_entry 20 = .ok (.aload_n 0, 1) := by decide +kernel
theorem dX8_entry_21 : decode cX8_entry 21 = .ok (.getfield 9, 3) := by decide +kernel
theorem dX8_entry_24 : decode cX8_entry 24 = .ok (.iconst 0, 1) := by decide +kernel
theorem dX8_entry_25 : decode cX8_entry 25 = .ok (.iaload, 1) := by decide +kernel
theorem dX8_entry_26 : decode cX8_entry 26 = .ok (.iconst 1, 1) := by decide +kernel
theorem dX8_entry_27 : decode cX8_entry 27 = .ok (.isub, 1) := by decide +kernel
theorem dX8_entry_28 : decode cX8_entry 28 = .ok (.iload_n 1, 1) := by decide +kernel
theorem dX8_entry_29 : decode cX8_entry 29 = .ok (.isub, 1) := by decide +kernel
theorem dX8_entry_30 : decode cX8_entry 30 = .ok (.bipush 16, 2) := by decide +kernel
theorem dX8_entry_32 : decode cX8_entry 32 = .ok (.invokestatic 36, 3) := by decide +kernel
theorem dX8_entry_35 : decode cX8_entry 35 = .ok (.istore_n 3, 1) := by decide +kernel
theorem dX8_entry_36 : decode cX8_entry 36 = .ok (.iload_n 2, 1) := by decide +kernel
theorem dX8_entry_37 : decode cX8_entry 37 = .ok (.tableswitch 48 0 2 #[27, 34, 41], 27) := by decide +kernel
theorem dX8_entry_64 : decode cX8_entry 64 = .ok (.aload_n 0, 1) := by decide +kernel
theorem dX8_entry_65 : decode cX8_entry 65 = .ok (.getfield 15, 3) := by decide +kernel
theorem dX8_entry_68 : decode cX8_entry 68 = .ok (.iload_n 3, 1) := by decide +kernel
theorem dX8_entry_69 : decode cX8_entry 69 = .ok (.iaload, 1) := by decide +kernel
theorem dX8_entry_70 : decode cX8_entry 70 = .ok (.ireturn, 1) := by decide +kernel
theorem dX8_entry_71 : decode cX8_entry 71 = .ok (.aload_n 0, 1) := by decide +kernel
theorem dX8_entry_72 : decode cX8_entry 72 = .ok (.getfield 18, 3) := by decide +kernel
theorem dX8_entry_75 : decode cX8_entry 75 = .ok (.iload_n 3, 1) := by decide +kernel
theorem dX8_entry_76 : decode cX8_entry 76 = .ok (.iaload, 1) := by decide +kernel
theorem dX8_entry_77 : decode cX8_entry 77 = .ok (.ireturn, 1) := by decide +kernel
theorem dX8_entry_78 : decode cX8_entry 78 = .ok (.aload_n 0, 1) := by decide +kernel
theorem dX8_entry_79 : decode cX8_entry 79 = .ok (.getfield 21, 3) := by decide +kernel
theorem dX8_entry_82 : decode cX8_entry 82 = .ok (.iload_n 3, 1) := by decide +kernel
theorem dX8_entry_83 : decode cX8_entry 83 = .ok (.iaload, 1) := by decide +kernel
theorem dX8_entry_84 : decode cX8_entry 84 = .ok (.ireturn, 1) := by decide +kernel
theorem dX8_entry_85 : decode cX8_entry 85 = .ok (.iconst (-1), 1) := by decide +kernel
theorem dX8_entry_86 : decode cX8_entry 86 = .ok (.ireturn, 1) := by decide +kernel
theorem dX9_restart_0 : decode cX9_restart 0 = .ok (.aload_n 0, 1) := by decide +kernel
theorem dX9_restart_1 : decode cX9_restart 1 = .ok (.iconst 0, 1) := by decide +kernel
theorem dX9_restart_2 : decode cX9_restart 2 = .ok (.putfield 18, 3) := by decide +kernel
theorem dX9_restart_5 : decode cX9_restart 5 = .ok (.aload_n 0, 1) := by decide +kernel
theorem dX9_restart_6 : decode cX9_restart 6 = .ok (.invokevirtual 22, 3) := by decide +kernel
theorem dX9_restart_9 : decode cX9_restart 9 = .ok (.return_, 1) := by decide +kernel
theorem dX9_step_0 : decode cX9_step 0 = .ok (.aload_n 0, 1) := by decide +kernel
theorem dX9_step_1 : decode cX9_step 1 = .ok (.aload_n 0, 1) := by decide +kernel
theorem dX9_step_2 : decode cX9_step 2 = .ok (.getfield 18, 3) := by decide +kernel
theorem dX9_step_5 : decode cX9_step 5 = .ok (.putfield 25, 3) := by decide +kernel
theorem dX9_step_8 : decode cX9_step 8 = .ok (.aload_n 0, 1) := by decide +kernel
theorem dX9_step_9 : decode cX9_step 9 = .ok (.getfield 25, 3) := by decide +kernel
theorem dX9_step_12 : decode cX9_step 12 = .ok (.aload_n 0, 1) := by decide +kernel
theorem dX9_step_13 : decode cX9_step 13 = .ok (.getfield 12, 3) := by decide +kernel
theorem dX9_step_16 : decode cX9_step 16 = .ok (.getfield 28, 3) := by decide +kernel
theorem dX9_step_19 : decode cX9_step 19 = .ok (.if_icmp .ge 33, 3) := by decide +kernel
theorem dX9_step_22 : decode cX9_step 22 = .ok (.aload_n 0, 1) := by decide +kernel
theorem dX9_step_23 : decode cX9_step 23 = .ok (.getfield 12, 3) := by decide +kernel
theorem dX9_step_26 : decode cX9_step 26 = .ok (.aload_n 0, 1) := by decide +kernel
theorem dX9_step_27 : decode cX9_step 27 = .ok (.getfield 25, 3) := by decide +kernel
theorem dX9_step_30 : decode cX9_step 30 = .ok (.invokevirtual 31, 3) := by decide +kernel
theorem dX9_step_33 : decode cX9_step 33 = .ok (.invokestatic 35, 3) := by decide +kernel
theorem dX9_step_36 : decode cX9_step 36 = .ok (.ifCond .eq 16, 3) := by decide +kernel
theorem dX9_step_39 : decode cX9_step 39 = .ok (.aload_n 0, 1) := by decide +kernel
theorem dX9_step_40 : decode cX9_step 40 = .ok (.dup, 1) := by decide +kernel
theorem dX9_step_41 : decode cX9_step 41 = .ok (.getfield 25, 3) := by decide +kernel
theorem dX9_step_44 : decode cX9_step 44 = .ok (.iconst 1, 1) := by decide +kernel
theorem dX9_step_45 : decode cX9_step 45 = .ok (.iadd, 1) := by decide +kernel
theorem dX9_step_46 : decode cX9_step 46 = .ok (.putfield 25, 3) := by decide +kernel
theorem dX9_step_49 : decode cX9_step 49 = .ok (.goto (-41), 3) := by decide +kernel
theorem dX9_step_52 : decode cX9_step 52 = .ok (.aload_n 0, 1) := by decide +kernel
theorem dX9_step_53 : decode cX9_step 53 = .ok (.aload_n 0, 1) := by decide +kernel
theorem dX9_step_54 : decode cX9_step 54 = .ok (.getfield 12, 3) := by decide +kernel
theorem dX9_step_57 : decode cX9_step 57 = .ok (.aload_n 0, 1) := by decide +kernel
theorem dX9_step_58 : decode cX9_step 58 = .ok (.getfield 25, 3) := by decide +kernel
theorem dX9_step_61 : decode cX9_step 61 = .ok (.invokevirtual 31, 3) := by decide +kernel
theorem dX9_step_64 : decode cX9_step 64 = .ok (.invokestatic 39, 3) := by decide +kernel
theorem dX9_step_67 : decode cX9_step 67 = .ok (.putfield 42, 3) := by decide +kernel
theorem dX9_step_70 : decode cX9_step 70 = .ok (.aload_n 0, 1) := by decide +kernel
theorem dX9_step_71 : decode cX9_step 71 = .ok (.aload_n 0, 1) := by decide +kernel
theorem dX9_step_72 : decode cX9_step 72 = .ok (.getfield 25, 3) := by decide +kernel
theorem dX9_step_75 : decode cX9_step 75 = .ok (.putfield 18, 3) := by decide +kernel
theorem dX9_step_78 : decode cX9_step 78 = .ok (.aload_n 0, 1) := by decide +kernel
theorem dX9_step_79 : decode cX9_step 79 = .ok (.getfield 42, 3) := by decide +kernel
theorem dX9_step_82 : decode cX9_step 82 = .ok (.iconst 1, 1) := by decide +kernel
theorem dX9_step_83 : decode cX9_step 83 = .ok (.if_icmp .eq 11, 3) := by decide +kernel
theorem dX9_step_86 : decode cX9_step 86 = .ok (.aload_n 0, 1) := by decide +kernel
theorem dX9_step_87 : decode cX9_step 87 = .ok (.getfield 42, 3) := by decide +kernel
theorem dX9_step_90 : decode cX9_step 90 = .ok (.iconst 2, 1) := by decide +kernel
theorem dX9_step_91 : decode cX9_step 91 = .ok (.if_icmp .ne 7, 3) := by decide +kernel
theorem dX9_step_94 : decode cX9_step 94 = .ok (.iconst 1, 1) := by decide +kernel
theorem dX9_step_95 : decode cX9_step 95 = .ok (.goto 4, 3) := by decide +kernel
theorem dX9_step_98 : decode cX9_step 98 = .ok (.iconst 0, 1) := by decide +kernel
theorem dX9_step_99 : decode cX9_step 99 = .ok (.istore_n 1, 1) := by decide +kernel
theorem dX9_step_100 : decode cX9_step 100 = .ok (.iload_n 1, 1) := by decide +kernel
theorem dX9_step_101 : decode cX9_step 101 = .ok (.ifCond .eq 51, 3) := by decide +kernel
theorem dX9_step_104 : decode cX9_step 104 = .ok (.aload_n 0, 1) := by decide +kernel
theorem dX9_step_105 : decode cX9_step 105 = .ok (.getfield 18, 3) := by decide +kernel
theorem dX9_step_108 : decode cX9_step 108 = .ok (.aload_n 0, 1) := by decide +kernel
theorem dX9_step_109 : decode cX9_step 109 = .ok (.getfield 12, 3) := by decide +kernel
theorem dX9_step_112 : decode cX9_step 112 = .ok (.getfield 28, 3) := by decide +kernel
theorem dX9_step_115 : decode cX9_step 115 = .ok (.if_icmp .ge 37, 3) := by decide +kernel
theorem dX9_step_118 : decode cX9_step 118 = .ok (.aload_n 0, 1) := by decide +kernel
theorem dX9_step_119 : decode cX9_step 119 = .ok (.getfield 12, 3) := by decide +kernel
theorem dX9_step_122 : decode cX9_step 122 = .ok (.aload_n 0, 1) := by decide +kernel
theorem dX9_step_123 : decode cX9_step 123 = .ok (.getfield 18, 3) := by decide +kernel
theorem dX9_step_126 : decode cX9_step 126 = .ok (.invokevirtual 31, 3) := by decide +kernel
theorem dX9_step_129 : decode cX9_step 129 = .ok (.invokestatic 39, 3) := by decide +kernel
theorem dX9_step_132 : decode cX9_step 132 = .ok (.aload_n 0, 1) := by decide +kernel
theorem dX9_step_133 : decode cX9_step 133 = .ok (.getfield 42, 3) := by decide +kernel
theorem dX9_step_136 : decode cX9_step 136 = .ok (.if_icmp .ne 16, 3) := by decide +kernel
theorem dX9_step_139 : decode cX9_step 139 = .ok (.aload_n 0, 1) := by decide +kernel
theorem dX9_step_140 : decode cX9_step 140 = .ok (.dup, 1) := by decide +kernel
theorem dX9_step_141 : decode cX9_step 141 = .ok (.getfield 18, 3) := by decide +kernel
theorem dX9_step_144 : decode cX9_step 144 = .ok (.iconst 1, 1) := by decide +kernel
theorem dX9_step_145 : decode cX9_step 145 = .ok (.iadd, 1) := by decide +kernel
theorem dX9_step_146 : decode cX9_step 146 = .ok (.putfield 18, 3) := by decide +kernel
theorem dX9_step_149 : decode cX9_step 149 = .ok (.goto (-49), 3) := by decide +kernel
theorem dX9_step_152 : decode cX9_step 152 = .ok (.aload_n 0, 1) := by decide +kernel
theorem dX9_step_153 : decode cX9_step 153 = .ok (.getfield 42, 3) := by decide +kernel
theorem dX9_step_156 : decode cX9_step 156 = .ok (.iconst 3, 1) := by decide +kernel
theorem dX9_step_157 : decode cX9_step 157 = .ok (.if_icmp .ne 13, 3) := by decide +kernel
theorem dX9_step_160 : decode cX9_step 160 = .ok (.aload_n 0, 1) := by decide +kernel
theorem dX9_step_161 : decode cX9_step 161 = .ok (.aload_n 0, 1) := by decide +kernel
theorem dX9_step_162 : decode cX9_step 162 = .ok (.getfield 25, 3) := by decide +kernel
theorem dX9_step_165 : decode cX9_step 165 = .ok (.iconst 1, 1) := by decide +kernel
theorem dX9_step_166 : decode cX9_step 166 = .ok (.iadd, 1) := by decide +kernel
theorem dX9_step_167 : decode cX9_step 167 = .ok (.putfield 18, 3) := by decide +kernel
theorem dX9_step_170 : decode cX9_step 170 = .ok (.return_, 1) := by decide +kernel
theorem dX9_isSpace_0 : decode cX9_isSpace 0 = .ok (.iload_n 0, 1) := by decide +kernel
theorem dX9_isSpace_1 : decode cX9_isSpace 1 = .ok (.bipush 32, 2) := by decide +kernel
theorem dX9_isSpace_3 : decode cX9_isSpace 3 = .ok (.if_icmp .eq 15, 3) := by decide +kernel
theorem dX9_isSpace_6 : decode cX9_isSpace 6 = .ok (.iload_n 0, 1) := by decide +kernel
theorem dX9_isSpace_7 : decode cX9_isSpace 7 = .ok (.bipush 9, 2) := by decide +kernel
theorem dX9_isSpace_9 : decode cX9_isSpace 9 = .ok (.if_icmp .eq 9, 3) := by decide +kernel
theorem dX9_isSpace_12 : decode cX9_isSpace 12 = .ok (.iload_n 0, 1) := by decide +kernel
theorem dX9_isSpace_13 : decode cX9_isSpace 13 = .ok (.bipush 10, 2) := by decide +kernel
theorem dX9_isSpace_15 : decode cX9_isSpace 15 = .ok (.if_icmp .ne 7, 3) := by decide +kernel
theorem dX9_isSpace_18 : decode cX9_isSpace 18 = .ok (.iconst 1, 1) := by decide +kernel
theorem dX9_isSpace_19 : decode cX9_isSpace 19 = .ok (.goto 4, 3) := by decide +kernel
theorem dX9_isSpace_22 : decode cX9_isSpace 22 = .ok (.iconst 0, 1) := by decide +kernel
theorem dX9_isSpace_23 : decode cX9_isSpace 23 = .ok (.ireturn, 1) := by decide +kernel
theorem dX9_kindOf_0 : decode cX9_kindOf 0 = .ok (.iload_n 0, 1) := by decide +kernel
theorem dX9_kindOf_1 : decode cX9_kindOf 1 = .ok (.iconst (-1), 1) := by decide +kernel
theorem dX9_kindOf_2 : decode cX9_kindOf 2 = .ok (.if_icmp .ne 5, 3) := by decide +kernel
theorem dX9_kindOf_5 : decode cX9_kindOf 5 = .ok (.iconst 0, 1) := by decide +kernel
theorem dX9_kindOf_6 : decode cX9_kindOf 6 = .ok (.ireturn, 1) := by decide +kernel
theorem dX9_kindOf_7 : decode cX9_kindOf 7 = .ok (.iload_n 0, 1) := by decide +kernel
theorem dX9_kindOf_8 : decode cX9_kindOf 8 = .ok (.bipush 97, 2) := by decide +kernel
theorem dX9_kindOf_10 : decode cX9_kindOf 10 = .ok (.if_icmp .lt 11, 3) := by decide +kernel
theorem dX9_kindOf_13 : decode cX9_kindOf 13 = .ok (.iload_n 0, 1) := by decide +kernel
theorem dX9_kindOf_14 : decode cX9_kindOf 14 = .ok (.bipush 122, 2) := by decide +kernel
theorem dX9_kindOf_16 : decode cX9_kindOf 16 = .ok (.if_icmp .gt 5, 3) := by decide +kernel
theorem dX9_kindOf_19 : decode cX9_kindOf 19 = .ok (.iconst 1, 1) := by decide +kernel
theorem dX9_kindOf_20 : decode cX9_kindOf 20 = .ok (.ireturn, 1) := by decide +kernel
theorem dX9_kindOf_21 : decode cX9_kindOf 21 = .ok (.iload_n 0, 1) := by decide +kernel
theorem dX9_kindOf_22 : decode cX9_kindOf 22 = .ok (.bipush 48, 2) := by decide +kernel
theorem dX9_kindOf_24 : decode cX9_kindOf 24 = .ok (.if_icmp .lt 13, 3) := by decide +kernel
theorem dX9_kindOf_27 : decode cX9_kindOf 27 = .ok (.iload_n 0, 1) := by decide +kernel
theorem dX9_kindOf_28 : decode cX9_kindOf 28 = .ok (.bipush 57, 2) := by decide +kernel
theorem dX9_kindOf_30 : decode cX9_kindOf 30 = .ok (.if_icmp .gt 7, 3) := by decide +kernel
theorem dX9_kindOf_33 : decode cX9_kindOf 33 = .ok (.iconst 2, 1) := by decide +kernel
theorem dX9_kindOf_34 : decode cX9_kindOf 34 = .ok (.goto 4, 3) := by decide +kernel
theorem dX9_kindOf_37 : decode cX9_kindOf 37 = .ok (.iconst 3, 1) := by decide +kernel
theorem dX9_kindOf_38 : decode cX9_kindOf 38 = .ok (.ireturn, 1) := by decide +kernel
theorem dX9_isWord_0 : decode cX9_isWord 0 = .ok (.aload_n 0, 1) := by decide +kernel
theorem dX9_isWord_1 : decode cX9_isWord 1 = .ok (.getfield 42, 3) := by decide +kernel
theorem dX9_isWord_4 : decode cX9_isWord 4 = .ok (.iconst 1, 1) := by decide +kernel
theorem dX9_isWord_5 : decode cX9_isWord 5 = .ok (.if_icmp .ne 19, 3) := by decide +kernel
theorem dX9_isWord_8 : decode cX9_isWord 8 = .ok (.aload_n 0, 1) := by decide +kernel
theorem dX9_isWord_9 : decode cX9_isWord 9 = .ok (.getfield 18, 3) := by decide +kernel
theorem dX9_isWord_12 : decode cX9_isWord 12 = .ok (.aload_n 0, 1) := by decide +kernel
theorem dX9_isWord_13 : decode cX9_isWord 13 = .ok (.getfield 25, 3) := by decide +kernel
theorem dX9_isWord_16 : decode cX9_isWord 16 = .ok (.isub, 1) := by decide +kernel
theorem dX9_isWord_17 : decode cX9_isWord 17 = .ok (.aload_n 1, 1) := by decide +kernel
theorem dX9_isWord_18 : decode cX9_isWord 18 = .ok (.invokevirtual 45, 3) := by decide +kernel
theorem dX9_isWord_21 : decode cX9_isWord 21 = .ok (.if_icmp .eq 5, 3) := by decide +kernel
theorem dX9_isWord_24 : decode cX9_isWord 24 = .ok (.iconst 0, 1) := by decide +kernel
theorem dX9_isWord_25 : decode cX9_isWord 25 = .ok (.ireturn, 1) := by decide +kernel
theorem dX9_isWord_26 : decode cX9_isWord 26 = .ok (.iconst 0, 1) := by decide +kernel
theorem dX9_isWord_27 : decode cX9_isWord 27 = .ok (.istore_n 2, 1) := by decide +kernel
theorem dX9_isWord_28 : decode cX9_isWord 28 = .ok (.iload_n 2, 1) := by decide +kernel
theorem dX9_isWord_29 : decode cX9_isWord 29 = .ok (.aload_n 1, 1) := by decide +kernel
theorem dX9_isWord_30 : decode cX9_isWord 30 = .ok (.invokevirtual 45, 3) := by decide +kernel
theorem dX9_isWord_33 : decode cX9_isWord 33 = .ok (.if_icmp .ge 32, 3) := by decide +kernel
theorem dX9_isWord_36 : decode cX9_isWord 36 = .ok (.aload_n 0, 1) := by decide +kernel
theorem dX9_isWord_37 : decode cX9_isWord 37 = .ok (.getfield 12, 3) := by decide +kernel
theorem dX9_isWord_40 : decode cX9_isWord 40 = .ok (.aload_n 0, 1) := by decide +kernel
theorem dX9_isWord_41 : decode cX9_isWord 41 = .ok (.getfield 25, 3) := by decide +kernel
theorem dX9_isWord_44 : decode cX9_isWord 44 = .ok (.iload_n 2, 1) := by decide +kernel
theorem dX9_isWord_45 : decode cX9_isWord 45 = .ok (.iadd, 1) := by decide +kernel
theorem dX9_isWord_46 : decode cX9_isWord 46 = .ok (.invokevirtual 31, 3) := by decide +kernel
theorem dX9_isWord_49 : decode cX9_isWord 49 = .ok (.aload_n 1, 1) := by decide +kernel
theorem dX9_isWord_50 : decode cX9_isWord 50 = .ok (.iload_n 2, 1) := by decide +kernel
theorem dX9_isWord_51 : decode cX9_isWord 51 = .ok (.invokevirtual 50, 3) := by decide +kernel
theorem dX9_isWord_54 : decode cX9_isWord 54 = .ok (.if_icmp .eq 5, 3) := by decide +kernel
theorem dX9_isWord_57 : decode cX9_isWord 57 = .ok (.iconst 0, 1) := by decide +kernel
theorem dX9_isWord_58 : decode cX9_isWord 58 = .ok (.ireturn, 1) := by decide +kernel
theorem dX9_isWord_59 : decode cX9_isWord 59 = .ok (.iinc 2 1, 3) := by decide +kernel
theorem dX9_isWord_62 : decode cX9_isWord 62 = .ok (.goto (-34), 3) := by decide +kernel
theorem dX9_isWord_65 : decode cX9_isWord 65 = .ok (.iconst 1, 1) := by decide +kernel
theorem dX9_isWord_66 : decode cX9_isWord 66 = .ok (.ireturn, 1) := by decide +kernel
theorem dX9_isSemicolon_0 : decode cX9_isSemicolon 0 = .ok (.aload_n 0, 1) := by decide +kernel
theorem dX9_isSemicolon_1 : decode cX9_isSemicolon 1 = .ok (.getfield 42, 3) := by decide +kernel
theorem dX9_isSemicolon_4 : decode cX9_isSemicolon 4 = .ok (.iconst 3, 1) := by decide +kernel
theorem dX9_isSemicolon_5 : decode cX9_isSemicolon 5 = .ok (.if_icmp .ne 23, 3) := by decide +kernel
theorem dX9_isSemicolon_8 : decode cX9_isSemicolon 8 = .ok (.aload_n 0, 1) := by decide +kernel
theorem dX9_isSemicolon_9 : decode cX9_isSemicolon 9 = .ok (.getfield 12, 3) := by decide +kernel
theorem dX9_isSemicolon_12 : decode cX9_isSemicolon 12 = .ok (.aload_n 0, 1) := by decide +kernel
theorem dX9_isSemicolon_13 : decode cX9_isSemicolon 13 = .ok (.getfield 25, 3) := by decide +kernel
theorem dX9_isSemicolon_16 : decode cX9_isSemicolon 16 = .ok (.invokevirtual 31, 3) := by decide +kernel
theorem dX9_isSemicolon_19 : decode cX9_isSemicolon 19 = .ok (.bipush 59, 2) := by decide +kernel
theorem dX9_isSemicolon_21 : decode cX9_isSemicolon 21 = .ok (.if_icmp .ne 7, 3) := by decide +kernel
theorem dX9_isSemicolon_24 : decode cX9_isSemicolon 24 = .ok (.iconst 1, 1) := by decide +kernel
theorem dX9_isSemicolon_25 : decode cX9_isSemicolon 25 = .ok (.goto 4, 3) := by decide +kernel
theorem dX9_isSemicolon_28 : decode cX9_isSemicolon 28 = .ok (.iconst 0, 1) := by decide +kernel
theorem dX9_isSemicolon_29 : decode cX9_isSemicolon 29 = .ok (.ireturn, 1) := by decide +kernel
theorem dX9_isName_0 : decode cX9_isName 0 = .ok (.aload_n 0, 1) := by decide +kernel
theorem dX9_isName_1 : decode cX9_isName 1 = .ok (.getfield 42, 3) := by decide +kernel
theorem dX9_isName_4 : decode cX9_isName 4 = .ok (.iconst 1, 1) := by decide +kernel
theorem dX9_isName_5 : decode cX9_isName 5 = .ok (.if_icmp .ne 21, 3) := by decide +kernel
theorem dX9_isName_8 : decode cX9_isName 8 = .ok (.aload_n 0, 1) := by decide +kernel
theorem dX9_isName_9 : decode cX9_isName 9 = .ok (.getfield 18, 3) := by decide +kernel
theorem dX9_isName_12 : decode cX9_isName 12 = .ok (.aload_n 0, 1) := by decide +kernel
theorem dX9_isName_13 : decode cX9_isName 13 = .ok (.getfield 25, 3) := by decide +kernel
theorem dX9_isName_16 : decode cX9_isName 16 = .ok (.isub, 1) := by decide +kernel
theorem dX9_isName_17 : decode cX9_isName 17 = .ok (.bipush 8, 2) := by decide +kernel
theorem dX9_isName_19 : decode cX9_isName 19 = .ok (.if_icmp .gt 7, 3) := by decide +kernel
theorem dX9_isName_22 : decode cX9_isName 22 = .ok (.iconst 1, 1) := by decide +kernel
theorem dX9_isName_23 : decode cX9_isName 23 = .ok (.goto 4, 3) := by decide +kernel
theorem dX9_isName_26 : decode cX9_isName 26 = .ok (.iconst 0, 1) := by decide +kernel
theorem dX9_isName_27 : decode cX9_isName 27 = .ok (.ireturn, 1) := by decide +kernel
theorem dX9_name_0 : decode cX9_name 0 = .ok (.lconst 0, 1) := by decide +kernel
theorem dX9_name_1 : decode cX9_name 1 = .ok (.lstore_n 1, 1) := by decide +kernel
theorem dX9_name_2 : decode cX9_name 2 = .ok (.aload_n 0, 1) := by decide +kernel
theorem dX9_name_3 : decode cX9_name 3 = .ok (.getfield 25, 3) := by decide +kernel
theorem dX9_name_6 : decode cX9_name 6 = .ok (.istore_n 3, 1) := by decide +kernel
theorem dX9_name_7 : decode cX9_name 7 = .ok (.iload_n 3, 1) := by decide +kernel
theorem dX9_name_8 : decode cX9_name 8 = .ok (.aload_n 0, 1) := by decide +kernel
theorem dX9_name_9 : decode cX9_name 9 = .ok (.getfield 18, 3) := by decide +kernel
theorem dX9_name_12 : decode cX9_name 12 = .ok (.if_icmp .ge 24, 3) := by decide +kernel
theorem dX9_name_15 : decode cX9_name 15 = .ok (.lload_n 1, 1) := by decide +kernel
theorem dX9_name_16 : decode cX9_name 16 = .ok (.bipush 8, 2) := by decide +kernel
theorem dX9_name_18 : decode cX9_name 18 = .ok (.lshl, 1) := by decide +kernel
theorem dX9_name_19 : decode cX9_name 19 = .ok (.aload_n 0, 1) := by decide +kernel
theorem dX9_name_20 : decode cX9_name 20 = .ok (.getfield 12, 3) := by decide +kernel
theorem dX9_name_23 : decode cX9_name 23 = .ok (.iload_n 3, 1) := by decide +kernel
theorem dX9_name_24 : decode cX9_name 24 = .ok (.invokevirtual 31, 3) := by decide +kernel
theorem dX9_name_27 : decode cX9_name 27 = .ok (.i2l, 1) := by decide +kernel
theorem dX9_name_28 : decode cX9_name 28 = .ok (.lor, 1) := by decide +kernel
theorem dX9_name_29 : decode cX9_name 29 = .ok (.lstore_n 1, 1) := by decide +kernel
theorem dX9_name_30 : decode cX9_name 30 = .ok (.iinc 3 1, 3) := by decide +kernel
theorem dX9_name_33 : decode cX9_name 33 = .ok (.goto (-26), 3) := by decide +kernel
theorem dX9_name_36 : decode cX9_name 36 = .ok (.lload_n 1, 1) := by decide +kernel
theorem dX9_name_37 : decode cX9_name 37 = .ok (.lreturn, 1) := by decide +kernel
theorem dX9_value_0 : decode cX9_value 0 = .ok (.aload_n 0, 1) := by decide +kernel
theorem dX9_value_1 : decode cX9_value 1 = .ok (.getfield 18, 3) := by decide +kernel
theorem dX9_value_4 : decode cX9_value 4 = .ok (.aload_n 0, 1) := by decide +kernel
theorem dX9_value_5 : decode cX9_value 5 = .ok (.getfield 25, 3) := by decide +kernel
theorem dX9_value_8 : decode cX9_value 8 = .ok (.isub, 1) := by decide +kernel
theorem dX9_value_9 : decode cX9_value 9 = .ok (.iconst 4, 1) := by decide +kernel
theorem dX9_value_10 : decode cX9_value 10 = .ok (.if_icmp .le 5, 3) := by decide +kernel
theorem dX9_value_13 : decode cX9_value 13 = .ok (.iconst (-1), 1) := by decide +kernel
theorem dX9_value_14 : decode cX9_value 14 = .ok (.ireturn, 1) := by decide +kernel
theorem dX9_value_15 : decode cX9_value 15 = .ok (.iconst 0, 1) := by decide +kernel
theorem dX9_value_16 : decode cX9_value 16 = .ok (.istore_n 1, 1) := by decide +kernel
theorem dX9_value_17 : decode cX9_value 17 = .ok (.aload_n 0, 1) := by decide +kernel
theorem dX9_value_18 : decode cX9_value 18 = .ok (.getfield 25, 3) := by decide +kernel
theorem dX9_value_21 : decode cX9_value 21 = .ok (.istore_n 2, 1) := by decide +kernel
theorem dX9_value_22 : decode cX9_value 22 = .ok (.iload_n 2, 1) := by decide +kernel
theorem dX9_value_23 : decode cX9_value 23 = .ok (.aload_n 0, 1) := by decide +kernel
theorem dX9_value_24 : decode cX9_value 24 = .ok (.getfield 18, 3) := by decide +kernel
theorem dX9_value_27 : decode cX9_value 27 = .ok (.if_icmp .ge 26, 3) := by decide +kernel
theorem dX9_value_30 : decode cX9_value 30 = .ok (.iload_n 1, 1) := by decide +kernel
theorem dX9_value_31 : decode cX9_value 31 = .ok (.bipush 10, 2) := by decide +kernel
theorem dX9_value_33 : decode cX9_value 33 = .ok (.imul, 1) := by decide +kernel
theorem dX9_value_34 : decode cX9_value 34 = .ok (.aload_n 0, 1) := by decide +kernel
theorem dX9_value_35 : decode cX9_value 35 = .ok (.getfield 12, 3) := by decide +kernel
theorem dX9_value_38 : decode cX9_value 38 = .ok (.iload_n 2, 1) := by decide +kernel
theorem dX9_value_39 : decode cX9_value 39 = .ok (.invokevirtual 31, 3) := by decide +kernel
theorem dX9_value_42 : decode cX9_value 42 = .ok (.iadd, 1) := by decide +kernel
theorem dX9_value_43 : decode cX9_value 43 = .ok (.bipush 48, 2) := by decide +kernel
theorem dX9_value_45 : decode cX9_value 45 = .ok (.isub, 1) := by decide +kernel
theorem dX9_value_46 : decode cX9_value 46 = .ok (.istore_n 1, 1) := by decide +kernel
theorem dX9_value_47 : decode cX9_value 47 = .ok (.iinc 2 1, 3) := by decide +kernel
theorem dX9_value_50 : decode cX9_value 50 = .ok (.goto (-28), 3) := by decide +kernel
theorem dX9_value_53 : decode cX9_value 53 = .ok (.iload_n 1, 1) := by decide +kernel
theorem dX9_value_54 : decode cX9_value 54 = .ok (.ireturn, 1) := by decide +kernel
theorem dX10_clear_0 : decode cX10_clear 0 = .ok (.aload_n 0, 1) := by decide +kernel
theorem dX10_clear_1 : decode cX10_clear 1 = .ok (.iconst 0, 1) := by decide +kernel
theorem dX10_clear_2 : decode cX10_clear 2 = .ok (.putfield 27, 3) := by decide +kernel
theorem dX10_clear_5 : decode cX10_clear 5 = .ok (.aload_n 0, 1) := by decide +kernel
theorem dX10_clear_6 : decode cX10_clear 6 = .ok (.iconst 0, 1) := by decide +kernel
theorem dX10_clear_7 : decode cX10_clear 7 = .ok (.putfield 31, 3) := by decide +kernel
theorem dX10_clear_10 : decode cX10_clear 10 = .ok (.aload_n 0, 1) := by decide +kernel
theorem dX10_clear_11 : decode cX10_clear 11 = .ok (.getfield 9, 3) := by decide +kernel
theorem dX10_clear_14 : decode cX10_clear 14 = .ok (.iconst 0, 1) := by decide +kernel
theorem dX10_clear_15 : decode cX10_clear 15 = .ok (.invokestatic 34, 3) := by decide +kernel
theorem dX10_clear_18 : decode cX10_clear 18 = .ok (.aload_n 0, 1) := by decide +kernel
theorem dX10_clear_19 : decode cX10_clear 19 = .ok (.getfield 15, 3) := by decide +kernel
theorem dX10_clear_22 : decode cX10_clear 22 = .ok (.iconst 0, 1) := by decide +kernel
theorem dX10_clear_23 : decode cX10_clear 23 = .ok (.invokestatic 34, 3) := by decide +kernel
theorem dX10_clear_26 : decode cX10_clear 26 = .ok (.return_, 1) := by decide +kernel
theorem dX10_copyFrom_0 : decode cX10_copyFrom 0 = .ok (.aload_n 0, 1) := by decide +kernel
theorem dX10_copyFrom_1 : decode cX10_copyFrom 1 = .ok (.aload_n 1, 1) := by decide +kernel
theorem dX10_copyFrom_2 : decode cX10_copyFrom 2 = .ok (.getfield 27, 3) := by decide +kernel
theorem dX10_copyFrom_5 : decode cX10_copyFrom 5 = .ok (.putfield 27, 3) := by decide +kernel
theorem dX10_copyFrom_8 : decode cX10_copyFrom 8 = .ok (.aload_n 0, 1) := by decide +kernel
theorem dX10_copyFrom_9 : decode cX10_copyFrom 9 = .ok (.aload_n 1, 1) := by decide +kernel
theorem dX10_copyFrom_10 : decode cX10_copyFrom 10 = .ok (.getfield 31, 3) := by decide +kernel
theorem dX10_copyFrom_13 : decode cX10_copyFrom 13 = .ok (.putfield 31, 3) := by decide +kernel
theorem dX10_copyFrom_16 : decode cX10_copyFrom 16 = .ok (.aload_n 1, 1) := by decide +kernel
theorem dX10_copyFrom_17 : decode cX10_copyFrom 17 = .ok (.getfield 9, 3) := by decide +kernel
theorem dX10_copyFrom_20 : decode cX10_copyFrom 20 = .ok (.iconst 0, 1) := by decide +kernel
theorem dX10_copyFrom_21 : decode cX10_copyFrom 21 = .ok (.aload_n 0, 1) := by decide +kernel
theorem dX10_copyFrom_22 : decode cX10_copyFrom 22 = .ok (.getfield 9, 3) := by decide +kernel
theorem dX10_copyFrom_25 : decode cX10_copyFrom 25 = .ok (.iconst 0, 1) := by decide +kernel
theorem dX10_copyFrom_26 : decode cX10_copyFrom 26 = .ok (.bipush 12, 2) := by decide +kernel
theorem dX10_copyFrom_28 : decode cX10_copyFrom 28 = .ok (.invokestatic 40, 3) := by decide +kernel
theorem dX10_copyFrom_31 : decode cX10_copyFrom 31 = .ok (.aload_n 1, 1) := by decide +kernel
theorem dX10_copyFrom_32 : decode cX10_copyFrom 32 = .ok (.getfield 15, 3) := by decide +kernel
theorem dX10_copyFrom_35 : decode cX10_copyFrom 35 = .ok (.iconst 0, 1) := by decide +kernel
theorem dX10_copyFrom_36 : decode cX10_copyFrom 36 = .ok (.aload_n 0, 1) := by decide +kernel
theorem dX10_copyFrom_37 : decode cX10_copyFrom 37 = .ok (.getfield 15, 3) := by decide +kernel
theorem dX10_copyFrom_40 : decode cX10_copyFrom 40 = .ok (.iconst 0, 1) := by decide +kernel
theorem dX10_copyFrom_41 : decode cX10_copyFrom 41 = .ok (.bipush 12, 2) := by decide +kernel
theorem dX10_copyFrom_43 : decode cX10_copyFrom 43 = .ok (.invokestatic 40, 3) := by decide +kernel
theorem dX10_copyFrom_46 : decode cX10_copyFrom 46 = .ok (.aload_n 1, 1) := by decide +kernel
theorem dX10_copyFrom_47 : decode cX10_copyFrom 47 = .ok (.getfield 18, 3) := by decide +kernel
theorem dX10_copyFrom_50 : decode cX10_copyFrom 50 = .ok (.iconst 0, 1) := by decide +kernel
theorem dX10_copyFrom_51 : decode cX10_copyFrom 51 = .ok (.aload_n 0, 1) := by decide +kernel
theorem dX10_copyFrom_52 : decode cX10_copyFrom 52 = .ok (.getfield 18, 3) := by decide +kernel
theorem dX10_copyFrom_55 : decode cX10_copyFrom 55 = .ok (.iconst 0, 1) := by decide +kernel
theorem dX10_copyFrom_56 : decode cX10_copyFrom 56 = .ok (.bipush 20, 2) := by decide +kernel
theorem dX10_copyFrom_58 : decode cX10_copyFrom 58 = .ok (.invokestatic 40, 3) := by decide +kernel
theorem dX10_copyFrom_61 : decode cX10_copyFrom 61 = .ok (.aload_n 1, 1) := by decide +kernel
theorem dX10_copyFrom_62 : decode cX10_copyFrom 62 = .ok (.getfield 21, 3) := by decide +kernel
theorem dX10_copyFrom_65 : decode cX10_copyFrom 65 = .ok (.iconst 0, 1) := by decide +kernel
theorem dX10_copyFrom_66 : decode cX10_copyFrom 66 = .ok (.aload_n 0, 1) := by decide +kernel
theorem dX10_copyFrom_67 : decode cX10_copyFrom 67 = .ok (.getfield 21, 3) := by decide +kernel
theorem dX10_copyFrom_70 : decode cX10_copyFrom 70 = .ok (.iconst 0, 1) := by decide +kernel
theorem dX10_copyFrom_71 : decode cX10_copyFrom 71 = .ok (.bipush 20, 2) := by decide +kernel
theorem dX10_copyFrom_73 : decode cX10_copyFrom 73 = .ok (.invokestatic 40, 3) := by decide +kernel
theorem dX10_copyFrom_76 : decode cX10_copyFrom 76 = .ok (.aload_n 1, 1) := by decide +kernel
theorem dX10_copyFrom_77 : decode cX10_copyFrom 77 = .ok (.getfield 24, 3) := by decide +kernel
theorem dX10_copyFrom_80 : decode cX10_copyFrom 80 = .ok (.iconst 0, 1) := by decide +kernel
theorem dX10_copyFrom_81 : decode cX10_copyFrom 81 = .ok (.aload_n 0, 1) := by decide +kernel
theorem dX10_copyFrom_82 : decode cX10_copyFrom 82 = .ok (.getfield 24, 3) := by decide +kernel
theorem dX10_copyFrom_85 : decode cX10_copyFrom 85 = .ok (.iconst 0, 1) := by decide +kernel
theorem dX10_copyFrom_86 : decode cX10_copyFrom 86 = .ok (.bipush 20, 2) := by decide +kernel
theorem dX10_copyFrom_88 : decode cX10_copyFrom 88 = .ok (.invokestatic 40, 3) := by decide +kernel
theorem dX10_copyFrom_91 : decode cX10_copyFrom 91 = .ok (.return_, 1) := by decide +kernel
theorem dX10_stockOf_0 : decode cX10_stockOf 0 = .ok (.iload_n 1, 1) := by decide +kernel
theorem dX10_stockOf_1 : decode cX10_stockOf 1 = .ok (.bipush 12, 2) := by decide +kernel
theorem dX10_stockOf_3 : decode cX10_stockOf 3 = .ok (.invokestatic 46, 3) := by decide +kernel
theorem dX10_stockOf_6 : decode cX10_stockOf 6 = .ok (.ifCond .eq 12, 3) := by decide +kernel
theorem dX10_stockOf_9 : decode cX10_stockOf 9 = .ok (.aload_n 0, 1) := by decide +kernel
theorem dX10_stockOf_10 : decode cX10_stockOf 10 = .ok (.getfield 9, 3) := by decide +kernel
theorem dX10_stockOf_13 : decode cX10_stockOf 13 = .ok (.iload_n 1, 1) := by decide +kernel
theorem dX10_stockOf_14 : decode cX10_stockOf 14 = .ok (.iaload, 1) := by decide +kernel
theorem dX10_stockOf_15 : decode cX10_stockOf 15 = .ok (.goto 4, 3) := by decide +kernel
theorem dX10_stockOf_18 : decode cX10_stockOf 18 = .ok (.iconst 0, 1) := by decide +kernel
theorem dX10_stockOf_19 : decode cX10_stockOf 19 = .ok (.ireturn, 1) := by decide +kernel
theorem dX10_reservedOf_0 : decode cX10_reservedOf 0 = .ok (.iload_n 1, 1) := by decide +kernel
theorem dX10_reservedOf_1 : decode cX10_reservedOf 1 = .ok (.bipush 12, 2) := by decide +kernel
theorem dX10_reservedOf_3 : decode cX10_reservedOf 3 = .ok (.invokestatic 46, 3) := by decide +kernel
theorem dX10_reservedOf_6 : decode cX10_reservedOf 6 = .ok (.ifCond .eq 12, 3) := by decide +kernel
theorem dX10_reservedOf_9 : decode cX10_reservedOf 9 = .ok (.aload_n 0, 1) := by decide +kernel
theorem dX10_reservedOf_10 : decode cX10_reservedOf 10 = .ok (.getfield 15, 3) := by decide +kernel
theorem dX10_reservedOf_13 : decode cX10_reservedOf 13 = .ok (.iload_n 1, 1) := by decide +kernel
theorem dX10_reservedOf_14 : decode cX10_reservedOf 14 = .ok (.iaload, 1) := by decide +kernel
theorem dX10_reservedOf_15 : decode cX10_reservedOf 15 = .ok (.goto 4, 3) := by decide +kernel
theorem dX10_reservedOf_18 : decode cX10_reservedOf 18 = .ok (.iconst 0, 1) := by decide +kernel
theorem dX10_reservedOf_19 : decode cX10_reservedOf 19 = .ok (.ireturn, 1) := by decide +kernel
theorem dX10_freeOf_0 : decode cX10_freeOf 0 = .ok (.aload_n 0, 1) := by decide +kernel
theorem dX10_freeOf_1 : decode cX10_freeOf 1 = .ok (.iload_n 1, 1) := by decide +kernel
theorem dX10_freeOf_2 : decode cX10_freeOf 2 = .ok (.invokevirtual 50, 3) := by decide +kernel
theorem dX10_freeOf_5 : decode cX10_freeOf 5 = .ok (.aload_n 0, 1) := by decide +kernel
theorem dX10_freeOf_6 : decode cX10_freeOf 6 = .ok (.iload_n 1, 1) := by decide +kernel
theorem dX10_freeOf_7 : decode cX10_freeOf 7 = .ok (.invokevirtual 54, 3) := by decide +kernel
theorem dX10_freeOf_10 : decode cX10_freeOf 10 = .ok (.isub, 1) := by decide +kernel
theorem dX10_freeOf_11 : decode cX10_freeOf 11 = .ok (.ireturn, 1) := by decide +kernel
theorem dX10_fillFree_0 : decode cX10_fillFree 0 = .ok (.iconst 0, 1) := by decide +kernel
theorem dX10_fillFree_1 : decode cX10_fillFree 1 = .ok (.istore_n 2, 1) := by decide +kernel
theorem dX10_fillFree_2 : decode cX10_fillFree 2 = .ok (.iload_n 2, 1) := by decide +kernel
theorem dX10_fillFree_3 : decode cX10_fillFree 3 = .ok (.aload_n 1, 1) := by decide +kernel
theorem dX10_fillFree_4 : decode cX10_fillFree 4 = .ok (.arraylength, 1) := by decide +kernel
theorem dX10_fillFree_5 : decode cX10_fillFree 5 = .ok (.if_icmp .ge 17, 3) := by decide +kernel
theorem dX10_fillFree_8 : decode cX10_fillFree 8 = .ok (.aload_n 1, 1) := by decide +kernel
theorem dX10_fillFree_9 : decode cX10_fillFree 9 = .ok (.iload_n 2, 1) := by decide +kernel
theorem dX10_fillFree_10 : decode cX10_fillFree 10 = .ok (.aload_n 0, 1) := by decide +kernel
theorem dX10_fillFree_11 : decode cX10_fillFree 11 = .ok (.iload_n 2, 1) := by decide +kernel
theorem dX10_fillFree_12 : decode cX10_fillFree 12 = .ok (.invokevirtual 57, 3) := by decide +kernel
theorem dX10_fillFree_15 : decode cX10_fillFree 15 = .ok (.iastore, 1) := by decide +kernel
theorem dX10_fillFree_16 : decode cX10_fillFree 16 = .ok (.iinc 2 1, 3) := by decide +kernel
theorem dX10_fillFree_19 : decode cX10_fillFree 19 = .ok (.goto (-17), 3) := by decide +kernel
theorem dX10_fillFree_22 : decode cX10_fillFree 22 = .ok (.return_, 1) := by decide +kernel
theorem dX10_setStock_0 : decode cX10_setStock 0 = .ok (.iload_n 1, 1) := by decide +kernel
theorem dX10_setStock_1 : decode cX10_setStock 1 = .ok (.bipush 12, 2) := by decide +kernel
theorem dX10_setStock_3 : decode cX10_setStock 3 = .ok (.invokestatic 46, 3) := by decide +kernel
theorem dX10_setStock_6 : decode cX10_setStock 6 = .ok (.ifCond .eq 10, 3) := by decide +kernel
theorem dX10_setStock_9 : decode cX10_setStock 9 = .ok (.aload_n 0, 1) := by decide +kernel
theorem dX10_setStock_10 : decode cX10_setStock 10 = .ok (.getfield 9, 3) := by decide +kernel
theorem dX10_setStock_13 : decode cX10_setStock 13 = .ok (.iload_n 1, 1) := by decide +kernel
theorem dX10_setStock_14 : decode cX10_setStock 14 = .ok (.iload_n 2, 1) := by decide +kernel
theorem dX10_setStock_15 : decode cX10_setStock 15 = .ok (.iastore, 1) := by decide +kernel
theorem dX10_setStock_16 : decode cX10_setStock 16 = .ok (.return_, 1) := by decide +kernel
theorem dX10_addReserved_0 : decode cX10_addReserved 0 = .ok (.iload_n 1, 1) := by decide +kernel
theorem dX10_addReserved_1 : decode cX10_addReserved 1 = .ok (.bipush 12, 2) := by decide +kernel
theorem dX10_addReserved_3 : decode cX10_addReserved 3 = .ok (.invokestatic 46, 3) := by decide +kernel
theorem dX10_addReserved_6 : decode cX10_addReserved 6 = .ok (.ifCond .eq 13, 3) := by decide +kernel
theorem dX10_addReserved_9 : decode cX10_addReserved 9 = .ok (.aload_n 0, 1) := by decide +kernel
theorem dX10_addReserved_10 : decode cX10_addReserved 10 = .ok (.getfield 15, 3) := by decide +kernel
theorem dX10_addReserved_13 : decode cX10_addReserved 13 = .ok (.iload_n 1, 1) := by decide +kernel
theorem dX10_addReserved_14 : decode cX10_addReserved 14 = .ok (.dup2, 1) := by decide +kernel
theorem dX10_addReserved_15 : decode cX10_addReserved 15 = .ok (.iaload, 1) := by decide +kernel
theorem dX10_addReserved_16 : decode cX10_addReserved 16 = .ok (.iload_n 2, 1) := by decide +kernel
theorem dX10_addReserved_17 : decode cX10_addReserved 17 = .ok (.iadd, 1) := by decide +kernel
theorem dX10_addReserved_18 : decode cX10_addReserved 18 = .ok (.iastore, 1) := by decide +kernel
theorem dX10_addReserved_19 : decode cX10_addReserved 19 = .ok (.return_, 1) := by decide +kernel
theorem dX10_addArrival_0 : decode cX10_addArrival 0 = .ok (.aload_n 0, 1) := by decide +kernel
theorem dX10_addArrival_1 : decode cX10_addArrival 1 = .ok (.getfield 27, 3) := by decide +kernel
theorem dX10_addArrival_4 : decode cX10_addArrival 4 = .ok (.iload_n 3, 1) := by decide +kernel
theorem dX10_addArrival_5 : decode cX10_addArrival 5 = .ok (.iadd, 1) := by decide +kernel
theorem dX10_addArrival_6 : decode cX10_addArrival 6 = .ok (.istore 4, 2) := by decide +kernel
theorem dX10_addArrival_8 : decode cX10_addArrival 8 = .ok (.aload_n 0, 1) := by decide +kernel
theorem dX10_addArrival_9 : decode cX10_addArrival 9 = .ok (.getfield 31, 3) := by decide +kernel
theorem dX10_addArrival_12 : decode cX10_addArrival 12 = .ok (.bipush 20, 2) := by decide +kernel
theorem dX10_addArrival_14 : decode cX10_addArrival 14 = .ok (.if_icmp .ge 44, 3) := by decide +kernel
theorem dX10_addArrival_17 : decode cX10_addArrival 17 = .ok (.aload_n 0, 1) := by decide +kernel
theorem dX10_addArrival_18 : decode cX10_addArrival 18 = .ok (.getfield 18, 3) := by decide +kernel
theorem dX10_addArrival_21 : decode cX10_addArrival 21 = .ok (.aload_n 0, 1) := by decide +kernel
theorem dX10_addArrival_22 : decode cX10_addArrival 22 = .ok (.getfield 31, 3) := by decide +kernel
theorem dX10_addArrival_25 : decode cX10_addArrival 25 = .ok (.iload_n 1, 1) := by decide +kernel
theorem dX10_addArrival_26 : decode cX10_addArrival 26 = .ok (.iastore, 1) := by decide +kernel
theorem dX10_addArrival_27 : decode cX10_addArrival 27 = .ok (.aload_n 0, 1) := by decide +kernel
theorem dX10_addArrival_28 : decode cX10_addArrival 28 = .ok (.getfield 21, 3) := by decide +kernel
theorem dX10_addArrival_31 : decode cX10_addArrival 31 = .ok (.aload_n 0, 1) := by decide +kernel
theorem dX10_addArrival_32 : decode cX10_addArrival 32 = .ok (.getfield 31, 3) := by decide +kernel
theorem dX10_addArrival_35 : decode cX10_addArrival 35 = .ok (.iload_n 2, 1) := by decide +kernel
theorem dX10_addArrival_36 : decode cX10_addArrival 36 = .ok (.iastore, 1) := by decide +kernel
theorem dX10_addArrival_37 : decode cX10_addArrival 37 = .ok (.aload_n 0, 1) := by decide +kernel
theorem dX10_addArrival_38 : decode cX10_addArrival 38 = .ok (.getfield 24, 3) := by decide +kernel
theorem dX10_addArrival_41 : decode cX10_addArrival 41 = .ok (.aload_n 0, 1) := by decide +kernel
theorem dX10_addArrival_42 : decode cX10_addArrival 42 = .ok (.getfield 31, 3) := by decide +kernel
theorem dX10_addArrival_45 : decode cX10_addArrival 45 = .ok (.iload 4, 2) := by decide +kernel
theorem dX10_addArrival_47 : decode cX10_addArrival 47 = .ok (.iastore, 1) := by decide +kernel
theorem dX10_addArrival_48 : decode cX10_addArrival 48 = .ok (.aload_n 0, 1) := by decide +kernel
theorem dX10_addArrival_49 : decode cX10_addArrival 49 = .ok (.dup, 1) := by decide +kernel
theorem dX10_addArrival_50 : decode cX10_addArrival 50 = .ok (.getfield 31, 3) := by decide +kernel
theorem dX10_addArrival_53 : decode cX10_addArrival 53 = .ok (.iconst 1, 1) := by decide +kernel
theorem dX10_addArrival_54 : decode cX10_addArrival 54 = .ok (.iadd, 1) := by decide +kernel
theorem dX10_addArrival_55 : decode cX10_addArrival 55 = .ok (.putfield 31, 3) := by decide +kernel
theorem dX10_addArrival_58 : decode cX10_addArrival 58 = .ok (.iload 4, 2) := by decide +kernel
theorem dX10_addArrival_60 : decode cX10_addArrival 60 = .ok (.ireturn, 1) := by decide +kernel
theorem dX10_passDay_0 : decode cX10_passDay 0 = .ok (.aload_n 0, 1) := by decide +kernel
theorem dX10_passDay_1 : decode cX10_passDay 1 = .ok (.dup, 1) := by decide +kernel
theorem dX10_passDay_2 : decode cX10_passDay 2 = .ok (.getfield 27, 3) := by decide +kernel
theorem dX10_passDay_5 : decode cX10_passDay 5 = .ok (.iconst 1, 1) := by decide +kernel
theorem dX10_passDay_6 : decode cX10_passDay 6 = .ok (.iadd, 1) := by decide +kernel
theorem dX10_passDay_7 : decode cX10_passDay 7 = .ok (.putfield 27, 3) := by decide +kernel
theorem dX10_passDay_10 : decode cX10_passDay 10 = .ok (.iconst 0, 1) := by decide +kernel
theorem dX10_passDay_11 : decode cX10_passDay 11 = .ok (.istore_n 1, 1) := by decide +kernel
theorem dX10_passDay_12 : decode cX10_passDay 12 = .ok (.iconst 0, 1) := by decide +kernel
theorem dX10_passDay_13 : decode cX10_passDay 13 = .ok (.istore_n 2, 1) := by decide +kernel
theorem dX10_passDay_14 : decode cX10_passDay 14 = .ok (.iload_n 2, 1) := by decide +kernel
theorem dX10_passDay_15 : decode cX10_passDay 15 = .ok (.aload_n 0, 1) := by decide +kernel
theorem dX10_passDay_16 : decode cX10_passDay 16 = .ok (.getfield 31, 3) := by decide +kernel
theorem dX10_passDay_19 : decode cX10_passDay 19 = .ok (.if_icmp .ge 88, 3) := by decide +kernel
theorem dX10_passDay_22 : decode cX10_passDay 22 = .ok (.aload_n 0, 1) := by decide +kernel
theorem dX10_passDay_23 : decode cX10_passDay 23 = .ok (.getfield 24, 3) := by decide +kernel
theorem dX10_passDay_26 : decode cX10_passDay 26 = .ok (.iload_n 2, 1) := by decide +kernel
theorem dX10_passDay_27 : decode cX10_passDay 27 = .ok (.iaload, 1) := by decide +kernel
theorem dX10_passDay_28 : decode cX10_passDay 28 = .ok (.aload_n 0, 1) := by decide +kernel
theorem dX10_passDay_29 : decode cX10_passDay 29 = .ok (.getfield 27, 3) := by decide +kernel
theorem dX10_passDay_32 : decode cX10_passDay 32 = .ok (.if_icmp .ne 30, 3) := by decide +kernel
theorem dX10_passDay_35 : decode cX10_passDay 35 = .ok (.aload_n 0, 1) := by decide +kernel
theorem dX10_passDay_36 : decode cX10_passDay 36 = .ok (.getfield 18, 3) := by decide +kernel
theorem dX10_passDay_39 : decode cX10_passDay 39 = .ok (.iload_n 2, 1) := by decide +kernel
theorem dX10_passDay_40 : decode cX10_passDay 40 = .ok (.iaload, 1) := by decide +kernel
theorem dX10_passDay_41 : decode cX10_passDay 41 = .ok (.istore_n 3, 1) := by decide +kernel
theorem dX10_passDay_42 : decode cX10_passDay 42 = .ok (.aload_n 0, 1) := by decide +kernel
theorem dX10_passDay_43 : decode cX10_passDay 43 = .ok (.iload_n 3, 1) := by decide +kernel
theorem dX10_passDay_44 : decode cX10_passDay 44 = .ok (.aload_n 0, 1) := by decide +kernel
theorem dX10_passDay_45 : decode cX10_passDay 45 = .ok (.iload_n 3, 1) := by decide +kernel
theorem dX10_passDay_46 : decode cX10_passDay 46 = .ok (.invokevirtual 50, 3) := by decide +kernel
theorem dX10_passDay_49 : decode cX10_passDay 49 = .ok (.aload_n 0, 1) := by decide +kernel
theorem dX10_passDay_50 : decode cX10_passDay 50 = .ok (.getfield 21, 3) := by decide +kernel
theorem dX10_passDay_53 : decode cX10_passDay 53 = .ok (.iload_n 2, 1) := by decide +kernel
theorem dX10_passDay_54 : decode cX10_passDay 54 = .ok (.iaload, 1) := by decide +kernel
theorem dX10_passDay_55 : decode cX10_passDay 55 = .ok (.iadd, 1) := by decide +kernel
theorem dX10_passDay_56 : decode cX10_passDay 56 = .ok (.invokevirtual 60, 3) := by decide +kernel
theorem dX10_passDay_59 : decode cX10_passDay 59 = .ok (.goto 42, 3) := by decide +kernel
theorem dX10_passDay_62 : decode cX10_passDay 62 = .ok (.aload_n 0, 1) := by decide +kernel
theorem dX10_passDay_63 : decode cX10_passDay 63 = .ok (.getfield 18, 3) := by decide +kernel
theorem dX10_passDay_66 : decode cX10_passDay 66 = .ok (.iload_n 1, 1) := by decide +kernel
theorem dX10_passDay_67 : decode cX10_passDay 67 = .ok (.aload_n 0, 1) := by decide +kernel
theorem dX10_passDay_68 : decode cX10_passDay 68 = .ok (.getfield 18, 3) := by decide +kernel
theorem dX10_passDay_71 : decode cX10_passDay 71 = .ok (.iload_n 2, 1) := by decide +kernel
theorem dX10_passDay_72 : decode cX10_passDay 72 = .ok (.iaload, 1) := by decide +kernel
theorem dX10_passDay_73 : decode cX10_passDay 73 = .ok (.iastore, 1) := by decide +kernel
theorem dX10_passDay_74 : decode cX10_passDay 74 = .ok (.aload_n 0, 1) := by decide +kernel
theorem dX10_passDay_75 : decode cX10_passDay 75 = .ok (.getfield 21, 3) := by decide +kernel
theorem dX10_passDay_78 : decode cX10_passDay 78 = .ok (.iload_n 1, 1) := by decide +kernel
theorem dX10_passDay_79 : decode cX10_passDay 79 = .ok (.aload_n 0, 1) := by decide +kernel
theorem dX10_passDay_80 : decode cX10_passDay 80 = .ok (.getfield 21, 3) := by decide +kernel
theorem dX10_passDay_83 : decode cX10_passDay 83 = .ok (.iload_n 2, 1) := by decide +kernel
theorem dX10_passDay_84 : decode cX10_passDay 84 = .ok (.iaload, 1) := by decide +kernel
theorem dX10_passDay_85 : decode cX10_passDay 85 = .ok (.iastore, 1) := by decide +kernel
theorem dX10_passDay_86 : decode cX10_passDay 86 = .ok (.aload_n 0, 1) := by decide +kernel
theorem dX10_passDay_87 : decode cX10_passDay 87 = .ok (.getfield 24, 3) := by decide +kernel
theorem dX10_passDay_90 : decode cX10_passDay 90 = .ok (.iload_n 1, 1) := by decide +kernel
theorem dX10_passDay_91 : decode cX10_passDay 91 = .ok (.aload_n 0, 1) := by decide +kernel
theorem dX10_passDay_92 : decode cX10_passDay 92 = .ok (.getfield 24, 3) := by decide +kernel
theorem dX10_passDay_95 : decode cX10_passDay 95 = .ok (.iload_n 2, 1) := by decide +kernel
theorem dX10_passDay_96 : decode cX10_passDay 96 = .ok (.iaload, 1) := by decide +kernel
theorem dX10_passDay_97 : decode cX10_passDay 97 = .ok (.iastore, 1) := by decide +kernel
theorem dX10_passDay_98 : decode cX10_passDay 98 = .ok (.iinc 1 1, 3) := by decide +kernel
theorem dX10_passDay_101 : decode cX10_passDay 101 = .ok (.iinc 2 1, 3) := by decide +kernel
theorem dX10_passDay_104 : decode cX10_passDay 104 = .ok (.goto (-90), 3) := by decide +kernel
theorem dX10_passDay_107 : decode cX10_passDay 107 = .ok (.aload_n 0, 1) := by decide +kernel
theorem dX10_passDay_108 : decode cX10_passDay 108 = .ok (.getfield 31, 3) := by decide +kernel
theorem dX10_passDay_111 : decode cX10_passDay 111 = .ok (.iload_n 1, 1) := by decide +kernel
theorem dX10_passDay_112 : decode cX10_passDay 112 = .ok (.isub, 1) := by decide +kernel
theorem dX10_passDay_113 : decode cX10_passDay 113 = .ok (.istore_n 2, 1) := by decide +kernel
theorem dX10_passDay_114 : decode cX10_passDay 114 = .ok (.aload_n 0, 1) := by decide +kernel
theorem dX10_passDay_115 : decode cX10_passDay 115 = .ok (.iload_n 1, 1) := by decide +kernel
theorem dX10_passDay_116 : decode cX10_passDay 116 = .ok (.putfield 31, 3) := by decide +kernel
theorem dX10_passDay_119 : decode cX10_passDay 119 = .ok (.iload_n 2, 1) := by decide +kernel
theorem dX10_passDay_120 : decode cX10_passDay 120 = .ok (.ireturn, 1) := by decide +kernel
theorem dX10_allArriving_0 : decode cX10_allArriving 0 = .ok (.aload_n 0, 1) := by decide +kernel
theorem dX10_allArriving_1 : decode cX10_allArriving 1 = .ok (.iload_n 1, 1) := by decide +kernel
theorem dX10_allArriving_2 : decode cX10_allArriving 2 = .ok (.aload_n 0, 1) := by decide +kernel
theorem dX10_allArriving_3 : decode cX10_allArriving 3 = .ok (.getfield 27, 3) := by decide +kernel
theorem dX10_allArriving_6 : decode cX10_allArriving 6 = .ok (.bipush 60, 2) := by decide +kernel
theorem dX10_allArriving_8 : decode cX10_allArriving 8 = .ok (.iadd, 1) := by decide +kernel
theorem dX10_allArriving_9 : decode cX10_allArriving 9 = .ok (.invokevirtual 64, 3) := by decide +kernel
theorem dX10_allArriving_12 : decode cX10_allArriving 12 = .ok (.ireturn, 1) := by decide +kernel
theorem dX10_arrivingUntil_0 : decode cX10_arrivingUntil 0 = .ok (.iconst 0, 1) := by decide +kernel
theorem dX10_arrivingUntil_1 : decode cX10_arrivingUntil 1 = .ok (.istore_n 3, 1) := by decide +kernel
theorem dX10_arrivingUntil_2 : decode cX10_arrivingUntil 2 = .ok (.iconst 0, 1) := by decide +kernel
theorem dX10_arrivingUntil_3 : decode cX10_arrivingUntil 3 = .ok (.istore 4, 2) := by decide +kernel
theorem dX10_arrivingUntil_5 : decode cX10_arrivingUntil 5 = .ok (.iload 4, 2) := by decide +kernel
theorem dX10_arrivingUntil_7 : decode cX10_arrivingUntil 7 = .ok (.aload_n 0, 1) := by decide +kernel
theorem dX10_arrivingUntil_8 : decode cX10_arrivingUntil 8 = .ok (.getfield 31, 3) := by decide +kernel
theorem dX10_arrivingUntil_11 : decode cX10_arrivingUntil 11 = .ok (.if_icmp .ge 41, 3) := by decide +kernel
theorem dX10_arrivingUntil_14 : decode cX10_arrivingUntil 14 = .ok (.aload_n 0, 1) := by decide +kernel
theorem dX10_arrivingUntil_15 : decode cX10_arrivingUntil 15 = .ok (.getfield 18, 3) := by decide +kernel
theorem dX10_arrivingUntil_18 : decode cX10_arrivingUntil 18 = .ok (.iload 4, 2) := by decide +kernel
theorem dX10_arrivingUntil_20 : decode cX10_arrivingUntil 20 = .ok (.iaload, 1) := by decide +kernel
theorem dX10_arrivingUntil_21 : decode cX10_arrivingUntil 21 = .ok (.iload_n 1, 1) := by decide +kernel
theorem dX10_arrivingUntil_22 : decode cX10_arrivingUntil 22 = .ok (.if_icmp .ne 24, 3) := by decide +kernel
theorem dX10_arrivingUntil_25 : decode cX10_arrivingUntil 25 = .ok (.aload_n 0, 1) := by decide +kernel
theorem dX10_arrivingUntil_26 : decode cX10_arrivingUntil 26 = .ok (.getfield 24, 3) := by decide +kernel
theorem dX10_arrivingUntil_29 : decode cX10_arrivingUntil 29 = .ok (.iload 4, 2) := by decide +kernel
theorem dX10_arrivingUntil_31 : decode cX10_arrivingUntil 31 = .ok (.iaload, 1) := by decide +kernel
theorem dX10_arrivingUntil_32 : decode cX10_arrivingUntil 32 = .ok (.iload_n 2, 1) := by decide +kernel
theorem dX10_arrivingUntil_33 : decode cX10_arrivingUntil 33 = .ok (.if_icmp .gt 13, 3) := by decide +kernel
theorem dX10_arrivingUntil_36 : decode cX10_arrivingUntil 36 = .ok (.iload_n 3, 1) := by decide +kernel
theorem dX10_arrivingUntil_37 : decode cX10_arrivingUntil 37 = .ok (.aload_n 0, 1) := by decide +kernel
theorem dX10_arrivingUntil_38 : decode cX10_arrivingUntil 38 = .ok (.getfield 21, 3) := by decide +kernel
theorem dX10_arrivingUntil_41 : decode cX10_arrivingUntil 41 = .ok (.iload 4, 2) := by decide +kernel
theorem dX10_arrivingUntil_43 : decode cX10_arrivingUntil 43 = .ok (.iaload, 1) := by decide +kernel
theorem dX10_arrivingUntil_44 : decode cX10_arrivingUntil 44 = .ok (.iadd, 1) := by decide +kernel
theorem dX10_arrivingUntil_45 : decode cX10_arrivingUntil 45 = .ok (.istore_n 3, 1) := by decide +kernel
theorem dX10_arrivingUntil_46 : decode cX10_arrivingUntil 46 = .ok (.iinc 4 1, 3) := by decide +kernel
theorem dX10_arrivingUntil_49 : decode cX10_arrivingUntil 49 = .ok (.goto (-44), 3) := by decide +kernel
theorem dX10_arrivingUntil_52 : decode cX10_arrivingUntil 52 = .ok (.iload_n 3, 1) := by decide +kernel
theorem dX10_arrivingUntil_53 : decode cX10_arrivingUntil 53 = .ok (.ireturn, 1) := by decide +kernel
theorem dX10_earliestArrival_0 : decode cX10_earliestArrival 0 = .ok (.iconst (-1), 1) := by decide +kernel
theorem dX10_earliestArrival_1 : decode cX10_earliestArrival 1 = .ok (.istore_n 2, 1) := by decide +kernel
theorem dX10_earliestArrival_2 : decode cX10_earliestArrival 2 = .ok (.iconst 0, 1) := by decide +kernel
theorem dX10_earliestArrival_3 : decode cX10_earliestArrival 3 = .ok (.istore_n 3, 1) := by decide +kernel
theorem dX10_earliestArrival_4 : decode cX10_earliestArrival 4 = .ok (.iload_n 3, 1) := by decide +kernel
theorem dX10_earliestArrival_5 : decode cX10_earliestArrival 5 = .ok (.aload_n 0, 1) := by decide +kernel
theorem dX10_earliestArrival_6 : decode cX10_earliestArrival 6 = .ok (.getfield 31, 3) := by decide +kernel
theorem dX10_earliestArrival_9 : decode cX10_earliestArrival 9 = .ok (.if_icmp .ge 41, 3) := by decide +kernel
theorem dX10_earliestArrival_12 : decode cX10_earliestArrival 12 = .ok (.aload_n 0, 1) := by decide +kernel
theorem dX10_earliestArrival_13 : decode cX10_earliestArrival 13 = .ok (.getfield 18, 3) := by decide +kernel
theorem dX10_earliestArrival_16 : decode cX10_earliestArrival 16 = .ok (.iload_n 3, 1) := by decide +kernel
theorem dX10_earliestArrival_17 : decode cX10_earliestArrival 17 = .ok (.iaload, 1) := by decide +kernel
theorem dX10_earliestArrival_18 : decode cX10_earliestArrival 18 = .ok (.iload_n 1, 1) := by decide +kernel
theorem dX10_earliestArrival_19 : decode cX10_earliestArrival 19 = .ok (.if_icmp .ne 25, 3) := by decide +kernel
theorem dX10_earliestArrival_22 : decode cX10_earliestArrival 22 = .ok (.iload_n 2, 1) := by decide +kernel
theorem dX10_earliestArrival_23 : decode cX10_earliestArrival 23 = .ok (.iconst (-1), 1) := by decide +kernel
theorem dX10_earliestArrival_24 : decode cX10_earliestArrival 24 = .ok (.if_icmp .eq 13, 3) := by decide +kernel
theorem dX10_earliestArrival_27 : decode cX10_earliestArrival 27 = .ok (.aload_n 0, 1) := by decide +kernel
theorem dX10_earliestArrival_28 : decode cX10_earliestArrival 28 = .ok (.getfield 24, 3) := by decide +kernel
theorem dX10_earliestArrival_31 : decode cX10_earliestArrival 31 = .ok (.iload_n 3, 1) := by decide +kernel
theorem dX10_earliestArrival_32 : decode cX10_earliestArrival 32 = .ok (.iaload, 1) := by decide +kernel
theorem dX10_earliestArrival_33 : decode cX10_earliestArrival 33 = .ok (.iload_n 2, 1) := by decide +kernel
theorem dX10_earliestArrival_34 : decode cX10_earliestArrival 34 = .ok (.if_icmp .ge 10, 3) := by decide +kernel
theorem dX10_earliestArrival_37 : decode cX10_earliestArrival 37 = .ok (.aload_n 0, 1) := by decide +kernel
theorem dX10_earliestArrival_38 : decode cX10_earliestArrival 38 = .ok (.getfield 24, 3) := by decide +kernel
theorem dX10_earliestArrival_41 : decode cX10_earliestArrival 41 = .ok (.iload_n 3, 1) := by decide +kernel
theorem dX10_earliestArrival_42 : decode cX10_earliestArrival 42 = .ok (.iaload, 1) := by decide +kernel
theorem dX10_earliestArrival_43 : decode cX10_earliestArrival 43 = .ok (.istore_n 2, 1) := by decide +kernel
theorem dX10_earliestArrival_44 : decode cX10_earliestArrival 44 = .ok (.iinc 3 1, 3) := by decide +kernel
theorem dX10_earliestArrival_47 : decode cX10_earliestArrival 47 = .ok (.goto (-43), 3) := by decide +kernel
theorem dX10_earliestArrival_50 : decode cX10_earliestArrival 50 = .ok (.iload_n 2, 1) := by decide +kernel
theorem dX10_earliestArrival_51 : decode cX10_earliestArrival 51 = .ok (.ireturn, 1) := by decide +kernel
theorem dX10_dayFor_0 : decode cX10_dayFor 0 = .ok (.iload_n 2, 1) := by decide +kernel
theorem dX10_dayFor_1 : decode cX10_dayFor 1 = .ok (.aload_n 0, 1) := by decide +kernel
theorem dX10_dayFor_2 : decode cX10_dayFor 2 = .ok (.iload_n 1, 1) := by decide +kernel
theorem dX10_dayFor_3 : decode cX10_dayFor 3 = .ok (.invokevirtual 57, 3) := by decide +kernel
theorem dX10_dayFor_6 : decode cX10_dayFor 6 = .ok (.isub, 1) := by decide +kernel
theorem dX10_dayFor_7 : decode cX10_dayFor 7 = .ok (.istore 4, 2) := by decide +kernel
theorem dX10_dayFor_9 : decode cX10_dayFor 9 = .ok (.iload 4, 2) := by decide +kernel
theorem dX10_dayFor_11 : decode cX10_dayFor 11 = .ok (.ifCond .gt 8, 3) := by decide +kernel
theorem dX10_dayFor_14 : decode cX10_dayFor 14 = .ok (.aload_n 0, 1) := by decide +kernel
theorem dX10_dayFor_15 : decode cX10_dayFor 15 = .ok (.getfield 27, 3) := by decide +kernel
theorem dX10_dayFor_18 : decode cX10_dayFor 18 = .ok (.ireturn, 1) := by decide +kernel
theorem dX10_dayFor_19 : decode cX10_dayFor 19 = .ok (.aload_n 0, 1) := by decide +kernel
theorem dX10_dayFor_20 : decode cX10_dayFor 20 = .ok (.getfield 27, 3) := by decide +kernel
theorem dX10_dayFor_23 : decode cX10_dayFor 23 = .ok (.iload_n 3, 1) := by decide +kernel
theorem dX10_dayFor_24 : decode cX10_dayFor 24 = .ok (.iadd, 1) := by decide +kernel
theorem dX10_dayFor_25 : decode cX10_dayFor 25 = .ok (.istore 5, 2) := by decide +kernel
theorem dX10_dayFor_27 : decode cX10_dayFor 27 = .ok (.iconst 0, 1) := by decide +kernel
theorem dX10_dayFor_28 : decode cX10_dayFor 28 = .ok (.istore 6, 2) := by decide +kernel
theorem dX10_dayFor_30 : decode cX10_dayFor 30 = .ok (.iload 6, 2) := by decide +kernel
theorem dX10_dayFor_32 : decode cX10_dayFor 32 = .ok (.aload_n 0, 1) := by decide +kernel
theorem dX10_dayFor_33 : decode cX10_dayFor 33 = .ok (.getfield 31, 3) := by decide +kernel
theorem dX10_dayFor_36 : decode cX10_dayFor 36 = .ok (.if_icmp .ge 41, 3) := by decide +kernel
theorem dX10_dayFor_39 : decode cX10_dayFor 39 = .ok (.aload_n 0, 1) := by decide +kernel
theorem dX10_dayFor_40 : decode cX10_dayFor 40 = .ok (.getfield 24, 3) := by decide +kernel
theorem dX10_dayFor_43 : decode cX10_dayFor 43 = .ok (.iload 6, 2) := by decide +kernel
theorem dX10_dayFor_45 : decode cX10_dayFor 45 = .ok (.iaload, 1) := by decide +kernel
theorem dX10_dayFor_46 : decode cX10_dayFor 46 = .ok (.istore 7, 2) := by decide +kernel
theorem dX10_dayFor_48 : decode cX10_dayFor 48 = .ok (.iload 7, 2) := by decide +kernel
theorem dX10_dayFor_50 : decode cX10_dayFor 50 = .ok (.iload 5, 2) := by decide +kernel
theorem dX10_dayFor_52 : decode cX10_dayFor 52 = .ok (.if_icmp .ge 19, 3) := by decide +kernel
theorem dX10_dayFor_55 : decode cX10_dayFor 55 = .ok (.aload_n 0, 1) := by decide +kernel
theorem dX10_dayFor_56 : decode cX10_dayFor 56 = .ok (.iload_n 1, 1) := by decide +kernel
theorem dX10_dayFor_57 : decode cX10_dayFor 57 = .ok (.iload 7, 2) := by decide +kernel
theorem dX10_dayFor_59 : decode cX10_dayFor 59 = .ok (.invokevirtual 64, 3) := by decide +kernel
theorem dX10_dayFor_62 : decode cX10_dayFor 62 = .ok (.iload 4, 2) := by decide +kernel
theorem dX10_dayFor_64 : decode cX10_dayFor 64 = .ok (.if_icmp .lt 7, 3) := by decide +kernel
theorem dX10_dayFor_67 : decode cX10_dayFor 67 = .ok (.iload 7, 2) := by decide +kernel
theorem dX10_dayFor_69 : decode cX10_dayFor 69 = .ok (.istore 5, 2) := by decide +kernel
theorem dX10_dayFor_71 : decode cX10_dayFor 71 = .ok (.iinc 6 1, 3) := by decide +kernel
theorem dX10_dayFor_74 : decode cX10_dayFor 74 = .ok (.goto (-44), 3) := by decide +kernel
theorem dX10_dayFor_77 : decode cX10_dayFor 77 = .ok (.iload 5, 2) := by decide +kernel
theorem dX10_dayFor_79 : decode cX10_dayFor 79 = .ok (.ireturn, 1) := by decide +kernel
theorem dX11_append_0 : decode cX11_append 0 = .ok (.aload_n 0, 1) := by decide +kernel
theorem dX11_append_1 : decode cX11_append 1 = .ok (.getfield 26, 3) := by decide +kernel
theorem dX11_append_4 : decode cX11_append 4 = .ok (.bipush 20, 2) := by decide +kernel
theorem dX11_append_6 : decode cX11_append 6 = .ok (.invokevirtual 72, 3) := by decide +kernel
theorem dX11_append_9 : decode cX11_append 9 = .ok (.ifCond .ne 5, 3) := by decide +kernel
theorem dX11_append_12 : decode cX11_append 12 = .ok (.iconst (-1), 1) := by decide +kernel
theorem dX11_append_13 : decode cX11_append 13 = .ok (.ireturn, 1) := by decide +kernel
theorem dX11_append_14 : decode cX11_append 14 = .ok (.aload_n 0, 1) := by decide +kernel
theorem dX11_append_15 : decode cX11_append 15 = .ok (.getfield 26, 3) := by decide +kernel
theorem dX11_append_18 : decode cX11_append 18 = .ok (.iload_n 1, 1) := by decide +kernel
theorem dX11_append_19 : decode cX11_append 19 = .ok (.invokevirtual 78, 3) := by decide +kernel
theorem dX11_append_22 : decode cX11_append 22 = .ok (.aload_n 0, 1) := by decide +kernel
theorem dX11_append_23 : decode cX11_append 23 = .ok (.getfield 26, 3) := by decide +kernel
theorem dX11_append_26 : decode cX11_append 26 = .ok (.iload_n 2, 1) := by decide +kernel
theorem dX11_append_27 : decode cX11_append 27 = .ok (.invokevirtual 78, 3) := by decide +kernel
theorem dX11_append_30 : decode cX11_append 30 = .ok (.aload_n 0, 1) := by decide +kernel
theorem dX11_append_31 : decode cX11_append 31 = .ok (.getfield 26, 3) := by decide +kernel
theorem dX11_append_34 : decode cX11_append 34 = .ok (.iload_n 3, 1) := by decide +kernel
theorem dX11_append_35 : decode cX11_append 35 = .ok (.invokevirtual 78, 3) := by decide +kernel
theorem dX11_append_38 : decode cX11_append 38 = .ok (.aload_n 0, 1) := by decide +kernel
theorem dX11_append_39 : decode cX11_append 39 = .ok (.getfield 26, 3) := by decide +kernel
theorem dX11_append_42 : decode cX11_append 42 = .ok (.iload 4, 2) := by decide +kernel
theorem dX11_append_44 : decode cX11_append 44 = .ok (.invokevirtual 78, 3) := by decide +kernel
theorem dX11_append_47 : decode cX11_append 47 = .ok (.aload_n 0, 1) := by decide +kernel
theorem dX11_append_48 : decode cX11_append 48 = .ok (.getfield 26, 3) := by decide +kernel
theorem dX11_append_51 : decode cX11_append 51 = .ok (.iload 5, 2) := by decide +kernel
theorem dX11_append_53 : decode cX11_append 53 = .ok (.invokevirtual 78, 3) := by decide +kernel
theorem dX11_append_56 : decode cX11_append 56 = .ok (.aload_n 0, 1) := by decide +kernel
theorem dX11_append_57 : decode cX11_append 57 = .ok (.getfield 26, 3) := by decide +kernel
theorem dX11_append_60 : decode cX11_append 60 = .ok (.getfield 82, 3) := by decide +kernel
theorem dX11_append_63 : decode cX11_append 63 = .ok (.ireturn, 1) := by decide +kernel
theorem dX11_truncate_0 : decode cX11_truncate 0 = .ok (.aload_n 0, 1) := by decide +kernel
theorem dX11_truncate_1 : decode cX11_truncate 1 = .ok (.getfield 26, 3) := by decide +kernel
theorem dX11_truncate_4 : decode cX11_truncate 4 = .ok (.iload_n 1, 1) := by decide +kernel
theorem dX11_truncate_5 : decode cX11_truncate 5 = .ok (.invokevirtual 86, 3) := by decide +kernel
theorem dX11_truncate_8 : decode cX11_truncate 8 = .ok (.ireturn, 1) := by decide +kernel
theorem dX11_load_0 : decode cX11_load 0 = .ok (.aload_n 0, 1) := by decide +kernel
theorem dX11_load_1 : decode cX11_load 1 = .ok (.getfield 10, 3) := by decide +kernel
theorem dX11_load_4 : decode cX11_load 4 = .ok (.invokevirtual 89, 3) := by decide +kernel
theorem dX11_load_7 : decode cX11_load 7 = .ok (.iconst 1, 1) := by decide +kernel
theorem dX11_load_8 : decode cX11_load 8 = .ok (.istore_n 1, 1) := by decide +kernel
theorem dX11_load_9 : decode cX11_load 9 = .ok (.iconst 0, 1) := by decide +kernel
theorem dX11_load_10 : decode cX11_load 10 = .ok (.istore_n 2, 1) := by decide +kernel
theorem dX11_load_11 : decode cX11_load 11 = .ok (.iload_n 2, 1) := by decide +kernel
theorem dX11_load_12 : decode cX11_load 12 = .ok (.sipush 900, 3) := by decide +kernel
theorem dX11_load_15 : decode cX11_load 15 = .ok (.if_icmp .ge 31, 3) := by decide +kernel
theorem dX11_load_18 : decode cX11_load 18 = .ok (.iload_n 1, 1) := by decide +kernel
theorem dX11_load_19 : decode cX11_load 19 = .ok (.ifCond .eq 27, 3) := by decide +kernel
theorem dX11_load_22 : decode cX11_load 22 = .ok (.aload_n 0, 1) := by decide +kernel
theorem dX11_load_23 : decode cX11_load 23 = .ok (.getfield 10, 3) := by decide +kernel
theorem dX11_load_26 : decode cX11_load 26 = .ok (.invokevirtual 92, 3) := by decide +kernel
theorem dX11_load_29 : decode cX11_load 29 = .ok (.ifCond .eq 17, 3) := by decide +kernel
theorem dX11_load_32 : decode cX11_load 32 = .ok (.aload_n 0, 1) := by decide +kernel
theorem dX11_load_33 : decode cX11_load 33 = .ok (.getfield 10, 3) := by decide +kernel
theorem dX11_load_36 : decode cX11_load 36 = .ok (.invokevirtual 96, 3) := by decide +kernel
theorem dX11_load_39 : decode cX11_load 39 = .ok (.istore_n 1, 1) := by decide +kernel
theorem dX11_load_40 : decode cX11_load 40 = .ok (.iinc 2 1, 3) := by decide +kernel
theorem dX11_load_43 : decode cX11_load 43 = .ok (.goto (-32), 3) := by decide +kernel
theorem dX11_load_46 : decode cX11_load 46 = .ok (.aload_n 0, 1) := by decide +kernel
theorem dX11_load_47 : decode cX11_load 47 = .ok (.getfield 26, 3) := by decide +kernel
theorem dX11_load_50 : decode cX11_load 50 = .ok (.iconst 0, 1) := by decide +kernel
theorem dX11_load_51 : decode cX11_load 51 = .ok (.invokevirtual 86, 3) := by decide +kernel
theorem dX11_load_54 : decode cX11_load 54 = .ok (.pop, 1) := by decide +kernel
theorem dX11_load_55 : decode cX11_load 55 = .ok (.iload_n 1, 1) := by decide +kernel
theorem dX11_load_56 : decode cX11_load 56 = .ok (.ifCond .ne 13, 3) := by decide +kernel
theorem dX11_load_59 : decode cX11_load 59 = .ok (.new 99, 3) := by decide +kernel
theorem dX11_load_62 : decode cX11_load 62 = .ok (.dup, 1) := by decide +kernel
theorem dX11_load_63 : decode cX11_load 63 = .ok (.ldc 101, 2) := by decide +kernel
theorem dX11_load_65 : decode cX11_load 65 = .ok (.invokespecial 103, 3) := by decide +kernel
theorem dX11_load_68 : decode cX11_load 68 = .ok (.athrow, 1) := by decide +kernel
theorem dX11_load_69 : decode cX11_load 69 = .ok (.aload_n 0, 1) := by decide +kernel
theorem dX11_load_70 : decode cX11_load 70 = .ok (.aload_n 0, 1) := by decide +kernel
theorem dX11_load_71 : decode cX11_load 71 = .ok (.getfield 10, 3) := by decide +kernel
theorem dX11_load_74 : decode cX11_load 74 = .ok (.aload_n 0, 1) := by decide +kernel
theorem dX11_load_75 : decode cX11_load 75 = .ok (.getfield 57, 3) := by decide +kernel
theorem dX11_load_78 : decode cX11_load 78 = .ok (.invokevirtual 106, 3) := by decide +kernel
theorem dX11_load_81 : decode cX11_load 81 = .ok (.putfield 57, 3) := by decide +kernel
theorem dX11_load_84 : decode cX11_load 84 = .ok (.aload_n 0, 1) := by decide +kernel
theorem dX11_load_85 : decode cX11_load 85 = .ok (.aload_n 0, 1) := by decide +kernel
theorem dX11_load_86 : decode cX11_load 86 = .ok (.getfield 10, 3) := by decide +kernel
theorem dX11_load_89 : decode cX11_load 89 = .ok (.aload_n 0, 1) := by decide +kernel
theorem dX11_load_90 : decode cX11_load 90 = .ok (.getfield 64, 3) := by decide +kernel
theorem dX11_load_93 : decode cX11_load 93 = .ok (.invokevirtual 110, 3) := by decide +kernel
theorem dX11_load_96 : decode cX11_load 96 = .ok (.putfield 64, 3) := by decide +kernel
theorem dX11_load_99 : decode cX11_load 99 = .ok (.aload_n 0, 1) := by decide +kernel
theorem dX11_load_100 : decode cX11_load 100 = .ok (.getfield 32, 3) := by decide +kernel
theorem dX11_load_103 : decode cX11_load 103 = .ok (.invokevirtual 114, 3) := by decide +kernel
theorem dX11_load_106 : decode cX11_load 106 = .ok (.aload_n 0, 1) := by decide +kernel
theorem dX11_load_107 : decode cX11_load 107 = .ok (.getfield 57, 3) := by decide +kernel
theorem dX11_load_110 : decode cX11_load 110 = .ok (.getfield 117, 3) := by decide +kernel
theorem dX11_load_113 : decode cX11_load 113 = .ok (.ireturn, 1) := by decide +kernel
theorem dX11_errorOffset_0 : decode cX11_errorOffset 0 = .ok (.aload_n 0, 1) := by decide +kernel
theorem dX11_errorOffset_1 : decode cX11_errorOffset 1 = .ok (.getfield 10, 3) := by decide +kernel
theorem dX11_errorOffset_4 : decode cX11_errorOffset 4 = .ok (.getfield 120, 3) := by decide +kernel
theorem dX11_errorOffset_7 : decode cX11_errorOffset 7 = .ok (.ireturn, 1) := by decide +kernel
theorem dX11_errorKind_0 : decode cX11_errorKind 0 = .ok (.aload_n 0, 1) := by decide +kernel
theorem dX11_errorKind_1 : decode cX11_errorKind 1 = .ok (.getfield 10, 3) := by decide +kernel
theorem dX11_errorKind_4 : decode cX11_errorKind 4 = .ok (.getfield 123, 3) := by decide +kernel
theorem dX11_errorKind_7 : decode cX11_errorKind 7 = .ok (.ireturn, 1) := by decide +kernel
theorem dX11_count_0 : decode cX11_count 0 = .ok (.iload_n 1, 1) := by decide +kernel
theorem dX11_count_1 : decode cX11_count 1 = .ok (.tableswitch 81 0 4 #[35, 43, 51, 62, 70], 35) := by decide +kernel
theorem dX11_count_36 : decode cX11_count 36 = .ok (.aload_n 0, 1) := by decide +kernel
theorem dX11_count_37 : decode cX11_count 37 = .ok (.getfield 57, 3) := by decide +kernel
theorem dX11_count_40 : decode cX11_count 40 = .ok (.getfield 126, 3) := by decide +kernel
theorem dX11_count_43 : decode cX11_count 43 = .ok (.ireturn, 1) := by decide +kernel
theorem dX11_count_44 : decode cX11_count 44 = .ok (.aload_n 0, 1) := by decide +kernel
theorem dX11_count_45 : decode cX11_count 45 = .ok (.getfield 57, 3) := by decide +kernel
theorem dX11_count_48 : decode cX11_count 48 = .ok (.getfield 117, 3) := by decide +kernel
theorem dX11_count_51 : decode cX11_count 51 = .ok (.ireturn, 1) := by decide +kernel
theorem dX11_count_52 : decode cX11_count 52 = .ok (.aload_n 0, 1) := by decide +kernel
theorem dX11_count_53 : decode cX11_count 53 = .ok (.getfield 64, 3) := by decide +kernel
theorem dX11_count_56 : decode cX11_count 56 = .ok (.getfield 129, 3) := by decide +kernel
theorem dX11_count_59 : decode cX11_count 59 = .ok (.getfield 133, 3) := by decide +kernel
theorem dX11_count_62 : decode cX11_count 62 = .ok (.ireturn, 1) := by decide +kernel
theorem dX11_count_63 : decode cX11_count 63 = .ok (.aload_n 0, 1) := by decide +kernel
theorem dX11_count_64 : decode cX11_count 64 = .ok (.getfield 57, 3) := by decide +kernel
theorem dX11_count_67 : decode cX11_count 67 = .ok (.getfield 138, 3) := by decide +kernel
theorem dX11_count_70 : decode cX11_count 70 = .ok (.ireturn, 1) := by decide +kernel
theorem dX11_count_71 : decode cX11_count 71 = .ok (.aload_n 0, 1) := by decide +kernel
theorem dX11_count_72 : decode cX11_count 72 = .ok (.getfield 64, 3) := by decide +kernel
theorem dX11_count_75 : decode cX11_count 75 = .ok (.getfield 141, 3) := by decide +kernel
theorem dX11_count_78 : decode cX11_count 78 = .ok (.getfield 145, 3) := by decide +kernel
theorem dX11_count_81 : decode cX11_count 81 = .ok (.ireturn, 1) := by decide +kernel
theorem dX11_count_82 : decode cX11_count 82 = .ok (.iconst (-1), 1) := by decide +kernel
theorem dX11_count_83 : decode cX11_count 83 = .ok (.ireturn, 1) := by decide +kernel
theorem dX11_lineCount_0 : decode cX11_lineCount 0 = .ok (.aload_n 0, 1) := by decide +kernel
theorem dX11_lineCount_1 : decode cX11_lineCount 1 = .ok (.iload_n 1, 1) := by decide +kernel
theorem dX11_lineCount_2 : decode cX11_lineCount 2 = .ok (.invokevirtual 150, 3) := by decide +kernel
theorem dX11_lineCount_5 : decode cX11_lineCount 5 = .ok (.aload_n 0, 1) := by decide +kernel
theorem dX11_lineCount_6 : decode cX11_lineCount 6 = .ok (.getfield 57, 3) := by decide +kernel
theorem dX11_lineCount_9 : decode cX11_lineCount 9 = .ok (.iload_n 1, 1) := by decide +kernel
theorem dX11_lineCount_10 : decode cX11_lineCount 10 = .ok (.invokevirtual 153, 3) := by decide +kernel
theorem dX11_lineCount_13 : decode cX11_lineCount 13 = .ok (.ireturn, 1) := by decide +kernel
theorem dX11_lineItem_0 : decode cX11_lineItem 0 = .ok (.aload_n 0, 1) := by decide +kernel
theorem dX11_lineItem_1 : decode cX11_lineItem 1 = .ok (.iload_n 1, 1) := by decide +kernel
theorem dX11_lineItem_2 : decode cX11_lineItem 2 = .ok (.invokevirtual 150, 3) := by decide +kernel
theorem dX11_lineItem_5 : decode cX11_lineItem 5 = .ok (.aload_n 0, 1) := by decide +kernel
theorem dX11_lineItem_6 : decode cX11_lineItem 6 = .ok (.getfield 57, 3) := by decide +kernel
theorem dX11_lineItem_9 : decode cX11_lineItem 9 = .ok (.iload_n 1, 1) := by decide +kernel
theorem dX11_lineItem_10 : decode cX11_lineItem 10 = .ok (.iload_n 2, 1) := by decide +kernel
theorem dX11_lineItem_11 : decode cX11_lineItem 11 = .ok (.invokevirtual 157, 3) := by decide +kernel
theorem dX11_lineItem_14 : decode cX11_lineItem 14 = .ok (.ireturn, 1) := by decide +kernel
theorem dX11_lineQuantity_0 : decode cX11_lineQuantity 0 = .ok (.aload_n 0, 1) := by decide +kernel
theorem dX11_lineQuantity_1 : decode cX11_lineQuantity 1 = .ok (.iload_n 1, 1) := by decide +kernel
theorem dX11_lineQuantity_2 : decode cX11_lineQuantity 2 = .ok (.invokevirtual 150, 3) := by decide +kernel
theorem dX11_lineQuantity_5 : decode cX11_lineQuantity 5 = .ok (.aload_n 0, 1) := by decide +kernel
theorem dX11_lineQuantity_6 : decode cX11_lineQuantity 6 = .ok (.getfield 57, 3) := by decide +kernel
theorem dX11_lineQuantity_9 : decode cX11_lineQuantity 9 = .ok (.iload_n 1, 1) := by decide +kernel
theorem dX11_lineQuantity_10 : decode cX11_lineQuantity 10 = .ok (.iload_n 2, 1) := by decide +kernel
theorem dX11_lineQuantity_11 : decode cX11_lineQuantity 11 = .ok (.invokevirtual 161, 3) := by decide +kernel
theorem dX11_lineQuantity_14 : decode cX11_lineQuantity 14 = .ok (.ireturn, 1) := by decide +kernel
theorem dX11_need_0 : decode cX11_need 0 = .ok (.aload_n 0, 1) := by decide +kernel
theorem dX11_need_1 : decode cX11_need 1 = .ok (.iload_n 1, 1) := by decide +kernel
theorem dX11_need_2 : decode cX11_need 2 = .ok (.invokevirtual 150, 3) := by decide +kernel
theorem dX11_need_5 : decode cX11_need 5 = .ok (.aload_n 0, 1) := by decide +kernel
theorem dX11_need_6 : decode cX11_need 6 = .ok (.iload_n 2, 1) := by decide +kernel
theorem dX11_need_7 : decode cX11_need 7 = .ok (.invokevirtual 164, 3) := by decide +kernel
theorem dX11_need_10 : decode cX11_need 10 = .ok (.aload_n 0, 1) := by decide +kernel
theorem dX11_need_11 : decode cX11_need 11 = .ok (.getfield 57, 3) := by decide +kernel
theorem dX11_need_14 : decode cX11_need 14 = .ok (.iload_n 1, 1) := by decide +kernel
theorem dX11_need_15 : decode cX11_need 15 = .ok (.iload_n 2, 1) := by decide +kernel
theorem dX11_need_16 : decode cX11_need 16 = .ok (.invokevirtual 167, 3) := by decide +kernel
theorem dX11_need_19 : decode cX11_need 19 = .ok (.ireturn, 1) := by decide +kernel
theorem dX11_level_0 : decode cX11_level 0 = .ok (.aload_n 0, 1) := by decide +kernel
theorem dX11_level_1 : decode cX11_level 1 = .ok (.iload_n 1, 1) := by decide +kernel
theorem dX11_level_2 : decode cX11_level 2 = .ok (.invokevirtual 150, 3) := by decide +kernel
theorem dX11_level_5 : decode cX11_level 5 = .ok (.aload_n 0, 1) := by decide +kernel
theorem dX11_level_6 : decode cX11_level 6 = .ok (.getfield 57, 3) := by decide +kernel
theorem dX11_level_9 : decode cX11_level 9 = .ok (.iload_n 1, 1) := by decide +kernel
theorem dX11_level_10 : decode cX11_level 10 = .ok (.invokevirtual 170, 3) := by decide +kernel
theorem dX11_level_13 : decode cX11_level 13 = .ok (.ireturn, 1) := by decide +kernel
theorem dX11_pieces_0 : decode cX11_pieces 0 = .ok (.aload_n 0, 1) := by decide +kernel
theorem dX11_pieces_1 : decode cX11_pieces 1 = .ok (.iload_n 1, 1) := by decide +kernel
theorem dX11_pieces_2 : decode cX11_pieces 2 = .ok (.invokevirtual 150, 3) := by decide +kernel
theorem dX11_pieces_5 : decode cX11_pieces 5 = .ok (.iconst 0, 1) := by decide +kernel
theorem dX11_pieces_6 : decode cX11_pieces 6 = .ok (.istore_n 2, 1) := by decide +kernel
theorem dX11_pieces_7 : decode cX11_pieces 7 = .ok (.iconst 0, 1) := by decide +kernel
theorem dX11_pieces_8 : decode cX11_pieces 8 = .ok (.istore_n 3, 1) := by decide +kernel
theorem dX11_pieces_9 : decode cX11_pieces 9 = .ok (.iload_n 3, 1) := by decide +kernel
theorem dX11_pieces_10 : decode cX11_pieces 10 = .ok (.aload_n 0, 1) := by decide +kernel
theorem dX11_pieces_11 : decode cX11_pieces 11 = .ok (.getfield 57, 3) := by decide +kernel
theorem dX11_pieces_14 : decode cX11_pieces 14 = .ok (.getfield 126, 3) := by decide +kernel
theorem dX11_pieces_17 : decode cX11_pieces 17 = .ok (.if_icmp .ge 21, 3) := by decide +kernel
theorem dX11_pieces_20 : decode cX11_pieces 20 = .ok (.iload_n 2, 1) := by decide +kernel
theorem dX11_pieces_21 : decode cX11_pieces 21 = .ok (.aload_n 0, 1) := by decide +kernel
theorem dX11_pieces_22 : decode cX11_pieces 22 = .ok (.getfield 57, 3) := by decide +kernel
theorem dX11_pieces_25 : decode cX11_pieces 25 = .ok (.iload_n 1, 1) := by decide +kernel
theorem dX11_pieces_26 : decode cX11_pieces 26 = .ok (.iload_n 3, 1) := by decide +kernel
theorem dX11_pieces_27 : decode cX11_pieces 27 = .ok (.invokevirtual 167, 3) := by decide +kernel
theorem dX11_pieces_30 : decode cX11_pieces 30 = .ok (.iadd, 1) := by decide +kernel
theorem dX11_pieces_31 : decode cX11_pieces 31 = .ok (.istore_n 2, 1) := by decide +kernel
theorem dX11_pieces_32 : decode cX11_pieces 32 = .ok (.iinc 3 1, 3) := by decide +kernel
theorem dX11_pieces_35 : decode cX11_pieces 35 = .ok (.goto (-26), 3) := by decide +kernel
theorem dX11_pieces_38 : decode cX11_pieces 38 = .ok (.iload_n 2, 1) := by decide +kernel
theorem dX11_pieces_39 : decode cX11_pieces 39 = .ok (.ireturn, 1) := by decide +kernel
theorem dX11_usedBy_0 : decode cX11_usedBy 0 = .ok (.aload_n 0, 1) := by decide +kernel
theorem dX11_usedBy_1 : decode cX11_usedBy 1 = .ok (.iload_n 1, 1) := by decide +kernel
theorem dX11_usedBy_2 : decode cX11_usedBy 2 = .ok (.invokevirtual 164, 3) := by decide +kernel
theorem dX11_usedBy_5 : decode cX11_usedBy 5 = .ok (.iconst 0, 1) := by decide +kernel
theorem dX11_usedBy_6 : decode cX11_usedBy 6 = .ok (.istore_n 2, 1) := by decide +kernel
theorem dX11_usedBy_7 : decode cX11_usedBy 7 = .ok (.iconst 0, 1) := by decide +kernel
theorem dX11_usedBy_8 : decode cX11_usedBy 8 = .ok (.istore_n 3, 1) := by decide +kernel
theorem dX11_usedBy_9 : decode cX11_usedBy 9 = .ok (.iload_n 3, 1) := by decide +kernel
theorem dX11_usedBy_10 : decode cX11_usedBy 10 = .ok (.aload_n 0, 1) := by decide +kernel
theorem dX11_usedBy_11 : decode cX11_usedBy 11 = .ok (.getfield 57, 3) := by decide +kernel
theorem dX11_usedBy_14 : decode cX11_usedBy 14 = .ok (.getfield 117, 3) := by decide +kernel
theorem dX11_usedBy_17 : decode cX11_usedBy 17 = .ok (.if_icmp .ge 27, 3) := by decide +kernel
theorem dX11_usedBy_20 : decode cX11_usedBy 20 = .ok (.aload_n 0, 1) := by decide +kernel
theorem dX11_usedBy_21 : decode cX11_usedBy 21 = .ok (.getfield 57, 3) := by decide +kernel
theorem dX11_usedBy_24 : decode cX11_usedBy 24 = .ok (.iload_n 3, 1) := by decide +kernel
theorem dX11_usedBy_25 : decode cX11_usedBy 25 = .ok (.iload_n 1, 1) := by decide +kernel
theorem dX11_usedBy_26 : decode cX11_usedBy 26 = .ok (.invokevirtual 167, 3) := by decide +kernel
theorem dX11_usedBy_29 : decode cX11_usedBy 29 = .ok (.ifCond .le 9, 3) := by decide +kernel
theorem dX11_usedBy_32 : decode cX11_usedBy 32 = .ok (.iload_n 2, 1) := by decide +kernel
theorem dX11_usedBy_33 : decode cX11_usedBy 33 = .ok (.iconst 1, 1) := by decide +kernel
theorem dX11_usedBy_34 : decode cX11_usedBy 34 = .ok (.iload_n 3, 1) := by decide +kernel
theorem dX11_usedBy_35 : decode cX11_usedBy 35 = .ok (.ishl, 1) := by decide +kernel
theorem dX11_usedBy_36 : decode cX11_usedBy 36 = .ok (.ior, 1) := by decide +kernel
theorem dX11_usedBy_37 : decode cX11_usedBy 37 = .ok (.istore_n 2, 1) := by decide +kernel
theorem dX11_usedBy_38 : decode cX11_usedBy 38 = .ok (.iinc 3 1, 3) := by decide +kernel
theorem dX11_usedBy_41 : decode cX11_usedBy 41 = .ok (.goto (-32), 3) := by decide +kernel
theorem dX11_usedBy_44 : decode cX11_usedBy 44 = .ok (.iload_n 2, 1) := by decide +kernel
theorem dX11_usedBy_45 : decode cX11_usedBy 45 = .ok (.ireturn, 1) := by decide +kernel
theorem dX11_commonParts_0 : decode cX11_commonParts 0 = .ok (.aload_n 0, 1) := by decide +kernel
theorem dX11_commonParts_1 : decode cX11_commonParts 1 = .ok (.iload_n 1, 1) := by decide +kernel
theorem dX11_commonParts_2 : decode cX11_commonParts 2 = .ok (.invokevirtual 150, 3) := by decide +kernel
theorem dX11_commonParts_5 : decode cX11_commonParts 5 = .ok (.aload_n 0, 1) := by decide +kernel
theorem dX11_commonParts_6 : decode cX11_commonParts 6 = .ok (.iload_n 2, 1) := by decide +kernel
theorem dX11_commonParts_7 : decode cX11_commonParts 7 = .ok (.invokevirtual 150, 3) := by decide +kernel
theorem dX11_commonParts_10 : decode cX11_commonParts 10 = .ok (.iconst 0, 1) := by decide +kernel
theorem dX11_commonParts_11 : decode cX11_commonParts 11 = .ok (.istore_n 3, 1) := by decide +kernel
theorem dX11_commonParts_12 : decode cX11_commonParts 12 = .ok (.iconst 0, 1) := by decide +kernel
theorem dX11_commonParts_13 : decode cX11_commonParts 13 = .ok (.istore 4, 2) := by decide +kernel
theorem dX11_commonParts_15 : decode cX11_commonParts 15 = .ok (.iload 4, 2) := by decide +kernel
theorem dX11_commonParts_17 : decode cX11_commonParts 17 = .ok (.aload_n 0, 1) := by decide +kernel
theorem dX11_commonParts_18 : decode cX11_commonParts 18 = .ok (.getfield 57, 3) := by decide +kernel
theorem dX11_commonParts_21 : decode cX11_commonParts 21 = .ok (.getfield 126, 3) := by decide +kernel
theorem dX11_commonParts_24 : decode cX11_commonParts 24 = .ok (.if_icmp .ge 42, 3) := by decide +kernel
theorem dX11_commonParts_27 : decode cX11_commonParts 27 = .ok (.aload_n 0, 1) := by decide +kernel
theorem dX11_commonParts_28 : decode cX11_commonParts 28 = .ok (.getfield 57, 3) := by decide +kernel
theorem dX11_commonParts_31 : decode cX11_commonParts 31 = .ok (.iload_n 1, 1) := by decide +kernel
theorem dX11_commonParts_32 : decode cX11_commonParts 32 = .ok (.iload 4, 2) := by decide +kernel
theorem dX11_commonParts_34 : decode cX11_commonParts 34 = .ok (.invokevirtual 167, 3) := by decide +kernel
theorem dX11_commonParts_37 : decode cX11_commonParts 37 = .ok (.ifCond .le 23, 3) := by decide +kernel
theorem dX11_commonParts_40 : decode cX11_commonParts 40 = .ok (.aload_n 0, 1) := by decide +kernel
theorem dX11_commonParts_41 : decode cX11_commonParts 41 = .ok (.getfield 57, 3) := by decide +kernel
theorem dX11_commonParts_44 : decode cX11_commonParts 44 = .ok (.iload_n 2, 1) := by decide +kernel
theorem dX11_commonParts_45 : decode cX11_commonParts 45 = .ok (.iload 4, 2) := by decide +kernel
theorem dX11_commonParts_47 : decode cX11_commonParts 47 = .ok (.invokevirtual 167, 3) := by decide +kernel
theorem dX11_commonParts_50 : decode cX11_commonParts 50 = .ok (.ifCond .le 10, 3) := by decide +kernel
theorem dX11_commonParts_53 : decode cX11_commonParts 53 = .ok (.iload_n 3, 1) := by decide +kernel
theorem dX11_commonParts_54 : decode cX11_commonParts 54 = .ok (.iconst 1, 1) := by decide +kernel
theorem dX11_commonParts_55 : decode cX11_commonParts 55 = .ok (.iload 4, 2) := by decide +kernel
theorem dX11_commonParts_57 : decode cX11_commonParts 57 = .ok (.ishl, 1) := by decide +kernel
theorem dX11_commonParts_58 : decode cX11_commonParts 58 = .ok (.ior, 1) := by decide +kernel
theorem dX11_commonParts_59 : decode cX11_commonParts 59 = .ok (.istore_n 3, 1) := by decide +kernel
theorem dX11_commonParts_60 : decode cX11_commonParts 60 = .ok (.iinc 4 1, 3) := by decide +kernel
theorem dX11_commonParts_63 : decode cX11_commonParts 63 = .ok (.goto (-48), 3) := by decide +kernel
theorem dX11_commonParts_66 : decode cX11_commonParts 66 = .ok (.iload_n 3, 1) := by decide +kernel
theorem dX11_commonParts_67 : decode cX11_commonParts 67 = .ok (.ireturn, 1) := by decide +kernel
theorem dX11_day_0 : decode cX11_day 0 = .ok (.aload_n 0, 1) := by decide +kernel
theorem dX11_day_1 : decode cX11_day 1 = .ok (.getfield 64, 3) := by decide +kernel
theorem dX11_day_4 : decode cX11_day 4 = .ok (.getfield 141, 3) := by decide +kernel
theorem dX11_day_7 : decode cX11_day 7 = .ok (.getfield 173, 3) := by decide +kernel
theorem dX11_day_10 : decode cX11_day 10 = .ok (.ireturn, 1) := by decide +kernel
theorem dX11_stock_0 : decode cX11_stock 0 = .ok (.aload_n 0, 1) := by decide +kernel
theorem dX11_stock_1 : decode cX11_stock 1 = .ok (.iload_n 1, 1) := by decide +kernel
theorem dX11_stock_2 : decode cX11_stock 2 = .ok (.invokevirtual 164, 3) := by decide +kernel
theorem dX11_stock_5 : decode cX11_stock 5 = .ok (.aload_n 0, 1) := by decide +kernel
theorem dX11_stock_6 : decode cX11_stock 6 = .ok (.getfield 64, 3) := by decide +kernel
theorem dX11_stock_9 : decode cX11_stock 9 = .ok (.getfield 141, 3) := by decide +kernel
theorem dX11_stock_12 : decode cX11_stock 12 = .ok (.iload_n 1, 1) := by decide +kernel
theorem dX11_stock_13 : decode cX11_stock 13 = .ok (.invokevirtual 176, 3) := by decide +kernel
theorem dX11_stock_16 : decode cX11_stock 16 = .ok (.ireturn, 1) := by decide +kernel
theorem dX11_reserved_0 : decode cX11_reserved 0 = .ok (.aload_n 0, 1) := by decide +kernel
theorem dX11_reserved_1 : decode cX11_reserved 1 = .ok (.iload_n 1, 1) := by decide +kernel
theorem dX11_reserved_2 : decode cX11_reserved 2 = .ok (.invokevirtual 164, 3) := by decide +kernel
theorem dX11_reserved_5 : decode cX11_reserved 5 = .ok (.aload_n 0, 1) := by decide +kernel
theorem dX11_reserved_6 : decode cX11_reserved 6 = .ok (.getfield 64, 3) := by decide +kernel
theorem dX11_reserved_9 : decode cX11_reserved 9 = .ok (.getfield 141, 3) := by decide +kernel
theorem dX11_reserved_12 : decode cX11_reserved 12 = .ok (.iload_n 1, 1) := by decide +kernel
theorem dX11_reserved_13 : decode cX11_reserved 13 = .ok (.invokevirtual 179, 3) := by decide +kernel
theorem dX11_reserved_16 : decode cX11_reserved 16 = .ok (.ireturn, 1) := by decide +kernel
theorem dX11_arriving_0 : decode cX11_arriving 0 = .ok (.aload_n 0, 1) := by decide +kernel
theorem dX11_arriving_1 : decode cX11_arriving 1 = .ok (.iload_n 1, 1) := by decide +kernel
theorem dX11_arriving_2 : decode cX11_arriving 2 = .ok (.invokevirtual 164, 3) := by decide +kernel
theorem dX11_arriving_5 : decode cX11_arriving 5 = .ok (.aload_n 0, 1) := by decide +kernel
theorem dX11_arriving_6 : decode cX11_arriving 6 = .ok (.getfield 64, 3) := by decide +kernel
theorem dX11_arriving_9 : decode cX11_arriving 9 = .ok (.getfield 141, 3) := by decide +kernel
theorem dX11_arriving_12 : decode cX11_arriving 12 = .ok (.iload_n 1, 1) := by decide +kernel
theorem dX11_arriving_13 : decode cX11_arriving 13 = .ok (.invokevirtual 182, 3) := by decide +kernel
theorem dX11_arriving_16 : decode cX11_arriving 16 = .ok (.ireturn, 1) := by decide +kernel
theorem dX11_nextArrival_0 : decode cX11_nextArrival 0 = .ok (.aload_n 0, 1) := by decide +kernel
theorem dX11_nextArrival_1 : decode cX11_nextArrival 1 = .ok (.iload_n 1, 1) := by decide +kernel
theorem dX11_nextArrival_2 : decode cX11_nextArrival 2 = .ok (.invokevirtual 164, 3) := by decide +kernel
theorem dX11_nextArrival_5 : decode cX11_nextArrival 5 = .ok (.aload_n 0, 1) := by decide +kernel
theorem dX11_nextArrival_6 : decode cX11_nextArrival 6 = .ok (.getfield 64, 3) := by decide +kernel
theorem dX11_nextArrival_9 : decode cX11_nextArrival 9 = .ok (.getfield 141, 3) := by decide +kernel
theorem dX11_nextArrival_12 : decode cX11_nextArrival 12 = .ok (.iload_n 1, 1) := by decide +kernel
theorem dX11_nextArrival_13 : decode cX11_nextArrival 13 = .ok (.invokevirtual 185, 3) := by decide +kernel
theorem dX11_nextArrival_16 : decode cX11_nextArrival 16 = .ok (.ireturn, 1) := by decide +kernel
theorem dX11_buildable_0 : decode cX11_buildable 0 = .ok (.aload_n 0, 1) := by decide +kernel
theorem dX11_buildable_1 : decode cX11_buildable 1 = .ok (.iload_n 1, 1) := by decide +kernel
theorem dX11_buildable_2 : decode cX11_buildable 2 = .ok (.invokevirtual 150, 3) := by decide +kernel
theorem dX11_buildable_5 : decode cX11_buildable 5 = .ok (.aload_n 0, 1) := by decide +kernel
theorem dX11_buildable_6 : decode cX11_buildable 6 = .ok (.getfield 64, 3) := by decide +kernel
theorem dX11_buildable_9 : decode cX11_buildable 9 = .ok (.getfield 141, 3) := by decide +kernel
theorem dX11_buildable_12 : decode cX11_buildable 12 = .ok (.aload_n 0, 1) := by decide +kernel
theorem dX11_buildable_13 : decode cX11_buildable 13 = .ok (.getfield 50, 3) := by decide +kernel
theorem dX11_buildable_16 : decode cX11_buildable 16 = .ok (.invokevirtual 188, 3) := by decide +kernel
theorem dX11_buildable_19 : decode cX11_buildable 19 = .ok (.aload_n 0, 1) := by decide +kernel
theorem dX11_buildable_20 : decode cX11_buildable 20 = .ok (.getfield 57, 3) := by decide +kernel
theorem dX11_buildable_23 : decode cX11_buildable 23 = .ok (.iload_n 1, 1) := by decide +kernel
theorem dX11_buildable_24 : decode cX11_buildable 24 = .ok (.aload_n 0, 1) := by decide +kernel
theorem dX11_buildable_25 : decode cX11_buildable 25 = .ok (.getfield 50, 3) := by decide +kernel
theorem dX11_buildable_28 : decode cX11_buildable 28 = .ok (.invokevirtual 192, 3) := by decide +kernel
theorem dX11_buildable_31 : decode cX11_buildable 31 = .ok (.ireturn, 1) := by decide +kernel
theorem dX11_bottleneck_0 : decode cX11_bottleneck 0 = .ok (.aload_n 0, 1) := by decide +kernel
theorem dX11_bottleneck_1 : decode cX11_bottleneck 1 = .ok (.iload_n 1, 1) := by decide +kernel
theorem dX11_bottleneck_2 : decode cX11_bottleneck 2 = .ok (.invokevirtual 150, 3) := by decide +kernel
theorem dX11_bottleneck_5 : decode cX11_bottleneck 5 = .ok (.aload_n 0, 1) := by decide +kernel
theorem dX11_bottleneck_6 : decode cX11_bottleneck 6 = .ok (.getfield 64, 3) := by decide +kernel
theorem dX11_bottleneck_9 : decode cX11_bottleneck 9 = .ok (.getfield 141, 3) := by decide +kernel
theorem dX11_bottleneck_12 : decode cX11_bottleneck 12 = .ok (.aload_n 0, 1) := by decide +kernel
theorem dX11_bottleneck_13 : decode cX11_bottleneck 13 = .ok (.getfield 50, 3) := by decide +kernel
theorem dX11_bottleneck_16 : decode cX11_bottleneck 16 = .ok (.invokevirtual 188, 3) := by decide +kernel
theorem dX11_bottleneck_19 : decode cX11_bottleneck 19 = .ok (.aload_n 0, 1) := by decide +kernel
theorem dX11_bottleneck_20 : decode cX11_bottleneck 20 = .ok (.getfield 57, 3) := by decide +kernel
theorem dX11_bottleneck_23 : decode cX11_bottleneck 23 = .ok (.iload_n 1, 1) := by decide +kernel
theorem dX11_bottleneck_24 : decode cX11_bottleneck 24 = .ok (.aload_n 0, 1) := by decide +kernel
theorem dX11_bottleneck_25 : decode cX11_bottleneck 25 = .ok (.getfield 50, 3) := by decide +kernel
theorem dX11_bottleneck_28 : decode cX11_bottleneck 28 = .ok (.invokevirtual 196, 3) := by decide +kernel
theorem dX11_bottleneck_31 : decode cX11_bottleneck 31 = .ok (.ireturn, 1) := by decide +kernel
theorem dX11_buildableTogether_0 : decode cX11_buildableTogether 0 = .ok (.aload_n 0, 1) := by decide +kernel
theorem dX11_buildableTogether_1 : decode cX11_buildableTogether 1 = .ok (.iload_n 1, 1) := by decide +kernel
theorem dX11_buildableTogether_2 : decode cX11_buildableTogether 2 = .ok (.invokevirtual 150, 3) := by decide +kernel
theorem dX11_buildableTogether_5 : decode cX11_buildableTogether 5 = .ok (.aload_n 0, 1) := by decide +kernel
theorem dX11_buildableTogether_6 : decode cX11_buildableTogether 6 = .ok (.iload_n 2, 1) := by decide +kernel
theorem dX11_buildableTogether_7 : decode cX11_buildableTogether 7 = .ok (.invokevirtual 150, 3) := by decide +kernel
theorem dX11_buildableTogether_10 : decode cX11_buildableTogether 10 = .ok (.iload_n 1, 1) := by decide +kernel
theorem dX11_buildableTogether_11 : decode cX11_buildableTogether 11 = .ok (.iload_n 2, 1) := by decide +kernel
theorem dX11_buildableTogether_12 : decode cX11_buildableTogether 12 = .ok (.if_icmp .eq 7, 3) := by decide +kernel
theorem dX11_buildableTogether_15 : decode cX11_buildableTogether 15 = .ok (.iconst 1, 1) := by decide +kernel
theorem dX11_buildableTogether_16 : decode cX11_buildableTogether 16 = .ok (.goto 4, 3) := by decide +kernel
theorem dX11_buildableTogether_19 : decode cX11_buildableTogether 19 = .ok (.iconst 0, 1) := by decide +kernel
theorem dX11_buildableTogether_20 : decode cX11_buildableTogether 20 = .ok (.invokestatic 199, 3) := by decide +kernel
theorem dX11_buildableTogether_23 : decode cX11_buildableTogether 23 = .ok (.aload_n 0, 1) := by decide +kernel
theorem dX11_buildableTogether_24 : decode cX11_buildableTogether 24 = .ok (.getfield 64, 3) := by decide +kernel
theorem dX11_buildableTogether_27 : decode cX11_buildableTogether 27 = .ok (.getfield 141, 3) := by decide +kernel
theorem dX11_buildableTogether_30 : decode cX11_buildableTogether 30 = .ok (.aload_n 0, 1) := by decide +kernel
theorem dX11_buildableTogether_31 : decode cX11_buildableTogether 31 = .ok (.getfield 50, 3) := by decide +kernel
theorem dX11_buildableTogether_34 : decode cX11_buildableTogether 34 = .ok (.invokevirtual 188, 3) := by decide +kernel
theorem dX11_buildableTogether_37 : decode cX11_buildableTogether 37 = .ok (.aload_n 0, 1) := by decide +kernel
theorem dX11_buildableTogether_38 : decode cX11_buildableTogether 38 = .ok (.getfield 57, 3) := by decide +kernel
theorem dX11_buildableTogether_41 : decode cX11_buildableTogether 41 = .ok (.iload_n 1, 1) := by decide +kernel
theorem dX11_buildableTogether_42 : decode cX11_buildableTogether 42 = .ok (.iload_n 2, 1) := by decide +kernel
theorem dX11_buildableTogether_43 : decode cX11_buildableTogether 43 = .ok (.aload_n 0, 1) := by decide +kernel
theorem dX11_buildableTogether_44 : decode cX11_buildableTogether 44 = .ok (.getfield 50, 3) := by decide +kernel
theorem dX11_buildableTogether_47 : decode cX11_buildableTogether 47 = .ok (.invokevirtual 203, 3) := by decide +kernel
theorem dX11_buildableTogether_50 : decode cX11_buildableTogether 50 = .ok (.ireturn, 1) := by decide +kernel
theorem dX11_stateOf_0 : decode cX11_stateOf 0 = .ok (.aload_n 0, 1) := by decide +kernel
theorem dX11_stateOf_1 : decode cX11_stateOf 1 = .ok (.iload_n 1, 1) := by decide +kernel
theorem dX11_stateOf_2 : decode cX11_stateOf 2 = .ok (.invokevirtual 207, 3) := by decide +kernel
theorem dX11_stateOf_5 : decode cX11_stateOf 5 = .ok (.aload_n 0, 1) := by decide +kernel
theorem dX11_stateOf_6 : decode cX11_stateOf 6 = .ok (.getfield 64, 3) := by decide +kernel
theorem dX11_stateOf_9 : decode cX11_stateOf 9 = .ok (.getfield 129, 3) := by decide +kernel
theorem dX11_stateOf_12 : decode cX11_stateOf 12 = .ok (.iload_n 1, 1) := by decide +kernel
theorem dX11_stateOf_13 : decode cX11_stateOf 13 = .ok (.invokevirtual 210, 3) := by decide +kernel
theorem dX11_stateOf_16 : decode cX11_stateOf 16 = .ok (.ireturn, 1) := by decide +kernel
theorem dX11_openUnits_0 : decode cX11_openUnits 0 = .ok (.aload_n 0, 1) := by decide +kernel
theorem dX11_openUnits_1 : decode cX11_openUnits 1 = .ok (.iload_n 1, 1) := by decide +kernel
theorem dX11_openUnits_2 : decode cX11_openUnits 2 = .ok (.invokevirtual 207, 3) := by decide +kernel
theorem dX11_openUnits_5 : decode cX11_openUnits 5 = .ok (.aload_n 0, 1) := by decide +kernel
theorem dX11_openUnits_6 : decode cX11_openUnits 6 = .ok (.getfield 64, 3) := by decide +kernel
theorem dX11_openUnits_9 : decode cX11_openUnits 9 = .ok (.getfield 129, 3) := by decide +kernel
theorem dX11_openUnits_12 : decode cX11_openUnits 12 = .ok (.iload_n 1, 1) := by decide +kernel
theorem dX11_openUnits_13 : decode cX11_openUnits 13 = .ok (.invokevirtual 213, 3) := by decide +kernel
theorem dX11_openUnits_16 : decode cX11_openUnits 16 = .ok (.ireturn, 1) := by decide +kernel
theorem dX11_reservedUnits_0 : decode cX11_reservedUnits 0 = .ok (.aload_n 0, 1) := by decide +kernel
theorem dX11_reservedUnits_1 : decode cX11_reservedUnits 1 = .ok (.iload_n 1, 1) := by decide +kernel
theorem dX11_reservedUnits_2 : decode cX11_reservedUnits 2 = .ok (.invokevirtual 207, 3) := by decide +kernel
theorem dX11_reservedUnits_5 : decode cX11_reservedUnits 5 = .ok (.aload_n 0, 1) := by decide +kernel
theorem dX11_reservedUnits_6 : decode cX11_reservedUnits 6 = .ok (.getfield 64, 3) := by decide +kernel
theorem dX11_reservedUnits_9 : decode cX11_reservedUnits 9 = .ok (.getfield 129, 3) := by decide +kernel
theorem dX11_reservedUnits_12 : decode cX11_reservedUnits 12 = .ok (.iload_n 1, 1) := by decide +kernel
theorem dX11_reservedUnits_13 : decode cX11_reservedUnits 13 = .ok (.invokevirtual 216, 3) := by decide +kernel
theorem dX11_reservedUnits_16 : decode cX11_reservedUnits 16 = .ok (.ireturn, 1) := by decide +kernel
theorem dX11_shippedUnits_0 : decode cX11_shippedUnits 0 = .ok (.aload_n 0, 1) := by decide +kernel
theorem dX11_shippedUnits_1 : decode cX11_shippedUnits 1 = .ok (.iload_n 1, 1) := by decide +kernel
theorem dX11_shippedUnits_2 : decode cX11_shippedUnits 2 = .ok (.invokevirtual 207, 3) := by decide +kernel
theorem dX11_shippedUnits_5 : decode cX11_shippedUnits 5 = .ok (.aload_n 0, 1) := by decide +kernel
theorem dX11_shippedUnits_6 : decode cX11_shippedUnits 6 = .ok (.getfield 64, 3) := by decide +kernel
theorem dX11_shippedUnits_9 : decode cX11_shippedUnits 9 = .ok (.getfield 129, 3) := by decide +kernel
theorem dX11_shippedUnits_12 : decode cX11_shippedUnits 12 = .ok (.iload_n 1, 1) := by decide +kernel
theorem dX11_shippedUnits_13 : decode cX11_shippedUnits 13 = .ok (.invokevirtual 217, 3) := by decide +kernel
theorem dX11_shippedUnits_16 : decode cX11_shippedUnits 16 = .ok (.ireturn, 1) := by decide +kernel
theorem dX11_orderField_0 : decode cX11_orderField 0 = .ok (.aload_n 0, 1) := by decide +kernel
theorem dX11_orderField_1 : decode cX11_orderField 1 = .ok (.iload_n 1, 1) := by decide +kernel
theorem dX11_orderField_2 : decode cX11_orderField 2 = .ok (.invokevirtual 207, 3) := by decide +kernel
theorem dX11_orderField_5 : decode cX11_orderField 5 = .ok (.aload_n 0, 1) := by decide +kernel
theorem dX11_orderField_6 : decode cX11_orderField 6 = .ok (.getfield 64, 3) := by decide +kernel
theorem dX11_orderField_9 : decode cX11_orderField 9 = .ok (.getfield 129, 3) := by decide +kernel
theorem dX11_orderField_12 : decode cX11_orderField 12 = .ok (.astore_n 3, 1) := by decide +kernel
theorem dX11_orderField_13 : decode cX11_orderField 13 = .ok (.iload_n 2, 1) := by decide +kernel
theorem dX11_orderField_14 : decode cX11_orderField 14 = .ok (.tableswitch 72 0 4 #[34, 40, 46, 52, 58], 34) := by decide +kernel
theorem dX11_orderField_48 : decode cX11_orderField 48 = .ok (.aload_n 3, 1) := by decide +kernel
theorem dX11_orderField_49 : decode cX11_orderField 49 = .ok (.iload_n 1, 1) := by decide +kernel
theorem dX11_orderField_50 : decode cX11_orderField 50 = .ok (.invokevirtual 220, 3) := by decide +kernel
theorem dX11_orderField_53 : decode cX11_orderField 53 = .ok (.ireturn, 1) := by decide +kernel
theorem dX11_orderField_54 : decode cX11_orderField 54 = .ok (.aload_n 3, 1) := by decide +kernel
theorem dX11_orderField_55 : decode cX11_orderField 55 = .ok (.iload_n 1, 1) := by decide +kernel
theorem dX11_orderField_56 : decode cX11_orderField 56 = .ok (.invokevirtual 223, 3) := by decide +kernel
theorem dX11_orderField_59 : decode cX11_orderField 59 = .ok (.ireturn, 1) := by decide +kernel
theorem dX11_orderField_60 : decode cX11_orderField 60 = .ok (.aload_n 3, 1) := by decide +kernel
theorem dX11_orderField_61 : decode cX11_orderField 61 = .ok (.iload_n 1, 1) := by decide +kernel
theorem dX11_orderField_62 : decode cX11_orderField 62 = .ok (.invokevirtual 225, 3) := by decide +kernel
theorem dX11_orderField_65 : decode cX11_orderField 65 = .ok (.ireturn, 1) := by decide +kernel
theorem dX11_orderField_66 : decode cX11_orderField 66 = .ok (.aload_n 3, 1) := by decide +kernel
theorem dX11_orderField_67 : decode cX11_orderField 67 = .ok (.iload_n 1, 1) := by decide +kernel
theorem dX11_orderField_68 : decode cX11_orderField 68 = .ok (.invokevirtual 228, 3) := by decide +kernel
theorem dX11_orderField_71 : decode cX11_orderField 71 = .ok (.ireturn, 1) := by decide +kernel
theorem dX11_orderField_72 : decode cX11_orderField 72 = .ok (.aload_n 3, 1) := by decide +kernel
theorem dX11_orderField_73 : decode cX11_orderField 73 = .ok (.iload_n 1, 1) := by decide +kernel
theorem dX11_orderField_74 : decode cX11_orderField 74 = .ok (.invokevirtual 231, 3) := by decide +kernel
theorem dX11_orderField_77 : decode cX11_orderField 77 = .ok (.ifCond .eq 7, 3) := by decide +kernel
theorem dX11_orderField_80 : decode cX11_orderField 80 = .ok (.iconst 1, 1) := by decide +kernel
theorem dX11_orderField_81 : decode cX11_orderField 81 = .ok (.goto 4, 3) := by decide +kernel
theorem dX11_orderField_84 : decode cX11_orderField 84 = .ok (.iconst 0, 1) := by decide +kernel
theorem dX11_orderField_85 : decode cX11_orderField 85 = .ok (.ireturn, 1) := by decide +kernel
theorem dX11_orderField_86 : decode cX11_orderField 86 = .ok (.iconst (-1), 1) := by decide +kernel
theorem dX11_orderField_87 : decode cX11_orderField 87 = .ok (.ireturn, 1) := by decide +kernel
theorem dX11_missing_0 : decode cX11_missing 0 = .ok (.aload_n 0, 1) := by decide +kernel
theorem dX11_missing_1 : decode cX11_missing 1 = .ok (.iload_n 1, 1) := by decide +kernel
theorem dX11_missing_2 : decode cX11_missing 2 = .ok (.invokevirtual 207, 3) := by decide +kernel
theorem dX11_missing_5 : decode cX11_missing 5 = .ok (.aload_n 0, 1) := by decide +kernel
theorem dX11_missing_6 : decode cX11_missing 6 = .ok (.iload_n 2, 1) := by decide +kernel
theorem dX11_missing_7 : decode cX11_missing 7 = .ok (.invokevirtual 164, 3) := by decide +kernel
theorem dX11_missing_10 : decode cX11_missing 10 = .ok (.aload_n 0, 1) := by decide +kernel
theorem dX11_missing_11 : decode cX11_missing 11 = .ok (.iload_n 1, 1) := by decide +kernel
theorem dX11_missing_12 : decode cX11_missing 12 = .ok (.iload_n 2, 1) := by decide +kernel
theorem dX11_missing_13 : decode cX11_missing 13 = .ok (.invokevirtual 234, 3) := by decide +kernel
theorem dX11_missing_16 : decode cX11_missing 16 = .ok (.ireturn, 1) := by decide +kernel
theorem dX11_toBuy_0 : decode cX11_toBuy 0 = .ok (.aload_n 0, 1) := by decide +kernel
theorem dX11_toBuy_1 : decode cX11_toBuy 1 = .ok (.iload_n 1, 1) := by decide +kernel
theorem dX11_toBuy_2 : decode cX11_toBuy 2 = .ok (.invokevirtual 164, 3) := by decide +kernel
theorem dX11_toBuy_5 : decode cX11_toBuy 5 = .ok (.aload_n 0, 1) := by decide +kernel
theorem dX11_toBuy_6 : decode cX11_toBuy 6 = .ok (.iload_n 1, 1) := by decide +kernel
theorem dX11_toBuy_7 : decode cX11_toBuy 7 = .ok (.invokevirtual 237, 3) := by decide +kernel
theorem dX11_toBuy_10 : decode cX11_toBuy 10 = .ok (.ireturn, 1) := by decide +kernel
theorem dX11_scarcestPart_0 : decode cX11_scarcestPart 0 = .ok (.iconst (-1), 1) := by decide +kernel
theorem dX11_scarcestPart_1 : decode cX11_scarcestPart 1 = .ok (.istore_n 1, 1) := by decide +kernel
theorem dX11_scarcestPart_2 : decode cX11_scarcestPart 2 = .ok (.iconst 0, 1) := by decide +kernel
theorem dX11_scarcestPart_3 : decode cX11_scarcestPart 3 = .ok (.istore_n 2, 1) := by decide +kernel
theorem dX11_scarcestPart_4 : decode cX11_scarcestPart 4 = .ok (.iconst 0, 1) := by decide +kernel
theorem dX11_scarcestPart_5 : decode cX11_scarcestPart 5 = .ok (.istore_n 3, 1) := by decide +kernel
theorem dX11_scarcestPart_6 : decode cX11_scarcestPart 6 = .ok (.iload_n 3, 1) := by decide +kernel
theorem dX11_scarcestPart_7 : decode cX11_scarcestPart 7 = .ok (.aload_n 0, 1) := by decide +kernel
theorem dX11_scarcestPart_8 : decode cX11_scarcestPart 8 = .ok (.getfield 57, 3) := by decide +kernel
theorem dX11_scarcestPart_11 : decode cX11_scarcestPart 11 = .ok (.getfield 126, 3) := by decide +kernel
theorem dX11_scarcestPart_14 : decode cX11_scarcestPart 14 = .ok (.if_icmp .ge 27, 3) := by decide +kernel
theorem dX11_scarcestPart_17 : decode cX11_scarcestPart 17 = .ok (.aload_n 0, 1) := by decide +kernel
theorem dX11_scarcestPart_18 : decode cX11_scarcestPart 18 = .ok (.iload_n 3, 1) := by decide +kernel
theorem dX11_scarcestPart_19 : decode cX11_scarcestPart 19 = .ok (.invokevirtual 237, 3) := by decide +kernel
theorem dX11_scarcestPart_22 : decode cX11_scarcestPart 22 = .ok (.istore 4, 2) := by decide +kernel
theorem dX11_scarcestPart_24 : decode cX11_scarcestPart 24 = .ok (.iload 4, 2) := by decide +kernel
theorem dX11_scarcestPart_26 : decode cX11_scarcestPart 26 = .ok (.iload_n 2, 1) := by decide +kernel
theorem dX11_scarcestPart_27 : decode cX11_scarcestPart 27 = .ok (.if_icmp .le 8, 3) := by decide +kernel
theorem dX11_scarcestPart_30 : decode cX11_scarcestPart 30 = .ok (.iload 4, 2) := by decide +kernel
theorem dX11_scarcestPart_32 : decode cX11_scarcestPart 32 = .ok (.istore_n 2, 1) := by decide +kernel
theorem dX11_scarcestPart_33 : decode cX11_scarcestPart 33 = .ok (.iload_n 3, 1) := by decide +kernel
theorem dX11_scarcestPart_34 : decode cX11_scarcestPart 34 = .ok (.istore_n 1, 1) := by decide +kernel
theorem dX11_scarcestPart_35 : decode cX11_scarcestPart 35 = .ok (.iinc 3 1, 3) := by decide +kernel
theorem dX11_scarcestPart_38 : decode cX11_scarcestPart 38 = .ok (.goto (-32), 3) := by decide +kernel
theorem dX11_scarcestPart_41 : decode cX11_scarcestPart 41 = .ok (.iload_n 1, 1) := by decide +kernel
theorem dX11_scarcestPart_42 : decode cX11_scarcestPart 42 = .ok (.ireturn, 1) := by decide +kernel
theorem dX11_promise_0 : decode cX11_promise 0 = .ok (.aload_n 0, 1) := by decide +kernel
theorem dX11_promise_1 : decode cX11_promise 1 = .ok (.iload_n 1, 1) := by decide +kernel
theorem dX11_promise_2 : decode cX11_promise 2 = .ok (.invokevirtual 150, 3) := by decide +kernel
theorem dX11_promise_5 : decode cX11_promise 5 = .ok (.iload_n 2, 1) := by decide +kernel
theorem dX11_promise_6 : decode cX11_promise 6 = .ok (.iconst 1, 1) := by decide +kernel
theorem dX11_promise_7 : decode cX11_promise 7 = .ok (.if_icmp .lt 14, 3) := by decide +kernel
theorem dX11_promise_10 : decode cX11_promise 10 = .ok (.iload_n 2, 1) := by decide +kernel
theorem dX11_promise_11 : decode cX11_promise 11 = .ok (.sipush 999, 3) := by decide +kernel
theorem dX11_promise_14 : decode cX11_promise 14 = .ok (.if_icmp .gt 7, 3) := by decide +kernel
theorem dX11_promise_17 : decode cX11_promise 17 = .ok (.iconst 1, 1) := by decide +kernel
theorem dX11_promise_18 : decode cX11_promise 18 = .ok (.goto 4, 3) := by decide +kernel
theorem dX11_promise_21 : decode cX11_promise 21 = .ok (.iconst 0, 1) := by decide +kernel
theorem dX11_promise_22 : decode cX11_promise 22 = .ok (.invokestatic 199, 3) := by decide +kernel
theorem dX11_promise_25 : decode cX11_promise 25 = .ok (.aload_n 0, 1) := by decide +kernel
theorem dX11_promise_26 : decode cX11_promise 26 = .ok (.iload_n 1, 1) := by decide +kernel
theorem dX11_promise_27 : decode cX11_promise 27 = .ok (.iload_n 2, 1) := by decide +kernel
theorem dX11_promise_28 : decode cX11_promise 28 = .ok (.invokevirtual 240, 3) := by decide +kernel
theorem dX11_promise_31 : decode cX11_promise 31 = .ok (.ireturn, 1) := by decide +kernel
theorem dX11_promiseOf_0 : decode cX11_promiseOf 0 = .ok (.aload_n 0, 1) := by decide +kernel
theorem dX11_promiseOf_1 : decode cX11_promiseOf 1 = .ok (.iload_n 1, 1) := by decide +kernel
theorem dX11_promiseOf_2 : decode cX11_promiseOf 2 = .ok (.invokevirtual 207, 3) := by decide +kernel
theorem dX11_promiseOf_5 : decode cX11_promiseOf 5 = .ok (.aload_n 0, 1) := by decide +kernel
theorem dX11_promiseOf_6 : decode cX11_promiseOf 6 = .ok (.iload_n 1, 1) := by decide +kernel
theorem dX11_promiseOf_7 : decode cX11_promiseOf 7 = .ok (.invokevirtual 243, 3) := by decide +kernel
theorem dX11_promiseOf_10 : decode cX11_promiseOf 10 = .ok (.ifCond .eq 5, 3) := by decide +kernel
theorem dX11_promiseOf_13 : decode cX11_promiseOf 13 = .ok (.iconst (-1), 1) := by decide +kernel
theorem dX11_promiseOf_14 : decode cX11_promiseOf 14 = .ok (.ireturn, 1) := by decide +kernel
theorem dX11_promiseOf_15 : decode cX11_promiseOf 15 = .ok (.aload_n 0, 1) := by decide +kernel
theorem dX11_promiseOf_16 : decode cX11_promiseOf 16 = .ok (.aload_n 0, 1) := by decide +kernel
theorem dX11_promiseOf_17 : decode cX11_promiseOf 17 = .ok (.getfield 64, 3) := by decide +kernel
theorem dX11_promiseOf_20 : decode cX11_promiseOf 20 = .ok (.getfield 129, 3) := by decide +kernel
theorem dX11_promiseOf_23 : decode cX11_promiseOf 23 = .ok (.iload_n 1, 1) := by decide +kernel
theorem dX11_promiseOf_24 : decode cX11_promiseOf 24 = .ok (.invokevirtual 220, 3) := by decide +kernel
theorem dX11_promiseOf_27 : decode cX11_promiseOf 27 = .ok (.aload_n 0, 1) := by decide +kernel
theorem dX11_promiseOf_28 : decode cX11_promiseOf 28 = .ok (.getfield 64, 3) := by decide +kernel
theorem dX11_promiseOf_31 : decode cX11_promiseOf 31 = .ok (.getfield 129, 3) := by decide +kernel
theorem dX11_promiseOf_34 : decode cX11_promiseOf 34 = .ok (.iload_n 1, 1) := by decide +kernel
theorem dX11_promiseOf_35 : decode cX11_promiseOf 35 = .ok (.invokevirtual 213, 3) := by decide +kernel
theorem dX11_promiseOf_38 : decode cX11_promiseOf 38 = .ok (.invokevirtual 240, 3) := by decide +kernel
theorem dX11_promiseOf_41 : decode cX11_promiseOf 41 = .ok (.ireturn, 1) := by decide +kernel
theorem dX11_delayingPart_0 : decode cX11_delayingPart 0 = .ok (.aload_n 0, 1) := by decide +kernel
theorem dX11_delayingPart_1 : decode cX11_delayingPart 1 = .ok (.iload_n 1, 1) := by decide +kernel
theorem dX11_delayingPart_2 : decode cX11_delayingPart 2 = .ok (.invokevirtual 207, 3) := by decide +kernel
theorem dX11_delayingPart_5 : decode cX11_delayingPart 5 = .ok (.aload_n 0, 1) := by decide +kernel
theorem dX11_delayingPart_6 : decode cX11_delayingPart 6 = .ok (.getfield 64, 3) := by decide +kernel
theorem dX11_delayingPart_9 : decode cX11_delayingPart 9 = .ok (.getfield 129, 3) := by decide +kernel
theorem dX11_delayingPart_12 : decode cX11_delayingPart 12 = .ok (.iload_n 1, 1) := by decide +kernel
theorem dX11_delayingPart_13 : decode cX11_delayingPart 13 = .ok (.invokevirtual 213, 3) := by decide +kernel
theorem dX11_delayingPart_16 : decode cX11_delayingPart 16 = .ok (.istore_n 2, 1) := by decide +kernel
theorem dX11_delayingPart_17 : decode cX11_delayingPart 17 = .ok (.iload_n 2, 1) := by decide +kernel
theorem dX11_delayingPart_18 : decode cX11_delayingPart 18 = .ok (.ifCond .ne 5, 3) := by decide +kernel
theorem dX11_delayingPart_21 : decode cX11_delayingPart 21 = .ok (.iconst (-1), 1) := by decide +kernel
theorem dX11_delayingPart_22 : decode cX11_delayingPart 22 = .ok (.ireturn, 1) := by decide +kernel
theorem dX11_delayingPart_23 : decode cX11_delayingPart 23 = .ok (.aload_n 0, 1) := by decide +kernel
theorem dX11_delayingPart_24 : decode cX11_delayingPart 24 = .ok (.getfield 64, 3) := by decide +kernel
theorem dX11_delayingPart_27 : decode cX11_delayingPart 27 = .ok (.getfield 129, 3) := by decide +kernel
theorem dX11_delayingPart_30 : decode cX11_delayingPart 30 = .ok (.iload_n 1, 1) := by decide +kernel
theorem dX11_delayingPart_31 : decode cX11_delayingPart 31 = .ok (.invokevirtual 220, 3) := by decide +kernel
theorem dX11_delayingPart_34 : decode cX11_delayingPart 34 = .ok (.istore_n 3, 1) := by decide +kernel
theorem dX11_delayingPart_35 : decode cX11_delayingPart 35 = .ok (.iconst (-1), 1) := by decide +kernel
theorem dX11_delayingPart_36 : decode cX11_delayingPart 36 = .ok (.istore 4, 2) := by decide +kernel
theorem dX11_delayingPart_38 : decode cX11_delayingPart 38 = .ok (.iconst (-1), 1) := by decide +kernel
theorem dX11_delayingPart_39 : decode cX11_delayingPart 39 = .ok (.istore 5, 2) := by decide +kernel
theorem dX11_delayingPart_41 : decode cX11_delayingPart 41 = .ok (.iconst 0, 1) := by decide +kernel
theorem dX11_delayingPart_42 : decode cX11_delayingPart 42 = .ok (.istore 6, 2) := by decide +kernel
theorem dX11_delayingPart_44 : decode cX11_delayingPart 44 = .ok (.iload 6, 2) := by decide +kernel
theorem dX11_delayingPart_46 : decode cX11_delayingPart 46 = .ok (.aload_n 0, 1) := by decide +kernel
theorem dX11_delayingPart_47 : decode cX11_delayingPart 47 = .ok (.getfield 57, 3) := by decide +kernel
theorem dX11_delayingPart_50 : decode cX11_delayingPart 50 = .ok (.getfield 126, 3) := by decide +kernel
theorem dX11_delayingPart_53 : decode cX11_delayingPart 53 = .ok (.if_icmp .ge 57, 3) := by decide +kernel
theorem dX11_delayingPart_56 : decode cX11_delayingPart 56 = .ok (.aload_n 0, 1) := by decide +kernel
theorem dX11_delayingPart_57 : decode cX11_delayingPart 57 = .ok (.getfield 57, 3) := by decide +kernel
theorem dX11_delayingPart_60 : decode cX11_delayingPart 60 = .ok (.iload_n 3, 1) := by decide +kernel
theorem dX11_delayingPart_61 : decode cX11_delayingPart 61 = .ok (.iload 6, 2) := by decide +kernel
theorem dX11_delayingPart_63 : decode cX11_delayingPart 63 = .ok (.invokevirtual 167, 3) := by decide +kernel
theorem dX11_delayingPart_66 : decode cX11_delayingPart 66 = .ok (.istore 7, 2) := by decide +kernel
theorem dX11_delayingPart_68 : decode cX11_delayingPart 68 = .ok (.iload 7, 2) := by decide +kernel
theorem dX11_delayingPart_70 : decode cX11_delayingPart 70 = .ok (.ifCond .le 16, 3) := by decide +kernel
theorem dX11_delayingPart_73 : decode cX11_delayingPart 73 = .ok (.aload_n 0, 1) := by decide +kernel
theorem dX11_delayingPart_74 : decode cX11_delayingPart 74 = .ok (.iload 6, 2) := by decide +kernel
theorem dX11_delayingPart_76 : decode cX11_delayingPart 76 = .ok (.iload_n 2, 1) := by decide +kernel
theorem dX11_delayingPart_77 : decode cX11_delayingPart 77 = .ok (.iload 7, 2) := by decide +kernel
theorem dX11_delayingPart_79 : decode cX11_delayingPart 79 = .ok (.imul, 1) := by decide +kernel
theorem dX11_delayingPart_80 : decode cX11_delayingPart 80 = .ok (.invokevirtual 246, 3) := by decide +kernel
theorem dX11_delayingPart_83 : decode cX11_delayingPart 83 = .ok (.goto 4, 3) := by decide +kernel
theorem dX11_delayingPart_86 : decode cX11_delayingPart 86 = .ok (.iconst (-1), 1) := by decide +kernel
theorem dX11_delayingPart_87 : decode cX11_delayingPart 87 = .ok (.istore 8, 2) := by decide +kernel
theorem dX11_delayingPart_89 : decode cX11_delayingPart 89 = .ok (.iload 8, 2) := by decide +kernel
theorem dX11_delayingPart_91 : decode cX11_delayingPart 91 = .ok (.iload 5, 2) := by decide +kernel
theorem dX11_delayingPart_93 : decode cX11_delayingPart 93 = .ok (.if_icmp .le 11, 3) := by decide +kernel
theorem dX11_delayingPart_96 : decode cX11_delayingPart 96 = .ok (.iload 8, 2) := by decide +kernel
theorem dX11_delayingPart_98 : decode cX11_delayingPart 98 = .ok (.istore 5, 2) := by decide +kernel
theorem dX11_delayingPart_100 : decode cX11_delayingPart 100 = .ok (.iload 6, 2) := by decide +kernel
theorem dX11_delayingPart_102 : decode cX11_delayingPart 102 = .ok (.istore 4, 2) := by decide +kernel
theorem dX11_delayingPart_104 : decode cX11_delayingPart 104 = .ok (.iinc 6 1, 3) := by decide +kernel
theorem dX11_delayingPart_107 : decode cX11_delayingPart 107 = .ok (.goto (-63), 3) := by decide +kernel
theorem dX11_delayingPart_110 : decode cX11_delayingPart 110 = .ok (.iload 4, 2) := by decide +kernel
theorem dX11_delayingPart_112 : decode cX11_delayingPart 112 = .ok (.ireturn, 1) := by decide +kernel
theorem dX11_lateOrders_0 : decode cX11_lateOrders 0 = .ok (.aload_n 0, 1) := by decide +kernel
theorem dX11_lateOrders_1 : decode cX11_lateOrders 1 = .ok (.getfield 64, 3) := by decide +kernel
theorem dX11_lateOrders_4 : decode cX11_lateOrders 4 = .ok (.getfield 129, 3) := by decide +kernel
theorem dX11_lateOrders_7 : decode cX11_lateOrders 7 = .ok (.astore_n 1, 1) := by decide +kernel
theorem dX11_lateOrders_8 : decode cX11_lateOrders 8 = .ok (.iconst 0, 1) := by decide +kernel
theorem dX11_lateOrders_9 : decode cX11_lateOrders 9 = .ok (.istore_n 2, 1) := by decide +kernel
theorem dX11_lateOrders_10 : decode cX11_lateOrders 10 = .ok (.iconst 0, 1) := by decide +kernel
theorem dX11_lateOrders_11 : decode cX11_lateOrders 11 = .ok (.istore_n 3, 1) := by decide +kernel
theorem dX11_lateOrders_12 : decode cX11_lateOrders 12 = .ok (.iload_n 3, 1) := by decide +kernel
theorem dX11_lateOrders_13 : decode cX11_lateOrders 13 = .ok (.aload_n 1, 1) := by decide +kernel
theorem dX11_lateOrders_14 : decode cX11_lateOrders 14 = .ok (.getfield 133, 3) := by decide +kernel
theorem dX11_lateOrders_17 : decode cX11_lateOrders 17 = .ok (.if_icmp .ge 46, 3) := by decide +kernel
theorem dX11_lateOrders_20 : decode cX11_lateOrders 20 = .ok (.aload_n 1, 1) := by decide +kernel
theorem dX11_lateOrders_21 : decode cX11_lateOrders 21 = .ok (.iload_n 3, 1) := by decide +kernel
theorem dX11_lateOrders_22 : decode cX11_lateOrders 22 = .ok (.invokevirtual 213, 3) := by decide +kernel
theorem dX11_lateOrders_25 : decode cX11_lateOrders 25 = .ok (.istore 4, 2) := by decide +kernel
theorem dX11_lateOrders_27 : decode cX11_lateOrders 27 = .ok (.iload 4, 2) := by decide +kernel
theorem dX11_lateOrders_29 : decode cX11_lateOrders 29 = .ok (.ifCond .le 28, 3) := by decide +kernel
theorem dX11_lateOrders_32 : decode cX11_lateOrders 32 = .ok (.aload_n 0, 1) := by decide +kernel
theorem dX11_lateOrders_33 : decode cX11_lateOrders 33 = .ok (.aload_n 1, 1) := by decide +kernel
theorem dX11_lateOrders_34 : decode cX11_lateOrders 34 = .ok (.iload_n 3, 1) := by decide +kernel
theorem dX11_lateOrders_35 : decode cX11_lateOrders 35 = .ok (.invokevirtual 220, 3) := by decide +kernel
theorem dX11_lateOrders_38 : decode cX11_lateOrders 38 = .ok (.iload 4, 2) := by decide +kernel
theorem dX11_lateOrders_40 : decode cX11_lateOrders 40 = .ok (.invokevirtual 240, 3) := by decide +kernel
theorem dX11_lateOrders_43 : decode cX11_lateOrders 43 = .ok (.aload_n 1, 1) := by decide +kernel
theorem dX11_lateOrders_44 : decode cX11_lateOrders 44 = .ok (.iload_n 3, 1) := by decide +kernel
theorem dX11_lateOrders_45 : decode cX11_lateOrders 45 = .ok (.invokevirtual 228, 3) := by decide +kernel
theorem dX11_lateOrders_48 : decode cX11_lateOrders 48 = .ok (.if_icmp .le 9, 3) := by decide +kernel
theorem dX11_lateOrders_51 : decode cX11_lateOrders 51 = .ok (.iload_n 2, 1) := by decide +kernel
theorem dX11_lateOrders_52 : decode cX11_lateOrders 52 = .ok (.iconst 1, 1) := by decide +kernel
theorem dX11_lateOrders_53 : decode cX11_lateOrders 53 = .ok (.iload_n 3, 1) := by decide +kernel
theorem dX11_lateOrders_54 : decode cX11_lateOrders 54 = .ok (.ishl, 1) := by decide +kernel
theorem dX11_lateOrders_55 : decode cX11_lateOrders 55 = .ok (.ior, 1) := by decide +kernel
theorem dX11_lateOrders_56 : decode cX11_lateOrders 56 = .ok (.istore_n 2, 1) := by decide +kernel
theorem dX11_lateOrders_57 : decode cX11_lateOrders 57 = .ok (.iinc 3 1, 3) := by decide +kernel
theorem dX11_lateOrders_60 : decode cX11_lateOrders 60 = .ok (.goto (-48), 3) := by decide +kernel
theorem dX11_lateOrders_63 : decode cX11_lateOrders 63 = .ok (.iload_n 2, 1) := by decide +kernel
theorem dX11_lateOrders_64 : decode cX11_lateOrders 64 = .ok (.ireturn, 1) := by decide +kernel
theorem dX11_wouldGet_0 : decode cX11_wouldGet 0 = .ok (.aload_n 0, 1) := by decide +kernel
theorem dX11_wouldGet_1 : decode cX11_wouldGet 1 = .ok (.iload_n 1, 1) := by decide +kernel
theorem dX11_wouldGet_2 : decode cX11_wouldGet 2 = .ok (.invokevirtual 207, 3) := by decide +kernel
theorem dX11_wouldGet_5 : decode cX11_wouldGet 5 = .ok (.aload_n 0, 1) := by decide +kernel
theorem dX11_wouldGet_6 : decode cX11_wouldGet 6 = .ok (.getfield 39, 3) := by decide +kernel
theorem dX11_wouldGet_9 : decode cX11_wouldGet 9 = .ok (.aload_n 0, 1) := by decide +kernel
theorem dX11_wouldGet_10 : decode cX11_wouldGet 10 = .ok (.getfield 57, 3) := by decide +kernel
theorem dX11_wouldGet_13 : decode cX11_wouldGet 13 = .ok (.aload_n 0, 1) := by decide +kernel
theorem dX11_wouldGet_14 : decode cX11_wouldGet 14 = .ok (.getfield 64, 3) := by decide +kernel
theorem dX11_wouldGet_17 : decode cX11_wouldGet 17 = .ok (.invokevirtual 249, 3) := by decide +kernel
theorem dX11_wouldGet_20 : decode cX11_wouldGet 20 = .ok (.aload_n 0, 1) := by decide +kernel
theorem dX11_wouldGet_21 : decode cX11_wouldGet 21 = .ok (.getfield 39, 3) := by decide +kernel
theorem dX11_wouldGet_24 : decode cX11_wouldGet 24 = .ok (.iload_n 1, 1) := by decide +kernel
theorem dX11_wouldGet_25 : decode cX11_wouldGet 25 = .ok (.invokevirtual 253, 3) := by decide +kernel
theorem dX11_wouldGet_28 : decode cX11_wouldGet 28 = .ok (.ireturn, 1) := by decide +kernel
theorem dX11_rungOf_0 : decode cX11_rungOf 0 = .ok (.aload_n 0, 1) := by decide +kernel
theorem dX11_rungOf_1 : decode cX11_rungOf 1 = .ok (.iload_n 1, 1) := by decide +kernel
theorem dX11_rungOf_2 : decode cX11_rungOf 2 = .ok (.invokevirtual 207, 3) := by decide +kernel
theorem dX11_rungOf_5 : decode cX11_rungOf 5 = .ok (.aload_n 0, 1) := by decide +kernel
theorem dX11_rungOf_6 : decode cX11_rungOf 6 = .ok (.getfield 39, 3) := by decide +kernel
theorem dX11_rungOf_9 : decode cX11_rungOf 9 = .ok (.aload_n 0, 1) := by decide +kernel
theorem dX11_rungOf_10 : decode cX11_rungOf 10 = .ok (.getfield 57, 3) := by decide +kernel
theorem dX11_rungOf_13 : decode cX11_rungOf 13 = .ok (.aload_n 0, 1) := by decide +kernel
theorem dX11_rungOf_14 : decode cX11_rungOf 14 = .ok (.getfield 64, 3) := by decide +kernel
theorem dX11_rungOf_17 : decode cX11_rungOf 17 = .ok (.invokevirtual 249, 3) := by decide +kernel
theorem dX11_rungOf_20 : decode cX11_rungOf 20 = .ok (.aload_n 0, 1) := by decide +kernel
theorem dX11_rungOf_21 : decode cX11_rungOf 21 = .ok (.getfield 39, 3) := by decide +kernel
theorem dX11_rungOf_24 : decode cX11_rungOf 24 = .ok (.iload_n 1, 1) := by decide +kernel
theorem dX11_rungOf_25 : decode cX11_rungOf 25 = .ok (.invokevirtual 256, 3) := by decide +kernel
theorem dX11_rungOf_28 : decode cX11_rungOf 28 = .ok (.ireturn, 1) := by decide +kernel
theorem dX11_rungUnits_0 : decode cX11_rungUnits 0 = .ok (.aload_n 0, 1) := by decide +kernel
theorem dX11_rungUnits_1 : decode cX11_rungUnits 1 = .ok (.iload_n 1, 1) := by decide +kernel
theorem dX11_rungUnits_2 : decode cX11_rungUnits 2 = .ok (.invokevirtual 259, 3) := by decide +kernel
theorem dX11_rungUnits_5 : decode cX11_rungUnits 5 = .ok (.aload_n 0, 1) := by decide +kernel
theorem dX11_rungUnits_6 : decode cX11_rungUnits 6 = .ok (.getfield 39, 3) := by decide +kernel
theorem dX11_rungUnits_9 : decode cX11_rungUnits 9 = .ok (.aload_n 0, 1) := by decide +kernel
theorem dX11_rungUnits_10 : decode cX11_rungUnits 10 = .ok (.getfield 57, 3) := by decide +kernel
theorem dX11_rungUnits_13 : decode cX11_rungUnits 13 = .ok (.aload_n 0, 1) := by decide +kernel
theorem dX11_rungUnits_14 : decode cX11_rungUnits 14 = .ok (.getfield 64, 3) := by decide +kernel
theorem dX11_rungUnits_17 : decode cX11_rungUnits 17 = .ok (.invokevirtual 249, 3) := by decide +kernel
theorem dX11_rungUnits_20 : decode cX11_rungUnits 20 = .ok (.aload_n 0, 1) := by decide +kernel
theorem dX11_rungUnits_21 : decode cX11_rungUnits 21 = .ok (.getfield 39, 3) := by decide +kernel
theorem dX11_rungUnits_24 : decode cX11_rungUnits 24 = .ok (.iload_n 1, 1) := by decide +kernel
theorem dX11_rungUnits_25 : decode cX11_rungUnits 25 = .ok (.invokevirtual 262, 3) := by decide +kernel
theorem dX11_rungUnits_28 : decode cX11_rungUnits 28 = .ok (.ireturn, 1) := by decide +kernel
theorem dX11_missingPieces_0 : decode cX11_missingPieces 0 = .ok (.aload_n 0, 1) := by decide +kernel
theorem dX11_missingPieces_1 : decode cX11_missingPieces 1 = .ok (.iload_n 1, 1) := by decide +kernel
theorem dX11_missingPieces_2 : decode cX11_missingPieces 2 = .ok (.invokevirtual 207, 3) := by decide +kernel
theorem dX11_missingPieces_5 : decode cX11_missingPieces 5 = .ok (.iconst 0, 1) := by decide +kernel
theorem dX11_missingPieces_6 : decode cX11_missingPieces 6 = .ok (.istore_n 2, 1) := by decide +kernel
theorem dX11_missingPieces_7 : decode cX11_missingPieces 7 = .ok (.iconst 0, 1) := by decide +kernel
theorem dX11_missingPieces_8 : decode cX11_missingPieces 8 = .ok (.istore_n 3, 1) := by decide +kernel
theorem dX11_missingPieces_9 : decode cX11_missingPieces 9 = .ok (.iload_n 3, 1) := by decide +kernel
theorem dX11_missingPieces_10 : decode cX11_missingPieces 10 = .ok (.aload_n 0, 1) := by decide +kernel
theorem dX11_missingPieces_11 : decode cX11_missingPieces 11 = .ok (.getfield 57, 3) := by decide +kernel
theorem dX11_missingPieces_14 : decode cX11_missingPieces 14 = .ok (.getfield 126, 3) := by decide +kernel
theorem dX11_missingPieces_17 : decode cX11_missingPieces 17 = .ok (.if_icmp .ge 18, 3) := by decide +kernel
theorem dX11_missingPieces_20 : decode cX11_missingPieces 20 = .ok (.iload_n 2, 1) := by decide +kernel
theorem dX11_missingPieces_21 : decode cX11_missingPieces 21 = .ok (.aload_n 0, 1) := by decide +kernel
theorem dX11_missingPieces_22 : decode cX11_missingPieces 22 = .ok (.iload_n 1, 1) := by decide +kernel
theorem dX11_missingPieces_23 : decode cX11_missingPieces 23 = .ok (.iload_n 3, 1) := by decide +kernel
theorem dX11_missingPieces_24 : decode cX11_missingPieces 24 = .ok (.invokevirtual 234, 3) := by decide +kernel
theorem dX11_missingPieces_27 : decode cX11_missingPieces 27 = .ok (.iadd, 1) := by decide +kernel
theorem dX11_missingPieces_28 : decode cX11_missingPieces 28 = .ok (.istore_n 2, 1) := by decide +kernel
theorem dX11_missingPieces_29 : decode cX11_missingPieces 29 = .ok (.iinc 3 1, 3) := by decide +kernel
theorem dX11_missingPieces_32 : decode cX11_missingPieces 32 = .ok (.goto (-23), 3) := by decide +kernel
theorem dX11_missingPieces_35 : decode cX11_missingPieces 35 = .ok (.iload_n 2, 1) := by decide +kernel
theorem dX11_missingPieces_36 : decode cX11_missingPieces 36 = .ok (.ireturn, 1) := by decide +kernel
theorem dX11_buildableAfter_0 : decode cX11_buildableAfter 0 = .ok (.aload_n 0, 1) := by decide +kernel
theorem dX11_buildableAfter_1 : decode cX11_buildableAfter 1 = .ok (.iload_n 1, 1) := by decide +kernel
theorem dX11_buildableAfter_2 : decode cX11_buildableAfter 2 = .ok (.invokevirtual 150, 3) := by decide +kernel
theorem dX11_buildableAfter_5 : decode cX11_buildableAfter 5 = .ok (.aload_n 0, 1) := by decide +kernel
theorem dX11_buildableAfter_6 : decode cX11_buildableAfter 6 = .ok (.iload_n 2, 1) := by decide +kernel
theorem dX11_buildableAfter_7 : decode cX11_buildableAfter 7 = .ok (.invokevirtual 150, 3) := by decide +kernel
theorem dX11_buildableAfter_10 : decode cX11_buildableAfter 10 = .ok (.iload_n 1, 1) := by decide +kernel
theorem dX11_buildableAfter_11 : decode cX11_buildableAfter 11 = .ok (.iload_n 2, 1) := by decide +kernel
theorem dX11_buildableAfter_12 : decode cX11_buildableAfter 12 = .ok (.if_icmp .eq 18, 3) := by decide +kernel
theorem dX11_buildableAfter_15 : decode cX11_buildableAfter 15 = .ok (.iload_n 3, 1) := by decide +kernel
theorem dX11_buildableAfter_16 : decode cX11_buildableAfter 16 = .ok (.ifCond .lt 14, 3) := by decide +kernel
theorem dX11_buildableAfter_19 : decode cX11_buildableAfter 19 = .ok (.iload_n 3, 1) := by decide +kernel
theorem dX11_buildableAfter_20 : decode cX11_buildableAfter 20 = .ok (.sipush 999, 3) := by decide +kernel
theorem dX11_buildableAfter_23 : decode cX11_buildableAfter 23 = .ok (.if_icmp .gt 7, 3) := by decide +kernel
theorem dX11_buildableAfter_26 : decode cX11_buildableAfter 26 = .ok (.iconst 1, 1) := by decide +kernel
theorem dX11_buildableAfter_27 : decode cX11_buildableAfter 27 = .ok (.goto 4, 3) := by decide +kernel
theorem dX11_buildableAfter_30 : decode cX11_buildableAfter 30 = .ok (.iconst 0, 1) := by decide +kernel
theorem dX11_buildableAfter_31 : decode cX11_buildableAfter 31 = .ok (.invokestatic 199, 3) := by decide +kernel
theorem dX11_buildableAfter_34 : decode cX11_buildableAfter 34 = .ok (.aload_n 0, 1) := by decide +kernel
theorem dX11_buildableAfter_35 : decode cX11_buildableAfter 35 = .ok (.getfield 64, 3) := by decide +kernel
theorem dX11_buildableAfter_38 : decode cX11_buildableAfter 38 = .ok (.getfield 141, 3) := by decide +kernel
theorem dX11_buildableAfter_41 : decode cX11_buildableAfter 41 = .ok (.aload_n 0, 1) := by decide +kernel
theorem dX11_buildableAfter_42 : decode cX11_buildableAfter 42 = .ok (.getfield 50, 3) := by decide +kernel
theorem dX11_buildableAfter_45 : decode cX11_buildableAfter 45 = .ok (.invokevirtual 188, 3) := by decide +kernel
theorem dX11_buildableAfter_48 : decode cX11_buildableAfter 48 = .ok (.aload_n 0, 1) := by decide +kernel
theorem dX11_buildableAfter_49 : decode cX11_buildableAfter 49 = .ok (.getfield 57, 3) := by decide +kernel
theorem dX11_buildableAfter_52 : decode cX11_buildableAfter 52 = .ok (.iload_n 2, 1) := by decide +kernel
theorem dX11_buildableAfter_53 : decode cX11_buildableAfter 53 = .ok (.aload_n 0, 1) := by decide +kernel
theorem dX11_buildableAfter_54 : decode cX11_buildableAfter 54 = .ok (.getfield 50, 3) := by decide +kernel
theorem dX11_buildableAfter_57 : decode cX11_buildableAfter 57 = .ok (.invokevirtual 192, 3) := by decide +kernel
theorem dX11_buildableAfter_60 : decode cX11_buildableAfter 60 = .ok (.iload_n 3, 1) := by decide +kernel
theorem dX11_buildableAfter_61 : decode cX11_buildableAfter 61 = .ok (.if_icmp .ge 5, 3) := by decide +kernel
theorem dX11_buildableAfter_64 : decode cX11_buildableAfter 64 = .ok (.iconst (-1), 1) := by decide +kernel
theorem dX11_buildableAfter_65 : decode cX11_buildableAfter 65 = .ok (.ireturn, 1) := by decide +kernel
theorem dX11_buildableAfter_66 : decode cX11_buildableAfter 66 = .ok (.aload_n 0, 1) := by decide +kernel
theorem dX11_buildableAfter_67 : decode cX11_buildableAfter 67 = .ok (.getfield 57, 3) := by decide +kernel
theorem dX11_buildableAfter_70 : decode cX11_buildableAfter 70 = .ok (.iload_n 2, 1) := by decide +kernel
theorem dX11_buildableAfter_71 : decode cX11_buildableAfter 71 = .ok (.iload_n 3, 1) := by decide +kernel
theorem dX11_buildableAfter_72 : decode cX11_buildableAfter 72 = .ok (.aload_n 0, 1) := by decide +kernel
theorem dX11_buildableAfter_73 : decode cX11_buildableAfter 73 = .ok (.getfield 50, 3) := by decide +kernel
theorem dX11_buildableAfter_76 : decode cX11_buildableAfter 76 = .ok (.invokevirtual 265, 3) := by decide +kernel
theorem dX11_buildableAfter_79 : decode cX11_buildableAfter 79 = .ok (.aload_n 0, 1) := by decide +kernel
theorem dX11_buildableAfter_80 : decode cX11_buildableAfter 80 = .ok (.getfield 57, 3) := by decide +kernel
theorem dX11_buildableAfter_83 : decode cX11_buildableAfter 83 = .ok (.iload_n 1, 1) := by decide +kernel
theorem dX11_buildableAfter_84 : decode cX11_buildableAfter 84 = .ok (.aload_n 0, 1) := by decide +kernel
theorem dX11_buildableAfter_85 : decode cX11_buildableAfter 85 = .ok (.getfield 50, 3) := by decide +kernel
theorem dX11_buildableAfter_88 : decode cX11_buildableAfter 88 = .ok (.invokevirtual 192, 3) := by decide +kernel
theorem dX11_buildableAfter_91 : decode cX11_buildableAfter 91 = .ok (.ireturn, 1) := by decide +kernel
theorem dX11_coveredOrders_0 : decode cX11_coveredOrders 0 = .ok (.aload_n 0, 1) := by decide +kernel
theorem dX11_coveredOrders_1 : decode cX11_coveredOrders 1 = .ok (.getfield 39, 3) := by decide +kernel
theorem dX11_coveredOrders_4 : decode cX11_coveredOrders 4 = .ok (.aload_n 0, 1) := by decide +kernel
theorem dX11_coveredOrders_5 : decode cX11_coveredOrders 5 = .ok (.getfield 57, 3) := by decide +kernel
theorem dX11_coveredOrders_8 : decode cX11_coveredOrders 8 = .ok (.aload_n 0, 1) := by decide +kernel
theorem dX11_coveredOrders_9 : decode cX11_coveredOrders 9 = .ok (.getfield 64, 3) := by decide +kernel
theorem dX11_coveredOrders_12 : decode cX11_coveredOrders 12 = .ok (.invokevirtual 269, 3) := by decide +kernel
theorem dX11_coveredOrders_15 : decode cX11_coveredOrders 15 = .ok (.ireturn, 1) := by decide +kernel
theorem dX11_promiseOfAll_0 : decode cX11_promiseOfAll 0 = .ok (.aload_n 0, 1) := by decide +kernel
theorem dX11_promiseOfAll_1 : decode cX11_promiseOfAll 1 = .ok (.getfield 64, 3) := by decide +kernel
theorem dX11_promiseOfAll_4 : decode cX11_promiseOfAll 4 = .ok (.getfield 141, 3) := by decide +kernel
theorem dX11_promiseOfAll_7 : decode cX11_promiseOfAll 7 = .ok (.getfield 173, 3) := by decide +kernel
theorem dX11_promiseOfAll_10 : decode cX11_promiseOfAll 10 = .ok (.istore_n 1, 1) := by decide +kernel
theorem dX11_promiseOfAll_11 : decode cX11_promiseOfAll 11 = .ok (.iconst 0, 1) := by decide +kernel
theorem dX11_promiseOfAll_12 : decode cX11_promiseOfAll 12 = .ok (.istore_n 2, 1) := by decide +kernel
theorem dX11_promiseOfAll_13 : decode cX11_promiseOfAll 13 = .ok (.iload_n 2, 1) := by decide +kernel
theorem dX11_promiseOfAll_14 : decode cX11_promiseOfAll 14 = .ok (.aload_n 0, 1) := by decide +kernel
theorem dX11_promiseOfAll_15 : decode cX11_promiseOfAll 15 = .ok (.getfield 57, 3) := by decide +kernel
theorem dX11_promiseOfAll_18 : decode cX11_promiseOfAll 18 = .ok (.getfield 126, 3) := by decide +kernel
theorem dX11_promiseOfAll_21 : decode cX11_promiseOfAll 21 = .ok (.if_icmp .ge 37, 3) := by decide +kernel
theorem dX11_promiseOfAll_24 : decode cX11_promiseOfAll 24 = .ok (.aload_n 0, 1) := by decide +kernel
theorem dX11_promiseOfAll_25 : decode cX11_promiseOfAll 25 = .ok (.getfield 64, 3) := by decide +kernel
theorem dX11_promiseOfAll_28 : decode cX11_promiseOfAll 28 = .ok (.aload_n 0, 1) := by decide +kernel
theorem dX11_promiseOfAll_29 : decode cX11_promiseOfAll 29 = .ok (.getfield 57, 3) := by decide +kernel
theorem dX11_promiseOfAll_32 : decode cX11_promiseOfAll 32 = .ok (.iload_n 2, 1) := by decide +kernel
theorem dX11_promiseOfAll_33 : decode cX11_promiseOfAll 33 = .ok (.invokevirtual 273, 3) := by decide +kernel
theorem dX11_promiseOfAll_36 : decode cX11_promiseOfAll 36 = .ok (.istore_n 3, 1) := by decide +kernel
theorem dX11_promiseOfAll_37 : decode cX11_promiseOfAll 37 = .ok (.iload_n 3, 1) := by decide +kernel
theorem dX11_promiseOfAll_38 : decode cX11_promiseOfAll 38 = .ok (.ifCond .le 14, 3) := by decide +kernel
theorem dX11_promiseOfAll_41 : decode cX11_promiseOfAll 41 = .ok (.iload_n 1, 1) := by decide +kernel
theorem dX11_promiseOfAll_42 : decode cX11_promiseOfAll 42 = .ok (.aload_n 0, 1) := by decide +kernel
theorem dX11_promiseOfAll_43 : decode cX11_promiseOfAll 43 = .ok (.iload_n 2, 1) := by decide +kernel
theorem dX11_promiseOfAll_44 : decode cX11_promiseOfAll 44 = .ok (.iload_n 3, 1) := by decide +kernel
theorem dX11_promiseOfAll_45 : decode cX11_promiseOfAll 45 = .ok (.invokevirtual 246, 3) := by decide +kernel
theorem dX11_promiseOfAll_48 : decode cX11_promiseOfAll 48 = .ok (.invokestatic 277, 3) := by decide +kernel
theorem dX11_promiseOfAll_51 : decode cX11_promiseOfAll 51 = .ok (.istore_n 1, 1) := by decide +kernel
theorem dX11_promiseOfAll_52 : decode cX11_promiseOfAll 52 = .ok (.iinc 2 1, 3) := by decide +kernel
theorem dX11_promiseOfAll_55 : decode cX11_promiseOfAll 55 = .ok (.goto (-42), 3) := by decide +kernel
theorem dX11_promiseOfAll_58 : decode cX11_promiseOfAll 58 = .ok (.iload_n 1, 1) := by decide +kernel
theorem dX11_promiseOfAll_59 : decode cX11_promiseOfAll 59 = .ok (.ireturn, 1) := by decide +kernel
theorem dX11_addOrder_0 : decode cX11_addOrder 0 = .ok (.aload_n 0, 1) := by decide +kernel
theorem dX11_addOrder_1 : decode cX11_addOrder 1 = .ok (.iload_n 1, 1) := by decide +kernel
theorem dX11_addOrder_2 : decode cX11_addOrder 2 = .ok (.invokevirtual 150, 3) := by decide +kernel
theorem dX11_addOrder_5 : decode cX11_addOrder 5 = .ok (.iload_n 2, 1) := by decide +kernel
theorem dX11_addOrder_6 : decode cX11_addOrder 6 = .ok (.iconst 1, 1) := by decide +kernel
theorem dX11_addOrder_7 : decode cX11_addOrder 7 = .ok (.if_icmp .lt 13, 3) := by decide +kernel
theorem dX11_addOrder_10 : decode cX11_addOrder 10 = .ok (.iload_n 2, 1) := by decide +kernel
theorem dX11_addOrder_11 : decode cX11_addOrder 11 = .ok (.bipush 99, 2) := by decide +kernel
theorem dX11_addOrder_13 : decode cX11_addOrder 13 = .ok (.if_icmp .gt 7, 3) := by decide +kernel
theorem dX11_addOrder_16 : decode cX11_addOrder 16 = .ok (.iconst 1, 1) := by decide +kernel
theorem dX11_addOrder_17 : decode cX11_addOrder 17 = .ok (.goto 4, 3) := by decide +kernel
theorem dX11_addOrder_20 : decode cX11_addOrder 20 = .ok (.iconst 0, 1) := by decide +kernel
theorem dX11_addOrder_21 : decode cX11_addOrder 21 = .ok (.invokestatic 199, 3) := by decide +kernel
theorem dX11_addOrder_24 : decode cX11_addOrder 24 = .ok (.iload_n 3, 1) := by decide +kernel
theorem dX11_addOrder_25 : decode cX11_addOrder 25 = .ok (.ifCond .lt 13, 3) := by decide +kernel
theorem dX11_addOrder_28 : decode cX11_addOrder 28 = .ok (.iload_n 3, 1) := by decide +kernel
theorem dX11_addOrder_29 : decode cX11_addOrder 29 = .ok (.bipush 9, 2) := by decide +kernel
theorem dX11_addOrder_31 : decode cX11_addOrder 31 = .ok (.if_icmp .gt 7, 3) := by decide +kernel
theorem dX11_addOrder_34 : decode cX11_addOrder 34 = .ok (.iconst 1, 1) := by decide +kernel
theorem dX11_addOrder_35 : decode cX11_addOrder 35 = .ok (.goto 4, 3) := by decide +kernel
theorem dX11_addOrder_38 : decode cX11_addOrder 38 = .ok (.iconst 0, 1) := by decide +kernel
theorem dX11_addOrder_39 : decode cX11_addOrder 39 = .ok (.invokestatic 199, 3) := by decide +kernel
theorem dX11_addOrder_42 : decode cX11_addOrder 42 = .ok (.iload 4, 2) := by decide +kernel
theorem dX11_addOrder_44 : decode cX11_addOrder 44 = .ok (.ifCond .lt 15, 3) := by decide +kernel
theorem dX11_addOrder_47 : decode cX11_addOrder 47 = .ok (.iload 4, 2) := by decide +kernel
theorem dX11_addOrder_49 : decode cX11_addOrder 49 = .ok (.sipush 999, 3) := by decide +kernel
theorem dX11_addOrder_52 : decode cX11_addOrder 52 = .ok (.if_icmp .gt 7, 3) := by decide +kernel
theorem dX11_addOrder_55 : decode cX11_addOrder 55 = .ok (.iconst 1, 1) := by decide +kernel
theorem dX11_addOrder_56 : decode cX11_addOrder 56 = .ok (.goto 4, 3) := by decide +kernel
theorem dX11_addOrder_59 : decode cX11_addOrder 59 = .ok (.iconst 0, 1) := by decide +kernel
theorem dX11_addOrder_60 : decode cX11_addOrder 60 = .ok (.invokestatic 199, 3) := by decide +kernel
theorem dX11_addOrder_63 : decode cX11_addOrder 63 = .ok (.aload_n 0, 1) := by decide +kernel
theorem dX11_addOrder_64 : decode cX11_addOrder 64 = .ok (.getfield 64, 3) := by decide +kernel
theorem dX11_addOrder_67 : decode cX11_addOrder 67 = .ok (.getfield 129, 3) := by decide +kernel
theorem dX11_addOrder_70 : decode cX11_addOrder 70 = .ok (.getfield 133, 3) := by decide +kernel
theorem dX11_addOrder_73 : decode cX11_addOrder 73 = .ok (.bipush 20, 2) := by decide +kernel
theorem dX11_addOrder_75 : decode cX11_addOrder 75 = .ok (.if_icmp .ge 7, 3) := by decide +kernel
theorem dX11_addOrder_78 : decode cX11_addOrder 78 = .ok (.iconst 1, 1) := by decide +kernel
theorem dX11_addOrder_79 : decode cX11_addOrder 79 = .ok (.goto 4, 3) := by decide +kernel
theorem dX11_addOrder_82 : decode cX11_addOrder 82 = .ok (.iconst 0, 1) := by decide +kernel
theorem dX11_addOrder_83 : decode cX11_addOrder 83 = .ok (.invokestatic 282, 3) := by decide +kernel
theorem dX11_addOrder_86 : decode cX11_addOrder 86 = .ok (.aload_n 0, 1) := by decide +kernel
theorem dX11_addOrder_87 : decode cX11_addOrder 87 = .ok (.getfield 32, 3) := by decide +kernel
theorem dX11_addOrder_90 : decode cX11_addOrder 90 = .ok (.aload_n 0, 1) := by decide +kernel
theorem dX11_addOrder_91 : decode cX11_addOrder 91 = .ok (.getfield 64, 3) := by decide +kernel
theorem dX11_addOrder_94 : decode cX11_addOrder 94 = .ok (.invokevirtual 285, 3) := by decide +kernel
theorem dX11_addOrder_97 : decode cX11_addOrder 97 = .ok (.aload_n 0, 1) := by decide +kernel
theorem dX11_addOrder_98 : decode cX11_addOrder 98 = .ok (.getfield 64, 3) := by decide +kernel
theorem dX11_addOrder_101 : decode cX11_addOrder 101 = .ok (.getfield 129, 3) := by decide +kernel
theorem dX11_addOrder_104 : decode cX11_addOrder 104 = .ok (.iload_n 1, 1) := by decide +kernel
theorem dX11_addOrder_105 : decode cX11_addOrder 105 = .ok (.iload_n 2, 1) := by decide +kernel
theorem dX11_addOrder_106 : decode cX11_addOrder 106 = .ok (.iload_n 3, 1) := by decide +kernel
theorem dX11_addOrder_107 : decode cX11_addOrder 107 = .ok (.iload 4, 2) := by decide +kernel
theorem dX11_addOrder_109 : decode cX11_addOrder 109 = .ok (.iload 5, 2) := by decide +kernel
theorem dX11_addOrder_111 : decode cX11_addOrder 111 = .ok (.invokevirtual 289, 3) := by decide +kernel
theorem dX11_addOrder_114 : decode cX11_addOrder 114 = .ok (.ireturn, 1) := by decide +kernel
theorem dX11_cancel_0 : decode cX11_cancel 0 = .ok (.aload_n 0, 1) := by decide +kernel
theorem dX11_cancel_1 : decode cX11_cancel 1 = .ok (.iload_n 1, 1) := by decide +kernel
theorem dX11_cancel_2 : decode cX11_cancel 2 = .ok (.invokevirtual 207, 3) := by decide +kernel
theorem dX11_cancel_5 : decode cX11_cancel 5 = .ok (.aload_n 0, 1) := by decide +kernel
theorem dX11_cancel_6 : decode cX11_cancel 6 = .ok (.iload_n 1, 1) := by decide +kernel
theorem dX11_cancel_7 : decode cX11_cancel 7 = .ok (.invokevirtual 243, 3) := by decide +kernel
theorem dX11_cancel_10 : decode cX11_cancel 10 = .ok (.ifCond .ne 7, 3) := by decide +kernel
theorem dX11_cancel_13 : decode cX11_cancel 13 = .ok (.iconst 1, 1) := by decide +kernel
theorem dX11_cancel_14 : decode cX11_cancel 14 = .ok (.goto 4, 3) := by decide +kernel
theorem dX11_cancel_17 : decode cX11_cancel 17 = .ok (.iconst 0, 1) := by decide +kernel
theorem dX11_cancel_18 : decode cX11_cancel 18 = .ok (.invokestatic 282, 3) := by decide +kernel
theorem dX11_cancel_21 : decode cX11_cancel 21 = .ok (.aload_n 0, 1) := by decide +kernel
theorem dX11_cancel_22 : decode cX11_cancel 22 = .ok (.getfield 32, 3) := by decide +kernel
theorem dX11_cancel_25 : decode cX11_cancel 25 = .ok (.aload_n 0, 1) := by decide +kernel
theorem dX11_cancel_26 : decode cX11_cancel 26 = .ok (.getfield 64, 3) := by decide +kernel
theorem dX11_cancel_29 : decode cX11_cancel 29 = .ok (.invokevirtual 285, 3) := by decide +kernel
theorem dX11_cancel_32 : decode cX11_cancel 32 = .ok (.aload_n 0, 1) := by decide +kernel
theorem dX11_cancel_33 : decode cX11_cancel 33 = .ok (.getfield 64, 3) := by decide +kernel
theorem dX11_cancel_36 : decode cX11_cancel 36 = .ok (.getfield 129, 3) := by decide +kernel
theorem dX11_cancel_39 : decode cX11_cancel 39 = .ok (.iload_n 1, 1) := by decide +kernel
theorem dX11_cancel_40 : decode cX11_cancel 40 = .ok (.invokevirtual 216, 3) := by decide +kernel
theorem dX11_cancel_43 : decode cX11_cancel 43 = .ok (.istore_n 2, 1) := by decide +kernel
theorem dX11_cancel_44 : decode cX11_cancel 44 = .ok (.aload_n 0, 1) := by decide +kernel
theorem dX11_cancel_45 : decode cX11_cancel 45 = .ok (.getfield 64, 3) := by decide +kernel
theorem dX11_cancel_48 : decode cX11_cancel 48 = .ok (.aload_n 0, 1) := by decide +kernel
theorem dX11_cancel_49 : decode cX11_cancel 49 = .ok (.getfield 57, 3) := by decide +kernel
theorem dX11_cancel_52 : decode cX11_cancel 52 = .ok (.iload_n 1, 1) := by decide +kernel
theorem dX11_cancel_53 : decode cX11_cancel 53 = .ok (.iload_n 2, 1) := by decide +kernel
theorem dX11_cancel_54 : decode cX11_cancel 54 = .ok (.ineg, 1) := by decide +kernel
theorem dX11_cancel_55 : decode cX11_cancel 55 = .ok (.invokevirtual 293, 3) := by decide +kernel
theorem dX11_cancel_58 : decode cX11_cancel 58 = .ok (.aload_n 0, 1) := by decide +kernel
theorem dX11_cancel_59 : decode cX11_cancel 59 = .ok (.getfield 64, 3) := by decide +kernel
theorem dX11_cancel_62 : decode cX11_cancel 62 = .ok (.getfield 129, 3) := by decide +kernel
theorem dX11_cancel_65 : decode cX11_cancel 65 = .ok (.iload_n 1, 1) := by decide +kernel
theorem dX11_cancel_66 : decode cX11_cancel 66 = .ok (.invokevirtual 297, 3) := by decide +kernel
theorem dX11_cancel_69 : decode cX11_cancel 69 = .ok (.iload_n 2, 1) := by decide +kernel
theorem dX11_cancel_70 : decode cX11_cancel 70 = .ok (.ireturn, 1) := by decide +kernel
theorem dX11_reserve_0 : decode cX11_reserve 0 = .ok (.aload_n 0, 1) := by decide +kernel
theorem dX11_reserve_1 : decode cX11_reserve 1 = .ok (.iload_n 1, 1) := by decide +kernel
theorem dX11_reserve_2 : decode cX11_reserve 2 = .ok (.invokevirtual 207, 3) := by decide +kernel
theorem dX11_reserve_5 : decode cX11_reserve 5 = .ok (.iload_n 2, 1) := by decide +kernel
theorem dX11_reserve_6 : decode cX11_reserve 6 = .ok (.iconst 1, 1) := by decide +kernel
theorem dX11_reserve_7 : decode cX11_reserve 7 = .ok (.if_icmp .lt 7, 3) := by decide +kernel
theorem dX11_reserve_10 : decode cX11_reserve 10 = .ok (.iconst 1, 1) := by decide +kernel
theorem dX11_reserve_11 : decode cX11_reserve 11 = .ok (.goto 4, 3) := by decide +kernel
theorem dX11_reserve_14 : decode cX11_reserve 14 = .ok (.iconst 0, 1) := by decide +kernel
theorem dX11_reserve_15 : decode cX11_reserve 15 = .ok (.invokestatic 199, 3) := by decide +kernel
theorem dX11_reserve_18 : decode cX11_reserve 18 = .ok (.aload_n 0, 1) := by decide +kernel
theorem dX11_reserve_19 : decode cX11_reserve 19 = .ok (.getfield 64, 3) := by decide +kernel
theorem dX11_reserve_22 : decode cX11_reserve 22 = .ok (.getfield 129, 3) := by decide +kernel
theorem dX11_reserve_25 : decode cX11_reserve 25 = .ok (.astore_n 3, 1) := by decide +kernel
theorem dX11_reserve_26 : decode cX11_reserve 26 = .ok (.iload_n 2, 1) := by decide +kernel
theorem dX11_reserve_27 : decode cX11_reserve 27 = .ok (.aload_n 3, 1) := by decide +kernel
theorem dX11_reserve_28 : decode cX11_reserve 28 = .ok (.iload_n 1, 1) := by decide +kernel
theorem dX11_reserve_29 : decode cX11_reserve 29 = .ok (.invokevirtual 213, 3) := by decide +kernel
theorem dX11_reserve_32 : decode cX11_reserve 32 = .ok (.if_icmp .gt 16, 3) := by decide +kernel
theorem dX11_reserve_35 : decode cX11_reserve 35 = .ok (.aload_n 3, 1) := by decide +kernel
theorem dX11_reserve_36 : decode cX11_reserve 36 = .ok (.iload_n 1, 1) := by decide +kernel
theorem dX11_reserve_37 : decode cX11_reserve 37 = .ok (.iload_n 2, 1) := by decide +kernel
theorem dX11_reserve_38 : decode cX11_reserve 38 = .ok (.invokevirtual 300, 3) := by decide +kernel
theorem dX11_reserve_41 : decode cX11_reserve 41 = .ok (.ifCond .eq 7, 3) := by decide +kernel
theorem dX11_reserve_44 : decode cX11_reserve 44 = .ok (.iconst 1, 1) := by decide +kernel
theorem dX11_reserve_45 : decode cX11_reserve 45 = .ok (.goto 4, 3) := by decide +kernel
theorem dX11_reserve_48 : decode cX11_reserve 48 = .ok (.iconst 0, 1) := by decide +kernel
theorem dX11_reserve_49 : decode cX11_reserve 49 = .ok (.invokestatic 282, 3) := by decide +kernel
theorem dX11_reserve_52 : decode cX11_reserve 52 = .ok (.aload_n 0, 1) := by decide +kernel
theorem dX11_reserve_53 : decode cX11_reserve 53 = .ok (.getfield 64, 3) := by decide +kernel
theorem dX11_reserve_56 : decode cX11_reserve 56 = .ok (.getfield 141, 3) := by decide +kernel
theorem dX11_reserve_59 : decode cX11_reserve 59 = .ok (.aload_n 0, 1) := by decide +kernel
theorem dX11_reserve_60 : decode cX11_reserve 60 = .ok (.getfield 50, 3) := by decide +kernel
theorem dX11_reserve_63 : decode cX11_reserve 63 = .ok (.invokevirtual 188, 3) := by decide +kernel
theorem dX11_reserve_66 : decode cX11_reserve 66 = .ok (.iload_n 2, 1) := by decide +kernel
theorem dX11_reserve_67 : decode cX11_reserve 67 = .ok (.aload_n 0, 1) := by decide +kernel
theorem dX11_reserve_68 : decode cX11_reserve 68 = .ok (.getfield 57, 3) := by decide +kernel
theorem dX11_reserve_71 : decode cX11_reserve 71 = .ok (.aload_n 3, 1) := by decide +kernel
theorem dX11_reserve_72 : decode cX11_reserve 72 = .ok (.iload_n 1, 1) := by decide +kernel
theorem dX11_reserve_73 : decode cX11_reserve 73 = .ok (.invokevirtual 220, 3) := by decide +kernel
theorem dX11_reserve_76 : decode cX11_reserve 76 = .ok (.aload_n 0, 1) := by decide +kernel
theorem dX11_reserve_77 : decode cX11_reserve 77 = .ok (.getfield 50, 3) := by decide +kernel
theorem dX11_reserve_80 : decode cX11_reserve 80 = .ok (.invokevirtual 192, 3) := by decide +kernel
theorem dX11_reserve_83 : decode cX11_reserve 83 = .ok (.if_icmp .gt 7, 3) := by decide +kernel
theorem dX11_reserve_86 : decode cX11_reserve 86 = .ok (.iconst 1, 1) := by decide +kernel
theorem dX11_reserve_87 : decode cX11_reserve 87 = .ok (.goto 4, 3) := by decide +kernel
theorem dX11_reserve_90 : decode cX11_reserve 90 = .ok (.iconst 0, 1) := by decide +kernel
theorem dX11_reserve_91 : decode cX11_reserve 91 = .ok (.invokestatic 282, 3) := by decide +kernel
theorem dX11_reserve_94 : decode cX11_reserve 94 = .ok (.aload_n 0, 1) := by decide +kernel
theorem dX11_reserve_95 : decode cX11_reserve 95 = .ok (.getfield 32, 3) := by decide +kernel
theorem dX11_reserve_98 : decode cX11_reserve 98 = .ok (.aload_n 0, 1) := by decide +kernel
theorem dX11_reserve_99 : decode cX11_reserve 99 = .ok (.getfield 64, 3) := by decide +kernel
theorem dX11_reserve_102 : decode cX11_reserve 102 = .ok (.invokevirtual 285, 3) := by decide +kernel
theorem dX11_reserve_105 : decode cX11_reserve 105 = .ok (.aload_n 0, 1) := by decide +kernel
theorem dX11_reserve_106 : decode cX11_reserve 106 = .ok (.getfield 64, 3) := by decide +kernel
theorem dX11_reserve_109 : decode cX11_reserve 109 = .ok (.aload_n 0, 1) := by decide +kernel
theorem dX11_reserve_110 : decode cX11_reserve 110 = .ok (.getfield 57, 3) := by decide +kernel
theorem dX11_reserve_113 : decode cX11_reserve 113 = .ok (.iload_n 1, 1) := by decide +kernel
theorem dX11_reserve_114 : decode cX11_reserve 114 = .ok (.iload_n 2, 1) := by decide +kernel
theorem dX11_reserve_115 : decode cX11_reserve 115 = .ok (.invokevirtual 293, 3) := by decide +kernel
theorem dX11_reserve_118 : decode cX11_reserve 118 = .ok (.aload_n 3, 1) := by decide +kernel
theorem dX11_reserve_119 : decode cX11_reserve 119 = .ok (.iload_n 1, 1) := by decide +kernel
theorem dX11_reserve_120 : decode cX11_reserve 120 = .ok (.invokevirtual 213, 3) := by decide +kernel
theorem dX11_reserve_123 : decode cX11_reserve 123 = .ok (.ireturn, 1) := by decide +kernel
theorem dX11_release_0 : decode cX11_release 0 = .ok (.aload_n 0, 1) := by decide +kernel
theorem dX11_release_1 : decode cX11_release 1 = .ok (.iload_n 1, 1) := by decide +kernel
theorem dX11_release_2 : decode cX11_release 2 = .ok (.invokevirtual 207, 3) := by decide +kernel
theorem dX11_release_5 : decode cX11_release 5 = .ok (.iload_n 2, 1) := by decide +kernel
theorem dX11_release_6 : decode cX11_release 6 = .ok (.iconst 1, 1) := by decide +kernel
theorem dX11_release_7 : decode cX11_release 7 = .ok (.if_icmp .lt 7, 3) := by decide +kernel
theorem dX11_release_10 : decode cX11_release 10 = .ok (.iconst 1, 1) := by decide +kernel
theorem dX11_release_11 : decode cX11_release 11 = .ok (.goto 4, 3) := by decide +kernel
theorem dX11_release_14 : decode cX11_release 14 = .ok (.iconst 0, 1) := by decide +kernel
theorem dX11_release_15 : decode cX11_release 15 = .ok (.invokestatic 199, 3) := by decide +kernel
theorem dX11_release_18 : decode cX11_release 18 = .ok (.aload_n 0, 1) := by decide +kernel
theorem dX11_release_19 : decode cX11_release 19 = .ok (.getfield 64, 3) := by decide +kernel
theorem dX11_release_22 : decode cX11_release 22 = .ok (.getfield 129, 3) := by decide +kernel
theorem dX11_release_25 : decode cX11_release 25 = .ok (.astore_n 3, 1) := by decide +kernel
theorem dX11_release_26 : decode cX11_release 26 = .ok (.iload_n 2, 1) := by decide +kernel
theorem dX11_release_27 : decode cX11_release 27 = .ok (.aload_n 3, 1) := by decide +kernel
theorem dX11_release_28 : decode cX11_release 28 = .ok (.iload_n 1, 1) := by decide +kernel
theorem dX11_release_29 : decode cX11_release 29 = .ok (.invokevirtual 216, 3) := by decide +kernel
theorem dX11_release_32 : decode cX11_release 32 = .ok (.if_icmp .gt 16, 3) := by decide +kernel
theorem dX11_release_35 : decode cX11_release 35 = .ok (.aload_n 3, 1) := by decide +kernel
theorem dX11_release_36 : decode cX11_release 36 = .ok (.iload_n 1, 1) := by decide +kernel
theorem dX11_release_37 : decode cX11_release 37 = .ok (.iload_n 2, 1) := by decide +kernel
theorem dX11_release_38 : decode cX11_release 38 = .ok (.invokevirtual 300, 3) := by decide +kernel
theorem dX11_release_41 : decode cX11_release 41 = .ok (.ifCond .eq 7, 3) := by decide +kernel
theorem dX11_release_44 : decode cX11_release 44 = .ok (.iconst 1, 1) := by decide +kernel
theorem dX11_release_45 : decode cX11_release 45 = .ok (.goto 4, 3) := by decide +kernel
theorem dX11_release_48 : decode cX11_release 48 = .ok (.iconst 0, 1) := by decide +kernel
theorem dX11_release_49 : decode cX11_release 49 = .ok (.invokestatic 282, 3) := by decide +kernel
theorem dX11_release_52 : decode cX11_release 52 = .ok (.aload_n 0, 1) := by decide +kernel
theorem dX11_release_53 : decode cX11_release 53 = .ok (.getfield 32, 3) := by decide +kernel
theorem dX11_release_56 : decode cX11_release 56 = .ok (.aload_n 0, 1) := by decide +kernel
theorem dX11_release_57 : decode cX11_release 57 = .ok (.getfield 64, 3) := by decide +kernel
theorem dX11_release_60 : decode cX11_release 60 = .ok (.invokevirtual 285, 3) := by decide +kernel
theorem dX11_release_63 : decode cX11_release 63 = .ok (.aload_n 0, 1) := by decide +kernel
theorem dX11_release_64 : decode cX11_release 64 = .ok (.getfield 64, 3) := by decide +kernel
theorem dX11_release_67 : decode cX11_release 67 = .ok (.aload_n 0, 1) := by decide +kernel
theorem dX11_release_68 : decode cX11_release 68 = .ok (.getfield 57, 3) := by decide +kernel
theorem dX11_release_71 : decode cX11_release 71 = .ok (.iload_n 1, 1) := by decide +kernel
theorem dX11_release_72 : decode cX11_release 72 = .ok (.iload_n 2, 1) := by decide +kernel
theorem dX11_release_73 : decode cX11_release 73 = .ok (.ineg, 1) := by decide +kernel
theorem dX11_release_74 : decode cX11_release 74 = .ok (.invokevirtual 293, 3) := by decide +kernel
theorem dX11_release_77 : decode cX11_release 77 = .ok (.aload_n 3, 1) := by decide +kernel
theorem dX11_release_78 : decode cX11_release 78 = .ok (.iload_n 1, 1) := by decide +kernel
theorem dX11_release_79 : decode cX11_release 79 = .ok (.invokevirtual 216, 3) := by decide +kernel
theorem dX11_release_82 : decode cX11_release 82 = .ok (.ireturn, 1) := by decide +kernel
theorem dX11_allocate_0 : decode cX11_allocate 0 = .ok (.aload_n 0, 1) := by decide +kernel
theorem dX11_allocate_1 : decode cX11_allocate 1 = .ok (.getfield 32, 3) := by decide +kernel
theorem dX11_allocate_4 : decode cX11_allocate 4 = .ok (.aload_n 0, 1) := by decide +kernel
theorem dX11_allocate_5 : decode cX11_allocate 5 = .ok (.getfield 64, 3) := by decide +kernel
theorem dX11_allocate_8 : decode cX11_allocate 8 = .ok (.invokevirtual 285, 3) := by decide +kernel
theorem dX11_allocate_11 : decode cX11_allocate 11 = .ok (.aload_n 0, 1) := by decide +kernel
theorem dX11_allocate_12 : decode cX11_allocate 12 = .ok (.getfield 39, 3) := by decide +kernel
theorem dX11_allocate_15 : decode cX11_allocate 15 = .ok (.aload_n 0, 1) := by decide +kernel
theorem dX11_allocate_16 : decode cX11_allocate 16 = .ok (.getfield 57, 3) := by decide +kernel
theorem dX11_allocate_19 : decode cX11_allocate 19 = .ok (.aload_n 0, 1) := by decide +kernel
theorem dX11_allocate_20 : decode cX11_allocate 20 = .ok (.getfield 64, 3) := by decide +kernel
theorem dX11_allocate_23 : decode cX11_allocate 23 = .ok (.invokevirtual 249, 3) := by decide +kernel
theorem dX11_allocate_26 : decode cX11_allocate 26 = .ok (.iconst 0, 1) := by decide +kernel
theorem dX11_allocate_27 : decode cX11_allocate 27 = .ok (.istore_n 1, 1) := by decide +kernel
theorem dX11_allocate_28 : decode cX11_allocate 28 = .ok (.iconst 0, 1) := by decide +kernel
theorem dX11_allocate_29 : decode cX11_allocate 29 = .ok (.istore_n 2, 1) := by decide +kernel
theorem dX11_allocate_30 : decode cX11_allocate 30 = .ok (.iload_n 2, 1) := by decide +kernel
theorem dX11_allocate_31 : decode cX11_allocate 31 = .ok (.aload_n 0, 1) := by decide +kernel
theorem dX11_allocate_32 : decode cX11_allocate 32 = .ok (.getfield 64, 3) := by decide +kernel
theorem dX11_allocate_35 : decode cX11_allocate 35 = .ok (.getfield 129, 3) := by decide +kernel
theorem dX11_allocate_38 : decode cX11_allocate 38 = .ok (.getfield 133, 3) := by decide +kernel
theorem dX11_allocate_41 : decode cX11_allocate 41 = .ok (.if_icmp .ge 35, 3) := by decide +kernel
theorem dX11_allocate_44 : decode cX11_allocate 44 = .ok (.aload_n 0, 1) := by decide +kernel
theorem dX11_allocate_45 : decode cX11_allocate 45 = .ok (.getfield 39, 3) := by decide +kernel
theorem dX11_allocate_48 : decode cX11_allocate 48 = .ok (.iload_n 2, 1) := by decide +kernel
theorem dX11_allocate_49 : decode cX11_allocate 49 = .ok (.invokevirtual 253, 3) := by decide +kernel
theorem dX11_allocate_52 : decode cX11_allocate 52 = .ok (.istore_n 3, 1) := by decide +kernel
theorem dX11_allocate_53 : decode cX11_allocate 53 = .ok (.aload_n 0, 1) := by decide +kernel
theorem dX11_allocate_54 : decode cX11_allocate 54 = .ok (.getfield 64, 3) := by decide +kernel
theorem dX11_allocate_57 : decode cX11_allocate 57 = .ok (.aload_n 0, 1) := by decide +kernel
theorem dX11_allocate_58 : decode cX11_allocate 58 = .ok (.getfield 57, 3) := by decide +kernel
theorem dX11_allocate_61 : decode cX11_allocate 61 = .ok (.iload_n 2, 1) := by decide +kernel
theorem dX11_allocate_62 : decode cX11_allocate 62 = .ok (.iload_n 3, 1) := by decide +kernel
theorem dX11_allocate_63 : decode cX11_allocate 63 = .ok (.invokevirtual 293, 3) := by decide +kernel
theorem dX11_allocate_66 : decode cX11_allocate 66 = .ok (.iload_n 1, 1) := by decide +kernel
theorem dX11_allocate_67 : decode cX11_allocate 67 = .ok (.iload_n 3, 1) := by decide +kernel
theorem dX11_allocate_68 : decode cX11_allocate 68 = .ok (.iadd, 1) := by decide +kernel
theorem dX11_allocate_69 : decode cX11_allocate 69 = .ok (.istore_n 1, 1) := by decide +kernel
theorem dX11_allocate_70 : decode cX11_allocate 70 = .ok (.iinc 2 1, 3) := by decide +kernel
theorem dX11_allocate_73 : decode cX11_allocate 73 = .ok (.goto (-43), 3) := by decide +kernel
theorem dX11_allocate_76 : decode cX11_allocate 76 = .ok (.iload_n 1, 1) := by decide +kernel
theorem dX11_allocate_77 : decode cX11_allocate 77 = .ok (.ireturn, 1) := by decide +kernel
theorem dX11_ship_0 : decode cX11_ship 0 = .ok (.aload_n 0, 1) := by decide +kernel
theorem dX11_ship_1 : decode cX11_ship 1 = .ok (.iload_n 1, 1) := by decide +kernel
theorem dX11_ship_2 : decode cX11_ship 2 = .ok (.invokevirtual 207, 3) := by decide +kernel
theorem dX11_ship_5 : decode cX11_ship 5 = .ok (.aload_n 0, 1) := by decide +kernel
theorem dX11_ship_6 : decode cX11_ship 6 = .ok (.getfield 64, 3) := by decide +kernel
theorem dX11_ship_9 : decode cX11_ship 9 = .ok (.getfield 129, 3) := by decide +kernel
theorem dX11_ship_12 : decode cX11_ship 12 = .ok (.iload_n 1, 1) := by decide +kernel
theorem dX11_ship_13 : decode cX11_ship 13 = .ok (.invokevirtual 216, 3) := by decide +kernel
theorem dX11_ship_16 : decode cX11_ship 16 = .ok (.ifCond .le 7, 3) := by decide +kernel
theorem dX11_ship_19 : decode cX11_ship 19 = .ok (.iconst 1, 1) := by decide +kernel
theorem dX11_ship_20 : decode cX11_ship 20 = .ok (.goto 4, 3) := by decide +kernel
theorem dX11_ship_23 : decode cX11_ship 23 = .ok (.iconst 0, 1) := by decide +kernel
theorem dX11_ship_24 : decode cX11_ship 24 = .ok (.invokestatic 282, 3) := by decide +kernel
theorem dX11_ship_27 : decode cX11_ship 27 = .ok (.aload_n 0, 1) := by decide +kernel
theorem dX11_ship_28 : decode cX11_ship 28 = .ok (.getfield 32, 3) := by decide +kernel
theorem dX11_ship_31 : decode cX11_ship 31 = .ok (.aload_n 0, 1) := by decide +kernel
theorem dX11_ship_32 : decode cX11_ship 32 = .ok (.getfield 64, 3) := by decide +kernel
theorem dX11_ship_35 : decode cX11_ship 35 = .ok (.invokevirtual 285, 3) := by decide +kernel
theorem dX11_ship_38 : decode cX11_ship 38 = .ok (.aload_n 0, 1) := by decide +kernel
theorem dX11_ship_39 : decode cX11_ship 39 = .ok (.getfield 64, 3) := by decide +kernel
theorem dX11_ship_42 : decode cX11_ship 42 = .ok (.aload_n 0, 1) := by decide +kernel
theorem dX11_ship_43 : decode cX11_ship 43 = .ok (.getfield 57, 3) := by decide +kernel
theorem dX11_ship_46 : decode cX11_ship 46 = .ok (.iload_n 1, 1) := by decide +kernel
theorem dX11_ship_47 : decode cX11_ship 47 = .ok (.invokevirtual 304, 3) := by decide +kernel
theorem dX11_ship_50 : decode cX11_ship 50 = .ok (.ireturn, 1) := by decide +kernel
theorem dX11_buy_0 : decode cX11_buy 0 = .ok (.aload_n 0, 1) := by decide +kernel
theorem dX11_buy_1 : decode cX11_buy 1 = .ok (.iload_n 1, 1) := by decide +kernel
theorem dX11_buy_2 : decode cX11_buy 2 = .ok (.invokevirtual 164, 3) := by decide +kernel
theorem dX11_buy_5 : decode cX11_buy 5 = .ok (.iload_n 2, 1) := by decide +kernel
theorem dX11_buy_6 : decode cX11_buy 6 = .ok (.iconst 1, 1) := by decide +kernel
theorem dX11_buy_7 : decode cX11_buy 7 = .ok (.if_icmp .lt 14, 3) := by decide +kernel
theorem dX11_buy_10 : decode cX11_buy 10 = .ok (.iload_n 2, 1) := by decide +kernel
theorem dX11_buy_11 : decode cX11_buy 11 = .ok (.sipush 999, 3) := by decide +kernel
theorem dX11_buy_14 : decode cX11_buy 14 = .ok (.if_icmp .gt 7, 3) := by decide +kernel
theorem dX11_buy_17 : decode cX11_buy 17 = .ok (.iconst 1, 1) := by decide +kernel
theorem dX11_buy_18 : decode cX11_buy 18 = .ok (.goto 4, 3) := by decide +kernel
theorem dX11_buy_21 : decode cX11_buy 21 = .ok (.iconst 0, 1) := by decide +kernel
theorem dX11_buy_22 : decode cX11_buy 22 = .ok (.invokestatic 199, 3) := by decide +kernel
theorem dX11_buy_25 : decode cX11_buy 25 = .ok (.aload_n 0, 1) := by decide +kernel
theorem dX11_buy_26 : decode cX11_buy 26 = .ok (.getfield 64, 3) := by decide +kernel
theorem dX11_buy_29 : decode cX11_buy 29 = .ok (.getfield 141, 3) := by decide +kernel
theorem dX11_buy_32 : decode cX11_buy 32 = .ok (.getfield 145, 3) := by decide +kernel
theorem dX11_buy_35 : decode cX11_buy 35 = .ok (.bipush 20, 2) := by decide +kernel
theorem dX11_buy_37 : decode cX11_buy 37 = .ok (.if_icmp .ge 7, 3) := by decide +kernel
theorem dX11_buy_40 : decode cX11_buy 40 = .ok (.iconst 1, 1) := by decide +kernel
theorem dX11_buy_41 : decode cX11_buy 41 = .ok (.goto 4, 3) := by decide +kernel
theorem dX11_buy_44 : decode cX11_buy 44 = .ok (.iconst 0, 1) := by decide +kernel
theorem dX11_buy_45 : decode cX11_buy 45 = .ok (.invokestatic 282, 3) := by decide +kernel
theorem dX11_buy_48 : decode cX11_buy 48 = .ok (.aload_n 0, 1) := by decide +kernel
theorem dX11_buy_49 : decode cX11_buy 49 = .ok (.getfield 32, 3) := by decide +kernel
theorem dX11_buy_52 : decode cX11_buy 52 = .ok (.aload_n 0, 1) := by decide +kernel
theorem dX11_buy_53 : decode cX11_buy 53 = .ok (.getfield 64, 3) := by decide +kernel
theorem dX11_buy_56 : decode cX11_buy 56 = .ok (.invokevirtual 285, 3) := by decide +kernel
theorem dX11_buy_59 : decode cX11_buy 59 = .ok (.aload_n 0, 1) := by decide +kernel
theorem dX11_buy_60 : decode cX11_buy 60 = .ok (.getfield 64, 3) := by decide +kernel
theorem dX11_buy_63 : decode cX11_buy 63 = .ok (.getfield 307, 3) := by decide +kernel
theorem dX11_buy_66 : decode cX11_buy 66 = .ok (.iload_n 2, 1) := by decide +kernel
theorem dX11_buy_67 : decode cX11_buy 67 = .ok (.invokevirtual 311, 3) := by decide +kernel
theorem dX11_buy_70 : decode cX11_buy 70 = .ok (.aload_n 0, 1) := by decide +kernel
theorem dX11_buy_71 : decode cX11_buy 71 = .ok (.getfield 64, 3) := by decide +kernel
theorem dX11_buy_74 : decode cX11_buy 74 = .ok (.getfield 141, 3) := by decide +kernel
theorem dX11_buy_77 : decode cX11_buy 77 = .ok (.iload_n 1, 1) := by decide +kernel
theorem dX11_buy_78 : decode cX11_buy 78 = .ok (.iload_n 2, 1) := by decide +kernel
theorem dX11_buy_79 : decode cX11_buy 79 = .ok (.aload_n 0, 1) := by decide +kernel
theorem dX11_buy_80 : decode cX11_buy 80 = .ok (.getfield 57, 3) := by decide +kernel
theorem dX11_buy_83 : decode cX11_buy 83 = .ok (.iload_n 1, 1) := by decide +kernel
theorem dX11_buy_84 : decode cX11_buy 84 = .ok (.invokevirtual 316, 3) := by decide +kernel
theorem dX11_buy_87 : decode cX11_buy 87 = .ok (.invokevirtual 319, 3) := by decide +kernel
theorem dX11_buy_90 : decode cX11_buy 90 = .ok (.ireturn, 1) := by decide +kernel
theorem dX11_adjust_0 : decode cX11_adjust 0 = .ok (.aload_n 0, 1) := by decide +kernel
theorem dX11_adjust_1 : decode cX11_adjust 1 = .ok (.iload_n 1, 1) := by decide +kernel
theorem dX11_adjust_2 : decode cX11_adjust 2 = .ok (.invokevirtual 164, 3) := by decide +kernel
theorem dX11_adjust_5 : decode cX11_adjust 5 = .ok (.iload_n 2, 1) := by decide +kernel
theorem dX11_adjust_6 : decode cX11_adjust 6 = .ok (.ifCond .lt 14, 3) := by decide +kernel
theorem dX11_adjust_9 : decode cX11_adjust 9 = .ok (.iload_n 2, 1) := by decide +kernel
theorem dX11_adjust_10 : decode cX11_adjust 10 = .ok (.sipush 9999, 3) := by decide +kernel
theorem dX11_adjust_13 : decode cX11_adjust 13 = .ok (.if_icmp .gt 7, 3) := by decide +kernel
theorem dX11_adjust_16 : decode cX11_adjust 16 = .ok (.iconst 1, 1) := by decide +kernel
theorem dX11_adjust_17 : decode cX11_adjust 17 = .ok (.goto 4, 3) := by decide +kernel
theorem dX11_adjust_20 : decode cX11_adjust 20 = .ok (.iconst 0, 1) := by decide +kernel
theorem dX11_adjust_21 : decode cX11_adjust 21 = .ok (.invokestatic 199, 3) := by decide +kernel
theorem dX11_adjust_24 : decode cX11_adjust 24 = .ok (.aload_n 0, 1) := by decide +kernel
theorem dX11_adjust_25 : decode cX11_adjust 25 = .ok (.getfield 32, 3) := by decide +kernel
theorem dX11_adjust_28 : decode cX11_adjust 28 = .ok (.aload_n 0, 1) := by decide +kernel
theorem dX11_adjust_29 : decode cX11_adjust 29 = .ok (.getfield 64, 3) := by decide +kernel
theorem dX11_adjust_32 : decode cX11_adjust 32 = .ok (.invokevirtual 285, 3) := by decide +kernel
theorem dX11_adjust_35 : decode cX11_adjust 35 = .ok (.aload_n 0, 1) := by decide +kernel
theorem dX11_adjust_36 : decode cX11_adjust 36 = .ok (.getfield 64, 3) := by decide +kernel
theorem dX11_adjust_39 : decode cX11_adjust 39 = .ok (.getfield 141, 3) := by decide +kernel
theorem dX11_adjust_42 : decode cX11_adjust 42 = .ok (.iload_n 1, 1) := by decide +kernel
theorem dX11_adjust_43 : decode cX11_adjust 43 = .ok (.iload_n 2, 1) := by decide +kernel
theorem dX11_adjust_44 : decode cX11_adjust 44 = .ok (.invokevirtual 323, 3) := by decide +kernel
theorem dX11_adjust_47 : decode cX11_adjust 47 = .ok (.aload_n 0, 1) := by decide +kernel
theorem dX11_adjust_48 : decode cX11_adjust 48 = .ok (.getfield 64, 3) := by decide +kernel
theorem dX11_adjust_51 : decode cX11_adjust 51 = .ok (.aload_n 0, 1) := by decide +kernel
theorem dX11_adjust_52 : decode cX11_adjust 52 = .ok (.getfield 57, 3) := by decide +kernel
theorem dX11_adjust_55 : decode cX11_adjust 55 = .ok (.iload_n 1, 1) := by decide +kernel
theorem dX11_adjust_56 : decode cX11_adjust 56 = .ok (.invokevirtual 327, 3) := by decide +kernel
theorem dX11_adjust_59 : decode cX11_adjust 59 = .ok (.ireturn, 1) := by decide +kernel
theorem dX11_advance_0 : decode cX11_advance 0 = .ok (.iload_n 1, 1) := by decide +kernel
theorem dX11_advance_1 : decode cX11_advance 1 = .ok (.iconst 1, 1) := by decide +kernel
theorem dX11_advance_2 : decode cX11_advance 2 = .ok (.if_icmp .lt 13, 3) := by decide +kernel
theorem dX11_advance_5 : decode cX11_advance 5 = .ok (.iload_n 1, 1) := by decide +kernel
theorem dX11_advance_6 : decode cX11_advance 6 = .ok (.bipush 100, 2) := by decide +kernel
theorem dX11_advance_8 : decode cX11_advance 8 = .ok (.if_icmp .gt 7, 3) := by decide +kernel
theorem dX11_advance_11 : decode cX11_advance 11 = .ok (.iconst 1, 1) := by decide +kernel
theorem dX11_advance_12 : decode cX11_advance 12 = .ok (.goto 4, 3) := by decide +kernel
theorem dX11_advance_15 : decode cX11_advance 15 = .ok (.iconst 0, 1) := by decide +kernel
theorem dX11_advance_16 : decode cX11_advance 16 = .ok (.invokestatic 199, 3) := by decide +kernel
theorem dX11_advance_19 : decode cX11_advance 19 = .ok (.aload_n 0, 1) := by decide +kernel
theorem dX11_advance_20 : decode cX11_advance 20 = .ok (.getfield 32, 3) := by decide +kernel
theorem dX11_advance_23 : decode cX11_advance 23 = .ok (.aload_n 0, 1) := by decide +kernel
theorem dX11_advance_24 : decode cX11_advance 24 = .ok (.getfield 64, 3) := by decide +kernel
theorem dX11_advance_27 : decode cX11_advance 27 = .ok (.invokevirtual 285, 3) := by decide +kernel
theorem dX11_advance_30 : decode cX11_advance 30 = .ok (.iconst 0, 1) := by decide +kernel
theorem dX11_advance_31 : decode cX11_advance 31 = .ok (.istore_n 2, 1) := by decide +kernel
theorem dX11_advance_32 : decode cX11_advance 32 = .ok (.iconst 0, 1) := by decide +kernel
theorem dX11_advance_33 : decode cX11_advance 33 = .ok (.istore_n 3, 1) := by decide +kernel
theorem dX11_advance_34 : decode cX11_advance 34 = .ok (.iload_n 3, 1) := by decide +kernel
theorem dX11_advance_35 : decode cX11_advance 35 = .ok (.iload_n 1, 1) := by decide +kernel
theorem dX11_advance_36 : decode cX11_advance 36 = .ok (.if_icmp .ge 22, 3) := by decide +kernel
theorem dX11_advance_39 : decode cX11_advance 39 = .ok (.iload_n 2, 1) := by decide +kernel
theorem dX11_advance_40 : decode cX11_advance 40 = .ok (.aload_n 0, 1) := by decide +kernel
theorem dX11_advance_41 : decode cX11_advance 41 = .ok (.getfield 64, 3) := by decide +kernel
theorem dX11_advance_44 : decode cX11_advance 44 = .ok (.getfield 141, 3) := by decide +kernel
theorem dX11_advance_47 : decode cX11_advance 47 = .ok (.invokevirtual 330, 3) := by decide +kernel
theorem dX11_advance_50 : decode cX11_advance 50 = .ok (.iadd, 1) := by decide +kernel
theorem dX11_advance_51 : decode cX11_advance 51 = .ok (.istore_n 2, 1) := by decide +kernel
theorem dX11_advance_52 : decode cX11_advance 52 = .ok (.iinc 3 1, 3) := by decide +kernel
theorem dX11_advance_55 : decode cX11_advance 55 = .ok (.goto (-21), 3) := by decide +kernel
theorem dX11_advance_58 : decode cX11_advance 58 = .ok (.iload_n 2, 1) := by decide +kernel
theorem dX11_advance_59 : decode cX11_advance 59 = .ok (.ireturn, 1) := by decide +kernel
theorem dX11_undo_0 : decode cX11_undo 0 = .ok (.aload_n 0, 1) := by decide +kernel
theorem dX11_undo_1 : decode cX11_undo 1 = .ok (.getfield 32, 3) := by decide +kernel
theorem dX11_undo_4 : decode cX11_undo 4 = .ok (.aload_n 0, 1) := by decide +kernel
theorem dX11_undo_5 : decode cX11_undo 5 = .ok (.getfield 64, 3) := by decide +kernel
theorem dX11_undo_8 : decode cX11_undo 8 = .ok (.invokevirtual 334, 3) := by decide +kernel
theorem dX11_undo_11 : decode cX11_undo 11 = .ok (.ifCond .eq 13, 3) := by decide +kernel
theorem dX11_undo_14 : decode cX11_undo 14 = .ok (.aload_n 0, 1) := by decide +kernel
theorem dX11_undo_15 : decode cX11_undo 15 = .ok (.getfield 32, 3) := by decide +kernel
theorem dX11_undo_18 : decode cX11_undo 18 = .ok (.getfield 338, 3) := by decide +kernel
theorem dX11_undo_21 : decode cX11_undo 21 = .ok (.goto 4, 3) := by decide +kernel
theorem dX11_undo_24 : decode cX11_undo 24 = .ok (.iconst (-1), 1) := by decide +kernel
theorem dX11_undo_25 : decode cX11_undo 25 = .ok (.ireturn, 1) := by decide +kernel
theorem dX11_undoDepth_0 : decode cX11_undoDepth 0 = .ok (.aload_n 0, 1) := by decide +kernel
theorem dX11_undoDepth_1 : decode cX11_undoDepth 1 = .ok (.getfield 32, 3) := by decide +kernel
theorem dX11_undoDepth_4 : decode cX11_undoDepth 4 = .ok (.getfield 338, 3) := by decide +kernel
theorem dX11_undoDepth_7 : decode cX11_undoDepth 7 = .ok (.ireturn, 1) := by decide +kernel
theorem dX11_total_0 : decode cX11_total 0 = .ok (.aload_n 0, 1) := by decide +kernel
theorem dX11_total_1 : decode cX11_total 1 = .ok (.getfield 64, 3) := by decide +kernel
theorem dX11_total_4 : decode cX11_total 4 = .ok (.getfield 307, 3) := by decide +kernel
theorem dX11_total_7 : decode cX11_total 7 = .ok (.iload_n 1, 1) := by decide +kernel
theorem dX11_total_8 : decode cX11_total 8 = .ok (.invokevirtual 341, 3) := by decide +kernel
theorem dX11_total_11 : decode cX11_total 11 = .ok (.ireturn, 1) := by decide +kernel
theorem dX11_shipment_0 : decode cX11_shipment 0 = .ok (.aload_n 0, 1) := by decide +kernel
theorem dX11_shipment_1 : decode cX11_shipment 1 = .ok (.getfield 64, 3) := by decide +kernel
theorem dX11_shipment_4 : decode cX11_shipment 4 = .ok (.getfield 307, 3) := by decide +kernel
theorem dX11_shipment_7 : decode cX11_shipment 7 = .ok (.iload_n 1, 1) := by decide +kernel
theorem dX11_shipment_8 : decode cX11_shipment 8 = .ok (.iload_n 2, 1) := by decide +kernel
theorem dX11_shipment_9 : decode cX11_shipment 9 = .ok (.invokevirtual 344, 3) := by decide +kernel
theorem dX11_shipment_12 : decode cX11_shipment 12 = .ok (.ireturn, 1) := by decide +kernel
theorem dX11_formatOrder_0 : decode cX11_formatOrder 0 = .ok (.aload_n 0, 1) := by decide +kernel
theorem dX11_formatOrder_1 : decode cX11_formatOrder 1 = .ok (.iload_n 1, 1) := by decide +kernel
theorem dX11_formatOrder_2 : decode cX11_formatOrder 2 = .ok (.invokevirtual 207, 3) := by decide +kernel
theorem dX11_formatOrder_5 : decode cX11_formatOrder 5 = .ok (.aload_n 0, 1) := by decide +kernel
theorem dX11_formatOrder_6 : decode cX11_formatOrder 6 = .ok (.getfield 64, 3) := by decide +kernel
theorem dX11_formatOrder_9 : decode cX11_formatOrder 9 = .ok (.getfield 129, 3) := by decide +kernel
theorem dX11_formatOrder_12 : decode cX11_formatOrder 12 = .ok (.astore_n 2, 1) := by decide +kernel
theorem dX11_formatOrder_13 : decode cX11_formatOrder 13 = .ok (.aload_n 0, 1) := by decide +kernel
theorem dX11_formatOrder_14 : decode cX11_formatOrder 14 = .ok (.getfield 46, 3) := by decide +kernel
theorem dX11_formatOrder_17 : decode cX11_formatOrder 17 = .ok (.aload_n 0, 1) := by decide +kernel
theorem dX11_formatOrder_18 : decode cX11_formatOrder 18 = .ok (.getfield 57, 3) := by decide +kernel
theorem dX11_formatOrder_21 : decode cX11_formatOrder 21 = .ok (.aload_n 2, 1) := by decide +kernel
theorem dX11_formatOrder_22 : decode cX11_formatOrder 22 = .ok (.iload_n 1, 1) := by decide +kernel
theorem dX11_formatOrder_23 : decode cX11_formatOrder 23 = .ok (.invokevirtual 220, 3) := by decide +kernel
theorem dX11_formatOrder_26 : decode cX11_formatOrder 26 = .ok (.invokevirtual 347, 3) := by decide +kernel
theorem dX11_formatOrder_29 : decode cX11_formatOrder 29 = .ok (.invokevirtual 351, 3) := by decide +kernel
theorem dX11_formatOrder_32 : decode cX11_formatOrder 32 = .ok (.aload_n 0, 1) := by decide +kernel
theorem dX11_formatOrder_33 : decode cX11_formatOrder 33 = .ok (.getfield 46, 3) := by decide +kernel
theorem dX11_formatOrder_36 : decode cX11_formatOrder 36 = .ok (.ldc_w 354, 3) := by decide +kernel
theorem dX11_formatOrder_39 : decode cX11_formatOrder 39 = .ok (.aload_n 2, 1) := by decide +kernel
theorem dX11_formatOrder_40 : decode cX11_formatOrder 40 = .ok (.iload_n 1, 1) := by decide +kernel
theorem dX11_formatOrder_41 : decode cX11_formatOrder 41 = .ok (.invokevirtual 223, 3) := by decide +kernel
theorem dX11_formatOrder_44 : decode cX11_formatOrder 44 = .ok (.invokevirtual 356, 3) := by decide +kernel
theorem dX11_formatOrder_47 : decode cX11_formatOrder 47 = .ok (.aload_n 0, 1) := by decide +kernel
theorem dX11_formatOrder_48 : decode cX11_formatOrder 48 = .ok (.getfield 46, 3) := by decide +kernel
theorem dX11_formatOrder_51 : decode cX11_formatOrder 51 = .ok (.ldc_w 360, 3) := by decide +kernel
theorem dX11_formatOrder_54 : decode cX11_formatOrder 54 = .ok (.aload_n 2, 1) := by decide +kernel
theorem dX11_formatOrder_55 : decode cX11_formatOrder 55 = .ok (.iload_n 1, 1) := by decide +kernel
theorem dX11_formatOrder_56 : decode cX11_formatOrder 56 = .ok (.invokevirtual 225, 3) := by decide +kernel
theorem dX11_formatOrder_59 : decode cX11_formatOrder 59 = .ok (.invokevirtual 356, 3) := by decide +kernel
theorem dX11_formatOrder_62 : decode cX11_formatOrder 62 = .ok (.aload_n 0, 1) := by decide +kernel
theorem dX11_formatOrder_63 : decode cX11_formatOrder 63 = .ok (.getfield 46, 3) := by decide +kernel
theorem dX11_formatOrder_66 : decode cX11_formatOrder 66 = .ok (.ldc_w 362, 3) := by decide +kernel
theorem dX11_formatOrder_69 : decode cX11_formatOrder 69 = .ok (.aload_n 2, 1) := by decide +kernel
theorem dX11_formatOrder_70 : decode cX11_formatOrder 70 = .ok (.iload_n 1, 1) := by decide +kernel
theorem dX11_formatOrder_71 : decode cX11_formatOrder 71 = .ok (.invokevirtual 228, 3) := by decide +kernel
theorem dX11_formatOrder_74 : decode cX11_formatOrder 74 = .ok (.invokevirtual 356, 3) := by decide +kernel
theorem dX11_formatOrder_77 : decode cX11_formatOrder 77 = .ok (.aload_n 2, 1) := by decide +kernel
theorem dX11_formatOrder_78 : decode cX11_formatOrder 78 = .ok (.iload_n 1, 1) := by decide +kernel
theorem dX11_formatOrder_79 : decode cX11_formatOrder 79 = .ok (.invokevirtual 231, 3) := by decide +kernel
theorem dX11_formatOrder_82 : decode cX11_formatOrder 82 = .ok (.ifCond .eq 13, 3) := by decide +kernel
theorem dX11_formatOrder_85 : decode cX11_formatOrder 85 = .ok (.aload_n 0, 1) := by decide +kernel
theorem dX11_formatOrder_86 : decode cX11_formatOrder 86 = .ok (.getfield 46, 3) := by decide +kernel
theorem dX11_formatOrder_89 : decode cX11_formatOrder 89 = .ok (.ldc_w 364, 3) := by decide +kernel
theorem dX11_formatOrder_92 : decode cX11_formatOrder 92 = .ok (.invokevirtual 366, 3) := by decide +kernel
theorem dX11_formatOrder_95 : decode cX11_formatOrder 95 = .ok (.aload_n 0, 1) := by decide +kernel
theorem dX11_formatOrder_96 : decode cX11_formatOrder 96 = .ok (.getfield 46, 3) := by decide +kernel
theorem dX11_formatOrder_99 : decode cX11_formatOrder 99 = .ok (.ldc_w 369, 3) := by decide +kernel
theorem dX11_formatOrder_102 : decode cX11_formatOrder 102 = .ok (.aload_n 2, 1) := by decide +kernel
theorem dX11_formatOrder_103 : decode cX11_formatOrder 103 = .ok (.iload_n 1, 1) := by decide +kernel
theorem dX11_formatOrder_104 : decode cX11_formatOrder 104 = .ok (.invokevirtual 213, 3) := by decide +kernel
theorem dX11_formatOrder_107 : decode cX11_formatOrder 107 = .ok (.invokevirtual 356, 3) := by decide +kernel
theorem dX11_formatOrder_110 : decode cX11_formatOrder 110 = .ok (.aload_n 0, 1) := by decide +kernel
theorem dX11_formatOrder_111 : decode cX11_formatOrder 111 = .ok (.getfield 46, 3) := by decide +kernel
theorem dX11_formatOrder_114 : decode cX11_formatOrder 114 = .ok (.ldc_w 371, 3) := by decide +kernel
theorem dX11_formatOrder_117 : decode cX11_formatOrder 117 = .ok (.aload_n 2, 1) := by decide +kernel
theorem dX11_formatOrder_118 : decode cX11_formatOrder 118 = .ok (.iload_n 1, 1) := by decide +kernel
theorem dX11_formatOrder_119 : decode cX11_formatOrder 119 = .ok (.invokevirtual 216, 3) := by decide +kernel
theorem dX11_formatOrder_122 : decode cX11_formatOrder 122 = .ok (.invokevirtual 356, 3) := by decide +kernel
theorem dX11_formatOrder_125 : decode cX11_formatOrder 125 = .ok (.aload_n 0, 1) := by decide +kernel
theorem dX11_formatOrder_126 : decode cX11_formatOrder 126 = .ok (.getfield 46, 3) := by decide +kernel
theorem dX11_formatOrder_129 : decode cX11_formatOrder 129 = .ok (.ldc_w 373, 3) := by decide +kernel
theorem dX11_formatOrder_132 : decode cX11_formatOrder 132 = .ok (.aload_n 2, 1) := by decide +kernel
theorem dX11_formatOrder_133 : decode cX11_formatOrder 133 = .ok (.iload_n 1, 1) := by decide +kernel
theorem dX11_formatOrder_134 : decode cX11_formatOrder 134 = .ok (.invokevirtual 217, 3) := by decide +kernel
theorem dX11_formatOrder_137 : decode cX11_formatOrder 137 = .ok (.invokevirtual 356, 3) := by decide +kernel
theorem dX11_formatOrder_140 : decode cX11_formatOrder 140 = .ok (.aload_n 2, 1) := by decide +kernel
theorem dX11_formatOrder_141 : decode cX11_formatOrder 141 = .ok (.iload_n 1, 1) := by decide +kernel
theorem dX11_formatOrder_142 : decode cX11_formatOrder 142 = .ok (.invokevirtual 210, 3) := by decide +kernel
theorem dX11_formatOrder_145 : decode cX11_formatOrder 145 = .ok (.iconst 3, 1) := by decide +kernel
theorem dX11_formatOrder_146 : decode cX11_formatOrder 146 = .ok (.if_icmp .ne 13, 3) := by decide +kernel
theorem dX11_formatOrder_149 : decode cX11_formatOrder 149 = .ok (.aload_n 0, 1) := by decide +kernel
theorem dX11_formatOrder_150 : decode cX11_formatOrder 150 = .ok (.getfield 46, 3) := by decide +kernel
theorem dX11_formatOrder_153 : decode cX11_formatOrder 153 = .ok (.ldc_w 375, 3) := by decide +kernel
theorem dX11_formatOrder_156 : decode cX11_formatOrder 156 = .ok (.invokevirtual 366, 3) := by decide +kernel
theorem dX11_formatOrder_159 : decode cX11_formatOrder 159 = .ok (.aload_n 0, 1) := by decide +kernel
theorem dX11_formatOrder_160 : decode cX11_formatOrder 160 = .ok (.getfield 46, 3) := by decide +kernel
theorem dX11_formatOrder_163 : decode cX11_formatOrder 163 = .ok (.getfield 377, 3) := by decide +kernel
theorem dX11_formatOrder_166 : decode cX11_formatOrder 166 = .ok (.ireturn, 1) := by decide +kernel
theorem dX11_formatNeeds_0 : decode cX11_formatNeeds 0 = .ok (.aload_n 0, 1) := by decide +kernel
theorem dX11_formatNeeds_1 : decode cX11_formatNeeds 1 = .ok (.iload_n 1, 1) := by decide +kernel
theorem dX11_formatNeeds_2 : decode cX11_formatNeeds 2 = .ok (.invokevirtual 150, 3) := by decide +kernel
theorem dX11_formatNeeds_5 : decode cX11_formatNeeds 5 = .ok (.aload_n 0, 1) := by decide +kernel
theorem dX11_formatNeeds_6 : decode cX11_formatNeeds 6 = .ok (.getfield 46, 3) := by decide +kernel
theorem dX11_formatNeeds_9 : decode cX11_formatNeeds 9 = .ok (.aload_n 0, 1) := by decide +kernel
theorem dX11_formatNeeds_10 : decode cX11_formatNeeds 10 = .ok (.getfield 57, 3) := by decide +kernel
theorem dX11_formatNeeds_13 : decode cX11_formatNeeds 13 = .ok (.iload_n 1, 1) := by decide +kernel
theorem dX11_formatNeeds_14 : decode cX11_formatNeeds 14 = .ok (.invokevirtual 347, 3) := by decide +kernel
theorem dX11_formatNeeds_17 : decode cX11_formatNeeds 17 = .ok (.invokevirtual 351, 3) := by decide +kernel
theorem dX11_formatNeeds_20 : decode cX11_formatNeeds 20 = .ok (.aload_n 0, 1) := by decide +kernel
theorem dX11_formatNeeds_21 : decode cX11_formatNeeds 21 = .ok (.getfield 46, 3) := by decide +kernel
theorem dX11_formatNeeds_24 : decode cX11_formatNeeds 24 = .ok (.ldc_w 378, 3) := by decide +kernel
theorem dX11_formatNeeds_27 : decode cX11_formatNeeds 27 = .ok (.invokevirtual 366, 3) := by decide +kernel
theorem dX11_formatNeeds_30 : decode cX11_formatNeeds 30 = .ok (.iconst 0, 1) := by decide +kernel
theorem dX11_formatNeeds_31 : decode cX11_formatNeeds 31 = .ok (.istore_n 2, 1) := by decide +kernel
theorem dX11_formatNeeds_32 : decode cX11_formatNeeds 32 = .ok (.iload_n 2, 1) := by decide +kernel
theorem dX11_formatNeeds_33 : decode cX11_formatNeeds 33 = .ok (.aload_n 0, 1) := by decide +kernel
theorem dX11_formatNeeds_34 : decode cX11_formatNeeds 34 = .ok (.getfield 57, 3) := by decide +kernel
theorem dX11_formatNeeds_37 : decode cX11_formatNeeds 37 = .ok (.getfield 126, 3) := by decide +kernel
theorem dX11_formatNeeds_40 : decode cX11_formatNeeds 40 = .ok (.if_icmp .ge 49, 3) := by decide +kernel
theorem dX11_formatNeeds_43 : decode cX11_formatNeeds 43 = .ok (.aload_n 0, 1) := by decide +kernel
theorem dX11_formatNeeds_44 : decode cX11_formatNeeds 44 = .ok (.getfield 57, 3) := by decide +kernel
theorem dX11_formatNeeds_47 : decode cX11_formatNeeds 47 = .ok (.iload_n 1, 1) := by decide +kernel
theorem dX11_formatNeeds_48 : decode cX11_formatNeeds 48 = .ok (.iload_n 2, 1) := by decide +kernel
theorem dX11_formatNeeds_49 : decode cX11_formatNeeds 49 = .ok (.invokevirtual 167, 3) := by decide +kernel
theorem dX11_formatNeeds_52 : decode cX11_formatNeeds 52 = .ok (.istore_n 3, 1) := by decide +kernel
theorem dX11_formatNeeds_53 : decode cX11_formatNeeds 53 = .ok (.iload_n 3, 1) := by decide +kernel
theorem dX11_formatNeeds_54 : decode cX11_formatNeeds 54 = .ok (.ifCond .le 29, 3) := by decide +kernel
theorem dX11_formatNeeds_57 : decode cX11_formatNeeds 57 = .ok (.aload_n 0, 1) := by decide +kernel
theorem dX11_formatNeeds_58 : decode cX11_formatNeeds 58 = .ok (.getfield 46, 3) := by decide +kernel
theorem dX11_formatNeeds_61 : decode cX11_formatNeeds 61 = .ok (.ldc_w 380, 3) := by decide +kernel
theorem dX11_formatNeeds_64 : decode cX11_formatNeeds 64 = .ok (.iload_n 3, 1) := by decide +kernel
theorem dX11_formatNeeds_65 : decode cX11_formatNeeds 65 = .ok (.invokevirtual 356, 3) := by decide +kernel
theorem dX11_formatNeeds_68 : decode cX11_formatNeeds 68 = .ok (.aload_n 0, 1) := by decide +kernel
theorem dX11_formatNeeds_69 : decode cX11_formatNeeds 69 = .ok (.getfield 46, 3) := by decide +kernel
theorem dX11_formatNeeds_72 : decode cX11_formatNeeds 72 = .ok (.aload_n 0, 1) := by decide +kernel
theorem dX11_formatNeeds_73 : decode cX11_formatNeeds 73 = .ok (.getfield 57, 3) := by decide +kernel
theorem dX11_formatNeeds_76 : decode cX11_formatNeeds 76 = .ok (.iload_n 2, 1) := by decide +kernel
theorem dX11_formatNeeds_77 : decode cX11_formatNeeds 77 = .ok (.invokevirtual 382, 3) := by decide +kernel
theorem dX11_formatNeeds_80 : decode cX11_formatNeeds 80 = .ok (.invokevirtual 385, 3) := by decide +kernel
theorem dX11_formatNeeds_83 : decode cX11_formatNeeds 83 = .ok (.iinc 2 1, 3) := by decide +kernel
theorem dX11_formatNeeds_86 : decode cX11_formatNeeds 86 = .ok (.goto (-54), 3) := by decide +kernel
theorem dX11_formatNeeds_89 : decode cX11_formatNeeds 89 = .ok (.aload_n 0, 1) := by decide +kernel
theorem dX11_formatNeeds_90 : decode cX11_formatNeeds 90 = .ok (.getfield 46, 3) := by decide +kernel
theorem dX11_formatNeeds_93 : decode cX11_formatNeeds 93 = .ok (.getfield 377, 3) := by decide +kernel
theorem dX11_formatNeeds_96 : decode cX11_formatNeeds 96 = .ok (.ireturn, 1) := by decide +kernel
theorem dX11_formattedByte_0 : decode cX11_formattedByte 0 = .ok (.aload_n 0, 1) := by decide +kernel
theorem dX11_formattedByte_1 : decode cX11_formattedByte 1 = .ok (.getfield 46, 3) := by decide +kernel
theorem dX11_formattedByte_4 : decode cX11_formattedByte 4 = .ok (.iload_n 1, 1) := by decide +kernel
theorem dX11_formattedByte_5 : decode cX11_formattedByte 5 = .ok (.invokevirtual 388, 3) := by decide +kernel
theorem dX11_formattedByte_8 : decode cX11_formattedByte 8 = .ok (.ireturn, 1) := by decide +kernel
theorem dX11_checkPart_0 : decode cX11_checkPart 0 = .ok (.iload_n 1, 1) := by decide +kernel
theorem dX11_checkPart_1 : decode cX11_checkPart 1 = .ok (.aload_n 0, 1) := by decide +kernel
theorem dX11_checkPart_2 : decode cX11_checkPart 2 = .ok (.getfield 57, 3) := by decide +kernel
theorem dX11_checkPart_5 : decode cX11_checkPart 5 = .ok (.getfield 126, 3) := by decide +kernel
theorem dX11_checkPart_8 : decode cX11_checkPart 8 = .ok (.invokestatic 391, 3) := by decide +kernel
theorem dX11_checkPart_11 : decode cX11_checkPart 11 = .ok (.ifCond .ne 14, 3) := by decide +kernel
theorem dX11_checkPart_14 : decode cX11_checkPart 14 = .ok (.new 394, 3) := by decide +kernel
theorem dX11_checkPart_17 : decode cX11_checkPart 17 = .ok (.dup, 1) := by decide +kernel
theorem dX11_checkPart_18 : decode cX11_checkPart 18 = .ok (.ldc_w 396, 3) := by decide +kernel
theorem dX11_checkPart_21 : decode cX11_checkPart 21 = .ok (.invokespecial 398, 3) := by decide +kernel
theorem dX11_checkPart_24 : decode cX11_checkPart 24 = .ok (.athrow, 1) := by decide +kernel
theorem dX11_checkPart_25 : decode cX11_checkPart 25 = .ok (.return_, 1) := by decide +kernel
theorem dX11_checkProduct_0 : decode cX11_checkProduct 0 = .ok (.iload_n 1, 1) := by decide +kernel
theorem dX11_checkProduct_1 : decode cX11_checkProduct 1 = .ok (.aload_n 0, 1) := by decide +kernel
theorem dX11_checkProduct_2 : decode cX11_checkProduct 2 = .ok (.getfield 57, 3) := by decide +kernel
theorem dX11_checkProduct_5 : decode cX11_checkProduct 5 = .ok (.getfield 117, 3) := by decide +kernel
theorem dX11_checkProduct_8 : decode cX11_checkProduct 8 = .ok (.invokestatic 391, 3) := by decide +kernel
theorem dX11_checkProduct_11 : decode cX11_checkProduct 11 = .ok (.ifCond .ne 14, 3) := by decide +kernel
theorem dX11_checkProduct_14 : decode cX11_checkProduct 14 = .ok (.new 394, 3) := by decide +kernel
theorem dX11_checkProduct_17 : decode cX11_checkProduct 17 = .ok (.dup, 1) := by decide +kernel
theorem dX11_checkProduct_18 : decode cX11_checkProduct 18 = .ok (.ldc_w 399, 3) := by decide +kernel
theorem dX11_checkProduct_21 : decode cX11_checkProduct 21 = .ok (.invokespecial 398, 3) := by decide +kernel
theorem dX11_checkProduct_24 : decode cX11_checkProduct 24 = .ok (.athrow, 1) := by decide +kernel
theorem dX11_checkProduct_25 : decode cX11_checkProduct 25 = .ok (.return_, 1) := by decide +kernel
theorem dX11_checkOrder_0 : decode cX11_checkOrder 0 = .ok (.iload_n 1, 1) := by decide +kernel
theorem dX11_checkOrder_1 : decode cX11_checkOrder 1 = .ok (.aload_n 0, 1) := by decide +kernel
theorem dX11_checkOrder_2 : decode cX11_checkOrder 2 = .ok (.getfield 64, 3) := by decide +kernel
theorem dX11_checkOrder_5 : decode cX11_checkOrder 5 = .ok (.getfield 129, 3) := by decide +kernel
theorem dX11_checkOrder_8 : decode cX11_checkOrder 8 = .ok (.getfield 133, 3) := by decide +kernel
theorem dX11_checkOrder_11 : decode cX11_checkOrder 11 = .ok (.invokestatic 391, 3) := by decide +kernel
theorem dX11_checkOrder_14 : decode cX11_checkOrder 14 = .ok (.ifCond .ne 14, 3) := by decide +kernel
theorem dX11_checkOrder_17 : decode cX11_checkOrder 17 = .ok (.new 394, 3) := by decide +kernel
theorem dX11_checkOrder_20 : decode cX11_checkOrder 20 = .ok (.dup, 1) := by decide +kernel
theorem dX11_checkOrder_21 : decode cX11_checkOrder 21 = .ok (.ldc_w 401, 3) := by decide +kernel
theorem dX11_checkOrder_24 : decode cX11_checkOrder 24 = .ok (.invokespecial 398, 3) := by decide +kernel
theorem dX11_checkOrder_27 : decode cX11_checkOrder 27 = .ok (.athrow, 1) := by decide +kernel
theorem dX11_checkOrder_28 : decode cX11_checkOrder 28 = .ok (.return_, 1) := by decide +kernel
theorem dX11_checkRung_0 : decode cX11_checkRung 0 = .ok (.iload_n 1, 1) := by decide +kernel
theorem dX11_checkRung_1 : decode cX11_checkRung 1 = .ok (.aload_n 0, 1) := by decide +kernel
theorem dX11_checkRung_2 : decode cX11_checkRung 2 = .ok (.getfield 57, 3) := by decide +kernel
theorem dX11_checkRung_5 : decode cX11_checkRung 5 = .ok (.getfield 138, 3) := by decide +kernel
theorem dX11_checkRung_8 : decode cX11_checkRung 8 = .ok (.invokestatic 391, 3) := by decide +kernel
theorem dX11_checkRung_11 : decode cX11_checkRung 11 = .ok (.ifCond .ne 14, 3) := by decide +kernel
theorem dX11_checkRung_14 : decode cX11_checkRung 14 = .ok (.new 394, 3) := by decide +kernel
theorem dX11_checkRung_17 : decode cX11_checkRung 17 = .ok (.dup, 1) := by decide +kernel
theorem dX11_checkRung_18 : decode cX11_checkRung 18 = .ok (.ldc_w 403, 3) := by decide +kernel
theorem dX11_checkRung_21 : decode cX11_checkRung 21 = .ok (.invokespecial 398, 3) := by decide +kernel
theorem dX11_checkRung_24 : decode cX11_checkRung 24 = .ok (.athrow, 1) := by decide +kernel
theorem dX11_checkRung_25 : decode cX11_checkRung 25 = .ok (.return_, 1) := by decide +kernel
theorem dX11_checkArgument_0 : decode cX11_checkArgument 0 = .ok (.iload_n 0, 1) := by decide +kernel
theorem dX11_checkArgument_1 : decode cX11_checkArgument 1 = .ok (.ifCond .ne 14, 3) := by decide +kernel
theorem dX11_checkArgument_4 : decode cX11_checkArgument 4 = .ok (.new 99, 3) := by decide +kernel
theorem dX11_checkArgument_7 : decode cX11_checkArgument 7 = .ok (.dup, 1) := by decide +kernel
theorem dX11_checkArgument_8 : decode cX11_checkArgument 8 = .ok (.ldc_w 405, 3) := by decide +kernel
theorem dX11_checkArgument_11 : decode cX11_checkArgument 11 = .ok (.invokespecial 103, 3) := by decide +kernel
theorem dX11_checkArgument_14 : decode cX11_checkArgument 14 = .ok (.athrow, 1) := by decide +kernel
theorem dX11_checkArgument_15 : decode cX11_checkArgument 15 = .ok (.return_, 1) := by decide +kernel
theorem dX11_checkState_0 : decode cX11_checkState 0 = .ok (.iload_n 0, 1) := by decide +kernel
theorem dX11_checkState_1 : decode cX11_checkState 1 = .ok (.ifCond .ne 14, 3) := by decide +kernel
theorem dX11_checkState_4 : decode cX11_checkState 4 = .ok (.new 407, 3) := by decide +kernel
theorem dX11_checkState_7 : decode cX11_checkState 7 = .ok (.dup, 1) := by decide +kernel
theorem dX11_checkState_8 : decode cX11_checkState 8 = .ok (.ldc_w 409, 3) := by decide +kernel
theorem dX11_checkState_11 : decode cX11_checkState 11 = .ok (.invokespecial 411, 3) := by decide +kernel
theorem dX11_checkState_14 : decode cX11_checkState 14 = .ok (.athrow, 1) := by decide +kernel
theorem dX11_checkState_15 : decode cX11_checkState 15 = .ok (.return_, 1) := by decide +kernel
theorem dX11_isInside_0 : decode cX11_isInside 0 = .ok (.iload_n 0, 1) := by decide +kernel
theorem dX11_isInside_1 : decode cX11_isInside 1 = .ok (.ifCond .lt 12, 3) := by decide +kernel
theorem dX11_isInside_4 : decode cX11_isInside 4 = .ok (.iload_n 0, 1) := by decide +kernel
theorem dX11_isInside_5 : decode cX11_isInside 5 = .ok (.iload_n 1, 1) := by decide +kernel
theorem dX11_isInside_6 : decode cX11_isInside 6 = .ok (.if_icmp .ge 7, 3) := by decide +kernel
theorem dX11_isInside_9 : decode cX11_isInside 9 = .ok (.iconst 1, 1) := by decide +kernel
theorem dX11_isInside_10 : decode cX11_isInside 10 = .ok (.goto 4, 3) := by decide +kernel
theorem dX11_isInside_13 : decode cX11_isInside 13 = .ok (.iconst 0, 1) := by decide +kernel
theorem dX11_isInside_14 : decode cX11_isInside 14 = .ok (.ireturn, 1) := by decide +kernel
theorem dX11_isClosed_0 : decode cX11_isClosed 0 = .ok (.aload_n 0, 1) := by decide +kernel
theorem dX11_isClosed_1 : decode cX11_isClosed 1 = .ok (.getfield 64, 3) := by decide +kernel
theorem dX11_isClosed_4 : decode cX11_isClosed 4 = .ok (.getfield 129, 3) := by decide +kernel
theorem dX11_isClosed_7 : decode cX11_isClosed 7 = .ok (.iload_n 1, 1) := by decide +kernel
theorem dX11_isClosed_8 : decode cX11_isClosed 8 = .ok (.invokevirtual 210, 3) := by decide +kernel
theorem dX11_isClosed_11 : decode cX11_isClosed 11 = .ok (.istore_n 2, 1) := by decide +kernel
theorem dX11_isClosed_12 : decode cX11_isClosed 12 = .ok (.iload_n 2, 1) := by decide +kernel
theorem dX11_isClosed_13 : decode cX11_isClosed 13 = .ok (.iconst 2, 1) := by decide +kernel
theorem dX11_isClosed_14 : decode cX11_isClosed 14 = .ok (.if_icmp .eq 8, 3) := by decide +kernel
theorem dX11_isClosed_17 : decode cX11_isClosed 17 = .ok (.iload_n 2, 1) := by decide +kernel
theorem dX11_isClosed_18 : decode cX11_isClosed 18 = .ok (.iconst 3, 1) := by decide +kernel
theorem dX11_isClosed_19 : decode cX11_isClosed 19 = .ok (.if_icmp .ne 7, 3) := by decide +kernel
theorem dX11_isClosed_22 : decode cX11_isClosed 22 = .ok (.iconst 1, 1) := by decide +kernel
theorem dX11_isClosed_23 : decode cX11_isClosed 23 = .ok (.goto 4, 3) := by decide +kernel
theorem dX11_isClosed_26 : decode cX11_isClosed 26 = .ok (.iconst 0, 1) := by decide +kernel
theorem dX11_isClosed_27 : decode cX11_isClosed 27 = .ok (.ireturn, 1) := by decide +kernel
theorem dX11_shortageOf_0 : decode cX11_shortageOf 0 = .ok (.aload_n 0, 1) := by decide +kernel
theorem dX11_shortageOf_1 : decode cX11_shortageOf 1 = .ok (.getfield 64, 3) := by decide +kernel
theorem dX11_shortageOf_4 : decode cX11_shortageOf 4 = .ok (.getfield 129, 3) := by decide +kernel
theorem dX11_shortageOf_7 : decode cX11_shortageOf 7 = .ok (.iload_n 1, 1) := by decide +kernel
theorem dX11_shortageOf_8 : decode cX11_shortageOf 8 = .ok (.invokevirtual 213, 3) := by decide +kernel
theorem dX11_shortageOf_11 : decode cX11_shortageOf 11 = .ok (.aload_n 0, 1) := by decide +kernel
theorem dX11_shortageOf_12 : decode cX11_shortageOf 12 = .ok (.getfield 57, 3) := by decide +kernel
theorem dX11_shortageOf_15 : decode cX11_shortageOf 15 = .ok (.aload_n 0, 1) := by decide +kernel
theorem dX11_shortageOf_16 : decode cX11_shortageOf 16 = .ok (.getfield 64, 3) := by decide +kernel
theorem dX11_shortageOf_19 : decode cX11_shortageOf 19 = .ok (.getfield 129, 3) := by decide +kernel
theorem dX11_shortageOf_22 : decode cX11_shortageOf 22 = .ok (.iload_n 1, 1) := by decide +kernel
theorem dX11_shortageOf_23 : decode cX11_shortageOf 23 = .ok (.invokevirtual 220, 3) := by decide +kernel
theorem dX11_shortageOf_26 : decode cX11_shortageOf 26 = .ok (.iload_n 2, 1) := by decide +kernel
theorem dX11_shortageOf_27 : decode cX11_shortageOf 27 = .ok (.invokevirtual 167, 3) := by decide +kernel
theorem dX11_shortageOf_30 : decode cX11_shortageOf 30 = .ok (.imul, 1) := by decide +kernel
theorem dX11_shortageOf_31 : decode cX11_shortageOf 31 = .ok (.istore_n 3, 1) := by decide +kernel
theorem dX11_shortageOf_32 : decode cX11_shortageOf 32 = .ok (.iconst 0, 1) := by decide +kernel
theorem dX11_shortageOf_33 : decode cX11_shortageOf 33 = .ok (.iload_n 3, 1) := by decide +kernel
theorem dX11_shortageOf_34 : decode cX11_shortageOf 34 = .ok (.aload_n 0, 1) := by decide +kernel
theorem dX11_shortageOf_35 : decode cX11_shortageOf 35 = .ok (.getfield 64, 3) := by decide +kernel
theorem dX11_shortageOf_38 : decode cX11_shortageOf 38 = .ok (.getfield 141, 3) := by decide +kernel
theorem dX11_shortageOf_41 : decode cX11_shortageOf 41 = .ok (.iload_n 2, 1) := by decide +kernel
theorem dX11_shortageOf_42 : decode cX11_shortageOf 42 = .ok (.invokevirtual 412, 3) := by decide +kernel
theorem dX11_shortageOf_45 : decode cX11_shortageOf 45 = .ok (.isub, 1) := by decide +kernel
theorem dX11_shortageOf_46 : decode cX11_shortageOf 46 = .ok (.invokestatic 277, 3) := by decide +kernel
theorem dX11_shortageOf_49 : decode cX11_shortageOf 49 = .ok (.ireturn, 1) := by decide +kernel
theorem dX11_shortageOfAll_0 : decode cX11_shortageOfAll 0 = .ok (.aload_n 0, 1) := by decide +kernel
theorem dX11_shortageOfAll_1 : decode cX11_shortageOfAll 1 = .ok (.getfield 64, 3) := by decide +kernel
theorem dX11_shortageOfAll_4 : decode cX11_shortageOfAll 4 = .ok (.getfield 141, 3) := by decide +kernel
theorem dX11_shortageOfAll_7 : decode cX11_shortageOfAll 7 = .ok (.astore_n 2, 1) := by decide +kernel
theorem dX11_shortageOfAll_8 : decode cX11_shortageOfAll 8 = .ok (.aload_n 0, 1) := by decide +kernel
theorem dX11_shortageOfAll_9 : decode cX11_shortageOfAll 9 = .ok (.getfield 64, 3) := by decide +kernel
theorem dX11_shortageOfAll_12 : decode cX11_shortageOfAll 12 = .ok (.aload_n 0, 1) := by decide +kernel
theorem dX11_shortageOfAll_13 : decode cX11_shortageOfAll 13 = .ok (.getfield 57, 3) := by decide +kernel
theorem dX11_shortageOfAll_16 : decode cX11_shortageOfAll 16 = .ok (.iload_n 1, 1) := by decide +kernel
theorem dX11_shortageOfAll_17 : decode cX11_shortageOfAll 17 = .ok (.invokevirtual 273, 3) := by decide +kernel
theorem dX11_shortageOfAll_20 : decode cX11_shortageOfAll 20 = .ok (.istore_n 3, 1) := by decide +kernel
theorem dX11_shortageOfAll_21 : decode cX11_shortageOfAll 21 = .ok (.iconst 0, 1) := by decide +kernel
theorem dX11_shortageOfAll_22 : decode cX11_shortageOfAll 22 = .ok (.iload_n 3, 1) := by decide +kernel
theorem dX11_shortageOfAll_23 : decode cX11_shortageOfAll 23 = .ok (.aload_n 2, 1) := by decide +kernel
theorem dX11_shortageOfAll_24 : decode cX11_shortageOfAll 24 = .ok (.iload_n 1, 1) := by decide +kernel
theorem dX11_shortageOfAll_25 : decode cX11_shortageOfAll 25 = .ok (.invokevirtual 412, 3) := by decide +kernel
theorem dX11_shortageOfAll_28 : decode cX11_shortageOfAll 28 = .ok (.isub, 1) := by decide +kernel
theorem dX11_shortageOfAll_29 : decode cX11_shortageOfAll 29 = .ok (.aload_n 2, 1) := by decide +kernel
theorem dX11_shortageOfAll_30 : decode cX11_shortageOfAll 30 = .ok (.iload_n 1, 1) := by decide +kernel
theorem dX11_shortageOfAll_31 : decode cX11_shortageOfAll 31 = .ok (.invokevirtual 182, 3) := by decide +kernel
theorem dX11_shortageOfAll_34 : decode cX11_shortageOfAll 34 = .ok (.isub, 1) := by decide +kernel
theorem dX11_shortageOfAll_35 : decode cX11_shortageOfAll 35 = .ok (.invokestatic 277, 3) := by decide +kernel
theorem dX11_shortageOfAll_38 : decode cX11_shortageOfAll 38 = .ok (.ireturn, 1) := by decide +kernel
theorem dX11_dayOfPart_0 : decode cX11_dayOfPart 0 = .ok (.aload_n 0, 1) := by decide +kernel
theorem dX11_dayOfPart_1 : decode cX11_dayOfPart 1 = .ok (.getfield 64, 3) := by decide +kernel
theorem dX11_dayOfPart_4 : decode cX11_dayOfPart 4 = .ok (.getfield 141, 3) := by decide +kernel
theorem dX11_dayOfPart_7 : decode cX11_dayOfPart 7 = .ok (.iload_n 1, 1) := by decide +kernel
theorem dX11_dayOfPart_8 : decode cX11_dayOfPart 8 = .ok (.iload_n 2, 1) := by decide +kernel
theorem dX11_dayOfPart_9 : decode cX11_dayOfPart 9 = .ok (.aload_n 0, 1) := by decide +kernel
theorem dX11_dayOfPart_10 : decode cX11_dayOfPart 10 = .ok (.getfield 57, 3) := by decide +kernel
theorem dX11_dayOfPart_13 : decode cX11_dayOfPart 13 = .ok (.iload_n 1, 1) := by decide +kernel
theorem dX11_dayOfPart_14 : decode cX11_dayOfPart 14 = .ok (.invokevirtual 316, 3) := by decide +kernel
theorem dX11_dayOfPart_17 : decode cX11_dayOfPart 17 = .ok (.invokevirtual 415, 3) := by decide +kernel
theorem dX11_dayOfPart_20 : decode cX11_dayOfPart 20 = .ok (.ireturn, 1) := by decide +kernel
theorem dX11_promiseDate_0 : decode cX11_promiseDate 0 = .ok (.aload_n 0, 1) := by decide +kernel
theorem dX11_promiseDate_1 : decode cX11_promiseDate 1 = .ok (.getfield 64, 3) := by decide +kernel
theorem dX11_promiseDate_4 : decode cX11_promiseDate 4 = .ok (.getfield 141, 3) := by decide +kernel
theorem dX11_promiseDate_7 : decode cX11_promiseDate 7 = .ok (.getfield 173, 3) := by decide +kernel
theorem dX11_promiseDate_10 : decode cX11_promiseDate 10 = .ok (.istore_n 3, 1) := by decide +kernel
theorem dX11_promiseDate_11 : decode cX11_promiseDate 11 = .ok (.iconst 0, 1) := by decide +kernel
theorem dX11_promiseDate_12 : decode cX11_promiseDate 12 = .ok (.istore 4, 2) := by decide +kernel
theorem dX11_promiseDate_14 : decode cX11_promiseDate 14 = .ok (.iload 4, 2) := by decide +kernel
theorem dX11_promiseDate_16 : decode cX11_promiseDate 16 = .ok (.aload_n 0, 1) := by decide +kernel
theorem dX11_promiseDate_17 : decode cX11_promiseDate 17 = .ok (.getfield 57, 3) := by decide +kernel
theorem dX11_promiseDate_20 : decode cX11_promiseDate 20 = .ok (.getfield 126, 3) := by decide +kernel
theorem dX11_promiseDate_23 : decode cX11_promiseDate 23 = .ok (.if_icmp .ge 41, 3) := by decide +kernel
theorem dX11_promiseDate_26 : decode cX11_promiseDate 26 = .ok (.aload_n 0, 1) := by decide +kernel
theorem dX11_promiseDate_27 : decode cX11_promiseDate 27 = .ok (.getfield 57, 3) := by decide +kernel
theorem dX11_promiseDate_30 : decode cX11_promiseDate 30 = .ok (.iload_n 1, 1) := by decide +kernel
theorem dX11_promiseDate_31 : decode cX11_promiseDate 31 = .ok (.iload 4, 2) := by decide +kernel
theorem dX11_promiseDate_33 : decode cX11_promiseDate 33 = .ok (.invokevirtual 167, 3) := by decide +kernel
theorem dX11_promiseDate_36 : decode cX11_promiseDate 36 = .ok (.istore 5, 2) := by decide +kernel
theorem dX11_promiseDate_38 : decode cX11_promiseDate 38 = .ok (.iload 5, 2) := by decide +kernel
theorem dX11_promiseDate_40 : decode cX11_promiseDate 40 = .ok (.ifCond .le 18, 3) := by decide +kernel
theorem dX11_promiseDate_43 : decode cX11_promiseDate 43 = .ok (.iload_n 3, 1) := by decide +kernel
theorem dX11_promiseDate_44 : decode cX11_promiseDate 44 = .ok (.aload_n 0, 1) := by decide +kernel
theorem dX11_promiseDate_45 : decode cX11_promiseDate 45 = .ok (.iload 4, 2) := by decide +kernel
theorem dX11_promiseDate_47 : decode cX11_promiseDate 47 = .ok (.iload_n 2, 1) := by decide +kernel
theorem dX11_promiseDate_48 : decode cX11_promiseDate 48 = .ok (.iload 5, 2) := by decide +kernel
theorem dX11_promiseDate_50 : decode cX11_promiseDate 50 = .ok (.imul, 1) := by decide +kernel
theorem dX11_promiseDate_51 : decode cX11_promiseDate 51 = .ok (.invokevirtual 246, 3) := by decide +kernel
theorem dX11_promiseDate_54 : decode cX11_promiseDate 54 = .ok (.invokestatic 277, 3) := by decide +kernel
theorem dX11_promiseDate_57 : decode cX11_promiseDate 57 = .ok (.istore_n 3, 1) := by decide +kernel
theorem dX11_promiseDate_58 : decode cX11_promiseDate 58 = .ok (.iinc 4 1, 3) := by decide +kernel
theorem dX11_promiseDate_61 : decode cX11_promiseDate 61 = .ok (.goto (-47), 3) := by decide +kernel
theorem dX11_promiseDate_64 : decode cX11_promiseDate 64 = .ok (.iload_n 3, 1) := by decide +kernel
theorem dX11_promiseDate_65 : decode cX11_promiseDate 65 = .ok (.ireturn, 1) := by decide +kernel
theorem dJ9_floorMod_7cf53_0 : decode cJ9_floorMod_7cf53 0 = .ok (.iload_n 0, 1) := by decide +kernel
theorem dJ9_floorMod_7cf53_1 : decode cJ9_floorMod_7cf53 1 = .ok (.iload_n 1, 1) := by decide +kernel
theorem dJ9_floorMod_7cf53_2 : decode cJ9_floorMod_7cf53 2 = .ok (.irem, 1) := by decide +kernel
theorem dJ9_floorMod_7cf53_3 : decode cJ9_floorMod_7cf53 3 = .ok (.istore_n 2, 1) := by decide +kernel
theorem dJ9_floorMod_7cf53_4 : decode cJ9_floorMod_7cf53 4 = .ok (.iload_n 0, 1) := by decide +kernel
theorem dJ9_floorMod_7cf53_5 : decode cJ9_floorMod_7cf53 5 = .ok (.iload_n 1, 1) := by decide +kernel
theorem dJ9_floorMod_7cf53_6 : decode cJ9_floorMod_7cf53 6 = .ok (.ixor, 1) := by decide +kernel
theorem dJ9_floorMod_7cf53_7 : decode cJ9_floorMod_7cf53 7 = .ok (.ifCond .ge 11, 3) := by decide +kernel
theorem dJ9_floorMod_7cf53_10 : decode cJ9_floorMod_7cf53 10 = .ok (.iload_n 2, 1) := by decide +kernel
theorem dJ9_floorMod_7cf53_11 : decode cJ9_floorMod_7cf53 11 = .ok (.ifCond .eq 7, 3) := by decide +kernel
theorem dJ9_floorMod_7cf53_14 : decode cJ9_floorMod_7cf53 14 = .ok (.iload_n 2, 1) := by decide +kernel
theorem dJ9_floorMod_7cf53_15 : decode cJ9_floorMod_7cf53 15 = .ok (.iload_n 1, 1) := by decide +kernel
theorem dJ9_floorMod_7cf53_16 : decode cJ9_floorMod_7cf53 16 = .ok (.iadd, 1) := by decide +kernel
theorem dJ9_floorMod_7cf53_17 : decode cJ9_floorMod_7cf53 17 = .ok (.ireturn, 1) := by decide +kernel
theorem dJ9_floorMod_7cf53_18 : decode cJ9_floorMod_7cf53 18 = .ok (.iload_n 2, 1) := by decide +kernel
theorem dJ9_floorMod_7cf53_19 : decode cJ9_floorMod_7cf53 19 = .ok (.ireturn, 1) := by decide +kernel
theorem dJ7_fill_53178_0 : decode cJ7_fill_53178 0 = .ok (.iconst 0, 1) := by decide +kernel
theorem dJ7_fill_53178_1 : decode cJ7_fill_53178 1 = .ok (.istore_n 2, 1) := by decide +kernel
theorem dJ7_fill_53178_2 : decode cJ7_fill_53178 2 = .ok (.aload_n 0, 1) := by decide +kernel
theorem dJ7_fill_53178_3 : decode cJ7_fill_53178 3 = .ok (.arraylength, 1) := by decide +kernel
theorem dJ7_fill_53178_4 : decode cJ7_fill_53178 4 = .ok (.istore_n 3, 1) := by decide +kernel
theorem dJ7_fill_53178_5 : decode cJ7_fill_53178 5 = .ok (.iload_n 2, 1) := by decide +kernel
theorem dJ7_fill_53178_6 : decode cJ7_fill_53178 6 = .ok (.iload_n 3, 1) := by decide +kernel
theorem dJ7_fill_53178_7 : decode cJ7_fill_53178 7 = .ok (.if_icmp .ge 13, 3) := by decide +kernel
theorem dJ7_fill_53178_10 : decode cJ7_fill_53178 10 = .ok (.aload_n 0, 1) := by decide +kernel
theorem dJ7_fill_53178_11 : decode cJ7_fill_53178 11 = .ok (.iload_n 2, 1) := by decide +kernel
theorem dJ7_fill_53178_12 : decode cJ7_fill_53178 12 = .ok (.iload_n 1, 1) := by decide +kernel
theorem dJ7_fill_53178_13 : decode cJ7_fill_53178 13 = .ok (.iastore, 1) := by decide +kernel
theorem dJ7_fill_53178_14 : decode cJ7_fill_53178 14 = .ok (.iinc 2 1, 3) := by decide +kernel
theorem dJ7_fill_53178_17 : decode cJ7_fill_53178 17 = .ok (.goto (-12), 3) := by decide +kernel
theorem dJ7_fill_53178_20 : decode cJ7_fill_53178 20 = .ok (.return_, 1) := by decide +kernel
theorem dJ0_length_8abf5_0 : decode cJ0_length_8abf5 0 = .ok (.aload_n 0, 1) := by decide +kernel
theorem dJ0_length_8abf5_1 : decode cJ0_length_8abf5 1 = .ok (.getfield 9, 3) := by decide +kernel
theorem dJ0_length_8abf5_4 : decode cJ0_length_8abf5 4 = .ok (.arraylength, 1) := by decide +kernel
theorem dJ0_length_8abf5_5 : decode cJ0_length_8abf5 5 = .ok (.aload_n 0, 1) := by decide +kernel
theorem dJ0_length_8abf5_6 : decode cJ0_length_8abf5 6 = .ok (.invokevirtual 335, 3) := by decide +kernel
theorem dJ0_length_8abf5_9 : decode cJ0_length_8abf5 9 = .ok (.ishr, 1) := by decide +kernel
theorem dJ0_length_8abf5_10 : decode cJ0_length_8abf5 10 = .ok (.ireturn, 1) := by decide +kernel
theorem dJ0_charAt_5068e_0 : decode cJ0_charAt_5068e 0 = .ok (.aload_n 0, 1) := by decide +kernel
theorem dJ0_charAt_5068e_1 : decode cJ0_charAt_5068e 1 = .ok (.invokevirtual 492, 3) := by decide +kernel
theorem dJ0_charAt_5068e_4 : decode cJ0_charAt_5068e 4 = .ok (.ifCond .eq 12, 3) := by decide +kernel
theorem dJ0_charAt_5068e_7 : decode cJ0_charAt_5068e 7 = .ok (.aload_n 0, 1) := by decide +kernel
theorem dJ0_charAt_5068e_8 : decode cJ0_charAt_5068e 8 = .ok (.getfield 9, 3) := by decide +kernel
theorem dJ0_charAt_5068e_11 : decode cJ0_charAt_5068e 11 = .ok (.iload_n 1, 1) := by decide +kernel
theorem dJ0_charAt_5068e_12 : decode cJ0_charAt_5068e 12 = .ok (.invokestatic 495, 3) := by decide +kernel
theorem dJ0_charAt_5068e_15 : decode cJ0_charAt_5068e 15 = .ok (.ireturn, 1) := by decide +kernel
theorem dJ0_charAt_5068e_16 : decode cJ0_charAt_5068e 16 = .ok (.aload_n 0, 1) := by decide +kernel
theorem dJ0_charAt_5068e_17 : decode cJ0_charAt_5068e 17 = .ok (.getfield 9, 3) := by decide +kernel
theorem dJ0_charAt_5068e_20 : decode cJ0_charAt_5068e 20 = .ok (.iload_n 1, 1) := by decide +kernel
theorem dJ0_charAt_5068e_21 : decode cJ0_charAt_5068e 21 = .ok (.invokestatic 498, 3) := by decide +kernel
theorem dJ0_charAt_5068e_24 : decode cJ0_charAt_5068e 24 = .ok (.ireturn, 1) := by decide +kernel
theorem dJ0_coder_7d493_0 : decode cJ0_coder_7d493 0 = .ok (.getstatic 38, 3) := by decide +kernel
theorem dJ0_coder_7d493_3 : decode cJ0_coder_7d493 3 = .ok (.ifCond .eq 10, 3) := by decide +kernel
theorem dJ0_coder_7d493_6 : decode cJ0_coder_7d493 6 = .ok (.aload_n 0, 1) := by decide +kernel
theorem dJ0_coder_7d493_7 : decode cJ0_coder_7d493 7 = .ok (.getfield 15, 3) := by decide +kernel
theorem dJ0_coder_7d493_10 : decode cJ0_coder_7d493 10 = .ok (.goto 4, 3) := by decide +kernel
theorem dJ0_coder_7d493_13 : decode cJ0_coder_7d493 13 = .ok (.iconst 1, 1) := by decide +kernel
theorem dJ0_coder_7d493_14 : decode cJ0_coder_7d493 14 = .ok (.ireturn, 1) := by decide +kernel
theorem dJ0_isLatin1_aae02_0 : decode cJ0_isLatin1_aae02 0 = .ok (.getstatic 38, 3) := by decide +kernel
theorem dJ0_isLatin1_aae02_3 : decode cJ0_isLatin1_aae02 3 = .ok (.ifCond .eq 14, 3) := by decide +kernel
theorem dJ0_isLatin1_aae02_6 : decode cJ0_isLatin1_aae02 6 = .ok (.aload_n 0, 1) := by decide +kernel
theorem dJ0_isLatin1_aae02_7 : decode cJ0_isLatin1_aae02 7 = .ok (.getfield 15, 3) := by decide +kernel
theorem dJ0_isLatin1_aae02_10 : decode cJ0_isLatin1_aae02 10 = .ok (.ifCond .ne 7, 3) := by decide +kernel
theorem dJ0_isLatin1_aae02_13 : decode cJ0_isLatin1_aae02 13 = .ok (.iconst 1, 1) := by decide +kernel
theorem dJ0_isLatin1_aae02_14 : decode cJ0_isLatin1_aae02 14 = .ok (.goto 4, 3) := by decide +kernel
theorem dJ0_isLatin1_aae02_17 : decode cJ0_isLatin1_aae02 17 = .ok (.iconst 0, 1) := by decide +kernel
theorem dJ0_isLatin1_aae02_18 : decode cJ0_isLatin1_aae02 18 = .ok (.ireturn, 1) := by decide +kernel
theorem dJ0_checkIndex_df160_0 : decode cJ0_checkIndex_df160 0 = .ok (.iload_n 0, 1) := by decide +kernel
theorem dJ0_checkIndex_df160_1 : decode cJ0_checkIndex_df160 1 = .ok (.iload_n 1, 1) := by decide +kernel
theorem dJ0_checkIndex_df160_2 : decode cJ0_checkIndex_df160 2 = .ok (.getstatic 1053, 3) := by decide +kernel
theorem dJ0_checkIndex_df160_5 : decode cJ0_checkIndex_df160 5 = .ok (.invokestatic 1059, 3) := by decide +kernel
theorem dJ0_checkIndex_df160_8 : decode cJ0_checkIndex_df160 8 = .ok (.pop, 1) := by decide +kernel
theorem dJ0_checkIndex_df160_9 : decode cJ0_checkIndex_df160 9 = .ok (.return_, 1) := by decide +kernel
theorem dJ1_charAt_3b067_0 : decode cJ1_charAt_3b067 0 = .ok (.iload_n 1, 1) := by decide +kernel
theorem dJ1_charAt_3b067_1 : decode cJ1_charAt_3b067 1 = .ok (.aload_n 0, 1) := by decide +kernel
theorem dJ1_charAt_3b067_2 : decode cJ1_charAt_3b067 2 = .ok (.arraylength, 1) := by decide +kernel
theorem dJ1_charAt_3b067_3 : decode cJ1_charAt_3b067 3 = .ok (.invokestatic 9, 3) := by decide +kernel
theorem dJ1_charAt_3b067_6 : decode cJ1_charAt_3b067 6 = .ok (.aload_n 0, 1) := by decide +kernel
theorem dJ1_charAt_3b067_7 : decode cJ1_charAt_3b067 7 = .ok (.iload_n 1, 1) := by decide +kernel
theorem dJ1_charAt_3b067_8 : decode cJ1_charAt_3b067 8 = .ok (.baload, 1) := by decide +kernel
theorem dJ1_charAt_3b067_9 : decode cJ1_charAt_3b067 9 = .ok (.sipush 255, 3) := by decide +kernel
theorem dJ1_charAt_3b067_12 : decode cJ1_charAt_3b067 12 = .ok (.iand, 1) := by decide +kernel
theorem dJ1_charAt_3b067_13 : decode cJ1_charAt_3b067 13 = .ok (.i2c, 1) := by decide +kernel
theorem dJ1_charAt_3b067_14 : decode cJ1_charAt_3b067 14 = .ok (.ireturn, 1) := by decide +kernel
theorem dJ3_checkIndex_8e157_0 : decode cJ3_checkIndex_8e157 0 = .ok (.iload_n 0, 1) := by decide +kernel
theorem dJ3_checkIndex_8e157_1 : decode cJ3_checkIndex_8e157 1 = .ok (.ifCond .lt 8, 3) := by decide +kernel
theorem dJ3_checkIndex_8e157_4 : decode cJ3_checkIndex_8e157 4 = .ok (.iload_n 0, 1) := by decide +kernel
theorem dJ3_checkIndex_8e157_5 : decode cJ3_checkIndex_8e157 5 = .ok (.iload_n 1, 1) := by decide +kernel
theorem dJ3_checkIndex_8e157_6 : decode cJ3_checkIndex_8e157 6 = .ok (.if_icmp .lt 10, 3) := by decide +kernel
theorem dJ3_checkIndex_8e157_9 : decode cJ3_checkIndex_8e157 9 = .ok (.aload_n 2, 1) := by decide +kernel
theorem dJ3_checkIndex_8e157_10 : decode cJ3_checkIndex_8e157 10 = .ok (.iload_n 0, 1) := by decide +kernel
theorem dJ3_checkIndex_8e157_11 : decode cJ3_checkIndex_8e157 11 = .ok (.iload_n 1, 1) := by decide +kernel
theorem dJ3_checkIndex_8e157_12 : decode cJ3_checkIndex_8e157 12 = .ok (.invokestatic 95, 3) := by decide +kernel
theorem dJ3_checkIndex_8e157_15 : decode cJ3_checkIndex_8e157 15 = .ok (.athrow, 1) := by decide +kernel
theorem dJ3_checkIndex_8e157_16 : decode cJ3_checkIndex_8e157 16 = .ok (.iload_n 0, 1) := by decide +kernel
theorem dJ3_checkIndex_8e157_17 : decode cJ3_checkIndex_8e157 17 = .ok (.ireturn, 1) := by decide +kernel
