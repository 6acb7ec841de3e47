theorem dX12_thrown_0 : decode cX12_thrown 0 = .ok (.aload_n 0, 1) := by decide +kernel
theorem dX12_thrown_1 : decode cX12_thrown 1 = .ok (.getfield 3, 3) := by decide +kernel
theorem dX12_thrown_4 : decode cX12_thrown 4 = .ok (.ireturn, 1) := by decide +kernel
theorem dX12_throwsIf_0 : decode cX12_throwsIf 0 = .ok (.iload_n 1, 1) := by decide +kernel
theorem dX12_throwsIf_1 : decode cX12_throwsIf 1 = .ok (.ifCond .eq 8, 3) := by decide +kernel
theorem dX12_throwsIf_4 : decode cX12_throwsIf 4 = .ok (.aload_n 0, 1) := by decide +kernel
theorem dX12_throwsIf_5 : decode cX12_throwsIf 5 = .ok (.iload_n 2, 1) := by decide +kernel
theorem dX12_throwsIf_6 : decode cX12_throwsIf 6 = .ok (.putfield 3, 3) := by decide +kernel
theorem dX12_throwsIf_9 : decode cX12_throwsIf 9 = .ok (.iload_n 1, 1) := by decide +kernel
theorem dX12_throwsIf_10 : decode cX12_throwsIf 10 = .ok (.ireturn, 1) := by decide +kernel
theorem dX12_in_0 : decode cX12_in 0 = .ok (.iload_n 0, 1) := by decide +kernel
theorem dX12_in_1 : decode cX12_in 1 = .ok (.iload_n 1, 1) := by decide +kernel
theorem dX12_in_2 : decode cX12_in 2 = .ok (.if_icmp .lt 12, 3) := by decide +kernel
theorem dX12_in_5 : decode cX12_in 5 = .ok (.iload_n 0, 1) := by decide +kernel
theorem dX12_in_6 : decode cX12_in 6 = .ok (.iload_n 2, 1) := by decide +kernel
theorem dX12_in_7 : decode cX12_in 7 = .ok (.if_icmp .gt 7, 3) := by decide +kernel
theorem dX12_in_10 : decode cX12_in 10 = .ok (.iconst 1, 1) := by decide +kernel
theorem dX12_in_11 : decode cX12_in 11 = .ok (.goto 4, 3) := by decide +kernel
theorem dX12_in_14 : decode cX12_in 14 = .ok (.iconst 0, 1) := by decide +kernel
theorem dX12_in_15 : decode cX12_in 15 = .ok (.ireturn, 1) := by decide +kernel
theorem dX12_append_0 : decode cX12_append 0 = .ok (.aload_n 0, 1) := by decide +kernel
theorem dX12_append_1 : decode cX12_append 1 = .ok (.iconst 0, 1) := by decide +kernel
theorem dX12_append_2 : decode cX12_append 2 = .ok (.putfield 3, 3) := by decide +kernel
theorem dX12_append_5 : decode cX12_append 5 = .ok (.aload_n 0, 1) := by decide +kernel
theorem dX12_append_6 : decode cX12_append 6 = .ok (.getfield 7, 3) := by decide +kernel
theorem dX12_append_9 : decode cX12_append 9 = .ok (.bipush 20, 2) := by decide +kernel
theorem dX12_append_11 : decode cX12_append 11 = .ok (.iadd, 1) := by decide +kernel
theorem dX12_append_12 : decode cX12_append 12 = .ok (.sipush 900, 3) := by decide +kernel
theorem dX12_append_15 : decode cX12_append 15 = .ok (.if_icmp .le 5, 3) := by decide +kernel
theorem dX12_append_18 : decode cX12_append 18 = .ok (.iconst (-1), 1) := by decide +kernel
theorem dX12_append_19 : decode cX12_append 19 = .ok (.ireturn, 1) := by decide +kernel
theorem dX12_append_20 : decode cX12_append 20 = .ok (.aload_n 0, 1) := by decide +kernel
theorem dX12_append_21 : decode cX12_append 21 = .ok (.getfield 10, 3) := by decide +kernel
theorem dX12_append_24 : decode cX12_append 24 = .ok (.iconst 0, 1) := by decide +kernel
theorem dX12_append_25 : decode cX12_append 25 = .ok (.iload_n 1, 1) := by decide +kernel
theorem dX12_append_26 : decode cX12_append 26 = .ok (.iastore, 1) := by decide +kernel
theorem dX12_append_27 : decode cX12_append 27 = .ok (.aload_n 0, 1) := by decide +kernel
theorem dX12_append_28 : decode cX12_append 28 = .ok (.getfield 10, 3) := by decide +kernel
theorem dX12_append_31 : decode cX12_append 31 = .ok (.iconst 1, 1) := by decide +kernel
theorem dX12_append_32 : decode cX12_append 32 = .ok (.iload_n 2, 1) := by decide +kernel
theorem dX12_append_33 : decode cX12_append 33 = .ok (.iastore, 1) := by decide +kernel
theorem dX12_append_34 : decode cX12_append 34 = .ok (.aload_n 0, 1) := by decide +kernel
theorem dX12_append_35 : decode cX12_append 35 = .ok (.getfield 10, 3) := by decide +kernel
theorem dX12_append_38 : decode cX12_append 38 = .ok (.iconst 2, 1) := by decide +kernel
theorem dX12_append_39 : decode cX12_append 39 = .ok (.iload_n 3, 1) := by decide +kernel
theorem dX12_append_40 : decode cX12_append 40 = .ok (.iastore, 1) := by decide +kernel
theorem dX12_append_41 : decode cX12_append 41 = .ok (.aload_n 0, 1) := by decide +kernel
theorem dX12_append_42 : decode cX12_append 42 = .ok (.getfield 10, 3) := by decide +kernel
theorem dX12_append_45 : decode cX12_append 45 = .ok (.iconst 3, 1) := by decide +kernel
theorem dX12_append_46 : decode cX12_append 46 = .ok (.iload 4, 2) := by decide +kernel
theorem dX12_append_48 : decode cX12_append 48 = .ok (.iastore, 1) := by decide +kernel
theorem dX12_append_49 : decode cX12_append 49 = .ok (.aload_n 0, 1) := by decide +kernel
theorem dX12_append_50 : decode cX12_append 50 = .ok (.getfield 10, 3) := by decide +kernel
theorem dX12_append_53 : decode cX12_append 53 = .ok (.iconst 4, 1) := by decide +kernel
theorem dX12_append_54 : decode cX12_append 54 = .ok (.iload 5, 2) := by decide +kernel
theorem dX12_append_56 : decode cX12_append 56 = .ok (.iastore, 1) := by decide +kernel
theorem dX12_append_57 : decode cX12_append 57 = .ok (.iconst 0, 1) := by decide +kernel
theorem dX12_append_58 : decode cX12_append 58 = .ok (.istore 6, 2) := by decide +kernel
theorem dX12_append_60 : decode cX12_append 60 = .ok (.iload 6, 2) := by decide +kernel
theorem dX12_append_62 : decode cX12_append 62 = .ok (.bipush 20, 2) := by decide +kernel
theorem dX12_append_64 : decode cX12_append 64 = .ok (.if_icmp .ge 42, 3) := by decide +kernel
theorem dX12_append_67 : decode cX12_append 67 = .ok (.aload_n 0, 1) := by decide +kernel
theorem dX12_append_68 : decode cX12_append 68 = .ok (.getfield 14, 3) := by decide +kernel
theorem dX12_append_71 : decode cX12_append 71 = .ok (.aload_n 0, 1) := by decide +kernel
theorem dX12_append_72 : decode cX12_append 72 = .ok (.getfield 7, 3) := by decide +kernel
theorem dX12_append_75 : decode cX12_append 75 = .ok (.iload 6, 2) := by decide +kernel
theorem dX12_append_77 : decode cX12_append 77 = .ok (.iadd, 1) := by decide +kernel
theorem dX12_append_78 : decode cX12_append 78 = .ok (.aload_n 0, 1) := by decide +kernel
theorem dX12_append_79 : decode cX12_append 79 = .ok (.getfield 10, 3) := by decide +kernel
theorem dX12_append_82 : decode cX12_append 82 = .ok (.iload 6, 2) := by decide +kernel
theorem dX12_append_84 : decode cX12_append 84 = .ok (.iconst 4, 1) := by decide +kernel
theorem dX12_append_85 : decode cX12_append 85 = .ok (.idiv, 1) := by decide +kernel
theorem dX12_append_86 : decode cX12_append 86 = .ok (.iaload, 1) := by decide +kernel
theorem dX12_append_87 : decode cX12_append 87 = .ok (.bipush 24, 2) := by decide +kernel
theorem dX12_append_89 : decode cX12_append 89 = .ok (.bipush 8, 2) := by decide +kernel
theorem dX12_append_91 : decode cX12_append 91 = .ok (.iload 6, 2) := by decide +kernel
theorem dX12_append_93 : decode cX12_append 93 = .ok (.iconst 4, 1) := by decide +kernel
theorem dX12_append_94 : decode cX12_append 94 = .ok (.irem, 1) := by decide +kernel
theorem dX12_append_95 : decode cX12_append 95 = .ok (.imul, 1) := by decide +kernel
theorem dX12_append_96 : decode cX12_append 96 = .ok (.isub, 1) := by decide +kernel
theorem dX12_append_97 : decode cX12_append 97 = .ok (.ishr, 1) := by decide +kernel
theorem dX12_append_98 : decode cX12_append 98 = .ok (.i2b, 1) := by decide +kernel
theorem dX12_append_99 : decode cX12_append 99 = .ok (.bastore, 1) := by decide +kernel
theorem dX12_append_100 : decode cX12_append 100 = .ok (.iinc 6 1, 3) := by decide +kernel
theorem dX12_append_103 : decode cX12_append 103 = .ok (.goto (-43), 3) := by decide +kernel
theorem dX12_append_106 : decode cX12_append 106 = .ok (.aload_n 0, 1) := by decide +kernel
theorem dX12_append_107 : decode cX12_append 107 = .ok (.dup, 1) := by decide +kernel
theorem dX12_append_108 : decode cX12_append 108 = .ok (.getfield 7, 3) := by decide +kernel
theorem dX12_append_111 : decode cX12_append 111 = .ok (.bipush 20, 2) := by decide +kernel
theorem dX12_append_113 : decode cX12_append 113 = .ok (.iadd, 1) := by decide +kernel
theorem dX12_append_114 : decode cX12_append 114 = .ok (.putfield 7, 3) := by decide +kernel
theorem dX12_append_117 : decode cX12_append 117 = .ok (.aload_n 0, 1) := by decide +kernel
theorem dX12_append_118 : decode cX12_append 118 = .ok (.getfield 7, 3) := by decide +kernel
theorem dX12_append_121 : decode cX12_append 121 = .ok (.ireturn, 1) := by decide +kernel
theorem dX12_truncate_0 : decode cX12_truncate 0 = .ok (.aload_n 0, 1) := by decide +kernel
theorem dX12_truncate_1 : decode cX12_truncate 1 = .ok (.iconst 0, 1) := by decide +kernel
theorem dX12_truncate_2 : decode cX12_truncate 2 = .ok (.putfield 3, 3) := by decide +kernel
theorem dX12_truncate_5 : decode cX12_truncate 5 = .ok (.iload_n 1, 1) := by decide +kernel
theorem dX12_truncate_6 : decode cX12_truncate 6 = .ok (.ifCond .lt 11, 3) := by decide +kernel
theorem dX12_truncate_9 : decode cX12_truncate 9 = .ok (.iload_n 1, 1) := by decide +kernel
theorem dX12_truncate_10 : decode cX12_truncate 10 = .ok (.aload_n 0, 1) := by decide +kernel
theorem dX12_truncate_11 : decode cX12_truncate 11 = .ok (.getfield 7, 3) := by decide +kernel
theorem dX12_truncate_14 : decode cX12_truncate 14 = .ok (.if_icmp .le 5, 3) := by decide +kernel
theorem dX12_truncate_17 : decode cX12_truncate 17 = .ok (.iconst 0, 1) := by decide +kernel
theorem dX12_truncate_18 : decode cX12_truncate 18 = .ok (.ireturn, 1) := by decide +kernel
theorem dX12_truncate_19 : decode cX12_truncate 19 = .ok (.aload_n 0, 1) := by decide +kernel
theorem dX12_truncate_20 : decode cX12_truncate 20 = .ok (.iload_n 1, 1) := by decide +kernel
theorem dX12_truncate_21 : decode cX12_truncate 21 = .ok (.putfield 7, 3) := by decide +kernel
theorem dX12_truncate_24 : decode cX12_truncate 24 = .ok (.iconst 1, 1) := by decide +kernel
theorem dX12_truncate_25 : decode cX12_truncate 25 = .ok (.ireturn, 1) := by decide +kernel
theorem dX12_errorOffset_0 : decode cX12_errorOffset 0 = .ok (.aload_n 0, 1) := by decide +kernel
theorem dX12_errorOffset_1 : decode cX12_errorOffset 1 = .ok (.iconst 0, 1) := by decide +kernel
theorem dX12_errorOffset_2 : decode cX12_errorOffset 2 = .ok (.putfield 3, 3) := by decide +kernel
theorem dX12_errorOffset_5 : decode cX12_errorOffset 5 = .ok (.aload_n 0, 1) := by decide +kernel
theorem dX12_errorOffset_6 : decode cX12_errorOffset 6 = .ok (.getfield 18, 3) := by decide +kernel
theorem dX12_errorOffset_9 : decode cX12_errorOffset 9 = .ok (.ireturn, 1) := by decide +kernel
theorem dX12_errorKind_0 : decode cX12_errorKind 0 = .ok (.aload_n 0, 1) := by decide +kernel
theorem dX12_errorKind_1 : decode cX12_errorKind 1 = .ok (.iconst 0, 1) := by decide +kernel
theorem dX12_errorKind_2 : decode cX12_errorKind 2 = .ok (.putfield 3, 3) := by decide +kernel
theorem dX12_errorKind_5 : decode cX12_errorKind 5 = .ok (.aload_n 0, 1) := by decide +kernel
theorem dX12_errorKind_6 : decode cX12_errorKind 6 = .ok (.getfield 21, 3) := by decide +kernel
theorem dX12_errorKind_9 : decode cX12_errorKind 9 = .ok (.ireturn, 1) := by decide +kernel
theorem dX12_hasFailed_0 : decode cX12_hasFailed 0 = .ok (.aload_n 0, 1) := by decide +kernel
theorem dX12_hasFailed_1 : decode cX12_hasFailed 1 = .ok (.getfield 24, 3) := by decide +kernel
theorem dX12_hasFailed_4 : decode cX12_hasFailed 4 = .ok (.iconst (-1), 1) := by decide +kernel
theorem dX12_hasFailed_5 : decode cX12_hasFailed 5 = .ok (.if_icmp .eq 7, 3) := by decide +kernel
theorem dX12_hasFailed_8 : decode cX12_hasFailed 8 = .ok (.iconst 1, 1) := by decide +kernel
theorem dX12_hasFailed_9 : decode cX12_hasFailed 9 = .ok (.goto 4, 3) := by decide +kernel
theorem dX12_hasFailed_12 : decode cX12_hasFailed 12 = .ok (.iconst 0, 1) := by decide +kernel
theorem dX12_hasFailed_13 : decode cX12_hasFailed 13 = .ok (.ireturn, 1) := by decide +kernel
theorem dX12_isAt_0 : decode cX12_isAt 0 = .ok (.aload_n 0, 1) := by decide +kernel
theorem dX12_isAt_1 : decode cX12_isAt 1 = .ok (.getfield 27, 3) := by decide +kernel
theorem dX12_isAt_4 : decode cX12_isAt 4 = .ok (.aload_n 0, 1) := by decide +kernel
theorem dX12_isAt_5 : decode cX12_isAt 5 = .ok (.getfield 30, 3) := by decide +kernel
theorem dX12_isAt_8 : decode cX12_isAt 8 = .ok (.if_icmp .ge 33, 3) := by decide +kernel
theorem dX12_isAt_11 : decode cX12_isAt 11 = .ok (.aload_n 0, 1) := by decide +kernel
theorem dX12_isAt_12 : decode cX12_isAt 12 = .ok (.getfield 14, 3) := by decide +kernel
theorem dX12_isAt_15 : decode cX12_isAt 15 = .ok (.aload_n 0, 1) := by decide +kernel
theorem dX12_isAt_16 : decode cX12_isAt 16 = .ok (.getfield 27, 3) := by decide +kernel
theorem dX12_isAt_19 : decode cX12_isAt 19 = .ok (.baload, 1) := by decide +kernel
theorem dX12_isAt_20 : decode cX12_isAt 20 = .ok (.iload_n 1, 1) := by decide +kernel
theorem dX12_isAt_21 : decode cX12_isAt 21 = .ok (.if_icmp .lt 20, 3) := by decide +kernel
theorem dX12_isAt_24 : decode cX12_isAt 24 = .ok (.aload_n 0, 1) := by decide +kernel
theorem dX12_isAt_25 : decode cX12_isAt 25 = .ok (.getfield 14, 3) := by decide +kernel
theorem dX12_isAt_28 : decode cX12_isAt 28 = .ok (.aload_n 0, 1) := by decide +kernel
theorem dX12_isAt_29 : decode cX12_isAt 29 = .ok (.getfield 27, 3) := by decide +kernel
theorem dX12_isAt_32 : decode cX12_isAt 32 = .ok (.baload, 1) := by decide +kernel
theorem dX12_isAt_33 : decode cX12_isAt 33 = .ok (.iload_n 2, 1) := by decide +kernel
theorem dX12_isAt_34 : decode cX12_isAt 34 = .ok (.if_icmp .gt 7, 3) := by decide +kernel
theorem dX12_isAt_37 : decode cX12_isAt 37 = .ok (.iconst 1, 1) := by decide +kernel
theorem dX12_isAt_38 : decode cX12_isAt 38 = .ok (.goto 4, 3) := by decide +kernel
theorem dX12_isAt_41 : decode cX12_isAt 41 = .ok (.iconst 0, 1) := by decide +kernel
theorem dX12_isAt_42 : decode cX12_isAt 42 = .ok (.ireturn, 1) := by decide +kernel
theorem dX12_blanks_0 : decode cX12_blanks 0 = .ok (.aload_n 0, 1) := by decide +kernel
theorem dX12_blanks_1 : decode cX12_blanks 1 = .ok (.bipush 9, 2) := by decide +kernel
theorem dX12_blanks_3 : decode cX12_blanks 3 = .ok (.bipush 10, 2) := by decide +kernel
theorem dX12_blanks_5 : decode cX12_blanks 5 = .ok (.invokevirtual 33, 3) := by decide +kernel
theorem dX12_blanks_8 : decode cX12_blanks 8 = .ok (.ifCond .ne 14, 3) := by decide +kernel
theorem dX12_blanks_11 : decode cX12_blanks 11 = .ok (.aload_n 0, 1) := by decide +kernel
theorem dX12_blanks_12 : decode cX12_blanks 12 = .ok (.bipush 32, 2) := by decide +kernel
theorem dX12_blanks_14 : decode cX12_blanks 14 = .ok (.bipush 32, 2) := by decide +kernel
theorem dX12_blanks_16 : decode cX12_blanks 16 = .ok (.invokevirtual 33, 3) := by decide +kernel
theorem dX12_blanks_19 : decode cX12_blanks 19 = .ok (.ifCond .eq 16, 3) := by decide +kernel
theorem dX12_blanks_22 : decode cX12_blanks 22 = .ok (.aload_n 0, 1) := by decide +kernel
theorem dX12_blanks_23 : decode cX12_blanks 23 = .ok (.dup, 1) := by decide +kernel
theorem dX12_blanks_24 : decode cX12_blanks 24 = .ok (.getfield 27, 3) := by decide +kernel
theorem dX12_blanks_27 : decode cX12_blanks 27 = .ok (.iconst 1, 1) := by decide +kernel
theorem dX12_blanks_28 : decode cX12_blanks 28 = .ok (.iadd, 1) := by decide +kernel
theorem dX12_blanks_29 : decode cX12_blanks 29 = .ok (.putfield 27, 3) := by decide +kernel
theorem dX12_blanks_32 : decode cX12_blanks 32 = .ok (.goto (-32), 3) := by decide +kernel
theorem dX12_blanks_35 : decode cX12_blanks 35 = .ok (.aload_n 0, 1) := by decide +kernel
theorem dX12_blanks_36 : decode cX12_blanks 36 = .ok (.aload_n 0, 1) := by decide +kernel
theorem dX12_blanks_37 : decode cX12_blanks 37 = .ok (.getfield 27, 3) := by decide +kernel
theorem dX12_blanks_40 : decode cX12_blanks 40 = .ok (.putfield 37, 3) := by decide +kernel
theorem dX12_blanks_43 : decode cX12_blanks 43 = .ok (.return_, 1) := by decide +kernel
theorem dX12_must_0 : decode cX12_must 0 = .ok (.iload_n 1, 1) := by decide +kernel
theorem dX12_must_1 : decode cX12_must 1 = .ok (.ifCond .ne 10, 3) := by decide +kernel
theorem dX12_must_4 : decode cX12_must 4 = .ok (.aload_n 0, 1) := by decide +kernel
theorem dX12_must_5 : decode cX12_must 5 = .ok (.invokevirtual 40, 3) := by decide +kernel
theorem dX12_must_8 : decode cX12_must 8 = .ok (.ifCond .eq 4, 3) := by decide +kernel
theorem dX12_must_11 : decode cX12_must 11 = .ok (.return_, 1) := by decide +kernel
theorem dX12_must_12 : decode cX12_must 12 = .ok (.aload_n 0, 1) := by decide +kernel
theorem dX12_must_13 : decode cX12_must 13 = .ok (.aload_n 0, 1) := by decide +kernel
theorem dX12_must_14 : decode cX12_must 14 = .ok (.getfield 37, 3) := by decide +kernel
theorem dX12_must_17 : decode cX12_must 17 = .ok (.putfield 24, 3) := by decide +kernel
theorem dX12_must_20 : decode cX12_must 20 = .ok (.aload_n 0, 1) := by decide +kernel
theorem dX12_must_21 : decode cX12_must 21 = .ok (.iload_n 2, 1) := by decide +kernel
theorem dX12_must_22 : decode cX12_must 22 = .ok (.putfield 44, 3) := by decide +kernel
theorem dX12_must_25 : decode cX12_must 25 = .ok (.return_, 1) := by decide +kernel
theorem dX12_letters_0 : decode cX12_letters 0 = .ok (.aload_n 0, 1) := by decide +kernel
theorem dX12_letters_1 : decode cX12_letters 1 = .ok (.invokevirtual 47, 3) := by decide +kernel
theorem dX12_letters_4 : decode cX12_letters 4 = .ok (.aload_n 0, 1) := by decide +kernel
theorem dX12_letters_5 : decode cX12_letters 5 = .ok (.getfield 27, 3) := by decide +kernel
theorem dX12_letters_8 : decode cX12_letters 8 = .ok (.istore_n 1, 1) := by decide +kernel
theorem dX12_letters_9 : decode cX12_letters 9 = .ok (.iload_n 1, 1) := by decide +kernel
theorem dX12_letters_10 : decode cX12_letters 10 = .ok (.aload_n 0, 1) := by decide +kernel
theorem dX12_letters_11 : decode cX12_letters 11 = .ok (.getfield 30, 3) := by decide +kernel
theorem dX12_letters_14 : decode cX12_letters 14 = .ok (.if_icmp .ge 31, 3) := by decide +kernel
theorem dX12_letters_17 : decode cX12_letters 17 = .ok (.aload_n 0, 1) := by decide +kernel
theorem dX12_letters_18 : decode cX12_letters 18 = .ok (.getfield 14, 3) := by decide +kernel
theorem dX12_letters_21 : decode cX12_letters 21 = .ok (.iload_n 1, 1) := by decide +kernel
theorem dX12_letters_22 : decode cX12_letters 22 = .ok (.baload, 1) := by decide +kernel
theorem dX12_letters_23 : decode cX12_letters 23 = .ok (.bipush 97, 2) := by decide +kernel
theorem dX12_letters_25 : decode cX12_letters 25 = .ok (.if_icmp .lt 20, 3) := by decide +kernel
theorem dX12_letters_28 : decode cX12_letters 28 = .ok (.aload_n 0, 1) := by decide +kernel
theorem dX12_letters_29 : decode cX12_letters 29 = .ok (.getfield 14, 3) := by decide +kernel
theorem dX12_letters_32 : decode cX12_letters 32 = .ok (.iload_n 1, 1) := by decide +kernel
theorem dX12_letters_33 : decode cX12_letters 33 = .ok (.baload, 1) := by decide +kernel
theorem dX12_letters_34 : decode cX12_letters 34 = .ok (.bipush 122, 2) := by decide +kernel
theorem dX12_letters_36 : decode cX12_letters 36 = .ok (.if_icmp .gt 9, 3) := by decide +kernel
theorem dX12_letters_39 : decode cX12_letters 39 = .ok (.iinc 1 1, 3) := by decide +kernel
theorem dX12_letters_42 : decode cX12_letters 42 = .ok (.goto (-33), 3) := by decide +kernel
theorem dX12_letters_45 : decode cX12_letters 45 = .ok (.iload_n 1, 1) := by decide +kernel
theorem dX12_letters_46 : decode cX12_letters 46 = .ok (.aload_n 0, 1) := by decide +kernel
theorem dX12_letters_47 : decode cX12_letters 47 = .ok (.getfield 27, 3) := by decide +kernel
theorem dX12_letters_50 : decode cX12_letters 50 = .ok (.isub, 1) := by decide +kernel
theorem dX12_letters_51 : decode cX12_letters 51 = .ok (.ireturn, 1) := by decide +kernel
theorem dX12_isWord_0 : decode cX12_isWord 0 = .ok (.aload_n 0, 1) := by decide +kernel
theorem dX12_isWord_1 : decode cX12_isWord 1 = .ok (.invokevirtual 40, 3) := by decide +kernel
theorem dX12_isWord_4 : decode cX12_isWord 4 = .ok (.ifCond .ne 18, 3) := by decide +kernel
theorem dX12_isWord_7 : decode cX12_isWord 7 = .ok (.aload_n 0, 1) := by decide +kernel
theorem dX12_isWord_8 : decode cX12_isWord 8 = .ok (.invokevirtual 51, 3) := by decide +kernel
theorem dX12_isWord_11 : decode cX12_isWord 11 = .ok (.aload_n 1, 1) := by decide +kernel
theorem dX12_isWord_12 : decode cX12_isWord 12 = .ok (.invokevirtual 55, 3) := by decide +kernel
theorem dX12_isWord_15 : decode cX12_isWord 15 = .ok (.if_icmp .ne 7, 3) := by decide +kernel
theorem dX12_isWord_18 : decode cX12_isWord 18 = .ok (.iconst 1, 1) := by decide +kernel
theorem dX12_isWord_19 : decode cX12_isWord 19 = .ok (.goto 4, 3) := by decide +kernel
theorem dX12_isWord_22 : decode cX12_isWord 22 = .ok (.iconst 0, 1) := by decide +kernel
theorem dX12_isWord_23 : decode cX12_isWord 23 = .ok (.istore_n 2, 1) := by decide +kernel
theorem dX12_isWord_24 : decode cX12_isWord 24 = .ok (.iconst 0, 1) := by decide +kernel
theorem dX12_isWord_25 : decode cX12_isWord 25 = .ok (.istore_n 3, 1) := by decide +kernel
theorem dX12_isWord_26 : decode cX12_isWord 26 = .ok (.iload_n 2, 1) := by decide +kernel
theorem dX12_isWord_27 : decode cX12_isWord 27 = .ok (.ifCond .eq 42, 3) := by decide +kernel
theorem dX12_isWord_30 : decode cX12_isWord 30 = .ok (.iload_n 3, 1) := by decide +kernel
theorem dX12_isWord_31 : decode cX12_isWord 31 = .ok (.aload_n 1, 1) := by decide +kernel
theorem dX12_isWord_32 : decode cX12_isWord 32 = .ok (.invokevirtual 55, 3) := by decide +kernel
theorem dX12_isWord_35 : decode cX12_isWord 35 = .ok (.if_icmp .ge 34, 3) := by decide +kernel
theorem dX12_isWord_38 : decode cX12_isWord 38 = .ok (.aload_n 0, 1) := by decide +kernel
theorem dX12_isWord_39 : decode cX12_isWord 39 = .ok (.getfield 14, 3) := by decide +kernel
theorem dX12_isWord_42 : decode cX12_isWord 42 = .ok (.aload_n 0, 1) := by decide +kernel
theorem dX12_isWord_43 : decode cX12_isWord 43 = .ok (.getfield 27, 3) := by decide +kernel
theorem dX12_isWord_46 : decode cX12_isWord 46 = .ok (.iload_n 3, 1) := by decide +kernel
theorem dX12_isWord_47 : decode cX12_isWord 47 = .ok (.iadd, 1) := by decide +kernel
theorem dX12_isWord_48 : decode cX12_isWord 48 = .ok (.baload, 1) := by decide +kernel
theorem dX12_isWord_49 : decode cX12_isWord 49 = .ok (.aload_n 1, 1) := by decide +kernel
theorem dX12_isWord_50 : decode cX12_isWord 50 = .ok (.iload_n 3, 1) := by decide +kernel
theorem dX12_isWord_51 : decode cX12_isWord 51 = .ok (.invokevirtual 60, 3) := by decide +kernel
theorem dX12_isWord_54 : decode cX12_isWord 54 = .ok (.if_icmp .ne 7, 3) := by decide +kernel
theorem dX12_isWord_57 : decode cX12_isWord 57 = .ok (.iconst 1, 1) := by decide +kernel
theorem dX12_isWord_58 : decode cX12_isWord 58 = .ok (.goto 4, 3) := by decide +kernel
theorem dX12_isWord_61 : decode cX12_isWord 61 = .ok (.iconst 0, 1) := by decide +kernel
theorem dX12_isWord_62 : decode cX12_isWord 62 = .ok (.istore_n 2, 1) := by decide +kernel
theorem dX12_isWord_63 : decode cX12_isWord 63 = .ok (.iinc 3 1, 3) := by decide +kernel
theorem dX12_isWord_66 : decode cX12_isWord 66 = .ok (.goto (-40), 3) := by decide +kernel
theorem dX12_isWord_69 : decode cX12_isWord 69 = .ok (.iload_n 2, 1) := by decide +kernel
theorem dX12_isWord_70 : decode cX12_isWord 70 = .ok (.ireturn, 1) := by decide +kernel
theorem dX12_takes_0 : decode cX12_takes 0 = .ok (.aload_n 0, 1) := by decide +kernel
theorem dX12_takes_1 : decode cX12_takes 1 = .ok (.aload_n 1, 1) := by decide +kernel
theorem dX12_takes_2 : decode cX12_takes 2 = .ok (.invokevirtual 64, 3) := by decide +kernel
theorem dX12_takes_5 : decode cX12_takes 5 = .ok (.istore_n 2, 1) := by decide +kernel
theorem dX12_takes_6 : decode cX12_takes 6 = .ok (.iload_n 2, 1) := by decide +kernel
theorem dX12_takes_7 : decode cX12_takes 7 = .ok (.ifCond .eq 16, 3) := by decide +kernel
theorem dX12_takes_10 : decode cX12_takes 10 = .ok (.aload_n 0, 1) := by decide +kernel
theorem dX12_takes_11 : decode cX12_takes 11 = .ok (.dup, 1) := by decide +kernel
theorem dX12_takes_12 : decode cX12_takes 12 = .ok (.getfield 27, 3) := by decide +kernel
theorem dX12_takes_15 : decode cX12_takes 15 = .ok (.aload_n 1, 1) := by decide +kernel
theorem dX12_takes_16 : decode cX12_takes 16 = .ok (.invokevirtual 55, 3) := by decide +kernel
theorem dX12_takes_19 : decode cX12_takes 19 = .ok (.iadd, 1) := by decide +kernel
theorem dX12_takes_20 : decode cX12_takes 20 = .ok (.putfield 27, 3) := by decide +kernel
theorem dX12_takes_23 : decode cX12_takes 23 = .ok (.iload_n 2, 1) := by decide +kernel
theorem dX12_takes_24 : decode cX12_takes 24 = .ok (.ireturn, 1) := by decide +kernel
theorem dX12_number_0 : decode cX12_number 0 = .ok (.aload_n 0, 1) := by decide +kernel
theorem dX12_number_1 : decode cX12_number 1 = .ok (.invokevirtual 40, 3) := by decide +kernel
theorem dX12_number_4 : decode cX12_number 4 = .ok (.ifCond .eq 5, 3) := by decide +kernel
theorem dX12_number_7 : decode cX12_number 7 = .ok (.iload_n 1, 1) := by decide +kernel
theorem dX12_number_8 : decode cX12_number 8 = .ok (.ireturn, 1) := by decide +kernel
theorem dX12_number_9 : decode cX12_number 9 = .ok (.aload_n 0, 1) := by decide +kernel
theorem dX12_number_10 : decode cX12_number 10 = .ok (.invokevirtual 47, 3) := by decide +kernel
theorem dX12_number_13 : decode cX12_number 13 = .ok (.aload_n 0, 1) := by decide +kernel
theorem dX12_number_14 : decode cX12_number 14 = .ok (.aload_n 0, 1) := by decide +kernel
theorem dX12_number_15 : decode cX12_number 15 = .ok (.bipush 48, 2) := by decide +kernel
theorem dX12_number_17 : decode cX12_number 17 = .ok (.bipush 57, 2) := by decide +kernel
theorem dX12_number_19 : decode cX12_number 19 = .ok (.invokevirtual 33, 3) := by decide +kernel
theorem dX12_number_22 : decode cX12_number 22 = .ok (.iconst 1, 1) := by decide +kernel
theorem dX12_number_23 : decode cX12_number 23 = .ok (.invokevirtual 68, 3) := by decide +kernel
theorem dX12_number_26 : decode cX12_number 26 = .ok (.iconst 0, 1) := by decide +kernel
theorem dX12_number_27 : decode cX12_number 27 = .ok (.istore_n 3, 1) := by decide +kernel
theorem dX12_number_28 : decode cX12_number 28 = .ok (.aload_n 0, 1) := by decide +kernel
theorem dX12_number_29 : decode cX12_number 29 = .ok (.bipush 48, 2) := by decide +kernel
theorem dX12_number_31 : decode cX12_number 31 = .ok (.bipush 57, 2) := by decide +kernel
theorem dX12_number_33 : decode cX12_number 33 = .ok (.invokevirtual 33, 3) := by decide +kernel
theorem dX12_number_36 : decode cX12_number 36 = .ok (.ifCond .eq 47, 3) := by decide +kernel
theorem dX12_number_39 : decode cX12_number 39 = .ok (.aload_n 0, 1) := by decide +kernel
theorem dX12_number_40 : decode cX12_number 40 = .ok (.getfield 27, 3) := by decide +kernel
theorem dX12_number_43 : decode cX12_number 43 = .ok (.aload_n 0, 1) := by decide +kernel
theorem dX12_number_44 : decode cX12_number 44 = .ok (.getfield 37, 3) := by decide +kernel
theorem dX12_number_47 : decode cX12_number 47 = .ok (.isub, 1) := by decide +kernel
theorem dX12_number_48 : decode cX12_number 48 = .ok (.iconst 4, 1) := by decide +kernel
theorem dX12_number_49 : decode cX12_number 49 = .ok (.if_icmp .ge 21, 3) := by decide +kernel
theorem dX12_number_52 : decode cX12_number 52 = .ok (.bipush 10, 2) := by decide +kernel
theorem dX12_number_54 : decode cX12_number 54 = .ok (.iload_n 3, 1) := by decide +kernel
theorem dX12_number_55 : decode cX12_number 55 = .ok (.imul, 1) := by decide +kernel
theorem dX12_number_56 : decode cX12_number 56 = .ok (.aload_n 0, 1) := by decide +kernel
theorem dX12_number_57 : decode cX12_number 57 = .ok (.getfield 14, 3) := by decide +kernel
theorem dX12_number_60 : decode cX12_number 60 = .ok (.aload_n 0, 1) := by decide +kernel
theorem dX12_number_61 : decode cX12_number 61 = .ok (.getfield 27, 3) := by decide +kernel
theorem dX12_number_64 : decode cX12_number 64 = .ok (.baload, 1) := by decide +kernel
theorem dX12_number_65 : decode cX12_number 65 = .ok (.iadd, 1) := by decide +kernel
theorem dX12_number_66 : decode cX12_number 66 = .ok (.bipush 48, 2) := by decide +kernel
theorem dX12_number_68 : decode cX12_number 68 = .ok (.isub, 1) := by decide +kernel
theorem dX12_number_69 : decode cX12_number 69 = .ok (.istore_n 3, 1) := by decide +kernel
theorem dX12_number_70 : decode cX12_number 70 = .ok (.aload_n 0, 1) := by decide +kernel
theorem dX12_number_71 : decode cX12_number 71 = .ok (.dup, 1) := by decide +kernel
theorem dX12_number_72 : decode cX12_number 72 = .ok (.getfield 27, 3) := by decide +kernel
theorem dX12_number_75 : decode cX12_number 75 = .ok (.iconst 1, 1) := by decide +kernel
theorem dX12_number_76 : decode cX12_number 76 = .ok (.iadd, 1) := by decide +kernel
theorem dX12_number_77 : decode cX12_number 77 = .ok (.putfield 27, 3) := by decide +kernel
theorem dX12_number_80 : decode cX12_number 80 = .ok (.goto (-52), 3) := by decide +kernel
theorem dX12_number_83 : decode cX12_number 83 = .ok (.aload_n 0, 1) := by decide +kernel
theorem dX12_number_84 : decode cX12_number 84 = .ok (.aload_n 0, 1) := by decide +kernel
theorem dX12_number_85 : decode cX12_number 85 = .ok (.getfield 27, 3) := by decide +kernel
theorem dX12_number_88 : decode cX12_number 88 = .ok (.aload_n 0, 1) := by decide +kernel
theorem dX12_number_89 : decode cX12_number 89 = .ok (.getfield 37, 3) := by decide +kernel
theorem dX12_number_92 : decode cX12_number 92 = .ok (.isub, 1) := by decide +kernel
theorem dX12_number_93 : decode cX12_number 93 = .ok (.iconst 4, 1) := by decide +kernel
theorem dX12_number_94 : decode cX12_number 94 = .ok (.if_icmp .gt 16, 3) := by decide +kernel
theorem dX12_number_97 : decode cX12_number 97 = .ok (.iload_n 3, 1) := by decide +kernel
theorem dX12_number_98 : decode cX12_number 98 = .ok (.iload_n 1, 1) := by decide +kernel
theorem dX12_number_99 : decode cX12_number 99 = .ok (.iload_n 2, 1) := by decide +kernel
theorem dX12_number_100 : decode cX12_number 100 = .ok (.invokestatic 72, 3) := by decide +kernel
theorem dX12_number_103 : decode cX12_number 103 = .ok (.ifCond .eq 7, 3) := by decide +kernel
theorem dX12_number_106 : decode cX12_number 106 = .ok (.iconst 1, 1) := by decide +kernel
theorem dX12_number_107 : decode cX12_number 107 = .ok (.goto 4, 3) := by decide +kernel
theorem dX12_number_110 : decode cX12_number 110 = .ok (.iconst 0, 1) := by decide +kernel
theorem dX12_number_111 : decode cX12_number 111 = .ok (.iconst 2, 1) := by decide +kernel
theorem dX12_number_112 : decode cX12_number 112 = .ok (.invokevirtual 68, 3) := by decide +kernel
theorem dX12_number_115 : decode cX12_number 115 = .ok (.aload_n 0, 1) := by decide +kernel
theorem dX12_number_116 : decode cX12_number 116 = .ok (.invokevirtual 40, 3) := by decide +kernel
theorem dX12_number_119 : decode cX12_number 119 = .ok (.ifCond .eq 7, 3) := by decide +kernel
theorem dX12_number_122 : decode cX12_number 122 = .ok (.iload_n 1, 1) := by decide +kernel
theorem dX12_number_123 : decode cX12_number 123 = .ok (.goto 4, 3) := by decide +kernel
theorem dX12_number_126 : decode cX12_number 126 = .ok (.iload_n 3, 1) := by decide +kernel
theorem dX12_number_127 : decode cX12_number 127 = .ok (.ireturn, 1) := by decide +kernel
theorem dX12_usualRung_0 : decode cX12_usualRung 0 = .ok (.aload_n 0, 1) := by decide +kernel
theorem dX12_usualRung_1 : decode cX12_usualRung 1 = .ok (.getfield 84, 3) := by decide +kernel
theorem dX12_usualRung_4 : decode cX12_usualRung 4 = .ok (.iconst 2, 1) := by decide +kernel
theorem dX12_usualRung_5 : decode cX12_usualRung 5 = .ok (.iconst 1, 1) := by decide +kernel
theorem dX12_usualRung_6 : decode cX12_usualRung 6 = .ok (.iastore, 1) := by decide +kernel
theorem dX12_usualRung_7 : decode cX12_usualRung 7 = .ok (.aload_n 0, 1) := by decide +kernel
theorem dX12_usualRung_8 : decode cX12_usualRung 8 = .ok (.getfield 84, 3) := by decide +kernel
theorem dX12_usualRung_11 : decode cX12_usualRung 11 = .ok (.sipush 388, 3) := by decide +kernel
theorem dX12_usualRung_14 : decode cX12_usualRung 14 = .ok (.iconst 0, 1) := by decide +kernel
theorem dX12_usualRung_15 : decode cX12_usualRung 15 = .ok (.iastore, 1) := by decide +kernel
theorem dX12_usualRung_16 : decode cX12_usualRung 16 = .ok (.aload_n 0, 1) := by decide +kernel
theorem dX12_usualRung_17 : decode cX12_usualRung 17 = .ok (.getfield 84, 3) := by decide +kernel
theorem dX12_usualRung_20 : decode cX12_usualRung 20 = .ok (.sipush 389, 3) := by decide +kernel
theorem dX12_usualRung_23 : decode cX12_usualRung 23 = .ok (.bipush 9, 2) := by decide +kernel
theorem dX12_usualRung_25 : decode cX12_usualRung 25 = .ok (.iastore, 1) := by decide +kernel
theorem dX12_usualRung_26 : decode cX12_usualRung 26 = .ok (.aload_n 0, 1) := by decide +kernel
theorem dX12_usualRung_27 : decode cX12_usualRung 27 = .ok (.getfield 84, 3) := by decide +kernel
theorem dX12_usualRung_30 : decode cX12_usualRung 30 = .ok (.sipush 390, 3) := by decide +kernel
theorem dX12_usualRung_33 : decode cX12_usualRung 33 = .ok (.bipush 100, 2) := by decide +kernel
theorem dX12_usualRung_35 : decode cX12_usualRung 35 = .ok (.iastore, 1) := by decide +kernel
theorem dX12_usualRung_36 : decode cX12_usualRung 36 = .ok (.return_, 1) := by decide +kernel
theorem dX12_named_0 : decode cX12_named 0 = .ok (.aload_n 0, 1) := by decide +kernel
theorem dX12_named_1 : decode cX12_named 1 = .ok (.invokevirtual 51, 3) := by decide +kernel
theorem dX12_named_4 : decode cX12_named 4 = .ok (.istore_n 1, 1) := by decide +kernel
theorem dX12_named_5 : decode cX12_named 5 = .ok (.aload_n 0, 1) := by decide +kernel
theorem dX12_named_6 : decode cX12_named 6 = .ok (.iload_n 1, 1) := by decide +kernel
theorem dX12_named_7 : decode cX12_named 7 = .ok (.iconst 1, 1) := by decide +kernel
theorem dX12_named_8 : decode cX12_named 8 = .ok (.bipush 8, 2) := by decide +kernel
theorem dX12_named_10 : decode cX12_named 10 = .ok (.invokestatic 72, 3) := by decide +kernel
theorem dX12_named_13 : decode cX12_named 13 = .ok (.iconst 1, 1) := by decide +kernel
theorem dX12_named_14 : decode cX12_named 14 = .ok (.invokevirtual 68, 3) := by decide +kernel
theorem dX12_named_17 : decode cX12_named 17 = .ok (.iconst 0, 1) := by decide +kernel
theorem dX12_named_18 : decode cX12_named 18 = .ok (.istore_n 2, 1) := by decide +kernel
theorem dX12_named_19 : decode cX12_named 19 = .ok (.iload_n 2, 1) := by decide +kernel
theorem dX12_named_20 : decode cX12_named 20 = .ok (.bipush 20, 2) := by decide +kernel
theorem dX12_named_22 : decode cX12_named 22 = .ok (.if_icmp .ge 130, 3) := by decide +kernel
theorem dX12_named_25 : decode cX12_named 25 = .ok (.aload_n 0, 1) := by decide +kernel
theorem dX12_named_26 : decode cX12_named 26 = .ok (.invokevirtual 40, 3) := by decide +kernel
theorem dX12_named_29 : decode cX12_named 29 = .ok (.ifCond .ne 123, 3) := by decide +kernel
theorem dX12_named_32 : decode cX12_named 32 = .ok (.iload_n 2, 1) := by decide +kernel
theorem dX12_named_33 : decode cX12_named 33 = .ok (.bipush 12, 2) := by decide +kernel
theorem dX12_named_35 : decode cX12_named 35 = .ok (.if_icmp .ge 21, 3) := by decide +kernel
theorem dX12_named_38 : decode cX12_named 38 = .ok (.iload_n 2, 1) := by decide +kernel
theorem dX12_named_39 : decode cX12_named 39 = .ok (.aload_n 0, 1) := by decide +kernel
theorem dX12_named_40 : decode cX12_named 40 = .ok (.getfield 84, 3) := by decide +kernel
theorem dX12_named_43 : decode cX12_named 43 = .ok (.iconst 0, 1) := by decide +kernel
theorem dX12_named_44 : decode cX12_named 44 = .ok (.iaload, 1) := by decide +kernel
theorem dX12_named_45 : decode cX12_named 45 = .ok (.if_icmp .ge 7, 3) := by decide +kernel
theorem dX12_named_48 : decode cX12_named 48 = .ok (.iconst 1, 1) := by decide +kernel
theorem dX12_named_49 : decode cX12_named 49 = .ok (.goto 25, 3) := by decide +kernel
theorem dX12_named_52 : decode cX12_named 52 = .ok (.iconst 0, 1) := by decide +kernel
theorem dX12_named_53 : decode cX12_named 53 = .ok (.goto 21, 3) := by decide +kernel
theorem dX12_named_56 : decode cX12_named 56 = .ok (.iload_n 2, 1) := by decide +kernel
theorem dX12_named_57 : decode cX12_named 57 = .ok (.bipush 12, 2) := by decide +kernel
theorem dX12_named_59 : decode cX12_named 59 = .ok (.isub, 1) := by decide +kernel
theorem dX12_named_60 : decode cX12_named 60 = .ok (.aload_n 0, 1) := by decide +kernel
theorem dX12_named_61 : decode cX12_named 61 = .ok (.getfield 84, 3) := by decide +kernel
theorem dX12_named_64 : decode cX12_named 64 = .ok (.iconst 1, 1) := by decide +kernel
theorem dX12_named_65 : decode cX12_named 65 = .ok (.iaload, 1) := by decide +kernel
theorem dX12_named_66 : decode cX12_named 66 = .ok (.if_icmp .ge 7, 3) := by decide +kernel
theorem dX12_named_69 : decode cX12_named 69 = .ok (.iconst 1, 1) := by decide +kernel
theorem dX12_named_70 : decode cX12_named 70 = .ok (.goto 4, 3) := by decide +kernel
theorem dX12_named_73 : decode cX12_named 73 = .ok (.iconst 0, 1) := by decide +kernel
theorem dX12_named_74 : decode cX12_named 74 = .ok (.istore_n 3, 1) := by decide +kernel
theorem dX12_named_75 : decode cX12_named 75 = .ok (.iconst 0, 1) := by decide +kernel
theorem dX12_named_76 : decode cX12_named 76 = .ok (.istore 4, 2) := by decide +kernel
theorem dX12_named_78 : decode cX12_named 78 = .ok (.iload 4, 2) := by decide +kernel
theorem dX12_named_80 : decode cX12_named 80 = .ok (.bipush 8, 2) := by decide +kernel
theorem dX12_named_82 : decode cX12_named 82 = .ok (.if_icmp .ge 58, 3) := by decide +kernel
theorem dX12_named_85 : decode cX12_named 85 = .ok (.iload_n 3, 1) := by decide +kernel
theorem dX12_named_86 : decode cX12_named 86 = .ok (.ifCond .eq 46, 3) := by decide +kernel
theorem dX12_named_89 : decode cX12_named 89 = .ok (.aload_n 0, 1) := by decide +kernel
theorem dX12_named_90 : decode cX12_named 90 = .ok (.getfield 84, 3) := by decide +kernel
theorem dX12_named_93 : decode cX12_named 93 = .ok (.iconst 4, 1) := by decide +kernel
theorem dX12_named_94 : decode cX12_named 94 = .ok (.bipush 8, 2) := by decide +kernel
theorem dX12_named_96 : decode cX12_named 96 = .ok (.iload_n 2, 1) := by decide +kernel
theorem dX12_named_97 : decode cX12_named 97 = .ok (.imul, 1) := by decide +kernel
theorem dX12_named_98 : decode cX12_named 98 = .ok (.iadd, 1) := by decide +kernel
theorem dX12_named_99 : decode cX12_named 99 = .ok (.iload 4, 2) := by decide +kernel
theorem dX12_named_101 : decode cX12_named 101 = .ok (.iadd, 1) := by decide +kernel
theorem dX12_named_102 : decode cX12_named 102 = .ok (.iaload, 1) := by decide +kernel
theorem dX12_named_103 : decode cX12_named 103 = .ok (.iload 4, 2) := by decide +kernel
theorem dX12_named_105 : decode cX12_named 105 = .ok (.iload_n 1, 1) := by decide +kernel
theorem dX12_named_106 : decode cX12_named 106 = .ok (.if_icmp .ge 18, 3) := by decide +kernel
theorem dX12_named_109 : decode cX12_named 109 = .ok (.aload_n 0, 1) := by decide +kernel
theorem dX12_named_110 : decode cX12_named 110 = .ok (.getfield 14, 3) := by decide +kernel
theorem dX12_named_113 : decode cX12_named 113 = .ok (.aload_n 0, 1) := by decide +kernel
theorem dX12_named_114 : decode cX12_named 114 = .ok (.getfield 27, 3) := by decide +kernel
theorem dX12_named_117 : decode cX12_named 117 = .ok (.iload 4, 2) := by decide +kernel
theorem dX12_named_119 : decode cX12_named 119 = .ok (.iadd, 1) := by decide +kernel
theorem dX12_named_120 : decode cX12_named 120 = .ok (.baload, 1) := by decide +kernel
theorem dX12_named_121 : decode cX12_named 121 = .ok (.goto 4, 3) := by decide +kernel
theorem dX12_named_124 : decode cX12_named 124 = .ok (.iconst 0, 1) := by decide +kernel
theorem dX12_named_125 : decode cX12_named 125 = .ok (.if_icmp .ne 7, 3) := by decide +kernel
theorem dX12_named_128 : decode cX12_named 128 = .ok (.iconst 1, 1) := by decide +kernel
theorem dX12_named_129 : decode cX12_named 129 = .ok (.goto 4, 3) := by decide +kernel
theorem dX12_named_132 : decode cX12_named 132 = .ok (.iconst 0, 1) := by decide +kernel
theorem dX12_named_133 : decode cX12_named 133 = .ok (.istore_n 3, 1) := by decide +kernel
theorem dX12_named_134 : decode cX12_named 134 = .ok (.iinc 4 1, 3) := by decide +kernel
theorem dX12_named_137 : decode cX12_named 137 = .ok (.goto (-59), 3) := by decide +kernel
theorem dX12_named_140 : decode cX12_named 140 = .ok (.iload_n 3, 1) := by decide +kernel
theorem dX12_named_141 : decode cX12_named 141 = .ok (.ifCond .eq 5, 3) := by decide +kernel
theorem dX12_named_144 : decode cX12_named 144 = .ok (.iload_n 2, 1) := by decide +kernel
theorem dX12_named_145 : decode cX12_named 145 = .ok (.ireturn, 1) := by decide +kernel
theorem dX12_named_146 : decode cX12_named 146 = .ok (.iinc 2 1, 3) := by decide +kernel
theorem dX12_named_149 : decode cX12_named 149 = .ok (.goto (-130), 3) := by decide +kernel
theorem dX12_named_152 : decode cX12_named 152 = .ok (.iconst (-1), 1) := by decide +kernel
theorem dX12_named_153 : decode cX12_named 153 = .ok (.ireturn, 1) := by decide +kernel
theorem dX12_newName_0 : decode cX12_newName 0 = .ok (.aload_n 0, 1) := by decide +kernel
theorem dX12_newName_1 : decode cX12_newName 1 = .ok (.invokevirtual 40, 3) := by decide +kernel
theorem dX12_newName_4 : decode cX12_newName 4 = .ok (.ifCond .eq 7, 3) := by decide +kernel
theorem dX12_newName_7 : decode cX12_newName 7 = .ok (.iconst (-1), 1) := by decide +kernel
theorem dX12_newName_8 : decode cX12_newName 8 = .ok (.goto 7, 3) := by decide +kernel
theorem dX12_newName_11 : decode cX12_newName 11 = .ok (.aload_n 0, 1) := by decide +kernel
theorem dX12_newName_12 : decode cX12_newName 12 = .ok (.invokevirtual 117, 3) := by decide +kernel
theorem dX12_newName_15 : decode cX12_newName 15 = .ok (.istore_n 2, 1) := by decide +kernel
theorem dX12_newName_16 : decode cX12_newName 16 = .ok (.aload_n 0, 1) := by decide +kernel
theorem dX12_newName_17 : decode cX12_newName 17 = .ok (.iload_n 2, 1) := by decide +kernel
theorem dX12_newName_18 : decode cX12_newName 18 = .ok (.iconst (-1), 1) := by decide +kernel
theorem dX12_newName_19 : decode cX12_newName 19 = .ok (.if_icmp .ne 7, 3) := by decide +kernel
theorem dX12_newName_22 : decode cX12_newName 22 = .ok (.iconst 1, 1) := by decide +kernel
theorem dX12_newName_23 : decode cX12_newName 23 = .ok (.goto 4, 3) := by decide +kernel
theorem dX12_newName_26 : decode cX12_newName 26 = .ok (.iconst 0, 1) := by decide +kernel
theorem dX12_newName_27 : decode cX12_newName 27 = .ok (.iconst 3, 1) := by decide +kernel
theorem dX12_newName_28 : decode cX12_newName 28 = .ok (.invokevirtual 68, 3) := by decide +kernel
theorem dX12_newName_31 : decode cX12_newName 31 = .ok (.aload_n 0, 1) := by decide +kernel
theorem dX12_newName_32 : decode cX12_newName 32 = .ok (.invokevirtual 40, 3) := by decide +kernel
theorem dX12_newName_35 : decode cX12_newName 35 = .ok (.ifCond .eq 4, 3) := by decide +kernel
theorem dX12_newName_38 : decode cX12_newName 38 = .ok (.return_, 1) := by decide +kernel
theorem dX12_newName_39 : decode cX12_newName 39 = .ok (.aload_n 0, 1) := by decide +kernel
theorem dX12_newName_40 : decode cX12_newName 40 = .ok (.invokevirtual 51, 3) := by decide +kernel
theorem dX12_newName_43 : decode cX12_newName 43 = .ok (.istore_n 3, 1) := by decide +kernel
theorem dX12_newName_44 : decode cX12_newName 44 = .ok (.iconst 0, 1) := by decide +kernel
theorem dX12_newName_45 : decode cX12_newName 45 = .ok (.istore 4, 2) := by decide +kernel
theorem dX12_newName_47 : decode cX12_newName 47 = .ok (.iload 4, 2) := by decide +kernel
theorem dX12_newName_49 : decode cX12_newName 49 = .ok (.bipush 8, 2) := by decide +kernel
theorem dX12_newName_51 : decode cX12_newName 51 = .ok (.if_icmp .ge 45, 3) := by decide +kernel
theorem dX12_newName_54 : decode cX12_newName 54 = .ok (.aload_n 0, 1) := by decide +kernel
theorem dX12_newName_55 : decode cX12_newName 55 = .ok (.getfield 84, 3) := by decide +kernel
theorem dX12_newName_58 : decode cX12_newName 58 = .ok (.iconst 4, 1) := by decide +kernel
theorem dX12_newName_59 : decode cX12_newName 59 = .ok (.bipush 8, 2) := by decide +kernel
theorem dX12_newName_61 : decode cX12_newName 61 = .ok (.iload_n 1, 1) := by decide +kernel
theorem dX12_newName_62 : decode cX12_newName 62 = .ok (.imul, 1) := by decide +kernel
theorem dX12_newName_63 : decode cX12_newName 63 = .ok (.iadd, 1) := by decide +kernel
theorem dX12_newName_64 : decode cX12_newName 64 = .ok (.iload 4, 2) := by decide +kernel
theorem dX12_newName_66 : decode cX12_newName 66 = .ok (.iadd, 1) := by decide +kernel
theorem dX12_newName_67 : decode cX12_newName 67 = .ok (.iload 4, 2) := by decide +kernel
theorem dX12_newName_69 : decode cX12_newName 69 = .ok (.iload_n 3, 1) := by decide +kernel
theorem dX12_newName_70 : decode cX12_newName 70 = .ok (.if_icmp .ge 18, 3) := by decide +kernel
theorem dX12_newName_73 : decode cX12_newName 73 = .ok (.aload_n 0, 1) := by decide +kernel
theorem dX12_newName_74 : decode cX12_newName 74 = .ok (.getfield 14, 3) := by decide +kernel
theorem dX12_newName_77 : decode cX12_newName 77 = .ok (.aload_n 0, 1) := by decide +kernel
theorem dX12_newName_78 : decode cX12_newName 78 = .ok (.getfield 27, 3) := by decide +kernel
theorem dX12_newName_81 : decode cX12_newName 81 = .ok (.iload 4, 2) := by decide +kernel
theorem dX12_newName_83 : decode cX12_newName 83 = .ok (.iadd, 1) := by decide +kernel
theorem dX12_newName_84 : decode cX12_newName 84 = .ok (.baload, 1) := by decide +kernel
theorem dX12_newName_85 : decode cX12_newName 85 = .ok (.goto 4, 3) := by decide +kernel
theorem dX12_newName_88 : decode cX12_newName 88 = .ok (.iconst 0, 1) := by decide +kernel
theorem dX12_newName_89 : decode cX12_newName 89 = .ok (.iastore, 1) := by decide +kernel
theorem dX12_newName_90 : decode cX12_newName 90 = .ok (.iinc 4 1, 3) := by decide +kernel
theorem dX12_newName_93 : decode cX12_newName 93 = .ok (.goto (-46), 3) := by decide +kernel
theorem dX12_newName_96 : decode cX12_newName 96 = .ok (.aload_n 0, 1) := by decide +kernel
theorem dX12_newName_97 : decode cX12_newName 97 = .ok (.dup, 1) := by decide +kernel
theorem dX12_newName_98 : decode cX12_newName 98 = .ok (.getfield 27, 3) := by decide +kernel
theorem dX12_newName_101 : decode cX12_newName 101 = .ok (.iload_n 3, 1) := by decide +kernel
theorem dX12_newName_102 : decode cX12_newName 102 = .ok (.iadd, 1) := by decide +kernel
theorem dX12_newName_103 : decode cX12_newName 103 = .ok (.putfield 27, 3) := by decide +kernel
theorem dX12_newName_106 : decode cX12_newName 106 = .ok (.return_, 1) := by decide +kernel
theorem dX12_part_0 : decode cX12_part 0 = .ok (.aload_n 0, 1) := by decide +kernel
theorem dX12_part_1 : decode cX12_part 1 = .ok (.getfield 84, 3) := by decide +kernel
theorem dX12_part_4 : decode cX12_part 4 = .ok (.iconst 0, 1) := by decide +kernel
theorem dX12_part_5 : decode cX12_part 5 = .ok (.iaload, 1) := by decide +kernel
theorem dX12_part_6 : decode cX12_part 6 = .ok (.istore_n 1, 1) := by decide +kernel
theorem dX12_part_7 : decode cX12_part 7 = .ok (.aload_n 0, 1) := by decide +kernel
theorem dX12_part_8 : decode cX12_part 8 = .ok (.iload_n 1, 1) := by decide +kernel
theorem dX12_part_9 : decode cX12_part 9 = .ok (.bipush 12, 2) := by decide +kernel
theorem dX12_part_11 : decode cX12_part 11 = .ok (.if_icmp .ge 7, 3) := by decide +kernel
theorem dX12_part_14 : decode cX12_part 14 = .ok (.iconst 1, 1) := by decide +kernel
theorem dX12_part_15 : decode cX12_part 15 = .ok (.goto 4, 3) := by decide +kernel
theorem dX12_part_18 : decode cX12_part 18 = .ok (.iconst 0, 1) := by decide +kernel
theorem dX12_part_19 : decode cX12_part 19 = .ok (.iconst 4, 1) := by decide +kernel
theorem dX12_part_20 : decode cX12_part 20 = .ok (.invokevirtual 68, 3) := by decide +kernel
theorem dX12_part_23 : decode cX12_part 23 = .ok (.aload_n 0, 1) := by decide +kernel
theorem dX12_part_24 : decode cX12_part 24 = .ok (.invokevirtual 40, 3) := by decide +kernel
theorem dX12_part_27 : decode cX12_part 27 = .ok (.ifCond .eq 4, 3) := by decide +kernel
theorem dX12_part_30 : decode cX12_part 30 = .ok (.return_, 1) := by decide +kernel
theorem dX12_part_31 : decode cX12_part 31 = .ok (.aload_n 0, 1) := by decide +kernel
theorem dX12_part_32 : decode cX12_part 32 = .ok (.dup, 1) := by decide +kernel
theorem dX12_part_33 : decode cX12_part 33 = .ok (.getfield 27, 3) := by decide +kernel
theorem dX12_part_36 : decode cX12_part 36 = .ok (.iconst 4, 1) := by decide +kernel
theorem dX12_part_37 : decode cX12_part 37 = .ok (.iadd, 1) := by decide +kernel
theorem dX12_part_38 : decode cX12_part 38 = .ok (.putfield 27, 3) := by decide +kernel
theorem dX12_part_41 : decode cX12_part 41 = .ok (.aload_n 0, 1) := by decide +kernel
theorem dX12_part_42 : decode cX12_part 42 = .ok (.iload_n 1, 1) := by decide +kernel
theorem dX12_part_43 : decode cX12_part 43 = .ok (.invokevirtual 120, 3) := by decide +kernel
theorem dX12_part_46 : decode cX12_part 46 = .ok (.aload_n 0, 1) := by decide +kernel
theorem dX12_part_47 : decode cX12_part 47 = .ok (.getfield 84, 3) := by decide +kernel
theorem dX12_part_50 : decode cX12_part 50 = .ok (.sipush 164, 3) := by decide +kernel
theorem dX12_part_53 : decode cX12_part 53 = .ok (.iload_n 1, 1) := by decide +kernel
theorem dX12_part_54 : decode cX12_part 54 = .ok (.iadd, 1) := by decide +kernel
theorem dX12_part_55 : decode cX12_part 55 = .ok (.aload_n 0, 1) := by decide +kernel
theorem dX12_part_56 : decode cX12_part 56 = .ok (.iconst 0, 1) := by decide +kernel
theorem dX12_part_57 : decode cX12_part 57 = .ok (.sipush 9999, 3) := by decide +kernel
theorem dX12_part_60 : decode cX12_part 60 = .ok (.invokevirtual 124, 3) := by decide +kernel
theorem dX12_part_63 : decode cX12_part 63 = .ok (.iastore, 1) := by decide +kernel
theorem dX12_part_64 : decode cX12_part 64 = .ok (.aload_n 0, 1) := by decide +kernel
theorem dX12_part_65 : decode cX12_part 65 = .ok (.getfield 84, 3) := by decide +kernel
theorem dX12_part_68 : decode cX12_part 68 = .ok (.sipush 176, 3) := by decide +kernel
theorem dX12_part_71 : decode cX12_part 71 = .ok (.iload_n 1, 1) := by decide +kernel
theorem dX12_part_72 : decode cX12_part 72 = .ok (.iadd, 1) := by decide +kernel
theorem dX12_part_73 : decode cX12_part 73 = .ok (.aload_n 0, 1) := by decide +kernel
theorem dX12_part_74 : decode cX12_part 74 = .ok (.iconst 1, 1) := by decide +kernel
theorem dX12_part_75 : decode cX12_part 75 = .ok (.bipush 60, 2) := by decide +kernel
theorem dX12_part_77 : decode cX12_part 77 = .ok (.invokevirtual 124, 3) := by decide +kernel
theorem dX12_part_80 : decode cX12_part 80 = .ok (.iastore, 1) := by decide +kernel
theorem dX12_part_81 : decode cX12_part 81 = .ok (.aload_n 0, 1) := by decide +kernel
theorem dX12_part_82 : decode cX12_part 82 = .ok (.getfield 84, 3) := by decide +kernel
theorem dX12_part_85 : decode cX12_part 85 = .ok (.iconst 0, 1) := by decide +kernel
theorem dX12_part_86 : decode cX12_part 86 = .ok (.dup2, 1) := by decide +kernel
theorem dX12_part_87 : decode cX12_part 87 = .ok (.iaload, 1) := by decide +kernel
theorem dX12_part_88 : decode cX12_part 88 = .ok (.iconst 1, 1) := by decide +kernel
theorem dX12_part_89 : decode cX12_part 89 = .ok (.iadd, 1) := by decide +kernel
theorem dX12_part_90 : decode cX12_part 90 = .ok (.iastore, 1) := by decide +kernel
theorem dX12_part_91 : decode cX12_part 91 = .ok (.return_, 1) := by decide +kernel
theorem dX12_product_0 : decode cX12_product 0 = .ok (.aload_n 0, 1) := by decide +kernel
theorem dX12_product_1 : decode cX12_product 1 = .ok (.getfield 84, 3) := by decide +kernel
theorem dX12_product_4 : decode cX12_product 4 = .ok (.iconst 1, 1) := by decide +kernel
theorem dX12_product_5 : decode cX12_product 5 = .ok (.iaload, 1) := by decide +kernel
theorem dX12_product_6 : decode cX12_product 6 = .ok (.istore_n 1, 1) := by decide +kernel
theorem dX12_product_7 : decode cX12_product 7 = .ok (.aload_n 0, 1) := by decide +kernel
theorem dX12_product_8 : decode cX12_product 8 = .ok (.iload_n 1, 1) := by decide +kernel
theorem dX12_product_9 : decode cX12_product 9 = .ok (.bipush 8, 2) := by decide +kernel
theorem dX12_product_11 : decode cX12_product 11 = .ok (.if_icmp .ge 7, 3) := by decide +kernel
theorem dX12_product_14 : decode cX12_product 14 = .ok (.iconst 1, 1) := by decide +kernel
theorem dX12_product_15 : decode cX12_product 15 = .ok (.goto 4, 3) := by decide +kernel
theorem dX12_product_18 : decode cX12_product 18 = .ok (.iconst 0, 1) := by decide +kernel
theorem dX12_product_19 : decode cX12_product 19 = .ok (.iconst 4, 1) := by decide +kernel
theorem dX12_product_20 : decode cX12_product 20 = .ok (.invokevirtual 68, 3) := by decide +kernel
theorem dX12_product_23 : decode cX12_product 23 = .ok (.aload_n 0, 1) := by decide +kernel
theorem dX12_product_24 : decode cX12_product 24 = .ok (.invokevirtual 40, 3) := by decide +kernel
theorem dX12_product_27 : decode cX12_product 27 = .ok (.ifCond .eq 4, 3) := by decide +kernel
theorem dX12_product_30 : decode cX12_product 30 = .ok (.return_, 1) := by decide +kernel
theorem dX12_product_31 : decode cX12_product 31 = .ok (.aload_n 0, 1) := by decide +kernel
theorem dX12_product_32 : decode cX12_product 32 = .ok (.dup, 1) := by decide +kernel
theorem dX12_product_33 : decode cX12_product 33 = .ok (.getfield 27, 3) := by decide +kernel
theorem dX12_product_36 : decode cX12_product 36 = .ok (.bipush 7, 2) := by decide +kernel
theorem dX12_product_38 : decode cX12_product 38 = .ok (.iadd, 1) := by decide +kernel
theorem dX12_product_39 : decode cX12_product 39 = .ok (.putfield 27, 3) := by decide +kernel
theorem dX12_product_42 : decode cX12_product 42 = .ok (.aload_n 0, 1) := by decide +kernel
theorem dX12_product_43 : decode cX12_product 43 = .ok (.bipush 12, 2) := by decide +kernel
theorem dX12_product_45 : decode cX12_product 45 = .ok (.iload_n 1, 1) := by decide +kernel
theorem dX12_product_46 : decode cX12_product 46 = .ok (.iadd, 1) := by decide +kernel
theorem dX12_product_47 : decode cX12_product 47 = .ok (.invokevirtual 120, 3) := by decide +kernel
theorem dX12_product_50 : decode cX12_product 50 = .ok (.iconst 0, 1) := by decide +kernel
theorem dX12_product_51 : decode cX12_product 51 = .ok (.istore_n 2, 1) := by decide +kernel
theorem dX12_product_52 : decode cX12_product 52 = .ok (.iload_n 2, 1) := by decide +kernel
theorem dX12_product_53 : decode cX12_product 53 = .ok (.bipush 12, 2) := by decide +kernel
theorem dX12_product_55 : decode cX12_product 55 = .ok (.if_icmp .ge 25, 3) := by decide +kernel
theorem dX12_product_58 : decode cX12_product 58 = .ok (.aload_n 0, 1) := by decide +kernel
theorem dX12_product_59 : decode cX12_product 59 = .ok (.getfield 84, 3) := by decide +kernel
theorem dX12_product_62 : decode cX12_product 62 = .ok (.sipush 292, 3) := by decide +kernel
theorem dX12_product_65 : decode cX12_product 65 = .ok (.bipush 12, 2) := by decide +kernel
theorem dX12_product_67 : decode cX12_product 67 = .ok (.iload_n 1, 1) := by decide +kernel
theorem dX12_product_68 : decode cX12_product 68 = .ok (.imul, 1) := by decide +kernel
theorem dX12_product_69 : decode cX12_product 69 = .ok (.iadd, 1) := by decide +kernel
theorem dX12_product_70 : decode cX12_product 70 = .ok (.iload_n 2, 1) := by decide +kernel
theorem dX12_product_71 : decode cX12_product 71 = .ok (.iadd, 1) := by decide +kernel
theorem dX12_product_72 : decode cX12_product 72 = .ok (.iconst 0, 1) := by decide +kernel
theorem dX12_product_73 : decode cX12_product 73 = .ok (.iastore, 1) := by decide +kernel
theorem dX12_product_74 : decode cX12_product 74 = .ok (.iinc 2 1, 3) := by decide +kernel
theorem dX12_product_77 : decode cX12_product 77 = .ok (.goto (-25), 3) := by decide +kernel
theorem dX12_product_80 : decode cX12_product 80 = .ok (.iconst 0, 1) := by decide +kernel
theorem dX12_product_81 : decode cX12_product 81 = .ok (.istore_n 2, 1) := by decide +kernel
theorem dX12_product_82 : decode cX12_product 82 = .ok (.iconst 1, 1) := by decide +kernel
theorem dX12_product_83 : decode cX12_product 83 = .ok (.istore_n 3, 1) := by decide +kernel
theorem dX12_product_84 : decode cX12_product 84 = .ok (.iload_n 3, 1) := by decide +kernel
theorem dX12_product_85 : decode cX12_product 85 = .ok (.ifCond .eq 35, 3) := by decide +kernel
theorem dX12_product_88 : decode cX12_product 88 = .ok (.aload_n 0, 1) := by decide +kernel
theorem dX12_product_89 : decode cX12_product 89 = .ok (.invokevirtual 40, 3) := by decide +kernel
theorem dX12_product_92 : decode cX12_product 92 = .ok (.ifCond .ne 28, 3) := by decide +kernel
theorem dX12_product_95 : decode cX12_product 95 = .ok (.aload_n 0, 1) := by decide +kernel
theorem dX12_product_96 : decode cX12_product 96 = .ok (.iload_n 1, 1) := by decide +kernel
theorem dX12_product_97 : decode cX12_product 97 = .ok (.iload_n 2, 1) := by decide +kernel
theorem dX12_product_98 : decode cX12_product 98 = .ok (.invokevirtual 128, 3) := by decide +kernel
theorem dX12_product_101 : decode cX12_product 101 = .ok (.iinc 2 1, 3) := by decide +kernel
theorem dX12_product_104 : decode cX12_product 104 = .ok (.aload_n 0, 1) := by decide +kernel
theorem dX12_product_105 : decode cX12_product 105 = .ok (.invokevirtual 132, 3) := by decide +kernel
theorem dX12_product_108 : decode cX12_product 108 = .ok (.aload_n 0, 1) := by decide +kernel
theorem dX12_product_109 : decode cX12_product 109 = .ok (.bipush 48, 2) := by decide +kernel
theorem dX12_product_111 : decode cX12_product 111 = .ok (.bipush 57, 2) := by decide +kernel
theorem dX12_product_113 : decode cX12_product 113 = .ok (.invokevirtual 33, 3) := by decide +kernel
theorem dX12_product_116 : decode cX12_product 116 = .ok (.istore_n 3, 1) := by decide +kernel
theorem dX12_product_117 : decode cX12_product 117 = .ok (.goto (-33), 3) := by decide +kernel
theorem dX12_product_120 : decode cX12_product 120 = .ok (.aload_n 0, 1) := by decide +kernel
theorem dX12_product_121 : decode cX12_product 121 = .ok (.getfield 84, 3) := by decide +kernel
theorem dX12_product_124 : decode cX12_product 124 = .ok (.sipush 188, 3) := by decide +kernel
theorem dX12_product_127 : decode cX12_product 127 = .ok (.iload_n 1, 1) := by decide +kernel
theorem dX12_product_128 : decode cX12_product 128 = .ok (.iadd, 1) := by decide +kernel
theorem dX12_product_129 : decode cX12_product 129 = .ok (.iload_n 2, 1) := by decide +kernel
theorem dX12_product_130 : decode cX12_product 130 = .ok (.iastore, 1) := by decide +kernel
theorem dX12_product_131 : decode cX12_product 131 = .ok (.aload_n 0, 1) := by decide +kernel
theorem dX12_product_132 : decode cX12_product 132 = .ok (.getfield 84, 3) := by decide +kernel
theorem dX12_product_135 : decode cX12_product 135 = .ok (.iconst 1, 1) := by decide +kernel
theorem dX12_product_136 : decode cX12_product 136 = .ok (.dup2, 1) := by decide +kernel
theorem dX12_product_137 : decode cX12_product 137 = .ok (.iaload, 1) := by decide +kernel
theorem dX12_product_138 : decode cX12_product 138 = .ok (.iconst 1, 1) := by decide +kernel
theorem dX12_product_139 : decode cX12_product 139 = .ok (.iadd, 1) := by decide +kernel
theorem dX12_product_140 : decode cX12_product 140 = .ok (.iastore, 1) := by decide +kernel
theorem dX12_product_141 : decode cX12_product 141 = .ok (.return_, 1) := by decide +kernel
theorem dX12_blanks0_0 : decode cX12_blanks0 0 = .ok (.aload_n 0, 1) := by decide +kernel
theorem dX12_blanks0_1 : decode cX12_blanks0 1 = .ok (.invokevirtual 40, 3) := by decide +kernel
theorem dX12_blanks0_4 : decode cX12_blanks0 4 = .ok (.ifCond .ne 7, 3) := by decide +kernel
theorem dX12_blanks0_7 : decode cX12_blanks0 7 = .ok (.aload_n 0, 1) := by decide +kernel
theorem dX12_blanks0_8 : decode cX12_blanks0 8 = .ok (.invokevirtual 47, 3) := by decide +kernel
theorem dX12_blanks0_11 : decode cX12_blanks0 11 = .ok (.return_, 1) := by decide +kernel
theorem dX12_line_0 : decode cX12_line 0 = .ok (.aload_n 0, 1) := by decide +kernel
theorem dX12_line_1 : decode cX12_line 1 = .ok (.invokevirtual 47, 3) := by decide +kernel
theorem dX12_line_4 : decode cX12_line 4 = .ok (.aload_n 0, 1) := by decide +kernel
theorem dX12_line_5 : decode cX12_line 5 = .ok (.iload_n 2, 1) := by decide +kernel
theorem dX12_line_6 : decode cX12_line 6 = .ok (.bipush 6, 2) := by decide +kernel
theorem dX12_line_8 : decode cX12_line 8 = .ok (.if_icmp .lt 14, 3) := by decide +kernel
theorem dX12_line_11 : decode cX12_line 11 = .ok (.aload_n 0, 1) := by decide +kernel
theorem dX12_line_12 : decode cX12_line 12 = .ok (.bipush 48, 2) := by decide +kernel
theorem dX12_line_14 : decode cX12_line 14 = .ok (.bipush 57, 2) := by decide +kernel
theorem dX12_line_16 : decode cX12_line 16 = .ok (.invokevirtual 33, 3) := by decide +kernel
theorem dX12_line_19 : decode cX12_line 19 = .ok (.ifCond .ne 7, 3) := by decide +kernel
theorem dX12_line_22 : decode cX12_line 22 = .ok (.iconst 1, 1) := by decide +kernel
theorem dX12_line_23 : decode cX12_line 23 = .ok (.goto 4, 3) := by decide +kernel
theorem dX12_line_26 : decode cX12_line 26 = .ok (.iconst 0, 1) := by decide +kernel
theorem dX12_line_27 : decode cX12_line 27 = .ok (.iconst 4, 1) := by decide +kernel
theorem dX12_line_28 : decode cX12_line 28 = .ok (.invokevirtual 68, 3) := by decide +kernel
theorem dX12_line_31 : decode cX12_line 31 = .ok (.aload_n 0, 1) := by decide +kernel
theorem dX12_line_32 : decode cX12_line 32 = .ok (.iconst 1, 1) := by decide +kernel
theorem dX12_line_33 : decode cX12_line 33 = .ok (.bipush 20, 2) := by decide +kernel
theorem dX12_line_35 : decode cX12_line 35 = .ok (.invokevirtual 124, 3) := by decide +kernel
theorem dX12_line_38 : decode cX12_line 38 = .ok (.istore_n 3, 1) := by decide +kernel
theorem dX12_line_39 : decode cX12_line 39 = .ok (.aload_n 0, 1) := by decide +kernel
theorem dX12_line_40 : decode cX12_line 40 = .ok (.invokevirtual 40, 3) := by decide +kernel
theorem dX12_line_43 : decode cX12_line 43 = .ok (.ifCond .eq 4, 3) := by decide +kernel
theorem dX12_line_46 : decode cX12_line 46 = .ok (.return_, 1) := by decide +kernel
theorem dX12_line_47 : decode cX12_line 47 = .ok (.aload_n 0, 1) := by decide +kernel
theorem dX12_line_48 : decode cX12_line 48 = .ok (.invokevirtual 117, 3) := by decide +kernel
theorem dX12_line_51 : decode cX12_line 51 = .ok (.istore 4, 2) := by decide +kernel
theorem dX12_line_53 : decode cX12_line 53 = .ok (.aload_n 0, 1) := by decide +kernel
theorem dX12_line_54 : decode cX12_line 54 = .ok (.iload 4, 2) := by decide +kernel
theorem dX12_line_56 : decode cX12_line 56 = .ok (.iconst (-1), 1) := by decide +kernel
theorem dX12_line_57 : decode cX12_line 57 = .ok (.if_icmp .eq 7, 3) := by decide +kernel
theorem dX12_line_60 : decode cX12_line 60 = .ok (.iconst 1, 1) := by decide +kernel
theorem dX12_line_61 : decode cX12_line 61 = .ok (.goto 4, 3) := by decide +kernel
theorem dX12_line_64 : decode cX12_line 64 = .ok (.iconst 0, 1) := by decide +kernel
theorem dX12_line_65 : decode cX12_line 65 = .ok (.iconst 3, 1) := by decide +kernel
theorem dX12_line_66 : decode cX12_line 66 = .ok (.invokevirtual 68, 3) := by decide +kernel
theorem dX12_line_69 : decode cX12_line 69 = .ok (.iconst 0, 1) := by decide +kernel
theorem dX12_line_70 : decode cX12_line 70 = .ok (.istore 5, 2) := by decide +kernel
theorem dX12_line_72 : decode cX12_line 72 = .ok (.iload 5, 2) := by decide +kernel
theorem dX12_line_74 : decode cX12_line 74 = .ok (.iload_n 2, 1) := by decide +kernel
theorem dX12_line_75 : decode cX12_line 75 = .ok (.if_icmp .ge 40, 3) := by decide +kernel
theorem dX12_line_78 : decode cX12_line 78 = .ok (.aload_n 0, 1) := by decide +kernel
theorem dX12_line_79 : decode cX12_line 79 = .ok (.aload_n 0, 1) := by decide +kernel
theorem dX12_line_80 : decode cX12_line 80 = .ok (.getfield 84, 3) := by decide +kernel
theorem dX12_line_83 : decode cX12_line 83 = .ok (.sipush 196, 3) := by decide +kernel
theorem dX12_line_86 : decode cX12_line 86 = .ok (.bipush 6, 2) := by decide +kernel
theorem dX12_line_88 : decode cX12_line 88 = .ok (.iload_n 1, 1) := by decide +kernel
theorem dX12_line_89 : decode cX12_line 89 = .ok (.imul, 1) := by decide +kernel
theorem dX12_line_90 : decode cX12_line 90 = .ok (.iadd, 1) := by decide +kernel
theorem dX12_line_91 : decode cX12_line 91 = .ok (.iload 5, 2) := by decide +kernel
theorem dX12_line_93 : decode cX12_line 93 = .ok (.iadd, 1) := by decide +kernel
theorem dX12_line_94 : decode cX12_line 94 = .ok (.iaload, 1) := by decide +kernel
theorem dX12_line_95 : decode cX12_line 95 = .ok (.iload 4, 2) := by decide +kernel
theorem dX12_line_97 : decode cX12_line 97 = .ok (.if_icmp .eq 7, 3) := by decide +kernel
theorem dX12_line_100 : decode cX12_line 100 = .ok (.iconst 1, 1) := by decide +kernel
theorem dX12_line_101 : decode cX12_line 101 = .ok (.goto 4, 3) := by decide +kernel
theorem dX12_line_104 : decode cX12_line 104 = .ok (.iconst 0, 1) := by decide +kernel
theorem dX12_line_105 : decode cX12_line 105 = .ok (.iconst 3, 1) := by decide +kernel
theorem dX12_line_106 : decode cX12_line 106 = .ok (.invokevirtual 68, 3) := by decide +kernel
theorem dX12_line_109 : decode cX12_line 109 = .ok (.iinc 5 1, 3) := by decide +kernel
theorem dX12_line_112 : decode cX12_line 112 = .ok (.goto (-40), 3) := by decide +kernel
theorem dX12_line_115 : decode cX12_line 115 = .ok (.iconst 0, 1) := by decide +kernel
theorem dX12_line_116 : decode cX12_line 116 = .ok (.istore 5, 2) := by decide +kernel
theorem dX12_line_118 : decode cX12_line 118 = .ok (.iload 5, 2) := by decide +kernel
theorem dX12_line_120 : decode cX12_line 120 = .ok (.bipush 12, 2) := by decide +kernel
theorem dX12_line_122 : decode cX12_line 122 = .ok (.if_icmp .ge 111, 3) := by decide +kernel
theorem dX12_line_125 : decode cX12_line 125 = .ok (.aload_n 0, 1) := by decide +kernel
theorem dX12_line_126 : decode cX12_line 126 = .ok (.invokevirtual 40, 3) := by decide +kernel
theorem dX12_line_129 : decode cX12_line 129 = .ok (.ifCond .ne 104, 3) := by decide +kernel
theorem dX12_line_132 : decode cX12_line 132 = .ok (.aload_n 0, 1) := by decide +kernel
theorem dX12_line_133 : decode cX12_line 133 = .ok (.getfield 84, 3) := by decide +kernel
theorem dX12_line_136 : decode cX12_line 136 = .ok (.sipush 292, 3) := by decide +kernel
theorem dX12_line_139 : decode cX12_line 139 = .ok (.bipush 12, 2) := by decide +kernel
theorem dX12_line_141 : decode cX12_line 141 = .ok (.iload_n 1, 1) := by decide +kernel
theorem dX12_line_142 : decode cX12_line 142 = .ok (.imul, 1) := by decide +kernel
theorem dX12_line_143 : decode cX12_line 143 = .ok (.iadd, 1) := by decide +kernel
theorem dX12_line_144 : decode cX12_line 144 = .ok (.iload 5, 2) := by decide +kernel
theorem dX12_line_146 : decode cX12_line 146 = .ok (.iadd, 1) := by decide +kernel
theorem dX12_line_147 : decode cX12_line 147 = .ok (.dup2, 1) := by decide +kernel
theorem dX12_line_148 : decode cX12_line 148 = .ok (.iaload, 1) := by decide +kernel
theorem dX12_line_149 : decode cX12_line 149 = .ok (.iload_n 3, 1) := by decide +kernel
theorem dX12_line_150 : decode cX12_line 150 = .ok (.iload 4, 2) := by decide +kernel
theorem dX12_line_152 : decode cX12_line 152 = .ok (.bipush 12, 2) := by decide +kernel
theorem dX12_line_154 : decode cX12_line 154 = .ok (.if_icmp .ge 18, 3) := by decide +kernel
theorem dX12_line_157 : decode cX12_line 157 = .ok (.iload 4, 2) := by decide +kernel
theorem dX12_line_159 : decode cX12_line 159 = .ok (.iload 5, 2) := by decide +kernel
theorem dX12_line_161 : decode cX12_line 161 = .ok (.if_icmp .ne 7, 3) := by decide +kernel
theorem dX12_line_164 : decode cX12_line 164 = .ok (.iconst 1, 1) := by decide +kernel
theorem dX12_line_165 : decode cX12_line 165 = .ok (.goto 27, 3) := by decide +kernel
theorem dX12_line_168 : decode cX12_line 168 = .ok (.iconst 0, 1) := by decide +kernel
theorem dX12_line_169 : decode cX12_line 169 = .ok (.goto 23, 3) := by decide +kernel
theorem dX12_line_172 : decode cX12_line 172 = .ok (.aload_n 0, 1) := by decide +kernel
theorem dX12_line_173 : decode cX12_line 173 = .ok (.getfield 84, 3) := by decide +kernel
theorem dX12_line_176 : decode cX12_line 176 = .ok (.sipush 292, 3) := by decide +kernel
theorem dX12_line_179 : decode cX12_line 179 = .ok (.bipush 12, 2) := by decide +kernel
theorem dX12_line_181 : decode cX12_line 181 = .ok (.iload 4, 2) := by decide +kernel
theorem dX12_line_183 : decode cX12_line 183 = .ok (.bipush 12, 2) := by decide +kernel
theorem dX12_line_185 : decode cX12_line 185 = .ok (.isub, 1) := by decide +kernel
theorem dX12_line_186 : decode cX12_line 186 = .ok (.imul, 1) := by decide +kernel
theorem dX12_line_187 : decode cX12_line 187 = .ok (.iadd, 1) := by decide +kernel
theorem dX12_line_188 : decode cX12_line 188 = .ok (.iload 5, 2) := by decide +kernel
theorem dX12_line_190 : decode cX12_line 190 = .ok (.iadd, 1) := by decide +kernel
theorem dX12_line_191 : decode cX12_line 191 = .ok (.iaload, 1) := by decide +kernel
theorem dX12_line_192 : decode cX12_line 192 = .ok (.imul, 1) := by decide +kernel
theorem dX12_line_193 : decode cX12_line 193 = .ok (.iadd, 1) := by decide +kernel
theorem dX12_line_194 : decode cX12_line 194 = .ok (.iastore, 1) := by decide +kernel
theorem dX12_line_195 : decode cX12_line 195 = .ok (.aload_n 0, 1) := by decide +kernel
theorem dX12_line_196 : decode cX12_line 196 = .ok (.aload_n 0, 1) := by decide +kernel
theorem dX12_line_197 : decode cX12_line 197 = .ok (.getfield 84, 3) := by decide +kernel
theorem dX12_line_200 : decode cX12_line 200 = .ok (.sipush 292, 3) := by decide +kernel
theorem dX12_line_203 : decode cX12_line 203 = .ok (.bipush 12, 2) := by decide +kernel
theorem dX12_line_205 : decode cX12_line 205 = .ok (.iload_n 1, 1) := by decide +kernel
theorem dX12_line_206 : decode cX12_line 206 = .ok (.imul, 1) := by decide +kernel
theorem dX12_line_207 : decode cX12_line 207 = .ok (.iadd, 1) := by decide +kernel
theorem dX12_line_208 : decode cX12_line 208 = .ok (.iload 5, 2) := by decide +kernel
theorem dX12_line_210 : decode cX12_line 210 = .ok (.iadd, 1) := by decide +kernel
theorem dX12_line_211 : decode cX12_line 211 = .ok (.iaload, 1) := by decide +kernel
theorem dX12_line_212 : decode cX12_line 212 = .ok (.sipush 9999, 3) := by decide +kernel
theorem dX12_line_215 : decode cX12_line 215 = .ok (.if_icmp .gt 7, 3) := by decide +kernel
theorem dX12_line_218 : decode cX12_line 218 = .ok (.iconst 1, 1) := by decide +kernel
theorem dX12_line_219 : decode cX12_line 219 = .ok (.goto 4, 3) := by decide +kernel
theorem dX12_line_222 : decode cX12_line 222 = .ok (.iconst 0, 1) := by decide +kernel
theorem dX12_line_223 : decode cX12_line 223 = .ok (.iconst 5, 1) := by decide +kernel
theorem dX12_line_224 : decode cX12_line 224 = .ok (.invokevirtual 68, 3) := by decide +kernel
theorem dX12_line_227 : decode cX12_line 227 = .ok (.iinc 5 1, 3) := by decide +kernel
theorem dX12_line_230 : decode cX12_line 230 = .ok (.goto (-112), 3) := by decide +kernel
theorem dX12_line_233 : decode cX12_line 233 = .ok (.aload_n 0, 1) := by decide +kernel
theorem dX12_line_234 : decode cX12_line 234 = .ok (.invokevirtual 40, 3) := by decide +kernel
theorem dX12_line_237 : decode cX12_line 237 = .ok (.ifCond .eq 4, 3) := by decide +kernel
theorem dX12_line_240 : decode cX12_line 240 = .ok (.return_, 1) := by decide +kernel
theorem dX12_line_241 : decode cX12_line 241 = .ok (.aload_n 0, 1) := by decide +kernel
theorem dX12_line_242 : decode cX12_line 242 = .ok (.dup, 1) := by decide +kernel
theorem dX12_line_243 : decode cX12_line 243 = .ok (.getfield 27, 3) := by decide +kernel
theorem dX12_line_246 : decode cX12_line 246 = .ok (.aload_n 0, 1) := by decide +kernel
theorem dX12_line_247 : decode cX12_line 247 = .ok (.invokevirtual 51, 3) := by decide +kernel
theorem dX12_line_250 : decode cX12_line 250 = .ok (.iadd, 1) := by decide +kernel
theorem dX12_line_251 : decode cX12_line 251 = .ok (.putfield 27, 3) := by decide +kernel
theorem dX12_line_254 : decode cX12_line 254 = .ok (.aload_n 0, 1) := by decide +kernel
theorem dX12_line_255 : decode cX12_line 255 = .ok (.getfield 84, 3) := by decide +kernel
theorem dX12_line_258 : decode cX12_line 258 = .ok (.sipush 196, 3) := by decide +kernel
theorem dX12_line_261 : decode cX12_line 261 = .ok (.bipush 6, 2) := by decide +kernel
theorem dX12_line_263 : decode cX12_line 263 = .ok (.iload_n 1, 1) := by decide +kernel
theorem dX12_line_264 : decode cX12_line 264 = .ok (.imul, 1) := by decide +kernel
theorem dX12_line_265 : decode cX12_line 265 = .ok (.iadd, 1) := by decide +kernel
theorem dX12_line_266 : decode cX12_line 266 = .ok (.iload_n 2, 1) := by decide +kernel
theorem dX12_line_267 : decode cX12_line 267 = .ok (.iadd, 1) := by decide +kernel
theorem dX12_line_268 : decode cX12_line 268 = .ok (.iload 4, 2) := by decide +kernel
theorem dX12_line_270 : decode cX12_line 270 = .ok (.iastore, 1) := by decide +kernel
theorem dX12_line_271 : decode cX12_line 271 = .ok (.aload_n 0, 1) := by decide +kernel
theorem dX12_line_272 : decode cX12_line 272 = .ok (.getfield 84, 3) := by decide +kernel
theorem dX12_line_275 : decode cX12_line 275 = .ok (.sipush 244, 3) := by decide +kernel
theorem dX12_line_278 : decode cX12_line 278 = .ok (.bipush 6, 2) := by decide +kernel
theorem dX12_line_280 : decode cX12_line 280 = .ok (.iload_n 1, 1) := by decide +kernel
theorem dX12_line_281 : decode cX12_line 281 = .ok (.imul, 1) := by decide +kernel
theorem dX12_line_282 : decode cX12_line 282 = .ok (.iadd, 1) := by decide +kernel
theorem dX12_line_283 : decode cX12_line 283 = .ok (.iload_n 2, 1) := by decide +kernel
theorem dX12_line_284 : decode cX12_line 284 = .ok (.iadd, 1) := by decide +kernel
theorem dX12_line_285 : decode cX12_line 285 = .ok (.iload_n 3, 1) := by decide +kernel
theorem dX12_line_286 : decode cX12_line 286 = .ok (.iastore, 1) := by decide +kernel
theorem dX12_line_287 : decode cX12_line 287 = .ok (.return_, 1) := by decide +kernel
theorem dX12_rung_0 : decode cX12_rung 0 = .ok (.aload_n 0, 1) := by decide +kernel
theorem dX12_rung_1 : decode cX12_rung 1 = .ok (.aload_n 0, 1) := by decide +kernel
theorem dX12_rung_2 : decode cX12_rung 2 = .ok (.getfield 135, 3) := by decide +kernel
theorem dX12_rung_5 : decode cX12_rung 5 = .ok (.bipush 6, 2) := by decide +kernel
theorem dX12_rung_7 : decode cX12_rung 7 = .ok (.if_icmp .ge 7, 3) := by decide +kernel
theorem dX12_rung_10 : decode cX12_rung 10 = .ok (.iconst 1, 1) := by decide +kernel
theorem dX12_rung_11 : decode cX12_rung 11 = .ok (.goto 4, 3) := by decide +kernel
theorem dX12_rung_14 : decode cX12_rung 14 = .ok (.iconst 0, 1) := by decide +kernel
theorem dX12_rung_15 : decode cX12_rung 15 = .ok (.iconst 4, 1) := by decide +kernel
theorem dX12_rung_16 : decode cX12_rung 16 = .ok (.invokevirtual 68, 3) := by decide +kernel
theorem dX12_rung_19 : decode cX12_rung 19 = .ok (.aload_n 0, 1) := by decide +kernel
theorem dX12_rung_20 : decode cX12_rung 20 = .ok (.invokevirtual 40, 3) := by decide +kernel
theorem dX12_rung_23 : decode cX12_rung 23 = .ok (.ifCond .eq 4, 3) := by decide +kernel
theorem dX12_rung_26 : decode cX12_rung 26 = .ok (.return_, 1) := by decide +kernel
theorem dX12_rung_27 : decode cX12_rung 27 = .ok (.aload_n 0, 1) := by decide +kernel
theorem dX12_rung_28 : decode cX12_rung 28 = .ok (.dup, 1) := by decide +kernel
theorem dX12_rung_29 : decode cX12_rung 29 = .ok (.getfield 27, 3) := by decide +kernel
theorem dX12_rung_32 : decode cX12_rung 32 = .ok (.iconst 4, 1) := by decide +kernel
theorem dX12_rung_33 : decode cX12_rung 33 = .ok (.iadd, 1) := by decide +kernel
theorem dX12_rung_34 : decode cX12_rung 34 = .ok (.putfield 27, 3) := by decide +kernel
theorem dX12_rung_37 : decode cX12_rung 37 = .ok (.sipush 388, 3) := by decide +kernel
theorem dX12_rung_40 : decode cX12_rung 40 = .ok (.iconst 3, 1) := by decide +kernel
theorem dX12_rung_41 : decode cX12_rung 41 = .ok (.aload_n 0, 1) := by decide +kernel
theorem dX12_rung_42 : decode cX12_rung 42 = .ok (.getfield 135, 3) := by decide +kernel
theorem dX12_rung_45 : decode cX12_rung 45 = .ok (.imul, 1) := by decide +kernel
theorem dX12_rung_46 : decode cX12_rung 46 = .ok (.iadd, 1) := by decide +kernel
theorem dX12_rung_47 : decode cX12_rung 47 = .ok (.istore_n 1, 1) := by decide +kernel
theorem dX12_rung_48 : decode cX12_rung 48 = .ok (.aload_n 0, 1) := by decide +kernel
theorem dX12_rung_49 : decode cX12_rung 49 = .ok (.getfield 84, 3) := by decide +kernel
theorem dX12_rung_52 : decode cX12_rung 52 = .ok (.iload_n 1, 1) := by decide +kernel
theorem dX12_rung_53 : decode cX12_rung 53 = .ok (.aload_n 0, 1) := by decide +kernel
theorem dX12_rung_54 : decode cX12_rung 54 = .ok (.iconst 0, 1) := by decide +kernel
theorem dX12_rung_55 : decode cX12_rung 55 = .ok (.bipush 9, 2) := by decide +kernel
theorem dX12_rung_57 : decode cX12_rung 57 = .ok (.invokevirtual 124, 3) := by decide +kernel
theorem dX12_rung_60 : decode cX12_rung 60 = .ok (.iastore, 1) := by decide +kernel
theorem dX12_rung_61 : decode cX12_rung 61 = .ok (.aload_n 0, 1) := by decide +kernel
theorem dX12_rung_62 : decode cX12_rung 62 = .ok (.getfield 84, 3) := by decide +kernel
theorem dX12_rung_65 : decode cX12_rung 65 = .ok (.iload_n 1, 1) := by decide +kernel
theorem dX12_rung_66 : decode cX12_rung 66 = .ok (.iconst 1, 1) := by decide +kernel
theorem dX12_rung_67 : decode cX12_rung 67 = .ok (.iadd, 1) := by decide +kernel
theorem dX12_rung_68 : decode cX12_rung 68 = .ok (.aload_n 0, 1) := by decide +kernel
theorem dX12_rung_69 : decode cX12_rung 69 = .ok (.aload_n 0, 1) := by decide +kernel
theorem dX12_rung_70 : decode cX12_rung 70 = .ok (.getfield 84, 3) := by decide +kernel
theorem dX12_rung_73 : decode cX12_rung 73 = .ok (.iload_n 1, 1) := by decide +kernel
theorem dX12_rung_74 : decode cX12_rung 74 = .ok (.iaload, 1) := by decide +kernel
theorem dX12_rung_75 : decode cX12_rung 75 = .ok (.bipush 9, 2) := by decide +kernel
theorem dX12_rung_77 : decode cX12_rung 77 = .ok (.invokevirtual 124, 3) := by decide +kernel
theorem dX12_rung_80 : decode cX12_rung 80 = .ok (.iastore, 1) := by decide +kernel
theorem dX12_rung_81 : decode cX12_rung 81 = .ok (.aload_n 0, 1) := by decide +kernel
theorem dX12_rung_82 : decode cX12_rung 82 = .ok (.getfield 84, 3) := by decide +kernel
theorem dX12_rung_85 : decode cX12_rung 85 = .ok (.iload_n 1, 1) := by decide +kernel
theorem dX12_rung_86 : decode cX12_rung 86 = .ok (.iconst 2, 1) := by decide +kernel
theorem dX12_rung_87 : decode cX12_rung 87 = .ok (.iadd, 1) := by decide +kernel
theorem dX12_rung_88 : decode cX12_rung 88 = .ok (.aload_n 0, 1) := by decide +kernel
theorem dX12_rung_89 : decode cX12_rung 89 = .ok (.iconst 1, 1) := by decide +kernel
theorem dX12_rung_90 : decode cX12_rung 90 = .ok (.bipush 100, 2) := by decide +kernel
theorem dX12_rung_92 : decode cX12_rung 92 = .ok (.invokevirtual 124, 3) := by decide +kernel
theorem dX12_rung_95 : decode cX12_rung 95 = .ok (.iastore, 1) := by decide +kernel
theorem dX12_rung_96 : decode cX12_rung 96 = .ok (.aload_n 0, 1) := by decide +kernel
theorem dX12_rung_97 : decode cX12_rung 97 = .ok (.dup, 1) := by decide +kernel
theorem dX12_rung_98 : decode cX12_rung 98 = .ok (.getfield 135, 3) := by decide +kernel
theorem dX12_rung_101 : decode cX12_rung 101 = .ok (.iconst 1, 1) := by decide +kernel
theorem dX12_rung_102 : decode cX12_rung 102 = .ok (.iadd, 1) := by decide +kernel
theorem dX12_rung_103 : decode cX12_rung 103 = .ok (.putfield 135, 3) := by decide +kernel
theorem dX12_rung_106 : decode cX12_rung 106 = .ok (.aload_n 0, 1) := by decide +kernel
theorem dX12_rung_107 : decode cX12_rung 107 = .ok (.getfield 84, 3) := by decide +kernel
theorem dX12_rung_110 : decode cX12_rung 110 = .ok (.iconst 2, 1) := by decide +kernel
theorem dX12_rung_111 : decode cX12_rung 111 = .ok (.aload_n 0, 1) := by decide +kernel
theorem dX12_rung_112 : decode cX12_rung 112 = .ok (.getfield 135, 3) := by decide +kernel
theorem dX12_rung_115 : decode cX12_rung 115 = .ok (.iastore, 1) := by decide +kernel
theorem dX12_rung_116 : decode cX12_rung 116 = .ok (.return_, 1) := by decide +kernel
theorem dX12_order_0 : decode cX12_order 0 = .ok (.aload_n 0, 1) := by decide +kernel
theorem dX12_order_1 : decode cX12_order 1 = .ok (.aload_n 0, 1) := by decide +kernel
theorem dX12_order_2 : decode cX12_order 2 = .ok (.getfield 84, 3) := by decide +kernel
theorem dX12_order_5 : decode cX12_order 5 = .ok (.iconst 3, 1) := by decide +kernel
theorem dX12_order_6 : decode cX12_order 6 = .ok (.iaload, 1) := by decide +kernel
theorem dX12_order_7 : decode cX12_order 7 = .ok (.bipush 20, 2) := by decide +kernel
theorem dX12_order_9 : decode cX12_order 9 = .ok (.if_icmp .ge 7, 3) := by decide +kernel
theorem dX12_order_12 : decode cX12_order 12 = .ok (.iconst 1, 1) := by decide +kernel
theorem dX12_order_13 : decode cX12_order 13 = .ok (.goto 4, 3) := by decide +kernel
theorem dX12_order_16 : decode cX12_order 16 = .ok (.iconst 0, 1) := by decide +kernel
theorem dX12_order_17 : decode cX12_order 17 = .ok (.iconst 4, 1) := by decide +kernel
theorem dX12_order_18 : decode cX12_order 18 = .ok (.invokevirtual 68, 3) := by decide +kernel
theorem dX12_order_21 : decode cX12_order 21 = .ok (.aload_n 0, 1) := by decide +kernel
theorem dX12_order_22 : decode cX12_order 22 = .ok (.invokevirtual 40, 3) := by decide +kernel
theorem dX12_order_25 : decode cX12_order 25 = .ok (.ifCond .eq 4, 3) := by decide +kernel
theorem dX12_order_28 : decode cX12_order 28 = .ok (.return_, 1) := by decide +kernel
theorem dX12_order_29 : decode cX12_order 29 = .ok (.aload_n 0, 1) := by decide +kernel
theorem dX12_order_30 : decode cX12_order 30 = .ok (.dup, 1) := by decide +kernel
theorem dX12_order_31 : decode cX12_order 31 = .ok (.getfield 27, 3) := by decide +kernel
theorem dX12_order_34 : decode cX12_order 34 = .ok (.iconst 5, 1) := by decide +kernel
theorem dX12_order_35 : decode cX12_order 35 = .ok (.iadd, 1) := by decide +kernel
theorem dX12_order_36 : decode cX12_order 36 = .ok (.putfield 27, 3) := by decide +kernel
theorem dX12_order_39 : decode cX12_order 39 = .ok (.aload_n 0, 1) := by decide +kernel
theorem dX12_order_40 : decode cX12_order 40 = .ok (.invokevirtual 117, 3) := by decide +kernel
theorem dX12_order_43 : decode cX12_order 43 = .ok (.istore_n 1, 1) := by decide +kernel
theorem dX12_order_44 : decode cX12_order 44 = .ok (.aload_n 0, 1) := by decide +kernel
theorem dX12_order_45 : decode cX12_order 45 = .ok (.iload_n 1, 1) := by decide +kernel
theorem dX12_order_46 : decode cX12_order 46 = .ok (.bipush 12, 2) := by decide +kernel
theorem dX12_order_48 : decode cX12_order 48 = .ok (.if_icmp .lt 7, 3) := by decide +kernel
theorem dX12_order_51 : decode cX12_order 51 = .ok (.iconst 1, 1) := by decide +kernel
theorem dX12_order_52 : decode cX12_order 52 = .ok (.goto 4, 3) := by decide +kernel
theorem dX12_order_55 : decode cX12_order 55 = .ok (.iconst 0, 1) := by decide +kernel
theorem dX12_order_56 : decode cX12_order 56 = .ok (.iconst 3, 1) := by decide +kernel
theorem dX12_order_57 : decode cX12_order 57 = .ok (.invokevirtual 68, 3) := by decide +kernel
theorem dX12_order_60 : decode cX12_order 60 = .ok (.aload_n 0, 1) := by decide +kernel
theorem dX12_order_61 : decode cX12_order 61 = .ok (.invokevirtual 40, 3) := by decide +kernel
theorem dX12_order_64 : decode cX12_order 64 = .ok (.ifCond .eq 4, 3) := by decide +kernel
theorem dX12_order_67 : decode cX12_order 67 = .ok (.return_, 1) := by decide +kernel
theorem dX12_order_68 : decode cX12_order 68 = .ok (.aload_n 0, 1) := by decide +kernel
theorem dX12_order_69 : decode cX12_order 69 = .ok (.dup, 1) := by decide +kernel
theorem dX12_order_70 : decode cX12_order 70 = .ok (.getfield 27, 3) := by decide +kernel
theorem dX12_order_73 : decode cX12_order 73 = .ok (.aload_n 0, 1) := by decide +kernel
theorem dX12_order_74 : decode cX12_order 74 = .ok (.invokevirtual 51, 3) := by decide +kernel
theorem dX12_order_77 : decode cX12_order 77 = .ok (.iadd, 1) := by decide +kernel
theorem dX12_order_78 : decode cX12_order 78 = .ok (.putfield 27, 3) := by decide +kernel
theorem dX12_order_81 : decode cX12_order 81 = .ok (.sipush 406, 3) := by decide +kernel
theorem dX12_order_84 : decode cX12_order 84 = .ok (.iconst 5, 1) := by decide +kernel
theorem dX12_order_85 : decode cX12_order 85 = .ok (.aload_n 0, 1) := by decide +kernel
theorem dX12_order_86 : decode cX12_order 86 = .ok (.getfield 84, 3) := by decide +kernel
theorem dX12_order_89 : decode cX12_order 89 = .ok (.iconst 3, 1) := by decide +kernel
theorem dX12_order_90 : decode cX12_order 90 = .ok (.iaload, 1) := by decide +kernel
theorem dX12_order_91 : decode cX12_order 91 = .ok (.imul, 1) := by decide +kernel
theorem dX12_order_92 : decode cX12_order 92 = .ok (.iadd, 1) := by decide +kernel
theorem dX12_order_93 : decode cX12_order 93 = .ok (.istore_n 2, 1) := by decide +kernel
theorem dX12_order_94 : decode cX12_order 94 = .ok (.aload_n 0, 1) := by decide +kernel
theorem dX12_order_95 : decode cX12_order 95 = .ok (.getfield 84, 3) := by decide +kernel
theorem dX12_order_98 : decode cX12_order 98 = .ok (.iload_n 2, 1) := by decide +kernel
theorem dX12_order_99 : decode cX12_order 99 = .ok (.iload_n 1, 1) := by decide +kernel
theorem dX12_order_100 : decode cX12_order 100 = .ok (.bipush 12, 2) := by decide +kernel
theorem dX12_order_102 : decode cX12_order 102 = .ok (.isub, 1) := by decide +kernel
theorem dX12_order_103 : decode cX12_order 103 = .ok (.iastore, 1) := by decide +kernel
theorem dX12_order_104 : decode cX12_order 104 = .ok (.aload_n 0, 1) := by decide +kernel
theorem dX12_order_105 : decode cX12_order 105 = .ok (.getfield 84, 3) := by decide +kernel
theorem dX12_order_108 : decode cX12_order 108 = .ok (.iload_n 2, 1) := by decide +kernel
theorem dX12_order_109 : decode cX12_order 109 = .ok (.iconst 1, 1) := by decide +kernel
theorem dX12_order_110 : decode cX12_order 110 = .ok (.iadd, 1) := by decide +kernel
theorem dX12_order_111 : decode cX12_order 111 = .ok (.aload_n 0, 1) := by decide +kernel
theorem dX12_order_112 : decode cX12_order 112 = .ok (.iconst 1, 1) := by decide +kernel
theorem dX12_order_113 : decode cX12_order 113 = .ok (.bipush 99, 2) := by decide +kernel
theorem dX12_order_115 : decode cX12_order 115 = .ok (.invokevirtual 124, 3) := by decide +kernel
theorem dX12_order_118 : decode cX12_order 118 = .ok (.iastore, 1) := by decide +kernel
theorem dX12_order_119 : decode cX12_order 119 = .ok (.aload_n 0, 1) := by decide +kernel
theorem dX12_order_120 : decode cX12_order 120 = .ok (.getfield 84, 3) := by decide +kernel
theorem dX12_order_123 : decode cX12_order 123 = .ok (.iload_n 2, 1) := by decide +kernel
theorem dX12_order_124 : decode cX12_order 124 = .ok (.iconst 2, 1) := by decide +kernel
theorem dX12_order_125 : decode cX12_order 125 = .ok (.iadd, 1) := by decide +kernel
theorem dX12_order_126 : decode cX12_order 126 = .ok (.aload_n 0, 1) := by decide +kernel
theorem dX12_order_127 : decode cX12_order 127 = .ok (.iconst 0, 1) := by decide +kernel
theorem dX12_order_128 : decode cX12_order 128 = .ok (.bipush 9, 2) := by decide +kernel
theorem dX12_order_130 : decode cX12_order 130 = .ok (.invokevirtual 124, 3) := by decide +kernel
theorem dX12_order_133 : decode cX12_order 133 = .ok (.iastore, 1) := by decide +kernel
theorem dX12_order_134 : decode cX12_order 134 = .ok (.aload_n 0, 1) := by decide +kernel
theorem dX12_order_135 : decode cX12_order 135 = .ok (.getfield 84, 3) := by decide +kernel
theorem dX12_order_138 : decode cX12_order 138 = .ok (.iload_n 2, 1) := by decide +kernel
theorem dX12_order_139 : decode cX12_order 139 = .ok (.iconst 3, 1) := by decide +kernel
theorem dX12_order_140 : decode cX12_order 140 = .ok (.iadd, 1) := by decide +kernel
theorem dX12_order_141 : decode cX12_order 141 = .ok (.aload_n 0, 1) := by decide +kernel
theorem dX12_order_142 : decode cX12_order 142 = .ok (.iconst 0, 1) := by decide +kernel
theorem dX12_order_143 : decode cX12_order 143 = .ok (.sipush 999, 3) := by decide +kernel
theorem dX12_order_146 : decode cX12_order 146 = .ok (.invokevirtual 124, 3) := by decide +kernel
theorem dX12_order_149 : decode cX12_order 149 = .ok (.iastore, 1) := by decide +kernel
theorem dX12_order_150 : decode cX12_order 150 = .ok (.aload_n 0, 1) := by decide +kernel
theorem dX12_order_151 : decode cX12_order 151 = .ok (.getfield 84, 3) := by decide +kernel
theorem dX12_order_154 : decode cX12_order 154 = .ok (.iload_n 2, 1) := by decide +kernel
theorem dX12_order_155 : decode cX12_order 155 = .ok (.iconst 4, 1) := by decide +kernel
theorem dX12_order_156 : decode cX12_order 156 = .ok (.iadd, 1) := by decide +kernel
theorem dX12_order_157 : decode cX12_order 157 = .ok (.aload_n 0, 1) := by decide +kernel
theorem dX12_order_158 : decode cX12_order 158 = .ok (.ldc 138, 2) := by decide +kernel
theorem dX12_order_160 : decode cX12_order 160 = .ok (.invokevirtual 140, 3) := by decide +kernel
theorem dX12_order_163 : decode cX12_order 163 = .ok (.ifCond .eq 7, 3) := by decide +kernel
theorem dX12_order_166 : decode cX12_order 166 = .ok (.iconst 1, 1) := by decide +kernel
theorem dX12_order_167 : decode cX12_order 167 = .ok (.goto 4, 3) := by decide +kernel
theorem dX12_order_170 : decode cX12_order 170 = .ok (.iconst 0, 1) := by decide +kernel
theorem dX12_order_171 : decode cX12_order 171 = .ok (.iastore, 1) := by decide +kernel
theorem dX12_order_172 : decode cX12_order 172 = .ok (.aload_n 0, 1) := by decide +kernel
theorem dX12_order_173 : decode cX12_order 173 = .ok (.getfield 84, 3) := by decide +kernel
theorem dX12_order_176 : decode cX12_order 176 = .ok (.iconst 3, 1) := by decide +kernel
theorem dX12_order_177 : decode cX12_order 177 = .ok (.dup2, 1) := by decide +kernel
theorem dX12_order_178 : decode cX12_order 178 = .ok (.iaload, 1) := by decide +kernel
theorem dX12_order_179 : decode cX12_order 179 = .ok (.iconst 1, 1) := by decide +kernel
theorem dX12_order_180 : decode cX12_order 180 = .ok (.iadd, 1) := by decide +kernel
theorem dX12_order_181 : decode cX12_order 181 = .ok (.iastore, 1) := by decide +kernel
theorem dX12_order_182 : decode cX12_order 182 = .ok (.return_, 1) := by decide +kernel
theorem dX12_load_0 : decode cX12_load 0 = .ok (.aload_n 0, 1) := by decide +kernel
theorem dX12_load_1 : decode cX12_load 1 = .ok (.iconst 0, 1) := by decide +kernel
theorem dX12_load_2 : decode cX12_load 2 = .ok (.putfield 3, 3) := by decide +kernel
theorem dX12_load_5 : decode cX12_load 5 = .ok (.aload_n 0, 1) := by decide +kernel
theorem dX12_load_6 : decode cX12_load 6 = .ok (.aload_n 0, 1) := by decide +kernel
theorem dX12_load_7 : decode cX12_load 7 = .ok (.getfield 7, 3) := by decide +kernel
theorem dX12_load_10 : decode cX12_load 10 = .ok (.putfield 30, 3) := by decide +kernel
theorem dX12_load_13 : decode cX12_load 13 = .ok (.aload_n 0, 1) := by decide +kernel
theorem dX12_load_14 : decode cX12_load 14 = .ok (.iconst 0, 1) := by decide +kernel
theorem dX12_load_15 : decode cX12_load 15 = .ok (.putfield 7, 3) := by decide +kernel
theorem dX12_load_18 : decode cX12_load 18 = .ok (.aload_n 0, 1) := by decide +kernel
theorem dX12_load_19 : decode cX12_load 19 = .ok (.iconst 0, 1) := by decide +kernel
theorem dX12_load_20 : decode cX12_load 20 = .ok (.putfield 27, 3) := by decide +kernel
theorem dX12_load_23 : decode cX12_load 23 = .ok (.aload_n 0, 1) := by decide +kernel
theorem dX12_load_24 : decode cX12_load 24 = .ok (.iconst (-1), 1) := by decide +kernel
theorem dX12_load_25 : decode cX12_load 25 = .ok (.putfield 24, 3) := by decide +kernel
theorem dX12_load_28 : decode cX12_load 28 = .ok (.aload_n 0, 1) := by decide +kernel
theorem dX12_load_29 : decode cX12_load 29 = .ok (.iconst 0, 1) := by decide +kernel
theorem dX12_load_30 : decode cX12_load 30 = .ok (.putfield 44, 3) := by decide +kernel
theorem dX12_load_33 : decode cX12_load 33 = .ok (.aload_n 0, 1) := by decide +kernel
theorem dX12_load_34 : decode cX12_load 34 = .ok (.iconst 0, 1) := by decide +kernel
theorem dX12_load_35 : decode cX12_load 35 = .ok (.putfield 135, 3) := by decide +kernel
theorem dX12_load_38 : decode cX12_load 38 = .ok (.iconst 0, 1) := by decide +kernel
theorem dX12_load_39 : decode cX12_load 39 = .ok (.istore_n 1, 1) := by decide +kernel
theorem dX12_load_40 : decode cX12_load 40 = .ok (.iload_n 1, 1) := by decide +kernel
theorem dX12_load_41 : decode cX12_load 41 = .ok (.sipush 506, 3) := by decide +kernel
theorem dX12_load_44 : decode cX12_load 44 = .ok (.if_icmp .ge 16, 3) := by decide +kernel
theorem dX12_load_47 : decode cX12_load 47 = .ok (.aload_n 0, 1) := by decide +kernel
theorem dX12_load_48 : decode cX12_load 48 = .ok (.getfield 84, 3) := by decide +kernel
theorem dX12_load_51 : decode cX12_load 51 = .ok (.iload_n 1, 1) := by decide +kernel
theorem dX12_load_52 : decode cX12_load 52 = .ok (.iconst 0, 1) := by decide +kernel
theorem dX12_load_53 : decode cX12_load 53 = .ok (.iastore, 1) := by decide +kernel
theorem dX12_load_54 : decode cX12_load 54 = .ok (.iinc 1 1, 3) := by decide +kernel
theorem dX12_load_57 : decode cX12_load 57 = .ok (.goto (-17), 3) := by decide +kernel
theorem dX12_load_60 : decode cX12_load 60 = .ok (.aload_n 0, 1) := by decide +kernel
theorem dX12_load_61 : decode cX12_load 61 = .ok (.invokevirtual 111, 3) := by decide +kernel
theorem dX12_load_64 : decode cX12_load 64 = .ok (.aload_n 0, 1) := by decide +kernel
theorem dX12_load_65 : decode cX12_load 65 = .ok (.invokevirtual 47, 3) := by decide +kernel
theorem dX12_load_68 : decode cX12_load 68 = .ok (.aload_n 0, 1) := by decide +kernel
theorem dX12_load_69 : decode cX12_load 69 = .ok (.invokevirtual 40, 3) := by decide +kernel
theorem dX12_load_72 : decode cX12_load 72 = .ok (.ifCond .ne 118, 3) := by decide +kernel
theorem dX12_load_75 : decode cX12_load 75 = .ok (.aload_n 0, 1) := by decide +kernel
theorem dX12_load_76 : decode cX12_load 76 = .ok (.getfield 27, 3) := by decide +kernel
theorem dX12_load_79 : decode cX12_load 79 = .ok (.aload_n 0, 1) := by decide +kernel
theorem dX12_load_80 : decode cX12_load 80 = .ok (.getfield 30, 3) := by decide +kernel
theorem dX12_load_83 : decode cX12_load 83 = .ok (.if_icmp .ge 107, 3) := by decide +kernel
theorem dX12_load_86 : decode cX12_load 86 = .ok (.aload_n 0, 1) := by decide +kernel
theorem dX12_load_87 : decode cX12_load 87 = .ok (.ldc 143, 2) := by decide +kernel
theorem dX12_load_89 : decode cX12_load 89 = .ok (.invokevirtual 64, 3) := by decide +kernel
theorem dX12_load_92 : decode cX12_load 92 = .ok (.ifCond .eq 10, 3) := by decide +kernel
theorem dX12_load_95 : decode cX12_load 95 = .ok (.aload_n 0, 1) := by decide +kernel
theorem dX12_load_96 : decode cX12_load 96 = .ok (.invokevirtual 145, 3) := by decide +kernel
theorem dX12_load_99 : decode cX12_load 99 = .ok (.goto 57, 3) := by decide +kernel
theorem dX12_load_102 : decode cX12_load 102 = .ok (.aload_n 0, 1) := by decide +kernel
theorem dX12_load_103 : decode cX12_load 103 = .ok (.ldc 147, 2) := by decide +kernel
theorem dX12_load_105 : decode cX12_load 105 = .ok (.invokevirtual 64, 3) := by decide +kernel
theorem dX12_load_108 : decode cX12_load 108 = .ok (.ifCond .eq 10, 3) := by decide +kernel
theorem dX12_load_111 : decode cX12_load 111 = .ok (.aload_n 0, 1) := by decide +kernel
theorem dX12_load_112 : decode cX12_load 112 = .ok (.invokevirtual 149, 3) := by decide +kernel
theorem dX12_load_115 : decode cX12_load 115 = .ok (.goto 41, 3) := by decide +kernel
theorem dX12_load_118 : decode cX12_load 118 = .ok (.aload_n 0, 1) := by decide +kernel
theorem dX12_load_119 : decode cX12_load 119 = .ok (.ldc 151, 2) := by decide +kernel
theorem dX12_load_121 : decode cX12_load 121 = .ok (.invokevirtual 64, 3) := by decide +kernel
theorem dX12_load_124 : decode cX12_load 124 = .ok (.ifCond .eq 10, 3) := by decide +kernel
theorem dX12_load_127 : decode cX12_load 127 = .ok (.aload_n 0, 1) := by decide +kernel
theorem dX12_load_128 : decode cX12_load 128 = .ok (.invokevirtual 153, 3) := by decide +kernel
theorem dX12_load_131 : decode cX12_load 131 = .ok (.goto 25, 3) := by decide +kernel
theorem dX12_load_134 : decode cX12_load 134 = .ok (.aload_n 0, 1) := by decide +kernel
theorem dX12_load_135 : decode cX12_load 135 = .ok (.ldc 155, 2) := by decide +kernel
theorem dX12_load_137 : decode cX12_load 137 = .ok (.invokevirtual 64, 3) := by decide +kernel
theorem dX12_load_140 : decode cX12_load 140 = .ok (.ifCond .eq 10, 3) := by decide +kernel
theorem dX12_load_143 : decode cX12_load 143 = .ok (.aload_n 0, 1) := by decide +kernel
theorem dX12_load_144 : decode cX12_load 144 = .ok (.invokevirtual 157, 3) := by decide +kernel
theorem dX12_load_147 : decode cX12_load 147 = .ok (.goto 9, 3) := by decide +kernel
theorem dX12_load_150 : decode cX12_load 150 = .ok (.aload_n 0, 1) := by decide +kernel
theorem dX12_load_151 : decode cX12_load 151 = .ok (.iconst 0, 1) := by decide +kernel
theorem dX12_load_152 : decode cX12_load 152 = .ok (.iconst 1, 1) := by decide +kernel
theorem dX12_load_153 : decode cX12_load 153 = .ok (.invokevirtual 68, 3) := by decide +kernel
theorem dX12_load_156 : decode cX12_load 156 = .ok (.aload_n 0, 1) := by decide +kernel
theorem dX12_load_157 : decode cX12_load 157 = .ok (.invokevirtual 132, 3) := by decide +kernel
theorem dX12_load_160 : decode cX12_load 160 = .ok (.aload_n 0, 1) := by decide +kernel
theorem dX12_load_161 : decode cX12_load 161 = .ok (.aload_n 0, 1) := by decide +kernel
theorem dX12_load_162 : decode cX12_load 162 = .ok (.bipush 59, 2) := by decide +kernel
theorem dX12_load_164 : decode cX12_load 164 = .ok (.bipush 59, 2) := by decide +kernel
theorem dX12_load_166 : decode cX12_load 166 = .ok (.invokevirtual 33, 3) := by decide +kernel
theorem dX12_load_169 : decode cX12_load 169 = .ok (.iconst 1, 1) := by decide +kernel
theorem dX12_load_170 : decode cX12_load 170 = .ok (.invokevirtual 68, 3) := by decide +kernel
theorem dX12_load_173 : decode cX12_load 173 = .ok (.aload_n 0, 1) := by decide +kernel
theorem dX12_load_174 : decode cX12_load 174 = .ok (.dup, 1) := by decide +kernel
theorem dX12_load_175 : decode cX12_load 175 = .ok (.getfield 27, 3) := by decide +kernel
theorem dX12_load_178 : decode cX12_load 178 = .ok (.iconst 1, 1) := by decide +kernel
theorem dX12_load_179 : decode cX12_load 179 = .ok (.iadd, 1) := by decide +kernel
theorem dX12_load_180 : decode cX12_load 180 = .ok (.putfield 27, 3) := by decide +kernel
theorem dX12_load_183 : decode cX12_load 183 = .ok (.aload_n 0, 1) := by decide +kernel
theorem dX12_load_184 : decode cX12_load 184 = .ok (.invokevirtual 132, 3) := by decide +kernel
theorem dX12_load_187 : decode cX12_load 187 = .ok (.goto (-119), 3) := by decide +kernel
theorem dX12_load_190 : decode cX12_load 190 = .ok (.aload_n 0, 1) := by decide +kernel
theorem dX12_load_191 : decode cX12_load 191 = .ok (.aload_n 0, 1) := by decide +kernel
theorem dX12_load_192 : decode cX12_load 192 = .ok (.getfield 24, 3) := by decide +kernel
theorem dX12_load_195 : decode cX12_load 195 = .ok (.putfield 18, 3) := by decide +kernel
theorem dX12_load_198 : decode cX12_load 198 = .ok (.aload_n 0, 1) := by decide +kernel
theorem dX12_load_199 : decode cX12_load 199 = .ok (.aload_n 0, 1) := by decide +kernel
theorem dX12_load_200 : decode cX12_load 200 = .ok (.getfield 44, 3) := by decide +kernel
theorem dX12_load_203 : decode cX12_load 203 = .ok (.putfield 21, 3) := by decide +kernel
theorem dX12_load_206 : decode cX12_load 206 = .ok (.aload_n 0, 1) := by decide +kernel
theorem dX12_load_207 : decode cX12_load 207 = .ok (.aload_n 0, 1) := by decide +kernel
theorem dX12_load_208 : decode cX12_load 208 = .ok (.invokevirtual 40, 3) := by decide +kernel
theorem dX12_load_211 : decode cX12_load 211 = .ok (.iconst 1, 1) := by decide +kernel
theorem dX12_load_212 : decode cX12_load 212 = .ok (.invokevirtual 159, 3) := by decide +kernel
theorem dX12_load_215 : decode cX12_load 215 = .ok (.ifCond .eq 5, 3) := by decide +kernel
theorem dX12_load_218 : decode cX12_load 218 = .ok (.iconst 0, 1) := by decide +kernel
theorem dX12_load_219 : decode cX12_load 219 = .ok (.ireturn, 1) := by decide +kernel
theorem dX12_load_220 : decode cX12_load 220 = .ok (.aload_n 0, 1) := by decide +kernel
theorem dX12_load_221 : decode cX12_load 221 = .ok (.invokevirtual 114, 3) := by decide +kernel
theorem dX12_load_224 : decode cX12_load 224 = .ok (.aload_n 0, 1) := by decide +kernel
theorem dX12_load_225 : decode cX12_load 225 = .ok (.getfield 81, 3) := by decide +kernel
theorem dX12_load_228 : decode cX12_load 228 = .ok (.iconst 1, 1) := by decide +kernel
theorem dX12_load_229 : decode cX12_load 229 = .ok (.iaload, 1) := by decide +kernel
theorem dX12_load_230 : decode cX12_load 230 = .ok (.ireturn, 1) := by decide +kernel
theorem dX12_takesOver_0 : decode cX12_takesOver 0 = .ok (.iconst 0, 1) := by decide +kernel
theorem dX12_takesOver_1 : decode cX12_takesOver 1 = .ok (.istore_n 1, 1) := by decide +kernel
theorem dX12_takesOver_2 : decode cX12_takesOver 2 = .ok (.iload_n 1, 1) := by decide +kernel
theorem dX12_takesOver_3 : decode cX12_takesOver 3 = .ok (.sipush 506, 3) := by decide +kernel
theorem dX12_takesOver_6 : decode cX12_takesOver 6 = .ok (.if_icmp .ge 21, 3) := by decide +kernel
theorem dX12_takesOver_9 : decode cX12_takesOver 9 = .ok (.aload_n 0, 1) := by decide +kernel
theorem dX12_takesOver_10 : decode cX12_takesOver 10 = .ok (.getfield 81, 3) := by decide +kernel
theorem dX12_takesOver_13 : decode cX12_takesOver 13 = .ok (.iload_n 1, 1) := by decide +kernel
theorem dX12_takesOver_14 : decode cX12_takesOver 14 = .ok (.aload_n 0, 1) := by decide +kernel
theorem dX12_takesOver_15 : decode cX12_takesOver 15 = .ok (.getfield 84, 3) := by decide +kernel
theorem dX12_takesOver_18 : decode cX12_takesOver 18 = .ok (.iload_n 1, 1) := by decide +kernel
theorem dX12_takesOver_19 : decode cX12_takesOver 19 = .ok (.iaload, 1) := by decide +kernel
theorem dX12_takesOver_20 : decode cX12_takesOver 20 = .ok (.iastore, 1) := by decide +kernel
theorem dX12_takesOver_21 : decode cX12_takesOver 21 = .ok (.iinc 1 1, 3) := by decide +kernel
theorem dX12_takesOver_24 : decode cX12_takesOver 24 = .ok (.goto (-22), 3) := by decide +kernel
theorem dX12_takesOver_27 : decode cX12_takesOver 27 = .ok (.iconst 0, 1) := by decide +kernel
theorem dX12_takesOver_28 : decode cX12_takesOver 28 = .ok (.istore_n 1, 1) := by decide +kernel
theorem dX12_takesOver_29 : decode cX12_takesOver 29 = .ok (.iload_n 1, 1) := by decide +kernel
theorem dX12_takesOver_30 : decode cX12_takesOver 30 = .ok (.sipush 301, 3) := by decide +kernel
theorem dX12_takesOver_33 : decode cX12_takesOver 33 = .ok (.if_icmp .ge 16, 3) := by decide +kernel
theorem dX12_takesOver_36 : decode cX12_takesOver 36 = .ok (.aload_n 0, 1) := by decide +kernel
theorem dX12_takesOver_37 : decode cX12_takesOver 37 = .ok (.getfield 87, 3) := by decide +kernel
theorem dX12_takesOver_40 : decode cX12_takesOver 40 = .ok (.iload_n 1, 1) := by decide +kernel
theorem dX12_takesOver_41 : decode cX12_takesOver 41 = .ok (.iconst 0, 1) := by decide +kernel
theorem dX12_takesOver_42 : decode cX12_takesOver 42 = .ok (.iastore, 1) := by decide +kernel
theorem dX12_takesOver_43 : decode cX12_takesOver 43 = .ok (.iinc 1 1, 3) := by decide +kernel
theorem dX12_takesOver_46 : decode cX12_takesOver 46 = .ok (.goto (-17), 3) := by decide +kernel
theorem dX12_takesOver_49 : decode cX12_takesOver 49 = .ok (.iconst 0, 1) := by decide +kernel
theorem dX12_takesOver_50 : decode cX12_takesOver 50 = .ok (.istore_n 1, 1) := by decide +kernel
theorem dX12_takesOver_51 : decode cX12_takesOver 51 = .ok (.iload_n 1, 1) := by decide +kernel
theorem dX12_takesOver_52 : decode cX12_takesOver 52 = .ok (.bipush 12, 2) := by decide +kernel
theorem dX12_takesOver_54 : decode cX12_takesOver 54 = .ok (.if_icmp .ge 28, 3) := by decide +kernel
theorem dX12_takesOver_57 : decode cX12_takesOver 57 = .ok (.aload_n 0, 1) := by decide +kernel
theorem dX12_takesOver_58 : decode cX12_takesOver 58 = .ok (.getfield 87, 3) := by decide +kernel
theorem dX12_takesOver_61 : decode cX12_takesOver 61 = .ok (.bipush 9, 2) := by decide +kernel
theorem dX12_takesOver_63 : decode cX12_takesOver 63 = .ok (.iload_n 1, 1) := by decide +kernel
theorem dX12_takesOver_64 : decode cX12_takesOver 64 = .ok (.iadd, 1) := by decide +kernel
theorem dX12_takesOver_65 : decode cX12_takesOver 65 = .ok (.aload_n 0, 1) := by decide +kernel
theorem dX12_takesOver_66 : decode cX12_takesOver 66 = .ok (.getfield 81, 3) := by decide +kernel
theorem dX12_takesOver_69 : decode cX12_takesOver 69 = .ok (.sipush 164, 3) := by decide +kernel
theorem dX12_takesOver_72 : decode cX12_takesOver 72 = .ok (.iload_n 1, 1) := by decide +kernel
theorem dX12_takesOver_73 : decode cX12_takesOver 73 = .ok (.iadd, 1) := by decide +kernel
theorem dX12_takesOver_74 : decode cX12_takesOver 74 = .ok (.iaload, 1) := by decide +kernel
theorem dX12_takesOver_75 : decode cX12_takesOver 75 = .ok (.iastore, 1) := by decide +kernel
theorem dX12_takesOver_76 : decode cX12_takesOver 76 = .ok (.iinc 1 1, 3) := by decide +kernel
theorem dX12_takesOver_79 : decode cX12_takesOver 79 = .ok (.goto (-28), 3) := by decide +kernel
theorem dX12_takesOver_82 : decode cX12_takesOver 82 = .ok (.aload_n 0, 1) := by decide +kernel
theorem dX12_takesOver_83 : decode cX12_takesOver 83 = .ok (.getfield 87, 3) := by decide +kernel
theorem dX12_takesOver_86 : decode cX12_takesOver 86 = .ok (.iconst 1, 1) := by decide +kernel
theorem dX12_takesOver_87 : decode cX12_takesOver 87 = .ok (.aload_n 0, 1) := by decide +kernel
theorem dX12_takesOver_88 : decode cX12_takesOver 88 = .ok (.getfield 81, 3) := by decide +kernel
theorem dX12_takesOver_91 : decode cX12_takesOver 91 = .ok (.iconst 3, 1) := by decide +kernel
theorem dX12_takesOver_92 : decode cX12_takesOver 92 = .ok (.iaload, 1) := by decide +kernel
theorem dX12_takesOver_93 : decode cX12_takesOver 93 = .ok (.iastore, 1) := by decide +kernel
theorem dX12_takesOver_94 : decode cX12_takesOver 94 = .ok (.iconst 0, 1) := by decide +kernel
theorem dX12_takesOver_95 : decode cX12_takesOver 95 = .ok (.istore_n 1, 1) := by decide +kernel
theorem dX12_takesOver_96 : decode cX12_takesOver 96 = .ok (.iload_n 1, 1) := by decide +kernel
theorem dX12_takesOver_97 : decode cX12_takesOver 97 = .ok (.aload_n 0, 1) := by decide +kernel
theorem dX12_takesOver_98 : decode cX12_takesOver 98 = .ok (.getfield 81, 3) := by decide +kernel
theorem dX12_takesOver_101 : decode cX12_takesOver 101 = .ok (.iconst 3, 1) := by decide +kernel
theorem dX12_takesOver_102 : decode cX12_takesOver 102 = .ok (.iaload, 1) := by decide +kernel
theorem dX12_takesOver_103 : decode cX12_takesOver 103 = .ok (.if_icmp .ge 50, 3) := by decide +kernel
theorem dX12_takesOver_106 : decode cX12_takesOver 106 = .ok (.iconst 0, 1) := by decide +kernel
theorem dX12_takesOver_107 : decode cX12_takesOver 107 = .ok (.istore_n 2, 1) := by decide +kernel
theorem dX12_takesOver_108 : decode cX12_takesOver 108 = .ok (.iload_n 2, 1) := by decide +kernel
theorem dX12_takesOver_109 : decode cX12_takesOver 109 = .ok (.iconst 5, 1) := by decide +kernel
theorem dX12_takesOver_110 : decode cX12_takesOver 110 = .ok (.if_icmp .ge 37, 3) := by decide +kernel
theorem dX12_takesOver_113 : decode cX12_takesOver 113 = .ok (.aload_n 0, 1) := by decide +kernel
theorem dX12_takesOver_114 : decode cX12_takesOver 114 = .ok (.getfield 87, 3) := by decide +kernel
theorem dX12_takesOver_117 : decode cX12_takesOver 117 = .ok (.bipush 93, 2) := by decide +kernel
theorem dX12_takesOver_119 : decode cX12_takesOver 119 = .ok (.bipush 8, 2) := by decide +kernel
theorem dX12_takesOver_121 : decode cX12_takesOver 121 = .ok (.iload_n 1, 1) := by decide +kernel
theorem dX12_takesOver_122 : decode cX12_takesOver 122 = .ok (.imul, 1) := by decide +kernel
theorem dX12_takesOver_123 : decode cX12_takesOver 123 = .ok (.iadd, 1) := by decide +kernel
theorem dX12_takesOver_124 : decode cX12_takesOver 124 = .ok (.iload_n 2, 1) := by decide +kernel
theorem dX12_takesOver_125 : decode cX12_takesOver 125 = .ok (.iadd, 1) := by decide +kernel
theorem dX12_takesOver_126 : decode cX12_takesOver 126 = .ok (.aload_n 0, 1) := by decide +kernel
theorem dX12_takesOver_127 : decode cX12_takesOver 127 = .ok (.getfield 81, 3) := by decide +kernel
theorem dX12_takesOver_130 : decode cX12_takesOver 130 = .ok (.sipush 406, 3) := by decide +kernel
theorem dX12_takesOver_133 : decode cX12_takesOver 133 = .ok (.iconst 5, 1) := by decide +kernel
theorem dX12_takesOver_134 : decode cX12_takesOver 134 = .ok (.iload_n 1, 1) := by decide +kernel
theorem dX12_takesOver_135 : decode cX12_takesOver 135 = .ok (.imul, 1) := by decide +kernel
theorem dX12_takesOver_136 : decode cX12_takesOver 136 = .ok (.iadd, 1) := by decide +kernel
theorem dX12_takesOver_137 : decode cX12_takesOver 137 = .ok (.iload_n 2, 1) := by decide +kernel
theorem dX12_takesOver_138 : decode cX12_takesOver 138 = .ok (.iadd, 1) := by decide +kernel
theorem dX12_takesOver_139 : decode cX12_takesOver 139 = .ok (.iaload, 1) := by decide +kernel
theorem dX12_takesOver_140 : decode cX12_takesOver 140 = .ok (.iastore, 1) := by decide +kernel
theorem dX12_takesOver_141 : decode cX12_takesOver 141 = .ok (.iinc 2 1, 3) := by decide +kernel
theorem dX12_takesOver_144 : decode cX12_takesOver 144 = .ok (.goto (-36), 3) := by decide +kernel
theorem dX12_takesOver_147 : decode cX12_takesOver 147 = .ok (.iinc 1 1, 3) := by decide +kernel
theorem dX12_takesOver_150 : decode cX12_takesOver 150 = .ok (.goto (-54), 3) := by decide +kernel
theorem dX12_takesOver_153 : decode cX12_takesOver 153 = .ok (.aload_n 0, 1) := by decide +kernel
theorem dX12_takesOver_154 : decode cX12_takesOver 154 = .ok (.iconst 0, 1) := by decide +kernel
theorem dX12_takesOver_155 : decode cX12_takesOver 155 = .ok (.putfield 163, 3) := by decide +kernel
theorem dX12_takesOver_158 : decode cX12_takesOver 158 = .ok (.return_, 1) := by decide +kernel
theorem dX12_keeps_0 : decode cX12_keeps 0 = .ok (.aload_n 0, 1) := by decide +kernel
theorem dX12_keeps_1 : decode cX12_keeps 1 = .ok (.getfield 163, 3) := by decide +kernel
theorem dX12_keeps_4 : decode cX12_keeps 4 = .ok (.bipush 12, 2) := by decide +kernel
theorem dX12_keeps_6 : decode cX12_keeps 6 = .ok (.if_icmp .ne 46, 3) := by decide +kernel
theorem dX12_keeps_9 : decode cX12_keeps 9 = .ok (.sipush 301, 3) := by decide +kernel
theorem dX12_keeps_12 : decode cX12_keeps 12 = .ok (.istore_n 1, 1) := by decide +kernel
theorem dX12_keeps_13 : decode cX12_keeps 13 = .ok (.iload_n 1, 1) := by decide +kernel
theorem dX12_keeps_14 : decode cX12_keeps 14 = .ok (.sipush 3612, 3) := by decide +kernel
theorem dX12_keeps_17 : decode cX12_keeps 17 = .ok (.if_icmp .ge 25, 3) := by decide +kernel
theorem dX12_keeps_20 : decode cX12_keeps 20 = .ok (.aload_n 0, 1) := by decide +kernel
theorem dX12_keeps_21 : decode cX12_keeps 21 = .ok (.getfield 90, 3) := by decide +kernel
theorem dX12_keeps_24 : decode cX12_keeps 24 = .ok (.iload_n 1, 1) := by decide +kernel
theorem dX12_keeps_25 : decode cX12_keeps 25 = .ok (.sipush 301, 3) := by decide +kernel
theorem dX12_keeps_28 : decode cX12_keeps 28 = .ok (.isub, 1) := by decide +kernel
theorem dX12_keeps_29 : decode cX12_keeps 29 = .ok (.aload_n 0, 1) := by decide +kernel
theorem dX12_keeps_30 : decode cX12_keeps 30 = .ok (.getfield 90, 3) := by decide +kernel
theorem dX12_keeps_33 : decode cX12_keeps 33 = .ok (.iload_n 1, 1) := by decide +kernel
theorem dX12_keeps_34 : decode cX12_keeps 34 = .ok (.iaload, 1) := by decide +kernel
theorem dX12_keeps_35 : decode cX12_keeps 35 = .ok (.iastore, 1) := by decide +kernel
theorem dX12_keeps_36 : decode cX12_keeps 36 = .ok (.iinc 1 1, 3) := by decide +kernel
theorem dX12_keeps_39 : decode cX12_keeps 39 = .ok (.goto (-26), 3) := by decide +kernel
theorem dX12_keeps_42 : decode cX12_keeps 42 = .ok (.aload_n 0, 1) := by decide +kernel
theorem dX12_keeps_43 : decode cX12_keeps 43 = .ok (.dup, 1) := by decide +kernel
theorem dX12_keeps_44 : decode cX12_keeps 44 = .ok (.getfield 163, 3) := by decide +kernel
theorem dX12_keeps_47 : decode cX12_keeps 47 = .ok (.iconst 1, 1) := by decide +kernel
theorem dX12_keeps_48 : decode cX12_keeps 48 = .ok (.isub, 1) := by decide +kernel
theorem dX12_keeps_49 : decode cX12_keeps 49 = .ok (.putfield 163, 3) := by decide +kernel
theorem dX12_keeps_52 : decode cX12_keeps 52 = .ok (.iconst 0, 1) := by decide +kernel
theorem dX12_keeps_53 : decode cX12_keeps 53 = .ok (.istore_n 1, 1) := by decide +kernel
theorem dX12_keeps_54 : decode cX12_keeps 54 = .ok (.iload_n 1, 1) := by decide +kernel
theorem dX12_keeps_55 : decode cX12_keeps 55 = .ok (.sipush 301, 3) := by decide +kernel
theorem dX12_keeps_58 : decode cX12_keeps 58 = .ok (.if_icmp .ge 30, 3) := by decide +kernel
theorem dX12_keeps_61 : decode cX12_keeps 61 = .ok (.aload_n 0, 1) := by decide +kernel
theorem dX12_keeps_62 : decode cX12_keeps 62 = .ok (.getfield 90, 3) := by decide +kernel
theorem dX12_keeps_65 : decode cX12_keeps 65 = .ok (.sipush 301, 3) := by decide +kernel
theorem dX12_keeps_68 : decode cX12_keeps 68 = .ok (.aload_n 0, 1) := by decide +kernel
theorem dX12_keeps_69 : decode cX12_keeps 69 = .ok (.getfield 163, 3) := by decide +kernel
theorem dX12_keeps_72 : decode cX12_keeps 72 = .ok (.imul, 1) := by decide +kernel
theorem dX12_keeps_73 : decode cX12_keeps 73 = .ok (.iload_n 1, 1) := by decide +kernel
theorem dX12_keeps_74 : decode cX12_keeps 74 = .ok (.iadd, 1) := by decide +kernel
theorem dX12_keeps_75 : decode cX12_keeps 75 = .ok (.aload_n 0, 1) := by decide +kernel
theorem dX12_keeps_76 : decode cX12_keeps 76 = .ok (.getfield 87, 3) := by decide +kernel
theorem dX12_keeps_79 : decode cX12_keeps 79 = .ok (.iload_n 1, 1) := by decide +kernel
theorem dX12_keeps_80 : decode cX12_keeps 80 = .ok (.iaload, 1) := by decide +kernel
theorem dX12_keeps_81 : decode cX12_keeps 81 = .ok (.iastore, 1) := by decide +kernel
theorem dX12_keeps_82 : decode cX12_keeps 82 = .ok (.iinc 1 1, 3) := by decide +kernel
theorem dX12_keeps_85 : decode cX12_keeps 85 = .ok (.goto (-31), 3) := by decide +kernel
theorem dX12_keeps_88 : decode cX12_keeps 88 = .ok (.aload_n 0, 1) := by decide +kernel
theorem dX12_keeps_89 : decode cX12_keeps 89 = .ok (.dup, 1) := by decide +kernel
theorem dX12_keeps_90 : decode cX12_keeps 90 = .ok (.getfield 163, 3) := by decide +kernel
theorem dX12_keeps_93 : decode cX12_keeps 93 = .ok (.iconst 1, 1) := by decide +kernel
theorem dX12_keeps_94 : decode cX12_keeps 94 = .ok (.iadd, 1) := by decide +kernel
theorem dX12_keeps_95 : decode cX12_keeps 95 = .ok (.putfield 163, 3) := by decide +kernel
theorem dX12_keeps_98 : decode cX12_keeps 98 = .ok (.return_, 1) := by decide +kernel
theorem dX12_undo_0 : decode cX12_undo 0 = .ok (.aload_n 0, 1) := by decide +kernel
theorem dX12_undo_1 : decode cX12_undo 1 = .ok (.iconst 0, 1) := by decide +kernel
theorem dX12_undo_2 : decode cX12_undo 2 = .ok (.putfield 3, 3) := by decide +kernel
theorem dX12_undo_5 : decode cX12_undo 5 = .ok (.aload_n 0, 1) := by decide +kernel
theorem dX12_undo_6 : decode cX12_undo 6 = .ok (.getfield 163, 3) := by decide +kernel
theorem dX12_undo_9 : decode cX12_undo 9 = .ok (.ifCond .ne 5, 3) := by decide +kernel
theorem dX12_undo_12 : decode cX12_undo 12 = .ok (.iconst (-1), 1) := by decide +kernel
theorem dX12_undo_13 : decode cX12_undo 13 = .ok (.ireturn, 1) := by decide +kernel
theorem dX12_undo_14 : decode cX12_undo 14 = .ok (.aload_n 0, 1) := by decide +kernel
theorem dX12_undo_15 : decode cX12_undo 15 = .ok (.dup, 1) := by decide +kernel
theorem dX12_undo_16 : decode cX12_undo 16 = .ok (.getfield 163, 3) := by decide +kernel
theorem dX12_undo_19 : decode cX12_undo 19 = .ok (.iconst 1, 1) := by decide +kernel
theorem dX12_undo_20 : decode cX12_undo 20 = .ok (.isub, 1) := by decide +kernel
theorem dX12_undo_21 : decode cX12_undo 21 = .ok (.putfield 163, 3) := by decide +kernel
theorem dX12_undo_24 : decode cX12_undo 24 = .ok (.iconst 0, 1) := by decide +kernel
theorem dX12_undo_25 : decode cX12_undo 25 = .ok (.istore_n 1, 1) := by decide +kernel
theorem dX12_undo_26 : decode cX12_undo 26 = .ok (.iload_n 1, 1) := by decide +kernel
theorem dX12_undo_27 : decode cX12_undo 27 = .ok (.sipush 301, 3) := by decide +kernel
theorem dX12_undo_30 : decode cX12_undo 30 = .ok (.if_icmp .ge 30, 3) := by decide +kernel
theorem dX12_undo_33 : decode cX12_undo 33 = .ok (.aload_n 0, 1) := by decide +kernel
theorem dX12_undo_34 : decode cX12_undo 34 = .ok (.getfield 87, 3) := by decide +kernel
theorem dX12_undo_37 : decode cX12_undo 37 = .ok (.iload_n 1, 1) := by decide +kernel
theorem dX12_undo_38 : decode cX12_undo 38 = .ok (.aload_n 0, 1) := by decide +kernel
theorem dX12_undo_39 : decode cX12_undo 39 = .ok (.getfield 90, 3) := by decide +kernel
theorem dX12_undo_42 : decode cX12_undo 42 = .ok (.sipush 301, 3) := by decide +kernel
theorem dX12_undo_45 : decode cX12_undo 45 = .ok (.aload_n 0, 1) := by decide +kernel
theorem dX12_undo_46 : decode cX12_undo 46 = .ok (.getfield 163, 3) := by decide +kernel
theorem dX12_undo_49 : decode cX12_undo 49 = .ok (.imul, 1) := by decide +kernel
theorem dX12_undo_50 : decode cX12_undo 50 = .ok (.iload_n 1, 1) := by decide +kernel
theorem dX12_undo_51 : decode cX12_undo 51 = .ok (.iadd, 1) := by decide +kernel
theorem dX12_undo_52 : decode cX12_undo 52 = .ok (.iaload, 1) := by decide +kernel
theorem dX12_undo_53 : decode cX12_undo 53 = .ok (.iastore, 1) := by decide +kernel
theorem dX12_undo_54 : decode cX12_undo 54 = .ok (.iinc 1 1, 3) := by decide +kernel
theorem dX12_undo_57 : decode cX12_undo 57 = .ok (.goto (-31), 3) := by decide +kernel
theorem dX12_undo_60 : decode cX12_undo 60 = .ok (.aload_n 0, 1) := by decide +kernel
theorem dX12_undo_61 : decode cX12_undo 61 = .ok (.getfield 163, 3) := by decide +kernel
theorem dX12_undo_64 : decode cX12_undo 64 = .ok (.ireturn, 1) := by decide +kernel
theorem dX12_undoDepth_0 : decode cX12_undoDepth 0 = .ok (.aload_n 0, 1) := by decide +kernel
theorem dX12_undoDepth_1 : decode cX12_undoDepth 1 = .ok (.iconst 0, 1) := by decide +kernel
theorem dX12_undoDepth_2 : decode cX12_undoDepth 2 = .ok (.putfield 3, 3) := by decide +kernel
theorem dX12_undoDepth_5 : decode cX12_undoDepth 5 = .ok (.aload_n 0, 1) := by decide +kernel
theorem dX12_undoDepth_6 : decode cX12_undoDepth 6 = .ok (.getfield 163, 3) := by decide +kernel
theorem dX12_undoDepth_9 : decode cX12_undoDepth 9 = .ok (.ireturn, 1) := by decide +kernel
theorem dX12_noPart_0 : decode cX12_noPart 0 = .ok (.aload_n 0, 1) := by decide +kernel
theorem dX12_noPart_1 : decode cX12_noPart 1 = .ok (.iload_n 1, 1) := by decide +kernel
theorem dX12_noPart_2 : decode cX12_noPart 2 = .ok (.iconst 0, 1) := by decide +kernel
theorem dX12_noPart_3 : decode cX12_noPart 3 = .ok (.aload_n 0, 1) := by decide +kernel
theorem dX12_noPart_4 : decode cX12_noPart 4 = .ok (.getfield 81, 3) := by decide +kernel
theorem dX12_noPart_7 : decode cX12_noPart 7 = .ok (.iconst 0, 1) := by decide +kernel
theorem dX12_noPart_8 : decode cX12_noPart 8 = .ok (.iaload, 1) := by decide +kernel
theorem dX12_noPart_9 : decode cX12_noPart 9 = .ok (.iconst 1, 1) := by decide +kernel
theorem dX12_noPart_10 : decode cX12_noPart 10 = .ok (.isub, 1) := by decide +kernel
theorem dX12_noPart_11 : decode cX12_noPart 11 = .ok (.invokestatic 72, 3) := by decide +kernel
theorem dX12_noPart_14 : decode cX12_noPart 14 = .ok (.ifCond .ne 7, 3) := by decide +kernel
theorem dX12_noPart_17 : decode cX12_noPart 17 = .ok (.iconst 1, 1) := by decide +kernel
theorem dX12_noPart_18 : decode cX12_noPart 18 = .ok (.goto 4, 3) := by decide +kernel
theorem dX12_noPart_21 : decode cX12_noPart 21 = .ok (.iconst 0, 1) := by decide +kernel
theorem dX12_noPart_22 : decode cX12_noPart 22 = .ok (.iconst 1, 1) := by decide +kernel
theorem dX12_noPart_23 : decode cX12_noPart 23 = .ok (.invokevirtual 159, 3) := by decide +kernel
theorem dX12_noPart_26 : decode cX12_noPart 26 = .ok (.ireturn, 1) := by decide +kernel
theorem dX12_noProduct_0 : decode cX12_noProduct 0 = .ok (.aload_n 0, 1) := by decide +kernel
theorem dX12_noProduct_1 : decode cX12_noProduct 1 = .ok (.iload_n 1, 1) := by decide +kernel
theorem dX12_noProduct_2 : decode cX12_noProduct 2 = .ok (.iconst 0, 1) := by decide +kernel
theorem dX12_noProduct_3 : decode cX12_noProduct 3 = .ok (.aload_n 0, 1) := by decide +kernel
theorem dX12_noProduct_4 : decode cX12_noProduct 4 = .ok (.getfield 81, 3) := by decide +kernel
theorem dX12_noProduct_7 : decode cX12_noProduct 7 = .ok (.iconst 1, 1) := by decide +kernel
theorem dX12_noProduct_8 : decode cX12_noProduct 8 = .ok (.iaload, 1) := by decide +kernel
theorem dX12_noProduct_9 : decode cX12_noProduct 9 = .ok (.iconst 1, 1) := by decide +kernel
theorem dX12_noProduct_10 : decode cX12_noProduct 10 = .ok (.isub, 1) := by decide +kernel
theorem dX12_noProduct_11 : decode cX12_noProduct 11 = .ok (.invokestatic 72, 3) := by decide +kernel
theorem dX12_noProduct_14 : decode cX12_noProduct 14 = .ok (.ifCond .ne 7, 3) := by decide +kernel
theorem dX12_noProduct_17 : decode cX12_noProduct 17 = .ok (.iconst 1, 1) := by decide +kernel
theorem dX12_noProduct_18 : decode cX12_noProduct 18 = .ok (.goto 4, 3) := by decide +kernel
theorem dX12_noProduct_21 : decode cX12_noProduct 21 = .ok (.iconst 0, 1) := by decide +kernel
theorem dX12_noProduct_22 : decode cX12_noProduct 22 = .ok (.iconst 1, 1) := by decide +kernel
theorem dX12_noProduct_23 : decode cX12_noProduct 23 = .ok (.invokevirtual 159, 3) := by decide +kernel
theorem dX12_noProduct_26 : decode cX12_noProduct 26 = .ok (.ireturn, 1) := by decide +kernel
theorem dX12_noOrder_0 : decode cX12_noOrder 0 = .ok (.aload_n 0, 1) := by decide +kernel
theorem dX12_noOrder_1 : decode cX12_noOrder 1 = .ok (.iload_n 1, 1) := by decide +kernel
theorem dX12_noOrder_2 : decode cX12_noOrder 2 = .ok (.iconst 0, 1) := by decide +kernel
theorem dX12_noOrder_3 : decode cX12_noOrder 3 = .ok (.aload_n 0, 1) := by decide +kernel
theorem dX12_noOrder_4 : decode cX12_noOrder 4 = .ok (.getfield 87, 3) := by decide +kernel
theorem dX12_noOrder_7 : decode cX12_noOrder 7 = .ok (.iconst 1, 1) := by decide +kernel
theorem dX12_noOrder_8 : decode cX12_noOrder 8 = .ok (.iaload, 1) := by decide +kernel
theorem dX12_noOrder_9 : decode cX12_noOrder 9 = .ok (.iconst 1, 1) := by decide +kernel
theorem dX12_noOrder_10 : decode cX12_noOrder 10 = .ok (.isub, 1) := by decide +kernel
theorem dX12_noOrder_11 : decode cX12_noOrder 11 = .ok (.invokestatic 72, 3) := by decide +kernel
theorem dX12_noOrder_14 : decode cX12_noOrder 14 = .ok (.ifCond .ne 7, 3) := by decide +kernel
theorem dX12_noOrder_17 : decode cX12_noOrder 17 = .ok (.iconst 1, 1) := by decide +kernel
theorem dX12_noOrder_18 : decode cX12_noOrder 18 = .ok (.goto 4, 3) := by decide +kernel
theorem dX12_noOrder_21 : decode cX12_noOrder 21 = .ok (.iconst 0, 1) := by decide +kernel
theorem dX12_noOrder_22 : decode cX12_noOrder 22 = .ok (.iconst 1, 1) := by decide +kernel
theorem dX12_noOrder_23 : decode cX12_noOrder 23 = .ok (.invokevirtual 159, 3) := by decide +kernel
theorem dX12_noOrder_26 : decode cX12_noOrder 26 = .ok (.ireturn, 1) := by decide +kernel
theorem dX12_needs_0 : decode cX12_needs 0 = .ok (.aload_n 0, 1) := by decide +kernel
theorem dX12_needs_1 : decode cX12_needs 1 = .ok (.getfield 81, 3) := by decide +kernel
theorem dX12_needs_4 : decode cX12_needs 4 = .ok (.sipush 292, 3) := by decide +kernel
theorem dX12_needs_7 : decode cX12_needs 7 = .ok (.bipush 12, 2) := by decide +kernel
theorem dX12_needs_9 : decode cX12_needs 9 = .ok (.iload_n 1, 1) := by decide +kernel
theorem dX12_needs_10 : decode cX12_needs 10 = .ok (.imul, 1) := by decide +kernel
theorem dX12_needs_11 : decode cX12_needs 11 = .ok (.iadd, 1) := by decide +kernel
theorem dX12_needs_12 : decode cX12_needs 12 = .ok (.iload_n 2, 1) := by decide +kernel
theorem dX12_needs_13 : decode cX12_needs 13 = .ok (.iadd, 1) := by decide +kernel
theorem dX12_needs_14 : decode cX12_needs 14 = .ok (.iaload, 1) := by decide +kernel
theorem dX12_needs_15 : decode cX12_needs 15 = .ok (.ireturn, 1) := by decide +kernel
theorem dX12_free_0 : decode cX12_free 0 = .ok (.aload_n 0, 1) := by decide +kernel
theorem dX12_free_1 : decode cX12_free 1 = .ok (.getfield 87, 3) := by decide +kernel
theorem dX12_free_4 : decode cX12_free 4 = .ok (.bipush 9, 2) := by decide +kernel
theorem dX12_free_6 : decode cX12_free 6 = .ok (.iload_n 1, 1) := by decide +kernel
theorem dX12_free_7 : decode cX12_free 7 = .ok (.iadd, 1) := by decide +kernel
theorem dX12_free_8 : decode cX12_free 8 = .ok (.iaload, 1) := by decide +kernel
theorem dX12_free_9 : decode cX12_free 9 = .ok (.aload_n 0, 1) := by decide +kernel
theorem dX12_free_10 : decode cX12_free 10 = .ok (.getfield 87, 3) := by decide +kernel
theorem dX12_free_13 : decode cX12_free 13 = .ok (.bipush 21, 2) := by decide +kernel
theorem dX12_free_15 : decode cX12_free 15 = .ok (.iload_n 1, 1) := by decide +kernel
theorem dX12_free_16 : decode cX12_free 16 = .ok (.iadd, 1) := by decide +kernel
theorem dX12_free_17 : decode cX12_free 17 = .ok (.iaload, 1) := by decide +kernel
theorem dX12_free_18 : decode cX12_free 18 = .ok (.isub, 1) := by decide +kernel
theorem dX12_free_19 : decode cX12_free 19 = .ok (.ireturn, 1) := by decide +kernel
theorem dX12_of_0 : decode cX12_of 0 = .ok (.aload_n 0, 1) := by decide +kernel
theorem dX12_of_1 : decode cX12_of 1 = .ok (.getfield 87, 3) := by decide +kernel
theorem dX12_of_4 : decode cX12_of 4 = .ok (.bipush 93, 2) := by decide +kernel
theorem dX12_of_6 : decode cX12_of 6 = .ok (.bipush 8, 2) := by decide +kernel
theorem dX12_of_8 : decode cX12_of 8 = .ok (.iload_n 1, 1) := by decide +kernel
theorem dX12_of_9 : decode cX12_of 9 = .ok (.imul, 1) := by decide +kernel
theorem dX12_of_10 : decode cX12_of 10 = .ok (.iadd, 1) := by decide +kernel
theorem dX12_of_11 : decode cX12_of 11 = .ok (.iload_n 2, 1) := by decide +kernel
theorem dX12_of_12 : decode cX12_of 12 = .ok (.iadd, 1) := by decide +kernel
theorem dX12_of_13 : decode cX12_of 13 = .ok (.iaload, 1) := by decide +kernel
theorem dX12_of_14 : decode cX12_of 14 = .ok (.ireturn, 1) := by decide +kernel
theorem dX12_grows_0 : decode cX12_grows 0 = .ok (.aload_n 0, 1) := by decide +kernel
theorem dX12_grows_1 : decode cX12_grows 1 = .ok (.getfield 87, 3) := by decide +kernel
theorem dX12_grows_4 : decode cX12_grows 4 = .ok (.bipush 93, 2) := by decide +kernel
theorem dX12_grows_6 : decode cX12_grows 6 = .ok (.bipush 8, 2) := by decide +kernel
theorem dX12_grows_8 : decode cX12_grows 8 = .ok (.iload_n 1, 1) := by decide +kernel
theorem dX12_grows_9 : decode cX12_grows 9 = .ok (.imul, 1) := by decide +kernel
theorem dX12_grows_10 : decode cX12_grows 10 = .ok (.iadd, 1) := by decide +kernel
theorem dX12_grows_11 : decode cX12_grows 11 = .ok (.iload_n 2, 1) := by decide +kernel
theorem dX12_grows_12 : decode cX12_grows 12 = .ok (.iadd, 1) := by decide +kernel
theorem dX12_grows_13 : decode cX12_grows 13 = .ok (.dup2, 1) := by decide +kernel
theorem dX12_grows_14 : decode cX12_grows 14 = .ok (.iaload, 1) := by decide +kernel
theorem dX12_grows_15 : decode cX12_grows 15 = .ok (.iload_n 3, 1) := by decide +kernel
theorem dX12_grows_16 : decode cX12_grows 16 = .ok (.iadd, 1) := by decide +kernel
theorem dX12_grows_17 : decode cX12_grows 17 = .ok (.iastore, 1) := by decide +kernel
theorem dX12_grows_18 : decode cX12_grows 18 = .ok (.return_, 1) := by decide +kernel
theorem dX12_open_0 : decode cX12_open 0 = .ok (.aload_n 0, 1) := by decide +kernel
theorem dX12_open_1 : decode cX12_open 1 = .ok (.iload_n 1, 1) := by decide +kernel
theorem dX12_open_2 : decode cX12_open 2 = .ok (.bipush 7, 2) := by decide +kernel
theorem dX12_open_4 : decode cX12_open 4 = .ok (.invokevirtual 166, 3) := by decide +kernel
theorem dX12_open_7 : decode cX12_open 7 = .ok (.iconst 1, 1) := by decide +kernel
theorem dX12_open_8 : decode cX12_open 8 = .ok (.if_icmp .ne 7, 3) := by decide +kernel
theorem dX12_open_11 : decode cX12_open 11 = .ok (.iconst 0, 1) := by decide +kernel
theorem dX12_open_12 : decode cX12_open 12 = .ok (.goto 24, 3) := by decide +kernel
theorem dX12_open_15 : decode cX12_open 15 = .ok (.aload_n 0, 1) := by decide +kernel
theorem dX12_open_16 : decode cX12_open 16 = .ok (.iload_n 1, 1) := by decide +kernel
theorem dX12_open_17 : decode cX12_open 17 = .ok (.iconst 1, 1) := by decide +kernel
theorem dX12_open_18 : decode cX12_open 18 = .ok (.invokevirtual 166, 3) := by decide +kernel
theorem dX12_open_21 : decode cX12_open 21 = .ok (.aload_n 0, 1) := by decide +kernel
theorem dX12_open_22 : decode cX12_open 22 = .ok (.iload_n 1, 1) := by decide +kernel
theorem dX12_open_23 : decode cX12_open 23 = .ok (.iconst 5, 1) := by decide +kernel
theorem dX12_open_24 : decode cX12_open 24 = .ok (.invokevirtual 166, 3) := by decide +kernel
theorem dX12_open_27 : decode cX12_open 27 = .ok (.isub, 1) := by decide +kernel
theorem dX12_open_28 : decode cX12_open 28 = .ok (.aload_n 0, 1) := by decide +kernel
theorem dX12_open_29 : decode cX12_open 29 = .ok (.iload_n 1, 1) := by decide +kernel
theorem dX12_open_30 : decode cX12_open 30 = .ok (.bipush 6, 2) := by decide +kernel
theorem dX12_open_32 : decode cX12_open 32 = .ok (.invokevirtual 166, 3) := by decide +kernel
theorem dX12_open_35 : decode cX12_open 35 = .ok (.isub, 1) := by decide +kernel
theorem dX12_open_36 : decode cX12_open 36 = .ok (.ireturn, 1) := by decide +kernel
theorem dX12_count_0 : decode cX12_count 0 = .ok (.aload_n 0, 1) := by decide +kernel
theorem dX12_count_1 : decode cX12_count 1 = .ok (.iconst 0, 1) := by decide +kernel
theorem dX12_count_2 : decode cX12_count 2 = .ok (.putfield 3, 3) := by decide +kernel
theorem dX12_count_5 : decode cX12_count 5 = .ok (.iload_n 1, 1) := by decide +kernel
theorem dX12_count_6 : decode cX12_count 6 = .ok (.tableswitch 69 0 4 #[34, 41, 48, 55, 62], 34) := by decide +kernel
theorem dX12_count_40 : decode cX12_count 40 = .ok (.aload_n 0, 1) := by decide +kernel
theorem dX12_count_41 : decode cX12_count 41 = .ok (.getfield 81, 3) := by decide +kernel
theorem dX12_count_44 : decode cX12_count 44 = .ok (.iconst 0, 1) := by decide +kernel
theorem dX12_count_45 : decode cX12_count 45 = .ok (.iaload, 1) := by decide +kernel
theorem dX12_count_46 : decode cX12_count 46 = .ok (.ireturn, 1) := by decide +kernel
theorem dX12_count_47 : decode cX12_count 47 = .ok (.aload_n 0, 1) := by decide +kernel
theorem dX12_count_48 : decode cX12_count 48 = .ok (.getfield 81, 3) := by decide +kernel
theorem dX12_count_51 : decode cX12_count 51 = .ok (.iconst 1, 1) := by decide +kernel
theorem dX12_count_52 : decode cX12_count 52 = .ok (.iaload, 1) := by decide +kernel
theorem dX12_count_53 : decode cX12_count 53 = .ok (.ireturn, 1) := by decide +kernel
theorem dX12_count_54 : decode cX12_count 54 = .ok (.aload_n 0, 1) := by decide +kernel
theorem dX12_count_55 : decode cX12_count 55 = .ok (.getfield 87, 3) := by decide +kernel
theorem dX12_count_58 : decode cX12_count 58 = .ok (.iconst 1, 1) := by decide +kernel
theorem dX12_count_59 : decode cX12_count 59 = .ok (.iaload, 1) := by decide +kernel
theorem dX12_count_60 : decode cX12_count 60 = .ok (.ireturn, 1) := by decide +kernel
theorem dX12_count_61 : decode cX12_count 61 = .ok (.aload_n 0, 1) := by decide +kernel
theorem dX12_count_62 : decode cX12_count 62 = .ok (.getfield 81, 3) := by decide +kernel
theorem dX12_count_65 : decode cX12_count 65 = .ok (.iconst 2, 1) := by decide +kernel
theorem dX12_count_66 : decode cX12_count 66 = .ok (.iaload, 1) := by decide +kernel
theorem dX12_count_67 : decode cX12_count 67 = .ok (.ireturn, 1) := by decide +kernel
theorem dX12_count_68 : decode cX12_count 68 = .ok (.aload_n 0, 1) := by decide +kernel
theorem dX12_count_69 : decode cX12_count 69 = .ok (.getfield 87, 3) := by decide +kernel
theorem dX12_count_72 : decode cX12_count 72 = .ok (.iconst 2, 1) := by decide +kernel
theorem dX12_count_73 : decode cX12_count 73 = .ok (.iaload, 1) := by decide +kernel
theorem dX12_count_74 : decode cX12_count 74 = .ok (.ireturn, 1) := by decide +kernel
theorem dX12_count_75 : decode cX12_count 75 = .ok (.iconst (-1), 1) := by decide +kernel
theorem dX12_count_76 : decode cX12_count 76 = .ok (.ireturn, 1) := by decide +kernel
theorem dX12_lineCount_0 : decode cX12_lineCount 0 = .ok (.aload_n 0, 1) := by decide +kernel
theorem dX12_lineCount_1 : decode cX12_lineCount 1 = .ok (.iconst 0, 1) := by decide +kernel
theorem dX12_lineCount_2 : decode cX12_lineCount 2 = .ok (.putfield 3, 3) := by decide +kernel
theorem dX12_lineCount_5 : decode cX12_lineCount 5 = .ok (.aload_n 0, 1) := by decide +kernel
theorem dX12_lineCount_6 : decode cX12_lineCount 6 = .ok (.iload_n 1, 1) := by decide +kernel
theorem dX12_lineCount_7 : decode cX12_lineCount 7 = .ok (.invokevirtual 169, 3) := by decide +kernel
theorem dX12_lineCount_10 : decode cX12_lineCount 10 = .ok (.ifCond .eq 7, 3) := by decide +kernel
theorem dX12_lineCount_13 : decode cX12_lineCount 13 = .ok (.iconst 0, 1) := by decide +kernel
theorem dX12_lineCount_14 : decode cX12_lineCount 14 = .ok (.goto 13, 3) := by decide +kernel
theorem dX12_lineCount_17 : decode cX12_lineCount 17 = .ok (.aload_n 0, 1) := by decide +kernel
theorem dX12_lineCount_18 : decode cX12_lineCount 18 = .ok (.getfield 81, 3) := by decide +kernel
theorem dX12_lineCount_21 : decode cX12_lineCount 21 = .ok (.sipush 188, 3) := by decide +kernel
theorem dX12_lineCount_24 : decode cX12_lineCount 24 = .ok (.iload_n 1, 1) := by decide +kernel
theorem dX12_lineCount_25 : decode cX12_lineCount 25 = .ok (.iadd, 1) := by decide +kernel
theorem dX12_lineCount_26 : decode cX12_lineCount 26 = .ok (.iaload, 1) := by decide +kernel
theorem dX12_lineCount_27 : decode cX12_lineCount 27 = .ok (.ireturn, 1) := by decide +kernel
theorem dX12_lineItem_0 : decode cX12_lineItem 0 = .ok (.aload_n 0, 1) := by decide +kernel
theorem dX12_lineItem_1 : decode cX12_lineItem 1 = .ok (.iconst 0, 1) := by decide +kernel
theorem dX12_lineItem_2 : decode cX12_lineItem 2 = .ok (.putfield 3, 3) := by decide +kernel
theorem dX12_lineItem_5 : decode cX12_lineItem 5 = .ok (.aload_n 0, 1) := by decide +kernel
theorem dX12_lineItem_6 : decode cX12_lineItem 6 = .ok (.iload_n 1, 1) := by decide +kernel
theorem dX12_lineItem_7 : decode cX12_lineItem 7 = .ok (.invokevirtual 169, 3) := by decide +kernel
theorem dX12_lineItem_10 : decode cX12_lineItem 10 = .ok (.ifCond .eq 5, 3) := by decide +kernel
theorem dX12_lineItem_13 : decode cX12_lineItem 13 = .ok (.iconst 0, 1) := by decide +kernel
theorem dX12_lineItem_14 : decode cX12_lineItem 14 = .ok (.ireturn, 1) := by decide +kernel
theorem dX12_lineItem_15 : decode cX12_lineItem 15 = .ok (.iload_n 2, 1) := by decide +kernel
theorem dX12_lineItem_16 : decode cX12_lineItem 16 = .ok (.iconst 0, 1) := by decide +kernel
theorem dX12_lineItem_17 : decode cX12_lineItem 17 = .ok (.aload_n 0, 1) := by decide +kernel
theorem dX12_lineItem_18 : decode cX12_lineItem 18 = .ok (.getfield 81, 3) := by decide +kernel
theorem dX12_lineItem_21 : decode cX12_lineItem 21 = .ok (.sipush 188, 3) := by decide +kernel
theorem dX12_lineItem_24 : decode cX12_lineItem 24 = .ok (.iload_n 1, 1) := by decide +kernel
theorem dX12_lineItem_25 : decode cX12_lineItem 25 = .ok (.iadd, 1) := by decide +kernel
theorem dX12_lineItem_26 : decode cX12_lineItem 26 = .ok (.iaload, 1) := by decide +kernel
theorem dX12_lineItem_27 : decode cX12_lineItem 27 = .ok (.iconst 1, 1) := by decide +kernel
theorem dX12_lineItem_28 : decode cX12_lineItem 28 = .ok (.isub, 1) := by decide +kernel
theorem dX12_lineItem_29 : decode cX12_lineItem 29 = .ok (.invokestatic 72, 3) := by decide +kernel
theorem dX12_lineItem_32 : decode cX12_lineItem 32 = .ok (.ifCond .ne 5, 3) := by decide +kernel
theorem dX12_lineItem_35 : decode cX12_lineItem 35 = .ok (.iconst (-1), 1) := by decide +kernel
theorem dX12_lineItem_36 : decode cX12_lineItem 36 = .ok (.ireturn, 1) := by decide +kernel
theorem dX12_lineItem_37 : decode cX12_lineItem 37 = .ok (.aload_n 0, 1) := by decide +kernel
theorem dX12_lineItem_38 : decode cX12_lineItem 38 = .ok (.getfield 81, 3) := by decide +kernel
theorem dX12_lineItem_41 : decode cX12_lineItem 41 = .ok (.sipush 196, 3) := by decide +kernel
theorem dX12_lineItem_44 : decode cX12_lineItem 44 = .ok (.bipush 6, 2) := by decide +kernel
theorem dX12_lineItem_46 : decode cX12_lineItem 46 = .ok (.iload_n 1, 1) := by decide +kernel
theorem dX12_lineItem_47 : decode cX12_lineItem 47 = .ok (.imul, 1) := by decide +kernel
theorem dX12_lineItem_48 : decode cX12_lineItem 48 = .ok (.iadd, 1) := by decide +kernel
theorem dX12_lineItem_49 : decode cX12_lineItem 49 = .ok (.iload_n 2, 1) := by decide +kernel
theorem dX12_lineItem_50 : decode cX12_lineItem 50 = .ok (.iadd, 1) := by decide +kernel
theorem dX12_lineItem_51 : decode cX12_lineItem 51 = .ok (.iaload, 1) := by decide +kernel
theorem dX12_lineItem_52 : decode cX12_lineItem 52 = .ok (.istore_n 3, 1) := by decide +kernel
theorem dX12_lineItem_53 : decode cX12_lineItem 53 = .ok (.iload_n 3, 1) := by decide +kernel
theorem dX12_lineItem_54 : decode cX12_lineItem 54 = .ok (.bipush 12, 2) := by decide +kernel
theorem dX12_lineItem_56 : decode cX12_lineItem 56 = .ok (.if_icmp .ge 7, 3) := by decide +kernel
theorem dX12_lineItem_59 : decode cX12_lineItem 59 = .ok (.iload_n 3, 1) := by decide +kernel
theorem dX12_lineItem_60 : decode cX12_lineItem 60 = .ok (.goto 10, 3) := by decide +kernel
theorem dX12_lineItem_63 : decode cX12_lineItem 63 = .ok (.bipush 100, 2) := by decide +kernel
theorem dX12_lineItem_65 : decode cX12_lineItem 65 = .ok (.iload_n 3, 1) := by decide +kernel
theorem dX12_lineItem_66 : decode cX12_lineItem 66 = .ok (.iadd, 1) := by decide +kernel
theorem dX12_lineItem_67 : decode cX12_lineItem 67 = .ok (.bipush 12, 2) := by decide +kernel
theorem dX12_lineItem_69 : decode cX12_lineItem 69 = .ok (.isub, 1) := by decide +kernel
theorem dX12_lineItem_70 : decode cX12_lineItem 70 = .ok (.ireturn, 1) := by decide +kernel
theorem dX12_lineQuantity_0 : decode cX12_lineQuantity 0 = .ok (.aload_n 0, 1) := by decide +kernel
theorem dX12_lineQuantity_1 : decode cX12_lineQuantity 1 = .ok (.iconst 0, 1) := by decide +kernel
theorem dX12_lineQuantity_2 : decode cX12_lineQuantity 2 = .ok (.putfield 3, 3) := by decide +kernel
theorem dX12_lineQuantity_5 : decode cX12_lineQuantity 5 = .ok (.aload_n 0, 1) := by decide +kernel
theorem dX12_lineQuantity_6 : decode cX12_lineQuantity 6 = .ok (.iload_n 1, 1) := by decide +kernel
theorem dX12_lineQuantity_7 : decode cX12_lineQuantity 7 = .ok (.invokevirtual 169, 3) := by decide +kernel
theorem dX12_lineQuantity_10 : decode cX12_lineQuantity 10 = .ok (.ifCond .eq 5, 3) := by decide +kernel
theorem dX12_lineQuantity_13 : decode cX12_lineQuantity 13 = .ok (.iconst 0, 1) := by decide +kernel
theorem dX12_lineQuantity_14 : decode cX12_lineQuantity 14 = .ok (.ireturn, 1) := by decide +kernel
theorem dX12_lineQuantity_15 : decode cX12_lineQuantity 15 = .ok (.iload_n 2, 1) := by decide +kernel
theorem dX12_lineQuantity_16 : decode cX12_lineQuantity 16 = .ok (.iconst 0, 1) := by decide +kernel
theorem dX12_lineQuantity_17 : decode cX12_lineQuantity 17 = .ok (.aload_n 0, 1) := by decide +kernel
theorem dX12_lineQuantity_18 : decode cX12_lineQuantity 18 = .ok (.getfield 81, 3) := by decide +kernel
theorem dX12_lineQuantity_21 : decode cX12_lineQuantity 21 = .ok (.sipush 188, 3) := by decide +kernel
theorem dX12_lineQuantity_24 : decode cX12_lineQuantity 24 = .ok (.iload_n 1, 1) := by decide +kernel
theorem dX12_lineQuantity_25 : decode cX12_lineQuantity 25 = .ok (.iadd, 1) := by decide +kernel
theorem dX12_lineQuantity_26 : decode cX12_lineQuantity 26 = .ok (.iaload, 1) := by decide +kernel
theorem dX12_lineQuantity_27 : decode cX12_lineQuantity 27 = .ok (.iconst 1, 1) := by decide +kernel
theorem dX12_lineQuantity_28 : decode cX12_lineQuantity 28 = .ok (.isub, 1) := by decide +kernel
theorem dX12_lineQuantity_29 : decode cX12_lineQuantity 29 = .ok (.invokestatic 72, 3) := by decide +kernel
theorem dX12_lineQuantity_32 : decode cX12_lineQuantity 32 = .ok (.ifCond .eq 21, 3) := by decide +kernel
theorem dX12_lineQuantity_35 : decode cX12_lineQuantity 35 = .ok (.aload_n 0, 1) := by decide +kernel
theorem dX12_lineQuantity_36 : decode cX12_lineQuantity 36 = .ok (.getfield 81, 3) := by decide +kernel
theorem dX12_lineQuantity_39 : decode cX12_lineQuantity 39 = .ok (.sipush 244, 3) := by decide +kernel
theorem dX12_lineQuantity_42 : decode cX12_lineQuantity 42 = .ok (.bipush 6, 2) := by decide +kernel
theorem dX12_lineQuantity_44 : decode cX12_lineQuantity 44 = .ok (.iload_n 1, 1) := by decide +kernel
theorem dX12_lineQuantity_45 : decode cX12_lineQuantity 45 = .ok (.imul, 1) := by decide +kernel
theorem dX12_lineQuantity_46 : decode cX12_lineQuantity 46 = .ok (.iadd, 1) := by decide +kernel
theorem dX12_lineQuantity_47 : decode cX12_lineQuantity 47 = .ok (.iload_n 2, 1) := by decide +kernel
theorem dX12_lineQuantity_48 : decode cX12_lineQuantity 48 = .ok (.iadd, 1) := by decide +kernel
theorem dX12_lineQuantity_49 : decode cX12_lineQuantity 49 = .ok (.iaload, 1) := by decide +kernel
theorem dX12_lineQuantity_50 : decode cX12_lineQuantity 50 = .ok (.goto 4, 3) := by decide +kernel
theorem dX12_lineQuantity_53 : decode cX12_lineQuantity 53 = .ok (.iconst (-1), 1) := by decide +kernel
theorem dX12_lineQuantity_54 : decode cX12_lineQuantity 54 = .ok (.ireturn, 1) := by decide +kernel
theorem dX12_need_0 : decode cX12_need 0 = .ok (.aload_n 0, 1) := by decide +kernel
theorem dX12_need_1 : decode cX12_need 1 = .ok (.iconst 0, 1) := by decide +kernel
theorem dX12_need_2 : decode cX12_need 2 = .ok (.putfield 3, 3) := by decide +kernel
theorem dX12_need_5 : decode cX12_need 5 = .ok (.aload_n 0, 1) := by decide +kernel
theorem dX12_need_6 : decode cX12_need 6 = .ok (.iload_n 1, 1) := by decide +kernel
theorem dX12_need_7 : decode cX12_need 7 = .ok (.invokevirtual 169, 3) := by decide +kernel
theorem dX12_need_10 : decode cX12_need 10 = .ok (.ifCond .ne 11, 3) := by decide +kernel
theorem dX12_need_13 : decode cX12_need 13 = .ok (.aload_n 0, 1) := by decide +kernel
theorem dX12_need_14 : decode cX12_need 14 = .ok (.iload_n 2, 1) := by decide +kernel
theorem dX12_need_15 : decode cX12_need 15 = .ok (.invokevirtual 173, 3) := by decide +kernel
theorem dX12_need_18 : decode cX12_need 18 = .ok (.ifCond .eq 7, 3) := by decide +kernel
theorem dX12_need_21 : decode cX12_need 21 = .ok (.iconst 0, 1) := by decide +kernel
theorem dX12_need_22 : decode cX12_need 22 = .ok (.goto 9, 3) := by decide +kernel
theorem dX12_need_25 : decode cX12_need 25 = .ok (.aload_n 0, 1) := by decide +kernel
theorem dX12_need_26 : decode cX12_need 26 = .ok (.iload_n 1, 1) := by decide +kernel
theorem dX12_need_27 : decode cX12_need 27 = .ok (.iload_n 2, 1) := by decide +kernel
theorem dX12_need_28 : decode cX12_need 28 = .ok (.invokevirtual 176, 3) := by decide +kernel
theorem dX12_need_31 : decode cX12_need 31 = .ok (.ireturn, 1) := by decide +kernel
theorem dX12_levelOf_0 : decode cX12_levelOf 0 = .ok (.iconst 1, 1) := by decide +kernel
theorem dX12_levelOf_1 : decode cX12_levelOf 1 = .ok (.istore_n 2, 1) := by decide +kernel
theorem dX12_levelOf_2 : decode cX12_levelOf 2 = .ok (.iconst 0, 1) := by decide +kernel
theorem dX12_levelOf_3 : decode cX12_levelOf 3 = .ok (.istore_n 3, 1) := by decide +kernel
theorem dX12_levelOf_4 : decode cX12_levelOf 4 = .ok (.iload_n 3, 1) := by decide +kernel
theorem dX12_levelOf_5 : decode cX12_levelOf 5 = .ok (.aload_n 0, 1) := by decide +kernel
theorem dX12_levelOf_6 : decode cX12_levelOf 6 = .ok (.getfield 81, 3) := by decide +kernel
theorem dX12_levelOf_9 : decode cX12_levelOf 9 = .ok (.sipush 188, 3) := by decide +kernel
theorem dX12_levelOf_12 : decode cX12_levelOf 12 = .ok (.iload_n 1, 1) := by decide +kernel
theorem dX12_levelOf_13 : decode cX12_levelOf 13 = .ok (.iadd, 1) := by decide +kernel
theorem dX12_levelOf_14 : decode cX12_levelOf 14 = .ok (.iaload, 1) := by decide +kernel
theorem dX12_levelOf_15 : decode cX12_levelOf 15 = .ok (.if_icmp .ge 49, 3) := by decide +kernel
theorem dX12_levelOf_18 : decode cX12_levelOf 18 = .ok (.aload_n 0, 1) := by decide +kernel
theorem dX12_levelOf_19 : decode cX12_levelOf 19 = .ok (.getfield 81, 3) := by decide +kernel
theorem dX12_levelOf_22 : decode cX12_levelOf 22 = .ok (.sipush 196, 3) := by decide +kernel
theorem dX12_levelOf_25 : decode cX12_levelOf 25 = .ok (.bipush 6, 2) := by decide +kernel
theorem dX12_levelOf_27 : decode cX12_levelOf 27 = .ok (.iload_n 1, 1) := by decide +kernel
theorem dX12_levelOf_28 : decode cX12_levelOf 28 = .ok (.imul, 1) := by decide +kernel
theorem dX12_levelOf_29 : decode cX12_levelOf 29 = .ok (.iadd, 1) := by decide +kernel
theorem dX12_levelOf_30 : decode cX12_levelOf 30 = .ok (.iload_n 3, 1) := by decide +kernel
theorem dX12_levelOf_31 : decode cX12_levelOf 31 = .ok (.iadd, 1) := by decide +kernel
theorem dX12_levelOf_32 : decode cX12_levelOf 32 = .ok (.iaload, 1) := by decide +kernel
theorem dX12_levelOf_33 : decode cX12_levelOf 33 = .ok (.istore 4, 2) := by decide +kernel
theorem dX12_levelOf_35 : decode cX12_levelOf 35 = .ok (.iload 4, 2) := by decide +kernel
theorem dX12_levelOf_37 : decode cX12_levelOf 37 = .ok (.bipush 12, 2) := by decide +kernel
theorem dX12_levelOf_39 : decode cX12_levelOf 39 = .ok (.if_icmp .lt 19, 3) := by decide +kernel
theorem dX12_levelOf_42 : decode cX12_levelOf 42 = .ok (.iload_n 2, 1) := by decide +kernel
theorem dX12_levelOf_43 : decode cX12_levelOf 43 = .ok (.iconst 1, 1) := by decide +kernel
theorem dX12_levelOf_44 : decode cX12_levelOf 44 = .ok (.aload_n 0, 1) := by decide +kernel
theorem dX12_levelOf_45 : decode cX12_levelOf 45 = .ok (.iload 4, 2) := by decide +kernel
theorem dX12_levelOf_47 : decode cX12_levelOf 47 = .ok (.bipush 12, 2) := by decide +kernel
theorem dX12_levelOf_49 : decode cX12_levelOf 49 = .ok (.isub, 1) := by decide +kernel
theorem dX12_levelOf_50 : decode cX12_levelOf 50 = .ok (.invokevirtual 179, 3) := by decide +kernel
theorem dX12_levelOf_53 : decode cX12_levelOf 53 = .ok (.iadd, 1) := by decide +kernel
theorem dX12_levelOf_54 : decode cX12_levelOf 54 = .ok (.invokestatic 183, 3) := by decide +kernel
theorem dX12_levelOf_57 : decode cX12_levelOf 57 = .ok (.istore_n 2, 1) := by decide +kernel
theorem dX12_levelOf_58 : decode cX12_levelOf 58 = .ok (.iinc 3 1, 3) := by decide +kernel
theorem dX12_levelOf_61 : decode cX12_levelOf 61 = .ok (.goto (-57), 3) := by decide +kernel
theorem dX12_levelOf_64 : decode cX12_levelOf 64 = .ok (.iload_n 2, 1) := by decide +kernel
theorem dX12_levelOf_65 : decode cX12_levelOf 65 = .ok (.ireturn, 1) := by decide +kernel
theorem dX12_level_0 : decode cX12_level 0 = .ok (.aload_n 0, 1) := by decide +kernel
theorem dX12_level_1 : decode cX12_level 1 = .ok (.iconst 0, 1) := by decide +kernel
theorem dX12_level_2 : decode cX12_level 2 = .ok (.putfield 3, 3) := by decide +kernel
theorem dX12_level_5 : decode cX12_level 5 = .ok (.aload_n 0, 1) := by decide +kernel
theorem dX12_level_6 : decode cX12_level 6 = .ok (.iload_n 1, 1) := by decide +kernel
theorem dX12_level_7 : decode cX12_level 7 = .ok (.invokevirtual 169, 3) := by decide +kernel
theorem dX12_level_10 : decode cX12_level 10 = .ok (.ifCond .eq 7, 3) := by decide +kernel
theorem dX12_level_13 : decode cX12_level 13 = .ok (.iconst 0, 1) := by decide +kernel
theorem dX12_level_14 : decode cX12_level 14 = .ok (.goto 8, 3) := by decide +kernel
theorem dX12_level_17 : decode cX12_level 17 = .ok (.aload_n 0, 1) := by decide +kernel
theorem dX12_level_18 : decode cX12_level 18 = .ok (.iload_n 1, 1) := by decide +kernel
theorem dX12_level_19 : decode cX12_level 19 = .ok (.invokevirtual 179, 3) := by decide +kernel
theorem dX12_level_22 : decode cX12_level 22 = .ok (.ireturn, 1) := by decide +kernel
theorem dX12_pieces_0 : decode cX12_pieces 0 = .ok (.aload_n 0, 1) := by decide +kernel
theorem dX12_pieces_1 : decode cX12_pieces 1 = .ok (.iconst 0, 1) := by decide +kernel
theorem dX12_pieces_2 : decode cX12_pieces 2 = .ok (.putfield 3, 3) := by decide +kernel
theorem dX12_pieces_5 : decode cX12_pieces 5 = .ok (.aload_n 0, 1) := by decide +kernel
theorem dX12_pieces_6 : decode cX12_pieces 6 = .ok (.iload_n 1, 1) := by decide +kernel
theorem dX12_pieces_7 : decode cX12_pieces 7 = .ok (.invokevirtual 169, 3) := by decide +kernel
theorem dX12_pieces_10 : decode cX12_pieces 10 = .ok (.ifCond .eq 5, 3) := by decide +kernel
theorem dX12_pieces_13 : decode cX12_pieces 13 = .ok (.iconst 0, 1) := by decide +kernel
theorem dX12_pieces_14 : decode cX12_pieces 14 = .ok (.ireturn, 1) := by decide +kernel
theorem dX12_pieces_15 : decode cX12_pieces 15 = .ok (.iconst 0, 1) := by decide +kernel
theorem dX12_pieces_16 : decode cX12_pieces 16 = .ok (.istore_n 2, 1) := by decide +kernel
theorem dX12_pieces_17 : decode cX12_pieces 17 = .ok (.iconst 0, 1) := by decide +kernel
theorem dX12_pieces_18 : decode cX12_pieces 18 = .ok (.istore_n 3, 1) := by decide +kernel
theorem dX12_pieces_19 : decode cX12_pieces 19 = .ok (.iload_n 3, 1) := by decide +kernel
theorem dX12_pieces_20 : decode cX12_pieces 20 = .ok (.aload_n 0, 1) := by decide +kernel
theorem dX12_pieces_21 : decode cX12_pieces 21 = .ok (.getfield 81, 3) := by decide +kernel
theorem dX12_pieces_24 : decode cX12_pieces 24 = .ok (.iconst 0, 1) := by decide +kernel
theorem dX12_pieces_25 : decode cX12_pieces 25 = .ok (.iaload, 1) := by decide +kernel
theorem dX12_pieces_26 : decode cX12_pieces 26 = .ok (.if_icmp .ge 18, 3) := by decide +kernel
theorem dX12_pieces_29 : decode cX12_pieces 29 = .ok (.iload_n 2, 1) := by decide +kernel
theorem dX12_pieces_30 : decode cX12_pieces 30 = .ok (.aload_n 0, 1) := by decide +kernel
theorem dX12_pieces_31 : decode cX12_pieces 31 = .ok (.iload_n 1, 1) := by decide +kernel
theorem dX12_pieces_32 : decode cX12_pieces 32 = .ok (.iload_n 3, 1) := by decide +kernel
theorem dX12_pieces_33 : decode cX12_pieces 33 = .ok (.invokevirtual 176, 3) := by decide +kernel
theorem dX12_pieces_36 : decode cX12_pieces 36 = .ok (.iadd, 1) := by decide +kernel
theorem dX12_pieces_37 : decode cX12_pieces 37 = .ok (.istore_n 2, 1) := by decide +kernel
theorem dX12_pieces_38 : decode cX12_pieces 38 = .ok (.iinc 3 1, 3) := by decide +kernel
theorem dX12_pieces_41 : decode cX12_pieces 41 = .ok (.goto (-22), 3) := by decide +kernel
theorem dX12_pieces_44 : decode cX12_pieces 44 = .ok (.iload_n 2, 1) := by decide +kernel
theorem dX12_pieces_45 : decode cX12_pieces 45 = .ok (.ireturn, 1) := by decide +kernel
theorem dX12_usedBy_0 : decode cX12_usedBy 0 = .ok (.aload_n 0, 1) := by decide +kernel
theorem dX12_usedBy_1 : decode cX12_usedBy 1 = .ok (.iconst 0, 1) := by decide +kernel
theorem dX12_usedBy_2 : decode cX12_usedBy 2 = .ok (.putfield 3, 3) := by decide +kernel
theorem dX12_usedBy_5 : decode cX12_usedBy 5 = .ok (.aload_n 0, 1) := by decide +kernel
theorem dX12_usedBy_6 : decode cX12_usedBy 6 = .ok (.iload_n 1, 1) := by decide +kernel
theorem dX12_usedBy_7 : decode cX12_usedBy 7 = .ok (.invokevirtual 173, 3) := by decide +kernel
theorem dX12_usedBy_10 : decode cX12_usedBy 10 = .ok (.ifCond .eq 5, 3) := by decide +kernel
theorem dX12_usedBy_13 : decode cX12_usedBy 13 = .ok (.iconst 0, 1) := by decide +kernel
theorem dX12_usedBy_14 : decode cX12_usedBy 14 = .ok (.ireturn, 1) := by decide +kernel
theorem dX12_usedBy_15 : decode cX12_usedBy 15 = .ok (.iconst 0, 1) := by decide +kernel
theorem dX12_usedBy_16 : decode cX12_usedBy 16 = .ok (.istore_n 2, 1) := by decide +kernel
theorem dX12_usedBy_17 : decode cX12_usedBy 17 = .ok (.iconst 0, 1) := by decide +kernel
theorem dX12_usedBy_18 : decode cX12_usedBy 18 = .ok (.istore_n 3, 1) := by decide +kernel
theorem dX12_usedBy_19 : decode cX12_usedBy 19 = .ok (.iload_n 3, 1) := by decide +kernel
theorem dX12_usedBy_20 : decode cX12_usedBy 20 = .ok (.aload_n 0, 1) := by decide +kernel
theorem dX12_usedBy_21 : decode cX12_usedBy 21 = .ok (.getfield 81, 3) := by decide +kernel
theorem dX12_usedBy_24 : decode cX12_usedBy 24 = .ok (.iconst 1, 1) := by decide +kernel
theorem dX12_usedBy_25 : decode cX12_usedBy 25 = .ok (.iaload, 1) := by decide +kernel
theorem dX12_usedBy_26 : decode cX12_usedBy 26 = .ok (.if_icmp .ge 28, 3) := by decide +kernel
theorem dX12_usedBy_29 : decode cX12_usedBy 29 = .ok (.iload_n 2, 1) := by decide +kernel
theorem dX12_usedBy_30 : decode cX12_usedBy 30 = .ok (.aload_n 0, 1) := by decide +kernel
theorem dX12_usedBy_31 : decode cX12_usedBy 31 = .ok (.iload_n 3, 1) := by decide +kernel
theorem dX12_usedBy_32 : decode cX12_usedBy 32 = .ok (.iload_n 1, 1) := by decide +kernel
theorem dX12_usedBy_33 : decode cX12_usedBy 33 = .ok (.invokevirtual 176, 3) := by decide +kernel
theorem dX12_usedBy_36 : decode cX12_usedBy 36 = .ok (.ifCond .le 9, 3) := by decide +kernel
theorem dX12_usedBy_39 : decode cX12_usedBy 39 = .ok (.iconst 1, 1) := by decide +kernel
theorem dX12_usedBy_40 : decode cX12_usedBy 40 = .ok (.iload_n 3, 1) := by decide +kernel
theorem dX12_usedBy_41 : decode cX12_usedBy 41 = .ok (.ishl, 1) := by decide +kernel
theorem dX12_usedBy_42 : decode cX12_usedBy 42 = .ok (.goto 4, 3) := by decide +kernel
theorem dX12_usedBy_45 : decode cX12_usedBy 45 = .ok (.iconst 0, 1) := by decide +kernel
theorem dX12_usedBy_46 : decode cX12_usedBy 46 = .ok (.ior, 1) := by decide +kernel
theorem dX12_usedBy_47 : decode cX12_usedBy 47 = .ok (.istore_n 2, 1) := by decide +kernel
theorem dX12_usedBy_48 : decode cX12_usedBy 48 = .ok (.iinc 3 1, 3) := by decide +kernel
theorem dX12_usedBy_51 : decode cX12_usedBy 51 = .ok (.goto (-32), 3) := by decide +kernel
theorem dX12_usedBy_54 : decode cX12_usedBy 54 = .ok (.iload_n 2, 1) := by decide +kernel
theorem dX12_usedBy_55 : decode cX12_usedBy 55 = .ok (.ireturn, 1) := by decide +kernel
theorem dX12_commonParts_0 : decode cX12_commonParts 0 = .ok (.aload_n 0, 1) := by decide +kernel
theorem dX12_commonParts_1 : decode cX12_commonParts 1 = .ok (.iconst 0, 1) := by decide +kernel
theorem dX12_commonParts_2 : decode cX12_commonParts 2 = .ok (.putfield 3, 3) := by decide +kernel
theorem dX12_commonParts_5 : decode cX12_commonParts 5 = .ok (.aload_n 0, 1) := by decide +kernel
theorem dX12_commonParts_6 : decode cX12_commonParts 6 = .ok (.iload_n 1, 1) := by decide +kernel
theorem dX12_commonParts_7 : decode cX12_commonParts 7 = .ok (.invokevirtual 169, 3) := by decide +kernel
theorem dX12_commonParts_10 : decode cX12_commonParts 10 = .ok (.ifCond .ne 11, 3) := by decide +kernel
theorem dX12_commonParts_13 : decode cX12_commonParts 13 = .ok (.aload_n 0, 1) := by decide +kernel
theorem dX12_commonParts_14 : decode cX12_commonParts 14 = .ok (.iload_n 2, 1) := by decide +kernel
theorem dX12_commonParts_15 : decode cX12_commonParts 15 = .ok (.invokevirtual 169, 3) := by decide +kernel
theorem dX12_commonParts_18 : decode cX12_commonParts 18 = .ok (.ifCond .eq 5, 3) := by decide +kernel
theorem dX12_commonParts_21 : decode cX12_commonParts 21 = .ok (.iconst 0, 1) := by decide +kernel
theorem dX12_commonParts_22 : decode cX12_commonParts 22 = .ok (.ireturn, 1) := by decide +kernel
theorem dX12_commonParts_23 : decode cX12_commonParts 23 = .ok (.iconst 0, 1) := by decide +kernel
theorem dX12_commonParts_24 : decode cX12_commonParts 24 = .ok (.istore_n 3, 1) := by decide +kernel
theorem dX12_commonParts_25 : decode cX12_commonParts 25 = .ok (.iconst 0, 1) := by decide +kernel
theorem dX12_commonParts_26 : decode cX12_commonParts 26 = .ok (.istore 4, 2) := by decide +kernel
theorem dX12_commonParts_28 : decode cX12_commonParts 28 = .ok (.iload 4, 2) := by decide +kernel
theorem dX12_commonParts_30 : decode cX12_commonParts 30 = .ok (.aload_n 0, 1) := by decide +kernel
theorem dX12_commonParts_31 : decode cX12_commonParts 31 = .ok (.getfield 81, 3) := by decide +kernel
theorem dX12_commonParts_34 : decode cX12_commonParts 34 = .ok (.iconst 0, 1) := by decide +kernel
theorem dX12_commonParts_35 : decode cX12_commonParts 35 = .ok (.iaload, 1) := by decide +kernel
theorem dX12_commonParts_36 : decode cX12_commonParts 36 = .ok (.if_icmp .ge 40, 3) := by decide +kernel
theorem dX12_commonParts_39 : decode cX12_commonParts 39 = .ok (.iload_n 3, 1) := by decide +kernel
theorem dX12_commonParts_40 : decode cX12_commonParts 40 = .ok (.aload_n 0, 1) := by decide +kernel
theorem dX12_commonParts_41 : decode cX12_commonParts 41 = .ok (.iload_n 1, 1) := by decide +kernel
theorem dX12_commonParts_42 : decode cX12_commonParts 42 = .ok (.iload 4, 2) := by decide +kernel
theorem dX12_commonParts_44 : decode cX12_commonParts 44 = .ok (.invokevirtual 176, 3) := by decide +kernel
theorem dX12_commonParts_47 : decode cX12_commonParts 47 = .ok (.ifCond .le 20, 3) := by decide +kernel
theorem dX12_commonParts_50 : decode cX12_commonParts 50 = .ok (.aload_n 0, 1) := by decide +kernel
theorem dX12_commonParts_51 : decode cX12_commonParts 51 = .ok (.iload_n 2, 1) := by decide +kernel
theorem dX12_commonParts_52 : decode cX12_commonParts 52 = .ok (.iload 4, 2) := by decide +kernel
theorem dX12_commonParts_54 : decode cX12_commonParts 54 = .ok (.invokevirtual 176, 3) := by decide +kernel
theorem dX12_commonParts_57 : decode cX12_commonParts 57 = .ok (.ifCond .le 10, 3) := by decide +kernel
theorem dX12_commonParts_60 : decode cX12_commonParts 60 = .ok (.iconst 1, 1) := by decide +kernel
theorem dX12_commonParts_61 : decode cX12_commonParts 61 = .ok (.iload 4, 2) := by decide +kernel
theorem dX12_commonParts_63 : decode cX12_commonParts 63 = .ok (.ishl, 1) := by decide +kernel
theorem dX12_commonParts_64 : decode cX12_commonParts 64 = .ok (.goto 4, 3) := by decide +kernel
theorem dX12_commonParts_67 : decode cX12_commonParts 67 = .ok (.iconst 0, 1) := by decide +kernel
theorem dX12_commonParts_68 : decode cX12_commonParts 68 = .ok (.ior, 1) := by decide +kernel
theorem dX12_commonParts_69 : decode cX12_commonParts 69 = .ok (.istore_n 3, 1) := by decide +kernel
theorem dX12_commonParts_70 : decode cX12_commonParts 70 = .ok (.iinc 4 1, 3) := by decide +kernel
theorem dX12_commonParts_73 : decode cX12_commonParts 73 = .ok (.goto (-45), 3) := by decide +kernel
theorem dX12_commonParts_76 : decode cX12_commonParts 76 = .ok (.iload_n 3, 1) := by decide +kernel
theorem dX12_commonParts_77 : decode cX12_commonParts 77 = .ok (.ireturn, 1) := by decide +kernel
theorem dX12_day_0 : decode cX12_day 0 = .ok (.aload_n 0, 1) := by decide +kernel
theorem dX12_day_1 : decode cX12_day 1 = .ok (.iconst 0, 1) := by decide +kernel
theorem dX12_day_2 : decode cX12_day 2 = .ok (.putfield 3, 3) := by decide +kernel
theorem dX12_day_5 : decode cX12_day 5 = .ok (.aload_n 0, 1) := by decide +kernel
theorem dX12_day_6 : decode cX12_day 6 = .ok (.getfield 87, 3) := by decide +kernel
theorem dX12_day_9 : decode cX12_day 9 = .ok (.iconst 0, 1) := by decide +kernel
theorem dX12_day_10 : decode cX12_day 10 = .ok (.iaload, 1) := by decide +kernel
theorem dX12_day_11 : decode cX12_day 11 = .ok (.ireturn, 1) := by decide +kernel
theorem dX12_stock_0 : decode cX12_stock 0 = .ok (.aload_n 0, 1) := by decide +kernel
theorem dX12_stock_1 : decode cX12_stock 1 = .ok (.iconst 0, 1) := by decide +kernel
theorem dX12_stock_2 : decode cX12_stock 2 = .ok (.putfield 3, 3) := by decide +kernel
theorem dX12_stock_5 : decode cX12_stock 5 = .ok (.aload_n 0, 1) := by decide +kernel
theorem dX12_stock_6 : decode cX12_stock 6 = .ok (.iload_n 1, 1) := by decide +kernel
theorem dX12_stock_7 : decode cX12_stock 7 = .ok (.invokevirtual 173, 3) := by decide +kernel
theorem dX12_stock_10 : decode cX12_stock 10 = .ok (.ifCond .eq 7, 3) := by decide +kernel
theorem dX12_stock_13 : decode cX12_stock 13 = .ok (.iconst 0, 1) := by decide +kernel
theorem dX12_stock_14 : decode cX12_stock 14 = .ok (.goto 12, 3) := by decide +kernel
theorem dX12_stock_17 : decode cX12_stock 17 = .ok (.aload_n 0, 1) := by decide +kernel
theorem dX12_stock_18 : decode cX12_stock 18 = .ok (.getfield 87, 3) := by decide +kernel
theorem dX12_stock_21 : decode cX12_stock 21 = .ok (.bipush 9, 2) := by decide +kernel
theorem dX12_stock_23 : decode cX12_stock 23 = .ok (.iload_n 1, 1) := by decide +kernel
theorem dX12_stock_24 : decode cX12_stock 24 = .ok (.iadd, 1) := by decide +kernel
theorem dX12_stock_25 : decode cX12_stock 25 = .ok (.iaload, 1) := by decide +kernel
theorem dX12_stock_26 : decode cX12_stock 26 = .ok (.ireturn, 1) := by decide +kernel
theorem dX12_reserved_0 : decode cX12_reserved 0 = .ok (.aload_n 0, 1) := by decide +kernel
theorem dX12_reserved_1 : decode cX12_reserved 1 = .ok (.iconst 0, 1) := by decide +kernel
theorem dX12_reserved_2 : decode cX12_reserved 2 = .ok (.putfield 3, 3) := by decide +kernel
theorem dX12_reserved_5 : decode cX12_reserved 5 = .ok (.aload_n 0, 1) := by decide +kernel
theorem dX12_reserved_6 : decode cX12_reserved 6 = .ok (.iload_n 1, 1) := by decide +kernel
theorem dX12_reserved_7 : decode cX12_reserved 7 = .ok (.invokevirtual 173, 3) := by decide +kernel
theorem dX12_reserved_10 : decode cX12_reserved 10 = .ok (.ifCond .eq 7, 3) := by decide +kernel
theorem dX12_reserved_13 : decode cX12_reserved 13 = .ok (.iconst 0, 1) := by decide +kernel
theorem dX12_reserved_14 : decode cX12_reserved 14 = .ok (.goto 12, 3) := by decide +kernel
theorem dX12_reserved_17 : decode cX12_reserved 17 = .ok (.aload_n 0, 1) := by decide +kernel
theorem dX12_reserved_18 : decode cX12_reserved 18 = .ok (.getfield 87, 3) := by decide +kernel
theorem dX12_reserved_21 : decode cX12_reserved 21 = .ok (.bipush 21, 2) := by decide +kernel
theorem dX12_reserved_23 : decode cX12_reserved 23 = .ok (.iload_n 1, 1) := by decide +kernel
theorem dX12_reserved_24 : decode cX12_reserved 24 = .ok (.iadd, 1) := by decide +kernel
theorem dX12_reserved_25 : decode cX12_reserved 25 = .ok (.iaload, 1) := by decide +kernel
theorem dX12_reserved_26 : decode cX12_reserved 26 = .ok (.ireturn, 1) := by decide +kernel
theorem dX12_comesBy_0 : decode cX12_comesBy 0 = .ok (.iconst 0, 1) := by decide +kernel
theorem dX12_comesBy_1 : decode cX12_comesBy 1 = .ok (.istore_n 3, 1) := by decide +kernel
theorem dX12_comesBy_2 : decode cX12_comesBy 2 = .ok (.iconst 0, 1) := by decide +kernel
theorem dX12_comesBy_3 : decode cX12_comesBy 3 = .ok (.istore 4, 2) := by decide +kernel
theorem dX12_comesBy_5 : decode cX12_comesBy 5 = .ok (.iload 4, 2) := by decide +kernel
theorem dX12_comesBy_7 : decode cX12_comesBy 7 = .ok (.aload_n 0, 1) := by decide +kernel
theorem dX12_comesBy_8 : decode cX12_comesBy 8 = .ok (.getfield 87, 3) := by decide +kernel
theorem dX12_comesBy_11 : decode cX12_comesBy 11 = .ok (.iconst 2, 1) := by decide +kernel
theorem dX12_comesBy_12 : decode cX12_comesBy 12 = .ok (.iaload, 1) := by decide +kernel
theorem dX12_comesBy_13 : decode cX12_comesBy 13 = .ok (.if_icmp .ge 64, 3) := by decide +kernel
theorem dX12_comesBy_16 : decode cX12_comesBy 16 = .ok (.iload_n 3, 1) := by decide +kernel
theorem dX12_comesBy_17 : decode cX12_comesBy 17 = .ok (.aload_n 0, 1) := by decide +kernel
theorem dX12_comesBy_18 : decode cX12_comesBy 18 = .ok (.getfield 87, 3) := by decide +kernel
theorem dX12_comesBy_21 : decode cX12_comesBy 21 = .ok (.bipush 33, 2) := by decide +kernel
theorem dX12_comesBy_23 : decode cX12_comesBy 23 = .ok (.iconst 3, 1) := by decide +kernel
theorem dX12_comesBy_24 : decode cX12_comesBy 24 = .ok (.iload 4, 2) := by decide +kernel
theorem dX12_comesBy_26 : decode cX12_comesBy 26 = .ok (.imul, 1) := by decide +kernel
theorem dX12_comesBy_27 : decode cX12_comesBy 27 = .ok (.iadd, 1) := by decide +kernel
theorem dX12_comesBy_28 : decode cX12_comesBy 28 = .ok (.iaload, 1) := by decide +kernel
theorem dX12_comesBy_29 : decode cX12_comesBy 29 = .ok (.iload_n 1, 1) := by decide +kernel
theorem dX12_comesBy_30 : decode cX12_comesBy 30 = .ok (.if_icmp .ne 38, 3) := by decide +kernel
theorem dX12_comesBy_33 : decode cX12_comesBy 33 = .ok (.aload_n 0, 1) := by decide +kernel
theorem dX12_comesBy_34 : decode cX12_comesBy 34 = .ok (.getfield 87, 3) := by decide +kernel
theorem dX12_comesBy_37 : decode cX12_comesBy 37 = .ok (.bipush 33, 2) := by decide +kernel
theorem dX12_comesBy_39 : decode cX12_comesBy 39 = .ok (.iconst 3, 1) := by decide +kernel
theorem dX12_comesBy_40 : decode cX12_comesBy 40 = .ok (.iload 4, 2) := by decide +kernel
theorem dX12_comesBy_42 : decode cX12_comesBy 42 = .ok (.imul, 1) := by decide +kernel
theorem dX12_comesBy_43 : decode cX12_comesBy 43 = .ok (.iadd, 1) := by decide +kernel
theorem dX12_comesBy_44 : decode cX12_comesBy 44 = .ok (.iconst 2, 1) := by decide +kernel
theorem dX12_comesBy_45 : decode cX12_comesBy 45 = .ok (.iadd, 1) := by decide +kernel
theorem dX12_comesBy_46 : decode cX12_comesBy 46 = .ok (.iaload, 1) := by decide +kernel
theorem dX12_comesBy_47 : decode cX12_comesBy 47 = .ok (.iload_n 2, 1) := by decide +kernel
theorem dX12_comesBy_48 : decode cX12_comesBy 48 = .ok (.if_icmp .gt 20, 3) := by decide +kernel
theorem dX12_comesBy_51 : decode cX12_comesBy 51 = .ok (.aload_n 0, 1) := by decide +kernel
theorem dX12_comesBy_52 : decode cX12_comesBy 52 = .ok (.getfield 87, 3) := by decide +kernel
theorem dX12_comesBy_55 : decode cX12_comesBy 55 = .ok (.bipush 33, 2) := by decide +kernel
theorem dX12_comesBy_57 : decode cX12_comesBy 57 = .ok (.iconst 3, 1) := by decide +kernel
theorem dX12_comesBy_58 : decode cX12_comesBy 58 = .ok (.iload 4, 2) := by decide +kernel
theorem dX12_comesBy_60 : decode cX12_comesBy 60 = .ok (.imul, 1) := by decide +kernel
theorem dX12_comesBy_61 : decode cX12_comesBy 61 = .ok (.iadd, 1) := by decide +kernel
theorem dX12_comesBy_62 : decode cX12_comesBy 62 = .ok (.iconst 1, 1) := by decide +kernel
theorem dX12_comesBy_63 : decode cX12_comesBy 63 = .ok (.iadd, 1) := by decide +kernel
theorem dX12_comesBy_64 : decode cX12_comesBy 64 = .ok (.iaload, 1) := by decide +kernel
theorem dX12_comesBy_65 : decode cX12_comesBy 65 = .ok (.goto 4, 3) := by decide +kernel
theorem dX12_comesBy_68 : decode cX12_comesBy 68 = .ok (.iconst 0, 1) := by decide +kernel
theorem dX12_comesBy_69 : decode cX12_comesBy 69 = .ok (.iadd, 1) := by decide +kernel
theorem dX12_comesBy_70 : decode cX12_comesBy 70 = .ok (.istore_n 3, 1) := by decide +kernel
theorem dX12_comesBy_71 : decode cX12_comesBy 71 = .ok (.iinc 4 1, 3) := by decide +kernel
theorem dX12_comesBy_74 : decode cX12_comesBy 74 = .ok (.goto (-69), 3) := by decide +kernel
theorem dX12_comesBy_77 : decode cX12_comesBy 77 = .ok (.iload_n 3, 1) := by decide +kernel
theorem dX12_comesBy_78 : decode cX12_comesBy 78 = .ok (.ireturn, 1) := by decide +kernel
theorem dX12_arriving_0 : decode cX12_arriving 0 = .ok (.aload_n 0, 1) := by decide +kernel
theorem dX12_arriving_1 : decode cX12_arriving 1 = .ok (.iconst 0, 1) := by decide +kernel
theorem dX12_arriving_2 : decode cX12_arriving 2 = .ok (.putfield 3, 3) := by decide +kernel
theorem dX12_arriving_5 : decode cX12_arriving 5 = .ok (.aload_n 0, 1) := by decide +kernel
theorem dX12_arriving_6 : decode cX12_arriving 6 = .ok (.iload_n 1, 1) := by decide +kernel
theorem dX12_arriving_7 : decode cX12_arriving 7 = .ok (.invokevirtual 173, 3) := by decide +kernel
theorem dX12_arriving_10 : decode cX12_arriving 10 = .ok (.ifCond .eq 7, 3) := by decide +kernel
theorem dX12_arriving_13 : decode cX12_arriving 13 = .ok (.iconst 0, 1) := by decide +kernel
theorem dX12_arriving_14 : decode cX12_arriving 14 = .ok (.goto 10, 3) := by decide +kernel
theorem dX12_arriving_17 : decode cX12_arriving 17 = .ok (.aload_n 0, 1) := by decide +kernel
theorem dX12_arriving_18 : decode cX12_arriving 18 = .ok (.iload_n 1, 1) := by decide +kernel
theorem dX12_arriving_19 : decode cX12_arriving 19 = .ok (.ldc 190, 2) := by decide +kernel
theorem dX12_arriving_21 : decode cX12_arriving 21 = .ok (.invokevirtual 191, 3) := by decide +kernel
theorem dX12_arriving_24 : decode cX12_arriving 24 = .ok (.ireturn, 1) := by decide +kernel
theorem dX12_nextArrival_0 : decode cX12_nextArrival 0 = .ok (.aload_n 0, 1) := by decide +kernel
theorem dX12_nextArrival_1 : decode cX12_nextArrival 1 = .ok (.iconst 0, 1) := by decide +kernel
theorem dX12_nextArrival_2 : decode cX12_nextArrival 2 = .ok (.putfield 3, 3) := by decide +kernel
theorem dX12_nextArrival_5 : decode cX12_nextArrival 5 = .ok (.aload_n 0, 1) := by decide +kernel
theorem dX12_nextArrival_6 : decode cX12_nextArrival 6 = .ok (.iload_n 1, 1) := by decide +kernel
theorem dX12_nextArrival_7 : decode cX12_nextArrival 7 = .ok (.invokevirtual 173, 3) := by decide +kernel
theorem dX12_nextArrival_10 : decode cX12_nextArrival 10 = .ok (.ifCond .eq 5, 3) := by decide +kernel
theorem dX12_nextArrival_13 : decode cX12_nextArrival 13 = .ok (.iconst 0, 1) := by decide +kernel
theorem dX12_nextArrival_14 : decode cX12_nextArrival 14 = .ok (.ireturn, 1) := by decide +kernel
theorem dX12_nextArrival_15 : decode cX12_nextArrival 15 = .ok (.iconst (-1), 1) := by decide +kernel
theorem dX12_nextArrival_16 : decode cX12_nextArrival 16 = .ok (.istore_n 2, 1) := by decide +kernel
theorem dX12_nextArrival_17 : decode cX12_nextArrival 17 = .ok (.iconst 0, 1) := by decide +kernel
theorem dX12_nextArrival_18 : decode cX12_nextArrival 18 = .ok (.istore_n 3, 1) := by decide +kernel
theorem dX12_nextArrival_19 : decode cX12_nextArrival 19 = .ok (.iload_n 3, 1) := by decide +kernel
theorem dX12_nextArrival_20 : decode cX12_nextArrival 20 = .ok (.aload_n 0, 1) := by decide +kernel
theorem dX12_nextArrival_21 : decode cX12_nextArrival 21 = .ok (.getfield 87, 3) := by decide +kernel
theorem dX12_nextArrival_24 : decode cX12_nextArrival 24 = .ok (.iconst 2, 1) := by decide +kernel
theorem dX12_nextArrival_25 : decode cX12_nextArrival 25 = .ok (.iaload, 1) := by decide +kernel
theorem dX12_nextArrival_26 : decode cX12_nextArrival 26 = .ok (.if_icmp .ge 53, 3) := by decide +kernel
theorem dX12_nextArrival_29 : decode cX12_nextArrival 29 = .ok (.aload_n 0, 1) := by decide +kernel
theorem dX12_nextArrival_30 : decode cX12_nextArrival 30 = .ok (.getfield 87, 3) := by decide +kernel
theorem dX12_nextArrival_33 : decode cX12_nextArrival 33 = .ok (.bipush 33, 2) := by decide +kernel
theorem dX12_nextArrival_35 : decode cX12_nextArrival 35 = .ok (.iconst 3, 1) := by decide +kernel
theorem dX12_nextArrival_36 : decode cX12_nextArrival 36 = .ok (.iload_n 3, 1) := by decide +kernel
theorem dX12_nextArrival_37 : decode cX12_nextArrival 37 = .ok (.imul, 1) := by decide +kernel
theorem dX12_nextArrival_38 : decode cX12_nextArrival 38 = .ok (.iadd, 1) := by decide +kernel
theorem dX12_nextArrival_39 : decode cX12_nextArrival 39 = .ok (.iconst 2, 1) := by decide +kernel
theorem dX12_nextArrival_40 : decode cX12_nextArrival 40 = .ok (.iadd, 1) := by decide +kernel
theorem dX12_nextArrival_41 : decode cX12_nextArrival 41 = .ok (.iaload, 1) := by decide +kernel
theorem dX12_nextArrival_42 : decode cX12_nextArrival 42 = .ok (.istore 4, 2) := by decide +kernel
theorem dX12_nextArrival_44 : decode cX12_nextArrival 44 = .ok (.aload_n 0, 1) := by decide +kernel
theorem dX12_nextArrival_45 : decode cX12_nextArrival 45 = .ok (.getfield 87, 3) := by decide +kernel
theorem dX12_nextArrival_48 : decode cX12_nextArrival 48 = .ok (.bipush 33, 2) := by decide +kernel
theorem dX12_nextArrival_50 : decode cX12_nextArrival 50 = .ok (.iconst 3, 1) := by decide +kernel
theorem dX12_nextArrival_51 : decode cX12_nextArrival 51 = .ok (.iload_n 3, 1) := by decide +kernel
theorem dX12_nextArrival_52 : decode cX12_nextArrival 52 = .ok (.imul, 1) := by decide +kernel
theorem dX12_nextArrival_53 : decode cX12_nextArrival 53 = .ok (.iadd, 1) := by decide +kernel
theorem dX12_nextArrival_54 : decode cX12_nextArrival 54 = .ok (.iaload, 1) := by decide +kernel
theorem dX12_nextArrival_55 : decode cX12_nextArrival 55 = .ok (.iload_n 1, 1) := by decide +kernel
theorem dX12_nextArrival_56 : decode cX12_nextArrival 56 = .ok (.if_icmp .ne 17, 3) := by decide +kernel
theorem dX12_nextArrival_59 : decode cX12_nextArrival 59 = .ok (.iload_n 2, 1) := by decide +kernel
theorem dX12_nextArrival_60 : decode cX12_nextArrival 60 = .ok (.iconst (-1), 1) := by decide +kernel
theorem dX12_nextArrival_61 : decode cX12_nextArrival 61 = .ok (.if_icmp .eq 9, 3) := by decide +kernel
theorem dX12_nextArrival_64 : decode cX12_nextArrival 64 = .ok (.iload 4, 2) := by decide +kernel
theorem dX12_nextArrival_66 : decode cX12_nextArrival 66 = .ok (.iload_n 2, 1) := by decide +kernel
theorem dX12_nextArrival_67 : decode cX12_nextArrival 67 = .ok (.if_icmp .ge 6, 3) := by decide +kernel
theorem dX12_nextArrival_70 : decode cX12_nextArrival 70 = .ok (.iload 4, 2) := by decide +kernel
theorem dX12_nextArrival_72 : decode cX12_nextArrival 72 = .ok (.istore_n 2, 1) := by decide +kernel
theorem dX12_nextArrival_73 : decode cX12_nextArrival 73 = .ok (.iinc 3 1, 3) := by decide +kernel
theorem dX12_nextArrival_76 : decode cX12_nextArrival 76 = .ok (.goto (-57), 3) := by decide +kernel
theorem dX12_nextArrival_79 : decode cX12_nextArrival 79 = .ok (.iload_n 2, 1) := by decide +kernel
theorem dX12_nextArrival_80 : decode cX12_nextArrival 80 = .ok (.ireturn, 1) := by decide +kernel
theorem dX12_leastOf_0 : decode cX12_leastOf 0 = .ok (.iconst (-1), 1) := by decide +kernel
theorem dX12_leastOf_1 : decode cX12_leastOf 1 = .ok (.istore_n 2, 1) := by decide +kernel
theorem dX12_leastOf_2 : decode cX12_leastOf 2 = .ok (.iconst 0, 1) := by decide +kernel
theorem dX12_leastOf_3 : decode cX12_leastOf 3 = .ok (.istore_n 3, 1) := by decide +kernel
theorem dX12_leastOf_4 : decode cX12_leastOf 4 = .ok (.iload_n 3, 1) := by decide +kernel
theorem dX12_leastOf_5 : decode cX12_leastOf 5 = .ok (.aload_n 0, 1) := by decide +kernel
theorem dX12_leastOf_6 : decode cX12_leastOf 6 = .ok (.getfield 81, 3) := by decide +kernel
theorem dX12_leastOf_9 : decode cX12_leastOf 9 = .ok (.iconst 0, 1) := by decide +kernel
theorem dX12_leastOf_10 : decode cX12_leastOf 10 = .ok (.iaload, 1) := by decide +kernel
theorem dX12_leastOf_11 : decode cX12_leastOf 11 = .ok (.if_icmp .ge 52, 3) := by decide +kernel
theorem dX12_leastOf_14 : decode cX12_leastOf 14 = .ok (.aload_n 0, 1) := by decide +kernel
theorem dX12_leastOf_15 : decode cX12_leastOf 15 = .ok (.iload_n 1, 1) := by decide +kernel
theorem dX12_leastOf_16 : decode cX12_leastOf 16 = .ok (.iload_n 3, 1) := by decide +kernel
theorem dX12_leastOf_17 : decode cX12_leastOf 17 = .ok (.invokevirtual 176, 3) := by decide +kernel
theorem dX12_leastOf_20 : decode cX12_leastOf 20 = .ok (.ifCond .le 37, 3) := by decide +kernel
theorem dX12_leastOf_23 : decode cX12_leastOf 23 = .ok (.iload_n 2, 1) := by decide +kernel
theorem dX12_leastOf_24 : decode cX12_leastOf 24 = .ok (.iconst (-1), 1) := by decide +kernel
theorem dX12_leastOf_25 : decode cX12_leastOf 25 = .ok (.if_icmp .eq 30, 3) := by decide +kernel
theorem dX12_leastOf_28 : decode cX12_leastOf 28 = .ok (.aload_n 0, 1) := by decide +kernel
theorem dX12_leastOf_29 : decode cX12_leastOf 29 = .ok (.iload_n 3, 1) := by decide +kernel
theorem dX12_leastOf_30 : decode cX12_leastOf 30 = .ok (.invokevirtual 194, 3) := by decide +kernel
theorem dX12_leastOf_33 : decode cX12_leastOf 33 = .ok (.aload_n 0, 1) := by decide +kernel
theorem dX12_leastOf_34 : decode cX12_leastOf 34 = .ok (.iload_n 1, 1) := by decide +kernel
theorem dX12_leastOf_35 : decode cX12_leastOf 35 = .ok (.iload_n 3, 1) := by decide +kernel
theorem dX12_leastOf_36 : decode cX12_leastOf 36 = .ok (.invokevirtual 176, 3) := by decide +kernel
theorem dX12_leastOf_39 : decode cX12_leastOf 39 = .ok (.idiv, 1) := by decide +kernel
theorem dX12_leastOf_40 : decode cX12_leastOf 40 = .ok (.aload_n 0, 1) := by decide +kernel
theorem dX12_leastOf_41 : decode cX12_leastOf 41 = .ok (.iload_n 2, 1) := by decide +kernel
theorem dX12_leastOf_42 : decode cX12_leastOf 42 = .ok (.invokevirtual 194, 3) := by decide +kernel
theorem dX12_leastOf_45 : decode cX12_leastOf 45 = .ok (.aload_n 0, 1) := by decide +kernel
theorem dX12_leastOf_46 : decode cX12_leastOf 46 = .ok (.iload_n 1, 1) := by decide +kernel
theorem dX12_leastOf_47 : decode cX12_leastOf 47 = .ok (.iload_n 2, 1) := by decide +kernel
theorem dX12_leastOf_48 : decode cX12_leastOf 48 = .ok (.invokevirtual 176, 3) := by decide +kernel
theorem dX12_leastOf_51 : decode cX12_leastOf 51 = .ok (.idiv, 1) := by decide +kernel
theorem dX12_leastOf_52 : decode cX12_leastOf 52 = .ok (.if_icmp .ge 5, 3) := by decide +kernel
theorem dX12_leastOf_55 : decode cX12_leastOf 55 = .ok (.iload_n 3, 1) := by decide +kernel
theorem dX12_leastOf_56 : decode cX12_leastOf 56 = .ok (.istore_n 2, 1) := by decide +kernel
theorem dX12_leastOf_57 : decode cX12_leastOf 57 = .ok (.iinc 3 1, 3) := by decide +kernel
theorem dX12_leastOf_60 : decode cX12_leastOf 60 = .ok (.goto (-56), 3) := by decide +kernel
theorem dX12_leastOf_63 : decode cX12_leastOf 63 = .ok (.iload_n 2, 1) := by decide +kernel
theorem dX12_leastOf_64 : decode cX12_leastOf 64 = .ok (.ireturn, 1) := by decide +kernel
theorem dX12_builds_0 : decode cX12_builds 0 = .ok (.aload_n 0, 1) := by decide +kernel
theorem dX12_builds_1 : decode cX12_builds 1 = .ok (.aload_n 0, 1) := by decide +kernel
theorem dX12_builds_2 : decode cX12_builds 2 = .ok (.iload_n 1, 1) := by decide +kernel
theorem dX12_builds_3 : decode cX12_builds 3 = .ok (.invokevirtual 197, 3) := by decide +kernel
theorem dX12_builds_6 : decode cX12_builds 6 = .ok (.invokevirtual 194, 3) := by decide +kernel
theorem dX12_builds_9 : decode cX12_builds 9 = .ok (.aload_n 0, 1) := by decide +kernel
theorem dX12_builds_10 : decode cX12_builds 10 = .ok (.iload_n 1, 1) := by decide +kernel
theorem dX12_builds_11 : decode cX12_builds 11 = .ok (.aload_n 0, 1) := by decide +kernel
theorem dX12_builds_12 : decode cX12_builds 12 = .ok (.iload_n 1, 1) := by decide +kernel
theorem dX12_builds_13 : decode cX12_builds 13 = .ok (.invokevirtual 197, 3) := by decide +kernel
theorem dX12_builds_16 : decode cX12_builds 16 = .ok (.invokevirtual 176, 3) := by decide +kernel
theorem dX12_builds_19 : decode cX12_builds 19 = .ok (.idiv, 1) := by decide +kernel
theorem dX12_builds_20 : decode cX12_builds 20 = .ok (.ireturn, 1) := by decide +kernel
theorem dX12_buildable_0 : decode cX12_buildable 0 = .ok (.aload_n 0, 1) := by decide +kernel
theorem dX12_buildable_1 : decode cX12_buildable 1 = .ok (.iconst 0, 1) := by decide +kernel
theorem dX12_buildable_2 : decode cX12_buildable 2 = .ok (.putfield 3, 3) := by decide +kernel
theorem dX12_buildable_5 : decode cX12_buildable 5 = .ok (.aload_n 0, 1) := by decide +kernel
theorem dX12_buildable_6 : decode cX12_buildable 6 = .ok (.iload_n 1, 1) := by decide +kernel
theorem dX12_buildable_7 : decode cX12_buildable 7 = .ok (.invokevirtual 169, 3) := by decide +kernel
theorem dX12_buildable_10 : decode cX12_buildable 10 = .ok (.ifCond .eq 7, 3) := by decide +kernel
theorem dX12_buildable_13 : decode cX12_buildable 13 = .ok (.iconst 0, 1) := by decide +kernel
theorem dX12_buildable_14 : decode cX12_buildable 14 = .ok (.goto 8, 3) := by decide +kernel
theorem dX12_buildable_17 : decode cX12_buildable 17 = .ok (.aload_n 0, 1) := by decide +kernel
theorem dX12_buildable_18 : decode cX12_buildable 18 = .ok (.iload_n 1, 1) := by decide +kernel
theorem dX12_buildable_19 : decode cX12_buildable 19 = .ok (.invokevirtual 200, 3) := by decide +kernel
theorem dX12_buildable_22 : decode cX12_buildable 22 = .ok (.ireturn, 1) := by decide +kernel
theorem dX12_bottleneck_0 : decode cX12_bottleneck 0 = .ok (.aload_n 0, 1) := by decide +kernel
theorem dX12_bottleneck_1 : decode cX12_bottleneck 1 = .ok (.iconst 0, 1) := by decide +kernel
theorem dX12_bottleneck_2 : decode cX12_bottleneck 2 = .ok (.putfield 3, 3) := by decide +kernel
theorem dX12_bottleneck_5 : decode cX12_bottleneck 5 = .ok (.aload_n 0, 1) := by decide +kernel
theorem dX12_bottleneck_6 : decode cX12_bottleneck 6 = .ok (.iload_n 1, 1) := by decide +kernel
theorem dX12_bottleneck_7 : decode cX12_bottleneck 7 = .ok (.invokevirtual 169, 3) := by decide +kernel
theorem dX12_bottleneck_10 : decode cX12_bottleneck 10 = .ok (.ifCond .eq 7, 3) := by decide +kernel
theorem dX12_bottleneck_13 : decode cX12_bottleneck 13 = .ok (.iconst 0, 1) := by decide +kernel
theorem dX12_bottleneck_14 : decode cX12_bottleneck 14 = .ok (.goto 8, 3) := by decide +kernel
theorem dX12_bottleneck_17 : decode cX12_bottleneck 17 = .ok (.aload_n 0, 1) := by decide +kernel
theorem dX12_bottleneck_18 : decode cX12_bottleneck 18 = .ok (.iload_n 1, 1) := by decide +kernel
theorem dX12_bottleneck_19 : decode cX12_bottleneck 19 = .ok (.invokevirtual 197, 3) := by decide +kernel
theorem dX12_bottleneck_22 : decode cX12_bottleneck 22 = .ok (.ireturn, 1) := by decide +kernel
theorem dX12_buildableTogether_0 : decode cX12_buildableTogether 0 = .ok (.aload_n 0, 1) := by decide +kernel
theorem dX12_buildableTogether_1 : decode cX12_buildableTogether 1 = .ok (.iconst 0, 1) := by decide +kernel
theorem dX12_buildableTogether_2 : decode cX12_buildableTogether 2 = .ok (.putfield 3, 3) := by decide +kernel
theorem dX12_buildableTogether_5 : decode cX12_buildableTogether 5 = .ok (.aload_n 0, 1) := by decide +kernel
theorem dX12_buildableTogether_6 : decode cX12_buildableTogether 6 = .ok (.iload_n 1, 1) := by decide +kernel
theorem dX12_buildableTogether_7 : decode cX12_buildableTogether 7 = .ok (.invokevirtual 169, 3) := by decide +kernel
theorem dX12_buildableTogether_10 : decode cX12_buildableTogether 10 = .ok (.ifCond .ne 29, 3) := by decide +kernel
theorem dX12_buildableTogether_13 : decode cX12_buildableTogether 13 = .ok (.aload_n 0, 1) := by decide +kernel
theorem dX12_buildableTogether_14 : decode cX12_buildableTogether 14 = .ok (.iload_n 2, 1) := by decide +kernel
theorem dX12_buildableTogether_15 : decode cX12_buildableTogether 15 = .ok (.invokevirtual 169, 3) := by decide +kernel
theorem dX12_buildableTogether_18 : decode cX12_buildableTogether 18 = .ok (.ifCond .ne 21, 3) := by decide +kernel
theorem dX12_buildableTogether_21 : decode cX12_buildableTogether 21 = .ok (.aload_n 0, 1) := by decide +kernel
theorem dX12_buildableTogether_22 : decode cX12_buildableTogether 22 = .ok (.iload_n 1, 1) := by decide +kernel
theorem dX12_buildableTogether_23 : decode cX12_buildableTogether 23 = .ok (.iload_n 2, 1) := by decide +kernel
theorem dX12_buildableTogether_24 : decode cX12_buildableTogether 24 = .ok (.if_icmp .ne 7, 3) := by decide +kernel
theorem dX12_buildableTogether_27 : decode cX12_buildableTogether 27 = .ok (.iconst 1, 1) := by decide +kernel
theorem dX12_buildableTogether_28 : decode cX12_buildableTogether 28 = .ok (.goto 4, 3) := by decide +kernel
theorem dX12_buildableTogether_31 : decode cX12_buildableTogether 31 = .ok (.iconst 0, 1) := by decide +kernel
theorem dX12_buildableTogether_32 : decode cX12_buildableTogether 32 = .ok (.iconst 2, 1) := by decide +kernel
theorem dX12_buildableTogether_33 : decode cX12_buildableTogether 33 = .ok (.invokevirtual 159, 3) := by decide +kernel
theorem dX12_buildableTogether_36 : decode cX12_buildableTogether 36 = .ok (.ifCond .eq 5, 3) := by decide +kernel
theorem dX12_buildableTogether_39 : decode cX12_buildableTogether 39 = .ok (.iconst 0, 1) := by decide +kernel
theorem dX12_buildableTogether_40 : decode cX12_buildableTogether 40 = .ok (.ireturn, 1) := by decide +kernel
theorem dX12_buildableTogether_41 : decode cX12_buildableTogether 41 = .ok (.iconst 0, 1) := by decide +kernel
theorem dX12_buildableTogether_42 : decode cX12_buildableTogether 42 = .ok (.istore_n 3, 1) := by decide +kernel
theorem dX12_buildableTogether_43 : decode cX12_buildableTogether 43 = .ok (.iconst 0, 1) := by decide +kernel
theorem dX12_buildableTogether_44 : decode cX12_buildableTogether 44 = .ok (.istore 4, 2) := by decide +kernel
theorem dX12_buildableTogether_46 : decode cX12_buildableTogether 46 = .ok (.iload 4, 2) := by decide +kernel
theorem dX12_buildableTogether_48 : decode cX12_buildableTogether 48 = .ok (.aload_n 0, 1) := by decide +kernel
theorem dX12_buildableTogether_49 : decode cX12_buildableTogether 49 = .ok (.iload_n 1, 1) := by decide +kernel
theorem dX12_buildableTogether_50 : decode cX12_buildableTogether 50 = .ok (.invokevirtual 200, 3) := by decide +kernel
theorem dX12_buildableTogether_53 : decode cX12_buildableTogether 53 = .ok (.if_icmp .gt 88, 3) := by decide +kernel
theorem dX12_buildableTogether_56 : decode cX12_buildableTogether 56 = .ok (.aload_n 0, 1) := by decide +kernel
theorem dX12_buildableTogether_57 : decode cX12_buildableTogether 57 = .ok (.iload_n 2, 1) := by decide +kernel
theorem dX12_buildableTogether_58 : decode cX12_buildableTogether 58 = .ok (.invokevirtual 200, 3) := by decide +kernel
theorem dX12_buildableTogether_61 : decode cX12_buildableTogether 61 = .ok (.istore 5, 2) := by decide +kernel
theorem dX12_buildableTogether_63 : decode cX12_buildableTogether 63 = .ok (.iconst 0, 1) := by decide +kernel
theorem dX12_buildableTogether_64 : decode cX12_buildableTogether 64 = .ok (.istore 6, 2) := by decide +kernel
theorem dX12_buildableTogether_66 : decode cX12_buildableTogether 66 = .ok (.iload 6, 2) := by decide +kernel
theorem dX12_buildableTogether_68 : decode cX12_buildableTogether 68 = .ok (.aload_n 0, 1) := by decide +kernel
theorem dX12_buildableTogether_69 : decode cX12_buildableTogether 69 = .ok (.getfield 81, 3) := by decide +kernel
theorem dX12_buildableTogether_72 : decode cX12_buildableTogether 72 = .ok (.iconst 0, 1) := by decide +kernel
theorem dX12_buildableTogether_73 : decode cX12_buildableTogether 73 = .ok (.iaload, 1) := by decide +kernel
theorem dX12_buildableTogether_74 : decode cX12_buildableTogether 74 = .ok (.if_icmp .ge 51, 3) := by decide +kernel
theorem dX12_buildableTogether_77 : decode cX12_buildableTogether 77 = .ok (.aload_n 0, 1) := by decide +kernel
theorem dX12_buildableTogether_78 : decode cX12_buildableTogether 78 = .ok (.iload_n 2, 1) := by decide +kernel
theorem dX12_buildableTogether_79 : decode cX12_buildableTogether 79 = .ok (.iload 6, 2) := by decide +kernel
theorem dX12_buildableTogether_81 : decode cX12_buildableTogether 81 = .ok (.invokevirtual 176, 3) := by decide +kernel
theorem dX12_buildableTogether_84 : decode cX12_buildableTogether 84 = .ok (.ifCond .le 35, 3) := by decide +kernel
theorem dX12_buildableTogether_87 : decode cX12_buildableTogether 87 = .ok (.iload 5, 2) := by decide +kernel
theorem dX12_buildableTogether_89 : decode cX12_buildableTogether 89 = .ok (.aload_n 0, 1) := by decide +kernel
theorem dX12_buildableTogether_90 : decode cX12_buildableTogether 90 = .ok (.iload 6, 2) := by decide +kernel
theorem dX12_buildableTogether_92 : decode cX12_buildableTogether 92 = .ok (.invokevirtual 194, 3) := by decide +kernel
theorem dX12_buildableTogether_95 : decode cX12_buildableTogether 95 = .ok (.iload 4, 2) := by decide +kernel
theorem dX12_buildableTogether_97 : decode cX12_buildableTogether 97 = .ok (.aload_n 0, 1) := by decide +kernel
theorem dX12_buildableTogether_98 : decode cX12_buildableTogether 98 = .ok (.iload_n 1, 1) := by decide +kernel
theorem dX12_buildableTogether_99 : decode cX12_buildableTogether 99 = .ok (.iload 6, 2) := by decide +kernel
theorem dX12_buildableTogether_101 : decode cX12_buildableTogether 101 = .ok (.invokevirtual 176, 3) := by decide +kernel
theorem dX12_buildableTogether_104 : decode cX12_buildableTogether 104 = .ok (.imul, 1) := by decide +kernel
theorem dX12_buildableTogether_105 : decode cX12_buildableTogether 105 = .ok (.isub, 1) := by decide +kernel
theorem dX12_buildableTogether_106 : decode cX12_buildableTogether 106 = .ok (.aload_n 0, 1) := by decide +kernel
theorem dX12_buildableTogether_107 : decode cX12_buildableTogether 107 = .ok (.iload_n 2, 1) := by decide +kernel
theorem dX12_buildableTogether_108 : decode cX12_buildableTogether 108 = .ok (.iload 6, 2) := by decide +kernel
theorem dX12_buildableTogether_110 : decode cX12_buildableTogether 110 = .ok (.invokevirtual 176, 3) := by decide +kernel
theorem dX12_buildableTogether_113 : decode cX12_buildableTogether 113 = .ok (.idiv, 1) := by decide +kernel
theorem dX12_buildableTogether_114 : decode cX12_buildableTogether 114 = .ok (.invokestatic 203, 3) := by decide +kernel
theorem dX12_buildableTogether_117 : decode cX12_buildableTogether 117 = .ok (.istore 5, 2) := by decide +kernel
theorem dX12_buildableTogether_119 : decode cX12_buildableTogether 119 = .ok (.iinc 6 1, 3) := by decide +kernel
theorem dX12_buildableTogether_122 : decode cX12_buildableTogether 122 = .ok (.goto (-56), 3) := by decide +kernel
theorem dX12_buildableTogether_125 : decode cX12_buildableTogether 125 = .ok (.iload_n 3, 1) := by decide +kernel
theorem dX12_buildableTogether_126 : decode cX12_buildableTogether 126 = .ok (.iload 4, 2) := by decide +kernel
theorem dX12_buildableTogether_128 : decode cX12_buildableTogether 128 = .ok (.iload 5, 2) := by decide +kernel
theorem dX12_buildableTogether_130 : decode cX12_buildableTogether 130 = .ok (.iadd, 1) := by decide +kernel
theorem dX12_buildableTogether_131 : decode cX12_buildableTogether 131 = .ok (.invokestatic 183, 3) := by decide +kernel
theorem dX12_buildableTogether_134 : decode cX12_buildableTogether 134 = .ok (.istore_n 3, 1) := by decide +kernel
theorem dX12_buildableTogether_135 : decode cX12_buildableTogether 135 = .ok (.iinc 4 1, 3) := by decide +kernel
theorem dX12_buildableTogether_138 : decode cX12_buildableTogether 138 = .ok (.goto (-92), 3) := by decide +kernel
theorem dX12_buildableTogether_141 : decode cX12_buildableTogether 141 = .ok (.iload_n 3, 1) := by decide +kernel
theorem dX12_buildableTogether_142 : decode cX12_buildableTogether 142 = .ok (.ireturn, 1) := by decide +kernel
theorem dX12_stateOf_0 : decode cX12_stateOf 0 = .ok (.aload_n 0, 1) := by decide +kernel
theorem dX12_stateOf_1 : decode cX12_stateOf 1 = .ok (.iconst 0, 1) := by decide +kernel
theorem dX12_stateOf_2 : decode cX12_stateOf 2 = .ok (.putfield 3, 3) := by decide +kernel
theorem dX12_stateOf_5 : decode cX12_stateOf 5 = .ok (.aload_n 0, 1) := by decide +kernel
theorem dX12_stateOf_6 : decode cX12_stateOf 6 = .ok (.iload_n 1, 1) := by decide +kernel
theorem dX12_stateOf_7 : decode cX12_stateOf 7 = .ok (.invokevirtual 206, 3) := by decide +kernel
theorem dX12_stateOf_10 : decode cX12_stateOf 10 = .ok (.ifCond .eq 5, 3) := by decide +kernel
theorem dX12_stateOf_13 : decode cX12_stateOf 13 = .ok (.iconst 0, 1) := by decide +kernel
theorem dX12_stateOf_14 : decode cX12_stateOf 14 = .ok (.ireturn, 1) := by decide +kernel
theorem dX12_stateOf_15 : decode cX12_stateOf 15 = .ok (.aload_n 0, 1) := by decide +kernel
theorem dX12_stateOf_16 : decode cX12_stateOf 16 = .ok (.iload_n 1, 1) := by decide +kernel
theorem dX12_stateOf_17 : decode cX12_stateOf 17 = .ok (.bipush 7, 2) := by decide +kernel
theorem dX12_stateOf_19 : decode cX12_stateOf 19 = .ok (.invokevirtual 166, 3) := by decide +kernel
theorem dX12_stateOf_22 : decode cX12_stateOf 22 = .ok (.iconst 1, 1) := by decide +kernel
theorem dX12_stateOf_23 : decode cX12_stateOf 23 = .ok (.if_icmp .ne 5, 3) := by decide +kernel
theorem dX12_stateOf_26 : decode cX12_stateOf 26 = .ok (.iconst 3, 1) := by decide +kernel
theorem dX12_stateOf_27 : decode cX12_stateOf 27 = .ok (.ireturn, 1) := by decide +kernel
theorem dX12_stateOf_28 : decode cX12_stateOf 28 = .ok (.aload_n 0, 1) := by decide +kernel
theorem dX12_stateOf_29 : decode cX12_stateOf 29 = .ok (.iload_n 1, 1) := by decide +kernel
theorem dX12_stateOf_30 : decode cX12_stateOf 30 = .ok (.iconst 5, 1) := by decide +kernel
theorem dX12_stateOf_31 : decode cX12_stateOf 31 = .ok (.invokevirtual 166, 3) := by decide +kernel
theorem dX12_stateOf_34 : decode cX12_stateOf 34 = .ok (.aload_n 0, 1) := by decide +kernel
theorem dX12_stateOf_35 : decode cX12_stateOf 35 = .ok (.iload_n 1, 1) := by decide +kernel
theorem dX12_stateOf_36 : decode cX12_stateOf 36 = .ok (.iconst 1, 1) := by decide +kernel
theorem dX12_stateOf_37 : decode cX12_stateOf 37 = .ok (.invokevirtual 166, 3) := by decide +kernel
theorem dX12_stateOf_40 : decode cX12_stateOf 40 = .ok (.if_icmp .ne 5, 3) := by decide +kernel
theorem dX12_stateOf_43 : decode cX12_stateOf 43 = .ok (.iconst 2, 1) := by decide +kernel
theorem dX12_stateOf_44 : decode cX12_stateOf 44 = .ok (.ireturn, 1) := by decide +kernel
theorem dX12_stateOf_45 : decode cX12_stateOf 45 = .ok (.aload_n 0, 1) := by decide +kernel
theorem dX12_stateOf_46 : decode cX12_stateOf 46 = .ok (.iload_n 1, 1) := by decide +kernel
theorem dX12_stateOf_47 : decode cX12_stateOf 47 = .ok (.invokevirtual 209, 3) := by decide +kernel
theorem dX12_stateOf_50 : decode cX12_stateOf 50 = .ok (.ifCond .le 7, 3) := by decide +kernel
theorem dX12_stateOf_53 : decode cX12_stateOf 53 = .ok (.iconst 0, 1) := by decide +kernel
theorem dX12_stateOf_54 : decode cX12_stateOf 54 = .ok (.goto 4, 3) := by decide +kernel
theorem dX12_stateOf_57 : decode cX12_stateOf 57 = .ok (.iconst 1, 1) := by decide +kernel
theorem dX12_stateOf_58 : decode cX12_stateOf 58 = .ok (.ireturn, 1) := by decide +kernel
theorem dX12_openUnits_0 : decode cX12_openUnits 0 = .ok (.aload_n 0, 1) := by decide +kernel
theorem dX12_openUnits_1 : decode cX12_openUnits 1 = .ok (.iconst 0, 1) := by decide +kernel
theorem dX12_openUnits_2 : decode cX12_openUnits 2 = .ok (.putfield 3, 3) := by decide +kernel
theorem dX12_openUnits_5 : decode cX12_openUnits 5 = .ok (.aload_n 0, 1) := by decide +kernel
theorem dX12_openUnits_6 : decode cX12_openUnits 6 = .ok (.iload_n 1, 1) := by decide +kernel
theorem dX12_openUnits_7 : decode cX12_openUnits 7 = .ok (.invokevirtual 206, 3) := by decide +kernel
theorem dX12_openUnits_10 : decode cX12_openUnits 10 = .ok (.ifCond .eq 7, 3) := by decide +kernel
theorem dX12_openUnits_13 : decode cX12_openUnits 13 = .ok (.iconst 0, 1) := by decide +kernel
theorem dX12_openUnits_14 : decode cX12_openUnits 14 = .ok (.goto 8, 3) := by decide +kernel
theorem dX12_openUnits_17 : decode cX12_openUnits 17 = .ok (.aload_n 0, 1) := by decide +kernel
theorem dX12_openUnits_18 : decode cX12_openUnits 18 = .ok (.iload_n 1, 1) := by decide +kernel
theorem dX12_openUnits_19 : decode cX12_openUnits 19 = .ok (.invokevirtual 209, 3) := by decide +kernel
theorem dX12_openUnits_22 : decode cX12_openUnits 22 = .ok (.ireturn, 1) := by decide +kernel
theorem dX12_reservedUnits_0 : decode cX12_reservedUnits 0 = .ok (.aload_n 0, 1) := by decide +kernel
theorem dX12_reservedUnits_1 : decode cX12_reservedUnits 1 = .ok (.iconst 0, 1) := by decide +kernel
theorem dX12_reservedUnits_2 : decode cX12_reservedUnits 2 = .ok (.putfield 3, 3) := by decide +kernel
theorem dX12_reservedUnits_5 : decode cX12_reservedUnits 5 = .ok (.aload_n 0, 1) := by decide +kernel
theorem dX12_reservedUnits_6 : decode cX12_reservedUnits 6 = .ok (.iload_n 1, 1) := by decide +kernel
theorem dX12_reservedUnits_7 : decode cX12_reservedUnits 7 = .ok (.invokevirtual 206, 3) := by decide +kernel
theorem dX12_reservedUnits_10 : decode cX12_reservedUnits 10 = .ok (.ifCond .eq 7, 3) := by decide +kernel
theorem dX12_reservedUnits_13 : decode cX12_reservedUnits 13 = .ok (.iconst 0, 1) := by decide +kernel
theorem dX12_reservedUnits_14 : decode cX12_reservedUnits 14 = .ok (.goto 10, 3) := by decide +kernel
theorem dX12_reservedUnits_17 : decode cX12_reservedUnits 17 = .ok (.aload_n 0, 1) := by decide +kernel
theorem dX12_reservedUnits_18 : decode cX12_reservedUnits 18 = .ok (.iload_n 1, 1) := by decide +kernel
theorem dX12_reservedUnits_19 : decode cX12_reservedUnits 19 = .ok (.bipush 6, 2) := by decide +kernel
theorem dX12_reservedUnits_21 : decode cX12_reservedUnits 21 = .ok (.invokevirtual 166, 3) := by decide +kernel
theorem dX12_reservedUnits_24 : decode cX12_reservedUnits 24 = .ok (.ireturn, 1) := by decide +kernel
theorem dX12_shippedUnits_0 : decode cX12_shippedUnits 0 = .ok (.aload_n 0, 1) := by decide +kernel
theorem dX12_shippedUnits_1 : decode cX12_shippedUnits 1 = .ok (.iconst 0, 1) := by decide +kernel
theorem dX12_shippedUnits_2 : decode cX12_shippedUnits 2 = .ok (.putfield 3, 3) := by decide +kernel
theorem dX12_shippedUnits_5 : decode cX12_shippedUnits 5 = .ok (.aload_n 0, 1) := by decide +kernel
theorem dX12_shippedUnits_6 : decode cX12_shippedUnits 6 = .ok (.iload_n 1, 1) := by decide +kernel
theorem dX12_shippedUnits_7 : decode cX12_shippedUnits 7 = .ok (.invokevirtual 206, 3) := by decide +kernel
theorem dX12_shippedUnits_10 : decode cX12_shippedUnits 10 = .ok (.ifCond .eq 7, 3) := by decide +kernel
theorem dX12_shippedUnits_13 : decode cX12_shippedUnits 13 = .ok (.iconst 0, 1) := by decide +kernel
theorem dX12_shippedUnits_14 : decode cX12_shippedUnits 14 = .ok (.goto 9, 3) := by decide +kernel
theorem dX12_shippedUnits_17 : decode cX12_shippedUnits 17 = .ok (.aload_n 0, 1) := by decide +kernel
theorem dX12_shippedUnits_18 : decode cX12_shippedUnits 18 = .ok (.iload_n 1, 1) := by decide +kernel
theorem dX12_shippedUnits_19 : decode cX12_shippedUnits 19 = .ok (.iconst 5, 1) := by decide +kernel
theorem dX12_shippedUnits_20 : decode cX12_shippedUnits 20 = .ok (.invokevirtual 166, 3) := by decide +kernel
theorem dX12_shippedUnits_23 : decode cX12_shippedUnits 23 = .ok (.ireturn, 1) := by decide +kernel
theorem dX12_orderField_0 : decode cX12_orderField 0 = .ok (.aload_n 0, 1) := by decide +kernel
theorem dX12_orderField_1 : decode cX12_orderField 1 = .ok (.iconst 0, 1) := by decide +kernel
theorem dX12_orderField_2 : decode cX12_orderField 2 = .ok (.putfield 3, 3) := by decide +kernel
theorem dX12_orderField_5 : decode cX12_orderField 5 = .ok (.aload_n 0, 1) := by decide +kernel
theorem dX12_orderField_6 : decode cX12_orderField 6 = .ok (.iload_n 1, 1) := by decide +kernel
theorem dX12_orderField_7 : decode cX12_orderField 7 = .ok (.invokevirtual 206, 3) := by decide +kernel
theorem dX12_orderField_10 : decode cX12_orderField 10 = .ok (.ifCond .eq 7, 3) := by decide +kernel
theorem dX12_orderField_13 : decode cX12_orderField 13 = .ok (.iconst 0, 1) := by decide +kernel
theorem dX12_orderField_14 : decode cX12_orderField 14 = .ok (.goto 22, 3) := by decide +kernel
theorem dX12_orderField_17 : decode cX12_orderField 17 = .ok (.iload_n 2, 1) := by decide +kernel
theorem dX12_orderField_18 : decode cX12_orderField 18 = .ok (.iconst 0, 1) := by decide +kernel
theorem dX12_orderField_19 : decode cX12_orderField 19 = .ok (.iconst 4, 1) := by decide +kernel
theorem dX12_orderField_20 : decode cX12_orderField 20 = .ok (.invokestatic 72, 3) := by decide +kernel
theorem dX12_orderField_23 : decode cX12_orderField 23 = .ok (.ifCond .eq 12, 3) := by decide +kernel
theorem dX12_orderField_26 : decode cX12_orderField 26 = .ok (.aload_n 0, 1) := by decide +kernel
theorem dX12_orderField_27 : decode cX12_orderField 27 = .ok (.iload_n 1, 1) := by decide +kernel
theorem dX12_orderField_28 : decode cX12_orderField 28 = .ok (.iload_n 2, 1) := by decide +kernel
theorem dX12_orderField_29 : decode cX12_orderField 29 = .ok (.invokevirtual 166, 3) := by decide +kernel
theorem dX12_orderField_32 : decode cX12_orderField 32 = .ok (.goto 4, 3) := by decide +kernel
theorem dX12_orderField_35 : decode cX12_orderField 35 = .ok (.iconst (-1), 1) := by decide +kernel
theorem dX12_orderField_36 : decode cX12_orderField 36 = .ok (.ireturn, 1) := by decide +kernel
theorem dX12_missing_0 : decode cX12_missing 0 = .ok (.aload_n 0, 1) := by decide +kernel
theorem dX12_missing_1 : decode cX12_missing 1 = .ok (.iconst 0, 1) := by decide +kernel
theorem dX12_missing_2 : decode cX12_missing 2 = .ok (.putfield 3, 3) := by decide +kernel
theorem dX12_missing_5 : decode cX12_missing 5 = .ok (.aload_n 0, 1) := by decide +kernel
theorem dX12_missing_6 : decode cX12_missing 6 = .ok (.iload_n 1, 1) := by decide +kernel
theorem dX12_missing_7 : decode cX12_missing 7 = .ok (.invokevirtual 206, 3) := by decide +kernel
theorem dX12_missing_10 : decode cX12_missing 10 = .ok (.ifCond .ne 11, 3) := by decide +kernel
theorem dX12_missing_13 : decode cX12_missing 13 = .ok (.aload_n 0, 1) := by decide +kernel
theorem dX12_missing_14 : decode cX12_missing 14 = .ok (.iload_n 2, 1) := by decide +kernel
theorem dX12_missing_15 : decode cX12_missing 15 = .ok (.invokevirtual 173, 3) := by decide +kernel
theorem dX12_missing_18 : decode cX12_missing 18 = .ok (.ifCond .eq 7, 3) := by decide +kernel
theorem dX12_missing_21 : decode cX12_missing 21 = .ok (.iconst 0, 1) := by decide +kernel
theorem dX12_missing_22 : decode cX12_missing 22 = .ok (.goto 30, 3) := by decide +kernel
theorem dX12_missing_25 : decode cX12_missing 25 = .ok (.iconst 0, 1) := by decide +kernel
theorem dX12_missing_26 : decode cX12_missing 26 = .ok (.aload_n 0, 1) := by decide +kernel
theorem dX12_missing_27 : decode cX12_missing 27 = .ok (.iload_n 1, 1) := by decide +kernel
theorem dX12_missing_28 : decode cX12_missing 28 = .ok (.invokevirtual 209, 3) := by decide +kernel
theorem dX12_missing_31 : decode cX12_missing 31 = .ok (.aload_n 0, 1) := by decide +kernel
theorem dX12_missing_32 : decode cX12_missing 32 = .ok (.aload_n 0, 1) := by decide +kernel
theorem dX12_missing_33 : decode cX12_missing 33 = .ok (.iload_n 1, 1) := by decide +kernel
theorem dX12_missing_34 : decode cX12_missing 34 = .ok (.iconst 0, 1) := by decide +kernel
theorem dX12_missing_35 : decode cX12_missing 35 = .ok (.invokevirtual 166, 3) := by decide +kernel
theorem dX12_missing_38 : decode cX12_missing 38 = .ok (.iload_n 2, 1) := by decide +kernel
theorem dX12_missing_39 : decode cX12_missing 39 = .ok (.invokevirtual 176, 3) := by decide +kernel
theorem dX12_missing_42 : decode cX12_missing 42 = .ok (.imul, 1) := by decide +kernel
theorem dX12_missing_43 : decode cX12_missing 43 = .ok (.aload_n 0, 1) := by decide +kernel
theorem dX12_missing_44 : decode cX12_missing 44 = .ok (.iload_n 2, 1) := by decide +kernel
theorem dX12_missing_45 : decode cX12_missing 45 = .ok (.invokevirtual 194, 3) := by decide +kernel
theorem dX12_missing_48 : decode cX12_missing 48 = .ok (.isub, 1) := by decide +kernel
theorem dX12_missing_49 : decode cX12_missing 49 = .ok (.invokestatic 183, 3) := by decide +kernel
theorem dX12_missing_52 : decode cX12_missing 52 = .ok (.ireturn, 1) := by decide +kernel
theorem dX12_buys_0 : decode cX12_buys 0 = .ok (.aload_n 0, 1) := by decide +kernel
theorem dX12_buys_1 : decode cX12_buys 1 = .ok (.iload_n 1, 1) := by decide +kernel
theorem dX12_buys_2 : decode cX12_buys 2 = .ok (.invokevirtual 194, 3) := by decide +kernel
theorem dX12_buys_5 : decode cX12_buys 5 = .ok (.ineg, 1) := by decide +kernel
theorem dX12_buys_6 : decode cX12_buys 6 = .ok (.aload_n 0, 1) := by decide +kernel
theorem dX12_buys_7 : decode cX12_buys 7 = .ok (.iload_n 1, 1) := by decide +kernel
theorem dX12_buys_8 : decode cX12_buys 8 = .ok (.ldc 190, 2) := by decide +kernel
theorem dX12_buys_10 : decode cX12_buys 10 = .ok (.invokevirtual 191, 3) := by decide +kernel
theorem dX12_buys_13 : decode cX12_buys 13 = .ok (.isub, 1) := by decide +kernel
theorem dX12_buys_14 : decode cX12_buys 14 = .ok (.istore_n 2, 1) := by decide +kernel
theorem dX12_buys_15 : decode cX12_buys 15 = .ok (.iconst 0, 1) := by decide +kernel
theorem dX12_buys_16 : decode cX12_buys 16 = .ok (.istore_n 3, 1) := by decide +kernel
theorem dX12_buys_17 : decode cX12_buys 17 = .ok (.iload_n 3, 1) := by decide +kernel
theorem dX12_buys_18 : decode cX12_buys 18 = .ok (.aload_n 0, 1) := by decide +kernel
theorem dX12_buys_19 : decode cX12_buys 19 = .ok (.getfield 87, 3) := by decide +kernel
theorem dX12_buys_22 : decode cX12_buys 22 = .ok (.iconst 1, 1) := by decide +kernel
theorem dX12_buys_23 : decode cX12_buys 23 = .ok (.iaload, 1) := by decide +kernel
theorem dX12_buys_24 : decode cX12_buys 24 = .ok (.if_icmp .ge 29, 3) := by decide +kernel
theorem dX12_buys_27 : decode cX12_buys 27 = .ok (.iload_n 2, 1) := by decide +kernel
theorem dX12_buys_28 : decode cX12_buys 28 = .ok (.aload_n 0, 1) := by decide +kernel
theorem dX12_buys_29 : decode cX12_buys 29 = .ok (.iload_n 3, 1) := by decide +kernel
theorem dX12_buys_30 : decode cX12_buys 30 = .ok (.invokevirtual 209, 3) := by decide +kernel
theorem dX12_buys_33 : decode cX12_buys 33 = .ok (.aload_n 0, 1) := by decide +kernel
theorem dX12_buys_34 : decode cX12_buys 34 = .ok (.aload_n 0, 1) := by decide +kernel
theorem dX12_buys_35 : decode cX12_buys 35 = .ok (.iload_n 3, 1) := by decide +kernel
theorem dX12_buys_36 : decode cX12_buys 36 = .ok (.iconst 0, 1) := by decide +kernel
theorem dX12_buys_37 : decode cX12_buys 37 = .ok (.invokevirtual 166, 3) := by decide +kernel
theorem dX12_buys_40 : decode cX12_buys 40 = .ok (.iload_n 1, 1) := by decide +kernel
theorem dX12_buys_41 : decode cX12_buys 41 = .ok (.invokevirtual 176, 3) := by decide +kernel
theorem dX12_buys_44 : decode cX12_buys 44 = .ok (.imul, 1) := by decide +kernel
theorem dX12_buys_45 : decode cX12_buys 45 = .ok (.iadd, 1) := by decide +kernel
theorem dX12_buys_46 : decode cX12_buys 46 = .ok (.istore_n 2, 1) := by decide +kernel
theorem dX12_buys_47 : decode cX12_buys 47 = .ok (.iinc 3 1, 3) := by decide +kernel
theorem dX12_buys_50 : decode cX12_buys 50 = .ok (.goto (-33), 3) := by decide +kernel
theorem dX12_buys_53 : decode cX12_buys 53 = .ok (.iconst 0, 1) := by decide +kernel
theorem dX12_buys_54 : decode cX12_buys 54 = .ok (.iload_n 2, 1) := by decide +kernel
theorem dX12_buys_55 : decode cX12_buys 55 = .ok (.invokestatic 183, 3) := by decide +kernel
theorem dX12_buys_58 : decode cX12_buys 58 = .ok (.ireturn, 1) := by decide +kernel
theorem dX12_toBuy_0 : decode cX12_toBuy 0 = .ok (.aload_n 0, 1) := by decide +kernel
theorem dX12_toBuy_1 : decode cX12_toBuy 1 = .ok (.iconst 0, 1) := by decide +kernel
theorem dX12_toBuy_2 : decode cX12_toBuy 2 = .ok (.putfield 3, 3) := by decide +kernel
theorem dX12_toBuy_5 : decode cX12_toBuy 5 = .ok (.aload_n 0, 1) := by decide +kernel
theorem dX12_toBuy_6 : decode cX12_toBuy 6 = .ok (.iload_n 1, 1) := by decide +kernel
theorem dX12_toBuy_7 : decode cX12_toBuy 7 = .ok (.invokevirtual 173, 3) := by decide +kernel
theorem dX12_toBuy_10 : decode cX12_toBuy 10 = .ok (.ifCond .eq 7, 3) := by decide +kernel
theorem dX12_toBuy_13 : decode cX12_toBuy 13 = .ok (.iconst 0, 1) := by decide +kernel
theorem dX12_toBuy_14 : decode cX12_toBuy 14 = .ok (.goto 8, 3) := by decide +kernel
theorem dX12_toBuy_17 : decode cX12_toBuy 17 = .ok (.aload_n 0, 1) := by decide +kernel
theorem dX12_toBuy_18 : decode cX12_toBuy 18 = .ok (.iload_n 1, 1) := by decide +kernel
theorem dX12_toBuy_19 : decode cX12_toBuy 19 = .ok (.invokevirtual 212, 3) := by decide +kernel
theorem dX12_toBuy_22 : decode cX12_toBuy 22 = .ok (.ireturn, 1) := by decide +kernel
theorem dX12_scarcestPart_0 : decode cX12_scarcestPart 0 = .ok (.aload_n 0, 1) := by decide +kernel
theorem dX12_scarcestPart_1 : decode cX12_scarcestPart 1 = .ok (.iconst 0, 1) := by decide +kernel
theorem dX12_scarcestPart_2 : decode cX12_scarcestPart 2 = .ok (.putfield 3, 3) := by decide +kernel
theorem dX12_scarcestPart_5 : decode cX12_scarcestPart 5 = .ok (.iconst (-1), 1) := by decide +kernel
theorem dX12_scarcestPart_6 : decode cX12_scarcestPart 6 = .ok (.istore_n 1, 1) := by decide +kernel
theorem dX12_scarcestPart_7 : decode cX12_scarcestPart 7 = .ok (.iconst 0, 1) := by decide +kernel
theorem dX12_scarcestPart_8 : decode cX12_scarcestPart 8 = .ok (.istore_n 2, 1) := by decide +kernel
theorem dX12_scarcestPart_9 : decode cX12_scarcestPart 9 = .ok (.iload_n 2, 1) := by decide +kernel
theorem dX12_scarcestPart_10 : decode cX12_scarcestPart 10 = .ok (.aload_n 0, 1) := by decide +kernel
theorem dX12_scarcestPart_11 : decode cX12_scarcestPart 11 = .ok (.getfield 81, 3) := by decide +kernel
theorem dX12_scarcestPart_14 : decode cX12_scarcestPart 14 = .ok (.iconst 0, 1) := by decide +kernel
theorem dX12_scarcestPart_15 : decode cX12_scarcestPart 15 = .ok (.iaload, 1) := by decide +kernel
theorem dX12_scarcestPart_16 : decode cX12_scarcestPart 16 = .ok (.if_icmp .ge 33, 3) := by decide +kernel
theorem dX12_scarcestPart_19 : decode cX12_scarcestPart 19 = .ok (.aload_n 0, 1) := by decide +kernel
theorem dX12_scarcestPart_20 : decode cX12_scarcestPart 20 = .ok (.iload_n 2, 1) := by decide +kernel
theorem dX12_scarcestPart_21 : decode cX12_scarcestPart 21 = .ok (.invokevirtual 212, 3) := by decide +kernel
theorem dX12_scarcestPart_24 : decode cX12_scarcestPart 24 = .ok (.iload_n 1, 1) := by decide +kernel
theorem dX12_scarcestPart_25 : decode cX12_scarcestPart 25 = .ok (.iconst (-1), 1) := by decide +kernel
theorem dX12_scarcestPart_26 : decode cX12_scarcestPart 26 = .ok (.if_icmp .ne 7, 3) := by decide +kernel
theorem dX12_scarcestPart_29 : decode cX12_scarcestPart 29 = .ok (.iconst 0, 1) := by decide +kernel
theorem dX12_scarcestPart_30 : decode cX12_scarcestPart 30 = .ok (.goto 8, 3) := by decide +kernel
theorem dX12_scarcestPart_33 : decode cX12_scarcestPart 33 = .ok (.aload_n 0, 1) := by decide +kernel
theorem dX12_scarcestPart_34 : decode cX12_scarcestPart 34 = .ok (.iload_n 1, 1) := by decide +kernel
theorem dX12_scarcestPart_35 : decode cX12_scarcestPart 35 = .ok (.invokevirtual 212, 3) := by decide +kernel
theorem dX12_scarcestPart_38 : decode cX12_scarcestPart 38 = .ok (.if_icmp .le 5, 3) := by decide +kernel
theorem dX12_scarcestPart_41 : decode cX12_scarcestPart 41 = .ok (.iload_n 2, 1) := by decide +kernel
theorem dX12_scarcestPart_42 : decode cX12_scarcestPart 42 = .ok (.istore_n 1, 1) := by decide +kernel
theorem dX12_scarcestPart_43 : decode cX12_scarcestPart 43 = .ok (.iinc 2 1, 3) := by decide +kernel
theorem dX12_scarcestPart_46 : decode cX12_scarcestPart 46 = .ok (.goto (-37), 3) := by decide +kernel
theorem dX12_scarcestPart_49 : decode cX12_scarcestPart 49 = .ok (.iload_n 1, 1) := by decide +kernel
theorem dX12_scarcestPart_50 : decode cX12_scarcestPart 50 = .ok (.ireturn, 1) := by decide +kernel
theorem dX12_dayOf_0 : decode cX12_dayOf 0 = .ok (.aload_n 0, 1) := by decide +kernel
theorem dX12_dayOf_1 : decode cX12_dayOf 1 = .ok (.iload_n 1, 1) := by decide +kernel
theorem dX12_dayOf_2 : decode cX12_dayOf 2 = .ok (.invokevirtual 194, 3) := by decide +kernel
theorem dX12_dayOf_5 : decode cX12_dayOf 5 = .ok (.iload_n 2, 1) := by decide +kernel
theorem dX12_dayOf_6 : decode cX12_dayOf 6 = .ok (.if_icmp .lt 10, 3) := by decide +kernel
theorem dX12_dayOf_9 : decode cX12_dayOf 9 = .ok (.aload_n 0, 1) := by decide +kernel
theorem dX12_dayOf_10 : decode cX12_dayOf 10 = .ok (.getfield 87, 3) := by decide +kernel
theorem dX12_dayOf_13 : decode cX12_dayOf 13 = .ok (.iconst 0, 1) := by decide +kernel
theorem dX12_dayOf_14 : decode cX12_dayOf 14 = .ok (.iaload, 1) := by decide +kernel
theorem dX12_dayOf_15 : decode cX12_dayOf 15 = .ok (.ireturn, 1) := by decide +kernel
theorem dX12_dayOf_16 : decode cX12_dayOf 16 = .ok (.aload_n 0, 1) := by decide +kernel
theorem dX12_dayOf_17 : decode cX12_dayOf 17 = .ok (.getfield 87, 3) := by decide +kernel
theorem dX12_dayOf_20 : decode cX12_dayOf 20 = .ok (.iconst 0, 1) := by decide +kernel
theorem dX12_dayOf_21 : decode cX12_dayOf 21 = .ok (.iaload, 1) := by decide +kernel
theorem dX12_dayOf_22 : decode cX12_dayOf 22 = .ok (.aload_n 0, 1) := by decide +kernel
theorem dX12_dayOf_23 : decode cX12_dayOf 23 = .ok (.getfield 81, 3) := by decide +kernel
theorem dX12_dayOf_26 : decode cX12_dayOf 26 = .ok (.sipush 176, 3) := by decide +kernel
theorem dX12_dayOf_29 : decode cX12_dayOf 29 = .ok (.iload_n 1, 1) := by decide +kernel
theorem dX12_dayOf_30 : decode cX12_dayOf 30 = .ok (.iadd, 1) := by decide +kernel
theorem dX12_dayOf_31 : decode cX12_dayOf 31 = .ok (.iaload, 1) := by decide +kernel
theorem dX12_dayOf_32 : decode cX12_dayOf 32 = .ok (.iadd, 1) := by decide +kernel
theorem dX12_dayOf_33 : decode cX12_dayOf 33 = .ok (.istore_n 3, 1) := by decide +kernel
theorem dX12_dayOf_34 : decode cX12_dayOf 34 = .ok (.iload_n 3, 1) := by decide +kernel
theorem dX12_dayOf_35 : decode cX12_dayOf 35 = .ok (.istore 4, 2) := by decide +kernel
theorem dX12_dayOf_37 : decode cX12_dayOf 37 = .ok (.iconst 0, 1) := by decide +kernel
theorem dX12_dayOf_38 : decode cX12_dayOf 38 = .ok (.istore 5, 2) := by decide +kernel
theorem dX12_dayOf_40 : decode cX12_dayOf 40 = .ok (.iload 5, 2) := by decide +kernel
theorem dX12_dayOf_42 : decode cX12_dayOf 42 = .ok (.aload_n 0, 1) := by decide +kernel
theorem dX12_dayOf_43 : decode cX12_dayOf 43 = .ok (.getfield 87, 3) := by decide +kernel
theorem dX12_dayOf_46 : decode cX12_dayOf 46 = .ok (.iconst 2, 1) := by decide +kernel
theorem dX12_dayOf_47 : decode cX12_dayOf 47 = .ok (.iaload, 1) := by decide +kernel
theorem dX12_dayOf_48 : decode cX12_dayOf 48 = .ok (.if_icmp .ge 69, 3) := by decide +kernel
theorem dX12_dayOf_51 : decode cX12_dayOf 51 = .ok (.aload_n 0, 1) := by decide +kernel
theorem dX12_dayOf_52 : decode cX12_dayOf 52 = .ok (.getfield 87, 3) := by decide +kernel
theorem dX12_dayOf_55 : decode cX12_dayOf 55 = .ok (.bipush 33, 2) := by decide +kernel
theorem dX12_dayOf_57 : decode cX12_dayOf 57 = .ok (.iconst 3, 1) := by decide +kernel
theorem dX12_dayOf_58 : decode cX12_dayOf 58 = .ok (.iload 5, 2) := by decide +kernel
theorem dX12_dayOf_60 : decode cX12_dayOf 60 = .ok (.imul, 1) := by decide +kernel
theorem dX12_dayOf_61 : decode cX12_dayOf 61 = .ok (.iadd, 1) := by decide +kernel
theorem dX12_dayOf_62 : decode cX12_dayOf 62 = .ok (.iconst 2, 1) := by decide +kernel
theorem dX12_dayOf_63 : decode cX12_dayOf 63 = .ok (.iadd, 1) := by decide +kernel
theorem dX12_dayOf_64 : decode cX12_dayOf 64 = .ok (.iaload, 1) := by decide +kernel
theorem dX12_dayOf_65 : decode cX12_dayOf 65 = .ok (.istore 6, 2) := by decide +kernel
theorem dX12_dayOf_67 : decode cX12_dayOf 67 = .ok (.aload_n 0, 1) := by decide +kernel
theorem dX12_dayOf_68 : decode cX12_dayOf 68 = .ok (.getfield 87, 3) := by decide +kernel
theorem dX12_dayOf_71 : decode cX12_dayOf 71 = .ok (.bipush 33, 2) := by decide +kernel
theorem dX12_dayOf_73 : decode cX12_dayOf 73 = .ok (.iconst 3, 1) := by decide +kernel
theorem dX12_dayOf_74 : decode cX12_dayOf 74 = .ok (.iload 5, 2) := by decide +kernel
theorem dX12_dayOf_76 : decode cX12_dayOf 76 = .ok (.imul, 1) := by decide +kernel
theorem dX12_dayOf_77 : decode cX12_dayOf 77 = .ok (.iadd, 1) := by decide +kernel
theorem dX12_dayOf_78 : decode cX12_dayOf 78 = .ok (.iaload, 1) := by decide +kernel
theorem dX12_dayOf_79 : decode cX12_dayOf 79 = .ok (.iload_n 1, 1) := by decide +kernel
theorem dX12_dayOf_80 : decode cX12_dayOf 80 = .ok (.if_icmp .ne 31, 3) := by decide +kernel
theorem dX12_dayOf_83 : decode cX12_dayOf 83 = .ok (.iload 6, 2) := by decide +kernel
theorem dX12_dayOf_85 : decode cX12_dayOf 85 = .ok (.iload 4, 2) := by decide +kernel
theorem dX12_dayOf_87 : decode cX12_dayOf 87 = .ok (.if_icmp .ge 24, 3) := by decide +kernel
theorem dX12_dayOf_90 : decode cX12_dayOf 90 = .ok (.aload_n 0, 1) := by decide +kernel
theorem dX12_dayOf_91 : decode cX12_dayOf 91 = .ok (.iload_n 1, 1) := by decide +kernel
theorem dX12_dayOf_92 : decode cX12_dayOf 92 = .ok (.invokevirtual 194, 3) := by decide +kernel
theorem dX12_dayOf_95 : decode cX12_dayOf 95 = .ok (.aload_n 0, 1) := by decide +kernel
theorem dX12_dayOf_96 : decode cX12_dayOf 96 = .ok (.iload_n 1, 1) := by decide +kernel
theorem dX12_dayOf_97 : decode cX12_dayOf 97 = .ok (.iload 6, 2) := by decide +kernel
theorem dX12_dayOf_99 : decode cX12_dayOf 99 = .ok (.invokevirtual 191, 3) := by decide +kernel
theorem dX12_dayOf_102 : decode cX12_dayOf 102 = .ok (.iadd, 1) := by decide +kernel
theorem dX12_dayOf_103 : decode cX12_dayOf 103 = .ok (.iload_n 2, 1) := by decide +kernel
theorem dX12_dayOf_104 : decode cX12_dayOf 104 = .ok (.if_icmp .lt 7, 3) := by decide +kernel
theorem dX12_dayOf_107 : decode cX12_dayOf 107 = .ok (.iload 6, 2) := by decide +kernel
theorem dX12_dayOf_109 : decode cX12_dayOf 109 = .ok (.istore 4, 2) := by decide +kernel
theorem dX12_dayOf_111 : decode cX12_dayOf 111 = .ok (.iinc 5 1, 3) := by decide +kernel
theorem dX12_dayOf_114 : decode cX12_dayOf 114 = .ok (.goto (-74), 3) := by decide +kernel
theorem dX12_dayOf_117 : decode cX12_dayOf 117 = .ok (.iload 4, 2) := by decide +kernel
theorem dX12_dayOf_119 : decode cX12_dayOf 119 = .ok (.ireturn, 1) := by decide +kernel
theorem dX12_promises_0 : decode cX12_promises 0 = .ok (.aload_n 0, 1) := by decide +kernel
theorem dX12_promises_1 : decode cX12_promises 1 = .ok (.getfield 87, 3) := by decide +kernel
theorem dX12_promises_4 : decode cX12_promises 4 = .ok (.iconst 0, 1) := by decide +kernel
theorem dX12_promises_5 : decode cX12_promises 5 = .ok (.iaload, 1) := by decide +kernel
theorem dX12_promises_6 : decode cX12_promises 6 = .ok (.istore_n 3, 1) := by decide +kernel
theorem dX12_promises_7 : decode cX12_promises 7 = .ok (.iconst 0, 1) := by decide +kernel
theorem dX12_promises_8 : decode cX12_promises 8 = .ok (.istore 4, 2) := by decide +kernel
theorem dX12_promises_10 : decode cX12_promises 10 = .ok (.iload 4, 2) := by decide +kernel
theorem dX12_promises_12 : decode cX12_promises 12 = .ok (.aload_n 0, 1) := by decide +kernel
theorem dX12_promises_13 : decode cX12_promises 13 = .ok (.getfield 81, 3) := by decide +kernel
theorem dX12_promises_16 : decode cX12_promises 16 = .ok (.iconst 0, 1) := by decide +kernel
theorem dX12_promises_17 : decode cX12_promises 17 = .ok (.iaload, 1) := by decide +kernel
theorem dX12_promises_18 : decode cX12_promises 18 = .ok (.if_icmp .ge 39, 3) := by decide +kernel
theorem dX12_promises_21 : decode cX12_promises 21 = .ok (.aload_n 0, 1) := by decide +kernel
theorem dX12_promises_22 : decode cX12_promises 22 = .ok (.iload_n 1, 1) := by decide +kernel
theorem dX12_promises_23 : decode cX12_promises 23 = .ok (.iload 4, 2) := by decide +kernel
theorem dX12_promises_25 : decode cX12_promises 25 = .ok (.invokevirtual 176, 3) := by decide +kernel
theorem dX12_promises_28 : decode cX12_promises 28 = .ok (.ifCond .le 23, 3) := by decide +kernel
theorem dX12_promises_31 : decode cX12_promises 31 = .ok (.iload_n 3, 1) := by decide +kernel
theorem dX12_promises_32 : decode cX12_promises 32 = .ok (.aload_n 0, 1) := by decide +kernel
theorem dX12_promises_33 : decode cX12_promises 33 = .ok (.iload 4, 2) := by decide +kernel
theorem dX12_promises_35 : decode cX12_promises 35 = .ok (.iload_n 2, 1) := by decide +kernel
theorem dX12_promises_36 : decode cX12_promises 36 = .ok (.aload_n 0, 1) := by decide +kernel
theorem dX12_promises_37 : decode cX12_promises 37 = .ok (.iload_n 1, 1) := by decide +kernel
theorem dX12_promises_38 : decode cX12_promises 38 = .ok (.iload 4, 2) := by decide +kernel
theorem dX12_promises_40 : decode cX12_promises 40 = .ok (.invokevirtual 176, 3) := by decide +kernel
theorem dX12_promises_43 : decode cX12_promises 43 = .ok (.imul, 1) := by decide +kernel
theorem dX12_promises_44 : decode cX12_promises 44 = .ok (.invokevirtual 215, 3) := by decide +kernel
theorem dX12_promises_47 : decode cX12_promises 47 = .ok (.invokestatic 183, 3) := by decide +kernel
theorem dX12_promises_50 : decode cX12_promises 50 = .ok (.istore_n 3, 1) := by decide +kernel
theorem dX12_promises_51 : decode cX12_promises 51 = .ok (.iinc 4 1, 3) := by decide +kernel
theorem dX12_promises_54 : decode cX12_promises 54 = .ok (.goto (-44), 3) := by decide +kernel
theorem dX12_promises_57 : decode cX12_promises 57 = .ok (.iload_n 3, 1) := by decide +kernel
theorem dX12_promises_58 : decode cX12_promises 58 = .ok (.ireturn, 1) := by decide +kernel
theorem dX12_promise_0 : decode cX12_promise 0 = .ok (.aload_n 0, 1) := by decide +kernel
theorem dX12_promise_1 : decode cX12_promise 1 = .ok (.iconst 0, 1) := by decide +kernel
theorem dX12_promise_2 : decode cX12_promise 2 = .ok (.putfield 3, 3) := by decide +kernel
theorem dX12_promise_5 : decode cX12_promise 5 = .ok (.aload_n 0, 1) := by decide +kernel
theorem dX12_promise_6 : decode cX12_promise 6 = .ok (.iload_n 1, 1) := by decide +kernel
theorem dX12_promise_7 : decode cX12_promise 7 = .ok (.invokevirtual 169, 3) := by decide +kernel
theorem dX12_promise_10 : decode cX12_promise 10 = .ok (.ifCond .ne 27, 3) := by decide +kernel
theorem dX12_promise_13 : decode cX12_promise 13 = .ok (.aload_n 0, 1) := by decide +kernel
theorem dX12_promise_14 : decode cX12_promise 14 = .ok (.iload_n 2, 1) := by decide +kernel
theorem dX12_promise_15 : decode cX12_promise 15 = .ok (.iconst 1, 1) := by decide +kernel
theorem dX12_promise_16 : decode cX12_promise 16 = .ok (.sipush 999, 3) := by decide +kernel
theorem dX12_promise_19 : decode cX12_promise 19 = .ok (.invokestatic 72, 3) := by decide +kernel
theorem dX12_promise_22 : decode cX12_promise 22 = .ok (.ifCond .ne 7, 3) := by decide +kernel
theorem dX12_promise_25 : decode cX12_promise 25 = .ok (.iconst 1, 1) := by decide +kernel
theorem dX12_promise_26 : decode cX12_promise 26 = .ok (.goto 4, 3) := by decide +kernel
theorem dX12_promise_29 : decode cX12_promise 29 = .ok (.iconst 0, 1) := by decide +kernel
theorem dX12_promise_30 : decode cX12_promise 30 = .ok (.iconst 2, 1) := by decide +kernel
theorem dX12_promise_31 : decode cX12_promise 31 = .ok (.invokevirtual 159, 3) := by decide +kernel
theorem dX12_promise_34 : decode cX12_promise 34 = .ok (.ifCond .eq 7, 3) := by decide +kernel
theorem dX12_promise_37 : decode cX12_promise 37 = .ok (.iconst 0, 1) := by decide +kernel
theorem dX12_promise_38 : decode cX12_promise 38 = .ok (.goto 9, 3) := by decide +kernel
theorem dX12_promise_41 : decode cX12_promise 41 = .ok (.aload_n 0, 1) := by decide +kernel
theorem dX12_promise_42 : decode cX12_promise 42 = .ok (.iload_n 1, 1) := by decide +kernel
theorem dX12_promise_43 : decode cX12_promise 43 = .ok (.iload_n 2, 1) := by decide +kernel
theorem dX12_promise_44 : decode cX12_promise 44 = .ok (.invokevirtual 218, 3) := by decide +kernel
theorem dX12_promise_47 : decode cX12_promise 47 = .ok (.ireturn, 1) := by decide +kernel
theorem dX12_isOver_0 : decode cX12_isOver 0 = .ok (.aload_n 0, 1) := by decide +kernel
theorem dX12_isOver_1 : decode cX12_isOver 1 = .ok (.iload_n 1, 1) := by decide +kernel
theorem dX12_isOver_2 : decode cX12_isOver 2 = .ok (.bipush 7, 2) := by decide +kernel
theorem dX12_isOver_4 : decode cX12_isOver 4 = .ok (.invokevirtual 166, 3) := by decide +kernel
theorem dX12_isOver_7 : decode cX12_isOver 7 = .ok (.iconst 1, 1) := by decide +kernel
theorem dX12_isOver_8 : decode cX12_isOver 8 = .ok (.if_icmp .eq 18, 3) := by decide +kernel
theorem dX12_isOver_11 : decode cX12_isOver 11 = .ok (.aload_n 0, 1) := by decide +kernel
theorem dX12_isOver_12 : decode cX12_isOver 12 = .ok (.iload_n 1, 1) := by decide +kernel
theorem dX12_isOver_13 : decode cX12_isOver 13 = .ok (.iconst 5, 1) := by decide +kernel
theorem dX12_isOver_14 : decode cX12_isOver 14 = .ok (.invokevirtual 166, 3) := by decide +kernel
theorem dX12_isOver_17 : decode cX12_isOver 17 = .ok (.aload_n 0, 1) := by decide +kernel
theorem dX12_isOver_18 : decode cX12_isOver 18 = .ok (.iload_n 1, 1) := by decide +kernel
theorem dX12_isOver_19 : decode cX12_isOver 19 = .ok (.iconst 1, 1) := by decide +kernel
theorem dX12_isOver_20 : decode cX12_isOver 20 = .ok (.invokevirtual 166, 3) := by decide +kernel
theorem dX12_isOver_23 : decode cX12_isOver 23 = .ok (.if_icmp .ne 7, 3) := by decide +kernel
theorem dX12_isOver_26 : decode cX12_isOver 26 = .ok (.iconst 1, 1) := by decide +kernel
theorem dX12_isOver_27 : decode cX12_isOver 27 = .ok (.goto 4, 3) := by decide +kernel
theorem dX12_isOver_30 : decode cX12_isOver 30 = .ok (.iconst 0, 1) := by decide +kernel
theorem dX12_isOver_31 : decode cX12_isOver 31 = .ok (.ireturn, 1) := by decide +kernel
theorem dX12_promiseOf_0 : decode cX12_promiseOf 0 = .ok (.aload_n 0, 1) := by decide +kernel
theorem dX12_promiseOf_1 : decode cX12_promiseOf 1 = .ok (.iconst 0, 1) := by decide +kernel
theorem dX12_promiseOf_2 : decode cX12_promiseOf 2 = .ok (.putfield 3, 3) := by decide +kernel
theorem dX12_promiseOf_5 : decode cX12_promiseOf 5 = .ok (.aload_n 0, 1) := by decide +kernel
theorem dX12_promiseOf_6 : decode cX12_promiseOf 6 = .ok (.iload_n 1, 1) := by decide +kernel
theorem dX12_promiseOf_7 : decode cX12_promiseOf 7 = .ok (.invokevirtual 206, 3) := by decide +kernel
theorem dX12_promiseOf_10 : decode cX12_promiseOf 10 = .ok (.ifCond .eq 5, 3) := by decide +kernel
theorem dX12_promiseOf_13 : decode cX12_promiseOf 13 = .ok (.iconst 0, 1) := by decide +kernel
theorem dX12_promiseOf_14 : decode cX12_promiseOf 14 = .ok (.ireturn, 1) := by decide +kernel
theorem dX12_promiseOf_15 : decode cX12_promiseOf 15 = .ok (.aload_n 0, 1) := by decide +kernel
theorem dX12_promiseOf_16 : decode cX12_promiseOf 16 = .ok (.iload_n 1, 1) := by decide +kernel
theorem dX12_promiseOf_17 : decode cX12_promiseOf 17 = .ok (.invokevirtual 221, 3) := by decide +kernel
theorem dX12_promiseOf_20 : decode cX12_promiseOf 20 = .ok (.ifCond .eq 7, 3) := by decide +kernel
theorem dX12_promiseOf_23 : decode cX12_promiseOf 23 = .ok (.iconst (-1), 1) := by decide +kernel
theorem dX12_promiseOf_24 : decode cX12_promiseOf 24 = .ok (.goto 18, 3) := by decide +kernel
theorem dX12_promiseOf_27 : decode cX12_promiseOf 27 = .ok (.aload_n 0, 1) := by decide +kernel
theorem dX12_promiseOf_28 : decode cX12_promiseOf 28 = .ok (.aload_n 0, 1) := by decide +kernel
theorem dX12_promiseOf_29 : decode cX12_promiseOf 29 = .ok (.iload_n 1, 1) := by decide +kernel
theorem dX12_promiseOf_30 : decode cX12_promiseOf 30 = .ok (.iconst 0, 1) := by decide +kernel
theorem dX12_promiseOf_31 : decode cX12_promiseOf 31 = .ok (.invokevirtual 166, 3) := by decide +kernel
theorem dX12_promiseOf_34 : decode cX12_promiseOf 34 = .ok (.aload_n 0, 1) := by decide +kernel
theorem dX12_promiseOf_35 : decode cX12_promiseOf 35 = .ok (.iload_n 1, 1) := by decide +kernel
theorem dX12_promiseOf_36 : decode cX12_promiseOf 36 = .ok (.invokevirtual 209, 3) := by decide +kernel
theorem dX12_promiseOf_39 : decode cX12_promiseOf 39 = .ok (.invokevirtual 218, 3) := by decide +kernel
theorem dX12_promiseOf_42 : decode cX12_promiseOf 42 = .ok (.ireturn, 1) := by decide +kernel
theorem dX12_delayingPart_0 : decode cX12_delayingPart 0 = .ok (.aload_n 0, 1) := by decide +kernel
theorem dX12_delayingPart_1 : decode cX12_delayingPart 1 = .ok (.iconst 0, 1) := by decide +kernel
theorem dX12_delayingPart_2 : decode cX12_delayingPart 2 = .ok (.putfield 3, 3) := by decide +kernel
theorem dX12_delayingPart_5 : decode cX12_delayingPart 5 = .ok (.aload_n 0, 1) := by decide +kernel
theorem dX12_delayingPart_6 : decode cX12_delayingPart 6 = .ok (.iload_n 1, 1) := by decide +kernel
theorem dX12_delayingPart_7 : decode cX12_delayingPart 7 = .ok (.invokevirtual 206, 3) := by decide +kernel
theorem dX12_delayingPart_10 : decode cX12_delayingPart 10 = .ok (.ifCond .eq 5, 3) := by decide +kernel
theorem dX12_delayingPart_13 : decode cX12_delayingPart 13 = .ok (.iconst 0, 1) := by decide +kernel
theorem dX12_delayingPart_14 : decode cX12_delayingPart 14 = .ok (.ireturn, 1) := by decide +kernel
theorem dX12_delayingPart_15 : decode cX12_delayingPart 15 = .ok (.aload_n 0, 1) := by decide +kernel
theorem dX12_delayingPart_16 : decode cX12_delayingPart 16 = .ok (.iload_n 1, 1) := by decide +kernel
theorem dX12_delayingPart_17 : decode cX12_delayingPart 17 = .ok (.iconst 0, 1) := by decide +kernel
theorem dX12_delayingPart_18 : decode cX12_delayingPart 18 = .ok (.invokevirtual 166, 3) := by decide +kernel
theorem dX12_delayingPart_21 : decode cX12_delayingPart 21 = .ok (.istore_n 2, 1) := by decide +kernel
theorem dX12_delayingPart_22 : decode cX12_delayingPart 22 = .ok (.aload_n 0, 1) := by decide +kernel
theorem dX12_delayingPart_23 : decode cX12_delayingPart 23 = .ok (.iload_n 1, 1) := by decide +kernel
theorem dX12_delayingPart_24 : decode cX12_delayingPart 24 = .ok (.invokevirtual 209, 3) := by decide +kernel
theorem dX12_delayingPart_27 : decode cX12_delayingPart 27 = .ok (.istore_n 3, 1) := by decide +kernel
theorem dX12_delayingPart_28 : decode cX12_delayingPart 28 = .ok (.iconst (-1), 1) := by decide +kernel
theorem dX12_delayingPart_29 : decode cX12_delayingPart 29 = .ok (.istore 4, 2) := by decide +kernel
theorem dX12_delayingPart_31 : decode cX12_delayingPart 31 = .ok (.iconst 0, 1) := by decide +kernel
theorem dX12_delayingPart_32 : decode cX12_delayingPart 32 = .ok (.istore 5, 2) := by decide +kernel
theorem dX12_delayingPart_34 : decode cX12_delayingPart 34 = .ok (.iload 5, 2) := by decide +kernel
theorem dX12_delayingPart_36 : decode cX12_delayingPart 36 = .ok (.aload_n 0, 1) := by decide +kernel
theorem dX12_delayingPart_37 : decode cX12_delayingPart 37 = .ok (.getfield 81, 3) := by decide +kernel
theorem dX12_delayingPart_40 : decode cX12_delayingPart 40 = .ok (.iconst 0, 1) := by decide +kernel
theorem dX12_delayingPart_41 : decode cX12_delayingPart 41 = .ok (.iaload, 1) := by decide +kernel
theorem dX12_delayingPart_42 : decode cX12_delayingPart 42 = .ok (.if_icmp .ge 66, 3) := by decide +kernel
theorem dX12_delayingPart_45 : decode cX12_delayingPart 45 = .ok (.iload_n 3, 1) := by decide +kernel
theorem dX12_delayingPart_46 : decode cX12_delayingPart 46 = .ok (.ifCond .le 62, 3) := by decide +kernel
theorem dX12_delayingPart_49 : decode cX12_delayingPart 49 = .ok (.aload_n 0, 1) := by decide +kernel
theorem dX12_delayingPart_50 : decode cX12_delayingPart 50 = .ok (.iload_n 2, 1) := by decide +kernel
theorem dX12_delayingPart_51 : decode cX12_delayingPart 51 = .ok (.iload 5, 2) := by decide +kernel
theorem dX12_delayingPart_53 : decode cX12_delayingPart 53 = .ok (.invokevirtual 176, 3) := by decide +kernel
theorem dX12_delayingPart_56 : decode cX12_delayingPart 56 = .ok (.ifCond .le 46, 3) := by decide +kernel
theorem dX12_delayingPart_59 : decode cX12_delayingPart 59 = .ok (.iload 4, 2) := by decide +kernel
theorem dX12_delayingPart_61 : decode cX12_delayingPart 61 = .ok (.iconst (-1), 1) := by decide +kernel
theorem dX12_delayingPart_62 : decode cX12_delayingPart 62 = .ok (.if_icmp .eq 36, 3) := by decide +kernel
theorem dX12_delayingPart_65 : decode cX12_delayingPart 65 = .ok (.aload_n 0, 1) := by decide +kernel
theorem dX12_delayingPart_66 : decode cX12_delayingPart 66 = .ok (.iload 5, 2) := by decide +kernel
theorem dX12_delayingPart_68 : decode cX12_delayingPart 68 = .ok (.iload_n 3, 1) := by decide +kernel
theorem dX12_delayingPart_69 : decode cX12_delayingPart 69 = .ok (.aload_n 0, 1) := by decide +kernel
theorem dX12_delayingPart_70 : decode cX12_delayingPart 70 = .ok (.iload_n 2, 1) := by decide +kernel
theorem dX12_delayingPart_71 : decode cX12_delayingPart 71 = .ok (.iload 5, 2) := by decide +kernel
theorem dX12_delayingPart_73 : decode cX12_delayingPart 73 = .ok (.invokevirtual 176, 3) := by decide +kernel
theorem dX12_delayingPart_76 : decode cX12_delayingPart 76 = .ok (.imul, 1) := by decide +kernel
theorem dX12_delayingPart_77 : decode cX12_delayingPart 77 = .ok (.invokevirtual 215, 3) := by decide +kernel
theorem dX12_delayingPart_80 : decode cX12_delayingPart 80 = .ok (.aload_n 0, 1) := by decide +kernel
theorem dX12_delayingPart_81 : decode cX12_delayingPart 81 = .ok (.iload 4, 2) := by decide +kernel
theorem dX12_delayingPart_83 : decode cX12_delayingPart 83 = .ok (.iload_n 3, 1) := by decide +kernel
theorem dX12_delayingPart_84 : decode cX12_delayingPart 84 = .ok (.aload_n 0, 1) := by decide +kernel
theorem dX12_delayingPart_85 : decode cX12_delayingPart 85 = .ok (.iload_n 2, 1) := by decide +kernel
theorem dX12_delayingPart_86 : decode cX12_delayingPart 86 = .ok (.iload 4, 2) := by decide +kernel
theorem dX12_delayingPart_88 : decode cX12_delayingPart 88 = .ok (.invokevirtual 176, 3) := by decide +kernel
theorem dX12_delayingPart_91 : decode cX12_delayingPart 91 = .ok (.imul, 1) := by decide +kernel
theorem dX12_delayingPart_92 : decode cX12_delayingPart 92 = .ok (.invokevirtual 215, 3) := by decide +kernel
theorem dX12_delayingPart_95 : decode cX12_delayingPart 95 = .ok (.if_icmp .le 7, 3) := by decide +kernel
theorem dX12_delayingPart_98 : decode cX12_delayingPart 98 = .ok (.iload 5, 2) := by decide +kernel
theorem dX12_delayingPart_100 : decode cX12_delayingPart 100 = .ok (.istore 4, 2) := by decide +kernel
theorem dX12_delayingPart_102 : decode cX12_delayingPart 102 = .ok (.iinc 5 1, 3) := by decide +kernel
theorem dX12_delayingPart_105 : decode cX12_delayingPart 105 = .ok (.goto (-71), 3) := by decide +kernel
theorem dX12_delayingPart_108 : decode cX12_delayingPart 108 = .ok (.iload 4, 2) := by decide +kernel
theorem dX12_delayingPart_110 : decode cX12_delayingPart 110 = .ok (.ireturn, 1) := by decide +kernel
theorem dX12_lateOrders_0 : decode cX12_lateOrders 0 = .ok (.aload_n 0, 1) := by decide +kernel
theorem dX12_lateOrders_1 : decode cX12_lateOrders 1 = .ok (.iconst 0, 1) := by decide +kernel
theorem dX12_lateOrders_2 : decode cX12_lateOrders 2 = .ok (.putfield 3, 3) := by decide +kernel
theorem dX12_lateOrders_5 : decode cX12_lateOrders 5 = .ok (.iconst 0, 1) := by decide +kernel
theorem dX12_lateOrders_6 : decode cX12_lateOrders 6 = .ok (.istore_n 1, 1) := by decide +kernel
theorem dX12_lateOrders_7 : decode cX12_lateOrders 7 = .ok (.iconst 0, 1) := by decide +kernel
theorem dX12_lateOrders_8 : decode cX12_lateOrders 8 = .ok (.istore_n 2, 1) := by decide +kernel
theorem dX12_lateOrders_9 : decode cX12_lateOrders 9 = .ok (.iload_n 2, 1) := by decide +kernel
theorem dX12_lateOrders_10 : decode cX12_lateOrders 10 = .ok (.aload_n 0, 1) := by decide +kernel
theorem dX12_lateOrders_11 : decode cX12_lateOrders 11 = .ok (.getfield 87, 3) := by decide +kernel
theorem dX12_lateOrders_14 : decode cX12_lateOrders 14 = .ok (.iconst 1, 1) := by decide +kernel
theorem dX12_lateOrders_15 : decode cX12_lateOrders 15 = .ok (.iaload, 1) := by decide +kernel
theorem dX12_lateOrders_16 : decode cX12_lateOrders 16 = .ok (.if_icmp .ge 51, 3) := by decide +kernel
theorem dX12_lateOrders_19 : decode cX12_lateOrders 19 = .ok (.iload_n 1, 1) := by decide +kernel
theorem dX12_lateOrders_20 : decode cX12_lateOrders 20 = .ok (.aload_n 0, 1) := by decide +kernel
theorem dX12_lateOrders_21 : decode cX12_lateOrders 21 = .ok (.iload_n 2, 1) := by decide +kernel
theorem dX12_lateOrders_22 : decode cX12_lateOrders 22 = .ok (.invokevirtual 209, 3) := by decide +kernel
theorem dX12_lateOrders_25 : decode cX12_lateOrders 25 = .ok (.ifCond .le 33, 3) := by decide +kernel
theorem dX12_lateOrders_28 : decode cX12_lateOrders 28 = .ok (.aload_n 0, 1) := by decide +kernel
theorem dX12_lateOrders_29 : decode cX12_lateOrders 29 = .ok (.aload_n 0, 1) := by decide +kernel
theorem dX12_lateOrders_30 : decode cX12_lateOrders 30 = .ok (.iload_n 2, 1) := by decide +kernel
theorem dX12_lateOrders_31 : decode cX12_lateOrders 31 = .ok (.iconst 0, 1) := by decide +kernel
theorem dX12_lateOrders_32 : decode cX12_lateOrders 32 = .ok (.invokevirtual 166, 3) := by decide +kernel
theorem dX12_lateOrders_35 : decode cX12_lateOrders 35 = .ok (.aload_n 0, 1) := by decide +kernel
theorem dX12_lateOrders_36 : decode cX12_lateOrders 36 = .ok (.iload_n 2, 1) := by decide +kernel
theorem dX12_lateOrders_37 : decode cX12_lateOrders 37 = .ok (.invokevirtual 209, 3) := by decide +kernel
theorem dX12_lateOrders_40 : decode cX12_lateOrders 40 = .ok (.invokevirtual 218, 3) := by decide +kernel
theorem dX12_lateOrders_43 : decode cX12_lateOrders 43 = .ok (.aload_n 0, 1) := by decide +kernel
theorem dX12_lateOrders_44 : decode cX12_lateOrders 44 = .ok (.iload_n 2, 1) := by decide +kernel
theorem dX12_lateOrders_45 : decode cX12_lateOrders 45 = .ok (.iconst 3, 1) := by decide +kernel
theorem dX12_lateOrders_46 : decode cX12_lateOrders 46 = .ok (.invokevirtual 166, 3) := by decide +kernel
theorem dX12_lateOrders_49 : decode cX12_lateOrders 49 = .ok (.if_icmp .le 9, 3) := by decide +kernel
theorem dX12_lateOrders_52 : decode cX12_lateOrders 52 = .ok (.iconst 1, 1) := by decide +kernel
theorem dX12_lateOrders_53 : decode cX12_lateOrders 53 = .ok (.iload_n 2, 1) := by decide +kernel
theorem dX12_lateOrders_54 : decode cX12_lateOrders 54 = .ok (.ishl, 1) := by decide +kernel
theorem dX12_lateOrders_55 : decode cX12_lateOrders 55 = .ok (.goto 4, 3) := by decide +kernel
theorem dX12_lateOrders_58 : decode cX12_lateOrders 58 = .ok (.iconst 0, 1) := by decide +kernel
theorem dX12_lateOrders_59 : decode cX12_lateOrders 59 = .ok (.ior, 1) := by decide +kernel
theorem dX12_lateOrders_60 : decode cX12_lateOrders 60 = .ok (.istore_n 1, 1) := by decide +kernel
theorem dX12_lateOrders_61 : decode cX12_lateOrders 61 = .ok (.iinc 2 1, 3) := by decide +kernel
theorem dX12_lateOrders_64 : decode cX12_lateOrders 64 = .ok (.goto (-55), 3) := by decide +kernel
theorem dX12_lateOrders_67 : decode cX12_lateOrders 67 = .ok (.iload_n 1, 1) := by decide +kernel
theorem dX12_lateOrders_68 : decode cX12_lateOrders 68 = .ok (.ireturn, 1) := by decide +kernel
theorem dX12_isAhead_0 : decode cX12_isAhead 0 = .ok (.aload_n 0, 1) := by decide +kernel
theorem dX12_isAhead_1 : decode cX12_isAhead 1 = .ok (.iload_n 1, 1) := by decide +kernel
theorem dX12_isAhead_2 : decode cX12_isAhead 2 = .ok (.iconst 3, 1) := by decide +kernel
theorem dX12_isAhead_3 : decode cX12_isAhead 3 = .ok (.invokevirtual 166, 3) := by decide +kernel
theorem dX12_isAhead_6 : decode cX12_isAhead 6 = .ok (.aload_n 0, 1) := by decide +kernel
theorem dX12_isAhead_7 : decode cX12_isAhead 7 = .ok (.iload_n 2, 1) := by decide +kernel
theorem dX12_isAhead_8 : decode cX12_isAhead 8 = .ok (.iconst 3, 1) := by decide +kernel
theorem dX12_isAhead_9 : decode cX12_isAhead 9 = .ok (.invokevirtual 166, 3) := by decide +kernel
theorem dX12_isAhead_12 : decode cX12_isAhead 12 = .ok (.if_icmp .eq 24, 3) := by decide +kernel
theorem dX12_isAhead_15 : decode cX12_isAhead 15 = .ok (.aload_n 0, 1) := by decide +kernel
theorem dX12_isAhead_16 : decode cX12_isAhead 16 = .ok (.iload_n 1, 1) := by decide +kernel
theorem dX12_isAhead_17 : decode cX12_isAhead 17 = .ok (.iconst 3, 1) := by decide +kernel
theorem dX12_isAhead_18 : decode cX12_isAhead 18 = .ok (.invokevirtual 166, 3) := by decide +kernel
theorem dX12_isAhead_21 : decode cX12_isAhead 21 = .ok (.aload_n 0, 1) := by decide +kernel
theorem dX12_isAhead_22 : decode cX12_isAhead 22 = .ok (.iload_n 2, 1) := by decide +kernel
theorem dX12_isAhead_23 : decode cX12_isAhead 23 = .ok (.iconst 3, 1) := by decide +kernel
theorem dX12_isAhead_24 : decode cX12_isAhead 24 = .ok (.invokevirtual 166, 3) := by decide +kernel
theorem dX12_isAhead_27 : decode cX12_isAhead 27 = .ok (.if_icmp .ge 7, 3) := by decide +kernel
theorem dX12_isAhead_30 : decode cX12_isAhead 30 = .ok (.iconst 1, 1) := by decide +kernel
theorem dX12_isAhead_31 : decode cX12_isAhead 31 = .ok (.goto 4, 3) := by decide +kernel
theorem dX12_isAhead_34 : decode cX12_isAhead 34 = .ok (.iconst 0, 1) := by decide +kernel
theorem dX12_isAhead_35 : decode cX12_isAhead 35 = .ok (.ireturn, 1) := by decide +kernel
theorem dX12_isAhead_36 : decode cX12_isAhead 36 = .ok (.aload_n 0, 1) := by decide +kernel
theorem dX12_isAhead_37 : decode cX12_isAhead 37 = .ok (.iload_n 1, 1) := by decide +kernel
theorem dX12_isAhead_38 : decode cX12_isAhead 38 = .ok (.iconst 2, 1) := by decide +kernel
theorem dX12_isAhead_39 : decode cX12_isAhead 39 = .ok (.invokevirtual 166, 3) := by decide +kernel
theorem dX12_isAhead_42 : decode cX12_isAhead 42 = .ok (.aload_n 0, 1) := by decide +kernel
theorem dX12_isAhead_43 : decode cX12_isAhead 43 = .ok (.iload_n 2, 1) := by decide +kernel
theorem dX12_isAhead_44 : decode cX12_isAhead 44 = .ok (.iconst 2, 1) := by decide +kernel
theorem dX12_isAhead_45 : decode cX12_isAhead 45 = .ok (.invokevirtual 166, 3) := by decide +kernel
theorem dX12_isAhead_48 : decode cX12_isAhead 48 = .ok (.if_icmp .eq 26, 3) := by decide +kernel
theorem dX12_isAhead_51 : decode cX12_isAhead 51 = .ok (.aload_n 0, 1) := by decide +kernel
theorem dX12_isAhead_52 : decode cX12_isAhead 52 = .ok (.iload_n 1, 1) := by decide +kernel
theorem dX12_isAhead_53 : decode cX12_isAhead 53 = .ok (.iconst 2, 1) := by decide +kernel
theorem dX12_isAhead_54 : decode cX12_isAhead 54 = .ok (.invokevirtual 166, 3) := by decide +kernel
theorem dX12_isAhead_57 : decode cX12_isAhead 57 = .ok (.aload_n 0, 1) := by decide +kernel
theorem dX12_isAhead_58 : decode cX12_isAhead 58 = .ok (.iload_n 2, 1) := by decide +kernel
theorem dX12_isAhead_59 : decode cX12_isAhead 59 = .ok (.iconst 2, 1) := by decide +kernel
theorem dX12_isAhead_60 : decode cX12_isAhead 60 = .ok (.invokevirtual 166, 3) := by decide +kernel
theorem dX12_isAhead_63 : decode cX12_isAhead 63 = .ok (.if_icmp .le 7, 3) := by decide +kernel
theorem dX12_isAhead_66 : decode cX12_isAhead 66 = .ok (.iconst 1, 1) := by decide +kernel
theorem dX12_isAhead_67 : decode cX12_isAhead 67 = .ok (.goto 17, 3) := by decide +kernel
theorem dX12_isAhead_70 : decode cX12_isAhead 70 = .ok (.iconst 0, 1) := by decide +kernel
theorem dX12_isAhead_71 : decode cX12_isAhead 71 = .ok (.goto 13, 3) := by decide +kernel
theorem dX12_isAhead_74 : decode cX12_isAhead 74 = .ok (.iload_n 1, 1) := by decide +kernel
theorem dX12_isAhead_75 : decode cX12_isAhead 75 = .ok (.iload_n 2, 1) := by decide +kernel
theorem dX12_isAhead_76 : decode cX12_isAhead 76 = .ok (.if_icmp .ge 7, 3) := by decide +kernel
theorem dX12_isAhead_79 : decode cX12_isAhead 79 = .ok (.iconst 1, 1) := by decide +kernel
theorem dX12_isAhead_80 : decode cX12_isAhead 80 = .ok (.goto 4, 3) := by decide +kernel
theorem dX12_isAhead_83 : decode cX12_isAhead 83 = .ok (.iconst 0, 1) := by decide +kernel
theorem dX12_isAhead_84 : decode cX12_isAhead 84 = .ok (.ireturn, 1) := by decide +kernel
theorem dX12_nextIn_0 : decode cX12_nextIn 0 = .ok (.iconst (-1), 1) := by decide +kernel
theorem dX12_nextIn_1 : decode cX12_nextIn 1 = .ok (.istore_n 2, 1) := by decide +kernel
theorem dX12_nextIn_2 : decode cX12_nextIn 2 = .ok (.iconst 0, 1) := by decide +kernel
theorem dX12_nextIn_3 : decode cX12_nextIn 3 = .ok (.istore_n 3, 1) := by decide +kernel
theorem dX12_nextIn_4 : decode cX12_nextIn 4 = .ok (.iload_n 3, 1) := by decide +kernel
theorem dX12_nextIn_5 : decode cX12_nextIn 5 = .ok (.aload_n 0, 1) := by decide +kernel
theorem dX12_nextIn_6 : decode cX12_nextIn 6 = .ok (.getfield 87, 3) := by decide +kernel
theorem dX12_nextIn_9 : decode cX12_nextIn 9 = .ok (.iconst 1, 1) := by decide +kernel
theorem dX12_nextIn_10 : decode cX12_nextIn 10 = .ok (.iaload, 1) := by decide +kernel
theorem dX12_nextIn_11 : decode cX12_nextIn 11 = .ok (.if_icmp .ge 100, 3) := by decide +kernel
theorem dX12_nextIn_14 : decode cX12_nextIn 14 = .ok (.aload_n 0, 1) := by decide +kernel
theorem dX12_nextIn_15 : decode cX12_nextIn 15 = .ok (.getfield 224, 3) := by decide +kernel
theorem dX12_nextIn_18 : decode cX12_nextIn 18 = .ok (.iload_n 3, 1) := by decide +kernel
theorem dX12_nextIn_19 : decode cX12_nextIn 19 = .ok (.ishr, 1) := by decide +kernel
theorem dX12_nextIn_20 : decode cX12_nextIn 20 = .ok (.iconst 1, 1) := by decide +kernel
theorem dX12_nextIn_21 : decode cX12_nextIn 21 = .ok (.iand, 1) := by decide +kernel
theorem dX12_nextIn_22 : decode cX12_nextIn 22 = .ok (.ifCond .ne 59, 3) := by decide +kernel
theorem dX12_nextIn_25 : decode cX12_nextIn 25 = .ok (.aload_n 0, 1) := by decide +kernel
theorem dX12_nextIn_26 : decode cX12_nextIn 26 = .ok (.iload_n 3, 1) := by decide +kernel
theorem dX12_nextIn_27 : decode cX12_nextIn 27 = .ok (.invokevirtual 209, 3) := by decide +kernel
theorem dX12_nextIn_30 : decode cX12_nextIn 30 = .ok (.aload_n 0, 1) := by decide +kernel
theorem dX12_nextIn_31 : decode cX12_nextIn 31 = .ok (.getfield 99, 3) := by decide +kernel
theorem dX12_nextIn_34 : decode cX12_nextIn 34 = .ok (.iload_n 3, 1) := by decide +kernel
theorem dX12_nextIn_35 : decode cX12_nextIn 35 = .ok (.iaload, 1) := by decide +kernel
theorem dX12_nextIn_36 : decode cX12_nextIn 36 = .ok (.if_icmp .le 45, 3) := by decide +kernel
theorem dX12_nextIn_39 : decode cX12_nextIn 39 = .ok (.aload_n 0, 1) := by decide +kernel
theorem dX12_nextIn_40 : decode cX12_nextIn 40 = .ok (.iload_n 3, 1) := by decide +kernel
theorem dX12_nextIn_41 : decode cX12_nextIn 41 = .ok (.iconst 2, 1) := by decide +kernel
theorem dX12_nextIn_42 : decode cX12_nextIn 42 = .ok (.invokevirtual 166, 3) := by decide +kernel
theorem dX12_nextIn_45 : decode cX12_nextIn 45 = .ok (.aload_n 0, 1) := by decide +kernel
theorem dX12_nextIn_46 : decode cX12_nextIn 46 = .ok (.getfield 81, 3) := by decide +kernel
theorem dX12_nextIn_49 : decode cX12_nextIn 49 = .ok (.sipush 388, 3) := by decide +kernel
theorem dX12_nextIn_52 : decode cX12_nextIn 52 = .ok (.iconst 3, 1) := by decide +kernel
theorem dX12_nextIn_53 : decode cX12_nextIn 53 = .ok (.iload_n 1, 1) := by decide +kernel
theorem dX12_nextIn_54 : decode cX12_nextIn 54 = .ok (.imul, 1) := by decide +kernel
theorem dX12_nextIn_55 : decode cX12_nextIn 55 = .ok (.iadd, 1) := by decide +kernel
theorem dX12_nextIn_56 : decode cX12_nextIn 56 = .ok (.iaload, 1) := by decide +kernel
theorem dX12_nextIn_57 : decode cX12_nextIn 57 = .ok (.aload_n 0, 1) := by decide +kernel
theorem dX12_nextIn_58 : decode cX12_nextIn 58 = .ok (.getfield 81, 3) := by decide +kernel
theorem dX12_nextIn_61 : decode cX12_nextIn 61 = .ok (.sipush 388, 3) := by decide +kernel
theorem dX12_nextIn_64 : decode cX12_nextIn 64 = .ok (.iconst 3, 1) := by decide +kernel
theorem dX12_nextIn_65 : decode cX12_nextIn 65 = .ok (.iload_n 1, 1) := by decide +kernel
theorem dX12_nextIn_66 : decode cX12_nextIn 66 = .ok (.imul, 1) := by decide +kernel
theorem dX12_nextIn_67 : decode cX12_nextIn 67 = .ok (.iadd, 1) := by decide +kernel
theorem dX12_nextIn_68 : decode cX12_nextIn 68 = .ok (.iconst 1, 1) := by decide +kernel
theorem dX12_nextIn_69 : decode cX12_nextIn 69 = .ok (.iadd, 1) := by decide +kernel
theorem dX12_nextIn_70 : decode cX12_nextIn 70 = .ok (.iaload, 1) := by decide +kernel
theorem dX12_nextIn_71 : decode cX12_nextIn 71 = .ok (.invokestatic 72, 3) := by decide +kernel
theorem dX12_nextIn_74 : decode cX12_nextIn 74 = .ok (.ifCond .eq 7, 3) := by decide +kernel
theorem dX12_nextIn_77 : decode cX12_nextIn 77 = .ok (.iconst 1, 1) := by decide +kernel
theorem dX12_nextIn_78 : decode cX12_nextIn 78 = .ok (.goto 4, 3) := by decide +kernel
theorem dX12_nextIn_81 : decode cX12_nextIn 81 = .ok (.iconst 0, 1) := by decide +kernel
theorem dX12_nextIn_82 : decode cX12_nextIn 82 = .ok (.istore 4, 2) := by decide +kernel
theorem dX12_nextIn_84 : decode cX12_nextIn 84 = .ok (.iload 4, 2) := by decide +kernel
theorem dX12_nextIn_86 : decode cX12_nextIn 86 = .ok (.ifCond .eq 19, 3) := by decide +kernel
theorem dX12_nextIn_89 : decode cX12_nextIn 89 = .ok (.iload_n 2, 1) := by decide +kernel
theorem dX12_nextIn_90 : decode cX12_nextIn 90 = .ok (.iconst (-1), 1) := by decide +kernel
theorem dX12_nextIn_91 : decode cX12_nextIn 91 = .ok (.if_icmp .eq 12, 3) := by decide +kernel
theorem dX12_nextIn_94 : decode cX12_nextIn 94 = .ok (.aload_n 0, 1) := by decide +kernel
theorem dX12_nextIn_95 : decode cX12_nextIn 95 = .ok (.iload_n 3, 1) := by decide +kernel
theorem dX12_nextIn_96 : decode cX12_nextIn 96 = .ok (.iload_n 2, 1) := by decide +kernel
theorem dX12_nextIn_97 : decode cX12_nextIn 97 = .ok (.invokevirtual 227, 3) := by decide +kernel
theorem dX12_nextIn_100 : decode cX12_nextIn 100 = .ok (.ifCond .eq 5, 3) := by decide +kernel
theorem dX12_nextIn_103 : decode cX12_nextIn 103 = .ok (.iload_n 3, 1) := by decide +kernel
theorem dX12_nextIn_104 : decode cX12_nextIn 104 = .ok (.istore_n 2, 1) := by decide +kernel
theorem dX12_nextIn_105 : decode cX12_nextIn 105 = .ok (.iinc 3 1, 3) := by decide +kernel
theorem dX12_nextIn_108 : decode cX12_nextIn 108 = .ok (.goto (-104), 3) := by decide +kernel
theorem dX12_nextIn_111 : decode cX12_nextIn 111 = .ok (.iload_n 2, 1) := by decide +kernel
theorem dX12_nextIn_112 : decode cX12_nextIn 112 = .ok (.ireturn, 1) := by decide +kernel
theorem dX12_triesAll_0 : decode cX12_triesAll 0 = .ok (.iconst 0, 1) := by decide +kernel
theorem dX12_triesAll_1 : decode cX12_triesAll 1 = .ok (.istore_n 1, 1) := by decide +kernel
theorem dX12_triesAll_2 : decode cX12_triesAll 2 = .ok (.iload_n 1, 1) := by decide +kernel
theorem dX12_triesAll_3 : decode cX12_triesAll 3 = .ok (.bipush 12, 2) := by decide +kernel
theorem dX12_triesAll_5 : decode cX12_triesAll 5 = .ok (.if_icmp .ge 20, 3) := by decide +kernel
theorem dX12_triesAll_8 : decode cX12_triesAll 8 = .ok (.aload_n 0, 1) := by decide +kernel
theorem dX12_triesAll_9 : decode cX12_triesAll 9 = .ok (.getfield 93, 3) := by decide +kernel
theorem dX12_triesAll_12 : decode cX12_triesAll 12 = .ok (.iload_n 1, 1) := by decide +kernel
theorem dX12_triesAll_13 : decode cX12_triesAll 13 = .ok (.aload_n 0, 1) := by decide +kernel
theorem dX12_triesAll_14 : decode cX12_triesAll 14 = .ok (.iload_n 1, 1) := by decide +kernel
theorem dX12_triesAll_15 : decode cX12_triesAll 15 = .ok (.invokevirtual 194, 3) := by decide +kernel
theorem dX12_triesAll_18 : decode cX12_triesAll 18 = .ok (.iastore, 1) := by decide +kernel
theorem dX12_triesAll_19 : decode cX12_triesAll 19 = .ok (.iinc 1 1, 3) := by decide +kernel
theorem dX12_triesAll_22 : decode cX12_triesAll 22 = .ok (.goto (-20), 3) := by decide +kernel
theorem dX12_triesAll_25 : decode cX12_triesAll 25 = .ok (.iconst 0, 1) := by decide +kernel
theorem dX12_triesAll_26 : decode cX12_triesAll 26 = .ok (.istore_n 1, 1) := by decide +kernel
theorem dX12_triesAll_27 : decode cX12_triesAll 27 = .ok (.iload_n 1, 1) := by decide +kernel
theorem dX12_triesAll_28 : decode cX12_triesAll 28 = .ok (.bipush 20, 2) := by decide +kernel
theorem dX12_triesAll_30 : decode cX12_triesAll 30 = .ok (.if_icmp .ge 23, 3) := by decide +kernel
theorem dX12_triesAll_33 : decode cX12_triesAll 33 = .ok (.aload_n 0, 1) := by decide +kernel
theorem dX12_triesAll_34 : decode cX12_triesAll 34 = .ok (.getfield 99, 3) := by decide +kernel
theorem dX12_triesAll_37 : decode cX12_triesAll 37 = .ok (.iload_n 1, 1) := by decide +kernel
theorem dX12_triesAll_38 : decode cX12_triesAll 38 = .ok (.iconst 0, 1) := by decide +kernel
theorem dX12_triesAll_39 : decode cX12_triesAll 39 = .ok (.iastore, 1) := by decide +kernel
theorem dX12_triesAll_40 : decode cX12_triesAll 40 = .ok (.aload_n 0, 1) := by decide +kernel
theorem dX12_triesAll_41 : decode cX12_triesAll 41 = .ok (.getfield 102, 3) := by decide +kernel
theorem dX12_triesAll_44 : decode cX12_triesAll 44 = .ok (.iload_n 1, 1) := by decide +kernel
theorem dX12_triesAll_45 : decode cX12_triesAll 45 = .ok (.iconst (-1), 1) := by decide +kernel
theorem dX12_triesAll_46 : decode cX12_triesAll 46 = .ok (.iastore, 1) := by decide +kernel
theorem dX12_triesAll_47 : decode cX12_triesAll 47 = .ok (.iinc 1 1, 3) := by decide +kernel
theorem dX12_triesAll_50 : decode cX12_triesAll 50 = .ok (.goto (-23), 3) := by decide +kernel
theorem dX12_triesAll_53 : decode cX12_triesAll 53 = .ok (.iconst 0, 1) := by decide +kernel
theorem dX12_triesAll_54 : decode cX12_triesAll 54 = .ok (.istore_n 1, 1) := by decide +kernel
theorem dX12_triesAll_55 : decode cX12_triesAll 55 = .ok (.iload_n 1, 1) := by decide +kernel
theorem dX12_triesAll_56 : decode cX12_triesAll 56 = .ok (.aload_n 0, 1) := by decide +kernel
theorem dX12_triesAll_57 : decode cX12_triesAll 57 = .ok (.getfield 81, 3) := by decide +kernel
theorem dX12_triesAll_60 : decode cX12_triesAll 60 = .ok (.iconst 2, 1) := by decide +kernel
theorem dX12_triesAll_61 : decode cX12_triesAll 61 = .ok (.iaload, 1) := by decide +kernel
theorem dX12_triesAll_62 : decode cX12_triesAll 62 = .ok (.if_icmp .ge 14, 3) := by decide +kernel
theorem dX12_triesAll_65 : decode cX12_triesAll 65 = .ok (.aload_n 0, 1) := by decide +kernel
theorem dX12_triesAll_66 : decode cX12_triesAll 66 = .ok (.iload_n 1, 1) := by decide +kernel
theorem dX12_triesAll_67 : decode cX12_triesAll 67 = .ok (.invokevirtual 230, 3) := by decide +kernel
theorem dX12_triesAll_70 : decode cX12_triesAll 70 = .ok (.iinc 1 1, 3) := by decide +kernel
theorem dX12_triesAll_73 : decode cX12_triesAll 73 = .ok (.goto (-18), 3) := by decide +kernel
theorem dX12_triesAll_76 : decode cX12_triesAll 76 = .ok (.return_, 1) := by decide +kernel
theorem dX12_triesRung_0 : decode cX12_triesRung 0 = .ok (.iconst 0, 1) := by decide +kernel
theorem dX12_triesRung_1 : decode cX12_triesRung 1 = .ok (.istore_n 2, 1) := by decide +kernel
theorem dX12_triesRung_2 : decode cX12_triesRung 2 = .ok (.iload_n 2, 1) := by decide +kernel
theorem dX12_triesRung_3 : decode cX12_triesRung 3 = .ok (.bipush 12, 2) := by decide +kernel
theorem dX12_triesRung_5 : decode cX12_triesRung 5 = .ok (.if_icmp .ge 39, 3) := by decide +kernel
theorem dX12_triesRung_8 : decode cX12_triesRung 8 = .ok (.aload_n 0, 1) := by decide +kernel
theorem dX12_triesRung_9 : decode cX12_triesRung 9 = .ok (.getfield 96, 3) := by decide +kernel
theorem dX12_triesRung_12 : decode cX12_triesRung 12 = .ok (.iload_n 2, 1) := by decide +kernel
theorem dX12_triesRung_13 : decode cX12_triesRung 13 = .ok (.aload_n 0, 1) := by decide +kernel
theorem dX12_triesRung_14 : decode cX12_triesRung 14 = .ok (.getfield 93, 3) := by decide +kernel
theorem dX12_triesRung_17 : decode cX12_triesRung 17 = .ok (.iload_n 2, 1) := by decide +kernel
theorem dX12_triesRung_18 : decode cX12_triesRung 18 = .ok (.iaload, 1) := by decide +kernel
theorem dX12_triesRung_19 : decode cX12_triesRung 19 = .ok (.aload_n 0, 1) := by decide +kernel
theorem dX12_triesRung_20 : decode cX12_triesRung 20 = .ok (.getfield 81, 3) := by decide +kernel
theorem dX12_triesRung_23 : decode cX12_triesRung 23 = .ok (.sipush 388, 3) := by decide +kernel
theorem dX12_triesRung_26 : decode cX12_triesRung 26 = .ok (.iconst 3, 1) := by decide +kernel
theorem dX12_triesRung_27 : decode cX12_triesRung 27 = .ok (.iload_n 1, 1) := by decide +kernel
theorem dX12_triesRung_28 : decode cX12_triesRung 28 = .ok (.imul, 1) := by decide +kernel
theorem dX12_triesRung_29 : decode cX12_triesRung 29 = .ok (.iadd, 1) := by decide +kernel
theorem dX12_triesRung_30 : decode cX12_triesRung 30 = .ok (.iconst 2, 1) := by decide +kernel
theorem dX12_triesRung_31 : decode cX12_triesRung 31 = .ok (.iadd, 1) := by decide +kernel
theorem dX12_triesRung_32 : decode cX12_triesRung 32 = .ok (.iaload, 1) := by decide +kernel
theorem dX12_triesRung_33 : decode cX12_triesRung 33 = .ok (.imul, 1) := by decide +kernel
theorem dX12_triesRung_34 : decode cX12_triesRung 34 = .ok (.bipush 100, 2) := by decide +kernel
theorem dX12_triesRung_36 : decode cX12_triesRung 36 = .ok (.idiv, 1) := by decide +kernel
theorem dX12_triesRung_37 : decode cX12_triesRung 37 = .ok (.iastore, 1) := by decide +kernel
theorem dX12_triesRung_38 : decode cX12_triesRung 38 = .ok (.iinc 2 1, 3) := by decide +kernel
theorem dX12_triesRung_41 : decode cX12_triesRung 41 = .ok (.goto (-39), 3) := by decide +kernel
theorem dX12_triesRung_44 : decode cX12_triesRung 44 = .ok (.aload_n 0, 1) := by decide +kernel
theorem dX12_triesRung_45 : decode cX12_triesRung 45 = .ok (.getfield 105, 3) := by decide +kernel
theorem dX12_triesRung_48 : decode cX12_triesRung 48 = .ok (.iload_n 1, 1) := by decide +kernel
theorem dX12_triesRung_49 : decode cX12_triesRung 49 = .ok (.iconst 0, 1) := by decide +kernel
theorem dX12_triesRung_50 : decode cX12_triesRung 50 = .ok (.iastore, 1) := by decide +kernel
theorem dX12_triesRung_51 : decode cX12_triesRung 51 = .ok (.aload_n 0, 1) := by decide +kernel
theorem dX12_triesRung_52 : decode cX12_triesRung 52 = .ok (.iconst 0, 1) := by decide +kernel
theorem dX12_triesRung_53 : decode cX12_triesRung 53 = .ok (.putfield 224, 3) := by decide +kernel
theorem dX12_triesRung_56 : decode cX12_triesRung 56 = .ok (.aload_n 0, 1) := by decide +kernel
theorem dX12_triesRung_57 : decode cX12_triesRung 57 = .ok (.iload_n 1, 1) := by decide +kernel
theorem dX12_triesRung_58 : decode cX12_triesRung 58 = .ok (.invokevirtual 233, 3) := by decide +kernel
theorem dX12_triesRung_61 : decode cX12_triesRung 61 = .ok (.istore_n 2, 1) := by decide +kernel
theorem dX12_triesRung_62 : decode cX12_triesRung 62 = .ok (.iload_n 2, 1) := by decide +kernel
theorem dX12_triesRung_63 : decode cX12_triesRung 63 = .ok (.iconst (-1), 1) := by decide +kernel
theorem dX12_triesRung_64 : decode cX12_triesRung 64 = .ok (.if_icmp .eq 76, 3) := by decide +kernel
theorem dX12_triesRung_67 : decode cX12_triesRung 67 = .ok (.aload_n 0, 1) := by decide +kernel
theorem dX12_triesRung_68 : decode cX12_triesRung 68 = .ok (.dup, 1) := by decide +kernel
theorem dX12_triesRung_69 : decode cX12_triesRung 69 = .ok (.getfield 224, 3) := by decide +kernel
theorem dX12_triesRung_72 : decode cX12_triesRung 72 = .ok (.iconst 1, 1) := by decide +kernel
theorem dX12_triesRung_73 : decode cX12_triesRung 73 = .ok (.iload_n 2, 1) := by decide +kernel
theorem dX12_triesRung_74 : decode cX12_triesRung 74 = .ok (.ishl, 1) := by decide +kernel
theorem dX12_triesRung_75 : decode cX12_triesRung 75 = .ok (.ior, 1) := by decide +kernel
theorem dX12_triesRung_76 : decode cX12_triesRung 76 = .ok (.putfield 224, 3) := by decide +kernel
theorem dX12_triesRung_79 : decode cX12_triesRung 79 = .ok (.aload_n 0, 1) := by decide +kernel
theorem dX12_triesRung_80 : decode cX12_triesRung 80 = .ok (.iload_n 2, 1) := by decide +kernel
theorem dX12_triesRung_81 : decode cX12_triesRung 81 = .ok (.invokevirtual 236, 3) := by decide +kernel
theorem dX12_triesRung_84 : decode cX12_triesRung 84 = .ok (.istore_n 3, 1) := by decide +kernel
theorem dX12_triesRung_85 : decode cX12_triesRung 85 = .ok (.iload_n 3, 1) := by decide +kernel
theorem dX12_triesRung_86 : decode cX12_triesRung 86 = .ok (.ifCond .le 45, 3) := by decide +kernel
theorem dX12_triesRung_89 : decode cX12_triesRung 89 = .ok (.aload_n 0, 1) := by decide +kernel
theorem dX12_triesRung_90 : decode cX12_triesRung 90 = .ok (.iload_n 2, 1) := by decide +kernel
theorem dX12_triesRung_91 : decode cX12_triesRung 91 = .ok (.iload_n 3, 1) := by decide +kernel
theorem dX12_triesRung_92 : decode cX12_triesRung 92 = .ok (.invokevirtual 239, 3) := by decide +kernel
theorem dX12_triesRung_95 : decode cX12_triesRung 95 = .ok (.aload_n 0, 1) := by decide +kernel
theorem dX12_triesRung_96 : decode cX12_triesRung 96 = .ok (.getfield 102, 3) := by decide +kernel
theorem dX12_triesRung_99 : decode cX12_triesRung 99 = .ok (.iload_n 2, 1) := by decide +kernel
theorem dX12_triesRung_100 : decode cX12_triesRung 100 = .ok (.aload_n 0, 1) := by decide +kernel
theorem dX12_triesRung_101 : decode cX12_triesRung 101 = .ok (.getfield 102, 3) := by decide +kernel
theorem dX12_triesRung_104 : decode cX12_triesRung 104 = .ok (.iload_n 2, 1) := by decide +kernel
theorem dX12_triesRung_105 : decode cX12_triesRung 105 = .ok (.iaload, 1) := by decide +kernel
theorem dX12_triesRung_106 : decode cX12_triesRung 106 = .ok (.iconst (-1), 1) := by decide +kernel
theorem dX12_triesRung_107 : decode cX12_triesRung 107 = .ok (.if_icmp .ne 7, 3) := by decide +kernel
theorem dX12_triesRung_110 : decode cX12_triesRung 110 = .ok (.iload_n 1, 1) := by decide +kernel
theorem dX12_triesRung_111 : decode cX12_triesRung 111 = .ok (.goto 9, 3) := by decide +kernel
theorem dX12_triesRung_114 : decode cX12_triesRung 114 = .ok (.aload_n 0, 1) := by decide +kernel
theorem dX12_triesRung_115 : decode cX12_triesRung 115 = .ok (.getfield 102, 3) := by decide +kernel
theorem dX12_triesRung_118 : decode cX12_triesRung 118 = .ok (.iload_n 2, 1) := by decide +kernel
theorem dX12_triesRung_119 : decode cX12_triesRung 119 = .ok (.iaload, 1) := by decide +kernel
theorem dX12_triesRung_120 : decode cX12_triesRung 120 = .ok (.iastore, 1) := by decide +kernel
theorem dX12_triesRung_121 : decode cX12_triesRung 121 = .ok (.aload_n 0, 1) := by decide +kernel
theorem dX12_triesRung_122 : decode cX12_triesRung 122 = .ok (.getfield 105, 3) := by decide +kernel
theorem dX12_triesRung_125 : decode cX12_triesRung 125 = .ok (.iload_n 1, 1) := by decide +kernel
theorem dX12_triesRung_126 : decode cX12_triesRung 126 = .ok (.dup2, 1) := by decide +kernel
theorem dX12_triesRung_127 : decode cX12_triesRung 127 = .ok (.iaload, 1) := by decide +kernel
theorem dX12_triesRung_128 : decode cX12_triesRung 128 = .ok (.iload_n 3, 1) := by decide +kernel
theorem dX12_triesRung_129 : decode cX12_triesRung 129 = .ok (.iadd, 1) := by decide +kernel
theorem dX12_triesRung_130 : decode cX12_triesRung 130 = .ok (.iastore, 1) := by decide +kernel
theorem dX12_triesRung_131 : decode cX12_triesRung 131 = .ok (.aload_n 0, 1) := by decide +kernel
theorem dX12_triesRung_132 : decode cX12_triesRung 132 = .ok (.iload_n 1, 1) := by decide +kernel
theorem dX12_triesRung_133 : decode cX12_triesRung 133 = .ok (.invokevirtual 233, 3) := by decide +kernel
theorem dX12_triesRung_136 : decode cX12_triesRung 136 = .ok (.istore_n 2, 1) := by decide +kernel
theorem dX12_triesRung_137 : decode cX12_triesRung 137 = .ok (.goto (-75), 3) := by decide +kernel
theorem dX12_triesRung_140 : decode cX12_triesRung 140 = .ok (.return_, 1) := by decide +kernel
theorem dX12_can_0 : decode cX12_can 0 = .ok (.aload_n 0, 1) := by decide +kernel
theorem dX12_can_1 : decode cX12_can 1 = .ok (.iload_n 1, 1) := by decide +kernel
theorem dX12_can_2 : decode cX12_can 2 = .ok (.invokevirtual 209, 3) := by decide +kernel
theorem dX12_can_5 : decode cX12_can 5 = .ok (.aload_n 0, 1) := by decide +kernel
theorem dX12_can_6 : decode cX12_can 6 = .ok (.getfield 99, 3) := by decide +kernel
theorem dX12_can_9 : decode cX12_can 9 = .ok (.iload_n 1, 1) := by decide +kernel
theorem dX12_can_10 : decode cX12_can 10 = .ok (.iaload, 1) := by decide +kernel
theorem dX12_can_11 : decode cX12_can 11 = .ok (.isub, 1) := by decide +kernel
theorem dX12_can_12 : decode cX12_can 12 = .ok (.istore_n 2, 1) := by decide +kernel
theorem dX12_can_13 : decode cX12_can 13 = .ok (.iload_n 2, 1) := by decide +kernel
theorem dX12_can_14 : decode cX12_can 14 = .ok (.istore_n 3, 1) := by decide +kernel
theorem dX12_can_15 : decode cX12_can 15 = .ok (.iconst 0, 1) := by decide +kernel
theorem dX12_can_16 : decode cX12_can 16 = .ok (.istore 4, 2) := by decide +kernel
theorem dX12_can_18 : decode cX12_can 18 = .ok (.iload 4, 2) := by decide +kernel
theorem dX12_can_20 : decode cX12_can 20 = .ok (.aload_n 0, 1) := by decide +kernel
theorem dX12_can_21 : decode cX12_can 21 = .ok (.getfield 81, 3) := by decide +kernel
theorem dX12_can_24 : decode cX12_can 24 = .ok (.iconst 0, 1) := by decide +kernel
theorem dX12_can_25 : decode cX12_can 25 = .ok (.iaload, 1) := by decide +kernel
theorem dX12_can_26 : decode cX12_can 26 = .ok (.if_icmp .ge 49, 3) := by decide +kernel
theorem dX12_can_29 : decode cX12_can 29 = .ok (.aload_n 0, 1) := by decide +kernel
theorem dX12_can_30 : decode cX12_can 30 = .ok (.aload_n 0, 1) := by decide +kernel
theorem dX12_can_31 : decode cX12_can 31 = .ok (.iload_n 1, 1) := by decide +kernel
theorem dX12_can_32 : decode cX12_can 32 = .ok (.iconst 0, 1) := by decide +kernel
theorem dX12_can_33 : decode cX12_can 33 = .ok (.invokevirtual 166, 3) := by decide +kernel
theorem dX12_can_36 : decode cX12_can 36 = .ok (.iload 4, 2) := by decide +kernel
theorem dX12_can_38 : decode cX12_can 38 = .ok (.invokevirtual 176, 3) := by decide +kernel
theorem dX12_can_41 : decode cX12_can 41 = .ok (.ifCond .le 28, 3) := by decide +kernel
theorem dX12_can_44 : decode cX12_can 44 = .ok (.iload_n 3, 1) := by decide +kernel
theorem dX12_can_45 : decode cX12_can 45 = .ok (.aload_n 0, 1) := by decide +kernel
theorem dX12_can_46 : decode cX12_can 46 = .ok (.getfield 96, 3) := by decide +kernel
theorem dX12_can_49 : decode cX12_can 49 = .ok (.iload 4, 2) := by decide +kernel
theorem dX12_can_51 : decode cX12_can 51 = .ok (.iaload, 1) := by decide +kernel
theorem dX12_can_52 : decode cX12_can 52 = .ok (.aload_n 0, 1) := by decide +kernel
theorem dX12_can_53 : decode cX12_can 53 = .ok (.aload_n 0, 1) := by decide +kernel
theorem dX12_can_54 : decode cX12_can 54 = .ok (.iload_n 1, 1) := by decide +kernel
theorem dX12_can_55 : decode cX12_can 55 = .ok (.iconst 0, 1) := by decide +kernel
theorem dX12_can_56 : decode cX12_can 56 = .ok (.invokevirtual 166, 3) := by decide +kernel
theorem dX12_can_59 : decode cX12_can 59 = .ok (.iload 4, 2) := by decide +kernel
theorem dX12_can_61 : decode cX12_can 61 = .ok (.invokevirtual 176, 3) := by decide +kernel
theorem dX12_can_64 : decode cX12_can 64 = .ok (.idiv, 1) := by decide +kernel
theorem dX12_can_65 : decode cX12_can 65 = .ok (.invokestatic 203, 3) := by decide +kernel
theorem dX12_can_68 : decode cX12_can 68 = .ok (.istore_n 3, 1) := by decide +kernel
theorem dX12_can_69 : decode cX12_can 69 = .ok (.iinc 4 1, 3) := by decide +kernel
theorem dX12_can_72 : decode cX12_can 72 = .ok (.goto (-54), 3) := by decide +kernel
theorem dX12_can_75 : decode cX12_can 75 = .ok (.aload_n 0, 1) := by decide +kernel
theorem dX12_can_76 : decode cX12_can 76 = .ok (.iload_n 1, 1) := by decide +kernel
theorem dX12_can_77 : decode cX12_can 77 = .ok (.iconst 4, 1) := by decide +kernel
theorem dX12_can_78 : decode cX12_can 78 = .ok (.invokevirtual 166, 3) := by decide +kernel
theorem dX12_can_81 : decode cX12_can 81 = .ok (.iconst 1, 1) := by decide +kernel
theorem dX12_can_82 : decode cX12_can 82 = .ok (.if_icmp .ne 12, 3) := by decide +kernel
theorem dX12_can_85 : decode cX12_can 85 = .ok (.iload_n 3, 1) := by decide +kernel
theorem dX12_can_86 : decode cX12_can 86 = .ok (.iload_n 2, 1) := by decide +kernel
theorem dX12_can_87 : decode cX12_can 87 = .ok (.if_icmp .ge 7, 3) := by decide +kernel
theorem dX12_can_90 : decode cX12_can 90 = .ok (.iconst 0, 1) := by decide +kernel
theorem dX12_can_91 : decode cX12_can 91 = .ok (.goto 4, 3) := by decide +kernel
theorem dX12_can_94 : decode cX12_can 94 = .ok (.iload_n 3, 1) := by decide +kernel
theorem dX12_can_95 : decode cX12_can 95 = .ok (.ireturn, 1) := by decide +kernel
theorem dX12_takes0_0 : decode cX12_takes0 0 = .ok (.aload_n 0, 1) := by decide +kernel
theorem dX12_takes0_1 : decode cX12_takes0 1 = .ok (.getfield 99, 3) := by decide +kernel
theorem dX12_takes0_4 : decode cX12_takes0 4 = .ok (.iload_n 1, 1) := by decide +kernel
theorem dX12_takes0_5 : decode cX12_takes0 5 = .ok (.dup2, 1) := by decide +kernel
theorem dX12_takes0_6 : decode cX12_takes0 6 = .ok (.iaload, 1) := by decide +kernel
theorem dX12_takes0_7 : decode cX12_takes0 7 = .ok (.iload_n 2, 1) := by decide +kernel
theorem dX12_takes0_8 : decode cX12_takes0 8 = .ok (.iadd, 1) := by decide +kernel
theorem dX12_takes0_9 : decode cX12_takes0 9 = .ok (.iastore, 1) := by decide +kernel
theorem dX12_takes0_10 : decode cX12_takes0 10 = .ok (.iconst 0, 1) := by decide +kernel
theorem dX12_takes0_11 : decode cX12_takes0 11 = .ok (.istore_n 3, 1) := by decide +kernel
theorem dX12_takes0_12 : decode cX12_takes0 12 = .ok (.iload_n 3, 1) := by decide +kernel
theorem dX12_takes0_13 : decode cX12_takes0 13 = .ok (.aload_n 0, 1) := by decide +kernel
theorem dX12_takes0_14 : decode cX12_takes0 14 = .ok (.getfield 81, 3) := by decide +kernel
theorem dX12_takes0_17 : decode cX12_takes0 17 = .ok (.iconst 0, 1) := by decide +kernel
theorem dX12_takes0_18 : decode cX12_takes0 18 = .ok (.iaload, 1) := by decide +kernel
theorem dX12_takes0_19 : decode cX12_takes0 19 = .ok (.if_icmp .ge 53, 3) := by decide +kernel
theorem dX12_takes0_22 : decode cX12_takes0 22 = .ok (.aload_n 0, 1) := by decide +kernel
theorem dX12_takes0_23 : decode cX12_takes0 23 = .ok (.getfield 96, 3) := by decide +kernel
theorem dX12_takes0_26 : decode cX12_takes0 26 = .ok (.iload_n 3, 1) := by decide +kernel
theorem dX12_takes0_27 : decode cX12_takes0 27 = .ok (.dup2, 1) := by decide +kernel
theorem dX12_takes0_28 : decode cX12_takes0 28 = .ok (.iaload, 1) := by decide +kernel
theorem dX12_takes0_29 : decode cX12_takes0 29 = .ok (.iload_n 2, 1) := by decide +kernel
theorem dX12_takes0_30 : decode cX12_takes0 30 = .ok (.aload_n 0, 1) := by decide +kernel
theorem dX12_takes0_31 : decode cX12_takes0 31 = .ok (.aload_n 0, 1) := by decide +kernel
theorem dX12_takes0_32 : decode cX12_takes0 32 = .ok (.iload_n 1, 1) := by decide +kernel
theorem dX12_takes0_33 : decode cX12_takes0 33 = .ok (.iconst 0, 1) := by decide +kernel
theorem dX12_takes0_34 : decode cX12_takes0 34 = .ok (.invokevirtual 166, 3) := by decide +kernel
theorem dX12_takes0_37 : decode cX12_takes0 37 = .ok (.iload_n 3, 1) := by decide +kernel
theorem dX12_takes0_38 : decode cX12_takes0 38 = .ok (.invokevirtual 176, 3) := by decide +kernel
theorem dX12_takes0_41 : decode cX12_takes0 41 = .ok (.imul, 1) := by decide +kernel
theorem dX12_takes0_42 : decode cX12_takes0 42 = .ok (.isub, 1) := by decide +kernel
theorem dX12_takes0_43 : decode cX12_takes0 43 = .ok (.iastore, 1) := by decide +kernel
theorem dX12_takes0_44 : decode cX12_takes0 44 = .ok (.aload_n 0, 1) := by decide +kernel
theorem dX12_takes0_45 : decode cX12_takes0 45 = .ok (.getfield 93, 3) := by decide +kernel
theorem dX12_takes0_48 : decode cX12_takes0 48 = .ok (.iload_n 3, 1) := by decide +kernel
theorem dX12_takes0_49 : decode cX12_takes0 49 = .ok (.dup2, 1) := by decide +kernel
theorem dX12_takes0_50 : decode cX12_takes0 50 = .ok (.iaload, 1) := by decide +kernel
theorem dX12_takes0_51 : decode cX12_takes0 51 = .ok (.iload_n 2, 1) := by decide +kernel
theorem dX12_takes0_52 : decode cX12_takes0 52 = .ok (.aload_n 0, 1) := by decide +kernel
theorem dX12_takes0_53 : decode cX12_takes0 53 = .ok (.aload_n 0, 1) := by decide +kernel
theorem dX12_takes0_54 : decode cX12_takes0 54 = .ok (.iload_n 1, 1) := by decide +kernel
theorem dX12_takes0_55 : decode cX12_takes0 55 = .ok (.iconst 0, 1) := by decide +kernel
theorem dX12_takes0_56 : decode cX12_takes0 56 = .ok (.invokevirtual 166, 3) := by decide +kernel
theorem dX12_takes0_59 : decode cX12_takes0 59 = .ok (.iload_n 3, 1) := by decide +kernel
theorem dX12_takes0_60 : decode cX12_takes0 60 = .ok (.invokevirtual 176, 3) := by decide +kernel
theorem dX12_takes0_63 : decode cX12_takes0 63 = .ok (.imul, 1) := by decide +kernel
theorem dX12_takes0_64 : decode cX12_takes0 64 = .ok (.isub, 1) := by decide +kernel
theorem dX12_takes0_65 : decode cX12_takes0 65 = .ok (.iastore, 1) := by decide +kernel
theorem dX12_takes0_66 : decode cX12_takes0 66 = .ok (.iinc 3 1, 3) := by decide +kernel
theorem dX12_takes0_69 : decode cX12_takes0 69 = .ok (.goto (-57), 3) := by decide +kernel
theorem dX12_takes0_72 : decode cX12_takes0 72 = .ok (.return_, 1) := by decide +kernel
theorem dX12_wouldGet_0 : decode cX12_wouldGet 0 = .ok (.aload_n 0, 1) := by decide +kernel
theorem dX12_wouldGet_1 : decode cX12_wouldGet 1 = .ok (.iconst 0, 1) := by decide +kernel
theorem dX12_wouldGet_2 : decode cX12_wouldGet 2 = .ok (.putfield 3, 3) := by decide +kernel
theorem dX12_wouldGet_5 : decode cX12_wouldGet 5 = .ok (.aload_n 0, 1) := by decide +kernel
theorem dX12_wouldGet_6 : decode cX12_wouldGet 6 = .ok (.iload_n 1, 1) := by decide +kernel
theorem dX12_wouldGet_7 : decode cX12_wouldGet 7 = .ok (.invokevirtual 206, 3) := by decide +kernel
theorem dX12_wouldGet_10 : decode cX12_wouldGet 10 = .ok (.ifCond .eq 5, 3) := by decide +kernel
theorem dX12_wouldGet_13 : decode cX12_wouldGet 13 = .ok (.iconst 0, 1) := by decide +kernel
theorem dX12_wouldGet_14 : decode cX12_wouldGet 14 = .ok (.ireturn, 1) := by decide +kernel
theorem dX12_wouldGet_15 : decode cX12_wouldGet 15 = .ok (.aload_n 0, 1) := by decide +kernel
theorem dX12_wouldGet_16 : decode cX12_wouldGet 16 = .ok (.invokevirtual 242, 3) := by decide +kernel
theorem dX12_wouldGet_19 : decode cX12_wouldGet 19 = .ok (.aload_n 0, 1) := by decide +kernel
theorem dX12_wouldGet_20 : decode cX12_wouldGet 20 = .ok (.getfield 99, 3) := by decide +kernel
theorem dX12_wouldGet_23 : decode cX12_wouldGet 23 = .ok (.iload_n 1, 1) := by decide +kernel
theorem dX12_wouldGet_24 : decode cX12_wouldGet 24 = .ok (.iaload, 1) := by decide +kernel
theorem dX12_wouldGet_25 : decode cX12_wouldGet 25 = .ok (.ireturn, 1) := by decide +kernel
theorem dX12_rungOf_0 : decode cX12_rungOf 0 = .ok (.aload_n 0, 1) := by decide +kernel
theorem dX12_rungOf_1 : decode cX12_rungOf 1 = .ok (.iconst 0, 1) := by decide +kernel
theorem dX12_rungOf_2 : decode cX12_rungOf 2 = .ok (.putfield 3, 3) := by decide +kernel
theorem dX12_rungOf_5 : decode cX12_rungOf 5 = .ok (.aload_n 0, 1) := by decide +kernel
theorem dX12_rungOf_6 : decode cX12_rungOf 6 = .ok (.iload_n 1, 1) := by decide +kernel
theorem dX12_rungOf_7 : decode cX12_rungOf 7 = .ok (.invokevirtual 206, 3) := by decide +kernel
theorem dX12_rungOf_10 : decode cX12_rungOf 10 = .ok (.ifCond .eq 5, 3) := by decide +kernel
theorem dX12_rungOf_13 : decode cX12_rungOf 13 = .ok (.iconst 0, 1) := by decide +kernel
theorem dX12_rungOf_14 : decode cX12_rungOf 14 = .ok (.ireturn, 1) := by decide +kernel
theorem dX12_rungOf_15 : decode cX12_rungOf 15 = .ok (.aload_n 0, 1) := by decide +kernel
theorem dX12_rungOf_16 : decode cX12_rungOf 16 = .ok (.invokevirtual 242, 3) := by decide +kernel
theorem dX12_rungOf_19 : decode cX12_rungOf 19 = .ok (.aload_n 0, 1) := by decide +kernel
theorem dX12_rungOf_20 : decode cX12_rungOf 20 = .ok (.getfield 102, 3) := by decide +kernel
theorem dX12_rungOf_23 : decode cX12_rungOf 23 = .ok (.iload_n 1, 1) := by decide +kernel
theorem dX12_rungOf_24 : decode cX12_rungOf 24 = .ok (.iaload, 1) := by decide +kernel
theorem dX12_rungOf_25 : decode cX12_rungOf 25 = .ok (.ireturn, 1) := by decide +kernel
theorem dX12_rungUnits_0 : decode cX12_rungUnits 0 = .ok (.aload_n 0, 1) := by decide +kernel
theorem dX12_rungUnits_1 : decode cX12_rungUnits 1 = .ok (.iconst 0, 1) := by decide +kernel
theorem dX12_rungUnits_2 : decode cX12_rungUnits 2 = .ok (.putfield 3, 3) := by decide +kernel
theorem dX12_rungUnits_5 : decode cX12_rungUnits 5 = .ok (.aload_n 0, 1) := by decide +kernel
theorem dX12_rungUnits_6 : decode cX12_rungUnits 6 = .ok (.iload_n 1, 1) := by decide +kernel
theorem dX12_rungUnits_7 : decode cX12_rungUnits 7 = .ok (.iconst 0, 1) := by decide +kernel
theorem dX12_rungUnits_8 : decode cX12_rungUnits 8 = .ok (.aload_n 0, 1) := by decide +kernel
theorem dX12_rungUnits_9 : decode cX12_rungUnits 9 = .ok (.getfield 81, 3) := by decide +kernel
theorem dX12_rungUnits_12 : decode cX12_rungUnits 12 = .ok (.iconst 2, 1) := by decide +kernel
theorem dX12_rungUnits_13 : decode cX12_rungUnits 13 = .ok (.iaload, 1) := by decide +kernel
theorem dX12_rungUnits_14 : decode cX12_rungUnits 14 = .ok (.iconst 1, 1) := by decide +kernel
theorem dX12_rungUnits_15 : decode cX12_rungUnits 15 = .ok (.isub, 1) := by decide +kernel
theorem dX12_rungUnits_16 : decode cX12_rungUnits 16 = .ok (.invokestatic 72, 3) := by decide +kernel
theorem dX12_rungUnits_19 : decode cX12_rungUnits 19 = .ok (.ifCond .ne 7, 3) := by decide +kernel
theorem dX12_rungUnits_22 : decode cX12_rungUnits 22 = .ok (.iconst 1, 1) := by decide +kernel
theorem dX12_rungUnits_23 : decode cX12_rungUnits 23 = .ok (.goto 4, 3) := by decide +kernel
theorem dX12_rungUnits_26 : decode cX12_rungUnits 26 = .ok (.iconst 0, 1) := by decide +kernel
theorem dX12_rungUnits_27 : decode cX12_rungUnits 27 = .ok (.iconst 1, 1) := by decide +kernel
theorem dX12_rungUnits_28 : decode cX12_rungUnits 28 = .ok (.invokevirtual 159, 3) := by decide +kernel
theorem dX12_rungUnits_31 : decode cX12_rungUnits 31 = .ok (.ifCond .eq 5, 3) := by decide +kernel
theorem dX12_rungUnits_34 : decode cX12_rungUnits 34 = .ok (.iconst 0, 1) := by decide +kernel
theorem dX12_rungUnits_35 : decode cX12_rungUnits 35 = .ok (.ireturn, 1) := by decide +kernel
theorem dX12_rungUnits_36 : decode cX12_rungUnits 36 = .ok (.aload_n 0, 1) := by decide +kernel
theorem dX12_rungUnits_37 : decode cX12_rungUnits 37 = .ok (.invokevirtual 242, 3) := by decide +kernel
theorem dX12_rungUnits_40 : decode cX12_rungUnits 40 = .ok (.aload_n 0, 1) := by decide +kernel
theorem dX12_rungUnits_41 : decode cX12_rungUnits 41 = .ok (.getfield 105, 3) := by decide +kernel
theorem dX12_rungUnits_44 : decode cX12_rungUnits 44 = .ok (.iload_n 1, 1) := by decide +kernel
theorem dX12_rungUnits_45 : decode cX12_rungUnits 45 = .ok (.iaload, 1) := by decide +kernel
theorem dX12_rungUnits_46 : decode cX12_rungUnits 46 = .ok (.ireturn, 1) := by decide +kernel
theorem dX12_missingPieces_0 : decode cX12_missingPieces 0 = .ok (.aload_n 0, 1) := by decide +kernel
theorem dX12_missingPieces_1 : decode cX12_missingPieces 1 = .ok (.iconst 0, 1) := by decide +kernel
theorem dX12_missingPieces_2 : decode cX12_missingPieces 2 = .ok (.putfield 3, 3) := by decide +kernel
theorem dX12_missingPieces_5 : decode cX12_missingPieces 5 = .ok (.aload_n 0, 1) := by decide +kernel
theorem dX12_missingPieces_6 : decode cX12_missingPieces 6 = .ok (.iload_n 1, 1) := by decide +kernel
theorem dX12_missingPieces_7 : decode cX12_missingPieces 7 = .ok (.invokevirtual 206, 3) := by decide +kernel
theorem dX12_missingPieces_10 : decode cX12_missingPieces 10 = .ok (.ifCond .eq 5, 3) := by decide +kernel
theorem dX12_missingPieces_13 : decode cX12_missingPieces 13 = .ok (.iconst 0, 1) := by decide +kernel
theorem dX12_missingPieces_14 : decode cX12_missingPieces 14 = .ok (.ireturn, 1) := by decide +kernel
theorem dX12_missingPieces_15 : decode cX12_missingPieces 15 = .ok (.iconst 0, 1) := by decide +kernel
theorem dX12_missingPieces_16 : decode cX12_missingPieces 16 = .ok (.istore_n 2, 1) := by decide +kernel
theorem dX12_missingPieces_17 : decode cX12_missingPieces 17 = .ok (.iconst 0, 1) := by decide +kernel
theorem dX12_missingPieces_18 : decode cX12_missingPieces 18 = .ok (.istore_n 3, 1) := by decide +kernel
theorem dX12_missingPieces_19 : decode cX12_missingPieces 19 = .ok (.iload_n 3, 1) := by decide +kernel
theorem dX12_missingPieces_20 : decode cX12_missingPieces 20 = .ok (.aload_n 0, 1) := by decide +kernel
theorem dX12_missingPieces_21 : decode cX12_missingPieces 21 = .ok (.getfield 81, 3) := by decide +kernel
theorem dX12_missingPieces_24 : decode cX12_missingPieces 24 = .ok (.iconst 0, 1) := by decide +kernel
theorem dX12_missingPieces_25 : decode cX12_missingPieces 25 = .ok (.iaload, 1) := by decide +kernel
theorem dX12_missingPieces_26 : decode cX12_missingPieces 26 = .ok (.if_icmp .ge 39, 3) := by decide +kernel
theorem dX12_missingPieces_29 : decode cX12_missingPieces 29 = .ok (.iload_n 2, 1) := by decide +kernel
theorem dX12_missingPieces_30 : decode cX12_missingPieces 30 = .ok (.iconst 0, 1) := by decide +kernel
theorem dX12_missingPieces_31 : decode cX12_missingPieces 31 = .ok (.aload_n 0, 1) := by decide +kernel
theorem dX12_missingPieces_32 : decode cX12_missingPieces 32 = .ok (.iload_n 1, 1) := by decide +kernel
theorem dX12_missingPieces_33 : decode cX12_missingPieces 33 = .ok (.invokevirtual 209, 3) := by decide +kernel
theorem dX12_missingPieces_36 : decode cX12_missingPieces 36 = .ok (.aload_n 0, 1) := by decide +kernel
theorem dX12_missingPieces_37 : decode cX12_missingPieces 37 = .ok (.aload_n 0, 1) := by decide +kernel
theorem dX12_missingPieces_38 : decode cX12_missingPieces 38 = .ok (.iload_n 1, 1) := by decide +kernel
theorem dX12_missingPieces_39 : decode cX12_missingPieces 39 = .ok (.iconst 0, 1) := by decide +kernel
theorem dX12_missingPieces_40 : decode cX12_missingPieces 40 = .ok (.invokevirtual 166, 3) := by decide +kernel
theorem dX12_missingPieces_43 : decode cX12_missingPieces 43 = .ok (.iload_n 3, 1) := by decide +kernel
theorem dX12_missingPieces_44 : decode cX12_missingPieces 44 = .ok (.invokevirtual 176, 3) := by decide +kernel
theorem dX12_missingPieces_47 : decode cX12_missingPieces 47 = .ok (.imul, 1) := by decide +kernel
theorem dX12_missingPieces_48 : decode cX12_missingPieces 48 = .ok (.aload_n 0, 1) := by decide +kernel
theorem dX12_missingPieces_49 : decode cX12_missingPieces 49 = .ok (.iload_n 3, 1) := by decide +kernel
theorem dX12_missingPieces_50 : decode cX12_missingPieces 50 = .ok (.invokevirtual 194, 3) := by decide +kernel
theorem dX12_missingPieces_53 : decode cX12_missingPieces 53 = .ok (.isub, 1) := by decide +kernel
theorem dX12_missingPieces_54 : decode cX12_missingPieces 54 = .ok (.invokestatic 183, 3) := by decide +kernel
theorem dX12_missingPieces_57 : decode cX12_missingPieces 57 = .ok (.iadd, 1) := by decide +kernel
theorem dX12_missingPieces_58 : decode cX12_missingPieces 58 = .ok (.istore_n 2, 1) := by decide +kernel
theorem dX12_missingPieces_59 : decode cX12_missingPieces 59 = .ok (.iinc 3 1, 3) := by decide +kernel
theorem dX12_missingPieces_62 : decode cX12_missingPieces 62 = .ok (.goto (-43), 3) := by decide +kernel
theorem dX12_missingPieces_65 : decode cX12_missingPieces 65 = .ok (.iload_n 2, 1) := by decide +kernel
theorem dX12_missingPieces_66 : decode cX12_missingPieces 66 = .ok (.ireturn, 1) := by decide +kernel
theorem dX12_buildableAfter_0 : decode cX12_buildableAfter 0 = .ok (.aload_n 0, 1) := by decide +kernel
theorem dX12_buildableAfter_1 : decode cX12_buildableAfter 1 = .ok (.iconst 0, 1) := by decide +kernel
theorem dX12_buildableAfter_2 : decode cX12_buildableAfter 2 = .ok (.putfield 3, 3) := by decide +kernel
theorem dX12_buildableAfter_5 : decode cX12_buildableAfter 5 = .ok (.aload_n 0, 1) := by decide +kernel
theorem dX12_buildableAfter_6 : decode cX12_buildableAfter 6 = .ok (.iload_n 1, 1) := by decide +kernel
theorem dX12_buildableAfter_7 : decode cX12_buildableAfter 7 = .ok (.invokevirtual 169, 3) := by decide +kernel
theorem dX12_buildableAfter_10 : decode cX12_buildableAfter 10 = .ok (.ifCond .ne 40, 3) := by decide +kernel
theorem dX12_buildableAfter_13 : decode cX12_buildableAfter 13 = .ok (.aload_n 0, 1) := by decide +kernel
theorem dX12_buildableAfter_14 : decode cX12_buildableAfter 14 = .ok (.iload_n 2, 1) := by decide +kernel
theorem dX12_buildableAfter_15 : decode cX12_buildableAfter 15 = .ok (.invokevirtual 169, 3) := by decide +kernel
theorem dX12_buildableAfter_18 : decode cX12_buildableAfter 18 = .ok (.ifCond .ne 32, 3) := by decide +kernel
theorem dX12_buildableAfter_21 : decode cX12_buildableAfter 21 = .ok (.aload_n 0, 1) := by decide +kernel
theorem dX12_buildableAfter_22 : decode cX12_buildableAfter 22 = .ok (.iload_n 1, 1) := by decide +kernel
theorem dX12_buildableAfter_23 : decode cX12_buildableAfter 23 = .ok (.iload_n 2, 1) := by decide +kernel
theorem dX12_buildableAfter_24 : decode cX12_buildableAfter 24 = .ok (.if_icmp .eq 14, 3) := by decide +kernel
theorem dX12_buildableAfter_27 : decode cX12_buildableAfter 27 = .ok (.iload_n 3, 1) := by decide +kernel
theorem dX12_buildableAfter_28 : decode cX12_buildableAfter 28 = .ok (.iconst 0, 1) := by decide +kernel
theorem dX12_buildableAfter_29 : decode cX12_buildableAfter 29 = .ok (.sipush 999, 3) := by decide +kernel
theorem dX12_buildableAfter_32 : decode cX12_buildableAfter 32 = .ok (.invokestatic 72, 3) := by decide +kernel
theorem dX12_buildableAfter_35 : decode cX12_buildableAfter 35 = .ok (.ifCond .ne 7, 3) := by decide +kernel
theorem dX12_buildableAfter_38 : decode cX12_buildableAfter 38 = .ok (.iconst 1, 1) := by decide +kernel
theorem dX12_buildableAfter_39 : decode cX12_buildableAfter 39 = .ok (.goto 4, 3) := by decide +kernel
theorem dX12_buildableAfter_42 : decode cX12_buildableAfter 42 = .ok (.iconst 0, 1) := by decide +kernel
theorem dX12_buildableAfter_43 : decode cX12_buildableAfter 43 = .ok (.iconst 2, 1) := by decide +kernel
theorem dX12_buildableAfter_44 : decode cX12_buildableAfter 44 = .ok (.invokevirtual 159, 3) := by decide +kernel
theorem dX12_buildableAfter_47 : decode cX12_buildableAfter 47 = .ok (.ifCond .eq 5, 3) := by decide +kernel
theorem dX12_buildableAfter_50 : decode cX12_buildableAfter 50 = .ok (.iconst 0, 1) := by decide +kernel
theorem dX12_buildableAfter_51 : decode cX12_buildableAfter 51 = .ok (.ireturn, 1) := by decide +kernel
theorem dX12_buildableAfter_52 : decode cX12_buildableAfter 52 = .ok (.aload_n 0, 1) := by decide +kernel
theorem dX12_buildableAfter_53 : decode cX12_buildableAfter 53 = .ok (.iload_n 1, 1) := by decide +kernel
theorem dX12_buildableAfter_54 : decode cX12_buildableAfter 54 = .ok (.invokevirtual 200, 3) := by decide +kernel
theorem dX12_buildableAfter_57 : decode cX12_buildableAfter 57 = .ok (.istore 4, 2) := by decide +kernel
theorem dX12_buildableAfter_59 : decode cX12_buildableAfter 59 = .ok (.iconst 0, 1) := by decide +kernel
theorem dX12_buildableAfter_60 : decode cX12_buildableAfter 60 = .ok (.istore 5, 2) := by decide +kernel
theorem dX12_buildableAfter_62 : decode cX12_buildableAfter 62 = .ok (.iload 5, 2) := by decide +kernel
theorem dX12_buildableAfter_64 : decode cX12_buildableAfter 64 = .ok (.aload_n 0, 1) := by decide +kernel
theorem dX12_buildableAfter_65 : decode cX12_buildableAfter 65 = .ok (.getfield 81, 3) := by decide +kernel
theorem dX12_buildableAfter_68 : decode cX12_buildableAfter 68 = .ok (.iconst 0, 1) := by decide +kernel
theorem dX12_buildableAfter_69 : decode cX12_buildableAfter 69 = .ok (.iaload, 1) := by decide +kernel
theorem dX12_buildableAfter_70 : decode cX12_buildableAfter 70 = .ok (.if_icmp .ge 71, 3) := by decide +kernel
theorem dX12_buildableAfter_73 : decode cX12_buildableAfter 73 = .ok (.aload_n 0, 1) := by decide +kernel
theorem dX12_buildableAfter_74 : decode cX12_buildableAfter 74 = .ok (.iload 5, 2) := by decide +kernel
theorem dX12_buildableAfter_76 : decode cX12_buildableAfter 76 = .ok (.invokevirtual 194, 3) := by decide +kernel
theorem dX12_buildableAfter_79 : decode cX12_buildableAfter 79 = .ok (.iload_n 3, 1) := by decide +kernel
theorem dX12_buildableAfter_80 : decode cX12_buildableAfter 80 = .ok (.aload_n 0, 1) := by decide +kernel
theorem dX12_buildableAfter_81 : decode cX12_buildableAfter 81 = .ok (.iload_n 2, 1) := by decide +kernel
theorem dX12_buildableAfter_82 : decode cX12_buildableAfter 82 = .ok (.iload 5, 2) := by decide +kernel
theorem dX12_buildableAfter_84 : decode cX12_buildableAfter 84 = .ok (.invokevirtual 176, 3) := by decide +kernel
theorem dX12_buildableAfter_87 : decode cX12_buildableAfter 87 = .ok (.imul, 1) := by decide +kernel
theorem dX12_buildableAfter_88 : decode cX12_buildableAfter 88 = .ok (.isub, 1) := by decide +kernel
theorem dX12_buildableAfter_89 : decode cX12_buildableAfter 89 = .ok (.istore 6, 2) := by decide +kernel
theorem dX12_buildableAfter_91 : decode cX12_buildableAfter 91 = .ok (.aload_n 0, 1) := by decide +kernel
theorem dX12_buildableAfter_92 : decode cX12_buildableAfter 92 = .ok (.iload_n 2, 1) := by decide +kernel
theorem dX12_buildableAfter_93 : decode cX12_buildableAfter 93 = .ok (.iload 5, 2) := by decide +kernel
theorem dX12_buildableAfter_95 : decode cX12_buildableAfter 95 = .ok (.invokevirtual 176, 3) := by decide +kernel
theorem dX12_buildableAfter_98 : decode cX12_buildableAfter 98 = .ok (.ifCond .le 10, 3) := by decide +kernel
theorem dX12_buildableAfter_101 : decode cX12_buildableAfter 101 = .ok (.iload 6, 2) := by decide +kernel
theorem dX12_buildableAfter_103 : decode cX12_buildableAfter 103 = .ok (.ifCond .ge 5, 3) := by decide +kernel
theorem dX12_buildableAfter_106 : decode cX12_buildableAfter 106 = .ok (.iconst (-1), 1) := by decide +kernel
theorem dX12_buildableAfter_107 : decode cX12_buildableAfter 107 = .ok (.ireturn, 1) := by decide +kernel
theorem dX12_buildableAfter_108 : decode cX12_buildableAfter 108 = .ok (.aload_n 0, 1) := by decide +kernel
theorem dX12_buildableAfter_109 : decode cX12_buildableAfter 109 = .ok (.iload_n 1, 1) := by decide +kernel
theorem dX12_buildableAfter_110 : decode cX12_buildableAfter 110 = .ok (.iload 5, 2) := by decide +kernel
theorem dX12_buildableAfter_112 : decode cX12_buildableAfter 112 = .ok (.invokevirtual 176, 3) := by decide +kernel
theorem dX12_buildableAfter_115 : decode cX12_buildableAfter 115 = .ok (.ifCond .le 20, 3) := by decide +kernel
theorem dX12_buildableAfter_118 : decode cX12_buildableAfter 118 = .ok (.iload 4, 2) := by decide +kernel
theorem dX12_buildableAfter_120 : decode cX12_buildableAfter 120 = .ok (.iload 6, 2) := by decide +kernel
theorem dX12_buildableAfter_122 : decode cX12_buildableAfter 122 = .ok (.aload_n 0, 1) := by decide +kernel
theorem dX12_buildableAfter_123 : decode cX12_buildableAfter 123 = .ok (.iload_n 1, 1) := by decide +kernel
theorem dX12_buildableAfter_124 : decode cX12_buildableAfter 124 = .ok (.iload 5, 2) := by decide +kernel
theorem dX12_buildableAfter_126 : decode cX12_buildableAfter 126 = .ok (.invokevirtual 176, 3) := by decide +kernel
theorem dX12_buildableAfter_129 : decode cX12_buildableAfter 129 = .ok (.idiv, 1) := by decide +kernel
theorem dX12_buildableAfter_130 : decode cX12_buildableAfter 130 = .ok (.invokestatic 203, 3) := by decide +kernel
theorem dX12_buildableAfter_133 : decode cX12_buildableAfter 133 = .ok (.istore 4, 2) := by decide +kernel
theorem dX12_buildableAfter_135 : decode cX12_buildableAfter 135 = .ok (.iinc 5 1, 3) := by decide +kernel
theorem dX12_buildableAfter_138 : decode cX12_buildableAfter 138 = .ok (.goto (-76), 3) := by decide +kernel
theorem dX12_buildableAfter_141 : decode cX12_buildableAfter 141 = .ok (.iload 4, 2) := by decide +kernel
theorem dX12_buildableAfter_143 : decode cX12_buildableAfter 143 = .ok (.ireturn, 1) := by decide +kernel
theorem dX12_coveredOrders_0 : decode cX12_coveredOrders 0 = .ok (.aload_n 0, 1) := by decide +kernel
theorem dX12_coveredOrders_1 : decode cX12_coveredOrders 1 = .ok (.iconst 0, 1) := by decide +kernel
theorem dX12_coveredOrders_2 : decode cX12_coveredOrders 2 = .ok (.putfield 3, 3) := by decide +kernel
theorem dX12_coveredOrders_5 : decode cX12_coveredOrders 5 = .ok (.iconst 0, 1) := by decide +kernel
theorem dX12_coveredOrders_6 : decode cX12_coveredOrders 6 = .ok (.istore_n 1, 1) := by decide +kernel
theorem dX12_coveredOrders_7 : decode cX12_coveredOrders 7 = .ok (.iload_n 1, 1) := by decide +kernel
theorem dX12_coveredOrders_8 : decode cX12_coveredOrders 8 = .ok (.bipush 12, 2) := by decide +kernel
theorem dX12_coveredOrders_10 : decode cX12_coveredOrders 10 = .ok (.if_icmp .ge 20, 3) := by decide +kernel
theorem dX12_coveredOrders_13 : decode cX12_coveredOrders 13 = .ok (.aload_n 0, 1) := by decide +kernel
theorem dX12_coveredOrders_14 : decode cX12_coveredOrders 14 = .ok (.getfield 93, 3) := by decide +kernel
theorem dX12_coveredOrders_17 : decode cX12_coveredOrders 17 = .ok (.iload_n 1, 1) := by decide +kernel
theorem dX12_coveredOrders_18 : decode cX12_coveredOrders 18 = .ok (.aload_n 0, 1) := by decide +kernel
theorem dX12_coveredOrders_19 : decode cX12_coveredOrders 19 = .ok (.iload_n 1, 1) := by decide +kernel
theorem dX12_coveredOrders_20 : decode cX12_coveredOrders 20 = .ok (.invokevirtual 194, 3) := by decide +kernel
theorem dX12_coveredOrders_23 : decode cX12_coveredOrders 23 = .ok (.iastore, 1) := by decide +kernel
theorem dX12_coveredOrders_24 : decode cX12_coveredOrders 24 = .ok (.iinc 1 1, 3) := by decide +kernel
theorem dX12_coveredOrders_27 : decode cX12_coveredOrders 27 = .ok (.goto (-20), 3) := by decide +kernel
theorem dX12_coveredOrders_30 : decode cX12_coveredOrders 30 = .ok (.iconst 0, 1) := by decide +kernel
theorem dX12_coveredOrders_31 : decode cX12_coveredOrders 31 = .ok (.istore_n 1, 1) := by decide +kernel
theorem dX12_coveredOrders_32 : decode cX12_coveredOrders 32 = .ok (.iconst 0, 1) := by decide +kernel
theorem dX12_coveredOrders_33 : decode cX12_coveredOrders 33 = .ok (.istore_n 2, 1) := by decide +kernel
theorem dX12_coveredOrders_34 : decode cX12_coveredOrders 34 = .ok (.aload_n 0, 1) := by decide +kernel
theorem dX12_coveredOrders_35 : decode cX12_coveredOrders 35 = .ok (.iload_n 2, 1) := by decide +kernel
theorem dX12_coveredOrders_36 : decode cX12_coveredOrders 36 = .ok (.invokevirtual 245, 3) := by decide +kernel
theorem dX12_coveredOrders_39 : decode cX12_coveredOrders 39 = .ok (.istore_n 3, 1) := by decide +kernel
theorem dX12_coveredOrders_40 : decode cX12_coveredOrders 40 = .ok (.iload_n 3, 1) := by decide +kernel
theorem dX12_coveredOrders_41 : decode cX12_coveredOrders 41 = .ok (.iconst (-1), 1) := by decide +kernel
theorem dX12_coveredOrders_42 : decode cX12_coveredOrders 42 = .ok (.if_icmp .eq 32, 3) := by decide +kernel
theorem dX12_coveredOrders_45 : decode cX12_coveredOrders 45 = .ok (.iload_n 2, 1) := by decide +kernel
theorem dX12_coveredOrders_46 : decode cX12_coveredOrders 46 = .ok (.iconst 1, 1) := by decide +kernel
theorem dX12_coveredOrders_47 : decode cX12_coveredOrders 47 = .ok (.iload_n 3, 1) := by decide +kernel
theorem dX12_coveredOrders_48 : decode cX12_coveredOrders 48 = .ok (.ishl, 1) := by decide +kernel
theorem dX12_coveredOrders_49 : decode cX12_coveredOrders 49 = .ok (.ior, 1) := by decide +kernel
theorem dX12_coveredOrders_50 : decode cX12_coveredOrders 50 = .ok (.istore_n 2, 1) := by decide +kernel
theorem dX12_coveredOrders_51 : decode cX12_coveredOrders 51 = .ok (.aload_n 0, 1) := by decide +kernel
theorem dX12_coveredOrders_52 : decode cX12_coveredOrders 52 = .ok (.iload_n 3, 1) := by decide +kernel
theorem dX12_coveredOrders_53 : decode cX12_coveredOrders 53 = .ok (.invokevirtual 248, 3) := by decide +kernel
theorem dX12_coveredOrders_56 : decode cX12_coveredOrders 56 = .ok (.ifCond .eq 9, 3) := by decide +kernel
theorem dX12_coveredOrders_59 : decode cX12_coveredOrders 59 = .ok (.iload_n 1, 1) := by decide +kernel
theorem dX12_coveredOrders_60 : decode cX12_coveredOrders 60 = .ok (.iconst 1, 1) := by decide +kernel
theorem dX12_coveredOrders_61 : decode cX12_coveredOrders 61 = .ok (.iload_n 3, 1) := by decide +kernel
theorem dX12_coveredOrders_62 : decode cX12_coveredOrders 62 = .ok (.ishl, 1) := by decide +kernel
theorem dX12_coveredOrders_63 : decode cX12_coveredOrders 63 = .ok (.ior, 1) := by decide +kernel
theorem dX12_coveredOrders_64 : decode cX12_coveredOrders 64 = .ok (.istore_n 1, 1) := by decide +kernel
theorem dX12_coveredOrders_65 : decode cX12_coveredOrders 65 = .ok (.aload_n 0, 1) := by decide +kernel
theorem dX12_coveredOrders_66 : decode cX12_coveredOrders 66 = .ok (.iload_n 2, 1) := by decide +kernel
theorem dX12_coveredOrders_67 : decode cX12_coveredOrders 67 = .ok (.invokevirtual 245, 3) := by decide +kernel
theorem dX12_coveredOrders_70 : decode cX12_coveredOrders 70 = .ok (.istore_n 3, 1) := by decide +kernel
theorem dX12_coveredOrders_71 : decode cX12_coveredOrders 71 = .ok (.goto (-31), 3) := by decide +kernel
theorem dX12_coveredOrders_74 : decode cX12_coveredOrders 74 = .ok (.iload_n 1, 1) := by decide +kernel
theorem dX12_coveredOrders_75 : decode cX12_coveredOrders 75 = .ok (.ireturn, 1) := by decide +kernel
theorem dX12_nextOpen_0 : decode cX12_nextOpen 0 = .ok (.iconst (-1), 1) := by decide +kernel
theorem dX12_nextOpen_1 : decode cX12_nextOpen 1 = .ok (.istore_n 2, 1) := by decide +kernel
theorem dX12_nextOpen_2 : decode cX12_nextOpen 2 = .ok (.iconst 0, 1) := by decide +kernel
theorem dX12_nextOpen_3 : decode cX12_nextOpen 3 = .ok (.istore_n 3, 1) := by decide +kernel
theorem dX12_nextOpen_4 : decode cX12_nextOpen 4 = .ok (.iload_n 3, 1) := by decide +kernel
theorem dX12_nextOpen_5 : decode cX12_nextOpen 5 = .ok (.aload_n 0, 1) := by decide +kernel
theorem dX12_nextOpen_6 : decode cX12_nextOpen 6 = .ok (.getfield 87, 3) := by decide +kernel
theorem dX12_nextOpen_9 : decode cX12_nextOpen 9 = .ok (.iconst 1, 1) := by decide +kernel
theorem dX12_nextOpen_10 : decode cX12_nextOpen 10 = .ok (.iaload, 1) := by decide +kernel
theorem dX12_nextOpen_11 : decode cX12_nextOpen 11 = .ok (.if_icmp .ge 41, 3) := by decide +kernel
theorem dX12_nextOpen_14 : decode cX12_nextOpen 14 = .ok (.iload_n 1, 1) := by decide +kernel
theorem dX12_nextOpen_15 : decode cX12_nextOpen 15 = .ok (.iload_n 3, 1) := by decide +kernel
theorem dX12_nextOpen_16 : decode cX12_nextOpen 16 = .ok (.ishr, 1) := by decide +kernel
theorem dX12_nextOpen_17 : decode cX12_nextOpen 17 = .ok (.iconst 1, 1) := by decide +kernel
theorem dX12_nextOpen_18 : decode cX12_nextOpen 18 = .ok (.iand, 1) := by decide +kernel
theorem dX12_nextOpen_19 : decode cX12_nextOpen 19 = .ok (.ifCond .ne 27, 3) := by decide +kernel
theorem dX12_nextOpen_22 : decode cX12_nextOpen 22 = .ok (.aload_n 0, 1) := by decide +kernel
theorem dX12_nextOpen_23 : decode cX12_nextOpen 23 = .ok (.iload_n 3, 1) := by decide +kernel
theorem dX12_nextOpen_24 : decode cX12_nextOpen 24 = .ok (.invokevirtual 209, 3) := by decide +kernel
theorem dX12_nextOpen_27 : decode cX12_nextOpen 27 = .ok (.ifCond .le 19, 3) := by decide +kernel
theorem dX12_nextOpen_30 : decode cX12_nextOpen 30 = .ok (.iload_n 2, 1) := by decide +kernel
theorem dX12_nextOpen_31 : decode cX12_nextOpen 31 = .ok (.iconst (-1), 1) := by decide +kernel
theorem dX12_nextOpen_32 : decode cX12_nextOpen 32 = .ok (.if_icmp .eq 12, 3) := by decide +kernel
theorem dX12_nextOpen_35 : decode cX12_nextOpen 35 = .ok (.aload_n 0, 1) := by decide +kernel
theorem dX12_nextOpen_36 : decode cX12_nextOpen 36 = .ok (.iload_n 3, 1) := by decide +kernel
theorem dX12_nextOpen_37 : decode cX12_nextOpen 37 = .ok (.iload_n 2, 1) := by decide +kernel
theorem dX12_nextOpen_38 : decode cX12_nextOpen 38 = .ok (.invokevirtual 227, 3) := by decide +kernel
theorem dX12_nextOpen_41 : decode cX12_nextOpen 41 = .ok (.ifCond .eq 5, 3) := by decide +kernel
theorem dX12_nextOpen_44 : decode cX12_nextOpen 44 = .ok (.iload_n 3, 1) := by decide +kernel
theorem dX12_nextOpen_45 : decode cX12_nextOpen 45 = .ok (.istore_n 2, 1) := by decide +kernel
theorem dX12_nextOpen_46 : decode cX12_nextOpen 46 = .ok (.iinc 3 1, 3) := by decide +kernel
theorem dX12_nextOpen_49 : decode cX12_nextOpen 49 = .ok (.goto (-45), 3) := by decide +kernel
theorem dX12_nextOpen_52 : decode cX12_nextOpen 52 = .ok (.iload_n 2, 1) := by decide +kernel
theorem dX12_nextOpen_53 : decode cX12_nextOpen 53 = .ok (.ireturn, 1) := by decide +kernel
theorem dX12_isCovered_0 : decode cX12_isCovered 0 = .ok (.iconst 0, 1) := by decide +kernel
theorem dX12_isCovered_1 : decode cX12_isCovered 1 = .ok (.istore_n 2, 1) := by decide +kernel
theorem dX12_isCovered_2 : decode cX12_isCovered 2 = .ok (.iload_n 2, 1) := by decide +kernel
theorem dX12_isCovered_3 : decode cX12_isCovered 3 = .ok (.aload_n 0, 1) := by decide +kernel
theorem dX12_isCovered_4 : decode cX12_isCovered 4 = .ok (.getfield 81, 3) := by decide +kernel
theorem dX12_isCovered_7 : decode cX12_isCovered 7 = .ok (.iconst 0, 1) := by decide +kernel
theorem dX12_isCovered_8 : decode cX12_isCovered 8 = .ok (.iaload, 1) := by decide +kernel
theorem dX12_isCovered_9 : decode cX12_isCovered 9 = .ok (.if_icmp .ge 37, 3) := by decide +kernel
theorem dX12_isCovered_12 : decode cX12_isCovered 12 = .ok (.aload_n 0, 1) := by decide +kernel
theorem dX12_isCovered_13 : decode cX12_isCovered 13 = .ok (.iload_n 1, 1) := by decide +kernel
theorem dX12_isCovered_14 : decode cX12_isCovered 14 = .ok (.invokevirtual 209, 3) := by decide +kernel
theorem dX12_isCovered_17 : decode cX12_isCovered 17 = .ok (.aload_n 0, 1) := by decide +kernel
theorem dX12_isCovered_18 : decode cX12_isCovered 18 = .ok (.aload_n 0, 1) := by decide +kernel
theorem dX12_isCovered_19 : decode cX12_isCovered 19 = .ok (.iload_n 1, 1) := by decide +kernel
theorem dX12_isCovered_20 : decode cX12_isCovered 20 = .ok (.iconst 0, 1) := by decide +kernel
theorem dX12_isCovered_21 : decode cX12_isCovered 21 = .ok (.invokevirtual 166, 3) := by decide +kernel
theorem dX12_isCovered_24 : decode cX12_isCovered 24 = .ok (.iload_n 2, 1) := by decide +kernel
theorem dX12_isCovered_25 : decode cX12_isCovered 25 = .ok (.invokevirtual 176, 3) := by decide +kernel
theorem dX12_isCovered_28 : decode cX12_isCovered 28 = .ok (.imul, 1) := by decide +kernel
theorem dX12_isCovered_29 : decode cX12_isCovered 29 = .ok (.aload_n 0, 1) := by decide +kernel
theorem dX12_isCovered_30 : decode cX12_isCovered 30 = .ok (.getfield 93, 3) := by decide +kernel
theorem dX12_isCovered_33 : decode cX12_isCovered 33 = .ok (.iload_n 2, 1) := by decide +kernel
theorem dX12_isCovered_34 : decode cX12_isCovered 34 = .ok (.iaload, 1) := by decide +kernel
theorem dX12_isCovered_35 : decode cX12_isCovered 35 = .ok (.if_icmp .le 5, 3) := by decide +kernel
theorem dX12_isCovered_38 : decode cX12_isCovered 38 = .ok (.iconst 0, 1) := by decide +kernel
theorem dX12_isCovered_39 : decode cX12_isCovered 39 = .ok (.ireturn, 1) := by decide +kernel
theorem dX12_isCovered_40 : decode cX12_isCovered 40 = .ok (.iinc 2 1, 3) := by decide +kernel
theorem dX12_isCovered_43 : decode cX12_isCovered 43 = .ok (.goto (-41), 3) := by decide +kernel
theorem dX12_isCovered_46 : decode cX12_isCovered 46 = .ok (.iconst 0, 1) := by decide +kernel
theorem dX12_isCovered_47 : decode cX12_isCovered 47 = .ok (.istore_n 2, 1) := by decide +kernel
theorem dX12_isCovered_48 : decode cX12_isCovered 48 = .ok (.iload_n 2, 1) := by decide +kernel
theorem dX12_isCovered_49 : decode cX12_isCovered 49 = .ok (.aload_n 0, 1) := by decide +kernel
theorem dX12_isCovered_50 : decode cX12_isCovered 50 = .ok (.getfield 81, 3) := by decide +kernel
theorem dX12_isCovered_53 : decode cX12_isCovered 53 = .ok (.iconst 0, 1) := by decide +kernel
theorem dX12_isCovered_54 : decode cX12_isCovered 54 = .ok (.iaload, 1) := by decide +kernel
theorem dX12_isCovered_55 : decode cX12_isCovered 55 = .ok (.if_icmp .ge 35, 3) := by decide +kernel
theorem dX12_isCovered_58 : decode cX12_isCovered 58 = .ok (.aload_n 0, 1) := by decide +kernel
theorem dX12_isCovered_59 : decode cX12_isCovered 59 = .ok (.getfield 93, 3) := by decide +kernel
theorem dX12_isCovered_62 : decode cX12_isCovered 62 = .ok (.iload_n 2, 1) := by decide +kernel
theorem dX12_isCovered_63 : decode cX12_isCovered 63 = .ok (.dup2, 1) := by decide +kernel
theorem dX12_isCovered_64 : decode cX12_isCovered 64 = .ok (.iaload, 1) := by decide +kernel
theorem dX12_isCovered_65 : decode cX12_isCovered 65 = .ok (.aload_n 0, 1) := by decide +kernel
theorem dX12_isCovered_66 : decode cX12_isCovered 66 = .ok (.iload_n 1, 1) := by decide +kernel
theorem dX12_isCovered_67 : decode cX12_isCovered 67 = .ok (.invokevirtual 209, 3) := by decide +kernel
theorem dX12_isCovered_70 : decode cX12_isCovered 70 = .ok (.aload_n 0, 1) := by decide +kernel
theorem dX12_isCovered_71 : decode cX12_isCovered 71 = .ok (.aload_n 0, 1) := by decide +kernel
theorem dX12_isCovered_72 : decode cX12_isCovered 72 = .ok (.iload_n 1, 1) := by decide +kernel
theorem dX12_isCovered_73 : decode cX12_isCovered 73 = .ok (.iconst 0, 1) := by decide +kernel
theorem dX12_isCovered_74 : decode cX12_isCovered 74 = .ok (.invokevirtual 166, 3) := by decide +kernel
theorem dX12_isCovered_77 : decode cX12_isCovered 77 = .ok (.iload_n 2, 1) := by decide +kernel
theorem dX12_isCovered_78 : decode cX12_isCovered 78 = .ok (.invokevirtual 176, 3) := by decide +kernel
theorem dX12_isCovered_81 : decode cX12_isCovered 81 = .ok (.imul, 1) := by decide +kernel
theorem dX12_isCovered_82 : decode cX12_isCovered 82 = .ok (.isub, 1) := by decide +kernel
theorem dX12_isCovered_83 : decode cX12_isCovered 83 = .ok (.iastore, 1) := by decide +kernel
theorem dX12_isCovered_84 : decode cX12_isCovered 84 = .ok (.iinc 2 1, 3) := by decide +kernel
theorem dX12_isCovered_87 : decode cX12_isCovered 87 = .ok (.goto (-39), 3) := by decide +kernel
theorem dX12_isCovered_90 : decode cX12_isCovered 90 = .ok (.iconst 1, 1) := by decide +kernel
theorem dX12_isCovered_91 : decode cX12_isCovered 91 = .ok (.ireturn, 1) := by decide +kernel
theorem dX12_promiseOfAll_0 : decode cX12_promiseOfAll 0 = .ok (.aload_n 0, 1) := by decide +kernel
theorem dX12_promiseOfAll_1 : decode cX12_promiseOfAll 1 = .ok (.iconst 0, 1) := by decide +kernel
theorem dX12_promiseOfAll_2 : decode cX12_promiseOfAll 2 = .ok (.putfield 3, 3) := by decide +kernel
theorem dX12_promiseOfAll_5 : decode cX12_promiseOfAll 5 = .ok (.aload_n 0, 1) := by decide +kernel
theorem dX12_promiseOfAll_6 : decode cX12_promiseOfAll 6 = .ok (.getfield 87, 3) := by decide +kernel
theorem dX12_promiseOfAll_9 : decode cX12_promiseOfAll 9 = .ok (.iconst 0, 1) := by decide +kernel
theorem dX12_promiseOfAll_10 : decode cX12_promiseOfAll 10 = .ok (.iaload, 1) := by decide +kernel
theorem dX12_promiseOfAll_11 : decode cX12_promiseOfAll 11 = .ok (.istore_n 1, 1) := by decide +kernel
theorem dX12_promiseOfAll_12 : decode cX12_promiseOfAll 12 = .ok (.iconst 0, 1) := by decide +kernel
theorem dX12_promiseOfAll_13 : decode cX12_promiseOfAll 13 = .ok (.istore_n 2, 1) := by decide +kernel
theorem dX12_promiseOfAll_14 : decode cX12_promiseOfAll 14 = .ok (.iload_n 2, 1) := by decide +kernel
theorem dX12_promiseOfAll_15 : decode cX12_promiseOfAll 15 = .ok (.aload_n 0, 1) := by decide +kernel
theorem dX12_promiseOfAll_16 : decode cX12_promiseOfAll 16 = .ok (.getfield 81, 3) := by decide +kernel
theorem dX12_promiseOfAll_19 : decode cX12_promiseOfAll 19 = .ok (.iconst 0, 1) := by decide +kernel
theorem dX12_promiseOfAll_20 : decode cX12_promiseOfAll 20 = .ok (.iaload, 1) := by decide +kernel
theorem dX12_promiseOfAll_21 : decode cX12_promiseOfAll 21 = .ok (.if_icmp .ge 68, 3) := by decide +kernel
theorem dX12_promiseOfAll_24 : decode cX12_promiseOfAll 24 = .ok (.iconst 0, 1) := by decide +kernel
theorem dX12_promiseOfAll_25 : decode cX12_promiseOfAll 25 = .ok (.istore_n 3, 1) := by decide +kernel
theorem dX12_promiseOfAll_26 : decode cX12_promiseOfAll 26 = .ok (.iconst 0, 1) := by decide +kernel
theorem dX12_promiseOfAll_27 : decode cX12_promiseOfAll 27 = .ok (.istore 4, 2) := by decide +kernel
theorem dX12_promiseOfAll_29 : decode cX12_promiseOfAll 29 = .ok (.iload 4, 2) := by decide +kernel
theorem dX12_promiseOfAll_31 : decode cX12_promiseOfAll 31 = .ok (.aload_n 0, 1) := by decide +kernel
theorem dX12_promiseOfAll_32 : decode cX12_promiseOfAll 32 = .ok (.getfield 87, 3) := by decide +kernel
theorem dX12_promiseOfAll_35 : decode cX12_promiseOfAll 35 = .ok (.iconst 1, 1) := by decide +kernel
theorem dX12_promiseOfAll_36 : decode cX12_promiseOfAll 36 = .ok (.iaload, 1) := by decide +kernel
theorem dX12_promiseOfAll_37 : decode cX12_promiseOfAll 37 = .ok (.if_icmp .ge 31, 3) := by decide +kernel
theorem dX12_promiseOfAll_40 : decode cX12_promiseOfAll 40 = .ok (.iload_n 3, 1) := by decide +kernel
theorem dX12_promiseOfAll_41 : decode cX12_promiseOfAll 41 = .ok (.aload_n 0, 1) := by decide +kernel
theorem dX12_promiseOfAll_42 : decode cX12_promiseOfAll 42 = .ok (.iload 4, 2) := by decide +kernel
theorem dX12_promiseOfAll_44 : decode cX12_promiseOfAll 44 = .ok (.invokevirtual 209, 3) := by decide +kernel
theorem dX12_promiseOfAll_47 : decode cX12_promiseOfAll 47 = .ok (.aload_n 0, 1) := by decide +kernel
theorem dX12_promiseOfAll_48 : decode cX12_promiseOfAll 48 = .ok (.aload_n 0, 1) := by decide +kernel
theorem dX12_promiseOfAll_49 : decode cX12_promiseOfAll 49 = .ok (.iload 4, 2) := by decide +kernel
theorem dX12_promiseOfAll_51 : decode cX12_promiseOfAll 51 = .ok (.iconst 0, 1) := by decide +kernel
theorem dX12_promiseOfAll_52 : decode cX12_promiseOfAll 52 = .ok (.invokevirtual 166, 3) := by decide +kernel
theorem dX12_promiseOfAll_55 : decode cX12_promiseOfAll 55 = .ok (.iload_n 2, 1) := by decide +kernel
theorem dX12_promiseOfAll_56 : decode cX12_promiseOfAll 56 = .ok (.invokevirtual 176, 3) := by decide +kernel
theorem dX12_promiseOfAll_59 : decode cX12_promiseOfAll 59 = .ok (.imul, 1) := by decide +kernel
theorem dX12_promiseOfAll_60 : decode cX12_promiseOfAll 60 = .ok (.iadd, 1) := by decide +kernel
theorem dX12_promiseOfAll_61 : decode cX12_promiseOfAll 61 = .ok (.istore_n 3, 1) := by decide +kernel
theorem dX12_promiseOfAll_62 : decode cX12_promiseOfAll 62 = .ok (.iinc 4 1, 3) := by decide +kernel
theorem dX12_promiseOfAll_65 : decode cX12_promiseOfAll 65 = .ok (.goto (-36), 3) := by decide +kernel
theorem dX12_promiseOfAll_68 : decode cX12_promiseOfAll 68 = .ok (.iload_n 3, 1) := by decide +kernel
theorem dX12_promiseOfAll_69 : decode cX12_promiseOfAll 69 = .ok (.ifCond .le 14, 3) := by decide +kernel
theorem dX12_promiseOfAll_72 : decode cX12_promiseOfAll 72 = .ok (.iload_n 1, 1) := by decide +kernel
theorem dX12_promiseOfAll_73 : decode cX12_promiseOfAll 73 = .ok (.aload_n 0, 1) := by decide +kernel
theorem dX12_promiseOfAll_74 : decode cX12_promiseOfAll 74 = .ok (.iload_n 2, 1) := by decide +kernel
theorem dX12_promiseOfAll_75 : decode cX12_promiseOfAll 75 = .ok (.iload_n 3, 1) := by decide +kernel
theorem dX12_promiseOfAll_76 : decode cX12_promiseOfAll 76 = .ok (.invokevirtual 215, 3) := by decide +kernel
theorem dX12_promiseOfAll_79 : decode cX12_promiseOfAll 79 = .ok (.invokestatic 183, 3) := by decide +kernel
theorem dX12_promiseOfAll_82 : decode cX12_promiseOfAll 82 = .ok (.istore_n 1, 1) := by decide +kernel
theorem dX12_promiseOfAll_83 : decode cX12_promiseOfAll 83 = .ok (.iinc 2 1, 3) := by decide +kernel
theorem dX12_promiseOfAll_86 : decode cX12_promiseOfAll 86 = .ok (.goto (-72), 3) := by decide +kernel
theorem dX12_promiseOfAll_89 : decode cX12_promiseOfAll 89 = .ok (.iload_n 1, 1) := by decide +kernel
theorem dX12_promiseOfAll_90 : decode cX12_promiseOfAll 90 = .ok (.ireturn, 1) := by decide +kernel
theorem dX12_addOrder_0 : decode cX12_addOrder 0 = .ok (.aload_n 0, 1) := by decide +kernel
theorem dX12_addOrder_1 : decode cX12_addOrder 1 = .ok (.iconst 0, 1) := by decide +kernel
theorem dX12_addOrder_2 : decode cX12_addOrder 2 = .ok (.putfield 3, 3) := by decide +kernel
theorem dX12_addOrder_5 : decode cX12_addOrder 5 = .ok (.iload_n 2, 1) := by decide +kernel
theorem dX12_addOrder_6 : decode cX12_addOrder 6 = .ok (.iconst 1, 1) := by decide +kernel
theorem dX12_addOrder_7 : decode cX12_addOrder 7 = .ok (.bipush 99, 2) := by decide +kernel
theorem dX12_addOrder_9 : decode cX12_addOrder 9 = .ok (.invokestatic 72, 3) := by decide +kernel
theorem dX12_addOrder_12 : decode cX12_addOrder 12 = .ok (.ifCond .eq 25, 3) := by decide +kernel
theorem dX12_addOrder_15 : decode cX12_addOrder 15 = .ok (.iload_n 3, 1) := by decide +kernel
theorem dX12_addOrder_16 : decode cX12_addOrder 16 = .ok (.iconst 0, 1) := by decide +kernel
theorem dX12_addOrder_17 : decode cX12_addOrder 17 = .ok (.bipush 9, 2) := by decide +kernel
theorem dX12_addOrder_19 : decode cX12_addOrder 19 = .ok (.invokestatic 72, 3) := by decide +kernel
theorem dX12_addOrder_22 : decode cX12_addOrder 22 = .ok (.ifCond .eq 15, 3) := by decide +kernel
theorem dX12_addOrder_25 : decode cX12_addOrder 25 = .ok (.iload 4, 2) := by decide +kernel
theorem dX12_addOrder_27 : decode cX12_addOrder 27 = .ok (.iconst 0, 1) := by decide +kernel
theorem dX12_addOrder_28 : decode cX12_addOrder 28 = .ok (.sipush 999, 3) := by decide +kernel
theorem dX12_addOrder_31 : decode cX12_addOrder 31 = .ok (.invokestatic 72, 3) := by decide +kernel
theorem dX12_addOrder_34 : decode cX12_addOrder 34 = .ok (.ifCond .ne 7, 3) := by decide +kernel
theorem dX12_addOrder_37 : decode cX12_addOrder 37 = .ok (.iconst 1, 1) := by decide +kernel
theorem dX12_addOrder_38 : decode cX12_addOrder 38 = .ok (.goto 4, 3) := by decide +kernel
theorem dX12_addOrder_41 : decode cX12_addOrder 41 = .ok (.iconst 0, 1) := by decide +kernel
theorem dX12_addOrder_42 : decode cX12_addOrder 42 = .ok (.istore 6, 2) := by decide +kernel
theorem dX12_addOrder_44 : decode cX12_addOrder 44 = .ok (.aload_n 0, 1) := by decide +kernel
theorem dX12_addOrder_45 : decode cX12_addOrder 45 = .ok (.iload_n 1, 1) := by decide +kernel
theorem dX12_addOrder_46 : decode cX12_addOrder 46 = .ok (.invokevirtual 169, 3) := by decide +kernel
theorem dX12_addOrder_49 : decode cX12_addOrder 49 = .ok (.ifCond .ne 37, 3) := by decide +kernel
theorem dX12_addOrder_52 : decode cX12_addOrder 52 = .ok (.aload_n 0, 1) := by decide +kernel
theorem dX12_addOrder_53 : decode cX12_addOrder 53 = .ok (.iload 6, 2) := by decide +kernel
theorem dX12_addOrder_55 : decode cX12_addOrder 55 = .ok (.iconst 2, 1) := by decide +kernel
theorem dX12_addOrder_56 : decode cX12_addOrder 56 = .ok (.invokevirtual 159, 3) := by decide +kernel
theorem dX12_addOrder_59 : decode cX12_addOrder 59 = .ok (.ifCond .ne 27, 3) := by decide +kernel
theorem dX12_addOrder_62 : decode cX12_addOrder 62 = .ok (.aload_n 0, 1) := by decide +kernel
theorem dX12_addOrder_63 : decode cX12_addOrder 63 = .ok (.aload_n 0, 1) := by decide +kernel
theorem dX12_addOrder_64 : decode cX12_addOrder 64 = .ok (.getfield 87, 3) := by decide +kernel
theorem dX12_addOrder_67 : decode cX12_addOrder 67 = .ok (.iconst 1, 1) := by decide +kernel
theorem dX12_addOrder_68 : decode cX12_addOrder 68 = .ok (.iaload, 1) := by decide +kernel
theorem dX12_addOrder_69 : decode cX12_addOrder 69 = .ok (.bipush 20, 2) := by decide +kernel
theorem dX12_addOrder_71 : decode cX12_addOrder 71 = .ok (.if_icmp .ne 7, 3) := by decide +kernel
theorem dX12_addOrder_74 : decode cX12_addOrder 74 = .ok (.iconst 1, 1) := by decide +kernel
theorem dX12_addOrder_75 : decode cX12_addOrder 75 = .ok (.goto 4, 3) := by decide +kernel
theorem dX12_addOrder_78 : decode cX12_addOrder 78 = .ok (.iconst 0, 1) := by decide +kernel
theorem dX12_addOrder_79 : decode cX12_addOrder 79 = .ok (.iconst 3, 1) := by decide +kernel
theorem dX12_addOrder_80 : decode cX12_addOrder 80 = .ok (.invokevirtual 159, 3) := by decide +kernel
theorem dX12_addOrder_83 : decode cX12_addOrder 83 = .ok (.ifCond .eq 5, 3) := by decide +kernel
theorem dX12_addOrder_86 : decode cX12_addOrder 86 = .ok (.iconst 0, 1) := by decide +kernel
theorem dX12_addOrder_87 : decode cX12_addOrder 87 = .ok (.ireturn, 1) := by decide +kernel
theorem dX12_addOrder_88 : decode cX12_addOrder 88 = .ok (.aload_n 0, 1) := by decide +kernel
theorem dX12_addOrder_89 : decode cX12_addOrder 89 = .ok (.invokevirtual 251, 3) := by decide +kernel
theorem dX12_addOrder_92 : decode cX12_addOrder 92 = .ok (.bipush 93, 2) := by decide +kernel
theorem dX12_addOrder_94 : decode cX12_addOrder 94 = .ok (.bipush 8, 2) := by decide +kernel
theorem dX12_addOrder_96 : decode cX12_addOrder 96 = .ok (.aload_n 0, 1) := by decide +kernel
theorem dX12_addOrder_97 : decode cX12_addOrder 97 = .ok (.getfield 87, 3) := by decide +kernel
theorem dX12_addOrder_100 : decode cX12_addOrder 100 = .ok (.iconst 1, 1) := by decide +kernel
theorem dX12_addOrder_101 : decode cX12_addOrder 101 = .ok (.iaload, 1) := by decide +kernel
theorem dX12_addOrder_102 : decode cX12_addOrder 102 = .ok (.imul, 1) := by decide +kernel
theorem dX12_addOrder_103 : decode cX12_addOrder 103 = .ok (.iadd, 1) := by decide +kernel
theorem dX12_addOrder_104 : decode cX12_addOrder 104 = .ok (.istore 7, 2) := by decide +kernel
theorem dX12_addOrder_106 : decode cX12_addOrder 106 = .ok (.iconst 0, 1) := by decide +kernel
theorem dX12_addOrder_107 : decode cX12_addOrder 107 = .ok (.istore 8, 2) := by decide +kernel
theorem dX12_addOrder_109 : decode cX12_addOrder 109 = .ok (.iload 8, 2) := by decide +kernel
theorem dX12_addOrder_111 : decode cX12_addOrder 111 = .ok (.bipush 8, 2) := by decide +kernel
theorem dX12_addOrder_113 : decode cX12_addOrder 113 = .ok (.if_icmp .ge 20, 3) := by decide +kernel
theorem dX12_addOrder_116 : decode cX12_addOrder 116 = .ok (.aload_n 0, 1) := by decide +kernel
theorem dX12_addOrder_117 : decode cX12_addOrder 117 = .ok (.getfield 87, 3) := by decide +kernel
theorem dX12_addOrder_120 : decode cX12_addOrder 120 = .ok (.iload 7, 2) := by decide +kernel
theorem dX12_addOrder_122 : decode cX12_addOrder 122 = .ok (.iload 8, 2) := by decide +kernel
theorem dX12_addOrder_124 : decode cX12_addOrder 124 = .ok (.iadd, 1) := by decide +kernel
theorem dX12_addOrder_125 : decode cX12_addOrder 125 = .ok (.iconst 0, 1) := by decide +kernel
theorem dX12_addOrder_126 : decode cX12_addOrder 126 = .ok (.iastore, 1) := by decide +kernel
theorem dX12_addOrder_127 : decode cX12_addOrder 127 = .ok (.iinc 8 1, 3) := by decide +kernel
theorem dX12_addOrder_130 : decode cX12_addOrder 130 = .ok (.goto (-21), 3) := by decide +kernel
theorem dX12_addOrder_133 : decode cX12_addOrder 133 = .ok (.aload_n 0, 1) := by decide +kernel
theorem dX12_addOrder_134 : decode cX12_addOrder 134 = .ok (.getfield 87, 3) := by decide +kernel
theorem dX12_addOrder_137 : decode cX12_addOrder 137 = .ok (.iload 7, 2) := by decide +kernel
theorem dX12_addOrder_139 : decode cX12_addOrder 139 = .ok (.iconst 0, 1) := by decide +kernel
theorem dX12_addOrder_140 : decode cX12_addOrder 140 = .ok (.iadd, 1) := by decide +kernel
theorem dX12_addOrder_141 : decode cX12_addOrder 141 = .ok (.iload_n 1, 1) := by decide +kernel
theorem dX12_addOrder_142 : decode cX12_addOrder 142 = .ok (.iastore, 1) := by decide +kernel
theorem dX12_addOrder_143 : decode cX12_addOrder 143 = .ok (.aload_n 0, 1) := by decide +kernel
theorem dX12_addOrder_144 : decode cX12_addOrder 144 = .ok (.getfield 87, 3) := by decide +kernel
theorem dX12_addOrder_147 : decode cX12_addOrder 147 = .ok (.iload 7, 2) := by decide +kernel
theorem dX12_addOrder_149 : decode cX12_addOrder 149 = .ok (.iconst 1, 1) := by decide +kernel
theorem dX12_addOrder_150 : decode cX12_addOrder 150 = .ok (.iadd, 1) := by decide +kernel
theorem dX12_addOrder_151 : decode cX12_addOrder 151 = .ok (.iload_n 2, 1) := by decide +kernel
theorem dX12_addOrder_152 : decode cX12_addOrder 152 = .ok (.iastore, 1) := by decide +kernel
theorem dX12_addOrder_153 : decode cX12_addOrder 153 = .ok (.aload_n 0, 1) := by decide +kernel
theorem dX12_addOrder_154 : decode cX12_addOrder 154 = .ok (.getfield 87, 3) := by decide +kernel
theorem dX12_addOrder_157 : decode cX12_addOrder 157 = .ok (.iload 7, 2) := by decide +kernel
theorem dX12_addOrder_159 : decode cX12_addOrder 159 = .ok (.iconst 2, 1) := by decide +kernel
theorem dX12_addOrder_160 : decode cX12_addOrder 160 = .ok (.iadd, 1) := by decide +kernel
theorem dX12_addOrder_161 : decode cX12_addOrder 161 = .ok (.iload_n 3, 1) := by decide +kernel
theorem dX12_addOrder_162 : decode cX12_addOrder 162 = .ok (.iastore, 1) := by decide +kernel
theorem dX12_addOrder_163 : decode cX12_addOrder 163 = .ok (.aload_n 0, 1) := by decide +kernel
theorem dX12_addOrder_164 : decode cX12_addOrder 164 = .ok (.getfield 87, 3) := by decide +kernel
theorem dX12_addOrder_167 : decode cX12_addOrder 167 = .ok (.iload 7, 2) := by decide +kernel
theorem dX12_addOrder_169 : decode cX12_addOrder 169 = .ok (.iconst 3, 1) := by decide +kernel
theorem dX12_addOrder_170 : decode cX12_addOrder 170 = .ok (.iadd, 1) := by decide +kernel
theorem dX12_addOrder_171 : decode cX12_addOrder 171 = .ok (.iload 4, 2) := by decide +kernel
theorem dX12_addOrder_173 : decode cX12_addOrder 173 = .ok (.iastore, 1) := by decide +kernel
theorem dX12_addOrder_174 : decode cX12_addOrder 174 = .ok (.aload_n 0, 1) := by decide +kernel
theorem dX12_addOrder_175 : decode cX12_addOrder 175 = .ok (.getfield 87, 3) := by decide +kernel
theorem dX12_addOrder_178 : decode cX12_addOrder 178 = .ok (.iload 7, 2) := by decide +kernel
theorem dX12_addOrder_180 : decode cX12_addOrder 180 = .ok (.iconst 4, 1) := by decide +kernel
theorem dX12_addOrder_181 : decode cX12_addOrder 181 = .ok (.iadd, 1) := by decide +kernel
theorem dX12_addOrder_182 : decode cX12_addOrder 182 = .ok (.iload 5, 2) := by decide +kernel
theorem dX12_addOrder_184 : decode cX12_addOrder 184 = .ok (.ifCond .eq 7, 3) := by decide +kernel
theorem dX12_addOrder_187 : decode cX12_addOrder 187 = .ok (.iconst 1, 1) := by decide +kernel
theorem dX12_addOrder_188 : decode cX12_addOrder 188 = .ok (.goto 4, 3) := by decide +kernel
theorem dX12_addOrder_191 : decode cX12_addOrder 191 = .ok (.iconst 0, 1) := by decide +kernel
theorem dX12_addOrder_192 : decode cX12_addOrder 192 = .ok (.iastore, 1) := by decide +kernel
theorem dX12_addOrder_193 : decode cX12_addOrder 193 = .ok (.aload_n 0, 1) := by decide +kernel
theorem dX12_addOrder_194 : decode cX12_addOrder 194 = .ok (.getfield 87, 3) := by decide +kernel
theorem dX12_addOrder_197 : decode cX12_addOrder 197 = .ok (.iconst 1, 1) := by decide +kernel
theorem dX12_addOrder_198 : decode cX12_addOrder 198 = .ok (.dup2, 1) := by decide +kernel
theorem dX12_addOrder_199 : decode cX12_addOrder 199 = .ok (.iaload, 1) := by decide +kernel
theorem dX12_addOrder_200 : decode cX12_addOrder 200 = .ok (.iconst 1, 1) := by decide +kernel
theorem dX12_addOrder_201 : decode cX12_addOrder 201 = .ok (.iadd, 1) := by decide +kernel
theorem dX12_addOrder_202 : decode cX12_addOrder 202 = .ok (.iastore, 1) := by decide +kernel
theorem dX12_addOrder_203 : decode cX12_addOrder 203 = .ok (.aload_n 0, 1) := by decide +kernel
theorem dX12_addOrder_204 : decode cX12_addOrder 204 = .ok (.getfield 87, 3) := by decide +kernel
theorem dX12_addOrder_207 : decode cX12_addOrder 207 = .ok (.iconst 1, 1) := by decide +kernel
theorem dX12_addOrder_208 : decode cX12_addOrder 208 = .ok (.iaload, 1) := by decide +kernel
theorem dX12_addOrder_209 : decode cX12_addOrder 209 = .ok (.iconst 1, 1) := by decide +kernel
theorem dX12_addOrder_210 : decode cX12_addOrder 210 = .ok (.isub, 1) := by decide +kernel
theorem dX12_addOrder_211 : decode cX12_addOrder 211 = .ok (.ireturn, 1) := by decide +kernel
theorem dX12_holds_0 : decode cX12_holds 0 = .ok (.aload_n 0, 1) := by decide +kernel
theorem dX12_holds_1 : decode cX12_holds 1 = .ok (.iload_n 1, 1) := by decide +kernel
theorem dX12_holds_2 : decode cX12_holds 2 = .ok (.bipush 6, 2) := by decide +kernel
theorem dX12_holds_4 : decode cX12_holds 4 = .ok (.iload_n 2, 1) := by decide +kernel
theorem dX12_holds_5 : decode cX12_holds 5 = .ok (.invokevirtual 254, 3) := by decide +kernel
theorem dX12_holds_8 : decode cX12_holds 8 = .ok (.iconst 0, 1) := by decide +kernel
theorem dX12_holds_9 : decode cX12_holds 9 = .ok (.istore_n 3, 1) := by decide +kernel
theorem dX12_holds_10 : decode cX12_holds 10 = .ok (.iload_n 3, 1) := by decide +kernel
theorem dX12_holds_11 : decode cX12_holds 11 = .ok (.aload_n 0, 1) := by decide +kernel
theorem dX12_holds_12 : decode cX12_holds 12 = .ok (.getfield 81, 3) := by decide +kernel
theorem dX12_holds_15 : decode cX12_holds 15 = .ok (.iconst 0, 1) := by decide +kernel
theorem dX12_holds_16 : decode cX12_holds 16 = .ok (.iaload, 1) := by decide +kernel
theorem dX12_holds_17 : decode cX12_holds 17 = .ok (.if_icmp .ge 34, 3) := by decide +kernel
theorem dX12_holds_20 : decode cX12_holds 20 = .ok (.aload_n 0, 1) := by decide +kernel
theorem dX12_holds_21 : decode cX12_holds 21 = .ok (.getfield 87, 3) := by decide +kernel
theorem dX12_holds_24 : decode cX12_holds 24 = .ok (.bipush 21, 2) := by decide +kernel
theorem dX12_holds_26 : decode cX12_holds 26 = .ok (.iload_n 3, 1) := by decide +kernel
theorem dX12_holds_27 : decode cX12_holds 27 = .ok (.iadd, 1) := by decide +kernel
theorem dX12_holds_28 : decode cX12_holds 28 = .ok (.dup2, 1) := by decide +kernel
theorem dX12_holds_29 : decode cX12_holds 29 = .ok (.iaload, 1) := by decide +kernel
theorem dX12_holds_30 : decode cX12_holds 30 = .ok (.iload_n 2, 1) := by decide +kernel
theorem dX12_holds_31 : decode cX12_holds 31 = .ok (.aload_n 0, 1) := by decide +kernel
theorem dX12_holds_32 : decode cX12_holds 32 = .ok (.aload_n 0, 1) := by decide +kernel
theorem dX12_holds_33 : decode cX12_holds 33 = .ok (.iload_n 1, 1) := by decide +kernel
theorem dX12_holds_34 : decode cX12_holds 34 = .ok (.iconst 0, 1) := by decide +kernel
theorem dX12_holds_35 : decode cX12_holds 35 = .ok (.invokevirtual 166, 3) := by decide +kernel
theorem dX12_holds_38 : decode cX12_holds 38 = .ok (.iload_n 3, 1) := by decide +kernel
theorem dX12_holds_39 : decode cX12_holds 39 = .ok (.invokevirtual 176, 3) := by decide +kernel
theorem dX12_holds_42 : decode cX12_holds 42 = .ok (.imul, 1) := by decide +kernel
theorem dX12_holds_43 : decode cX12_holds 43 = .ok (.iadd, 1) := by decide +kernel
theorem dX12_holds_44 : decode cX12_holds 44 = .ok (.iastore, 1) := by decide +kernel
theorem dX12_holds_45 : decode cX12_holds 45 = .ok (.iinc 3 1, 3) := by decide +kernel
theorem dX12_holds_48 : decode cX12_holds 48 = .ok (.goto (-38), 3) := by decide +kernel
theorem dX12_holds_51 : decode cX12_holds 51 = .ok (.return_, 1) := by decide +kernel
theorem dX12_cancel_0 : decode cX12_cancel 0 = .ok (.aload_n 0, 1) := by decide +kernel
theorem dX12_cancel_1 : decode cX12_cancel 1 = .ok (.iconst 0, 1) := by decide +kernel
theorem dX12_cancel_2 : decode cX12_cancel 2 = .ok (.putfield 3, 3) := by decide +kernel
theorem dX12_cancel_5 : decode cX12_cancel 5 = .ok (.aload_n 0, 1) := by decide +kernel
theorem dX12_cancel_6 : decode cX12_cancel 6 = .ok (.iload_n 1, 1) := by decide +kernel
theorem dX12_cancel_7 : decode cX12_cancel 7 = .ok (.invokevirtual 206, 3) := by decide +kernel
theorem dX12_cancel_10 : decode cX12_cancel 10 = .ok (.ifCond .ne 16, 3) := by decide +kernel
theorem dX12_cancel_13 : decode cX12_cancel 13 = .ok (.aload_n 0, 1) := by decide +kernel
theorem dX12_cancel_14 : decode cX12_cancel 14 = .ok (.aload_n 0, 1) := by decide +kernel
theorem dX12_cancel_15 : decode cX12_cancel 15 = .ok (.iload_n 1, 1) := by decide +kernel
theorem dX12_cancel_16 : decode cX12_cancel 16 = .ok (.invokevirtual 221, 3) := by decide +kernel
theorem dX12_cancel_19 : decode cX12_cancel 19 = .ok (.iconst 2, 1) := by decide +kernel
theorem dX12_cancel_20 : decode cX12_cancel 20 = .ok (.invokevirtual 159, 3) := by decide +kernel
theorem dX12_cancel_23 : decode cX12_cancel 23 = .ok (.ifCond .eq 5, 3) := by decide +kernel
theorem dX12_cancel_26 : decode cX12_cancel 26 = .ok (.iconst 0, 1) := by decide +kernel
theorem dX12_cancel_27 : decode cX12_cancel 27 = .ok (.ireturn, 1) := by decide +kernel
theorem dX12_cancel_28 : decode cX12_cancel 28 = .ok (.aload_n 0, 1) := by decide +kernel
theorem dX12_cancel_29 : decode cX12_cancel 29 = .ok (.invokevirtual 251, 3) := by decide +kernel
theorem dX12_cancel_32 : decode cX12_cancel 32 = .ok (.aload_n 0, 1) := by decide +kernel
theorem dX12_cancel_33 : decode cX12_cancel 33 = .ok (.iload_n 1, 1) := by decide +kernel
theorem dX12_cancel_34 : decode cX12_cancel 34 = .ok (.bipush 6, 2) := by decide +kernel
theorem dX12_cancel_36 : decode cX12_cancel 36 = .ok (.invokevirtual 166, 3) := by decide +kernel
theorem dX12_cancel_39 : decode cX12_cancel 39 = .ok (.istore_n 2, 1) := by decide +kernel
theorem dX12_cancel_40 : decode cX12_cancel 40 = .ok (.aload_n 0, 1) := by decide +kernel
theorem dX12_cancel_41 : decode cX12_cancel 41 = .ok (.iload_n 1, 1) := by decide +kernel
theorem dX12_cancel_42 : decode cX12_cancel 42 = .ok (.iload_n 2, 1) := by decide +kernel
theorem dX12_cancel_43 : decode cX12_cancel 43 = .ok (.ineg, 1) := by decide +kernel
theorem dX12_cancel_44 : decode cX12_cancel 44 = .ok (.invokevirtual 258, 3) := by decide +kernel
theorem dX12_cancel_47 : decode cX12_cancel 47 = .ok (.aload_n 0, 1) := by decide +kernel
theorem dX12_cancel_48 : decode cX12_cancel 48 = .ok (.iload_n 1, 1) := by decide +kernel
theorem dX12_cancel_49 : decode cX12_cancel 49 = .ok (.bipush 7, 2) := by decide +kernel
theorem dX12_cancel_51 : decode cX12_cancel 51 = .ok (.iconst 1, 1) := by decide +kernel
theorem dX12_cancel_52 : decode cX12_cancel 52 = .ok (.invokevirtual 254, 3) := by decide +kernel
theorem dX12_cancel_55 : decode cX12_cancel 55 = .ok (.iload_n 2, 1) := by decide +kernel
theorem dX12_cancel_56 : decode cX12_cancel 56 = .ok (.ireturn, 1) := by decide +kernel
theorem dX12_hasFor_0 : decode cX12_hasFor 0 = .ok (.iconst 0, 1) := by decide +kernel
theorem dX12_hasFor_1 : decode cX12_hasFor 1 = .ok (.istore_n 3, 1) := by decide +kernel
theorem dX12_hasFor_2 : decode cX12_hasFor 2 = .ok (.iload_n 3, 1) := by decide +kernel
theorem dX12_hasFor_3 : decode cX12_hasFor 3 = .ok (.aload_n 0, 1) := by decide +kernel
theorem dX12_hasFor_4 : decode cX12_hasFor 4 = .ok (.getfield 81, 3) := by decide +kernel
theorem dX12_hasFor_7 : decode cX12_hasFor 7 = .ok (.iconst 0, 1) := by decide +kernel
theorem dX12_hasFor_8 : decode cX12_hasFor 8 = .ok (.iaload, 1) := by decide +kernel
theorem dX12_hasFor_9 : decode cX12_hasFor 9 = .ok (.if_icmp .ge 36, 3) := by decide +kernel
theorem dX12_hasFor_12 : decode cX12_hasFor 12 = .ok (.iload_n 2, 1) := by decide +kernel
theorem dX12_hasFor_13 : decode cX12_hasFor 13 = .ok (.i2l, 1) := by decide +kernel
theorem dX12_hasFor_14 : decode cX12_hasFor 14 = .ok (.aload_n 0, 1) := by decide +kernel
theorem dX12_hasFor_15 : decode cX12_hasFor 15 = .ok (.aload_n 0, 1) := by decide +kernel
theorem dX12_hasFor_16 : decode cX12_hasFor 16 = .ok (.iload_n 1, 1) := by decide +kernel
theorem dX12_hasFor_17 : decode cX12_hasFor 17 = .ok (.iconst 0, 1) := by decide +kernel
theorem dX12_hasFor_18 : decode cX12_hasFor 18 = .ok (.invokevirtual 166, 3) := by decide +kernel
theorem dX12_hasFor_21 : decode cX12_hasFor 21 = .ok (.iload_n 3, 1) := by decide +kernel
theorem dX12_hasFor_22 : decode cX12_hasFor 22 = .ok (.invokevirtual 176, 3) := by decide +kernel
theorem dX12_hasFor_25 : decode cX12_hasFor 25 = .ok (.i2l, 1) := by decide +kernel
theorem dX12_hasFor_26 : decode cX12_hasFor 26 = .ok (.lmul, 1) := by decide +kernel
theorem dX12_hasFor_27 : decode cX12_hasFor 27 = .ok (.aload_n 0, 1) := by decide +kernel
theorem dX12_hasFor_28 : decode cX12_hasFor 28 = .ok (.iload_n 3, 1) := by decide +kernel
theorem dX12_hasFor_29 : decode cX12_hasFor 29 = .ok (.invokevirtual 194, 3) := by decide +kernel
theorem dX12_hasFor_32 : decode cX12_hasFor 32 = .ok (.i2l, 1) := by decide +kernel
theorem dX12_hasFor_33 : decode cX12_hasFor 33 = .ok (.lcmp, 1) := by decide +kernel
theorem dX12_hasFor_34 : decode cX12_hasFor 34 = .ok (.ifCond .le 5, 3) := by decide +kernel
theorem dX12_hasFor_37 : decode cX12_hasFor 37 = .ok (.iconst 0, 1) := by decide +kernel
theorem dX12_hasFor_38 : decode cX12_hasFor 38 = .ok (.ireturn, 1) := by decide +kernel
theorem dX12_hasFor_39 : decode cX12_hasFor 39 = .ok (.iinc 3 1, 3) := by decide +kernel
theorem dX12_hasFor_42 : decode cX12_hasFor 42 = .ok (.goto (-40), 3) := by decide +kernel
theorem dX12_hasFor_45 : decode cX12_hasFor 45 = .ok (.iconst 1, 1) := by decide +kernel
theorem dX12_hasFor_46 : decode cX12_hasFor 46 = .ok (.ireturn, 1) := by decide +kernel
theorem dX12_isOff_0 : decode cX12_isOff 0 = .ok (.aload_n 0, 1) := by decide +kernel
theorem dX12_isOff_1 : decode cX12_isOff 1 = .ok (.iload_n 1, 1) := by decide +kernel
theorem dX12_isOff_2 : decode cX12_isOff 2 = .ok (.iconst 4, 1) := by decide +kernel
theorem dX12_isOff_3 : decode cX12_isOff 3 = .ok (.invokevirtual 166, 3) := by decide +kernel
theorem dX12_isOff_6 : decode cX12_isOff 6 = .ok (.iconst 1, 1) := by decide +kernel
theorem dX12_isOff_7 : decode cX12_isOff 7 = .ok (.if_icmp .ne 17, 3) := by decide +kernel
theorem dX12_isOff_10 : decode cX12_isOff 10 = .ok (.iload_n 2, 1) := by decide +kernel
theorem dX12_isOff_11 : decode cX12_isOff 11 = .ok (.aload_n 0, 1) := by decide +kernel
theorem dX12_isOff_12 : decode cX12_isOff 12 = .ok (.iload_n 1, 1) := by decide +kernel
theorem dX12_isOff_13 : decode cX12_isOff 13 = .ok (.iconst 1, 1) := by decide +kernel
theorem dX12_isOff_14 : decode cX12_isOff 14 = .ok (.invokevirtual 166, 3) := by decide +kernel
theorem dX12_isOff_17 : decode cX12_isOff 17 = .ok (.if_icmp .eq 7, 3) := by decide +kernel
theorem dX12_isOff_20 : decode cX12_isOff 20 = .ok (.iconst 1, 1) := by decide +kernel
theorem dX12_isOff_21 : decode cX12_isOff 21 = .ok (.goto 4, 3) := by decide +kernel
theorem dX12_isOff_24 : decode cX12_isOff 24 = .ok (.iconst 0, 1) := by decide +kernel
theorem dX12_isOff_25 : decode cX12_isOff 25 = .ok (.ireturn, 1) := by decide +kernel
theorem dX12_reserve_0 : decode cX12_reserve 0 = .ok (.aload_n 0, 1) := by decide +kernel
theorem dX12_reserve_1 : decode cX12_reserve 1 = .ok (.iconst 0, 1) := by decide +kernel
theorem dX12_reserve_2 : decode cX12_reserve 2 = .ok (.putfield 3, 3) := by decide +kernel
theorem dX12_reserve_5 : decode cX12_reserve 5 = .ok (.aload_n 0, 1) := by decide +kernel
theorem dX12_reserve_6 : decode cX12_reserve 6 = .ok (.iload_n 1, 1) := by decide +kernel
theorem dX12_reserve_7 : decode cX12_reserve 7 = .ok (.invokevirtual 206, 3) := by decide +kernel
theorem dX12_reserve_10 : decode cX12_reserve 10 = .ok (.ifCond .ne 61, 3) := by decide +kernel
theorem dX12_reserve_13 : decode cX12_reserve 13 = .ok (.aload_n 0, 1) := by decide +kernel
theorem dX12_reserve_14 : decode cX12_reserve 14 = .ok (.iload_n 2, 1) := by decide +kernel
theorem dX12_reserve_15 : decode cX12_reserve 15 = .ok (.iconst 1, 1) := by decide +kernel
theorem dX12_reserve_16 : decode cX12_reserve 16 = .ok (.if_icmp .ge 7, 3) := by decide +kernel
theorem dX12_reserve_19 : decode cX12_reserve 19 = .ok (.iconst 1, 1) := by decide +kernel
theorem dX12_reserve_20 : decode cX12_reserve 20 = .ok (.goto 4, 3) := by decide +kernel
theorem dX12_reserve_23 : decode cX12_reserve 23 = .ok (.iconst 0, 1) := by decide +kernel
theorem dX12_reserve_24 : decode cX12_reserve 24 = .ok (.iconst 2, 1) := by decide +kernel
theorem dX12_reserve_25 : decode cX12_reserve 25 = .ok (.invokevirtual 159, 3) := by decide +kernel
theorem dX12_reserve_28 : decode cX12_reserve 28 = .ok (.ifCond .ne 43, 3) := by decide +kernel
theorem dX12_reserve_31 : decode cX12_reserve 31 = .ok (.aload_n 0, 1) := by decide +kernel
theorem dX12_reserve_32 : decode cX12_reserve 32 = .ok (.iload_n 2, 1) := by decide +kernel
theorem dX12_reserve_33 : decode cX12_reserve 33 = .ok (.aload_n 0, 1) := by decide +kernel
theorem dX12_reserve_34 : decode cX12_reserve 34 = .ok (.iload_n 1, 1) := by decide +kernel
theorem dX12_reserve_35 : decode cX12_reserve 35 = .ok (.invokevirtual 209, 3) := by decide +kernel
theorem dX12_reserve_38 : decode cX12_reserve 38 = .ok (.if_icmp .gt 21, 3) := by decide +kernel
theorem dX12_reserve_41 : decode cX12_reserve 41 = .ok (.aload_n 0, 1) := by decide +kernel
theorem dX12_reserve_42 : decode cX12_reserve 42 = .ok (.iload_n 1, 1) := by decide +kernel
theorem dX12_reserve_43 : decode cX12_reserve 43 = .ok (.iload_n 2, 1) := by decide +kernel
theorem dX12_reserve_44 : decode cX12_reserve 44 = .ok (.invokevirtual 261, 3) := by decide +kernel
theorem dX12_reserve_47 : decode cX12_reserve 47 = .ok (.ifCond .ne 12, 3) := by decide +kernel
theorem dX12_reserve_50 : decode cX12_reserve 50 = .ok (.aload_n 0, 1) := by decide +kernel
theorem dX12_reserve_51 : decode cX12_reserve 51 = .ok (.iload_n 1, 1) := by decide +kernel
theorem dX12_reserve_52 : decode cX12_reserve 52 = .ok (.iload_n 2, 1) := by decide +kernel
theorem dX12_reserve_53 : decode cX12_reserve 53 = .ok (.invokevirtual 264, 3) := by decide +kernel
theorem dX12_reserve_56 : decode cX12_reserve 56 = .ok (.ifCond .ne 7, 3) := by decide +kernel
theorem dX12_reserve_59 : decode cX12_reserve 59 = .ok (.iconst 1, 1) := by decide +kernel
theorem dX12_reserve_60 : decode cX12_reserve 60 = .ok (.goto 4, 3) := by decide +kernel
theorem dX12_reserve_63 : decode cX12_reserve 63 = .ok (.iconst 0, 1) := by decide +kernel
theorem dX12_reserve_64 : decode cX12_reserve 64 = .ok (.iconst 3, 1) := by decide +kernel
theorem dX12_reserve_65 : decode cX12_reserve 65 = .ok (.invokevirtual 159, 3) := by decide +kernel
theorem dX12_reserve_68 : decode cX12_reserve 68 = .ok (.ifCond .eq 5, 3) := by decide +kernel
theorem dX12_reserve_71 : decode cX12_reserve 71 = .ok (.iconst 0, 1) := by decide +kernel
theorem dX12_reserve_72 : decode cX12_reserve 72 = .ok (.ireturn, 1) := by decide +kernel
theorem dX12_reserve_73 : decode cX12_reserve 73 = .ok (.aload_n 0, 1) := by decide +kernel
theorem dX12_reserve_74 : decode cX12_reserve 74 = .ok (.invokevirtual 251, 3) := by decide +kernel
theorem dX12_reserve_77 : decode cX12_reserve 77 = .ok (.aload_n 0, 1) := by decide +kernel
theorem dX12_reserve_78 : decode cX12_reserve 78 = .ok (.iload_n 1, 1) := by decide +kernel
theorem dX12_reserve_79 : decode cX12_reserve 79 = .ok (.iload_n 2, 1) := by decide +kernel
theorem dX12_reserve_80 : decode cX12_reserve 80 = .ok (.invokevirtual 258, 3) := by decide +kernel
theorem dX12_reserve_83 : decode cX12_reserve 83 = .ok (.aload_n 0, 1) := by decide +kernel
theorem dX12_reserve_84 : decode cX12_reserve 84 = .ok (.iload_n 1, 1) := by decide +kernel
theorem dX12_reserve_85 : decode cX12_reserve 85 = .ok (.invokevirtual 209, 3) := by decide +kernel
theorem dX12_reserve_88 : decode cX12_reserve 88 = .ok (.ireturn, 1) := by decide +kernel
theorem dX12_release_0 : decode cX12_release 0 = .ok (.aload_n 0, 1) := by decide +kernel
theorem dX12_release_1 : decode cX12_release 1 = .ok (.iconst 0, 1) := by decide +kernel
theorem dX12_release_2 : decode cX12_release 2 = .ok (.putfield 3, 3) := by decide +kernel
theorem dX12_release_5 : decode cX12_release 5 = .ok (.aload_n 0, 1) := by decide +kernel
theorem dX12_release_6 : decode cX12_release 6 = .ok (.iload_n 1, 1) := by decide +kernel
theorem dX12_release_7 : decode cX12_release 7 = .ok (.invokevirtual 206, 3) := by decide +kernel
theorem dX12_release_10 : decode cX12_release 10 = .ok (.ifCond .ne 54, 3) := by decide +kernel
theorem dX12_release_13 : decode cX12_release 13 = .ok (.aload_n 0, 1) := by decide +kernel
theorem dX12_release_14 : decode cX12_release 14 = .ok (.iload_n 2, 1) := by decide +kernel
theorem dX12_release_15 : decode cX12_release 15 = .ok (.iconst 1, 1) := by decide +kernel
theorem dX12_release_16 : decode cX12_release 16 = .ok (.if_icmp .ge 7, 3) := by decide +kernel
theorem dX12_release_19 : decode cX12_release 19 = .ok (.iconst 1, 1) := by decide +kernel
theorem dX12_release_20 : decode cX12_release 20 = .ok (.goto 4, 3) := by decide +kernel
theorem dX12_release_23 : decode cX12_release 23 = .ok (.iconst 0, 1) := by decide +kernel
theorem dX12_release_24 : decode cX12_release 24 = .ok (.iconst 2, 1) := by decide +kernel
theorem dX12_release_25 : decode cX12_release 25 = .ok (.invokevirtual 159, 3) := by decide +kernel
theorem dX12_release_28 : decode cX12_release 28 = .ok (.ifCond .ne 36, 3) := by decide +kernel
theorem dX12_release_31 : decode cX12_release 31 = .ok (.aload_n 0, 1) := by decide +kernel
theorem dX12_release_32 : decode cX12_release 32 = .ok (.iload_n 2, 1) := by decide +kernel
theorem dX12_release_33 : decode cX12_release 33 = .ok (.aload_n 0, 1) := by decide +kernel
theorem dX12_release_34 : decode cX12_release 34 = .ok (.iload_n 1, 1) := by decide +kernel
theorem dX12_release_35 : decode cX12_release 35 = .ok (.bipush 6, 2) := by decide +kernel
theorem dX12_release_37 : decode cX12_release 37 = .ok (.invokevirtual 166, 3) := by decide +kernel
theorem dX12_release_40 : decode cX12_release 40 = .ok (.if_icmp .gt 12, 3) := by decide +kernel
theorem dX12_release_43 : decode cX12_release 43 = .ok (.aload_n 0, 1) := by decide +kernel
theorem dX12_release_44 : decode cX12_release 44 = .ok (.iload_n 1, 1) := by decide +kernel
theorem dX12_release_45 : decode cX12_release 45 = .ok (.iload_n 2, 1) := by decide +kernel
theorem dX12_release_46 : decode cX12_release 46 = .ok (.invokevirtual 261, 3) := by decide +kernel
theorem dX12_release_49 : decode cX12_release 49 = .ok (.ifCond .eq 7, 3) := by decide +kernel
theorem dX12_release_52 : decode cX12_release 52 = .ok (.iconst 1, 1) := by decide +kernel
theorem dX12_release_53 : decode cX12_release 53 = .ok (.goto 4, 3) := by decide +kernel
theorem dX12_release_56 : decode cX12_release 56 = .ok (.iconst 0, 1) := by decide +kernel
theorem dX12_release_57 : decode cX12_release 57 = .ok (.iconst 3, 1) := by decide +kernel
theorem dX12_release_58 : decode cX12_release 58 = .ok (.invokevirtual 159, 3) := by decide +kernel
theorem dX12_release_61 : decode cX12_release 61 = .ok (.ifCond .eq 5, 3) := by decide +kernel
theorem dX12_release_64 : decode cX12_release 64 = .ok (.iconst 0, 1) := by decide +kernel
theorem dX12_release_65 : decode cX12_release 65 = .ok (.ireturn, 1) := by decide +kernel
theorem dX12_release_66 : decode cX12_release 66 = .ok (.aload_n 0, 1) := by decide +kernel
theorem dX12_release_67 : decode cX12_release 67 = .ok (.invokevirtual 251, 3) := by decide +kernel
theorem dX12_release_70 : decode cX12_release 70 = .ok (.aload_n 0, 1) := by decide +kernel
theorem dX12_release_71 : decode cX12_release 71 = .ok (.iload_n 1, 1) := by decide +kernel
theorem dX12_release_72 : decode cX12_release 72 = .ok (.iload_n 2, 1) := by decide +kernel
theorem dX12_release_73 : decode cX12_release 73 = .ok (.ineg, 1) := by decide +kernel
theorem dX12_release_74 : decode cX12_release 74 = .ok (.invokevirtual 258, 3) := by decide +kernel
theorem dX12_release_77 : decode cX12_release 77 = .ok (.aload_n 0, 1) := by decide +kernel
theorem dX12_release_78 : decode cX12_release 78 = .ok (.iload_n 1, 1) := by decide +kernel
theorem dX12_release_79 : decode cX12_release 79 = .ok (.bipush 6, 2) := by decide +kernel
theorem dX12_release_81 : decode cX12_release 81 = .ok (.invokevirtual 166, 3) := by decide +kernel
theorem dX12_release_84 : decode cX12_release 84 = .ok (.ireturn, 1) := by decide +kernel
theorem dX12_allocate_0 : decode cX12_allocate 0 = .ok (.aload_n 0, 1) := by decide +kernel
theorem dX12_allocate_1 : decode cX12_allocate 1 = .ok (.iconst 0, 1) := by decide +kernel
theorem dX12_allocate_2 : decode cX12_allocate 2 = .ok (.putfield 3, 3) := by decide +kernel
theorem dX12_allocate_5 : decode cX12_allocate 5 = .ok (.aload_n 0, 1) := by decide +kernel
theorem dX12_allocate_6 : decode cX12_allocate 6 = .ok (.invokevirtual 251, 3) := by decide +kernel
theorem dX12_allocate_9 : decode cX12_allocate 9 = .ok (.aload_n 0, 1) := by decide +kernel
theorem dX12_allocate_10 : decode cX12_allocate 10 = .ok (.invokevirtual 242, 3) := by decide +kernel
theorem dX12_allocate_13 : decode cX12_allocate 13 = .ok (.iconst 0, 1) := by decide +kernel
theorem dX12_allocate_14 : decode cX12_allocate 14 = .ok (.istore_n 1, 1) := by decide +kernel
theorem dX12_allocate_15 : decode cX12_allocate 15 = .ok (.iconst 0, 1) := by decide +kernel
theorem dX12_allocate_16 : decode cX12_allocate 16 = .ok (.istore_n 2, 1) := by decide +kernel
theorem dX12_allocate_17 : decode cX12_allocate 17 = .ok (.iload_n 2, 1) := by decide +kernel
theorem dX12_allocate_18 : decode cX12_allocate 18 = .ok (.aload_n 0, 1) := by decide +kernel
theorem dX12_allocate_19 : decode cX12_allocate 19 = .ok (.getfield 87, 3) := by decide +kernel
theorem dX12_allocate_22 : decode cX12_allocate 22 = .ok (.iconst 1, 1) := by decide +kernel
theorem dX12_allocate_23 : decode cX12_allocate 23 = .ok (.iaload, 1) := by decide +kernel
theorem dX12_allocate_24 : decode cX12_allocate 24 = .ok (.if_icmp .ge 29, 3) := by decide +kernel
theorem dX12_allocate_27 : decode cX12_allocate 27 = .ok (.aload_n 0, 1) := by decide +kernel
theorem dX12_allocate_28 : decode cX12_allocate 28 = .ok (.iload_n 2, 1) := by decide +kernel
theorem dX12_allocate_29 : decode cX12_allocate 29 = .ok (.aload_n 0, 1) := by decide +kernel
theorem dX12_allocate_30 : decode cX12_allocate 30 = .ok (.getfield 99, 3) := by decide +kernel
theorem dX12_allocate_33 : decode cX12_allocate 33 = .ok (.iload_n 2, 1) := by decide +kernel
theorem dX12_allocate_34 : decode cX12_allocate 34 = .ok (.iaload, 1) := by decide +kernel
theorem dX12_allocate_35 : decode cX12_allocate 35 = .ok (.invokevirtual 258, 3) := by decide +kernel
theorem dX12_allocate_38 : decode cX12_allocate 38 = .ok (.iload_n 1, 1) := by decide +kernel
theorem dX12_allocate_39 : decode cX12_allocate 39 = .ok (.aload_n 0, 1) := by decide +kernel
theorem dX12_allocate_40 : decode cX12_allocate 40 = .ok (.getfield 99, 3) := by decide +kernel
theorem dX12_allocate_43 : decode cX12_allocate 43 = .ok (.iload_n 2, 1) := by decide +kernel
theorem dX12_allocate_44 : decode cX12_allocate 44 = .ok (.iaload, 1) := by decide +kernel
theorem dX12_allocate_45 : decode cX12_allocate 45 = .ok (.iadd, 1) := by decide +kernel
theorem dX12_allocate_46 : decode cX12_allocate 46 = .ok (.istore_n 1, 1) := by decide +kernel
theorem dX12_allocate_47 : decode cX12_allocate 47 = .ok (.iinc 2 1, 3) := by decide +kernel
theorem dX12_allocate_50 : decode cX12_allocate 50 = .ok (.goto (-33), 3) := by decide +kernel
theorem dX12_allocate_53 : decode cX12_allocate 53 = .ok (.iload_n 1, 1) := by decide +kernel
theorem dX12_allocate_54 : decode cX12_allocate 54 = .ok (.ireturn, 1) := by decide +kernel
theorem dX12_ship_0 : decode cX12_ship 0 = .ok (.aload_n 0, 1) := by decide +kernel
theorem dX12_ship_1 : decode cX12_ship 1 = .ok (.iconst 0, 1) := by decide +kernel
theorem dX12_ship_2 : decode cX12_ship 2 = .ok (.putfield 3, 3) := by decide +kernel
theorem dX12_ship_5 : decode cX12_ship 5 = .ok (.aload_n 0, 1) := by decide +kernel
theorem dX12_ship_6 : decode cX12_ship 6 = .ok (.iload_n 1, 1) := by decide +kernel
theorem dX12_ship_7 : decode cX12_ship 7 = .ok (.invokevirtual 206, 3) := by decide +kernel
theorem dX12_ship_10 : decode cX12_ship 10 = .ok (.ifCond .ne 26, 3) := by decide +kernel
theorem dX12_ship_13 : decode cX12_ship 13 = .ok (.aload_n 0, 1) := by decide +kernel
theorem dX12_ship_14 : decode cX12_ship 14 = .ok (.aload_n 0, 1) := by decide +kernel
theorem dX12_ship_15 : decode cX12_ship 15 = .ok (.iload_n 1, 1) := by decide +kernel
theorem dX12_ship_16 : decode cX12_ship 16 = .ok (.bipush 6, 2) := by decide +kernel
theorem dX12_ship_18 : decode cX12_ship 18 = .ok (.invokevirtual 166, 3) := by decide +kernel
theorem dX12_ship_21 : decode cX12_ship 21 = .ok (.ifCond .ne 7, 3) := by decide +kernel
theorem dX12_ship_24 : decode cX12_ship 24 = .ok (.iconst 1, 1) := by decide +kernel
theorem dX12_ship_25 : decode cX12_ship 25 = .ok (.goto 4, 3) := by decide +kernel
theorem dX12_ship_28 : decode cX12_ship 28 = .ok (.iconst 0, 1) := by decide +kernel
theorem dX12_ship_29 : decode cX12_ship 29 = .ok (.iconst 2, 1) := by decide +kernel
theorem dX12_ship_30 : decode cX12_ship 30 = .ok (.invokevirtual 159, 3) := by decide +kernel
theorem dX12_ship_33 : decode cX12_ship 33 = .ok (.ifCond .eq 5, 3) := by decide +kernel
theorem dX12_ship_36 : decode cX12_ship 36 = .ok (.iconst 0, 1) := by decide +kernel
theorem dX12_ship_37 : decode cX12_ship 37 = .ok (.ireturn, 1) := by decide +kernel
theorem dX12_ship_38 : decode cX12_ship 38 = .ok (.aload_n 0, 1) := by decide +kernel
theorem dX12_ship_39 : decode cX12_ship 39 = .ok (.invokevirtual 251, 3) := by decide +kernel
theorem dX12_ship_42 : decode cX12_ship 42 = .ok (.aload_n 0, 1) := by decide +kernel
theorem dX12_ship_43 : decode cX12_ship 43 = .ok (.iload_n 1, 1) := by decide +kernel
theorem dX12_ship_44 : decode cX12_ship 44 = .ok (.bipush 6, 2) := by decide +kernel
theorem dX12_ship_46 : decode cX12_ship 46 = .ok (.invokevirtual 166, 3) := by decide +kernel
theorem dX12_ship_49 : decode cX12_ship 49 = .ok (.istore_n 2, 1) := by decide +kernel
theorem dX12_ship_50 : decode cX12_ship 50 = .ok (.aload_n 0, 1) := by decide +kernel
theorem dX12_ship_51 : decode cX12_ship 51 = .ok (.iload_n 1, 1) := by decide +kernel
theorem dX12_ship_52 : decode cX12_ship 52 = .ok (.iload_n 2, 1) := by decide +kernel
theorem dX12_ship_53 : decode cX12_ship 53 = .ok (.ineg, 1) := by decide +kernel
theorem dX12_ship_54 : decode cX12_ship 54 = .ok (.invokevirtual 258, 3) := by decide +kernel
theorem dX12_ship_57 : decode cX12_ship 57 = .ok (.aload_n 0, 1) := by decide +kernel
theorem dX12_ship_58 : decode cX12_ship 58 = .ok (.iload_n 1, 1) := by decide +kernel
theorem dX12_ship_59 : decode cX12_ship 59 = .ok (.iconst 5, 1) := by decide +kernel
theorem dX12_ship_60 : decode cX12_ship 60 = .ok (.iload_n 2, 1) := by decide +kernel
theorem dX12_ship_61 : decode cX12_ship 61 = .ok (.invokevirtual 254, 3) := by decide +kernel
theorem dX12_ship_64 : decode cX12_ship 64 = .ok (.iconst 0, 1) := by decide +kernel
theorem dX12_ship_65 : decode cX12_ship 65 = .ok (.istore_n 3, 1) := by decide +kernel
theorem dX12_ship_66 : decode cX12_ship 66 = .ok (.iload_n 3, 1) := by decide +kernel
theorem dX12_ship_67 : decode cX12_ship 67 = .ok (.aload_n 0, 1) := by decide +kernel
theorem dX12_ship_68 : decode cX12_ship 68 = .ok (.getfield 81, 3) := by decide +kernel
theorem dX12_ship_71 : decode cX12_ship 71 = .ok (.iconst 0, 1) := by decide +kernel
theorem dX12_ship_72 : decode cX12_ship 72 = .ok (.iaload, 1) := by decide +kernel
theorem dX12_ship_73 : decode cX12_ship 73 = .ok (.if_icmp .ge 34, 3) := by decide +kernel
theorem dX12_ship_76 : decode cX12_ship 76 = .ok (.aload_n 0, 1) := by decide +kernel
theorem dX12_ship_77 : decode cX12_ship 77 = .ok (.getfield 87, 3) := by decide +kernel
theorem dX12_ship_80 : decode cX12_ship 80 = .ok (.bipush 9, 2) := by decide +kernel
theorem dX12_ship_82 : decode cX12_ship 82 = .ok (.iload_n 3, 1) := by decide +kernel
theorem dX12_ship_83 : decode cX12_ship 83 = .ok (.iadd, 1) := by decide +kernel
theorem dX12_ship_84 : decode cX12_ship 84 = .ok (.dup2, 1) := by decide +kernel
theorem dX12_ship_85 : decode cX12_ship 85 = .ok (.iaload, 1) := by decide +kernel
theorem dX12_ship_86 : decode cX12_ship 86 = .ok (.iload_n 2, 1) := by decide +kernel
theorem dX12_ship_87 : decode cX12_ship 87 = .ok (.aload_n 0, 1) := by decide +kernel
theorem dX12_ship_88 : decode cX12_ship 88 = .ok (.aload_n 0, 1) := by decide +kernel
theorem dX12_ship_89 : decode cX12_ship 89 = .ok (.iload_n 1, 1) := by decide +kernel
theorem dX12_ship_90 : decode cX12_ship 90 = .ok (.iconst 0, 1) := by decide +kernel
theorem dX12_ship_91 : decode cX12_ship 91 = .ok (.invokevirtual 166, 3) := by decide +kernel
theorem dX12_ship_94 : decode cX12_ship 94 = .ok (.iload_n 3, 1) := by decide +kernel
theorem dX12_ship_95 : decode cX12_ship 95 = .ok (.invokevirtual 176, 3) := by decide +kernel
theorem dX12_ship_98 : decode cX12_ship 98 = .ok (.imul, 1) := by decide +kernel
theorem dX12_ship_99 : decode cX12_ship 99 = .ok (.isub, 1) := by decide +kernel
theorem dX12_ship_100 : decode cX12_ship 100 = .ok (.iastore, 1) := by decide +kernel
theorem dX12_ship_101 : decode cX12_ship 101 = .ok (.iinc 3 1, 3) := by decide +kernel
theorem dX12_ship_104 : decode cX12_ship 104 = .ok (.goto (-38), 3) := by decide +kernel
theorem dX12_ship_107 : decode cX12_ship 107 = .ok (.iconst 0, 1) := by decide +kernel
theorem dX12_ship_108 : decode cX12_ship 108 = .ok (.aload_n 0, 1) := by decide +kernel
theorem dX12_ship_109 : decode cX12_ship 109 = .ok (.getfield 87, 3) := by decide +kernel
theorem dX12_ship_112 : decode cX12_ship 112 = .ok (.iconst 0, 1) := by decide +kernel
theorem dX12_ship_113 : decode cX12_ship 113 = .ok (.iaload, 1) := by decide +kernel
theorem dX12_ship_114 : decode cX12_ship 114 = .ok (.aload_n 0, 1) := by decide +kernel
theorem dX12_ship_115 : decode cX12_ship 115 = .ok (.iload_n 1, 1) := by decide +kernel
theorem dX12_ship_116 : decode cX12_ship 116 = .ok (.iconst 3, 1) := by decide +kernel
theorem dX12_ship_117 : decode cX12_ship 117 = .ok (.invokevirtual 166, 3) := by decide +kernel
theorem dX12_ship_120 : decode cX12_ship 120 = .ok (.isub, 1) := by decide +kernel
theorem dX12_ship_121 : decode cX12_ship 121 = .ok (.invokestatic 183, 3) := by decide +kernel
theorem dX12_ship_124 : decode cX12_ship 124 = .ok (.istore_n 3, 1) := by decide +kernel
theorem dX12_ship_125 : decode cX12_ship 125 = .ok (.aload_n 0, 1) := by decide +kernel
theorem dX12_ship_126 : decode cX12_ship 126 = .ok (.getfield 87, 3) := by decide +kernel
theorem dX12_ship_129 : decode cX12_ship 129 = .ok (.iconst 4, 1) := by decide +kernel
theorem dX12_ship_130 : decode cX12_ship 130 = .ok (.dup2, 1) := by decide +kernel
theorem dX12_ship_131 : decode cX12_ship 131 = .ok (.iaload, 1) := by decide +kernel
theorem dX12_ship_132 : decode cX12_ship 132 = .ok (.iconst 1, 1) := by decide +kernel
theorem dX12_ship_133 : decode cX12_ship 133 = .ok (.iadd, 1) := by decide +kernel
theorem dX12_ship_134 : decode cX12_ship 134 = .ok (.iastore, 1) := by decide +kernel
theorem dX12_ship_135 : decode cX12_ship 135 = .ok (.aload_n 0, 1) := by decide +kernel
theorem dX12_ship_136 : decode cX12_ship 136 = .ok (.getfield 87, 3) := by decide +kernel
theorem dX12_ship_139 : decode cX12_ship 139 = .ok (.iconst 5, 1) := by decide +kernel
theorem dX12_ship_140 : decode cX12_ship 140 = .ok (.dup2, 1) := by decide +kernel
theorem dX12_ship_141 : decode cX12_ship 141 = .ok (.iaload, 1) := by decide +kernel
theorem dX12_ship_142 : decode cX12_ship 142 = .ok (.iload_n 2, 1) := by decide +kernel
theorem dX12_ship_143 : decode cX12_ship 143 = .ok (.iadd, 1) := by decide +kernel
theorem dX12_ship_144 : decode cX12_ship 144 = .ok (.iastore, 1) := by decide +kernel
theorem dX12_ship_145 : decode cX12_ship 145 = .ok (.aload_n 0, 1) := by decide +kernel
theorem dX12_ship_146 : decode cX12_ship 146 = .ok (.getfield 87, 3) := by decide +kernel
theorem dX12_ship_149 : decode cX12_ship 149 = .ok (.bipush 6, 2) := by decide +kernel
theorem dX12_ship_151 : decode cX12_ship 151 = .ok (.dup2, 1) := by decide +kernel
theorem dX12_ship_152 : decode cX12_ship 152 = .ok (.iaload, 1) := by decide +kernel
theorem dX12_ship_153 : decode cX12_ship 153 = .ok (.iload_n 3, 1) := by decide +kernel
theorem dX12_ship_154 : decode cX12_ship 154 = .ok (.ifCond .le 7, 3) := by decide +kernel
theorem dX12_ship_157 : decode cX12_ship 157 = .ok (.iload_n 2, 1) := by decide +kernel
theorem dX12_ship_158 : decode cX12_ship 158 = .ok (.goto 4, 3) := by decide +kernel
theorem dX12_ship_161 : decode cX12_ship 161 = .ok (.iconst 0, 1) := by decide +kernel
theorem dX12_ship_162 : decode cX12_ship 162 = .ok (.iadd, 1) := by decide +kernel
theorem dX12_ship_163 : decode cX12_ship 163 = .ok (.iastore, 1) := by decide +kernel
theorem dX12_ship_164 : decode cX12_ship 164 = .ok (.aload_n 0, 1) := by decide +kernel
theorem dX12_ship_165 : decode cX12_ship 165 = .ok (.getfield 87, 3) := by decide +kernel
theorem dX12_ship_168 : decode cX12_ship 168 = .ok (.bipush 7, 2) := by decide +kernel
theorem dX12_ship_170 : decode cX12_ship 170 = .ok (.dup2, 1) := by decide +kernel
theorem dX12_ship_171 : decode cX12_ship 171 = .ok (.iaload, 1) := by decide +kernel
theorem dX12_ship_172 : decode cX12_ship 172 = .ok (.iload_n 3, 1) := by decide +kernel
theorem dX12_ship_173 : decode cX12_ship 173 = .ok (.iload_n 2, 1) := by decide +kernel
theorem dX12_ship_174 : decode cX12_ship 174 = .ok (.imul, 1) := by decide +kernel
theorem dX12_ship_175 : decode cX12_ship 175 = .ok (.iadd, 1) := by decide +kernel
theorem dX12_ship_176 : decode cX12_ship 176 = .ok (.iastore, 1) := by decide +kernel
theorem dX12_ship_177 : decode cX12_ship 177 = .ok (.aload_n 0, 1) := by decide +kernel
theorem dX12_ship_178 : decode cX12_ship 178 = .ok (.iload_n 1, 1) := by decide +kernel
theorem dX12_ship_179 : decode cX12_ship 179 = .ok (.iload_n 2, 1) := by decide +kernel
theorem dX12_ship_180 : decode cX12_ship 180 = .ok (.invokevirtual 267, 3) := by decide +kernel
theorem dX12_ship_183 : decode cX12_ship 183 = .ok (.iload_n 2, 1) := by decide +kernel
theorem dX12_ship_184 : decode cX12_ship 184 = .ok (.ireturn, 1) := by decide +kernel
theorem dX12_logs_0 : decode cX12_logs 0 = .ok (.aload_n 0, 1) := by decide +kernel
theorem dX12_logs_1 : decode cX12_logs 1 = .ok (.getfield 87, 3) := by decide +kernel
theorem dX12_logs_4 : decode cX12_logs 4 = .ok (.iconst 3, 1) := by decide +kernel
theorem dX12_logs_5 : decode cX12_logs 5 = .ok (.iaload, 1) := by decide +kernel
theorem dX12_logs_6 : decode cX12_logs 6 = .ok (.bipush 16, 2) := by decide +kernel
theorem dX12_logs_8 : decode cX12_logs 8 = .ok (.if_icmp .ne 49, 3) := by decide +kernel
theorem dX12_logs_11 : decode cX12_logs 11 = .ok (.iconst 3, 1) := by decide +kernel
theorem dX12_logs_12 : decode cX12_logs 12 = .ok (.istore_n 3, 1) := by decide +kernel
theorem dX12_logs_13 : decode cX12_logs 13 = .ok (.iload_n 3, 1) := by decide +kernel
theorem dX12_logs_14 : decode cX12_logs 14 = .ok (.bipush 48, 2) := by decide +kernel
theorem dX12_logs_16 : decode cX12_logs 16 = .ok (.if_icmp .ge 31, 3) := by decide +kernel
theorem dX12_logs_19 : decode cX12_logs 19 = .ok (.aload_n 0, 1) := by decide +kernel
theorem dX12_logs_20 : decode cX12_logs 20 = .ok (.getfield 87, 3) := by decide +kernel
theorem dX12_logs_23 : decode cX12_logs 23 = .ok (.sipush 253, 3) := by decide +kernel
theorem dX12_logs_26 : decode cX12_logs 26 = .ok (.iload_n 3, 1) := by decide +kernel
theorem dX12_logs_27 : decode cX12_logs 27 = .ok (.iadd, 1) := by decide +kernel
theorem dX12_logs_28 : decode cX12_logs 28 = .ok (.iconst 3, 1) := by decide +kernel
theorem dX12_logs_29 : decode cX12_logs 29 = .ok (.isub, 1) := by decide +kernel
theorem dX12_logs_30 : decode cX12_logs 30 = .ok (.aload_n 0, 1) := by decide +kernel
theorem dX12_logs_31 : decode cX12_logs 31 = .ok (.getfield 87, 3) := by decide +kernel
theorem dX12_logs_34 : decode cX12_logs 34 = .ok (.sipush 253, 3) := by decide +kernel
theorem dX12_logs_37 : decode cX12_logs 37 = .ok (.iload_n 3, 1) := by decide +kernel
theorem dX12_logs_38 : decode cX12_logs 38 = .ok (.iadd, 1) := by decide +kernel
theorem dX12_logs_39 : decode cX12_logs 39 = .ok (.iaload, 1) := by decide +kernel
theorem dX12_logs_40 : decode cX12_logs 40 = .ok (.iastore, 1) := by decide +kernel
theorem dX12_logs_41 : decode cX12_logs 41 = .ok (.iinc 3 1, 3) := by decide +kernel
theorem dX12_logs_44 : decode cX12_logs 44 = .ok (.goto (-31), 3) := by decide +kernel
theorem dX12_logs_47 : decode cX12_logs 47 = .ok (.aload_n 0, 1) := by decide +kernel
theorem dX12_logs_48 : decode cX12_logs 48 = .ok (.getfield 87, 3) := by decide +kernel
theorem dX12_logs_51 : decode cX12_logs 51 = .ok (.iconst 3, 1) := by decide +kernel
theorem dX12_logs_52 : decode cX12_logs 52 = .ok (.dup2, 1) := by decide +kernel
theorem dX12_logs_53 : decode cX12_logs 53 = .ok (.iaload, 1) := by decide +kernel
theorem dX12_logs_54 : decode cX12_logs 54 = .ok (.iconst 1, 1) := by decide +kernel
theorem dX12_logs_55 : decode cX12_logs 55 = .ok (.isub, 1) := by decide +kernel
theorem dX12_logs_56 : decode cX12_logs 56 = .ok (.iastore, 1) := by decide +kernel
theorem dX12_logs_57 : decode cX12_logs 57 = .ok (.sipush 253, 3) := by decide +kernel
theorem dX12_logs_60 : decode cX12_logs 60 = .ok (.iconst 3, 1) := by decide +kernel
theorem dX12_logs_61 : decode cX12_logs 61 = .ok (.aload_n 0, 1) := by decide +kernel
theorem dX12_logs_62 : decode cX12_logs 62 = .ok (.getfield 87, 3) := by decide +kernel
theorem dX12_logs_65 : decode cX12_logs 65 = .ok (.iconst 3, 1) := by decide +kernel
theorem dX12_logs_66 : decode cX12_logs 66 = .ok (.iaload, 1) := by decide +kernel
theorem dX12_logs_67 : decode cX12_logs 67 = .ok (.imul, 1) := by decide +kernel
theorem dX12_logs_68 : decode cX12_logs 68 = .ok (.iadd, 1) := by decide +kernel
theorem dX12_logs_69 : decode cX12_logs 69 = .ok (.istore_n 3, 1) := by decide +kernel
theorem dX12_logs_70 : decode cX12_logs 70 = .ok (.aload_n 0, 1) := by decide +kernel
theorem dX12_logs_71 : decode cX12_logs 71 = .ok (.getfield 87, 3) := by decide +kernel
theorem dX12_logs_74 : decode cX12_logs 74 = .ok (.iload_n 3, 1) := by decide +kernel
theorem dX12_logs_75 : decode cX12_logs 75 = .ok (.iload_n 1, 1) := by decide +kernel
theorem dX12_logs_76 : decode cX12_logs 76 = .ok (.iastore, 1) := by decide +kernel
theorem dX12_logs_77 : decode cX12_logs 77 = .ok (.aload_n 0, 1) := by decide +kernel
theorem dX12_logs_78 : decode cX12_logs 78 = .ok (.getfield 87, 3) := by decide +kernel
theorem dX12_logs_81 : decode cX12_logs 81 = .ok (.iload_n 3, 1) := by decide +kernel
theorem dX12_logs_82 : decode cX12_logs 82 = .ok (.iconst 1, 1) := by decide +kernel
theorem dX12_logs_83 : decode cX12_logs 83 = .ok (.iadd, 1) := by decide +kernel
theorem dX12_logs_84 : decode cX12_logs 84 = .ok (.iload_n 2, 1) := by decide +kernel
theorem dX12_logs_85 : decode cX12_logs 85 = .ok (.iastore, 1) := by decide +kernel
theorem dX12_logs_86 : decode cX12_logs 86 = .ok (.aload_n 0, 1) := by decide +kernel
theorem dX12_logs_87 : decode cX12_logs 87 = .ok (.getfield 87, 3) := by decide +kernel
theorem dX12_logs_90 : decode cX12_logs 90 = .ok (.iload_n 3, 1) := by decide +kernel
theorem dX12_logs_91 : decode cX12_logs 91 = .ok (.iconst 2, 1) := by decide +kernel
theorem dX12_logs_92 : decode cX12_logs 92 = .ok (.iadd, 1) := by decide +kernel
theorem dX12_logs_93 : decode cX12_logs 93 = .ok (.aload_n 0, 1) := by decide +kernel
theorem dX12_logs_94 : decode cX12_logs 94 = .ok (.getfield 87, 3) := by decide +kernel
theorem dX12_logs_97 : decode cX12_logs 97 = .ok (.iconst 0, 1) := by decide +kernel
theorem dX12_logs_98 : decode cX12_logs 98 = .ok (.iaload, 1) := by decide +kernel
theorem dX12_logs_99 : decode cX12_logs 99 = .ok (.iastore, 1) := by decide +kernel
theorem dX12_logs_100 : decode cX12_logs 100 = .ok (.aload_n 0, 1) := by decide +kernel
theorem dX12_logs_101 : decode cX12_logs 101 = .ok (.getfield 87, 3) := by decide +kernel
theorem dX12_logs_104 : decode cX12_logs 104 = .ok (.iconst 3, 1) := by decide +kernel
theorem dX12_logs_105 : decode cX12_logs 105 = .ok (.dup2, 1) := by decide +kernel
theorem dX12_logs_106 : decode cX12_logs 106 = .ok (.iaload, 1) := by decide +kernel
theorem dX12_logs_107 : decode cX12_logs 107 = .ok (.iconst 1, 1) := by decide +kernel
theorem dX12_logs_108 : decode cX12_logs 108 = .ok (.iadd, 1) := by decide +kernel
theorem dX12_logs_109 : decode cX12_logs 109 = .ok (.iastore, 1) := by decide +kernel
theorem dX12_logs_110 : decode cX12_logs 110 = .ok (.return_, 1) := by decide +kernel
theorem dX12_buy_0 : decode cX12_buy 0 = .ok (.aload_n 0, 1) := by decide +kernel
theorem dX12_buy_1 : decode cX12_buy 1 = .ok (.iconst 0, 1) := by decide +kernel
theorem dX12_buy_2 : decode cX12_buy 2 = .ok (.putfield 3, 3) := by decide +kernel
theorem dX12_buy_5 : decode cX12_buy 5 = .ok (.aload_n 0, 1) := by decide +kernel
theorem dX12_buy_6 : decode cX12_buy 6 = .ok (.iload_n 1, 1) := by decide +kernel
theorem dX12_buy_7 : decode cX12_buy 7 = .ok (.invokevirtual 173, 3) := by decide +kernel
theorem dX12_buy_10 : decode cX12_buy 10 = .ok (.ifCond .ne 51, 3) := by decide +kernel
theorem dX12_buy_13 : decode cX12_buy 13 = .ok (.aload_n 0, 1) := by decide +kernel
theorem dX12_buy_14 : decode cX12_buy 14 = .ok (.iload_n 2, 1) := by decide +kernel
theorem dX12_buy_15 : decode cX12_buy 15 = .ok (.iconst 1, 1) := by decide +kernel
theorem dX12_buy_16 : decode cX12_buy 16 = .ok (.sipush 999, 3) := by decide +kernel
theorem dX12_buy_19 : decode cX12_buy 19 = .ok (.invokestatic 72, 3) := by decide +kernel
theorem dX12_buy_22 : decode cX12_buy 22 = .ok (.ifCond .ne 7, 3) := by decide +kernel
theorem dX12_buy_25 : decode cX12_buy 25 = .ok (.iconst 1, 1) := by decide +kernel
theorem dX12_buy_26 : decode cX12_buy 26 = .ok (.goto 4, 3) := by decide +kernel
theorem dX12_buy_29 : decode cX12_buy 29 = .ok (.iconst 0, 1) := by decide +kernel
theorem dX12_buy_30 : decode cX12_buy 30 = .ok (.iconst 2, 1) := by decide +kernel
theorem dX12_buy_31 : decode cX12_buy 31 = .ok (.invokevirtual 159, 3) := by decide +kernel
theorem dX12_buy_34 : decode cX12_buy 34 = .ok (.ifCond .ne 27, 3) := by decide +kernel
theorem dX12_buy_37 : decode cX12_buy 37 = .ok (.aload_n 0, 1) := by decide +kernel
theorem dX12_buy_38 : decode cX12_buy 38 = .ok (.aload_n 0, 1) := by decide +kernel
theorem dX12_buy_39 : decode cX12_buy 39 = .ok (.getfield 87, 3) := by decide +kernel
theorem dX12_buy_42 : decode cX12_buy 42 = .ok (.iconst 2, 1) := by decide +kernel
theorem dX12_buy_43 : decode cX12_buy 43 = .ok (.iaload, 1) := by decide +kernel
theorem dX12_buy_44 : decode cX12_buy 44 = .ok (.bipush 20, 2) := by decide +kernel
theorem dX12_buy_46 : decode cX12_buy 46 = .ok (.if_icmp .ne 7, 3) := by decide +kernel
theorem dX12_buy_49 : decode cX12_buy 49 = .ok (.iconst 1, 1) := by decide +kernel
theorem dX12_buy_50 : decode cX12_buy 50 = .ok (.goto 4, 3) := by decide +kernel
theorem dX12_buy_53 : decode cX12_buy 53 = .ok (.iconst 0, 1) := by decide +kernel
theorem dX12_buy_54 : decode cX12_buy 54 = .ok (.iconst 3, 1) := by decide +kernel
theorem dX12_buy_55 : decode cX12_buy 55 = .ok (.invokevirtual 159, 3) := by decide +kernel
theorem dX12_buy_58 : decode cX12_buy 58 = .ok (.ifCond .eq 5, 3) := by decide +kernel
theorem dX12_buy_61 : decode cX12_buy 61 = .ok (.iconst 0, 1) := by decide +kernel
theorem dX12_buy_62 : decode cX12_buy 62 = .ok (.ireturn, 1) := by decide +kernel
theorem dX12_buy_63 : decode cX12_buy 63 = .ok (.aload_n 0, 1) := by decide +kernel
theorem dX12_buy_64 : decode cX12_buy 64 = .ok (.invokevirtual 251, 3) := by decide +kernel
theorem dX12_buy_67 : decode cX12_buy 67 = .ok (.bipush 33, 2) := by decide +kernel
theorem dX12_buy_69 : decode cX12_buy 69 = .ok (.iconst 3, 1) := by decide +kernel
theorem dX12_buy_70 : decode cX12_buy 70 = .ok (.aload_n 0, 1) := by decide +kernel
theorem dX12_buy_71 : decode cX12_buy 71 = .ok (.getfield 87, 3) := by decide +kernel
theorem dX12_buy_74 : decode cX12_buy 74 = .ok (.iconst 2, 1) := by decide +kernel
theorem dX12_buy_75 : decode cX12_buy 75 = .ok (.iaload, 1) := by decide +kernel
theorem dX12_buy_76 : decode cX12_buy 76 = .ok (.imul, 1) := by decide +kernel
theorem dX12_buy_77 : decode cX12_buy 77 = .ok (.iadd, 1) := by decide +kernel
theorem dX12_buy_78 : decode cX12_buy 78 = .ok (.istore_n 3, 1) := by decide +kernel
theorem dX12_buy_79 : decode cX12_buy 79 = .ok (.aload_n 0, 1) := by decide +kernel
theorem dX12_buy_80 : decode cX12_buy 80 = .ok (.getfield 87, 3) := by decide +kernel
theorem dX12_buy_83 : decode cX12_buy 83 = .ok (.iload_n 3, 1) := by decide +kernel
theorem dX12_buy_84 : decode cX12_buy 84 = .ok (.iload_n 1, 1) := by decide +kernel
theorem dX12_buy_85 : decode cX12_buy 85 = .ok (.iastore, 1) := by decide +kernel
theorem dX12_buy_86 : decode cX12_buy 86 = .ok (.aload_n 0, 1) := by decide +kernel
theorem dX12_buy_87 : decode cX12_buy 87 = .ok (.getfield 87, 3) := by decide +kernel
theorem dX12_buy_90 : decode cX12_buy 90 = .ok (.iload_n 3, 1) := by decide +kernel
theorem dX12_buy_91 : decode cX12_buy 91 = .ok (.iconst 1, 1) := by decide +kernel
theorem dX12_buy_92 : decode cX12_buy 92 = .ok (.iadd, 1) := by decide +kernel
theorem dX12_buy_93 : decode cX12_buy 93 = .ok (.iload_n 2, 1) := by decide +kernel
theorem dX12_buy_94 : decode cX12_buy 94 = .ok (.iastore, 1) := by decide +kernel
theorem dX12_buy_95 : decode cX12_buy 95 = .ok (.aload_n 0, 1) := by decide +kernel
theorem dX12_buy_96 : decode cX12_buy 96 = .ok (.getfield 87, 3) := by decide +kernel
theorem dX12_buy_99 : decode cX12_buy 99 = .ok (.iload_n 3, 1) := by decide +kernel
theorem dX12_buy_100 : decode cX12_buy 100 = .ok (.iconst 2, 1) := by decide +kernel
theorem dX12_buy_101 : decode cX12_buy 101 = .ok (.iadd, 1) := by decide +kernel
theorem dX12_buy_102 : decode cX12_buy 102 = .ok (.aload_n 0, 1) := by decide +kernel
theorem dX12_buy_103 : decode cX12_buy 103 = .ok (.getfield 87, 3) := by decide +kernel
theorem dX12_buy_106 : decode cX12_buy 106 = .ok (.iconst 0, 1) := by decide +kernel
theorem dX12_buy_107 : decode cX12_buy 107 = .ok (.iaload, 1) := by decide +kernel
theorem dX12_buy_108 : decode cX12_buy 108 = .ok (.aload_n 0, 1) := by decide +kernel
theorem dX12_buy_109 : decode cX12_buy 109 = .ok (.getfield 81, 3) := by decide +kernel
theorem dX12_buy_112 : decode cX12_buy 112 = .ok (.sipush 176, 3) := by decide +kernel
theorem dX12_buy_115 : decode cX12_buy 115 = .ok (.iload_n 1, 1) := by decide +kernel
theorem dX12_buy_116 : decode cX12_buy 116 = .ok (.iadd, 1) := by decide +kernel
theorem dX12_buy_117 : decode cX12_buy 117 = .ok (.iaload, 1) := by decide +kernel
theorem dX12_buy_118 : decode cX12_buy 118 = .ok (.iadd, 1) := by decide +kernel
theorem dX12_buy_119 : decode cX12_buy 119 = .ok (.iastore, 1) := by decide +kernel
theorem dX12_buy_120 : decode cX12_buy 120 = .ok (.aload_n 0, 1) := by decide +kernel
theorem dX12_buy_121 : decode cX12_buy 121 = .ok (.getfield 87, 3) := by decide +kernel
theorem dX12_buy_124 : decode cX12_buy 124 = .ok (.iconst 2, 1) := by decide +kernel
theorem dX12_buy_125 : decode cX12_buy 125 = .ok (.dup2, 1) := by decide +kernel
theorem dX12_buy_126 : decode cX12_buy 126 = .ok (.iaload, 1) := by decide +kernel
theorem dX12_buy_127 : decode cX12_buy 127 = .ok (.iconst 1, 1) := by decide +kernel
theorem dX12_buy_128 : decode cX12_buy 128 = .ok (.iadd, 1) := by decide +kernel
theorem dX12_buy_129 : decode cX12_buy 129 = .ok (.iastore, 1) := by decide +kernel
theorem dX12_buy_130 : decode cX12_buy 130 = .ok (.aload_n 0, 1) := by decide +kernel
theorem dX12_buy_131 : decode cX12_buy 131 = .ok (.getfield 87, 3) := by decide +kernel
theorem dX12_buy_134 : decode cX12_buy 134 = .ok (.bipush 8, 2) := by decide +kernel
theorem dX12_buy_136 : decode cX12_buy 136 = .ok (.dup2, 1) := by decide +kernel
theorem dX12_buy_137 : decode cX12_buy 137 = .ok (.iaload, 1) := by decide +kernel
theorem dX12_buy_138 : decode cX12_buy 138 = .ok (.iload_n 2, 1) := by decide +kernel
theorem dX12_buy_139 : decode cX12_buy 139 = .ok (.iadd, 1) := by decide +kernel
theorem dX12_buy_140 : decode cX12_buy 140 = .ok (.iastore, 1) := by decide +kernel
theorem dX12_buy_141 : decode cX12_buy 141 = .ok (.aload_n 0, 1) := by decide +kernel
theorem dX12_buy_142 : decode cX12_buy 142 = .ok (.getfield 87, 3) := by decide +kernel
theorem dX12_buy_145 : decode cX12_buy 145 = .ok (.iload_n 3, 1) := by decide +kernel
theorem dX12_buy_146 : decode cX12_buy 146 = .ok (.iconst 2, 1) := by decide +kernel
theorem dX12_buy_147 : decode cX12_buy 147 = .ok (.iadd, 1) := by decide +kernel
theorem dX12_buy_148 : decode cX12_buy 148 = .ok (.iaload, 1) := by decide +kernel
theorem dX12_buy_149 : decode cX12_buy 149 = .ok (.ireturn, 1) := by decide +kernel
theorem dX12_loser_0 : decode cX12_loser 0 = .ok (.iconst (-1), 1) := by decide +kernel
theorem dX12_loser_1 : decode cX12_loser 1 = .ok (.istore_n 2, 1) := by decide +kernel
theorem dX12_loser_2 : decode cX12_loser 2 = .ok (.iconst 0, 1) := by decide +kernel
theorem dX12_loser_3 : decode cX12_loser 3 = .ok (.istore_n 3, 1) := by decide +kernel
theorem dX12_loser_4 : decode cX12_loser 4 = .ok (.iload_n 3, 1) := by decide +kernel
theorem dX12_loser_5 : decode cX12_loser 5 = .ok (.aload_n 0, 1) := by decide +kernel
theorem dX12_loser_6 : decode cX12_loser 6 = .ok (.getfield 87, 3) := by decide +kernel
theorem dX12_loser_9 : decode cX12_loser 9 = .ok (.iconst 1, 1) := by decide +kernel
theorem dX12_loser_10 : decode cX12_loser 10 = .ok (.iaload, 1) := by decide +kernel
theorem dX12_loser_11 : decode cX12_loser 11 = .ok (.if_icmp .ge 104, 3) := by decide +kernel
theorem dX12_loser_14 : decode cX12_loser 14 = .ok (.aload_n 0, 1) := by decide +kernel
theorem dX12_loser_15 : decode cX12_loser 15 = .ok (.iload_n 3, 1) := by decide +kernel
theorem dX12_loser_16 : decode cX12_loser 16 = .ok (.bipush 6, 2) := by decide +kernel
theorem dX12_loser_18 : decode cX12_loser 18 = .ok (.invokevirtual 166, 3) := by decide +kernel
theorem dX12_loser_21 : decode cX12_loser 21 = .ok (.ifCond .eq 88, 3) := by decide +kernel
theorem dX12_loser_24 : decode cX12_loser 24 = .ok (.aload_n 0, 1) := by decide +kernel
theorem dX12_loser_25 : decode cX12_loser 25 = .ok (.aload_n 0, 1) := by decide +kernel
theorem dX12_loser_26 : decode cX12_loser 26 = .ok (.iload_n 3, 1) := by decide +kernel
theorem dX12_loser_27 : decode cX12_loser 27 = .ok (.iconst 0, 1) := by decide +kernel
theorem dX12_loser_28 : decode cX12_loser 28 = .ok (.invokevirtual 166, 3) := by decide +kernel
theorem dX12_loser_31 : decode cX12_loser 31 = .ok (.iload_n 1, 1) := by decide +kernel
theorem dX12_loser_32 : decode cX12_loser 32 = .ok (.invokevirtual 176, 3) := by decide +kernel
theorem dX12_loser_35 : decode cX12_loser 35 = .ok (.ifCond .ne 6, 3) := by decide +kernel
theorem dX12_loser_38 : decode cX12_loser 38 = .ok (.goto 71, 3) := by decide +kernel
theorem dX12_loser_41 : decode cX12_loser 41 = .ok (.iload_n 2, 1) := by decide +kernel
theorem dX12_loser_42 : decode cX12_loser 42 = .ok (.iconst (-1), 1) := by decide +kernel
theorem dX12_loser_43 : decode cX12_loser 43 = .ok (.if_icmp .eq 48, 3) := by decide +kernel
theorem dX12_loser_46 : decode cX12_loser 46 = .ok (.aload_n 0, 1) := by decide +kernel
theorem dX12_loser_47 : decode cX12_loser 47 = .ok (.iload_n 3, 1) := by decide +kernel
theorem dX12_loser_48 : decode cX12_loser 48 = .ok (.iconst 2, 1) := by decide +kernel
theorem dX12_loser_49 : decode cX12_loser 49 = .ok (.invokevirtual 166, 3) := by decide +kernel
theorem dX12_loser_52 : decode cX12_loser 52 = .ok (.aload_n 0, 1) := by decide +kernel
theorem dX12_loser_53 : decode cX12_loser 53 = .ok (.iload_n 2, 1) := by decide +kernel
theorem dX12_loser_54 : decode cX12_loser 54 = .ok (.iconst 2, 1) := by decide +kernel
theorem dX12_loser_55 : decode cX12_loser 55 = .ok (.invokevirtual 166, 3) := by decide +kernel
theorem dX12_loser_58 : decode cX12_loser 58 = .ok (.if_icmp .lt 33, 3) := by decide +kernel
theorem dX12_loser_61 : decode cX12_loser 61 = .ok (.aload_n 0, 1) := by decide +kernel
theorem dX12_loser_62 : decode cX12_loser 62 = .ok (.iload_n 3, 1) := by decide +kernel
theorem dX12_loser_63 : decode cX12_loser 63 = .ok (.iconst 2, 1) := by decide +kernel
theorem dX12_loser_64 : decode cX12_loser 64 = .ok (.invokevirtual 166, 3) := by decide +kernel
theorem dX12_loser_67 : decode cX12_loser 67 = .ok (.aload_n 0, 1) := by decide +kernel
theorem dX12_loser_68 : decode cX12_loser 68 = .ok (.iload_n 2, 1) := by decide +kernel
theorem dX12_loser_69 : decode cX12_loser 69 = .ok (.iconst 2, 1) := by decide +kernel
theorem dX12_loser_70 : decode cX12_loser 70 = .ok (.invokevirtual 166, 3) := by decide +kernel
theorem dX12_loser_73 : decode cX12_loser 73 = .ok (.if_icmp .ne 22, 3) := by decide +kernel
theorem dX12_loser_76 : decode cX12_loser 76 = .ok (.aload_n 0, 1) := by decide +kernel
theorem dX12_loser_77 : decode cX12_loser 77 = .ok (.iload_n 3, 1) := by decide +kernel
theorem dX12_loser_78 : decode cX12_loser 78 = .ok (.iconst 3, 1) := by decide +kernel
theorem dX12_loser_79 : decode cX12_loser 79 = .ok (.invokevirtual 166, 3) := by decide +kernel
theorem dX12_loser_82 : decode cX12_loser 82 = .ok (.aload_n 0, 1) := by decide +kernel
theorem dX12_loser_83 : decode cX12_loser 83 = .ok (.iload_n 2, 1) := by decide +kernel
theorem dX12_loser_84 : decode cX12_loser 84 = .ok (.iconst 3, 1) := by decide +kernel
theorem dX12_loser_85 : decode cX12_loser 85 = .ok (.invokevirtual 166, 3) := by decide +kernel
theorem dX12_loser_88 : decode cX12_loser 88 = .ok (.if_icmp .lt 7, 3) := by decide +kernel
theorem dX12_loser_91 : decode cX12_loser 91 = .ok (.iconst 1, 1) := by decide +kernel
theorem dX12_loser_92 : decode cX12_loser 92 = .ok (.goto 4, 3) := by decide +kernel
theorem dX12_loser_95 : decode cX12_loser 95 = .ok (.iconst 0, 1) := by decide +kernel
theorem dX12_loser_96 : decode cX12_loser 96 = .ok (.istore 4, 2) := by decide +kernel
theorem dX12_loser_98 : decode cX12_loser 98 = .ok (.iload 4, 2) := by decide +kernel
theorem dX12_loser_100 : decode cX12_loser 100 = .ok (.ifCond .eq 7, 3) := by decide +kernel
theorem dX12_loser_103 : decode cX12_loser 103 = .ok (.iload_n 3, 1) := by decide +kernel
theorem dX12_loser_104 : decode cX12_loser 104 = .ok (.goto 4, 3) := by decide +kernel
theorem dX12_loser_107 : decode cX12_loser 107 = .ok (.iload_n 2, 1) := by decide +kernel
theorem dX12_loser_108 : decode cX12_loser 108 = .ok (.istore_n 2, 1) := by decide +kernel
theorem dX12_loser_109 : decode cX12_loser 109 = .ok (.iinc 3 1, 3) := by decide +kernel
theorem dX12_loser_112 : decode cX12_loser 112 = .ok (.goto (-108), 3) := by decide +kernel
theorem dX12_loser_115 : decode cX12_loser 115 = .ok (.iload_n 2, 1) := by decide +kernel
theorem dX12_loser_116 : decode cX12_loser 116 = .ok (.ireturn, 1) := by decide +kernel
theorem dX12_adjust_0 : decode cX12_adjust 0 = .ok (.aload_n 0, 1) := by decide +kernel
theorem dX12_adjust_1 : decode cX12_adjust 1 = .ok (.iconst 0, 1) := by decide +kernel
theorem dX12_adjust_2 : decode cX12_adjust 2 = .ok (.putfield 3, 3) := by decide +kernel
theorem dX12_adjust_5 : decode cX12_adjust 5 = .ok (.aload_n 0, 1) := by decide +kernel
theorem dX12_adjust_6 : decode cX12_adjust 6 = .ok (.iload_n 1, 1) := by decide +kernel
theorem dX12_adjust_7 : decode cX12_adjust 7 = .ok (.invokevirtual 173, 3) := by decide +kernel
theorem dX12_adjust_10 : decode cX12_adjust 10 = .ok (.ifCond .ne 27, 3) := by decide +kernel
theorem dX12_adjust_13 : decode cX12_adjust 13 = .ok (.aload_n 0, 1) := by decide +kernel
theorem dX12_adjust_14 : decode cX12_adjust 14 = .ok (.iload_n 2, 1) := by decide +kernel
theorem dX12_adjust_15 : decode cX12_adjust 15 = .ok (.iconst 0, 1) := by decide +kernel
theorem dX12_adjust_16 : decode cX12_adjust 16 = .ok (.sipush 9999, 3) := by decide +kernel
theorem dX12_adjust_19 : decode cX12_adjust 19 = .ok (.invokestatic 72, 3) := by decide +kernel
theorem dX12_adjust_22 : decode cX12_adjust 22 = .ok (.ifCond .ne 7, 3) := by decide +kernel
theorem dX12_adjust_25 : decode cX12_adjust 25 = .ok (.iconst 1, 1) := by decide +kernel
theorem dX12_adjust_26 : decode cX12_adjust 26 = .ok (.goto 4, 3) := by decide +kernel
theorem dX12_adjust_29 : decode cX12_adjust 29 = .ok (.iconst 0, 1) := by decide +kernel
theorem dX12_adjust_30 : decode cX12_adjust 30 = .ok (.iconst 2, 1) := by decide +kernel
theorem dX12_adjust_31 : decode cX12_adjust 31 = .ok (.invokevirtual 159, 3) := by decide +kernel
theorem dX12_adjust_34 : decode cX12_adjust 34 = .ok (.ifCond .eq 5, 3) := by decide +kernel
theorem dX12_adjust_37 : decode cX12_adjust 37 = .ok (.iconst 0, 1) := by decide +kernel
theorem dX12_adjust_38 : decode cX12_adjust 38 = .ok (.ireturn, 1) := by decide +kernel
theorem dX12_adjust_39 : decode cX12_adjust 39 = .ok (.aload_n 0, 1) := by decide +kernel
theorem dX12_adjust_40 : decode cX12_adjust 40 = .ok (.invokevirtual 251, 3) := by decide +kernel
theorem dX12_adjust_43 : decode cX12_adjust 43 = .ok (.aload_n 0, 1) := by decide +kernel
theorem dX12_adjust_44 : decode cX12_adjust 44 = .ok (.getfield 87, 3) := by decide +kernel
theorem dX12_adjust_47 : decode cX12_adjust 47 = .ok (.bipush 9, 2) := by decide +kernel
theorem dX12_adjust_49 : decode cX12_adjust 49 = .ok (.iload_n 1, 1) := by decide +kernel
theorem dX12_adjust_50 : decode cX12_adjust 50 = .ok (.iadd, 1) := by decide +kernel
theorem dX12_adjust_51 : decode cX12_adjust 51 = .ok (.iload_n 2, 1) := by decide +kernel
theorem dX12_adjust_52 : decode cX12_adjust 52 = .ok (.iastore, 1) := by decide +kernel
theorem dX12_adjust_53 : decode cX12_adjust 53 = .ok (.iconst 0, 1) := by decide +kernel
theorem dX12_adjust_54 : decode cX12_adjust 54 = .ok (.istore_n 3, 1) := by decide +kernel
theorem dX12_adjust_55 : decode cX12_adjust 55 = .ok (.aload_n 0, 1) := by decide +kernel
theorem dX12_adjust_56 : decode cX12_adjust 56 = .ok (.getfield 87, 3) := by decide +kernel
theorem dX12_adjust_59 : decode cX12_adjust 59 = .ok (.bipush 21, 2) := by decide +kernel
theorem dX12_adjust_61 : decode cX12_adjust 61 = .ok (.iload_n 1, 1) := by decide +kernel
theorem dX12_adjust_62 : decode cX12_adjust 62 = .ok (.iadd, 1) := by decide +kernel
theorem dX12_adjust_63 : decode cX12_adjust 63 = .ok (.iaload, 1) := by decide +kernel
theorem dX12_adjust_64 : decode cX12_adjust 64 = .ok (.aload_n 0, 1) := by decide +kernel
theorem dX12_adjust_65 : decode cX12_adjust 65 = .ok (.getfield 87, 3) := by decide +kernel
theorem dX12_adjust_68 : decode cX12_adjust 68 = .ok (.bipush 9, 2) := by decide +kernel
theorem dX12_adjust_70 : decode cX12_adjust 70 = .ok (.iload_n 1, 1) := by decide +kernel
theorem dX12_adjust_71 : decode cX12_adjust 71 = .ok (.iadd, 1) := by decide +kernel
theorem dX12_adjust_72 : decode cX12_adjust 72 = .ok (.iaload, 1) := by decide +kernel
theorem dX12_adjust_73 : decode cX12_adjust 73 = .ok (.if_icmp .le 52, 3) := by decide +kernel
theorem dX12_adjust_76 : decode cX12_adjust 76 = .ok (.aload_n 0, 1) := by decide +kernel
theorem dX12_adjust_77 : decode cX12_adjust 77 = .ok (.iload_n 1, 1) := by decide +kernel
theorem dX12_adjust_78 : decode cX12_adjust 78 = .ok (.invokevirtual 270, 3) := by decide +kernel
theorem dX12_adjust_81 : decode cX12_adjust 81 = .ok (.istore 4, 2) := by decide +kernel
theorem dX12_adjust_83 : decode cX12_adjust 83 = .ok (.aload_n 0, 1) := by decide +kernel
theorem dX12_adjust_84 : decode cX12_adjust 84 = .ok (.iload 4, 2) := by decide +kernel
theorem dX12_adjust_86 : decode cX12_adjust 86 = .ok (.iconst 4, 1) := by decide +kernel
theorem dX12_adjust_87 : decode cX12_adjust 87 = .ok (.invokevirtual 166, 3) := by decide +kernel
theorem dX12_adjust_90 : decode cX12_adjust 90 = .ok (.iconst 1, 1) := by decide +kernel
theorem dX12_adjust_91 : decode cX12_adjust 91 = .ok (.if_icmp .ne 14, 3) := by decide +kernel
theorem dX12_adjust_94 : decode cX12_adjust 94 = .ok (.aload_n 0, 1) := by decide +kernel
theorem dX12_adjust_95 : decode cX12_adjust 95 = .ok (.iload 4, 2) := by decide +kernel
theorem dX12_adjust_97 : decode cX12_adjust 97 = .ok (.bipush 6, 2) := by decide +kernel
theorem dX12_adjust_99 : decode cX12_adjust 99 = .ok (.invokevirtual 166, 3) := by decide +kernel
theorem dX12_adjust_102 : decode cX12_adjust 102 = .ok (.goto 4, 3) := by decide +kernel
theorem dX12_adjust_105 : decode cX12_adjust 105 = .ok (.iconst 1, 1) := by decide +kernel
theorem dX12_adjust_106 : decode cX12_adjust 106 = .ok (.istore 5, 2) := by decide +kernel
theorem dX12_adjust_108 : decode cX12_adjust 108 = .ok (.aload_n 0, 1) := by decide +kernel
theorem dX12_adjust_109 : decode cX12_adjust 109 = .ok (.iload 4, 2) := by decide +kernel
theorem dX12_adjust_111 : decode cX12_adjust 111 = .ok (.iload 5, 2) := by decide +kernel
theorem dX12_adjust_113 : decode cX12_adjust 113 = .ok (.ineg, 1) := by decide +kernel
theorem dX12_adjust_114 : decode cX12_adjust 114 = .ok (.invokevirtual 258, 3) := by decide +kernel
theorem dX12_adjust_117 : decode cX12_adjust 117 = .ok (.iload_n 3, 1) := by decide +kernel
theorem dX12_adjust_118 : decode cX12_adjust 118 = .ok (.iload 5, 2) := by decide +kernel
theorem dX12_adjust_120 : decode cX12_adjust 120 = .ok (.iadd, 1) := by decide +kernel
theorem dX12_adjust_121 : decode cX12_adjust 121 = .ok (.istore_n 3, 1) := by decide +kernel
theorem dX12_adjust_122 : decode cX12_adjust 122 = .ok (.goto (-67), 3) := by decide +kernel
theorem dX12_adjust_125 : decode cX12_adjust 125 = .ok (.iload_n 3, 1) := by decide +kernel
theorem dX12_adjust_126 : decode cX12_adjust 126 = .ok (.ireturn, 1) := by decide +kernel
theorem dX12_comesNow_0 : decode cX12_comesNow 0 = .ok (.iconst 0, 1) := by decide +kernel
theorem dX12_comesNow_1 : decode cX12_comesNow 1 = .ok (.istore_n 1, 1) := by decide +kernel
theorem dX12_comesNow_2 : decode cX12_comesNow 2 = .ok (.iconst 0, 1) := by decide +kernel
theorem dX12_comesNow_3 : decode cX12_comesNow 3 = .ok (.istore_n 2, 1) := by decide +kernel
theorem dX12_comesNow_4 : decode cX12_comesNow 4 = .ok (.iconst 0, 1) := by decide +kernel
theorem dX12_comesNow_5 : decode cX12_comesNow 5 = .ok (.istore_n 3, 1) := by decide +kernel
theorem dX12_comesNow_6 : decode cX12_comesNow 6 = .ok (.iload_n 3, 1) := by decide +kernel
theorem dX12_comesNow_7 : decode cX12_comesNow 7 = .ok (.aload_n 0, 1) := by decide +kernel
theorem dX12_comesNow_8 : decode cX12_comesNow 8 = .ok (.getfield 87, 3) := by decide +kernel
theorem dX12_comesNow_11 : decode cX12_comesNow 11 = .ok (.iconst 2, 1) := by decide +kernel
theorem dX12_comesNow_12 : decode cX12_comesNow 12 = .ok (.iaload, 1) := by decide +kernel
theorem dX12_comesNow_13 : decode cX12_comesNow 13 = .ok (.if_icmp .ge 110, 3) := by decide +kernel
theorem dX12_comesNow_16 : decode cX12_comesNow 16 = .ok (.bipush 33, 2) := by decide +kernel
theorem dX12_comesNow_18 : decode cX12_comesNow 18 = .ok (.iconst 3, 1) := by decide +kernel
theorem dX12_comesNow_19 : decode cX12_comesNow 19 = .ok (.iload_n 3, 1) := by decide +kernel
theorem dX12_comesNow_20 : decode cX12_comesNow 20 = .ok (.imul, 1) := by decide +kernel
theorem dX12_comesNow_21 : decode cX12_comesNow 21 = .ok (.iadd, 1) := by decide +kernel
theorem dX12_comesNow_22 : decode cX12_comesNow 22 = .ok (.istore 4, 2) := by decide +kernel
theorem dX12_comesNow_24 : decode cX12_comesNow 24 = .ok (.aload_n 0, 1) := by decide +kernel
theorem dX12_comesNow_25 : decode cX12_comesNow 25 = .ok (.getfield 87, 3) := by decide +kernel
theorem dX12_comesNow_28 : decode cX12_comesNow 28 = .ok (.iload 4, 2) := by decide +kernel
theorem dX12_comesNow_30 : decode cX12_comesNow 30 = .ok (.iconst 2, 1) := by decide +kernel
theorem dX12_comesNow_31 : decode cX12_comesNow 31 = .ok (.iadd, 1) := by decide +kernel
theorem dX12_comesNow_32 : decode cX12_comesNow 32 = .ok (.iaload, 1) := by decide +kernel
theorem dX12_comesNow_33 : decode cX12_comesNow 33 = .ok (.aload_n 0, 1) := by decide +kernel
theorem dX12_comesNow_34 : decode cX12_comesNow 34 = .ok (.getfield 87, 3) := by decide +kernel
theorem dX12_comesNow_37 : decode cX12_comesNow 37 = .ok (.iconst 0, 1) := by decide +kernel
theorem dX12_comesNow_38 : decode cX12_comesNow 38 = .ok (.iaload, 1) := by decide +kernel
theorem dX12_comesNow_39 : decode cX12_comesNow 39 = .ok (.if_icmp .ne 36, 3) := by decide +kernel
theorem dX12_comesNow_42 : decode cX12_comesNow 42 = .ok (.aload_n 0, 1) := by decide +kernel
theorem dX12_comesNow_43 : decode cX12_comesNow 43 = .ok (.getfield 87, 3) := by decide +kernel
theorem dX12_comesNow_46 : decode cX12_comesNow 46 = .ok (.bipush 9, 2) := by decide +kernel
theorem dX12_comesNow_48 : decode cX12_comesNow 48 = .ok (.aload_n 0, 1) := by decide +kernel
theorem dX12_comesNow_49 : decode cX12_comesNow 49 = .ok (.getfield 87, 3) := by decide +kernel
theorem dX12_comesNow_52 : decode cX12_comesNow 52 = .ok (.iload 4, 2) := by decide +kernel
theorem dX12_comesNow_54 : decode cX12_comesNow 54 = .ok (.iaload, 1) := by decide +kernel
theorem dX12_comesNow_55 : decode cX12_comesNow 55 = .ok (.iadd, 1) := by decide +kernel
theorem dX12_comesNow_56 : decode cX12_comesNow 56 = .ok (.dup2, 1) := by decide +kernel
theorem dX12_comesNow_57 : decode cX12_comesNow 57 = .ok (.iaload, 1) := by decide +kernel
theorem dX12_comesNow_58 : decode cX12_comesNow 58 = .ok (.aload_n 0, 1) := by decide +kernel
theorem dX12_comesNow_59 : decode cX12_comesNow 59 = .ok (.getfield 87, 3) := by decide +kernel
theorem dX12_comesNow_62 : decode cX12_comesNow 62 = .ok (.iload 4, 2) := by decide +kernel
theorem dX12_comesNow_64 : decode cX12_comesNow 64 = .ok (.iconst 1, 1) := by decide +kernel
theorem dX12_comesNow_65 : decode cX12_comesNow 65 = .ok (.iadd, 1) := by decide +kernel
theorem dX12_comesNow_66 : decode cX12_comesNow 66 = .ok (.iaload, 1) := by decide +kernel
theorem dX12_comesNow_67 : decode cX12_comesNow 67 = .ok (.iadd, 1) := by decide +kernel
theorem dX12_comesNow_68 : decode cX12_comesNow 68 = .ok (.iastore, 1) := by decide +kernel
theorem dX12_comesNow_69 : decode cX12_comesNow 69 = .ok (.iinc 1 1, 3) := by decide +kernel
theorem dX12_comesNow_72 : decode cX12_comesNow 72 = .ok (.goto 45, 3) := by decide +kernel
theorem dX12_comesNow_75 : decode cX12_comesNow 75 = .ok (.iconst 0, 1) := by decide +kernel
theorem dX12_comesNow_76 : decode cX12_comesNow 76 = .ok (.istore 5, 2) := by decide +kernel
theorem dX12_comesNow_78 : decode cX12_comesNow 78 = .ok (.iload 5, 2) := by decide +kernel
theorem dX12_comesNow_80 : decode cX12_comesNow 80 = .ok (.iconst 3, 1) := by decide +kernel
theorem dX12_comesNow_81 : decode cX12_comesNow 81 = .ok (.if_icmp .ge 33, 3) := by decide +kernel
theorem dX12_comesNow_84 : decode cX12_comesNow 84 = .ok (.aload_n 0, 1) := by decide +kernel
theorem dX12_comesNow_85 : decode cX12_comesNow 85 = .ok (.getfield 87, 3) := by decide +kernel
theorem dX12_comesNow_88 : decode cX12_comesNow 88 = .ok (.bipush 33, 2) := by decide +kernel
theorem dX12_comesNow_90 : decode cX12_comesNow 90 = .ok (.iconst 3, 1) := by decide +kernel
theorem dX12_comesNow_91 : decode cX12_comesNow 91 = .ok (.iload_n 2, 1) := by decide +kernel
theorem dX12_comesNow_92 : decode cX12_comesNow 92 = .ok (.imul, 1) := by decide +kernel
theorem dX12_comesNow_93 : decode cX12_comesNow 93 = .ok (.iadd, 1) := by decide +kernel
theorem dX12_comesNow_94 : decode cX12_comesNow 94 = .ok (.iload 5, 2) := by decide +kernel
theorem dX12_comesNow_96 : decode cX12_comesNow 96 = .ok (.iadd, 1) := by decide +kernel
theorem dX12_comesNow_97 : decode cX12_comesNow 97 = .ok (.aload_n 0, 1) := by decide +kernel
theorem dX12_comesNow_98 : decode cX12_comesNow 98 = .ok (.getfield 87, 3) := by decide +kernel
theorem dX12_comesNow_101 : decode cX12_comesNow 101 = .ok (.iload 4, 2) := by decide +kernel
theorem dX12_comesNow_103 : decode cX12_comesNow 103 = .ok (.iload 5, 2) := by decide +kernel
theorem dX12_comesNow_105 : decode cX12_comesNow 105 = .ok (.iadd, 1) := by decide +kernel
theorem dX12_comesNow_106 : decode cX12_comesNow 106 = .ok (.iaload, 1) := by decide +kernel
theorem dX12_comesNow_107 : decode cX12_comesNow 107 = .ok (.iastore, 1) := by decide +kernel
theorem dX12_comesNow_108 : decode cX12_comesNow 108 = .ok (.iinc 5 1, 3) := by decide +kernel
theorem dX12_comesNow_111 : decode cX12_comesNow 111 = .ok (.goto (-33), 3) := by decide +kernel
theorem dX12_comesNow_114 : decode cX12_comesNow 114 = .ok (.iinc 2 1, 3) := by decide +kernel
theorem dX12_comesNow_117 : decode cX12_comesNow 117 = .ok (.iinc 3 1, 3) := by decide +kernel
theorem dX12_comesNow_120 : decode cX12_comesNow 120 = .ok (.goto (-114), 3) := by decide +kernel
theorem dX12_comesNow_123 : decode cX12_comesNow 123 = .ok (.aload_n 0, 1) := by decide +kernel
theorem dX12_comesNow_124 : decode cX12_comesNow 124 = .ok (.getfield 87, 3) := by decide +kernel
theorem dX12_comesNow_127 : decode cX12_comesNow 127 = .ok (.iconst 2, 1) := by decide +kernel
theorem dX12_comesNow_128 : decode cX12_comesNow 128 = .ok (.iload_n 2, 1) := by decide +kernel
theorem dX12_comesNow_129 : decode cX12_comesNow 129 = .ok (.iastore, 1) := by decide +kernel
theorem dX12_comesNow_130 : decode cX12_comesNow 130 = .ok (.iload_n 1, 1) := by decide +kernel
theorem dX12_comesNow_131 : decode cX12_comesNow 131 = .ok (.ireturn, 1) := by decide +kernel
theorem dX12_advance_0 : decode cX12_advance 0 = .ok (.aload_n 0, 1) := by decide +kernel
theorem dX12_advance_1 : decode cX12_advance 1 = .ok (.iconst 0, 1) := by decide +kernel
theorem dX12_advance_2 : decode cX12_advance 2 = .ok (.putfield 3, 3) := by decide +kernel
theorem dX12_advance_5 : decode cX12_advance 5 = .ok (.aload_n 0, 1) := by decide +kernel
theorem dX12_advance_6 : decode cX12_advance 6 = .ok (.iload_n 1, 1) := by decide +kernel
theorem dX12_advance_7 : decode cX12_advance 7 = .ok (.iconst 1, 1) := by decide +kernel
theorem dX12_advance_8 : decode cX12_advance 8 = .ok (.bipush 100, 2) := by decide +kernel
theorem dX12_advance_10 : decode cX12_advance 10 = .ok (.invokestatic 72, 3) := by decide +kernel
theorem dX12_advance_13 : decode cX12_advance 13 = .ok (.ifCond .ne 7, 3) := by decide +kernel
theorem dX12_advance_16 : decode cX12_advance 16 = .ok (.iconst 1, 1) := by decide +kernel
theorem dX12_advance_17 : decode cX12_advance 17 = .ok (.goto 4, 3) := by decide +kernel
theorem dX12_advance_20 : decode cX12_advance 20 = .ok (.iconst 0, 1) := by decide +kernel
theorem dX12_advance_21 : decode cX12_advance 21 = .ok (.iconst 1, 1) := by decide +kernel
theorem dX12_advance_22 : decode cX12_advance 22 = .ok (.invokevirtual 159, 3) := by decide +kernel
theorem dX12_advance_25 : decode cX12_advance 25 = .ok (.ifCond .eq 5, 3) := by decide +kernel
theorem dX12_advance_28 : decode cX12_advance 28 = .ok (.iconst 0, 1) := by decide +kernel
theorem dX12_advance_29 : decode cX12_advance 29 = .ok (.ireturn, 1) := by decide +kernel
theorem dX12_advance_30 : decode cX12_advance 30 = .ok (.aload_n 0, 1) := by decide +kernel
theorem dX12_advance_31 : decode cX12_advance 31 = .ok (.invokevirtual 251, 3) := by decide +kernel
theorem dX12_advance_34 : decode cX12_advance 34 = .ok (.iconst 0, 1) := by decide +kernel
theorem dX12_advance_35 : decode cX12_advance 35 = .ok (.istore_n 2, 1) := by decide +kernel
theorem dX12_advance_36 : decode cX12_advance 36 = .ok (.iconst 0, 1) := by decide +kernel
theorem dX12_advance_37 : decode cX12_advance 37 = .ok (.istore_n 3, 1) := by decide +kernel
theorem dX12_advance_38 : decode cX12_advance 38 = .ok (.iload_n 3, 1) := by decide +kernel
theorem dX12_advance_39 : decode cX12_advance 39 = .ok (.iload_n 1, 1) := by decide +kernel
theorem dX12_advance_40 : decode cX12_advance 40 = .ok (.if_icmp .ge 26, 3) := by decide +kernel
theorem dX12_advance_43 : decode cX12_advance 43 = .ok (.aload_n 0, 1) := by decide +kernel
theorem dX12_advance_44 : decode cX12_advance 44 = .ok (.getfield 87, 3) := by decide +kernel
theorem dX12_advance_47 : decode cX12_advance 47 = .ok (.iconst 0, 1) := by decide +kernel
theorem dX12_advance_48 : decode cX12_advance 48 = .ok (.dup2, 1) := by decide +kernel
theorem dX12_advance_49 : decode cX12_advance 49 = .ok (.iaload, 1) := by decide +kernel
theorem dX12_advance_50 : decode cX12_advance 50 = .ok (.iconst 1, 1) := by decide +kernel
theorem dX12_advance_51 : decode cX12_advance 51 = .ok (.iadd, 1) := by decide +kernel
theorem dX12_advance_52 : decode cX12_advance 52 = .ok (.iastore, 1) := by decide +kernel
theorem dX12_advance_53 : decode cX12_advance 53 = .ok (.iload_n 2, 1) := by decide +kernel
theorem dX12_advance_54 : decode cX12_advance 54 = .ok (.aload_n 0, 1) := by decide +kernel
theorem dX12_advance_55 : decode cX12_advance 55 = .ok (.invokevirtual 273, 3) := by decide +kernel
theorem dX12_advance_58 : decode cX12_advance 58 = .ok (.iadd, 1) := by decide +kernel
theorem dX12_advance_59 : decode cX12_advance 59 = .ok (.istore_n 2, 1) := by decide +kernel
theorem dX12_advance_60 : decode cX12_advance 60 = .ok (.iinc 3 1, 3) := by decide +kernel
theorem dX12_advance_63 : decode cX12_advance 63 = .ok (.goto (-25), 3) := by decide +kernel
theorem dX12_advance_66 : decode cX12_advance 66 = .ok (.iload_n 2, 1) := by decide +kernel
theorem dX12_advance_67 : decode cX12_advance 67 = .ok (.ireturn, 1) := by decide +kernel
theorem dX12_total_0 : decode cX12_total 0 = .ok (.aload_n 0, 1) := by decide +kernel
theorem dX12_total_1 : decode cX12_total 1 = .ok (.iconst 0, 1) := by decide +kernel
theorem dX12_total_2 : decode cX12_total 2 = .ok (.putfield 3, 3) := by decide +kernel
theorem dX12_total_5 : decode cX12_total 5 = .ok (.iload_n 1, 1) := by decide +kernel
theorem dX12_total_6 : decode cX12_total 6 = .ok (.iconst 0, 1) := by decide +kernel
theorem dX12_total_7 : decode cX12_total 7 = .ok (.iconst 4, 1) := by decide +kernel
theorem dX12_total_8 : decode cX12_total 8 = .ok (.invokestatic 72, 3) := by decide +kernel
theorem dX12_total_11 : decode cX12_total 11 = .ok (.ifCond .eq 14, 3) := by decide +kernel
theorem dX12_total_14 : decode cX12_total 14 = .ok (.aload_n 0, 1) := by decide +kernel
theorem dX12_total_15 : decode cX12_total 15 = .ok (.getfield 87, 3) := by decide +kernel
theorem dX12_total_18 : decode cX12_total 18 = .ok (.iconst 4, 1) := by decide +kernel
theorem dX12_total_19 : decode cX12_total 19 = .ok (.iload_n 1, 1) := by decide +kernel
theorem dX12_total_20 : decode cX12_total 20 = .ok (.iadd, 1) := by decide +kernel
theorem dX12_total_21 : decode cX12_total 21 = .ok (.iaload, 1) := by decide +kernel
theorem dX12_total_22 : decode cX12_total 22 = .ok (.goto 4, 3) := by decide +kernel
theorem dX12_total_25 : decode cX12_total 25 = .ok (.iconst (-1), 1) := by decide +kernel
theorem dX12_total_26 : decode cX12_total 26 = .ok (.ireturn, 1) := by decide +kernel
theorem dX12_shipment_0 : decode cX12_shipment 0 = .ok (.aload_n 0, 1) := by decide +kernel
theorem dX12_shipment_1 : decode cX12_shipment 1 = .ok (.iconst 0, 1) := by decide +kernel
theorem dX12_shipment_2 : decode cX12_shipment 2 = .ok (.putfield 3, 3) := by decide +kernel
theorem dX12_shipment_5 : decode cX12_shipment 5 = .ok (.iload_n 2, 1) := by decide +kernel
theorem dX12_shipment_6 : decode cX12_shipment 6 = .ok (.iconst 0, 1) := by decide +kernel
theorem dX12_shipment_7 : decode cX12_shipment 7 = .ok (.iconst 2, 1) := by decide +kernel
theorem dX12_shipment_8 : decode cX12_shipment 8 = .ok (.invokestatic 72, 3) := by decide +kernel
theorem dX12_shipment_11 : decode cX12_shipment 11 = .ok (.ifCond .eq 45, 3) := by decide +kernel
theorem dX12_shipment_14 : decode cX12_shipment 14 = .ok (.iload_n 1, 1) := by decide +kernel
theorem dX12_shipment_15 : decode cX12_shipment 15 = .ok (.iconst 0, 1) := by decide +kernel
theorem dX12_shipment_16 : decode cX12_shipment 16 = .ok (.aload_n 0, 1) := by decide +kernel
theorem dX12_shipment_17 : decode cX12_shipment 17 = .ok (.getfield 87, 3) := by decide +kernel
theorem dX12_shipment_20 : decode cX12_shipment 20 = .ok (.iconst 3, 1) := by decide +kernel
theorem dX12_shipment_21 : decode cX12_shipment 21 = .ok (.iaload, 1) := by decide +kernel
theorem dX12_shipment_22 : decode cX12_shipment 22 = .ok (.iconst 1, 1) := by decide +kernel
theorem dX12_shipment_23 : decode cX12_shipment 23 = .ok (.isub, 1) := by decide +kernel
theorem dX12_shipment_24 : decode cX12_shipment 24 = .ok (.invokestatic 72, 3) := by decide +kernel
theorem dX12_shipment_27 : decode cX12_shipment 27 = .ok (.ifCond .eq 29, 3) := by decide +kernel
theorem dX12_shipment_30 : decode cX12_shipment 30 = .ok (.aload_n 0, 1) := by decide +kernel
theorem dX12_shipment_31 : decode cX12_shipment 31 = .ok (.getfield 87, 3) := by decide +kernel
theorem dX12_shipment_34 : decode cX12_shipment 34 = .ok (.sipush 253, 3) := by decide +kernel
theorem dX12_shipment_37 : decode cX12_shipment 37 = .ok (.iconst 3, 1) := by decide +kernel
theorem dX12_shipment_38 : decode cX12_shipment 38 = .ok (.aload_n 0, 1) := by decide +kernel
theorem dX12_shipment_39 : decode cX12_shipment 39 = .ok (.getfield 87, 3) := by decide +kernel
theorem dX12_shipment_42 : decode cX12_shipment 42 = .ok (.iconst 3, 1) := by decide +kernel
theorem dX12_shipment_43 : decode cX12_shipment 43 = .ok (.iaload, 1) := by decide +kernel
theorem dX12_shipment_44 : decode cX12_shipment 44 = .ok (.iconst 1, 1) := by decide +kernel
theorem dX12_shipment_45 : decode cX12_shipment 45 = .ok (.isub, 1) := by decide +kernel
theorem dX12_shipment_46 : decode cX12_shipment 46 = .ok (.iload_n 1, 1) := by decide +kernel
theorem dX12_shipment_47 : decode cX12_shipment 47 = .ok (.isub, 1) := by decide +kernel
theorem dX12_shipment_48 : decode cX12_shipment 48 = .ok (.imul, 1) := by decide +kernel
theorem dX12_shipment_49 : decode cX12_shipment 49 = .ok (.iadd, 1) := by decide +kernel
theorem dX12_shipment_50 : decode cX12_shipment 50 = .ok (.iload_n 2, 1) := by decide +kernel
theorem dX12_shipment_51 : decode cX12_shipment 51 = .ok (.iadd, 1) := by decide +kernel
theorem dX12_shipment_52 : decode cX12_shipment 52 = .ok (.iaload, 1) := by decide +kernel
theorem dX12_shipment_53 : decode cX12_shipment 53 = .ok (.goto 4, 3) := by decide +kernel
theorem dX12_shipment_56 : decode cX12_shipment 56 = .ok (.iconst (-1), 1) := by decide +kernel
theorem dX12_shipment_57 : decode cX12_shipment 57 = .ok (.ireturn, 1) := by decide +kernel
theorem dX12_says_0 : decode cX12_says 0 = .ok (.aload_n 0, 1) := by decide +kernel
theorem dX12_says_1 : decode cX12_says 1 = .ok (.getfield 108, 3) := by decide +kernel
theorem dX12_says_4 : decode cX12_says 4 = .ok (.aload_n 0, 1) := by decide +kernel
theorem dX12_says_5 : decode cX12_says 5 = .ok (.getfield 276, 3) := by decide +kernel
theorem dX12_says_8 : decode cX12_says 8 = .ok (.iload_n 1, 1) := by decide +kernel
theorem dX12_says_9 : decode cX12_says 9 = .ok (.i2b, 1) := by decide +kernel
theorem dX12_says_10 : decode cX12_says 10 = .ok (.bastore, 1) := by decide +kernel
theorem dX12_says_11 : decode cX12_says 11 = .ok (.aload_n 0, 1) := by decide +kernel
theorem dX12_says_12 : decode cX12_says 12 = .ok (.dup, 1) := by decide +kernel
theorem dX12_says_13 : decode cX12_says 13 = .ok (.getfield 276, 3) := by decide +kernel
theorem dX12_says_16 : decode cX12_says 16 = .ok (.iconst 1, 1) := by decide +kernel
theorem dX12_says_17 : decode cX12_says 17 = .ok (.iadd, 1) := by decide +kernel
theorem dX12_says_18 : decode cX12_says 18 = .ok (.putfield 276, 3) := by decide +kernel
theorem dX12_says_21 : decode cX12_says 21 = .ok (.return_, 1) := by decide +kernel
theorem dX12_saysNumber_0 : decode cX12_saysNumber 0 = .ok (.iload_n 1, 1) := by decide +kernel
theorem dX12_saysNumber_1 : decode cX12_saysNumber 1 = .ok (.bipush 9, 2) := by decide +kernel
theorem dX12_saysNumber_3 : decode cX12_saysNumber 3 = .ok (.if_icmp .le 11, 3) := by decide +kernel
theorem dX12_saysNumber_6 : decode cX12_saysNumber 6 = .ok (.aload_n 0, 1) := by decide +kernel
theorem dX12_saysNumber_7 : decode cX12_saysNumber 7 = .ok (.iload_n 1, 1) := by decide +kernel
theorem dX12_saysNumber_8 : decode cX12_saysNumber 8 = .ok (.bipush 10, 2) := by decide +kernel
theorem dX12_saysNumber_10 : decode cX12_saysNumber 10 = .ok (.idiv, 1) := by decide +kernel
theorem dX12_saysNumber_11 : decode cX12_saysNumber 11 = .ok (.invokevirtual 279, 3) := by decide +kernel
theorem dX12_saysNumber_14 : decode cX12_saysNumber 14 = .ok (.aload_n 0, 1) := by decide +kernel
theorem dX12_saysNumber_15 : decode cX12_saysNumber 15 = .ok (.bipush 48, 2) := by decide +kernel
theorem dX12_saysNumber_17 : decode cX12_saysNumber 17 = .ok (.iload_n 1, 1) := by decide +kernel
theorem dX12_saysNumber_18 : decode cX12_saysNumber 18 = .ok (.bipush 10, 2) := by decide +kernel
theorem dX12_saysNumber_20 : decode cX12_saysNumber 20 = .ok (.irem, 1) := by decide +kernel
theorem dX12_saysNumber_21 : decode cX12_saysNumber 21 = .ok (.iadd, 1) := by decide +kernel
theorem dX12_saysNumber_22 : decode cX12_saysNumber 22 = .ok (.invokevirtual 282, 3) := by decide +kernel
theorem dX12_saysNumber_25 : decode cX12_saysNumber 25 = .ok (.return_, 1) := by decide +kernel
theorem dX12_saysWord_0 : decode cX12_saysWord 0 = .ok (.iconst 0, 1) := by decide +kernel
theorem dX12_saysWord_1 : decode cX12_saysWord 1 = .ok (.istore_n 2, 1) := by decide +kernel
theorem dX12_saysWord_2 : decode cX12_saysWord 2 = .ok (.iload_n 2, 1) := by decide +kernel
theorem dX12_saysWord_3 : decode cX12_saysWord 3 = .ok (.aload_n 1, 1) := by decide +kernel
theorem dX12_saysWord_4 : decode cX12_saysWord 4 = .ok (.invokevirtual 55, 3) := by decide +kernel
theorem dX12_saysWord_7 : decode cX12_saysWord 7 = .ok (.if_icmp .ge 18, 3) := by decide +kernel
theorem dX12_saysWord_10 : decode cX12_saysWord 10 = .ok (.aload_n 0, 1) := by decide +kernel
theorem dX12_saysWord_11 : decode cX12_saysWord 11 = .ok (.aload_n 1, 1) := by decide +kernel
theorem dX12_saysWord_12 : decode cX12_saysWord 12 = .ok (.iload_n 2, 1) := by decide +kernel
theorem dX12_saysWord_13 : decode cX12_saysWord 13 = .ok (.invokevirtual 60, 3) := by decide +kernel
theorem dX12_saysWord_16 : decode cX12_saysWord 16 = .ok (.invokevirtual 282, 3) := by decide +kernel
theorem dX12_saysWord_19 : decode cX12_saysWord 19 = .ok (.iinc 2 1, 3) := by decide +kernel
theorem dX12_saysWord_22 : decode cX12_saysWord 22 = .ok (.goto (-20), 3) := by decide +kernel
theorem dX12_saysWord_25 : decode cX12_saysWord 25 = .ok (.return_, 1) := by decide +kernel
theorem dX12_saysName_0 : decode cX12_saysName 0 = .ok (.iconst 0, 1) := by decide +kernel
theorem dX12_saysName_1 : decode cX12_saysName 1 = .ok (.istore_n 2, 1) := by decide +kernel
theorem dX12_saysName_2 : decode cX12_saysName 2 = .ok (.iload_n 2, 1) := by decide +kernel
theorem dX12_saysName_3 : decode cX12_saysName 3 = .ok (.bipush 8, 2) := by decide +kernel
theorem dX12_saysName_5 : decode cX12_saysName 5 = .ok (.if_icmp .ge 42, 3) := by decide +kernel
theorem dX12_saysName_8 : decode cX12_saysName 8 = .ok (.aload_n 0, 1) := by decide +kernel
theorem dX12_saysName_9 : decode cX12_saysName 9 = .ok (.getfield 81, 3) := by decide +kernel
theorem dX12_saysName_12 : decode cX12_saysName 12 = .ok (.iconst 4, 1) := by decide +kernel
theorem dX12_saysName_13 : decode cX12_saysName 13 = .ok (.bipush 8, 2) := by decide +kernel
theorem dX12_saysName_15 : decode cX12_saysName 15 = .ok (.iload_n 1, 1) := by decide +kernel
theorem dX12_saysName_16 : decode cX12_saysName 16 = .ok (.imul, 1) := by decide +kernel
theorem dX12_saysName_17 : decode cX12_saysName 17 = .ok (.iadd, 1) := by decide +kernel
theorem dX12_saysName_18 : decode cX12_saysName 18 = .ok (.iload_n 2, 1) := by decide +kernel
theorem dX12_saysName_19 : decode cX12_saysName 19 = .ok (.iadd, 1) := by decide +kernel
theorem dX12_saysName_20 : decode cX12_saysName 20 = .ok (.iaload, 1) := by decide +kernel
theorem dX12_saysName_21 : decode cX12_saysName 21 = .ok (.ifCond .eq 20, 3) := by decide +kernel
theorem dX12_saysName_24 : decode cX12_saysName 24 = .ok (.aload_n 0, 1) := by decide +kernel
theorem dX12_saysName_25 : decode cX12_saysName 25 = .ok (.aload_n 0, 1) := by decide +kernel
theorem dX12_saysName_26 : decode cX12_saysName 26 = .ok (.getfield 81, 3) := by decide +kernel
theorem dX12_saysName_29 : decode cX12_saysName 29 = .ok (.iconst 4, 1) := by decide +kernel
theorem dX12_saysName_30 : decode cX12_saysName 30 = .ok (.bipush 8, 2) := by decide +kernel
theorem dX12_saysName_32 : decode cX12_saysName 32 = .ok (.iload_n 1, 1) := by decide +kernel
theorem dX12_saysName_33 : decode cX12_saysName 33 = .ok (.imul, 1) := by decide +kernel
theorem dX12_saysName_34 : decode cX12_saysName 34 = .ok (.iadd, 1) := by decide +kernel
theorem dX12_saysName_35 : decode cX12_saysName 35 = .ok (.iload_n 2, 1) := by decide +kernel
theorem dX12_saysName_36 : decode cX12_saysName 36 = .ok (.iadd, 1) := by decide +kernel
theorem dX12_saysName_37 : decode cX12_saysName 37 = .ok (.iaload, 1) := by decide +kernel
theorem dX12_saysName_38 : decode cX12_saysName 38 = .ok (.invokevirtual 282, 3) := by decide +kernel
theorem dX12_saysName_41 : decode cX12_saysName 41 = .ok (.iinc 2 1, 3) := by decide +kernel
theorem dX12_saysName_44 : decode cX12_saysName 44 = .ok (.goto (-42), 3) := by decide +kernel
theorem dX12_saysName_47 : decode cX12_saysName 47 = .ok (.return_, 1) := by decide +kernel
theorem dX12_saysPart_0 : decode cX12_saysPart 0 = .ok (.aload_n 0, 1) := by decide +kernel
theorem dX12_saysPart_1 : decode cX12_saysPart 1 = .ok (.aload_n 1, 1) := by decide +kernel
theorem dX12_saysPart_2 : decode cX12_saysPart 2 = .ok (.invokevirtual 285, 3) := by decide +kernel
theorem dX12_saysPart_5 : decode cX12_saysPart 5 = .ok (.aload_n 0, 1) := by decide +kernel
theorem dX12_saysPart_6 : decode cX12_saysPart 6 = .ok (.iload_n 2, 1) := by decide +kernel
theorem dX12_saysPart_7 : decode cX12_saysPart 7 = .ok (.invokevirtual 279, 3) := by decide +kernel
theorem dX12_saysPart_10 : decode cX12_saysPart 10 = .ok (.return_, 1) := by decide +kernel
theorem dX12_formatOrder_0 : decode cX12_formatOrder 0 = .ok (.aload_n 0, 1) := by decide +kernel
theorem dX12_formatOrder_1 : decode cX12_formatOrder 1 = .ok (.iconst 0, 1) := by decide +kernel
theorem dX12_formatOrder_2 : decode cX12_formatOrder 2 = .ok (.putfield 3, 3) := by decide +kernel
theorem dX12_formatOrder_5 : decode cX12_formatOrder 5 = .ok (.aload_n 0, 1) := by decide +kernel
theorem dX12_formatOrder_6 : decode cX12_formatOrder 6 = .ok (.iload_n 1, 1) := by decide +kernel
theorem dX12_formatOrder_7 : decode cX12_formatOrder 7 = .ok (.invokevirtual 206, 3) := by decide +kernel
theorem dX12_formatOrder_10 : decode cX12_formatOrder 10 = .ok (.ifCond .eq 5, 3) := by decide +kernel
theorem dX12_formatOrder_13 : decode cX12_formatOrder 13 = .ok (.iconst 0, 1) := by decide +kernel
theorem dX12_formatOrder_14 : decode cX12_formatOrder 14 = .ok (.ireturn, 1) := by decide +kernel
theorem dX12_formatOrder_15 : decode cX12_formatOrder 15 = .ok (.aload_n 0, 1) := by decide +kernel
theorem dX12_formatOrder_16 : decode cX12_formatOrder 16 = .ok (.iconst 0, 1) := by decide +kernel
theorem dX12_formatOrder_17 : decode cX12_formatOrder 17 = .ok (.putfield 276, 3) := by decide +kernel
theorem dX12_formatOrder_20 : decode cX12_formatOrder 20 = .ok (.aload_n 0, 1) := by decide +kernel
theorem dX12_formatOrder_21 : decode cX12_formatOrder 21 = .ok (.bipush 12, 2) := by decide +kernel
theorem dX12_formatOrder_23 : decode cX12_formatOrder 23 = .ok (.aload_n 0, 1) := by decide +kernel
theorem dX12_formatOrder_24 : decode cX12_formatOrder 24 = .ok (.iload_n 1, 1) := by decide +kernel
theorem dX12_formatOrder_25 : decode cX12_formatOrder 25 = .ok (.iconst 0, 1) := by decide +kernel
theorem dX12_formatOrder_26 : decode cX12_formatOrder 26 = .ok (.invokevirtual 166, 3) := by decide +kernel
theorem dX12_formatOrder_29 : decode cX12_formatOrder 29 = .ok (.iadd, 1) := by decide +kernel
theorem dX12_formatOrder_30 : decode cX12_formatOrder 30 = .ok (.invokevirtual 289, 3) := by decide +kernel
theorem dX12_formatOrder_33 : decode cX12_formatOrder 33 = .ok (.aload_n 0, 1) := by decide +kernel
theorem dX12_formatOrder_34 : decode cX12_formatOrder 34 = .ok (.ldc_w 292, 3) := by decide +kernel
theorem dX12_formatOrder_37 : decode cX12_formatOrder 37 = .ok (.aload_n 0, 1) := by decide +kernel
theorem dX12_formatOrder_38 : decode cX12_formatOrder 38 = .ok (.iload_n 1, 1) := by decide +kernel
theorem dX12_formatOrder_39 : decode cX12_formatOrder 39 = .ok (.iconst 1, 1) := by decide +kernel
theorem dX12_formatOrder_40 : decode cX12_formatOrder 40 = .ok (.invokevirtual 166, 3) := by decide +kernel
theorem dX12_formatOrder_43 : decode cX12_formatOrder 43 = .ok (.invokevirtual 294, 3) := by decide +kernel
theorem dX12_formatOrder_46 : decode cX12_formatOrder 46 = .ok (.aload_n 0, 1) := by decide +kernel
theorem dX12_formatOrder_47 : decode cX12_formatOrder 47 = .ok (.ldc_w 298, 3) := by decide +kernel
theorem dX12_formatOrder_50 : decode cX12_formatOrder 50 = .ok (.aload_n 0, 1) := by decide +kernel
theorem dX12_formatOrder_51 : decode cX12_formatOrder 51 = .ok (.iload_n 1, 1) := by decide +kernel
theorem dX12_formatOrder_52 : decode cX12_formatOrder 52 = .ok (.iconst 2, 1) := by decide +kernel
theorem dX12_formatOrder_53 : decode cX12_formatOrder 53 = .ok (.invokevirtual 166, 3) := by decide +kernel
theorem dX12_formatOrder_56 : decode cX12_formatOrder 56 = .ok (.invokevirtual 294, 3) := by decide +kernel
theorem dX12_formatOrder_59 : decode cX12_formatOrder 59 = .ok (.aload_n 0, 1) := by decide +kernel
theorem dX12_formatOrder_60 : decode cX12_formatOrder 60 = .ok (.ldc_w 300, 3) := by decide +kernel
theorem dX12_formatOrder_63 : decode cX12_formatOrder 63 = .ok (.aload_n 0, 1) := by decide +kernel
theorem dX12_formatOrder_64 : decode cX12_formatOrder 64 = .ok (.iload_n 1, 1) := by decide +kernel
theorem dX12_formatOrder_65 : decode cX12_formatOrder 65 = .ok (.iconst 3, 1) := by decide +kernel
theorem dX12_formatOrder_66 : decode cX12_formatOrder 66 = .ok (.invokevirtual 166, 3) := by decide +kernel
theorem dX12_formatOrder_69 : decode cX12_formatOrder 69 = .ok (.invokevirtual 294, 3) := by decide +kernel
theorem dX12_formatOrder_72 : decode cX12_formatOrder 72 = .ok (.aload_n 0, 1) := by decide +kernel
theorem dX12_formatOrder_73 : decode cX12_formatOrder 73 = .ok (.iload_n 1, 1) := by decide +kernel
theorem dX12_formatOrder_74 : decode cX12_formatOrder 74 = .ok (.iconst 4, 1) := by decide +kernel
theorem dX12_formatOrder_75 : decode cX12_formatOrder 75 = .ok (.invokevirtual 166, 3) := by decide +kernel
theorem dX12_formatOrder_78 : decode cX12_formatOrder 78 = .ok (.iconst 1, 1) := by decide +kernel
theorem dX12_formatOrder_79 : decode cX12_formatOrder 79 = .ok (.if_icmp .ne 10, 3) := by decide +kernel
theorem dX12_formatOrder_82 : decode cX12_formatOrder 82 = .ok (.aload_n 0, 1) := by decide +kernel
theorem dX12_formatOrder_83 : decode cX12_formatOrder 83 = .ok (.ldc_w 302, 3) := by decide +kernel
theorem dX12_formatOrder_86 : decode cX12_formatOrder 86 = .ok (.invokevirtual 285, 3) := by decide +kernel
theorem dX12_formatOrder_89 : decode cX12_formatOrder 89 = .ok (.aload_n 0, 1) := by decide +kernel
theorem dX12_formatOrder_90 : decode cX12_formatOrder 90 = .ok (.ldc_w 304, 3) := by decide +kernel
theorem dX12_formatOrder_93 : decode cX12_formatOrder 93 = .ok (.aload_n 0, 1) := by decide +kernel
theorem dX12_formatOrder_94 : decode cX12_formatOrder 94 = .ok (.iload_n 1, 1) := by decide +kernel
theorem dX12_formatOrder_95 : decode cX12_formatOrder 95 = .ok (.invokevirtual 209, 3) := by decide +kernel
theorem dX12_formatOrder_98 : decode cX12_formatOrder 98 = .ok (.invokevirtual 294, 3) := by decide +kernel
theorem dX12_formatOrder_101 : decode cX12_formatOrder 101 = .ok (.aload_n 0, 1) := by decide +kernel
theorem dX12_formatOrder_102 : decode cX12_formatOrder 102 = .ok (.ldc_w 306, 3) := by decide +kernel
theorem dX12_formatOrder_105 : decode cX12_formatOrder 105 = .ok (.aload_n 0, 1) := by decide +kernel
theorem dX12_formatOrder_106 : decode cX12_formatOrder 106 = .ok (.iload_n 1, 1) := by decide +kernel
theorem dX12_formatOrder_107 : decode cX12_formatOrder 107 = .ok (.bipush 6, 2) := by decide +kernel
theorem dX12_formatOrder_109 : decode cX12_formatOrder 109 = .ok (.invokevirtual 166, 3) := by decide +kernel
theorem dX12_formatOrder_112 : decode cX12_formatOrder 112 = .ok (.invokevirtual 294, 3) := by decide +kernel
theorem dX12_formatOrder_115 : decode cX12_formatOrder 115 = .ok (.aload_n 0, 1) := by decide +kernel
theorem dX12_formatOrder_116 : decode cX12_formatOrder 116 = .ok (.ldc_w 308, 3) := by decide +kernel
theorem dX12_formatOrder_119 : decode cX12_formatOrder 119 = .ok (.aload_n 0, 1) := by decide +kernel
theorem dX12_formatOrder_120 : decode cX12_formatOrder 120 = .ok (.iload_n 1, 1) := by decide +kernel
theorem dX12_formatOrder_121 : decode cX12_formatOrder 121 = .ok (.iconst 5, 1) := by decide +kernel
theorem dX12_formatOrder_122 : decode cX12_formatOrder 122 = .ok (.invokevirtual 166, 3) := by decide +kernel
theorem dX12_formatOrder_125 : decode cX12_formatOrder 125 = .ok (.invokevirtual 294, 3) := by decide +kernel
theorem dX12_formatOrder_128 : decode cX12_formatOrder 128 = .ok (.aload_n 0, 1) := by decide +kernel
theorem dX12_formatOrder_129 : decode cX12_formatOrder 129 = .ok (.iload_n 1, 1) := by decide +kernel
theorem dX12_formatOrder_130 : decode cX12_formatOrder 130 = .ok (.bipush 7, 2) := by decide +kernel
theorem dX12_formatOrder_132 : decode cX12_formatOrder 132 = .ok (.invokevirtual 166, 3) := by decide +kernel
theorem dX12_formatOrder_135 : decode cX12_formatOrder 135 = .ok (.iconst 1, 1) := by decide +kernel
theorem dX12_formatOrder_136 : decode cX12_formatOrder 136 = .ok (.if_icmp .ne 10, 3) := by decide +kernel
theorem dX12_formatOrder_139 : decode cX12_formatOrder 139 = .ok (.aload_n 0, 1) := by decide +kernel
theorem dX12_formatOrder_140 : decode cX12_formatOrder 140 = .ok (.ldc_w 310, 3) := by decide +kernel
theorem dX12_formatOrder_143 : decode cX12_formatOrder 143 = .ok (.invokevirtual 285, 3) := by decide +kernel
theorem dX12_formatOrder_146 : decode cX12_formatOrder 146 = .ok (.aload_n 0, 1) := by decide +kernel
theorem dX12_formatOrder_147 : decode cX12_formatOrder 147 = .ok (.getfield 276, 3) := by decide +kernel
theorem dX12_formatOrder_150 : decode cX12_formatOrder 150 = .ok (.ireturn, 1) := by decide +kernel
theorem dX12_formatNeeds_0 : decode cX12_formatNeeds 0 = .ok (.aload_n 0, 1) := by decide +kernel
theorem dX12_formatNeeds_1 : decode cX12_formatNeeds 1 = .ok (.iconst 0, 1) := by decide +kernel
theorem dX12_formatNeeds_2 : decode cX12_formatNeeds 2 = .ok (.putfield 3, 3) := by decide +kernel
theorem dX12_formatNeeds_5 : decode cX12_formatNeeds 5 = .ok (.aload_n 0, 1) := by decide +kernel
theorem dX12_formatNeeds_6 : decode cX12_formatNeeds 6 = .ok (.iload_n 1, 1) := by decide +kernel
theorem dX12_formatNeeds_7 : decode cX12_formatNeeds 7 = .ok (.invokevirtual 169, 3) := by decide +kernel
theorem dX12_formatNeeds_10 : decode cX12_formatNeeds 10 = .ok (.ifCond .eq 5, 3) := by decide +kernel
theorem dX12_formatNeeds_13 : decode cX12_formatNeeds 13 = .ok (.iconst 0, 1) := by decide +kernel
theorem dX12_formatNeeds_14 : decode cX12_formatNeeds 14 = .ok (.ireturn, 1) := by decide +kernel
theorem dX12_formatNeeds_15 : decode cX12_formatNeeds 15 = .ok (.aload_n 0, 1) := by decide +kernel
theorem dX12_formatNeeds_16 : decode cX12_formatNeeds 16 = .ok (.iconst 0, 1) := by decide +kernel
theorem dX12_formatNeeds_17 : decode cX12_formatNeeds 17 = .ok (.putfield 276, 3) := by decide +kernel
theorem dX12_formatNeeds_20 : decode cX12_formatNeeds 20 = .ok (.aload_n 0, 1) := by decide +kernel
theorem dX12_formatNeeds_21 : decode cX12_formatNeeds 21 = .ok (.bipush 12, 2) := by decide +kernel
theorem dX12_formatNeeds_23 : decode cX12_formatNeeds 23 = .ok (.iload_n 1, 1) := by decide +kernel
theorem dX12_formatNeeds_24 : decode cX12_formatNeeds 24 = .ok (.iadd, 1) := by decide +kernel
theorem dX12_formatNeeds_25 : decode cX12_formatNeeds 25 = .ok (.invokevirtual 289, 3) := by decide +kernel
theorem dX12_formatNeeds_28 : decode cX12_formatNeeds 28 = .ok (.aload_n 0, 1) := by decide +kernel
theorem dX12_formatNeeds_29 : decode cX12_formatNeeds 29 = .ok (.bipush 58, 2) := by decide +kernel
theorem dX12_formatNeeds_31 : decode cX12_formatNeeds 31 = .ok (.invokevirtual 282, 3) := by decide +kernel
theorem dX12_formatNeeds_34 : decode cX12_formatNeeds 34 = .ok (.iconst 0, 1) := by decide +kernel
theorem dX12_formatNeeds_35 : decode cX12_formatNeeds 35 = .ok (.istore_n 2, 1) := by decide +kernel
theorem dX12_formatNeeds_36 : decode cX12_formatNeeds 36 = .ok (.iload_n 2, 1) := by decide +kernel
theorem dX12_formatNeeds_37 : decode cX12_formatNeeds 37 = .ok (.aload_n 0, 1) := by decide +kernel
theorem dX12_formatNeeds_38 : decode cX12_formatNeeds 38 = .ok (.getfield 81, 3) := by decide +kernel
theorem dX12_formatNeeds_41 : decode cX12_formatNeeds 41 = .ok (.iconst 0, 1) := by decide +kernel
theorem dX12_formatNeeds_42 : decode cX12_formatNeeds 42 = .ok (.iaload, 1) := by decide +kernel
theorem dX12_formatNeeds_43 : decode cX12_formatNeeds 43 = .ok (.if_icmp .ge 39, 3) := by decide +kernel
theorem dX12_formatNeeds_46 : decode cX12_formatNeeds 46 = .ok (.aload_n 0, 1) := by decide +kernel
theorem dX12_formatNeeds_47 : decode cX12_formatNeeds 47 = .ok (.iload_n 1, 1) := by decide +kernel
theorem dX12_formatNeeds_48 : decode cX12_formatNeeds 48 = .ok (.iload_n 2, 1) := by decide +kernel
theorem dX12_formatNeeds_49 : decode cX12_formatNeeds 49 = .ok (.invokevirtual 176, 3) := by decide +kernel
theorem dX12_formatNeeds_52 : decode cX12_formatNeeds 52 = .ok (.ifCond .ne 6, 3) := by decide +kernel
theorem dX12_formatNeeds_55 : decode cX12_formatNeeds 55 = .ok (.goto 21, 3) := by decide +kernel
theorem dX12_formatNeeds_58 : decode cX12_formatNeeds 58 = .ok (.aload_n 0, 1) := by decide +kernel
theorem dX12_formatNeeds_59 : decode cX12_formatNeeds 59 = .ok (.ldc_w 312, 3) := by decide +kernel
theorem dX12_formatNeeds_62 : decode cX12_formatNeeds 62 = .ok (.aload_n 0, 1) := by decide +kernel
theorem dX12_formatNeeds_63 : decode cX12_formatNeeds 63 = .ok (.iload_n 1, 1) := by decide +kernel
theorem dX12_formatNeeds_64 : decode cX12_formatNeeds 64 = .ok (.iload_n 2, 1) := by decide +kernel
theorem dX12_formatNeeds_65 : decode cX12_formatNeeds 65 = .ok (.invokevirtual 176, 3) := by decide +kernel
theorem dX12_formatNeeds_68 : decode cX12_formatNeeds 68 = .ok (.invokevirtual 294, 3) := by decide +kernel
theorem dX12_formatNeeds_71 : decode cX12_formatNeeds 71 = .ok (.aload_n 0, 1) := by decide +kernel
theorem dX12_formatNeeds_72 : decode cX12_formatNeeds 72 = .ok (.iload_n 2, 1) := by decide +kernel
theorem dX12_formatNeeds_73 : decode cX12_formatNeeds 73 = .ok (.invokevirtual 289, 3) := by decide +kernel
theorem dX12_formatNeeds_76 : decode cX12_formatNeeds 76 = .ok (.iinc 2 1, 3) := by decide +kernel
theorem dX12_formatNeeds_79 : decode cX12_formatNeeds 79 = .ok (.goto (-43), 3) := by decide +kernel
theorem dX12_formatNeeds_82 : decode cX12_formatNeeds 82 = .ok (.aload_n 0, 1) := by decide +kernel
theorem dX12_formatNeeds_83 : decode cX12_formatNeeds 83 = .ok (.getfield 276, 3) := by decide +kernel
theorem dX12_formatNeeds_86 : decode cX12_formatNeeds 86 = .ok (.ireturn, 1) := by decide +kernel
theorem dX12_formattedByte_0 : decode cX12_formattedByte 0 = .ok (.aload_n 0, 1) := by decide +kernel
theorem dX12_formattedByte_1 : decode cX12_formattedByte 1 = .ok (.iconst 0, 1) := by decide +kernel
theorem dX12_formattedByte_2 : decode cX12_formattedByte 2 = .ok (.putfield 3, 3) := by decide +kernel
theorem dX12_formattedByte_5 : decode cX12_formattedByte 5 = .ok (.iload_n 1, 1) := by decide +kernel
theorem dX12_formattedByte_6 : decode cX12_formattedByte 6 = .ok (.iconst 0, 1) := by decide +kernel
theorem dX12_formattedByte_7 : decode cX12_formattedByte 7 = .ok (.aload_n 0, 1) := by decide +kernel
theorem dX12_formattedByte_8 : decode cX12_formattedByte 8 = .ok (.getfield 276, 3) := by decide +kernel
theorem dX12_formattedByte_11 : decode cX12_formattedByte 11 = .ok (.iconst 1, 1) := by decide +kernel
theorem dX12_formattedByte_12 : decode cX12_formattedByte 12 = .ok (.isub, 1) := by decide +kernel
theorem dX12_formattedByte_13 : decode cX12_formattedByte 13 = .ok (.invokestatic 72, 3) := by decide +kernel
theorem dX12_formattedByte_16 : decode cX12_formattedByte 16 = .ok (.ifCond .eq 12, 3) := by decide +kernel
theorem dX12_formattedByte_19 : decode cX12_formattedByte 19 = .ok (.aload_n 0, 1) := by decide +kernel
theorem dX12_formattedByte_20 : decode cX12_formattedByte 20 = .ok (.getfield 108, 3) := by decide +kernel
theorem dX12_formattedByte_23 : decode cX12_formattedByte 23 = .ok (.iload_n 1, 1) := by decide +kernel
theorem dX12_formattedByte_24 : decode cX12_formattedByte 24 = .ok (.baload, 1) := by decide +kernel
theorem dX12_formattedByte_25 : decode cX12_formattedByte 25 = .ok (.goto 4, 3) := by decide +kernel
theorem dX12_formattedByte_28 : decode cX12_formattedByte 28 = .ok (.iconst (-1), 1) := by decide +kernel
theorem dX12_formattedByte_29 : decode cX12_formattedByte 29 = .ok (.ireturn, 1) := by decide +kernel
