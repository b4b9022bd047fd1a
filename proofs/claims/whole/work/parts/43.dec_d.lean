theorem d_MA_abs_0 : decode b_MA_abs 0 = .ok (.lload_n 0, 1) := by decide +kernel
theorem d_MA_abs_1 : decode b_MA_abs 1 = .ok (.lconst 0, 1) := by decide +kernel
theorem d_MA_abs_2 : decode b_MA_abs 2 = .ok (.lcmp, 1) := by decide +kernel
theorem d_MA_abs_3 : decode b_MA_abs 3 = .ok (.ifCond .ge 8, 3) := by decide +kernel
theorem d_MA_abs_6 : decode b_MA_abs 6 = .ok (.lload_n 0, 1) := by decide +kernel
theorem d_MA_abs_7 : decode b_MA_abs 7 = .ok (.lneg, 1) := by decide +kernel
theorem d_MA_abs_8 : decode b_MA_abs 8 = .ok (.goto 4, 3) := by decide +kernel
theorem d_MA_abs_11 : decode b_MA_abs 11 = .ok (.lload_n 0, 1) := by decide +kernel
theorem d_MA_abs_12 : decode b_MA_abs 12 = .ok (.lreturn, 1) := by decide +kernel
theorem d_SR_commonDivisor_0 : decode b_SR_commonDivisor 0 = .ok (.lload_n 0, 1) := by decide +kernel
theorem d_SR_commonDivisor_1 : decode b_SR_commonDivisor 1 = .ok (.invokestatic 143, 3) := by decide +kernel
theorem d_SR_commonDivisor_4 : decode b_SR_commonDivisor 4 = .ok (.lstore 4, 2) := by decide +kernel
theorem d_SR_commonDivisor_6 : decode b_SR_commonDivisor 6 = .ok (.lload_n 2, 1) := by decide +kernel
theorem d_SR_commonDivisor_7 : decode b_SR_commonDivisor 7 = .ok (.invokestatic 143, 3) := by decide +kernel
theorem d_SR_commonDivisor_10 : decode b_SR_commonDivisor 10 = .ok (.lstore 6, 2) := by decide +kernel
theorem d_SR_commonDivisor_12 : decode b_SR_commonDivisor 12 = .ok (.iconst 0, 1) := by decide +kernel
theorem d_SR_commonDivisor_13 : decode b_SR_commonDivisor 13 = .ok (.istore 8, 2) := by decide +kernel
theorem d_SR_commonDivisor_15 : decode b_SR_commonDivisor 15 = .ok (.iload 8, 2) := by decide +kernel
theorem d_SR_commonDivisor_17 : decode b_SR_commonDivisor 17 = .ok (.sipush 1000, 3) := by decide +kernel
theorem d_SR_commonDivisor_20 : decode b_SR_commonDivisor 20 = .ok (.if_icmp .ge 31, 3) := by decide +kernel
theorem d_SR_commonDivisor_23 : decode b_SR_commonDivisor 23 = .ok (.lload 6, 2) := by decide +kernel
theorem d_SR_commonDivisor_25 : decode b_SR_commonDivisor 25 = .ok (.lconst 0, 1) := by decide +kernel
theorem d_SR_commonDivisor_26 : decode b_SR_commonDivisor 26 = .ok (.lcmp, 1) := by decide +kernel
theorem d_SR_commonDivisor_27 : decode b_SR_commonDivisor 27 = .ok (.ifCond .eq 24, 3) := by decide +kernel
theorem d_SR_commonDivisor_30 : decode b_SR_commonDivisor 30 = .ok (.lload 4, 2) := by decide +kernel
theorem d_SR_commonDivisor_32 : decode b_SR_commonDivisor 32 = .ok (.lload 6, 2) := by decide +kernel
theorem d_SR_commonDivisor_34 : decode b_SR_commonDivisor 34 = .ok (.lrem, 1) := by decide +kernel
theorem d_SR_commonDivisor_35 : decode b_SR_commonDivisor 35 = .ok (.lstore 9, 2) := by decide +kernel
theorem d_SR_commonDivisor_37 : decode b_SR_commonDivisor 37 = .ok (.lload 6, 2) := by decide +kernel
theorem d_SR_commonDivisor_39 : decode b_SR_commonDivisor 39 = .ok (.lstore 4, 2) := by decide +kernel
theorem d_SR_commonDivisor_41 : decode b_SR_commonDivisor 41 = .ok (.lload 9, 2) := by decide +kernel
theorem d_SR_commonDivisor_43 : decode b_SR_commonDivisor 43 = .ok (.lstore 6, 2) := by decide +kernel
theorem d_SR_commonDivisor_45 : decode b_SR_commonDivisor 45 = .ok (.iinc 8 1, 3) := by decide +kernel
theorem d_SR_commonDivisor_48 : decode b_SR_commonDivisor 48 = .ok (.goto (-33), 3) := by decide +kernel
theorem d_SR_commonDivisor_51 : decode b_SR_commonDivisor 51 = .ok (.lload 4, 2) := by decide +kernel
theorem d_SR_commonDivisor_53 : decode b_SR_commonDivisor 53 = .ok (.lreturn, 1) := by decide +kernel
theorem d_MN_divisor_0 : decode b_MN_divisor 0 = .ok (.lconst 0, 1) := by decide +kernel
theorem d_MN_divisor_1 : decode b_MN_divisor 1 = .ok (.lstore_n 2, 1) := by decide +kernel
theorem d_MN_divisor_2 : decode b_MN_divisor 2 = .ok (.iconst 0, 1) := by decide +kernel
theorem d_MN_divisor_3 : decode b_MN_divisor 3 = .ok (.istore 4, 2) := by decide +kernel
theorem d_MN_divisor_5 : decode b_MN_divisor 5 = .ok (.iload 4, 2) := by decide +kernel
theorem d_MN_divisor_7 : decode b_MN_divisor 7 = .ok (.aload_n 0, 1) := by decide +kernel
theorem d_MN_divisor_8 : decode b_MN_divisor 8 = .ok (.getfield 15, 3) := by decide +kernel
theorem d_MN_divisor_11 : decode b_MN_divisor 11 = .ok (.if_icmp .ge 61, 3) := by decide +kernel
theorem d_MN_divisor_14 : decode b_MN_divisor 14 = .ok (.iconst 0, 1) := by decide +kernel
theorem d_MN_divisor_15 : decode b_MN_divisor 15 = .ok (.istore 5, 2) := by decide +kernel
theorem d_MN_divisor_17 : decode b_MN_divisor 17 = .ok (.iload 5, 2) := by decide +kernel
theorem d_MN_divisor_19 : decode b_MN_divisor 19 = .ok (.bipush 16, 2) := by decide +kernel
theorem d_MN_divisor_21 : decode b_MN_divisor 21 = .ok (.if_icmp .ge 45, 3) := by decide +kernel
theorem d_MN_divisor_24 : decode b_MN_divisor 24 = .ok (.iload 4, 2) := by decide +kernel
theorem d_MN_divisor_26 : decode b_MN_divisor 26 = .ok (.invokestatic 19, 3) := by decide +kernel
theorem d_MN_divisor_29 : decode b_MN_divisor 29 = .ok (.iload_n 1, 1) := by decide +kernel
theorem d_MN_divisor_30 : decode b_MN_divisor 30 = .ok (.if_icmp .ne 30, 3) := by decide +kernel
theorem d_MN_divisor_33 : decode b_MN_divisor 33 = .ok (.iload 5, 2) := by decide +kernel
theorem d_MN_divisor_35 : decode b_MN_divisor 35 = .ok (.invokestatic 19, 3) := by decide +kernel
theorem d_MN_divisor_38 : decode b_MN_divisor 38 = .ok (.iload_n 1, 1) := by decide +kernel
theorem d_MN_divisor_39 : decode b_MN_divisor 39 = .ok (.if_icmp .ne 21, 3) := by decide +kernel
theorem d_MN_divisor_42 : decode b_MN_divisor 42 = .ok (.lload_n 2, 1) := by decide +kernel
theorem d_MN_divisor_43 : decode b_MN_divisor 43 = .ok (.aload_n 0, 1) := by decide +kernel
theorem d_MN_divisor_44 : decode b_MN_divisor 44 = .ok (.getfield 11, 3) := by decide +kernel
theorem d_MN_divisor_47 : decode b_MN_divisor 47 = .ok (.iload 4, 2) := by decide +kernel
theorem d_MN_divisor_49 : decode b_MN_divisor 49 = .ok (.bipush 16, 2) := by decide +kernel
theorem d_MN_divisor_51 : decode b_MN_divisor 51 = .ok (.imul, 1) := by decide +kernel
theorem d_MN_divisor_52 : decode b_MN_divisor 52 = .ok (.iload 5, 2) := by decide +kernel
theorem d_MN_divisor_54 : decode b_MN_divisor 54 = .ok (.iadd, 1) := by decide +kernel
theorem d_MN_divisor_55 : decode b_MN_divisor 55 = .ok (.laload, 1) := by decide +kernel
theorem d_MN_divisor_56 : decode b_MN_divisor 56 = .ok (.invokestatic 29, 3) := by decide +kernel
theorem d_MN_divisor_59 : decode b_MN_divisor 59 = .ok (.lstore_n 2, 1) := by decide +kernel
theorem d_MN_divisor_60 : decode b_MN_divisor 60 = .ok (.iinc 5 1, 3) := by decide +kernel
theorem d_MN_divisor_63 : decode b_MN_divisor 63 = .ok (.goto (-46), 3) := by decide +kernel
theorem d_MN_divisor_66 : decode b_MN_divisor 66 = .ok (.iinc 4 1, 3) := by decide +kernel
theorem d_MN_divisor_69 : decode b_MN_divisor 69 = .ok (.goto (-64), 3) := by decide +kernel
theorem d_MN_divisor_72 : decode b_MN_divisor 72 = .ok (.lload_n 2, 1) := by decide +kernel
theorem d_MN_divisor_73 : decode b_MN_divisor 73 = .ok (.lreturn, 1) := by decide +kernel
theorem d_PW_missingMultiple_0 : decode b_PW_missingMultiple 0 = .ok (.lload_n 0, 1) := by decide +kernel
theorem d_PW_missingMultiple_1 : decode b_PW_missingMultiple 1 = .ok (.lload_n 2, 1) := by decide +kernel
theorem d_PW_missingMultiple_2 : decode b_PW_missingMultiple 2 = .ok (.invokestatic 48, 3) := by decide +kernel
theorem d_PW_missingMultiple_5 : decode b_PW_missingMultiple 5 = .ok (.lstore 4, 2) := by decide +kernel
theorem d_PW_missingMultiple_7 : decode b_PW_missingMultiple 7 = .ok (.lload 4, 2) := by decide +kernel
theorem d_PW_missingMultiple_9 : decode b_PW_missingMultiple 9 = .ok (.lconst 0, 1) := by decide +kernel
theorem d_PW_missingMultiple_10 : decode b_PW_missingMultiple 10 = .ok (.lcmp, 1) := by decide +kernel
theorem d_PW_missingMultiple_11 : decode b_PW_missingMultiple 11 = .ok (.ifCond .le 10, 3) := by decide +kernel
theorem d_PW_missingMultiple_14 : decode b_PW_missingMultiple 14 = .ok (.lload_n 0, 1) := by decide +kernel
theorem d_PW_missingMultiple_15 : decode b_PW_missingMultiple 15 = .ok (.lload 4, 2) := by decide +kernel
theorem d_PW_missingMultiple_17 : decode b_PW_missingMultiple 17 = .ok (.ldiv, 1) := by decide +kernel
theorem d_PW_missingMultiple_18 : decode b_PW_missingMultiple 18 = .ok (.goto 4, 3) := by decide +kernel
theorem d_PW_missingMultiple_21 : decode b_PW_missingMultiple 21 = .ok (.lconst 1, 1) := by decide +kernel
theorem d_PW_missingMultiple_22 : decode b_PW_missingMultiple 22 = .ok (.lreturn, 1) := by decide +kernel
theorem d_PW_find_0 : decode b_PW_find 0 = .ok (.lconst 1, 1) := by decide +kernel
theorem d_PW_find_1 : decode b_PW_find 1 = .ok (.lstore_n 2, 1) := by decide +kernel
theorem d_PW_find_2 : decode b_PW_find 2 = .ok (.iconst 0, 1) := by decide +kernel
theorem d_PW_find_3 : decode b_PW_find 3 = .ok (.istore 4, 2) := by decide +kernel
theorem d_PW_find_5 : decode b_PW_find 5 = .ok (.iconst 0, 1) := by decide +kernel
theorem d_PW_find_6 : decode b_PW_find 6 = .ok (.istore 5, 2) := by decide +kernel
theorem d_PW_find_8 : decode b_PW_find 8 = .ok (.iload 5, 2) := by decide +kernel
theorem d_PW_find_10 : decode b_PW_find 10 = .ok (.iconst 4, 1) := by decide +kernel
theorem d_PW_find_11 : decode b_PW_find 11 = .ok (.if_icmp .ge 93, 3) := by decide +kernel
theorem d_PW_find_14 : decode b_PW_find 14 = .ok (.iload 4, 2) := by decide +kernel
theorem d_PW_find_16 : decode b_PW_find 16 = .ok (.aload_n 1, 1) := by decide +kernel
theorem d_PW_find_17 : decode b_PW_find 17 = .ok (.invokevirtual 22, 3) := by decide +kernel
theorem d_PW_find_20 : decode b_PW_find 20 = .ok (.if_icmp .ge 14, 3) := by decide +kernel
theorem d_PW_find_23 : decode b_PW_find 23 = .ok (.aload_n 1, 1) := by decide +kernel
theorem d_PW_find_24 : decode b_PW_find 24 = .ok (.iload 4, 2) := by decide +kernel
theorem d_PW_find_26 : decode b_PW_find 26 = .ok (.iload 5, 2) := by decide +kernel
theorem d_PW_find_28 : decode b_PW_find 28 = .ok (.invokevirtual 28, 3) := by decide +kernel
theorem d_PW_find_31 : decode b_PW_find 31 = .ok (.goto 4, 3) := by decide +kernel
theorem d_PW_find_34 : decode b_PW_find 34 = .ok (.lconst 0, 1) := by decide +kernel
theorem d_PW_find_35 : decode b_PW_find 35 = .ok (.lstore 6, 2) := by decide +kernel
theorem d_PW_find_37 : decode b_PW_find 37 = .ok (.lload 6, 2) := by decide +kernel
theorem d_PW_find_39 : decode b_PW_find 39 = .ok (.lconst 0, 1) := by decide +kernel
theorem d_PW_find_40 : decode b_PW_find 40 = .ok (.lcmp, 1) := by decide +kernel
theorem d_PW_find_41 : decode b_PW_find 41 = .ok (.ifCond .le 57, 3) := by decide +kernel
theorem d_PW_find_44 : decode b_PW_find 44 = .ok (.lload 6, 2) := by decide +kernel
theorem d_PW_find_46 : decode b_PW_find 46 = .ok (.aload_n 0, 1) := by decide +kernel
theorem d_PW_find_47 : decode b_PW_find 47 = .ok (.getfield 9, 3) := by decide +kernel
theorem d_PW_find_50 : decode b_PW_find 50 = .ok (.iload 5, 2) := by decide +kernel
theorem d_PW_find_52 : decode b_PW_find 52 = .ok (.laload, 1) := by decide +kernel
theorem d_PW_find_53 : decode b_PW_find 53 = .ok (.invokestatic 32, 3) := by decide +kernel
theorem d_PW_find_56 : decode b_PW_find 56 = .ok (.lstore 8, 2) := by decide +kernel
theorem d_PW_find_58 : decode b_PW_find 58 = .ok (.lload_n 2, 1) := by decide +kernel
theorem d_PW_find_59 : decode b_PW_find 59 = .ok (.lload 8, 2) := by decide +kernel
theorem d_PW_find_61 : decode b_PW_find 61 = .ok (.lmul, 1) := by decide +kernel
theorem d_PW_find_62 : decode b_PW_find 62 = .ok (.lstore_n 2, 1) := by decide +kernel
theorem d_PW_find_63 : decode b_PW_find 63 = .ok (.aload_n 0, 1) := by decide +kernel
theorem d_PW_find_64 : decode b_PW_find 64 = .ok (.lload 8, 2) := by decide +kernel
theorem d_PW_find_66 : decode b_PW_find 66 = .ok (.iload 4, 2) := by decide +kernel
theorem d_PW_find_68 : decode b_PW_find 68 = .ok (.invokevirtual 36, 3) := by decide +kernel
theorem d_PW_find_71 : decode b_PW_find 71 = .ok (.aload_n 0, 1) := by decide +kernel
theorem d_PW_find_72 : decode b_PW_find 72 = .ok (.getfield 15, 3) := by decide +kernel
theorem d_PW_find_75 : decode b_PW_find 75 = .ok (.iload 4, 2) := by decide +kernel
theorem d_PW_find_77 : decode b_PW_find 77 = .ok (.aload_n 0, 1) := by decide +kernel
theorem d_PW_find_78 : decode b_PW_find 78 = .ok (.getfield 9, 3) := by decide +kernel
theorem d_PW_find_81 : decode b_PW_find 81 = .ok (.iload 5, 2) := by decide +kernel
theorem d_PW_find_83 : decode b_PW_find 83 = .ok (.laload, 1) := by decide +kernel
theorem d_PW_find_84 : decode b_PW_find 84 = .ok (.lload 6, 2) := by decide +kernel
theorem d_PW_find_86 : decode b_PW_find 86 = .ok (.ldiv, 1) := by decide +kernel
theorem d_PW_find_87 : decode b_PW_find 87 = .ok (.lastore, 1) := by decide +kernel
theorem d_PW_find_88 : decode b_PW_find 88 = .ok (.aload_n 0, 1) := by decide +kernel
theorem d_PW_find_89 : decode b_PW_find 89 = .ok (.aload_n 1, 1) := by decide +kernel
theorem d_PW_find_90 : decode b_PW_find 90 = .ok (.iload 4, 2) := by decide +kernel
theorem d_PW_find_92 : decode b_PW_find 92 = .ok (.invokevirtual 40, 3) := by decide +kernel
theorem d_PW_find_95 : decode b_PW_find 95 = .ok (.iinc 4 1, 3) := by decide +kernel
theorem d_PW_find_98 : decode b_PW_find 98 = .ok (.iinc 5 1, 3) := by decide +kernel
theorem d_PW_find_101 : decode b_PW_find 101 = .ok (.goto (-93), 3) := by decide +kernel
theorem d_PW_find_104 : decode b_PW_find 104 = .ok (.aload_n 0, 1) := by decide +kernel
theorem d_PW_find_105 : decode b_PW_find 105 = .ok (.aload_n 0, 1) := by decide +kernel
theorem d_PW_find_106 : decode b_PW_find 106 = .ok (.invokevirtual 44, 3) := by decide +kernel
theorem d_PW_find_109 : decode b_PW_find 109 = .ok (.putfield 18, 3) := by decide +kernel
theorem d_PW_find_112 : decode b_PW_find 112 = .ok (.aload_n 0, 1) := by decide +kernel
theorem d_PW_find_113 : decode b_PW_find 113 = .ok (.getfield 18, 3) := by decide +kernel
theorem d_PW_find_116 : decode b_PW_find 116 = .ok (.ifCond .eq 7, 3) := by decide +kernel
theorem d_PW_find_119 : decode b_PW_find 119 = .ok (.lload_n 2, 1) := by decide +kernel
theorem d_PW_find_120 : decode b_PW_find 120 = .ok (.goto 4, 3) := by decide +kernel
theorem d_PW_find_123 : decode b_PW_find 123 = .ok (.lconst 0, 1) := by decide +kernel
theorem d_PW_find_124 : decode b_PW_find 124 = .ok (.lreturn, 1) := by decide +kernel
theorem d_SR_count_0 : decode b_SR_count 0 = .ok (.aload_n 0, 1) := by decide +kernel
theorem d_SR_count_1 : decode b_SR_count 1 = .ok (.getfield 40, 3) := by decide +kernel
theorem d_SR_count_4 : decode b_SR_count 4 = .ok (.ireturn, 1) := by decide +kernel
theorem d_SR_forgetAnswers_0 : decode b_SR_forgetAnswers 0 = .ok (.aload_n 0, 1) := by decide +kernel
theorem d_SR_forgetAnswers_1 : decode b_SR_forgetAnswers 1 = .ok (.iconst 0, 1) := by decide +kernel
theorem d_SR_forgetAnswers_2 : decode b_SR_forgetAnswers 2 = .ok (.putfield 119, 3) := by decide +kernel
theorem d_SR_forgetAnswers_5 : decode b_SR_forgetAnswers 5 = .ok (.aload_n 0, 1) := by decide +kernel
theorem d_SR_forgetAnswers_6 : decode b_SR_forgetAnswers 6 = .ok (.getfield 36, 3) := by decide +kernel
theorem d_SR_forgetAnswers_9 : decode b_SR_forgetAnswers 9 = .ok (.invokevirtual 123, 3) := by decide +kernel
theorem d_SR_forgetAnswers_12 : decode b_SR_forgetAnswers 12 = .ok (.return_, 1) := by decide +kernel
theorem d_SR_clear_0 : decode b_SR_clear 0 = .ok (.aload_n 0, 1) := by decide +kernel
theorem d_SR_clear_1 : decode b_SR_clear 1 = .ok (.iconst 0, 1) := by decide +kernel
theorem d_SR_clear_2 : decode b_SR_clear 2 = .ok (.putfield 40, 3) := by decide +kernel
theorem d_SR_clear_5 : decode b_SR_clear 5 = .ok (.aload_n 0, 1) := by decide +kernel
theorem d_SR_clear_6 : decode b_SR_clear 6 = .ok (.invokevirtual 51, 3) := by decide +kernel
theorem d_SR_clear_9 : decode b_SR_clear 9 = .ok (.return_, 1) := by decide +kernel
theorem d_SR_requireBelow_0 : decode b_SR_requireBelow 0 = .ok (.iload_n 0, 1) := by decide +kernel
theorem d_SR_requireBelow_1 : decode b_SR_requireBelow 1 = .ok (.ifCond .lt 8, 3) := by decide +kernel
theorem d_SR_requireBelow_4 : decode b_SR_requireBelow 4 = .ok (.iload_n 0, 1) := by decide +kernel
theorem d_SR_requireBelow_5 : decode b_SR_requireBelow 5 = .ok (.iload_n 1, 1) := by decide +kernel
theorem d_SR_requireBelow_6 : decode b_SR_requireBelow 6 = .ok (.if_icmp .lt 13, 3) := by decide +kernel
theorem d_SR_requireBelow_9 : decode b_SR_requireBelow 9 = .ok (.new 136, 3) := by decide +kernel
theorem d_SR_requireBelow_12 : decode b_SR_requireBelow 12 = .ok (.dup, 1) := by decide +kernel
theorem d_SR_requireBelow_13 : decode b_SR_requireBelow 13 = .ok (.ldc 138, 2) := by decide +kernel
theorem d_SR_requireBelow_15 : decode b_SR_requireBelow 15 = .ok (.invokespecial 140, 3) := by decide +kernel
theorem d_SR_requireBelow_18 : decode b_SR_requireBelow 18 = .ok (.athrow, 1) := by decide +kernel
theorem d_SR_requireBelow_19 : decode b_SR_requireBelow 19 = .ok (.return_, 1) := by decide +kernel
theorem d_SR_requireElement_0 : decode b_SR_requireElement 0 = .ok (.iload_n 1, 1) := by decide +kernel
theorem d_SR_requireElement_1 : decode b_SR_requireElement 1 = .ok (.aload_n 0, 1) := by decide +kernel
theorem d_SR_requireElement_2 : decode b_SR_requireElement 2 = .ok (.getfield 40, 3) := by decide +kernel
theorem d_SR_requireElement_5 : decode b_SR_requireElement 5 = .ok (.invokestatic 83, 3) := by decide +kernel
theorem d_SR_requireElement_8 : decode b_SR_requireElement 8 = .ok (.return_, 1) := by decide +kernel
theorem d_SR_requireLetter_0 : decode b_SR_requireLetter 0 = .ok (.iload_n 0, 1) := by decide +kernel
theorem d_SR_requireLetter_1 : decode b_SR_requireLetter 1 = .ok (.iconst 4, 1) := by decide +kernel
theorem d_SR_requireLetter_2 : decode b_SR_requireLetter 2 = .ok (.invokestatic 83, 3) := by decide +kernel
theorem d_SR_requireLetter_5 : decode b_SR_requireLetter 5 = .ok (.return_, 1) := by decide +kernel
theorem d_SR_isExponent_0 : decode b_SR_isExponent 0 = .ok (.iload_n 0, 1) := by decide +kernel
theorem d_SR_isExponent_1 : decode b_SR_isExponent 1 = .ok (.bipush (-5), 2) := by decide +kernel
theorem d_SR_isExponent_3 : decode b_SR_isExponent 3 = .ok (.if_icmp .lt 12, 3) := by decide +kernel
theorem d_SR_isExponent_6 : decode b_SR_isExponent 6 = .ok (.iload_n 0, 1) := by decide +kernel
theorem d_SR_isExponent_7 : decode b_SR_isExponent 7 = .ok (.iconst 5, 1) := by decide +kernel
theorem d_SR_isExponent_8 : decode b_SR_isExponent 8 = .ok (.if_icmp .gt 7, 3) := by decide +kernel
theorem d_SR_isExponent_11 : decode b_SR_isExponent 11 = .ok (.iconst 1, 1) := by decide +kernel
theorem d_SR_isExponent_12 : decode b_SR_isExponent 12 = .ok (.goto 4, 3) := by decide +kernel
theorem d_SR_isExponent_15 : decode b_SR_isExponent 15 = .ok (.iconst 0, 1) := by decide +kernel
theorem d_SR_isExponent_16 : decode b_SR_isExponent 16 = .ok (.ireturn, 1) := by decide +kernel
theorem d_SR_requireExponent_0 : decode b_SR_requireExponent 0 = .ok (.iload_n 0, 1) := by decide +kernel
theorem d_SR_requireExponent_1 : decode b_SR_requireExponent 1 = .ok (.invokestatic 69, 3) := by decide +kernel
theorem d_SR_requireExponent_4 : decode b_SR_requireExponent 4 = .ok (.ifCond .ne 13, 3) := by decide +kernel
theorem d_SR_requireExponent_7 : decode b_SR_requireExponent 7 = .ok (.new 64, 3) := by decide +kernel
theorem d_SR_requireExponent_10 : decode b_SR_requireExponent 10 = .ok (.dup, 1) := by decide +kernel
theorem d_SR_requireExponent_11 : decode b_SR_requireExponent 11 = .ok (.ldc 141, 2) := by decide +kernel
theorem d_SR_requireExponent_13 : decode b_SR_requireExponent 13 = .ok (.invokespecial 68, 3) := by decide +kernel
theorem d_SR_requireExponent_16 : decode b_SR_requireExponent 16 = .ok (.athrow, 1) := by decide +kernel
theorem d_SR_requireExponent_17 : decode b_SR_requireExponent 17 = .ok (.return_, 1) := by decide +kernel
theorem d_SR_element_0 : decode b_SR_element 0 = .ok (.aload_n 0, 1) := by decide +kernel
theorem d_SR_element_1 : decode b_SR_element 1 = .ok (.getfield 40, 3) := by decide +kernel
theorem d_SR_element_4 : decode b_SR_element 4 = .ok (.iconst 4, 1) := by decide +kernel
theorem d_SR_element_5 : decode b_SR_element 5 = .ok (.if_icmp .lt 13, 3) := by decide +kernel
theorem d_SR_element_8 : decode b_SR_element 8 = .ok (.new 44, 3) := by decide +kernel
theorem d_SR_element_11 : decode b_SR_element 11 = .ok (.dup, 1) := by decide +kernel
theorem d_SR_element_12 : decode b_SR_element 12 = .ok (.ldc 46, 2) := by decide +kernel
theorem d_SR_element_14 : decode b_SR_element 14 = .ok (.invokespecial 48, 3) := by decide +kernel
theorem d_SR_element_17 : decode b_SR_element 17 = .ok (.athrow, 1) := by decide +kernel
theorem d_SR_element_18 : decode b_SR_element 18 = .ok (.iconst 0, 1) := by decide +kernel
theorem d_SR_element_19 : decode b_SR_element 19 = .ok (.istore_n 1, 1) := by decide +kernel
theorem d_SR_element_20 : decode b_SR_element 20 = .ok (.iload_n 1, 1) := by decide +kernel
theorem d_SR_element_21 : decode b_SR_element 21 = .ok (.iconst 4, 1) := by decide +kernel
theorem d_SR_element_22 : decode b_SR_element 22 = .ok (.if_icmp .ge 23, 3) := by decide +kernel
theorem d_SR_element_25 : decode b_SR_element 25 = .ok (.aload_n 0, 1) := by decide +kernel
theorem d_SR_element_26 : decode b_SR_element 26 = .ok (.getfield 9, 3) := by decide +kernel
theorem d_SR_element_29 : decode b_SR_element 29 = .ok (.aload_n 0, 1) := by decide +kernel
theorem d_SR_element_30 : decode b_SR_element 30 = .ok (.getfield 40, 3) := by decide +kernel
theorem d_SR_element_33 : decode b_SR_element 33 = .ok (.iconst 4, 1) := by decide +kernel
theorem d_SR_element_34 : decode b_SR_element 34 = .ok (.imul, 1) := by decide +kernel
theorem d_SR_element_35 : decode b_SR_element 35 = .ok (.iload_n 1, 1) := by decide +kernel
theorem d_SR_element_36 : decode b_SR_element 36 = .ok (.iadd, 1) := by decide +kernel
theorem d_SR_element_37 : decode b_SR_element 37 = .ok (.iconst 0, 1) := by decide +kernel
theorem d_SR_element_38 : decode b_SR_element 38 = .ok (.iastore, 1) := by decide +kernel
theorem d_SR_element_39 : decode b_SR_element 39 = .ok (.iinc 1 1, 3) := by decide +kernel
theorem d_SR_element_42 : decode b_SR_element 42 = .ok (.goto (-22), 3) := by decide +kernel
theorem d_SR_element_45 : decode b_SR_element 45 = .ok (.aload_n 0, 1) := by decide +kernel
theorem d_SR_element_46 : decode b_SR_element 46 = .ok (.dup, 1) := by decide +kernel
theorem d_SR_element_47 : decode b_SR_element 47 = .ok (.getfield 40, 3) := by decide +kernel
theorem d_SR_element_50 : decode b_SR_element 50 = .ok (.iconst 1, 1) := by decide +kernel
theorem d_SR_element_51 : decode b_SR_element 51 = .ok (.iadd, 1) := by decide +kernel
theorem d_SR_element_52 : decode b_SR_element 52 = .ok (.putfield 40, 3) := by decide +kernel
theorem d_SR_element_55 : decode b_SR_element 55 = .ok (.aload_n 0, 1) := by decide +kernel
theorem d_SR_element_56 : decode b_SR_element 56 = .ok (.invokevirtual 51, 3) := by decide +kernel
theorem d_SR_element_59 : decode b_SR_element 59 = .ok (.aload_n 0, 1) := by decide +kernel
theorem d_SR_element_60 : decode b_SR_element 60 = .ok (.getfield 40, 3) := by decide +kernel
theorem d_SR_element_63 : decode b_SR_element 63 = .ok (.iconst 1, 1) := by decide +kernel
theorem d_SR_element_64 : decode b_SR_element 64 = .ok (.isub, 1) := by decide +kernel
theorem d_SR_element_65 : decode b_SR_element 65 = .ok (.ireturn, 1) := by decide +kernel
theorem d_SR_put_0 : decode b_SR_put 0 = .ok (.aload_n 0, 1) := by decide +kernel
theorem d_SR_put_1 : decode b_SR_put 1 = .ok (.iload_n 1, 1) := by decide +kernel
theorem d_SR_put_2 : decode b_SR_put 2 = .ok (.invokevirtual 54, 3) := by decide +kernel
theorem d_SR_put_5 : decode b_SR_put 5 = .ok (.iload_n 2, 1) := by decide +kernel
theorem d_SR_put_6 : decode b_SR_put 6 = .ok (.invokestatic 58, 3) := by decide +kernel
theorem d_SR_put_9 : decode b_SR_put 9 = .ok (.iload_n 3, 1) := by decide +kernel
theorem d_SR_put_10 : decode b_SR_put 10 = .ok (.invokestatic 61, 3) := by decide +kernel
theorem d_SR_put_13 : decode b_SR_put 13 = .ok (.iload_n 1, 1) := by decide +kernel
theorem d_SR_put_14 : decode b_SR_put 14 = .ok (.iconst 4, 1) := by decide +kernel
theorem d_SR_put_15 : decode b_SR_put 15 = .ok (.imul, 1) := by decide +kernel
theorem d_SR_put_16 : decode b_SR_put 16 = .ok (.iload_n 2, 1) := by decide +kernel
theorem d_SR_put_17 : decode b_SR_put 17 = .ok (.iadd, 1) := by decide +kernel
theorem d_SR_put_18 : decode b_SR_put 18 = .ok (.istore 4, 2) := by decide +kernel
theorem d_SR_put_20 : decode b_SR_put 20 = .ok (.aload_n 0, 1) := by decide +kernel
theorem d_SR_put_21 : decode b_SR_put 21 = .ok (.getfield 9, 3) := by decide +kernel
theorem d_SR_put_24 : decode b_SR_put 24 = .ok (.iload 4, 2) := by decide +kernel
theorem d_SR_put_26 : decode b_SR_put 26 = .ok (.iaload, 1) := by decide +kernel
theorem d_SR_put_27 : decode b_SR_put 27 = .ok (.iload_n 3, 1) := by decide +kernel
theorem d_SR_put_28 : decode b_SR_put 28 = .ok (.if_icmp .ne 5, 3) := by decide +kernel
theorem d_SR_put_31 : decode b_SR_put 31 = .ok (.iconst 0, 1) := by decide +kernel
theorem d_SR_put_32 : decode b_SR_put 32 = .ok (.ireturn, 1) := by decide +kernel
theorem d_SR_put_33 : decode b_SR_put 33 = .ok (.aload_n 0, 1) := by decide +kernel
theorem d_SR_put_34 : decode b_SR_put 34 = .ok (.getfield 9, 3) := by decide +kernel
theorem d_SR_put_37 : decode b_SR_put 37 = .ok (.iload 4, 2) := by decide +kernel
theorem d_SR_put_39 : decode b_SR_put 39 = .ok (.iload_n 3, 1) := by decide +kernel
theorem d_SR_put_40 : decode b_SR_put 40 = .ok (.iastore, 1) := by decide +kernel
theorem d_SR_put_41 : decode b_SR_put 41 = .ok (.aload_n 0, 1) := by decide +kernel
theorem d_SR_put_42 : decode b_SR_put 42 = .ok (.invokevirtual 51, 3) := by decide +kernel
theorem d_SR_put_45 : decode b_SR_put 45 = .ok (.iconst 1, 1) := by decide +kernel
theorem d_SR_put_46 : decode b_SR_put 46 = .ok (.ireturn, 1) := by decide +kernel
theorem d_SR_at_0 : decode b_SR_at 0 = .ok (.aload_n 0, 1) := by decide +kernel
theorem d_SR_at_1 : decode b_SR_at 1 = .ok (.iload_n 1, 1) := by decide +kernel
theorem d_SR_at_2 : decode b_SR_at 2 = .ok (.invokevirtual 54, 3) := by decide +kernel
theorem d_SR_at_5 : decode b_SR_at 5 = .ok (.iload_n 2, 1) := by decide +kernel
theorem d_SR_at_6 : decode b_SR_at 6 = .ok (.invokestatic 58, 3) := by decide +kernel
theorem d_SR_at_9 : decode b_SR_at 9 = .ok (.aload_n 0, 1) := by decide +kernel
theorem d_SR_at_10 : decode b_SR_at 10 = .ok (.getfield 9, 3) := by decide +kernel
theorem d_SR_at_13 : decode b_SR_at 13 = .ok (.iload_n 1, 1) := by decide +kernel
theorem d_SR_at_14 : decode b_SR_at 14 = .ok (.iconst 4, 1) := by decide +kernel
theorem d_SR_at_15 : decode b_SR_at 15 = .ok (.imul, 1) := by decide +kernel
theorem d_SR_at_16 : decode b_SR_at 16 = .ok (.iload_n 2, 1) := by decide +kernel
theorem d_SR_at_17 : decode b_SR_at 17 = .ok (.iadd, 1) := by decide +kernel
theorem d_SR_at_18 : decode b_SR_at 18 = .ok (.iaload, 1) := by decide +kernel
theorem d_SR_at_19 : decode b_SR_at 19 = .ok (.ireturn, 1) := by decide +kernel
theorem d_SR_multiply_0 : decode b_SR_multiply 0 = .ok (.aload_n 0, 1) := by decide +kernel
theorem d_SR_multiply_1 : decode b_SR_multiply 1 = .ok (.iload_n 1, 1) := by decide +kernel
theorem d_SR_multiply_2 : decode b_SR_multiply 2 = .ok (.invokevirtual 54, 3) := by decide +kernel
theorem d_SR_multiply_5 : decode b_SR_multiply 5 = .ok (.aload_n 0, 1) := by decide +kernel
theorem d_SR_multiply_6 : decode b_SR_multiply 6 = .ok (.iload_n 2, 1) := by decide +kernel
theorem d_SR_multiply_7 : decode b_SR_multiply 7 = .ok (.invokevirtual 54, 3) := by decide +kernel
theorem d_SR_multiply_10 : decode b_SR_multiply 10 = .ok (.iload_n 1, 1) := by decide +kernel
theorem d_SR_multiply_11 : decode b_SR_multiply 11 = .ok (.iload_n 2, 1) := by decide +kernel
theorem d_SR_multiply_12 : decode b_SR_multiply 12 = .ok (.if_icmp .ne 13, 3) := by decide +kernel
theorem d_SR_multiply_15 : decode b_SR_multiply 15 = .ok (.new 64, 3) := by decide +kernel
theorem d_SR_multiply_18 : decode b_SR_multiply 18 = .ok (.dup, 1) := by decide +kernel
theorem d_SR_multiply_19 : decode b_SR_multiply 19 = .ok (.ldc 66, 2) := by decide +kernel
theorem d_SR_multiply_21 : decode b_SR_multiply 21 = .ok (.invokespecial 68, 3) := by decide +kernel
theorem d_SR_multiply_24 : decode b_SR_multiply 24 = .ok (.athrow, 1) := by decide +kernel
theorem d_SR_multiply_25 : decode b_SR_multiply 25 = .ok (.iload_n 3, 1) := by decide +kernel
theorem d_SR_multiply_26 : decode b_SR_multiply 26 = .ok (.invokestatic 61, 3) := by decide +kernel
theorem d_SR_multiply_29 : decode b_SR_multiply 29 = .ok (.iload_n 1, 1) := by decide +kernel
theorem d_SR_multiply_30 : decode b_SR_multiply 30 = .ok (.iconst 4, 1) := by decide +kernel
theorem d_SR_multiply_31 : decode b_SR_multiply 31 = .ok (.imul, 1) := by decide +kernel
theorem d_SR_multiply_32 : decode b_SR_multiply 32 = .ok (.istore 4, 2) := by decide +kernel
theorem d_SR_multiply_34 : decode b_SR_multiply 34 = .ok (.iload_n 2, 1) := by decide +kernel
theorem d_SR_multiply_35 : decode b_SR_multiply 35 = .ok (.iconst 4, 1) := by decide +kernel
theorem d_SR_multiply_36 : decode b_SR_multiply 36 = .ok (.imul, 1) := by decide +kernel
theorem d_SR_multiply_37 : decode b_SR_multiply 37 = .ok (.istore 5, 2) := by decide +kernel
theorem d_SR_multiply_39 : decode b_SR_multiply 39 = .ok (.iconst 0, 1) := by decide +kernel
theorem d_SR_multiply_40 : decode b_SR_multiply 40 = .ok (.istore 6, 2) := by decide +kernel
theorem d_SR_multiply_42 : decode b_SR_multiply 42 = .ok (.iload 6, 2) := by decide +kernel
theorem d_SR_multiply_44 : decode b_SR_multiply 44 = .ok (.iconst 4, 1) := by decide +kernel
theorem d_SR_multiply_45 : decode b_SR_multiply 45 = .ok (.if_icmp .ge 40, 3) := by decide +kernel
theorem d_SR_multiply_48 : decode b_SR_multiply 48 = .ok (.aload_n 0, 1) := by decide +kernel
theorem d_SR_multiply_49 : decode b_SR_multiply 49 = .ok (.getfield 9, 3) := by decide +kernel
theorem d_SR_multiply_52 : decode b_SR_multiply 52 = .ok (.iload 4, 2) := by decide +kernel
theorem d_SR_multiply_54 : decode b_SR_multiply 54 = .ok (.iload 6, 2) := by decide +kernel
theorem d_SR_multiply_56 : decode b_SR_multiply 56 = .ok (.iadd, 1) := by decide +kernel
theorem d_SR_multiply_57 : decode b_SR_multiply 57 = .ok (.iaload, 1) := by decide +kernel
theorem d_SR_multiply_58 : decode b_SR_multiply 58 = .ok (.iload_n 3, 1) := by decide +kernel
theorem d_SR_multiply_59 : decode b_SR_multiply 59 = .ok (.aload_n 0, 1) := by decide +kernel
theorem d_SR_multiply_60 : decode b_SR_multiply 60 = .ok (.getfield 9, 3) := by decide +kernel
theorem d_SR_multiply_63 : decode b_SR_multiply 63 = .ok (.iload 5, 2) := by decide +kernel
theorem d_SR_multiply_65 : decode b_SR_multiply 65 = .ok (.iload 6, 2) := by decide +kernel
theorem d_SR_multiply_67 : decode b_SR_multiply 67 = .ok (.iadd, 1) := by decide +kernel
theorem d_SR_multiply_68 : decode b_SR_multiply 68 = .ok (.iaload, 1) := by decide +kernel
theorem d_SR_multiply_69 : decode b_SR_multiply 69 = .ok (.imul, 1) := by decide +kernel
theorem d_SR_multiply_70 : decode b_SR_multiply 70 = .ok (.iadd, 1) := by decide +kernel
theorem d_SR_multiply_71 : decode b_SR_multiply 71 = .ok (.invokestatic 69, 3) := by decide +kernel
theorem d_SR_multiply_74 : decode b_SR_multiply 74 = .ok (.ifCond .ne 5, 3) := by decide +kernel
theorem d_SR_multiply_77 : decode b_SR_multiply 77 = .ok (.iconst 0, 1) := by decide +kernel
theorem d_SR_multiply_78 : decode b_SR_multiply 78 = .ok (.ireturn, 1) := by decide +kernel
theorem d_SR_multiply_79 : decode b_SR_multiply 79 = .ok (.iinc 6 1, 3) := by decide +kernel
theorem d_SR_multiply_82 : decode b_SR_multiply 82 = .ok (.goto (-40), 3) := by decide +kernel
theorem d_SR_multiply_85 : decode b_SR_multiply 85 = .ok (.iconst 0, 1) := by decide +kernel
theorem d_SR_multiply_86 : decode b_SR_multiply 86 = .ok (.istore 6, 2) := by decide +kernel
theorem d_SR_multiply_88 : decode b_SR_multiply 88 = .ok (.iload 6, 2) := by decide +kernel
theorem d_SR_multiply_90 : decode b_SR_multiply 90 = .ok (.iconst 4, 1) := by decide +kernel
theorem d_SR_multiply_91 : decode b_SR_multiply 91 = .ok (.if_icmp .ge 34, 3) := by decide +kernel
theorem d_SR_multiply_94 : decode b_SR_multiply 94 = .ok (.aload_n 0, 1) := by decide +kernel
theorem d_SR_multiply_95 : decode b_SR_multiply 95 = .ok (.getfield 9, 3) := by decide +kernel
theorem d_SR_multiply_98 : decode b_SR_multiply 98 = .ok (.iload 4, 2) := by decide +kernel
theorem d_SR_multiply_100 : decode b_SR_multiply 100 = .ok (.iload 6, 2) := by decide +kernel
theorem d_SR_multiply_102 : decode b_SR_multiply 102 = .ok (.iadd, 1) := by decide +kernel
theorem d_SR_multiply_103 : decode b_SR_multiply 103 = .ok (.dup2, 1) := by decide +kernel
theorem d_SR_multiply_104 : decode b_SR_multiply 104 = .ok (.iaload, 1) := by decide +kernel
theorem d_SR_multiply_105 : decode b_SR_multiply 105 = .ok (.iload_n 3, 1) := by decide +kernel
theorem d_SR_multiply_106 : decode b_SR_multiply 106 = .ok (.aload_n 0, 1) := by decide +kernel
theorem d_SR_multiply_107 : decode b_SR_multiply 107 = .ok (.getfield 9, 3) := by decide +kernel
theorem d_SR_multiply_110 : decode b_SR_multiply 110 = .ok (.iload 5, 2) := by decide +kernel
theorem d_SR_multiply_112 : decode b_SR_multiply 112 = .ok (.iload 6, 2) := by decide +kernel
theorem d_SR_multiply_114 : decode b_SR_multiply 114 = .ok (.iadd, 1) := by decide +kernel
theorem d_SR_multiply_115 : decode b_SR_multiply 115 = .ok (.iaload, 1) := by decide +kernel
theorem d_SR_multiply_116 : decode b_SR_multiply 116 = .ok (.imul, 1) := by decide +kernel
theorem d_SR_multiply_117 : decode b_SR_multiply 117 = .ok (.iadd, 1) := by decide +kernel
theorem d_SR_multiply_118 : decode b_SR_multiply 118 = .ok (.iastore, 1) := by decide +kernel
theorem d_SR_multiply_119 : decode b_SR_multiply 119 = .ok (.iinc 6 1, 3) := by decide +kernel
theorem d_SR_multiply_122 : decode b_SR_multiply 122 = .ok (.goto (-34), 3) := by decide +kernel
theorem d_SR_multiply_125 : decode b_SR_multiply 125 = .ok (.aload_n 0, 1) := by decide +kernel
theorem d_SR_multiply_126 : decode b_SR_multiply 126 = .ok (.invokevirtual 51, 3) := by decide +kernel
theorem d_SR_multiply_129 : decode b_SR_multiply 129 = .ok (.iconst 1, 1) := by decide +kernel
theorem d_SR_multiply_130 : decode b_SR_multiply 130 = .ok (.ireturn, 1) := by decide +kernel
theorem d_SR_settle_0 : decode b_SR_settle 0 = .ok (.aload_n 0, 1) := by decide +kernel
theorem d_SR_settle_1 : decode b_SR_settle 1 = .ok (.getfield 119, 3) := by decide +kernel
theorem d_SR_settle_4 : decode b_SR_settle 4 = .ok (.ifCond .eq 4, 3) := by decide +kernel
theorem d_SR_settle_7 : decode b_SR_settle 7 = .ok (.return_, 1) := by decide +kernel
theorem d_SR_settle_8 : decode b_SR_settle 8 = .ok (.aload_n 0, 1) := by decide +kernel
theorem d_SR_settle_9 : decode b_SR_settle 9 = .ok (.getfield 16, 3) := by decide +kernel
theorem d_SR_settle_12 : decode b_SR_settle 12 = .ok (.aload_n 0, 1) := by decide +kernel
theorem d_SR_settle_13 : decode b_SR_settle 13 = .ok (.getfield 40, 3) := by decide +kernel
theorem d_SR_settle_16 : decode b_SR_settle 16 = .ok (.iconst 4, 1) := by decide +kernel
theorem d_SR_settle_17 : decode b_SR_settle 17 = .ok (.invokevirtual 126, 3) := by decide +kernel
theorem d_SR_settle_20 : decode b_SR_settle 20 = .ok (.aload_n 0, 1) := by decide +kernel
theorem d_SR_settle_21 : decode b_SR_settle 21 = .ok (.getfield 20, 3) := by decide +kernel
theorem d_SR_settle_24 : decode b_SR_settle 24 = .ok (.iconst 4, 1) := by decide +kernel
theorem d_SR_settle_25 : decode b_SR_settle 25 = .ok (.aload_n 0, 1) := by decide +kernel
theorem d_SR_settle_26 : decode b_SR_settle 26 = .ok (.getfield 40, 3) := by decide +kernel
theorem d_SR_settle_29 : decode b_SR_settle 29 = .ok (.invokevirtual 126, 3) := by decide +kernel
theorem d_SR_settle_32 : decode b_SR_settle 32 = .ok (.iconst 0, 1) := by decide +kernel
theorem d_SR_settle_33 : decode b_SR_settle 33 = .ok (.istore_n 1, 1) := by decide +kernel
theorem d_SR_settle_34 : decode b_SR_settle 34 = .ok (.iload_n 1, 1) := by decide +kernel
theorem d_SR_settle_35 : decode b_SR_settle 35 = .ok (.aload_n 0, 1) := by decide +kernel
theorem d_SR_settle_36 : decode b_SR_settle 36 = .ok (.getfield 40, 3) := by decide +kernel
theorem d_SR_settle_39 : decode b_SR_settle 39 = .ok (.if_icmp .ge 55, 3) := by decide +kernel
theorem d_SR_settle_42 : decode b_SR_settle 42 = .ok (.iconst 0, 1) := by decide +kernel
theorem d_SR_settle_43 : decode b_SR_settle 43 = .ok (.istore_n 2, 1) := by decide +kernel
theorem d_SR_settle_44 : decode b_SR_settle 44 = .ok (.iload_n 2, 1) := by decide +kernel
theorem d_SR_settle_45 : decode b_SR_settle 45 = .ok (.iconst 4, 1) := by decide +kernel
theorem d_SR_settle_46 : decode b_SR_settle 46 = .ok (.if_icmp .ge 42, 3) := by decide +kernel
theorem d_SR_settle_49 : decode b_SR_settle 49 = .ok (.aload_n 0, 1) := by decide +kernel
theorem d_SR_settle_50 : decode b_SR_settle 50 = .ok (.getfield 9, 3) := by decide +kernel
theorem d_SR_settle_53 : decode b_SR_settle 53 = .ok (.iload_n 1, 1) := by decide +kernel
theorem d_SR_settle_54 : decode b_SR_settle 54 = .ok (.iconst 4, 1) := by decide +kernel
theorem d_SR_settle_55 : decode b_SR_settle 55 = .ok (.imul, 1) := by decide +kernel
theorem d_SR_settle_56 : decode b_SR_settle 56 = .ok (.iload_n 2, 1) := by decide +kernel
theorem d_SR_settle_57 : decode b_SR_settle 57 = .ok (.iadd, 1) := by decide +kernel
theorem d_SR_settle_58 : decode b_SR_settle 58 = .ok (.iaload, 1) := by decide +kernel
theorem d_SR_settle_59 : decode b_SR_settle 59 = .ok (.istore_n 3, 1) := by decide +kernel
theorem d_SR_settle_60 : decode b_SR_settle 60 = .ok (.aload_n 0, 1) := by decide +kernel
theorem d_SR_settle_61 : decode b_SR_settle 61 = .ok (.getfield 16, 3) := by decide +kernel
theorem d_SR_settle_64 : decode b_SR_settle 64 = .ok (.iload_n 1, 1) := by decide +kernel
theorem d_SR_settle_65 : decode b_SR_settle 65 = .ok (.iload_n 2, 1) := by decide +kernel
theorem d_SR_settle_66 : decode b_SR_settle 66 = .ok (.iload_n 3, 1) := by decide +kernel
theorem d_SR_settle_67 : decode b_SR_settle 67 = .ok (.i2l, 1) := by decide +kernel
theorem d_SR_settle_68 : decode b_SR_settle 68 = .ok (.invokevirtual 129, 3) := by decide +kernel
theorem d_SR_settle_71 : decode b_SR_settle 71 = .ok (.aload_n 0, 1) := by decide +kernel
theorem d_SR_settle_72 : decode b_SR_settle 72 = .ok (.getfield 20, 3) := by decide +kernel
theorem d_SR_settle_75 : decode b_SR_settle 75 = .ok (.iload_n 2, 1) := by decide +kernel
theorem d_SR_settle_76 : decode b_SR_settle 76 = .ok (.iload_n 1, 1) := by decide +kernel
theorem d_SR_settle_77 : decode b_SR_settle 77 = .ok (.iload_n 3, 1) := by decide +kernel
theorem d_SR_settle_78 : decode b_SR_settle 78 = .ok (.i2l, 1) := by decide +kernel
theorem d_SR_settle_79 : decode b_SR_settle 79 = .ok (.invokevirtual 129, 3) := by decide +kernel
theorem d_SR_settle_82 : decode b_SR_settle 82 = .ok (.iinc 2 1, 3) := by decide +kernel
theorem d_SR_settle_85 : decode b_SR_settle 85 = .ok (.goto (-41), 3) := by decide +kernel
theorem d_SR_settle_88 : decode b_SR_settle 88 = .ok (.iinc 1 1, 3) := by decide +kernel
theorem d_SR_settle_91 : decode b_SR_settle 91 = .ok (.goto (-57), 3) := by decide +kernel
theorem d_SR_settle_94 : decode b_SR_settle 94 = .ok (.aload_n 0, 1) := by decide +kernel
theorem d_SR_settle_95 : decode b_SR_settle 95 = .ok (.getfield 16, 3) := by decide +kernel
theorem d_SR_settle_98 : decode b_SR_settle 98 = .ok (.invokevirtual 133, 3) := by decide +kernel
theorem d_SR_settle_101 : decode b_SR_settle 101 = .ok (.aload_n 0, 1) := by decide +kernel
theorem d_SR_settle_102 : decode b_SR_settle 102 = .ok (.getfield 20, 3) := by decide +kernel
theorem d_SR_settle_105 : decode b_SR_settle 105 = .ok (.invokevirtual 133, 3) := by decide +kernel
theorem d_SR_settle_108 : decode b_SR_settle 108 = .ok (.aload_n 0, 1) := by decide +kernel
theorem d_SR_settle_109 : decode b_SR_settle 109 = .ok (.getfield 20, 3) := by decide +kernel
theorem d_SR_settle_112 : decode b_SR_settle 112 = .ok (.invokevirtual 80, 3) := by decide +kernel
theorem d_SR_settle_115 : decode b_SR_settle 115 = .ok (.istore_n 1, 1) := by decide +kernel
theorem d_SR_settle_116 : decode b_SR_settle 116 = .ok (.aload_n 0, 1) := by decide +kernel
theorem d_SR_settle_117 : decode b_SR_settle 117 = .ok (.getfield 23, 3) := by decide +kernel
theorem d_SR_settle_120 : decode b_SR_settle 120 = .ok (.iconst 4, 1) := by decide +kernel
theorem d_SR_settle_121 : decode b_SR_settle 121 = .ok (.iload_n 1, 1) := by decide +kernel
theorem d_SR_settle_122 : decode b_SR_settle 122 = .ok (.invokevirtual 126, 3) := by decide +kernel
theorem d_SR_settle_125 : decode b_SR_settle 125 = .ok (.iconst 0, 1) := by decide +kernel
theorem d_SR_settle_126 : decode b_SR_settle 126 = .ok (.istore_n 2, 1) := by decide +kernel
theorem d_SR_settle_127 : decode b_SR_settle 127 = .ok (.iload_n 2, 1) := by decide +kernel
theorem d_SR_settle_128 : decode b_SR_settle 128 = .ok (.iload_n 1, 1) := by decide +kernel
theorem d_SR_settle_129 : decode b_SR_settle 129 = .ok (.if_icmp .ge 40, 3) := by decide +kernel
theorem d_SR_settle_132 : decode b_SR_settle 132 = .ok (.iconst 0, 1) := by decide +kernel
theorem d_SR_settle_133 : decode b_SR_settle 133 = .ok (.istore_n 3, 1) := by decide +kernel
theorem d_SR_settle_134 : decode b_SR_settle 134 = .ok (.iload_n 3, 1) := by decide +kernel
theorem d_SR_settle_135 : decode b_SR_settle 135 = .ok (.iconst 4, 1) := by decide +kernel
theorem d_SR_settle_136 : decode b_SR_settle 136 = .ok (.if_icmp .ge 27, 3) := by decide +kernel
theorem d_SR_settle_139 : decode b_SR_settle 139 = .ok (.aload_n 0, 1) := by decide +kernel
theorem d_SR_settle_140 : decode b_SR_settle 140 = .ok (.getfield 23, 3) := by decide +kernel
theorem d_SR_settle_143 : decode b_SR_settle 143 = .ok (.iload_n 3, 1) := by decide +kernel
theorem d_SR_settle_144 : decode b_SR_settle 144 = .ok (.iload_n 2, 1) := by decide +kernel
theorem d_SR_settle_145 : decode b_SR_settle 145 = .ok (.aload_n 0, 1) := by decide +kernel
theorem d_SR_settle_146 : decode b_SR_settle 146 = .ok (.getfield 20, 3) := by decide +kernel
theorem d_SR_settle_149 : decode b_SR_settle 149 = .ok (.iload_n 2, 1) := by decide +kernel
theorem d_SR_settle_150 : decode b_SR_settle 150 = .ok (.iload_n 3, 1) := by decide +kernel
theorem d_SR_settle_151 : decode b_SR_settle 151 = .ok (.invokevirtual 87, 3) := by decide +kernel
theorem d_SR_settle_154 : decode b_SR_settle 154 = .ok (.invokevirtual 129, 3) := by decide +kernel
theorem d_SR_settle_157 : decode b_SR_settle 157 = .ok (.iinc 3 1, 3) := by decide +kernel
theorem d_SR_settle_160 : decode b_SR_settle 160 = .ok (.goto (-26), 3) := by decide +kernel
theorem d_SR_settle_163 : decode b_SR_settle 163 = .ok (.iinc 2 1, 3) := by decide +kernel
theorem d_SR_settle_166 : decode b_SR_settle 166 = .ok (.goto (-39), 3) := by decide +kernel
theorem d_SR_settle_169 : decode b_SR_settle 169 = .ok (.aload_n 0, 1) := by decide +kernel
theorem d_SR_settle_170 : decode b_SR_settle 170 = .ok (.getfield 23, 3) := by decide +kernel
theorem d_SR_settle_173 : decode b_SR_settle 173 = .ok (.invokevirtual 133, 3) := by decide +kernel
theorem d_SR_settle_176 : decode b_SR_settle 176 = .ok (.aload_n 0, 1) := by decide +kernel
theorem d_SR_settle_177 : decode b_SR_settle 177 = .ok (.iconst 1, 1) := by decide +kernel
theorem d_SR_settle_178 : decode b_SR_settle 178 = .ok (.putfield 119, 3) := by decide +kernel
theorem d_SR_settle_181 : decode b_SR_settle 181 = .ok (.return_, 1) := by decide +kernel
theorem d_SR_rank_0 : decode b_SR_rank 0 = .ok (.aload_n 0, 1) := by decide +kernel
theorem d_SR_rank_1 : decode b_SR_rank 1 = .ok (.invokevirtual 73, 3) := by decide +kernel
theorem d_SR_rank_4 : decode b_SR_rank 4 = .ok (.aload_n 0, 1) := by decide +kernel
theorem d_SR_rank_5 : decode b_SR_rank 5 = .ok (.getfield 16, 3) := by decide +kernel
theorem d_SR_rank_8 : decode b_SR_rank 8 = .ok (.invokevirtual 76, 3) := by decide +kernel
theorem d_SR_rank_11 : decode b_SR_rank 11 = .ok (.ireturn, 1) := by decide +kernel
theorem d_SR_relations_0 : decode b_SR_relations 0 = .ok (.aload_n 0, 1) := by decide +kernel
theorem d_SR_relations_1 : decode b_SR_relations 1 = .ok (.invokevirtual 73, 3) := by decide +kernel
theorem d_SR_relations_4 : decode b_SR_relations 4 = .ok (.aload_n 0, 1) := by decide +kernel
theorem d_SR_relations_5 : decode b_SR_relations 5 = .ok (.getfield 16, 3) := by decide +kernel
theorem d_SR_relations_8 : decode b_SR_relations 8 = .ok (.invokevirtual 80, 3) := by decide +kernel
theorem d_SR_relations_11 : decode b_SR_relations 11 = .ok (.ireturn, 1) := by decide +kernel
theorem d_SR_relation_0 : decode b_SR_relation 0 = .ok (.aload_n 0, 1) := by decide +kernel
theorem d_SR_relation_1 : decode b_SR_relation 1 = .ok (.invokevirtual 73, 3) := by decide +kernel
theorem d_SR_relation_4 : decode b_SR_relation 4 = .ok (.iload_n 1, 1) := by decide +kernel
theorem d_SR_relation_5 : decode b_SR_relation 5 = .ok (.aload_n 0, 1) := by decide +kernel
theorem d_SR_relation_6 : decode b_SR_relation 6 = .ok (.getfield 16, 3) := by decide +kernel
theorem d_SR_relation_9 : decode b_SR_relation 9 = .ok (.invokevirtual 80, 3) := by decide +kernel
theorem d_SR_relation_12 : decode b_SR_relation 12 = .ok (.invokestatic 83, 3) := by decide +kernel
theorem d_SR_relation_15 : decode b_SR_relation 15 = .ok (.aload_n 0, 1) := by decide +kernel
theorem d_SR_relation_16 : decode b_SR_relation 16 = .ok (.iload_n 2, 1) := by decide +kernel
theorem d_SR_relation_17 : decode b_SR_relation 17 = .ok (.invokevirtual 54, 3) := by decide +kernel
theorem d_SR_relation_20 : decode b_SR_relation 20 = .ok (.aload_n 0, 1) := by decide +kernel
theorem d_SR_relation_21 : decode b_SR_relation 21 = .ok (.getfield 16, 3) := by decide +kernel
theorem d_SR_relation_24 : decode b_SR_relation 24 = .ok (.iload_n 1, 1) := by decide +kernel
theorem d_SR_relation_25 : decode b_SR_relation 25 = .ok (.iload_n 2, 1) := by decide +kernel
theorem d_SR_relation_26 : decode b_SR_relation 26 = .ok (.invokevirtual 87, 3) := by decide +kernel
theorem d_SR_relation_29 : decode b_SR_relation 29 = .ok (.lreturn, 1) := by decide +kernel
theorem d_SR_group_0 : decode b_SR_group 0 = .ok (.aload_n 0, 1) := by decide +kernel
theorem d_SR_group_1 : decode b_SR_group 1 = .ok (.invokevirtual 73, 3) := by decide +kernel
theorem d_SR_group_4 : decode b_SR_group 4 = .ok (.iload_n 1, 1) := by decide +kernel
theorem d_SR_group_5 : decode b_SR_group 5 = .ok (.aload_n 0, 1) := by decide +kernel
theorem d_SR_group_6 : decode b_SR_group 6 = .ok (.getfield 16, 3) := by decide +kernel
theorem d_SR_group_9 : decode b_SR_group 9 = .ok (.invokevirtual 76, 3) := by decide +kernel
theorem d_SR_group_12 : decode b_SR_group 12 = .ok (.invokestatic 83, 3) := by decide +kernel
theorem d_SR_group_15 : decode b_SR_group 15 = .ok (.iload_n 2, 1) := by decide +kernel
theorem d_SR_group_16 : decode b_SR_group 16 = .ok (.invokestatic 58, 3) := by decide +kernel
theorem d_SR_group_19 : decode b_SR_group 19 = .ok (.aload_n 0, 1) := by decide +kernel
theorem d_SR_group_20 : decode b_SR_group 20 = .ok (.getfield 16, 3) := by decide +kernel
theorem d_SR_group_23 : decode b_SR_group 23 = .ok (.iload_n 1, 1) := by decide +kernel
theorem d_SR_group_24 : decode b_SR_group 24 = .ok (.iload_n 2, 1) := by decide +kernel
theorem d_SR_group_25 : decode b_SR_group 25 = .ok (.invokevirtual 91, 3) := by decide +kernel
theorem d_SR_group_28 : decode b_SR_group 28 = .ok (.lreturn, 1) := by decide +kernel
theorem d_SR_hull_0 : decode b_SR_hull 0 = .ok (.aload_n 0, 1) := by decide +kernel
theorem d_SR_hull_1 : decode b_SR_hull 1 = .ok (.invokevirtual 73, 3) := by decide +kernel
theorem d_SR_hull_4 : decode b_SR_hull 4 = .ok (.iload_n 1, 1) := by decide +kernel
theorem d_SR_hull_5 : decode b_SR_hull 5 = .ok (.aload_n 0, 1) := by decide +kernel
theorem d_SR_hull_6 : decode b_SR_hull 6 = .ok (.getfield 23, 3) := by decide +kernel
theorem d_SR_hull_9 : decode b_SR_hull 9 = .ok (.invokevirtual 80, 3) := by decide +kernel
theorem d_SR_hull_12 : decode b_SR_hull 12 = .ok (.invokestatic 83, 3) := by decide +kernel
theorem d_SR_hull_15 : decode b_SR_hull 15 = .ok (.iload_n 2, 1) := by decide +kernel
theorem d_SR_hull_16 : decode b_SR_hull 16 = .ok (.invokestatic 58, 3) := by decide +kernel
theorem d_SR_hull_19 : decode b_SR_hull 19 = .ok (.aload_n 0, 1) := by decide +kernel
theorem d_SR_hull_20 : decode b_SR_hull 20 = .ok (.getfield 23, 3) := by decide +kernel
theorem d_SR_hull_23 : decode b_SR_hull 23 = .ok (.iload_n 1, 1) := by decide +kernel
theorem d_SR_hull_24 : decode b_SR_hull 24 = .ok (.iload_n 2, 1) := by decide +kernel
theorem d_SR_hull_25 : decode b_SR_hull 25 = .ok (.invokevirtual 87, 3) := by decide +kernel
theorem d_SR_hull_28 : decode b_SR_hull 28 = .ok (.lreturn, 1) := by decide +kernel
theorem d_SR_factor_0 : decode b_SR_factor 0 = .ok (.aload_n 0, 1) := by decide +kernel
theorem d_SR_factor_1 : decode b_SR_factor 1 = .ok (.invokevirtual 73, 3) := by decide +kernel
theorem d_SR_factor_4 : decode b_SR_factor 4 = .ok (.iload_n 1, 1) := by decide +kernel
theorem d_SR_factor_5 : decode b_SR_factor 5 = .ok (.aload_n 0, 1) := by decide +kernel
theorem d_SR_factor_6 : decode b_SR_factor 6 = .ok (.getfield 16, 3) := by decide +kernel
theorem d_SR_factor_9 : decode b_SR_factor 9 = .ok (.invokevirtual 76, 3) := by decide +kernel
theorem d_SR_factor_12 : decode b_SR_factor 12 = .ok (.invokestatic 83, 3) := by decide +kernel
theorem d_SR_factor_15 : decode b_SR_factor 15 = .ok (.aload_n 0, 1) := by decide +kernel
theorem d_SR_factor_16 : decode b_SR_factor 16 = .ok (.getfield 29, 3) := by decide +kernel
theorem d_SR_factor_19 : decode b_SR_factor 19 = .ok (.aload_n 0, 1) := by decide +kernel
theorem d_SR_factor_20 : decode b_SR_factor 20 = .ok (.getfield 9, 3) := by decide +kernel
theorem d_SR_factor_23 : decode b_SR_factor 23 = .ok (.aload_n 0, 1) := by decide +kernel
theorem d_SR_factor_24 : decode b_SR_factor 24 = .ok (.getfield 40, 3) := by decide +kernel
theorem d_SR_factor_27 : decode b_SR_factor 27 = .ok (.invokevirtual 94, 3) := by decide +kernel
theorem d_SR_factor_30 : decode b_SR_factor 30 = .ok (.aload_n 0, 1) := by decide +kernel
theorem d_SR_factor_31 : decode b_SR_factor 31 = .ok (.getfield 29, 3) := by decide +kernel
theorem d_SR_factor_34 : decode b_SR_factor 34 = .ok (.iload_n 1, 1) := by decide +kernel
theorem d_SR_factor_35 : decode b_SR_factor 35 = .ok (.invokevirtual 98, 3) := by decide +kernel
theorem d_SR_factor_38 : decode b_SR_factor 38 = .ok (.lstore_n 2, 1) := by decide +kernel
theorem d_SR_factor_39 : decode b_SR_factor 39 = .ok (.lload_n 2, 1) := by decide +kernel
theorem d_SR_factor_40 : decode b_SR_factor 40 = .ok (.lconst 0, 1) := by decide +kernel
theorem d_SR_factor_41 : decode b_SR_factor 41 = .ok (.lcmp, 1) := by decide +kernel
theorem d_SR_factor_42 : decode b_SR_factor 42 = .ok (.ifCond .le 18, 3) := by decide +kernel
theorem d_SR_factor_45 : decode b_SR_factor 45 = .ok (.aload_n 0, 1) := by decide +kernel
theorem d_SR_factor_46 : decode b_SR_factor 46 = .ok (.getfield 29, 3) := by decide +kernel
theorem d_SR_factor_49 : decode b_SR_factor 49 = .ok (.iload_n 1, 1) := by decide +kernel
theorem d_SR_factor_50 : decode b_SR_factor 50 = .ok (.iconst 1, 1) := by decide +kernel
theorem d_SR_factor_51 : decode b_SR_factor 51 = .ok (.iadd, 1) := by decide +kernel
theorem d_SR_factor_52 : decode b_SR_factor 52 = .ok (.invokevirtual 98, 3) := by decide +kernel
theorem d_SR_factor_55 : decode b_SR_factor 55 = .ok (.lload_n 2, 1) := by decide +kernel
theorem d_SR_factor_56 : decode b_SR_factor 56 = .ok (.ldiv, 1) := by decide +kernel
theorem d_SR_factor_57 : decode b_SR_factor 57 = .ok (.goto 4, 3) := by decide +kernel
theorem d_SR_factor_60 : decode b_SR_factor 60 = .ok (.lconst 0, 1) := by decide +kernel
theorem d_SR_factor_61 : decode b_SR_factor 61 = .ok (.lreturn, 1) := by decide +kernel
theorem d_SR_test_0 : decode b_SR_test 0 = .ok (.iload_n 1, 1) := by decide +kernel
theorem d_SR_test_1 : decode b_SR_test 1 = .ok (.invokestatic 61, 3) := by decide +kernel
theorem d_SR_test_4 : decode b_SR_test 4 = .ok (.iload_n 2, 1) := by decide +kernel
theorem d_SR_test_5 : decode b_SR_test 5 = .ok (.invokestatic 61, 3) := by decide +kernel
theorem d_SR_test_8 : decode b_SR_test 8 = .ok (.iload_n 3, 1) := by decide +kernel
theorem d_SR_test_9 : decode b_SR_test 9 = .ok (.invokestatic 61, 3) := by decide +kernel
theorem d_SR_test_12 : decode b_SR_test 12 = .ok (.iload 4, 2) := by decide +kernel
theorem d_SR_test_14 : decode b_SR_test 14 = .ok (.invokestatic 61, 3) := by decide +kernel
theorem d_SR_test_17 : decode b_SR_test 17 = .ok (.aload_n 0, 1) := by decide +kernel
theorem d_SR_test_18 : decode b_SR_test 18 = .ok (.invokevirtual 73, 3) := by decide +kernel
theorem d_SR_test_21 : decode b_SR_test 21 = .ok (.aload_n 0, 1) := by decide +kernel
theorem d_SR_test_22 : decode b_SR_test 22 = .ok (.getfield 36, 3) := by decide +kernel
theorem d_SR_test_25 : decode b_SR_test 25 = .ok (.iload_n 1, 1) := by decide +kernel
theorem d_SR_test_26 : decode b_SR_test 26 = .ok (.iload_n 2, 1) := by decide +kernel
theorem d_SR_test_27 : decode b_SR_test 27 = .ok (.iload_n 3, 1) := by decide +kernel
theorem d_SR_test_28 : decode b_SR_test 28 = .ok (.iload 4, 2) := by decide +kernel
theorem d_SR_test_30 : decode b_SR_test 30 = .ok (.invokevirtual 102, 3) := by decide +kernel
theorem d_SR_test_33 : decode b_SR_test 33 = .ok (.aload_n 0, 1) := by decide +kernel
theorem d_SR_test_34 : decode b_SR_test 34 = .ok (.getfield 36, 3) := by decide +kernel
theorem d_SR_test_37 : decode b_SR_test 37 = .ok (.aload_n 0, 1) := by decide +kernel
theorem d_SR_test_38 : decode b_SR_test 38 = .ok (.getfield 16, 3) := by decide +kernel
theorem d_SR_test_41 : decode b_SR_test 41 = .ok (.invokevirtual 106, 3) := by decide +kernel
theorem d_SR_test_44 : decode b_SR_test 44 = .ok (.lreturn, 1) := by decide +kernel
theorem d_SR_times_0 : decode b_SR_times 0 = .ok (.aload_n 0, 1) := by decide +kernel
theorem d_SR_times_1 : decode b_SR_times 1 = .ok (.getfield 36, 3) := by decide +kernel
theorem d_SR_times_4 : decode b_SR_times 4 = .ok (.invokevirtual 110, 3) := by decide +kernel
theorem d_SR_times_7 : decode b_SR_times 7 = .ok (.ifCond .ne 13, 3) := by decide +kernel
theorem d_SR_times_10 : decode b_SR_times 10 = .ok (.new 44, 3) := by decide +kernel
theorem d_SR_times_13 : decode b_SR_times 13 = .ok (.dup, 1) := by decide +kernel
theorem d_SR_times_14 : decode b_SR_times 14 = .ok (.ldc 114, 2) := by decide +kernel
theorem d_SR_times_16 : decode b_SR_times 16 = .ok (.invokespecial 48, 3) := by decide +kernel
theorem d_SR_times_19 : decode b_SR_times 19 = .ok (.athrow, 1) := by decide +kernel
theorem d_SR_times_20 : decode b_SR_times 20 = .ok (.aload_n 0, 1) := by decide +kernel
theorem d_SR_times_21 : decode b_SR_times 21 = .ok (.invokevirtual 73, 3) := by decide +kernel
theorem d_SR_times_24 : decode b_SR_times 24 = .ok (.iload_n 1, 1) := by decide +kernel
theorem d_SR_times_25 : decode b_SR_times 25 = .ok (.aload_n 0, 1) := by decide +kernel
theorem d_SR_times_26 : decode b_SR_times 26 = .ok (.getfield 16, 3) := by decide +kernel
theorem d_SR_times_29 : decode b_SR_times 29 = .ok (.invokevirtual 76, 3) := by decide +kernel
theorem d_SR_times_32 : decode b_SR_times 32 = .ok (.invokestatic 83, 3) := by decide +kernel
theorem d_SR_times_35 : decode b_SR_times 35 = .ok (.aload_n 0, 1) := by decide +kernel
theorem d_SR_times_36 : decode b_SR_times 36 = .ok (.getfield 36, 3) := by decide +kernel
theorem d_SR_times_39 : decode b_SR_times 39 = .ok (.iload_n 1, 1) := by decide +kernel
theorem d_SR_times_40 : decode b_SR_times 40 = .ok (.invokevirtual 116, 3) := by decide +kernel
theorem d_SR_times_43 : decode b_SR_times 43 = .ok (.lreturn, 1) := by decide +kernel
