theorem d_MD_thrown_0 : decode b_MD_thrown 0 = .ok (.aload_n 0, 1) := by decide +kernel
theorem d_MD_thrown_1 : decode b_MD_thrown 1 = .ok (.getfield 42, 3) := by decide +kernel
theorem d_MD_thrown_4 : decode b_MD_thrown 4 = .ok (.ireturn, 1) := by decide +kernel
theorem d_MD_raise_0 : decode b_MD_raise 0 = .ok (.aload_n 0, 1) := by decide +kernel
theorem d_MD_raise_1 : decode b_MD_raise 1 = .ok (.iload_n 1, 1) := by decide +kernel
theorem d_MD_raise_2 : decode b_MD_raise 2 = .ok (.putfield 42, 3) := by decide +kernel
theorem d_MD_raise_5 : decode b_MD_raise 5 = .ok (.iconst 0, 1) := by decide +kernel
theorem d_MD_raise_6 : decode b_MD_raise 6 = .ok (.ireturn, 1) := by decide +kernel
theorem d_MD_in_0 : decode b_MD_in 0 = .ok (.lload_n 0, 1) := by decide +kernel
theorem d_MD_in_1 : decode b_MD_in 1 = .ok (.lload_n 2, 1) := by decide +kernel
theorem d_MD_in_2 : decode b_MD_in 2 = .ok (.lcmp, 1) := by decide +kernel
theorem d_MD_in_3 : decode b_MD_in 3 = .ok (.ifCond .lt 14, 3) := by decide +kernel
theorem d_MD_in_6 : decode b_MD_in 6 = .ok (.lload_n 0, 1) := by decide +kernel
theorem d_MD_in_7 : decode b_MD_in 7 = .ok (.lload 4, 2) := by decide +kernel
theorem d_MD_in_9 : decode b_MD_in 9 = .ok (.lcmp, 1) := by decide +kernel
theorem d_MD_in_10 : decode b_MD_in 10 = .ok (.ifCond .gt 7, 3) := by decide +kernel
theorem d_MD_in_13 : decode b_MD_in 13 = .ok (.iconst 1, 1) := by decide +kernel
theorem d_MD_in_14 : decode b_MD_in 14 = .ok (.goto 4, 3) := by decide +kernel
theorem d_MD_in_17 : decode b_MD_in 17 = .ok (.iconst 0, 1) := by decide +kernel
theorem d_MD_in_18 : decode b_MD_in 18 = .ok (.ireturn, 1) := by decide +kernel
theorem d_MD_element_0 : decode b_MD_element 0 = .ok (.aload_n 0, 1) := by decide +kernel
theorem d_MD_element_1 : decode b_MD_element 1 = .ok (.aload_n 0, 1) := by decide +kernel
theorem d_MD_element_2 : decode b_MD_element 2 = .ok (.getfield 46, 3) := by decide +kernel
theorem d_MD_element_5 : decode b_MD_element 5 = .ok (.iconst 4, 1) := by decide +kernel
theorem d_MD_element_6 : decode b_MD_element 6 = .ok (.if_icmp .ne 7, 3) := by decide +kernel
theorem d_MD_element_9 : decode b_MD_element 9 = .ok (.iconst 1, 1) := by decide +kernel
theorem d_MD_element_10 : decode b_MD_element 10 = .ok (.goto 4, 3) := by decide +kernel
theorem d_MD_element_13 : decode b_MD_element 13 = .ok (.iconst 0, 1) := by decide +kernel
theorem d_MD_element_14 : decode b_MD_element 14 = .ok (.putfield 42, 3) := by decide +kernel
theorem d_MD_element_17 : decode b_MD_element 17 = .ok (.aload_n 0, 1) := by decide +kernel
theorem d_MD_element_18 : decode b_MD_element 18 = .ok (.getfield 42, 3) := by decide +kernel
theorem d_MD_element_21 : decode b_MD_element 21 = .ok (.ifCond .le 5, 3) := by decide +kernel
theorem d_MD_element_24 : decode b_MD_element 24 = .ok (.iconst 0, 1) := by decide +kernel
theorem d_MD_element_25 : decode b_MD_element 25 = .ok (.ireturn, 1) := by decide +kernel
theorem d_MD_element_26 : decode b_MD_element 26 = .ok (.iconst 0, 1) := by decide +kernel
theorem d_MD_element_27 : decode b_MD_element 27 = .ok (.istore_n 1, 1) := by decide +kernel
theorem d_MD_element_28 : decode b_MD_element 28 = .ok (.iload_n 1, 1) := by decide +kernel
theorem d_MD_element_29 : decode b_MD_element 29 = .ok (.iconst 4, 1) := by decide +kernel
theorem d_MD_element_30 : decode b_MD_element 30 = .ok (.if_icmp .ge 23, 3) := by decide +kernel
theorem d_MD_element_33 : decode b_MD_element 33 = .ok (.aload_n 0, 1) := by decide +kernel
theorem d_MD_element_34 : decode b_MD_element 34 = .ok (.getfield 7, 3) := by decide +kernel
theorem d_MD_element_37 : decode b_MD_element 37 = .ok (.iconst 4, 1) := by decide +kernel
theorem d_MD_element_38 : decode b_MD_element 38 = .ok (.aload_n 0, 1) := by decide +kernel
theorem d_MD_element_39 : decode b_MD_element 39 = .ok (.getfield 46, 3) := by decide +kernel
theorem d_MD_element_42 : decode b_MD_element 42 = .ok (.imul, 1) := by decide +kernel
theorem d_MD_element_43 : decode b_MD_element 43 = .ok (.iload_n 1, 1) := by decide +kernel
theorem d_MD_element_44 : decode b_MD_element 44 = .ok (.iadd, 1) := by decide +kernel
theorem d_MD_element_45 : decode b_MD_element 45 = .ok (.iconst 0, 1) := by decide +kernel
theorem d_MD_element_46 : decode b_MD_element 46 = .ok (.iastore, 1) := by decide +kernel
theorem d_MD_element_47 : decode b_MD_element 47 = .ok (.iinc 1 1, 3) := by decide +kernel
theorem d_MD_element_50 : decode b_MD_element 50 = .ok (.goto (-22), 3) := by decide +kernel
theorem d_MD_element_53 : decode b_MD_element 53 = .ok (.aload_n 0, 1) := by decide +kernel
theorem d_MD_element_54 : decode b_MD_element 54 = .ok (.iconst 0, 1) := by decide +kernel
theorem d_MD_element_55 : decode b_MD_element 55 = .ok (.putfield 49, 3) := by decide +kernel
theorem d_MD_element_58 : decode b_MD_element 58 = .ok (.aload_n 0, 1) := by decide +kernel
theorem d_MD_element_59 : decode b_MD_element 59 = .ok (.dup, 1) := by decide +kernel
theorem d_MD_element_60 : decode b_MD_element 60 = .ok (.getfield 46, 3) := by decide +kernel
theorem d_MD_element_63 : decode b_MD_element 63 = .ok (.iconst 1, 1) := by decide +kernel
theorem d_MD_element_64 : decode b_MD_element 64 = .ok (.iadd, 1) := by decide +kernel
theorem d_MD_element_65 : decode b_MD_element 65 = .ok (.putfield 46, 3) := by decide +kernel
theorem d_MD_element_68 : decode b_MD_element 68 = .ok (.aload_n 0, 1) := by decide +kernel
theorem d_MD_element_69 : decode b_MD_element 69 = .ok (.getfield 46, 3) := by decide +kernel
theorem d_MD_element_72 : decode b_MD_element 72 = .ok (.iconst 1, 1) := by decide +kernel
theorem d_MD_element_73 : decode b_MD_element 73 = .ok (.isub, 1) := by decide +kernel
theorem d_MD_element_74 : decode b_MD_element 74 = .ok (.ireturn, 1) := by decide +kernel
theorem d_MD_isElement_0 : decode b_MD_isElement 0 = .ok (.iload_n 1, 1) := by decide +kernel
theorem d_MD_isElement_1 : decode b_MD_isElement 1 = .ok (.i2l, 1) := by decide +kernel
theorem d_MD_isElement_2 : decode b_MD_isElement 2 = .ok (.lconst 0, 1) := by decide +kernel
theorem d_MD_isElement_3 : decode b_MD_isElement 3 = .ok (.aload_n 0, 1) := by decide +kernel
theorem d_MD_isElement_4 : decode b_MD_isElement 4 = .ok (.getfield 46, 3) := by decide +kernel
theorem d_MD_isElement_7 : decode b_MD_isElement 7 = .ok (.iconst 1, 1) := by decide +kernel
theorem d_MD_isElement_8 : decode b_MD_isElement 8 = .ok (.isub, 1) := by decide +kernel
theorem d_MD_isElement_9 : decode b_MD_isElement 9 = .ok (.i2l, 1) := by decide +kernel
theorem d_MD_isElement_10 : decode b_MD_isElement 10 = .ok (.invokestatic 53, 3) := by decide +kernel
theorem d_MD_isElement_13 : decode b_MD_isElement 13 = .ok (.ireturn, 1) := by decide +kernel
theorem d_MD_put_0 : decode b_MD_put 0 = .ok (.aload_n 0, 1) := by decide +kernel
theorem d_MD_put_1 : decode b_MD_put 1 = .ok (.aload_n 0, 1) := by decide +kernel
theorem d_MD_put_2 : decode b_MD_put 2 = .ok (.iload_n 1, 1) := by decide +kernel
theorem d_MD_put_3 : decode b_MD_put 3 = .ok (.invokevirtual 57, 3) := by decide +kernel
theorem d_MD_put_6 : decode b_MD_put 6 = .ok (.ifCond .eq 15, 3) := by decide +kernel
theorem d_MD_put_9 : decode b_MD_put 9 = .ok (.iload_n 2, 1) := by decide +kernel
theorem d_MD_put_10 : decode b_MD_put 10 = .ok (.i2l, 1) := by decide +kernel
theorem d_MD_put_11 : decode b_MD_put 11 = .ok (.lconst 0, 1) := by decide +kernel
theorem d_MD_put_12 : decode b_MD_put 12 = .ok (.ldc2_w 61, 3) := by decide +kernel
theorem d_MD_put_15 : decode b_MD_put 15 = .ok (.invokestatic 53, 3) := by decide +kernel
theorem d_MD_put_18 : decode b_MD_put 18 = .ok (.ifCond .ne 7, 3) := by decide +kernel
theorem d_MD_put_21 : decode b_MD_put 21 = .ok (.iconst 1, 1) := by decide +kernel
theorem d_MD_put_22 : decode b_MD_put 22 = .ok (.goto 22, 3) := by decide +kernel
theorem d_MD_put_25 : decode b_MD_put 25 = .ok (.iload_n 3, 1) := by decide +kernel
theorem d_MD_put_26 : decode b_MD_put 26 = .ok (.i2l, 1) := by decide +kernel
theorem d_MD_put_27 : decode b_MD_put 27 = .ok (.ldc2_w 63, 3) := by decide +kernel
theorem d_MD_put_30 : decode b_MD_put 30 = .ok (.ldc2_w 65, 3) := by decide +kernel
theorem d_MD_put_33 : decode b_MD_put 33 = .ok (.invokestatic 53, 3) := by decide +kernel
theorem d_MD_put_36 : decode b_MD_put 36 = .ok (.ifCond .eq 7, 3) := by decide +kernel
theorem d_MD_put_39 : decode b_MD_put 39 = .ok (.iconst 0, 1) := by decide +kernel
theorem d_MD_put_40 : decode b_MD_put 40 = .ok (.goto 4, 3) := by decide +kernel
theorem d_MD_put_43 : decode b_MD_put 43 = .ok (.iconst 2, 1) := by decide +kernel
theorem d_MD_put_44 : decode b_MD_put 44 = .ok (.putfield 42, 3) := by decide +kernel
theorem d_MD_put_47 : decode b_MD_put 47 = .ok (.aload_n 0, 1) := by decide +kernel
theorem d_MD_put_48 : decode b_MD_put 48 = .ok (.getfield 42, 3) := by decide +kernel
theorem d_MD_put_51 : decode b_MD_put 51 = .ok (.ifCond .gt 17, 3) := by decide +kernel
theorem d_MD_put_54 : decode b_MD_put 54 = .ok (.aload_n 0, 1) := by decide +kernel
theorem d_MD_put_55 : decode b_MD_put 55 = .ok (.getfield 7, 3) := by decide +kernel
theorem d_MD_put_58 : decode b_MD_put 58 = .ok (.iconst 4, 1) := by decide +kernel
theorem d_MD_put_59 : decode b_MD_put 59 = .ok (.iload_n 1, 1) := by decide +kernel
theorem d_MD_put_60 : decode b_MD_put 60 = .ok (.imul, 1) := by decide +kernel
theorem d_MD_put_61 : decode b_MD_put 61 = .ok (.iload_n 2, 1) := by decide +kernel
theorem d_MD_put_62 : decode b_MD_put 62 = .ok (.iadd, 1) := by decide +kernel
theorem d_MD_put_63 : decode b_MD_put 63 = .ok (.iaload, 1) := by decide +kernel
theorem d_MD_put_64 : decode b_MD_put 64 = .ok (.iload_n 3, 1) := by decide +kernel
theorem d_MD_put_65 : decode b_MD_put 65 = .ok (.if_icmp .ne 5, 3) := by decide +kernel
theorem d_MD_put_68 : decode b_MD_put 68 = .ok (.iconst 0, 1) := by decide +kernel
theorem d_MD_put_69 : decode b_MD_put 69 = .ok (.ireturn, 1) := by decide +kernel
theorem d_MD_put_70 : decode b_MD_put 70 = .ok (.aload_n 0, 1) := by decide +kernel
theorem d_MD_put_71 : decode b_MD_put 71 = .ok (.getfield 7, 3) := by decide +kernel
theorem d_MD_put_74 : decode b_MD_put 74 = .ok (.iconst 4, 1) := by decide +kernel
theorem d_MD_put_75 : decode b_MD_put 75 = .ok (.iload_n 1, 1) := by decide +kernel
theorem d_MD_put_76 : decode b_MD_put 76 = .ok (.imul, 1) := by decide +kernel
theorem d_MD_put_77 : decode b_MD_put 77 = .ok (.iload_n 2, 1) := by decide +kernel
theorem d_MD_put_78 : decode b_MD_put 78 = .ok (.iadd, 1) := by decide +kernel
theorem d_MD_put_79 : decode b_MD_put 79 = .ok (.iload_n 3, 1) := by decide +kernel
theorem d_MD_put_80 : decode b_MD_put 80 = .ok (.iastore, 1) := by decide +kernel
theorem d_MD_put_81 : decode b_MD_put 81 = .ok (.aload_n 0, 1) := by decide +kernel
theorem d_MD_put_82 : decode b_MD_put 82 = .ok (.iconst 0, 1) := by decide +kernel
theorem d_MD_put_83 : decode b_MD_put 83 = .ok (.putfield 49, 3) := by decide +kernel
theorem d_MD_put_86 : decode b_MD_put 86 = .ok (.iconst 1, 1) := by decide +kernel
theorem d_MD_put_87 : decode b_MD_put 87 = .ok (.ireturn, 1) := by decide +kernel
theorem d_MD_at_0 : decode b_MD_at 0 = .ok (.aload_n 0, 1) := by decide +kernel
theorem d_MD_at_1 : decode b_MD_at 1 = .ok (.aload_n 0, 1) := by decide +kernel
theorem d_MD_at_2 : decode b_MD_at 2 = .ok (.iload_n 1, 1) := by decide +kernel
theorem d_MD_at_3 : decode b_MD_at 3 = .ok (.invokevirtual 57, 3) := by decide +kernel
theorem d_MD_at_6 : decode b_MD_at 6 = .ok (.ifCond .eq 19, 3) := by decide +kernel
theorem d_MD_at_9 : decode b_MD_at 9 = .ok (.iload_n 2, 1) := by decide +kernel
theorem d_MD_at_10 : decode b_MD_at 10 = .ok (.i2l, 1) := by decide +kernel
theorem d_MD_at_11 : decode b_MD_at 11 = .ok (.lconst 0, 1) := by decide +kernel
theorem d_MD_at_12 : decode b_MD_at 12 = .ok (.ldc2_w 61, 3) := by decide +kernel
theorem d_MD_at_15 : decode b_MD_at 15 = .ok (.invokestatic 53, 3) := by decide +kernel
theorem d_MD_at_18 : decode b_MD_at 18 = .ok (.ifCond .eq 7, 3) := by decide +kernel
theorem d_MD_at_21 : decode b_MD_at 21 = .ok (.iconst 0, 1) := by decide +kernel
theorem d_MD_at_22 : decode b_MD_at 22 = .ok (.goto 4, 3) := by decide +kernel
theorem d_MD_at_25 : decode b_MD_at 25 = .ok (.iconst 1, 1) := by decide +kernel
theorem d_MD_at_26 : decode b_MD_at 26 = .ok (.putfield 42, 3) := by decide +kernel
theorem d_MD_at_29 : decode b_MD_at 29 = .ok (.aload_n 0, 1) := by decide +kernel
theorem d_MD_at_30 : decode b_MD_at 30 = .ok (.getfield 42, 3) := by decide +kernel
theorem d_MD_at_33 : decode b_MD_at 33 = .ok (.ifCond .le 7, 3) := by decide +kernel
theorem d_MD_at_36 : decode b_MD_at 36 = .ok (.iconst 0, 1) := by decide +kernel
theorem d_MD_at_37 : decode b_MD_at 37 = .ok (.goto 13, 3) := by decide +kernel
theorem d_MD_at_40 : decode b_MD_at 40 = .ok (.aload_n 0, 1) := by decide +kernel
theorem d_MD_at_41 : decode b_MD_at 41 = .ok (.getfield 7, 3) := by decide +kernel
theorem d_MD_at_44 : decode b_MD_at 44 = .ok (.iconst 4, 1) := by decide +kernel
theorem d_MD_at_45 : decode b_MD_at 45 = .ok (.iload_n 1, 1) := by decide +kernel
theorem d_MD_at_46 : decode b_MD_at 46 = .ok (.imul, 1) := by decide +kernel
theorem d_MD_at_47 : decode b_MD_at 47 = .ok (.iload_n 2, 1) := by decide +kernel
theorem d_MD_at_48 : decode b_MD_at 48 = .ok (.iadd, 1) := by decide +kernel
theorem d_MD_at_49 : decode b_MD_at 49 = .ok (.iaload, 1) := by decide +kernel
theorem d_MD_at_50 : decode b_MD_at 50 = .ok (.ireturn, 1) := by decide +kernel
theorem d_MD_multiply_0 : decode b_MD_multiply 0 = .ok (.aload_n 0, 1) := by decide +kernel
theorem d_MD_multiply_1 : decode b_MD_multiply 1 = .ok (.aload_n 0, 1) := by decide +kernel
theorem d_MD_multiply_2 : decode b_MD_multiply 2 = .ok (.iload_n 1, 1) := by decide +kernel
theorem d_MD_multiply_3 : decode b_MD_multiply 3 = .ok (.invokevirtual 57, 3) := by decide +kernel
theorem d_MD_multiply_6 : decode b_MD_multiply 6 = .ok (.ifCond .eq 11, 3) := by decide +kernel
theorem d_MD_multiply_9 : decode b_MD_multiply 9 = .ok (.aload_n 0, 1) := by decide +kernel
theorem d_MD_multiply_10 : decode b_MD_multiply 10 = .ok (.iload_n 2, 1) := by decide +kernel
theorem d_MD_multiply_11 : decode b_MD_multiply 11 = .ok (.invokevirtual 57, 3) := by decide +kernel
theorem d_MD_multiply_14 : decode b_MD_multiply 14 = .ok (.ifCond .ne 7, 3) := by decide +kernel
theorem d_MD_multiply_17 : decode b_MD_multiply 17 = .ok (.iconst 1, 1) := by decide +kernel
theorem d_MD_multiply_18 : decode b_MD_multiply 18 = .ok (.goto 27, 3) := by decide +kernel
theorem d_MD_multiply_21 : decode b_MD_multiply 21 = .ok (.iload_n 1, 1) := by decide +kernel
theorem d_MD_multiply_22 : decode b_MD_multiply 22 = .ok (.iload_n 2, 1) := by decide +kernel
theorem d_MD_multiply_23 : decode b_MD_multiply 23 = .ok (.if_icmp .eq 17, 3) := by decide +kernel
theorem d_MD_multiply_26 : decode b_MD_multiply 26 = .ok (.iload_n 3, 1) := by decide +kernel
theorem d_MD_multiply_27 : decode b_MD_multiply 27 = .ok (.i2l, 1) := by decide +kernel
theorem d_MD_multiply_28 : decode b_MD_multiply 28 = .ok (.ldc2_w 63, 3) := by decide +kernel
theorem d_MD_multiply_31 : decode b_MD_multiply 31 = .ok (.ldc2_w 65, 3) := by decide +kernel
theorem d_MD_multiply_34 : decode b_MD_multiply 34 = .ok (.invokestatic 53, 3) := by decide +kernel
theorem d_MD_multiply_37 : decode b_MD_multiply 37 = .ok (.ifCond .ne 7, 3) := by decide +kernel
theorem d_MD_multiply_40 : decode b_MD_multiply 40 = .ok (.iconst 2, 1) := by decide +kernel
theorem d_MD_multiply_41 : decode b_MD_multiply 41 = .ok (.goto 4, 3) := by decide +kernel
theorem d_MD_multiply_44 : decode b_MD_multiply 44 = .ok (.iconst 0, 1) := by decide +kernel
theorem d_MD_multiply_45 : decode b_MD_multiply 45 = .ok (.putfield 42, 3) := by decide +kernel
theorem d_MD_multiply_48 : decode b_MD_multiply 48 = .ok (.aload_n 0, 1) := by decide +kernel
theorem d_MD_multiply_49 : decode b_MD_multiply 49 = .ok (.getfield 42, 3) := by decide +kernel
theorem d_MD_multiply_52 : decode b_MD_multiply 52 = .ok (.ifCond .le 5, 3) := by decide +kernel
theorem d_MD_multiply_55 : decode b_MD_multiply 55 = .ok (.iconst 0, 1) := by decide +kernel
theorem d_MD_multiply_56 : decode b_MD_multiply 56 = .ok (.ireturn, 1) := by decide +kernel
theorem d_MD_multiply_57 : decode b_MD_multiply 57 = .ok (.iconst 0, 1) := by decide +kernel
theorem d_MD_multiply_58 : decode b_MD_multiply 58 = .ok (.istore 4, 2) := by decide +kernel
theorem d_MD_multiply_60 : decode b_MD_multiply 60 = .ok (.iload 4, 2) := by decide +kernel
theorem d_MD_multiply_62 : decode b_MD_multiply 62 = .ok (.iconst 4, 1) := by decide +kernel
theorem d_MD_multiply_63 : decode b_MD_multiply 63 = .ok (.if_icmp .ge 49, 3) := by decide +kernel
theorem d_MD_multiply_66 : decode b_MD_multiply 66 = .ok (.aload_n 0, 1) := by decide +kernel
theorem d_MD_multiply_67 : decode b_MD_multiply 67 = .ok (.getfield 7, 3) := by decide +kernel
theorem d_MD_multiply_70 : decode b_MD_multiply 70 = .ok (.iconst 4, 1) := by decide +kernel
theorem d_MD_multiply_71 : decode b_MD_multiply 71 = .ok (.iload_n 1, 1) := by decide +kernel
theorem d_MD_multiply_72 : decode b_MD_multiply 72 = .ok (.imul, 1) := by decide +kernel
theorem d_MD_multiply_73 : decode b_MD_multiply 73 = .ok (.iload 4, 2) := by decide +kernel
theorem d_MD_multiply_75 : decode b_MD_multiply 75 = .ok (.iadd, 1) := by decide +kernel
theorem d_MD_multiply_76 : decode b_MD_multiply 76 = .ok (.iaload, 1) := by decide +kernel
theorem d_MD_multiply_77 : decode b_MD_multiply 77 = .ok (.iload_n 3, 1) := by decide +kernel
theorem d_MD_multiply_78 : decode b_MD_multiply 78 = .ok (.aload_n 0, 1) := by decide +kernel
theorem d_MD_multiply_79 : decode b_MD_multiply 79 = .ok (.getfield 7, 3) := by decide +kernel
theorem d_MD_multiply_82 : decode b_MD_multiply 82 = .ok (.iconst 4, 1) := by decide +kernel
theorem d_MD_multiply_83 : decode b_MD_multiply 83 = .ok (.iload_n 2, 1) := by decide +kernel
theorem d_MD_multiply_84 : decode b_MD_multiply 84 = .ok (.imul, 1) := by decide +kernel
theorem d_MD_multiply_85 : decode b_MD_multiply 85 = .ok (.iload 4, 2) := by decide +kernel
theorem d_MD_multiply_87 : decode b_MD_multiply 87 = .ok (.iadd, 1) := by decide +kernel
theorem d_MD_multiply_88 : decode b_MD_multiply 88 = .ok (.iaload, 1) := by decide +kernel
theorem d_MD_multiply_89 : decode b_MD_multiply 89 = .ok (.imul, 1) := by decide +kernel
theorem d_MD_multiply_90 : decode b_MD_multiply 90 = .ok (.iadd, 1) := by decide +kernel
theorem d_MD_multiply_91 : decode b_MD_multiply 91 = .ok (.i2l, 1) := by decide +kernel
theorem d_MD_multiply_92 : decode b_MD_multiply 92 = .ok (.ldc2_w 63, 3) := by decide +kernel
theorem d_MD_multiply_95 : decode b_MD_multiply 95 = .ok (.ldc2_w 65, 3) := by decide +kernel
theorem d_MD_multiply_98 : decode b_MD_multiply 98 = .ok (.invokestatic 53, 3) := by decide +kernel
theorem d_MD_multiply_101 : decode b_MD_multiply 101 = .ok (.ifCond .ne 5, 3) := by decide +kernel
theorem d_MD_multiply_104 : decode b_MD_multiply 104 = .ok (.iconst 0, 1) := by decide +kernel
theorem d_MD_multiply_105 : decode b_MD_multiply 105 = .ok (.ireturn, 1) := by decide +kernel
theorem d_MD_multiply_106 : decode b_MD_multiply 106 = .ok (.iinc 4 1, 3) := by decide +kernel
theorem d_MD_multiply_109 : decode b_MD_multiply 109 = .ok (.goto (-49), 3) := by decide +kernel
theorem d_MD_multiply_112 : decode b_MD_multiply 112 = .ok (.iconst 0, 1) := by decide +kernel
theorem d_MD_multiply_113 : decode b_MD_multiply 113 = .ok (.istore 4, 2) := by decide +kernel
theorem d_MD_multiply_115 : decode b_MD_multiply 115 = .ok (.iload 4, 2) := by decide +kernel
theorem d_MD_multiply_117 : decode b_MD_multiply 117 = .ok (.iconst 4, 1) := by decide +kernel
theorem d_MD_multiply_118 : decode b_MD_multiply 118 = .ok (.if_icmp .ge 36, 3) := by decide +kernel
theorem d_MD_multiply_121 : decode b_MD_multiply 121 = .ok (.aload_n 0, 1) := by decide +kernel
theorem d_MD_multiply_122 : decode b_MD_multiply 122 = .ok (.getfield 7, 3) := by decide +kernel
theorem d_MD_multiply_125 : decode b_MD_multiply 125 = .ok (.iconst 4, 1) := by decide +kernel
theorem d_MD_multiply_126 : decode b_MD_multiply 126 = .ok (.iload_n 1, 1) := by decide +kernel
theorem d_MD_multiply_127 : decode b_MD_multiply 127 = .ok (.imul, 1) := by decide +kernel
theorem d_MD_multiply_128 : decode b_MD_multiply 128 = .ok (.iload 4, 2) := by decide +kernel
theorem d_MD_multiply_130 : decode b_MD_multiply 130 = .ok (.iadd, 1) := by decide +kernel
theorem d_MD_multiply_131 : decode b_MD_multiply 131 = .ok (.dup2, 1) := by decide +kernel
theorem d_MD_multiply_132 : decode b_MD_multiply 132 = .ok (.iaload, 1) := by decide +kernel
theorem d_MD_multiply_133 : decode b_MD_multiply 133 = .ok (.iload_n 3, 1) := by decide +kernel
theorem d_MD_multiply_134 : decode b_MD_multiply 134 = .ok (.aload_n 0, 1) := by decide +kernel
theorem d_MD_multiply_135 : decode b_MD_multiply 135 = .ok (.getfield 7, 3) := by decide +kernel
theorem d_MD_multiply_138 : decode b_MD_multiply 138 = .ok (.iconst 4, 1) := by decide +kernel
theorem d_MD_multiply_139 : decode b_MD_multiply 139 = .ok (.iload_n 2, 1) := by decide +kernel
theorem d_MD_multiply_140 : decode b_MD_multiply 140 = .ok (.imul, 1) := by decide +kernel
theorem d_MD_multiply_141 : decode b_MD_multiply 141 = .ok (.iload 4, 2) := by decide +kernel
theorem d_MD_multiply_143 : decode b_MD_multiply 143 = .ok (.iadd, 1) := by decide +kernel
theorem d_MD_multiply_144 : decode b_MD_multiply 144 = .ok (.iaload, 1) := by decide +kernel
theorem d_MD_multiply_145 : decode b_MD_multiply 145 = .ok (.imul, 1) := by decide +kernel
theorem d_MD_multiply_146 : decode b_MD_multiply 146 = .ok (.iadd, 1) := by decide +kernel
theorem d_MD_multiply_147 : decode b_MD_multiply 147 = .ok (.iastore, 1) := by decide +kernel
theorem d_MD_multiply_148 : decode b_MD_multiply 148 = .ok (.iinc 4 1, 3) := by decide +kernel
theorem d_MD_multiply_151 : decode b_MD_multiply 151 = .ok (.goto (-36), 3) := by decide +kernel
theorem d_MD_multiply_154 : decode b_MD_multiply 154 = .ok (.aload_n 0, 1) := by decide +kernel
theorem d_MD_multiply_155 : decode b_MD_multiply 155 = .ok (.iconst 0, 1) := by decide +kernel
theorem d_MD_multiply_156 : decode b_MD_multiply 156 = .ok (.putfield 49, 3) := by decide +kernel
theorem d_MD_multiply_159 : decode b_MD_multiply 159 = .ok (.iconst 1, 1) := by decide +kernel
theorem d_MD_multiply_160 : decode b_MD_multiply 160 = .ok (.ireturn, 1) := by decide +kernel
theorem d_MD_count_0 : decode b_MD_count 0 = .ok (.aload_n 0, 1) := by decide +kernel
theorem d_MD_count_1 : decode b_MD_count 1 = .ok (.iconst 0, 1) := by decide +kernel
theorem d_MD_count_2 : decode b_MD_count 2 = .ok (.putfield 42, 3) := by decide +kernel
theorem d_MD_count_5 : decode b_MD_count 5 = .ok (.aload_n 0, 1) := by decide +kernel
theorem d_MD_count_6 : decode b_MD_count 6 = .ok (.getfield 46, 3) := by decide +kernel
theorem d_MD_count_9 : decode b_MD_count 9 = .ok (.ireturn, 1) := by decide +kernel
theorem d_MD_clear_0 : decode b_MD_clear 0 = .ok (.aload_n 0, 1) := by decide +kernel
theorem d_MD_clear_1 : decode b_MD_clear 1 = .ok (.iconst 0, 1) := by decide +kernel
theorem d_MD_clear_2 : decode b_MD_clear 2 = .ok (.putfield 42, 3) := by decide +kernel
theorem d_MD_clear_5 : decode b_MD_clear 5 = .ok (.aload_n 0, 1) := by decide +kernel
theorem d_MD_clear_6 : decode b_MD_clear 6 = .ok (.iconst 0, 1) := by decide +kernel
theorem d_MD_clear_7 : decode b_MD_clear 7 = .ok (.putfield 46, 3) := by decide +kernel
theorem d_MD_clear_10 : decode b_MD_clear 10 = .ok (.aload_n 0, 1) := by decide +kernel
theorem d_MD_clear_11 : decode b_MD_clear 11 = .ok (.iconst 0, 1) := by decide +kernel
theorem d_MD_clear_12 : decode b_MD_clear 12 = .ok (.putfield 49, 3) := by decide +kernel
theorem d_MD_clear_15 : decode b_MD_clear 15 = .ok (.return_, 1) := by decide +kernel
theorem d_MD_start_0 : decode b_MD_start 0 = .ok (.iconst 0, 1) := by decide +kernel
theorem d_MD_start_1 : decode b_MD_start 1 = .ok (.istore_n 1, 1) := by decide +kernel
theorem d_MD_start_2 : decode b_MD_start 2 = .ok (.iload_n 1, 1) := by decide +kernel
theorem d_MD_start_3 : decode b_MD_start 3 = .ok (.bipush 8, 2) := by decide +kernel
theorem d_MD_start_5 : decode b_MD_start 5 = .ok (.if_icmp .ge 16, 3) := by decide +kernel
theorem d_MD_start_8 : decode b_MD_start 8 = .ok (.aload_n 0, 1) := by decide +kernel
theorem d_MD_start_9 : decode b_MD_start 9 = .ok (.getfield 17, 3) := by decide +kernel
theorem d_MD_start_12 : decode b_MD_start 12 = .ok (.iload_n 1, 1) := by decide +kernel
theorem d_MD_start_13 : decode b_MD_start 13 = .ok (.iconst 0, 1) := by decide +kernel
theorem d_MD_start_14 : decode b_MD_start 14 = .ok (.bastore, 1) := by decide +kernel
theorem d_MD_start_15 : decode b_MD_start 15 = .ok (.iinc 1 1, 3) := by decide +kernel
theorem d_MD_start_18 : decode b_MD_start 18 = .ok (.goto (-16), 3) := by decide +kernel
theorem d_MD_start_21 : decode b_MD_start 21 = .ok (.return_, 1) := by decide +kernel
theorem d_MD_settle_0 : decode b_MD_settle 0 = .ok (.bipush 6, 2) := by decide +kernel
theorem d_MD_settle_2 : decode b_MD_settle 2 = .ok (.istore_n 1, 1) := by decide +kernel
theorem d_MD_settle_3 : decode b_MD_settle 3 = .ok (.iload_n 1, 1) := by decide +kernel
theorem d_MD_settle_4 : decode b_MD_settle 4 = .ok (.ifCond .lt 142, 3) := by decide +kernel
theorem d_MD_settle_7 : decode b_MD_settle 7 = .ok (.iload_n 1, 1) := by decide +kernel
theorem d_MD_settle_8 : decode b_MD_settle 8 = .ok (.iconst 1, 1) := by decide +kernel
theorem d_MD_settle_9 : decode b_MD_settle 9 = .ok (.iadd, 1) := by decide +kernel
theorem d_MD_settle_10 : decode b_MD_settle 10 = .ok (.istore_n 2, 1) := by decide +kernel
theorem d_MD_settle_11 : decode b_MD_settle 11 = .ok (.iload_n 2, 1) := by decide +kernel
theorem d_MD_settle_12 : decode b_MD_settle 12 = .ok (.bipush 8, 2) := by decide +kernel
theorem d_MD_settle_14 : decode b_MD_settle 14 = .ok (.if_icmp .ge 126, 3) := by decide +kernel
theorem d_MD_settle_17 : decode b_MD_settle 17 = .ok (.aload_n 0, 1) := by decide +kernel
theorem d_MD_settle_18 : decode b_MD_settle 18 = .ok (.getfield 17, 3) := by decide +kernel
theorem d_MD_settle_21 : decode b_MD_settle 21 = .ok (.iload_n 1, 1) := by decide +kernel
theorem d_MD_settle_22 : decode b_MD_settle 22 = .ok (.baload, 1) := by decide +kernel
theorem d_MD_settle_23 : decode b_MD_settle 23 = .ok (.ifCond .eq 117, 3) := by decide +kernel
theorem d_MD_settle_26 : decode b_MD_settle 26 = .ok (.aload_n 0, 1) := by decide +kernel
theorem d_MD_settle_27 : decode b_MD_settle 27 = .ok (.getfield 17, 3) := by decide +kernel
theorem d_MD_settle_30 : decode b_MD_settle 30 = .ok (.iload_n 2, 1) := by decide +kernel
theorem d_MD_settle_31 : decode b_MD_settle 31 = .ok (.baload, 1) := by decide +kernel
theorem d_MD_settle_32 : decode b_MD_settle 32 = .ok (.ifCond .ne 6, 3) := by decide +kernel
theorem d_MD_settle_35 : decode b_MD_settle 35 = .ok (.goto 99, 3) := by decide +kernel
theorem d_MD_settle_38 : decode b_MD_settle 38 = .ok (.aload_n 0, 1) := by decide +kernel
theorem d_MD_settle_39 : decode b_MD_settle 39 = .ok (.getfield 13, 3) := by decide +kernel
theorem d_MD_settle_42 : decode b_MD_settle 42 = .ok (.bipush 8, 2) := by decide +kernel
theorem d_MD_settle_44 : decode b_MD_settle 44 = .ok (.iload_n 2, 1) := by decide +kernel
theorem d_MD_settle_45 : decode b_MD_settle 45 = .ok (.imul, 1) := by decide +kernel
theorem d_MD_settle_46 : decode b_MD_settle 46 = .ok (.iload_n 2, 1) := by decide +kernel
theorem d_MD_settle_47 : decode b_MD_settle 47 = .ok (.iadd, 1) := by decide +kernel
theorem d_MD_settle_48 : decode b_MD_settle 48 = .ok (.laload, 1) := by decide +kernel
theorem d_MD_settle_49 : decode b_MD_settle 49 = .ok (.lstore_n 3, 1) := by decide +kernel
theorem d_MD_settle_50 : decode b_MD_settle 50 = .ok (.aload_n 0, 1) := by decide +kernel
theorem d_MD_settle_51 : decode b_MD_settle 51 = .ok (.getfield 13, 3) := by decide +kernel
theorem d_MD_settle_54 : decode b_MD_settle 54 = .ok (.bipush 8, 2) := by decide +kernel
theorem d_MD_settle_56 : decode b_MD_settle 56 = .ok (.iload_n 1, 1) := by decide +kernel
theorem d_MD_settle_57 : decode b_MD_settle 57 = .ok (.imul, 1) := by decide +kernel
theorem d_MD_settle_58 : decode b_MD_settle 58 = .ok (.iload_n 2, 1) := by decide +kernel
theorem d_MD_settle_59 : decode b_MD_settle 59 = .ok (.iadd, 1) := by decide +kernel
theorem d_MD_settle_60 : decode b_MD_settle 60 = .ok (.laload, 1) := by decide +kernel
theorem d_MD_settle_61 : decode b_MD_settle 61 = .ok (.lstore 5, 2) := by decide +kernel
theorem d_MD_settle_63 : decode b_MD_settle 63 = .ok (.lload 5, 2) := by decide +kernel
theorem d_MD_settle_65 : decode b_MD_settle 65 = .ok (.lconst 0, 1) := by decide +kernel
theorem d_MD_settle_66 : decode b_MD_settle 66 = .ok (.lcmp, 1) := by decide +kernel
theorem d_MD_settle_67 : decode b_MD_settle 67 = .ok (.ifCond .lt 10, 3) := by decide +kernel
theorem d_MD_settle_70 : decode b_MD_settle 70 = .ok (.lload 5, 2) := by decide +kernel
theorem d_MD_settle_72 : decode b_MD_settle 72 = .ok (.lload_n 3, 1) := by decide +kernel
theorem d_MD_settle_73 : decode b_MD_settle 73 = .ok (.ldiv, 1) := by decide +kernel
theorem d_MD_settle_74 : decode b_MD_settle 74 = .ok (.goto 12, 3) := by decide +kernel
theorem d_MD_settle_77 : decode b_MD_settle 77 = .ok (.lload_n 3, 1) := by decide +kernel
theorem d_MD_settle_78 : decode b_MD_settle 78 = .ok (.lconst 1, 1) := by decide +kernel
theorem d_MD_settle_79 : decode b_MD_settle 79 = .ok (.lsub, 1) := by decide +kernel
theorem d_MD_settle_80 : decode b_MD_settle 80 = .ok (.lload 5, 2) := by decide +kernel
theorem d_MD_settle_82 : decode b_MD_settle 82 = .ok (.lsub, 1) := by decide +kernel
theorem d_MD_settle_83 : decode b_MD_settle 83 = .ok (.lload_n 3, 1) := by decide +kernel
theorem d_MD_settle_84 : decode b_MD_settle 84 = .ok (.ldiv, 1) := by decide +kernel
theorem d_MD_settle_85 : decode b_MD_settle 85 = .ok (.lneg, 1) := by decide +kernel
theorem d_MD_settle_86 : decode b_MD_settle 86 = .ok (.lstore 7, 2) := by decide +kernel
theorem d_MD_settle_88 : decode b_MD_settle 88 = .ok (.iload_n 2, 1) := by decide +kernel
theorem d_MD_settle_89 : decode b_MD_settle 89 = .ok (.istore 9, 2) := by decide +kernel
theorem d_MD_settle_91 : decode b_MD_settle 91 = .ok (.iload 9, 2) := by decide +kernel
theorem d_MD_settle_93 : decode b_MD_settle 93 = .ok (.bipush 8, 2) := by decide +kernel
theorem d_MD_settle_95 : decode b_MD_settle 95 = .ok (.if_icmp .ge 39, 3) := by decide +kernel
theorem d_MD_settle_98 : decode b_MD_settle 98 = .ok (.aload_n 0, 1) := by decide +kernel
theorem d_MD_settle_99 : decode b_MD_settle 99 = .ok (.getfield 13, 3) := by decide +kernel
theorem d_MD_settle_102 : decode b_MD_settle 102 = .ok (.bipush 8, 2) := by decide +kernel
theorem d_MD_settle_104 : decode b_MD_settle 104 = .ok (.iload_n 1, 1) := by decide +kernel
theorem d_MD_settle_105 : decode b_MD_settle 105 = .ok (.imul, 1) := by decide +kernel
theorem d_MD_settle_106 : decode b_MD_settle 106 = .ok (.iload 9, 2) := by decide +kernel
theorem d_MD_settle_108 : decode b_MD_settle 108 = .ok (.iadd, 1) := by decide +kernel
theorem d_MD_settle_109 : decode b_MD_settle 109 = .ok (.dup2, 1) := by decide +kernel
theorem d_MD_settle_110 : decode b_MD_settle 110 = .ok (.laload, 1) := by decide +kernel
theorem d_MD_settle_111 : decode b_MD_settle 111 = .ok (.lload 7, 2) := by decide +kernel
theorem d_MD_settle_113 : decode b_MD_settle 113 = .ok (.aload_n 0, 1) := by decide +kernel
theorem d_MD_settle_114 : decode b_MD_settle 114 = .ok (.getfield 13, 3) := by decide +kernel
theorem d_MD_settle_117 : decode b_MD_settle 117 = .ok (.bipush 8, 2) := by decide +kernel
theorem d_MD_settle_119 : decode b_MD_settle 119 = .ok (.iload_n 2, 1) := by decide +kernel
theorem d_MD_settle_120 : decode b_MD_settle 120 = .ok (.imul, 1) := by decide +kernel
theorem d_MD_settle_121 : decode b_MD_settle 121 = .ok (.iload 9, 2) := by decide +kernel
theorem d_MD_settle_123 : decode b_MD_settle 123 = .ok (.iadd, 1) := by decide +kernel
theorem d_MD_settle_124 : decode b_MD_settle 124 = .ok (.laload, 1) := by decide +kernel
theorem d_MD_settle_125 : decode b_MD_settle 125 = .ok (.lmul, 1) := by decide +kernel
theorem d_MD_settle_126 : decode b_MD_settle 126 = .ok (.lsub, 1) := by decide +kernel
theorem d_MD_settle_127 : decode b_MD_settle 127 = .ok (.lastore, 1) := by decide +kernel
theorem d_MD_settle_128 : decode b_MD_settle 128 = .ok (.iinc 9 1, 3) := by decide +kernel
theorem d_MD_settle_131 : decode b_MD_settle 131 = .ok (.goto (-40), 3) := by decide +kernel
theorem d_MD_settle_134 : decode b_MD_settle 134 = .ok (.iinc 2 1, 3) := by decide +kernel
theorem d_MD_settle_137 : decode b_MD_settle 137 = .ok (.goto (-126), 3) := by decide +kernel
theorem d_MD_settle_140 : decode b_MD_settle 140 = .ok (.iinc 1 (-1), 3) := by decide +kernel
theorem d_MD_settle_143 : decode b_MD_settle 143 = .ok (.goto (-140), 3) := by decide +kernel
theorem d_MD_settle_146 : decode b_MD_settle 146 = .ok (.return_, 1) := by decide +kernel
theorem d_MD_insert_0 : decode b_MD_insert 0 = .ok (.iconst 0, 1) := by decide +kernel
theorem d_MD_insert_1 : decode b_MD_insert 1 = .ok (.istore_n 1, 1) := by decide +kernel
theorem d_MD_insert_2 : decode b_MD_insert 2 = .ok (.iload_n 1, 1) := by decide +kernel
theorem d_MD_insert_3 : decode b_MD_insert 3 = .ok (.bipush 8, 2) := by decide +kernel
theorem d_MD_insert_5 : decode b_MD_insert 5 = .ok (.if_icmp .ge 264, 3) := by decide +kernel
theorem d_MD_insert_8 : decode b_MD_insert 8 = .ok (.aload_n 0, 1) := by decide +kernel
theorem d_MD_insert_9 : decode b_MD_insert 9 = .ok (.getfield 21, 3) := by decide +kernel
theorem d_MD_insert_12 : decode b_MD_insert 12 = .ok (.iload_n 1, 1) := by decide +kernel
theorem d_MD_insert_13 : decode b_MD_insert 13 = .ok (.laload, 1) := by decide +kernel
theorem d_MD_insert_14 : decode b_MD_insert 14 = .ok (.lconst 0, 1) := by decide +kernel
theorem d_MD_insert_15 : decode b_MD_insert 15 = .ok (.lcmp, 1) := by decide +kernel
theorem d_MD_insert_16 : decode b_MD_insert 16 = .ok (.ifCond .ne 6, 3) := by decide +kernel
theorem d_MD_insert_19 : decode b_MD_insert 19 = .ok (.goto 244, 3) := by decide +kernel
theorem d_MD_insert_22 : decode b_MD_insert 22 = .ok (.aload_n 0, 1) := by decide +kernel
theorem d_MD_insert_23 : decode b_MD_insert 23 = .ok (.getfield 17, 3) := by decide +kernel
theorem d_MD_insert_26 : decode b_MD_insert 26 = .ok (.iload_n 1, 1) := by decide +kernel
theorem d_MD_insert_27 : decode b_MD_insert 27 = .ok (.baload, 1) := by decide +kernel
theorem d_MD_insert_28 : decode b_MD_insert 28 = .ok (.ifCond .ne 67, 3) := by decide +kernel
theorem d_MD_insert_31 : decode b_MD_insert 31 = .ok (.aload_n 0, 1) := by decide +kernel
theorem d_MD_insert_32 : decode b_MD_insert 32 = .ok (.getfield 17, 3) := by decide +kernel
theorem d_MD_insert_35 : decode b_MD_insert 35 = .ok (.iload_n 1, 1) := by decide +kernel
theorem d_MD_insert_36 : decode b_MD_insert 36 = .ok (.iconst 1, 1) := by decide +kernel
theorem d_MD_insert_37 : decode b_MD_insert 37 = .ok (.bastore, 1) := by decide +kernel
theorem d_MD_insert_38 : decode b_MD_insert 38 = .ok (.iconst 0, 1) := by decide +kernel
theorem d_MD_insert_39 : decode b_MD_insert 39 = .ok (.istore_n 2, 1) := by decide +kernel
theorem d_MD_insert_40 : decode b_MD_insert 40 = .ok (.iload_n 2, 1) := by decide +kernel
theorem d_MD_insert_41 : decode b_MD_insert 41 = .ok (.bipush 8, 2) := by decide +kernel
theorem d_MD_insert_43 : decode b_MD_insert 43 = .ok (.if_icmp .ge 47, 3) := by decide +kernel
theorem d_MD_insert_46 : decode b_MD_insert 46 = .ok (.aload_n 0, 1) := by decide +kernel
theorem d_MD_insert_47 : decode b_MD_insert 47 = .ok (.getfield 13, 3) := by decide +kernel
theorem d_MD_insert_50 : decode b_MD_insert 50 = .ok (.bipush 8, 2) := by decide +kernel
theorem d_MD_insert_52 : decode b_MD_insert 52 = .ok (.iload_n 1, 1) := by decide +kernel
theorem d_MD_insert_53 : decode b_MD_insert 53 = .ok (.imul, 1) := by decide +kernel
theorem d_MD_insert_54 : decode b_MD_insert 54 = .ok (.iload_n 2, 1) := by decide +kernel
theorem d_MD_insert_55 : decode b_MD_insert 55 = .ok (.iadd, 1) := by decide +kernel
theorem d_MD_insert_56 : decode b_MD_insert 56 = .ok (.aload_n 0, 1) := by decide +kernel
theorem d_MD_insert_57 : decode b_MD_insert 57 = .ok (.getfield 21, 3) := by decide +kernel
theorem d_MD_insert_60 : decode b_MD_insert 60 = .ok (.iload_n 1, 1) := by decide +kernel
theorem d_MD_insert_61 : decode b_MD_insert 61 = .ok (.laload, 1) := by decide +kernel
theorem d_MD_insert_62 : decode b_MD_insert 62 = .ok (.lconst 0, 1) := by decide +kernel
theorem d_MD_insert_63 : decode b_MD_insert 63 = .ok (.lcmp, 1) := by decide +kernel
theorem d_MD_insert_64 : decode b_MD_insert 64 = .ok (.ifCond .ge 13, 3) := by decide +kernel
theorem d_MD_insert_67 : decode b_MD_insert 67 = .ok (.aload_n 0, 1) := by decide +kernel
theorem d_MD_insert_68 : decode b_MD_insert 68 = .ok (.getfield 21, 3) := by decide +kernel
theorem d_MD_insert_71 : decode b_MD_insert 71 = .ok (.iload_n 2, 1) := by decide +kernel
theorem d_MD_insert_72 : decode b_MD_insert 72 = .ok (.laload, 1) := by decide +kernel
theorem d_MD_insert_73 : decode b_MD_insert 73 = .ok (.lneg, 1) := by decide +kernel
theorem d_MD_insert_74 : decode b_MD_insert 74 = .ok (.goto 9, 3) := by decide +kernel
theorem d_MD_insert_77 : decode b_MD_insert 77 = .ok (.aload_n 0, 1) := by decide +kernel
theorem d_MD_insert_78 : decode b_MD_insert 78 = .ok (.getfield 21, 3) := by decide +kernel
theorem d_MD_insert_81 : decode b_MD_insert 81 = .ok (.iload_n 2, 1) := by decide +kernel
theorem d_MD_insert_82 : decode b_MD_insert 82 = .ok (.laload, 1) := by decide +kernel
theorem d_MD_insert_83 : decode b_MD_insert 83 = .ok (.lastore, 1) := by decide +kernel
theorem d_MD_insert_84 : decode b_MD_insert 84 = .ok (.iinc 2 1, 3) := by decide +kernel
theorem d_MD_insert_87 : decode b_MD_insert 87 = .ok (.goto (-47), 3) := by decide +kernel
theorem d_MD_insert_90 : decode b_MD_insert 90 = .ok (.aload_n 0, 1) := by decide +kernel
theorem d_MD_insert_91 : decode b_MD_insert 91 = .ok (.invokevirtual 67, 3) := by decide +kernel
theorem d_MD_insert_94 : decode b_MD_insert 94 = .ok (.return_, 1) := by decide +kernel
theorem d_MD_insert_95 : decode b_MD_insert 95 = .ok (.aload_n 0, 1) := by decide +kernel
theorem d_MD_insert_96 : decode b_MD_insert 96 = .ok (.getfield 21, 3) := by decide +kernel
theorem d_MD_insert_99 : decode b_MD_insert 99 = .ok (.iload_n 1, 1) := by decide +kernel
theorem d_MD_insert_100 : decode b_MD_insert 100 = .ok (.laload, 1) := by decide +kernel
theorem d_MD_insert_101 : decode b_MD_insert 101 = .ok (.lconst 0, 1) := by decide +kernel
theorem d_MD_insert_102 : decode b_MD_insert 102 = .ok (.lcmp, 1) := by decide +kernel
theorem d_MD_insert_103 : decode b_MD_insert 103 = .ok (.ifCond .eq 93, 3) := by decide +kernel
theorem d_MD_insert_106 : decode b_MD_insert 106 = .ok (.aload_n 0, 1) := by decide +kernel
theorem d_MD_insert_107 : decode b_MD_insert 107 = .ok (.getfield 13, 3) := by decide +kernel
theorem d_MD_insert_110 : decode b_MD_insert 110 = .ok (.bipush 8, 2) := by decide +kernel
theorem d_MD_insert_112 : decode b_MD_insert 112 = .ok (.iload_n 1, 1) := by decide +kernel
theorem d_MD_insert_113 : decode b_MD_insert 113 = .ok (.imul, 1) := by decide +kernel
theorem d_MD_insert_114 : decode b_MD_insert 114 = .ok (.iload_n 1, 1) := by decide +kernel
theorem d_MD_insert_115 : decode b_MD_insert 115 = .ok (.iadd, 1) := by decide +kernel
theorem d_MD_insert_116 : decode b_MD_insert 116 = .ok (.laload, 1) := by decide +kernel
theorem d_MD_insert_117 : decode b_MD_insert 117 = .ok (.aload_n 0, 1) := by decide +kernel
theorem d_MD_insert_118 : decode b_MD_insert 118 = .ok (.getfield 21, 3) := by decide +kernel
theorem d_MD_insert_121 : decode b_MD_insert 121 = .ok (.iload_n 1, 1) := by decide +kernel
theorem d_MD_insert_122 : decode b_MD_insert 122 = .ok (.laload, 1) := by decide +kernel
theorem d_MD_insert_123 : decode b_MD_insert 123 = .ok (.ldiv, 1) := by decide +kernel
theorem d_MD_insert_124 : decode b_MD_insert 124 = .ok (.lstore_n 2, 1) := by decide +kernel
theorem d_MD_insert_125 : decode b_MD_insert 125 = .ok (.iconst 0, 1) := by decide +kernel
theorem d_MD_insert_126 : decode b_MD_insert 126 = .ok (.istore 4, 2) := by decide +kernel
theorem d_MD_insert_128 : decode b_MD_insert 128 = .ok (.iload 4, 2) := by decide +kernel
theorem d_MD_insert_130 : decode b_MD_insert 130 = .ok (.bipush 8, 2) := by decide +kernel
theorem d_MD_insert_132 : decode b_MD_insert 132 = .ok (.if_icmp .ge 61, 3) := by decide +kernel
theorem d_MD_insert_135 : decode b_MD_insert 135 = .ok (.aload_n 0, 1) := by decide +kernel
theorem d_MD_insert_136 : decode b_MD_insert 136 = .ok (.getfield 13, 3) := by decide +kernel
theorem d_MD_insert_139 : decode b_MD_insert 139 = .ok (.bipush 8, 2) := by decide +kernel
theorem d_MD_insert_141 : decode b_MD_insert 141 = .ok (.iload_n 1, 1) := by decide +kernel
theorem d_MD_insert_142 : decode b_MD_insert 142 = .ok (.imul, 1) := by decide +kernel
theorem d_MD_insert_143 : decode b_MD_insert 143 = .ok (.iload 4, 2) := by decide +kernel
theorem d_MD_insert_145 : decode b_MD_insert 145 = .ok (.iadd, 1) := by decide +kernel
theorem d_MD_insert_146 : decode b_MD_insert 146 = .ok (.laload, 1) := by decide +kernel
theorem d_MD_insert_147 : decode b_MD_insert 147 = .ok (.lload_n 2, 1) := by decide +kernel
theorem d_MD_insert_148 : decode b_MD_insert 148 = .ok (.aload_n 0, 1) := by decide +kernel
theorem d_MD_insert_149 : decode b_MD_insert 149 = .ok (.getfield 21, 3) := by decide +kernel
theorem d_MD_insert_152 : decode b_MD_insert 152 = .ok (.iload 4, 2) := by decide +kernel
theorem d_MD_insert_154 : decode b_MD_insert 154 = .ok (.laload, 1) := by decide +kernel
theorem d_MD_insert_155 : decode b_MD_insert 155 = .ok (.lmul, 1) := by decide +kernel
theorem d_MD_insert_156 : decode b_MD_insert 156 = .ok (.lsub, 1) := by decide +kernel
theorem d_MD_insert_157 : decode b_MD_insert 157 = .ok (.lstore 5, 2) := by decide +kernel
theorem d_MD_insert_159 : decode b_MD_insert 159 = .ok (.aload_n 0, 1) := by decide +kernel
theorem d_MD_insert_160 : decode b_MD_insert 160 = .ok (.getfield 13, 3) := by decide +kernel
theorem d_MD_insert_163 : decode b_MD_insert 163 = .ok (.bipush 8, 2) := by decide +kernel
theorem d_MD_insert_165 : decode b_MD_insert 165 = .ok (.iload_n 1, 1) := by decide +kernel
theorem d_MD_insert_166 : decode b_MD_insert 166 = .ok (.imul, 1) := by decide +kernel
theorem d_MD_insert_167 : decode b_MD_insert 167 = .ok (.iload 4, 2) := by decide +kernel
theorem d_MD_insert_169 : decode b_MD_insert 169 = .ok (.iadd, 1) := by decide +kernel
theorem d_MD_insert_170 : decode b_MD_insert 170 = .ok (.aload_n 0, 1) := by decide +kernel
theorem d_MD_insert_171 : decode b_MD_insert 171 = .ok (.getfield 21, 3) := by decide +kernel
theorem d_MD_insert_174 : decode b_MD_insert 174 = .ok (.iload 4, 2) := by decide +kernel
theorem d_MD_insert_176 : decode b_MD_insert 176 = .ok (.laload, 1) := by decide +kernel
theorem d_MD_insert_177 : decode b_MD_insert 177 = .ok (.lastore, 1) := by decide +kernel
theorem d_MD_insert_178 : decode b_MD_insert 178 = .ok (.aload_n 0, 1) := by decide +kernel
theorem d_MD_insert_179 : decode b_MD_insert 179 = .ok (.getfield 21, 3) := by decide +kernel
theorem d_MD_insert_182 : decode b_MD_insert 182 = .ok (.iload 4, 2) := by decide +kernel
theorem d_MD_insert_184 : decode b_MD_insert 184 = .ok (.lload 5, 2) := by decide +kernel
theorem d_MD_insert_186 : decode b_MD_insert 186 = .ok (.lastore, 1) := by decide +kernel
theorem d_MD_insert_187 : decode b_MD_insert 187 = .ok (.iinc 4 1, 3) := by decide +kernel
theorem d_MD_insert_190 : decode b_MD_insert 190 = .ok (.goto (-62), 3) := by decide +kernel
theorem d_MD_insert_193 : decode b_MD_insert 193 = .ok (.goto (-98), 3) := by decide +kernel
theorem d_MD_insert_196 : decode b_MD_insert 196 = .ok (.aload_n 0, 1) := by decide +kernel
theorem d_MD_insert_197 : decode b_MD_insert 197 = .ok (.getfield 13, 3) := by decide +kernel
theorem d_MD_insert_200 : decode b_MD_insert 200 = .ok (.bipush 8, 2) := by decide +kernel
theorem d_MD_insert_202 : decode b_MD_insert 202 = .ok (.iload_n 1, 1) := by decide +kernel
theorem d_MD_insert_203 : decode b_MD_insert 203 = .ok (.imul, 1) := by decide +kernel
theorem d_MD_insert_204 : decode b_MD_insert 204 = .ok (.iload_n 1, 1) := by decide +kernel
theorem d_MD_insert_205 : decode b_MD_insert 205 = .ok (.iadd, 1) := by decide +kernel
theorem d_MD_insert_206 : decode b_MD_insert 206 = .ok (.laload, 1) := by decide +kernel
theorem d_MD_insert_207 : decode b_MD_insert 207 = .ok (.lconst 0, 1) := by decide +kernel
theorem d_MD_insert_208 : decode b_MD_insert 208 = .ok (.lcmp, 1) := by decide +kernel
theorem d_MD_insert_209 : decode b_MD_insert 209 = .ok (.ifCond .ge 7, 3) := by decide +kernel
theorem d_MD_insert_212 : decode b_MD_insert 212 = .ok (.iconst 1, 1) := by decide +kernel
theorem d_MD_insert_213 : decode b_MD_insert 213 = .ok (.goto 4, 3) := by decide +kernel
theorem d_MD_insert_216 : decode b_MD_insert 216 = .ok (.iconst 0, 1) := by decide +kernel
theorem d_MD_insert_217 : decode b_MD_insert 217 = .ok (.istore_n 2, 1) := by decide +kernel
theorem d_MD_insert_218 : decode b_MD_insert 218 = .ok (.iconst 0, 1) := by decide +kernel
theorem d_MD_insert_219 : decode b_MD_insert 219 = .ok (.istore_n 3, 1) := by decide +kernel
theorem d_MD_insert_220 : decode b_MD_insert 220 = .ok (.iload_n 3, 1) := by decide +kernel
theorem d_MD_insert_221 : decode b_MD_insert 221 = .ok (.bipush 8, 2) := by decide +kernel
theorem d_MD_insert_223 : decode b_MD_insert 223 = .ok (.if_icmp .ge 36, 3) := by decide +kernel
theorem d_MD_insert_226 : decode b_MD_insert 226 = .ok (.iload_n 2, 1) := by decide +kernel
theorem d_MD_insert_227 : decode b_MD_insert 227 = .ok (.ifCond .eq 32, 3) := by decide +kernel
theorem d_MD_insert_230 : decode b_MD_insert 230 = .ok (.aload_n 0, 1) := by decide +kernel
theorem d_MD_insert_231 : decode b_MD_insert 231 = .ok (.getfield 13, 3) := by decide +kernel
theorem d_MD_insert_234 : decode b_MD_insert 234 = .ok (.bipush 8, 2) := by decide +kernel
theorem d_MD_insert_236 : decode b_MD_insert 236 = .ok (.iload_n 1, 1) := by decide +kernel
theorem d_MD_insert_237 : decode b_MD_insert 237 = .ok (.imul, 1) := by decide +kernel
theorem d_MD_insert_238 : decode b_MD_insert 238 = .ok (.iload_n 3, 1) := by decide +kernel
theorem d_MD_insert_239 : decode b_MD_insert 239 = .ok (.iadd, 1) := by decide +kernel
theorem d_MD_insert_240 : decode b_MD_insert 240 = .ok (.aload_n 0, 1) := by decide +kernel
theorem d_MD_insert_241 : decode b_MD_insert 241 = .ok (.getfield 13, 3) := by decide +kernel
theorem d_MD_insert_244 : decode b_MD_insert 244 = .ok (.bipush 8, 2) := by decide +kernel
theorem d_MD_insert_246 : decode b_MD_insert 246 = .ok (.iload_n 1, 1) := by decide +kernel
theorem d_MD_insert_247 : decode b_MD_insert 247 = .ok (.imul, 1) := by decide +kernel
theorem d_MD_insert_248 : decode b_MD_insert 248 = .ok (.iload_n 3, 1) := by decide +kernel
theorem d_MD_insert_249 : decode b_MD_insert 249 = .ok (.iadd, 1) := by decide +kernel
theorem d_MD_insert_250 : decode b_MD_insert 250 = .ok (.laload, 1) := by decide +kernel
theorem d_MD_insert_251 : decode b_MD_insert 251 = .ok (.lneg, 1) := by decide +kernel
theorem d_MD_insert_252 : decode b_MD_insert 252 = .ok (.lastore, 1) := by decide +kernel
theorem d_MD_insert_253 : decode b_MD_insert 253 = .ok (.iinc 3 1, 3) := by decide +kernel
theorem d_MD_insert_256 : decode b_MD_insert 256 = .ok (.goto (-36), 3) := by decide +kernel
theorem d_MD_insert_259 : decode b_MD_insert 259 = .ok (.aload_n 0, 1) := by decide +kernel
theorem d_MD_insert_260 : decode b_MD_insert 260 = .ok (.invokevirtual 67, 3) := by decide +kernel
theorem d_MD_insert_263 : decode b_MD_insert 263 = .ok (.iinc 1 1, 3) := by decide +kernel
theorem d_MD_insert_266 : decode b_MD_insert 266 = .ok (.goto (-264), 3) := by decide +kernel
theorem d_MD_insert_269 : decode b_MD_insert 269 = .ok (.return_, 1) := by decide +kernel
theorem d_MD_tell_0 : decode b_MD_tell 0 = .ok (.aload_n 0, 1) := by decide +kernel
theorem d_MD_tell_1 : decode b_MD_tell 1 = .ok (.iconst 0, 1) := by decide +kernel
theorem d_MD_tell_2 : decode b_MD_tell 2 = .ok (.putfield 70, 3) := by decide +kernel
theorem d_MD_tell_5 : decode b_MD_tell 5 = .ok (.iload_n 1, 1) := by decide +kernel
theorem d_MD_tell_6 : decode b_MD_tell 6 = .ok (.istore_n 2, 1) := by decide +kernel
theorem d_MD_tell_7 : decode b_MD_tell 7 = .ok (.iload_n 2, 1) := by decide +kernel
theorem d_MD_tell_8 : decode b_MD_tell 8 = .ok (.iload_n 1, 1) := by decide +kernel
theorem d_MD_tell_9 : decode b_MD_tell 9 = .ok (.iconst 4, 1) := by decide +kernel
theorem d_MD_tell_10 : decode b_MD_tell 10 = .ok (.iadd, 1) := by decide +kernel
theorem d_MD_tell_11 : decode b_MD_tell 11 = .ok (.if_icmp .ge 76, 3) := by decide +kernel
theorem d_MD_tell_14 : decode b_MD_tell 14 = .ok (.iload_n 2, 1) := by decide +kernel
theorem d_MD_tell_15 : decode b_MD_tell 15 = .ok (.bipush 8, 2) := by decide +kernel
theorem d_MD_tell_17 : decode b_MD_tell 17 = .ok (.if_icmp .ge 70, 3) := by decide +kernel
theorem d_MD_tell_20 : decode b_MD_tell 20 = .ok (.aload_n 0, 1) := by decide +kernel
theorem d_MD_tell_21 : decode b_MD_tell 21 = .ok (.getfield 17, 3) := by decide +kernel
theorem d_MD_tell_24 : decode b_MD_tell 24 = .ok (.iload_n 2, 1) := by decide +kernel
theorem d_MD_tell_25 : decode b_MD_tell 25 = .ok (.baload, 1) := by decide +kernel
theorem d_MD_tell_26 : decode b_MD_tell 26 = .ok (.ifCond .ne 6, 3) := by decide +kernel
theorem d_MD_tell_29 : decode b_MD_tell 29 = .ok (.goto 52, 3) := by decide +kernel
theorem d_MD_tell_32 : decode b_MD_tell 32 = .ok (.iconst 0, 1) := by decide +kernel
theorem d_MD_tell_33 : decode b_MD_tell 33 = .ok (.istore_n 3, 1) := by decide +kernel
theorem d_MD_tell_34 : decode b_MD_tell 34 = .ok (.iload_n 3, 1) := by decide +kernel
theorem d_MD_tell_35 : decode b_MD_tell 35 = .ok (.iconst 4, 1) := by decide +kernel
theorem d_MD_tell_36 : decode b_MD_tell 36 = .ok (.if_icmp .ge 35, 3) := by decide +kernel
theorem d_MD_tell_39 : decode b_MD_tell 39 = .ok (.aload_n 0, 1) := by decide +kernel
theorem d_MD_tell_40 : decode b_MD_tell 40 = .ok (.getfield 27, 3) := by decide +kernel
theorem d_MD_tell_43 : decode b_MD_tell 43 = .ok (.iconst 4, 1) := by decide +kernel
theorem d_MD_tell_44 : decode b_MD_tell 44 = .ok (.aload_n 0, 1) := by decide +kernel
theorem d_MD_tell_45 : decode b_MD_tell 45 = .ok (.getfield 70, 3) := by decide +kernel
theorem d_MD_tell_48 : decode b_MD_tell 48 = .ok (.imul, 1) := by decide +kernel
theorem d_MD_tell_49 : decode b_MD_tell 49 = .ok (.iload_n 3, 1) := by decide +kernel
theorem d_MD_tell_50 : decode b_MD_tell 50 = .ok (.iadd, 1) := by decide +kernel
theorem d_MD_tell_51 : decode b_MD_tell 51 = .ok (.aload_n 0, 1) := by decide +kernel
theorem d_MD_tell_52 : decode b_MD_tell 52 = .ok (.getfield 13, 3) := by decide +kernel
theorem d_MD_tell_55 : decode b_MD_tell 55 = .ok (.bipush 8, 2) := by decide +kernel
theorem d_MD_tell_57 : decode b_MD_tell 57 = .ok (.iload_n 2, 1) := by decide +kernel
theorem d_MD_tell_58 : decode b_MD_tell 58 = .ok (.imul, 1) := by decide +kernel
theorem d_MD_tell_59 : decode b_MD_tell 59 = .ok (.iload_n 1, 1) := by decide +kernel
theorem d_MD_tell_60 : decode b_MD_tell 60 = .ok (.iadd, 1) := by decide +kernel
theorem d_MD_tell_61 : decode b_MD_tell 61 = .ok (.iload_n 3, 1) := by decide +kernel
theorem d_MD_tell_62 : decode b_MD_tell 62 = .ok (.iadd, 1) := by decide +kernel
theorem d_MD_tell_63 : decode b_MD_tell 63 = .ok (.laload, 1) := by decide +kernel
theorem d_MD_tell_64 : decode b_MD_tell 64 = .ok (.lastore, 1) := by decide +kernel
theorem d_MD_tell_65 : decode b_MD_tell 65 = .ok (.iinc 3 1, 3) := by decide +kernel
theorem d_MD_tell_68 : decode b_MD_tell 68 = .ok (.goto (-34), 3) := by decide +kernel
theorem d_MD_tell_71 : decode b_MD_tell 71 = .ok (.aload_n 0, 1) := by decide +kernel
theorem d_MD_tell_72 : decode b_MD_tell 72 = .ok (.dup, 1) := by decide +kernel
theorem d_MD_tell_73 : decode b_MD_tell 73 = .ok (.getfield 70, 3) := by decide +kernel
theorem d_MD_tell_76 : decode b_MD_tell 76 = .ok (.iconst 1, 1) := by decide +kernel
theorem d_MD_tell_77 : decode b_MD_tell 77 = .ok (.iadd, 1) := by decide +kernel
theorem d_MD_tell_78 : decode b_MD_tell 78 = .ok (.putfield 70, 3) := by decide +kernel
theorem d_MD_tell_81 : decode b_MD_tell 81 = .ok (.iinc 2 1, 3) := by decide +kernel
theorem d_MD_tell_84 : decode b_MD_tell 84 = .ok (.goto (-77), 3) := by decide +kernel
theorem d_MD_tell_87 : decode b_MD_tell 87 = .ok (.return_, 1) := by decide +kernel
theorem d_MD_findGroup_0 : decode b_MD_findGroup 0 = .ok (.aload_n 0, 1) := by decide +kernel
theorem d_MD_findGroup_1 : decode b_MD_findGroup 1 = .ok (.invokevirtual 73, 3) := by decide +kernel
theorem d_MD_findGroup_4 : decode b_MD_findGroup 4 = .ok (.iconst 0, 1) := by decide +kernel
theorem d_MD_findGroup_5 : decode b_MD_findGroup 5 = .ok (.istore_n 1, 1) := by decide +kernel
theorem d_MD_findGroup_6 : decode b_MD_findGroup 6 = .ok (.iload_n 1, 1) := by decide +kernel
theorem d_MD_findGroup_7 : decode b_MD_findGroup 7 = .ok (.aload_n 0, 1) := by decide +kernel
theorem d_MD_findGroup_8 : decode b_MD_findGroup 8 = .ok (.getfield 46, 3) := by decide +kernel
theorem d_MD_findGroup_11 : decode b_MD_findGroup 11 = .ok (.if_icmp .ge 53, 3) := by decide +kernel
theorem d_MD_findGroup_14 : decode b_MD_findGroup 14 = .ok (.iconst 0, 1) := by decide +kernel
theorem d_MD_findGroup_15 : decode b_MD_findGroup 15 = .ok (.istore_n 2, 1) := by decide +kernel
theorem d_MD_findGroup_16 : decode b_MD_findGroup 16 = .ok (.iload_n 2, 1) := by decide +kernel
theorem d_MD_findGroup_17 : decode b_MD_findGroup 17 = .ok (.bipush 8, 2) := by decide +kernel
theorem d_MD_findGroup_19 : decode b_MD_findGroup 19 = .ok (.if_icmp .ge 35, 3) := by decide +kernel
theorem d_MD_findGroup_22 : decode b_MD_findGroup 22 = .ok (.aload_n 0, 1) := by decide +kernel
theorem d_MD_findGroup_23 : decode b_MD_findGroup 23 = .ok (.getfield 21, 3) := by decide +kernel
theorem d_MD_findGroup_26 : decode b_MD_findGroup 26 = .ok (.iload_n 2, 1) := by decide +kernel
theorem d_MD_findGroup_27 : decode b_MD_findGroup 27 = .ok (.iload_n 2, 1) := by decide +kernel
theorem d_MD_findGroup_28 : decode b_MD_findGroup 28 = .ok (.iconst 4, 1) := by decide +kernel
theorem d_MD_findGroup_29 : decode b_MD_findGroup 29 = .ok (.if_icmp .ge 17, 3) := by decide +kernel
theorem d_MD_findGroup_32 : decode b_MD_findGroup 32 = .ok (.aload_n 0, 1) := by decide +kernel
theorem d_MD_findGroup_33 : decode b_MD_findGroup 33 = .ok (.getfield 7, 3) := by decide +kernel
theorem d_MD_findGroup_36 : decode b_MD_findGroup 36 = .ok (.iconst 4, 1) := by decide +kernel
theorem d_MD_findGroup_37 : decode b_MD_findGroup 37 = .ok (.iload_n 1, 1) := by decide +kernel
theorem d_MD_findGroup_38 : decode b_MD_findGroup 38 = .ok (.imul, 1) := by decide +kernel
theorem d_MD_findGroup_39 : decode b_MD_findGroup 39 = .ok (.iload_n 2, 1) := by decide +kernel
theorem d_MD_findGroup_40 : decode b_MD_findGroup 40 = .ok (.iadd, 1) := by decide +kernel
theorem d_MD_findGroup_41 : decode b_MD_findGroup 41 = .ok (.iaload, 1) := by decide +kernel
theorem d_MD_findGroup_42 : decode b_MD_findGroup 42 = .ok (.i2l, 1) := by decide +kernel
theorem d_MD_findGroup_43 : decode b_MD_findGroup 43 = .ok (.goto 4, 3) := by decide +kernel
theorem d_MD_findGroup_46 : decode b_MD_findGroup 46 = .ok (.lconst 0, 1) := by decide +kernel
theorem d_MD_findGroup_47 : decode b_MD_findGroup 47 = .ok (.lastore, 1) := by decide +kernel
theorem d_MD_findGroup_48 : decode b_MD_findGroup 48 = .ok (.iinc 2 1, 3) := by decide +kernel
theorem d_MD_findGroup_51 : decode b_MD_findGroup 51 = .ok (.goto (-35), 3) := by decide +kernel
theorem d_MD_findGroup_54 : decode b_MD_findGroup 54 = .ok (.aload_n 0, 1) := by decide +kernel
theorem d_MD_findGroup_55 : decode b_MD_findGroup 55 = .ok (.invokevirtual 76, 3) := by decide +kernel
theorem d_MD_findGroup_58 : decode b_MD_findGroup 58 = .ok (.iinc 1 1, 3) := by decide +kernel
theorem d_MD_findGroup_61 : decode b_MD_findGroup 61 = .ok (.goto (-55), 3) := by decide +kernel
theorem d_MD_findGroup_64 : decode b_MD_findGroup 64 = .ok (.aload_n 0, 1) := by decide +kernel
theorem d_MD_findGroup_65 : decode b_MD_findGroup 65 = .ok (.iconst 0, 1) := by decide +kernel
theorem d_MD_findGroup_66 : decode b_MD_findGroup 66 = .ok (.invokevirtual 79, 3) := by decide +kernel
theorem d_MD_findGroup_69 : decode b_MD_findGroup 69 = .ok (.return_, 1) := by decide +kernel
theorem d_MD_findRelations_0 : decode b_MD_findRelations 0 = .ok (.aload_n 0, 1) := by decide +kernel
theorem d_MD_findRelations_1 : decode b_MD_findRelations 1 = .ok (.invokevirtual 73, 3) := by decide +kernel
theorem d_MD_findRelations_4 : decode b_MD_findRelations 4 = .ok (.iconst 0, 1) := by decide +kernel
theorem d_MD_findRelations_5 : decode b_MD_findRelations 5 = .ok (.istore_n 2, 1) := by decide +kernel
theorem d_MD_findRelations_6 : decode b_MD_findRelations 6 = .ok (.iload_n 2, 1) := by decide +kernel
theorem d_MD_findRelations_7 : decode b_MD_findRelations 7 = .ok (.iload_n 1, 1) := by decide +kernel
theorem d_MD_findRelations_8 : decode b_MD_findRelations 8 = .ok (.if_icmp .ge 63, 3) := by decide +kernel
theorem d_MD_findRelations_11 : decode b_MD_findRelations 11 = .ok (.iconst 0, 1) := by decide +kernel
theorem d_MD_findRelations_12 : decode b_MD_findRelations 12 = .ok (.istore_n 3, 1) := by decide +kernel
theorem d_MD_findRelations_13 : decode b_MD_findRelations 13 = .ok (.iload_n 3, 1) := by decide +kernel
theorem d_MD_findRelations_14 : decode b_MD_findRelations 14 = .ok (.bipush 8, 2) := by decide +kernel
theorem d_MD_findRelations_16 : decode b_MD_findRelations 16 = .ok (.if_icmp .ge 45, 3) := by decide +kernel
theorem d_MD_findRelations_19 : decode b_MD_findRelations 19 = .ok (.aload_n 0, 1) := by decide +kernel
theorem d_MD_findRelations_20 : decode b_MD_findRelations 20 = .ok (.getfield 21, 3) := by decide +kernel
theorem d_MD_findRelations_23 : decode b_MD_findRelations 23 = .ok (.iload_n 3, 1) := by decide +kernel
theorem d_MD_findRelations_24 : decode b_MD_findRelations 24 = .ok (.iload_n 3, 1) := by decide +kernel
theorem d_MD_findRelations_25 : decode b_MD_findRelations 25 = .ok (.iconst 4, 1) := by decide +kernel
theorem d_MD_findRelations_26 : decode b_MD_findRelations 26 = .ok (.if_icmp .ge 16, 3) := by decide +kernel
theorem d_MD_findRelations_29 : decode b_MD_findRelations 29 = .ok (.aload_n 0, 1) := by decide +kernel
theorem d_MD_findRelations_30 : decode b_MD_findRelations 30 = .ok (.getfield 24, 3) := by decide +kernel
theorem d_MD_findRelations_33 : decode b_MD_findRelations 33 = .ok (.iconst 4, 1) := by decide +kernel
theorem d_MD_findRelations_34 : decode b_MD_findRelations 34 = .ok (.iload_n 2, 1) := by decide +kernel
theorem d_MD_findRelations_35 : decode b_MD_findRelations 35 = .ok (.imul, 1) := by decide +kernel
theorem d_MD_findRelations_36 : decode b_MD_findRelations 36 = .ok (.iload_n 3, 1) := by decide +kernel
theorem d_MD_findRelations_37 : decode b_MD_findRelations 37 = .ok (.iadd, 1) := by decide +kernel
theorem d_MD_findRelations_38 : decode b_MD_findRelations 38 = .ok (.laload, 1) := by decide +kernel
theorem d_MD_findRelations_39 : decode b_MD_findRelations 39 = .ok (.goto 15, 3) := by decide +kernel
theorem d_MD_findRelations_42 : decode b_MD_findRelations 42 = .ok (.iload_n 3, 1) := by decide +kernel
theorem d_MD_findRelations_43 : decode b_MD_findRelations 43 = .ok (.iconst 4, 1) := by decide +kernel
theorem d_MD_findRelations_44 : decode b_MD_findRelations 44 = .ok (.isub, 1) := by decide +kernel
theorem d_MD_findRelations_45 : decode b_MD_findRelations 45 = .ok (.iload_n 2, 1) := by decide +kernel
theorem d_MD_findRelations_46 : decode b_MD_findRelations 46 = .ok (.if_icmp .ne 7, 3) := by decide +kernel
theorem d_MD_findRelations_49 : decode b_MD_findRelations 49 = .ok (.lconst 1, 1) := by decide +kernel
theorem d_MD_findRelations_50 : decode b_MD_findRelations 50 = .ok (.goto 4, 3) := by decide +kernel
theorem d_MD_findRelations_53 : decode b_MD_findRelations 53 = .ok (.lconst 0, 1) := by decide +kernel
theorem d_MD_findRelations_54 : decode b_MD_findRelations 54 = .ok (.lastore, 1) := by decide +kernel
theorem d_MD_findRelations_55 : decode b_MD_findRelations 55 = .ok (.iinc 3 1, 3) := by decide +kernel
theorem d_MD_findRelations_58 : decode b_MD_findRelations 58 = .ok (.goto (-45), 3) := by decide +kernel
theorem d_MD_findRelations_61 : decode b_MD_findRelations 61 = .ok (.aload_n 0, 1) := by decide +kernel
theorem d_MD_findRelations_62 : decode b_MD_findRelations 62 = .ok (.invokevirtual 76, 3) := by decide +kernel
theorem d_MD_findRelations_65 : decode b_MD_findRelations 65 = .ok (.iinc 2 1, 3) := by decide +kernel
theorem d_MD_findRelations_68 : decode b_MD_findRelations 68 = .ok (.goto (-62), 3) := by decide +kernel
theorem d_MD_findRelations_71 : decode b_MD_findRelations 71 = .ok (.aload_n 0, 1) := by decide +kernel
theorem d_MD_findRelations_72 : decode b_MD_findRelations 72 = .ok (.iconst 4, 1) := by decide +kernel
theorem d_MD_findRelations_73 : decode b_MD_findRelations 73 = .ok (.invokevirtual 79, 3) := by decide +kernel
theorem d_MD_findRelations_76 : decode b_MD_findRelations 76 = .ok (.return_, 1) := by decide +kernel
