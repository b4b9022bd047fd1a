theorem d_MD_relate_0 : decode b_MD_relate 0 = .ok (.iconst 0, 1) := by decide +kernel
theorem d_MD_relate_1 : decode b_MD_relate 1 = .ok (.istore_n 1, 1) := by decide +kernel
theorem d_MD_relate_2 : decode b_MD_relate 2 = .ok (.iload_n 1, 1) := by decide +kernel
theorem d_MD_relate_3 : decode b_MD_relate 3 = .ok (.bipush 16, 2) := by decide +kernel
theorem d_MD_relate_5 : decode b_MD_relate 5 = .ok (.if_icmp .ge 36, 3) := by decide +kernel
theorem d_MD_relate_8 : decode b_MD_relate 8 = .ok (.aload_n 0, 1) := by decide +kernel
theorem d_MD_relate_9 : decode b_MD_relate 9 = .ok (.getfield 24, 3) := by decide +kernel
theorem d_MD_relate_12 : decode b_MD_relate 12 = .ok (.iload_n 1, 1) := by decide +kernel
theorem d_MD_relate_13 : decode b_MD_relate 13 = .ok (.iload_n 1, 1) := by decide +kernel
theorem d_MD_relate_14 : decode b_MD_relate 14 = .ok (.iconst 4, 1) := by decide +kernel
theorem d_MD_relate_15 : decode b_MD_relate 15 = .ok (.aload_n 0, 1) := by decide +kernel
theorem d_MD_relate_16 : decode b_MD_relate 16 = .ok (.getfield 46, 3) := by decide +kernel
theorem d_MD_relate_19 : decode b_MD_relate 19 = .ok (.imul, 1) := by decide +kernel
theorem d_MD_relate_20 : decode b_MD_relate 20 = .ok (.if_icmp .ge 13, 3) := by decide +kernel
theorem d_MD_relate_23 : decode b_MD_relate 23 = .ok (.aload_n 0, 1) := by decide +kernel
theorem d_MD_relate_24 : decode b_MD_relate 24 = .ok (.getfield 7, 3) := by decide +kernel
theorem d_MD_relate_27 : decode b_MD_relate 27 = .ok (.iload_n 1, 1) := by decide +kernel
theorem d_MD_relate_28 : decode b_MD_relate 28 = .ok (.iaload, 1) := by decide +kernel
theorem d_MD_relate_29 : decode b_MD_relate 29 = .ok (.i2l, 1) := by decide +kernel
theorem d_MD_relate_30 : decode b_MD_relate 30 = .ok (.goto 4, 3) := by decide +kernel
theorem d_MD_relate_33 : decode b_MD_relate 33 = .ok (.lconst 0, 1) := by decide +kernel
theorem d_MD_relate_34 : decode b_MD_relate 34 = .ok (.lastore, 1) := by decide +kernel
theorem d_MD_relate_35 : decode b_MD_relate 35 = .ok (.iinc 1 1, 3) := by decide +kernel
theorem d_MD_relate_38 : decode b_MD_relate 38 = .ok (.goto (-36), 3) := by decide +kernel
theorem d_MD_relate_41 : decode b_MD_relate 41 = .ok (.aload_n 0, 1) := by decide +kernel
theorem d_MD_relate_42 : decode b_MD_relate 42 = .ok (.aload_n 0, 1) := by decide +kernel
theorem d_MD_relate_43 : decode b_MD_relate 43 = .ok (.getfield 46, 3) := by decide +kernel
theorem d_MD_relate_46 : decode b_MD_relate 46 = .ok (.invokevirtual 83, 3) := by decide +kernel
theorem d_MD_relate_49 : decode b_MD_relate 49 = .ok (.return_, 1) := by decide +kernel
theorem d_MD_findHull_0 : decode b_MD_findHull 0 = .ok (.iconst 0, 1) := by decide +kernel
theorem d_MD_findHull_1 : decode b_MD_findHull 1 = .ok (.istore_n 1, 1) := by decide +kernel
theorem d_MD_findHull_2 : decode b_MD_findHull 2 = .ok (.iload_n 1, 1) := by decide +kernel
theorem d_MD_findHull_3 : decode b_MD_findHull 3 = .ok (.bipush 16, 2) := by decide +kernel
theorem d_MD_findHull_5 : decode b_MD_findHull 5 = .ok (.if_icmp .ge 44, 3) := by decide +kernel
theorem d_MD_findHull_8 : decode b_MD_findHull 8 = .ok (.aload_n 0, 1) := by decide +kernel
theorem d_MD_findHull_9 : decode b_MD_findHull 9 = .ok (.getfield 24, 3) := by decide +kernel
theorem d_MD_findHull_12 : decode b_MD_findHull 12 = .ok (.iload_n 1, 1) := by decide +kernel
theorem d_MD_findHull_13 : decode b_MD_findHull 13 = .ok (.iload_n 1, 1) := by decide +kernel
theorem d_MD_findHull_14 : decode b_MD_findHull 14 = .ok (.iconst 4, 1) := by decide +kernel
theorem d_MD_findHull_15 : decode b_MD_findHull 15 = .ok (.irem, 1) := by decide +kernel
theorem d_MD_findHull_16 : decode b_MD_findHull 16 = .ok (.aload_n 0, 1) := by decide +kernel
theorem d_MD_findHull_17 : decode b_MD_findHull 17 = .ok (.getfield 46, 3) := by decide +kernel
theorem d_MD_findHull_20 : decode b_MD_findHull 20 = .ok (.if_icmp .ge 21, 3) := by decide +kernel
theorem d_MD_findHull_23 : decode b_MD_findHull 23 = .ok (.aload_n 0, 1) := by decide +kernel
theorem d_MD_findHull_24 : decode b_MD_findHull 24 = .ok (.getfield 7, 3) := by decide +kernel
theorem d_MD_findHull_27 : decode b_MD_findHull 27 = .ok (.iconst 4, 1) := by decide +kernel
theorem d_MD_findHull_28 : decode b_MD_findHull 28 = .ok (.iload_n 1, 1) := by decide +kernel
theorem d_MD_findHull_29 : decode b_MD_findHull 29 = .ok (.iconst 4, 1) := by decide +kernel
theorem d_MD_findHull_30 : decode b_MD_findHull 30 = .ok (.irem, 1) := by decide +kernel
theorem d_MD_findHull_31 : decode b_MD_findHull 31 = .ok (.imul, 1) := by decide +kernel
theorem d_MD_findHull_32 : decode b_MD_findHull 32 = .ok (.iload_n 1, 1) := by decide +kernel
theorem d_MD_findHull_33 : decode b_MD_findHull 33 = .ok (.iconst 4, 1) := by decide +kernel
theorem d_MD_findHull_34 : decode b_MD_findHull 34 = .ok (.idiv, 1) := by decide +kernel
theorem d_MD_findHull_35 : decode b_MD_findHull 35 = .ok (.iadd, 1) := by decide +kernel
theorem d_MD_findHull_36 : decode b_MD_findHull 36 = .ok (.iaload, 1) := by decide +kernel
theorem d_MD_findHull_37 : decode b_MD_findHull 37 = .ok (.i2l, 1) := by decide +kernel
theorem d_MD_findHull_38 : decode b_MD_findHull 38 = .ok (.goto 4, 3) := by decide +kernel
theorem d_MD_findHull_41 : decode b_MD_findHull 41 = .ok (.lconst 0, 1) := by decide +kernel
theorem d_MD_findHull_42 : decode b_MD_findHull 42 = .ok (.lastore, 1) := by decide +kernel
theorem d_MD_findHull_43 : decode b_MD_findHull 43 = .ok (.iinc 1 1, 3) := by decide +kernel
theorem d_MD_findHull_46 : decode b_MD_findHull 46 = .ok (.goto (-44), 3) := by decide +kernel
theorem d_MD_findHull_49 : decode b_MD_findHull 49 = .ok (.aload_n 0, 1) := by decide +kernel
theorem d_MD_findHull_50 : decode b_MD_findHull 50 = .ok (.iconst 4, 1) := by decide +kernel
theorem d_MD_findHull_51 : decode b_MD_findHull 51 = .ok (.invokevirtual 83, 3) := by decide +kernel
theorem d_MD_findHull_54 : decode b_MD_findHull 54 = .ok (.iconst 0, 1) := by decide +kernel
theorem d_MD_findHull_55 : decode b_MD_findHull 55 = .ok (.istore_n 1, 1) := by decide +kernel
theorem d_MD_findHull_56 : decode b_MD_findHull 56 = .ok (.iload_n 1, 1) := by decide +kernel
theorem d_MD_findHull_57 : decode b_MD_findHull 57 = .ok (.bipush 16, 2) := by decide +kernel
theorem d_MD_findHull_59 : decode b_MD_findHull 59 = .ok (.if_icmp .ge 35, 3) := by decide +kernel
theorem d_MD_findHull_62 : decode b_MD_findHull 62 = .ok (.aload_n 0, 1) := by decide +kernel
theorem d_MD_findHull_63 : decode b_MD_findHull 63 = .ok (.getfield 30, 3) := by decide +kernel
theorem d_MD_findHull_66 : decode b_MD_findHull 66 = .ok (.iload_n 1, 1) := by decide +kernel
theorem d_MD_findHull_67 : decode b_MD_findHull 67 = .ok (.iload_n 1, 1) := by decide +kernel
theorem d_MD_findHull_68 : decode b_MD_findHull 68 = .ok (.iconst 4, 1) := by decide +kernel
theorem d_MD_findHull_69 : decode b_MD_findHull 69 = .ok (.idiv, 1) := by decide +kernel
theorem d_MD_findHull_70 : decode b_MD_findHull 70 = .ok (.aload_n 0, 1) := by decide +kernel
theorem d_MD_findHull_71 : decode b_MD_findHull 71 = .ok (.getfield 70, 3) := by decide +kernel
theorem d_MD_findHull_74 : decode b_MD_findHull 74 = .ok (.if_icmp .ge 12, 3) := by decide +kernel
theorem d_MD_findHull_77 : decode b_MD_findHull 77 = .ok (.aload_n 0, 1) := by decide +kernel
theorem d_MD_findHull_78 : decode b_MD_findHull 78 = .ok (.getfield 27, 3) := by decide +kernel
theorem d_MD_findHull_81 : decode b_MD_findHull 81 = .ok (.iload_n 1, 1) := by decide +kernel
theorem d_MD_findHull_82 : decode b_MD_findHull 82 = .ok (.laload, 1) := by decide +kernel
theorem d_MD_findHull_83 : decode b_MD_findHull 83 = .ok (.goto 4, 3) := by decide +kernel
theorem d_MD_findHull_86 : decode b_MD_findHull 86 = .ok (.lconst 0, 1) := by decide +kernel
theorem d_MD_findHull_87 : decode b_MD_findHull 87 = .ok (.lastore, 1) := by decide +kernel
theorem d_MD_findHull_88 : decode b_MD_findHull 88 = .ok (.iinc 1 1, 3) := by decide +kernel
theorem d_MD_findHull_91 : decode b_MD_findHull 91 = .ok (.goto (-35), 3) := by decide +kernel
theorem d_MD_findHull_94 : decode b_MD_findHull 94 = .ok (.iconst 0, 1) := by decide +kernel
theorem d_MD_findHull_95 : decode b_MD_findHull 95 = .ok (.istore_n 1, 1) := by decide +kernel
theorem d_MD_findHull_96 : decode b_MD_findHull 96 = .ok (.iload_n 1, 1) := by decide +kernel
theorem d_MD_findHull_97 : decode b_MD_findHull 97 = .ok (.bipush 16, 2) := by decide +kernel
theorem d_MD_findHull_99 : decode b_MD_findHull 99 = .ok (.if_icmp .ge 29, 3) := by decide +kernel
theorem d_MD_findHull_102 : decode b_MD_findHull 102 = .ok (.aload_n 0, 1) := by decide +kernel
theorem d_MD_findHull_103 : decode b_MD_findHull 103 = .ok (.getfield 24, 3) := by decide +kernel
theorem d_MD_findHull_106 : decode b_MD_findHull 106 = .ok (.iload_n 1, 1) := by decide +kernel
theorem d_MD_findHull_107 : decode b_MD_findHull 107 = .ok (.aload_n 0, 1) := by decide +kernel
theorem d_MD_findHull_108 : decode b_MD_findHull 108 = .ok (.getfield 30, 3) := by decide +kernel
theorem d_MD_findHull_111 : decode b_MD_findHull 111 = .ok (.iconst 4, 1) := by decide +kernel
theorem d_MD_findHull_112 : decode b_MD_findHull 112 = .ok (.iload_n 1, 1) := by decide +kernel
theorem d_MD_findHull_113 : decode b_MD_findHull 113 = .ok (.iconst 4, 1) := by decide +kernel
theorem d_MD_findHull_114 : decode b_MD_findHull 114 = .ok (.irem, 1) := by decide +kernel
theorem d_MD_findHull_115 : decode b_MD_findHull 115 = .ok (.imul, 1) := by decide +kernel
theorem d_MD_findHull_116 : decode b_MD_findHull 116 = .ok (.iload_n 1, 1) := by decide +kernel
theorem d_MD_findHull_117 : decode b_MD_findHull 117 = .ok (.iconst 4, 1) := by decide +kernel
theorem d_MD_findHull_118 : decode b_MD_findHull 118 = .ok (.idiv, 1) := by decide +kernel
theorem d_MD_findHull_119 : decode b_MD_findHull 119 = .ok (.iadd, 1) := by decide +kernel
theorem d_MD_findHull_120 : decode b_MD_findHull 120 = .ok (.laload, 1) := by decide +kernel
theorem d_MD_findHull_121 : decode b_MD_findHull 121 = .ok (.lastore, 1) := by decide +kernel
theorem d_MD_findHull_122 : decode b_MD_findHull 122 = .ok (.iinc 1 1, 3) := by decide +kernel
theorem d_MD_findHull_125 : decode b_MD_findHull 125 = .ok (.goto (-29), 3) := by decide +kernel
theorem d_MD_findHull_128 : decode b_MD_findHull 128 = .ok (.aload_n 0, 1) := by decide +kernel
theorem d_MD_findHull_129 : decode b_MD_findHull 129 = .ok (.iconst 4, 1) := by decide +kernel
theorem d_MD_findHull_130 : decode b_MD_findHull 130 = .ok (.invokevirtual 83, 3) := by decide +kernel
theorem d_MD_findHull_133 : decode b_MD_findHull 133 = .ok (.return_, 1) := by decide +kernel
theorem d_MD_toldAt_0 : decode b_MD_toldAt 0 = .ok (.aload_n 0, 1) := by decide +kernel
theorem d_MD_toldAt_1 : decode b_MD_toldAt 1 = .ok (.iload_n 3, 1) := by decide +kernel
theorem d_MD_toldAt_2 : decode b_MD_toldAt 2 = .ok (.ifCond .eq 23, 3) := by decide +kernel
theorem d_MD_toldAt_5 : decode b_MD_toldAt 5 = .ok (.iload_n 1, 1) := by decide +kernel
theorem d_MD_toldAt_6 : decode b_MD_toldAt 6 = .ok (.i2l, 1) := by decide +kernel
theorem d_MD_toldAt_7 : decode b_MD_toldAt 7 = .ok (.lconst 0, 1) := by decide +kernel
theorem d_MD_toldAt_8 : decode b_MD_toldAt 8 = .ok (.aload_n 0, 1) := by decide +kernel
theorem d_MD_toldAt_9 : decode b_MD_toldAt 9 = .ok (.getfield 70, 3) := by decide +kernel
theorem d_MD_toldAt_12 : decode b_MD_toldAt 12 = .ok (.iconst 1, 1) := by decide +kernel
theorem d_MD_toldAt_13 : decode b_MD_toldAt 13 = .ok (.isub, 1) := by decide +kernel
theorem d_MD_toldAt_14 : decode b_MD_toldAt 14 = .ok (.i2l, 1) := by decide +kernel
theorem d_MD_toldAt_15 : decode b_MD_toldAt 15 = .ok (.invokestatic 53, 3) := by decide +kernel
theorem d_MD_toldAt_18 : decode b_MD_toldAt 18 = .ok (.ifCond .eq 7, 3) := by decide +kernel
theorem d_MD_toldAt_21 : decode b_MD_toldAt 21 = .ok (.iconst 0, 1) := by decide +kernel
theorem d_MD_toldAt_22 : decode b_MD_toldAt 22 = .ok (.goto 4, 3) := by decide +kernel
theorem d_MD_toldAt_25 : decode b_MD_toldAt 25 = .ok (.iconst 1, 1) := by decide +kernel
theorem d_MD_toldAt_26 : decode b_MD_toldAt 26 = .ok (.putfield 42, 3) := by decide +kernel
theorem d_MD_toldAt_29 : decode b_MD_toldAt 29 = .ok (.aload_n 0, 1) := by decide +kernel
theorem d_MD_toldAt_30 : decode b_MD_toldAt 30 = .ok (.getfield 42, 3) := by decide +kernel
theorem d_MD_toldAt_33 : decode b_MD_toldAt 33 = .ok (.ifCond .le 7, 3) := by decide +kernel
theorem d_MD_toldAt_36 : decode b_MD_toldAt 36 = .ok (.lconst 0, 1) := by decide +kernel
theorem d_MD_toldAt_37 : decode b_MD_toldAt 37 = .ok (.goto 13, 3) := by decide +kernel
theorem d_MD_toldAt_40 : decode b_MD_toldAt 40 = .ok (.aload_n 0, 1) := by decide +kernel
theorem d_MD_toldAt_41 : decode b_MD_toldAt 41 = .ok (.getfield 27, 3) := by decide +kernel
theorem d_MD_toldAt_44 : decode b_MD_toldAt 44 = .ok (.iconst 4, 1) := by decide +kernel
theorem d_MD_toldAt_45 : decode b_MD_toldAt 45 = .ok (.iload_n 1, 1) := by decide +kernel
theorem d_MD_toldAt_46 : decode b_MD_toldAt 46 = .ok (.imul, 1) := by decide +kernel
theorem d_MD_toldAt_47 : decode b_MD_toldAt 47 = .ok (.iload_n 2, 1) := by decide +kernel
theorem d_MD_toldAt_48 : decode b_MD_toldAt 48 = .ok (.iadd, 1) := by decide +kernel
theorem d_MD_toldAt_49 : decode b_MD_toldAt 49 = .ok (.laload, 1) := by decide +kernel
theorem d_MD_toldAt_50 : decode b_MD_toldAt 50 = .ok (.lreturn, 1) := by decide +kernel
theorem d_MD_rank_0 : decode b_MD_rank 0 = .ok (.aload_n 0, 1) := by decide +kernel
theorem d_MD_rank_1 : decode b_MD_rank 1 = .ok (.iconst 0, 1) := by decide +kernel
theorem d_MD_rank_2 : decode b_MD_rank 2 = .ok (.putfield 42, 3) := by decide +kernel
theorem d_MD_rank_5 : decode b_MD_rank 5 = .ok (.aload_n 0, 1) := by decide +kernel
theorem d_MD_rank_6 : decode b_MD_rank 6 = .ok (.invokevirtual 86, 3) := by decide +kernel
theorem d_MD_rank_9 : decode b_MD_rank 9 = .ok (.aload_n 0, 1) := by decide +kernel
theorem d_MD_rank_10 : decode b_MD_rank 10 = .ok (.getfield 70, 3) := by decide +kernel
theorem d_MD_rank_13 : decode b_MD_rank 13 = .ok (.ireturn, 1) := by decide +kernel
theorem d_MD_relations_0 : decode b_MD_relations 0 = .ok (.aload_n 0, 1) := by decide +kernel
theorem d_MD_relations_1 : decode b_MD_relations 1 = .ok (.iconst 0, 1) := by decide +kernel
theorem d_MD_relations_2 : decode b_MD_relations 2 = .ok (.putfield 42, 3) := by decide +kernel
theorem d_MD_relations_5 : decode b_MD_relations 5 = .ok (.aload_n 0, 1) := by decide +kernel
theorem d_MD_relations_6 : decode b_MD_relations 6 = .ok (.invokevirtual 89, 3) := by decide +kernel
theorem d_MD_relations_9 : decode b_MD_relations 9 = .ok (.aload_n 0, 1) := by decide +kernel
theorem d_MD_relations_10 : decode b_MD_relations 10 = .ok (.getfield 70, 3) := by decide +kernel
theorem d_MD_relations_13 : decode b_MD_relations 13 = .ok (.ireturn, 1) := by decide +kernel
theorem d_MD_relation_0 : decode b_MD_relation 0 = .ok (.aload_n 0, 1) := by decide +kernel
theorem d_MD_relation_1 : decode b_MD_relation 1 = .ok (.invokevirtual 89, 3) := by decide +kernel
theorem d_MD_relation_4 : decode b_MD_relation 4 = .ok (.aload_n 0, 1) := by decide +kernel
theorem d_MD_relation_5 : decode b_MD_relation 5 = .ok (.iload_n 1, 1) := by decide +kernel
theorem d_MD_relation_6 : decode b_MD_relation 6 = .ok (.iload_n 2, 1) := by decide +kernel
theorem d_MD_relation_7 : decode b_MD_relation 7 = .ok (.aload_n 0, 1) := by decide +kernel
theorem d_MD_relation_8 : decode b_MD_relation 8 = .ok (.iload_n 2, 1) := by decide +kernel
theorem d_MD_relation_9 : decode b_MD_relation 9 = .ok (.invokevirtual 57, 3) := by decide +kernel
theorem d_MD_relation_12 : decode b_MD_relation 12 = .ok (.invokevirtual 92, 3) := by decide +kernel
theorem d_MD_relation_15 : decode b_MD_relation 15 = .ok (.lreturn, 1) := by decide +kernel
theorem d_MD_group_0 : decode b_MD_group 0 = .ok (.aload_n 0, 1) := by decide +kernel
theorem d_MD_group_1 : decode b_MD_group 1 = .ok (.invokevirtual 86, 3) := by decide +kernel
theorem d_MD_group_4 : decode b_MD_group 4 = .ok (.aload_n 0, 1) := by decide +kernel
theorem d_MD_group_5 : decode b_MD_group 5 = .ok (.iload_n 1, 1) := by decide +kernel
theorem d_MD_group_6 : decode b_MD_group 6 = .ok (.iload_n 2, 1) := by decide +kernel
theorem d_MD_group_7 : decode b_MD_group 7 = .ok (.iload_n 2, 1) := by decide +kernel
theorem d_MD_group_8 : decode b_MD_group 8 = .ok (.i2l, 1) := by decide +kernel
theorem d_MD_group_9 : decode b_MD_group 9 = .ok (.lconst 0, 1) := by decide +kernel
theorem d_MD_group_10 : decode b_MD_group 10 = .ok (.ldc2_w 61, 3) := by decide +kernel
theorem d_MD_group_13 : decode b_MD_group 13 = .ok (.invokestatic 53, 3) := by decide +kernel
theorem d_MD_group_16 : decode b_MD_group 16 = .ok (.invokevirtual 92, 3) := by decide +kernel
theorem d_MD_group_19 : decode b_MD_group 19 = .ok (.lreturn, 1) := by decide +kernel
theorem d_MD_hull_0 : decode b_MD_hull 0 = .ok (.aload_n 0, 1) := by decide +kernel
theorem d_MD_hull_1 : decode b_MD_hull 1 = .ok (.invokevirtual 96, 3) := by decide +kernel
theorem d_MD_hull_4 : decode b_MD_hull 4 = .ok (.aload_n 0, 1) := by decide +kernel
theorem d_MD_hull_5 : decode b_MD_hull 5 = .ok (.iload_n 1, 1) := by decide +kernel
theorem d_MD_hull_6 : decode b_MD_hull 6 = .ok (.iload_n 2, 1) := by decide +kernel
theorem d_MD_hull_7 : decode b_MD_hull 7 = .ok (.iload_n 2, 1) := by decide +kernel
theorem d_MD_hull_8 : decode b_MD_hull 8 = .ok (.i2l, 1) := by decide +kernel
theorem d_MD_hull_9 : decode b_MD_hull 9 = .ok (.lconst 0, 1) := by decide +kernel
theorem d_MD_hull_10 : decode b_MD_hull 10 = .ok (.ldc2_w 61, 3) := by decide +kernel
theorem d_MD_hull_13 : decode b_MD_hull 13 = .ok (.invokestatic 53, 3) := by decide +kernel
theorem d_MD_hull_16 : decode b_MD_hull 16 = .ok (.invokevirtual 92, 3) := by decide +kernel
theorem d_MD_hull_19 : decode b_MD_hull 19 = .ok (.lreturn, 1) := by decide +kernel
theorem d_MD_divisor_0 : decode b_MD_divisor 0 = .ok (.lload_n 0, 1) := by decide +kernel
theorem d_MD_divisor_1 : decode b_MD_divisor 1 = .ok (.lconst 0, 1) := by decide +kernel
theorem d_MD_divisor_2 : decode b_MD_divisor 2 = .ok (.lcmp, 1) := by decide +kernel
theorem d_MD_divisor_3 : decode b_MD_divisor 3 = .ok (.ifCond .ge 8, 3) := by decide +kernel
theorem d_MD_divisor_6 : decode b_MD_divisor 6 = .ok (.lload_n 0, 1) := by decide +kernel
theorem d_MD_divisor_7 : decode b_MD_divisor 7 = .ok (.lneg, 1) := by decide +kernel
theorem d_MD_divisor_8 : decode b_MD_divisor 8 = .ok (.goto 4, 3) := by decide +kernel
theorem d_MD_divisor_11 : decode b_MD_divisor 11 = .ok (.lload_n 0, 1) := by decide +kernel
theorem d_MD_divisor_12 : decode b_MD_divisor 12 = .ok (.lstore 4, 2) := by decide +kernel
theorem d_MD_divisor_14 : decode b_MD_divisor 14 = .ok (.lload_n 2, 1) := by decide +kernel
theorem d_MD_divisor_15 : decode b_MD_divisor 15 = .ok (.lconst 0, 1) := by decide +kernel
theorem d_MD_divisor_16 : decode b_MD_divisor 16 = .ok (.lcmp, 1) := by decide +kernel
theorem d_MD_divisor_17 : decode b_MD_divisor 17 = .ok (.ifCond .ge 8, 3) := by decide +kernel
theorem d_MD_divisor_20 : decode b_MD_divisor 20 = .ok (.lload_n 2, 1) := by decide +kernel
theorem d_MD_divisor_21 : decode b_MD_divisor 21 = .ok (.lneg, 1) := by decide +kernel
theorem d_MD_divisor_22 : decode b_MD_divisor 22 = .ok (.goto 4, 3) := by decide +kernel
theorem d_MD_divisor_25 : decode b_MD_divisor 25 = .ok (.lload_n 2, 1) := by decide +kernel
theorem d_MD_divisor_26 : decode b_MD_divisor 26 = .ok (.lstore 6, 2) := by decide +kernel
theorem d_MD_divisor_28 : decode b_MD_divisor 28 = .ok (.lload 6, 2) := by decide +kernel
theorem d_MD_divisor_30 : decode b_MD_divisor 30 = .ok (.lconst 0, 1) := by decide +kernel
theorem d_MD_divisor_31 : decode b_MD_divisor 31 = .ok (.lcmp, 1) := by decide +kernel
theorem d_MD_divisor_32 : decode b_MD_divisor 32 = .ok (.ifCond .eq 21, 3) := by decide +kernel
theorem d_MD_divisor_35 : decode b_MD_divisor 35 = .ok (.lload 4, 2) := by decide +kernel
theorem d_MD_divisor_37 : decode b_MD_divisor 37 = .ok (.lload 6, 2) := by decide +kernel
theorem d_MD_divisor_39 : decode b_MD_divisor 39 = .ok (.lrem, 1) := by decide +kernel
theorem d_MD_divisor_40 : decode b_MD_divisor 40 = .ok (.lstore 8, 2) := by decide +kernel
theorem d_MD_divisor_42 : decode b_MD_divisor 42 = .ok (.lload 6, 2) := by decide +kernel
theorem d_MD_divisor_44 : decode b_MD_divisor 44 = .ok (.lstore 4, 2) := by decide +kernel
theorem d_MD_divisor_46 : decode b_MD_divisor 46 = .ok (.lload 8, 2) := by decide +kernel
theorem d_MD_divisor_48 : decode b_MD_divisor 48 = .ok (.lstore 6, 2) := by decide +kernel
theorem d_MD_divisor_50 : decode b_MD_divisor 50 = .ok (.goto (-22), 3) := by decide +kernel
theorem d_MD_divisor_53 : decode b_MD_divisor 53 = .ok (.lload 4, 2) := by decide +kernel
theorem d_MD_divisor_55 : decode b_MD_divisor 55 = .ok (.lreturn, 1) := by decide +kernel
theorem d_MD_bits_0 : decode b_MD_bits 0 = .ok (.iload_n 0, 1) := by decide +kernel
theorem d_MD_bits_1 : decode b_MD_bits 1 = .ok (.iconst 1, 1) := by decide +kernel
theorem d_MD_bits_2 : decode b_MD_bits 2 = .ok (.iand, 1) := by decide +kernel
theorem d_MD_bits_3 : decode b_MD_bits 3 = .ok (.iload_n 0, 1) := by decide +kernel
theorem d_MD_bits_4 : decode b_MD_bits 4 = .ok (.iconst 1, 1) := by decide +kernel
theorem d_MD_bits_5 : decode b_MD_bits 5 = .ok (.ishr, 1) := by decide +kernel
theorem d_MD_bits_6 : decode b_MD_bits 6 = .ok (.iconst 1, 1) := by decide +kernel
theorem d_MD_bits_7 : decode b_MD_bits 7 = .ok (.iand, 1) := by decide +kernel
theorem d_MD_bits_8 : decode b_MD_bits 8 = .ok (.iadd, 1) := by decide +kernel
theorem d_MD_bits_9 : decode b_MD_bits 9 = .ok (.iload_n 0, 1) := by decide +kernel
theorem d_MD_bits_10 : decode b_MD_bits 10 = .ok (.iconst 2, 1) := by decide +kernel
theorem d_MD_bits_11 : decode b_MD_bits 11 = .ok (.ishr, 1) := by decide +kernel
theorem d_MD_bits_12 : decode b_MD_bits 12 = .ok (.iconst 1, 1) := by decide +kernel
theorem d_MD_bits_13 : decode b_MD_bits 13 = .ok (.iand, 1) := by decide +kernel
theorem d_MD_bits_14 : decode b_MD_bits 14 = .ok (.iadd, 1) := by decide +kernel
theorem d_MD_bits_15 : decode b_MD_bits 15 = .ok (.iload_n 0, 1) := by decide +kernel
theorem d_MD_bits_16 : decode b_MD_bits 16 = .ok (.iconst 3, 1) := by decide +kernel
theorem d_MD_bits_17 : decode b_MD_bits 17 = .ok (.ishr, 1) := by decide +kernel
theorem d_MD_bits_18 : decode b_MD_bits 18 = .ok (.iconst 1, 1) := by decide +kernel
theorem d_MD_bits_19 : decode b_MD_bits 19 = .ok (.iand, 1) := by decide +kernel
theorem d_MD_bits_20 : decode b_MD_bits 20 = .ok (.iadd, 1) := by decide +kernel
theorem d_MD_bits_21 : decode b_MD_bits 21 = .ok (.ireturn, 1) := by decide +kernel
theorem d_MD_minor_0 : decode b_MD_minor 0 = .ok (.iload_n 1, 1) := by decide +kernel
theorem d_MD_minor_1 : decode b_MD_minor 1 = .ok (.ifCond .ne 5, 3) := by decide +kernel
theorem d_MD_minor_4 : decode b_MD_minor 4 = .ok (.lconst 1, 1) := by decide +kernel
theorem d_MD_minor_5 : decode b_MD_minor 5 = .ok (.lreturn, 1) := by decide +kernel
theorem d_MD_minor_6 : decode b_MD_minor 6 = .ok (.iload_n 1, 1) := by decide +kernel
theorem d_MD_minor_7 : decode b_MD_minor 7 = .ok (.aload_n 0, 1) := by decide +kernel
theorem d_MD_minor_8 : decode b_MD_minor 8 = .ok (.getfield 46, 3) := by decide +kernel
theorem d_MD_minor_11 : decode b_MD_minor 11 = .ok (.ishr, 1) := by decide +kernel
theorem d_MD_minor_12 : decode b_MD_minor 12 = .ok (.ifCond .eq 5, 3) := by decide +kernel
theorem d_MD_minor_15 : decode b_MD_minor 15 = .ok (.lconst 0, 1) := by decide +kernel
theorem d_MD_minor_16 : decode b_MD_minor 16 = .ok (.lreturn, 1) := by decide +kernel
theorem d_MD_minor_17 : decode b_MD_minor 17 = .ok (.iconst 0, 1) := by decide +kernel
theorem d_MD_minor_18 : decode b_MD_minor 18 = .ok (.istore_n 3, 1) := by decide +kernel
theorem d_MD_minor_19 : decode b_MD_minor 19 = .ok (.iload_n 1, 1) := by decide +kernel
theorem d_MD_minor_20 : decode b_MD_minor 20 = .ok (.iload_n 3, 1) := by decide +kernel
theorem d_MD_minor_21 : decode b_MD_minor 21 = .ok (.ishr, 1) := by decide +kernel
theorem d_MD_minor_22 : decode b_MD_minor 22 = .ok (.iconst 1, 1) := by decide +kernel
theorem d_MD_minor_23 : decode b_MD_minor 23 = .ok (.iand, 1) := by decide +kernel
theorem d_MD_minor_24 : decode b_MD_minor 24 = .ok (.ifCond .ne 9, 3) := by decide +kernel
theorem d_MD_minor_27 : decode b_MD_minor 27 = .ok (.iinc 3 1, 3) := by decide +kernel
theorem d_MD_minor_30 : decode b_MD_minor 30 = .ok (.goto (-11), 3) := by decide +kernel
theorem d_MD_minor_33 : decode b_MD_minor 33 = .ok (.lconst 0, 1) := by decide +kernel
theorem d_MD_minor_34 : decode b_MD_minor 34 = .ok (.lstore 4, 2) := by decide +kernel
theorem d_MD_minor_36 : decode b_MD_minor 36 = .ok (.lconst 1, 1) := by decide +kernel
theorem d_MD_minor_37 : decode b_MD_minor 37 = .ok (.lstore 6, 2) := by decide +kernel
theorem d_MD_minor_39 : decode b_MD_minor 39 = .ok (.iconst 0, 1) := by decide +kernel
theorem d_MD_minor_40 : decode b_MD_minor 40 = .ok (.istore 8, 2) := by decide +kernel
theorem d_MD_minor_42 : decode b_MD_minor 42 = .ok (.iload 8, 2) := by decide +kernel
theorem d_MD_minor_44 : decode b_MD_minor 44 = .ok (.iconst 4, 1) := by decide +kernel
theorem d_MD_minor_45 : decode b_MD_minor 45 = .ok (.if_icmp .ge 67, 3) := by decide +kernel
theorem d_MD_minor_48 : decode b_MD_minor 48 = .ok (.iload_n 2, 1) := by decide +kernel
theorem d_MD_minor_49 : decode b_MD_minor 49 = .ok (.iload 8, 2) := by decide +kernel
theorem d_MD_minor_51 : decode b_MD_minor 51 = .ok (.ishr, 1) := by decide +kernel
theorem d_MD_minor_52 : decode b_MD_minor 52 = .ok (.iconst 1, 1) := by decide +kernel
theorem d_MD_minor_53 : decode b_MD_minor 53 = .ok (.iand, 1) := by decide +kernel
theorem d_MD_minor_54 : decode b_MD_minor 54 = .ok (.ifCond .ne 6, 3) := by decide +kernel
theorem d_MD_minor_57 : decode b_MD_minor 57 = .ok (.goto 49, 3) := by decide +kernel
theorem d_MD_minor_60 : decode b_MD_minor 60 = .ok (.lload 4, 2) := by decide +kernel
theorem d_MD_minor_62 : decode b_MD_minor 62 = .ok (.lload 6, 2) := by decide +kernel
theorem d_MD_minor_64 : decode b_MD_minor 64 = .ok (.aload_n 0, 1) := by decide +kernel
theorem d_MD_minor_65 : decode b_MD_minor 65 = .ok (.getfield 7, 3) := by decide +kernel
theorem d_MD_minor_68 : decode b_MD_minor 68 = .ok (.iconst 4, 1) := by decide +kernel
theorem d_MD_minor_69 : decode b_MD_minor 69 = .ok (.iload_n 3, 1) := by decide +kernel
theorem d_MD_minor_70 : decode b_MD_minor 70 = .ok (.imul, 1) := by decide +kernel
theorem d_MD_minor_71 : decode b_MD_minor 71 = .ok (.iload 8, 2) := by decide +kernel
theorem d_MD_minor_73 : decode b_MD_minor 73 = .ok (.iadd, 1) := by decide +kernel
theorem d_MD_minor_74 : decode b_MD_minor 74 = .ok (.iaload, 1) := by decide +kernel
theorem d_MD_minor_75 : decode b_MD_minor 75 = .ok (.i2l, 1) := by decide +kernel
theorem d_MD_minor_76 : decode b_MD_minor 76 = .ok (.lmul, 1) := by decide +kernel
theorem d_MD_minor_77 : decode b_MD_minor 77 = .ok (.aload_n 0, 1) := by decide +kernel
theorem d_MD_minor_78 : decode b_MD_minor 78 = .ok (.getfield 39, 3) := by decide +kernel
theorem d_MD_minor_81 : decode b_MD_minor 81 = .ok (.bipush 16, 2) := by decide +kernel
theorem d_MD_minor_83 : decode b_MD_minor 83 = .ok (.iload_n 1, 1) := by decide +kernel
theorem d_MD_minor_84 : decode b_MD_minor 84 = .ok (.iconst 1, 1) := by decide +kernel
theorem d_MD_minor_85 : decode b_MD_minor 85 = .ok (.iload_n 3, 1) := by decide +kernel
theorem d_MD_minor_86 : decode b_MD_minor 86 = .ok (.ishl, 1) := by decide +kernel
theorem d_MD_minor_87 : decode b_MD_minor 87 = .ok (.isub, 1) := by decide +kernel
theorem d_MD_minor_88 : decode b_MD_minor 88 = .ok (.imul, 1) := by decide +kernel
theorem d_MD_minor_89 : decode b_MD_minor 89 = .ok (.iload_n 2, 1) := by decide +kernel
theorem d_MD_minor_90 : decode b_MD_minor 90 = .ok (.iadd, 1) := by decide +kernel
theorem d_MD_minor_91 : decode b_MD_minor 91 = .ok (.iconst 1, 1) := by decide +kernel
theorem d_MD_minor_92 : decode b_MD_minor 92 = .ok (.iload 8, 2) := by decide +kernel
theorem d_MD_minor_94 : decode b_MD_minor 94 = .ok (.ishl, 1) := by decide +kernel
theorem d_MD_minor_95 : decode b_MD_minor 95 = .ok (.isub, 1) := by decide +kernel
theorem d_MD_minor_96 : decode b_MD_minor 96 = .ok (.laload, 1) := by decide +kernel
theorem d_MD_minor_97 : decode b_MD_minor 97 = .ok (.lmul, 1) := by decide +kernel
theorem d_MD_minor_98 : decode b_MD_minor 98 = .ok (.ladd, 1) := by decide +kernel
theorem d_MD_minor_99 : decode b_MD_minor 99 = .ok (.lstore 4, 2) := by decide +kernel
theorem d_MD_minor_101 : decode b_MD_minor 101 = .ok (.lload 6, 2) := by decide +kernel
theorem d_MD_minor_103 : decode b_MD_minor 103 = .ok (.lneg, 1) := by decide +kernel
theorem d_MD_minor_104 : decode b_MD_minor 104 = .ok (.lstore 6, 2) := by decide +kernel
theorem d_MD_minor_106 : decode b_MD_minor 106 = .ok (.iinc 8 1, 3) := by decide +kernel
theorem d_MD_minor_109 : decode b_MD_minor 109 = .ok (.goto (-67), 3) := by decide +kernel
theorem d_MD_minor_112 : decode b_MD_minor 112 = .ok (.lload 4, 2) := by decide +kernel
theorem d_MD_minor_114 : decode b_MD_minor 114 = .ok (.lreturn, 1) := by decide +kernel
theorem d_MD_common_0 : decode b_MD_common 0 = .ok (.lconst 0, 1) := by decide +kernel
theorem d_MD_common_1 : decode b_MD_common 1 = .ok (.lstore_n 2, 1) := by decide +kernel
theorem d_MD_common_2 : decode b_MD_common 2 = .ok (.iconst 0, 1) := by decide +kernel
theorem d_MD_common_3 : decode b_MD_common 3 = .ok (.istore 4, 2) := by decide +kernel
theorem d_MD_common_5 : decode b_MD_common 5 = .ok (.iload 4, 2) := by decide +kernel
theorem d_MD_common_7 : decode b_MD_common 7 = .ok (.bipush 16, 2) := by decide +kernel
theorem d_MD_common_9 : decode b_MD_common 9 = .ok (.if_icmp .ge 89, 3) := by decide +kernel
theorem d_MD_common_12 : decode b_MD_common 12 = .ok (.iconst 0, 1) := by decide +kernel
theorem d_MD_common_13 : decode b_MD_common 13 = .ok (.istore 5, 2) := by decide +kernel
theorem d_MD_common_15 : decode b_MD_common 15 = .ok (.iload 5, 2) := by decide +kernel
theorem d_MD_common_17 : decode b_MD_common 17 = .ok (.bipush 16, 2) := by decide +kernel
theorem d_MD_common_19 : decode b_MD_common 19 = .ok (.if_icmp .ge 73, 3) := by decide +kernel
theorem d_MD_common_22 : decode b_MD_common 22 = .ok (.iload 4, 2) := by decide +kernel
theorem d_MD_common_24 : decode b_MD_common 24 = .ok (.invokestatic 99, 3) := by decide +kernel
theorem d_MD_common_27 : decode b_MD_common 27 = .ok (.iload 5, 2) := by decide +kernel
theorem d_MD_common_29 : decode b_MD_common 29 = .ok (.invokestatic 99, 3) := by decide +kernel
theorem d_MD_common_32 : decode b_MD_common 32 = .ok (.if_icmp .eq 6, 3) := by decide +kernel
theorem d_MD_common_35 : decode b_MD_common 35 = .ok (.goto 51, 3) := by decide +kernel
theorem d_MD_common_38 : decode b_MD_common 38 = .ok (.aload_n 0, 1) := by decide +kernel
theorem d_MD_common_39 : decode b_MD_common 39 = .ok (.getfield 39, 3) := by decide +kernel
theorem d_MD_common_42 : decode b_MD_common 42 = .ok (.bipush 16, 2) := by decide +kernel
theorem d_MD_common_44 : decode b_MD_common 44 = .ok (.iload 4, 2) := by decide +kernel
theorem d_MD_common_46 : decode b_MD_common 46 = .ok (.imul, 1) := by decide +kernel
theorem d_MD_common_47 : decode b_MD_common 47 = .ok (.iload 5, 2) := by decide +kernel
theorem d_MD_common_49 : decode b_MD_common 49 = .ok (.iadd, 1) := by decide +kernel
theorem d_MD_common_50 : decode b_MD_common 50 = .ok (.aload_n 0, 1) := by decide +kernel
theorem d_MD_common_51 : decode b_MD_common 51 = .ok (.iload 4, 2) := by decide +kernel
theorem d_MD_common_53 : decode b_MD_common 53 = .ok (.iload 5, 2) := by decide +kernel
theorem d_MD_common_55 : decode b_MD_common 55 = .ok (.invokevirtual 103, 3) := by decide +kernel
theorem d_MD_common_58 : decode b_MD_common 58 = .ok (.lastore, 1) := by decide +kernel
theorem d_MD_common_59 : decode b_MD_common 59 = .ok (.iload 4, 2) := by decide +kernel
theorem d_MD_common_61 : decode b_MD_common 61 = .ok (.invokestatic 99, 3) := by decide +kernel
theorem d_MD_common_64 : decode b_MD_common 64 = .ok (.iload_n 1, 1) := by decide +kernel
theorem d_MD_common_65 : decode b_MD_common 65 = .ok (.if_icmp .ne 21, 3) := by decide +kernel
theorem d_MD_common_68 : decode b_MD_common 68 = .ok (.lload_n 2, 1) := by decide +kernel
theorem d_MD_common_69 : decode b_MD_common 69 = .ok (.aload_n 0, 1) := by decide +kernel
theorem d_MD_common_70 : decode b_MD_common 70 = .ok (.getfield 39, 3) := by decide +kernel
theorem d_MD_common_73 : decode b_MD_common 73 = .ok (.bipush 16, 2) := by decide +kernel
theorem d_MD_common_75 : decode b_MD_common 75 = .ok (.iload 4, 2) := by decide +kernel
theorem d_MD_common_77 : decode b_MD_common 77 = .ok (.imul, 1) := by decide +kernel
theorem d_MD_common_78 : decode b_MD_common 78 = .ok (.iload 5, 2) := by decide +kernel
theorem d_MD_common_80 : decode b_MD_common 80 = .ok (.iadd, 1) := by decide +kernel
theorem d_MD_common_81 : decode b_MD_common 81 = .ok (.laload, 1) := by decide +kernel
theorem d_MD_common_82 : decode b_MD_common 82 = .ok (.invokestatic 107, 3) := by decide +kernel
theorem d_MD_common_85 : decode b_MD_common 85 = .ok (.lstore_n 2, 1) := by decide +kernel
theorem d_MD_common_86 : decode b_MD_common 86 = .ok (.iinc 5 1, 3) := by decide +kernel
theorem d_MD_common_89 : decode b_MD_common 89 = .ok (.goto (-74), 3) := by decide +kernel
theorem d_MD_common_92 : decode b_MD_common 92 = .ok (.iinc 4 1, 3) := by decide +kernel
theorem d_MD_common_95 : decode b_MD_common 95 = .ok (.goto (-90), 3) := by decide +kernel
theorem d_MD_common_98 : decode b_MD_common 98 = .ok (.lload_n 2, 1) := by decide +kernel
theorem d_MD_common_99 : decode b_MD_common 99 = .ok (.lreturn, 1) := by decide +kernel
theorem d_MD_factor_0 : decode b_MD_factor 0 = .ok (.aload_n 0, 1) := by decide +kernel
theorem d_MD_factor_1 : decode b_MD_factor 1 = .ok (.invokevirtual 86, 3) := by decide +kernel
theorem d_MD_factor_4 : decode b_MD_factor 4 = .ok (.aload_n 0, 1) := by decide +kernel
theorem d_MD_factor_5 : decode b_MD_factor 5 = .ok (.iload_n 1, 1) := by decide +kernel
theorem d_MD_factor_6 : decode b_MD_factor 6 = .ok (.i2l, 1) := by decide +kernel
theorem d_MD_factor_7 : decode b_MD_factor 7 = .ok (.lconst 0, 1) := by decide +kernel
theorem d_MD_factor_8 : decode b_MD_factor 8 = .ok (.aload_n 0, 1) := by decide +kernel
theorem d_MD_factor_9 : decode b_MD_factor 9 = .ok (.getfield 70, 3) := by decide +kernel
theorem d_MD_factor_12 : decode b_MD_factor 12 = .ok (.iconst 1, 1) := by decide +kernel
theorem d_MD_factor_13 : decode b_MD_factor 13 = .ok (.isub, 1) := by decide +kernel
theorem d_MD_factor_14 : decode b_MD_factor 14 = .ok (.i2l, 1) := by decide +kernel
theorem d_MD_factor_15 : decode b_MD_factor 15 = .ok (.invokestatic 53, 3) := by decide +kernel
theorem d_MD_factor_18 : decode b_MD_factor 18 = .ok (.ifCond .eq 7, 3) := by decide +kernel
theorem d_MD_factor_21 : decode b_MD_factor 21 = .ok (.iconst 0, 1) := by decide +kernel
theorem d_MD_factor_22 : decode b_MD_factor 22 = .ok (.goto 4, 3) := by decide +kernel
theorem d_MD_factor_25 : decode b_MD_factor 25 = .ok (.iconst 1, 1) := by decide +kernel
theorem d_MD_factor_26 : decode b_MD_factor 26 = .ok (.putfield 42, 3) := by decide +kernel
theorem d_MD_factor_29 : decode b_MD_factor 29 = .ok (.aload_n 0, 1) := by decide +kernel
theorem d_MD_factor_30 : decode b_MD_factor 30 = .ok (.getfield 42, 3) := by decide +kernel
theorem d_MD_factor_33 : decode b_MD_factor 33 = .ok (.ifCond .le 7, 3) := by decide +kernel
theorem d_MD_factor_36 : decode b_MD_factor 36 = .ok (.lconst 0, 1) := by decide +kernel
theorem d_MD_factor_37 : decode b_MD_factor 37 = .ok (.goto 16, 3) := by decide +kernel
theorem d_MD_factor_40 : decode b_MD_factor 40 = .ok (.aload_n 0, 1) := by decide +kernel
theorem d_MD_factor_41 : decode b_MD_factor 41 = .ok (.iload_n 1, 1) := by decide +kernel
theorem d_MD_factor_42 : decode b_MD_factor 42 = .ok (.iconst 1, 1) := by decide +kernel
theorem d_MD_factor_43 : decode b_MD_factor 43 = .ok (.iadd, 1) := by decide +kernel
theorem d_MD_factor_44 : decode b_MD_factor 44 = .ok (.invokevirtual 111, 3) := by decide +kernel
theorem d_MD_factor_47 : decode b_MD_factor 47 = .ok (.aload_n 0, 1) := by decide +kernel
theorem d_MD_factor_48 : decode b_MD_factor 48 = .ok (.iload_n 1, 1) := by decide +kernel
theorem d_MD_factor_49 : decode b_MD_factor 49 = .ok (.invokevirtual 111, 3) := by decide +kernel
theorem d_MD_factor_52 : decode b_MD_factor 52 = .ok (.ldiv, 1) := by decide +kernel
theorem d_MD_factor_53 : decode b_MD_factor 53 = .ok (.lreturn, 1) := by decide +kernel
theorem d_MD_isIn_0 : decode b_MD_isIn 0 = .ok (.aload_n 0, 1) := by decide +kernel
theorem d_MD_isIn_1 : decode b_MD_isIn 1 = .ok (.getfield 36, 3) := by decide +kernel
theorem d_MD_isIn_4 : decode b_MD_isIn 4 = .ok (.iconst 0, 1) := by decide +kernel
theorem d_MD_isIn_5 : decode b_MD_isIn 5 = .ok (.iload_n 1, 1) := by decide +kernel
theorem d_MD_isIn_6 : decode b_MD_isIn 6 = .ok (.i2l, 1) := by decide +kernel
theorem d_MD_isIn_7 : decode b_MD_isIn 7 = .ok (.iload_n 2, 1) := by decide +kernel
theorem d_MD_isIn_8 : decode b_MD_isIn 8 = .ok (.i2l, 1) := by decide +kernel
theorem d_MD_isIn_9 : decode b_MD_isIn 9 = .ok (.lmul, 1) := by decide +kernel
theorem d_MD_isIn_10 : decode b_MD_isIn 10 = .ok (.lastore, 1) := by decide +kernel
theorem d_MD_isIn_11 : decode b_MD_isIn 11 = .ok (.aload_n 0, 1) := by decide +kernel
theorem d_MD_isIn_12 : decode b_MD_isIn 12 = .ok (.getfield 36, 3) := by decide +kernel
theorem d_MD_isIn_15 : decode b_MD_isIn 15 = .ok (.iconst 1, 1) := by decide +kernel
theorem d_MD_isIn_16 : decode b_MD_isIn 16 = .ok (.iload_n 1, 1) := by decide +kernel
theorem d_MD_isIn_17 : decode b_MD_isIn 17 = .ok (.i2l, 1) := by decide +kernel
theorem d_MD_isIn_18 : decode b_MD_isIn 18 = .ok (.iload_n 3, 1) := by decide +kernel
theorem d_MD_isIn_19 : decode b_MD_isIn 19 = .ok (.i2l, 1) := by decide +kernel
theorem d_MD_isIn_20 : decode b_MD_isIn 20 = .ok (.lmul, 1) := by decide +kernel
theorem d_MD_isIn_21 : decode b_MD_isIn 21 = .ok (.lastore, 1) := by decide +kernel
theorem d_MD_isIn_22 : decode b_MD_isIn 22 = .ok (.aload_n 0, 1) := by decide +kernel
theorem d_MD_isIn_23 : decode b_MD_isIn 23 = .ok (.getfield 36, 3) := by decide +kernel
theorem d_MD_isIn_26 : decode b_MD_isIn 26 = .ok (.iconst 2, 1) := by decide +kernel
theorem d_MD_isIn_27 : decode b_MD_isIn 27 = .ok (.iload_n 1, 1) := by decide +kernel
theorem d_MD_isIn_28 : decode b_MD_isIn 28 = .ok (.i2l, 1) := by decide +kernel
theorem d_MD_isIn_29 : decode b_MD_isIn 29 = .ok (.iload 4, 2) := by decide +kernel
theorem d_MD_isIn_31 : decode b_MD_isIn 31 = .ok (.i2l, 1) := by decide +kernel
theorem d_MD_isIn_32 : decode b_MD_isIn 32 = .ok (.lmul, 1) := by decide +kernel
theorem d_MD_isIn_33 : decode b_MD_isIn 33 = .ok (.lastore, 1) := by decide +kernel
theorem d_MD_isIn_34 : decode b_MD_isIn 34 = .ok (.aload_n 0, 1) := by decide +kernel
theorem d_MD_isIn_35 : decode b_MD_isIn 35 = .ok (.getfield 36, 3) := by decide +kernel
theorem d_MD_isIn_38 : decode b_MD_isIn 38 = .ok (.iconst 3, 1) := by decide +kernel
theorem d_MD_isIn_39 : decode b_MD_isIn 39 = .ok (.iload_n 1, 1) := by decide +kernel
theorem d_MD_isIn_40 : decode b_MD_isIn 40 = .ok (.i2l, 1) := by decide +kernel
theorem d_MD_isIn_41 : decode b_MD_isIn 41 = .ok (.iload 5, 2) := by decide +kernel
theorem d_MD_isIn_43 : decode b_MD_isIn 43 = .ok (.i2l, 1) := by decide +kernel
theorem d_MD_isIn_44 : decode b_MD_isIn 44 = .ok (.lmul, 1) := by decide +kernel
theorem d_MD_isIn_45 : decode b_MD_isIn 45 = .ok (.lastore, 1) := by decide +kernel
theorem d_MD_isIn_46 : decode b_MD_isIn 46 = .ok (.iconst 0, 1) := by decide +kernel
theorem d_MD_isIn_47 : decode b_MD_isIn 47 = .ok (.istore 6, 2) := by decide +kernel
theorem d_MD_isIn_49 : decode b_MD_isIn 49 = .ok (.iload 6, 2) := by decide +kernel
theorem d_MD_isIn_51 : decode b_MD_isIn 51 = .ok (.aload_n 0, 1) := by decide +kernel
theorem d_MD_isIn_52 : decode b_MD_isIn 52 = .ok (.getfield 70, 3) := by decide +kernel
theorem d_MD_isIn_55 : decode b_MD_isIn 55 = .ok (.if_icmp .ge 135, 3) := by decide +kernel
theorem d_MD_isIn_58 : decode b_MD_isIn 58 = .ok (.iconst 0, 1) := by decide +kernel
theorem d_MD_isIn_59 : decode b_MD_isIn 59 = .ok (.istore 7, 2) := by decide +kernel
theorem d_MD_isIn_61 : decode b_MD_isIn 61 = .ok (.aload_n 0, 1) := by decide +kernel
theorem d_MD_isIn_62 : decode b_MD_isIn 62 = .ok (.getfield 27, 3) := by decide +kernel
theorem d_MD_isIn_65 : decode b_MD_isIn 65 = .ok (.iconst 4, 1) := by decide +kernel
theorem d_MD_isIn_66 : decode b_MD_isIn 66 = .ok (.iload 6, 2) := by decide +kernel
theorem d_MD_isIn_68 : decode b_MD_isIn 68 = .ok (.imul, 1) := by decide +kernel
theorem d_MD_isIn_69 : decode b_MD_isIn 69 = .ok (.iload 7, 2) := by decide +kernel
theorem d_MD_isIn_71 : decode b_MD_isIn 71 = .ok (.iadd, 1) := by decide +kernel
theorem d_MD_isIn_72 : decode b_MD_isIn 72 = .ok (.laload, 1) := by decide +kernel
theorem d_MD_isIn_73 : decode b_MD_isIn 73 = .ok (.lconst 0, 1) := by decide +kernel
theorem d_MD_isIn_74 : decode b_MD_isIn 74 = .ok (.lcmp, 1) := by decide +kernel
theorem d_MD_isIn_75 : decode b_MD_isIn 75 = .ok (.ifCond .ne 9, 3) := by decide +kernel
theorem d_MD_isIn_78 : decode b_MD_isIn 78 = .ok (.iinc 7 1, 3) := by decide +kernel
theorem d_MD_isIn_81 : decode b_MD_isIn 81 = .ok (.goto (-20), 3) := by decide +kernel
theorem d_MD_isIn_84 : decode b_MD_isIn 84 = .ok (.aload_n 0, 1) := by decide +kernel
theorem d_MD_isIn_85 : decode b_MD_isIn 85 = .ok (.getfield 36, 3) := by decide +kernel
theorem d_MD_isIn_88 : decode b_MD_isIn 88 = .ok (.iload 7, 2) := by decide +kernel
theorem d_MD_isIn_90 : decode b_MD_isIn 90 = .ok (.laload, 1) := by decide +kernel
theorem d_MD_isIn_91 : decode b_MD_isIn 91 = .ok (.aload_n 0, 1) := by decide +kernel
theorem d_MD_isIn_92 : decode b_MD_isIn 92 = .ok (.getfield 27, 3) := by decide +kernel
theorem d_MD_isIn_95 : decode b_MD_isIn 95 = .ok (.iconst 4, 1) := by decide +kernel
theorem d_MD_isIn_96 : decode b_MD_isIn 96 = .ok (.iload 6, 2) := by decide +kernel
theorem d_MD_isIn_98 : decode b_MD_isIn 98 = .ok (.imul, 1) := by decide +kernel
theorem d_MD_isIn_99 : decode b_MD_isIn 99 = .ok (.iload 7, 2) := by decide +kernel
theorem d_MD_isIn_101 : decode b_MD_isIn 101 = .ok (.iadd, 1) := by decide +kernel
theorem d_MD_isIn_102 : decode b_MD_isIn 102 = .ok (.laload, 1) := by decide +kernel
theorem d_MD_isIn_103 : decode b_MD_isIn 103 = .ok (.lrem, 1) := by decide +kernel
theorem d_MD_isIn_104 : decode b_MD_isIn 104 = .ok (.lconst 0, 1) := by decide +kernel
theorem d_MD_isIn_105 : decode b_MD_isIn 105 = .ok (.lcmp, 1) := by decide +kernel
theorem d_MD_isIn_106 : decode b_MD_isIn 106 = .ok (.ifCond .eq 5, 3) := by decide +kernel
theorem d_MD_isIn_109 : decode b_MD_isIn 109 = .ok (.iconst 0, 1) := by decide +kernel
theorem d_MD_isIn_110 : decode b_MD_isIn 110 = .ok (.ireturn, 1) := by decide +kernel
theorem d_MD_isIn_111 : decode b_MD_isIn 111 = .ok (.aload_n 0, 1) := by decide +kernel
theorem d_MD_isIn_112 : decode b_MD_isIn 112 = .ok (.getfield 33, 3) := by decide +kernel
theorem d_MD_isIn_115 : decode b_MD_isIn 115 = .ok (.iload 6, 2) := by decide +kernel
theorem d_MD_isIn_117 : decode b_MD_isIn 117 = .ok (.aload_n 0, 1) := by decide +kernel
theorem d_MD_isIn_118 : decode b_MD_isIn 118 = .ok (.getfield 36, 3) := by decide +kernel
theorem d_MD_isIn_121 : decode b_MD_isIn 121 = .ok (.iload 7, 2) := by decide +kernel
theorem d_MD_isIn_123 : decode b_MD_isIn 123 = .ok (.laload, 1) := by decide +kernel
theorem d_MD_isIn_124 : decode b_MD_isIn 124 = .ok (.aload_n 0, 1) := by decide +kernel
theorem d_MD_isIn_125 : decode b_MD_isIn 125 = .ok (.getfield 27, 3) := by decide +kernel
theorem d_MD_isIn_128 : decode b_MD_isIn 128 = .ok (.iconst 4, 1) := by decide +kernel
theorem d_MD_isIn_129 : decode b_MD_isIn 129 = .ok (.iload 6, 2) := by decide +kernel
theorem d_MD_isIn_131 : decode b_MD_isIn 131 = .ok (.imul, 1) := by decide +kernel
theorem d_MD_isIn_132 : decode b_MD_isIn 132 = .ok (.iload 7, 2) := by decide +kernel
theorem d_MD_isIn_134 : decode b_MD_isIn 134 = .ok (.iadd, 1) := by decide +kernel
theorem d_MD_isIn_135 : decode b_MD_isIn 135 = .ok (.laload, 1) := by decide +kernel
theorem d_MD_isIn_136 : decode b_MD_isIn 136 = .ok (.ldiv, 1) := by decide +kernel
theorem d_MD_isIn_137 : decode b_MD_isIn 137 = .ok (.lastore, 1) := by decide +kernel
theorem d_MD_isIn_138 : decode b_MD_isIn 138 = .ok (.iload 7, 2) := by decide +kernel
theorem d_MD_isIn_140 : decode b_MD_isIn 140 = .ok (.istore 8, 2) := by decide +kernel
theorem d_MD_isIn_142 : decode b_MD_isIn 142 = .ok (.iload 8, 2) := by decide +kernel
theorem d_MD_isIn_144 : decode b_MD_isIn 144 = .ok (.iconst 4, 1) := by decide +kernel
theorem d_MD_isIn_145 : decode b_MD_isIn 145 = .ok (.if_icmp .ge 39, 3) := by decide +kernel
theorem d_MD_isIn_148 : decode b_MD_isIn 148 = .ok (.aload_n 0, 1) := by decide +kernel
theorem d_MD_isIn_149 : decode b_MD_isIn 149 = .ok (.getfield 36, 3) := by decide +kernel
theorem d_MD_isIn_152 : decode b_MD_isIn 152 = .ok (.iload 8, 2) := by decide +kernel
theorem d_MD_isIn_154 : decode b_MD_isIn 154 = .ok (.dup2, 1) := by decide +kernel
theorem d_MD_isIn_155 : decode b_MD_isIn 155 = .ok (.laload, 1) := by decide +kernel
theorem d_MD_isIn_156 : decode b_MD_isIn 156 = .ok (.aload_n 0, 1) := by decide +kernel
theorem d_MD_isIn_157 : decode b_MD_isIn 157 = .ok (.getfield 33, 3) := by decide +kernel
theorem d_MD_isIn_160 : decode b_MD_isIn 160 = .ok (.iload 6, 2) := by decide +kernel
theorem d_MD_isIn_162 : decode b_MD_isIn 162 = .ok (.laload, 1) := by decide +kernel
theorem d_MD_isIn_163 : decode b_MD_isIn 163 = .ok (.aload_n 0, 1) := by decide +kernel
theorem d_MD_isIn_164 : decode b_MD_isIn 164 = .ok (.getfield 27, 3) := by decide +kernel
theorem d_MD_isIn_167 : decode b_MD_isIn 167 = .ok (.iconst 4, 1) := by decide +kernel
theorem d_MD_isIn_168 : decode b_MD_isIn 168 = .ok (.iload 6, 2) := by decide +kernel
theorem d_MD_isIn_170 : decode b_MD_isIn 170 = .ok (.imul, 1) := by decide +kernel
theorem d_MD_isIn_171 : decode b_MD_isIn 171 = .ok (.iload 8, 2) := by decide +kernel
theorem d_MD_isIn_173 : decode b_MD_isIn 173 = .ok (.iadd, 1) := by decide +kernel
theorem d_MD_isIn_174 : decode b_MD_isIn 174 = .ok (.laload, 1) := by decide +kernel
theorem d_MD_isIn_175 : decode b_MD_isIn 175 = .ok (.lmul, 1) := by decide +kernel
theorem d_MD_isIn_176 : decode b_MD_isIn 176 = .ok (.lsub, 1) := by decide +kernel
theorem d_MD_isIn_177 : decode b_MD_isIn 177 = .ok (.lastore, 1) := by decide +kernel
theorem d_MD_isIn_178 : decode b_MD_isIn 178 = .ok (.iinc 8 1, 3) := by decide +kernel
theorem d_MD_isIn_181 : decode b_MD_isIn 181 = .ok (.goto (-39), 3) := by decide +kernel
theorem d_MD_isIn_184 : decode b_MD_isIn 184 = .ok (.iinc 6 1, 3) := by decide +kernel
theorem d_MD_isIn_187 : decode b_MD_isIn 187 = .ok (.goto (-138), 3) := by decide +kernel
theorem d_MD_isIn_190 : decode b_MD_isIn 190 = .ok (.aload_n 0, 1) := by decide +kernel
theorem d_MD_isIn_191 : decode b_MD_isIn 191 = .ok (.getfield 36, 3) := by decide +kernel
theorem d_MD_isIn_194 : decode b_MD_isIn 194 = .ok (.iconst 0, 1) := by decide +kernel
theorem d_MD_isIn_195 : decode b_MD_isIn 195 = .ok (.laload, 1) := by decide +kernel
theorem d_MD_isIn_196 : decode b_MD_isIn 196 = .ok (.lconst 0, 1) := by decide +kernel
theorem d_MD_isIn_197 : decode b_MD_isIn 197 = .ok (.lcmp, 1) := by decide +kernel
theorem d_MD_isIn_198 : decode b_MD_isIn 198 = .ok (.ifCond .ne 40, 3) := by decide +kernel
theorem d_MD_isIn_201 : decode b_MD_isIn 201 = .ok (.aload_n 0, 1) := by decide +kernel
theorem d_MD_isIn_202 : decode b_MD_isIn 202 = .ok (.getfield 36, 3) := by decide +kernel
theorem d_MD_isIn_205 : decode b_MD_isIn 205 = .ok (.iconst 1, 1) := by decide +kernel
theorem d_MD_isIn_206 : decode b_MD_isIn 206 = .ok (.laload, 1) := by decide +kernel
theorem d_MD_isIn_207 : decode b_MD_isIn 207 = .ok (.lconst 0, 1) := by decide +kernel
theorem d_MD_isIn_208 : decode b_MD_isIn 208 = .ok (.lcmp, 1) := by decide +kernel
theorem d_MD_isIn_209 : decode b_MD_isIn 209 = .ok (.ifCond .ne 29, 3) := by decide +kernel
theorem d_MD_isIn_212 : decode b_MD_isIn 212 = .ok (.aload_n 0, 1) := by decide +kernel
theorem d_MD_isIn_213 : decode b_MD_isIn 213 = .ok (.getfield 36, 3) := by decide +kernel
theorem d_MD_isIn_216 : decode b_MD_isIn 216 = .ok (.iconst 2, 1) := by decide +kernel
theorem d_MD_isIn_217 : decode b_MD_isIn 217 = .ok (.laload, 1) := by decide +kernel
theorem d_MD_isIn_218 : decode b_MD_isIn 218 = .ok (.lconst 0, 1) := by decide +kernel
theorem d_MD_isIn_219 : decode b_MD_isIn 219 = .ok (.lcmp, 1) := by decide +kernel
theorem d_MD_isIn_220 : decode b_MD_isIn 220 = .ok (.ifCond .ne 18, 3) := by decide +kernel
theorem d_MD_isIn_223 : decode b_MD_isIn 223 = .ok (.aload_n 0, 1) := by decide +kernel
theorem d_MD_isIn_224 : decode b_MD_isIn 224 = .ok (.getfield 36, 3) := by decide +kernel
theorem d_MD_isIn_227 : decode b_MD_isIn 227 = .ok (.iconst 3, 1) := by decide +kernel
theorem d_MD_isIn_228 : decode b_MD_isIn 228 = .ok (.laload, 1) := by decide +kernel
theorem d_MD_isIn_229 : decode b_MD_isIn 229 = .ok (.lconst 0, 1) := by decide +kernel
theorem d_MD_isIn_230 : decode b_MD_isIn 230 = .ok (.lcmp, 1) := by decide +kernel
theorem d_MD_isIn_231 : decode b_MD_isIn 231 = .ok (.ifCond .ne 7, 3) := by decide +kernel
theorem d_MD_isIn_234 : decode b_MD_isIn 234 = .ok (.iconst 1, 1) := by decide +kernel
theorem d_MD_isIn_235 : decode b_MD_isIn 235 = .ok (.goto 4, 3) := by decide +kernel
theorem d_MD_isIn_238 : decode b_MD_isIn 238 = .ok (.iconst 0, 1) := by decide +kernel
theorem d_MD_isIn_239 : decode b_MD_isIn 239 = .ok (.ireturn, 1) := by decide +kernel
theorem d_MD_test_0 : decode b_MD_test 0 = .ok (.aload_n 0, 1) := by decide +kernel
theorem d_MD_test_1 : decode b_MD_test 1 = .ok (.iload_n 1, 1) := by decide +kernel
theorem d_MD_test_2 : decode b_MD_test 2 = .ok (.i2l, 1) := by decide +kernel
theorem d_MD_test_3 : decode b_MD_test 3 = .ok (.ldc2_w 63, 3) := by decide +kernel
theorem d_MD_test_6 : decode b_MD_test 6 = .ok (.ldc2_w 65, 3) := by decide +kernel
theorem d_MD_test_9 : decode b_MD_test 9 = .ok (.invokestatic 53, 3) := by decide +kernel
theorem d_MD_test_12 : decode b_MD_test 12 = .ok (.ifCond .eq 50, 3) := by decide +kernel
theorem d_MD_test_15 : decode b_MD_test 15 = .ok (.iload_n 2, 1) := by decide +kernel
theorem d_MD_test_16 : decode b_MD_test 16 = .ok (.i2l, 1) := by decide +kernel
theorem d_MD_test_17 : decode b_MD_test 17 = .ok (.ldc2_w 63, 3) := by decide +kernel
theorem d_MD_test_20 : decode b_MD_test 20 = .ok (.ldc2_w 65, 3) := by decide +kernel
theorem d_MD_test_23 : decode b_MD_test 23 = .ok (.invokestatic 53, 3) := by decide +kernel
theorem d_MD_test_26 : decode b_MD_test 26 = .ok (.ifCond .eq 36, 3) := by decide +kernel
theorem d_MD_test_29 : decode b_MD_test 29 = .ok (.iload_n 3, 1) := by decide +kernel
theorem d_MD_test_30 : decode b_MD_test 30 = .ok (.i2l, 1) := by decide +kernel
theorem d_MD_test_31 : decode b_MD_test 31 = .ok (.ldc2_w 63, 3) := by decide +kernel
theorem d_MD_test_34 : decode b_MD_test 34 = .ok (.ldc2_w 65, 3) := by decide +kernel
theorem d_MD_test_37 : decode b_MD_test 37 = .ok (.invokestatic 53, 3) := by decide +kernel
theorem d_MD_test_40 : decode b_MD_test 40 = .ok (.ifCond .eq 22, 3) := by decide +kernel
theorem d_MD_test_43 : decode b_MD_test 43 = .ok (.iload 4, 2) := by decide +kernel
theorem d_MD_test_45 : decode b_MD_test 45 = .ok (.i2l, 1) := by decide +kernel
theorem d_MD_test_46 : decode b_MD_test 46 = .ok (.ldc2_w 63, 3) := by decide +kernel
theorem d_MD_test_49 : decode b_MD_test 49 = .ok (.ldc2_w 65, 3) := by decide +kernel
theorem d_MD_test_52 : decode b_MD_test 52 = .ok (.invokestatic 53, 3) := by decide +kernel
theorem d_MD_test_55 : decode b_MD_test 55 = .ok (.ifCond .eq 7, 3) := by decide +kernel
theorem d_MD_test_58 : decode b_MD_test 58 = .ok (.iconst 0, 1) := by decide +kernel
theorem d_MD_test_59 : decode b_MD_test 59 = .ok (.goto 4, 3) := by decide +kernel
theorem d_MD_test_62 : decode b_MD_test 62 = .ok (.iconst 1, 1) := by decide +kernel
theorem d_MD_test_63 : decode b_MD_test 63 = .ok (.putfield 42, 3) := by decide +kernel
theorem d_MD_test_66 : decode b_MD_test 66 = .ok (.aload_n 0, 1) := by decide +kernel
theorem d_MD_test_67 : decode b_MD_test 67 = .ok (.getfield 42, 3) := by decide +kernel
theorem d_MD_test_70 : decode b_MD_test 70 = .ok (.ifCond .le 5, 3) := by decide +kernel
theorem d_MD_test_73 : decode b_MD_test 73 = .ok (.lconst 0, 1) := by decide +kernel
theorem d_MD_test_74 : decode b_MD_test 74 = .ok (.lreturn, 1) := by decide +kernel
theorem d_MD_test_75 : decode b_MD_test 75 = .ok (.aload_n 0, 1) := by decide +kernel
theorem d_MD_test_76 : decode b_MD_test 76 = .ok (.invokevirtual 86, 3) := by decide +kernel
theorem d_MD_test_79 : decode b_MD_test 79 = .ok (.aload_n 0, 1) := by decide +kernel
theorem d_MD_test_80 : decode b_MD_test 80 = .ok (.aload_n 0, 1) := by decide +kernel
theorem d_MD_test_81 : decode b_MD_test 81 = .ok (.getfield 70, 3) := by decide +kernel
theorem d_MD_test_84 : decode b_MD_test 84 = .ok (.invokevirtual 111, 3) := by decide +kernel
theorem d_MD_test_87 : decode b_MD_test 87 = .ok (.lstore 5, 2) := by decide +kernel
theorem d_MD_test_89 : decode b_MD_test 89 = .ok (.aload_n 0, 1) := by decide +kernel
theorem d_MD_test_90 : decode b_MD_test 90 = .ok (.iconst 0, 1) := by decide +kernel
theorem d_MD_test_91 : decode b_MD_test 91 = .ok (.putfield 49, 3) := by decide +kernel
theorem d_MD_test_94 : decode b_MD_test 94 = .ok (.iconst 1, 1) := by decide +kernel
theorem d_MD_test_95 : decode b_MD_test 95 = .ok (.istore 7, 2) := by decide +kernel
theorem d_MD_test_97 : decode b_MD_test 97 = .ok (.iload 7, 2) := by decide +kernel
theorem d_MD_test_99 : decode b_MD_test 99 = .ok (.i2l, 1) := by decide +kernel
theorem d_MD_test_100 : decode b_MD_test 100 = .ok (.lload 5, 2) := by decide +kernel
theorem d_MD_test_102 : decode b_MD_test 102 = .ok (.lcmp, 1) := by decide +kernel
theorem d_MD_test_103 : decode b_MD_test 103 = .ok (.ifCond .gt 42, 3) := by decide +kernel
theorem d_MD_test_106 : decode b_MD_test 106 = .ok (.aload_n 0, 1) := by decide +kernel
theorem d_MD_test_107 : decode b_MD_test 107 = .ok (.getfield 49, 3) := by decide +kernel
theorem d_MD_test_110 : decode b_MD_test 110 = .ok (.ifCond .ne 35, 3) := by decide +kernel
theorem d_MD_test_113 : decode b_MD_test 113 = .ok (.aload_n 0, 1) := by decide +kernel
theorem d_MD_test_114 : decode b_MD_test 114 = .ok (.aload_n 0, 1) := by decide +kernel
theorem d_MD_test_115 : decode b_MD_test 115 = .ok (.iload 7, 2) := by decide +kernel
theorem d_MD_test_117 : decode b_MD_test 117 = .ok (.iload_n 1, 1) := by decide +kernel
theorem d_MD_test_118 : decode b_MD_test 118 = .ok (.iload_n 2, 1) := by decide +kernel
theorem d_MD_test_119 : decode b_MD_test 119 = .ok (.iload_n 3, 1) := by decide +kernel
theorem d_MD_test_120 : decode b_MD_test 120 = .ok (.iload 4, 2) := by decide +kernel
theorem d_MD_test_122 : decode b_MD_test 122 = .ok (.invokevirtual 115, 3) := by decide +kernel
theorem d_MD_test_125 : decode b_MD_test 125 = .ok (.putfield 49, 3) := by decide +kernel
theorem d_MD_test_128 : decode b_MD_test 128 = .ok (.aload_n 0, 1) := by decide +kernel
theorem d_MD_test_129 : decode b_MD_test 129 = .ok (.getfield 49, 3) := by decide +kernel
theorem d_MD_test_132 : decode b_MD_test 132 = .ok (.ifCond .eq 7, 3) := by decide +kernel
theorem d_MD_test_135 : decode b_MD_test 135 = .ok (.iload 7, 2) := by decide +kernel
theorem d_MD_test_137 : decode b_MD_test 137 = .ok (.i2l, 1) := by decide +kernel
theorem d_MD_test_138 : decode b_MD_test 138 = .ok (.lreturn, 1) := by decide +kernel
theorem d_MD_test_139 : decode b_MD_test 139 = .ok (.iinc 7 1, 3) := by decide +kernel
theorem d_MD_test_142 : decode b_MD_test 142 = .ok (.goto (-45), 3) := by decide +kernel
theorem d_MD_test_145 : decode b_MD_test 145 = .ok (.lconst 0, 1) := by decide +kernel
theorem d_MD_test_146 : decode b_MD_test 146 = .ok (.lreturn, 1) := by decide +kernel
theorem d_MD_times_0 : decode b_MD_times 0 = .ok (.aload_n 0, 1) := by decide +kernel
theorem d_MD_times_1 : decode b_MD_times 1 = .ok (.getfield 49, 3) := by decide +kernel
theorem d_MD_times_4 : decode b_MD_times 4 = .ok (.ifCond .ne 10, 3) := by decide +kernel
theorem d_MD_times_7 : decode b_MD_times 7 = .ok (.aload_n 0, 1) := by decide +kernel
theorem d_MD_times_8 : decode b_MD_times 8 = .ok (.iconst 1, 1) := by decide +kernel
theorem d_MD_times_9 : decode b_MD_times 9 = .ok (.invokevirtual 119, 3) := by decide +kernel
theorem d_MD_times_12 : decode b_MD_times 12 = .ok (.i2l, 1) := by decide +kernel
theorem d_MD_times_13 : decode b_MD_times 13 = .ok (.lreturn, 1) := by decide +kernel
theorem d_MD_times_14 : decode b_MD_times 14 = .ok (.aload_n 0, 1) := by decide +kernel
theorem d_MD_times_15 : decode b_MD_times 15 = .ok (.invokevirtual 86, 3) := by decide +kernel
theorem d_MD_times_18 : decode b_MD_times 18 = .ok (.aload_n 0, 1) := by decide +kernel
theorem d_MD_times_19 : decode b_MD_times 19 = .ok (.iload_n 1, 1) := by decide +kernel
theorem d_MD_times_20 : decode b_MD_times 20 = .ok (.i2l, 1) := by decide +kernel
theorem d_MD_times_21 : decode b_MD_times 21 = .ok (.lconst 0, 1) := by decide +kernel
theorem d_MD_times_22 : decode b_MD_times 22 = .ok (.aload_n 0, 1) := by decide +kernel
theorem d_MD_times_23 : decode b_MD_times 23 = .ok (.getfield 70, 3) := by decide +kernel
theorem d_MD_times_26 : decode b_MD_times 26 = .ok (.iconst 1, 1) := by decide +kernel
theorem d_MD_times_27 : decode b_MD_times 27 = .ok (.isub, 1) := by decide +kernel
theorem d_MD_times_28 : decode b_MD_times 28 = .ok (.i2l, 1) := by decide +kernel
theorem d_MD_times_29 : decode b_MD_times 29 = .ok (.invokestatic 53, 3) := by decide +kernel
theorem d_MD_times_32 : decode b_MD_times 32 = .ok (.ifCond .eq 7, 3) := by decide +kernel
theorem d_MD_times_35 : decode b_MD_times 35 = .ok (.iconst 0, 1) := by decide +kernel
theorem d_MD_times_36 : decode b_MD_times 36 = .ok (.goto 4, 3) := by decide +kernel
theorem d_MD_times_39 : decode b_MD_times 39 = .ok (.iconst 2, 1) := by decide +kernel
theorem d_MD_times_40 : decode b_MD_times 40 = .ok (.putfield 42, 3) := by decide +kernel
theorem d_MD_times_43 : decode b_MD_times 43 = .ok (.aload_n 0, 1) := by decide +kernel
theorem d_MD_times_44 : decode b_MD_times 44 = .ok (.getfield 42, 3) := by decide +kernel
theorem d_MD_times_47 : decode b_MD_times 47 = .ok (.ifCond .le 7, 3) := by decide +kernel
theorem d_MD_times_50 : decode b_MD_times 50 = .ok (.lconst 0, 1) := by decide +kernel
theorem d_MD_times_51 : decode b_MD_times 51 = .ok (.goto 9, 3) := by decide +kernel
theorem d_MD_times_54 : decode b_MD_times 54 = .ok (.aload_n 0, 1) := by decide +kernel
theorem d_MD_times_55 : decode b_MD_times 55 = .ok (.getfield 33, 3) := by decide +kernel
theorem d_MD_times_58 : decode b_MD_times 58 = .ok (.iload_n 1, 1) := by decide +kernel
theorem d_MD_times_59 : decode b_MD_times 59 = .ok (.laload, 1) := by decide +kernel
theorem d_MD_times_60 : decode b_MD_times 60 = .ok (.lreturn, 1) := by decide +kernel
