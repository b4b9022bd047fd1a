theorem d_RD_cell_0 : decode b_RD_cell 0 = .ok (.aload_n 0, 1) := by decide +kernel
theorem d_RD_cell_1 : decode b_RD_cell 1 = .ok (.getfield 11, 3) := by decide +kernel
theorem d_RD_cell_4 : decode b_RD_cell 4 = .ok (.iload_n 1, 1) := by decide +kernel
theorem d_RD_cell_5 : decode b_RD_cell 5 = .ok (.bipush 8, 2) := by decide +kernel
theorem d_RD_cell_7 : decode b_RD_cell 7 = .ok (.imul, 1) := by decide +kernel
theorem d_RD_cell_8 : decode b_RD_cell 8 = .ok (.iload_n 2, 1) := by decide +kernel
theorem d_RD_cell_9 : decode b_RD_cell 9 = .ok (.iadd, 1) := by decide +kernel
theorem d_RD_cell_10 : decode b_RD_cell 10 = .ok (.laload, 1) := by decide +kernel
theorem d_RD_cell_11 : decode b_RD_cell 11 = .ok (.lreturn, 1) := by decide +kernel
theorem d_RD_set_0 : decode b_RD_set 0 = .ok (.aload_n 0, 1) := by decide +kernel
theorem d_RD_set_1 : decode b_RD_set 1 = .ok (.getfield 11, 3) := by decide +kernel
theorem d_RD_set_4 : decode b_RD_set 4 = .ok (.iload_n 1, 1) := by decide +kernel
theorem d_RD_set_5 : decode b_RD_set 5 = .ok (.bipush 8, 2) := by decide +kernel
theorem d_RD_set_7 : decode b_RD_set 7 = .ok (.imul, 1) := by decide +kernel
theorem d_RD_set_8 : decode b_RD_set 8 = .ok (.iload_n 2, 1) := by decide +kernel
theorem d_RD_set_9 : decode b_RD_set 9 = .ok (.iadd, 1) := by decide +kernel
theorem d_RD_set_10 : decode b_RD_set 10 = .ok (.lload_n 3, 1) := by decide +kernel
theorem d_RD_set_11 : decode b_RD_set 11 = .ok (.lastore, 1) := by decide +kernel
theorem d_RD_set_12 : decode b_RD_set 12 = .ok (.return_, 1) := by decide +kernel
theorem d_RD_takeAway_0 : decode b_RD_takeAway 0 = .ok (.lload_n 3, 1) := by decide +kernel
theorem d_RD_takeAway_1 : decode b_RD_takeAway 1 = .ok (.lconst 0, 1) := by decide +kernel
theorem d_RD_takeAway_2 : decode b_RD_takeAway 2 = .ok (.lcmp, 1) := by decide +kernel
theorem d_RD_takeAway_3 : decode b_RD_takeAway 3 = .ok (.ifCond .ne 4, 3) := by decide +kernel
theorem d_RD_takeAway_6 : decode b_RD_takeAway 6 = .ok (.return_, 1) := by decide +kernel
theorem d_RD_takeAway_7 : decode b_RD_takeAway 7 = .ok (.iconst 0, 1) := by decide +kernel
theorem d_RD_takeAway_8 : decode b_RD_takeAway 8 = .ok (.istore 5, 2) := by decide +kernel
theorem d_RD_takeAway_10 : decode b_RD_takeAway 10 = .ok (.iload 5, 2) := by decide +kernel
theorem d_RD_takeAway_12 : decode b_RD_takeAway 12 = .ok (.aload_n 0, 1) := by decide +kernel
theorem d_RD_takeAway_13 : decode b_RD_takeAway 13 = .ok (.getfield 32, 3) := by decide +kernel
theorem d_RD_takeAway_16 : decode b_RD_takeAway 16 = .ok (.aload_n 0, 1) := by decide +kernel
theorem d_RD_takeAway_17 : decode b_RD_takeAway 17 = .ok (.getfield 28, 3) := by decide +kernel
theorem d_RD_takeAway_20 : decode b_RD_takeAway 20 = .ok (.iadd, 1) := by decide +kernel
theorem d_RD_takeAway_21 : decode b_RD_takeAway 21 = .ok (.if_icmp .ge 33, 3) := by decide +kernel
theorem d_RD_takeAway_24 : decode b_RD_takeAway 24 = .ok (.aload_n 0, 1) := by decide +kernel
theorem d_RD_takeAway_25 : decode b_RD_takeAway 25 = .ok (.iload_n 1, 1) := by decide +kernel
theorem d_RD_takeAway_26 : decode b_RD_takeAway 26 = .ok (.iload 5, 2) := by decide +kernel
theorem d_RD_takeAway_28 : decode b_RD_takeAway 28 = .ok (.aload_n 0, 1) := by decide +kernel
theorem d_RD_takeAway_29 : decode b_RD_takeAway 29 = .ok (.iload_n 1, 1) := by decide +kernel
theorem d_RD_takeAway_30 : decode b_RD_takeAway 30 = .ok (.iload 5, 2) := by decide +kernel
theorem d_RD_takeAway_32 : decode b_RD_takeAway 32 = .ok (.invokevirtual 42, 3) := by decide +kernel
theorem d_RD_takeAway_35 : decode b_RD_takeAway 35 = .ok (.lload_n 3, 1) := by decide +kernel
theorem d_RD_takeAway_36 : decode b_RD_takeAway 36 = .ok (.aload_n 0, 1) := by decide +kernel
theorem d_RD_takeAway_37 : decode b_RD_takeAway 37 = .ok (.iload_n 2, 1) := by decide +kernel
theorem d_RD_takeAway_38 : decode b_RD_takeAway 38 = .ok (.iload 5, 2) := by decide +kernel
theorem d_RD_takeAway_40 : decode b_RD_takeAway 40 = .ok (.invokevirtual 42, 3) := by decide +kernel
theorem d_RD_takeAway_43 : decode b_RD_takeAway 43 = .ok (.lmul, 1) := by decide +kernel
theorem d_RD_takeAway_44 : decode b_RD_takeAway 44 = .ok (.lsub, 1) := by decide +kernel
theorem d_RD_takeAway_45 : decode b_RD_takeAway 45 = .ok (.invokevirtual 35, 3) := by decide +kernel
theorem d_RD_takeAway_48 : decode b_RD_takeAway 48 = .ok (.iinc 5 1, 3) := by decide +kernel
theorem d_RD_takeAway_51 : decode b_RD_takeAway 51 = .ok (.goto (-41), 3) := by decide +kernel
theorem d_RD_takeAway_54 : decode b_RD_takeAway 54 = .ok (.return_, 1) := by decide +kernel
theorem d_RD_swap_0 : decode b_RD_swap 0 = .ok (.iconst 0, 1) := by decide +kernel
theorem d_RD_swap_1 : decode b_RD_swap 1 = .ok (.istore_n 3, 1) := by decide +kernel
theorem d_RD_swap_2 : decode b_RD_swap 2 = .ok (.iload_n 3, 1) := by decide +kernel
theorem d_RD_swap_3 : decode b_RD_swap 3 = .ok (.aload_n 0, 1) := by decide +kernel
theorem d_RD_swap_4 : decode b_RD_swap 4 = .ok (.getfield 32, 3) := by decide +kernel
theorem d_RD_swap_7 : decode b_RD_swap 7 = .ok (.aload_n 0, 1) := by decide +kernel
theorem d_RD_swap_8 : decode b_RD_swap 8 = .ok (.getfield 28, 3) := by decide +kernel
theorem d_RD_swap_11 : decode b_RD_swap 11 = .ok (.iadd, 1) := by decide +kernel
theorem d_RD_swap_12 : decode b_RD_swap 12 = .ok (.if_icmp .ge 37, 3) := by decide +kernel
theorem d_RD_swap_15 : decode b_RD_swap 15 = .ok (.aload_n 0, 1) := by decide +kernel
theorem d_RD_swap_16 : decode b_RD_swap 16 = .ok (.iload_n 1, 1) := by decide +kernel
theorem d_RD_swap_17 : decode b_RD_swap 17 = .ok (.iload_n 3, 1) := by decide +kernel
theorem d_RD_swap_18 : decode b_RD_swap 18 = .ok (.invokevirtual 42, 3) := by decide +kernel
theorem d_RD_swap_21 : decode b_RD_swap 21 = .ok (.lstore 4, 2) := by decide +kernel
theorem d_RD_swap_23 : decode b_RD_swap 23 = .ok (.aload_n 0, 1) := by decide +kernel
theorem d_RD_swap_24 : decode b_RD_swap 24 = .ok (.iload_n 1, 1) := by decide +kernel
theorem d_RD_swap_25 : decode b_RD_swap 25 = .ok (.iload_n 3, 1) := by decide +kernel
theorem d_RD_swap_26 : decode b_RD_swap 26 = .ok (.aload_n 0, 1) := by decide +kernel
theorem d_RD_swap_27 : decode b_RD_swap 27 = .ok (.iload_n 2, 1) := by decide +kernel
theorem d_RD_swap_28 : decode b_RD_swap 28 = .ok (.iload_n 3, 1) := by decide +kernel
theorem d_RD_swap_29 : decode b_RD_swap 29 = .ok (.invokevirtual 42, 3) := by decide +kernel
theorem d_RD_swap_32 : decode b_RD_swap 32 = .ok (.invokevirtual 35, 3) := by decide +kernel
theorem d_RD_swap_35 : decode b_RD_swap 35 = .ok (.aload_n 0, 1) := by decide +kernel
theorem d_RD_swap_36 : decode b_RD_swap 36 = .ok (.iload_n 2, 1) := by decide +kernel
theorem d_RD_swap_37 : decode b_RD_swap 37 = .ok (.iload_n 3, 1) := by decide +kernel
theorem d_RD_swap_38 : decode b_RD_swap 38 = .ok (.lload 4, 2) := by decide +kernel
theorem d_RD_swap_40 : decode b_RD_swap 40 = .ok (.invokevirtual 35, 3) := by decide +kernel
theorem d_RD_swap_43 : decode b_RD_swap 43 = .ok (.iinc 3 1, 3) := by decide +kernel
theorem d_RD_swap_46 : decode b_RD_swap 46 = .ok (.goto (-44), 3) := by decide +kernel
theorem d_RD_swap_49 : decode b_RD_swap 49 = .ok (.return_, 1) := by decide +kernel
theorem d_RD_turnSigns_0 : decode b_RD_turnSigns 0 = .ok (.iconst 0, 1) := by decide +kernel
theorem d_RD_turnSigns_1 : decode b_RD_turnSigns 1 = .ok (.istore_n 2, 1) := by decide +kernel
theorem d_RD_turnSigns_2 : decode b_RD_turnSigns 2 = .ok (.iload_n 2, 1) := by decide +kernel
theorem d_RD_turnSigns_3 : decode b_RD_turnSigns 3 = .ok (.aload_n 0, 1) := by decide +kernel
theorem d_RD_turnSigns_4 : decode b_RD_turnSigns 4 = .ok (.getfield 32, 3) := by decide +kernel
theorem d_RD_turnSigns_7 : decode b_RD_turnSigns 7 = .ok (.aload_n 0, 1) := by decide +kernel
theorem d_RD_turnSigns_8 : decode b_RD_turnSigns 8 = .ok (.getfield 28, 3) := by decide +kernel
theorem d_RD_turnSigns_11 : decode b_RD_turnSigns 11 = .ok (.iadd, 1) := by decide +kernel
theorem d_RD_turnSigns_12 : decode b_RD_turnSigns 12 = .ok (.if_icmp .ge 22, 3) := by decide +kernel
theorem d_RD_turnSigns_15 : decode b_RD_turnSigns 15 = .ok (.aload_n 0, 1) := by decide +kernel
theorem d_RD_turnSigns_16 : decode b_RD_turnSigns 16 = .ok (.iload_n 1, 1) := by decide +kernel
theorem d_RD_turnSigns_17 : decode b_RD_turnSigns 17 = .ok (.iload_n 2, 1) := by decide +kernel
theorem d_RD_turnSigns_18 : decode b_RD_turnSigns 18 = .ok (.aload_n 0, 1) := by decide +kernel
theorem d_RD_turnSigns_19 : decode b_RD_turnSigns 19 = .ok (.iload_n 1, 1) := by decide +kernel
theorem d_RD_turnSigns_20 : decode b_RD_turnSigns 20 = .ok (.iload_n 2, 1) := by decide +kernel
theorem d_RD_turnSigns_21 : decode b_RD_turnSigns 21 = .ok (.invokevirtual 42, 3) := by decide +kernel
theorem d_RD_turnSigns_24 : decode b_RD_turnSigns 24 = .ok (.lneg, 1) := by decide +kernel
theorem d_RD_turnSigns_25 : decode b_RD_turnSigns 25 = .ok (.invokevirtual 35, 3) := by decide +kernel
theorem d_RD_turnSigns_28 : decode b_RD_turnSigns 28 = .ok (.iinc 2 1, 3) := by decide +kernel
theorem d_RD_turnSigns_31 : decode b_RD_turnSigns 31 = .ok (.goto (-29), 3) := by decide +kernel
theorem d_RD_turnSigns_34 : decode b_RD_turnSigns 34 = .ok (.return_, 1) := by decide +kernel
theorem d_RD_clearNewest_0 : decode b_RD_clearNewest 0 = .ok (.iconst 0, 1) := by decide +kernel
theorem d_RD_clearNewest_1 : decode b_RD_clearNewest 1 = .ok (.istore 4, 2) := by decide +kernel
theorem d_RD_clearNewest_3 : decode b_RD_clearNewest 3 = .ok (.iload 4, 2) := by decide +kernel
theorem d_RD_clearNewest_5 : decode b_RD_clearNewest 5 = .ok (.sipush 1000, 3) := by decide +kernel
theorem d_RD_clearNewest_8 : decode b_RD_clearNewest 8 = .ok (.if_icmp .ge 45, 3) := by decide +kernel
theorem d_RD_clearNewest_11 : decode b_RD_clearNewest 11 = .ok (.aload_n 0, 1) := by decide +kernel
theorem d_RD_clearNewest_12 : decode b_RD_clearNewest 12 = .ok (.iload_n 2, 1) := by decide +kernel
theorem d_RD_clearNewest_13 : decode b_RD_clearNewest 13 = .ok (.iload_n 3, 1) := by decide +kernel
theorem d_RD_clearNewest_14 : decode b_RD_clearNewest 14 = .ok (.invokevirtual 42, 3) := by decide +kernel
theorem d_RD_clearNewest_17 : decode b_RD_clearNewest 17 = .ok (.lconst 0, 1) := by decide +kernel
theorem d_RD_clearNewest_18 : decode b_RD_clearNewest 18 = .ok (.lcmp, 1) := by decide +kernel
theorem d_RD_clearNewest_19 : decode b_RD_clearNewest 19 = .ok (.ifCond .eq 34, 3) := by decide +kernel
theorem d_RD_clearNewest_22 : decode b_RD_clearNewest 22 = .ok (.aload_n 0, 1) := by decide +kernel
theorem d_RD_clearNewest_23 : decode b_RD_clearNewest 23 = .ok (.iload_n 1, 1) := by decide +kernel
theorem d_RD_clearNewest_24 : decode b_RD_clearNewest 24 = .ok (.iload_n 2, 1) := by decide +kernel
theorem d_RD_clearNewest_25 : decode b_RD_clearNewest 25 = .ok (.aload_n 0, 1) := by decide +kernel
theorem d_RD_clearNewest_26 : decode b_RD_clearNewest 26 = .ok (.iload_n 1, 1) := by decide +kernel
theorem d_RD_clearNewest_27 : decode b_RD_clearNewest 27 = .ok (.iload_n 3, 1) := by decide +kernel
theorem d_RD_clearNewest_28 : decode b_RD_clearNewest 28 = .ok (.invokevirtual 42, 3) := by decide +kernel
theorem d_RD_clearNewest_31 : decode b_RD_clearNewest 31 = .ok (.aload_n 0, 1) := by decide +kernel
theorem d_RD_clearNewest_32 : decode b_RD_clearNewest 32 = .ok (.iload_n 2, 1) := by decide +kernel
theorem d_RD_clearNewest_33 : decode b_RD_clearNewest 33 = .ok (.iload_n 3, 1) := by decide +kernel
theorem d_RD_clearNewest_34 : decode b_RD_clearNewest 34 = .ok (.invokevirtual 42, 3) := by decide +kernel
theorem d_RD_clearNewest_37 : decode b_RD_clearNewest 37 = .ok (.ldiv, 1) := by decide +kernel
theorem d_RD_clearNewest_38 : decode b_RD_clearNewest 38 = .ok (.invokevirtual 61, 3) := by decide +kernel
theorem d_RD_clearNewest_41 : decode b_RD_clearNewest 41 = .ok (.aload_n 0, 1) := by decide +kernel
theorem d_RD_clearNewest_42 : decode b_RD_clearNewest 42 = .ok (.iload_n 1, 1) := by decide +kernel
theorem d_RD_clearNewest_43 : decode b_RD_clearNewest 43 = .ok (.iload_n 2, 1) := by decide +kernel
theorem d_RD_clearNewest_44 : decode b_RD_clearNewest 44 = .ok (.invokevirtual 64, 3) := by decide +kernel
theorem d_RD_clearNewest_47 : decode b_RD_clearNewest 47 = .ok (.iinc 4 1, 3) := by decide +kernel
theorem d_RD_clearNewest_50 : decode b_RD_clearNewest 50 = .ok (.goto (-47), 3) := by decide +kernel
theorem d_RD_clearNewest_53 : decode b_RD_clearNewest 53 = .ok (.aload_n 0, 1) := by decide +kernel
theorem d_RD_clearNewest_54 : decode b_RD_clearNewest 54 = .ok (.iload_n 1, 1) := by decide +kernel
theorem d_RD_clearNewest_55 : decode b_RD_clearNewest 55 = .ok (.iload_n 3, 1) := by decide +kernel
theorem d_RD_clearNewest_56 : decode b_RD_clearNewest 56 = .ok (.invokevirtual 42, 3) := by decide +kernel
theorem d_RD_clearNewest_59 : decode b_RD_clearNewest 59 = .ok (.lconst 0, 1) := by decide +kernel
theorem d_RD_clearNewest_60 : decode b_RD_clearNewest 60 = .ok (.lcmp, 1) := by decide +kernel
theorem d_RD_clearNewest_61 : decode b_RD_clearNewest 61 = .ok (.ifCond .ge 8, 3) := by decide +kernel
theorem d_RD_clearNewest_64 : decode b_RD_clearNewest 64 = .ok (.aload_n 0, 1) := by decide +kernel
theorem d_RD_clearNewest_65 : decode b_RD_clearNewest 65 = .ok (.iload_n 1, 1) := by decide +kernel
theorem d_RD_clearNewest_66 : decode b_RD_clearNewest 66 = .ok (.invokevirtual 67, 3) := by decide +kernel
theorem d_RD_clearNewest_69 : decode b_RD_clearNewest 69 = .ok (.return_, 1) := by decide +kernel
theorem d_RD_moveAhead_0 : decode b_RD_moveAhead 0 = .ok (.iload_n 1, 1) := by decide +kernel
theorem d_RD_moveAhead_1 : decode b_RD_moveAhead 1 = .ok (.istore 4, 2) := by decide +kernel
theorem d_RD_moveAhead_3 : decode b_RD_moveAhead 3 = .ok (.iload 4, 2) := by decide +kernel
theorem d_RD_moveAhead_5 : decode b_RD_moveAhead 5 = .ok (.iload_n 2, 1) := by decide +kernel
theorem d_RD_moveAhead_6 : decode b_RD_moveAhead 6 = .ok (.if_icmp .le 35, 3) := by decide +kernel
theorem d_RD_moveAhead_9 : decode b_RD_moveAhead 9 = .ok (.aload_n 0, 1) := by decide +kernel
theorem d_RD_moveAhead_10 : decode b_RD_moveAhead 10 = .ok (.iload 4, 2) := by decide +kernel
theorem d_RD_moveAhead_12 : decode b_RD_moveAhead 12 = .ok (.iload 4, 2) := by decide +kernel
theorem d_RD_moveAhead_14 : decode b_RD_moveAhead 14 = .ok (.iconst 1, 1) := by decide +kernel
theorem d_RD_moveAhead_15 : decode b_RD_moveAhead 15 = .ok (.isub, 1) := by decide +kernel
theorem d_RD_moveAhead_16 : decode b_RD_moveAhead 16 = .ok (.invokevirtual 64, 3) := by decide +kernel
theorem d_RD_moveAhead_19 : decode b_RD_moveAhead 19 = .ok (.aload_n 0, 1) := by decide +kernel
theorem d_RD_moveAhead_20 : decode b_RD_moveAhead 20 = .ok (.getfield 15, 3) := by decide +kernel
theorem d_RD_moveAhead_23 : decode b_RD_moveAhead 23 = .ok (.iload 4, 2) := by decide +kernel
theorem d_RD_moveAhead_25 : decode b_RD_moveAhead 25 = .ok (.aload_n 0, 1) := by decide +kernel
theorem d_RD_moveAhead_26 : decode b_RD_moveAhead 26 = .ok (.getfield 15, 3) := by decide +kernel
theorem d_RD_moveAhead_29 : decode b_RD_moveAhead 29 = .ok (.iload 4, 2) := by decide +kernel
theorem d_RD_moveAhead_31 : decode b_RD_moveAhead 31 = .ok (.iconst 1, 1) := by decide +kernel
theorem d_RD_moveAhead_32 : decode b_RD_moveAhead 32 = .ok (.isub, 1) := by decide +kernel
theorem d_RD_moveAhead_33 : decode b_RD_moveAhead 33 = .ok (.iaload, 1) := by decide +kernel
theorem d_RD_moveAhead_34 : decode b_RD_moveAhead 34 = .ok (.iastore, 1) := by decide +kernel
theorem d_RD_moveAhead_35 : decode b_RD_moveAhead 35 = .ok (.iinc 4 (-1), 3) := by decide +kernel
theorem d_RD_moveAhead_38 : decode b_RD_moveAhead 38 = .ok (.goto (-35), 3) := by decide +kernel
theorem d_RD_moveAhead_41 : decode b_RD_moveAhead 41 = .ok (.aload_n 0, 1) := by decide +kernel
theorem d_RD_moveAhead_42 : decode b_RD_moveAhead 42 = .ok (.getfield 15, 3) := by decide +kernel
theorem d_RD_moveAhead_45 : decode b_RD_moveAhead 45 = .ok (.iload_n 2, 1) := by decide +kernel
theorem d_RD_moveAhead_46 : decode b_RD_moveAhead 46 = .ok (.iload_n 3, 1) := by decide +kernel
theorem d_RD_moveAhead_47 : decode b_RD_moveAhead 47 = .ok (.iastore, 1) := by decide +kernel
theorem d_RD_moveAhead_48 : decode b_RD_moveAhead 48 = .ok (.aload_n 0, 1) := by decide +kernel
theorem d_RD_moveAhead_49 : decode b_RD_moveAhead 49 = .ok (.iload_n 2, 1) := by decide +kernel
theorem d_RD_moveAhead_50 : decode b_RD_moveAhead 50 = .ok (.iload_n 3, 1) := by decide +kernel
theorem d_RD_moveAhead_51 : decode b_RD_moveAhead 51 = .ok (.invokevirtual 42, 3) := by decide +kernel
theorem d_RD_moveAhead_54 : decode b_RD_moveAhead 54 = .ok (.lconst 0, 1) := by decide +kernel
theorem d_RD_moveAhead_55 : decode b_RD_moveAhead 55 = .ok (.lcmp, 1) := by decide +kernel
theorem d_RD_moveAhead_56 : decode b_RD_moveAhead 56 = .ok (.ifCond .ge 8, 3) := by decide +kernel
theorem d_RD_moveAhead_59 : decode b_RD_moveAhead 59 = .ok (.aload_n 0, 1) := by decide +kernel
theorem d_RD_moveAhead_60 : decode b_RD_moveAhead 60 = .ok (.iload_n 2, 1) := by decide +kernel
theorem d_RD_moveAhead_61 : decode b_RD_moveAhead 61 = .ok (.invokevirtual 67, 3) := by decide +kernel
theorem d_RD_moveAhead_64 : decode b_RD_moveAhead 64 = .ok (.return_, 1) := by decide +kernel
theorem d_MA_floorDiv_0 : decode b_MA_floorDiv 0 = .ok (.lload_n 0, 1) := by decide +kernel
theorem d_MA_floorDiv_1 : decode b_MA_floorDiv 1 = .ok (.lload_n 2, 1) := by decide +kernel
theorem d_MA_floorDiv_2 : decode b_MA_floorDiv 2 = .ok (.ldiv, 1) := by decide +kernel
theorem d_MA_floorDiv_3 : decode b_MA_floorDiv 3 = .ok (.lstore 4, 2) := by decide +kernel
theorem d_MA_floorDiv_5 : decode b_MA_floorDiv 5 = .ok (.lload_n 0, 1) := by decide +kernel
theorem d_MA_floorDiv_6 : decode b_MA_floorDiv 6 = .ok (.lload_n 2, 1) := by decide +kernel
theorem d_MA_floorDiv_7 : decode b_MA_floorDiv 7 = .ok (.lxor, 1) := by decide +kernel
theorem d_MA_floorDiv_8 : decode b_MA_floorDiv 8 = .ok (.lconst 0, 1) := by decide +kernel
theorem d_MA_floorDiv_9 : decode b_MA_floorDiv 9 = .ok (.lcmp, 1) := by decide +kernel
theorem d_MA_floorDiv_10 : decode b_MA_floorDiv 10 = .ok (.ifCond .ge 17, 3) := by decide +kernel
theorem d_MA_floorDiv_13 : decode b_MA_floorDiv 13 = .ok (.lload 4, 2) := by decide +kernel
theorem d_MA_floorDiv_15 : decode b_MA_floorDiv 15 = .ok (.lload_n 2, 1) := by decide +kernel
theorem d_MA_floorDiv_16 : decode b_MA_floorDiv 16 = .ok (.lmul, 1) := by decide +kernel
theorem d_MA_floorDiv_17 : decode b_MA_floorDiv 17 = .ok (.lload_n 0, 1) := by decide +kernel
theorem d_MA_floorDiv_18 : decode b_MA_floorDiv 18 = .ok (.lcmp, 1) := by decide +kernel
theorem d_MA_floorDiv_19 : decode b_MA_floorDiv 19 = .ok (.ifCond .eq 8, 3) := by decide +kernel
theorem d_MA_floorDiv_22 : decode b_MA_floorDiv 22 = .ok (.lload 4, 2) := by decide +kernel
theorem d_MA_floorDiv_24 : decode b_MA_floorDiv 24 = .ok (.lconst 1, 1) := by decide +kernel
theorem d_MA_floorDiv_25 : decode b_MA_floorDiv 25 = .ok (.lsub, 1) := by decide +kernel
theorem d_MA_floorDiv_26 : decode b_MA_floorDiv 26 = .ok (.lreturn, 1) := by decide +kernel
theorem d_MA_floorDiv_27 : decode b_MA_floorDiv 27 = .ok (.lload 4, 2) := by decide +kernel
theorem d_MA_floorDiv_29 : decode b_MA_floorDiv 29 = .ok (.lreturn, 1) := by decide +kernel
theorem d_RD_keepSmall_0 : decode b_RD_keepSmall 0 = .ok (.iconst 0, 1) := by decide +kernel
theorem d_RD_keepSmall_1 : decode b_RD_keepSmall 1 = .ok (.istore_n 3, 1) := by decide +kernel
theorem d_RD_keepSmall_2 : decode b_RD_keepSmall 2 = .ok (.iload_n 3, 1) := by decide +kernel
theorem d_RD_keepSmall_3 : decode b_RD_keepSmall 3 = .ok (.iload_n 1, 1) := by decide +kernel
theorem d_RD_keepSmall_4 : decode b_RD_keepSmall 4 = .ok (.if_icmp .ge 80, 3) := by decide +kernel
theorem d_RD_keepSmall_7 : decode b_RD_keepSmall 7 = .ok (.aload_n 0, 1) := by decide +kernel
theorem d_RD_keepSmall_8 : decode b_RD_keepSmall 8 = .ok (.getfield 15, 3) := by decide +kernel
theorem d_RD_keepSmall_11 : decode b_RD_keepSmall 11 = .ok (.iload_n 3, 1) := by decide +kernel
theorem d_RD_keepSmall_12 : decode b_RD_keepSmall 12 = .ok (.iaload, 1) := by decide +kernel
theorem d_RD_keepSmall_13 : decode b_RD_keepSmall 13 = .ok (.istore 4, 2) := by decide +kernel
theorem d_RD_keepSmall_15 : decode b_RD_keepSmall 15 = .ok (.aload_n 0, 1) := by decide +kernel
theorem d_RD_keepSmall_16 : decode b_RD_keepSmall 16 = .ok (.iload_n 3, 1) := by decide +kernel
theorem d_RD_keepSmall_17 : decode b_RD_keepSmall 17 = .ok (.iload 4, 2) := by decide +kernel
theorem d_RD_keepSmall_19 : decode b_RD_keepSmall 19 = .ok (.invokevirtual 42, 3) := by decide +kernel
theorem d_RD_keepSmall_22 : decode b_RD_keepSmall 22 = .ok (.lstore 5, 2) := by decide +kernel
theorem d_RD_keepSmall_24 : decode b_RD_keepSmall 24 = .ok (.iconst 0, 1) := by decide +kernel
theorem d_RD_keepSmall_25 : decode b_RD_keepSmall 25 = .ok (.istore 7, 2) := by decide +kernel
theorem d_RD_keepSmall_27 : decode b_RD_keepSmall 27 = .ok (.iload 7, 2) := by decide +kernel
theorem d_RD_keepSmall_29 : decode b_RD_keepSmall 29 = .ok (.iload_n 2, 1) := by decide +kernel
theorem d_RD_keepSmall_30 : decode b_RD_keepSmall 30 = .ok (.if_icmp .gt 48, 3) := by decide +kernel
theorem d_RD_keepSmall_33 : decode b_RD_keepSmall 33 = .ok (.lload 5, 2) := by decide +kernel
theorem d_RD_keepSmall_35 : decode b_RD_keepSmall 35 = .ok (.lconst 0, 1) := by decide +kernel
theorem d_RD_keepSmall_36 : decode b_RD_keepSmall 36 = .ok (.lcmp, 1) := by decide +kernel
theorem d_RD_keepSmall_37 : decode b_RD_keepSmall 37 = .ok (.ifCond .le 35, 3) := by decide +kernel
theorem d_RD_keepSmall_40 : decode b_RD_keepSmall 40 = .ok (.iload 7, 2) := by decide +kernel
theorem d_RD_keepSmall_42 : decode b_RD_keepSmall 42 = .ok (.iload_n 3, 1) := by decide +kernel
theorem d_RD_keepSmall_43 : decode b_RD_keepSmall 43 = .ok (.if_icmp .lt 9, 3) := by decide +kernel
theorem d_RD_keepSmall_46 : decode b_RD_keepSmall 46 = .ok (.iload 7, 2) := by decide +kernel
theorem d_RD_keepSmall_48 : decode b_RD_keepSmall 48 = .ok (.iload_n 1, 1) := by decide +kernel
theorem d_RD_keepSmall_49 : decode b_RD_keepSmall 49 = .ok (.if_icmp .lt 23, 3) := by decide +kernel
theorem d_RD_keepSmall_52 : decode b_RD_keepSmall 52 = .ok (.aload_n 0, 1) := by decide +kernel
theorem d_RD_keepSmall_53 : decode b_RD_keepSmall 53 = .ok (.iload 7, 2) := by decide +kernel
theorem d_RD_keepSmall_55 : decode b_RD_keepSmall 55 = .ok (.iload_n 3, 1) := by decide +kernel
theorem d_RD_keepSmall_56 : decode b_RD_keepSmall 56 = .ok (.aload_n 0, 1) := by decide +kernel
theorem d_RD_keepSmall_57 : decode b_RD_keepSmall 57 = .ok (.iload 7, 2) := by decide +kernel
theorem d_RD_keepSmall_59 : decode b_RD_keepSmall 59 = .ok (.iload 4, 2) := by decide +kernel
theorem d_RD_keepSmall_61 : decode b_RD_keepSmall 61 = .ok (.invokevirtual 42, 3) := by decide +kernel
theorem d_RD_keepSmall_64 : decode b_RD_keepSmall 64 = .ok (.lload 5, 2) := by decide +kernel
theorem d_RD_keepSmall_66 : decode b_RD_keepSmall 66 = .ok (.invokestatic 70, 3) := by decide +kernel
theorem d_RD_keepSmall_69 : decode b_RD_keepSmall 69 = .ok (.invokevirtual 61, 3) := by decide +kernel
theorem d_RD_keepSmall_72 : decode b_RD_keepSmall 72 = .ok (.iinc 7 1, 3) := by decide +kernel
theorem d_RD_keepSmall_75 : decode b_RD_keepSmall 75 = .ok (.goto (-48), 3) := by decide +kernel
theorem d_RD_keepSmall_78 : decode b_RD_keepSmall 78 = .ok (.iinc 3 1, 3) := by decide +kernel
theorem d_RD_keepSmall_81 : decode b_RD_keepSmall 81 = .ok (.goto (-79), 3) := by decide +kernel
theorem d_RD_keepSmall_84 : decode b_RD_keepSmall 84 = .ok (.return_, 1) := by decide +kernel
theorem d_RD_takeIn_0 : decode b_RD_takeIn 0 = .ok (.iconst 0, 1) := by decide +kernel
theorem d_RD_takeIn_1 : decode b_RD_takeIn 1 = .ok (.istore_n 2, 1) := by decide +kernel
theorem d_RD_takeIn_2 : decode b_RD_takeIn 2 = .ok (.iconst 0, 1) := by decide +kernel
theorem d_RD_takeIn_3 : decode b_RD_takeIn 3 = .ok (.istore_n 3, 1) := by decide +kernel
theorem d_RD_takeIn_4 : decode b_RD_takeIn 4 = .ok (.iload_n 3, 1) := by decide +kernel
theorem d_RD_takeIn_5 : decode b_RD_takeIn 5 = .ok (.aload_n 0, 1) := by decide +kernel
theorem d_RD_takeIn_6 : decode b_RD_takeIn 6 = .ok (.getfield 32, 3) := by decide +kernel
theorem d_RD_takeIn_9 : decode b_RD_takeIn 9 = .ok (.aload_n 0, 1) := by decide +kernel
theorem d_RD_takeIn_10 : decode b_RD_takeIn 10 = .ok (.getfield 28, 3) := by decide +kernel
theorem d_RD_takeIn_13 : decode b_RD_takeIn 13 = .ok (.iadd, 1) := by decide +kernel
theorem d_RD_takeIn_14 : decode b_RD_takeIn 14 = .ok (.if_icmp .ge 98, 3) := by decide +kernel
theorem d_RD_takeIn_17 : decode b_RD_takeIn 17 = .ok (.iload_n 2, 1) := by decide +kernel
theorem d_RD_takeIn_18 : decode b_RD_takeIn 18 = .ok (.iload_n 1, 1) := by decide +kernel
theorem d_RD_takeIn_19 : decode b_RD_takeIn 19 = .ok (.if_icmp .ge 17, 3) := by decide +kernel
theorem d_RD_takeIn_22 : decode b_RD_takeIn 22 = .ok (.aload_n 0, 1) := by decide +kernel
theorem d_RD_takeIn_23 : decode b_RD_takeIn 23 = .ok (.getfield 15, 3) := by decide +kernel
theorem d_RD_takeIn_26 : decode b_RD_takeIn 26 = .ok (.iload_n 2, 1) := by decide +kernel
theorem d_RD_takeIn_27 : decode b_RD_takeIn 27 = .ok (.iaload, 1) := by decide +kernel
theorem d_RD_takeIn_28 : decode b_RD_takeIn 28 = .ok (.iload_n 3, 1) := by decide +kernel
theorem d_RD_takeIn_29 : decode b_RD_takeIn 29 = .ok (.if_icmp .ne 7, 3) := by decide +kernel
theorem d_RD_takeIn_32 : decode b_RD_takeIn 32 = .ok (.iconst 1, 1) := by decide +kernel
theorem d_RD_takeIn_33 : decode b_RD_takeIn 33 = .ok (.goto 4, 3) := by decide +kernel
theorem d_RD_takeIn_36 : decode b_RD_takeIn 36 = .ok (.iconst 0, 1) := by decide +kernel
theorem d_RD_takeIn_37 : decode b_RD_takeIn 37 = .ok (.istore 4, 2) := by decide +kernel
theorem d_RD_takeIn_39 : decode b_RD_takeIn 39 = .ok (.aload_n 0, 1) := by decide +kernel
theorem d_RD_takeIn_40 : decode b_RD_takeIn 40 = .ok (.iload_n 1, 1) := by decide +kernel
theorem d_RD_takeIn_41 : decode b_RD_takeIn 41 = .ok (.iload_n 3, 1) := by decide +kernel
theorem d_RD_takeIn_42 : decode b_RD_takeIn 42 = .ok (.invokevirtual 42, 3) := by decide +kernel
theorem d_RD_takeIn_45 : decode b_RD_takeIn 45 = .ok (.lconst 0, 1) := by decide +kernel
theorem d_RD_takeIn_46 : decode b_RD_takeIn 46 = .ok (.lcmp, 1) := by decide +kernel
theorem d_RD_takeIn_47 : decode b_RD_takeIn 47 = .ok (.ifCond .eq 24, 3) := by decide +kernel
theorem d_RD_takeIn_50 : decode b_RD_takeIn 50 = .ok (.iload 4, 2) := by decide +kernel
theorem d_RD_takeIn_52 : decode b_RD_takeIn 52 = .ok (.ifCond .eq 19, 3) := by decide +kernel
theorem d_RD_takeIn_55 : decode b_RD_takeIn 55 = .ok (.aload_n 0, 1) := by decide +kernel
theorem d_RD_takeIn_56 : decode b_RD_takeIn 56 = .ok (.iload_n 2, 1) := by decide +kernel
theorem d_RD_takeIn_57 : decode b_RD_takeIn 57 = .ok (.iload_n 1, 1) := by decide +kernel
theorem d_RD_takeIn_58 : decode b_RD_takeIn 58 = .ok (.iload_n 3, 1) := by decide +kernel
theorem d_RD_takeIn_59 : decode b_RD_takeIn 59 = .ok (.invokevirtual 50, 3) := by decide +kernel
theorem d_RD_takeIn_62 : decode b_RD_takeIn 62 = .ok (.aload_n 0, 1) := by decide +kernel
theorem d_RD_takeIn_63 : decode b_RD_takeIn 63 = .ok (.iload_n 1, 1) := by decide +kernel
theorem d_RD_takeIn_64 : decode b_RD_takeIn 64 = .ok (.iload_n 1, 1) := by decide +kernel
theorem d_RD_takeIn_65 : decode b_RD_takeIn 65 = .ok (.invokevirtual 54, 3) := by decide +kernel
theorem d_RD_takeIn_68 : decode b_RD_takeIn 68 = .ok (.goto 30, 3) := by decide +kernel
theorem d_RD_takeIn_71 : decode b_RD_takeIn 71 = .ok (.aload_n 0, 1) := by decide +kernel
theorem d_RD_takeIn_72 : decode b_RD_takeIn 72 = .ok (.iload_n 1, 1) := by decide +kernel
theorem d_RD_takeIn_73 : decode b_RD_takeIn 73 = .ok (.iload_n 3, 1) := by decide +kernel
theorem d_RD_takeIn_74 : decode b_RD_takeIn 74 = .ok (.invokevirtual 42, 3) := by decide +kernel
theorem d_RD_takeIn_77 : decode b_RD_takeIn 77 = .ok (.lconst 0, 1) := by decide +kernel
theorem d_RD_takeIn_78 : decode b_RD_takeIn 78 = .ok (.lcmp, 1) := by decide +kernel
theorem d_RD_takeIn_79 : decode b_RD_takeIn 79 = .ok (.ifCond .eq 19, 3) := by decide +kernel
theorem d_RD_takeIn_82 : decode b_RD_takeIn 82 = .ok (.aload_n 0, 1) := by decide +kernel
theorem d_RD_takeIn_83 : decode b_RD_takeIn 83 = .ok (.iload_n 1, 1) := by decide +kernel
theorem d_RD_takeIn_84 : decode b_RD_takeIn 84 = .ok (.iload_n 2, 1) := by decide +kernel
theorem d_RD_takeIn_85 : decode b_RD_takeIn 85 = .ok (.iload_n 3, 1) := by decide +kernel
theorem d_RD_takeIn_86 : decode b_RD_takeIn 86 = .ok (.invokevirtual 58, 3) := by decide +kernel
theorem d_RD_takeIn_89 : decode b_RD_takeIn 89 = .ok (.aload_n 0, 1) := by decide +kernel
theorem d_RD_takeIn_90 : decode b_RD_takeIn 90 = .ok (.iload_n 1, 1) := by decide +kernel
theorem d_RD_takeIn_91 : decode b_RD_takeIn 91 = .ok (.iconst 1, 1) := by decide +kernel
theorem d_RD_takeIn_92 : decode b_RD_takeIn 92 = .ok (.iadd, 1) := by decide +kernel
theorem d_RD_takeIn_93 : decode b_RD_takeIn 93 = .ok (.iload_n 1, 1) := by decide +kernel
theorem d_RD_takeIn_94 : decode b_RD_takeIn 94 = .ok (.invokevirtual 54, 3) := by decide +kernel
theorem d_RD_takeIn_97 : decode b_RD_takeIn 97 = .ok (.return_, 1) := by decide +kernel
theorem d_RD_takeIn_98 : decode b_RD_takeIn 98 = .ok (.iload 4, 2) := by decide +kernel
theorem d_RD_takeIn_100 : decode b_RD_takeIn 100 = .ok (.ifCond .eq 6, 3) := by decide +kernel
theorem d_RD_takeIn_103 : decode b_RD_takeIn 103 = .ok (.iinc 2 1, 3) := by decide +kernel
theorem d_RD_takeIn_106 : decode b_RD_takeIn 106 = .ok (.iinc 3 1, 3) := by decide +kernel
theorem d_RD_takeIn_109 : decode b_RD_takeIn 109 = .ok (.goto (-105), 3) := by decide +kernel
theorem d_RD_takeIn_112 : decode b_RD_takeIn 112 = .ok (.return_, 1) := by decide +kernel
theorem d_RD_reduce_0 : decode b_RD_reduce 0 = .ok (.iconst 0, 1) := by decide +kernel
theorem d_RD_reduce_1 : decode b_RD_reduce 1 = .ok (.istore_n 1, 1) := by decide +kernel
theorem d_RD_reduce_2 : decode b_RD_reduce 2 = .ok (.iload_n 1, 1) := by decide +kernel
theorem d_RD_reduce_3 : decode b_RD_reduce 3 = .ok (.aload_n 0, 1) := by decide +kernel
theorem d_RD_reduce_4 : decode b_RD_reduce 4 = .ok (.getfield 28, 3) := by decide +kernel
theorem d_RD_reduce_7 : decode b_RD_reduce 7 = .ok (.if_icmp .ge 14, 3) := by decide +kernel
theorem d_RD_reduce_10 : decode b_RD_reduce 10 = .ok (.aload_n 0, 1) := by decide +kernel
theorem d_RD_reduce_11 : decode b_RD_reduce 11 = .ok (.iload_n 1, 1) := by decide +kernel
theorem d_RD_reduce_12 : decode b_RD_reduce 12 = .ok (.invokevirtual 46, 3) := by decide +kernel
theorem d_RD_reduce_15 : decode b_RD_reduce 15 = .ok (.iinc 1 1, 3) := by decide +kernel
theorem d_RD_reduce_18 : decode b_RD_reduce 18 = .ok (.goto (-16), 3) := by decide +kernel
theorem d_RD_reduce_21 : decode b_RD_reduce 21 = .ok (.aload_n 0, 1) := by decide +kernel
theorem d_RD_reduce_22 : decode b_RD_reduce 22 = .ok (.iconst 0, 1) := by decide +kernel
theorem d_RD_reduce_23 : decode b_RD_reduce 23 = .ok (.putfield 39, 3) := by decide +kernel
theorem d_RD_reduce_26 : decode b_RD_reduce 26 = .ok (.iconst 0, 1) := by decide +kernel
theorem d_RD_reduce_27 : decode b_RD_reduce 27 = .ok (.istore_n 1, 1) := by decide +kernel
theorem d_RD_reduce_28 : decode b_RD_reduce 28 = .ok (.iload_n 1, 1) := by decide +kernel
theorem d_RD_reduce_29 : decode b_RD_reduce 29 = .ok (.aload_n 0, 1) := by decide +kernel
theorem d_RD_reduce_30 : decode b_RD_reduce 30 = .ok (.getfield 28, 3) := by decide +kernel
theorem d_RD_reduce_33 : decode b_RD_reduce 33 = .ok (.if_icmp .ge 32, 3) := by decide +kernel
theorem d_RD_reduce_36 : decode b_RD_reduce 36 = .ok (.aload_n 0, 1) := by decide +kernel
theorem d_RD_reduce_37 : decode b_RD_reduce 37 = .ok (.getfield 15, 3) := by decide +kernel
theorem d_RD_reduce_40 : decode b_RD_reduce 40 = .ok (.iload_n 1, 1) := by decide +kernel
theorem d_RD_reduce_41 : decode b_RD_reduce 41 = .ok (.iaload, 1) := by decide +kernel
theorem d_RD_reduce_42 : decode b_RD_reduce 42 = .ok (.aload_n 0, 1) := by decide +kernel
theorem d_RD_reduce_43 : decode b_RD_reduce 43 = .ok (.getfield 32, 3) := by decide +kernel
theorem d_RD_reduce_46 : decode b_RD_reduce 46 = .ok (.if_icmp .ge 13, 3) := by decide +kernel
theorem d_RD_reduce_49 : decode b_RD_reduce 49 = .ok (.aload_n 0, 1) := by decide +kernel
theorem d_RD_reduce_50 : decode b_RD_reduce 50 = .ok (.dup, 1) := by decide +kernel
theorem d_RD_reduce_51 : decode b_RD_reduce 51 = .ok (.getfield 39, 3) := by decide +kernel
theorem d_RD_reduce_54 : decode b_RD_reduce 54 = .ok (.iconst 1, 1) := by decide +kernel
theorem d_RD_reduce_55 : decode b_RD_reduce 55 = .ok (.iadd, 1) := by decide +kernel
theorem d_RD_reduce_56 : decode b_RD_reduce 56 = .ok (.putfield 39, 3) := by decide +kernel
theorem d_RD_reduce_59 : decode b_RD_reduce 59 = .ok (.iinc 1 1, 3) := by decide +kernel
theorem d_RD_reduce_62 : decode b_RD_reduce 62 = .ok (.goto (-34), 3) := by decide +kernel
theorem d_RD_reduce_65 : decode b_RD_reduce 65 = .ok (.return_, 1) := by decide +kernel
theorem d_MA_min_0 : decode b_MA_min 0 = .ok (.iload_n 0, 1) := by decide +kernel
theorem d_MA_min_1 : decode b_MA_min 1 = .ok (.iload_n 1, 1) := by decide +kernel
theorem d_MA_min_2 : decode b_MA_min 2 = .ok (.if_icmp .gt 7, 3) := by decide +kernel
theorem d_MA_min_5 : decode b_MA_min 5 = .ok (.iload_n 0, 1) := by decide +kernel
theorem d_MA_min_6 : decode b_MA_min 6 = .ok (.goto 4, 3) := by decide +kernel
theorem d_MA_min_9 : decode b_MA_min 9 = .ok (.iload_n 1, 1) := by decide +kernel
theorem d_MA_min_10 : decode b_MA_min 10 = .ok (.ireturn, 1) := by decide +kernel
theorem d_MA_max_0 : decode b_MA_max 0 = .ok (.iload_n 0, 1) := by decide +kernel
theorem d_MA_max_1 : decode b_MA_max 1 = .ok (.iload_n 1, 1) := by decide +kernel
theorem d_MA_max_2 : decode b_MA_max 2 = .ok (.if_icmp .lt 7, 3) := by decide +kernel
theorem d_MA_max_5 : decode b_MA_max 5 = .ok (.iload_n 0, 1) := by decide +kernel
theorem d_MA_max_6 : decode b_MA_max 6 = .ok (.goto 4, 3) := by decide +kernel
theorem d_MA_max_9 : decode b_MA_max 9 = .ok (.iload_n 1, 1) := by decide +kernel
theorem d_MA_max_10 : decode b_MA_max 10 = .ok (.ireturn, 1) := by decide +kernel
theorem d_RD_open_0 : decode b_RD_open 0 = .ok (.aload_n 0, 1) := by decide +kernel
theorem d_RD_open_1 : decode b_RD_open 1 = .ok (.iconst 0, 1) := by decide +kernel
theorem d_RD_open_2 : decode b_RD_open 2 = .ok (.iload_n 1, 1) := by decide +kernel
theorem d_RD_open_3 : decode b_RD_open 3 = .ok (.iconst 4, 1) := by decide +kernel
theorem d_RD_open_4 : decode b_RD_open 4 = .ok (.invokestatic 19, 3) := by decide +kernel
theorem d_RD_open_7 : decode b_RD_open 7 = .ok (.invokestatic 25, 3) := by decide +kernel
theorem d_RD_open_10 : decode b_RD_open 10 = .ok (.putfield 28, 3) := by decide +kernel
theorem d_RD_open_13 : decode b_RD_open 13 = .ok (.aload_n 0, 1) := by decide +kernel
theorem d_RD_open_14 : decode b_RD_open 14 = .ok (.iconst 0, 1) := by decide +kernel
theorem d_RD_open_15 : decode b_RD_open 15 = .ok (.iload_n 2, 1) := by decide +kernel
theorem d_RD_open_16 : decode b_RD_open 16 = .ok (.iconst 4, 1) := by decide +kernel
theorem d_RD_open_17 : decode b_RD_open 17 = .ok (.invokestatic 19, 3) := by decide +kernel
theorem d_RD_open_20 : decode b_RD_open 20 = .ok (.invokestatic 25, 3) := by decide +kernel
theorem d_RD_open_23 : decode b_RD_open 23 = .ok (.putfield 32, 3) := by decide +kernel
theorem d_RD_open_26 : decode b_RD_open 26 = .ok (.iconst 0, 1) := by decide +kernel
theorem d_RD_open_27 : decode b_RD_open 27 = .ok (.istore_n 3, 1) := by decide +kernel
theorem d_RD_open_28 : decode b_RD_open 28 = .ok (.iload_n 3, 1) := by decide +kernel
theorem d_RD_open_29 : decode b_RD_open 29 = .ok (.bipush 32, 2) := by decide +kernel
theorem d_RD_open_31 : decode b_RD_open 31 = .ok (.if_icmp .ge 16, 3) := by decide +kernel
theorem d_RD_open_34 : decode b_RD_open 34 = .ok (.aload_n 0, 1) := by decide +kernel
theorem d_RD_open_35 : decode b_RD_open 35 = .ok (.getfield 11, 3) := by decide +kernel
theorem d_RD_open_38 : decode b_RD_open 38 = .ok (.iload_n 3, 1) := by decide +kernel
theorem d_RD_open_39 : decode b_RD_open 39 = .ok (.lconst 0, 1) := by decide +kernel
theorem d_RD_open_40 : decode b_RD_open 40 = .ok (.lastore, 1) := by decide +kernel
theorem d_RD_open_41 : decode b_RD_open 41 = .ok (.iinc 3 1, 3) := by decide +kernel
theorem d_RD_open_44 : decode b_RD_open 44 = .ok (.goto (-16), 3) := by decide +kernel
theorem d_RD_open_47 : decode b_RD_open 47 = .ok (.iconst 0, 1) := by decide +kernel
theorem d_RD_open_48 : decode b_RD_open 48 = .ok (.istore_n 3, 1) := by decide +kernel
theorem d_RD_open_49 : decode b_RD_open 49 = .ok (.iload_n 3, 1) := by decide +kernel
theorem d_RD_open_50 : decode b_RD_open 50 = .ok (.aload_n 0, 1) := by decide +kernel
theorem d_RD_open_51 : decode b_RD_open 51 = .ok (.getfield 28, 3) := by decide +kernel
theorem d_RD_open_54 : decode b_RD_open 54 = .ok (.if_icmp .ge 21, 3) := by decide +kernel
theorem d_RD_open_57 : decode b_RD_open 57 = .ok (.aload_n 0, 1) := by decide +kernel
theorem d_RD_open_58 : decode b_RD_open 58 = .ok (.iload_n 3, 1) := by decide +kernel
theorem d_RD_open_59 : decode b_RD_open 59 = .ok (.aload_n 0, 1) := by decide +kernel
theorem d_RD_open_60 : decode b_RD_open 60 = .ok (.getfield 32, 3) := by decide +kernel
theorem d_RD_open_63 : decode b_RD_open 63 = .ok (.iload_n 3, 1) := by decide +kernel
theorem d_RD_open_64 : decode b_RD_open 64 = .ok (.iadd, 1) := by decide +kernel
theorem d_RD_open_65 : decode b_RD_open 65 = .ok (.lconst 1, 1) := by decide +kernel
theorem d_RD_open_66 : decode b_RD_open 66 = .ok (.invokevirtual 35, 3) := by decide +kernel
theorem d_RD_open_69 : decode b_RD_open 69 = .ok (.iinc 3 1, 3) := by decide +kernel
theorem d_RD_open_72 : decode b_RD_open 72 = .ok (.goto (-23), 3) := by decide +kernel
theorem d_RD_open_75 : decode b_RD_open 75 = .ok (.return_, 1) := by decide +kernel
theorem d_RD_imageRows_0 : decode b_RD_imageRows 0 = .ok (.aload_n 0, 1) := by decide +kernel
theorem d_RD_imageRows_1 : decode b_RD_imageRows 1 = .ok (.getfield 39, 3) := by decide +kernel
theorem d_RD_imageRows_4 : decode b_RD_imageRows 4 = .ok (.ireturn, 1) := by decide +kernel
theorem d_RD_kernelRows_0 : decode b_RD_kernelRows 0 = .ok (.aload_n 0, 1) := by decide +kernel
theorem d_RD_kernelRows_1 : decode b_RD_kernelRows 1 = .ok (.getfield 28, 3) := by decide +kernel
theorem d_RD_kernelRows_4 : decode b_RD_kernelRows 4 = .ok (.aload_n 0, 1) := by decide +kernel
theorem d_RD_kernelRows_5 : decode b_RD_kernelRows 5 = .ok (.getfield 39, 3) := by decide +kernel
theorem d_RD_kernelRows_8 : decode b_RD_kernelRows 8 = .ok (.isub, 1) := by decide +kernel
theorem d_RD_kernelRows_9 : decode b_RD_kernelRows 9 = .ok (.ireturn, 1) := by decide +kernel
theorem d_RD_image_0 : decode b_RD_image 0 = .ok (.aload_n 0, 1) := by decide +kernel
theorem d_RD_image_1 : decode b_RD_image 1 = .ok (.iload_n 1, 1) := by decide +kernel
theorem d_RD_image_2 : decode b_RD_image 2 = .ok (.iload_n 2, 1) := by decide +kernel
theorem d_RD_image_3 : decode b_RD_image 3 = .ok (.invokevirtual 42, 3) := by decide +kernel
theorem d_RD_image_6 : decode b_RD_image 6 = .ok (.lreturn, 1) := by decide +kernel
theorem d_RD_kernel_0 : decode b_RD_kernel 0 = .ok (.aload_n 0, 1) := by decide +kernel
theorem d_RD_kernel_1 : decode b_RD_kernel 1 = .ok (.aload_n 0, 1) := by decide +kernel
theorem d_RD_kernel_2 : decode b_RD_kernel 2 = .ok (.getfield 39, 3) := by decide +kernel
theorem d_RD_kernel_5 : decode b_RD_kernel 5 = .ok (.iload_n 1, 1) := by decide +kernel
theorem d_RD_kernel_6 : decode b_RD_kernel 6 = .ok (.iadd, 1) := by decide +kernel
theorem d_RD_kernel_7 : decode b_RD_kernel 7 = .ok (.aload_n 0, 1) := by decide +kernel
theorem d_RD_kernel_8 : decode b_RD_kernel 8 = .ok (.getfield 32, 3) := by decide +kernel
theorem d_RD_kernel_11 : decode b_RD_kernel 11 = .ok (.iload_n 2, 1) := by decide +kernel
theorem d_RD_kernel_12 : decode b_RD_kernel 12 = .ok (.iadd, 1) := by decide +kernel
theorem d_RD_kernel_13 : decode b_RD_kernel 13 = .ok (.invokevirtual 42, 3) := by decide +kernel
theorem d_RD_kernel_16 : decode b_RD_kernel 16 = .ok (.lreturn, 1) := by decide +kernel
theorem d_IN_bitCount_0 : decode b_IN_bitCount 0 = .ok (.iload_n 0, 1) := by decide +kernel
theorem d_IN_bitCount_1 : decode b_IN_bitCount 1 = .ok (.iload_n 0, 1) := by decide +kernel
theorem d_IN_bitCount_2 : decode b_IN_bitCount 2 = .ok (.iconst 1, 1) := by decide +kernel
theorem d_IN_bitCount_3 : decode b_IN_bitCount 3 = .ok (.iushr, 1) := by decide +kernel
theorem d_IN_bitCount_4 : decode b_IN_bitCount 4 = .ok (.ldc_w 265, 3) := by decide +kernel
theorem d_IN_bitCount_7 : decode b_IN_bitCount 7 = .ok (.iand, 1) := by decide +kernel
theorem d_IN_bitCount_8 : decode b_IN_bitCount 8 = .ok (.isub, 1) := by decide +kernel
theorem d_IN_bitCount_9 : decode b_IN_bitCount 9 = .ok (.istore_n 0, 1) := by decide +kernel
theorem d_IN_bitCount_10 : decode b_IN_bitCount 10 = .ok (.iload_n 0, 1) := by decide +kernel
theorem d_IN_bitCount_11 : decode b_IN_bitCount 11 = .ok (.ldc_w 266, 3) := by decide +kernel
theorem d_IN_bitCount_14 : decode b_IN_bitCount 14 = .ok (.iand, 1) := by decide +kernel
theorem d_IN_bitCount_15 : decode b_IN_bitCount 15 = .ok (.iload_n 0, 1) := by decide +kernel
theorem d_IN_bitCount_16 : decode b_IN_bitCount 16 = .ok (.iconst 2, 1) := by decide +kernel
theorem d_IN_bitCount_17 : decode b_IN_bitCount 17 = .ok (.iushr, 1) := by decide +kernel
theorem d_IN_bitCount_18 : decode b_IN_bitCount 18 = .ok (.ldc_w 266, 3) := by decide +kernel
theorem d_IN_bitCount_21 : decode b_IN_bitCount 21 = .ok (.iand, 1) := by decide +kernel
theorem d_IN_bitCount_22 : decode b_IN_bitCount 22 = .ok (.iadd, 1) := by decide +kernel
theorem d_IN_bitCount_23 : decode b_IN_bitCount 23 = .ok (.istore_n 0, 1) := by decide +kernel
theorem d_IN_bitCount_24 : decode b_IN_bitCount 24 = .ok (.iload_n 0, 1) := by decide +kernel
theorem d_IN_bitCount_25 : decode b_IN_bitCount 25 = .ok (.iload_n 0, 1) := by decide +kernel
theorem d_IN_bitCount_26 : decode b_IN_bitCount 26 = .ok (.iconst 4, 1) := by decide +kernel
theorem d_IN_bitCount_27 : decode b_IN_bitCount 27 = .ok (.iushr, 1) := by decide +kernel
theorem d_IN_bitCount_28 : decode b_IN_bitCount 28 = .ok (.iadd, 1) := by decide +kernel
theorem d_IN_bitCount_29 : decode b_IN_bitCount 29 = .ok (.ldc_w 267, 3) := by decide +kernel
theorem d_IN_bitCount_32 : decode b_IN_bitCount 32 = .ok (.iand, 1) := by decide +kernel
theorem d_IN_bitCount_33 : decode b_IN_bitCount 33 = .ok (.istore_n 0, 1) := by decide +kernel
theorem d_IN_bitCount_34 : decode b_IN_bitCount 34 = .ok (.iload_n 0, 1) := by decide +kernel
theorem d_IN_bitCount_35 : decode b_IN_bitCount 35 = .ok (.iload_n 0, 1) := by decide +kernel
theorem d_IN_bitCount_36 : decode b_IN_bitCount 36 = .ok (.bipush 8, 2) := by decide +kernel
theorem d_IN_bitCount_38 : decode b_IN_bitCount 38 = .ok (.iushr, 1) := by decide +kernel
theorem d_IN_bitCount_39 : decode b_IN_bitCount 39 = .ok (.iadd, 1) := by decide +kernel
theorem d_IN_bitCount_40 : decode b_IN_bitCount 40 = .ok (.istore_n 0, 1) := by decide +kernel
theorem d_IN_bitCount_41 : decode b_IN_bitCount 41 = .ok (.iload_n 0, 1) := by decide +kernel
theorem d_IN_bitCount_42 : decode b_IN_bitCount 42 = .ok (.iload_n 0, 1) := by decide +kernel
theorem d_IN_bitCount_43 : decode b_IN_bitCount 43 = .ok (.bipush 16, 2) := by decide +kernel
theorem d_IN_bitCount_45 : decode b_IN_bitCount 45 = .ok (.iushr, 1) := by decide +kernel
theorem d_IN_bitCount_46 : decode b_IN_bitCount 46 = .ok (.iadd, 1) := by decide +kernel
theorem d_IN_bitCount_47 : decode b_IN_bitCount 47 = .ok (.istore_n 0, 1) := by decide +kernel
theorem d_IN_bitCount_48 : decode b_IN_bitCount 48 = .ok (.iload_n 0, 1) := by decide +kernel
theorem d_IN_bitCount_49 : decode b_IN_bitCount 49 = .ok (.bipush 63, 2) := by decide +kernel
theorem d_IN_bitCount_51 : decode b_IN_bitCount 51 = .ok (.iand, 1) := by decide +kernel
theorem d_IN_bitCount_52 : decode b_IN_bitCount 52 = .ok (.ireturn, 1) := by decide +kernel
theorem d_MN_alongLastRow_0 : decode b_MN_alongLastRow 0 = .ok (.lconst 0, 1) := by decide +kernel
theorem d_MN_alongLastRow_1 : decode b_MN_alongLastRow 1 = .ok (.lstore 5, 2) := by decide +kernel
theorem d_MN_alongLastRow_3 : decode b_MN_alongLastRow 3 = .ok (.lconst 1, 1) := by decide +kernel
theorem d_MN_alongLastRow_4 : decode b_MN_alongLastRow 4 = .ok (.lstore 7, 2) := by decide +kernel
theorem d_MN_alongLastRow_6 : decode b_MN_alongLastRow 6 = .ok (.iconst 3, 1) := by decide +kernel
theorem d_MN_alongLastRow_7 : decode b_MN_alongLastRow 7 = .ok (.istore 9, 2) := by decide +kernel
theorem d_MN_alongLastRow_9 : decode b_MN_alongLastRow 9 = .ok (.iload 9, 2) := by decide +kernel
theorem d_MN_alongLastRow_11 : decode b_MN_alongLastRow 11 = .ok (.ifCond .lt 65, 3) := by decide +kernel
theorem d_MN_alongLastRow_14 : decode b_MN_alongLastRow 14 = .ok (.iconst 1, 1) := by decide +kernel
theorem d_MN_alongLastRow_15 : decode b_MN_alongLastRow 15 = .ok (.iload 9, 2) := by decide +kernel
theorem d_MN_alongLastRow_17 : decode b_MN_alongLastRow 17 = .ok (.ishl, 1) := by decide +kernel
theorem d_MN_alongLastRow_18 : decode b_MN_alongLastRow 18 = .ok (.istore 10, 2) := by decide +kernel
theorem d_MN_alongLastRow_20 : decode b_MN_alongLastRow 20 = .ok (.iload 4, 2) := by decide +kernel
theorem d_MN_alongLastRow_22 : decode b_MN_alongLastRow 22 = .ok (.iload 10, 2) := by decide +kernel
theorem d_MN_alongLastRow_24 : decode b_MN_alongLastRow 24 = .ok (.iand, 1) := by decide +kernel
theorem d_MN_alongLastRow_25 : decode b_MN_alongLastRow 25 = .ok (.ifCond .eq 45, 3) := by decide +kernel
theorem d_MN_alongLastRow_28 : decode b_MN_alongLastRow 28 = .ok (.aload_n 0, 1) := by decide +kernel
theorem d_MN_alongLastRow_29 : decode b_MN_alongLastRow 29 = .ok (.getfield 11, 3) := by decide +kernel
theorem d_MN_alongLastRow_32 : decode b_MN_alongLastRow 32 = .ok (.iload_n 3, 1) := by decide +kernel
theorem d_MN_alongLastRow_33 : decode b_MN_alongLastRow 33 = .ok (.bipush 16, 2) := by decide +kernel
theorem d_MN_alongLastRow_35 : decode b_MN_alongLastRow 35 = .ok (.imul, 1) := by decide +kernel
theorem d_MN_alongLastRow_36 : decode b_MN_alongLastRow 36 = .ok (.iload 4, 2) := by decide +kernel
theorem d_MN_alongLastRow_38 : decode b_MN_alongLastRow 38 = .ok (.iload 10, 2) := by decide +kernel
theorem d_MN_alongLastRow_40 : decode b_MN_alongLastRow 40 = .ok (.ixor, 1) := by decide +kernel
theorem d_MN_alongLastRow_41 : decode b_MN_alongLastRow 41 = .ok (.iadd, 1) := by decide +kernel
theorem d_MN_alongLastRow_42 : decode b_MN_alongLastRow 42 = .ok (.laload, 1) := by decide +kernel
theorem d_MN_alongLastRow_43 : decode b_MN_alongLastRow 43 = .ok (.lstore 11, 2) := by decide +kernel
theorem d_MN_alongLastRow_45 : decode b_MN_alongLastRow 45 = .ok (.lload 5, 2) := by decide +kernel
theorem d_MN_alongLastRow_47 : decode b_MN_alongLastRow 47 = .ok (.lload 7, 2) := by decide +kernel
theorem d_MN_alongLastRow_49 : decode b_MN_alongLastRow 49 = .ok (.aload_n 1, 1) := by decide +kernel
theorem d_MN_alongLastRow_50 : decode b_MN_alongLastRow 50 = .ok (.iload_n 2, 1) := by decide +kernel
theorem d_MN_alongLastRow_51 : decode b_MN_alongLastRow 51 = .ok (.iconst 4, 1) := by decide +kernel
theorem d_MN_alongLastRow_52 : decode b_MN_alongLastRow 52 = .ok (.imul, 1) := by decide +kernel
theorem d_MN_alongLastRow_53 : decode b_MN_alongLastRow 53 = .ok (.iload 9, 2) := by decide +kernel
theorem d_MN_alongLastRow_55 : decode b_MN_alongLastRow 55 = .ok (.iadd, 1) := by decide +kernel
theorem d_MN_alongLastRow_56 : decode b_MN_alongLastRow 56 = .ok (.iaload, 1) := by decide +kernel
theorem d_MN_alongLastRow_57 : decode b_MN_alongLastRow 57 = .ok (.i2l, 1) := by decide +kernel
theorem d_MN_alongLastRow_58 : decode b_MN_alongLastRow 58 = .ok (.lmul, 1) := by decide +kernel
theorem d_MN_alongLastRow_59 : decode b_MN_alongLastRow 59 = .ok (.lload 11, 2) := by decide +kernel
theorem d_MN_alongLastRow_61 : decode b_MN_alongLastRow 61 = .ok (.lmul, 1) := by decide +kernel
theorem d_MN_alongLastRow_62 : decode b_MN_alongLastRow 62 = .ok (.ladd, 1) := by decide +kernel
theorem d_MN_alongLastRow_63 : decode b_MN_alongLastRow 63 = .ok (.lstore 5, 2) := by decide +kernel
theorem d_MN_alongLastRow_65 : decode b_MN_alongLastRow 65 = .ok (.lload 7, 2) := by decide +kernel
theorem d_MN_alongLastRow_67 : decode b_MN_alongLastRow 67 = .ok (.lneg, 1) := by decide +kernel
theorem d_MN_alongLastRow_68 : decode b_MN_alongLastRow 68 = .ok (.lstore 7, 2) := by decide +kernel
theorem d_MN_alongLastRow_70 : decode b_MN_alongLastRow 70 = .ok (.iinc 9 (-1), 3) := by decide +kernel
theorem d_MN_alongLastRow_73 : decode b_MN_alongLastRow 73 = .ok (.goto (-64), 3) := by decide +kernel
theorem d_MN_alongLastRow_76 : decode b_MN_alongLastRow 76 = .ok (.lload 5, 2) := by decide +kernel
theorem d_MN_alongLastRow_78 : decode b_MN_alongLastRow 78 = .ok (.lreturn, 1) := by decide +kernel
theorem d_MN_expand_0 : decode b_MN_expand 0 = .ok (.aload_n 0, 1) := by decide +kernel
theorem d_MN_expand_1 : decode b_MN_expand 1 = .ok (.getfield 11, 3) := by decide +kernel
theorem d_MN_expand_4 : decode b_MN_expand 4 = .ok (.iconst 0, 1) := by decide +kernel
theorem d_MN_expand_5 : decode b_MN_expand 5 = .ok (.lconst 1, 1) := by decide +kernel
theorem d_MN_expand_6 : decode b_MN_expand 6 = .ok (.lastore, 1) := by decide +kernel
theorem d_MN_expand_7 : decode b_MN_expand 7 = .ok (.aload_n 0, 1) := by decide +kernel
theorem d_MN_expand_8 : decode b_MN_expand 8 = .ok (.iconst 1, 1) := by decide +kernel
theorem d_MN_expand_9 : decode b_MN_expand 9 = .ok (.iload_n 2, 1) := by decide +kernel
theorem d_MN_expand_10 : decode b_MN_expand 10 = .ok (.ishl, 1) := by decide +kernel
theorem d_MN_expand_11 : decode b_MN_expand 11 = .ok (.putfield 15, 3) := by decide +kernel
theorem d_MN_expand_14 : decode b_MN_expand 14 = .ok (.iconst 0, 1) := by decide +kernel
theorem d_MN_expand_15 : decode b_MN_expand 15 = .ok (.istore_n 3, 1) := by decide +kernel
theorem d_MN_expand_16 : decode b_MN_expand 16 = .ok (.iload_n 3, 1) := by decide +kernel
theorem d_MN_expand_17 : decode b_MN_expand 17 = .ok (.iload_n 2, 1) := by decide +kernel
theorem d_MN_expand_18 : decode b_MN_expand 18 = .ok (.if_icmp .ge 87, 3) := by decide +kernel
theorem d_MN_expand_21 : decode b_MN_expand 21 = .ok (.iconst 1, 1) := by decide +kernel
theorem d_MN_expand_22 : decode b_MN_expand 22 = .ok (.iload_n 3, 1) := by decide +kernel
theorem d_MN_expand_23 : decode b_MN_expand 23 = .ok (.ishl, 1) := by decide +kernel
theorem d_MN_expand_24 : decode b_MN_expand 24 = .ok (.istore 4, 2) := by decide +kernel
theorem d_MN_expand_26 : decode b_MN_expand 26 = .ok (.iconst 0, 1) := by decide +kernel
theorem d_MN_expand_27 : decode b_MN_expand 27 = .ok (.istore 5, 2) := by decide +kernel
theorem d_MN_expand_29 : decode b_MN_expand 29 = .ok (.iload 5, 2) := by decide +kernel
theorem d_MN_expand_31 : decode b_MN_expand 31 = .ok (.iload 4, 2) := by decide +kernel
theorem d_MN_expand_33 : decode b_MN_expand 33 = .ok (.if_icmp .ge 66, 3) := by decide +kernel
theorem d_MN_expand_36 : decode b_MN_expand 36 = .ok (.iconst 1, 1) := by decide +kernel
theorem d_MN_expand_37 : decode b_MN_expand 37 = .ok (.istore 6, 2) := by decide +kernel
theorem d_MN_expand_39 : decode b_MN_expand 39 = .ok (.iload 6, 2) := by decide +kernel
theorem d_MN_expand_41 : decode b_MN_expand 41 = .ok (.bipush 16, 2) := by decide +kernel
theorem d_MN_expand_43 : decode b_MN_expand 43 = .ok (.if_icmp .ge 50, 3) := by decide +kernel
theorem d_MN_expand_46 : decode b_MN_expand 46 = .ok (.iload 6, 2) := by decide +kernel
theorem d_MN_expand_48 : decode b_MN_expand 48 = .ok (.invokestatic 19, 3) := by decide +kernel
theorem d_MN_expand_51 : decode b_MN_expand 51 = .ok (.iload 5, 2) := by decide +kernel
theorem d_MN_expand_53 : decode b_MN_expand 53 = .ok (.invokestatic 19, 3) := by decide +kernel
theorem d_MN_expand_56 : decode b_MN_expand 56 = .ok (.iconst 1, 1) := by decide +kernel
theorem d_MN_expand_57 : decode b_MN_expand 57 = .ok (.iadd, 1) := by decide +kernel
theorem d_MN_expand_58 : decode b_MN_expand 58 = .ok (.if_icmp .ne 29, 3) := by decide +kernel
theorem d_MN_expand_61 : decode b_MN_expand 61 = .ok (.aload_n 0, 1) := by decide +kernel
theorem d_MN_expand_62 : decode b_MN_expand 62 = .ok (.getfield 11, 3) := by decide +kernel
theorem d_MN_expand_65 : decode b_MN_expand 65 = .ok (.iload 4, 2) := by decide +kernel
theorem d_MN_expand_67 : decode b_MN_expand 67 = .ok (.iload 5, 2) := by decide +kernel
theorem d_MN_expand_69 : decode b_MN_expand 69 = .ok (.ior, 1) := by decide +kernel
theorem d_MN_expand_70 : decode b_MN_expand 70 = .ok (.bipush 16, 2) := by decide +kernel
theorem d_MN_expand_72 : decode b_MN_expand 72 = .ok (.imul, 1) := by decide +kernel
theorem d_MN_expand_73 : decode b_MN_expand 73 = .ok (.iload 6, 2) := by decide +kernel
theorem d_MN_expand_75 : decode b_MN_expand 75 = .ok (.iadd, 1) := by decide +kernel
theorem d_MN_expand_76 : decode b_MN_expand 76 = .ok (.aload_n 0, 1) := by decide +kernel
theorem d_MN_expand_77 : decode b_MN_expand 77 = .ok (.aload_n 1, 1) := by decide +kernel
theorem d_MN_expand_78 : decode b_MN_expand 78 = .ok (.iload_n 3, 1) := by decide +kernel
theorem d_MN_expand_79 : decode b_MN_expand 79 = .ok (.iload 5, 2) := by decide +kernel
theorem d_MN_expand_81 : decode b_MN_expand 81 = .ok (.iload 6, 2) := by decide +kernel
theorem d_MN_expand_83 : decode b_MN_expand 83 = .ok (.invokevirtual 25, 3) := by decide +kernel
theorem d_MN_expand_86 : decode b_MN_expand 86 = .ok (.lastore, 1) := by decide +kernel
theorem d_MN_expand_87 : decode b_MN_expand 87 = .ok (.iinc 6 1, 3) := by decide +kernel
theorem d_MN_expand_90 : decode b_MN_expand 90 = .ok (.goto (-51), 3) := by decide +kernel
theorem d_MN_expand_93 : decode b_MN_expand 93 = .ok (.iinc 5 1, 3) := by decide +kernel
theorem d_MN_expand_96 : decode b_MN_expand 96 = .ok (.goto (-67), 3) := by decide +kernel
theorem d_MN_expand_99 : decode b_MN_expand 99 = .ok (.iinc 3 1, 3) := by decide +kernel
theorem d_MN_expand_102 : decode b_MN_expand 102 = .ok (.goto (-86), 3) := by decide +kernel
theorem d_MN_expand_105 : decode b_MN_expand 105 = .ok (.return_, 1) := by decide +kernel
theorem d_PW_isKnown_0 : decode b_PW_isKnown 0 = .ok (.aload_n 0, 1) := by decide +kernel
theorem d_PW_isKnown_1 : decode b_PW_isKnown 1 = .ok (.getfield 18, 3) := by decide +kernel
theorem d_PW_isKnown_4 : decode b_PW_isKnown 4 = .ok (.ireturn, 1) := by decide +kernel
theorem d_PW_share_0 : decode b_PW_share 0 = .ok (.aload_n 0, 1) := by decide +kernel
theorem d_PW_share_1 : decode b_PW_share 1 = .ok (.getfield 15, 3) := by decide +kernel
theorem d_PW_share_4 : decode b_PW_share 4 = .ok (.iload_n 1, 1) := by decide +kernel
theorem d_PW_share_5 : decode b_PW_share 5 = .ok (.laload, 1) := by decide +kernel
theorem d_PW_share_6 : decode b_PW_share 6 = .ok (.lreturn, 1) := by decide +kernel
theorem d_PW_forget_0 : decode b_PW_forget 0 = .ok (.aload_n 0, 1) := by decide +kernel
theorem d_PW_forget_1 : decode b_PW_forget 1 = .ok (.iconst 0, 1) := by decide +kernel
theorem d_PW_forget_2 : decode b_PW_forget 2 = .ok (.putfield 18, 3) := by decide +kernel
theorem d_PW_forget_5 : decode b_PW_forget 5 = .ok (.return_, 1) := by decide +kernel
theorem d_PW_start_0 : decode b_PW_start 0 = .ok (.aload_n 0, 1) := by decide +kernel
theorem d_PW_start_1 : decode b_PW_start 1 = .ok (.getfield 9, 3) := by decide +kernel
theorem d_PW_start_4 : decode b_PW_start 4 = .ok (.iconst 0, 1) := by decide +kernel
theorem d_PW_start_5 : decode b_PW_start 5 = .ok (.iload_n 1, 1) := by decide +kernel
theorem d_PW_start_6 : decode b_PW_start 6 = .ok (.i2l, 1) := by decide +kernel
theorem d_PW_start_7 : decode b_PW_start 7 = .ok (.lastore, 1) := by decide +kernel
theorem d_PW_start_8 : decode b_PW_start 8 = .ok (.aload_n 0, 1) := by decide +kernel
theorem d_PW_start_9 : decode b_PW_start 9 = .ok (.getfield 9, 3) := by decide +kernel
theorem d_PW_start_12 : decode b_PW_start 12 = .ok (.iconst 1, 1) := by decide +kernel
theorem d_PW_start_13 : decode b_PW_start 13 = .ok (.iload_n 2, 1) := by decide +kernel
theorem d_PW_start_14 : decode b_PW_start 14 = .ok (.i2l, 1) := by decide +kernel
theorem d_PW_start_15 : decode b_PW_start 15 = .ok (.lastore, 1) := by decide +kernel
theorem d_PW_start_16 : decode b_PW_start 16 = .ok (.aload_n 0, 1) := by decide +kernel
theorem d_PW_start_17 : decode b_PW_start 17 = .ok (.getfield 9, 3) := by decide +kernel
theorem d_PW_start_20 : decode b_PW_start 20 = .ok (.iconst 2, 1) := by decide +kernel
theorem d_PW_start_21 : decode b_PW_start 21 = .ok (.iload_n 3, 1) := by decide +kernel
theorem d_PW_start_22 : decode b_PW_start 22 = .ok (.i2l, 1) := by decide +kernel
theorem d_PW_start_23 : decode b_PW_start 23 = .ok (.lastore, 1) := by decide +kernel
theorem d_PW_start_24 : decode b_PW_start 24 = .ok (.aload_n 0, 1) := by decide +kernel
theorem d_PW_start_25 : decode b_PW_start 25 = .ok (.getfield 9, 3) := by decide +kernel
theorem d_PW_start_28 : decode b_PW_start 28 = .ok (.iconst 3, 1) := by decide +kernel
theorem d_PW_start_29 : decode b_PW_start 29 = .ok (.iload 4, 2) := by decide +kernel
theorem d_PW_start_31 : decode b_PW_start 31 = .ok (.i2l, 1) := by decide +kernel
theorem d_PW_start_32 : decode b_PW_start 32 = .ok (.lastore, 1) := by decide +kernel
theorem d_PW_start_33 : decode b_PW_start 33 = .ok (.return_, 1) := by decide +kernel
theorem d_PW_widen_0 : decode b_PW_widen 0 = .ok (.iconst 0, 1) := by decide +kernel
theorem d_PW_widen_1 : decode b_PW_widen 1 = .ok (.istore 4, 2) := by decide +kernel
theorem d_PW_widen_3 : decode b_PW_widen 3 = .ok (.iload 4, 2) := by decide +kernel
theorem d_PW_widen_5 : decode b_PW_widen 5 = .ok (.iconst 4, 1) := by decide +kernel
theorem d_PW_widen_6 : decode b_PW_widen 6 = .ok (.if_icmp .ge 20, 3) := by decide +kernel
theorem d_PW_widen_9 : decode b_PW_widen 9 = .ok (.aload_n 0, 1) := by decide +kernel
theorem d_PW_widen_10 : decode b_PW_widen 10 = .ok (.getfield 9, 3) := by decide +kernel
theorem d_PW_widen_13 : decode b_PW_widen 13 = .ok (.iload 4, 2) := by decide +kernel
theorem d_PW_widen_15 : decode b_PW_widen 15 = .ok (.dup2, 1) := by decide +kernel
theorem d_PW_widen_16 : decode b_PW_widen 16 = .ok (.laload, 1) := by decide +kernel
theorem d_PW_widen_17 : decode b_PW_widen 17 = .ok (.lload_n 1, 1) := by decide +kernel
theorem d_PW_widen_18 : decode b_PW_widen 18 = .ok (.lmul, 1) := by decide +kernel
theorem d_PW_widen_19 : decode b_PW_widen 19 = .ok (.lastore, 1) := by decide +kernel
theorem d_PW_widen_20 : decode b_PW_widen 20 = .ok (.iinc 4 1, 3) := by decide +kernel
theorem d_PW_widen_23 : decode b_PW_widen 23 = .ok (.goto (-20), 3) := by decide +kernel
theorem d_PW_widen_26 : decode b_PW_widen 26 = .ok (.iconst 0, 1) := by decide +kernel
theorem d_PW_widen_27 : decode b_PW_widen 27 = .ok (.istore 4, 2) := by decide +kernel
theorem d_PW_widen_29 : decode b_PW_widen 29 = .ok (.iload 4, 2) := by decide +kernel
theorem d_PW_widen_31 : decode b_PW_widen 31 = .ok (.iload_n 3, 1) := by decide +kernel
theorem d_PW_widen_32 : decode b_PW_widen 32 = .ok (.if_icmp .ge 20, 3) := by decide +kernel
theorem d_PW_widen_35 : decode b_PW_widen 35 = .ok (.aload_n 0, 1) := by decide +kernel
theorem d_PW_widen_36 : decode b_PW_widen 36 = .ok (.getfield 15, 3) := by decide +kernel
theorem d_PW_widen_39 : decode b_PW_widen 39 = .ok (.iload 4, 2) := by decide +kernel
theorem d_PW_widen_41 : decode b_PW_widen 41 = .ok (.dup2, 1) := by decide +kernel
theorem d_PW_widen_42 : decode b_PW_widen 42 = .ok (.laload, 1) := by decide +kernel
theorem d_PW_widen_43 : decode b_PW_widen 43 = .ok (.lload_n 1, 1) := by decide +kernel
theorem d_PW_widen_44 : decode b_PW_widen 44 = .ok (.lmul, 1) := by decide +kernel
theorem d_PW_widen_45 : decode b_PW_widen 45 = .ok (.lastore, 1) := by decide +kernel
theorem d_PW_widen_46 : decode b_PW_widen 46 = .ok (.iinc 4 1, 3) := by decide +kernel
theorem d_PW_widen_49 : decode b_PW_widen 49 = .ok (.goto (-20), 3) := by decide +kernel
theorem d_PW_widen_52 : decode b_PW_widen 52 = .ok (.return_, 1) := by decide +kernel
theorem d_PW_takeAwayShare_0 : decode b_PW_takeAwayShare 0 = .ok (.iconst 0, 1) := by decide +kernel
theorem d_PW_takeAwayShare_1 : decode b_PW_takeAwayShare 1 = .ok (.istore_n 3, 1) := by decide +kernel
theorem d_PW_takeAwayShare_2 : decode b_PW_takeAwayShare 2 = .ok (.iload_n 3, 1) := by decide +kernel
theorem d_PW_takeAwayShare_3 : decode b_PW_takeAwayShare 3 = .ok (.iconst 4, 1) := by decide +kernel
theorem d_PW_takeAwayShare_4 : decode b_PW_takeAwayShare 4 = .ok (.if_icmp .ge 31, 3) := by decide +kernel
theorem d_PW_takeAwayShare_7 : decode b_PW_takeAwayShare 7 = .ok (.aload_n 0, 1) := by decide +kernel
theorem d_PW_takeAwayShare_8 : decode b_PW_takeAwayShare 8 = .ok (.getfield 9, 3) := by decide +kernel
theorem d_PW_takeAwayShare_11 : decode b_PW_takeAwayShare 11 = .ok (.iload_n 3, 1) := by decide +kernel
theorem d_PW_takeAwayShare_12 : decode b_PW_takeAwayShare 12 = .ok (.dup2, 1) := by decide +kernel
theorem d_PW_takeAwayShare_13 : decode b_PW_takeAwayShare 13 = .ok (.laload, 1) := by decide +kernel
theorem d_PW_takeAwayShare_14 : decode b_PW_takeAwayShare 14 = .ok (.aload_n 0, 1) := by decide +kernel
theorem d_PW_takeAwayShare_15 : decode b_PW_takeAwayShare 15 = .ok (.getfield 15, 3) := by decide +kernel
theorem d_PW_takeAwayShare_18 : decode b_PW_takeAwayShare 18 = .ok (.iload_n 2, 1) := by decide +kernel
theorem d_PW_takeAwayShare_19 : decode b_PW_takeAwayShare 19 = .ok (.laload, 1) := by decide +kernel
theorem d_PW_takeAwayShare_20 : decode b_PW_takeAwayShare 20 = .ok (.aload_n 1, 1) := by decide +kernel
theorem d_PW_takeAwayShare_21 : decode b_PW_takeAwayShare 21 = .ok (.iload_n 2, 1) := by decide +kernel
theorem d_PW_takeAwayShare_22 : decode b_PW_takeAwayShare 22 = .ok (.iload_n 3, 1) := by decide +kernel
theorem d_PW_takeAwayShare_23 : decode b_PW_takeAwayShare 23 = .ok (.invokevirtual 28, 3) := by decide +kernel
theorem d_PW_takeAwayShare_26 : decode b_PW_takeAwayShare 26 = .ok (.lmul, 1) := by decide +kernel
theorem d_PW_takeAwayShare_27 : decode b_PW_takeAwayShare 27 = .ok (.lsub, 1) := by decide +kernel
theorem d_PW_takeAwayShare_28 : decode b_PW_takeAwayShare 28 = .ok (.lastore, 1) := by decide +kernel
theorem d_PW_takeAwayShare_29 : decode b_PW_takeAwayShare 29 = .ok (.iinc 3 1, 3) := by decide +kernel
theorem d_PW_takeAwayShare_32 : decode b_PW_takeAwayShare 32 = .ok (.goto (-30), 3) := by decide +kernel
theorem d_PW_takeAwayShare_35 : decode b_PW_takeAwayShare 35 = .ok (.return_, 1) := by decide +kernel
theorem d_PW_isNothingLeft_0 : decode b_PW_isNothingLeft 0 = .ok (.iconst 0, 1) := by decide +kernel
theorem d_PW_isNothingLeft_1 : decode b_PW_isNothingLeft 1 = .ok (.istore_n 1, 1) := by decide +kernel
theorem d_PW_isNothingLeft_2 : decode b_PW_isNothingLeft 2 = .ok (.iload_n 1, 1) := by decide +kernel
theorem d_PW_isNothingLeft_3 : decode b_PW_isNothingLeft 3 = .ok (.iconst 4, 1) := by decide +kernel
theorem d_PW_isNothingLeft_4 : decode b_PW_isNothingLeft 4 = .ok (.if_icmp .ge 22, 3) := by decide +kernel
theorem d_PW_isNothingLeft_7 : decode b_PW_isNothingLeft 7 = .ok (.aload_n 0, 1) := by decide +kernel
theorem d_PW_isNothingLeft_8 : decode b_PW_isNothingLeft 8 = .ok (.getfield 9, 3) := by decide +kernel
theorem d_PW_isNothingLeft_11 : decode b_PW_isNothingLeft 11 = .ok (.iload_n 1, 1) := by decide +kernel
theorem d_PW_isNothingLeft_12 : decode b_PW_isNothingLeft 12 = .ok (.laload, 1) := by decide +kernel
theorem d_PW_isNothingLeft_13 : decode b_PW_isNothingLeft 13 = .ok (.lconst 0, 1) := by decide +kernel
theorem d_PW_isNothingLeft_14 : decode b_PW_isNothingLeft 14 = .ok (.lcmp, 1) := by decide +kernel
theorem d_PW_isNothingLeft_15 : decode b_PW_isNothingLeft 15 = .ok (.ifCond .eq 5, 3) := by decide +kernel
theorem d_PW_isNothingLeft_18 : decode b_PW_isNothingLeft 18 = .ok (.iconst 0, 1) := by decide +kernel
theorem d_PW_isNothingLeft_19 : decode b_PW_isNothingLeft 19 = .ok (.ireturn, 1) := by decide +kernel
theorem d_PW_isNothingLeft_20 : decode b_PW_isNothingLeft 20 = .ok (.iinc 1 1, 3) := by decide +kernel
theorem d_PW_isNothingLeft_23 : decode b_PW_isNothingLeft 23 = .ok (.goto (-21), 3) := by decide +kernel
theorem d_PW_isNothingLeft_26 : decode b_PW_isNothingLeft 26 = .ok (.iconst 1, 1) := by decide +kernel
theorem d_PW_isNothingLeft_27 : decode b_PW_isNothingLeft 27 = .ok (.ireturn, 1) := by decide +kernel
