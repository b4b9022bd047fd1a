theorem d_RD_cell_0 : decode b_RD_cell 0 = .ok (.aload_n 0, 1) := by decide +kernel
theorem d_RD_cell_1 : decode b_RD_cell 1 = .ok (.getfield 11, 3) := by decide +kernel
theorem d_RD_cell_4 : decode b_RD_cell 4 = .ok (.iload_n 1, 1) := by decide +kernel
theorem d_RD_cell_5 : decode b_RD_cell 5 = .ok (.bipush 8, 2) := by decide +kernel
theorem d_RD_cell_7 : decode b_RD_cell 7 = .ok (.imul, 1) := by decide +kernel
theorem d_RD_cell_8 : decode b_RD_cell 8 = .ok (.iload_n 2, 1) := by decide +kernel
theorem d_RD_cell_9 : decode b_RD_cell 9 = .ok (.iadd, 1) := by decide +kernel
theorem d_RD_cell_10 : decode b_RD_cell 10 = .ok (.laload, 1) := by decide +kernel
theorem d_RD_cell_11 : decode b_RD_cell 11 = .ok (.lreturn, 1) := by decide +kernel
theorem d_RD_set_0 : decode b_RD_set 0 = .ok (.aload_n 0, 1) := by decide +kernel
theorem d_RD_set_1 : decode b_RD_set 1 = .ok (.getfield 11, 3) := by decide +kernel
theorem d_RD_set_4 : decode b_RD_set 4 = .ok (.iload_n 1, 1) := by decide +kernel
theorem d_RD_set_5 : decode b_RD_set 5 = .ok (.bipush 8, 2) := by decide +kernel
theorem d_RD_set_7 : decode b_RD_set 7 = .ok (.imul, 1) := by decide +kernel
theorem d_RD_set_8 : decode b_RD_set 8 = .ok (.iload_n 2, 1) := by decide +kernel
theorem d_RD_set_9 : decode b_RD_set 9 = .ok (.iadd, 1) := by decide +kernel
theorem d_RD_set_10 : decode b_RD_set 10 = .ok (.lload_n 3, 1) := by decide +kernel
theorem d_RD_set_11 : decode b_RD_set 11 = .ok (.lastore, 1) := by decide +kernel
theorem d_RD_set_12 : decode b_RD_set 12 = .ok (.return_, 1) := by decide +kernel
theorem d_RD_takeAway_0 : decode b_RD_takeAway 0 = .ok (.lload_n 3, 1) := by decide +kernel
theorem d_RD_takeAway_1 : decode b_RD_takeAway 1 = .ok (.lconst 0, 1) := by decide +kernel
theorem d_RD_takeAway_2 : decode b_RD_takeAway 2 = .ok (.lcmp, 1) := by decide +kernel
theorem d_RD_takeAway_3 : decode b_RD_takeAway 3 = .ok (.ifCond .ne 4, 3) := by decide +kernel
theorem d_RD_takeAway_6 : decode b_RD_takeAway 6 = .ok (.return_, 1) := by decide +kernel
theorem d_RD_takeAway_7 : decode b_RD_takeAway 7 = .ok (.iconst 0, 1) := by decide +kernel
theorem d_RD_takeAway_8 : decode b_RD_takeAway 8 = .ok (.istore 5, 2) := by decide +kernel
theorem d_RD_takeAway_10 : decode b_RD_takeAway 10 = .ok (.iload 5, 2) := by decide +kernel
theorem d_RD_takeAway_12 : decode b_RD_takeAway 12 = .ok (.aload_n 0, 1) := by decide +kernel
theorem d_RD_takeAway_13 : decode b_RD_takeAway 13 = .ok (.getfield 32, 3) := by decide +kernel
theorem d_RD_takeAway_16 : decode b_RD_takeAway 16 = .ok (.aload_n 0, 1) := by decide +kernel
theorem d_RD_takeAway_17 : decode b_RD_takeAway 17 = .ok (.getfield 28, 3) := by decide +kernel
theorem d_RD_takeAway_20 : decode b_RD_takeAway 20 = .ok (.iadd, 1) := by decide +kernel
theorem d_RD_takeAway_21 : decode b_RD_takeAway 21 = .ok (.if_icmp .ge 33, 3) := by decide +kernel
theorem d_RD_takeAway_24 : decode b_RD_takeAway 24 = .ok (.aload_n 0, 1) := by decide +kernel
theorem d_RD_takeAway_25 : decode b_RD_takeAway 25 = .ok (.iload_n 1, 1) := by decide +kernel
theorem d_RD_takeAway_26 : decode b_RD_takeAway 26 = .ok (.iload 5, 2) := by decide +kernel
theorem d_RD_takeAway_28 : decode b_RD_takeAway 28 = .ok (.aload_n 0, 1) := by decide +kernel
theorem d_RD_takeAway_29 : decode b_RD_takeAway 29 = .ok (.iload_n 1, 1) := by decide +kernel
theorem d_RD_takeAway_30 : decode b_RD_takeAway 30 = .ok (.iload 5, 2) := by decide +kernel
theorem d_RD_takeAway_32 : decode b_RD_takeAway 32 = .ok (.invokevirtual 42, 3) := by decide +kernel
theorem d_RD_takeAway_35 : decode b_RD_takeAway 35 = .ok (.lload_n 3, 1) := by decide +kernel
theorem d_RD_takeAway_36 : decode b_RD_takeAway 36 = .ok (.aload_n 0, 1) := by decide +kernel
theorem d_RD_takeAway_37 : decode b_RD_takeAway 37 = .ok (.iload_n 2, 1) := by decide +kernel
theorem d_RD_takeAway_38 : decode b_RD_takeAway 38 = .ok (.iload 5, 2) := by decide +kernel
theorem d_RD_takeAway_40 : decode b_RD_takeAway 40 = .ok (.invokevirtual 42, 3) := by decide +kernel
theorem d_RD_takeAway_43 : decode b_RD_takeAway 43 = .ok (.lmul, 1) := by decide +kernel
theorem d_RD_takeAway_44 : decode b_RD_takeAway 44 = .ok (.lsub, 1) := by decide +kernel
theorem d_RD_takeAway_45 : decode b_RD_takeAway 45 = .ok (.invokevirtual 35, 3) := by decide +kernel
theorem d_RD_takeAway_48 : decode b_RD_takeAway 48 = .ok (.iinc 5 1, 3) := by decide +kernel
theorem d_RD_takeAway_51 : decode b_RD_takeAway 51 = .ok (.goto (-41), 3) := by decide +kernel
theorem d_RD_takeAway_54 : decode b_RD_takeAway 54 = .ok (.return_, 1) := by decide +kernel
