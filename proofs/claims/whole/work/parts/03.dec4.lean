theorem dX11_back_17 : decode cX11_back 17 = .ok (.iload_n 1, 1) := by decide +kernel
theorem dX11_back_18 : decode cX11_back 18 = .ok (.baload, 1) := by decide +kernel
theorem dX11_back_19 : decode cX11_back 19 = .ok (.ifCond .ne 6, 3) := by decide +kernel
theorem dX11_back_22 : decode cX11_back 22 = .ok (.bipush (-4), 2) := by decide +kernel
theorem dX11_back_24 : decode cX11_back 24 = .ok (.ireturn, 1) := by decide +kernel
theorem dX11_back_25 : decode cX11_back 25 = .ok (.iconst 0, 1) := by decide +kernel
theorem dX11_back_26 : decode cX11_back 26 = .ok (.istore_n 2, 1) := by decide +kernel
theorem dX11_back_27 : decode cX11_back 27 = .ok (.iload_n 2, 1) := by decide +kernel
theorem dX11_back_28 : decode cX11_back 28 = .ok (.bipush 35, 2) := by decide +kernel
theorem dX11_back_30 : decode cX11_back 30 = .ok (.if_icmp .ge 26, 3) := by decide +kernel
theorem dX11_back_33 : decode cX11_back 33 = .ok (.aload_n 0, 1) := by decide +kernel
theorem dX11_back_34 : decode cX11_back 34 = .ok (.getfield 13, 3) := by decide +kernel
theorem dX11_back_37 : decode cX11_back 37 = .ok (.iload_n 2, 1) := by decide +kernel
theorem dX11_back_38 : decode cX11_back 38 = .ok (.aload_n 0, 1) := by decide +kernel
theorem dX11_back_39 : decode cX11_back 39 = .ok (.getfield 29, 3) := by decide +kernel
theorem dX11_back_42 : decode cX11_back 42 = .ok (.bipush 35, 2) := by decide +kernel
theorem dX11_back_44 : decode cX11_back 44 = .ok (.iload_n 1, 1) := by decide +kernel
theorem dX11_back_45 : decode cX11_back 45 = .ok (.imul, 1) := by decide +kernel
theorem dX11_back_46 : decode cX11_back 46 = .ok (.iload_n 2, 1) := by decide +kernel
theorem dX11_back_47 : decode cX11_back 47 = .ok (.iadd, 1) := by decide +kernel
theorem dX11_back_48 : decode cX11_back 48 = .ok (.iaload, 1) := by decide +kernel
theorem dX11_back_49 : decode cX11_back 49 = .ok (.iastore, 1) := by decide +kernel
theorem dX11_back_50 : decode cX11_back 50 = .ok (.iinc 2 1, 3) := by decide +kernel
theorem dX11_back_53 : decode cX11_back 53 = .ok (.goto (-26), 3) := by decide +kernel
theorem dX11_back_56 : decode cX11_back 56 = .ok (.aload_n 0, 1) := by decide +kernel
theorem dX11_back_57 : decode cX11_back 57 = .ok (.iconst 0, 1) := by decide +kernel
theorem dX11_back_58 : decode cX11_back 58 = .ok (.putfield 130, 3) := by decide +kernel
theorem dX11_back_61 : decode cX11_back 61 = .ok (.aload_n 0, 1) := by decide +kernel
theorem dX11_back_62 : decode cX11_back 62 = .ok (.getfield 13, 3) := by decide +kernel
theorem dX11_back_65 : decode cX11_back 65 = .ok (.bipush 30, 2) := by decide +kernel
theorem dX11_back_67 : decode cX11_back 67 = .ok (.iaload, 1) := by decide +kernel
theorem dX11_back_68 : decode cX11_back 68 = .ok (.ireturn, 1) := by decide +kernel
theorem dX11_putAside_0 : decode cX11_putAside 0 = .ok (.iconst 0, 1) := by decide +kernel
theorem dX11_putAside_1 : decode cX11_putAside 1 = .ok (.istore_n 1, 1) := by decide +kernel
theorem dX11_putAside_2 : decode cX11_putAside 2 = .ok (.iload_n 1, 1) := by decide +kernel
theorem dX11_putAside_3 : decode cX11_putAside 3 = .ok (.bipush 35, 2) := by decide +kernel
theorem dX11_putAside_5 : decode cX11_putAside 5 = .ok (.if_icmp .ge 21, 3) := by decide +kernel
theorem dX11_putAside_8 : decode cX11_putAside 8 = .ok (.aload_n 0, 1) := by decide +kernel
theorem dX11_putAside_9 : decode cX11_putAside 9 = .ok (.getfield 32, 3) := by decide +kernel
theorem dX11_putAside_12 : decode cX11_putAside 12 = .ok (.iload_n 1, 1) := by decide +kernel
theorem dX11_putAside_13 : decode cX11_putAside 13 = .ok (.aload_n 0, 1) := by decide +kernel
theorem dX11_putAside_14 : decode cX11_putAside 14 = .ok (.getfield 13, 3) := by decide +kernel
theorem dX11_putAside_17 : decode cX11_putAside 17 = .ok (.iload_n 1, 1) := by decide +kernel
theorem dX11_putAside_18 : decode cX11_putAside 18 = .ok (.iaload, 1) := by decide +kernel
theorem dX11_putAside_19 : decode cX11_putAside 19 = .ok (.iastore, 1) := by decide +kernel
theorem dX11_putAside_20 : decode cX11_putAside 20 = .ok (.iinc 1 1, 3) := by decide +kernel
theorem dX11_putAside_23 : decode cX11_putAside 23 = .ok (.goto (-21), 3) := by decide +kernel
theorem dX11_putAside_26 : decode cX11_putAside 26 = .ok (.return_, 1) := by decide +kernel
theorem dX11_takeBack_0 : decode cX11_takeBack 0 = .ok (.iconst 0, 1) := by decide +kernel
theorem dX11_takeBack_1 : decode cX11_takeBack 1 = .ok (.istore_n 1, 1) := by decide +kernel
theorem dX11_takeBack_2 : decode cX11_takeBack 2 = .ok (.iload_n 1, 1) := by decide +kernel
theorem dX11_takeBack_3 : decode cX11_takeBack 3 = .ok (.bipush 35, 2) := by decide +kernel
theorem dX11_takeBack_5 : decode cX11_takeBack 5 = .ok (.if_icmp .ge 21, 3) := by decide +kernel
theorem dX11_takeBack_8 : decode cX11_takeBack 8 = .ok (.aload_n 0, 1) := by decide +kernel
theorem dX11_takeBack_9 : decode cX11_takeBack 9 = .ok (.getfield 13, 3) := by decide +kernel
theorem dX11_takeBack_12 : decode cX11_takeBack 12 = .ok (.iload_n 1, 1) := by decide +kernel
theorem dX11_takeBack_13 : decode cX11_takeBack 13 = .ok (.aload_n 0, 1) := by decide +kernel
theorem dX11_takeBack_14 : decode cX11_takeBack 14 = .ok (.getfield 32, 3) := by decide +kernel
theorem dX11_takeBack_17 : decode cX11_takeBack 17 = .ok (.iload_n 1, 1) := by decide +kernel
theorem dX11_takeBack_18 : decode cX11_takeBack 18 = .ok (.iaload, 1) := by decide +kernel
theorem dX11_takeBack_19 : decode cX11_takeBack 19 = .ok (.iastore, 1) := by decide +kernel
theorem dX11_takeBack_20 : decode cX11_takeBack 20 = .ok (.iinc 1 1, 3) := by decide +kernel
theorem dX11_takeBack_23 : decode cX11_takeBack 23 = .ok (.goto (-21), 3) := by decide +kernel
theorem dX11_takeBack_26 : decode cX11_takeBack 26 = .ok (.return_, 1) := by decide +kernel
theorem dX11_levelBehind_0 : decode cX11_levelBehind 0 = .ok (.iconst 0, 1) := by decide +kernel
theorem dX11_levelBehind_1 : decode cX11_levelBehind 1 = .ok (.istore_n 2, 1) := by decide +kernel
theorem dX11_levelBehind_2 : decode cX11_levelBehind 2 = .ok (.iload_n 2, 1) := by decide +kernel
theorem dX11_levelBehind_3 : decode cX11_levelBehind 3 = .ok (.iload_n 1, 1) := by decide +kernel
theorem dX11_levelBehind_4 : decode cX11_levelBehind 4 = .ok (.if_icmp .ge 14, 3) := by decide +kernel
theorem dX11_levelBehind_7 : decode cX11_levelBehind 7 = .ok (.aload_n 0, 1) := by decide +kernel
theorem dX11_levelBehind_8 : decode cX11_levelBehind 8 = .ok (.invokevirtual 175, 3) := by decide +kernel
theorem dX11_levelBehind_11 : decode cX11_levelBehind 11 = .ok (.pop, 1) := by decide +kernel
theorem dX11_levelBehind_12 : decode cX11_levelBehind 12 = .ok (.iinc 2 1, 3) := by decide +kernel
theorem dX11_levelBehind_15 : decode cX11_levelBehind 15 = .ok (.goto (-13), 3) := by decide +kernel
theorem dX11_levelBehind_18 : decode cX11_levelBehind 18 = .ok (.aload_n 0, 1) := by decide +kernel
theorem dX11_levelBehind_19 : decode cX11_levelBehind 19 = .ok (.getfield 13, 3) := by decide +kernel
theorem dX11_levelBehind_22 : decode cX11_levelBehind 22 = .ok (.bipush 31, 2) := by decide +kernel
theorem dX11_levelBehind_24 : decode cX11_levelBehind 24 = .ok (.iaload, 1) := by decide +kernel
theorem dX11_levelBehind_25 : decode cX11_levelBehind 25 = .ok (.istore_n 2, 1) := by decide +kernel
theorem dX11_levelBehind_26 : decode cX11_levelBehind 26 = .ok (.aload_n 0, 1) := by decide +kernel
theorem dX11_levelBehind_27 : decode cX11_levelBehind 27 = .ok (.invokevirtual 178, 3) := by decide +kernel
theorem dX11_levelBehind_30 : decode cX11_levelBehind 30 = .ok (.iload_n 2, 1) := by decide +kernel
theorem dX11_levelBehind_31 : decode cX11_levelBehind 31 = .ok (.ireturn, 1) := by decide +kernel
theorem dX11_highestOf_0 : decode cX11_highestOf 0 = .ok (.aload_n 0, 1) := by decide +kernel
theorem dX11_highestOf_1 : decode cX11_highestOf 1 = .ok (.getfield 13, 3) := by decide +kernel
theorem dX11_highestOf_4 : decode cX11_highestOf 4 = .ok (.bipush 31, 2) := by decide +kernel
theorem dX11_highestOf_6 : decode cX11_highestOf 6 = .ok (.iaload, 1) := by decide +kernel
theorem dX11_highestOf_7 : decode cX11_highestOf 7 = .ok (.istore_n 2, 1) := by decide +kernel
theorem dX11_highestOf_8 : decode cX11_highestOf 8 = .ok (.iconst 0, 1) := by decide +kernel
theorem dX11_highestOf_9 : decode cX11_highestOf 9 = .ok (.istore_n 3, 1) := by decide +kernel
theorem dX11_highestOf_10 : decode cX11_highestOf 10 = .ok (.iload_n 3, 1) := by decide +kernel
theorem dX11_highestOf_11 : decode cX11_highestOf 11 = .ok (.iload_n 1, 1) := by decide +kernel
theorem dX11_highestOf_12 : decode cX11_highestOf 12 = .ok (.if_icmp .ge 28, 3) := by decide +kernel
theorem dX11_highestOf_15 : decode cX11_highestOf 15 = .ok (.aload_n 0, 1) := by decide +kernel
theorem dX11_highestOf_16 : decode cX11_highestOf 16 = .ok (.invokevirtual 175, 3) := by decide +kernel
theorem dX11_highestOf_19 : decode cX11_highestOf 19 = .ok (.istore 4, 2) := by decide +kernel
theorem dX11_highestOf_21 : decode cX11_highestOf 21 = .ok (.iload 4, 2) := by decide +kernel
theorem dX11_highestOf_23 : decode cX11_highestOf 23 = .ok (.iload_n 2, 1) := by decide +kernel
theorem dX11_highestOf_24 : decode cX11_highestOf 24 = .ok (.if_icmp .le 8, 3) := by decide +kernel
theorem dX11_highestOf_27 : decode cX11_highestOf 27 = .ok (.iload 4, 2) := by decide +kernel
theorem dX11_highestOf_29 : decode cX11_highestOf 29 = .ok (.goto 4, 3) := by decide +kernel
theorem dX11_highestOf_32 : decode cX11_highestOf 32 = .ok (.iload_n 2, 1) := by decide +kernel
theorem dX11_highestOf_33 : decode cX11_highestOf 33 = .ok (.istore_n 2, 1) := by decide +kernel
theorem dX11_highestOf_34 : decode cX11_highestOf 34 = .ok (.iinc 3 1, 3) := by decide +kernel
theorem dX11_highestOf_37 : decode cX11_highestOf 37 = .ok (.goto (-27), 3) := by decide +kernel
theorem dX11_highestOf_40 : decode cX11_highestOf 40 = .ok (.aload_n 0, 1) := by decide +kernel
theorem dX11_highestOf_41 : decode cX11_highestOf 41 = .ok (.invokevirtual 178, 3) := by decide +kernel
theorem dX11_highestOf_44 : decode cX11_highestOf 44 = .ok (.iload_n 2, 1) := by decide +kernel
theorem dX11_highestOf_45 : decode cX11_highestOf 45 = .ok (.ireturn, 1) := by decide +kernel
theorem dX11_fullIn_0 : decode cX11_fullIn 0 = .ok (.iconst (-1), 1) := by decide +kernel
theorem dX11_fullIn_1 : decode cX11_fullIn 1 = .ok (.istore_n 2, 1) := by decide +kernel
theorem dX11_fullIn_2 : decode cX11_fullIn 2 = .ok (.iconst 1, 1) := by decide +kernel
theorem dX11_fullIn_3 : decode cX11_fullIn 3 = .ok (.istore_n 3, 1) := by decide +kernel
theorem dX11_fullIn_4 : decode cX11_fullIn 4 = .ok (.iload_n 3, 1) := by decide +kernel
theorem dX11_fullIn_5 : decode cX11_fullIn 5 = .ok (.iload_n 1, 1) := by decide +kernel
theorem dX11_fullIn_6 : decode cX11_fullIn 6 = .ok (.if_icmp .gt 32, 3) := by decide +kernel
theorem dX11_fullIn_9 : decode cX11_fullIn 9 = .ok (.iload_n 2, 1) := by decide +kernel
theorem dX11_fullIn_10 : decode cX11_fullIn 10 = .ok (.ifCond .ge 28, 3) := by decide +kernel
theorem dX11_fullIn_13 : decode cX11_fullIn 13 = .ok (.aload_n 0, 1) := by decide +kernel
theorem dX11_fullIn_14 : decode cX11_fullIn 14 = .ok (.invokevirtual 175, 3) := by decide +kernel
theorem dX11_fullIn_17 : decode cX11_fullIn 17 = .ok (.aload_n 0, 1) := by decide +kernel
theorem dX11_fullIn_18 : decode cX11_fullIn 18 = .ok (.getfield 7, 3) := by decide +kernel
theorem dX11_fullIn_21 : decode cX11_fullIn 21 = .ok (.iconst 0, 1) := by decide +kernel
theorem dX11_fullIn_22 : decode cX11_fullIn 22 = .ok (.iaload, 1) := by decide +kernel
theorem dX11_fullIn_23 : decode cX11_fullIn 23 = .ok (.if_icmp .ne 7, 3) := by decide +kernel
theorem dX11_fullIn_26 : decode cX11_fullIn 26 = .ok (.iload_n 3, 1) := by decide +kernel
theorem dX11_fullIn_27 : decode cX11_fullIn 27 = .ok (.goto 4, 3) := by decide +kernel
theorem dX11_fullIn_30 : decode cX11_fullIn 30 = .ok (.iconst (-1), 1) := by decide +kernel
theorem dX11_fullIn_31 : decode cX11_fullIn 31 = .ok (.istore_n 2, 1) := by decide +kernel
theorem dX11_fullIn_32 : decode cX11_fullIn 32 = .ok (.iinc 3 1, 3) := by decide +kernel
theorem dX11_fullIn_35 : decode cX11_fullIn 35 = .ok (.goto (-31), 3) := by decide +kernel
theorem dX11_fullIn_38 : decode cX11_fullIn 38 = .ok (.aload_n 0, 1) := by decide +kernel
theorem dX11_fullIn_39 : decode cX11_fullIn 39 = .ok (.invokevirtual 178, 3) := by decide +kernel
theorem dX11_fullIn_42 : decode cX11_fullIn 42 = .ok (.iload_n 2, 1) := by decide +kernel
theorem dX11_fullIn_43 : decode cX11_fullIn 43 = .ok (.ireturn, 1) := by decide +kernel
theorem dX11_isFar_0 : decode cX11_isFar 0 = .ok (.iload_n 0, 1) := by decide +kernel
theorem dX11_isFar_1 : decode cX11_isFar 1 = .ok (.i2l, 1) := by decide +kernel
theorem dX11_isFar_2 : decode cX11_isFar 2 = .ok (.iload_n 1, 1) := by decide +kernel
theorem dX11_isFar_3 : decode cX11_isFar 3 = .ok (.i2l, 1) := by decide +kernel
theorem dX11_isFar_4 : decode cX11_isFar 4 = .ok (.ldc2_w 173, 3) := by decide +kernel
theorem dX11_isFar_7 : decode cX11_isFar 7 = .ok (.invokestatic 49, 3) := by decide +kernel
theorem dX11_isFar_10 : decode cX11_isFar 10 = .ok (.ireturn, 1) := by decide +kernel
theorem dX11_level_0 : decode cX11_level 0 = .ok (.iload_n 1, 1) := by decide +kernel
theorem dX11_level_1 : decode cX11_level 1 = .ok (.iconst 0, 1) := by decide +kernel
theorem dX11_level_2 : decode cX11_level 2 = .ok (.invokestatic 181, 3) := by decide +kernel
theorem dX11_level_5 : decode cX11_level 5 = .ok (.ifCond .ne 6, 3) := by decide +kernel
theorem dX11_level_8 : decode cX11_level 8 = .ok (.bipush (-3), 2) := by decide +kernel
theorem dX11_level_10 : decode cX11_level 10 = .ok (.ireturn, 1) := by decide +kernel
theorem dX11_level_11 : decode cX11_level 11 = .ok (.aload_n 0, 1) := by decide +kernel
theorem dX11_level_12 : decode cX11_level 12 = .ok (.invokevirtual 185, 3) := by decide +kernel
theorem dX11_level_15 : decode cX11_level 15 = .ok (.aload_n 0, 1) := by decide +kernel
theorem dX11_level_16 : decode cX11_level 16 = .ok (.iload_n 1, 1) := by decide +kernel
theorem dX11_level_17 : decode cX11_level 17 = .ok (.invokevirtual 188, 3) := by decide +kernel
theorem dX11_level_20 : decode cX11_level 20 = .ok (.ireturn, 1) := by decide +kernel
theorem dX11_highest_0 : decode cX11_highest 0 = .ok (.iload_n 1, 1) := by decide +kernel
theorem dX11_highest_1 : decode cX11_highest 1 = .ok (.iconst 0, 1) := by decide +kernel
theorem dX11_highest_2 : decode cX11_highest 2 = .ok (.invokestatic 181, 3) := by decide +kernel
theorem dX11_highest_5 : decode cX11_highest 5 = .ok (.ifCond .ne 6, 3) := by decide +kernel
theorem dX11_highest_8 : decode cX11_highest 8 = .ok (.bipush (-3), 2) := by decide +kernel
theorem dX11_highest_10 : decode cX11_highest 10 = .ok (.ireturn, 1) := by decide +kernel
theorem dX11_highest_11 : decode cX11_highest 11 = .ok (.aload_n 0, 1) := by decide +kernel
theorem dX11_highest_12 : decode cX11_highest 12 = .ok (.invokevirtual 185, 3) := by decide +kernel
theorem dX11_highest_15 : decode cX11_highest 15 = .ok (.aload_n 0, 1) := by decide +kernel
theorem dX11_highest_16 : decode cX11_highest 16 = .ok (.iload_n 1, 1) := by decide +kernel
theorem dX11_highest_17 : decode cX11_highest 17 = .ok (.invokevirtual 191, 3) := by decide +kernel
theorem dX11_highest_20 : decode cX11_highest 20 = .ok (.ireturn, 1) := by decide +kernel
theorem dX11_full_0 : decode cX11_full 0 = .ok (.aload_n 0, 1) := by decide +kernel
theorem dX11_full_1 : decode cX11_full 1 = .ok (.invokevirtual 185, 3) := by decide +kernel
theorem dX11_full_4 : decode cX11_full 4 = .ok (.aload_n 0, 1) := by decide +kernel
theorem dX11_full_5 : decode cX11_full 5 = .ok (.bipush 99, 2) := by decide +kernel
theorem dX11_full_7 : decode cX11_full 7 = .ok (.invokevirtual 194, 3) := by decide +kernel
theorem dX11_full_10 : decode cX11_full 10 = .ok (.ireturn, 1) := by decide +kernel
theorem dX11_mossTo_0 : decode cX11_mossTo 0 = .ok (.iload_n 1, 1) := by decide +kernel
theorem dX11_mossTo_1 : decode cX11_mossTo 1 = .ok (.iconst 1, 1) := by decide +kernel
theorem dX11_mossTo_2 : decode cX11_mossTo 2 = .ok (.invokestatic 181, 3) := by decide +kernel
theorem dX11_mossTo_5 : decode cX11_mossTo 5 = .ok (.ifCond .ne 6, 3) := by decide +kernel
theorem dX11_mossTo_8 : decode cX11_mossTo 8 = .ok (.bipush (-3), 2) := by decide +kernel
theorem dX11_mossTo_10 : decode cX11_mossTo 10 = .ok (.ireturn, 1) := by decide +kernel
theorem dX11_mossTo_11 : decode cX11_mossTo 11 = .ok (.aload_n 0, 1) := by decide +kernel
theorem dX11_mossTo_12 : decode cX11_mossTo 12 = .ok (.invokevirtual 185, 3) := by decide +kernel
theorem dX11_mossTo_15 : decode cX11_mossTo 15 = .ok (.iconst (-1), 1) := by decide +kernel
theorem dX11_mossTo_16 : decode cX11_mossTo 16 = .ok (.istore_n 2, 1) := by decide +kernel
theorem dX11_mossTo_17 : decode cX11_mossTo 17 = .ok (.aload_n 0, 1) := by decide +kernel
theorem dX11_mossTo_18 : decode cX11_mossTo 18 = .ok (.iload_n 1, 1) := by decide +kernel
theorem dX11_mossTo_19 : decode cX11_mossTo 19 = .ok (.invokevirtual 188, 3) := by decide +kernel
theorem dX11_mossTo_22 : decode cX11_mossTo 22 = .ok (.istore_n 3, 1) := by decide +kernel
theorem dX11_mossTo_23 : decode cX11_mossTo 23 = .ok (.iconst 0, 1) := by decide +kernel
theorem dX11_mossTo_24 : decode cX11_mossTo 24 = .ok (.istore 4, 2) := by decide +kernel
theorem dX11_mossTo_26 : decode cX11_mossTo 26 = .ok (.iload 4, 2) := by decide +kernel
theorem dX11_mossTo_28 : decode cX11_mossTo 28 = .ok (.aload_n 0, 1) := by decide +kernel
theorem dX11_mossTo_29 : decode cX11_mossTo 29 = .ok (.getfield 45, 3) := by decide +kernel
theorem dX11_mossTo_32 : decode cX11_mossTo 32 = .ok (.if_icmp .ge 71, 3) := by decide +kernel
theorem dX11_mossTo_35 : decode cX11_mossTo 35 = .ok (.aload_n 0, 1) := by decide +kernel
theorem dX11_mossTo_36 : decode cX11_mossTo 36 = .ok (.iload 4, 2) := by decide +kernel
theorem dX11_mossTo_38 : decode cX11_mossTo 38 = .ok (.invokevirtual 142, 3) := by decide +kernel
theorem dX11_mossTo_41 : decode cX11_mossTo 41 = .ok (.ifCond .ne 56, 3) := by decide +kernel
theorem dX11_mossTo_44 : decode cX11_mossTo 44 = .ok (.aload_n 0, 1) := by decide +kernel
theorem dX11_mossTo_45 : decode cX11_mossTo 45 = .ok (.getfield 13, 3) := by decide +kernel
theorem dX11_mossTo_48 : decode cX11_mossTo 48 = .ok (.bipush 25, 2) := by decide +kernel
theorem dX11_mossTo_50 : decode cX11_mossTo 50 = .ok (.iload 4, 2) := by decide +kernel
theorem dX11_mossTo_52 : decode cX11_mossTo 52 = .ok (.iadd, 1) := by decide +kernel
theorem dX11_mossTo_53 : decode cX11_mossTo 53 = .ok (.aload_n 0, 1) := by decide +kernel
theorem dX11_mossTo_54 : decode cX11_mossTo 54 = .ok (.getfield 13, 3) := by decide +kernel
theorem dX11_mossTo_57 : decode cX11_mossTo 57 = .ok (.bipush 30, 2) := by decide +kernel
theorem dX11_mossTo_59 : decode cX11_mossTo 59 = .ok (.iaload, 1) := by decide +kernel
theorem dX11_mossTo_60 : decode cX11_mossTo 60 = .ok (.bipush 30, 2) := by decide +kernel
theorem dX11_mossTo_62 : decode cX11_mossTo 62 = .ok (.iadd, 1) := by decide +kernel
theorem dX11_mossTo_63 : decode cX11_mossTo 63 = .ok (.iastore, 1) := by decide +kernel
theorem dX11_mossTo_64 : decode cX11_mossTo 64 = .ok (.aload_n 0, 1) := by decide +kernel
theorem dX11_mossTo_65 : decode cX11_mossTo 65 = .ok (.iload_n 1, 1) := by decide +kernel
theorem dX11_mossTo_66 : decode cX11_mossTo 66 = .ok (.invokevirtual 188, 3) := by decide +kernel
theorem dX11_mossTo_69 : decode cX11_mossTo 69 = .ok (.istore 5, 2) := by decide +kernel
theorem dX11_mossTo_71 : decode cX11_mossTo 71 = .ok (.iload 5, 2) := by decide +kernel
theorem dX11_mossTo_73 : decode cX11_mossTo 73 = .ok (.iload_n 3, 1) := by decide +kernel
theorem dX11_mossTo_74 : decode cX11_mossTo 74 = .ok (.if_icmp .le 8, 3) := by decide +kernel
theorem dX11_mossTo_77 : decode cX11_mossTo 77 = .ok (.iload 4, 2) := by decide +kernel
theorem dX11_mossTo_79 : decode cX11_mossTo 79 = .ok (.goto 4, 3) := by decide +kernel
theorem dX11_mossTo_82 : decode cX11_mossTo 82 = .ok (.iload_n 2, 1) := by decide +kernel
theorem dX11_mossTo_83 : decode cX11_mossTo 83 = .ok (.istore_n 2, 1) := by decide +kernel
theorem dX11_mossTo_84 : decode cX11_mossTo 84 = .ok (.iload 5, 2) := by decide +kernel
theorem dX11_mossTo_86 : decode cX11_mossTo 86 = .ok (.iload_n 3, 1) := by decide +kernel
theorem dX11_mossTo_87 : decode cX11_mossTo 87 = .ok (.if_icmp .le 8, 3) := by decide +kernel
theorem dX11_mossTo_90 : decode cX11_mossTo 90 = .ok (.iload 5, 2) := by decide +kernel
theorem dX11_mossTo_92 : decode cX11_mossTo 92 = .ok (.goto 4, 3) := by decide +kernel
theorem dX11_mossTo_95 : decode cX11_mossTo 95 = .ok (.iload_n 3, 1) := by decide +kernel
theorem dX11_mossTo_96 : decode cX11_mossTo 96 = .ok (.istore_n 3, 1) := by decide +kernel
theorem dX11_mossTo_97 : decode cX11_mossTo 97 = .ok (.iinc 4 1, 3) := by decide +kernel
theorem dX11_mossTo_100 : decode cX11_mossTo 100 = .ok (.goto (-74), 3) := by decide +kernel
theorem dX11_mossTo_103 : decode cX11_mossTo 103 = .ok (.iload_n 2, 1) := by decide +kernel
theorem dX11_mossTo_104 : decode cX11_mossTo 104 = .ok (.ireturn, 1) := by decide +kernel
theorem dX11_adds_0 : decode cX11_adds 0 = .ok (.aload_n 0, 1) := by decide +kernel
theorem dX11_adds_1 : decode cX11_adds 1 = .ok (.iload_n 1, 1) := by decide +kernel
theorem dX11_adds_2 : decode cX11_adds 2 = .ok (.invokevirtual 139, 3) := by decide +kernel
theorem dX11_adds_5 : decode cX11_adds 5 = .ok (.ifCond .ne 6, 3) := by decide +kernel
theorem dX11_adds_8 : decode cX11_adds 8 = .ok (.bipush (-2), 2) := by decide +kernel
theorem dX11_adds_10 : decode cX11_adds 10 = .ok (.ireturn, 1) := by decide +kernel
theorem dX11_adds_11 : decode cX11_adds 11 = .ok (.iload_n 2, 1) := by decide +kernel
theorem dX11_adds_12 : decode cX11_adds 12 = .ok (.iconst 1, 1) := by decide +kernel
theorem dX11_adds_13 : decode cX11_adds 13 = .ok (.invokestatic 181, 3) := by decide +kernel
theorem dX11_adds_16 : decode cX11_adds 16 = .ok (.ifCond .ne 6, 3) := by decide +kernel
theorem dX11_adds_19 : decode cX11_adds 19 = .ok (.bipush (-3), 2) := by decide +kernel
theorem dX11_adds_21 : decode cX11_adds 21 = .ok (.ireturn, 1) := by decide +kernel
theorem dX11_adds_22 : decode cX11_adds 22 = .ok (.aload_n 0, 1) := by decide +kernel
theorem dX11_adds_23 : decode cX11_adds 23 = .ok (.invokevirtual 185, 3) := by decide +kernel
theorem dX11_adds_26 : decode cX11_adds 26 = .ok (.aload_n 0, 1) := by decide +kernel
theorem dX11_adds_27 : decode cX11_adds 27 = .ok (.iload_n 2, 1) := by decide +kernel
theorem dX11_adds_28 : decode cX11_adds 28 = .ok (.invokevirtual 191, 3) := by decide +kernel
theorem dX11_adds_31 : decode cX11_adds 31 = .ok (.istore_n 3, 1) := by decide +kernel
theorem dX11_adds_32 : decode cX11_adds 32 = .ok (.aload_n 0, 1) := by decide +kernel
theorem dX11_adds_33 : decode cX11_adds 33 = .ok (.iload_n 1, 1) := by decide +kernel
theorem dX11_adds_34 : decode cX11_adds 34 = .ok (.invokevirtual 165, 3) := by decide +kernel
theorem dX11_adds_37 : decode cX11_adds 37 = .ok (.iload_n 3, 1) := by decide +kernel
theorem dX11_adds_38 : decode cX11_adds 38 = .ok (.aload_n 0, 1) := by decide +kernel
theorem dX11_adds_39 : decode cX11_adds 39 = .ok (.iload_n 2, 1) := by decide +kernel
theorem dX11_adds_40 : decode cX11_adds 40 = .ok (.invokevirtual 191, 3) := by decide +kernel
theorem dX11_adds_43 : decode cX11_adds 43 = .ok (.isub, 1) := by decide +kernel
theorem dX11_adds_44 : decode cX11_adds 44 = .ok (.ireturn, 1) := by decide +kernel
theorem dX11_working_0 : decode cX11_working 0 = .ok (.iconst 0, 1) := by decide +kernel
theorem dX11_working_1 : decode cX11_working 1 = .ok (.istore_n 1, 1) := by decide +kernel
theorem dX11_working_2 : decode cX11_working 2 = .ok (.iconst 0, 1) := by decide +kernel
theorem dX11_working_3 : decode cX11_working 3 = .ok (.istore_n 2, 1) := by decide +kernel
theorem dX11_working_4 : decode cX11_working 4 = .ok (.iload_n 2, 1) := by decide +kernel
theorem dX11_working_5 : decode cX11_working 5 = .ok (.aload_n 0, 1) := by decide +kernel
theorem dX11_working_6 : decode cX11_working 6 = .ok (.getfield 45, 3) := by decide +kernel
theorem dX11_working_9 : decode cX11_working 9 = .ok (.if_icmp .ge 30, 3) := by decide +kernel
theorem dX11_working_12 : decode cX11_working 12 = .ok (.iload_n 1, 1) := by decide +kernel
theorem dX11_working_13 : decode cX11_working 13 = .ok (.aload_n 0, 1) := by decide +kernel
theorem dX11_working_14 : decode cX11_working 14 = .ok (.getfield 13, 3) := by decide +kernel
theorem dX11_working_17 : decode cX11_working 17 = .ok (.iconst 0, 1) := by decide +kernel
theorem dX11_working_18 : decode cX11_working 18 = .ok (.iload_n 2, 1) := by decide +kernel
theorem dX11_working_19 : decode cX11_working 19 = .ok (.iadd, 1) := by decide +kernel
theorem dX11_working_20 : decode cX11_working 20 = .ok (.iaload, 1) := by decide +kernel
theorem dX11_working_21 : decode cX11_working 21 = .ok (.ifCond .eq 9, 3) := by decide +kernel
theorem dX11_working_24 : decode cX11_working 24 = .ok (.iconst 1, 1) := by decide +kernel
theorem dX11_working_25 : decode cX11_working 25 = .ok (.iload_n 2, 1) := by decide +kernel
theorem dX11_working_26 : decode cX11_working 26 = .ok (.ishl, 1) := by decide +kernel
theorem dX11_working_27 : decode cX11_working 27 = .ok (.goto 4, 3) := by decide +kernel
theorem dX11_working_30 : decode cX11_working 30 = .ok (.iconst 0, 1) := by decide +kernel
theorem dX11_working_31 : decode cX11_working 31 = .ok (.ior, 1) := by decide +kernel
theorem dX11_working_32 : decode cX11_working 32 = .ok (.istore_n 1, 1) := by decide +kernel
theorem dX11_working_33 : decode cX11_working 33 = .ok (.iinc 2 1, 3) := by decide +kernel
theorem dX11_working_36 : decode cX11_working 36 = .ok (.goto (-32), 3) := by decide +kernel
theorem dX11_working_39 : decode cX11_working 39 = .ok (.iload_n 1, 1) := by decide +kernel
theorem dX11_working_40 : decode cX11_working 40 = .ok (.ireturn, 1) := by decide +kernel
theorem dX11_fewest_0 : decode cX11_fewest 0 = .ok (.iload_n 1, 1) := by decide +kernel
theorem dX11_fewest_1 : decode cX11_fewest 1 = .ok (.iconst 1, 1) := by decide +kernel
theorem dX11_fewest_2 : decode cX11_fewest 2 = .ok (.invokestatic 181, 3) := by decide +kernel
theorem dX11_fewest_5 : decode cX11_fewest 5 = .ok (.ifCond .ne 6, 3) := by decide +kernel
theorem dX11_fewest_8 : decode cX11_fewest 8 = .ok (.bipush (-3), 2) := by decide +kernel
theorem dX11_fewest_10 : decode cX11_fewest 10 = .ok (.ireturn, 1) := by decide +kernel
theorem dX11_fewest_11 : decode cX11_fewest 11 = .ok (.aload_n 0, 1) := by decide +kernel
theorem dX11_fewest_12 : decode cX11_fewest 12 = .ok (.invokevirtual 185, 3) := by decide +kernel
theorem dX11_fewest_15 : decode cX11_fewest 15 = .ok (.aload_n 0, 1) := by decide +kernel
theorem dX11_fewest_16 : decode cX11_fewest 16 = .ok (.invokevirtual 197, 3) := by decide +kernel
theorem dX11_fewest_19 : decode cX11_fewest 19 = .ok (.istore_n 2, 1) := by decide +kernel
theorem dX11_fewest_20 : decode cX11_fewest 20 = .ok (.iconst (-1), 1) := by decide +kernel
theorem dX11_fewest_21 : decode cX11_fewest 21 = .ok (.istore_n 3, 1) := by decide +kernel
theorem dX11_fewest_22 : decode cX11_fewest 22 = .ok (.iconst 0, 1) := by decide +kernel
theorem dX11_fewest_23 : decode cX11_fewest 23 = .ok (.istore 4, 2) := by decide +kernel
theorem dX11_fewest_25 : decode cX11_fewest 25 = .ok (.iload 4, 2) := by decide +kernel
theorem dX11_fewest_27 : decode cX11_fewest 27 = .ok (.iconst 1, 1) := by decide +kernel
theorem dX11_fewest_28 : decode cX11_fewest 28 = .ok (.aload_n 0, 1) := by decide +kernel
theorem dX11_fewest_29 : decode cX11_fewest 29 = .ok (.getfield 45, 3) := by decide +kernel
theorem dX11_fewest_32 : decode cX11_fewest 32 = .ok (.ishl, 1) := by decide +kernel
theorem dX11_fewest_33 : decode cX11_fewest 33 = .ok (.if_icmp .ge 83, 3) := by decide +kernel
theorem dX11_fewest_36 : decode cX11_fewest 36 = .ok (.iload 4, 2) := by decide +kernel
theorem dX11_fewest_38 : decode cX11_fewest 38 = .ok (.iload_n 2, 1) := by decide +kernel
theorem dX11_fewest_39 : decode cX11_fewest 39 = .ok (.iconst (-1), 1) := by decide +kernel
theorem dX11_fewest_40 : decode cX11_fewest 40 = .ok (.ixor, 1) := by decide +kernel
theorem dX11_fewest_41 : decode cX11_fewest 41 = .ok (.iand, 1) := by decide +kernel
theorem dX11_fewest_42 : decode cX11_fewest 42 = .ok (.ifCond .ne 68, 3) := by decide +kernel
theorem dX11_fewest_45 : decode cX11_fewest 45 = .ok (.iload_n 3, 1) := by decide +kernel
theorem dX11_fewest_46 : decode cX11_fewest 46 = .ok (.ifCond .lt 15, 3) := by decide +kernel
theorem dX11_fewest_49 : decode cX11_fewest 49 = .ok (.iload 4, 2) := by decide +kernel
theorem dX11_fewest_51 : decode cX11_fewest 51 = .ok (.invokestatic 200, 3) := by decide +kernel
theorem dX11_fewest_54 : decode cX11_fewest 54 = .ok (.iload_n 3, 1) := by decide +kernel
theorem dX11_fewest_55 : decode cX11_fewest 55 = .ok (.invokestatic 200, 3) := by decide +kernel
theorem dX11_fewest_58 : decode cX11_fewest 58 = .ok (.if_icmp .ge 52, 3) := by decide +kernel
theorem dX11_fewest_61 : decode cX11_fewest 61 = .ok (.iconst 0, 1) := by decide +kernel
theorem dX11_fewest_62 : decode cX11_fewest 62 = .ok (.istore 5, 2) := by decide +kernel
theorem dX11_fewest_64 : decode cX11_fewest 64 = .ok (.iload 5, 2) := by decide +kernel
theorem dX11_fewest_66 : decode cX11_fewest 66 = .ok (.aload_n 0, 1) := by decide +kernel
theorem dX11_fewest_67 : decode cX11_fewest 67 = .ok (.getfield 45, 3) := by decide +kernel
theorem dX11_fewest_70 : decode cX11_fewest 70 = .ok (.if_icmp .ge 25, 3) := by decide +kernel
theorem dX11_fewest_73 : decode cX11_fewest 73 = .ok (.iload 4, 2) := by decide +kernel
theorem dX11_fewest_75 : decode cX11_fewest 75 = .ok (.iload 5, 2) := by decide +kernel
theorem dX11_fewest_77 : decode cX11_fewest 77 = .ok (.invokestatic 203, 3) := by decide +kernel
theorem dX11_fewest_80 : decode cX11_fewest 80 = .ok (.ifCond .ne 9, 3) := by decide +kernel
theorem dX11_fewest_83 : decode cX11_fewest 83 = .ok (.aload_n 0, 1) := by decide +kernel
theorem dX11_fewest_84 : decode cX11_fewest 84 = .ok (.iload 5, 2) := by decide +kernel
theorem dX11_fewest_86 : decode cX11_fewest 86 = .ok (.invokevirtual 165, 3) := by decide +kernel
theorem dX11_fewest_89 : decode cX11_fewest 89 = .ok (.iinc 5 1, 3) := by decide +kernel
theorem dX11_fewest_92 : decode cX11_fewest 92 = .ok (.goto (-28), 3) := by decide +kernel
theorem dX11_fewest_95 : decode cX11_fewest 95 = .ok (.aload_n 0, 1) := by decide +kernel
theorem dX11_fewest_96 : decode cX11_fewest 96 = .ok (.iload_n 1, 1) := by decide +kernel
theorem dX11_fewest_97 : decode cX11_fewest 97 = .ok (.invokevirtual 194, 3) := by decide +kernel
theorem dX11_fewest_100 : decode cX11_fewest 100 = .ok (.ifCond .le 8, 3) := by decide +kernel
theorem dX11_fewest_103 : decode cX11_fewest 103 = .ok (.iload 4, 2) := by decide +kernel
theorem dX11_fewest_105 : decode cX11_fewest 105 = .ok (.goto 4, 3) := by decide +kernel
theorem dX11_fewest_108 : decode cX11_fewest 108 = .ok (.iload_n 3, 1) := by decide +kernel
theorem dX11_fewest_109 : decode cX11_fewest 109 = .ok (.istore_n 3, 1) := by decide +kernel
theorem dX11_fewest_110 : decode cX11_fewest 110 = .ok (.iinc 4 1, 3) := by decide +kernel
theorem dX11_fewest_113 : decode cX11_fewest 113 = .ok (.goto (-88), 3) := by decide +kernel
theorem dX11_fewest_116 : decode cX11_fewest 116 = .ok (.iload_n 3, 1) := by decide +kernel
theorem dX11_fewest_117 : decode cX11_fewest 117 = .ok (.ireturn, 1) := by decide +kernel
theorem dX11_highestBy_0 : decode cX11_highestBy 0 = .ok (.aload_n 0, 1) := by decide +kernel
theorem dX11_highestBy_1 : decode cX11_highestBy 1 = .ok (.getfield 13, 3) := by decide +kernel
theorem dX11_highestBy_4 : decode cX11_highestBy 4 = .ok (.bipush 31, 2) := by decide +kernel
theorem dX11_highestBy_6 : decode cX11_highestBy 6 = .ok (.iaload, 1) := by decide +kernel
theorem dX11_highestBy_7 : decode cX11_highestBy 7 = .ok (.istore_n 3, 1) := by decide +kernel
theorem dX11_highestBy_8 : decode cX11_highestBy 8 = .ok (.iconst 0, 1) := by decide +kernel
theorem dX11_highestBy_9 : decode cX11_highestBy 9 = .ok (.istore 4, 2) := by decide +kernel
theorem dX11_highestBy_11 : decode cX11_highestBy 11 = .ok (.iload 4, 2) := by decide +kernel
theorem dX11_highestBy_13 : decode cX11_highestBy 13 = .ok (.iload_n 1, 1) := by decide +kernel
theorem dX11_highestBy_14 : decode cX11_highestBy 14 = .ok (.if_icmp .ge 73, 3) := by decide +kernel
theorem dX11_highestBy_17 : decode cX11_highestBy 17 = .ok (.iconst 0, 1) := by decide +kernel
theorem dX11_highestBy_18 : decode cX11_highestBy 18 = .ok (.istore 5, 2) := by decide +kernel
theorem dX11_highestBy_20 : decode cX11_highestBy 20 = .ok (.iload 5, 2) := by decide +kernel
theorem dX11_highestBy_22 : decode cX11_highestBy 22 = .ok (.aload_n 0, 1) := by decide +kernel
theorem dX11_highestBy_23 : decode cX11_highestBy 23 = .ok (.getfield 45, 3) := by decide +kernel
theorem dX11_highestBy_26 : decode cX11_highestBy 26 = .ok (.if_icmp .ge 36, 3) := by decide +kernel
theorem dX11_highestBy_29 : decode cX11_highestBy 29 = .ok (.iload_n 2, 1) := by decide +kernel
theorem dX11_highestBy_30 : decode cX11_highestBy 30 = .ok (.iload 5, 2) := by decide +kernel
theorem dX11_highestBy_32 : decode cX11_highestBy 32 = .ok (.invokestatic 203, 3) := by decide +kernel
theorem dX11_highestBy_35 : decode cX11_highestBy 35 = .ok (.ifCond .eq 21, 3) := by decide +kernel
theorem dX11_highestBy_38 : decode cX11_highestBy 38 = .ok (.aload_n 0, 1) := by decide +kernel
theorem dX11_highestBy_39 : decode cX11_highestBy 39 = .ok (.getfield 35, 3) := by decide +kernel
theorem dX11_highestBy_42 : decode cX11_highestBy 42 = .ok (.iload 5, 2) := by decide +kernel
theorem dX11_highestBy_44 : decode cX11_highestBy 44 = .ok (.iaload, 1) := by decide +kernel
theorem dX11_highestBy_45 : decode cX11_highestBy 45 = .ok (.iload 4, 2) := by decide +kernel
theorem dX11_highestBy_47 : decode cX11_highestBy 47 = .ok (.if_icmp .ne 9, 3) := by decide +kernel
theorem dX11_highestBy_50 : decode cX11_highestBy 50 = .ok (.aload_n 0, 1) := by decide +kernel
theorem dX11_highestBy_51 : decode cX11_highestBy 51 = .ok (.iload 5, 2) := by decide +kernel
theorem dX11_highestBy_53 : decode cX11_highestBy 53 = .ok (.invokevirtual 155, 3) := by decide +kernel
theorem dX11_highestBy_56 : decode cX11_highestBy 56 = .ok (.iinc 5 1, 3) := by decide +kernel
theorem dX11_highestBy_59 : decode cX11_highestBy 59 = .ok (.goto (-39), 3) := by decide +kernel
theorem dX11_highestBy_62 : decode cX11_highestBy 62 = .ok (.aload_n 0, 1) := by decide +kernel
theorem dX11_highestBy_63 : decode cX11_highestBy 63 = .ok (.invokevirtual 175, 3) := by decide +kernel
theorem dX11_highestBy_66 : decode cX11_highestBy 66 = .ok (.istore 5, 2) := by decide +kernel
theorem dX11_highestBy_68 : decode cX11_highestBy 68 = .ok (.iload 5, 2) := by decide +kernel
theorem dX11_highestBy_70 : decode cX11_highestBy 70 = .ok (.iload_n 3, 1) := by decide +kernel
theorem dX11_highestBy_71 : decode cX11_highestBy 71 = .ok (.if_icmp .le 8, 3) := by decide +kernel
theorem dX11_highestBy_74 : decode cX11_highestBy 74 = .ok (.iload 5, 2) := by decide +kernel
theorem dX11_highestBy_76 : decode cX11_highestBy 76 = .ok (.goto 4, 3) := by decide +kernel
theorem dX11_highestBy_79 : decode cX11_highestBy 79 = .ok (.iload_n 3, 1) := by decide +kernel
theorem dX11_highestBy_80 : decode cX11_highestBy 80 = .ok (.istore_n 3, 1) := by decide +kernel
theorem dX11_highestBy_81 : decode cX11_highestBy 81 = .ok (.iinc 4 1, 3) := by decide +kernel
theorem dX11_highestBy_84 : decode cX11_highestBy 84 = .ok (.goto (-73), 3) := by decide +kernel
theorem dX11_highestBy_87 : decode cX11_highestBy 87 = .ok (.aload_n 0, 1) := by decide +kernel
theorem dX11_highestBy_88 : decode cX11_highestBy 88 = .ok (.invokevirtual 178, 3) := by decide +kernel
theorem dX11_highestBy_91 : decode cX11_highestBy 91 = .ok (.iload_n 3, 1) := by decide +kernel
theorem dX11_highestBy_92 : decode cX11_highestBy 92 = .ok (.ireturn, 1) := by decide +kernel
theorem dX11_together_0 : decode cX11_together 0 = .ok (.iload_n 2, 1) := by decide +kernel
theorem dX11_together_1 : decode cX11_together 1 = .ok (.iconst (-1), 1) := by decide +kernel
theorem dX11_together_2 : decode cX11_together 2 = .ok (.if_icmp .eq 14, 3) := by decide +kernel
theorem dX11_together_5 : decode cX11_together 5 = .ok (.aload_n 0, 1) := by decide +kernel
theorem dX11_together_6 : decode cX11_together 6 = .ok (.iload_n 2, 1) := by decide +kernel
theorem dX11_together_7 : decode cX11_together 7 = .ok (.invokevirtual 139, 3) := by decide +kernel
theorem dX11_together_10 : decode cX11_together 10 = .ok (.ifCond .ne 6, 3) := by decide +kernel
theorem dX11_together_13 : decode cX11_together 13 = .ok (.bipush (-2), 2) := by decide +kernel
theorem dX11_together_15 : decode cX11_together 15 = .ok (.ireturn, 1) := by decide +kernel
theorem dX11_together_16 : decode cX11_together 16 = .ok (.iload_n 1, 1) := by decide +kernel
theorem dX11_together_17 : decode cX11_together 17 = .ok (.i2l, 1) := by decide +kernel
theorem dX11_together_18 : decode cX11_together 18 = .ok (.lconst 1, 1) := by decide +kernel
theorem dX11_together_19 : decode cX11_together 19 = .ok (.ldc2_w 206, 3) := by decide +kernel
theorem dX11_together_22 : decode cX11_together 22 = .ok (.invokestatic 49, 3) := by decide +kernel
theorem dX11_together_25 : decode cX11_together 25 = .ok (.ifCond .ne 6, 3) := by decide +kernel
theorem dX11_together_28 : decode cX11_together 28 = .ok (.bipush (-3), 2) := by decide +kernel
theorem dX11_together_30 : decode cX11_together 30 = .ok (.ireturn, 1) := by decide +kernel
theorem dX11_together_31 : decode cX11_together 31 = .ok (.aload_n 0, 1) := by decide +kernel
theorem dX11_together_32 : decode cX11_together 32 = .ok (.invokevirtual 185, 3) := by decide +kernel
theorem dX11_together_35 : decode cX11_together 35 = .ok (.iconst 1, 1) := by decide +kernel
theorem dX11_together_36 : decode cX11_together 36 = .ok (.aload_n 0, 1) := by decide +kernel
theorem dX11_together_37 : decode cX11_together 37 = .ok (.getfield 45, 3) := by decide +kernel
theorem dX11_together_40 : decode cX11_together 40 = .ok (.ishl, 1) := by decide +kernel
theorem dX11_together_41 : decode cX11_together 41 = .ok (.iconst 1, 1) := by decide +kernel
theorem dX11_together_42 : decode cX11_together 42 = .ok (.isub, 1) := by decide +kernel
theorem dX11_together_43 : decode cX11_together 43 = .ok (.aload_n 0, 1) := by decide +kernel
theorem dX11_together_44 : decode cX11_together 44 = .ok (.invokevirtual 197, 3) := by decide +kernel
theorem dX11_together_47 : decode cX11_together 47 = .ok (.iconst (-1), 1) := by decide +kernel
theorem dX11_together_48 : decode cX11_together 48 = .ok (.ixor, 1) := by decide +kernel
theorem dX11_together_49 : decode cX11_together 49 = .ok (.iand, 1) := by decide +kernel
theorem dX11_together_50 : decode cX11_together 50 = .ok (.istore_n 3, 1) := by decide +kernel
theorem dX11_together_51 : decode cX11_together 51 = .ok (.iconst (-1), 1) := by decide +kernel
theorem dX11_together_52 : decode cX11_together 52 = .ok (.istore 4, 2) := by decide +kernel
theorem dX11_together_54 : decode cX11_together 54 = .ok (.iconst (-1), 1) := by decide +kernel
theorem dX11_together_55 : decode cX11_together 55 = .ok (.istore 5, 2) := by decide +kernel
theorem dX11_together_57 : decode cX11_together 57 = .ok (.iconst 0, 1) := by decide +kernel
theorem dX11_together_58 : decode cX11_together 58 = .ok (.istore 6, 2) := by decide +kernel
theorem dX11_together_60 : decode cX11_together 60 = .ok (.iload 6, 2) := by decide +kernel
theorem dX11_together_62 : decode cX11_together 62 = .ok (.iconst 1, 1) := by decide +kernel
theorem dX11_together_63 : decode cX11_together 63 = .ok (.iconst 2, 1) := by decide +kernel
theorem dX11_together_64 : decode cX11_together 64 = .ok (.iload_n 3, 1) := by decide +kernel
theorem dX11_together_65 : decode cX11_together 65 = .ok (.invokestatic 200, 3) := by decide +kernel
theorem dX11_together_68 : decode cX11_together 68 = .ok (.imul, 1) := by decide +kernel
theorem dX11_together_69 : decode cX11_together 69 = .ok (.ishl, 1) := by decide +kernel
theorem dX11_together_70 : decode cX11_together 70 = .ok (.if_icmp .ge 101, 3) := by decide +kernel
theorem dX11_together_73 : decode cX11_together 73 = .ok (.iload 6, 2) := by decide +kernel
theorem dX11_together_75 : decode cX11_together 75 = .ok (.istore 7, 2) := by decide +kernel
theorem dX11_together_77 : decode cX11_together 77 = .ok (.aload_n 0, 1) := by decide +kernel
theorem dX11_together_78 : decode cX11_together 78 = .ok (.getfield 45, 3) := by decide +kernel
theorem dX11_together_81 : decode cX11_together 81 = .ok (.iconst 1, 1) := by decide +kernel
theorem dX11_together_82 : decode cX11_together 82 = .ok (.isub, 1) := by decide +kernel
theorem dX11_together_83 : decode cX11_together 83 = .ok (.istore 8, 2) := by decide +kernel
theorem dX11_together_85 : decode cX11_together 85 = .ok (.iload 8, 2) := by decide +kernel
theorem dX11_together_87 : decode cX11_together 87 = .ok (.ifCond .lt 43, 3) := by decide +kernel
theorem dX11_together_90 : decode cX11_together 90 = .ok (.aload_n 0, 1) := by decide +kernel
theorem dX11_together_91 : decode cX11_together 91 = .ok (.getfield 35, 3) := by decide +kernel
theorem dX11_together_94 : decode cX11_together 94 = .ok (.iload 8, 2) := by decide +kernel
theorem dX11_together_96 : decode cX11_together 96 = .ok (.iconst (-1), 1) := by decide +kernel
theorem dX11_together_97 : decode cX11_together 97 = .ok (.iastore, 1) := by decide +kernel
theorem dX11_together_98 : decode cX11_together 98 = .ok (.iload_n 3, 1) := by decide +kernel
theorem dX11_together_99 : decode cX11_together 99 = .ok (.iload 8, 2) := by decide +kernel
theorem dX11_together_101 : decode cX11_together 101 = .ok (.invokestatic 203, 3) := by decide +kernel
theorem dX11_together_104 : decode cX11_together 104 = .ok (.ifCond .eq 20, 3) := by decide +kernel
theorem dX11_together_107 : decode cX11_together 107 = .ok (.aload_n 0, 1) := by decide +kernel
theorem dX11_together_108 : decode cX11_together 108 = .ok (.getfield 35, 3) := by decide +kernel
theorem dX11_together_111 : decode cX11_together 111 = .ok (.iload 8, 2) := by decide +kernel
theorem dX11_together_113 : decode cX11_together 113 = .ok (.iload 7, 2) := by decide +kernel
theorem dX11_together_115 : decode cX11_together 115 = .ok (.iconst 4, 1) := by decide +kernel
theorem dX11_together_116 : decode cX11_together 116 = .ok (.irem, 1) := by decide +kernel
theorem dX11_together_117 : decode cX11_together 117 = .ok (.iastore, 1) := by decide +kernel
theorem dX11_together_118 : decode cX11_together 118 = .ok (.iload 7, 2) := by decide +kernel
theorem dX11_together_120 : decode cX11_together 120 = .ok (.iconst 4, 1) := by decide +kernel
theorem dX11_together_121 : decode cX11_together 121 = .ok (.idiv, 1) := by decide +kernel
theorem dX11_together_122 : decode cX11_together 122 = .ok (.istore 7, 2) := by decide +kernel
theorem dX11_together_124 : decode cX11_together 124 = .ok (.iinc 8 (-1), 3) := by decide +kernel
theorem dX11_together_127 : decode cX11_together 127 = .ok (.goto (-42), 3) := by decide +kernel
theorem dX11_together_130 : decode cX11_together 130 = .ok (.aload_n 0, 1) := by decide +kernel
theorem dX11_together_131 : decode cX11_together 131 = .ok (.iload_n 1, 1) := by decide +kernel
theorem dX11_together_132 : decode cX11_together 132 = .ok (.iload_n 3, 1) := by decide +kernel
theorem dX11_together_133 : decode cX11_together 133 = .ok (.invokevirtual 208, 3) := by decide +kernel
theorem dX11_together_136 : decode cX11_together 136 = .ok (.istore 8, 2) := by decide +kernel
theorem dX11_together_138 : decode cX11_together 138 = .ok (.iload 8, 2) := by decide +kernel
theorem dX11_together_140 : decode cX11_together 140 = .ok (.iload 4, 2) := by decide +kernel
theorem dX11_together_142 : decode cX11_together 142 = .ok (.if_icmp .le 23, 3) := by decide +kernel
theorem dX11_together_145 : decode cX11_together 145 = .ok (.iload 8, 2) := by decide +kernel
theorem dX11_together_147 : decode cX11_together 147 = .ok (.istore 4, 2) := by decide +kernel
theorem dX11_together_149 : decode cX11_together 149 = .ok (.iload_n 2, 1) := by decide +kernel
theorem dX11_together_150 : decode cX11_together 150 = .ok (.ifCond .ge 7, 3) := by decide +kernel
theorem dX11_together_153 : decode cX11_together 153 = .ok (.iconst (-1), 1) := by decide +kernel
theorem dX11_together_154 : decode cX11_together 154 = .ok (.goto 9, 3) := by decide +kernel
theorem dX11_together_157 : decode cX11_together 157 = .ok (.aload_n 0, 1) := by decide +kernel
theorem dX11_together_158 : decode cX11_together 158 = .ok (.getfield 35, 3) := by decide +kernel
theorem dX11_together_161 : decode cX11_together 161 = .ok (.iload_n 2, 1) := by decide +kernel
theorem dX11_together_162 : decode cX11_together 162 = .ok (.iaload, 1) := by decide +kernel
theorem dX11_together_163 : decode cX11_together 163 = .ok (.istore 5, 2) := by decide +kernel
theorem dX11_together_165 : decode cX11_together 165 = .ok (.iinc 6 1, 3) := by decide +kernel
theorem dX11_together_168 : decode cX11_together 168 = .ok (.goto (-108), 3) := by decide +kernel
theorem dX11_together_171 : decode cX11_together 171 = .ok (.iload_n 2, 1) := by decide +kernel
theorem dX11_together_172 : decode cX11_together 172 = .ok (.ifCond .ge 8, 3) := by decide +kernel
theorem dX11_together_175 : decode cX11_together 175 = .ok (.iload 4, 2) := by decide +kernel
theorem dX11_together_177 : decode cX11_together 177 = .ok (.goto 5, 3) := by decide +kernel
theorem dX11_together_180 : decode cX11_together 180 = .ok (.iload 5, 2) := by decide +kernel
theorem dX11_together_182 : decode cX11_together 182 = .ok (.ireturn, 1) := by decide +kernel
theorem dX11_pitch_0 : decode cX11_pitch 0 = .ok (.iload_n 1, 1) := by decide +kernel
theorem dX11_pitch_1 : decode cX11_pitch 1 = .ok (.i2l, 1) := by decide +kernel
theorem dX11_pitch_2 : decode cX11_pitch 2 = .ok (.lconst 0, 1) := by decide +kernel
theorem dX11_pitch_3 : decode cX11_pitch 3 = .ok (.ldc2_w 168, 3) := by decide +kernel
theorem dX11_pitch_6 : decode cX11_pitch 6 = .ok (.invokestatic 49, 3) := by decide +kernel
theorem dX11_pitch_9 : decode cX11_pitch 9 = .ok (.ifCond .ne 6, 3) := by decide +kernel
theorem dX11_pitch_12 : decode cX11_pitch 12 = .ok (.bipush (-3), 2) := by decide +kernel
theorem dX11_pitch_14 : decode cX11_pitch 14 = .ok (.ireturn, 1) := by decide +kernel
theorem dX11_pitch_15 : decode cX11_pitch 15 = .ok (.aload_n 0, 1) := by decide +kernel
theorem dX11_pitch_16 : decode cX11_pitch 16 = .ok (.invokevirtual 185, 3) := by decide +kernel
theorem dX11_pitch_19 : decode cX11_pitch 19 = .ok (.aload_n 0, 1) := by decide +kernel
theorem dX11_pitch_20 : decode cX11_pitch 20 = .ok (.getfield 13, 3) := by decide +kernel
theorem dX11_pitch_23 : decode cX11_pitch 23 = .ok (.bipush 32, 2) := by decide +kernel
theorem dX11_pitch_25 : decode cX11_pitch 25 = .ok (.aload_n 0, 1) := by decide +kernel
theorem dX11_pitch_26 : decode cX11_pitch 26 = .ok (.getfield 13, 3) := by decide +kernel
theorem dX11_pitch_29 : decode cX11_pitch 29 = .ok (.bipush 32, 2) := by decide +kernel
theorem dX11_pitch_31 : decode cX11_pitch 31 = .ok (.iaload, 1) := by decide +kernel
theorem dX11_pitch_32 : decode cX11_pitch 32 = .ok (.iload_n 1, 1) := by decide +kernel
theorem dX11_pitch_33 : decode cX11_pitch 33 = .ok (.invokestatic 170, 3) := by decide +kernel
theorem dX11_pitch_36 : decode cX11_pitch 36 = .ok (.iastore, 1) := by decide +kernel
theorem dX11_pitch_37 : decode cX11_pitch 37 = .ok (.aload_n 0, 1) := by decide +kernel
theorem dX11_pitch_38 : decode cX11_pitch 38 = .ok (.bipush 99, 2) := by decide +kernel
theorem dX11_pitch_40 : decode cX11_pitch 40 = .ok (.invokevirtual 194, 3) := by decide +kernel
theorem dX11_pitch_43 : decode cX11_pitch 43 = .ok (.ireturn, 1) := by decide +kernel
theorem dX11_seen_0 : decode cX11_seen 0 = .ok (.iload_n 1, 1) := by decide +kernel
theorem dX11_seen_1 : decode cX11_seen 1 = .ok (.i2l, 1) := by decide +kernel
theorem dX11_seen_2 : decode cX11_seen 2 = .ok (.lconst 0, 1) := by decide +kernel
theorem dX11_seen_3 : decode cX11_seen 3 = .ok (.ldc2_w 173, 3) := by decide +kernel
theorem dX11_seen_6 : decode cX11_seen 6 = .ok (.invokestatic 49, 3) := by decide +kernel
theorem dX11_seen_9 : decode cX11_seen 9 = .ok (.ifCond .eq 15, 3) := by decide +kernel
theorem dX11_seen_12 : decode cX11_seen 12 = .ok (.iload_n 2, 1) := by decide +kernel
theorem dX11_seen_13 : decode cX11_seen 13 = .ok (.i2l, 1) := by decide +kernel
theorem dX11_seen_14 : decode cX11_seen 14 = .ok (.lconst 0, 1) := by decide +kernel
theorem dX11_seen_15 : decode cX11_seen 15 = .ok (.ldc2_w 173, 3) := by decide +kernel
theorem dX11_seen_18 : decode cX11_seen 18 = .ok (.invokestatic 49, 3) := by decide +kernel
theorem dX11_seen_21 : decode cX11_seen 21 = .ok (.ifCond .ne 6, 3) := by decide +kernel
theorem dX11_seen_24 : decode cX11_seen 24 = .ok (.bipush (-3), 2) := by decide +kernel
theorem dX11_seen_26 : decode cX11_seen 26 = .ok (.ireturn, 1) := by decide +kernel
theorem dX11_seen_27 : decode cX11_seen 27 = .ok (.aload_n 0, 1) := by decide +kernel
theorem dX11_seen_28 : decode cX11_seen 28 = .ok (.getfield 127, 3) := by decide +kernel
theorem dX11_seen_31 : decode cX11_seen 31 = .ok (.bipush 6, 2) := by decide +kernel
theorem dX11_seen_33 : decode cX11_seen 33 = .ok (.if_icmp .ne 6, 3) := by decide +kernel
theorem dX11_seen_36 : decode cX11_seen 36 = .ok (.bipush (-5), 2) := by decide +kernel
theorem dX11_seen_38 : decode cX11_seen 38 = .ok (.ireturn, 1) := by decide +kernel
theorem dX11_seen_39 : decode cX11_seen 39 = .ok (.aload_n 0, 1) := by decide +kernel
theorem dX11_seen_40 : decode cX11_seen 40 = .ok (.getfield 38, 3) := by decide +kernel
theorem dX11_seen_43 : decode cX11_seen 43 = .ok (.iconst 2, 1) := by decide +kernel
theorem dX11_seen_44 : decode cX11_seen 44 = .ok (.aload_n 0, 1) := by decide +kernel
theorem dX11_seen_45 : decode cX11_seen 45 = .ok (.getfield 127, 3) := by decide +kernel
theorem dX11_seen_48 : decode cX11_seen 48 = .ok (.imul, 1) := by decide +kernel
theorem dX11_seen_49 : decode cX11_seen 49 = .ok (.iload_n 1, 1) := by decide +kernel
theorem dX11_seen_50 : decode cX11_seen 50 = .ok (.iastore, 1) := by decide +kernel
theorem dX11_seen_51 : decode cX11_seen 51 = .ok (.aload_n 0, 1) := by decide +kernel
theorem dX11_seen_52 : decode cX11_seen 52 = .ok (.getfield 38, 3) := by decide +kernel
theorem dX11_seen_55 : decode cX11_seen 55 = .ok (.iconst 2, 1) := by decide +kernel
theorem dX11_seen_56 : decode cX11_seen 56 = .ok (.aload_n 0, 1) := by decide +kernel
theorem dX11_seen_57 : decode cX11_seen 57 = .ok (.getfield 127, 3) := by decide +kernel
theorem dX11_seen_60 : decode cX11_seen 60 = .ok (.imul, 1) := by decide +kernel
theorem dX11_seen_61 : decode cX11_seen 61 = .ok (.iconst 1, 1) := by decide +kernel
theorem dX11_seen_62 : decode cX11_seen 62 = .ok (.iadd, 1) := by decide +kernel
theorem dX11_seen_63 : decode cX11_seen 63 = .ok (.iload_n 2, 1) := by decide +kernel
theorem dX11_seen_64 : decode cX11_seen 64 = .ok (.iastore, 1) := by decide +kernel
theorem dX11_seen_65 : decode cX11_seen 65 = .ok (.aload_n 0, 1) := by decide +kernel
theorem dX11_seen_66 : decode cX11_seen 66 = .ok (.dup, 1) := by decide +kernel
theorem dX11_seen_67 : decode cX11_seen 67 = .ok (.getfield 127, 3) := by decide +kernel
theorem dX11_seen_70 : decode cX11_seen 70 = .ok (.iconst 1, 1) := by decide +kernel
theorem dX11_seen_71 : decode cX11_seen 71 = .ok (.iadd, 1) := by decide +kernel
theorem dX11_seen_72 : decode cX11_seen 72 = .ok (.putfield 127, 3) := by decide +kernel
theorem dX11_seen_75 : decode cX11_seen 75 = .ok (.aload_n 0, 1) := by decide +kernel
theorem dX11_seen_76 : decode cX11_seen 76 = .ok (.getfield 127, 3) := by decide +kernel
theorem dX11_seen_79 : decode cX11_seen 79 = .ok (.ireturn, 1) := by decide +kernel
theorem dX11_forget_0 : decode cX11_forget 0 = .ok (.aload_n 0, 1) := by decide +kernel
theorem dX11_forget_1 : decode cX11_forget 1 = .ok (.getfield 127, 3) := by decide +kernel
theorem dX11_forget_4 : decode cX11_forget 4 = .ok (.istore_n 1, 1) := by decide +kernel
theorem dX11_forget_5 : decode cX11_forget 5 = .ok (.aload_n 0, 1) := by decide +kernel
theorem dX11_forget_6 : decode cX11_forget 6 = .ok (.iconst 0, 1) := by decide +kernel
theorem dX11_forget_7 : decode cX11_forget 7 = .ok (.putfield 127, 3) := by decide +kernel
theorem dX11_forget_10 : decode cX11_forget 10 = .ok (.iload_n 1, 1) := by decide +kernel
theorem dX11_forget_11 : decode cX11_forget 11 = .ok (.ireturn, 1) := by decide +kernel
theorem dX11_isBy_0 : decode cX11_isBy 0 = .ok (.aload_n 0, 1) := by decide +kernel
theorem dX11_isBy_1 : decode cX11_isBy 1 = .ok (.invokevirtual 124, 3) := by decide +kernel
theorem dX11_isBy_4 : decode cX11_isBy 4 = .ok (.iconst 0, 1) := by decide +kernel
theorem dX11_isBy_5 : decode cX11_isBy 5 = .ok (.istore_n 2, 1) := by decide +kernel
theorem dX11_isBy_6 : decode cX11_isBy 6 = .ok (.iload_n 2, 1) := by decide +kernel
theorem dX11_isBy_7 : decode cX11_isBy 7 = .ok (.aload_n 0, 1) := by decide +kernel
theorem dX11_isBy_8 : decode cX11_isBy 8 = .ok (.getfield 45, 3) := by decide +kernel
theorem dX11_isBy_11 : decode cX11_isBy 11 = .ok (.if_icmp .ge 22, 3) := by decide +kernel
theorem dX11_isBy_14 : decode cX11_isBy 14 = .ok (.iload_n 1, 1) := by decide +kernel
theorem dX11_isBy_15 : decode cX11_isBy 15 = .ok (.iload_n 2, 1) := by decide +kernel
theorem dX11_isBy_16 : decode cX11_isBy 16 = .ok (.invokestatic 203, 3) := by decide +kernel
theorem dX11_isBy_19 : decode cX11_isBy 19 = .ok (.ifCond .eq 8, 3) := by decide +kernel
theorem dX11_isBy_22 : decode cX11_isBy 22 = .ok (.aload_n 0, 1) := by decide +kernel
theorem dX11_isBy_23 : decode cX11_isBy 23 = .ok (.iload_n 2, 1) := by decide +kernel
theorem dX11_isBy_24 : decode cX11_isBy 24 = .ok (.invokevirtual 155, 3) := by decide +kernel
theorem dX11_isBy_27 : decode cX11_isBy 27 = .ok (.iinc 2 1, 3) := by decide +kernel
theorem dX11_isBy_30 : decode cX11_isBy 30 = .ok (.goto (-24), 3) := by decide +kernel
theorem dX11_isBy_33 : decode cX11_isBy 33 = .ok (.iconst 1, 1) := by decide +kernel
theorem dX11_isBy_34 : decode cX11_isBy 34 = .ok (.istore_n 2, 1) := by decide +kernel
theorem dX11_isBy_35 : decode cX11_isBy 35 = .ok (.iconst 0, 1) := by decide +kernel
theorem dX11_isBy_36 : decode cX11_isBy 36 = .ok (.istore_n 3, 1) := by decide +kernel
theorem dX11_isBy_37 : decode cX11_isBy 37 = .ok (.iload_n 3, 1) := by decide +kernel
theorem dX11_isBy_38 : decode cX11_isBy 38 = .ok (.bipush 99, 2) := by decide +kernel
theorem dX11_isBy_40 : decode cX11_isBy 40 = .ok (.if_icmp .gt 76, 3) := by decide +kernel
theorem dX11_isBy_43 : decode cX11_isBy 43 = .ok (.iconst 0, 1) := by decide +kernel
theorem dX11_isBy_44 : decode cX11_isBy 44 = .ok (.istore 4, 2) := by decide +kernel
theorem dX11_isBy_46 : decode cX11_isBy 46 = .ok (.iload 4, 2) := by decide +kernel
theorem dX11_isBy_48 : decode cX11_isBy 48 = .ok (.aload_n 0, 1) := by decide +kernel
theorem dX11_isBy_49 : decode cX11_isBy 49 = .ok (.getfield 127, 3) := by decide +kernel
theorem dX11_isBy_52 : decode cX11_isBy 52 = .ok (.if_icmp .ge 53, 3) := by decide +kernel
theorem dX11_isBy_55 : decode cX11_isBy 55 = .ok (.iload_n 2, 1) := by decide +kernel
theorem dX11_isBy_56 : decode cX11_isBy 56 = .ok (.ifCond .eq 41, 3) := by decide +kernel
theorem dX11_isBy_59 : decode cX11_isBy 59 = .ok (.aload_n 0, 1) := by decide +kernel
theorem dX11_isBy_60 : decode cX11_isBy 60 = .ok (.getfield 38, 3) := by decide +kernel
theorem dX11_isBy_63 : decode cX11_isBy 63 = .ok (.iconst 2, 1) := by decide +kernel
theorem dX11_isBy_64 : decode cX11_isBy 64 = .ok (.iload 4, 2) := by decide +kernel
theorem dX11_isBy_66 : decode cX11_isBy 66 = .ok (.imul, 1) := by decide +kernel
theorem dX11_isBy_67 : decode cX11_isBy 67 = .ok (.iaload, 1) := by decide +kernel
theorem dX11_isBy_68 : decode cX11_isBy 68 = .ok (.iload_n 3, 1) := by decide +kernel
theorem dX11_isBy_69 : decode cX11_isBy 69 = .ok (.if_icmp .ne 24, 3) := by decide +kernel
theorem dX11_isBy_72 : decode cX11_isBy 72 = .ok (.aload_n 0, 1) := by decide +kernel
theorem dX11_isBy_73 : decode cX11_isBy 73 = .ok (.getfield 38, 3) := by decide +kernel
theorem dX11_isBy_76 : decode cX11_isBy 76 = .ok (.iconst 2, 1) := by decide +kernel
theorem dX11_isBy_77 : decode cX11_isBy 77 = .ok (.iload 4, 2) := by decide +kernel
theorem dX11_isBy_79 : decode cX11_isBy 79 = .ok (.imul, 1) := by decide +kernel
theorem dX11_isBy_80 : decode cX11_isBy 80 = .ok (.iconst 1, 1) := by decide +kernel
theorem dX11_isBy_81 : decode cX11_isBy 81 = .ok (.iadd, 1) := by decide +kernel
theorem dX11_isBy_82 : decode cX11_isBy 82 = .ok (.iaload, 1) := by decide +kernel
theorem dX11_isBy_83 : decode cX11_isBy 83 = .ok (.aload_n 0, 1) := by decide +kernel
theorem dX11_isBy_84 : decode cX11_isBy 84 = .ok (.getfield 13, 3) := by decide +kernel
theorem dX11_isBy_87 : decode cX11_isBy 87 = .ok (.bipush 31, 2) := by decide +kernel
theorem dX11_isBy_89 : decode cX11_isBy 89 = .ok (.iaload, 1) := by decide +kernel
theorem dX11_isBy_90 : decode cX11_isBy 90 = .ok (.if_icmp .ne 7, 3) := by decide +kernel
theorem dX11_isBy_93 : decode cX11_isBy 93 = .ok (.iconst 1, 1) := by decide +kernel
theorem dX11_isBy_94 : decode cX11_isBy 94 = .ok (.goto 4, 3) := by decide +kernel
theorem dX11_isBy_97 : decode cX11_isBy 97 = .ok (.iconst 0, 1) := by decide +kernel
theorem dX11_isBy_98 : decode cX11_isBy 98 = .ok (.istore_n 2, 1) := by decide +kernel
theorem dX11_isBy_99 : decode cX11_isBy 99 = .ok (.iinc 4 1, 3) := by decide +kernel
theorem dX11_isBy_102 : decode cX11_isBy 102 = .ok (.goto (-56), 3) := by decide +kernel
theorem dX11_isBy_105 : decode cX11_isBy 105 = .ok (.aload_n 0, 1) := by decide +kernel
theorem dX11_isBy_106 : decode cX11_isBy 106 = .ok (.invokevirtual 175, 3) := by decide +kernel
theorem dX11_isBy_109 : decode cX11_isBy 109 = .ok (.pop, 1) := by decide +kernel
theorem dX11_isBy_110 : decode cX11_isBy 110 = .ok (.iinc 3 1, 3) := by decide +kernel
theorem dX11_isBy_113 : decode cX11_isBy 113 = .ok (.goto (-76), 3) := by decide +kernel
theorem dX11_isBy_116 : decode cX11_isBy 116 = .ok (.aload_n 0, 1) := by decide +kernel
theorem dX11_isBy_117 : decode cX11_isBy 117 = .ok (.invokevirtual 178, 3) := by decide +kernel
theorem dX11_isBy_120 : decode cX11_isBy 120 = .ok (.iload_n 2, 1) := by decide +kernel
theorem dX11_isBy_121 : decode cX11_isBy 121 = .ok (.ireturn, 1) := by decide +kernel
theorem dX11_worked_0 : decode cX11_worked 0 = .ok (.iload_n 1, 1) := by decide +kernel
theorem dX11_worked_1 : decode cX11_worked 1 = .ok (.i2l, 1) := by decide +kernel
theorem dX11_worked_2 : decode cX11_worked 2 = .ok (.lconst 0, 1) := by decide +kernel
theorem dX11_worked_3 : decode cX11_worked 3 = .ok (.ldc2_w 211, 3) := by decide +kernel
theorem dX11_worked_6 : decode cX11_worked 6 = .ok (.invokestatic 49, 3) := by decide +kernel
theorem dX11_worked_9 : decode cX11_worked 9 = .ok (.ifCond .ne 6, 3) := by decide +kernel
theorem dX11_worked_12 : decode cX11_worked 12 = .ok (.bipush (-3), 2) := by decide +kernel
theorem dX11_worked_14 : decode cX11_worked 14 = .ok (.ireturn, 1) := by decide +kernel
theorem dX11_worked_15 : decode cX11_worked 15 = .ok (.aload_n 0, 1) := by decide +kernel
theorem dX11_worked_16 : decode cX11_worked 16 = .ok (.invokevirtual 185, 3) := by decide +kernel
theorem dX11_worked_19 : decode cX11_worked 19 = .ok (.iconst 0, 1) := by decide +kernel
theorem dX11_worked_20 : decode cX11_worked 20 = .ok (.istore_n 2, 1) := by decide +kernel
theorem dX11_worked_21 : decode cX11_worked 21 = .ok (.iconst (-1), 1) := by decide +kernel
theorem dX11_worked_22 : decode cX11_worked 22 = .ok (.istore_n 3, 1) := by decide +kernel
theorem dX11_worked_23 : decode cX11_worked 23 = .ok (.iconst 1, 1) := by decide +kernel
theorem dX11_worked_24 : decode cX11_worked 24 = .ok (.aload_n 0, 1) := by decide +kernel
theorem dX11_worked_25 : decode cX11_worked 25 = .ok (.getfield 45, 3) := by decide +kernel
theorem dX11_worked_28 : decode cX11_worked 28 = .ok (.ishl, 1) := by decide +kernel
theorem dX11_worked_29 : decode cX11_worked 29 = .ok (.iconst 1, 1) := by decide +kernel
theorem dX11_worked_30 : decode cX11_worked 30 = .ok (.isub, 1) := by decide +kernel
theorem dX11_worked_31 : decode cX11_worked 31 = .ok (.istore 4, 2) := by decide +kernel
theorem dX11_worked_33 : decode cX11_worked 33 = .ok (.iconst 1, 1) := by decide +kernel
theorem dX11_worked_34 : decode cX11_worked 34 = .ok (.aload_n 0, 1) := by decide +kernel
theorem dX11_worked_35 : decode cX11_worked 35 = .ok (.getfield 45, 3) := by decide +kernel
theorem dX11_worked_38 : decode cX11_worked 38 = .ok (.ishl, 1) := by decide +kernel
theorem dX11_worked_39 : decode cX11_worked 39 = .ok (.iconst 1, 1) := by decide +kernel
theorem dX11_worked_40 : decode cX11_worked 40 = .ok (.isub, 1) := by decide +kernel
theorem dX11_worked_41 : decode cX11_worked 41 = .ok (.istore 5, 2) := by decide +kernel
theorem dX11_worked_43 : decode cX11_worked 43 = .ok (.iload 5, 2) := by decide +kernel
theorem dX11_worked_45 : decode cX11_worked 45 = .ok (.ifCond .lt 31, 3) := by decide +kernel
theorem dX11_worked_48 : decode cX11_worked 48 = .ok (.aload_n 0, 1) := by decide +kernel
theorem dX11_worked_49 : decode cX11_worked 49 = .ok (.iload 5, 2) := by decide +kernel
theorem dX11_worked_51 : decode cX11_worked 51 = .ok (.invokevirtual 213, 3) := by decide +kernel
theorem dX11_worked_54 : decode cX11_worked 54 = .ok (.ifCond .eq 16, 3) := by decide +kernel
theorem dX11_worked_57 : decode cX11_worked 57 = .ok (.iinc 2 1, 3) := by decide +kernel
theorem dX11_worked_60 : decode cX11_worked 60 = .ok (.iload 5, 2) := by decide +kernel
theorem dX11_worked_62 : decode cX11_worked 62 = .ok (.istore_n 3, 1) := by decide +kernel
theorem dX11_worked_63 : decode cX11_worked 63 = .ok (.iload 4, 2) := by decide +kernel
theorem dX11_worked_65 : decode cX11_worked 65 = .ok (.iload 5, 2) := by decide +kernel
theorem dX11_worked_67 : decode cX11_worked 67 = .ok (.iand, 1) := by decide +kernel
theorem dX11_worked_68 : decode cX11_worked 68 = .ok (.istore 4, 2) := by decide +kernel
theorem dX11_worked_70 : decode cX11_worked 70 = .ok (.iinc 5 (-1), 3) := by decide +kernel
theorem dX11_worked_73 : decode cX11_worked 73 = .ok (.goto (-30), 3) := by decide +kernel
theorem dX11_worked_76 : decode cX11_worked 76 = .ok (.iload_n 1, 1) := by decide +kernel
theorem dX11_worked_77 : decode cX11_worked 77 = .ok (.ifCond .ne 7, 3) := by decide +kernel
theorem dX11_worked_80 : decode cX11_worked 80 = .ok (.iload_n 2, 1) := by decide +kernel
theorem dX11_worked_81 : decode cX11_worked 81 = .ok (.goto 22, 3) := by decide +kernel
theorem dX11_worked_84 : decode cX11_worked 84 = .ok (.iload_n 1, 1) := by decide +kernel
theorem dX11_worked_85 : decode cX11_worked 85 = .ok (.iconst 1, 1) := by decide +kernel
theorem dX11_worked_86 : decode cX11_worked 86 = .ok (.if_icmp .ne 7, 3) := by decide +kernel
theorem dX11_worked_89 : decode cX11_worked 89 = .ok (.iload_n 3, 1) := by decide +kernel
theorem dX11_worked_90 : decode cX11_worked 90 = .ok (.goto 13, 3) := by decide +kernel
theorem dX11_worked_93 : decode cX11_worked 93 = .ok (.iload_n 2, 1) := by decide +kernel
theorem dX11_worked_94 : decode cX11_worked 94 = .ok (.ifCond .ne 7, 3) := by decide +kernel
theorem dX11_worked_97 : decode cX11_worked 97 = .ok (.iconst 0, 1) := by decide +kernel
theorem dX11_worked_98 : decode cX11_worked 98 = .ok (.goto 5, 3) := by decide +kernel
theorem dX11_worked_101 : decode cX11_worked 101 = .ok (.iload 4, 2) := by decide +kernel
theorem dX11_worked_103 : decode cX11_worked 103 = .ok (.ireturn, 1) := by decide +kernel
theorem dX11_leaves_0 : decode cX11_leaves 0 = .ok (.iload_n 1, 1) := by decide +kernel
theorem dX11_leaves_1 : decode cX11_leaves 1 = .ok (.i2l, 1) := by decide +kernel
theorem dX11_leaves_2 : decode cX11_leaves 2 = .ok (.lconst 0, 1) := by decide +kernel
theorem dX11_leaves_3 : decode cX11_leaves 3 = .ok (.ldc2_w 216, 3) := by decide +kernel
theorem dX11_leaves_6 : decode cX11_leaves 6 = .ok (.invokestatic 49, 3) := by decide +kernel
theorem dX11_leaves_9 : decode cX11_leaves 9 = .ok (.ifCond .eq 38, 3) := by decide +kernel
theorem dX11_leaves_12 : decode cX11_leaves 12 = .ok (.iload_n 2, 1) := by decide +kernel
theorem dX11_leaves_13 : decode cX11_leaves 13 = .ok (.i2l, 1) := by decide +kernel
theorem dX11_leaves_14 : decode cX11_leaves 14 = .ok (.lconst 0, 1) := by decide +kernel
theorem dX11_leaves_15 : decode cX11_leaves 15 = .ok (.ldc2_w 216, 3) := by decide +kernel
theorem dX11_leaves_18 : decode cX11_leaves 18 = .ok (.invokestatic 49, 3) := by decide +kernel
theorem dX11_leaves_21 : decode cX11_leaves 21 = .ok (.ifCond .eq 26, 3) := by decide +kernel
theorem dX11_leaves_24 : decode cX11_leaves 24 = .ok (.iload_n 3, 1) := by decide +kernel
theorem dX11_leaves_25 : decode cX11_leaves 25 = .ok (.i2l, 1) := by decide +kernel
theorem dX11_leaves_26 : decode cX11_leaves 26 = .ok (.lconst 0, 1) := by decide +kernel
theorem dX11_leaves_27 : decode cX11_leaves 27 = .ok (.ldc2_w 218, 3) := by decide +kernel
theorem dX11_leaves_30 : decode cX11_leaves 30 = .ok (.invokestatic 49, 3) := by decide +kernel
theorem dX11_leaves_33 : decode cX11_leaves 33 = .ok (.ifCond .eq 14, 3) := by decide +kernel
theorem dX11_leaves_36 : decode cX11_leaves 36 = .ok (.iload 4, 2) := by decide +kernel
theorem dX11_leaves_38 : decode cX11_leaves 38 = .ok (.i2l, 1) := by decide +kernel
theorem dX11_leaves_39 : decode cX11_leaves 39 = .ok (.lconst 0, 1) := by decide +kernel
theorem dX11_leaves_40 : decode cX11_leaves 40 = .ok (.lconst 1, 1) := by decide +kernel
theorem dX11_leaves_41 : decode cX11_leaves 41 = .ok (.invokestatic 49, 3) := by decide +kernel
theorem dX11_leaves_44 : decode cX11_leaves 44 = .ok (.ifCond .ne 6, 3) := by decide +kernel
theorem dX11_leaves_47 : decode cX11_leaves 47 = .ok (.bipush (-3), 2) := by decide +kernel
theorem dX11_leaves_49 : decode cX11_leaves 49 = .ok (.ireturn, 1) := by decide +kernel
theorem dX11_leaves_50 : decode cX11_leaves 50 = .ok (.iconst 0, 1) := by decide +kernel
theorem dX11_leaves_51 : decode cX11_leaves 51 = .ok (.istore 5, 2) := by decide +kernel
theorem dX11_leaves_53 : decode cX11_leaves 53 = .ok (.iconst 1, 1) := by decide +kernel
theorem dX11_leaves_54 : decode cX11_leaves 54 = .ok (.istore 6, 2) := by decide +kernel
theorem dX11_leaves_56 : decode cX11_leaves 56 = .ok (.iconst 0, 1) := by decide +kernel
theorem dX11_leaves_57 : decode cX11_leaves 57 = .ok (.istore 7, 2) := by decide +kernel
theorem dX11_leaves_59 : decode cX11_leaves 59 = .ok (.iload 7, 2) := by decide +kernel
theorem dX11_leaves_61 : decode cX11_leaves 61 = .ok (.iload_n 1, 1) := by decide +kernel
theorem dX11_leaves_62 : decode cX11_leaves 62 = .ok (.if_icmp .ge 16, 3) := by decide +kernel
theorem dX11_leaves_65 : decode cX11_leaves 65 = .ok (.iload 6, 2) := by decide +kernel
theorem dX11_leaves_67 : decode cX11_leaves 67 = .ok (.bipush 10, 2) := by decide +kernel
theorem dX11_leaves_69 : decode cX11_leaves 69 = .ok (.imul, 1) := by decide +kernel
theorem dX11_leaves_70 : decode cX11_leaves 70 = .ok (.istore 6, 2) := by decide +kernel
theorem dX11_leaves_72 : decode cX11_leaves 72 = .ok (.iinc 7 1, 3) := by decide +kernel
theorem dX11_leaves_75 : decode cX11_leaves 75 = .ok (.goto (-16), 3) := by decide +kernel
theorem dX11_leaves_78 : decode cX11_leaves 78 = .ok (.iconst 0, 1) := by decide +kernel
theorem dX11_leaves_79 : decode cX11_leaves 79 = .ok (.istore 7, 2) := by decide +kernel
theorem dX11_leaves_81 : decode cX11_leaves 81 = .ok (.iload 7, 2) := by decide +kernel
theorem dX11_leaves_83 : decode cX11_leaves 83 = .ok (.iconst 1, 1) := by decide +kernel
theorem dX11_leaves_84 : decode cX11_leaves 84 = .ok (.iload_n 1, 1) := by decide +kernel
theorem dX11_leaves_85 : decode cX11_leaves 85 = .ok (.ishl, 1) := by decide +kernel
theorem dX11_leaves_86 : decode cX11_leaves 86 = .ok (.if_icmp .ge 70, 3) := by decide +kernel
theorem dX11_leaves_89 : decode cX11_leaves 89 = .ok (.iconst 1, 1) := by decide +kernel
theorem dX11_leaves_90 : decode cX11_leaves 90 = .ok (.istore 8, 2) := by decide +kernel
theorem dX11_leaves_92 : decode cX11_leaves 92 = .ok (.iconst 0, 1) := by decide +kernel
theorem dX11_leaves_93 : decode cX11_leaves 93 = .ok (.istore 9, 2) := by decide +kernel
theorem dX11_leaves_95 : decode cX11_leaves 95 = .ok (.iload 9, 2) := by decide +kernel
theorem dX11_leaves_97 : decode cX11_leaves 97 = .ok (.iload_n 1, 1) := by decide +kernel
theorem dX11_leaves_98 : decode cX11_leaves 98 = .ok (.if_icmp .ge 32, 3) := by decide +kernel
theorem dX11_leaves_101 : decode cX11_leaves 101 = .ok (.iload 8, 2) := by decide +kernel
theorem dX11_leaves_103 : decode cX11_leaves 103 = .ok (.iload 7, 2) := by decide +kernel
theorem dX11_leaves_105 : decode cX11_leaves 105 = .ok (.iload 9, 2) := by decide +kernel
theorem dX11_leaves_107 : decode cX11_leaves 107 = .ok (.invokestatic 203, 3) := by decide +kernel
theorem dX11_leaves_110 : decode cX11_leaves 110 = .ok (.ifCond .eq 7, 3) := by decide +kernel
theorem dX11_leaves_113 : decode cX11_leaves 113 = .ok (.iload_n 3, 1) := by decide +kernel
theorem dX11_leaves_114 : decode cX11_leaves 114 = .ok (.goto 7, 3) := by decide +kernel
theorem dX11_leaves_117 : decode cX11_leaves 117 = .ok (.bipush 10, 2) := by decide +kernel
theorem dX11_leaves_119 : decode cX11_leaves 119 = .ok (.iload_n 3, 1) := by decide +kernel
theorem dX11_leaves_120 : decode cX11_leaves 120 = .ok (.isub, 1) := by decide +kernel
theorem dX11_leaves_121 : decode cX11_leaves 121 = .ok (.imul, 1) := by decide +kernel
theorem dX11_leaves_122 : decode cX11_leaves 122 = .ok (.istore 8, 2) := by decide +kernel
theorem dX11_leaves_124 : decode cX11_leaves 124 = .ok (.iinc 9 1, 3) := by decide +kernel
theorem dX11_leaves_127 : decode cX11_leaves 127 = .ok (.goto (-32), 3) := by decide +kernel
theorem dX11_leaves_130 : decode cX11_leaves 130 = .ok (.iload 5, 2) := by decide +kernel
theorem dX11_leaves_132 : decode cX11_leaves 132 = .ok (.iload 7, 2) := by decide +kernel
theorem dX11_leaves_134 : decode cX11_leaves 134 = .ok (.invokestatic 200, 3) := by decide +kernel
theorem dX11_leaves_137 : decode cX11_leaves 137 = .ok (.iload_n 2, 1) := by decide +kernel
theorem dX11_leaves_138 : decode cX11_leaves 138 = .ok (.if_icmp .lt 8, 3) := by decide +kernel
theorem dX11_leaves_141 : decode cX11_leaves 141 = .ok (.iload 8, 2) := by decide +kernel
theorem dX11_leaves_143 : decode cX11_leaves 143 = .ok (.goto 4, 3) := by decide +kernel
theorem dX11_leaves_146 : decode cX11_leaves 146 = .ok (.iconst 0, 1) := by decide +kernel
theorem dX11_leaves_147 : decode cX11_leaves 147 = .ok (.iadd, 1) := by decide +kernel
theorem dX11_leaves_148 : decode cX11_leaves 148 = .ok (.istore 5, 2) := by decide +kernel
theorem dX11_leaves_150 : decode cX11_leaves 150 = .ok (.iinc 7 1, 3) := by decide +kernel
theorem dX11_leaves_153 : decode cX11_leaves 153 = .ok (.goto (-72), 3) := by decide +kernel
theorem dX11_leaves_156 : decode cX11_leaves 156 = .ok (.iload 5, 2) := by decide +kernel
theorem dX11_leaves_158 : decode cX11_leaves 158 = .ok (.istore 7, 2) := by decide +kernel
theorem dX11_leaves_160 : decode cX11_leaves 160 = .ok (.iload 6, 2) := by decide +kernel
theorem dX11_leaves_162 : decode cX11_leaves 162 = .ok (.istore 8, 2) := by decide +kernel
theorem dX11_leaves_164 : decode cX11_leaves 164 = .ok (.iload 8, 2) := by decide +kernel
theorem dX11_leaves_166 : decode cX11_leaves 166 = .ok (.ifCond .eq 21, 3) := by decide +kernel
theorem dX11_leaves_169 : decode cX11_leaves 169 = .ok (.iload 7, 2) := by decide +kernel
theorem dX11_leaves_171 : decode cX11_leaves 171 = .ok (.iload 8, 2) := by decide +kernel
theorem dX11_leaves_173 : decode cX11_leaves 173 = .ok (.irem, 1) := by decide +kernel
theorem dX11_leaves_174 : decode cX11_leaves 174 = .ok (.istore 9, 2) := by decide +kernel
theorem dX11_leaves_176 : decode cX11_leaves 176 = .ok (.iload 8, 2) := by decide +kernel
theorem dX11_leaves_178 : decode cX11_leaves 178 = .ok (.istore 7, 2) := by decide +kernel
theorem dX11_leaves_180 : decode cX11_leaves 180 = .ok (.iload 9, 2) := by decide +kernel
theorem dX11_leaves_182 : decode cX11_leaves 182 = .ok (.istore 8, 2) := by decide +kernel
theorem dX11_leaves_184 : decode cX11_leaves 184 = .ok (.goto (-20), 3) := by decide +kernel
theorem dX11_leaves_187 : decode cX11_leaves 187 = .ok (.iload 4, 2) := by decide +kernel
theorem dX11_leaves_189 : decode cX11_leaves 189 = .ok (.ifCond .ne 11, 3) := by decide +kernel
theorem dX11_leaves_192 : decode cX11_leaves 192 = .ok (.iload 5, 2) := by decide +kernel
theorem dX11_leaves_194 : decode cX11_leaves 194 = .ok (.iload 7, 2) := by decide +kernel
theorem dX11_leaves_196 : decode cX11_leaves 196 = .ok (.idiv, 1) := by decide +kernel
theorem dX11_leaves_197 : decode cX11_leaves 197 = .ok (.goto 8, 3) := by decide +kernel
theorem dX11_leaves_200 : decode cX11_leaves 200 = .ok (.iload 6, 2) := by decide +kernel
theorem dX11_leaves_202 : decode cX11_leaves 202 = .ok (.iload 7, 2) := by decide +kernel
theorem dX11_leaves_204 : decode cX11_leaves 204 = .ok (.idiv, 1) := by decide +kernel
theorem dX11_leaves_205 : decode cX11_leaves 205 = .ok (.ireturn, 1) := by decide +kernel
theorem dX11_count_0 : decode cX11_count 0 = .ok (.iload_n 1, 1) := by decide +kernel
theorem dX11_count_1 : decode cX11_count 1 = .ok (.tableswitch 131 0 10 #[59, 64, 72, 80, 87, 95, 103, 108, 116, 121, 126], 59) := by decide +kernel
theorem dX11_count_60 : decode cX11_count 60 = .ok (.aload_n 0, 1) := by decide +kernel
theorem dX11_count_61 : decode cX11_count 61 = .ok (.getfield 45, 3) := by decide +kernel
theorem dX11_count_64 : decode cX11_count 64 = .ok (.ireturn, 1) := by decide +kernel
theorem dX11_count_65 : decode cX11_count 65 = .ok (.aload_n 0, 1) := by decide +kernel
theorem dX11_count_66 : decode cX11_count 66 = .ok (.getfield 13, 3) := by decide +kernel
theorem dX11_count_69 : decode cX11_count 69 = .ok (.bipush 30, 2) := by decide +kernel
theorem dX11_count_71 : decode cX11_count 71 = .ok (.iaload, 1) := by decide +kernel
theorem dX11_count_72 : decode cX11_count 72 = .ok (.ireturn, 1) := by decide +kernel
theorem dX11_count_73 : decode cX11_count 73 = .ok (.aload_n 0, 1) := by decide +kernel
theorem dX11_count_74 : decode cX11_count 74 = .ok (.getfield 13, 3) := by decide +kernel
theorem dX11_count_77 : decode cX11_count 77 = .ok (.bipush 31, 2) := by decide +kernel
theorem dX11_count_79 : decode cX11_count 79 = .ok (.iaload, 1) := by decide +kernel
theorem dX11_count_80 : decode cX11_count 80 = .ok (.ireturn, 1) := by decide +kernel
theorem dX11_count_81 : decode cX11_count 81 = .ok (.aload_n 0, 1) := by decide +kernel
theorem dX11_count_82 : decode cX11_count 82 = .ok (.getfield 7, 3) := by decide +kernel
theorem dX11_count_85 : decode cX11_count 85 = .ok (.iconst 0, 1) := by decide +kernel
theorem dX11_count_86 : decode cX11_count 86 = .ok (.iaload, 1) := by decide +kernel
theorem dX11_count_87 : decode cX11_count 87 = .ok (.ireturn, 1) := by decide +kernel
theorem dX11_count_88 : decode cX11_count 88 = .ok (.aload_n 0, 1) := by decide +kernel
theorem dX11_count_89 : decode cX11_count 89 = .ok (.getfield 13, 3) := by decide +kernel
theorem dX11_count_92 : decode cX11_count 92 = .ok (.bipush 32, 2) := by decide +kernel
theorem dX11_count_94 : decode cX11_count 94 = .ok (.iaload, 1) := by decide +kernel
theorem dX11_count_95 : decode cX11_count 95 = .ok (.ireturn, 1) := by decide +kernel
theorem dX11_count_96 : decode cX11_count 96 = .ok (.aload_n 0, 1) := by decide +kernel
theorem dX11_count_97 : decode cX11_count 97 = .ok (.getfield 13, 3) := by decide +kernel
theorem dX11_count_100 : decode cX11_count 100 = .ok (.bipush 33, 2) := by decide +kernel
theorem dX11_count_102 : decode cX11_count 102 = .ok (.iaload, 1) := by decide +kernel
theorem dX11_count_103 : decode cX11_count 103 = .ok (.ireturn, 1) := by decide +kernel
theorem dX11_count_104 : decode cX11_count 104 = .ok (.aload_n 0, 1) := by decide +kernel
theorem dX11_count_105 : decode cX11_count 105 = .ok (.invokevirtual 197, 3) := by decide +kernel
theorem dX11_count_108 : decode cX11_count 108 = .ok (.ireturn, 1) := by decide +kernel
theorem dX11_count_109 : decode cX11_count 109 = .ok (.aload_n 0, 1) := by decide +kernel
theorem dX11_count_110 : decode cX11_count 110 = .ok (.getfield 13, 3) := by decide +kernel
theorem dX11_count_113 : decode cX11_count 113 = .ok (.bipush 34, 2) := by decide +kernel
theorem dX11_count_115 : decode cX11_count 115 = .ok (.iaload, 1) := by decide +kernel
theorem dX11_count_116 : decode cX11_count 116 = .ok (.ireturn, 1) := by decide +kernel
theorem dX11_count_117 : decode cX11_count 117 = .ok (.aload_n 0, 1) := by decide +kernel
theorem dX11_count_118 : decode cX11_count 118 = .ok (.getfield 127, 3) := by decide +kernel
theorem dX11_count_121 : decode cX11_count 121 = .ok (.ireturn, 1) := by decide +kernel
theorem dX11_count_122 : decode cX11_count 122 = .ok (.aload_n 0, 1) := by decide +kernel
theorem dX11_count_123 : decode cX11_count 123 = .ok (.getfield 130, 3) := by decide +kernel
theorem dX11_count_126 : decode cX11_count 126 = .ok (.ireturn, 1) := by decide +kernel
theorem dX11_count_127 : decode cX11_count 127 = .ok (.aload_n 0, 1) := by decide +kernel
theorem dX11_count_128 : decode cX11_count 128 = .ok (.getfield 55, 3) := by decide +kernel
theorem dX11_count_131 : decode cX11_count 131 = .ok (.ireturn, 1) := by decide +kernel
theorem dX11_count_132 : decode cX11_count 132 = .ok (.bipush (-3), 2) := by decide +kernel
theorem dX11_count_134 : decode cX11_count 134 = .ok (.ireturn, 1) := by decide +kernel
theorem dJ6_bitCount_0f7a4_0 : decode cJ6_bitCount_0f7a4 0 = .ok (.iload_n 0, 1) := by decide +kernel
theorem dJ6_bitCount_0f7a4_1 : decode cJ6_bitCount_0f7a4 1 = .ok (.iload_n 0, 1) := by decide +kernel
theorem dJ6_bitCount_0f7a4_2 : decode cJ6_bitCount_0f7a4 2 = .ok (.iconst 1, 1) := by decide +kernel
theorem dJ6_bitCount_0f7a4_3 : decode cJ6_bitCount_0f7a4 3 = .ok (.iushr, 1) := by decide +kernel
theorem dJ6_bitCount_0f7a4_4 : decode cJ6_bitCount_0f7a4 4 = .ok (.ldc_w 265, 3) := by decide +kernel
theorem dJ6_bitCount_0f7a4_7 : decode cJ6_bitCount_0f7a4 7 = .ok (.iand, 1) := by decide +kernel
theorem dJ6_bitCount_0f7a4_8 : decode cJ6_bitCount_0f7a4 8 = .ok (.isub, 1) := by decide +kernel
theorem dJ6_bitCount_0f7a4_9 : decode cJ6_bitCount_0f7a4 9 = .ok (.istore_n 0, 1) := by decide +kernel
theorem dJ6_bitCount_0f7a4_10 : decode cJ6_bitCount_0f7a4 10 = .ok (.iload_n 0, 1) := by decide +kernel
theorem dJ6_bitCount_0f7a4_11 : decode cJ6_bitCount_0f7a4 11 = .ok (.ldc_w 266, 3) := by decide +kernel
theorem dJ6_bitCount_0f7a4_14 : decode cJ6_bitCount_0f7a4 14 = .ok (.iand, 1) := by decide +kernel
theorem dJ6_bitCount_0f7a4_15 : decode cJ6_bitCount_0f7a4 15 = .ok (.iload_n 0, 1) := by decide +kernel
theorem dJ6_bitCount_0f7a4_16 : decode cJ6_bitCount_0f7a4 16 = .ok (.iconst 2, 1) := by decide +kernel
theorem dJ6_bitCount_0f7a4_17 : decode cJ6_bitCount_0f7a4 17 = .ok (.iushr, 1) := by decide +kernel
theorem dJ6_bitCount_0f7a4_18 : decode cJ6_bitCount_0f7a4 18 = .ok (.ldc_w 266, 3) := by decide +kernel
theorem dJ6_bitCount_0f7a4_21 : decode cJ6_bitCount_0f7a4 21 = .ok (.iand, 1) := by decide +kernel
theorem dJ6_bitCount_0f7a4_22 : decode cJ6_bitCount_0f7a4 22 = .ok (.iadd, 1) := by decide +kernel
theorem dJ6_bitCount_0f7a4_23 : decode cJ6_bitCount_0f7a4 23 = .ok (.istore_n 0, 1) := by decide +kernel
theorem dJ6_bitCount_0f7a4_24 : decode cJ6_bitCount_0f7a4 24 = .ok (.iload_n 0, 1) := by decide +kernel
theorem dJ6_bitCount_0f7a4_25 : decode cJ6_bitCount_0f7a4 25 = .ok (.iload_n 0, 1) := by decide +kernel
theorem dJ6_bitCount_0f7a4_26 : decode cJ6_bitCount_0f7a4 26 = .ok (.iconst 4, 1) := by decide +kernel
theorem dJ6_bitCount_0f7a4_27 : decode cJ6_bitCount_0f7a4 27 = .ok (.iushr, 1) := by decide +kernel
theorem dJ6_bitCount_0f7a4_28 : decode cJ6_bitCount_0f7a4 28 = .ok (.iadd, 1) := by decide +kernel
theorem dJ6_bitCount_0f7a4_29 : decode cJ6_bitCount_0f7a4 29 = .ok (.ldc_w 267, 3) := by decide +kernel
theorem dJ6_bitCount_0f7a4_32 : decode cJ6_bitCount_0f7a4 32 = .ok (.iand, 1) := by decide +kernel
theorem dJ6_bitCount_0f7a4_33 : decode cJ6_bitCount_0f7a4 33 = .ok (.istore_n 0, 1) := by decide +kernel
theorem dJ6_bitCount_0f7a4_34 : decode cJ6_bitCount_0f7a4 34 = .ok (.iload_n 0, 1) := by decide +kernel
theorem dJ6_bitCount_0f7a4_35 : decode cJ6_bitCount_0f7a4 35 = .ok (.iload_n 0, 1) := by decide +kernel
theorem dJ6_bitCount_0f7a4_36 : decode cJ6_bitCount_0f7a4 36 = .ok (.bipush 8, 2) := by decide +kernel
theorem dJ6_bitCount_0f7a4_38 : decode cJ6_bitCount_0f7a4 38 = .ok (.iushr, 1) := by decide +kernel
theorem dJ6_bitCount_0f7a4_39 : decode cJ6_bitCount_0f7a4 39 = .ok (.iadd, 1) := by decide +kernel
theorem dJ6_bitCount_0f7a4_40 : decode cJ6_bitCount_0f7a4 40 = .ok (.istore_n 0, 1) := by decide +kernel
theorem dJ6_bitCount_0f7a4_41 : decode cJ6_bitCount_0f7a4 41 = .ok (.iload_n 0, 1) := by decide +kernel
theorem dJ6_bitCount_0f7a4_42 : decode cJ6_bitCount_0f7a4 42 = .ok (.iload_n 0, 1) := by decide +kernel
theorem dJ6_bitCount_0f7a4_43 : decode cJ6_bitCount_0f7a4 43 = .ok (.bipush 16, 2) := by decide +kernel
theorem dJ6_bitCount_0f7a4_45 : decode cJ6_bitCount_0f7a4 45 = .ok (.iushr, 1) := by decide +kernel
theorem dJ6_bitCount_0f7a4_46 : decode cJ6_bitCount_0f7a4 46 = .ok (.iadd, 1) := by decide +kernel
theorem dJ6_bitCount_0f7a4_47 : decode cJ6_bitCount_0f7a4 47 = .ok (.istore_n 0, 1) := by decide +kernel
theorem dJ6_bitCount_0f7a4_48 : decode cJ6_bitCount_0f7a4 48 = .ok (.iload_n 0, 1) := by decide +kernel
theorem dJ6_bitCount_0f7a4_49 : decode cJ6_bitCount_0f7a4 49 = .ok (.bipush 63, 2) := by decide +kernel
theorem dJ6_bitCount_0f7a4_51 : decode cJ6_bitCount_0f7a4 51 = .ok (.iand, 1) := by decide +kernel
theorem dJ6_bitCount_0f7a4_52 : decode cJ6_bitCount_0f7a4 52 = .ok (.ireturn, 1) := by decide +kernel
theorem dJ9_max_7cf53_0 : decode cJ9_max_7cf53 0 = .ok (.iload_n 0, 1) := by decide +kernel
theorem dJ9_max_7cf53_1 : decode cJ9_max_7cf53 1 = .ok (.iload_n 1, 1) := by decide +kernel
theorem dJ9_max_7cf53_2 : decode cJ9_max_7cf53 2 = .ok (.if_icmp .lt 7, 3) := by decide +kernel
theorem dJ9_max_7cf53_5 : decode cJ9_max_7cf53 5 = .ok (.iload_n 0, 1) := by decide +kernel
theorem dJ9_max_7cf53_6 : decode cJ9_max_7cf53 6 = .ok (.goto 4, 3) := by decide +kernel
theorem dJ9_max_7cf53_9 : decode cJ9_max_7cf53 9 = .ok (.iload_n 1, 1) := by decide +kernel
theorem dJ9_max_7cf53_10 : decode cJ9_max_7cf53 10 = .ok (.ireturn, 1) := by decide +kernel
theorem dJ9_min_7cf53_0 : decode cJ9_min_7cf53 0 = .ok (.iload_n 0, 1) := by decide +kernel
theorem dJ9_min_7cf53_1 : decode cJ9_min_7cf53 1 = .ok (.iload_n 1, 1) := by decide +kernel
theorem dJ9_min_7cf53_2 : decode cJ9_min_7cf53 2 = .ok (.if_icmp .gt 7, 3) := by decide +kernel
theorem dJ9_min_7cf53_5 : decode cJ9_min_7cf53 5 = .ok (.iload_n 0, 1) := by decide +kernel
theorem dJ9_min_7cf53_6 : decode cJ9_min_7cf53 6 = .ok (.goto 4, 3) := by decide +kernel
theorem dJ9_min_7cf53_9 : decode cJ9_min_7cf53 9 = .ok (.iload_n 1, 1) := by decide +kernel
theorem dJ9_min_7cf53_10 : decode cJ9_min_7cf53 10 = .ok (.ireturn, 1) := by decide +kernel
theorem dJ0_length_8abf5_0 : decode cJ0_length_8abf5 0 = .ok (.aload_n 0, 1) := by decide +kernel
theorem dJ0_length_8abf5_1 : decode cJ0_length_8abf5 1 = .ok (.getfield 9, 3) := by decide +kernel
theorem dJ0_length_8abf5_4 : decode cJ0_length_8abf5 4 = .ok (.arraylength, 1) := by decide +kernel
theorem dJ0_length_8abf5_5 : decode cJ0_length_8abf5 5 = .ok (.aload_n 0, 1) := by decide +kernel
theorem dJ0_length_8abf5_6 : decode cJ0_length_8abf5 6 = .ok (.invokevirtual 335, 3) := by decide +kernel
theorem dJ0_length_8abf5_9 : decode cJ0_length_8abf5 9 = .ok (.ishr, 1) := by decide +kernel
theorem dJ0_length_8abf5_10 : decode cJ0_length_8abf5 10 = .ok (.ireturn, 1) := by decide +kernel
theorem dJ0_charAt_5068e_0 : decode cJ0_charAt_5068e 0 = .ok (.aload_n 0, 1) := by decide +kernel
theorem dJ0_charAt_5068e_1 : decode cJ0_charAt_5068e 1 = .ok (.invokevirtual 492, 3) := by decide +kernel
theorem dJ0_charAt_5068e_4 : decode cJ0_charAt_5068e 4 = .ok (.ifCond .eq 12, 3) := by decide +kernel
theorem dJ0_charAt_5068e_7 : decode cJ0_charAt_5068e 7 = .ok (.aload_n 0, 1) := by decide +kernel
theorem dJ0_charAt_5068e_8 : decode cJ0_charAt_5068e 8 = .ok (.getfield 9, 3) := by decide +kernel
theorem dJ0_charAt_5068e_11 : decode cJ0_charAt_5068e 11 = .ok (.iload_n 1, 1) := by decide +kernel
theorem dJ0_charAt_5068e_12 : decode cJ0_charAt_5068e 12 = .ok (.invokestatic 495, 3) := by decide +kernel
theorem dJ0_charAt_5068e_15 : decode cJ0_charAt_5068e 15 = .ok (.ireturn, 1) := by decide +kernel
theorem dJ0_charAt_5068e_16 : decode cJ0_charAt_5068e 16 = .ok (.aload_n 0, 1) := by decide +kernel
theorem dJ0_charAt_5068e_17 : decode cJ0_charAt_5068e 17 = .ok (.getfield 9, 3) := by decide +kernel
theorem dJ0_charAt_5068e_20 : decode cJ0_charAt_5068e 20 = .ok (.iload_n 1, 1) := by decide +kernel
theorem dJ0_charAt_5068e_21 : decode cJ0_charAt_5068e 21 = .ok (.invokestatic 498, 3) := by decide +kernel
theorem dJ0_charAt_5068e_24 : decode cJ0_charAt_5068e 24 = .ok (.ireturn, 1) := by decide +kernel
theorem dJ0_coder_7d493_0 : decode cJ0_coder_7d493 0 = .ok (.getstatic 38, 3) := by decide +kernel
theorem dJ0_coder_7d493_3 : decode cJ0_coder_7d493 3 = .ok (.ifCond .eq 10, 3) := by decide +kernel
theorem dJ0_coder_7d493_6 : decode cJ0_coder_7d493 6 = .ok (.aload_n 0, 1) := by decide +kernel
theorem dJ0_coder_7d493_7 : decode cJ0_coder_7d493 7 = .ok (.getfield 15, 3) := by decide +kernel
theorem dJ0_coder_7d493_10 : decode cJ0_coder_7d493 10 = .ok (.goto 4, 3) := by decide +kernel
theorem dJ0_coder_7d493_13 : decode cJ0_coder_7d493 13 = .ok (.iconst 1, 1) := by decide +kernel
theorem dJ0_coder_7d493_14 : decode cJ0_coder_7d493 14 = .ok (.ireturn, 1) := by decide +kernel
theorem dJ0_isLatin1_aae02_0 : decode cJ0_isLatin1_aae02 0 = .ok (.getstatic 38, 3) := by decide +kernel
theorem dJ0_isLatin1_aae02_3 : decode cJ0_isLatin1_aae02 3 = .ok (.ifCond .eq 14, 3) := by decide +kernel
theorem dJ0_isLatin1_aae02_6 : decode cJ0_isLatin1_aae02 6 = .ok (.aload_n 0, 1) := by decide +kernel
theorem dJ0_isLatin1_aae02_7 : decode cJ0_isLatin1_aae02 7 = .ok (.getfield 15, 3) := by decide +kernel
theorem dJ0_isLatin1_aae02_10 : decode cJ0_isLatin1_aae02 10 = .ok (.ifCond .ne 7, 3) := by decide +kernel
theorem dJ0_isLatin1_aae02_13 : decode cJ0_isLatin1_aae02 13 = .ok (.iconst 1, 1) := by decide +kernel
theorem dJ0_isLatin1_aae02_14 : decode cJ0_isLatin1_aae02 14 = .ok (.goto 4, 3) := by decide +kernel
theorem dJ0_isLatin1_aae02_17 : decode cJ0_isLatin1_aae02 17 = .ok (.iconst 0, 1) := by decide +kernel
theorem dJ0_isLatin1_aae02_18 : decode cJ0_isLatin1_aae02 18 = .ok (.ireturn, 1) := by decide +kernel
theorem dJ0_checkIndex_df160_0 : decode cJ0_checkIndex_df160 0 = .ok (.iload_n 0, 1) := by decide +kernel
theorem dJ0_checkIndex_df160_1 : decode cJ0_checkIndex_df160 1 = .ok (.iload_n 1, 1) := by decide +kernel
theorem dJ0_checkIndex_df160_2 : decode cJ0_checkIndex_df160 2 = .ok (.getstatic 1053, 3) := by decide +kernel
theorem dJ0_checkIndex_df160_5 : decode cJ0_checkIndex_df160 5 = .ok (.invokestatic 1059, 3) := by decide +kernel
theorem dJ0_checkIndex_df160_8 : decode cJ0_checkIndex_df160 8 = .ok (.pop, 1) := by decide +kernel
theorem dJ0_checkIndex_df160_9 : decode cJ0_checkIndex_df160 9 = .ok (.return_, 1) := by decide +kernel
theorem dJ1_charAt_3b067_0 : decode cJ1_charAt_3b067 0 = .ok (.iload_n 1, 1) := by decide +kernel
theorem dJ1_charAt_3b067_1 : decode cJ1_charAt_3b067 1 = .ok (.aload_n 0, 1) := by decide +kernel
theorem dJ1_charAt_3b067_2 : decode cJ1_charAt_3b067 2 = .ok (.arraylength, 1) := by decide +kernel
theorem dJ1_charAt_3b067_3 : decode cJ1_charAt_3b067 3 = .ok (.invokestatic 9, 3) := by decide +kernel
theorem dJ1_charAt_3b067_6 : decode cJ1_charAt_3b067 6 = .ok (.aload_n 0, 1) := by decide +kernel
theorem dJ1_charAt_3b067_7 : decode cJ1_charAt_3b067 7 = .ok (.iload_n 1, 1) := by decide +kernel
theorem dJ1_charAt_3b067_8 : decode cJ1_charAt_3b067 8 = .ok (.baload, 1) := by decide +kernel
theorem dJ1_charAt_3b067_9 : decode cJ1_charAt_3b067 9 = .ok (.sipush 255, 3) := by decide +kernel
theorem dJ1_charAt_3b067_12 : decode cJ1_charAt_3b067 12 = .ok (.iand, 1) := by decide +kernel
theorem dJ1_charAt_3b067_13 : decode cJ1_charAt_3b067 13 = .ok (.i2c, 1) := by decide +kernel
theorem dJ1_charAt_3b067_14 : decode cJ1_charAt_3b067 14 = .ok (.ireturn, 1) := by decide +kernel
theorem dJ2_getChar_3b067_0 : decode cJ2_getChar_3b067 0 = .ok (.getstatic 44, 3) := by decide +kernel
theorem dJ2_getChar_3b067_3 : decode cJ2_getChar_3b067 3 = .ok (.ifCond .ne 25, 3) := by decide +kernel
theorem dJ2_getChar_3b067_6 : decode cJ2_getChar_3b067 6 = .ok (.iload_n 1, 1) := by decide +kernel
theorem dJ2_getChar_3b067_7 : decode cJ2_getChar_3b067 7 = .ok (.ifCond .lt 11, 3) := by decide +kernel
theorem dJ2_getChar_3b067_10 : decode cJ2_getChar_3b067 10 = .ok (.iload_n 1, 1) := by decide +kernel
theorem dJ2_getChar_3b067_11 : decode cJ2_getChar_3b067 11 = .ok (.aload_n 0, 1) := by decide +kernel
theorem dJ2_getChar_3b067_12 : decode cJ2_getChar_3b067 12 = .ok (.invokestatic 48, 3) := by decide +kernel
theorem dJ2_getChar_3b067_15 : decode cJ2_getChar_3b067 15 = .ok (.if_icmp .lt 13, 3) := by decide +kernel
theorem dJ2_getChar_3b067_18 : decode cJ2_getChar_3b067 18 = .ok (.new 52, 3) := by decide +kernel
theorem dJ2_getChar_3b067_21 : decode cJ2_getChar_3b067 21 = .ok (.dup, 1) := by decide +kernel
theorem dJ2_getChar_3b067_22 : decode cJ2_getChar_3b067 22 = .ok (.ldc 54, 2) := by decide +kernel
theorem dJ2_getChar_3b067_24 : decode cJ2_getChar_3b067 24 = .ok (.invokespecial 56, 3) := by decide +kernel
theorem dJ2_getChar_3b067_27 : decode cJ2_getChar_3b067 27 = .ok (.athrow, 1) := by decide +kernel
theorem dJ2_getChar_3b067_28 : decode cJ2_getChar_3b067 28 = .ok (.iload_n 1, 1) := by decide +kernel
theorem dJ2_getChar_3b067_29 : decode cJ2_getChar_3b067 29 = .ok (.iconst 1, 1) := by decide +kernel
theorem dJ2_getChar_3b067_30 : decode cJ2_getChar_3b067 30 = .ok (.ishl, 1) := by decide +kernel
theorem dJ2_getChar_3b067_31 : decode cJ2_getChar_3b067 31 = .ok (.istore_n 1, 1) := by decide +kernel
theorem dJ2_getChar_3b067_32 : decode cJ2_getChar_3b067 32 = .ok (.aload_n 0, 1) := by decide +kernel
theorem dJ2_getChar_3b067_33 : decode cJ2_getChar_3b067 33 = .ok (.iload_n 1, 1) := by decide +kernel
theorem dJ2_getChar_3b067_34 : decode cJ2_getChar_3b067 34 = .ok (.iinc 1 1, 3) := by decide +kernel
theorem dJ2_getChar_3b067_37 : decode cJ2_getChar_3b067 37 = .ok (.baload, 1) := by decide +kernel
theorem dJ2_getChar_3b067_38 : decode cJ2_getChar_3b067 38 = .ok (.sipush 255, 3) := by decide +kernel
theorem dJ2_getChar_3b067_41 : decode cJ2_getChar_3b067 41 = .ok (.iand, 1) := by decide +kernel
theorem dJ2_getChar_3b067_42 : decode cJ2_getChar_3b067 42 = .ok (.getstatic 59, 3) := by decide +kernel
theorem dJ2_getChar_3b067_45 : decode cJ2_getChar_3b067 45 = .ok (.ishl, 1) := by decide +kernel
theorem dJ2_getChar_3b067_46 : decode cJ2_getChar_3b067 46 = .ok (.aload_n 0, 1) := by decide +kernel
theorem dJ2_getChar_3b067_47 : decode cJ2_getChar_3b067 47 = .ok (.iload_n 1, 1) := by decide +kernel
theorem dJ2_getChar_3b067_48 : decode cJ2_getChar_3b067 48 = .ok (.baload, 1) := by decide +kernel
theorem dJ2_getChar_3b067_49 : decode cJ2_getChar_3b067 49 = .ok (.sipush 255, 3) := by decide +kernel
theorem dJ2_getChar_3b067_52 : decode cJ2_getChar_3b067 52 = .ok (.iand, 1) := by decide +kernel
theorem dJ2_getChar_3b067_53 : decode cJ2_getChar_3b067 53 = .ok (.getstatic 63, 3) := by decide +kernel
theorem dJ2_getChar_3b067_56 : decode cJ2_getChar_3b067 56 = .ok (.ishl, 1) := by decide +kernel
theorem dJ2_getChar_3b067_57 : decode cJ2_getChar_3b067 57 = .ok (.ior, 1) := by decide +kernel
theorem dJ2_getChar_3b067_58 : decode cJ2_getChar_3b067 58 = .ok (.i2c, 1) := by decide +kernel
theorem dJ2_getChar_3b067_59 : decode cJ2_getChar_3b067 59 = .ok (.ireturn, 1) := by decide +kernel
theorem dJ2_length_9d52b_0 : decode cJ2_length_9d52b 0 = .ok (.aload_n 0, 1) := by decide +kernel
theorem dJ2_length_9d52b_1 : decode cJ2_length_9d52b 1 = .ok (.arraylength, 1) := by decide +kernel
theorem dJ2_length_9d52b_2 : decode cJ2_length_9d52b 2 = .ok (.iconst 1, 1) := by decide +kernel
theorem dJ2_length_9d52b_3 : decode cJ2_length_9d52b 3 = .ok (.ishr, 1) := by decide +kernel
theorem dJ2_length_9d52b_4 : decode cJ2_length_9d52b 4 = .ok (.ireturn, 1) := by decide +kernel
theorem dJ2_charAt_3b067_0 : decode cJ2_charAt_3b067 0 = .ok (.iload_n 1, 1) := by decide +kernel
theorem dJ2_charAt_3b067_1 : decode cJ2_charAt_3b067 1 = .ok (.aload_n 0, 1) := by decide +kernel
theorem dJ2_charAt_3b067_2 : decode cJ2_charAt_3b067 2 = .ok (.invokestatic 67, 3) := by decide +kernel
theorem dJ2_charAt_3b067_5 : decode cJ2_charAt_3b067 5 = .ok (.aload_n 0, 1) := by decide +kernel
theorem dJ2_charAt_3b067_6 : decode cJ2_charAt_3b067 6 = .ok (.iload_n 1, 1) := by decide +kernel
theorem dJ2_charAt_3b067_7 : decode cJ2_charAt_3b067 7 = .ok (.invokestatic 71, 3) := by decide +kernel
theorem dJ2_charAt_3b067_10 : decode cJ2_charAt_3b067 10 = .ok (.ireturn, 1) := by decide +kernel
theorem dJ2_checkIndex_2214a_0 : decode cJ2_checkIndex_2214a 0 = .ok (.iload_n 0, 1) := by decide +kernel
theorem dJ2_checkIndex_2214a_1 : decode cJ2_checkIndex_2214a 1 = .ok (.aload_n 1, 1) := by decide +kernel
theorem dJ2_checkIndex_2214a_2 : decode cJ2_checkIndex_2214a 2 = .ok (.invokestatic 48, 3) := by decide +kernel
theorem dJ2_checkIndex_2214a_5 : decode cJ2_checkIndex_2214a 5 = .ok (.invokestatic 414, 3) := by decide +kernel
theorem dJ2_checkIndex_2214a_8 : decode cJ2_checkIndex_2214a 8 = .ok (.return_, 1) := by decide +kernel
theorem dJ3_checkIndex_8e157_0 : decode cJ3_checkIndex_8e157 0 = .ok (.iload_n 0, 1) := by decide +kernel
theorem dJ3_checkIndex_8e157_1 : decode cJ3_checkIndex_8e157 1 = .ok (.ifCond .lt 8, 3) := by decide +kernel
theorem dJ3_checkIndex_8e157_4 : decode cJ3_checkIndex_8e157 4 = .ok (.iload_n 0, 1) := by decide +kernel
theorem dJ3_checkIndex_8e157_5 : decode cJ3_checkIndex_8e157 5 = .ok (.iload_n 1, 1) := by decide +kernel
theorem dJ3_checkIndex_8e157_6 : decode cJ3_checkIndex_8e157 6 = .ok (.if_icmp .lt 10, 3) := by decide +kernel
theorem dJ3_checkIndex_8e157_9 : decode cJ3_checkIndex_8e157 9 = .ok (.aload_n 2, 1) := by decide +kernel
theorem dJ3_checkIndex_8e157_10 : decode cJ3_checkIndex_8e157 10 = .ok (.iload_n 0, 1) := by decide +kernel
theorem dJ3_checkIndex_8e157_11 : decode cJ3_checkIndex_8e157 11 = .ok (.iload_n 1, 1) := by decide +kernel
theorem dJ3_checkIndex_8e157_12 : decode cJ3_checkIndex_8e157 12 = .ok (.invokestatic 95, 3) := by decide +kernel
theorem dJ3_checkIndex_8e157_15 : decode cJ3_checkIndex_8e157 15 = .ok (.athrow, 1) := by decide +kernel
theorem dJ3_checkIndex_8e157_16 : decode cJ3_checkIndex_8e157 16 = .ok (.iload_n 0, 1) := by decide +kernel
theorem dJ3_checkIndex_8e157_17 : decode cJ3_checkIndex_8e157 17 = .ok (.ireturn, 1) := by decide +kernel
theorem dL_law_0 : decode cL_law 0 = .ok (.new 7, 3) := by decide +kernel
theorem dL_law_3 : decode cL_law 3 = .ok (.dup, 1) := by decide +kernel
theorem dL_law_4 : decode cL_law 4 = .ok (.invokespecial 9, 3) := by decide +kernel
theorem dL_law_7 : decode cL_law 7 = .ok (.astore_n 1, 1) := by decide +kernel
theorem dL_law_8 : decode cL_law 8 = .ok (.new 10, 3) := by decide +kernel
theorem dL_law_11 : decode cL_law 11 = .ok (.dup, 1) := by decide +kernel
theorem dL_law_12 : decode cL_law 12 = .ok (.invokespecial 12, 3) := by decide +kernel
theorem dL_law_15 : decode cL_law 15 = .ok (.astore_n 2, 1) := by decide +kernel
theorem dL_law_16 : decode cL_law 16 = .ok (.iconst 0, 1) := by decide +kernel
theorem dL_law_17 : decode cL_law 17 = .ok (.istore_n 3, 1) := by decide +kernel
theorem dL_law_18 : decode cL_law 18 = .ok (.iload_n 3, 1) := by decide +kernel
theorem dL_law_19 : decode cL_law 19 = .ok (.aload_n 0, 1) := by decide +kernel
theorem dL_law_20 : decode cL_law 20 = .ok (.arraylength, 1) := by decide +kernel
theorem dL_law_21 : decode cL_law 21 = .ok (.iconst 5, 1) := by decide +kernel
theorem dL_law_22 : decode cL_law 22 = .ok (.isub, 1) := by decide +kernel
theorem dL_law_23 : decode cL_law 23 = .ok (.if_icmp .gt 817, 3) := by decide +kernel
theorem dL_law_26 : decode cL_law 26 = .ok (.aload_n 0, 1) := by decide +kernel
theorem dL_law_27 : decode cL_law 27 = .ok (.iload_n 3, 1) := by decide +kernel
theorem dL_law_28 : decode cL_law 28 = .ok (.iaload, 1) := by decide +kernel
theorem dL_law_29 : decode cL_law 29 = .ok (.bipush 31, 2) := by decide +kernel
theorem dL_law_31 : decode cL_law 31 = .ok (.iand, 1) := by decide +kernel
theorem dL_law_32 : decode cL_law 32 = .ok (.tableswitch 802 0 27 #[128, 151, 164, 177, 190, 223, 256, 289, 312, 335, 358, 381, 404, 417, 440, 463, 486, 509, 522, 545, 578, 601, 634, 657, 690, 703, 726, 779], 128) := by decide +kernel
theorem dL_law_160 : decode cL_law 160 = .ok (.aload_n 1, 1) := by decide +kernel
theorem dL_law_161 : decode cL_law 161 = .ok (.aload_n 0, 1) := by decide +kernel
theorem dL_law_162 : decode cL_law 162 = .ok (.iload_n 3, 1) := by decide +kernel
theorem dL_law_163 : decode cL_law 163 = .ok (.iconst 1, 1) := by decide +kernel
theorem dL_law_164 : decode cL_law 164 = .ok (.iadd, 1) := by decide +kernel
theorem dL_law_165 : decode cL_law 165 = .ok (.iaload, 1) := by decide +kernel
theorem dL_law_166 : decode cL_law 166 = .ok (.invokevirtual 13, 3) := by decide +kernel
theorem dL_law_169 : decode cL_law 169 = .ok (.aload_n 2, 1) := by decide +kernel
theorem dL_law_170 : decode cL_law 170 = .ok (.aload_n 0, 1) := by decide +kernel
theorem dL_law_171 : decode cL_law 171 = .ok (.iload_n 3, 1) := by decide +kernel
theorem dL_law_172 : decode cL_law 172 = .ok (.iconst 1, 1) := by decide +kernel
theorem dL_law_173 : decode cL_law 173 = .ok (.iadd, 1) := by decide +kernel
theorem dL_law_174 : decode cL_law 174 = .ok (.iaload, 1) := by decide +kernel
theorem dL_law_175 : decode cL_law 175 = .ok (.invokevirtual 17, 3) := by decide +kernel
theorem dL_law_178 : decode cL_law 178 = .ok (.if_icmp .eq 656, 3) := by decide +kernel
theorem dL_law_181 : decode cL_law 181 = .ok (.iconst 0, 1) := by decide +kernel
theorem dL_law_182 : decode cL_law 182 = .ok (.ireturn, 1) := by decide +kernel
theorem dL_law_183 : decode cL_law 183 = .ok (.aload_n 1, 1) := by decide +kernel
theorem dL_law_184 : decode cL_law 184 = .ok (.invokevirtual 18, 3) := by decide +kernel
theorem dL_law_187 : decode cL_law 187 = .ok (.aload_n 2, 1) := by decide +kernel
theorem dL_law_188 : decode cL_law 188 = .ok (.invokevirtual 22, 3) := by decide +kernel
theorem dL_law_191 : decode cL_law 191 = .ok (.if_icmp .eq 643, 3) := by decide +kernel
theorem dL_law_194 : decode cL_law 194 = .ok (.iconst 0, 1) := by decide +kernel
theorem dL_law_195 : decode cL_law 195 = .ok (.ireturn, 1) := by decide +kernel
theorem dL_law_196 : decode cL_law 196 = .ok (.aload_n 1, 1) := by decide +kernel
theorem dL_law_197 : decode cL_law 197 = .ok (.invokevirtual 23, 3) := by decide +kernel
theorem dL_law_200 : decode cL_law 200 = .ok (.aload_n 2, 1) := by decide +kernel
theorem dL_law_201 : decode cL_law 201 = .ok (.invokevirtual 26, 3) := by decide +kernel
theorem dL_law_204 : decode cL_law 204 = .ok (.if_icmp .eq 630, 3) := by decide +kernel
theorem dL_law_207 : decode cL_law 207 = .ok (.iconst 0, 1) := by decide +kernel
theorem dL_law_208 : decode cL_law 208 = .ok (.ireturn, 1) := by decide +kernel
theorem dL_law_209 : decode cL_law 209 = .ok (.aload_n 1, 1) := by decide +kernel
theorem dL_law_210 : decode cL_law 210 = .ok (.invokevirtual 27, 3) := by decide +kernel
theorem dL_law_213 : decode cL_law 213 = .ok (.aload_n 2, 1) := by decide +kernel
theorem dL_law_214 : decode cL_law 214 = .ok (.invokevirtual 30, 3) := by decide +kernel
theorem dL_law_217 : decode cL_law 217 = .ok (.if_icmp .eq 617, 3) := by decide +kernel
theorem dL_law_220 : decode cL_law 220 = .ok (.iconst 0, 1) := by decide +kernel
theorem dL_law_221 : decode cL_law 221 = .ok (.ireturn, 1) := by decide +kernel
theorem dL_law_222 : decode cL_law 222 = .ok (.aload_n 1, 1) := by decide +kernel
theorem dL_law_223 : decode cL_law 223 = .ok (.aload_n 0, 1) := by decide +kernel
theorem dL_law_224 : decode cL_law 224 = .ok (.iload_n 3, 1) := by decide +kernel
theorem dL_law_225 : decode cL_law 225 = .ok (.iconst 1, 1) := by decide +kernel
theorem dL_law_226 : decode cL_law 226 = .ok (.iadd, 1) := by decide +kernel
theorem dL_law_227 : decode cL_law 227 = .ok (.iaload, 1) := by decide +kernel
theorem dL_law_228 : decode cL_law 228 = .ok (.aload_n 0, 1) := by decide +kernel
theorem dL_law_229 : decode cL_law 229 = .ok (.iload_n 3, 1) := by decide +kernel
theorem dL_law_230 : decode cL_law 230 = .ok (.iconst 2, 1) := by decide +kernel
theorem dL_law_231 : decode cL_law 231 = .ok (.iadd, 1) := by decide +kernel
theorem dL_law_232 : decode cL_law 232 = .ok (.iaload, 1) := by decide +kernel
theorem dL_law_233 : decode cL_law 233 = .ok (.invokevirtual 31, 3) := by decide +kernel
theorem dL_law_236 : decode cL_law 236 = .ok (.aload_n 2, 1) := by decide +kernel
theorem dL_law_237 : decode cL_law 237 = .ok (.aload_n 0, 1) := by decide +kernel
theorem dL_law_238 : decode cL_law 238 = .ok (.iload_n 3, 1) := by decide +kernel
theorem dL_law_239 : decode cL_law 239 = .ok (.iconst 1, 1) := by decide +kernel
theorem dL_law_240 : decode cL_law 240 = .ok (.iadd, 1) := by decide +kernel
theorem dL_law_241 : decode cL_law 241 = .ok (.iaload, 1) := by decide +kernel
theorem dL_law_242 : decode cL_law 242 = .ok (.aload_n 0, 1) := by decide +kernel
theorem dL_law_243 : decode cL_law 243 = .ok (.iload_n 3, 1) := by decide +kernel
theorem dL_law_244 : decode cL_law 244 = .ok (.iconst 2, 1) := by decide +kernel
theorem dL_law_245 : decode cL_law 245 = .ok (.iadd, 1) := by decide +kernel
theorem dL_law_246 : decode cL_law 246 = .ok (.iaload, 1) := by decide +kernel
theorem dL_law_247 : decode cL_law 247 = .ok (.invokevirtual 35, 3) := by decide +kernel
theorem dL_law_250 : decode cL_law 250 = .ok (.if_icmp .eq 584, 3) := by decide +kernel
theorem dL_law_253 : decode cL_law 253 = .ok (.iconst 0, 1) := by decide +kernel
theorem dL_law_254 : decode cL_law 254 = .ok (.ireturn, 1) := by decide +kernel
theorem dL_law_255 : decode cL_law 255 = .ok (.aload_n 1, 1) := by decide +kernel
theorem dL_law_256 : decode cL_law 256 = .ok (.aload_n 0, 1) := by decide +kernel
theorem dL_law_257 : decode cL_law 257 = .ok (.iload_n 3, 1) := by decide +kernel
theorem dL_law_258 : decode cL_law 258 = .ok (.iconst 1, 1) := by decide +kernel
theorem dL_law_259 : decode cL_law 259 = .ok (.iadd, 1) := by decide +kernel
theorem dL_law_260 : decode cL_law 260 = .ok (.iaload, 1) := by decide +kernel
theorem dL_law_261 : decode cL_law 261 = .ok (.aload_n 0, 1) := by decide +kernel
theorem dL_law_262 : decode cL_law 262 = .ok (.iload_n 3, 1) := by decide +kernel
theorem dL_law_263 : decode cL_law 263 = .ok (.iconst 2, 1) := by decide +kernel
theorem dL_law_264 : decode cL_law 264 = .ok (.iadd, 1) := by decide +kernel
theorem dL_law_265 : decode cL_law 265 = .ok (.iaload, 1) := by decide +kernel
theorem dL_law_266 : decode cL_law 266 = .ok (.invokevirtual 36, 3) := by decide +kernel
theorem dL_law_269 : decode cL_law 269 = .ok (.aload_n 2, 1) := by decide +kernel
theorem dL_law_270 : decode cL_law 270 = .ok (.aload_n 0, 1) := by decide +kernel
theorem dL_law_271 : decode cL_law 271 = .ok (.iload_n 3, 1) := by decide +kernel
theorem dL_law_272 : decode cL_law 272 = .ok (.iconst 1, 1) := by decide +kernel
theorem dL_law_273 : decode cL_law 273 = .ok (.iadd, 1) := by decide +kernel
theorem dL_law_274 : decode cL_law 274 = .ok (.iaload, 1) := by decide +kernel
theorem dL_law_275 : decode cL_law 275 = .ok (.aload_n 0, 1) := by decide +kernel
theorem dL_law_276 : decode cL_law 276 = .ok (.iload_n 3, 1) := by decide +kernel
theorem dL_law_277 : decode cL_law 277 = .ok (.iconst 2, 1) := by decide +kernel
theorem dL_law_278 : decode cL_law 278 = .ok (.iadd, 1) := by decide +kernel
theorem dL_law_279 : decode cL_law 279 = .ok (.iaload, 1) := by decide +kernel
theorem dL_law_280 : decode cL_law 280 = .ok (.invokevirtual 39, 3) := by decide +kernel
theorem dL_law_283 : decode cL_law 283 = .ok (.if_icmp .eq 551, 3) := by decide +kernel
theorem dL_law_286 : decode cL_law 286 = .ok (.iconst 0, 1) := by decide +kernel
theorem dL_law_287 : decode cL_law 287 = .ok (.ireturn, 1) := by decide +kernel
theorem dL_law_288 : decode cL_law 288 = .ok (.aload_n 1, 1) := by decide +kernel
theorem dL_law_289 : decode cL_law 289 = .ok (.aload_n 0, 1) := by decide +kernel
theorem dL_law_290 : decode cL_law 290 = .ok (.iload_n 3, 1) := by decide +kernel
theorem dL_law_291 : decode cL_law 291 = .ok (.iconst 1, 1) := by decide +kernel
theorem dL_law_292 : decode cL_law 292 = .ok (.iadd, 1) := by decide +kernel
theorem dL_law_293 : decode cL_law 293 = .ok (.iaload, 1) := by decide +kernel
theorem dL_law_294 : decode cL_law 294 = .ok (.aload_n 0, 1) := by decide +kernel
theorem dL_law_295 : decode cL_law 295 = .ok (.iload_n 3, 1) := by decide +kernel
theorem dL_law_296 : decode cL_law 296 = .ok (.iconst 2, 1) := by decide +kernel
theorem dL_law_297 : decode cL_law 297 = .ok (.iadd, 1) := by decide +kernel
theorem dL_law_298 : decode cL_law 298 = .ok (.iaload, 1) := by decide +kernel
theorem dL_law_299 : decode cL_law 299 = .ok (.invokevirtual 40, 3) := by decide +kernel
theorem dL_law_302 : decode cL_law 302 = .ok (.aload_n 2, 1) := by decide +kernel
theorem dL_law_303 : decode cL_law 303 = .ok (.aload_n 0, 1) := by decide +kernel
theorem dL_law_304 : decode cL_law 304 = .ok (.iload_n 3, 1) := by decide +kernel
theorem dL_law_305 : decode cL_law 305 = .ok (.iconst 1, 1) := by decide +kernel
theorem dL_law_306 : decode cL_law 306 = .ok (.iadd, 1) := by decide +kernel
theorem dL_law_307 : decode cL_law 307 = .ok (.iaload, 1) := by decide +kernel
theorem dL_law_308 : decode cL_law 308 = .ok (.aload_n 0, 1) := by decide +kernel
theorem dL_law_309 : decode cL_law 309 = .ok (.iload_n 3, 1) := by decide +kernel
theorem dL_law_310 : decode cL_law 310 = .ok (.iconst 2, 1) := by decide +kernel
theorem dL_law_311 : decode cL_law 311 = .ok (.iadd, 1) := by decide +kernel
theorem dL_law_312 : decode cL_law 312 = .ok (.iaload, 1) := by decide +kernel
theorem dL_law_313 : decode cL_law 313 = .ok (.invokevirtual 43, 3) := by decide +kernel
theorem dL_law_316 : decode cL_law 316 = .ok (.if_icmp .eq 518, 3) := by decide +kernel
theorem dL_law_319 : decode cL_law 319 = .ok (.iconst 0, 1) := by decide +kernel
theorem dL_law_320 : decode cL_law 320 = .ok (.ireturn, 1) := by decide +kernel
theorem dL_law_321 : decode cL_law 321 = .ok (.aload_n 1, 1) := by decide +kernel
theorem dL_law_322 : decode cL_law 322 = .ok (.aload_n 0, 1) := by decide +kernel
theorem dL_law_323 : decode cL_law 323 = .ok (.iload_n 3, 1) := by decide +kernel
theorem dL_law_324 : decode cL_law 324 = .ok (.iconst 1, 1) := by decide +kernel
theorem dL_law_325 : decode cL_law 325 = .ok (.iadd, 1) := by decide +kernel
theorem dL_law_326 : decode cL_law 326 = .ok (.iaload, 1) := by decide +kernel
theorem dL_law_327 : decode cL_law 327 = .ok (.invokevirtual 44, 3) := by decide +kernel
theorem dL_law_330 : decode cL_law 330 = .ok (.aload_n 2, 1) := by decide +kernel
theorem dL_law_331 : decode cL_law 331 = .ok (.aload_n 0, 1) := by decide +kernel
theorem dL_law_332 : decode cL_law 332 = .ok (.iload_n 3, 1) := by decide +kernel
theorem dL_law_333 : decode cL_law 333 = .ok (.iconst 1, 1) := by decide +kernel
theorem dL_law_334 : decode cL_law 334 = .ok (.iadd, 1) := by decide +kernel
theorem dL_law_335 : decode cL_law 335 = .ok (.iaload, 1) := by decide +kernel
theorem dL_law_336 : decode cL_law 336 = .ok (.invokevirtual 47, 3) := by decide +kernel
theorem dL_law_339 : decode cL_law 339 = .ok (.if_icmp .eq 495, 3) := by decide +kernel
theorem dL_law_342 : decode cL_law 342 = .ok (.iconst 0, 1) := by decide +kernel
theorem dL_law_343 : decode cL_law 343 = .ok (.ireturn, 1) := by decide +kernel
theorem dL_law_344 : decode cL_law 344 = .ok (.aload_n 1, 1) := by decide +kernel
theorem dL_law_345 : decode cL_law 345 = .ok (.aload_n 0, 1) := by decide +kernel
theorem dL_law_346 : decode cL_law 346 = .ok (.iload_n 3, 1) := by decide +kernel
theorem dL_law_347 : decode cL_law 347 = .ok (.iconst 1, 1) := by decide +kernel
theorem dL_law_348 : decode cL_law 348 = .ok (.iadd, 1) := by decide +kernel
theorem dL_law_349 : decode cL_law 349 = .ok (.iaload, 1) := by decide +kernel
theorem dL_law_350 : decode cL_law 350 = .ok (.invokevirtual 48, 3) := by decide +kernel
theorem dL_law_353 : decode cL_law 353 = .ok (.aload_n 2, 1) := by decide +kernel
theorem dL_law_354 : decode cL_law 354 = .ok (.aload_n 0, 1) := by decide +kernel
theorem dL_law_355 : decode cL_law 355 = .ok (.iload_n 3, 1) := by decide +kernel
theorem dL_law_356 : decode cL_law 356 = .ok (.iconst 1, 1) := by decide +kernel
theorem dL_law_357 : decode cL_law 357 = .ok (.iadd, 1) := by decide +kernel
theorem dL_law_358 : decode cL_law 358 = .ok (.iaload, 1) := by decide +kernel
theorem dL_law_359 : decode cL_law 359 = .ok (.invokevirtual 51, 3) := by decide +kernel
theorem dL_law_362 : decode cL_law 362 = .ok (.if_icmp .eq 472, 3) := by decide +kernel
theorem dL_law_365 : decode cL_law 365 = .ok (.iconst 0, 1) := by decide +kernel
theorem dL_law_366 : decode cL_law 366 = .ok (.ireturn, 1) := by decide +kernel
theorem dL_law_367 : decode cL_law 367 = .ok (.aload_n 1, 1) := by decide +kernel
theorem dL_law_368 : decode cL_law 368 = .ok (.aload_n 0, 1) := by decide +kernel
theorem dL_law_369 : decode cL_law 369 = .ok (.iload_n 3, 1) := by decide +kernel
theorem dL_law_370 : decode cL_law 370 = .ok (.iconst 1, 1) := by decide +kernel
theorem dL_law_371 : decode cL_law 371 = .ok (.iadd, 1) := by decide +kernel
theorem dL_law_372 : decode cL_law 372 = .ok (.iaload, 1) := by decide +kernel
theorem dL_law_373 : decode cL_law 373 = .ok (.invokevirtual 52, 3) := by decide +kernel
theorem dL_law_376 : decode cL_law 376 = .ok (.aload_n 2, 1) := by decide +kernel
theorem dL_law_377 : decode cL_law 377 = .ok (.aload_n 0, 1) := by decide +kernel
theorem dL_law_378 : decode cL_law 378 = .ok (.iload_n 3, 1) := by decide +kernel
theorem dL_law_379 : decode cL_law 379 = .ok (.iconst 1, 1) := by decide +kernel
theorem dL_law_380 : decode cL_law 380 = .ok (.iadd, 1) := by decide +kernel
theorem dL_law_381 : decode cL_law 381 = .ok (.iaload, 1) := by decide +kernel
theorem dL_law_382 : decode cL_law 382 = .ok (.invokevirtual 55, 3) := by decide +kernel
theorem dL_law_385 : decode cL_law 385 = .ok (.if_icmp .eq 449, 3) := by decide +kernel
theorem dL_law_388 : decode cL_law 388 = .ok (.iconst 0, 1) := by decide +kernel
theorem dL_law_389 : decode cL_law 389 = .ok (.ireturn, 1) := by decide +kernel
theorem dL_law_390 : decode cL_law 390 = .ok (.aload_n 1, 1) := by decide +kernel
theorem dL_law_391 : decode cL_law 391 = .ok (.aload_n 0, 1) := by decide +kernel
theorem dL_law_392 : decode cL_law 392 = .ok (.iload_n 3, 1) := by decide +kernel
theorem dL_law_393 : decode cL_law 393 = .ok (.iconst 1, 1) := by decide +kernel
theorem dL_law_394 : decode cL_law 394 = .ok (.iadd, 1) := by decide +kernel
theorem dL_law_395 : decode cL_law 395 = .ok (.iaload, 1) := by decide +kernel
theorem dL_law_396 : decode cL_law 396 = .ok (.invokevirtual 56, 3) := by decide +kernel
theorem dL_law_399 : decode cL_law 399 = .ok (.aload_n 2, 1) := by decide +kernel
theorem dL_law_400 : decode cL_law 400 = .ok (.aload_n 0, 1) := by decide +kernel
theorem dL_law_401 : decode cL_law 401 = .ok (.iload_n 3, 1) := by decide +kernel
theorem dL_law_402 : decode cL_law 402 = .ok (.iconst 1, 1) := by decide +kernel
theorem dL_law_403 : decode cL_law 403 = .ok (.iadd, 1) := by decide +kernel
theorem dL_law_404 : decode cL_law 404 = .ok (.iaload, 1) := by decide +kernel
theorem dL_law_405 : decode cL_law 405 = .ok (.invokevirtual 59, 3) := by decide +kernel
theorem dL_law_408 : decode cL_law 408 = .ok (.if_icmp .eq 426, 3) := by decide +kernel
theorem dL_law_411 : decode cL_law 411 = .ok (.iconst 0, 1) := by decide +kernel
theorem dL_law_412 : decode cL_law 412 = .ok (.ireturn, 1) := by decide +kernel
theorem dL_law_413 : decode cL_law 413 = .ok (.aload_n 1, 1) := by decide +kernel
theorem dL_law_414 : decode cL_law 414 = .ok (.aload_n 0, 1) := by decide +kernel
theorem dL_law_415 : decode cL_law 415 = .ok (.iload_n 3, 1) := by decide +kernel
theorem dL_law_416 : decode cL_law 416 = .ok (.iconst 1, 1) := by decide +kernel
theorem dL_law_417 : decode cL_law 417 = .ok (.iadd, 1) := by decide +kernel
theorem dL_law_418 : decode cL_law 418 = .ok (.iaload, 1) := by decide +kernel
theorem dL_law_419 : decode cL_law 419 = .ok (.invokevirtual 60, 3) := by decide +kernel
theorem dL_law_422 : decode cL_law 422 = .ok (.aload_n 2, 1) := by decide +kernel
theorem dL_law_423 : decode cL_law 423 = .ok (.aload_n 0, 1) := by decide +kernel
theorem dL_law_424 : decode cL_law 424 = .ok (.iload_n 3, 1) := by decide +kernel
theorem dL_law_425 : decode cL_law 425 = .ok (.iconst 1, 1) := by decide +kernel
theorem dL_law_426 : decode cL_law 426 = .ok (.iadd, 1) := by decide +kernel
theorem dL_law_427 : decode cL_law 427 = .ok (.iaload, 1) := by decide +kernel
theorem dL_law_428 : decode cL_law 428 = .ok (.invokevirtual 63, 3) := by decide +kernel
theorem dL_law_431 : decode cL_law 431 = .ok (.if_icmp .eq 403, 3) := by decide +kernel
theorem dL_law_434 : decode cL_law 434 = .ok (.iconst 0, 1) := by decide +kernel
theorem dL_law_435 : decode cL_law 435 = .ok (.ireturn, 1) := by decide +kernel
theorem dL_law_436 : decode cL_law 436 = .ok (.aload_n 1, 1) := by decide +kernel
theorem dL_law_437 : decode cL_law 437 = .ok (.invokevirtual 64, 3) := by decide +kernel
theorem dL_law_440 : decode cL_law 440 = .ok (.aload_n 2, 1) := by decide +kernel
theorem dL_law_441 : decode cL_law 441 = .ok (.invokevirtual 67, 3) := by decide +kernel
theorem dL_law_444 : decode cL_law 444 = .ok (.if_icmp .eq 390, 3) := by decide +kernel
theorem dL_law_447 : decode cL_law 447 = .ok (.iconst 0, 1) := by decide +kernel
theorem dL_law_448 : decode cL_law 448 = .ok (.ireturn, 1) := by decide +kernel
theorem dL_law_449 : decode cL_law 449 = .ok (.aload_n 1, 1) := by decide +kernel
theorem dL_law_450 : decode cL_law 450 = .ok (.aload_n 0, 1) := by decide +kernel
theorem dL_law_451 : decode cL_law 451 = .ok (.iload_n 3, 1) := by decide +kernel
theorem dL_law_452 : decode cL_law 452 = .ok (.iconst 1, 1) := by decide +kernel
theorem dL_law_453 : decode cL_law 453 = .ok (.iadd, 1) := by decide +kernel
theorem dL_law_454 : decode cL_law 454 = .ok (.iaload, 1) := by decide +kernel
theorem dL_law_455 : decode cL_law 455 = .ok (.invokevirtual 68, 3) := by decide +kernel
theorem dL_law_458 : decode cL_law 458 = .ok (.aload_n 2, 1) := by decide +kernel
theorem dL_law_459 : decode cL_law 459 = .ok (.aload_n 0, 1) := by decide +kernel
theorem dL_law_460 : decode cL_law 460 = .ok (.iload_n 3, 1) := by decide +kernel
theorem dL_law_461 : decode cL_law 461 = .ok (.iconst 1, 1) := by decide +kernel
theorem dL_law_462 : decode cL_law 462 = .ok (.iadd, 1) := by decide +kernel
theorem dL_law_463 : decode cL_law 463 = .ok (.iaload, 1) := by decide +kernel
theorem dL_law_464 : decode cL_law 464 = .ok (.invokevirtual 71, 3) := by decide +kernel
theorem dL_law_467 : decode cL_law 467 = .ok (.if_icmp .eq 367, 3) := by decide +kernel
theorem dL_law_470 : decode cL_law 470 = .ok (.iconst 0, 1) := by decide +kernel
theorem dL_law_471 : decode cL_law 471 = .ok (.ireturn, 1) := by decide +kernel
theorem dL_law_472 : decode cL_law 472 = .ok (.aload_n 1, 1) := by decide +kernel
theorem dL_law_473 : decode cL_law 473 = .ok (.aload_n 0, 1) := by decide +kernel
theorem dL_law_474 : decode cL_law 474 = .ok (.iload_n 3, 1) := by decide +kernel
theorem dL_law_475 : decode cL_law 475 = .ok (.iconst 1, 1) := by decide +kernel
theorem dL_law_476 : decode cL_law 476 = .ok (.iadd, 1) := by decide +kernel
theorem dL_law_477 : decode cL_law 477 = .ok (.iaload, 1) := by decide +kernel
theorem dL_law_478 : decode cL_law 478 = .ok (.invokevirtual 72, 3) := by decide +kernel
theorem dL_law_481 : decode cL_law 481 = .ok (.aload_n 2, 1) := by decide +kernel
theorem dL_law_482 : decode cL_law 482 = .ok (.aload_n 0, 1) := by decide +kernel
theorem dL_law_483 : decode cL_law 483 = .ok (.iload_n 3, 1) := by decide +kernel
theorem dL_law_484 : decode cL_law 484 = .ok (.iconst 1, 1) := by decide +kernel
theorem dL_law_485 : decode cL_law 485 = .ok (.iadd, 1) := by decide +kernel
theorem dL_law_486 : decode cL_law 486 = .ok (.iaload, 1) := by decide +kernel
theorem dL_law_487 : decode cL_law 487 = .ok (.invokevirtual 75, 3) := by decide +kernel
theorem dL_law_490 : decode cL_law 490 = .ok (.if_icmp .eq 344, 3) := by decide +kernel
theorem dL_law_493 : decode cL_law 493 = .ok (.iconst 0, 1) := by decide +kernel
theorem dL_law_494 : decode cL_law 494 = .ok (.ireturn, 1) := by decide +kernel
theorem dL_law_495 : decode cL_law 495 = .ok (.aload_n 1, 1) := by decide +kernel
theorem dL_law_496 : decode cL_law 496 = .ok (.aload_n 0, 1) := by decide +kernel
theorem dL_law_497 : decode cL_law 497 = .ok (.iload_n 3, 1) := by decide +kernel
theorem dL_law_498 : decode cL_law 498 = .ok (.iconst 1, 1) := by decide +kernel
theorem dL_law_499 : decode cL_law 499 = .ok (.iadd, 1) := by decide +kernel
theorem dL_law_500 : decode cL_law 500 = .ok (.iaload, 1) := by decide +kernel
theorem dL_law_501 : decode cL_law 501 = .ok (.invokevirtual 76, 3) := by decide +kernel
theorem dL_law_504 : decode cL_law 504 = .ok (.aload_n 2, 1) := by decide +kernel
theorem dL_law_505 : decode cL_law 505 = .ok (.aload_n 0, 1) := by decide +kernel
theorem dL_law_506 : decode cL_law 506 = .ok (.iload_n 3, 1) := by decide +kernel
theorem dL_law_507 : decode cL_law 507 = .ok (.iconst 1, 1) := by decide +kernel
theorem dL_law_508 : decode cL_law 508 = .ok (.iadd, 1) := by decide +kernel
theorem dL_law_509 : decode cL_law 509 = .ok (.iaload, 1) := by decide +kernel
theorem dL_law_510 : decode cL_law 510 = .ok (.invokevirtual 79, 3) := by decide +kernel
theorem dL_law_513 : decode cL_law 513 = .ok (.if_icmp .eq 321, 3) := by decide +kernel
theorem dL_law_516 : decode cL_law 516 = .ok (.iconst 0, 1) := by decide +kernel
theorem dL_law_517 : decode cL_law 517 = .ok (.ireturn, 1) := by decide +kernel
theorem dL_law_518 : decode cL_law 518 = .ok (.aload_n 1, 1) := by decide +kernel
theorem dL_law_519 : decode cL_law 519 = .ok (.aload_n 0, 1) := by decide +kernel
theorem dL_law_520 : decode cL_law 520 = .ok (.iload_n 3, 1) := by decide +kernel
theorem dL_law_521 : decode cL_law 521 = .ok (.iconst 1, 1) := by decide +kernel
theorem dL_law_522 : decode cL_law 522 = .ok (.iadd, 1) := by decide +kernel
theorem dL_law_523 : decode cL_law 523 = .ok (.iaload, 1) := by decide +kernel
theorem dL_law_524 : decode cL_law 524 = .ok (.invokevirtual 80, 3) := by decide +kernel
theorem dL_law_527 : decode cL_law 527 = .ok (.aload_n 2, 1) := by decide +kernel
theorem dL_law_528 : decode cL_law 528 = .ok (.aload_n 0, 1) := by decide +kernel
theorem dL_law_529 : decode cL_law 529 = .ok (.iload_n 3, 1) := by decide +kernel
theorem dL_law_530 : decode cL_law 530 = .ok (.iconst 1, 1) := by decide +kernel
theorem dL_law_531 : decode cL_law 531 = .ok (.iadd, 1) := by decide +kernel
theorem dL_law_532 : decode cL_law 532 = .ok (.iaload, 1) := by decide +kernel
theorem dL_law_533 : decode cL_law 533 = .ok (.invokevirtual 83, 3) := by decide +kernel
theorem dL_law_536 : decode cL_law 536 = .ok (.if_icmp .eq 298, 3) := by decide +kernel
theorem dL_law_539 : decode cL_law 539 = .ok (.iconst 0, 1) := by decide +kernel
theorem dL_law_540 : decode cL_law 540 = .ok (.ireturn, 1) := by decide +kernel
theorem dL_law_541 : decode cL_law 541 = .ok (.aload_n 1, 1) := by decide +kernel
theorem dL_law_542 : decode cL_law 542 = .ok (.invokevirtual 84, 3) := by decide +kernel
theorem dL_law_545 : decode cL_law 545 = .ok (.aload_n 2, 1) := by decide +kernel
theorem dL_law_546 : decode cL_law 546 = .ok (.invokevirtual 87, 3) := by decide +kernel
theorem dL_law_549 : decode cL_law 549 = .ok (.if_icmp .eq 285, 3) := by decide +kernel
theorem dL_law_552 : decode cL_law 552 = .ok (.iconst 0, 1) := by decide +kernel
theorem dL_law_553 : decode cL_law 553 = .ok (.ireturn, 1) := by decide +kernel
theorem dL_law_554 : decode cL_law 554 = .ok (.aload_n 1, 1) := by decide +kernel
theorem dL_law_555 : decode cL_law 555 = .ok (.aload_n 0, 1) := by decide +kernel
theorem dL_law_556 : decode cL_law 556 = .ok (.iload_n 3, 1) := by decide +kernel
theorem dL_law_557 : decode cL_law 557 = .ok (.iconst 1, 1) := by decide +kernel
theorem dL_law_558 : decode cL_law 558 = .ok (.iadd, 1) := by decide +kernel
theorem dL_law_559 : decode cL_law 559 = .ok (.iaload, 1) := by decide +kernel
theorem dL_law_560 : decode cL_law 560 = .ok (.invokevirtual 88, 3) := by decide +kernel
theorem dL_law_563 : decode cL_law 563 = .ok (.aload_n 2, 1) := by decide +kernel
theorem dL_law_564 : decode cL_law 564 = .ok (.aload_n 0, 1) := by decide +kernel
theorem dL_law_565 : decode cL_law 565 = .ok (.iload_n 3, 1) := by decide +kernel
theorem dL_law_566 : decode cL_law 566 = .ok (.iconst 1, 1) := by decide +kernel
theorem dL_law_567 : decode cL_law 567 = .ok (.iadd, 1) := by decide +kernel
theorem dL_law_568 : decode cL_law 568 = .ok (.iaload, 1) := by decide +kernel
theorem dL_law_569 : decode cL_law 569 = .ok (.invokevirtual 91, 3) := by decide +kernel
theorem dL_law_572 : decode cL_law 572 = .ok (.if_icmp .eq 262, 3) := by decide +kernel
theorem dL_law_575 : decode cL_law 575 = .ok (.iconst 0, 1) := by decide +kernel
theorem dL_law_576 : decode cL_law 576 = .ok (.ireturn, 1) := by decide +kernel
theorem dL_law_577 : decode cL_law 577 = .ok (.aload_n 1, 1) := by decide +kernel
theorem dL_law_578 : decode cL_law 578 = .ok (.aload_n 0, 1) := by decide +kernel
theorem dL_law_579 : decode cL_law 579 = .ok (.iload_n 3, 1) := by decide +kernel
theorem dL_law_580 : decode cL_law 580 = .ok (.iconst 1, 1) := by decide +kernel
theorem dL_law_581 : decode cL_law 581 = .ok (.iadd, 1) := by decide +kernel
theorem dL_law_582 : decode cL_law 582 = .ok (.iaload, 1) := by decide +kernel
theorem dL_law_583 : decode cL_law 583 = .ok (.aload_n 0, 1) := by decide +kernel
theorem dL_law_584 : decode cL_law 584 = .ok (.iload_n 3, 1) := by decide +kernel
theorem dL_law_585 : decode cL_law 585 = .ok (.iconst 2, 1) := by decide +kernel
theorem dL_law_586 : decode cL_law 586 = .ok (.iadd, 1) := by decide +kernel
theorem dL_law_587 : decode cL_law 587 = .ok (.iaload, 1) := by decide +kernel
theorem dL_law_588 : decode cL_law 588 = .ok (.invokevirtual 92, 3) := by decide +kernel
theorem dL_law_591 : decode cL_law 591 = .ok (.aload_n 2, 1) := by decide +kernel
theorem dL_law_592 : decode cL_law 592 = .ok (.aload_n 0, 1) := by decide +kernel
theorem dL_law_593 : decode cL_law 593 = .ok (.iload_n 3, 1) := by decide +kernel
theorem dL_law_594 : decode cL_law 594 = .ok (.iconst 1, 1) := by decide +kernel
theorem dL_law_595 : decode cL_law 595 = .ok (.iadd, 1) := by decide +kernel
theorem dL_law_596 : decode cL_law 596 = .ok (.iaload, 1) := by decide +kernel
theorem dL_law_597 : decode cL_law 597 = .ok (.aload_n 0, 1) := by decide +kernel
theorem dL_law_598 : decode cL_law 598 = .ok (.iload_n 3, 1) := by decide +kernel
theorem dL_law_599 : decode cL_law 599 = .ok (.iconst 2, 1) := by decide +kernel
theorem dL_law_600 : decode cL_law 600 = .ok (.iadd, 1) := by decide +kernel
theorem dL_law_601 : decode cL_law 601 = .ok (.iaload, 1) := by decide +kernel
theorem dL_law_602 : decode cL_law 602 = .ok (.invokevirtual 95, 3) := by decide +kernel
theorem dL_law_605 : decode cL_law 605 = .ok (.if_icmp .eq 229, 3) := by decide +kernel
theorem dL_law_608 : decode cL_law 608 = .ok (.iconst 0, 1) := by decide +kernel
theorem dL_law_609 : decode cL_law 609 = .ok (.ireturn, 1) := by decide +kernel
theorem dL_law_610 : decode cL_law 610 = .ok (.aload_n 1, 1) := by decide +kernel
theorem dL_law_611 : decode cL_law 611 = .ok (.aload_n 0, 1) := by decide +kernel
theorem dL_law_612 : decode cL_law 612 = .ok (.iload_n 3, 1) := by decide +kernel
theorem dL_law_613 : decode cL_law 613 = .ok (.iconst 1, 1) := by decide +kernel
theorem dL_law_614 : decode cL_law 614 = .ok (.iadd, 1) := by decide +kernel
theorem dL_law_615 : decode cL_law 615 = .ok (.iaload, 1) := by decide +kernel
theorem dL_law_616 : decode cL_law 616 = .ok (.invokevirtual 96, 3) := by decide +kernel
theorem dL_law_619 : decode cL_law 619 = .ok (.aload_n 2, 1) := by decide +kernel
theorem dL_law_620 : decode cL_law 620 = .ok (.aload_n 0, 1) := by decide +kernel
theorem dL_law_621 : decode cL_law 621 = .ok (.iload_n 3, 1) := by decide +kernel
theorem dL_law_622 : decode cL_law 622 = .ok (.iconst 1, 1) := by decide +kernel
theorem dL_law_623 : decode cL_law 623 = .ok (.iadd, 1) := by decide +kernel
theorem dL_law_624 : decode cL_law 624 = .ok (.iaload, 1) := by decide +kernel
theorem dL_law_625 : decode cL_law 625 = .ok (.invokevirtual 99, 3) := by decide +kernel
theorem dL_law_628 : decode cL_law 628 = .ok (.if_icmp .eq 206, 3) := by decide +kernel
theorem dL_law_631 : decode cL_law 631 = .ok (.iconst 0, 1) := by decide +kernel
theorem dL_law_632 : decode cL_law 632 = .ok (.ireturn, 1) := by decide +kernel
theorem dL_law_633 : decode cL_law 633 = .ok (.aload_n 1, 1) := by decide +kernel
theorem dL_law_634 : decode cL_law 634 = .ok (.aload_n 0, 1) := by decide +kernel
theorem dL_law_635 : decode cL_law 635 = .ok (.iload_n 3, 1) := by decide +kernel
theorem dL_law_636 : decode cL_law 636 = .ok (.iconst 1, 1) := by decide +kernel
theorem dL_law_637 : decode cL_law 637 = .ok (.iadd, 1) := by decide +kernel
theorem dL_law_638 : decode cL_law 638 = .ok (.iaload, 1) := by decide +kernel
theorem dL_law_639 : decode cL_law 639 = .ok (.aload_n 0, 1) := by decide +kernel
theorem dL_law_640 : decode cL_law 640 = .ok (.iload_n 3, 1) := by decide +kernel
theorem dL_law_641 : decode cL_law 641 = .ok (.iconst 2, 1) := by decide +kernel
theorem dL_law_642 : decode cL_law 642 = .ok (.iadd, 1) := by decide +kernel
theorem dL_law_643 : decode cL_law 643 = .ok (.iaload, 1) := by decide +kernel
theorem dL_law_644 : decode cL_law 644 = .ok (.invokevirtual 100, 3) := by decide +kernel
theorem dL_law_647 : decode cL_law 647 = .ok (.aload_n 2, 1) := by decide +kernel
theorem dL_law_648 : decode cL_law 648 = .ok (.aload_n 0, 1) := by decide +kernel
theorem dL_law_649 : decode cL_law 649 = .ok (.iload_n 3, 1) := by decide +kernel
theorem dL_law_650 : decode cL_law 650 = .ok (.iconst 1, 1) := by decide +kernel
theorem dL_law_651 : decode cL_law 651 = .ok (.iadd, 1) := by decide +kernel
theorem dL_law_652 : decode cL_law 652 = .ok (.iaload, 1) := by decide +kernel
theorem dL_law_653 : decode cL_law 653 = .ok (.aload_n 0, 1) := by decide +kernel
theorem dL_law_654 : decode cL_law 654 = .ok (.iload_n 3, 1) := by decide +kernel
theorem dL_law_655 : decode cL_law 655 = .ok (.iconst 2, 1) := by decide +kernel
theorem dL_law_656 : decode cL_law 656 = .ok (.iadd, 1) := by decide +kernel
theorem dL_law_657 : decode cL_law 657 = .ok (.iaload, 1) := by decide +kernel
theorem dL_law_658 : decode cL_law 658 = .ok (.invokevirtual 103, 3) := by decide +kernel
theorem dL_law_661 : decode cL_law 661 = .ok (.if_icmp .eq 173, 3) := by decide +kernel
theorem dL_law_664 : decode cL_law 664 = .ok (.iconst 0, 1) := by decide +kernel
theorem dL_law_665 : decode cL_law 665 = .ok (.ireturn, 1) := by decide +kernel
theorem dL_law_666 : decode cL_law 666 = .ok (.aload_n 1, 1) := by decide +kernel
theorem dL_law_667 : decode cL_law 667 = .ok (.aload_n 0, 1) := by decide +kernel
theorem dL_law_668 : decode cL_law 668 = .ok (.iload_n 3, 1) := by decide +kernel
theorem dL_law_669 : decode cL_law 669 = .ok (.iconst 1, 1) := by decide +kernel
theorem dL_law_670 : decode cL_law 670 = .ok (.iadd, 1) := by decide +kernel
theorem dL_law_671 : decode cL_law 671 = .ok (.iaload, 1) := by decide +kernel
theorem dL_law_672 : decode cL_law 672 = .ok (.invokevirtual 104, 3) := by decide +kernel
theorem dL_law_675 : decode cL_law 675 = .ok (.aload_n 2, 1) := by decide +kernel
theorem dL_law_676 : decode cL_law 676 = .ok (.aload_n 0, 1) := by decide +kernel
theorem dL_law_677 : decode cL_law 677 = .ok (.iload_n 3, 1) := by decide +kernel
theorem dL_law_678 : decode cL_law 678 = .ok (.iconst 1, 1) := by decide +kernel
theorem dL_law_679 : decode cL_law 679 = .ok (.iadd, 1) := by decide +kernel
theorem dL_law_680 : decode cL_law 680 = .ok (.iaload, 1) := by decide +kernel
theorem dL_law_681 : decode cL_law 681 = .ok (.invokevirtual 107, 3) := by decide +kernel
theorem dL_law_684 : decode cL_law 684 = .ok (.if_icmp .eq 150, 3) := by decide +kernel
theorem dL_law_687 : decode cL_law 687 = .ok (.iconst 0, 1) := by decide +kernel
theorem dL_law_688 : decode cL_law 688 = .ok (.ireturn, 1) := by decide +kernel
theorem dL_law_689 : decode cL_law 689 = .ok (.aload_n 1, 1) := by decide +kernel
theorem dL_law_690 : decode cL_law 690 = .ok (.aload_n 0, 1) := by decide +kernel
theorem dL_law_691 : decode cL_law 691 = .ok (.iload_n 3, 1) := by decide +kernel
theorem dL_law_692 : decode cL_law 692 = .ok (.iconst 1, 1) := by decide +kernel
theorem dL_law_693 : decode cL_law 693 = .ok (.iadd, 1) := by decide +kernel
theorem dL_law_694 : decode cL_law 694 = .ok (.iaload, 1) := by decide +kernel
theorem dL_law_695 : decode cL_law 695 = .ok (.aload_n 0, 1) := by decide +kernel
theorem dL_law_696 : decode cL_law 696 = .ok (.iload_n 3, 1) := by decide +kernel
theorem dL_law_697 : decode cL_law 697 = .ok (.iconst 2, 1) := by decide +kernel
theorem dL_law_698 : decode cL_law 698 = .ok (.iadd, 1) := by decide +kernel
theorem dL_law_699 : decode cL_law 699 = .ok (.iaload, 1) := by decide +kernel
theorem dL_law_700 : decode cL_law 700 = .ok (.invokevirtual 108, 3) := by decide +kernel
theorem dL_law_703 : decode cL_law 703 = .ok (.aload_n 2, 1) := by decide +kernel
theorem dL_law_704 : decode cL_law 704 = .ok (.aload_n 0, 1) := by decide +kernel
theorem dL_law_705 : decode cL_law 705 = .ok (.iload_n 3, 1) := by decide +kernel
theorem dL_law_706 : decode cL_law 706 = .ok (.iconst 1, 1) := by decide +kernel
theorem dL_law_707 : decode cL_law 707 = .ok (.iadd, 1) := by decide +kernel
theorem dL_law_708 : decode cL_law 708 = .ok (.iaload, 1) := by decide +kernel
theorem dL_law_709 : decode cL_law 709 = .ok (.aload_n 0, 1) := by decide +kernel
theorem dL_law_710 : decode cL_law 710 = .ok (.iload_n 3, 1) := by decide +kernel
theorem dL_law_711 : decode cL_law 711 = .ok (.iconst 2, 1) := by decide +kernel
theorem dL_law_712 : decode cL_law 712 = .ok (.iadd, 1) := by decide +kernel
theorem dL_law_713 : decode cL_law 713 = .ok (.iaload, 1) := by decide +kernel
theorem dL_law_714 : decode cL_law 714 = .ok (.invokevirtual 111, 3) := by decide +kernel
theorem dL_law_717 : decode cL_law 717 = .ok (.if_icmp .eq 117, 3) := by decide +kernel
theorem dL_law_720 : decode cL_law 720 = .ok (.iconst 0, 1) := by decide +kernel
theorem dL_law_721 : decode cL_law 721 = .ok (.ireturn, 1) := by decide +kernel
theorem dL_law_722 : decode cL_law 722 = .ok (.aload_n 1, 1) := by decide +kernel
theorem dL_law_723 : decode cL_law 723 = .ok (.invokevirtual 112, 3) := by decide +kernel
theorem dL_law_726 : decode cL_law 726 = .ok (.aload_n 2, 1) := by decide +kernel
theorem dL_law_727 : decode cL_law 727 = .ok (.invokevirtual 115, 3) := by decide +kernel
theorem dL_law_730 : decode cL_law 730 = .ok (.if_icmp .eq 104, 3) := by decide +kernel
theorem dL_law_733 : decode cL_law 733 = .ok (.iconst 0, 1) := by decide +kernel
theorem dL_law_734 : decode cL_law 734 = .ok (.ireturn, 1) := by decide +kernel
theorem dL_law_735 : decode cL_law 735 = .ok (.aload_n 1, 1) := by decide +kernel
theorem dL_law_736 : decode cL_law 736 = .ok (.aload_n 0, 1) := by decide +kernel
theorem dL_law_737 : decode cL_law 737 = .ok (.iload_n 3, 1) := by decide +kernel
theorem dL_law_738 : decode cL_law 738 = .ok (.iconst 1, 1) := by decide +kernel
theorem dL_law_739 : decode cL_law 739 = .ok (.iadd, 1) := by decide +kernel
theorem dL_law_740 : decode cL_law 740 = .ok (.iaload, 1) := by decide +kernel
theorem dL_law_741 : decode cL_law 741 = .ok (.invokevirtual 116, 3) := by decide +kernel
theorem dL_law_744 : decode cL_law 744 = .ok (.aload_n 2, 1) := by decide +kernel
theorem dL_law_745 : decode cL_law 745 = .ok (.aload_n 0, 1) := by decide +kernel
theorem dL_law_746 : decode cL_law 746 = .ok (.iload_n 3, 1) := by decide +kernel
theorem dL_law_747 : decode cL_law 747 = .ok (.iconst 1, 1) := by decide +kernel
theorem dL_law_748 : decode cL_law 748 = .ok (.iadd, 1) := by decide +kernel
theorem dL_law_749 : decode cL_law 749 = .ok (.iaload, 1) := by decide +kernel
theorem dL_law_750 : decode cL_law 750 = .ok (.invokevirtual 119, 3) := by decide +kernel
theorem dL_law_753 : decode cL_law 753 = .ok (.if_icmp .eq 81, 3) := by decide +kernel
theorem dL_law_756 : decode cL_law 756 = .ok (.iconst 0, 1) := by decide +kernel
theorem dL_law_757 : decode cL_law 757 = .ok (.ireturn, 1) := by decide +kernel
theorem dL_law_758 : decode cL_law 758 = .ok (.aload_n 1, 1) := by decide +kernel
theorem dL_law_759 : decode cL_law 759 = .ok (.aload_n 0, 1) := by decide +kernel
theorem dL_law_760 : decode cL_law 760 = .ok (.iload_n 3, 1) := by decide +kernel
theorem dL_law_761 : decode cL_law 761 = .ok (.iconst 1, 1) := by decide +kernel
theorem dL_law_762 : decode cL_law 762 = .ok (.iadd, 1) := by decide +kernel
theorem dL_law_763 : decode cL_law 763 = .ok (.iaload, 1) := by decide +kernel
theorem dL_law_764 : decode cL_law 764 = .ok (.aload_n 0, 1) := by decide +kernel
theorem dL_law_765 : decode cL_law 765 = .ok (.iload_n 3, 1) := by decide +kernel
theorem dL_law_766 : decode cL_law 766 = .ok (.iconst 2, 1) := by decide +kernel
theorem dL_law_767 : decode cL_law 767 = .ok (.iadd, 1) := by decide +kernel
theorem dL_law_768 : decode cL_law 768 = .ok (.iaload, 1) := by decide +kernel
theorem dL_law_769 : decode cL_law 769 = .ok (.aload_n 0, 1) := by decide +kernel
theorem dL_law_770 : decode cL_law 770 = .ok (.iload_n 3, 1) := by decide +kernel
theorem dL_law_771 : decode cL_law 771 = .ok (.iconst 3, 1) := by decide +kernel
theorem dL_law_772 : decode cL_law 772 = .ok (.iadd, 1) := by decide +kernel
theorem dL_law_773 : decode cL_law 773 = .ok (.iaload, 1) := by decide +kernel
theorem dL_law_774 : decode cL_law 774 = .ok (.aload_n 0, 1) := by decide +kernel
theorem dL_law_775 : decode cL_law 775 = .ok (.iload_n 3, 1) := by decide +kernel
theorem dL_law_776 : decode cL_law 776 = .ok (.iconst 4, 1) := by decide +kernel
theorem dL_law_777 : decode cL_law 777 = .ok (.iadd, 1) := by decide +kernel
theorem dL_law_778 : decode cL_law 778 = .ok (.iaload, 1) := by decide +kernel
theorem dL_law_779 : decode cL_law 779 = .ok (.invokevirtual 120, 3) := by decide +kernel
theorem dL_law_782 : decode cL_law 782 = .ok (.aload_n 2, 1) := by decide +kernel
theorem dL_law_783 : decode cL_law 783 = .ok (.aload_n 0, 1) := by decide +kernel
theorem dL_law_784 : decode cL_law 784 = .ok (.iload_n 3, 1) := by decide +kernel
theorem dL_law_785 : decode cL_law 785 = .ok (.iconst 1, 1) := by decide +kernel
theorem dL_law_786 : decode cL_law 786 = .ok (.iadd, 1) := by decide +kernel
theorem dL_law_787 : decode cL_law 787 = .ok (.iaload, 1) := by decide +kernel
theorem dL_law_788 : decode cL_law 788 = .ok (.aload_n 0, 1) := by decide +kernel
theorem dL_law_789 : decode cL_law 789 = .ok (.iload_n 3, 1) := by decide +kernel
theorem dL_law_790 : decode cL_law 790 = .ok (.iconst 2, 1) := by decide +kernel
theorem dL_law_791 : decode cL_law 791 = .ok (.iadd, 1) := by decide +kernel
theorem dL_law_792 : decode cL_law 792 = .ok (.iaload, 1) := by decide +kernel
theorem dL_law_793 : decode cL_law 793 = .ok (.aload_n 0, 1) := by decide +kernel
theorem dL_law_794 : decode cL_law 794 = .ok (.iload_n 3, 1) := by decide +kernel
theorem dL_law_795 : decode cL_law 795 = .ok (.iconst 3, 1) := by decide +kernel
theorem dL_law_796 : decode cL_law 796 = .ok (.iadd, 1) := by decide +kernel
theorem dL_law_797 : decode cL_law 797 = .ok (.iaload, 1) := by decide +kernel
theorem dL_law_798 : decode cL_law 798 = .ok (.aload_n 0, 1) := by decide +kernel
theorem dL_law_799 : decode cL_law 799 = .ok (.iload_n 3, 1) := by decide +kernel
theorem dL_law_800 : decode cL_law 800 = .ok (.iconst 4, 1) := by decide +kernel
theorem dL_law_801 : decode cL_law 801 = .ok (.iadd, 1) := by decide +kernel
theorem dL_law_802 : decode cL_law 802 = .ok (.iaload, 1) := by decide +kernel
theorem dL_law_803 : decode cL_law 803 = .ok (.invokevirtual 124, 3) := by decide +kernel
theorem dL_law_806 : decode cL_law 806 = .ok (.if_icmp .eq 28, 3) := by decide +kernel
theorem dL_law_809 : decode cL_law 809 = .ok (.iconst 0, 1) := by decide +kernel
theorem dL_law_810 : decode cL_law 810 = .ok (.ireturn, 1) := by decide +kernel
theorem dL_law_811 : decode cL_law 811 = .ok (.aload_n 1, 1) := by decide +kernel
theorem dL_law_812 : decode cL_law 812 = .ok (.aload_n 0, 1) := by decide +kernel
theorem dL_law_813 : decode cL_law 813 = .ok (.iload_n 3, 1) := by decide +kernel
theorem dL_law_814 : decode cL_law 814 = .ok (.iconst 1, 1) := by decide +kernel
theorem dL_law_815 : decode cL_law 815 = .ok (.iadd, 1) := by decide +kernel
theorem dL_law_816 : decode cL_law 816 = .ok (.iaload, 1) := by decide +kernel
theorem dL_law_817 : decode cL_law 817 = .ok (.invokevirtual 125, 3) := by decide +kernel
theorem dL_law_820 : decode cL_law 820 = .ok (.aload_n 2, 1) := by decide +kernel
theorem dL_law_821 : decode cL_law 821 = .ok (.aload_n 0, 1) := by decide +kernel
theorem dL_law_822 : decode cL_law 822 = .ok (.iload_n 3, 1) := by decide +kernel
theorem dL_law_823 : decode cL_law 823 = .ok (.iconst 1, 1) := by decide +kernel
theorem dL_law_824 : decode cL_law 824 = .ok (.iadd, 1) := by decide +kernel
theorem dL_law_825 : decode cL_law 825 = .ok (.iaload, 1) := by decide +kernel
theorem dL_law_826 : decode cL_law 826 = .ok (.invokevirtual 128, 3) := by decide +kernel
theorem dL_law_829 : decode cL_law 829 = .ok (.if_icmp .eq 5, 3) := by decide +kernel
theorem dL_law_832 : decode cL_law 832 = .ok (.iconst 0, 1) := by decide +kernel
theorem dL_law_833 : decode cL_law 833 = .ok (.ireturn, 1) := by decide +kernel
theorem dL_law_834 : decode cL_law 834 = .ok (.iinc 3 5, 3) := by decide +kernel
theorem dL_law_837 : decode cL_law 837 = .ok (.goto (-819), 3) := by decide +kernel
theorem dL_law_840 : decode cL_law 840 = .ok (.iconst 1, 1) := by decide +kernel
theorem dL_law_841 : decode cL_law 841 = .ok (.ireturn, 1) := by decide +kernel
