theorem dX0_init_0 : decode cX0_init 0 = .ok (.aload_n 0, 1) := by decide +kernel
theorem dX0_init_1 : decode cX0_init 1 = .ok (.invokespecial 3, 3) := by decide +kernel
theorem dX0_init_4 : decode cX0_init 4 = .ok (.aload_n 0, 1) := by decide +kernel
theorem dX0_init_5 : decode cX0_init 5 = .ok (.invokestatic 9, 3) := by decide +kernel
theorem dX0_init_8 : decode cX0_init 8 = .ok (.putfield 15, 3) := by decide +kernel
theorem dX0_init_11 : decode cX0_init 11 = .ok (.aload_n 0, 1) := by decide +kernel
theorem dX0_init_12 : decode cX0_init 12 = .ok (.bipush 14, 2) := by decide +kernel
theorem dX0_init_14 : decode cX0_init 14 = .ok (.newarray .int, 2) := by decide +kernel
theorem dX0_init_16 : decode cX0_init 16 = .ok (.putfield 21, 3) := by decide +kernel
theorem dX0_init_19 : decode cX0_init 19 = .ok (.aload_n 0, 1) := by decide +kernel
theorem dX0_init_20 : decode cX0_init 20 = .ok (.bipush 14, 2) := by decide +kernel
theorem dX0_init_22 : decode cX0_init 22 = .ok (.newarray .int, 2) := by decide +kernel
theorem dX0_init_24 : decode cX0_init 24 = .ok (.putfield 25, 3) := by decide +kernel
theorem dX0_init_27 : decode cX0_init 27 = .ok (.aload_n 0, 1) := by decide +kernel
theorem dX0_init_28 : decode cX0_init 28 = .ok (.bipush 14, 2) := by decide +kernel
theorem dX0_init_30 : decode cX0_init 30 = .ok (.newarray .int, 2) := by decide +kernel
theorem dX0_init_32 : decode cX0_init 32 = .ok (.putfield 28, 3) := by decide +kernel
theorem dX0_init_35 : decode cX0_init 35 = .ok (.aload_n 0, 1) := by decide +kernel
theorem dX0_init_36 : decode cX0_init 36 = .ok (.bipush 14, 2) := by decide +kernel
theorem dX0_init_38 : decode cX0_init 38 = .ok (.newarray .int, 2) := by decide +kernel
theorem dX0_init_40 : decode cX0_init 40 = .ok (.putfield 31, 3) := by decide +kernel
theorem dX0_init_43 : decode cX0_init 43 = .ok (.return_, 1) := by decide +kernel
theorem dX0_read_0 : decode cX0_read 0 = .ok (.aload_n 0, 1) := by decide +kernel
theorem dX0_read_1 : decode cX0_read 1 = .ok (.iload_n 2, 1) := by decide +kernel
theorem dX0_read_2 : decode cX0_read 2 = .ok (.putfield 34, 3) := by decide +kernel
theorem dX0_read_5 : decode cX0_read 5 = .ok (.aload_n 0, 1) := by decide +kernel
theorem dX0_read_6 : decode cX0_read 6 = .ok (.iconst 0, 1) := by decide +kernel
theorem dX0_read_7 : decode cX0_read 7 = .ok (.putfield 38, 3) := by decide +kernel
theorem dX0_read_10 : decode cX0_read 10 = .ok (.aload_n 1, 1) := by decide +kernel
theorem dX0_read_11 : decode cX0_read 11 = .ok (.invokevirtual 41, 3) := by decide +kernel
theorem dX0_read_14 : decode cX0_read 14 = .ok (.aload_n 0, 1) := by decide +kernel
theorem dX0_read_15 : decode cX0_read 15 = .ok (.getfield 38, 3) := by decide +kernel
theorem dX0_read_18 : decode cX0_read 18 = .ok (.bipush 14, 2) := by decide +kernel
theorem dX0_read_20 : decode cX0_read 20 = .ok (.if_icmp .ge 51, 3) := by decide +kernel
theorem dX0_read_23 : decode cX0_read 23 = .ok (.aload_n 0, 1) := by decide +kernel
theorem dX0_read_24 : decode cX0_read 24 = .ok (.aload_n 1, 1) := by decide +kernel
theorem dX0_read_25 : decode cX0_read 25 = .ok (.invokevirtual 46, 3) := by decide +kernel
theorem dX0_read_28 : decode cX0_read 28 = .ok (.ifCond .ne 8, 3) := by decide +kernel
theorem dX0_read_31 : decode cX0_read 31 = .ok (.aload_n 1, 1) := by decide +kernel
theorem dX0_read_32 : decode cX0_read 32 = .ok (.getfield 50, 3) := by decide +kernel
theorem dX0_read_35 : decode cX0_read 35 = .ok (.ireturn, 1) := by decide +kernel
theorem dX0_read_36 : decode cX0_read 36 = .ok (.aload_n 0, 1) := by decide +kernel
theorem dX0_read_37 : decode cX0_read 37 = .ok (.dup, 1) := by decide +kernel
theorem dX0_read_38 : decode cX0_read 38 = .ok (.getfield 38, 3) := by decide +kernel
theorem dX0_read_41 : decode cX0_read 41 = .ok (.iconst 1, 1) := by decide +kernel
theorem dX0_read_42 : decode cX0_read 42 = .ok (.iadd, 1) := by decide +kernel
theorem dX0_read_43 : decode cX0_read 43 = .ok (.putfield 38, 3) := by decide +kernel
theorem dX0_read_46 : decode cX0_read 46 = .ok (.aload_n 1, 1) := by decide +kernel
theorem dX0_read_47 : decode cX0_read 47 = .ok (.invokevirtual 53, 3) := by decide +kernel
theorem dX0_read_50 : decode cX0_read 50 = .ok (.aload_n 1, 1) := by decide +kernel
theorem dX0_read_51 : decode cX0_read 51 = .ok (.getfield 56, 3) := by decide +kernel
theorem dX0_read_54 : decode cX0_read 54 = .ok (.ifCond .ne 5, 3) := by decide +kernel
theorem dX0_read_57 : decode cX0_read 57 = .ok (.iconst (-1), 1) := by decide +kernel
theorem dX0_read_58 : decode cX0_read 58 = .ok (.ireturn, 1) := by decide +kernel
theorem dX0_read_59 : decode cX0_read 59 = .ok (.aload_n 1, 1) := by decide +kernel
theorem dX0_read_60 : decode cX0_read 60 = .ok (.invokevirtual 59, 3) := by decide +kernel
theorem dX0_read_63 : decode cX0_read 63 = .ok (.ifCond .ne (-49), 3) := by decide +kernel
theorem dX0_read_66 : decode cX0_read 66 = .ok (.aload_n 1, 1) := by decide +kernel
theorem dX0_read_67 : decode cX0_read 67 = .ok (.getfield 50, 3) := by decide +kernel
theorem dX0_read_70 : decode cX0_read 70 = .ok (.ireturn, 1) := by decide +kernel
theorem dX0_read_71 : decode cX0_read 71 = .ok (.aload_n 1, 1) := by decide +kernel
theorem dX0_read_72 : decode cX0_read 72 = .ok (.getfield 50, 3) := by decide +kernel
theorem dX0_read_75 : decode cX0_read 75 = .ok (.ireturn, 1) := by decide +kernel
theorem dX0_readClause_0 : decode cX0_readClause 0 = .ok (.aload_n 1, 1) := by decide +kernel
theorem dX0_readClause_1 : decode cX0_readClause 1 = .ok (.invokevirtual 53, 3) := by decide +kernel
theorem dX0_readClause_4 : decode cX0_readClause 4 = .ok (.aload_n 0, 1) := by decide +kernel
theorem dX0_readClause_5 : decode cX0_readClause 5 = .ok (.aload_n 1, 1) := by decide +kernel
theorem dX0_readClause_6 : decode cX0_readClause 6 = .ok (.invokevirtual 63, 3) := by decide +kernel
theorem dX0_readClause_9 : decode cX0_readClause 9 = .ok (.astore_n 2, 1) := by decide +kernel
theorem dX0_readClause_10 : decode cX0_readClause 10 = .ok (.aload_n 2, 1) := by decide +kernel
theorem dX0_readClause_11 : decode cX0_readClause 11 = .ok (.ifnull 11, 3) := by decide +kernel
theorem dX0_readClause_14 : decode cX0_readClause 14 = .ok (.aload_n 0, 1) := by decide +kernel
theorem dX0_readClause_15 : decode cX0_readClause 15 = .ok (.aload_n 2, 1) := by decide +kernel
theorem dX0_readClause_16 : decode cX0_readClause 16 = .ok (.invokevirtual 67, 3) := by decide +kernel
theorem dX0_readClause_19 : decode cX0_readClause 19 = .ok (.ifCond .ne 5, 3) := by decide +kernel
theorem dX0_readClause_22 : decode cX0_readClause 22 = .ok (.iconst 0, 1) := by decide +kernel
theorem dX0_readClause_23 : decode cX0_readClause 23 = .ok (.ireturn, 1) := by decide +kernel
theorem dX0_readClause_24 : decode cX0_readClause 24 = .ok (.iconst 0, 1) := by decide +kernel
theorem dX0_readClause_25 : decode cX0_readClause 25 = .ok (.istore_n 3, 1) := by decide +kernel
theorem dX0_readClause_26 : decode cX0_readClause 26 = .ok (.iconst 0, 1) := by decide +kernel
theorem dX0_readClause_27 : decode cX0_readClause 27 = .ok (.istore 4, 2) := by decide +kernel
theorem dX0_readClause_29 : decode cX0_readClause 29 = .ok (.iconst 0, 1) := by decide +kernel
theorem dX0_readClause_30 : decode cX0_readClause 30 = .ok (.istore 5, 2) := by decide +kernel
theorem dX0_readClause_32 : decode cX0_readClause 32 = .ok (.iload 5, 2) := by decide +kernel
theorem dX0_readClause_34 : decode cX0_readClause 34 = .ok (.aload_n 2, 1) := by decide +kernel
theorem dX0_readClause_35 : decode cX0_readClause 35 = .ok (.invokevirtual 71, 3) := by decide +kernel
theorem dX0_readClause_38 : decode cX0_readClause 38 = .ok (.if_icmp .ge 57, 3) := by decide +kernel
theorem dX0_readClause_41 : decode cX0_readClause 41 = .ok (.aload_n 1, 1) := by decide +kernel
theorem dX0_readClause_42 : decode cX0_readClause 42 = .ok (.invokevirtual 53, 3) := by decide +kernel
theorem dX0_readClause_45 : decode cX0_readClause 45 = .ok (.aload_n 1, 1) := by decide +kernel
theorem dX0_readClause_46 : decode cX0_readClause 46 = .ok (.invokevirtual 75, 3) := by decide +kernel
theorem dX0_readClause_49 : decode cX0_readClause 49 = .ok (.istore 6, 2) := by decide +kernel
theorem dX0_readClause_51 : decode cX0_readClause 51 = .ok (.iload 6, 2) := by decide +kernel
theorem dX0_readClause_53 : decode cX0_readClause 53 = .ok (.aload_n 2, 1) := by decide +kernel
theorem dX0_readClause_54 : decode cX0_readClause 54 = .ok (.iload 5, 2) := by decide +kernel
theorem dX0_readClause_56 : decode cX0_readClause 56 = .ok (.iload_n 3, 1) := by decide +kernel
theorem dX0_readClause_57 : decode cX0_readClause 57 = .ok (.invokevirtual 78, 3) := by decide +kernel
theorem dX0_readClause_60 : decode cX0_readClause 60 = .ok (.aload_n 2, 1) := by decide +kernel
theorem dX0_readClause_61 : decode cX0_readClause 61 = .ok (.iload 5, 2) := by decide +kernel
theorem dX0_readClause_63 : decode cX0_readClause 63 = .ok (.invokevirtual 82, 3) := by decide +kernel
theorem dX0_readClause_66 : decode cX0_readClause 66 = .ok (.invokestatic 86, 3) := by decide +kernel
theorem dX0_readClause_69 : decode cX0_readClause 69 = .ok (.ifCond .eq 5, 3) := by decide +kernel
theorem dX0_readClause_72 : decode cX0_readClause 72 = .ok (.iconst 0, 1) := by decide +kernel
theorem dX0_readClause_73 : decode cX0_readClause 73 = .ok (.ireturn, 1) := by decide +kernel
theorem dX0_readClause_74 : decode cX0_readClause 74 = .ok (.iload 5, 2) := by decide +kernel
theorem dX0_readClause_76 : decode cX0_readClause 76 = .ok (.ifCond .ne 9, 3) := by decide +kernel
theorem dX0_readClause_79 : decode cX0_readClause 79 = .ok (.iload 6, 2) := by decide +kernel
theorem dX0_readClause_81 : decode cX0_readClause 81 = .ok (.istore_n 3, 1) := by decide +kernel
theorem dX0_readClause_82 : decode cX0_readClause 82 = .ok (.goto 7, 3) := by decide +kernel
theorem dX0_readClause_85 : decode cX0_readClause 85 = .ok (.iload 6, 2) := by decide +kernel
theorem dX0_readClause_87 : decode cX0_readClause 87 = .ok (.istore 4, 2) := by decide +kernel
theorem dX0_readClause_89 : decode cX0_readClause 89 = .ok (.iinc 5 1, 3) := by decide +kernel
theorem dX0_readClause_92 : decode cX0_readClause 92 = .ok (.goto (-60), 3) := by decide +kernel
theorem dX0_readClause_95 : decode cX0_readClause 95 = .ok (.aload_n 0, 1) := by decide +kernel
theorem dX0_readClause_96 : decode cX0_readClause 96 = .ok (.getfield 21, 3) := by decide +kernel
theorem dX0_readClause_99 : decode cX0_readClause 99 = .ok (.aload_n 0, 1) := by decide +kernel
theorem dX0_readClause_100 : decode cX0_readClause 100 = .ok (.getfield 38, 3) := by decide +kernel
theorem dX0_readClause_103 : decode cX0_readClause 103 = .ok (.aload_n 2, 1) := by decide +kernel
theorem dX0_readClause_104 : decode cX0_readClause 104 = .ok (.getfield 90, 3) := by decide +kernel
theorem dX0_readClause_107 : decode cX0_readClause 107 = .ok (.iastore, 1) := by decide +kernel
theorem dX0_readClause_108 : decode cX0_readClause 108 = .ok (.aload_n 0, 1) := by decide +kernel
theorem dX0_readClause_109 : decode cX0_readClause 109 = .ok (.getfield 25, 3) := by decide +kernel
theorem dX0_readClause_112 : decode cX0_readClause 112 = .ok (.aload_n 0, 1) := by decide +kernel
theorem dX0_readClause_113 : decode cX0_readClause 113 = .ok (.getfield 38, 3) := by decide +kernel
theorem dX0_readClause_116 : decode cX0_readClause 116 = .ok (.aload_n 2, 1) := by decide +kernel
theorem dX0_readClause_117 : decode cX0_readClause 117 = .ok (.getfield 93, 3) := by decide +kernel
theorem dX0_readClause_120 : decode cX0_readClause 120 = .ok (.iastore, 1) := by decide +kernel
theorem dX0_readClause_121 : decode cX0_readClause 121 = .ok (.aload_n 0, 1) := by decide +kernel
theorem dX0_readClause_122 : decode cX0_readClause 122 = .ok (.getfield 28, 3) := by decide +kernel
theorem dX0_readClause_125 : decode cX0_readClause 125 = .ok (.aload_n 0, 1) := by decide +kernel
theorem dX0_readClause_126 : decode cX0_readClause 126 = .ok (.getfield 38, 3) := by decide +kernel
theorem dX0_readClause_129 : decode cX0_readClause 129 = .ok (.iload_n 3, 1) := by decide +kernel
theorem dX0_readClause_130 : decode cX0_readClause 130 = .ok (.iastore, 1) := by decide +kernel
theorem dX0_readClause_131 : decode cX0_readClause 131 = .ok (.aload_n 0, 1) := by decide +kernel
theorem dX0_readClause_132 : decode cX0_readClause 132 = .ok (.getfield 31, 3) := by decide +kernel
theorem dX0_readClause_135 : decode cX0_readClause 135 = .ok (.aload_n 0, 1) := by decide +kernel
theorem dX0_readClause_136 : decode cX0_readClause 136 = .ok (.getfield 38, 3) := by decide +kernel
theorem dX0_readClause_139 : decode cX0_readClause 139 = .ok (.iload 4, 2) := by decide +kernel
theorem dX0_readClause_141 : decode cX0_readClause 141 = .ok (.iastore, 1) := by decide +kernel
theorem dX0_readClause_142 : decode cX0_readClause 142 = .ok (.iconst 1, 1) := by decide +kernel
theorem dX0_readClause_143 : decode cX0_readClause 143 = .ok (.ireturn, 1) := by decide +kernel
theorem dX0_findWord_0 : decode cX0_findWord 0 = .ok (.iconst 0, 1) := by decide +kernel
theorem dX0_findWord_1 : decode cX0_findWord 1 = .ok (.istore_n 2, 1) := by decide +kernel
theorem dX0_findWord_2 : decode cX0_findWord 2 = .ok (.iload_n 2, 1) := by decide +kernel
theorem dX0_findWord_3 : decode cX0_findWord 3 = .ok (.aload_n 0, 1) := by decide +kernel
theorem dX0_findWord_4 : decode cX0_findWord 4 = .ok (.getfield 15, 3) := by decide +kernel
theorem dX0_findWord_7 : decode cX0_findWord 7 = .ok (.arraylength, 1) := by decide +kernel
theorem dX0_findWord_8 : decode cX0_findWord 8 = .ok (.if_icmp .ge 32, 3) := by decide +kernel
theorem dX0_findWord_11 : decode cX0_findWord 11 = .ok (.aload_n 1, 1) := by decide +kernel
theorem dX0_findWord_12 : decode cX0_findWord 12 = .ok (.aload_n 0, 1) := by decide +kernel
theorem dX0_findWord_13 : decode cX0_findWord 13 = .ok (.getfield 15, 3) := by decide +kernel
theorem dX0_findWord_16 : decode cX0_findWord 16 = .ok (.iload_n 2, 1) := by decide +kernel
theorem dX0_findWord_17 : decode cX0_findWord 17 = .ok (.aaload, 1) := by decide +kernel
theorem dX0_findWord_18 : decode cX0_findWord 18 = .ok (.getfield 96, 3) := by decide +kernel
theorem dX0_findWord_21 : decode cX0_findWord 21 = .ok (.invokevirtual 100, 3) := by decide +kernel
theorem dX0_findWord_24 : decode cX0_findWord 24 = .ok (.ifCond .eq 10, 3) := by decide +kernel
theorem dX0_findWord_27 : decode cX0_findWord 27 = .ok (.aload_n 0, 1) := by decide +kernel
theorem dX0_findWord_28 : decode cX0_findWord 28 = .ok (.getfield 15, 3) := by decide +kernel
theorem dX0_findWord_31 : decode cX0_findWord 31 = .ok (.iload_n 2, 1) := by decide +kernel
theorem dX0_findWord_32 : decode cX0_findWord 32 = .ok (.aaload, 1) := by decide +kernel
theorem dX0_findWord_33 : decode cX0_findWord 33 = .ok (.areturn, 1) := by decide +kernel
theorem dX0_findWord_34 : decode cX0_findWord 34 = .ok (.iinc 2 1, 3) := by decide +kernel
theorem dX0_findWord_37 : decode cX0_findWord 37 = .ok (.goto (-35), 3) := by decide +kernel
theorem dX0_findWord_40 : decode cX0_findWord 40 = .ok (.aconst_null, 1) := by decide +kernel
theorem dX0_findWord_41 : decode cX0_findWord 41 = .ok (.areturn, 1) := by decide +kernel
theorem dX0_countSisters_0 : decode cX0_countSisters 0 = .ok (.aload_n 1, 1) := by decide +kernel
theorem dX0_countSisters_1 : decode cX0_countSisters 1 = .ok (.getfield 90, 3) := by decide +kernel
theorem dX0_countSisters_4 : decode cX0_countSisters 4 = .ok (.ifCond .ne 11, 3) := by decide +kernel
theorem dX0_countSisters_7 : decode cX0_countSisters 7 = .ok (.aload_n 0, 1) := by decide +kernel
theorem dX0_countSisters_8 : decode cX0_countSisters 8 = .ok (.iconst 0, 1) := by decide +kernel
theorem dX0_countSisters_9 : decode cX0_countSisters 9 = .ok (.putfield 34, 3) := by decide +kernel
theorem dX0_countSisters_12 : decode cX0_countSisters 12 = .ok (.goto 21, 3) := by decide +kernel
theorem dX0_countSisters_15 : decode cX0_countSisters 15 = .ok (.aload_n 1, 1) := by decide +kernel
theorem dX0_countSisters_16 : decode cX0_countSisters 16 = .ok (.getfield 90, 3) := by decide +kernel
theorem dX0_countSisters_19 : decode cX0_countSisters 19 = .ok (.iconst 1, 1) := by decide +kernel
theorem dX0_countSisters_20 : decode cX0_countSisters 20 = .ok (.if_icmp .ne 13, 3) := by decide +kernel
theorem dX0_countSisters_23 : decode cX0_countSisters 23 = .ok (.aload_n 0, 1) := by decide +kernel
theorem dX0_countSisters_24 : decode cX0_countSisters 24 = .ok (.dup, 1) := by decide +kernel
theorem dX0_countSisters_25 : decode cX0_countSisters 25 = .ok (.getfield 34, 3) := by decide +kernel
theorem dX0_countSisters_28 : decode cX0_countSisters 28 = .ok (.iconst 1, 1) := by decide +kernel
theorem dX0_countSisters_29 : decode cX0_countSisters 29 = .ok (.iadd, 1) := by decide +kernel
theorem dX0_countSisters_30 : decode cX0_countSisters 30 = .ok (.putfield 34, 3) := by decide +kernel
theorem dX0_countSisters_33 : decode cX0_countSisters 33 = .ok (.aload_n 0, 1) := by decide +kernel
theorem dX0_countSisters_34 : decode cX0_countSisters 34 = .ok (.getfield 34, 3) := by decide +kernel
theorem dX0_countSisters_37 : decode cX0_countSisters 37 = .ok (.iconst 5, 1) := by decide +kernel
theorem dX0_countSisters_38 : decode cX0_countSisters 38 = .ok (.if_icmp .gt 7, 3) := by decide +kernel
theorem dX0_countSisters_41 : decode cX0_countSisters 41 = .ok (.iconst 1, 1) := by decide +kernel
theorem dX0_countSisters_42 : decode cX0_countSisters 42 = .ok (.goto 4, 3) := by decide +kernel
theorem dX0_countSisters_45 : decode cX0_countSisters 45 = .ok (.iconst 0, 1) := by decide +kernel
theorem dX0_countSisters_46 : decode cX0_countSisters 46 = .ok (.ireturn, 1) := by decide +kernel
theorem dX1_init_0 : decode cX1_init 0 = .ok (.aload_n 0, 1) := by decide +kernel
theorem dX1_init_1 : decode cX1_init 1 = .ok (.invokespecial 3, 3) := by decide +kernel
theorem dX1_init_4 : decode cX1_init 4 = .ok (.aload_n 0, 1) := by decide +kernel
theorem dX1_init_5 : decode cX1_init 5 = .ok (.aload_n 1, 1) := by decide +kernel
theorem dX1_init_6 : decode cX1_init 6 = .ok (.putfield 9, 3) := by decide +kernel
theorem dX1_init_9 : decode cX1_init 9 = .ok (.aload_n 0, 1) := by decide +kernel
theorem dX1_init_10 : decode cX1_init 10 = .ok (.bipush 20, 2) := by decide +kernel
theorem dX1_init_12 : decode cX1_init 12 = .ok (.bipush 40, 2) := by decide +kernel
theorem dX1_init_14 : decode cX1_init 14 = .ok (.multianewarray 15 2, 4) := by decide +kernel
theorem dX1_init_18 : decode cX1_init 18 = .ok (.putfield 17, 3) := by decide +kernel
theorem dX1_init_21 : decode cX1_init 21 = .ok (.aload_n 0, 1) := by decide +kernel
theorem dX1_init_22 : decode cX1_init 22 = .ok (.bipush 6, 2) := by decide +kernel
theorem dX1_init_24 : decode cX1_init 24 = .ok (.bipush 40, 2) := by decide +kernel
theorem dX1_init_26 : decode cX1_init 26 = .ok (.multianewarray 15 2, 4) := by decide +kernel
theorem dX1_init_30 : decode cX1_init 30 = .ok (.putfield 20, 3) := by decide +kernel
theorem dX1_init_33 : decode cX1_init 33 = .ok (.aload_n 0, 1) := by decide +kernel
theorem dX1_init_34 : decode cX1_init 34 = .ok (.iconst 5, 1) := by decide +kernel
theorem dX1_init_35 : decode cX1_init 35 = .ok (.newarray .int, 2) := by decide +kernel
theorem dX1_init_37 : decode cX1_init 37 = .ok (.putfield 23, 3) := by decide +kernel
theorem dX1_init_40 : decode cX1_init 40 = .ok (.aload_n 0, 1) := by decide +kernel
theorem dX1_init_41 : decode cX1_init 41 = .ok (.new 27, 3) := by decide +kernel
theorem dX1_init_44 : decode cX1_init 44 = .ok (.dup, 1) := by decide +kernel
theorem dX1_init_45 : decode cX1_init 45 = .ok (.invokespecial 29, 3) := by decide +kernel
theorem dX1_init_48 : decode cX1_init 48 = .ok (.putfield 30, 3) := by decide +kernel
theorem dX1_init_51 : decode cX1_init 51 = .ok (.aload_n 0, 1) := by decide +kernel
theorem dX1_init_52 : decode cX1_init 52 = .ok (.iconst 5, 1) := by decide +kernel
theorem dX1_init_53 : decode cX1_init 53 = .ok (.newarray .int, 2) := by decide +kernel
theorem dX1_init_55 : decode cX1_init 55 = .ok (.putfield 34, 3) := by decide +kernel
theorem dX1_init_58 : decode cX1_init 58 = .ok (.return_, 1) := by decide +kernel
theorem dX1_search_0 : decode cX1_search 0 = .ok (.aload_n 0, 1) := by decide +kernel
theorem dX1_search_1 : decode cX1_search 1 = .ok (.aload_n 1, 1) := by decide +kernel
theorem dX1_search_2 : decode cX1_search 2 = .ok (.getfield 37, 3) := by decide +kernel
theorem dX1_search_5 : decode cX1_search 5 = .ok (.putfield 43, 3) := by decide +kernel
theorem dX1_search_8 : decode cX1_search 8 = .ok (.aload_n 0, 1) := by decide +kernel
theorem dX1_search_9 : decode cX1_search 9 = .ok (.aload_n 1, 1) := by decide +kernel
theorem dX1_search_10 : decode cX1_search 10 = .ok (.getfield 44, 3) := by decide +kernel
theorem dX1_search_13 : decode cX1_search 13 = .ok (.putfield 47, 3) := by decide +kernel
theorem dX1_search_16 : decode cX1_search 16 = .ok (.aload_n 0, 1) := by decide +kernel
theorem dX1_search_17 : decode cX1_search 17 = .ok (.iload_n 2, 1) := by decide +kernel
theorem dX1_search_18 : decode cX1_search 18 = .ok (.putfield 48, 3) := by decide +kernel
theorem dX1_search_21 : decode cX1_search 21 = .ok (.aload_n 0, 1) := by decide +kernel
theorem dX1_search_22 : decode cX1_search 22 = .ok (.iconst (-1), 1) := by decide +kernel
theorem dX1_search_23 : decode cX1_search 23 = .ok (.putfield 51, 3) := by decide +kernel
theorem dX1_search_26 : decode cX1_search 26 = .ok (.iconst 0, 1) := by decide +kernel
theorem dX1_search_27 : decode cX1_search 27 = .ok (.istore_n 3, 1) := by decide +kernel
theorem dX1_search_28 : decode cX1_search 28 = .ok (.iload_n 3, 1) := by decide +kernel
theorem dX1_search_29 : decode cX1_search 29 = .ok (.aload_n 0, 1) := by decide +kernel
theorem dX1_search_30 : decode cX1_search 30 = .ok (.getfield 9, 3) := by decide +kernel
theorem dX1_search_33 : decode cX1_search 33 = .ok (.getfield 54, 3) := by decide +kernel
theorem dX1_search_36 : decode cX1_search 36 = .ok (.if_icmp .ge 76, 3) := by decide +kernel
theorem dX1_search_39 : decode cX1_search 39 = .ok (.aload_n 1, 1) := by decide +kernel
theorem dX1_search_40 : decode cX1_search 40 = .ok (.getfield 59, 3) := by decide +kernel
theorem dX1_search_43 : decode cX1_search 43 = .ok (.iload_n 3, 1) := by decide +kernel
theorem dX1_search_44 : decode cX1_search 44 = .ok (.aaload, 1) := by decide +kernel
theorem dX1_search_45 : decode cX1_search 45 = .ok (.getfield 63, 3) := by decide +kernel
theorem dX1_search_48 : decode cX1_search 48 = .ok (.ifCond .ne 7, 3) := by decide +kernel
theorem dX1_search_51 : decode cX1_search 51 = .ok (.iconst 1, 1) := by decide +kernel
theorem dX1_search_52 : decode cX1_search 52 = .ok (.goto 4, 3) := by decide +kernel
theorem dX1_search_55 : decode cX1_search 55 = .ok (.iconst 0, 1) := by decide +kernel
theorem dX1_search_56 : decode cX1_search 56 = .ok (.istore 4, 2) := by decide +kernel
theorem dX1_search_58 : decode cX1_search 58 = .ok (.aload_n 0, 1) := by decide +kernel
theorem dX1_search_59 : decode cX1_search 59 = .ok (.getfield 23, 3) := by decide +kernel
theorem dX1_search_62 : decode cX1_search 62 = .ok (.iload_n 3, 1) := by decide +kernel
theorem dX1_search_63 : decode cX1_search 63 = .ok (.iload 4, 2) := by decide +kernel
theorem dX1_search_65 : decode cX1_search 65 = .ok (.ifCond .eq 7, 3) := by decide +kernel
theorem dX1_search_68 : decode cX1_search 68 = .ok (.iconst 0, 1) := by decide +kernel
theorem dX1_search_69 : decode cX1_search 69 = .ok (.goto 4, 3) := by decide +kernel
theorem dX1_search_72 : decode cX1_search 72 = .ok (.iconst (-1), 1) := by decide +kernel
theorem dX1_search_73 : decode cX1_search 73 = .ok (.iastore, 1) := by decide +kernel
theorem dX1_search_74 : decode cX1_search 74 = .ok (.iconst 0, 1) := by decide +kernel
theorem dX1_search_75 : decode cX1_search 75 = .ok (.istore 5, 2) := by decide +kernel
theorem dX1_search_77 : decode cX1_search 77 = .ok (.iload 5, 2) := by decide +kernel
theorem dX1_search_79 : decode cX1_search 79 = .ok (.iload 4, 2) := by decide +kernel
theorem dX1_search_81 : decode cX1_search 81 = .ok (.ifCond .eq 7, 3) := by decide +kernel
theorem dX1_search_84 : decode cX1_search 84 = .ok (.iconst 4, 1) := by decide +kernel
theorem dX1_search_85 : decode cX1_search 85 = .ok (.goto 4, 3) := by decide +kernel
theorem dX1_search_88 : decode cX1_search 88 = .ok (.iconst 1, 1) := by decide +kernel
theorem dX1_search_89 : decode cX1_search 89 = .ok (.if_icmp .ge 17, 3) := by decide +kernel
theorem dX1_search_92 : decode cX1_search 92 = .ok (.aload_n 0, 1) := by decide +kernel
theorem dX1_search_93 : decode cX1_search 93 = .ok (.aload_n 1, 1) := by decide +kernel
theorem dX1_search_94 : decode cX1_search 94 = .ok (.iload_n 3, 1) := by decide +kernel
theorem dX1_search_95 : decode cX1_search 95 = .ok (.iload 5, 2) := by decide +kernel
theorem dX1_search_97 : decode cX1_search 97 = .ok (.invokevirtual 66, 3) := by decide +kernel
theorem dX1_search_100 : decode cX1_search 100 = .ok (.iinc 5 1, 3) := by decide +kernel
theorem dX1_search_103 : decode cX1_search 103 = .ok (.goto (-26), 3) := by decide +kernel
theorem dX1_search_106 : decode cX1_search 106 = .ok (.iinc 3 1, 3) := by decide +kernel
theorem dX1_search_109 : decode cX1_search 109 = .ok (.goto (-81), 3) := by decide +kernel
theorem dX1_search_112 : decode cX1_search 112 = .ok (.aload_n 0, 1) := by decide +kernel
theorem dX1_search_113 : decode cX1_search 113 = .ok (.iconst 0, 1) := by decide +kernel
theorem dX1_search_114 : decode cX1_search 114 = .ok (.invokevirtual 70, 3) := by decide +kernel
theorem dX1_search_117 : decode cX1_search 117 = .ok (.return_, 1) := by decide +kernel
theorem dX1_fill_0 : decode cX1_fill 0 = .ok (.aload_n 0, 1) := by decide +kernel
theorem dX1_fill_1 : decode cX1_fill 1 = .ok (.getfield 17, 3) := by decide +kernel
theorem dX1_fill_4 : decode cX1_fill 4 = .ok (.iload_n 2, 1) := by decide +kernel
theorem dX1_fill_5 : decode cX1_fill 5 = .ok (.iconst 4, 1) := by decide +kernel
theorem dX1_fill_6 : decode cX1_fill 6 = .ok (.imul, 1) := by decide +kernel
theorem dX1_fill_7 : decode cX1_fill 7 = .ok (.iload_n 3, 1) := by decide +kernel
theorem dX1_fill_8 : decode cX1_fill 8 = .ok (.iadd, 1) := by decide +kernel
theorem dX1_fill_9 : decode cX1_fill 9 = .ok (.aaload, 1) := by decide +kernel
theorem dX1_fill_10 : decode cX1_fill 10 = .ok (.astore 4, 2) := by decide +kernel
theorem dX1_fill_12 : decode cX1_fill 12 = .ok (.aload_n 0, 1) := by decide +kernel
theorem dX1_fill_13 : decode cX1_fill 13 = .ok (.getfield 30, 3) := by decide +kernel
theorem dX1_fill_16 : decode cX1_fill 16 = .ok (.aload_n 1, 1) := by decide +kernel
theorem dX1_fill_17 : decode cX1_fill 17 = .ok (.getfield 59, 3) := by decide +kernel
theorem dX1_fill_20 : decode cX1_fill 20 = .ok (.iload_n 2, 1) := by decide +kernel
theorem dX1_fill_21 : decode cX1_fill 21 = .ok (.aaload, 1) := by decide +kernel
theorem dX1_fill_22 : decode cX1_fill 22 = .ok (.invokevirtual 74, 3) := by decide +kernel
theorem dX1_fill_25 : decode cX1_fill 25 = .ok (.iconst 0, 1) := by decide +kernel
theorem dX1_fill_26 : decode cX1_fill 26 = .ok (.istore 5, 2) := by decide +kernel
theorem dX1_fill_28 : decode cX1_fill 28 = .ok (.iload 5, 2) := by decide +kernel
theorem dX1_fill_30 : decode cX1_fill 30 = .ok (.aload_n 0, 1) := by decide +kernel
theorem dX1_fill_31 : decode cX1_fill 31 = .ok (.getfield 48, 3) := by decide +kernel
theorem dX1_fill_34 : decode cX1_fill 34 = .ok (.if_icmp .ge 76, 3) := by decide +kernel
theorem dX1_fill_37 : decode cX1_fill 37 = .ok (.iload 5, 2) := by decide +kernel
theorem dX1_fill_39 : decode cX1_fill 39 = .ok (.iload_n 3, 1) := by decide +kernel
theorem dX1_fill_40 : decode cX1_fill 40 = .ok (.if_icmp .ne 29, 3) := by decide +kernel
theorem dX1_fill_43 : decode cX1_fill 43 = .ok (.aload_n 0, 1) := by decide +kernel
theorem dX1_fill_44 : decode cX1_fill 44 = .ok (.getfield 30, 3) := by decide +kernel
theorem dX1_fill_47 : decode cX1_fill 47 = .ok (.getfield 63, 3) := by decide +kernel
theorem dX1_fill_50 : decode cX1_fill 50 = .ok (.ifCond .ne 19, 3) := by decide +kernel
theorem dX1_fill_53 : decode cX1_fill 53 = .ok (.aload_n 0, 1) := by decide +kernel
theorem dX1_fill_54 : decode cX1_fill 54 = .ok (.getfield 30, 3) := by decide +kernel
theorem dX1_fill_57 : decode cX1_fill 57 = .ok (.aload_n 0, 1) := by decide +kernel
theorem dX1_fill_58 : decode cX1_fill 58 = .ok (.getfield 9, 3) := by decide +kernel
theorem dX1_fill_61 : decode cX1_fill 61 = .ok (.getfield 78, 3) := by decide +kernel
theorem dX1_fill_64 : decode cX1_fill 64 = .ok (.iload_n 2, 1) := by decide +kernel
theorem dX1_fill_65 : decode cX1_fill 65 = .ok (.aaload, 1) := by decide +kernel
theorem dX1_fill_66 : decode cX1_fill 66 = .ok (.invokevirtual 82, 3) := by decide +kernel
theorem dX1_fill_69 : decode cX1_fill 69 = .ok (.aload 4, 2) := by decide +kernel
theorem dX1_fill_71 : decode cX1_fill 71 = .ok (.iload 5, 2) := by decide +kernel
theorem dX1_fill_73 : decode cX1_fill 73 = .ok (.aload_n 0, 1) := by decide +kernel
theorem dX1_fill_74 : decode cX1_fill 74 = .ok (.getfield 30, 3) := by decide +kernel
theorem dX1_fill_77 : decode cX1_fill 77 = .ok (.aload_n 0, 1) := by decide +kernel
theorem dX1_fill_78 : decode cX1_fill 78 = .ok (.getfield 9, 3) := by decide +kernel
theorem dX1_fill_81 : decode cX1_fill 81 = .ok (.getfield 78, 3) := by decide +kernel
theorem dX1_fill_84 : decode cX1_fill 84 = .ok (.iload_n 2, 1) := by decide +kernel
theorem dX1_fill_85 : decode cX1_fill 85 = .ok (.aaload, 1) := by decide +kernel
theorem dX1_fill_86 : decode cX1_fill 86 = .ok (.aload_n 0, 1) := by decide +kernel
theorem dX1_fill_87 : decode cX1_fill 87 = .ok (.getfield 9, 3) := by decide +kernel
theorem dX1_fill_90 : decode cX1_fill 90 = .ok (.aload_n 1, 1) := by decide +kernel
theorem dX1_fill_91 : decode cX1_fill 91 = .ok (.getfield 86, 3) := by decide +kernel
theorem dX1_fill_94 : decode cX1_fill 94 = .ok (.iload 5, 2) := by decide +kernel
theorem dX1_fill_96 : decode cX1_fill 96 = .ok (.iadd, 1) := by decide +kernel
theorem dX1_fill_97 : decode cX1_fill 97 = .ok (.invokevirtual 89, 3) := by decide +kernel
theorem dX1_fill_100 : decode cX1_fill 100 = .ok (.invokevirtual 93, 3) := by decide +kernel
theorem dX1_fill_103 : decode cX1_fill 103 = .ok (.iastore, 1) := by decide +kernel
theorem dX1_fill_104 : decode cX1_fill 104 = .ok (.iinc 5 1, 3) := by decide +kernel
theorem dX1_fill_107 : decode cX1_fill 107 = .ok (.goto (-79), 3) := by decide +kernel
theorem dX1_fill_110 : decode cX1_fill 110 = .ok (.return_, 1) := by decide +kernel
theorem dX1_tryFrom_0 : decode cX1_tryFrom 0 = .ok (.iload_n 1, 1) := by decide +kernel
theorem dX1_tryFrom_1 : decode cX1_tryFrom 1 = .ok (.aload_n 0, 1) := by decide +kernel
theorem dX1_tryFrom_2 : decode cX1_tryFrom 2 = .ok (.getfield 9, 3) := by decide +kernel
theorem dX1_tryFrom_5 : decode cX1_tryFrom 5 = .ok (.getfield 54, 3) := by decide +kernel
theorem dX1_tryFrom_8 : decode cX1_tryFrom 8 = .ok (.if_icmp .ge 8, 3) := by decide +kernel
theorem dX1_tryFrom_11 : decode cX1_tryFrom 11 = .ok (.iload_n 1, 1) := by decide +kernel
theorem dX1_tryFrom_12 : decode cX1_tryFrom 12 = .ok (.iconst 5, 1) := by decide +kernel
theorem dX1_tryFrom_13 : decode cX1_tryFrom 13 = .ok (.if_icmp .lt 14, 3) := by decide +kernel
theorem dX1_tryFrom_16 : decode cX1_tryFrom 16 = .ok (.aload_n 0, 1) := by decide +kernel
theorem dX1_tryFrom_17 : decode cX1_tryFrom 17 = .ok (.aload_n 0, 1) := by decide +kernel
theorem dX1_tryFrom_18 : decode cX1_tryFrom 18 = .ok (.getfield 20, 3) := by decide +kernel
theorem dX1_tryFrom_21 : decode cX1_tryFrom 21 = .ok (.iload_n 1, 1) := by decide +kernel
theorem dX1_tryFrom_22 : decode cX1_tryFrom 22 = .ok (.aaload, 1) := by decide +kernel
theorem dX1_tryFrom_23 : decode cX1_tryFrom 23 = .ok (.invokevirtual 97, 3) := by decide +kernel
theorem dX1_tryFrom_26 : decode cX1_tryFrom 26 = .ok (.return_, 1) := by decide +kernel
theorem dX1_tryFrom_27 : decode cX1_tryFrom 27 = .ok (.aload_n 0, 1) := by decide +kernel
theorem dX1_tryFrom_28 : decode cX1_tryFrom 28 = .ok (.getfield 23, 3) := by decide +kernel
theorem dX1_tryFrom_31 : decode cX1_tryFrom 31 = .ok (.iload_n 1, 1) := by decide +kernel
theorem dX1_tryFrom_32 : decode cX1_tryFrom 32 = .ok (.iaload, 1) := by decide +kernel
theorem dX1_tryFrom_33 : decode cX1_tryFrom 33 = .ok (.iconst (-1), 1) := by decide +kernel
theorem dX1_tryFrom_34 : decode cX1_tryFrom 34 = .ok (.if_icmp .ne 17, 3) := by decide +kernel
theorem dX1_tryFrom_37 : decode cX1_tryFrom 37 = .ok (.aload_n 0, 1) := by decide +kernel
theorem dX1_tryFrom_38 : decode cX1_tryFrom 38 = .ok (.iload_n 1, 1) := by decide +kernel
theorem dX1_tryFrom_39 : decode cX1_tryFrom 39 = .ok (.iconst 0, 1) := by decide +kernel
theorem dX1_tryFrom_40 : decode cX1_tryFrom 40 = .ok (.invokevirtual 101, 3) := by decide +kernel
theorem dX1_tryFrom_43 : decode cX1_tryFrom 43 = .ok (.aload_n 0, 1) := by decide +kernel
theorem dX1_tryFrom_44 : decode cX1_tryFrom 44 = .ok (.iload_n 1, 1) := by decide +kernel
theorem dX1_tryFrom_45 : decode cX1_tryFrom 45 = .ok (.iconst 1, 1) := by decide +kernel
theorem dX1_tryFrom_46 : decode cX1_tryFrom 46 = .ok (.iadd, 1) := by decide +kernel
theorem dX1_tryFrom_47 : decode cX1_tryFrom 47 = .ok (.invokevirtual 70, 3) := by decide +kernel
theorem dX1_tryFrom_50 : decode cX1_tryFrom 50 = .ok (.return_, 1) := by decide +kernel
theorem dX1_tryFrom_51 : decode cX1_tryFrom 51 = .ok (.iconst 0, 1) := by decide +kernel
theorem dX1_tryFrom_52 : decode cX1_tryFrom 52 = .ok (.istore_n 2, 1) := by decide +kernel
theorem dX1_tryFrom_53 : decode cX1_tryFrom 53 = .ok (.iload_n 2, 1) := by decide +kernel
theorem dX1_tryFrom_54 : decode cX1_tryFrom 54 = .ok (.iconst 4, 1) := by decide +kernel
theorem dX1_tryFrom_55 : decode cX1_tryFrom 55 = .ok (.if_icmp .ge 43, 3) := by decide +kernel
theorem dX1_tryFrom_58 : decode cX1_tryFrom 58 = .ok (.aload_n 0, 1) := by decide +kernel
theorem dX1_tryFrom_59 : decode cX1_tryFrom 59 = .ok (.getfield 51, 3) := by decide +kernel
theorem dX1_tryFrom_62 : decode cX1_tryFrom 62 = .ok (.aload_n 0, 1) := by decide +kernel
theorem dX1_tryFrom_63 : decode cX1_tryFrom 63 = .ok (.getfield 9, 3) := by decide +kernel
theorem dX1_tryFrom_66 : decode cX1_tryFrom 66 = .ok (.getfield 105, 3) := by decide +kernel
theorem dX1_tryFrom_69 : decode cX1_tryFrom 69 = .ok (.if_icmp .ge 29, 3) := by decide +kernel
theorem dX1_tryFrom_72 : decode cX1_tryFrom 72 = .ok (.aload_n 0, 1) := by decide +kernel
theorem dX1_tryFrom_73 : decode cX1_tryFrom 73 = .ok (.getfield 23, 3) := by decide +kernel
theorem dX1_tryFrom_76 : decode cX1_tryFrom 76 = .ok (.iload_n 1, 1) := by decide +kernel
theorem dX1_tryFrom_77 : decode cX1_tryFrom 77 = .ok (.iload_n 2, 1) := by decide +kernel
theorem dX1_tryFrom_78 : decode cX1_tryFrom 78 = .ok (.iastore, 1) := by decide +kernel
theorem dX1_tryFrom_79 : decode cX1_tryFrom 79 = .ok (.aload_n 0, 1) := by decide +kernel
theorem dX1_tryFrom_80 : decode cX1_tryFrom 80 = .ok (.iload_n 1, 1) := by decide +kernel
theorem dX1_tryFrom_81 : decode cX1_tryFrom 81 = .ok (.iload_n 2, 1) := by decide +kernel
theorem dX1_tryFrom_82 : decode cX1_tryFrom 82 = .ok (.invokevirtual 101, 3) := by decide +kernel
theorem dX1_tryFrom_85 : decode cX1_tryFrom 85 = .ok (.aload_n 0, 1) := by decide +kernel
theorem dX1_tryFrom_86 : decode cX1_tryFrom 86 = .ok (.iload_n 1, 1) := by decide +kernel
theorem dX1_tryFrom_87 : decode cX1_tryFrom 87 = .ok (.iconst 1, 1) := by decide +kernel
theorem dX1_tryFrom_88 : decode cX1_tryFrom 88 = .ok (.iadd, 1) := by decide +kernel
theorem dX1_tryFrom_89 : decode cX1_tryFrom 89 = .ok (.invokevirtual 70, 3) := by decide +kernel
theorem dX1_tryFrom_92 : decode cX1_tryFrom 92 = .ok (.iinc 2 1, 3) := by decide +kernel
theorem dX1_tryFrom_95 : decode cX1_tryFrom 95 = .ok (.goto (-42), 3) := by decide +kernel
theorem dX1_tryFrom_98 : decode cX1_tryFrom 98 = .ok (.return_, 1) := by decide +kernel
theorem dX1_addRow_0 : decode cX1_addRow 0 = .ok (.aload_n 0, 1) := by decide +kernel
theorem dX1_addRow_1 : decode cX1_addRow 1 = .ok (.getfield 20, 3) := by decide +kernel
theorem dX1_addRow_4 : decode cX1_addRow 4 = .ok (.iload_n 1, 1) := by decide +kernel
theorem dX1_addRow_5 : decode cX1_addRow 5 = .ok (.aaload, 1) := by decide +kernel
theorem dX1_addRow_6 : decode cX1_addRow 6 = .ok (.astore_n 3, 1) := by decide +kernel
theorem dX1_addRow_7 : decode cX1_addRow 7 = .ok (.aload_n 0, 1) := by decide +kernel
theorem dX1_addRow_8 : decode cX1_addRow 8 = .ok (.getfield 17, 3) := by decide +kernel
theorem dX1_addRow_11 : decode cX1_addRow 11 = .ok (.iload_n 1, 1) := by decide +kernel
theorem dX1_addRow_12 : decode cX1_addRow 12 = .ok (.iconst 4, 1) := by decide +kernel
theorem dX1_addRow_13 : decode cX1_addRow 13 = .ok (.imul, 1) := by decide +kernel
theorem dX1_addRow_14 : decode cX1_addRow 14 = .ok (.iload_n 2, 1) := by decide +kernel
theorem dX1_addRow_15 : decode cX1_addRow 15 = .ok (.iadd, 1) := by decide +kernel
theorem dX1_addRow_16 : decode cX1_addRow 16 = .ok (.aaload, 1) := by decide +kernel
theorem dX1_addRow_17 : decode cX1_addRow 17 = .ok (.astore 4, 2) := by decide +kernel
theorem dX1_addRow_19 : decode cX1_addRow 19 = .ok (.aload_n 0, 1) := by decide +kernel
theorem dX1_addRow_20 : decode cX1_addRow 20 = .ok (.getfield 20, 3) := by decide +kernel
theorem dX1_addRow_23 : decode cX1_addRow 23 = .ok (.iload_n 1, 1) := by decide +kernel
theorem dX1_addRow_24 : decode cX1_addRow 24 = .ok (.iconst 1, 1) := by decide +kernel
theorem dX1_addRow_25 : decode cX1_addRow 25 = .ok (.iadd, 1) := by decide +kernel
theorem dX1_addRow_26 : decode cX1_addRow 26 = .ok (.aaload, 1) := by decide +kernel
theorem dX1_addRow_27 : decode cX1_addRow 27 = .ok (.astore 5, 2) := by decide +kernel
theorem dX1_addRow_29 : decode cX1_addRow 29 = .ok (.iconst 0, 1) := by decide +kernel
theorem dX1_addRow_30 : decode cX1_addRow 30 = .ok (.istore 6, 2) := by decide +kernel
theorem dX1_addRow_32 : decode cX1_addRow 32 = .ok (.iload 6, 2) := by decide +kernel
theorem dX1_addRow_34 : decode cX1_addRow 34 = .ok (.aload_n 0, 1) := by decide +kernel
theorem dX1_addRow_35 : decode cX1_addRow 35 = .ok (.getfield 48, 3) := by decide +kernel
theorem dX1_addRow_38 : decode cX1_addRow 38 = .ok (.if_icmp .ge 24, 3) := by decide +kernel
theorem dX1_addRow_41 : decode cX1_addRow 41 = .ok (.aload 5, 2) := by decide +kernel
theorem dX1_addRow_43 : decode cX1_addRow 43 = .ok (.iload 6, 2) := by decide +kernel
theorem dX1_addRow_45 : decode cX1_addRow 45 = .ok (.aload_n 3, 1) := by decide +kernel
theorem dX1_addRow_46 : decode cX1_addRow 46 = .ok (.iload 6, 2) := by decide +kernel
theorem dX1_addRow_48 : decode cX1_addRow 48 = .ok (.iaload, 1) := by decide +kernel
theorem dX1_addRow_49 : decode cX1_addRow 49 = .ok (.aload 4, 2) := by decide +kernel
theorem dX1_addRow_51 : decode cX1_addRow 51 = .ok (.iload 6, 2) := by decide +kernel
theorem dX1_addRow_53 : decode cX1_addRow 53 = .ok (.iaload, 1) := by decide +kernel
theorem dX1_addRow_54 : decode cX1_addRow 54 = .ok (.iadd, 1) := by decide +kernel
theorem dX1_addRow_55 : decode cX1_addRow 55 = .ok (.iastore, 1) := by decide +kernel
theorem dX1_addRow_56 : decode cX1_addRow 56 = .ok (.iinc 6 1, 3) := by decide +kernel
theorem dX1_addRow_59 : decode cX1_addRow 59 = .ok (.goto (-27), 3) := by decide +kernel
theorem dX1_addRow_62 : decode cX1_addRow 62 = .ok (.return_, 1) := by decide +kernel
theorem dX1_judge_0 : decode cX1_judge 0 = .ok (.aload_n 0, 1) := by decide +kernel
theorem dX1_judge_1 : decode cX1_judge 1 = .ok (.getfield 9, 3) := by decide +kernel
theorem dX1_judge_4 : decode cX1_judge 4 = .ok (.getfield 105, 3) := by decide +kernel
theorem dX1_judge_7 : decode cX1_judge 7 = .ok (.istore_n 2, 1) := by decide +kernel
theorem dX1_judge_8 : decode cX1_judge 8 = .ok (.aload_n 0, 1) := by decide +kernel
theorem dX1_judge_9 : decode cX1_judge 9 = .ok (.getfield 43, 3) := by decide +kernel
theorem dX1_judge_12 : decode cX1_judge 12 = .ok (.istore_n 3, 1) := by decide +kernel
theorem dX1_judge_13 : decode cX1_judge 13 = .ok (.aload_n 0, 1) := by decide +kernel
theorem dX1_judge_14 : decode cX1_judge 14 = .ok (.getfield 43, 3) := by decide +kernel
theorem dX1_judge_17 : decode cX1_judge 17 = .ok (.istore 4, 2) := by decide +kernel
theorem dX1_judge_19 : decode cX1_judge 19 = .ok (.iconst 0, 1) := by decide +kernel
theorem dX1_judge_20 : decode cX1_judge 20 = .ok (.istore 5, 2) := by decide +kernel
theorem dX1_judge_22 : decode cX1_judge 22 = .ok (.iload 5, 2) := by decide +kernel
theorem dX1_judge_24 : decode cX1_judge 24 = .ok (.aload_n 0, 1) := by decide +kernel
theorem dX1_judge_25 : decode cX1_judge 25 = .ok (.getfield 48, 3) := by decide +kernel
theorem dX1_judge_28 : decode cX1_judge 28 = .ok (.if_icmp .ge 43, 3) := by decide +kernel
theorem dX1_judge_31 : decode cX1_judge 31 = .ok (.iload_n 2, 1) := by decide +kernel
theorem dX1_judge_32 : decode cX1_judge 32 = .ok (.iload 4, 2) := by decide +kernel
theorem dX1_judge_34 : decode cX1_judge 34 = .ok (.aload_n 1, 1) := by decide +kernel
theorem dX1_judge_35 : decode cX1_judge 35 = .ok (.iload 5, 2) := by decide +kernel
theorem dX1_judge_37 : decode cX1_judge 37 = .ok (.iaload, 1) := by decide +kernel
theorem dX1_judge_38 : decode cX1_judge 38 = .ok (.iadd, 1) := by decide +kernel
theorem dX1_judge_39 : decode cX1_judge 39 = .ok (.invokestatic 108, 3) := by decide +kernel
theorem dX1_judge_42 : decode cX1_judge 42 = .ok (.istore 6, 2) := by decide +kernel
theorem dX1_judge_44 : decode cX1_judge 44 = .ok (.iload_n 3, 1) := by decide +kernel
theorem dX1_judge_45 : decode cX1_judge 45 = .ok (.iload 6, 2) := by decide +kernel
theorem dX1_judge_47 : decode cX1_judge 47 = .ok (.invokestatic 114, 3) := by decide +kernel
theorem dX1_judge_50 : decode cX1_judge 50 = .ok (.istore_n 3, 1) := by decide +kernel
theorem dX1_judge_51 : decode cX1_judge 51 = .ok (.iload 6, 2) := by decide +kernel
theorem dX1_judge_53 : decode cX1_judge 53 = .ok (.iload 6, 2) := by decide +kernel
theorem dX1_judge_55 : decode cX1_judge 55 = .ok (.aload_n 0, 1) := by decide +kernel
theorem dX1_judge_56 : decode cX1_judge 56 = .ok (.getfield 47, 3) := by decide +kernel
theorem dX1_judge_59 : decode cX1_judge 59 = .ok (.invokestatic 117, 3) := by decide +kernel
theorem dX1_judge_62 : decode cX1_judge 62 = .ok (.isub, 1) := by decide +kernel
theorem dX1_judge_63 : decode cX1_judge 63 = .ok (.istore 4, 2) := by decide +kernel
theorem dX1_judge_65 : decode cX1_judge 65 = .ok (.iinc 5 1, 3) := by decide +kernel
theorem dX1_judge_68 : decode cX1_judge 68 = .ok (.goto (-46), 3) := by decide +kernel
theorem dX1_judge_71 : decode cX1_judge 71 = .ok (.iload_n 3, 1) := by decide +kernel
theorem dX1_judge_72 : decode cX1_judge 72 = .ok (.aload_n 0, 1) := by decide +kernel
theorem dX1_judge_73 : decode cX1_judge 73 = .ok (.getfield 51, 3) := by decide +kernel
theorem dX1_judge_76 : decode cX1_judge 76 = .ok (.if_icmp .le 22, 3) := by decide +kernel
theorem dX1_judge_79 : decode cX1_judge 79 = .ok (.aload_n 0, 1) := by decide +kernel
theorem dX1_judge_80 : decode cX1_judge 80 = .ok (.iload_n 3, 1) := by decide +kernel
theorem dX1_judge_81 : decode cX1_judge 81 = .ok (.putfield 51, 3) := by decide +kernel
theorem dX1_judge_84 : decode cX1_judge 84 = .ok (.aload_n 0, 1) := by decide +kernel
theorem dX1_judge_85 : decode cX1_judge 85 = .ok (.getfield 23, 3) := by decide +kernel
theorem dX1_judge_88 : decode cX1_judge 88 = .ok (.iconst 0, 1) := by decide +kernel
theorem dX1_judge_89 : decode cX1_judge 89 = .ok (.aload_n 0, 1) := by decide +kernel
theorem dX1_judge_90 : decode cX1_judge 90 = .ok (.getfield 34, 3) := by decide +kernel
theorem dX1_judge_93 : decode cX1_judge 93 = .ok (.iconst 0, 1) := by decide +kernel
theorem dX1_judge_94 : decode cX1_judge 94 = .ok (.iconst 5, 1) := by decide +kernel
theorem dX1_judge_95 : decode cX1_judge 95 = .ok (.invokestatic 120, 3) := by decide +kernel
theorem dX1_judge_98 : decode cX1_judge 98 = .ok (.return_, 1) := by decide +kernel
theorem dX2_init_0 : decode cX2_init 0 = .ok (.aload_n 0, 1) := by decide +kernel
theorem dX2_init_1 : decode cX2_init 1 = .ok (.invokespecial 3, 3) := by decide +kernel
theorem dX2_init_4 : decode cX2_init 4 = .ok (.aload_n 0, 1) := by decide +kernel
theorem dX2_init_5 : decode cX2_init 5 = .ok (.aload_n 1, 1) := by decide +kernel
theorem dX2_init_6 : decode cX2_init 6 = .ok (.putfield 9, 3) := by decide +kernel
theorem dX2_init_9 : decode cX2_init 9 = .ok (.aload_n 0, 1) := by decide +kernel
theorem dX2_init_10 : decode cX2_init 10 = .ok (.iconst 5, 1) := by decide +kernel
theorem dX2_init_11 : decode cX2_init 11 = .ok (.bipush 99, 2) := by decide +kernel
theorem dX2_init_13 : decode cX2_init 13 = .ok (.multianewarray 15 2, 4) := by decide +kernel
theorem dX2_init_17 : decode cX2_init 17 = .ok (.putfield 17, 3) := by decide +kernel
theorem dX2_init_20 : decode cX2_init 20 = .ok (.aload_n 0, 1) := by decide +kernel
theorem dX2_init_21 : decode cX2_init 21 = .ok (.new 20, 3) := by decide +kernel
theorem dX2_init_24 : decode cX2_init 24 = .ok (.dup, 1) := by decide +kernel
theorem dX2_init_25 : decode cX2_init 25 = .ok (.invokespecial 22, 3) := by decide +kernel
theorem dX2_init_28 : decode cX2_init 28 = .ok (.putfield 23, 3) := by decide +kernel
theorem dX2_init_31 : decode cX2_init 31 = .ok (.aload_n 0, 1) := by decide +kernel
theorem dX2_init_32 : decode cX2_init 32 = .ok (.bipush 100, 2) := by decide +kernel
theorem dX2_init_34 : decode cX2_init 34 = .ok (.newarray .int, 2) := by decide +kernel
theorem dX2_init_36 : decode cX2_init 36 = .ok (.putfield 27, 3) := by decide +kernel
theorem dX2_init_39 : decode cX2_init 39 = .ok (.return_, 1) := by decide +kernel
theorem dX2_takeAll_0 : decode cX2_takeAll 0 = .ok (.iconst 0, 1) := by decide +kernel
theorem dX2_takeAll_1 : decode cX2_takeAll 1 = .ok (.istore_n 3, 1) := by decide +kernel
theorem dX2_takeAll_2 : decode cX2_takeAll 2 = .ok (.iload_n 3, 1) := by decide +kernel
theorem dX2_takeAll_3 : decode cX2_takeAll 3 = .ok (.aload_n 0, 1) := by decide +kernel
theorem dX2_takeAll_4 : decode cX2_takeAll 4 = .ok (.getfield 9, 3) := by decide +kernel
theorem dX2_takeAll_7 : decode cX2_takeAll 7 = .ok (.getfield 31, 3) := by decide +kernel
theorem dX2_takeAll_10 : decode cX2_takeAll 10 = .ok (.if_icmp .ge 32, 3) := by decide +kernel
theorem dX2_takeAll_13 : decode cX2_takeAll 13 = .ok (.aload_n 0, 1) := by decide +kernel
theorem dX2_takeAll_14 : decode cX2_takeAll 14 = .ok (.getfield 23, 3) := by decide +kernel
theorem dX2_takeAll_17 : decode cX2_takeAll 17 = .ok (.aload_n 1, 1) := by decide +kernel
theorem dX2_takeAll_18 : decode cX2_takeAll 18 = .ok (.getfield 37, 3) := by decide +kernel
theorem dX2_takeAll_21 : decode cX2_takeAll 21 = .ok (.iload_n 3, 1) := by decide +kernel
theorem dX2_takeAll_22 : decode cX2_takeAll 22 = .ok (.aaload, 1) := by decide +kernel
theorem dX2_takeAll_23 : decode cX2_takeAll 23 = .ok (.invokevirtual 43, 3) := by decide +kernel
theorem dX2_takeAll_26 : decode cX2_takeAll 26 = .ok (.aload_n 0, 1) := by decide +kernel
theorem dX2_takeAll_27 : decode cX2_takeAll 27 = .ok (.iload_n 3, 1) := by decide +kernel
theorem dX2_takeAll_28 : decode cX2_takeAll 28 = .ok (.aload_n 1, 1) := by decide +kernel
theorem dX2_takeAll_29 : decode cX2_takeAll 29 = .ok (.getfield 47, 3) := by decide +kernel
theorem dX2_takeAll_32 : decode cX2_takeAll 32 = .ok (.iload_n 2, 1) := by decide +kernel
theorem dX2_takeAll_33 : decode cX2_takeAll 33 = .ok (.invokevirtual 50, 3) := by decide +kernel
theorem dX2_takeAll_36 : decode cX2_takeAll 36 = .ok (.iinc 3 1, 3) := by decide +kernel
theorem dX2_takeAll_39 : decode cX2_takeAll 39 = .ok (.goto (-37), 3) := by decide +kernel
theorem dX2_takeAll_42 : decode cX2_takeAll 42 = .ok (.aload_n 0, 1) := by decide +kernel
theorem dX2_takeAll_43 : decode cX2_takeAll 43 = .ok (.iconst 1, 1) := by decide +kernel
theorem dX2_takeAll_44 : decode cX2_takeAll 44 = .ok (.aload_n 0, 1) := by decide +kernel
theorem dX2_takeAll_45 : decode cX2_takeAll 45 = .ok (.getfield 9, 3) := by decide +kernel
theorem dX2_takeAll_48 : decode cX2_takeAll 48 = .ok (.getfield 31, 3) := by decide +kernel
theorem dX2_takeAll_51 : decode cX2_takeAll 51 = .ok (.ishl, 1) := by decide +kernel
theorem dX2_takeAll_52 : decode cX2_takeAll 52 = .ok (.iconst 1, 1) := by decide +kernel
theorem dX2_takeAll_53 : decode cX2_takeAll 53 = .ok (.isub, 1) := by decide +kernel
theorem dX2_takeAll_54 : decode cX2_takeAll 54 = .ok (.putfield 54, 3) := by decide +kernel
theorem dX2_takeAll_57 : decode cX2_takeAll 57 = .ok (.return_, 1) := by decide +kernel
theorem dX2_takeOne_0 : decode cX2_takeOne 0 = .ok (.aload_n 0, 1) := by decide +kernel
theorem dX2_takeOne_1 : decode cX2_takeOne 1 = .ok (.getfield 23, 3) := by decide +kernel
theorem dX2_takeOne_4 : decode cX2_takeOne 4 = .ok (.aload_n 1, 1) := by decide +kernel
theorem dX2_takeOne_5 : decode cX2_takeOne 5 = .ok (.getfield 37, 3) := by decide +kernel
theorem dX2_takeOne_8 : decode cX2_takeOne 8 = .ok (.iload_n 2, 1) := by decide +kernel
theorem dX2_takeOne_9 : decode cX2_takeOne 9 = .ok (.aaload, 1) := by decide +kernel
theorem dX2_takeOne_10 : decode cX2_takeOne 10 = .ok (.invokevirtual 43, 3) := by decide +kernel
theorem dX2_takeOne_13 : decode cX2_takeOne 13 = .ok (.aload_n 0, 1) := by decide +kernel
theorem dX2_takeOne_14 : decode cX2_takeOne 14 = .ok (.getfield 23, 3) := by decide +kernel
theorem dX2_takeOne_17 : decode cX2_takeOne 17 = .ok (.dup, 1) := by decide +kernel
theorem dX2_takeOne_18 : decode cX2_takeOne 18 = .ok (.getfield 57, 3) := by decide +kernel
theorem dX2_takeOne_21 : decode cX2_takeOne 21 = .ok (.iload_n 3, 1) := by decide +kernel
theorem dX2_takeOne_22 : decode cX2_takeOne 22 = .ok (.iadd, 1) := by decide +kernel
theorem dX2_takeOne_23 : decode cX2_takeOne 23 = .ok (.putfield 57, 3) := by decide +kernel
theorem dX2_takeOne_26 : decode cX2_takeOne 26 = .ok (.aload_n 0, 1) := by decide +kernel
theorem dX2_takeOne_27 : decode cX2_takeOne 27 = .ok (.iload_n 2, 1) := by decide +kernel
theorem dX2_takeOne_28 : decode cX2_takeOne 28 = .ok (.aload_n 1, 1) := by decide +kernel
theorem dX2_takeOne_29 : decode cX2_takeOne 29 = .ok (.getfield 47, 3) := by decide +kernel
theorem dX2_takeOne_32 : decode cX2_takeOne 32 = .ok (.iload 4, 2) := by decide +kernel
theorem dX2_takeOne_34 : decode cX2_takeOne 34 = .ok (.invokevirtual 50, 3) := by decide +kernel
theorem dX2_takeOne_37 : decode cX2_takeOne 37 = .ok (.return_, 1) := by decide +kernel
theorem dX2_takeBegun_0 : decode cX2_takeBegun 0 = .ok (.iconst 0, 1) := by decide +kernel
theorem dX2_takeBegun_1 : decode cX2_takeBegun 1 = .ok (.istore_n 2, 1) := by decide +kernel
theorem dX2_takeBegun_2 : decode cX2_takeBegun 2 = .ok (.iload_n 2, 1) := by decide +kernel
theorem dX2_takeBegun_3 : decode cX2_takeBegun 3 = .ok (.aload_n 0, 1) := by decide +kernel
theorem dX2_takeBegun_4 : decode cX2_takeBegun 4 = .ok (.getfield 9, 3) := by decide +kernel
theorem dX2_takeBegun_7 : decode cX2_takeBegun 7 = .ok (.getfield 31, 3) := by decide +kernel
theorem dX2_takeBegun_10 : decode cX2_takeBegun 10 = .ok (.if_icmp .ge 39, 3) := by decide +kernel
theorem dX2_takeBegun_13 : decode cX2_takeBegun 13 = .ok (.aload_n 0, 1) := by decide +kernel
theorem dX2_takeBegun_14 : decode cX2_takeBegun 14 = .ok (.getfield 23, 3) := by decide +kernel
theorem dX2_takeBegun_17 : decode cX2_takeBegun 17 = .ok (.invokevirtual 60, 3) := by decide +kernel
theorem dX2_takeBegun_20 : decode cX2_takeBegun 20 = .ok (.aload_n 0, 1) := by decide +kernel
theorem dX2_takeBegun_21 : decode cX2_takeBegun 21 = .ok (.getfield 23, 3) := by decide +kernel
theorem dX2_takeBegun_24 : decode cX2_takeBegun 24 = .ok (.aload_n 0, 1) := by decide +kernel
theorem dX2_takeBegun_25 : decode cX2_takeBegun 25 = .ok (.getfield 9, 3) := by decide +kernel
theorem dX2_takeBegun_28 : decode cX2_takeBegun 28 = .ok (.getfield 63, 3) := by decide +kernel
theorem dX2_takeBegun_31 : decode cX2_takeBegun 31 = .ok (.iload_n 2, 1) := by decide +kernel
theorem dX2_takeBegun_32 : decode cX2_takeBegun 32 = .ok (.aaload, 1) := by decide +kernel
theorem dX2_takeBegun_33 : decode cX2_takeBegun 33 = .ok (.invokevirtual 67, 3) := by decide +kernel
theorem dX2_takeBegun_36 : decode cX2_takeBegun 36 = .ok (.aload_n 0, 1) := by decide +kernel
theorem dX2_takeBegun_37 : decode cX2_takeBegun 37 = .ok (.iload_n 2, 1) := by decide +kernel
theorem dX2_takeBegun_38 : decode cX2_takeBegun 38 = .ok (.iconst 0, 1) := by decide +kernel
theorem dX2_takeBegun_39 : decode cX2_takeBegun 39 = .ok (.iload_n 1, 1) := by decide +kernel
theorem dX2_takeBegun_40 : decode cX2_takeBegun 40 = .ok (.invokevirtual 50, 3) := by decide +kernel
theorem dX2_takeBegun_43 : decode cX2_takeBegun 43 = .ok (.iinc 2 1, 3) := by decide +kernel
theorem dX2_takeBegun_46 : decode cX2_takeBegun 46 = .ok (.goto (-44), 3) := by decide +kernel
theorem dX2_takeBegun_49 : decode cX2_takeBegun 49 = .ok (.return_, 1) := by decide +kernel
theorem dX2_fill_0 : decode cX2_fill 0 = .ok (.iconst 0, 1) := by decide +kernel
theorem dX2_fill_1 : decode cX2_fill 1 = .ok (.istore 4, 2) := by decide +kernel
theorem dX2_fill_3 : decode cX2_fill 3 = .ok (.iload 4, 2) := by decide +kernel
theorem dX2_fill_5 : decode cX2_fill 5 = .ok (.iload_n 3, 1) := by decide +kernel
theorem dX2_fill_6 : decode cX2_fill 6 = .ok (.if_icmp .ge 45, 3) := by decide +kernel
theorem dX2_fill_9 : decode cX2_fill 9 = .ok (.aload_n 0, 1) := by decide +kernel
theorem dX2_fill_10 : decode cX2_fill 10 = .ok (.getfield 17, 3) := by decide +kernel
theorem dX2_fill_13 : decode cX2_fill 13 = .ok (.iload_n 1, 1) := by decide +kernel
theorem dX2_fill_14 : decode cX2_fill 14 = .ok (.aaload, 1) := by decide +kernel
theorem dX2_fill_15 : decode cX2_fill 15 = .ok (.iload 4, 2) := by decide +kernel
theorem dX2_fill_17 : decode cX2_fill 17 = .ok (.aload_n 0, 1) := by decide +kernel
theorem dX2_fill_18 : decode cX2_fill 18 = .ok (.getfield 23, 3) := by decide +kernel
theorem dX2_fill_21 : decode cX2_fill 21 = .ok (.aload_n 0, 1) := by decide +kernel
theorem dX2_fill_22 : decode cX2_fill 22 = .ok (.getfield 9, 3) := by decide +kernel
theorem dX2_fill_25 : decode cX2_fill 25 = .ok (.getfield 63, 3) := by decide +kernel
theorem dX2_fill_28 : decode cX2_fill 28 = .ok (.iload_n 1, 1) := by decide +kernel
theorem dX2_fill_29 : decode cX2_fill 29 = .ok (.aaload, 1) := by decide +kernel
theorem dX2_fill_30 : decode cX2_fill 30 = .ok (.aload_n 0, 1) := by decide +kernel
theorem dX2_fill_31 : decode cX2_fill 31 = .ok (.getfield 9, 3) := by decide +kernel
theorem dX2_fill_34 : decode cX2_fill 34 = .ok (.iload_n 2, 1) := by decide +kernel
theorem dX2_fill_35 : decode cX2_fill 35 = .ok (.iload 4, 2) := by decide +kernel
theorem dX2_fill_37 : decode cX2_fill 37 = .ok (.iadd, 1) := by decide +kernel
theorem dX2_fill_38 : decode cX2_fill 38 = .ok (.invokevirtual 71, 3) := by decide +kernel
theorem dX2_fill_41 : decode cX2_fill 41 = .ok (.invokevirtual 75, 3) := by decide +kernel
theorem dX2_fill_44 : decode cX2_fill 44 = .ok (.iastore, 1) := by decide +kernel
theorem dX2_fill_45 : decode cX2_fill 45 = .ok (.iinc 4 1, 3) := by decide +kernel
theorem dX2_fill_48 : decode cX2_fill 48 = .ok (.goto (-45), 3) := by decide +kernel
theorem dX2_fill_51 : decode cX2_fill 51 = .ok (.return_, 1) := by decide +kernel
theorem dX2_run_0 : decode cX2_run 0 = .ok (.aload_n 0, 1) := by decide +kernel
theorem dX2_run_1 : decode cX2_run 1 = .ok (.getfield 9, 3) := by decide +kernel
theorem dX2_run_4 : decode cX2_run 4 = .ok (.getfield 79, 3) := by decide +kernel
theorem dX2_run_7 : decode cX2_run 7 = .ok (.istore 4, 2) := by decide +kernel
theorem dX2_run_9 : decode cX2_run 9 = .ok (.aload_n 0, 1) := by decide +kernel
theorem dX2_run_10 : decode cX2_run 10 = .ok (.getfield 27, 3) := by decide +kernel
theorem dX2_run_13 : decode cX2_run 13 = .ok (.iconst 0, 1) := by decide +kernel
theorem dX2_run_14 : decode cX2_run 14 = .ok (.iload_n 1, 1) := by decide +kernel
theorem dX2_run_15 : decode cX2_run 15 = .ok (.iastore, 1) := by decide +kernel
theorem dX2_run_16 : decode cX2_run 16 = .ok (.aload_n 0, 1) := by decide +kernel
theorem dX2_run_17 : decode cX2_run 17 = .ok (.iload_n 1, 1) := by decide +kernel
theorem dX2_run_18 : decode cX2_run 18 = .ok (.putfield 82, 3) := by decide +kernel
theorem dX2_run_21 : decode cX2_run 21 = .ok (.aload_n 0, 1) := by decide +kernel
theorem dX2_run_22 : decode cX2_run 22 = .ok (.iconst (-1), 1) := by decide +kernel
theorem dX2_run_23 : decode cX2_run 23 = .ok (.putfield 85, 3) := by decide +kernel
theorem dX2_run_26 : decode cX2_run 26 = .ok (.iconst 0, 1) := by decide +kernel
theorem dX2_run_27 : decode cX2_run 27 = .ok (.istore 5, 2) := by decide +kernel
theorem dX2_run_29 : decode cX2_run 29 = .ok (.iload 5, 2) := by decide +kernel
theorem dX2_run_31 : decode cX2_run 31 = .ok (.iload_n 3, 1) := by decide +kernel
theorem dX2_run_32 : decode cX2_run 32 = .ok (.if_icmp .ge 84, 3) := by decide +kernel
theorem dX2_run_35 : decode cX2_run 35 = .ok (.iload 4, 2) := by decide +kernel
theorem dX2_run_37 : decode cX2_run 37 = .ok (.aload_n 0, 1) := by decide +kernel
theorem dX2_run_38 : decode cX2_run 38 = .ok (.getfield 27, 3) := by decide +kernel
theorem dX2_run_41 : decode cX2_run 41 = .ok (.iload 5, 2) := by decide +kernel
theorem dX2_run_43 : decode cX2_run 43 = .ok (.iaload, 1) := by decide +kernel
theorem dX2_run_44 : decode cX2_run 44 = .ok (.aload_n 0, 1) := by decide +kernel
theorem dX2_run_45 : decode cX2_run 45 = .ok (.iload 5, 2) := by decide +kernel
theorem dX2_run_47 : decode cX2_run 47 = .ok (.invokevirtual 88, 3) := by decide +kernel
theorem dX2_run_50 : decode cX2_run 50 = .ok (.iadd, 1) := by decide +kernel
theorem dX2_run_51 : decode cX2_run 51 = .ok (.invokestatic 92, 3) := by decide +kernel
theorem dX2_run_54 : decode cX2_run 54 = .ok (.istore 6, 2) := by decide +kernel
theorem dX2_run_56 : decode cX2_run 56 = .ok (.aload_n 0, 1) := by decide +kernel
theorem dX2_run_57 : decode cX2_run 57 = .ok (.aload_n 0, 1) := by decide +kernel
theorem dX2_run_58 : decode cX2_run 58 = .ok (.getfield 82, 3) := by decide +kernel
theorem dX2_run_61 : decode cX2_run 61 = .ok (.iload 6, 2) := by decide +kernel
theorem dX2_run_63 : decode cX2_run 63 = .ok (.invokestatic 98, 3) := by decide +kernel
theorem dX2_run_66 : decode cX2_run 66 = .ok (.putfield 82, 3) := by decide +kernel
theorem dX2_run_69 : decode cX2_run 69 = .ok (.iload 6, 2) := by decide +kernel
theorem dX2_run_71 : decode cX2_run 71 = .ok (.iload 4, 2) := by decide +kernel
theorem dX2_run_73 : decode cX2_run 73 = .ok (.if_icmp .ne 19, 3) := by decide +kernel
theorem dX2_run_76 : decode cX2_run 76 = .ok (.aload_n 0, 1) := by decide +kernel
theorem dX2_run_77 : decode cX2_run 77 = .ok (.getfield 85, 3) := by decide +kernel
theorem dX2_run_80 : decode cX2_run 80 = .ok (.iconst (-1), 1) := by decide +kernel
theorem dX2_run_81 : decode cX2_run 81 = .ok (.if_icmp .ne 11, 3) := by decide +kernel
theorem dX2_run_84 : decode cX2_run 84 = .ok (.aload_n 0, 1) := by decide +kernel
theorem dX2_run_85 : decode cX2_run 85 = .ok (.iload 5, 2) := by decide +kernel
theorem dX2_run_87 : decode cX2_run 87 = .ok (.iconst 1, 1) := by decide +kernel
theorem dX2_run_88 : decode cX2_run 88 = .ok (.iadd, 1) := by decide +kernel
theorem dX2_run_89 : decode cX2_run 89 = .ok (.putfield 85, 3) := by decide +kernel
theorem dX2_run_92 : decode cX2_run 92 = .ok (.aload_n 0, 1) := by decide +kernel
theorem dX2_run_93 : decode cX2_run 93 = .ok (.getfield 27, 3) := by decide +kernel
theorem dX2_run_96 : decode cX2_run 96 = .ok (.iload 5, 2) := by decide +kernel
theorem dX2_run_98 : decode cX2_run 98 = .ok (.iconst 1, 1) := by decide +kernel
theorem dX2_run_99 : decode cX2_run 99 = .ok (.iadd, 1) := by decide +kernel
theorem dX2_run_100 : decode cX2_run 100 = .ok (.iload 6, 2) := by decide +kernel
theorem dX2_run_102 : decode cX2_run 102 = .ok (.iload 6, 2) := by decide +kernel
theorem dX2_run_104 : decode cX2_run 104 = .ok (.iload_n 2, 1) := by decide +kernel
theorem dX2_run_105 : decode cX2_run 105 = .ok (.invokestatic 101, 3) := by decide +kernel
theorem dX2_run_108 : decode cX2_run 108 = .ok (.isub, 1) := by decide +kernel
theorem dX2_run_109 : decode cX2_run 109 = .ok (.iastore, 1) := by decide +kernel
theorem dX2_run_110 : decode cX2_run 110 = .ok (.iinc 5 1, 3) := by decide +kernel
theorem dX2_run_113 : decode cX2_run 113 = .ok (.goto (-84), 3) := by decide +kernel
theorem dX2_run_116 : decode cX2_run 116 = .ok (.return_, 1) := by decide +kernel
theorem dX2_pouredIn_0 : decode cX2_pouredIn 0 = .ok (.iconst 0, 1) := by decide +kernel
theorem dX2_pouredIn_1 : decode cX2_pouredIn 1 = .ok (.istore_n 2, 1) := by decide +kernel
theorem dX2_pouredIn_2 : decode cX2_pouredIn 2 = .ok (.iconst 0, 1) := by decide +kernel
theorem dX2_pouredIn_3 : decode cX2_pouredIn 3 = .ok (.istore_n 3, 1) := by decide +kernel
theorem dX2_pouredIn_4 : decode cX2_pouredIn 4 = .ok (.iload_n 3, 1) := by decide +kernel
theorem dX2_pouredIn_5 : decode cX2_pouredIn 5 = .ok (.aload_n 0, 1) := by decide +kernel
theorem dX2_pouredIn_6 : decode cX2_pouredIn 6 = .ok (.getfield 9, 3) := by decide +kernel
theorem dX2_pouredIn_9 : decode cX2_pouredIn 9 = .ok (.getfield 31, 3) := by decide +kernel
theorem dX2_pouredIn_12 : decode cX2_pouredIn 12 = .ok (.if_icmp .ge 31, 3) := by decide +kernel
theorem dX2_pouredIn_15 : decode cX2_pouredIn 15 = .ok (.aload_n 0, 1) := by decide +kernel
theorem dX2_pouredIn_16 : decode cX2_pouredIn 16 = .ok (.getfield 54, 3) := by decide +kernel
theorem dX2_pouredIn_19 : decode cX2_pouredIn 19 = .ok (.iload_n 3, 1) := by decide +kernel
theorem dX2_pouredIn_20 : decode cX2_pouredIn 20 = .ok (.ishr, 1) := by decide +kernel
theorem dX2_pouredIn_21 : decode cX2_pouredIn 21 = .ok (.iconst 1, 1) := by decide +kernel
theorem dX2_pouredIn_22 : decode cX2_pouredIn 22 = .ok (.iand, 1) := by decide +kernel
theorem dX2_pouredIn_23 : decode cX2_pouredIn 23 = .ok (.ifCond .eq 14, 3) := by decide +kernel
theorem dX2_pouredIn_26 : decode cX2_pouredIn 26 = .ok (.iload_n 2, 1) := by decide +kernel
theorem dX2_pouredIn_27 : decode cX2_pouredIn 27 = .ok (.aload_n 0, 1) := by decide +kernel
theorem dX2_pouredIn_28 : decode cX2_pouredIn 28 = .ok (.getfield 17, 3) := by decide +kernel
theorem dX2_pouredIn_31 : decode cX2_pouredIn 31 = .ok (.iload_n 3, 1) := by decide +kernel
theorem dX2_pouredIn_32 : decode cX2_pouredIn 32 = .ok (.aaload, 1) := by decide +kernel
theorem dX2_pouredIn_33 : decode cX2_pouredIn 33 = .ok (.iload_n 1, 1) := by decide +kernel
theorem dX2_pouredIn_34 : decode cX2_pouredIn 34 = .ok (.iaload, 1) := by decide +kernel
theorem dX2_pouredIn_35 : decode cX2_pouredIn 35 = .ok (.iadd, 1) := by decide +kernel
theorem dX2_pouredIn_36 : decode cX2_pouredIn 36 = .ok (.istore_n 2, 1) := by decide +kernel
theorem dX2_pouredIn_37 : decode cX2_pouredIn 37 = .ok (.iinc 3 1, 3) := by decide +kernel
theorem dX2_pouredIn_40 : decode cX2_pouredIn 40 = .ok (.goto (-36), 3) := by decide +kernel
theorem dX2_pouredIn_43 : decode cX2_pouredIn 43 = .ok (.iload_n 2, 1) := by decide +kernel
theorem dX2_pouredIn_44 : decode cX2_pouredIn 44 = .ok (.ireturn, 1) := by decide +kernel
theorem dX3_init_0 : decode cX3_init 0 = .ok (.aload_n 0, 1) := by decide +kernel
theorem dX3_init_1 : decode cX3_init 1 = .ok (.invokespecial 3, 3) := by decide +kernel
theorem dX3_init_4 : decode cX3_init 4 = .ok (.aload_n 0, 1) := by decide +kernel
theorem dX3_init_5 : decode cX3_init 5 = .ok (.sipush 160, 3) := by decide +kernel
theorem dX3_init_8 : decode cX3_init 8 = .ok (.newarray .int, 2) := by decide +kernel
theorem dX3_init_10 : decode cX3_init 10 = .ok (.putfield 9, 3) := by decide +kernel
theorem dX3_init_13 : decode cX3_init 13 = .ok (.return_, 1) := by decide +kernel
theorem dX3_add_0 : decode cX3_add 0 = .ok (.aload_n 0, 1) := by decide +kernel
theorem dX3_add_1 : decode cX3_add 1 = .ok (.getfield 15, 3) := by decide +kernel
theorem dX3_add_4 : decode cX3_add 4 = .ok (.sipush 160, 3) := by decide +kernel
theorem dX3_add_7 : decode cX3_add 7 = .ok (.if_icmp .lt 5, 3) := by decide +kernel
theorem dX3_add_10 : decode cX3_add 10 = .ok (.iconst 0, 1) := by decide +kernel
theorem dX3_add_11 : decode cX3_add 11 = .ok (.ireturn, 1) := by decide +kernel
theorem dX3_add_12 : decode cX3_add 12 = .ok (.aload_n 0, 1) := by decide +kernel
theorem dX3_add_13 : decode cX3_add 13 = .ok (.getfield 9, 3) := by decide +kernel
theorem dX3_add_16 : decode cX3_add 16 = .ok (.aload_n 0, 1) := by decide +kernel
theorem dX3_add_17 : decode cX3_add 17 = .ok (.getfield 15, 3) := by decide +kernel
theorem dX3_add_20 : decode cX3_add 20 = .ok (.iload_n 1, 1) := by decide +kernel
theorem dX3_add_21 : decode cX3_add 21 = .ok (.iastore, 1) := by decide +kernel
theorem dX3_add_22 : decode cX3_add 22 = .ok (.aload_n 0, 1) := by decide +kernel
theorem dX3_add_23 : decode cX3_add 23 = .ok (.dup, 1) := by decide +kernel
theorem dX3_add_24 : decode cX3_add 24 = .ok (.getfield 15, 3) := by decide +kernel
theorem dX3_add_27 : decode cX3_add 27 = .ok (.iconst 1, 1) := by decide +kernel
theorem dX3_add_28 : decode cX3_add 28 = .ok (.iadd, 1) := by decide +kernel
theorem dX3_add_29 : decode cX3_add 29 = .ok (.putfield 15, 3) := by decide +kernel
theorem dX3_add_32 : decode cX3_add 32 = .ok (.iconst 1, 1) := by decide +kernel
theorem dX3_add_33 : decode cX3_add 33 = .ok (.ireturn, 1) := by decide +kernel
theorem dX3_readFromStart_0 : decode cX3_readFromStart 0 = .ok (.aload_n 0, 1) := by decide +kernel
theorem dX3_readFromStart_1 : decode cX3_readFromStart 1 = .ok (.iconst 0, 1) := by decide +kernel
theorem dX3_readFromStart_2 : decode cX3_readFromStart 2 = .ok (.putfield 19, 3) := by decide +kernel
theorem dX3_readFromStart_5 : decode cX3_readFromStart 5 = .ok (.return_, 1) := by decide +kernel
theorem dX3_readToken_0 : decode cX3_readToken 0 = .ok (.aload_n 0, 1) := by decide +kernel
theorem dX3_readToken_1 : decode cX3_readToken 1 = .ok (.aload_n 0, 1) := by decide +kernel
theorem dX3_readToken_2 : decode cX3_readToken 2 = .ok (.getfield 19, 3) := by decide +kernel
theorem dX3_readToken_5 : decode cX3_readToken 5 = .ok (.putfield 22, 3) := by decide +kernel
theorem dX3_readToken_8 : decode cX3_readToken 8 = .ok (.aload_n 0, 1) := by decide +kernel
theorem dX3_readToken_9 : decode cX3_readToken 9 = .ok (.getfield 22, 3) := by decide +kernel
theorem dX3_readToken_12 : decode cX3_readToken 12 = .ok (.aload_n 0, 1) := by decide +kernel
theorem dX3_readToken_13 : decode cX3_readToken 13 = .ok (.getfield 15, 3) := by decide +kernel
theorem dX3_readToken_16 : decode cX3_readToken 16 = .ok (.if_icmp .ge 30, 3) := by decide +kernel
theorem dX3_readToken_19 : decode cX3_readToken 19 = .ok (.aload_n 0, 1) := by decide +kernel
theorem dX3_readToken_20 : decode cX3_readToken 20 = .ok (.getfield 9, 3) := by decide +kernel
theorem dX3_readToken_23 : decode cX3_readToken 23 = .ok (.aload_n 0, 1) := by decide +kernel
theorem dX3_readToken_24 : decode cX3_readToken 24 = .ok (.getfield 22, 3) := by decide +kernel
theorem dX3_readToken_27 : decode cX3_readToken 27 = .ok (.iaload, 1) := by decide +kernel
theorem dX3_readToken_28 : decode cX3_readToken 28 = .ok (.bipush 32, 2) := by decide +kernel
theorem dX3_readToken_30 : decode cX3_readToken 30 = .ok (.if_icmp .ne 16, 3) := by decide +kernel
theorem dX3_readToken_33 : decode cX3_readToken 33 = .ok (.aload_n 0, 1) := by decide +kernel
theorem dX3_readToken_34 : decode cX3_readToken 34 = .ok (.dup, 1) := by decide +kernel
theorem dX3_readToken_35 : decode cX3_readToken 35 = .ok (.getfield 22, 3) := by decide +kernel
theorem dX3_readToken_38 : decode cX3_readToken 38 = .ok (.iconst 1, 1) := by decide +kernel
theorem dX3_readToken_39 : decode cX3_readToken 39 = .ok (.iadd, 1) := by decide +kernel
theorem dX3_readToken_40 : decode cX3_readToken 40 = .ok (.putfield 22, 3) := by decide +kernel
theorem dX3_readToken_43 : decode cX3_readToken 43 = .ok (.goto (-35), 3) := by decide +kernel
theorem dX3_readToken_46 : decode cX3_readToken 46 = .ok (.aload_n 0, 1) := by decide +kernel
theorem dX3_readToken_47 : decode cX3_readToken 47 = .ok (.aload_n 0, 1) := by decide +kernel
theorem dX3_readToken_48 : decode cX3_readToken 48 = .ok (.getfield 22, 3) := by decide +kernel
theorem dX3_readToken_51 : decode cX3_readToken 51 = .ok (.putfield 19, 3) := by decide +kernel
theorem dX3_readToken_54 : decode cX3_readToken 54 = .ok (.aload_n 0, 1) := by decide +kernel
theorem dX3_readToken_55 : decode cX3_readToken 55 = .ok (.aload_n 0, 1) := by decide +kernel
theorem dX3_readToken_56 : decode cX3_readToken 56 = .ok (.aload_n 0, 1) := by decide +kernel
theorem dX3_readToken_57 : decode cX3_readToken 57 = .ok (.getfield 22, 3) := by decide +kernel
theorem dX3_readToken_60 : decode cX3_readToken 60 = .ok (.invokevirtual 25, 3) := by decide +kernel
theorem dX3_readToken_63 : decode cX3_readToken 63 = .ok (.putfield 29, 3) := by decide +kernel
theorem dX3_readToken_66 : decode cX3_readToken 66 = .ok (.aload_n 0, 1) := by decide +kernel
theorem dX3_readToken_67 : decode cX3_readToken 67 = .ok (.getfield 29, 3) := by decide +kernel
theorem dX3_readToken_70 : decode cX3_readToken 70 = .ok (.iconst 3, 1) := by decide +kernel
theorem dX3_readToken_71 : decode cX3_readToken 71 = .ok (.if_icmp .ne 13, 3) := by decide +kernel
theorem dX3_readToken_74 : decode cX3_readToken 74 = .ok (.aload_n 0, 1) := by decide +kernel
theorem dX3_readToken_75 : decode cX3_readToken 75 = .ok (.dup, 1) := by decide +kernel
theorem dX3_readToken_76 : decode cX3_readToken 76 = .ok (.getfield 19, 3) := by decide +kernel
theorem dX3_readToken_79 : decode cX3_readToken 79 = .ok (.iconst 1, 1) := by decide +kernel
theorem dX3_readToken_80 : decode cX3_readToken 80 = .ok (.iadd, 1) := by decide +kernel
theorem dX3_readToken_81 : decode cX3_readToken 81 = .ok (.putfield 19, 3) := by decide +kernel
theorem dX3_readToken_84 : decode cX3_readToken 84 = .ok (.aload_n 0, 1) := by decide +kernel
theorem dX3_readToken_85 : decode cX3_readToken 85 = .ok (.getfield 29, 3) := by decide +kernel
theorem dX3_readToken_88 : decode cX3_readToken 88 = .ok (.iconst 1, 1) := by decide +kernel
theorem dX3_readToken_89 : decode cX3_readToken 89 = .ok (.if_icmp .eq 11, 3) := by decide +kernel
theorem dX3_readToken_92 : decode cX3_readToken 92 = .ok (.aload_n 0, 1) := by decide +kernel
theorem dX3_readToken_93 : decode cX3_readToken 93 = .ok (.getfield 29, 3) := by decide +kernel
theorem dX3_readToken_96 : decode cX3_readToken 96 = .ok (.iconst 2, 1) := by decide +kernel
theorem dX3_readToken_97 : decode cX3_readToken 97 = .ok (.if_icmp .ne 7, 3) := by decide +kernel
theorem dX3_readToken_100 : decode cX3_readToken 100 = .ok (.iconst 1, 1) := by decide +kernel
theorem dX3_readToken_101 : decode cX3_readToken 101 = .ok (.goto 4, 3) := by decide +kernel
theorem dX3_readToken_104 : decode cX3_readToken 104 = .ok (.iconst 0, 1) := by decide +kernel
theorem dX3_readToken_105 : decode cX3_readToken 105 = .ok (.istore_n 1, 1) := by decide +kernel
theorem dX3_readToken_106 : decode cX3_readToken 106 = .ok (.iload_n 1, 1) := by decide +kernel
theorem dX3_readToken_107 : decode cX3_readToken 107 = .ok (.ifCond .eq 42, 3) := by decide +kernel
theorem dX3_readToken_110 : decode cX3_readToken 110 = .ok (.aload_n 0, 1) := by decide +kernel
theorem dX3_readToken_111 : decode cX3_readToken 111 = .ok (.getfield 19, 3) := by decide +kernel
theorem dX3_readToken_114 : decode cX3_readToken 114 = .ok (.aload_n 0, 1) := by decide +kernel
theorem dX3_readToken_115 : decode cX3_readToken 115 = .ok (.getfield 15, 3) := by decide +kernel
theorem dX3_readToken_118 : decode cX3_readToken 118 = .ok (.if_icmp .ge 31, 3) := by decide +kernel
theorem dX3_readToken_121 : decode cX3_readToken 121 = .ok (.aload_n 0, 1) := by decide +kernel
theorem dX3_readToken_122 : decode cX3_readToken 122 = .ok (.aload_n 0, 1) := by decide +kernel
theorem dX3_readToken_123 : decode cX3_readToken 123 = .ok (.getfield 19, 3) := by decide +kernel
theorem dX3_readToken_126 : decode cX3_readToken 126 = .ok (.invokevirtual 25, 3) := by decide +kernel
theorem dX3_readToken_129 : decode cX3_readToken 129 = .ok (.aload_n 0, 1) := by decide +kernel
theorem dX3_readToken_130 : decode cX3_readToken 130 = .ok (.getfield 29, 3) := by decide +kernel
theorem dX3_readToken_133 : decode cX3_readToken 133 = .ok (.if_icmp .ne 16, 3) := by decide +kernel
theorem dX3_readToken_136 : decode cX3_readToken 136 = .ok (.aload_n 0, 1) := by decide +kernel
theorem dX3_readToken_137 : decode cX3_readToken 137 = .ok (.dup, 1) := by decide +kernel
theorem dX3_readToken_138 : decode cX3_readToken 138 = .ok (.getfield 19, 3) := by decide +kernel
theorem dX3_readToken_141 : decode cX3_readToken 141 = .ok (.iconst 1, 1) := by decide +kernel
theorem dX3_readToken_142 : decode cX3_readToken 142 = .ok (.iadd, 1) := by decide +kernel
theorem dX3_readToken_143 : decode cX3_readToken 143 = .ok (.putfield 19, 3) := by decide +kernel
theorem dX3_readToken_146 : decode cX3_readToken 146 = .ok (.goto (-40), 3) := by decide +kernel
theorem dX3_readToken_149 : decode cX3_readToken 149 = .ok (.return_, 1) := by decide +kernel
theorem dX3_typeAt_0 : decode cX3_typeAt 0 = .ok (.iload_n 1, 1) := by decide +kernel
theorem dX3_typeAt_1 : decode cX3_typeAt 1 = .ok (.ifCond .lt 11, 3) := by decide +kernel
theorem dX3_typeAt_4 : decode cX3_typeAt 4 = .ok (.iload_n 1, 1) := by decide +kernel
theorem dX3_typeAt_5 : decode cX3_typeAt 5 = .ok (.aload_n 0, 1) := by decide +kernel
theorem dX3_typeAt_6 : decode cX3_typeAt 6 = .ok (.getfield 15, 3) := by decide +kernel
theorem dX3_typeAt_9 : decode cX3_typeAt 9 = .ok (.if_icmp .lt 5, 3) := by decide +kernel
theorem dX3_typeAt_12 : decode cX3_typeAt 12 = .ok (.iconst 0, 1) := by decide +kernel
theorem dX3_typeAt_13 : decode cX3_typeAt 13 = .ok (.ireturn, 1) := by decide +kernel
theorem dX3_typeAt_14 : decode cX3_typeAt 14 = .ok (.aload_n 0, 1) := by decide +kernel
theorem dX3_typeAt_15 : decode cX3_typeAt 15 = .ok (.getfield 9, 3) := by decide +kernel
theorem dX3_typeAt_18 : decode cX3_typeAt 18 = .ok (.iload_n 1, 1) := by decide +kernel
theorem dX3_typeAt_19 : decode cX3_typeAt 19 = .ok (.iaload, 1) := by decide +kernel
theorem dX3_typeAt_20 : decode cX3_typeAt 20 = .ok (.istore_n 2, 1) := by decide +kernel
theorem dX3_typeAt_21 : decode cX3_typeAt 21 = .ok (.iload_n 2, 1) := by decide +kernel
theorem dX3_typeAt_22 : decode cX3_typeAt 22 = .ok (.bipush 97, 2) := by decide +kernel
theorem dX3_typeAt_24 : decode cX3_typeAt 24 = .ok (.if_icmp .lt 11, 3) := by decide +kernel
theorem dX3_typeAt_27 : decode cX3_typeAt 27 = .ok (.iload_n 2, 1) := by decide +kernel
theorem dX3_typeAt_28 : decode cX3_typeAt 28 = .ok (.bipush 122, 2) := by decide +kernel
theorem dX3_typeAt_30 : decode cX3_typeAt 30 = .ok (.if_icmp .gt 5, 3) := by decide +kernel
theorem dX3_typeAt_33 : decode cX3_typeAt 33 = .ok (.iconst 1, 1) := by decide +kernel
theorem dX3_typeAt_34 : decode cX3_typeAt 34 = .ok (.ireturn, 1) := by decide +kernel
theorem dX3_typeAt_35 : decode cX3_typeAt 35 = .ok (.iload_n 2, 1) := by decide +kernel
theorem dX3_typeAt_36 : decode cX3_typeAt 36 = .ok (.bipush 48, 2) := by decide +kernel
theorem dX3_typeAt_38 : decode cX3_typeAt 38 = .ok (.if_icmp .lt 13, 3) := by decide +kernel
theorem dX3_typeAt_41 : decode cX3_typeAt 41 = .ok (.iload_n 2, 1) := by decide +kernel
theorem dX3_typeAt_42 : decode cX3_typeAt 42 = .ok (.bipush 57, 2) := by decide +kernel
theorem dX3_typeAt_44 : decode cX3_typeAt 44 = .ok (.if_icmp .gt 7, 3) := by decide +kernel
theorem dX3_typeAt_47 : decode cX3_typeAt 47 = .ok (.iconst 2, 1) := by decide +kernel
theorem dX3_typeAt_48 : decode cX3_typeAt 48 = .ok (.goto 4, 3) := by decide +kernel
theorem dX3_typeAt_51 : decode cX3_typeAt 51 = .ok (.iconst 3, 1) := by decide +kernel
theorem dX3_typeAt_52 : decode cX3_typeAt 52 = .ok (.ireturn, 1) := by decide +kernel
theorem dX3_isWord_0 : decode cX3_isWord 0 = .ok (.aload_n 0, 1) := by decide +kernel
theorem dX3_isWord_1 : decode cX3_isWord 1 = .ok (.getfield 29, 3) := by decide +kernel
theorem dX3_isWord_4 : decode cX3_isWord 4 = .ok (.iconst 1, 1) := by decide +kernel
theorem dX3_isWord_5 : decode cX3_isWord 5 = .ok (.if_icmp .ne 19, 3) := by decide +kernel
theorem dX3_isWord_8 : decode cX3_isWord 8 = .ok (.aload_n 1, 1) := by decide +kernel
theorem dX3_isWord_9 : decode cX3_isWord 9 = .ok (.invokevirtual 32, 3) := by decide +kernel
theorem dX3_isWord_12 : decode cX3_isWord 12 = .ok (.aload_n 0, 1) := by decide +kernel
theorem dX3_isWord_13 : decode cX3_isWord 13 = .ok (.getfield 19, 3) := by decide +kernel
theorem dX3_isWord_16 : decode cX3_isWord 16 = .ok (.aload_n 0, 1) := by decide +kernel
theorem dX3_isWord_17 : decode cX3_isWord 17 = .ok (.getfield 22, 3) := by decide +kernel
theorem dX3_isWord_20 : decode cX3_isWord 20 = .ok (.isub, 1) := by decide +kernel
theorem dX3_isWord_21 : decode cX3_isWord 21 = .ok (.if_icmp .eq 5, 3) := by decide +kernel
theorem dX3_isWord_24 : decode cX3_isWord 24 = .ok (.iconst 0, 1) := by decide +kernel
theorem dX3_isWord_25 : decode cX3_isWord 25 = .ok (.ireturn, 1) := by decide +kernel
theorem dX3_isWord_26 : decode cX3_isWord 26 = .ok (.iconst 0, 1) := by decide +kernel
theorem dX3_isWord_27 : decode cX3_isWord 27 = .ok (.istore_n 2, 1) := by decide +kernel
theorem dX3_isWord_28 : decode cX3_isWord 28 = .ok (.iload_n 2, 1) := by decide +kernel
theorem dX3_isWord_29 : decode cX3_isWord 29 = .ok (.aload_n 1, 1) := by decide +kernel
theorem dX3_isWord_30 : decode cX3_isWord 30 = .ok (.invokevirtual 32, 3) := by decide +kernel
theorem dX3_isWord_33 : decode cX3_isWord 33 = .ok (.if_icmp .ge 30, 3) := by decide +kernel
theorem dX3_isWord_36 : decode cX3_isWord 36 = .ok (.aload_n 1, 1) := by decide +kernel
theorem dX3_isWord_37 : decode cX3_isWord 37 = .ok (.iload_n 2, 1) := by decide +kernel
theorem dX3_isWord_38 : decode cX3_isWord 38 = .ok (.invokevirtual 37, 3) := by decide +kernel
theorem dX3_isWord_41 : decode cX3_isWord 41 = .ok (.aload_n 0, 1) := by decide +kernel
theorem dX3_isWord_42 : decode cX3_isWord 42 = .ok (.getfield 9, 3) := by decide +kernel
theorem dX3_isWord_45 : decode cX3_isWord 45 = .ok (.aload_n 0, 1) := by decide +kernel
theorem dX3_isWord_46 : decode cX3_isWord 46 = .ok (.getfield 22, 3) := by decide +kernel
theorem dX3_isWord_49 : decode cX3_isWord 49 = .ok (.iload_n 2, 1) := by decide +kernel
theorem dX3_isWord_50 : decode cX3_isWord 50 = .ok (.iadd, 1) := by decide +kernel
theorem dX3_isWord_51 : decode cX3_isWord 51 = .ok (.iaload, 1) := by decide +kernel
theorem dX3_isWord_52 : decode cX3_isWord 52 = .ok (.if_icmp .eq 5, 3) := by decide +kernel
theorem dX3_isWord_55 : decode cX3_isWord 55 = .ok (.iconst 0, 1) := by decide +kernel
theorem dX3_isWord_56 : decode cX3_isWord 56 = .ok (.ireturn, 1) := by decide +kernel
theorem dX3_isWord_57 : decode cX3_isWord 57 = .ok (.iinc 2 1, 3) := by decide +kernel
theorem dX3_isWord_60 : decode cX3_isWord 60 = .ok (.goto (-32), 3) := by decide +kernel
theorem dX3_isWord_63 : decode cX3_isWord 63 = .ok (.iconst 1, 1) := by decide +kernel
theorem dX3_isWord_64 : decode cX3_isWord 64 = .ok (.ireturn, 1) := by decide +kernel
theorem dX3_isSemicolon_0 : decode cX3_isSemicolon 0 = .ok (.aload_n 0, 1) := by decide +kernel
theorem dX3_isSemicolon_1 : decode cX3_isSemicolon 1 = .ok (.getfield 29, 3) := by decide +kernel
theorem dX3_isSemicolon_4 : decode cX3_isSemicolon 4 = .ok (.iconst 3, 1) := by decide +kernel
theorem dX3_isSemicolon_5 : decode cX3_isSemicolon 5 = .ok (.if_icmp .ne 21, 3) := by decide +kernel
theorem dX3_isSemicolon_8 : decode cX3_isSemicolon 8 = .ok (.aload_n 0, 1) := by decide +kernel
theorem dX3_isSemicolon_9 : decode cX3_isSemicolon 9 = .ok (.getfield 9, 3) := by decide +kernel
theorem dX3_isSemicolon_12 : decode cX3_isSemicolon 12 = .ok (.aload_n 0, 1) := by decide +kernel
theorem dX3_isSemicolon_13 : decode cX3_isSemicolon 13 = .ok (.getfield 22, 3) := by decide +kernel
theorem dX3_isSemicolon_16 : decode cX3_isSemicolon 16 = .ok (.iaload, 1) := by decide +kernel
theorem dX3_isSemicolon_17 : decode cX3_isSemicolon 17 = .ok (.bipush 59, 2) := by decide +kernel
theorem dX3_isSemicolon_19 : decode cX3_isSemicolon 19 = .ok (.if_icmp .ne 7, 3) := by decide +kernel
theorem dX3_isSemicolon_22 : decode cX3_isSemicolon 22 = .ok (.iconst 1, 1) := by decide +kernel
theorem dX3_isSemicolon_23 : decode cX3_isSemicolon 23 = .ok (.goto 4, 3) := by decide +kernel
theorem dX3_isSemicolon_26 : decode cX3_isSemicolon 26 = .ok (.iconst 0, 1) := by decide +kernel
theorem dX3_isSemicolon_27 : decode cX3_isSemicolon 27 = .ok (.ireturn, 1) := by decide +kernel
theorem dX3_number_0 : decode cX3_number 0 = .ok (.aload_n 0, 1) := by decide +kernel
theorem dX3_number_1 : decode cX3_number 1 = .ok (.getfield 29, 3) := by decide +kernel
theorem dX3_number_4 : decode cX3_number 4 = .ok (.iconst 2, 1) := by decide +kernel
theorem dX3_number_5 : decode cX3_number 5 = .ok (.if_icmp .ne 16, 3) := by decide +kernel
theorem dX3_number_8 : decode cX3_number 8 = .ok (.aload_n 0, 1) := by decide +kernel
theorem dX3_number_9 : decode cX3_number 9 = .ok (.getfield 19, 3) := by decide +kernel
theorem dX3_number_12 : decode cX3_number 12 = .ok (.aload_n 0, 1) := by decide +kernel
theorem dX3_number_13 : decode cX3_number 13 = .ok (.getfield 22, 3) := by decide +kernel
theorem dX3_number_16 : decode cX3_number 16 = .ok (.isub, 1) := by decide +kernel
theorem dX3_number_17 : decode cX3_number 17 = .ok (.iconst 2, 1) := by decide +kernel
theorem dX3_number_18 : decode cX3_number 18 = .ok (.if_icmp .le 5, 3) := by decide +kernel
theorem dX3_number_21 : decode cX3_number 21 = .ok (.iconst (-1), 1) := by decide +kernel
theorem dX3_number_22 : decode cX3_number 22 = .ok (.ireturn, 1) := by decide +kernel
theorem dX3_number_23 : decode cX3_number 23 = .ok (.iconst 0, 1) := by decide +kernel
theorem dX3_number_24 : decode cX3_number 24 = .ok (.istore_n 1, 1) := by decide +kernel
theorem dX3_number_25 : decode cX3_number 25 = .ok (.aload_n 0, 1) := by decide +kernel
theorem dX3_number_26 : decode cX3_number 26 = .ok (.getfield 22, 3) := by decide +kernel
theorem dX3_number_29 : decode cX3_number 29 = .ok (.istore_n 2, 1) := by decide +kernel
theorem dX3_number_30 : decode cX3_number 30 = .ok (.iload_n 2, 1) := by decide +kernel
theorem dX3_number_31 : decode cX3_number 31 = .ok (.aload_n 0, 1) := by decide +kernel
theorem dX3_number_32 : decode cX3_number 32 = .ok (.getfield 19, 3) := by decide +kernel
theorem dX3_number_35 : decode cX3_number 35 = .ok (.if_icmp .ge 24, 3) := by decide +kernel
theorem dX3_number_38 : decode cX3_number 38 = .ok (.iload_n 1, 1) := by decide +kernel
theorem dX3_number_39 : decode cX3_number 39 = .ok (.bipush 10, 2) := by decide +kernel
theorem dX3_number_41 : decode cX3_number 41 = .ok (.imul, 1) := by decide +kernel
theorem dX3_number_42 : decode cX3_number 42 = .ok (.aload_n 0, 1) := by decide +kernel
theorem dX3_number_43 : decode cX3_number 43 = .ok (.getfield 9, 3) := by decide +kernel
theorem dX3_number_46 : decode cX3_number 46 = .ok (.iload_n 2, 1) := by decide +kernel
theorem dX3_number_47 : decode cX3_number 47 = .ok (.iaload, 1) := by decide +kernel
theorem dX3_number_48 : decode cX3_number 48 = .ok (.iadd, 1) := by decide +kernel
theorem dX3_number_49 : decode cX3_number 49 = .ok (.bipush 48, 2) := by decide +kernel
theorem dX3_number_51 : decode cX3_number 51 = .ok (.isub, 1) := by decide +kernel
theorem dX3_number_52 : decode cX3_number 52 = .ok (.istore_n 1, 1) := by decide +kernel
theorem dX3_number_53 : decode cX3_number 53 = .ok (.iinc 2 1, 3) := by decide +kernel
theorem dX3_number_56 : decode cX3_number 56 = .ok (.goto (-26), 3) := by decide +kernel
theorem dX3_number_59 : decode cX3_number 59 = .ok (.iload_n 1, 1) := by decide +kernel
theorem dX3_number_60 : decode cX3_number 60 = .ok (.ireturn, 1) := by decide +kernel
theorem dX4_init_0 : decode cX4_init 0 = .ok (.aload_n 0, 1) := by decide +kernel
theorem dX4_init_1 : decode cX4_init 1 = .ok (.invokespecial 3, 3) := by decide +kernel
theorem dX4_init_4 : decode cX4_init 4 = .ok (.aload_n 0, 1) := by decide +kernel
theorem dX4_init_5 : decode cX4_init 5 = .ok (.bipush 8, 2) := by decide +kernel
theorem dX4_init_7 : decode cX4_init 7 = .ok (.anewarray 9, 3) := by decide +kernel
theorem dX4_init_10 : decode cX4_init 10 = .ok (.putfield 11, 3) := by decide +kernel
theorem dX4_init_13 : decode cX4_init 13 = .ok (.iconst 0, 1) := by decide +kernel
theorem dX4_init_14 : decode cX4_init 14 = .ok (.istore_n 1, 1) := by decide +kernel
theorem dX4_init_15 : decode cX4_init 15 = .ok (.iload_n 1, 1) := by decide +kernel
theorem dX4_init_16 : decode cX4_init 16 = .ok (.bipush 8, 2) := by decide +kernel
theorem dX4_init_18 : decode cX4_init 18 = .ok (.if_icmp .ge 22, 3) := by decide +kernel
theorem dX4_init_21 : decode cX4_init 21 = .ok (.aload_n 0, 1) := by decide +kernel
theorem dX4_init_22 : decode cX4_init 22 = .ok (.getfield 11, 3) := by decide +kernel
theorem dX4_init_25 : decode cX4_init 25 = .ok (.iload_n 1, 1) := by decide +kernel
theorem dX4_init_26 : decode cX4_init 26 = .ok (.new 9, 3) := by decide +kernel
theorem dX4_init_29 : decode cX4_init 29 = .ok (.dup, 1) := by decide +kernel
theorem dX4_init_30 : decode cX4_init 30 = .ok (.invokespecial 17, 3) := by decide +kernel
theorem dX4_init_33 : decode cX4_init 33 = .ok (.aastore, 1) := by decide +kernel
theorem dX4_init_34 : decode cX4_init 34 = .ok (.iinc 1 1, 3) := by decide +kernel
theorem dX4_init_37 : decode cX4_init 37 = .ok (.goto (-22), 3) := by decide +kernel
theorem dX4_init_40 : decode cX4_init 40 = .ok (.return_, 1) := by decide +kernel
theorem dX4_push_0 : decode cX4_push 0 = .ok (.aload_n 0, 1) := by decide +kernel
theorem dX4_push_1 : decode cX4_push 1 = .ok (.getfield 11, 3) := by decide +kernel
theorem dX4_push_4 : decode cX4_push 4 = .ok (.aload_n 0, 1) := by decide +kernel
theorem dX4_push_5 : decode cX4_push 5 = .ok (.getfield 18, 3) := by decide +kernel
theorem dX4_push_8 : decode cX4_push 8 = .ok (.aaload, 1) := by decide +kernel
theorem dX4_push_9 : decode cX4_push 9 = .ok (.aload_n 1, 1) := by decide +kernel
theorem dX4_push_10 : decode cX4_push 10 = .ok (.invokevirtual 22, 3) := by decide +kernel
theorem dX4_push_13 : decode cX4_push 13 = .ok (.aload_n 0, 1) := by decide +kernel
theorem dX4_push_14 : decode cX4_push 14 = .ok (.aload_n 0, 1) := by decide +kernel
theorem dX4_push_15 : decode cX4_push 15 = .ok (.getfield 18, 3) := by decide +kernel
theorem dX4_push_18 : decode cX4_push 18 = .ok (.iconst 1, 1) := by decide +kernel
theorem dX4_push_19 : decode cX4_push 19 = .ok (.iadd, 1) := by decide +kernel
theorem dX4_push_20 : decode cX4_push 20 = .ok (.bipush 8, 2) := by decide +kernel
theorem dX4_push_22 : decode cX4_push 22 = .ok (.irem, 1) := by decide +kernel
theorem dX4_push_23 : decode cX4_push 23 = .ok (.putfield 18, 3) := by decide +kernel
theorem dX4_push_26 : decode cX4_push 26 = .ok (.aload_n 0, 1) := by decide +kernel
theorem dX4_push_27 : decode cX4_push 27 = .ok (.bipush 8, 2) := by decide +kernel
theorem dX4_push_29 : decode cX4_push 29 = .ok (.aload_n 0, 1) := by decide +kernel
theorem dX4_push_30 : decode cX4_push 30 = .ok (.getfield 26, 3) := by decide +kernel
theorem dX4_push_33 : decode cX4_push 33 = .ok (.iconst 1, 1) := by decide +kernel
theorem dX4_push_34 : decode cX4_push 34 = .ok (.iadd, 1) := by decide +kernel
theorem dX4_push_35 : decode cX4_push 35 = .ok (.invokestatic 29, 3) := by decide +kernel
theorem dX4_push_38 : decode cX4_push 38 = .ok (.putfield 26, 3) := by decide +kernel
theorem dX4_push_41 : decode cX4_push 41 = .ok (.return_, 1) := by decide +kernel
theorem dX4_pop_0 : decode cX4_pop 0 = .ok (.aload_n 0, 1) := by decide +kernel
theorem dX4_pop_1 : decode cX4_pop 1 = .ok (.getfield 26, 3) := by decide +kernel
theorem dX4_pop_4 : decode cX4_pop 4 = .ok (.ifCond .ne 5, 3) := by decide +kernel
theorem dX4_pop_7 : decode cX4_pop 7 = .ok (.iconst 0, 1) := by decide +kernel
theorem dX4_pop_8 : decode cX4_pop 8 = .ok (.ireturn, 1) := by decide +kernel
theorem dX4_pop_9 : decode cX4_pop 9 = .ok (.aload_n 0, 1) := by decide +kernel
theorem dX4_pop_10 : decode cX4_pop 10 = .ok (.aload_n 0, 1) := by decide +kernel
theorem dX4_pop_11 : decode cX4_pop 11 = .ok (.getfield 18, 3) := by decide +kernel
theorem dX4_pop_14 : decode cX4_pop 14 = .ok (.bipush 8, 2) := by decide +kernel
theorem dX4_pop_16 : decode cX4_pop 16 = .ok (.iadd, 1) := by decide +kernel
theorem dX4_pop_17 : decode cX4_pop 17 = .ok (.iconst 1, 1) := by decide +kernel
theorem dX4_pop_18 : decode cX4_pop 18 = .ok (.isub, 1) := by decide +kernel
theorem dX4_pop_19 : decode cX4_pop 19 = .ok (.bipush 8, 2) := by decide +kernel
theorem dX4_pop_21 : decode cX4_pop 21 = .ok (.irem, 1) := by decide +kernel
theorem dX4_pop_22 : decode cX4_pop 22 = .ok (.putfield 18, 3) := by decide +kernel
theorem dX4_pop_25 : decode cX4_pop 25 = .ok (.aload_n 0, 1) := by decide +kernel
theorem dX4_pop_26 : decode cX4_pop 26 = .ok (.dup, 1) := by decide +kernel
theorem dX4_pop_27 : decode cX4_pop 27 = .ok (.getfield 26, 3) := by decide +kernel
theorem dX4_pop_30 : decode cX4_pop 30 = .ok (.iconst 1, 1) := by decide +kernel
theorem dX4_pop_31 : decode cX4_pop 31 = .ok (.isub, 1) := by decide +kernel
theorem dX4_pop_32 : decode cX4_pop 32 = .ok (.putfield 26, 3) := by decide +kernel
theorem dX4_pop_35 : decode cX4_pop 35 = .ok (.aload_n 1, 1) := by decide +kernel
theorem dX4_pop_36 : decode cX4_pop 36 = .ok (.aload_n 0, 1) := by decide +kernel
theorem dX4_pop_37 : decode cX4_pop 37 = .ok (.getfield 11, 3) := by decide +kernel
theorem dX4_pop_40 : decode cX4_pop 40 = .ok (.aload_n 0, 1) := by decide +kernel
theorem dX4_pop_41 : decode cX4_pop 41 = .ok (.getfield 18, 3) := by decide +kernel
theorem dX4_pop_44 : decode cX4_pop 44 = .ok (.aaload, 1) := by decide +kernel
theorem dX4_pop_45 : decode cX4_pop 45 = .ok (.invokevirtual 22, 3) := by decide +kernel
theorem dX4_pop_48 : decode cX4_pop 48 = .ok (.iconst 1, 1) := by decide +kernel
theorem dX4_pop_49 : decode cX4_pop 49 = .ok (.ireturn, 1) := by decide +kernel
theorem dX5_init_0 : decode cX5_init 0 = .ok (.aload_n 0, 1) := by decide +kernel
theorem dX5_init_1 : decode cX5_init 1 = .ok (.invokespecial 3, 3) := by decide +kernel
theorem dX5_init_4 : decode cX5_init 4 = .ok (.aload_n 0, 1) := by decide +kernel
theorem dX5_init_5 : decode cX5_init 5 = .ok (.iconst 5, 1) := by decide +kernel
theorem dX5_init_6 : decode cX5_init 6 = .ok (.anewarray 9, 3) := by decide +kernel
theorem dX5_init_9 : decode cX5_init 9 = .ok (.putfield 11, 3) := by decide +kernel
theorem dX5_init_12 : decode cX5_init 12 = .ok (.iconst 0, 1) := by decide +kernel
theorem dX5_init_13 : decode cX5_init 13 = .ok (.istore_n 1, 1) := by decide +kernel
theorem dX5_init_14 : decode cX5_init 14 = .ok (.iload_n 1, 1) := by decide +kernel
theorem dX5_init_15 : decode cX5_init 15 = .ok (.iconst 5, 1) := by decide +kernel
theorem dX5_init_16 : decode cX5_init 16 = .ok (.if_icmp .ge 22, 3) := by decide +kernel
theorem dX5_init_19 : decode cX5_init 19 = .ok (.aload_n 0, 1) := by decide +kernel
theorem dX5_init_20 : decode cX5_init 20 = .ok (.getfield 11, 3) := by decide +kernel
theorem dX5_init_23 : decode cX5_init 23 = .ok (.iload_n 1, 1) := by decide +kernel
theorem dX5_init_24 : decode cX5_init 24 = .ok (.new 9, 3) := by decide +kernel
theorem dX5_init_27 : decode cX5_init 27 = .ok (.dup, 1) := by decide +kernel
theorem dX5_init_28 : decode cX5_init 28 = .ok (.invokespecial 17, 3) := by decide +kernel
theorem dX5_init_31 : decode cX5_init 31 = .ok (.aastore, 1) := by decide +kernel
theorem dX5_init_32 : decode cX5_init 32 = .ok (.iinc 1 1, 3) := by decide +kernel
theorem dX5_init_35 : decode cX5_init 35 = .ok (.goto (-21), 3) := by decide +kernel
theorem dX5_init_38 : decode cX5_init 38 = .ok (.return_, 1) := by decide +kernel
theorem dX5_copy_0 : decode cX5_copy 0 = .ok (.aload_n 0, 1) := by decide +kernel
theorem dX5_copy_1 : decode cX5_copy 1 = .ok (.aload_n 1, 1) := by decide +kernel
theorem dX5_copy_2 : decode cX5_copy 2 = .ok (.getfield 18, 3) := by decide +kernel
theorem dX5_copy_5 : decode cX5_copy 5 = .ok (.putfield 18, 3) := by decide +kernel
theorem dX5_copy_8 : decode cX5_copy 8 = .ok (.aload_n 0, 1) := by decide +kernel
theorem dX5_copy_9 : decode cX5_copy 9 = .ok (.aload_n 1, 1) := by decide +kernel
theorem dX5_copy_10 : decode cX5_copy 10 = .ok (.getfield 22, 3) := by decide +kernel
theorem dX5_copy_13 : decode cX5_copy 13 = .ok (.putfield 22, 3) := by decide +kernel
theorem dX5_copy_16 : decode cX5_copy 16 = .ok (.aload_n 0, 1) := by decide +kernel
theorem dX5_copy_17 : decode cX5_copy 17 = .ok (.aload_n 1, 1) := by decide +kernel
theorem dX5_copy_18 : decode cX5_copy 18 = .ok (.getfield 25, 3) := by decide +kernel
theorem dX5_copy_21 : decode cX5_copy 21 = .ok (.putfield 25, 3) := by decide +kernel
theorem dX5_copy_24 : decode cX5_copy 24 = .ok (.aload_n 0, 1) := by decide +kernel
theorem dX5_copy_25 : decode cX5_copy 25 = .ok (.aload_n 1, 1) := by decide +kernel
theorem dX5_copy_26 : decode cX5_copy 26 = .ok (.getfield 28, 3) := by decide +kernel
theorem dX5_copy_29 : decode cX5_copy 29 = .ok (.putfield 28, 3) := by decide +kernel
theorem dX5_copy_32 : decode cX5_copy 32 = .ok (.aload_n 0, 1) := by decide +kernel
theorem dX5_copy_33 : decode cX5_copy 33 = .ok (.aload_n 1, 1) := by decide +kernel
theorem dX5_copy_34 : decode cX5_copy 34 = .ok (.getfield 31, 3) := by decide +kernel
theorem dX5_copy_37 : decode cX5_copy 37 = .ok (.putfield 31, 3) := by decide +kernel
theorem dX5_copy_40 : decode cX5_copy 40 = .ok (.iconst 0, 1) := by decide +kernel
theorem dX5_copy_41 : decode cX5_copy 41 = .ok (.istore_n 2, 1) := by decide +kernel
theorem dX5_copy_42 : decode cX5_copy 42 = .ok (.iload_n 2, 1) := by decide +kernel
theorem dX5_copy_43 : decode cX5_copy 43 = .ok (.iconst 5, 1) := by decide +kernel
theorem dX5_copy_44 : decode cX5_copy 44 = .ok (.if_icmp .ge 24, 3) := by decide +kernel
theorem dX5_copy_47 : decode cX5_copy 47 = .ok (.aload_n 0, 1) := by decide +kernel
theorem dX5_copy_48 : decode cX5_copy 48 = .ok (.getfield 11, 3) := by decide +kernel
theorem dX5_copy_51 : decode cX5_copy 51 = .ok (.iload_n 2, 1) := by decide +kernel
theorem dX5_copy_52 : decode cX5_copy 52 = .ok (.aaload, 1) := by decide +kernel
theorem dX5_copy_53 : decode cX5_copy 53 = .ok (.aload_n 1, 1) := by decide +kernel
theorem dX5_copy_54 : decode cX5_copy 54 = .ok (.getfield 11, 3) := by decide +kernel
theorem dX5_copy_57 : decode cX5_copy 57 = .ok (.iload_n 2, 1) := by decide +kernel
theorem dX5_copy_58 : decode cX5_copy 58 = .ok (.aaload, 1) := by decide +kernel
theorem dX5_copy_59 : decode cX5_copy 59 = .ok (.invokevirtual 34, 3) := by decide +kernel
theorem dX5_copy_62 : decode cX5_copy 62 = .ok (.iinc 2 1, 3) := by decide +kernel
theorem dX5_copy_65 : decode cX5_copy 65 = .ok (.goto (-23), 3) := by decide +kernel
theorem dX5_copy_68 : decode cX5_copy 68 = .ok (.return_, 1) := by decide +kernel
theorem dX5_startAnew_0 : decode cX5_startAnew 0 = .ok (.aload_n 0, 1) := by decide +kernel
theorem dX5_startAnew_1 : decode cX5_startAnew 1 = .ok (.iconst 0, 1) := by decide +kernel
theorem dX5_startAnew_2 : decode cX5_startAnew 2 = .ok (.putfield 18, 3) := by decide +kernel
theorem dX5_startAnew_5 : decode cX5_startAnew 5 = .ok (.aload_n 0, 1) := by decide +kernel
theorem dX5_startAnew_6 : decode cX5_startAnew 6 = .ok (.iconst 0, 1) := by decide +kernel
theorem dX5_startAnew_7 : decode cX5_startAnew 7 = .ok (.putfield 22, 3) := by decide +kernel
theorem dX5_startAnew_10 : decode cX5_startAnew 10 = .ok (.aload_n 0, 1) := by decide +kernel
theorem dX5_startAnew_11 : decode cX5_startAnew 11 = .ok (.iload_n 1, 1) := by decide +kernel
theorem dX5_startAnew_12 : decode cX5_startAnew 12 = .ok (.putfield 25, 3) := by decide +kernel
theorem dX5_startAnew_15 : decode cX5_startAnew 15 = .ok (.aload_n 0, 1) := by decide +kernel
theorem dX5_startAnew_16 : decode cX5_startAnew 16 = .ok (.iconst 0, 1) := by decide +kernel
theorem dX5_startAnew_17 : decode cX5_startAnew 17 = .ok (.putfield 28, 3) := by decide +kernel
theorem dX5_startAnew_20 : decode cX5_startAnew 20 = .ok (.aload_n 0, 1) := by decide +kernel
theorem dX5_startAnew_21 : decode cX5_startAnew 21 = .ok (.iconst 0, 1) := by decide +kernel
theorem dX5_startAnew_22 : decode cX5_startAnew 22 = .ok (.putfield 31, 3) := by decide +kernel
theorem dX5_startAnew_25 : decode cX5_startAnew 25 = .ok (.iconst 0, 1) := by decide +kernel
theorem dX5_startAnew_26 : decode cX5_startAnew 26 = .ok (.istore_n 2, 1) := by decide +kernel
theorem dX5_startAnew_27 : decode cX5_startAnew 27 = .ok (.iload_n 2, 1) := by decide +kernel
theorem dX5_startAnew_28 : decode cX5_startAnew 28 = .ok (.iconst 5, 1) := by decide +kernel
theorem dX5_startAnew_29 : decode cX5_startAnew 29 = .ok (.if_icmp .ge 18, 3) := by decide +kernel
theorem dX5_startAnew_32 : decode cX5_startAnew 32 = .ok (.aload_n 0, 1) := by decide +kernel
theorem dX5_startAnew_33 : decode cX5_startAnew 33 = .ok (.getfield 11, 3) := by decide +kernel
theorem dX5_startAnew_36 : decode cX5_startAnew 36 = .ok (.iload_n 2, 1) := by decide +kernel
theorem dX5_startAnew_37 : decode cX5_startAnew 37 = .ok (.aaload, 1) := by decide +kernel
theorem dX5_startAnew_38 : decode cX5_startAnew 38 = .ok (.invokevirtual 38, 3) := by decide +kernel
theorem dX5_startAnew_41 : decode cX5_startAnew 41 = .ok (.iinc 2 1, 3) := by decide +kernel
theorem dX5_startAnew_44 : decode cX5_startAnew 44 = .ok (.goto (-17), 3) := by decide +kernel
theorem dX5_startAnew_47 : decode cX5_startAnew 47 = .ok (.return_, 1) := by decide +kernel
theorem dX5_passMinute_0 : decode cX5_passMinute 0 = .ok (.aload_n 1, 1) := by decide +kernel
theorem dX5_passMinute_1 : decode cX5_passMinute 1 = .ok (.aload_n 0, 1) := by decide +kernel
theorem dX5_passMinute_2 : decode cX5_passMinute 2 = .ok (.getfield 18, 3) := by decide +kernel
theorem dX5_passMinute_5 : decode cX5_passMinute 5 = .ok (.invokevirtual 41, 3) := by decide +kernel
theorem dX5_passMinute_8 : decode cX5_passMinute 8 = .ok (.istore_n 2, 1) := by decide +kernel
theorem dX5_passMinute_9 : decode cX5_passMinute 9 = .ok (.iconst 0, 1) := by decide +kernel
theorem dX5_passMinute_10 : decode cX5_passMinute 10 = .ok (.istore_n 3, 1) := by decide +kernel
theorem dX5_passMinute_11 : decode cX5_passMinute 11 = .ok (.iconst 0, 1) := by decide +kernel
theorem dX5_passMinute_12 : decode cX5_passMinute 12 = .ok (.istore 4, 2) := by decide +kernel
theorem dX5_passMinute_14 : decode cX5_passMinute 14 = .ok (.iload 4, 2) := by decide +kernel
theorem dX5_passMinute_16 : decode cX5_passMinute 16 = .ok (.aload_n 1, 1) := by decide +kernel
theorem dX5_passMinute_17 : decode cX5_passMinute 17 = .ok (.getfield 47, 3) := by decide +kernel
theorem dX5_passMinute_20 : decode cX5_passMinute 20 = .ok (.if_icmp .ge 30, 3) := by decide +kernel
theorem dX5_passMinute_23 : decode cX5_passMinute 23 = .ok (.iload_n 3, 1) := by decide +kernel
theorem dX5_passMinute_24 : decode cX5_passMinute 24 = .ok (.aload_n 0, 1) := by decide +kernel
theorem dX5_passMinute_25 : decode cX5_passMinute 25 = .ok (.getfield 11, 3) := by decide +kernel
theorem dX5_passMinute_28 : decode cX5_passMinute 28 = .ok (.iload 4, 2) := by decide +kernel
theorem dX5_passMinute_30 : decode cX5_passMinute 30 = .ok (.aaload, 1) := by decide +kernel
theorem dX5_passMinute_31 : decode cX5_passMinute 31 = .ok (.aload_n 1, 1) := by decide +kernel
theorem dX5_passMinute_32 : decode cX5_passMinute 32 = .ok (.getfield 50, 3) := by decide +kernel
theorem dX5_passMinute_35 : decode cX5_passMinute 35 = .ok (.iload 4, 2) := by decide +kernel
theorem dX5_passMinute_37 : decode cX5_passMinute 37 = .ok (.aaload, 1) := by decide +kernel
theorem dX5_passMinute_38 : decode cX5_passMinute 38 = .ok (.iload_n 2, 1) := by decide +kernel
theorem dX5_passMinute_39 : decode cX5_passMinute 39 = .ok (.invokevirtual 54, 3) := by decide +kernel
theorem dX5_passMinute_42 : decode cX5_passMinute 42 = .ok (.iadd, 1) := by decide +kernel
theorem dX5_passMinute_43 : decode cX5_passMinute 43 = .ok (.istore_n 3, 1) := by decide +kernel
theorem dX5_passMinute_44 : decode cX5_passMinute 44 = .ok (.iinc 4 1, 3) := by decide +kernel
theorem dX5_passMinute_47 : decode cX5_passMinute 47 = .ok (.goto (-33), 3) := by decide +kernel
theorem dX5_passMinute_50 : decode cX5_passMinute 50 = .ok (.aload_n 0, 1) := by decide +kernel
theorem dX5_passMinute_51 : decode cX5_passMinute 51 = .ok (.dup, 1) := by decide +kernel
theorem dX5_passMinute_52 : decode cX5_passMinute 52 = .ok (.getfield 31, 3) := by decide +kernel
theorem dX5_passMinute_55 : decode cX5_passMinute 55 = .ok (.iload_n 3, 1) := by decide +kernel
theorem dX5_passMinute_56 : decode cX5_passMinute 56 = .ok (.iadd, 1) := by decide +kernel
theorem dX5_passMinute_57 : decode cX5_passMinute 57 = .ok (.putfield 31, 3) := by decide +kernel
theorem dX5_passMinute_60 : decode cX5_passMinute 60 = .ok (.aload_n 0, 1) := by decide +kernel
theorem dX5_passMinute_61 : decode cX5_passMinute 61 = .ok (.aload_n 1, 1) := by decide +kernel
theorem dX5_passMinute_62 : decode cX5_passMinute 62 = .ok (.getfield 58, 3) := by decide +kernel
theorem dX5_passMinute_65 : decode cX5_passMinute 65 = .ok (.aload_n 0, 1) := by decide +kernel
theorem dX5_passMinute_66 : decode cX5_passMinute 66 = .ok (.getfield 22, 3) := by decide +kernel
theorem dX5_passMinute_69 : decode cX5_passMinute 69 = .ok (.iload_n 3, 1) := by decide +kernel
theorem dX5_passMinute_70 : decode cX5_passMinute 70 = .ok (.iadd, 1) := by decide +kernel
theorem dX5_passMinute_71 : decode cX5_passMinute 71 = .ok (.invokestatic 61, 3) := by decide +kernel
theorem dX5_passMinute_74 : decode cX5_passMinute 74 = .ok (.putfield 22, 3) := by decide +kernel
theorem dX5_passMinute_77 : decode cX5_passMinute 77 = .ok (.aload_n 0, 1) := by decide +kernel
theorem dX5_passMinute_78 : decode cX5_passMinute 78 = .ok (.getfield 22, 3) := by decide +kernel
theorem dX5_passMinute_81 : decode cX5_passMinute 81 = .ok (.aload_n 1, 1) := by decide +kernel
theorem dX5_passMinute_82 : decode cX5_passMinute 82 = .ok (.getfield 58, 3) := by decide +kernel
theorem dX5_passMinute_85 : decode cX5_passMinute 85 = .ok (.if_icmp .ne 13, 3) := by decide +kernel
theorem dX5_passMinute_88 : decode cX5_passMinute 88 = .ok (.aload_n 0, 1) := by decide +kernel
theorem dX5_passMinute_89 : decode cX5_passMinute 89 = .ok (.dup, 1) := by decide +kernel
theorem dX5_passMinute_90 : decode cX5_passMinute 90 = .ok (.getfield 28, 3) := by decide +kernel
theorem dX5_passMinute_93 : decode cX5_passMinute 93 = .ok (.iconst 1, 1) := by decide +kernel
theorem dX5_passMinute_94 : decode cX5_passMinute 94 = .ok (.iadd, 1) := by decide +kernel
theorem dX5_passMinute_95 : decode cX5_passMinute 95 = .ok (.putfield 28, 3) := by decide +kernel
theorem dX5_passMinute_98 : decode cX5_passMinute 98 = .ok (.aload_n 0, 1) := by decide +kernel
theorem dX5_passMinute_99 : decode cX5_passMinute 99 = .ok (.dup, 1) := by decide +kernel
theorem dX5_passMinute_100 : decode cX5_passMinute 100 = .ok (.getfield 22, 3) := by decide +kernel
theorem dX5_passMinute_103 : decode cX5_passMinute 103 = .ok (.aload_n 0, 1) := by decide +kernel
theorem dX5_passMinute_104 : decode cX5_passMinute 104 = .ok (.getfield 22, 3) := by decide +kernel
theorem dX5_passMinute_107 : decode cX5_passMinute 107 = .ok (.aload_n 0, 1) := by decide +kernel
theorem dX5_passMinute_108 : decode cX5_passMinute 108 = .ok (.getfield 25, 3) := by decide +kernel
theorem dX5_passMinute_111 : decode cX5_passMinute 111 = .ok (.invokestatic 67, 3) := by decide +kernel
theorem dX5_passMinute_114 : decode cX5_passMinute 114 = .ok (.isub, 1) := by decide +kernel
theorem dX5_passMinute_115 : decode cX5_passMinute 115 = .ok (.putfield 22, 3) := by decide +kernel
theorem dX5_passMinute_118 : decode cX5_passMinute 118 = .ok (.aload_n 0, 1) := by decide +kernel
theorem dX5_passMinute_119 : decode cX5_passMinute 119 = .ok (.dup, 1) := by decide +kernel
theorem dX5_passMinute_120 : decode cX5_passMinute 120 = .ok (.getfield 18, 3) := by decide +kernel
theorem dX5_passMinute_123 : decode cX5_passMinute 123 = .ok (.iconst 1, 1) := by decide +kernel
theorem dX5_passMinute_124 : decode cX5_passMinute 124 = .ok (.iadd, 1) := by decide +kernel
theorem dX5_passMinute_125 : decode cX5_passMinute 125 = .ok (.putfield 18, 3) := by decide +kernel
theorem dX5_passMinute_128 : decode cX5_passMinute 128 = .ok (.return_, 1) := by decide +kernel
theorem dX5_workers_0 : decode cX5_workers 0 = .ok (.iconst 0, 1) := by decide +kernel
theorem dX5_workers_1 : decode cX5_workers 1 = .ok (.istore_n 1, 1) := by decide +kernel
theorem dX5_workers_2 : decode cX5_workers 2 = .ok (.iconst 0, 1) := by decide +kernel
theorem dX5_workers_3 : decode cX5_workers 3 = .ok (.istore_n 2, 1) := by decide +kernel
theorem dX5_workers_4 : decode cX5_workers 4 = .ok (.iload_n 2, 1) := by decide +kernel
theorem dX5_workers_5 : decode cX5_workers 5 = .ok (.iconst 5, 1) := by decide +kernel
theorem dX5_workers_6 : decode cX5_workers 6 = .ok (.if_icmp .ge 27, 3) := by decide +kernel
theorem dX5_workers_9 : decode cX5_workers 9 = .ok (.aload_n 0, 1) := by decide +kernel
theorem dX5_workers_10 : decode cX5_workers 10 = .ok (.getfield 11, 3) := by decide +kernel
theorem dX5_workers_13 : decode cX5_workers 13 = .ok (.iload_n 2, 1) := by decide +kernel
theorem dX5_workers_14 : decode cX5_workers 14 = .ok (.aaload, 1) := by decide +kernel
theorem dX5_workers_15 : decode cX5_workers 15 = .ok (.getfield 70, 3) := by decide +kernel
theorem dX5_workers_18 : decode cX5_workers 18 = .ok (.ifCond .eq 9, 3) := by decide +kernel
theorem dX5_workers_21 : decode cX5_workers 21 = .ok (.iload_n 1, 1) := by decide +kernel
theorem dX5_workers_22 : decode cX5_workers 22 = .ok (.iconst 1, 1) := by decide +kernel
theorem dX5_workers_23 : decode cX5_workers 23 = .ok (.iload_n 2, 1) := by decide +kernel
theorem dX5_workers_24 : decode cX5_workers 24 = .ok (.ishl, 1) := by decide +kernel
theorem dX5_workers_25 : decode cX5_workers 25 = .ok (.ior, 1) := by decide +kernel
theorem dX5_workers_26 : decode cX5_workers 26 = .ok (.istore_n 1, 1) := by decide +kernel
theorem dX5_workers_27 : decode cX5_workers 27 = .ok (.iinc 2 1, 3) := by decide +kernel
theorem dX5_workers_30 : decode cX5_workers 30 = .ok (.goto (-26), 3) := by decide +kernel
theorem dX5_workers_33 : decode cX5_workers 33 = .ok (.iload_n 1, 1) := by decide +kernel
theorem dX5_workers_34 : decode cX5_workers 34 = .ok (.ireturn, 1) := by decide +kernel
theorem dX6_init_0 : decode cX6_init 0 = .ok (.aload_n 0, 1) := by decide +kernel
theorem dX6_init_1 : decode cX6_init 1 = .ok (.invokespecial 3, 3) := by decide +kernel
theorem dX6_init_4 : decode cX6_init 4 = .ok (.return_, 1) := by decide +kernel
theorem dX6_walk_0 : decode cX6_walk 0 = .ok (.aload_n 0, 1) := by decide +kernel
theorem dX6_walk_1 : decode cX6_walk 1 = .ok (.getfield 9, 3) := by decide +kernel
theorem dX6_walk_4 : decode cX6_walk 4 = .ok (.iconst 1, 1) := by decide +kernel
theorem dX6_walk_5 : decode cX6_walk 5 = .ok (.if_icmp .eq 8, 3) := by decide +kernel
theorem dX6_walk_8 : decode cX6_walk 8 = .ok (.aload_n 0, 1) := by decide +kernel
theorem dX6_walk_9 : decode cX6_walk 9 = .ok (.getfield 15, 3) := by decide +kernel
theorem dX6_walk_12 : decode cX6_walk 12 = .ok (.ireturn, 1) := by decide +kernel
theorem dX6_walk_13 : decode cX6_walk 13 = .ok (.iload_n 1, 1) := by decide +kernel
theorem dX6_walk_14 : decode cX6_walk 14 = .ok (.iconst 3, 1) := by decide +kernel
theorem dX6_walk_15 : decode cX6_walk 15 = .ok (.if_icmp .ge 16, 3) := by decide +kernel
theorem dX6_walk_18 : decode cX6_walk 18 = .ok (.iconst 1, 1) := by decide +kernel
theorem dX6_walk_19 : decode cX6_walk 19 = .ok (.aload_n 0, 1) := by decide +kernel
theorem dX6_walk_20 : decode cX6_walk 20 = .ok (.getfield 15, 3) := by decide +kernel
theorem dX6_walk_23 : decode cX6_walk 23 = .ok (.iconst 1, 1) := by decide +kernel
theorem dX6_walk_24 : decode cX6_walk 24 = .ok (.isub, 1) := by decide +kernel
theorem dX6_walk_25 : decode cX6_walk 25 = .ok (.invokestatic 18, 3) := by decide +kernel
theorem dX6_walk_28 : decode cX6_walk 28 = .ok (.goto 9, 3) := by decide +kernel
theorem dX6_walk_31 : decode cX6_walk 31 = .ok (.aload_n 0, 1) := by decide +kernel
theorem dX6_walk_32 : decode cX6_walk 32 = .ok (.getfield 15, 3) := by decide +kernel
theorem dX6_walk_35 : decode cX6_walk 35 = .ok (.iconst 1, 1) := by decide +kernel
theorem dX6_walk_36 : decode cX6_walk 36 = .ok (.iadd, 1) := by decide +kernel
theorem dX6_walk_37 : decode cX6_walk 37 = .ok (.ireturn, 1) := by decide +kernel
theorem dX6_walkBack_0 : decode cX6_walkBack 0 = .ok (.aload_n 0, 1) := by decide +kernel
theorem dX6_walkBack_1 : decode cX6_walkBack 1 = .ok (.getfield 9, 3) := by decide +kernel
theorem dX6_walkBack_4 : decode cX6_walkBack 4 = .ok (.iconst 2, 1) := by decide +kernel
theorem dX6_walkBack_5 : decode cX6_walkBack 5 = .ok (.if_icmp .ne 13, 3) := by decide +kernel
theorem dX6_walkBack_8 : decode cX6_walkBack 8 = .ok (.aload_n 0, 1) := by decide +kernel
theorem dX6_walkBack_9 : decode cX6_walkBack 9 = .ok (.iload_n 1, 1) := by decide +kernel
theorem dX6_walkBack_10 : decode cX6_walkBack 10 = .ok (.invokevirtual 24, 3) := by decide +kernel
theorem dX6_walkBack_13 : decode cX6_walkBack 13 = .ok (.iconst 2, 1) := by decide +kernel
theorem dX6_walkBack_14 : decode cX6_walkBack 14 = .ok (.iadd, 1) := by decide +kernel
theorem dX6_walkBack_15 : decode cX6_walkBack 15 = .ok (.goto 8, 3) := by decide +kernel
theorem dX6_walkBack_18 : decode cX6_walkBack 18 = .ok (.aload_n 0, 1) := by decide +kernel
theorem dX6_walkBack_19 : decode cX6_walkBack 19 = .ok (.iload_n 1, 1) := by decide +kernel
theorem dX6_walkBack_20 : decode cX6_walkBack 20 = .ok (.invokevirtual 24, 3) := by decide +kernel
theorem dX6_walkBack_23 : decode cX6_walkBack 23 = .ok (.ireturn, 1) := by decide +kernel
theorem dX6_drip_0 : decode cX6_drip 0 = .ok (.aload_n 0, 1) := by decide +kernel
theorem dX6_drip_1 : decode cX6_drip 1 = .ok (.getfield 28, 3) := by decide +kernel
theorem dX6_drip_4 : decode cX6_drip 4 = .ok (.tableswitch 55 1 3 #[28, 35, 48], 28) := by decide +kernel
theorem dX6_drip_32 : decode cX6_drip 32 = .ok (.aload_n 0, 1) := by decide +kernel
theorem dX6_drip_33 : decode cX6_drip 33 = .ok (.getfield 31, 3) := by decide +kernel
theorem dX6_drip_36 : decode cX6_drip 36 = .ok (.iconst 2, 1) := by decide +kernel
theorem dX6_drip_37 : decode cX6_drip 37 = .ok (.idiv, 1) := by decide +kernel
theorem dX6_drip_38 : decode cX6_drip 38 = .ok (.ireturn, 1) := by decide +kernel
theorem dX6_drip_39 : decode cX6_drip 39 = .ok (.iconst 0, 1) := by decide +kernel
theorem dX6_drip_40 : decode cX6_drip 40 = .ok (.aload_n 0, 1) := by decide +kernel
theorem dX6_drip_41 : decode cX6_drip 41 = .ok (.getfield 31, 3) := by decide +kernel
theorem dX6_drip_44 : decode cX6_drip 44 = .ok (.iconst 2, 1) := by decide +kernel
theorem dX6_drip_45 : decode cX6_drip 45 = .ok (.idiv, 1) := by decide +kernel
theorem dX6_drip_46 : decode cX6_drip 46 = .ok (.iconst 1, 1) := by decide +kernel
theorem dX6_drip_47 : decode cX6_drip 47 = .ok (.isub, 1) := by decide +kernel
theorem dX6_drip_48 : decode cX6_drip 48 = .ok (.invokestatic 18, 3) := by decide +kernel
theorem dX6_drip_51 : decode cX6_drip 51 = .ok (.ireturn, 1) := by decide +kernel
theorem dX6_drip_52 : decode cX6_drip 52 = .ok (.aload_n 0, 1) := by decide +kernel
theorem dX6_drip_53 : decode cX6_drip 53 = .ok (.getfield 31, 3) := by decide +kernel
theorem dX6_drip_56 : decode cX6_drip 56 = .ok (.iconst 2, 1) := by decide +kernel
theorem dX6_drip_57 : decode cX6_drip 57 = .ok (.iadd, 1) := by decide +kernel
theorem dX6_drip_58 : decode cX6_drip 58 = .ok (.ireturn, 1) := by decide +kernel
theorem dX6_drip_59 : decode cX6_drip 59 = .ok (.aload_n 0, 1) := by decide +kernel
theorem dX6_drip_60 : decode cX6_drip 60 = .ok (.getfield 31, 3) := by decide +kernel
theorem dX6_drip_63 : decode cX6_drip 63 = .ok (.ireturn, 1) := by decide +kernel
theorem dX7_init_0 : decode cX7_init 0 = .ok (.aload_n 0, 1) := by decide +kernel
theorem dX7_init_1 : decode cX7_init 1 = .ok (.invokespecial 3, 3) := by decide +kernel
theorem dX7_init_4 : decode cX7_init 4 = .ok (.aload_n 0, 1) := by decide +kernel
theorem dX7_init_5 : decode cX7_init 5 = .ok (.iconst 5, 1) := by decide +kernel
theorem dX7_init_6 : decode cX7_init 6 = .ok (.anewarray 9, 3) := by decide +kernel
theorem dX7_init_9 : decode cX7_init 9 = .ok (.putfield 11, 3) := by decide +kernel
theorem dX7_init_12 : decode cX7_init 12 = .ok (.iconst 0, 1) := by decide +kernel
theorem dX7_init_13 : decode cX7_init 13 = .ok (.istore_n 1, 1) := by decide +kernel
theorem dX7_init_14 : decode cX7_init 14 = .ok (.iload_n 1, 1) := by decide +kernel
theorem dX7_init_15 : decode cX7_init 15 = .ok (.iconst 5, 1) := by decide +kernel
theorem dX7_init_16 : decode cX7_init 16 = .ok (.if_icmp .ge 22, 3) := by decide +kernel
theorem dX7_init_19 : decode cX7_init 19 = .ok (.aload_n 0, 1) := by decide +kernel
theorem dX7_init_20 : decode cX7_init 20 = .ok (.getfield 11, 3) := by decide +kernel
theorem dX7_init_23 : decode cX7_init 23 = .ok (.iload_n 1, 1) := by decide +kernel
theorem dX7_init_24 : decode cX7_init 24 = .ok (.new 9, 3) := by decide +kernel
theorem dX7_init_27 : decode cX7_init 27 = .ok (.dup, 1) := by decide +kernel
theorem dX7_init_28 : decode cX7_init 28 = .ok (.invokespecial 17, 3) := by decide +kernel
theorem dX7_init_31 : decode cX7_init 31 = .ok (.aastore, 1) := by decide +kernel
theorem dX7_init_32 : decode cX7_init 32 = .ok (.iinc 1 1, 3) := by decide +kernel
theorem dX7_init_35 : decode cX7_init 35 = .ok (.goto (-21), 3) := by decide +kernel
theorem dX7_init_38 : decode cX7_init 38 = .ok (.aload_n 0, 1) := by decide +kernel
theorem dX7_init_39 : decode cX7_init 39 = .ok (.invokevirtual 18, 3) := by decide +kernel
theorem dX7_init_42 : decode cX7_init 42 = .ok (.return_, 1) := by decide +kernel
theorem dX7_setAsAtFirst_0 : decode cX7_setAsAtFirst 0 = .ok (.aload_n 0, 1) := by decide +kernel
theorem dX7_setAsAtFirst_1 : decode cX7_setAsAtFirst 1 = .ok (.iconst 0, 1) := by decide +kernel
theorem dX7_setAsAtFirst_2 : decode cX7_setAsAtFirst 2 = .ok (.putfield 21, 3) := by decide +kernel
theorem dX7_setAsAtFirst_5 : decode cX7_setAsAtFirst 5 = .ok (.aload_n 0, 1) := by decide +kernel
theorem dX7_setAsAtFirst_6 : decode cX7_setAsAtFirst 6 = .ok (.iconst 0, 1) := by decide +kernel
theorem dX7_setAsAtFirst_7 : decode cX7_setAsAtFirst 7 = .ok (.putfield 25, 3) := by decide +kernel
theorem dX7_setAsAtFirst_10 : decode cX7_setAsAtFirst 10 = .ok (.aload_n 0, 1) := by decide +kernel
theorem dX7_setAsAtFirst_11 : decode cX7_setAsAtFirst 11 = .ok (.iconst 3, 1) := by decide +kernel
theorem dX7_setAsAtFirst_12 : decode cX7_setAsAtFirst 12 = .ok (.putfield 28, 3) := by decide +kernel
theorem dX7_setAsAtFirst_15 : decode cX7_setAsAtFirst 15 = .ok (.aload_n 0, 1) := by decide +kernel
theorem dX7_setAsAtFirst_16 : decode cX7_setAsAtFirst 16 = .ok (.bipush 50, 2) := by decide +kernel
theorem dX7_setAsAtFirst_18 : decode cX7_setAsAtFirst 18 = .ok (.putfield 31, 3) := by decide +kernel
theorem dX7_setAsAtFirst_21 : decode cX7_setAsAtFirst 21 = .ok (.aload_n 0, 1) := by decide +kernel
theorem dX7_setAsAtFirst_22 : decode cX7_setAsAtFirst 22 = .ok (.iconst 2, 1) := by decide +kernel
theorem dX7_setAsAtFirst_23 : decode cX7_setAsAtFirst 23 = .ok (.putfield 34, 3) := by decide +kernel
theorem dX7_setAsAtFirst_26 : decode cX7_setAsAtFirst 26 = .ok (.aload_n 0, 1) := by decide +kernel
theorem dX7_setAsAtFirst_27 : decode cX7_setAsAtFirst 27 = .ok (.iconst (-1), 1) := by decide +kernel
theorem dX7_setAsAtFirst_28 : decode cX7_setAsAtFirst 28 = .ok (.iconst (-1), 1) := by decide +kernel
theorem dX7_setAsAtFirst_29 : decode cX7_setAsAtFirst 29 = .ok (.invokevirtual 37, 3) := by decide +kernel
theorem dX7_setAsAtFirst_32 : decode cX7_setAsAtFirst 32 = .ok (.return_, 1) := by decide +kernel
theorem dX7_setFrost_0 : decode cX7_setFrost 0 = .ok (.aload_n 0, 1) := by decide +kernel
theorem dX7_setFrost_1 : decode cX7_setFrost 1 = .ok (.iload_n 1, 1) := by decide +kernel
theorem dX7_setFrost_2 : decode cX7_setFrost 2 = .ok (.putfield 41, 3) := by decide +kernel
theorem dX7_setFrost_5 : decode cX7_setFrost 5 = .ok (.aload_n 0, 1) := by decide +kernel
theorem dX7_setFrost_6 : decode cX7_setFrost 6 = .ok (.iload_n 2, 1) := by decide +kernel
theorem dX7_setFrost_7 : decode cX7_setFrost 7 = .ok (.putfield 44, 3) := by decide +kernel
theorem dX7_setFrost_10 : decode cX7_setFrost 10 = .ok (.return_, 1) := by decide +kernel
theorem dX7_isFrost_0 : decode cX7_isFrost 0 = .ok (.iload_n 1, 1) := by decide +kernel
theorem dX7_isFrost_1 : decode cX7_isFrost 1 = .ok (.aload_n 0, 1) := by decide +kernel
theorem dX7_isFrost_2 : decode cX7_isFrost 2 = .ok (.getfield 41, 3) := by decide +kernel
theorem dX7_isFrost_5 : decode cX7_isFrost 5 = .ok (.if_icmp .lt 15, 3) := by decide +kernel
theorem dX7_isFrost_8 : decode cX7_isFrost 8 = .ok (.iload_n 1, 1) := by decide +kernel
theorem dX7_isFrost_9 : decode cX7_isFrost 9 = .ok (.aload_n 0, 1) := by decide +kernel
theorem dX7_isFrost_10 : decode cX7_isFrost 10 = .ok (.getfield 44, 3) := by decide +kernel
theorem dX7_isFrost_13 : decode cX7_isFrost 13 = .ok (.if_icmp .gt 7, 3) := by decide +kernel
theorem dX7_isFrost_16 : decode cX7_isFrost 16 = .ok (.iconst 1, 1) := by decide +kernel
theorem dX7_isFrost_17 : decode cX7_isFrost 17 = .ok (.goto 4, 3) := by decide +kernel
theorem dX7_isFrost_20 : decode cX7_isFrost 20 = .ok (.iconst 0, 1) := by decide +kernel
theorem dX7_isFrost_21 : decode cX7_isFrost 21 = .ok (.ireturn, 1) := by decide +kernel
theorem dX7_hear_0 : decode cX7_hear 0 = .ok (.iload_n 1, 1) := by decide +kernel
theorem dX7_hear_1 : decode cX7_hear 1 = .ok (.tableswitch 96 0 5 #[39, 46, 57, 70, 78, 86], 39) := by decide +kernel
theorem dX7_hear_40 : decode cX7_hear 40 = .ok (.aload_n 0, 1) := by decide +kernel
theorem dX7_hear_41 : decode cX7_hear 41 = .ok (.invokevirtual 18, 3) := by decide +kernel
theorem dX7_hear_44 : decode cX7_hear 44 = .ok (.goto 59, 3) := by decide +kernel
theorem dX7_hear_47 : decode cX7_hear 47 = .ok (.aload_n 0, 1) := by decide +kernel
theorem dX7_hear_48 : decode cX7_hear 48 = .ok (.iload_n 2, 1) := by decide +kernel
theorem dX7_hear_49 : decode cX7_hear 49 = .ok (.iload_n 3, 1) := by decide +kernel
theorem dX7_hear_50 : decode cX7_hear 50 = .ok (.iload 4, 2) := by decide +kernel
theorem dX7_hear_52 : decode cX7_hear 52 = .ok (.invokevirtual 47, 3) := by decide +kernel
theorem dX7_hear_55 : decode cX7_hear 55 = .ok (.goto 48, 3) := by decide +kernel
theorem dX7_hear_58 : decode cX7_hear 58 = .ok (.aload_n 0, 1) := by decide +kernel
theorem dX7_hear_59 : decode cX7_hear 59 = .ok (.iload_n 2, 1) := by decide +kernel
theorem dX7_hear_60 : decode cX7_hear 60 = .ok (.putfield 25, 3) := by decide +kernel
theorem dX7_hear_63 : decode cX7_hear 63 = .ok (.aload_n 0, 1) := by decide +kernel
theorem dX7_hear_64 : decode cX7_hear 64 = .ok (.iload_n 3, 1) := by decide +kernel
theorem dX7_hear_65 : decode cX7_hear 65 = .ok (.putfield 28, 3) := by decide +kernel
theorem dX7_hear_68 : decode cX7_hear 68 = .ok (.goto 35, 3) := by decide +kernel
theorem dX7_hear_71 : decode cX7_hear 71 = .ok (.aload_n 0, 1) := by decide +kernel
theorem dX7_hear_72 : decode cX7_hear 72 = .ok (.iload_n 3, 1) := by decide +kernel
theorem dX7_hear_73 : decode cX7_hear 73 = .ok (.putfield 31, 3) := by decide +kernel
theorem dX7_hear_76 : decode cX7_hear 76 = .ok (.goto 27, 3) := by decide +kernel
theorem dX7_hear_79 : decode cX7_hear 79 = .ok (.aload_n 0, 1) := by decide +kernel
theorem dX7_hear_80 : decode cX7_hear 80 = .ok (.iload_n 3, 1) := by decide +kernel
theorem dX7_hear_81 : decode cX7_hear 81 = .ok (.putfield 34, 3) := by decide +kernel
theorem dX7_hear_84 : decode cX7_hear 84 = .ok (.goto 19, 3) := by decide +kernel
theorem dX7_hear_87 : decode cX7_hear 87 = .ok (.aload_n 0, 1) := by decide +kernel
theorem dX7_hear_88 : decode cX7_hear 88 = .ok (.iload_n 3, 1) := by decide +kernel
theorem dX7_hear_89 : decode cX7_hear 89 = .ok (.iload 4, 2) := by decide +kernel
theorem dX7_hear_91 : decode cX7_hear 91 = .ok (.invokevirtual 37, 3) := by decide +kernel
theorem dX7_hear_94 : decode cX7_hear 94 = .ok (.goto 9, 3) := by decide +kernel
theorem dX7_hear_97 : decode cX7_hear 97 = .ok (.aload_n 0, 1) := by decide +kernel
theorem dX7_hear_98 : decode cX7_hear 98 = .ok (.iconst (-1), 1) := by decide +kernel
theorem dX7_hear_99 : decode cX7_hear 99 = .ok (.iconst (-1), 1) := by decide +kernel
theorem dX7_hear_100 : decode cX7_hear 100 = .ok (.invokevirtual 37, 3) := by decide +kernel
theorem dX7_hear_103 : decode cX7_hear 103 = .ok (.return_, 1) := by decide +kernel
theorem dX7_addSister_0 : decode cX7_addSister 0 = .ok (.aload_n 0, 1) := by decide +kernel
theorem dX7_addSister_1 : decode cX7_addSister 1 = .ok (.getfield 21, 3) := by decide +kernel
theorem dX7_addSister_4 : decode cX7_addSister 4 = .ok (.iconst 5, 1) := by decide +kernel
theorem dX7_addSister_5 : decode cX7_addSister 5 = .ok (.if_icmp .lt 4, 3) := by decide +kernel
theorem dX7_addSister_8 : decode cX7_addSister 8 = .ok (.return_, 1) := by decide +kernel
theorem dX7_addSister_9 : decode cX7_addSister 9 = .ok (.aload_n 0, 1) := by decide +kernel
theorem dX7_addSister_10 : decode cX7_addSister 10 = .ok (.getfield 11, 3) := by decide +kernel
theorem dX7_addSister_13 : decode cX7_addSister 13 = .ok (.aload_n 0, 1) := by decide +kernel
theorem dX7_addSister_14 : decode cX7_addSister 14 = .ok (.getfield 21, 3) := by decide +kernel
theorem dX7_addSister_17 : decode cX7_addSister 17 = .ok (.aaload, 1) := by decide +kernel
theorem dX7_addSister_18 : decode cX7_addSister 18 = .ok (.astore 4, 2) := by decide +kernel
theorem dX7_addSister_20 : decode cX7_addSister 20 = .ok (.aload 4, 2) := by decide +kernel
theorem dX7_addSister_22 : decode cX7_addSister 22 = .ok (.iload_n 1, 1) := by decide +kernel
theorem dX7_addSister_23 : decode cX7_addSister 23 = .ok (.putfield 51, 3) := by decide +kernel
theorem dX7_addSister_26 : decode cX7_addSister 26 = .ok (.aload 4, 2) := by decide +kernel
theorem dX7_addSister_28 : decode cX7_addSister 28 = .ok (.iload_n 2, 1) := by decide +kernel
theorem dX7_addSister_29 : decode cX7_addSister 29 = .ok (.putfield 54, 3) := by decide +kernel
theorem dX7_addSister_32 : decode cX7_addSister 32 = .ok (.aload 4, 2) := by decide +kernel
theorem dX7_addSister_34 : decode cX7_addSister 34 = .ok (.iload_n 3, 1) := by decide +kernel
theorem dX7_addSister_35 : decode cX7_addSister 35 = .ok (.putfield 57, 3) := by decide +kernel
theorem dX7_addSister_38 : decode cX7_addSister 38 = .ok (.aload 4, 2) := by decide +kernel
theorem dX7_addSister_40 : decode cX7_addSister 40 = .ok (.aload_n 0, 1) := by decide +kernel
theorem dX7_addSister_41 : decode cX7_addSister 41 = .ok (.getfield 25, 3) := by decide +kernel
theorem dX7_addSister_44 : decode cX7_addSister 44 = .ok (.putfield 60, 3) := by decide +kernel
theorem dX7_addSister_47 : decode cX7_addSister 47 = .ok (.aload 4, 2) := by decide +kernel
theorem dX7_addSister_49 : decode cX7_addSister 49 = .ok (.aload_n 0, 1) := by decide +kernel
theorem dX7_addSister_50 : decode cX7_addSister 50 = .ok (.getfield 28, 3) := by decide +kernel
theorem dX7_addSister_53 : decode cX7_addSister 53 = .ok (.putfield 61, 3) := by decide +kernel
theorem dX7_addSister_56 : decode cX7_addSister 56 = .ok (.aload_n 0, 1) := by decide +kernel
theorem dX7_addSister_57 : decode cX7_addSister 57 = .ok (.dup, 1) := by decide +kernel
theorem dX7_addSister_58 : decode cX7_addSister 58 = .ok (.getfield 21, 3) := by decide +kernel
theorem dX7_addSister_61 : decode cX7_addSister 61 = .ok (.iconst 1, 1) := by decide +kernel
theorem dX7_addSister_62 : decode cX7_addSister 62 = .ok (.iadd, 1) := by decide +kernel
theorem dX7_addSister_63 : decode cX7_addSister 63 = .ok (.putfield 21, 3) := by decide +kernel
theorem dX7_addSister_66 : decode cX7_addSister 66 = .ok (.return_, 1) := by decide +kernel
theorem dX8_init_0 : decode cX8_init 0 = .ok (.aload_n 0, 1) := by decide +kernel
theorem dX8_init_1 : decode cX8_init 1 = .ok (.invokespecial 3, 3) := by decide +kernel
theorem dX8_init_4 : decode cX8_init 4 = .ok (.return_, 1) := by decide +kernel
theorem dX8_copy_0 : decode cX8_copy 0 = .ok (.aload_n 0, 1) := by decide +kernel
theorem dX8_copy_1 : decode cX8_copy 1 = .ok (.aload_n 1, 1) := by decide +kernel
theorem dX8_copy_2 : decode cX8_copy 2 = .ok (.getfield 9, 3) := by decide +kernel
theorem dX8_copy_5 : decode cX8_copy 5 = .ok (.putfield 9, 3) := by decide +kernel
theorem dX8_copy_8 : decode cX8_copy 8 = .ok (.aload_n 0, 1) := by decide +kernel
theorem dX8_copy_9 : decode cX8_copy 9 = .ok (.aload_n 1, 1) := by decide +kernel
theorem dX8_copy_10 : decode cX8_copy 10 = .ok (.getfield 15, 3) := by decide +kernel
theorem dX8_copy_13 : decode cX8_copy 13 = .ok (.putfield 15, 3) := by decide +kernel
theorem dX8_copy_16 : decode cX8_copy 16 = .ok (.aload_n 0, 1) := by decide +kernel
theorem dX8_copy_17 : decode cX8_copy 17 = .ok (.aload_n 1, 1) := by decide +kernel
theorem dX8_copy_18 : decode cX8_copy 18 = .ok (.getfield 18, 3) := by decide +kernel
theorem dX8_copy_21 : decode cX8_copy 21 = .ok (.putfield 18, 3) := by decide +kernel
theorem dX8_copy_24 : decode cX8_copy 24 = .ok (.aload_n 0, 1) := by decide +kernel
theorem dX8_copy_25 : decode cX8_copy 25 = .ok (.aload_n 1, 1) := by decide +kernel
theorem dX8_copy_26 : decode cX8_copy 26 = .ok (.getfield 21, 3) := by decide +kernel
theorem dX8_copy_29 : decode cX8_copy 29 = .ok (.putfield 21, 3) := by decide +kernel
theorem dX8_copy_32 : decode cX8_copy 32 = .ok (.aload_n 0, 1) := by decide +kernel
theorem dX8_copy_33 : decode cX8_copy 33 = .ok (.aload_n 1, 1) := by decide +kernel
theorem dX8_copy_34 : decode cX8_copy 34 = .ok (.getfield 24, 3) := by decide +kernel
theorem dX8_copy_37 : decode cX8_copy 37 = .ok (.putfield 24, 3) := by decide +kernel
theorem dX8_copy_40 : decode cX8_copy 40 = .ok (.return_, 1) := by decide +kernel
theorem dX8_startAnew_0 : decode cX8_startAnew 0 = .ok (.aload_n 0, 1) := by decide +kernel
theorem dX8_startAnew_1 : decode cX8_startAnew 1 = .ok (.invokevirtual 27, 3) := by decide +kernel
theorem dX8_startAnew_4 : decode cX8_startAnew 4 = .ok (.aload_n 0, 1) := by decide +kernel
theorem dX8_startAnew_5 : decode cX8_startAnew 5 = .ok (.iconst 0, 1) := by decide +kernel
theorem dX8_startAnew_6 : decode cX8_startAnew 6 = .ok (.putfield 21, 3) := by decide +kernel
theorem dX8_startAnew_9 : decode cX8_startAnew 9 = .ok (.aload_n 0, 1) := by decide +kernel
theorem dX8_startAnew_10 : decode cX8_startAnew 10 = .ok (.iconst 0, 1) := by decide +kernel
theorem dX8_startAnew_11 : decode cX8_startAnew 11 = .ok (.putfield 24, 3) := by decide +kernel
theorem dX8_startAnew_14 : decode cX8_startAnew 14 = .ok (.return_, 1) := by decide +kernel
theorem dX8_sitDown_0 : decode cX8_sitDown 0 = .ok (.aload_n 0, 1) := by decide +kernel
theorem dX8_sitDown_1 : decode cX8_sitDown 1 = .ok (.iconst 0, 1) := by decide +kernel
theorem dX8_sitDown_2 : decode cX8_sitDown 2 = .ok (.putfield 9, 3) := by decide +kernel
theorem dX8_sitDown_5 : decode cX8_sitDown 5 = .ok (.aload_n 0, 1) := by decide +kernel
theorem dX8_sitDown_6 : decode cX8_sitDown 6 = .ok (.iconst 0, 1) := by decide +kernel
theorem dX8_sitDown_7 : decode cX8_sitDown 7 = .ok (.putfield 15, 3) := by decide +kernel
theorem dX8_sitDown_10 : decode cX8_sitDown 10 = .ok (.aload_n 0, 1) := by decide +kernel
theorem dX8_sitDown_11 : decode cX8_sitDown 11 = .ok (.iconst 0, 1) := by decide +kernel
theorem dX8_sitDown_12 : decode cX8_sitDown 12 = .ok (.putfield 18, 3) := by decide +kernel
theorem dX8_sitDown_15 : decode cX8_sitDown 15 = .ok (.return_, 1) := by decide +kernel
theorem dX8_draw_0 : decode cX8_draw 0 = .ok (.aload_n 0, 1) := by decide +kernel
theorem dX8_draw_1 : decode cX8_draw 1 = .ok (.iconst 1, 1) := by decide +kernel
theorem dX8_draw_2 : decode cX8_draw 2 = .ok (.putfield 9, 3) := by decide +kernel
theorem dX8_draw_5 : decode cX8_draw 5 = .ok (.aload_n 0, 1) := by decide +kernel
theorem dX8_draw_6 : decode cX8_draw 6 = .ok (.aload_n 1, 1) := by decide +kernel
theorem dX8_draw_7 : decode cX8_draw 7 = .ok (.aload_n 0, 1) := by decide +kernel
theorem dX8_draw_8 : decode cX8_draw 8 = .ok (.getfield 21, 3) := by decide +kernel
theorem dX8_draw_11 : decode cX8_draw 11 = .ok (.invokevirtual 30, 3) := by decide +kernel
theorem dX8_draw_14 : decode cX8_draw 14 = .ok (.putfield 15, 3) := by decide +kernel
theorem dX8_draw_17 : decode cX8_draw 17 = .ok (.aload_n 0, 1) := by decide +kernel
theorem dX8_draw_18 : decode cX8_draw 18 = .ok (.aload_n 1, 1) := by decide +kernel
theorem dX8_draw_19 : decode cX8_draw 19 = .ok (.getfield 36, 3) := by decide +kernel
theorem dX8_draw_22 : decode cX8_draw 22 = .ok (.putfield 18, 3) := by decide +kernel
theorem dX8_draw_25 : decode cX8_draw 25 = .ok (.return_, 1) := by decide +kernel
theorem dX8_passMinute_0 : decode cX8_passMinute 0 = .ok (.iload_n 2, 1) := by decide +kernel
theorem dX8_passMinute_1 : decode cX8_passMinute 1 = .ok (.ifCond .eq 7, 3) := by decide +kernel
theorem dX8_passMinute_4 : decode cX8_passMinute 4 = .ok (.iconst 0, 1) := by decide +kernel
theorem dX8_passMinute_5 : decode cX8_passMinute 5 = .ok (.goto 7, 3) := by decide +kernel
theorem dX8_passMinute_8 : decode cX8_passMinute 8 = .ok (.aload_n 1, 1) := by decide +kernel
theorem dX8_passMinute_9 : decode cX8_passMinute 9 = .ok (.invokevirtual 39, 3) := by decide +kernel
theorem dX8_passMinute_12 : decode cX8_passMinute 12 = .ok (.istore_n 3, 1) := by decide +kernel
theorem dX8_passMinute_13 : decode cX8_passMinute 13 = .ok (.aload_n 0, 1) := by decide +kernel
theorem dX8_passMinute_14 : decode cX8_passMinute 14 = .ok (.getfield 24, 3) := by decide +kernel
theorem dX8_passMinute_17 : decode cX8_passMinute 17 = .ok (.ifCond .le 17, 3) := by decide +kernel
theorem dX8_passMinute_20 : decode cX8_passMinute 20 = .ok (.iload_n 3, 1) := by decide +kernel
theorem dX8_passMinute_21 : decode cX8_passMinute 21 = .ok (.iconst 2, 1) := by decide +kernel
theorem dX8_passMinute_22 : decode cX8_passMinute 22 = .ok (.idiv, 1) := by decide +kernel
theorem dX8_passMinute_23 : decode cX8_passMinute 23 = .ok (.istore_n 3, 1) := by decide +kernel
theorem dX8_passMinute_24 : decode cX8_passMinute 24 = .ok (.aload_n 0, 1) := by decide +kernel
theorem dX8_passMinute_25 : decode cX8_passMinute 25 = .ok (.dup, 1) := by decide +kernel
theorem dX8_passMinute_26 : decode cX8_passMinute 26 = .ok (.getfield 24, 3) := by decide +kernel
theorem dX8_passMinute_29 : decode cX8_passMinute 29 = .ok (.iconst 1, 1) := by decide +kernel
theorem dX8_passMinute_30 : decode cX8_passMinute 30 = .ok (.isub, 1) := by decide +kernel
theorem dX8_passMinute_31 : decode cX8_passMinute 31 = .ok (.putfield 24, 3) := by decide +kernel
theorem dX8_passMinute_34 : decode cX8_passMinute 34 = .ok (.aload_n 0, 1) := by decide +kernel
theorem dX8_passMinute_35 : decode cX8_passMinute 35 = .ok (.getfield 9, 3) := by decide +kernel
theorem dX8_passMinute_38 : decode cX8_passMinute 38 = .ok (.ifCond .ne 5, 3) := by decide +kernel
theorem dX8_passMinute_41 : decode cX8_passMinute 41 = .ok (.iconst 0, 1) := by decide +kernel
theorem dX8_passMinute_42 : decode cX8_passMinute 42 = .ok (.ireturn, 1) := by decide +kernel
theorem dX8_passMinute_43 : decode cX8_passMinute 43 = .ok (.aload_n 0, 1) := by decide +kernel
theorem dX8_passMinute_44 : decode cX8_passMinute 44 = .ok (.iconst 0, 1) := by decide +kernel
theorem dX8_passMinute_45 : decode cX8_passMinute 45 = .ok (.aload_n 0, 1) := by decide +kernel
theorem dX8_passMinute_46 : decode cX8_passMinute 46 = .ok (.getfield 18, 3) := by decide +kernel
theorem dX8_passMinute_49 : decode cX8_passMinute 49 = .ok (.iload_n 3, 1) := by decide +kernel
theorem dX8_passMinute_50 : decode cX8_passMinute 50 = .ok (.isub, 1) := by decide +kernel
theorem dX8_passMinute_51 : decode cX8_passMinute 51 = .ok (.invokestatic 43, 3) := by decide +kernel
theorem dX8_passMinute_54 : decode cX8_passMinute 54 = .ok (.putfield 18, 3) := by decide +kernel
theorem dX8_passMinute_57 : decode cX8_passMinute 57 = .ok (.aload_n 0, 1) := by decide +kernel
theorem dX8_passMinute_58 : decode cX8_passMinute 58 = .ok (.dup, 1) := by decide +kernel
theorem dX8_passMinute_59 : decode cX8_passMinute 59 = .ok (.getfield 15, 3) := by decide +kernel
theorem dX8_passMinute_62 : decode cX8_passMinute 62 = .ok (.iconst 1, 1) := by decide +kernel
theorem dX8_passMinute_63 : decode cX8_passMinute 63 = .ok (.isub, 1) := by decide +kernel
theorem dX8_passMinute_64 : decode cX8_passMinute 64 = .ok (.putfield 15, 3) := by decide +kernel
theorem dX8_passMinute_67 : decode cX8_passMinute 67 = .ok (.aload_n 0, 1) := by decide +kernel
theorem dX8_passMinute_68 : decode cX8_passMinute 68 = .ok (.getfield 15, 3) := by decide +kernel
theorem dX8_passMinute_71 : decode cX8_passMinute 71 = .ok (.ifCond .le 5, 3) := by decide +kernel
theorem dX8_passMinute_74 : decode cX8_passMinute 74 = .ok (.iconst 0, 1) := by decide +kernel
theorem dX8_passMinute_75 : decode cX8_passMinute 75 = .ok (.ireturn, 1) := by decide +kernel
theorem dX8_passMinute_76 : decode cX8_passMinute 76 = .ok (.aload_n 0, 1) := by decide +kernel
theorem dX8_passMinute_77 : decode cX8_passMinute 77 = .ok (.getfield 9, 3) := by decide +kernel
theorem dX8_passMinute_80 : decode cX8_passMinute 80 = .ok (.iconst 1, 1) := by decide +kernel
theorem dX8_passMinute_81 : decode cX8_passMinute 81 = .ok (.if_icmp .ne 9, 3) := by decide +kernel
theorem dX8_passMinute_84 : decode cX8_passMinute 84 = .ok (.aload_n 0, 1) := by decide +kernel
theorem dX8_passMinute_85 : decode cX8_passMinute 85 = .ok (.aload_n 1, 1) := by decide +kernel
theorem dX8_passMinute_86 : decode cX8_passMinute 86 = .ok (.invokevirtual 49, 3) := by decide +kernel
theorem dX8_passMinute_89 : decode cX8_passMinute 89 = .ok (.ireturn, 1) := by decide +kernel
theorem dX8_passMinute_90 : decode cX8_passMinute 90 = .ok (.aload_n 0, 1) := by decide +kernel
theorem dX8_passMinute_91 : decode cX8_passMinute 91 = .ok (.dup, 1) := by decide +kernel
theorem dX8_passMinute_92 : decode cX8_passMinute 92 = .ok (.getfield 21, 3) := by decide +kernel
theorem dX8_passMinute_95 : decode cX8_passMinute 95 = .ok (.iconst 1, 1) := by decide +kernel
theorem dX8_passMinute_96 : decode cX8_passMinute 96 = .ok (.iadd, 1) := by decide +kernel
theorem dX8_passMinute_97 : decode cX8_passMinute 97 = .ok (.putfield 21, 3) := by decide +kernel
theorem dX8_passMinute_100 : decode cX8_passMinute 100 = .ok (.aload_n 0, 1) := by decide +kernel
theorem dX8_passMinute_101 : decode cX8_passMinute 101 = .ok (.aload_n 1, 1) := by decide +kernel
theorem dX8_passMinute_102 : decode cX8_passMinute 102 = .ok (.invokevirtual 53, 3) := by decide +kernel
theorem dX8_passMinute_105 : decode cX8_passMinute 105 = .ok (.iconst 0, 1) := by decide +kernel
theorem dX8_passMinute_106 : decode cX8_passMinute 106 = .ok (.ireturn, 1) := by decide +kernel
theorem dX8_pour_0 : decode cX8_pour 0 = .ok (.aload_n 0, 1) := by decide +kernel
theorem dX8_pour_1 : decode cX8_pour 1 = .ok (.getfield 18, 3) := by decide +kernel
theorem dX8_pour_4 : decode cX8_pour 4 = .ok (.istore_n 2, 1) := by decide +kernel
theorem dX8_pour_5 : decode cX8_pour 5 = .ok (.aload_n 0, 1) := by decide +kernel
theorem dX8_pour_6 : decode cX8_pour 6 = .ok (.iconst 2, 1) := by decide +kernel
theorem dX8_pour_7 : decode cX8_pour 7 = .ok (.putfield 9, 3) := by decide +kernel
theorem dX8_pour_10 : decode cX8_pour 10 = .ok (.aload_n 0, 1) := by decide +kernel
theorem dX8_pour_11 : decode cX8_pour 11 = .ok (.aload_n 1, 1) := by decide +kernel
theorem dX8_pour_12 : decode cX8_pour 12 = .ok (.aload_n 0, 1) := by decide +kernel
theorem dX8_pour_13 : decode cX8_pour 13 = .ok (.getfield 21, 3) := by decide +kernel
theorem dX8_pour_16 : decode cX8_pour 16 = .ok (.invokevirtual 57, 3) := by decide +kernel
theorem dX8_pour_19 : decode cX8_pour 19 = .ok (.putfield 15, 3) := by decide +kernel
theorem dX8_pour_22 : decode cX8_pour 22 = .ok (.aload_n 0, 1) := by decide +kernel
theorem dX8_pour_23 : decode cX8_pour 23 = .ok (.iconst 0, 1) := by decide +kernel
theorem dX8_pour_24 : decode cX8_pour 24 = .ok (.putfield 18, 3) := by decide +kernel
theorem dX8_pour_27 : decode cX8_pour 27 = .ok (.iload_n 2, 1) := by decide +kernel
theorem dX8_pour_28 : decode cX8_pour 28 = .ok (.ireturn, 1) := by decide +kernel
theorem dX9_values_0 : decode cX9_values 0 = .ok (.getstatic 42, 3) := by decide +kernel
theorem dX9_values_3 : decode cX9_values 3 = .ok (.invokevirtual 46, 3) := by decide +kernel
theorem dX9_values_6 : decode cX9_values 6 = .ok (.checkcast 47, 3) := by decide +kernel
theorem dX9_values_9 : decode cX9_values 9 = .ok (.areturn, 1) := by decide +kernel
theorem dX9_numbers_0 : decode cX9_numbers 0 = .ok (.aload_n 0, 1) := by decide +kernel
theorem dX9_numbers_1 : decode cX9_numbers 1 = .ok (.getfield 65, 3) := by decide +kernel
theorem dX9_numbers_4 : decode cX9_numbers 4 = .ok (.tableswitch 48 0 6 #[44, 46, 48, 48, 48, 46, 44], 44) := by decide +kernel
theorem dX9_numbers_48 : decode cX9_numbers 48 = .ok (.iconst 0, 1) := by decide +kernel
theorem dX9_numbers_49 : decode cX9_numbers 49 = .ok (.ireturn, 1) := by decide +kernel
theorem dX9_numbers_50 : decode cX9_numbers 50 = .ok (.iconst 2, 1) := by decide +kernel
theorem dX9_numbers_51 : decode cX9_numbers 51 = .ok (.ireturn, 1) := by decide +kernel
theorem dX9_numbers_52 : decode cX9_numbers 52 = .ok (.iconst 1, 1) := by decide +kernel
theorem dX9_numbers_53 : decode cX9_numbers 53 = .ok (.ireturn, 1) := by decide +kernel
theorem dX9_leastNumber_0 : decode cX9_leastNumber 0 = .ok (.aload_n 0, 1) := by decide +kernel
theorem dX9_leastNumber_1 : decode cX9_leastNumber 1 = .ok (.getfield 65, 3) := by decide +kernel
theorem dX9_leastNumber_4 : decode cX9_leastNumber 4 = .ok (.tableswitch 48 1 5 #[36, 48, 36, 48, 38], 36) := by decide +kernel
theorem dX9_leastNumber_40 : decode cX9_leastNumber 40 = .ok (.iconst 1, 1) := by decide +kernel
theorem dX9_leastNumber_41 : decode cX9_leastNumber 41 = .ok (.ireturn, 1) := by decide +kernel
theorem dX9_leastNumber_42 : decode cX9_leastNumber 42 = .ok (.iload_n 1, 1) := by decide +kernel
theorem dX9_leastNumber_43 : decode cX9_leastNumber 43 = .ok (.ifCond .ne 7, 3) := by decide +kernel
theorem dX9_leastNumber_46 : decode cX9_leastNumber 46 = .ok (.iconst 0, 1) := by decide +kernel
theorem dX9_leastNumber_47 : decode cX9_leastNumber 47 = .ok (.goto 4, 3) := by decide +kernel
theorem dX9_leastNumber_50 : decode cX9_leastNumber 50 = .ok (.iload_n 2, 1) := by decide +kernel
theorem dX9_leastNumber_51 : decode cX9_leastNumber 51 = .ok (.ireturn, 1) := by decide +kernel
theorem dX9_leastNumber_52 : decode cX9_leastNumber 52 = .ok (.iconst 0, 1) := by decide +kernel
theorem dX9_leastNumber_53 : decode cX9_leastNumber 53 = .ok (.ireturn, 1) := by decide +kernel
theorem dX9_mostNumber_0 : decode cX9_mostNumber 0 = .ok (.aload_n 0, 1) := by decide +kernel
theorem dX9_mostNumber_1 : decode cX9_mostNumber 1 = .ok (.getfield 65, 3) := by decide +kernel
theorem dX9_mostNumber_4 : decode cX9_mostNumber 4 = .ok (.tableswitch 51 1 5 #[36, 51, 48, 51, 48], 36) := by decide +kernel
theorem dX9_mostNumber_40 : decode cX9_mostNumber 40 = .ok (.iload_n 1, 1) := by decide +kernel
theorem dX9_mostNumber_41 : decode cX9_mostNumber 41 = .ok (.ifCond .ne 8, 3) := by decide +kernel
theorem dX9_mostNumber_44 : decode cX9_mostNumber 44 = .ok (.bipush 6, 2) := by decide +kernel
theorem dX9_mostNumber_46 : decode cX9_mostNumber 46 = .ok (.goto 5, 3) := by decide +kernel
theorem dX9_mostNumber_49 : decode cX9_mostNumber 49 = .ok (.bipush 40, 2) := by decide +kernel
theorem dX9_mostNumber_51 : decode cX9_mostNumber 51 = .ok (.ireturn, 1) := by decide +kernel
